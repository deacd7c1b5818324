/-! exact: the class plays a turn -/
section
set_option maxRecDepth 100000
theorem xi67 : pmInf[67]? = some pmI_67 := rfl
theorem xi89 : pmInf[89]? = some pmI_89 := rfl
theorem xi90 : pmInf[90]? = some pmI_90 := rfl
theorem xi97 : pmInf[97]? = some pmI_97 := rfl
theorem xc67_0 : pmCode 67 0 = some (.iconst 0) ∧ 0 + 1 = 1 := ⟨rfl, rfl⟩
theorem xc67_1 : pmCode 67 1 = some (.istore_n 1) ∧ 1 + 1 = 2 := ⟨rfl, rfl⟩
theorem xc67_2 : pmCode 67 2 = some (.iload_n 1) ∧ 2 + 1 = 3 := ⟨rfl, rfl⟩
theorem xc67_3 : pmCode 67 3 = some (.iconst 2) ∧ 3 + 1 = 4 := ⟨rfl, rfl⟩
theorem xc67_4 : pmCode 67 4 = some (.if_icmp .gt 16) ∧ ((4 : Nat) : Int) + 16 = ((20 : Nat) : Int) ∧ 4 + 3 = 7 := ⟨rfl, rfl, rfl⟩
theorem xc67_7 : pmCode 67 7 = some (.aload_n 0) ∧ 7 + 1 = 8 := ⟨rfl, rfl⟩
theorem xc67_8 : pmCode 67 8 = some (.getfield 24) ∧ 8 + 3 = 11 := ⟨rfl, rfl⟩
theorem xc67_11 : pmCode 67 11 = some (.iload_n 1) ∧ 11 + 1 = 12 := ⟨rfl, rfl⟩
theorem xc67_12 : pmCode 67 12 = some (.iconst 0) ∧ 12 + 1 = 13 := ⟨rfl, rfl⟩
theorem xc67_13 : pmCode 67 13 = some .iastore ∧ 13 + 1 = 14 := ⟨rfl, rfl⟩
theorem xc67_14 : pmCode 67 14 = some (.iinc 1 1) ∧ 14 + 3 = 17 := ⟨rfl, rfl⟩
theorem xc67_17 : pmCode 67 17 = some (.goto (-15)) ∧ ((17 : Nat) : Int) + (-15) = ((2 : Nat) : Int) := ⟨rfl, rfl⟩
theorem xc67_20 : pmCode 67 20 = some .return_ := rfl
theorem xc89_0 : pmCode 89 0 = some (.aload_n 0) ∧ 0 + 1 = 1 := ⟨rfl, rfl⟩
theorem xc89_1 : pmCode 89 1 = some (.aload_n 1) ∧ 1 + 1 = 2 := ⟨rfl, rfl⟩
theorem xc89_2 : pmCode 89 2 = some (.iload_n 2) ∧ 2 + 1 = 3 := ⟨rfl, rfl⟩
theorem xc89_3 : pmCode 89 3 = some (.invokevirtual 27) ∧ 3 + 3 = 6 := ⟨rfl, rfl⟩
theorem xc89_6 : pmCode 89 6 = some (.aload_n 0) ∧ 6 + 1 = 7 := ⟨rfl, rfl⟩
theorem xc89_7 : pmCode 89 7 = some (.aload_n 1) ∧ 7 + 1 = 8 := ⟨rfl, rfl⟩
theorem xc89_8 : pmCode 89 8 = some (.iload_n 3) ∧ 8 + 1 = 9 := ⟨rfl, rfl⟩
theorem xc89_9 : pmCode 89 9 = some (.invokevirtual 31) ∧ 9 + 3 = 12 := ⟨rfl, rfl⟩
theorem xc89_12 : pmCode 89 12 = some .return_ := rfl
theorem xc90_0 : pmCode 90 0 = some (.aload_n 1) ∧ 0 + 1 = 1 := ⟨rfl, rfl⟩
theorem xc90_1 : pmCode 90 1 = some (.invokevirtual 34) ∧ 1 + 3 = 4 := ⟨rfl, rfl⟩
theorem xc90_4 : pmCode 90 4 = some (.aload_n 1) ∧ 4 + 1 = 5 := ⟨rfl, rfl⟩
theorem xc90_5 : pmCode 90 5 = some (.iconst 0) ∧ 5 + 1 = 6 := ⟨rfl, rfl⟩
theorem xc90_6 : pmCode 90 6 = some (.putfield 39) ∧ 6 + 3 = 9 := ⟨rfl, rfl⟩
theorem xc90_9 : pmCode 90 9 = some (.aload_n 1) ∧ 9 + 1 = 10 := ⟨rfl, rfl⟩
theorem xc90_10 : pmCode 90 10 = some .dup ∧ 10 + 1 = 11 := ⟨rfl, rfl⟩
theorem xc90_11 : pmCode 90 11 = some (.getfield 43) ∧ 11 + 3 = 14 := ⟨rfl, rfl⟩
theorem xc90_14 : pmCode 90 14 = some (.iconst 1) ∧ 14 + 1 = 15 := ⟨rfl, rfl⟩
theorem xc90_15 : pmCode 90 15 = some .iadd ∧ 15 + 1 = 16 := ⟨rfl, rfl⟩
theorem xc90_16 : pmCode 90 16 = some (.putfield 43) ∧ 16 + 3 = 19 := ⟨rfl, rfl⟩
theorem xc90_19 : pmCode 90 19 = some (.aload_n 0) ∧ 19 + 1 = 20 := ⟨rfl, rfl⟩
theorem xc90_20 : pmCode 90 20 = some (.getfield 9) ∧ 20 + 3 = 23 := ⟨rfl, rfl⟩
theorem xc90_23 : pmCode 90 23 = some (.iconst 0) ∧ 23 + 1 = 24 := ⟨rfl, rfl⟩
theorem xc90_24 : pmCode 90 24 = some (.aload_n 1) ∧ 24 + 1 = 25 := ⟨rfl, rfl⟩
theorem xc90_25 : pmCode 90 25 = some (.getfield 47) ∧ 25 + 3 = 28 := ⟨rfl, rfl⟩
theorem xc90_28 : pmCode 90 28 = some (.iconst 0) ∧ 28 + 1 = 29 := ⟨rfl, rfl⟩
theorem xc90_29 : pmCode 90 29 = some (.invokestatic 51) ∧ 29 + 3 = 32 := ⟨rfl, rfl⟩
theorem xc90_32 : pmCode 90 32 = some (.bipush 8) ∧ 32 + 2 = 34 := ⟨rfl, rfl⟩
theorem xc90_34 : pmCode 90 34 = some (.if_icmp .ne 7) ∧ ((34 : Nat) : Int) + 7 = ((41 : Nat) : Int) ∧ 34 + 3 = 37 := ⟨rfl, rfl, rfl⟩
theorem xc90_37 : pmCode 90 37 = some (.iconst (-1)) ∧ 37 + 1 = 38 := ⟨rfl, rfl⟩
theorem xc90_38 : pmCode 90 38 = some (.goto 10) ∧ ((38 : Nat) : Int) + 10 = ((48 : Nat) : Int) := ⟨rfl, rfl⟩
theorem xc90_41 : pmCode 90 41 = some (.aload_n 0) ∧ 41 + 1 = 42 := ⟨rfl, rfl⟩
theorem xc90_42 : pmCode 90 42 = some (.aload_n 1) ∧ 42 + 1 = 43 := ⟨rfl, rfl⟩
theorem xc90_43 : pmCode 90 43 = some (.iconst 0) ∧ 43 + 1 = 44 := ⟨rfl, rfl⟩
theorem xc90_44 : pmCode 90 44 = some (.iload_n 2) ∧ 44 + 1 = 45 := ⟨rfl, rfl⟩
theorem xc90_45 : pmCode 90 45 = some (.invokevirtual 55) ∧ 45 + 3 = 48 := ⟨rfl, rfl⟩
theorem xc90_48 : pmCode 90 48 = some .iastore ∧ 48 + 1 = 49 := ⟨rfl, rfl⟩
theorem xc90_49 : pmCode 90 49 = some .return_ := rfl
theorem xc97_0 : pmCode 97 0 = some (.iconst 1) ∧ 0 + 1 = 1 := ⟨rfl, rfl⟩
theorem xc97_1 : pmCode 97 1 = some (.istore_n 3) ∧ 1 + 1 = 2 := ⟨rfl, rfl⟩
theorem xc97_2 : pmCode 97 2 = some (.iload_n 3) ∧ 2 + 1 = 3 := ⟨rfl, rfl⟩
theorem xc97_3 : pmCode 97 3 = some (.iconst 4) ∧ 3 + 1 = 4 := ⟨rfl, rfl⟩
theorem xc97_4 : pmCode 97 4 = some (.if_icmp .ge 78) ∧ ((4 : Nat) : Int) + 78 = ((82 : Nat) : Int) ∧ 4 + 3 = 7 := ⟨rfl, rfl, rfl⟩
theorem xc97_7 : pmCode 97 7 = some (.aload_n 1) ∧ 7 + 1 = 8 := ⟨rfl, rfl⟩
theorem xc97_8 : pmCode 97 8 = some (.getfield 47) ∧ 8 + 3 = 11 := ⟨rfl, rfl⟩
theorem xc97_11 : pmCode 97 11 = some (.iload_n 3) ∧ 11 + 1 = 12 := ⟨rfl, rfl⟩
theorem xc97_12 : pmCode 97 12 = some (.invokestatic 51) ∧ 12 + 3 = 15 := ⟨rfl, rfl⟩
theorem xc97_15 : pmCode 97 15 = some (.bipush 8) ∧ 15 + 2 = 17 := ⟨rfl, rfl⟩
theorem xc97_17 : pmCode 97 17 = some (.if_icmp .ne 13) ∧ ((17 : Nat) : Int) + 13 = ((30 : Nat) : Int) ∧ 17 + 3 = 20 := ⟨rfl, rfl, rfl⟩
theorem xc97_20 : pmCode 97 20 = some (.aload_n 0) ∧ 20 + 1 = 21 := ⟨rfl, rfl⟩
theorem xc97_21 : pmCode 97 21 = some (.getfield 9) ∧ 21 + 3 = 24 := ⟨rfl, rfl⟩
theorem xc97_24 : pmCode 97 24 = some (.iload_n 3) ∧ 24 + 1 = 25 := ⟨rfl, rfl⟩
theorem xc97_25 : pmCode 97 25 = some (.iconst (-1)) ∧ 25 + 1 = 26 := ⟨rfl, rfl⟩
theorem xc97_26 : pmCode 97 26 = some .iastore ∧ 26 + 1 = 27 := ⟨rfl, rfl⟩
theorem xc97_27 : pmCode 97 27 = some (.goto 49) ∧ ((27 : Nat) : Int) + 49 = ((76 : Nat) : Int) := ⟨rfl, rfl⟩
theorem xc97_30 : pmCode 97 30 = some (.iload_n 3) ∧ 30 + 1 = 31 := ⟨rfl, rfl⟩
theorem xc97_31 : pmCode 97 31 = some (.iload_n 2) ∧ 31 + 1 = 32 := ⟨rfl, rfl⟩
theorem xc97_32 : pmCode 97 32 = some (.if_icmp .ne 7) ∧ ((32 : Nat) : Int) + 7 = ((39 : Nat) : Int) ∧ 32 + 3 = 35 := ⟨rfl, rfl, rfl⟩
theorem xc97_35 : pmCode 97 35 = some (.iconst 0) ∧ 35 + 1 = 36 := ⟨rfl, rfl⟩
theorem xc97_36 : pmCode 97 36 = some (.goto 17) ∧ ((36 : Nat) : Int) + 17 = ((53 : Nat) : Int) := ⟨rfl, rfl⟩
theorem xc97_39 : pmCode 97 39 = some (.aload_n 0) ∧ 39 + 1 = 40 := ⟨rfl, rfl⟩
theorem xc97_40 : pmCode 97 40 = some (.getfield 23) ∧ 40 + 3 = 43 := ⟨rfl, rfl⟩
theorem xc97_43 : pmCode 97 43 = some (.aload_n 1) ∧ 43 + 1 = 44 := ⟨rfl, rfl⟩
theorem xc97_44 : pmCode 97 44 = some (.getfield 59) ∧ 44 + 3 = 47 := ⟨rfl, rfl⟩
theorem xc97_47 : pmCode 97 47 = some (.iload_n 3) ∧ 47 + 1 = 48 := ⟨rfl, rfl⟩
theorem xc97_48 : pmCode 97 48 = some .laload ∧ 48 + 1 = 49 := ⟨rfl, rfl⟩
theorem xc97_49 : pmCode 97 49 = some (.iload_n 3) ∧ 49 + 1 = 50 := ⟨rfl, rfl⟩
theorem xc97_50 : pmCode 97 50 = some (.invokevirtual 63) ∧ 50 + 3 = 53 := ⟨rfl, rfl⟩
theorem xc97_53 : pmCode 97 53 = some (.istore 4) ∧ 53 + 2 = 55 := ⟨rfl, rfl⟩
theorem xc97_55 : pmCode 97 55 = some (.aload_n 0) ∧ 55 + 1 = 56 := ⟨rfl, rfl⟩
theorem xc97_56 : pmCode 97 56 = some (.getfield 9) ∧ 56 + 3 = 59 := ⟨rfl, rfl⟩
theorem xc97_59 : pmCode 97 59 = some (.iload_n 3) ∧ 59 + 1 = 60 := ⟨rfl, rfl⟩
theorem xc97_60 : pmCode 97 60 = some (.aload_n 0) ∧ 60 + 1 = 61 := ⟨rfl, rfl⟩
theorem xc97_61 : pmCode 97 61 = some (.aload_n 1) ∧ 61 + 1 = 62 := ⟨rfl, rfl⟩
theorem xc97_62 : pmCode 97 62 = some (.iload_n 3) ∧ 62 + 1 = 63 := ⟨rfl, rfl⟩
theorem xc97_63 : pmCode 97 63 = some (.iload 4) ∧ 63 + 2 = 65 := ⟨rfl, rfl⟩
theorem xc97_65 : pmCode 97 65 = some (.sipush 511) ∧ 65 + 3 = 68 := ⟨rfl, rfl⟩
theorem xc97_68 : pmCode 97 68 = some .iand ∧ 68 + 1 = 69 := ⟨rfl, rfl⟩
theorem xc97_69 : pmCode 97 69 = some (.invokevirtual 55) ∧ 69 + 3 = 72 := ⟨rfl, rfl⟩
theorem xc97_72 : pmCode 97 72 = some (.iload 4) ∧ 72 + 2 = 74 := ⟨rfl, rfl⟩
theorem xc97_74 : pmCode 97 74 = some .ior ∧ 74 + 1 = 75 := ⟨rfl, rfl⟩
theorem xc97_75 : pmCode 97 75 = some .iastore ∧ 75 + 1 = 76 := ⟨rfl, rfl⟩
theorem xc97_76 : pmCode 97 76 = some (.iinc 3 1) ∧ 76 + 3 = 79 := ⟨rfl, rfl⟩
theorem xc97_79 : pmCode 97 79 = some (.goto (-77)) ∧ ((79 : Nat) : Int) + (-77) = ((2 : Nat) : Int) := ⟨rfl, rfl⟩
theorem xc97_82 : pmCode 97 82 = some (.aload_n 0) ∧ 82 + 1 = 83 := ⟨rfl, rfl⟩
theorem xc97_83 : pmCode 97 83 = some (.getfield 19) ∧ 83 + 3 = 86 := ⟨rfl, rfl⟩
theorem xc97_86 : pmCode 97 86 = some (.aload_n 1) ∧ 86 + 1 = 87 := ⟨rfl, rfl⟩
theorem xc97_87 : pmCode 97 87 = some (.invokevirtual 68) ∧ 87 + 3 = 90 := ⟨rfl, rfl⟩
theorem xc97_90 : pmCode 97 90 = some .return_ := rfl
theorem w67 {ro : Nat → Nat × (Nat → Int32)} {d : Nat} {Q : Option Value → pmS → Prop} {w : Nat} {a : xA} {b : xB} (hz : uWz w)
    (k1 : Q none (xS (xU (xU (xU a (w + 4) 0 0) (w + 4) (0 + 1) 0) (w + 4) (0 + 1 + 1) 0) b)) :
    pmWp ro d 10 67 0 0 [some (.ref w), none] [] (xS a b) Q := by
  refine x_iconst xc67_0 ?_
  refine x_istoren (pl' := [some (.ref w), some (xV 0)]) xc67_1 rfl rfl ?_
  refine x_iloadn xc67_2 rfl ?_
  refine x_iconst xc67_3 ?_
  refine x_icgt xc67_4 (xRk (by decide)) (xRk (by decide)) (fun h => absurd h (by omega)) (fun _ => ?_)
  refine x_aloadn xc67_7 rfl ?_
  refine x_gfr xc67_8 rfl rfl hz.1 rfl ?_
  refine x_iloadn xc67_11 rfl ?_
  refine x_iconst xc67_12 ?_
  refine x_ias xc67_13 hz.2.2.2.2 (by omega) (by omega) (by omega) ?_
  refine x_iinc (pl' := [some (.ref w), some (xV (0 + 1))]) xc67_14 rfl rfl ?_
  refine x_goto xc67_17 ?_
  refine x_iloadn xc67_2 rfl ?_
  refine x_iconst xc67_3 ?_
  refine x_icgt xc67_4 (xRk (by decide)) (xRk (by decide)) (fun h => absurd h (by omega)) (fun _ => ?_)
  refine x_aloadn xc67_7 rfl ?_
  refine x_gfr xc67_8 rfl rfl hz.1 rfl ?_
  refine x_iloadn xc67_11 rfl ?_
  refine x_iconst xc67_12 ?_
  refine x_ias xc67_13 hz.2.2.2.2 (by omega) (by omega) (by omega) ?_
  refine x_iinc (pl' := [some (.ref w), some (xV (0 + 1 + 1))]) xc67_14 rfl rfl ?_
  refine x_goto xc67_17 ?_
  refine x_iloadn xc67_2 rfl ?_
  refine x_iconst xc67_3 ?_
  refine x_icgt xc67_4 (xRk (by decide)) (xRk (by decide)) (fun h => absurd h (by omega)) (fun _ => ?_)
  refine x_aloadn xc67_7 rfl ?_
  refine x_gfr xc67_8 rfl rfl hz.1 rfl ?_
  refine x_iloadn xc67_11 rfl ?_
  refine x_iconst xc67_12 ?_
  refine x_ias xc67_13 hz.2.2.2.2 (by omega) (by omega) (by omega) ?_
  refine x_iinc (pl' := [some (.ref w), some (xV (0 + 1 + 1 + 1))]) xc67_14 rfl rfl ?_
  refine x_goto xc67_17 ?_
  refine x_iloadn xc67_2 rfl ?_
  refine x_iconst xc67_3 ?_
  refine x_icgt xc67_4 (xRk (by decide)) (xRk (by decide)) (fun _ => ?_) (fun h => absurd h (by omega))
  refine x_ret xc67_20 rfl ?_
  exact k1

theorem xg67 {ro : Nat → Nat × (Nat → Int32)} {d : Nat} {Q : Option Value → pmS → Prop} {a : xA} {b : xB} {w : Nat} (h : pmWp ro d 10 67 0 0 [some (.ref w), none] [] (xS a b) Q) : pmCs ro (d + 1) 67 [.ref w] (xS a b) Q := x_go xi67 rfl rfl rfl rfl rfl h
/-- forget -/
def uFg (w : Nat) (a : xA) : xA := xU (xU (xU a (w + 4) 0 0) (w + 4) 1 0) (w + 4) 2 0
theorem rk67 {ro : Nat → Nat × (Nat → Int32)} {d w : Nat} {Q : Option Value → pmS → Prop} {a : xA} {b : xB} (hz : uWz w) (hd : 1 ≤ d) (hQ : Q none (xS (uFg w a) b)) : pmCs ro d 67 [.ref w] (xS a b) Q := pmCs_deep (d := 1) (xg67 (w67 hz hQ)) hd
theorem w90 {ro : Nat → Nat × (Nat → Int32)} {d : Nat} {Q : Option Value → pmS → Prop} {k : Int} {w : Nat} {a : xA} {b : xB} (hz : uWz w) (hd : 1 ≤ d)
    (k1 : (¬ uSl (b w 4) 0 = 8) → pmCs ro d 91 [.ref 43, .ref w, xV 0, xV k] (xS (xU (xU (uFg w a) w 12 0) w 6 ((uFg w a) w 6 + 1)) b) fun r σ' => pmWp ro d 4 90 0 48 [some (.ref 43), some (.ref w), some (xV k)] (r.toList ++ [xV 0, .ref 44]) σ' Q)
    (k2 : (uSl (b w 4) 0 = 8) → Q none (xS (xU (xU (xU (uFg w a) w 12 0) w 6 ((uFg w a) w 6 + 1)) 44 0 (-1)) b)) :
    pmWp ro d 4 90 0 0 [some (.ref 43), some (.ref w), some (xV k)] [] (xS a b) Q := by
  refine x_aloadn xc90_0 rfl ?_
  refine x_cV (as := []) (rest := []) xc90_1 rfl xi67 hz.1 ⟨rfl, rfl⟩ rfl rfl ?_
  refine rk67 hz (by omega) ?_
  refine x_aloadn xc90_4 rfl ?_
  refine x_iconst xc90_5 ?_
  refine x_pfz (k := 12) (by omega) xc90_6 rfl ⟨rfl, rfl⟩ rfl hz.1 ?_
  refine x_aloadn xc90_9 rfl ?_
  refine x_dup xc90_10 rfl ?_
  refine x_gfi' (k := 6) (v := (uFg w a) w 6) xc90_11 rfl (Or.inl rfl) rfl hz.1 (by rw [xUk (by decide)]) ?_
  refine x_iconst xc90_14 ?_
  refine x_iadd xc90_15 ?_
  refine x_pfi (k := 6) xc90_16 rfl ⟨rfl, rfl⟩ rfl hz.1 ?_
  refine x_aloadn xc90_19 rfl ?_
  refine x_gfr xc90_20 rfl rfl xz43 rfl ?_
  refine x_iconst xc90_23 ?_
  refine x_aloadn xc90_24 rfl ?_
  refine x_gfl (k := 4) xc90_25 rfl rfl rfl hz.1 ?_
  refine x_iconst xc90_28 ?_
  refine x_cS (as := [.long (b w 4), xV 0]) (rest := [xV 0, .ref 44]) xc90_29 rfl rfl xi61 ⟨rfl, rfl⟩ rfl rfl ?_
  refine rk61 (by omega) (by omega) ?_
  refine x_bipush xc90_32 (by decide) ?_
  refine x_icne xc90_34 (xRk (by have g0 := uSl_b (l := b w 4) (j := 0) (by omega) (by omega); omega)) (xRk (by decide)) (fun h0 => ?_) (fun h0 => ?_)
  · refine x_aloadn xc90_41 rfl ?_
    refine x_aloadn xc90_42 rfl ?_
    refine x_iconst xc90_43 ?_
    refine x_iloadn xc90_44 rfl ?_
    refine x_cV (as := [.ref w, xV 0, xV k]) (rest := [xV 0, .ref 44]) xc90_45 rfl xi91 xz43 ⟨rfl, rfl⟩ rfl rfl ?_
    exact k1 h0
  · replace h0 := Classical.not_not.mp h0
    refine x_iconst xc90_37 ?_
    refine x_goto xc90_38 ?_
    refine x_ias xc90_48 xz44 (by omega) (by omega) (by omega) ?_
    refine x_ret xc90_49 rfl ?_
    exact k2 h0

theorem xg90 {ro : Nat → Nat × (Nat → Int32)} {d : Nat} {Q : Option Value → pmS → Prop} {a : xA} {b : xB} {k : Int} {w : Nat} (h : pmWp ro d 4 90 0 0 [some (.ref 43), some (.ref w), some (xV k)] [] (xS a b) Q) : pmCs ro (d + 1) 90 [.ref 43, .ref w, xV k] (xS a b) Q := x_go xi90 rfl rfl rfl rfl rfl h
theorem w90s {ro : Nat → Nat × (Nat → Int32)} {d : Nat} {Q : Option Value → pmS → Prop} {k z : Int} {w : Nat} {a : xA} {b : xB}
    (k1 : Q none (xS (xU a 44 0 z) b)) :
    pmWp ro d 4 90 0 48 [some (.ref 43), some (.ref w), some (xV k)] [xV z, xV 0, .ref 44] (xS a b) Q := by
  refine x_ias xc90_48 xz44 (by omega) (by omega) (by omega) ?_
  refine x_ret xc90_49 rfl ?_
  exact k1

theorem w97 {ro : Nat → Nat × (Nat → Int32)} {d : Nat} {Q : Option Value → pmS → Prop} {id : Int} {w : Nat} {a : xA} {b : xB}
    (k1 : pmWp ro d 4 97 0 2 [some (.ref 43), some (.ref w), some (xV id), some (xV 1), none] [] (xS a b) Q) :
    pmWp ro d 4 97 0 0 [some (.ref 43), some (.ref w), some (xV id), none, none] [] (xS a b) Q := by
  refine x_iconst xc97_0 ?_
  refine x_istoren (pl' := [some (.ref 43), some (.ref w), some (xV id), some (xV 1), none]) xc97_1 rfl rfl ?_
  exact k1

theorem xg97 {ro : Nat → Nat × (Nat → Int32)} {d : Nat} {Q : Option Value → pmS → Prop} {a : xA} {b : xB} {id : Int} {w : Nat} (h : pmWp ro d 4 97 0 0 [some (.ref 43), some (.ref w), some (xV id), none, none] [] (xS a b) Q) : pmCs ro (d + 1) 97 [.ref 43, .ref w, xV id] (xS a b) Q := x_go xi97 rfl rfl rfl rfl rfl h
theorem w97p {ro : Nat → Nat × (Nat → Int32)} {d : Nat} {Q : Option Value → pmS → Prop} {v4 : Option Value} {id p : Int} {w : Nat} {a : xA} {b : xB} (hz : uWz w) (hid : 0 ≤ id ∧ id ≤ 3) (hp : 1 ≤ p ∧ p ≤ 4) (hd : 1 ≤ d)
    (k1 : (4 ≤ p) → pmCs ro d 98 [.ref 13, .ref w] (xS a b) fun r σ' => pmWp ro d 4 97 0 90 [some (.ref 43), some (.ref w), some (xV id), some (xV p), v4] (r.toList ++ []) σ' Q)
    (k2 : (¬ 4 ≤ p) → (¬ uSl (b w 4) p = 8) → (¬ p = id) → pmCs ro d 85 [.ref 34, .long (b (w + 1) p), xV p] (xS a b) fun r σ' => pmWp ro d 4 97 0 53 [some (.ref 43), some (.ref w), some (xV id), some (xV p), v4] (r.toList ++ []) σ' Q)
    (k3 : (¬ 4 ≤ p) → (¬ uSl (b w 4) p = 8) → (p = id) → pmWp ro d 4 97 0 53 [some (.ref 43), some (.ref w), some (xV id), some (xV p), v4] [xV 0] (xS a b) Q)
    (k4 : (¬ 4 ≤ p) → (uSl (b w 4) p = 8) → pmWp ro d 4 97 0 76 [some (.ref 43), some (.ref w), some (xV id), some (xV p), v4] [] (xS (xU a 44 p (-1)) b) Q) :
    pmWp ro d 4 97 0 2 [some (.ref 43), some (.ref w), some (xV id), some (xV p), v4] [] (xS a b) Q := by
  refine x_iloadn xc97_2 rfl ?_
  refine x_iconst xc97_3 ?_
  refine x_icge xc97_4 (xRk (by have g0 := hp; omega)) (xRk (by decide)) (fun h0 => ?_) (fun h0 => ?_)
  · refine x_aloadn xc97_82 rfl ?_
    refine x_gfr xc97_83 rfl rfl xz43 rfl ?_
    refine x_aloadn xc97_86 rfl ?_
    refine x_cV (as := [.ref w]) (rest := []) xc97_87 rfl xi98 xz13 ⟨rfl, rfl⟩ rfl rfl ?_
    exact k1 h0
  · refine x_aloadn xc97_7 rfl ?_
    refine x_gfl (k := 4) xc97_8 rfl rfl rfl hz.1 ?_
    refine x_iloadn xc97_11 rfl ?_
    refine x_cS (as := [.long (b w 4), xV p]) (rest := []) xc97_12 rfl rfl xi61 ⟨rfl, rfl⟩ rfl rfl ?_
    refine rk61 (by omega) (by have g0 := hp; omega) ?_
    refine x_bipush xc97_15 (by decide) ?_
    refine x_icne xc97_17 (xRk (by have g0 := uSl_b (l := b w 4) (j := p) (by have g0 := hp; omega) (by have g0 := hp; omega); omega)) (xRk (by decide)) (fun h1 => ?_) (fun h1 => ?_)
    · refine x_iloadn xc97_30 rfl ?_
      refine x_iloadn xc97_31 rfl ?_
      refine x_icne xc97_32 (xRk (by have g0 := hp; omega)) (xRk (by have g0 := hid; omega)) (fun h2 => ?_) (fun h2 => ?_)
      · refine x_aloadn xc97_39 rfl ?_
        refine x_gfr xc97_40 rfl rfl xz43 rfl ?_
        refine x_aloadn xc97_43 rfl ?_
        refine x_gfr xc97_44 rfl rfl hz.1 rfl ?_
        refine x_iloadn xc97_47 rfl ?_
        refine x_lal xc97_48 hz.2.1 (by have g0 := hp; omega) (by have g0 := hp; omega) (by have g0 := hp; omega) ?_
        refine x_iloadn xc97_49 rfl ?_
        refine x_cV (as := [.long (b (w + 1) p), xV p]) (rest := []) xc97_50 rfl xi85 xz34 ⟨rfl, rfl⟩ rfl rfl ?_
        exact k2 h0 h1 h2
      · replace h2 := Classical.not_not.mp h2
        refine x_iconst xc97_35 ?_
        refine x_goto xc97_36 ?_
        exact k3 h0 h1 h2
    · replace h1 := Classical.not_not.mp h1
      refine x_aloadn xc97_20 rfl ?_
      refine x_gfr xc97_21 rfl rfl xz43 rfl ?_
      refine x_iloadn xc97_24 rfl ?_
      refine x_iconst xc97_25 ?_
      refine x_ias xc97_26 xz44 (by have g0 := hp; omega) (by have g0 := hp; omega) (by have g0 := hp; omega) ?_
      refine x_goto xc97_27 ?_
      exact k4 h0 h1

theorem w97c {ro : Nat → Nat × (Nat → Int32)} {d : Nat} {Q : Option Value → pmS → Prop} {v4 : Option Value} {z id p : Int} {w : Nat} {a : xA} {b : xB} (hz : uWz w) (hid : 0 ≤ id ∧ id ≤ 3) (hp : 1 ≤ p ∧ p ≤ 3) (hzz : 0 ≤ z ∧ z ≤ 50000) (hd : 1 ≤ d)
    (k1 : pmCs ro d 91 [.ref 43, .ref w, xV p, xV (z % 512)] (xS a b) fun r σ' => pmWp ro d 4 97 0 72 [some (.ref 43), some (.ref w), some (xV id), some (xV p), some (xV z)] (r.toList ++ [xV p, .ref 44]) σ' Q) :
    pmWp ro d 4 97 0 53 [some (.ref 43), some (.ref w), some (xV id), some (xV p), v4] [xV z] (xS a b) Q := by
  refine x_istore (pl' := [some (.ref 43), some (.ref w), some (xV id), some (xV p), some (xV z)]) xc97_53 rfl rfl ?_
  refine x_aloadn xc97_55 rfl ?_
  refine x_gfr xc97_56 rfl rfl xz43 rfl ?_
  refine x_iloadn xc97_59 rfl ?_
  refine x_aloadn xc97_60 rfl ?_
  refine x_aloadn xc97_61 rfl ?_
  refine x_iloadn xc97_62 rfl ?_
  refine x_iload xc97_63 rfl ?_
  refine x_sipush xc97_65 (by decide) ?_
  refine x_iandm (M := 512) 9 (by decide) (by decide) (by decide) xc97_68 ?_
  refine x_cV (as := [.ref w, xV p, xV (z % 512)]) (rest := [xV p, .ref 44]) xc97_69 rfl xi91 xz43 ⟨rfl, rfl⟩ rfl rfl ?_
  exact k1

theorem w97s {ro : Nat → Nat × (Nat → Int32)} {d : Nat} {Q : Option Value → pmS → Prop} {z u id p : Int} {w : Nat} {a : xA} {b : xB} (hz : uWz w) (hid : 0 ≤ id ∧ id ≤ 3) (hp : 1 ≤ p ∧ p ≤ 3) (hd : 1 ≤ d)
    (k1 : pmWp ro d 4 97 0 76 [some (.ref 43), some (.ref w), some (xV id), some (xV p), some (xV z)] [] (xS (xU a 44 p (xOr u z)) b) Q) :
    pmWp ro d 4 97 0 72 [some (.ref 43), some (.ref w), some (xV id), some (xV p), some (xV z)] [xV u, xV p, .ref 44] (xS a b) Q := by
  refine x_iload xc97_72 rfl ?_
  refine x_ior xc97_74 ?_
  refine x_ias xc97_75 xz44 (by have g0 := hp; omega) (by have g0 := hp; omega) (by have g0 := hp; omega) ?_
  exact k1

theorem w97n {ro : Nat → Nat × (Nat → Int32)} {d : Nat} {Q : Option Value → pmS → Prop} {v4 : Option Value} {id p : Int} {w : Nat} {a : xA} {b : xB} (hz : uWz w) (hid : 0 ≤ id ∧ id ≤ 3) (hp : 1 ≤ p ∧ p ≤ 3) (hd : 1 ≤ d)
    (k1 : pmWp ro d 4 97 0 2 [some (.ref 43), some (.ref w), some (xV id), some (xV (p + 1)), v4] [] (xS a b) Q) :
    pmWp ro d 4 97 0 76 [some (.ref 43), some (.ref w), some (xV id), some (xV p), v4] [] (xS a b) Q := by
  refine x_iinc (pl' := [some (.ref 43), some (.ref w), some (xV id), some (xV (p + 1)), v4]) xc97_76 rfl rfl ?_
  refine x_goto xc97_79 ?_
  exact k1

theorem w97r {ro : Nat → Nat × (Nat → Int32)} {d : Nat} {Q : Option Value → pmS → Prop} {v4 : Option Value} {id p : Int} {w : Nat} {a : xA} {b : xB} (hz : uWz w) (hid : 0 ≤ id ∧ id ≤ 3) (hp : 1 ≤ p ∧ p ≤ 4) (hd : 1 ≤ d)
    (k1 : Q none (xS a b)) :
    pmWp ro d 4 97 0 90 [some (.ref 43), some (.ref w), some (xV id), some (xV p), v4] [] (xS a b) Q := by
  refine x_ret xc97_90 rfl ?_
  exact k1

theorem w89 {ro : Nat → Nat × (Nat → Int32)} {d : Nat} {Q : Option Value → pmS → Prop} {k id : Int} {w : Nat} {a : xA} {b : xB}
    (k1 : pmCs ro d 90 [.ref 43, .ref w, xV k] (xS a b) fun r σ' => pmWp ro d 4 89 0 6 [some (.ref 43), some (.ref w), some (xV k), some (xV id)] (r.toList ++ []) σ' Q) :
    pmWp ro d 4 89 0 0 [some (.ref 43), some (.ref w), some (xV k), some (xV id)] [] (xS a b) Q := by
  refine x_aloadn xc89_0 rfl ?_
  refine x_aloadn xc89_1 rfl ?_
  refine x_iloadn xc89_2 rfl ?_
  refine x_cV (as := [.ref w, xV k]) (rest := []) xc89_3 rfl xi90 xz43 ⟨rfl, rfl⟩ rfl rfl ?_
  exact k1

theorem xg89 {ro : Nat → Nat × (Nat → Int32)} {d : Nat} {Q : Option Value → pmS → Prop} {a : xA} {b : xB} {k id : Int} {w : Nat} (h : pmWp ro d 4 89 0 0 [some (.ref 43), some (.ref w), some (xV k), some (xV id)] [] (xS a b) Q) : pmCs ro (d + 1) 89 [.ref 43, .ref w, xV k, xV id] (xS a b) Q := x_go xi89 rfl rfl rfl rfl rfl h
theorem w89a {ro : Nat → Nat × (Nat → Int32)} {d : Nat} {Q : Option Value → pmS → Prop} {k id : Int} {w : Nat} {a : xA} {b : xB}
    (k1 : pmCs ro d 97 [.ref 43, .ref w, xV id] (xS a b) fun r σ' => pmWp ro d 4 89 0 12 [some (.ref 43), some (.ref w), some (xV k), some (xV id)] (r.toList ++ []) σ' Q) :
    pmWp ro d 4 89 0 6 [some (.ref 43), some (.ref w), some (xV k), some (xV id)] [] (xS a b) Q := by
  refine x_aloadn xc89_6 rfl ?_
  refine x_aloadn xc89_7 rfl ?_
  refine x_iloadn xc89_8 rfl ?_
  refine x_cV (as := [.ref w, xV id]) (rest := []) xc89_9 rfl xi97 xz43 ⟨rfl, rfl⟩ rfl rfl ?_
  exact k1

theorem w89b {ro : Nat → Nat × (Nat → Int32)} {d : Nat} {Q : Option Value → pmS → Prop} {k id : Int} {w : Nat} {a : xA} {b : xB}
    (k1 : Q none (xS a b)) :
    pmWp ro d 4 89 0 12 [some (.ref 43), some (.ref w), some (xV k), some (xV id)] [] (xS a b) Q := by
  refine x_ret xc89_12 rfl ?_
  exact k1

end
