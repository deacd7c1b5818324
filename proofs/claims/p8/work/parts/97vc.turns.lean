section
/-! exact: the class plays a turn -/
section
set_option maxRecDepth 100000
theorem xi67 : pmInf[67]? = some pmI_67 := rfl
theorem xi89 : pmInf[89]? = some pmI_89 := rfl
theorem xi90 : pmInf[90]? = some pmI_90 := rfl
theorem xi97 : pmInf[97]? = some pmI_97 := rfl
theorem xc67_0 : pmCode 67 0 = some (.iconst 0) ∧ 0 + 1 = 1 := ⟨rfl, rfl⟩
theorem xc67_1 : pmCode 67 1 = some (.istore_n 1) ∧ 1 + 1 = 2 := ⟨rfl, rfl⟩
theorem xc67_2 : pmCode 67 2 = some (.iload_n 1) ∧ 2 + 1 = 3 := ⟨rfl, rfl⟩
theorem xc67_3 : pmCode 67 3 = some (.iconst 2) ∧ 3 + 1 = 4 := ⟨rfl, rfl⟩
theorem xc67_4 : pmCode 67 4 = some (.if_icmp .gt 16) ∧ ((4 : Nat) : Int) + 16 = ((20 : Nat) : Int) ∧ 4 + 3 = 7 := ⟨rfl, rfl, rfl⟩
theorem xc67_7 : pmCode 67 7 = some (.aload_n 0) ∧ 7 + 1 = 8 := ⟨rfl, rfl⟩
theorem xc67_8 : pmCode 67 8 = some (.getfield 24) ∧ 8 + 3 = 11 := ⟨rfl, rfl⟩
theorem xc67_11 : pmCode 67 11 = some (.iload_n 1) ∧ 11 + 1 = 12 := ⟨rfl, rfl⟩
theorem xc67_12 : pmCode 67 12 = some (.iconst 0) ∧ 12 + 1 = 13 := ⟨rfl, rfl⟩
theorem xc67_13 : pmCode 67 13 = some .iastore ∧ 13 + 1 = 14 := ⟨rfl, rfl⟩
theorem xc67_14 : pmCode 67 14 = some (.iinc 1 1) ∧ 14 + 3 = 17 := ⟨rfl, rfl⟩
theorem xc67_17 : pmCode 67 17 = some (.goto (-15)) ∧ ((17 : Nat) : Int) + (-15) = ((2 : Nat) : Int) := ⟨rfl, rfl⟩
theorem xc67_20 : pmCode 67 20 = some .return_ := rfl
theorem xc89_0 : pmCode 89 0 = some (.aload_n 0) ∧ 0 + 1 = 1 := ⟨rfl, rfl⟩
theorem xc89_1 : pmCode 89 1 = some (.aload_n 1) ∧ 1 + 1 = 2 := ⟨rfl, rfl⟩
theorem xc89_2 : pmCode 89 2 = some (.iload_n 2) ∧ 2 + 1 = 3 := ⟨rfl, rfl⟩
theorem xc89_3 : pmCode 89 3 = some (.invokevirtual 27) ∧ 3 + 3 = 6 := ⟨rfl, rfl⟩
theorem xc89_6 : pmCode 89 6 = some (.aload_n 0) ∧ 6 + 1 = 7 := ⟨rfl, rfl⟩
theorem xc89_7 : pmCode 89 7 = some (.aload_n 1) ∧ 7 + 1 = 8 := ⟨rfl, rfl⟩
theorem xc89_8 : pmCode 89 8 = some (.iload_n 3) ∧ 8 + 1 = 9 := ⟨rfl, rfl⟩
theorem xc89_9 : pmCode 89 9 = some (.invokevirtual 31) ∧ 9 + 3 = 12 := ⟨rfl, rfl⟩
theorem xc89_12 : pmCode 89 12 = some .return_ := rfl
theorem xc90_0 : pmCode 90 0 = some (.aload_n 1) ∧ 0 + 1 = 1 := ⟨rfl, rfl⟩
theorem xc90_1 : pmCode 90 1 = some (.invokevirtual 34) ∧ 1 + 3 = 4 := ⟨rfl, rfl⟩
theorem xc90_4 : pmCode 90 4 = some (.aload_n 1) ∧ 4 + 1 = 5 := ⟨rfl, rfl⟩
theorem xc90_5 : pmCode 90 5 = some (.iconst 0) ∧ 5 + 1 = 6 := ⟨rfl, rfl⟩
theorem xc90_6 : pmCode 90 6 = some (.putfield 39) ∧ 6 + 3 = 9 := ⟨rfl, rfl⟩
theorem xc90_9 : pmCode 90 9 = some (.aload_n 1) ∧ 9 + 1 = 10 := ⟨rfl, rfl⟩
theorem xc90_10 : pmCode 90 10 = some .dup ∧ 10 + 1 = 11 := ⟨rfl, rfl⟩
theorem xc90_11 : pmCode 90 11 = some (.getfield 43) ∧ 11 + 3 = 14 := ⟨rfl, rfl⟩
theorem xc90_14 : pmCode 90 14 = some (.iconst 1) ∧ 14 + 1 = 15 := ⟨rfl, rfl⟩
theorem xc90_15 : pmCode 90 15 = some .iadd ∧ 15 + 1 = 16 := ⟨rfl, rfl⟩
theorem xc90_16 : pmCode 90 16 = some (.putfield 43) ∧ 16 + 3 = 19 := ⟨rfl, rfl⟩
theorem xc90_19 : pmCode 90 19 = some (.aload_n 0) ∧ 19 + 1 = 20 := ⟨rfl, rfl⟩
theorem xc90_20 : pmCode 90 20 = some (.getfield 9) ∧ 20 + 3 = 23 := ⟨rfl, rfl⟩
theorem xc90_23 : pmCode 90 23 = some (.iconst 0) ∧ 23 + 1 = 24 := ⟨rfl, rfl⟩
theorem xc90_24 : pmCode 90 24 = some (.aload_n 1) ∧ 24 + 1 = 25 := ⟨rfl, rfl⟩
theorem xc90_25 : pmCode 90 25 = some (.getfield 47) ∧ 25 + 3 = 28 := ⟨rfl, rfl⟩
theorem xc90_28 : pmCode 90 28 = some (.iconst 0) ∧ 28 + 1 = 29 := ⟨rfl, rfl⟩
theorem xc90_29 : pmCode 90 29 = some (.invokestatic 51) ∧ 29 + 3 = 32 := ⟨rfl, rfl⟩
theorem xc90_32 : pmCode 90 32 = some (.bipush 8) ∧ 32 + 2 = 34 := ⟨rfl, rfl⟩
theorem xc90_34 : pmCode 90 34 = some (.if_icmp .ne 7) ∧ ((34 : Nat) : Int) + 7 = ((41 : Nat) : Int) ∧ 34 + 3 = 37 := ⟨rfl, rfl, rfl⟩
theorem xc90_37 : pmCode 90 37 = some (.iconst (-1)) ∧ 37 + 1 = 38 := ⟨rfl, rfl⟩
theorem xc90_38 : pmCode 90 38 = some (.goto 10) ∧ ((38 : Nat) : Int) + 10 = ((48 : Nat) : Int) := ⟨rfl, rfl⟩
theorem xc90_41 : pmCode 90 41 = some (.aload_n 0) ∧ 41 + 1 = 42 := ⟨rfl, rfl⟩
theorem xc90_42 : pmCode 90 42 = some (.aload_n 1) ∧ 42 + 1 = 43 := ⟨rfl, rfl⟩
theorem xc90_43 : pmCode 90 43 = some (.iconst 0) ∧ 43 + 1 = 44 := ⟨rfl, rfl⟩
theorem xc90_44 : pmCode 90 44 = some (.iload_n 2) ∧ 44 + 1 = 45 := ⟨rfl, rfl⟩
theorem xc90_45 : pmCode 90 45 = some (.invokevirtual 55) ∧ 45 + 3 = 48 := ⟨rfl, rfl⟩
theorem xc90_48 : pmCode 90 48 = some .iastore ∧ 48 + 1 = 49 := ⟨rfl, rfl⟩
theorem xc90_49 : pmCode 90 49 = some .return_ := rfl
theorem xc97_0 : pmCode 97 0 = some (.iconst 1) ∧ 0 + 1 = 1 := ⟨rfl, rfl⟩
theorem xc97_1 : pmCode 97 1 = some (.istore_n 3) ∧ 1 + 1 = 2 := ⟨rfl, rfl⟩
theorem xc97_2 : pmCode 97 2 = some (.iload_n 3) ∧ 2 + 1 = 3 := ⟨rfl, rfl⟩
theorem xc97_3 : pmCode 97 3 = some (.iconst 4) ∧ 3 + 1 = 4 := ⟨rfl, rfl⟩
theorem xc97_4 : pmCode 97 4 = some (.if_icmp .ge 78) ∧ ((4 : Nat) : Int) + 78 = ((82 : Nat) : Int) ∧ 4 + 3 = 7 := ⟨rfl, rfl, rfl⟩
theorem xc97_7 : pmCode 97 7 = some (.aload_n 1) ∧ 7 + 1 = 8 := ⟨rfl, rfl⟩
theorem xc97_8 : pmCode 97 8 = some (.getfield 47) ∧ 8 + 3 = 11 := ⟨rfl, rfl⟩
theorem xc97_11 : pmCode 97 11 = some (.iload_n 3) ∧ 11 + 1 = 12 := ⟨rfl, rfl⟩
theorem xc97_12 : pmCode 97 12 = some (.invokestatic 51) ∧ 12 + 3 = 15 := ⟨rfl, rfl⟩
theorem xc97_15 : pmCode 97 15 = some (.bipush 8) ∧ 15 + 2 = 17 := ⟨rfl, rfl⟩
theorem xc97_17 : pmCode 97 17 = some (.if_icmp .ne 13) ∧ ((17 : Nat) : Int) + 13 = ((30 : Nat) : Int) ∧ 17 + 3 = 20 := ⟨rfl, rfl, rfl⟩
theorem xc97_20 : pmCode 97 20 = some (.aload_n 0) ∧ 20 + 1 = 21 := ⟨rfl, rfl⟩
theorem xc97_21 : pmCode 97 21 = some (.getfield 9) ∧ 21 + 3 = 24 := ⟨rfl, rfl⟩
theorem xc97_24 : pmCode 97 24 = some (.iload_n 3) ∧ 24 + 1 = 25 := ⟨rfl, rfl⟩
theorem xc97_25 : pmCode 97 25 = some (.iconst (-1)) ∧ 25 + 1 = 26 := ⟨rfl, rfl⟩
theorem xc97_26 : pmCode 97 26 = some .iastore ∧ 26 + 1 = 27 := ⟨rfl, rfl⟩
theorem xc97_27 : pmCode 97 27 = some (.goto 49) ∧ ((27 : Nat) : Int) + 49 = ((76 : Nat) : Int) := ⟨rfl, rfl⟩
theorem xc97_30 : pmCode 97 30 = some (.iload_n 3) ∧ 30 + 1 = 31 := ⟨rfl, rfl⟩
theorem xc97_31 : pmCode 97 31 = some (.iload_n 2) ∧ 31 + 1 = 32 := ⟨rfl, rfl⟩
theorem xc97_32 : pmCode 97 32 = some (.if_icmp .ne 7) ∧ ((32 : Nat) : Int) + 7 = ((39 : Nat) : Int) ∧ 32 + 3 = 35 := ⟨rfl, rfl, rfl⟩
theorem xc97_35 : pmCode 97 35 = some (.iconst 0) ∧ 35 + 1 = 36 := ⟨rfl, rfl⟩
theorem xc97_36 : pmCode 97 36 = some (.goto 17) ∧ ((36 : Nat) : Int) + 17 = ((53 : Nat) : Int) := ⟨rfl, rfl⟩
theorem xc97_39 : pmCode 97 39 = some (.aload_n 0) ∧ 39 + 1 = 40 := ⟨rfl, rfl⟩
theorem xc97_40 : pmCode 97 40 = some (.getfield 23) ∧ 40 + 3 = 43 := ⟨rfl, rfl⟩
theorem xc97_43 : pmCode 97 43 = some (.aload_n 1) ∧ 43 + 1 = 44 := ⟨rfl, rfl⟩
theorem xc97_44 : pmCode 97 44 = some (.getfield 59) ∧ 44 + 3 = 47 := ⟨rfl, rfl⟩
theorem xc97_47 : pmCode 97 47 = some (.iload_n 3) ∧ 47 + 1 = 48 := ⟨rfl, rfl⟩
theorem xc97_48 : pmCode 97 48 = some .laload ∧ 48 + 1 = 49 := ⟨rfl, rfl⟩
theorem xc97_49 : pmCode 97 49 = some (.iload_n 3) ∧ 49 + 1 = 50 := ⟨rfl, rfl⟩
theorem xc97_50 : pmCode 97 50 = some (.invokevirtual 63) ∧ 50 + 3 = 53 := ⟨rfl, rfl⟩
theorem xc97_53 : pmCode 97 53 = some (.istore 4) ∧ 53 + 2 = 55 := ⟨rfl, rfl⟩
theorem xc97_55 : pmCode 97 55 = some (.aload_n 0) ∧ 55 + 1 = 56 := ⟨rfl, rfl⟩
theorem xc97_56 : pmCode 97 56 = some (.getfield 9) ∧ 56 + 3 = 59 := ⟨rfl, rfl⟩
theorem xc97_59 : pmCode 97 59 = some (.iload_n 3) ∧ 59 + 1 = 60 := ⟨rfl, rfl⟩
theorem xc97_60 : pmCode 97 60 = some (.aload_n 0) ∧ 60 + 1 = 61 := ⟨rfl, rfl⟩
theorem xc97_61 : pmCode 97 61 = some (.aload_n 1) ∧ 61 + 1 = 62 := ⟨rfl, rfl⟩
theorem xc97_62 : pmCode 97 62 = some (.iload_n 3) ∧ 62 + 1 = 63 := ⟨rfl, rfl⟩
theorem xc97_63 : pmCode 97 63 = some (.iload 4) ∧ 63 + 2 = 65 := ⟨rfl, rfl⟩
theorem xc97_65 : pmCode 97 65 = some (.sipush 511) ∧ 65 + 3 = 68 := ⟨rfl, rfl⟩
theorem xc97_68 : pmCode 97 68 = some .iand ∧ 68 + 1 = 69 := ⟨rfl, rfl⟩
theorem xc97_69 : pmCode 97 69 = some (.invokevirtual 55) ∧ 69 + 3 = 72 := ⟨rfl, rfl⟩
theorem xc97_72 : pmCode 97 72 = some (.iload 4) ∧ 72 + 2 = 74 := ⟨rfl, rfl⟩
theorem xc97_74 : pmCode 97 74 = some .ior ∧ 74 + 1 = 75 := ⟨rfl, rfl⟩
theorem xc97_75 : pmCode 97 75 = some .iastore ∧ 75 + 1 = 76 := ⟨rfl, rfl⟩
theorem xc97_76 : pmCode 97 76 = some (.iinc 3 1) ∧ 76 + 3 = 79 := ⟨rfl, rfl⟩
theorem xc97_79 : pmCode 97 79 = some (.goto (-77)) ∧ ((79 : Nat) : Int) + (-77) = ((2 : Nat) : Int) := ⟨rfl, rfl⟩
theorem xc97_82 : pmCode 97 82 = some (.aload_n 0) ∧ 82 + 1 = 83 := ⟨rfl, rfl⟩
theorem xc97_83 : pmCode 97 83 = some (.getfield 19) ∧ 83 + 3 = 86 := ⟨rfl, rfl⟩
theorem xc97_86 : pmCode 97 86 = some (.aload_n 1) ∧ 86 + 1 = 87 := ⟨rfl, rfl⟩
theorem xc97_87 : pmCode 97 87 = some (.invokevirtual 68) ∧ 87 + 3 = 90 := ⟨rfl, rfl⟩
theorem xc97_90 : pmCode 97 90 = some .return_ := rfl
theorem w67 {ro : Nat → Nat × (Nat → Int32)} {d : Nat} {Q : Option Value → pmS → Prop} {w : Nat} {a : xA} {b : xB} (hz : uWz w)
    (k1 : Q none (xS (xU (xU (xU a (w + 4) 0 0) (w + 4) (0 + 1) 0) (w + 4) (0 + 1 + 1) 0) b)) :
    pmWp ro d 10 67 0 0 [some (.ref w), none] [] (xS a b) Q := by
  refine x_iconst xc67_0 ?_
  refine x_istoren (pl' := [some (.ref w), some (xV 0)]) xc67_1 rfl rfl ?_
  refine x_iloadn xc67_2 rfl ?_
  refine x_iconst xc67_3 ?_
  refine x_icgt xc67_4 (xRk (by decide)) (xRk (by decide)) (fun h => absurd h (by omega)) (fun _ => ?_)
  refine x_aloadn xc67_7 rfl ?_
  refine x_gfr xc67_8 rfl rfl hz.1 rfl ?_
  refine x_iloadn xc67_11 rfl ?_
  refine x_iconst xc67_12 ?_
  refine x_ias xc67_13 hz.2.2.2.2 (by omega) (by omega) (by omega) ?_
  refine x_iinc (pl' := [some (.ref w), some (xV (0 + 1))]) xc67_14 rfl rfl ?_
  refine x_goto xc67_17 ?_
  refine x_iloadn xc67_2 rfl ?_
  refine x_iconst xc67_3 ?_
  refine x_icgt xc67_4 (xRk (by decide)) (xRk (by decide)) (fun h => absurd h (by omega)) (fun _ => ?_)
  refine x_aloadn xc67_7 rfl ?_
  refine x_gfr xc67_8 rfl rfl hz.1 rfl ?_
  refine x_iloadn xc67_11 rfl ?_
  refine x_iconst xc67_12 ?_
  refine x_ias xc67_13 hz.2.2.2.2 (by omega) (by omega) (by omega) ?_
  refine x_iinc (pl' := [some (.ref w), some (xV (0 + 1 + 1))]) xc67_14 rfl rfl ?_
  refine x_goto xc67_17 ?_
  refine x_iloadn xc67_2 rfl ?_
  refine x_iconst xc67_3 ?_
  refine x_icgt xc67_4 (xRk (by decide)) (xRk (by decide)) (fun h => absurd h (by omega)) (fun _ => ?_)
  refine x_aloadn xc67_7 rfl ?_
  refine x_gfr xc67_8 rfl rfl hz.1 rfl ?_
  refine x_iloadn xc67_11 rfl ?_
  refine x_iconst xc67_12 ?_
  refine x_ias xc67_13 hz.2.2.2.2 (by omega) (by omega) (by omega) ?_
  refine x_iinc (pl' := [some (.ref w), some (xV (0 + 1 + 1 + 1))]) xc67_14 rfl rfl ?_
  refine x_goto xc67_17 ?_
  refine x_iloadn xc67_2 rfl ?_
  refine x_iconst xc67_3 ?_
  refine x_icgt xc67_4 (xRk (by decide)) (xRk (by decide)) (fun _ => ?_) (fun h => absurd h (by omega))
  refine x_ret xc67_20 rfl ?_
  exact k1

theorem xg67 {ro : Nat → Nat × (Nat → Int32)} {d : Nat} {Q : Option Value → pmS → Prop} {a : xA} {b : xB} {w : Nat} (h : pmWp ro d 10 67 0 0 [some (.ref w), none] [] (xS a b) Q) : pmCs ro (d + 1) 67 [.ref w] (xS a b) Q := x_go xi67 rfl rfl rfl rfl rfl h
/-- forget -/
def uFg (w : Nat) (a : xA) : xA := xU (xU (xU a (w + 4) 0 0) (w + 4) 1 0) (w + 4) 2 0
theorem rk67 {ro : Nat → Nat × (Nat → Int32)} {d w : Nat} {Q : Option Value → pmS → Prop} {a : xA} {b : xB} (hz : uWz w) (hd : 1 ≤ d) (hQ : Q none (xS (uFg w a) b)) : pmCs ro d 67 [.ref w] (xS a b) Q := pmCs_deep (d := 1) (xg67 (w67 hz hQ)) hd
theorem w90 {ro : Nat → Nat × (Nat → Int32)} {d : Nat} {Q : Option Value → pmS → Prop} {k : Int} {w : Nat} {a : xA} {b : xB} (hz : uWz w) (hd : 1 ≤ d)
    (k1 : (¬ uSl (b w 4) 0 = 8) → pmCs ro d 91 [.ref 43, .ref w, xV 0, xV k] (xS (xU (xU (uFg w a) w 12 0) w 6 ((uFg w a) w 6 + 1)) b) fun r σ' => pmWp ro d 4 90 0 48 [some (.ref 43), some (.ref w), some (xV k)] (r.toList ++ [xV 0, .ref 44]) σ' Q)
    (k2 : (uSl (b w 4) 0 = 8) → Q none (xS (xU (xU (xU (uFg w a) w 12 0) w 6 ((uFg w a) w 6 + 1)) 44 0 (-1)) b)) :
    pmWp ro d 4 90 0 0 [some (.ref 43), some (.ref w), some (xV k)] [] (xS a b) Q := by
  refine x_aloadn xc90_0 rfl ?_
  refine x_cV (as := []) (rest := []) xc90_1 rfl xi67 hz.1 ⟨rfl, rfl⟩ rfl rfl ?_
  refine rk67 hz (by omega) ?_
  refine x_aloadn xc90_4 rfl ?_
  refine x_iconst xc90_5 ?_
  refine x_pfz (k := 12) (by omega) xc90_6 rfl ⟨rfl, rfl⟩ rfl hz.1 ?_
  refine x_aloadn xc90_9 rfl ?_
  refine x_dup xc90_10 rfl ?_
  refine x_gfi' (k := 6) (v := (uFg w a) w 6) xc90_11 rfl (Or.inl rfl) rfl hz.1 (by rw [xUk (by decide)]) ?_
  refine x_iconst xc90_14 ?_
  refine x_iadd xc90_15 ?_
  refine x_pfi (k := 6) xc90_16 rfl ⟨rfl, rfl⟩ rfl hz.1 ?_
  refine x_aloadn xc90_19 rfl ?_
  refine x_gfr xc90_20 rfl rfl xz43 rfl ?_
  refine x_iconst xc90_23 ?_
  refine x_aloadn xc90_24 rfl ?_
  refine x_gfl (k := 4) xc90_25 rfl rfl rfl hz.1 ?_
  refine x_iconst xc90_28 ?_
  refine x_cS (as := [.long (b w 4), xV 0]) (rest := [xV 0, .ref 44]) xc90_29 rfl rfl xi61 ⟨rfl, rfl⟩ rfl rfl ?_
  refine rk61 (by omega) (by omega) ?_
  refine x_bipush xc90_32 (by decide) ?_
  refine x_icne xc90_34 (xRk (by have g0 := uSl_b (l := b w 4) (j := 0) (by omega) (by omega); omega)) (xRk (by decide)) (fun h0 => ?_) (fun h0 => ?_)
  · refine x_aloadn xc90_41 rfl ?_
    refine x_aloadn xc90_42 rfl ?_
    refine x_iconst xc90_43 ?_
    refine x_iloadn xc90_44 rfl ?_
    refine x_cV (as := [.ref w, xV 0, xV k]) (rest := [xV 0, .ref 44]) xc90_45 rfl xi91 xz43 ⟨rfl, rfl⟩ rfl rfl ?_
    exact k1 h0
  · replace h0 := Classical.not_not.mp h0
    refine x_iconst xc90_37 ?_
    refine x_goto xc90_38 ?_
    refine x_ias xc90_48 xz44 (by omega) (by omega) (by omega) ?_
    refine x_ret xc90_49 rfl ?_
    exact k2 h0

theorem xg90 {ro : Nat → Nat × (Nat → Int32)} {d : Nat} {Q : Option Value → pmS → Prop} {a : xA} {b : xB} {k : Int} {w : Nat} (h : pmWp ro d 4 90 0 0 [some (.ref 43), some (.ref w), some (xV k)] [] (xS a b) Q) : pmCs ro (d + 1) 90 [.ref 43, .ref w, xV k] (xS a b) Q := x_go xi90 rfl rfl rfl rfl rfl h
theorem w90s {ro : Nat → Nat × (Nat → Int32)} {d : Nat} {Q : Option Value → pmS → Prop} {k z : Int} {w : Nat} {a : xA} {b : xB}
    (k1 : Q none (xS (xU a 44 0 z) b)) :
    pmWp ro d 4 90 0 48 [some (.ref 43), some (.ref w), some (xV k)] [xV z, xV 0, .ref 44] (xS a b) Q := by
  refine x_ias xc90_48 xz44 (by omega) (by omega) (by omega) ?_
  refine x_ret xc90_49 rfl ?_
  exact k1

theorem w97 {ro : Nat → Nat × (Nat → Int32)} {d : Nat} {Q : Option Value → pmS → Prop} {id : Int} {w : Nat} {a : xA} {b : xB}
    (k1 : pmWp ro d 4 97 0 2 [some (.ref 43), some (.ref w), some (xV id), some (xV 1), none] [] (xS a b) Q) :
    pmWp ro d 4 97 0 0 [some (.ref 43), some (.ref w), some (xV id), none, none] [] (xS a b) Q := by
  refine x_iconst xc97_0 ?_
  refine x_istoren (pl' := [some (.ref 43), some (.ref w), some (xV id), some (xV 1), none]) xc97_1 rfl rfl ?_
  exact k1

theorem xg97 {ro : Nat → Nat × (Nat → Int32)} {d : Nat} {Q : Option Value → pmS → Prop} {a : xA} {b : xB} {id : Int} {w : Nat} (h : pmWp ro d 4 97 0 0 [some (.ref 43), some (.ref w), some (xV id), none, none] [] (xS a b) Q) : pmCs ro (d + 1) 97 [.ref 43, .ref w, xV id] (xS a b) Q := x_go xi97 rfl rfl rfl rfl rfl h
theorem w97p {ro : Nat → Nat × (Nat → Int32)} {d : Nat} {Q : Option Value → pmS → Prop} {v4 : Option Value} {id p : Int} {w : Nat} {a : xA} {b : xB} (hz : uWz w) (hid : 0 ≤ id ∧ id ≤ 3) (hp : 1 ≤ p ∧ p ≤ 4) (hd : 1 ≤ d)
    (k1 : (4 ≤ p) → pmCs ro d 98 [.ref 13, .ref w] (xS a b) fun r σ' => pmWp ro d 4 97 0 90 [some (.ref 43), some (.ref w), some (xV id), some (xV p), v4] (r.toList ++ []) σ' Q)
    (k2 : (¬ 4 ≤ p) → (¬ uSl (b w 4) p = 8) → (¬ p = id) → pmCs ro d 85 [.ref 34, .long (b (w + 1) p), xV p] (xS a b) fun r σ' => pmWp ro d 4 97 0 53 [some (.ref 43), some (.ref w), some (xV id), some (xV p), v4] (r.toList ++ []) σ' Q)
    (k3 : (¬ 4 ≤ p) → (¬ uSl (b w 4) p = 8) → (p = id) → pmWp ro d 4 97 0 53 [some (.ref 43), some (.ref w), some (xV id), some (xV p), v4] [xV 0] (xS a b) Q)
    (k4 : (¬ 4 ≤ p) → (uSl (b w 4) p = 8) → pmWp ro d 4 97 0 76 [some (.ref 43), some (.ref w), some (xV id), some (xV p), v4] [] (xS (xU a 44 p (-1)) b) Q) :
    pmWp ro d 4 97 0 2 [some (.ref 43), some (.ref w), some (xV id), some (xV p), v4] [] (xS a b) Q := by
  refine x_iloadn xc97_2 rfl ?_
  refine x_iconst xc97_3 ?_
  refine x_icge xc97_4 (xRk (by have g0 := hp; omega)) (xRk (by decide)) (fun h0 => ?_) (fun h0 => ?_)
  · refine x_aloadn xc97_82 rfl ?_
    refine x_gfr xc97_83 rfl rfl xz43 rfl ?_
    refine x_aloadn xc97_86 rfl ?_
    refine x_cV (as := [.ref w]) (rest := []) xc97_87 rfl xi98 xz13 ⟨rfl, rfl⟩ rfl rfl ?_
    exact k1 h0
  · refine x_aloadn xc97_7 rfl ?_
    refine x_gfl (k := 4) xc97_8 rfl rfl rfl hz.1 ?_
    refine x_iloadn xc97_11 rfl ?_
    refine x_cS (as := [.long (b w 4), xV p]) (rest := []) xc97_12 rfl rfl xi61 ⟨rfl, rfl⟩ rfl rfl ?_
    refine rk61 (by omega) (by have g0 := hp; omega) ?_
    refine x_bipush xc97_15 (by decide) ?_
    refine x_icne xc97_17 (xRk (by have g0 := uSl_b (l := b w 4) (j := p) (by have g0 := hp; omega) (by have g0 := hp; omega); omega)) (xRk (by decide)) (fun h1 => ?_) (fun h1 => ?_)
    · refine x_iloadn xc97_30 rfl ?_
      refine x_iloadn xc97_31 rfl ?_
      refine x_icne xc97_32 (xRk (by have g0 := hp; omega)) (xRk (by have g0 := hid; omega)) (fun h2 => ?_) (fun h2 => ?_)
      · refine x_aloadn xc97_39 rfl ?_
        refine x_gfr xc97_40 rfl rfl xz43 rfl ?_
        refine x_aloadn xc97_43 rfl ?_
        refine x_gfr xc97_44 rfl rfl hz.1 rfl ?_
        refine x_iloadn xc97_47 rfl ?_
        refine x_lal xc97_48 hz.2.1 (by have g0 := hp; omega) (by have g0 := hp; omega) (by have g0 := hp; omega) ?_
        refine x_iloadn xc97_49 rfl ?_
        refine x_cV (as := [.long (b (w + 1) p), xV p]) (rest := []) xc97_50 rfl xi85 xz34 ⟨rfl, rfl⟩ rfl rfl ?_
        exact k2 h0 h1 h2
      · replace h2 := Classical.not_not.mp h2
        refine x_iconst xc97_35 ?_
        refine x_goto xc97_36 ?_
        exact k3 h0 h1 h2
    · replace h1 := Classical.not_not.mp h1
      refine x_aloadn xc97_20 rfl ?_
      refine x_gfr xc97_21 rfl rfl xz43 rfl ?_
      refine x_iloadn xc97_24 rfl ?_
      refine x_iconst xc97_25 ?_
      refine x_ias xc97_26 xz44 (by have g0 := hp; omega) (by have g0 := hp; omega) (by have g0 := hp; omega) ?_
      refine x_goto xc97_27 ?_
      exact k4 h0 h1

theorem w97c {ro : Nat → Nat × (Nat → Int32)} {d : Nat} {Q : Option Value → pmS → Prop} {v4 : Option Value} {z id p : Int} {w : Nat} {a : xA} {b : xB} (hz : uWz w) (hid : 0 ≤ id ∧ id ≤ 3) (hp : 1 ≤ p ∧ p ≤ 3) (hzz : 0 ≤ z ∧ z ≤ 50000) (hd : 1 ≤ d)
    (k1 : pmCs ro d 91 [.ref 43, .ref w, xV p, xV (z % 512)] (xS a b) fun r σ' => pmWp ro d 4 97 0 72 [some (.ref 43), some (.ref w), some (xV id), some (xV p), some (xV z)] (r.toList ++ [xV p, .ref 44]) σ' Q) :
    pmWp ro d 4 97 0 53 [some (.ref 43), some (.ref w), some (xV id), some (xV p), v4] [xV z] (xS a b) Q := by
  refine x_istore (pl' := [some (.ref 43), some (.ref w), some (xV id), some (xV p), some (xV z)]) xc97_53 rfl rfl ?_
  refine x_aloadn xc97_55 rfl ?_
  refine x_gfr xc97_56 rfl rfl xz43 rfl ?_
  refine x_iloadn xc97_59 rfl ?_
  refine x_aloadn xc97_60 rfl ?_
  refine x_aloadn xc97_61 rfl ?_
  refine x_iloadn xc97_62 rfl ?_
  refine x_iload xc97_63 rfl ?_
  refine x_sipush xc97_65 (by decide) ?_
  refine x_iandm (M := 512) 9 (by decide) (by decide) (by decide) xc97_68 ?_
  refine x_cV (as := [.ref w, xV p, xV (z % 512)]) (rest := [xV p, .ref 44]) xc97_69 rfl xi91 xz43 ⟨rfl, rfl⟩ rfl rfl ?_
  exact k1

theorem w97s {ro : Nat → Nat × (Nat → Int32)} {d : Nat} {Q : Option Value → pmS → Prop} {z u id p : Int} {w : Nat} {a : xA} {b : xB} (hz : uWz w) (hid : 0 ≤ id ∧ id ≤ 3) (hp : 1 ≤ p ∧ p ≤ 3) (hd : 1 ≤ d)
    (k1 : pmWp ro d 4 97 0 76 [some (.ref 43), some (.ref w), some (xV id), some (xV p), some (xV z)] [] (xS (xU a 44 p (xOr u z)) b) Q) :
    pmWp ro d 4 97 0 72 [some (.ref 43), some (.ref w), some (xV id), some (xV p), some (xV z)] [xV u, xV p, .ref 44] (xS a b) Q := by
  refine x_iload xc97_72 rfl ?_
  refine x_ior xc97_74 ?_
  refine x_ias xc97_75 xz44 (by have g0 := hp; omega) (by have g0 := hp; omega) (by have g0 := hp; omega) ?_
  exact k1

theorem w97n {ro : Nat → Nat × (Nat → Int32)} {d : Nat} {Q : Option Value → pmS → Prop} {v4 : Option Value} {id p : Int} {w : Nat} {a : xA} {b : xB} (hz : uWz w) (hid : 0 ≤ id ∧ id ≤ 3) (hp : 1 ≤ p ∧ p ≤ 3) (hd : 1 ≤ d)
    (k1 : pmWp ro d 4 97 0 2 [some (.ref 43), some (.ref w), some (xV id), some (xV (p + 1)), v4] [] (xS a b) Q) :
    pmWp ro d 4 97 0 76 [some (.ref 43), some (.ref w), some (xV id), some (xV p), v4] [] (xS a b) Q := by
  refine x_iinc (pl' := [some (.ref 43), some (.ref w), some (xV id), some (xV (p + 1)), v4]) xc97_76 rfl rfl ?_
  refine x_goto xc97_79 ?_
  exact k1

theorem w97r {ro : Nat → Nat × (Nat → Int32)} {d : Nat} {Q : Option Value → pmS → Prop} {v4 : Option Value} {id p : Int} {w : Nat} {a : xA} {b : xB} (hz : uWz w) (hid : 0 ≤ id ∧ id ≤ 3) (hp : 1 ≤ p ∧ p ≤ 4) (hd : 1 ≤ d)
    (k1 : Q none (xS a b)) :
    pmWp ro d 4 97 0 90 [some (.ref 43), some (.ref w), some (xV id), some (xV p), v4] [] (xS a b) Q := by
  refine x_ret xc97_90 rfl ?_
  exact k1

theorem w89 {ro : Nat → Nat × (Nat → Int32)} {d : Nat} {Q : Option Value → pmS → Prop} {k id : Int} {w : Nat} {a : xA} {b : xB}
    (k1 : pmCs ro d 90 [.ref 43, .ref w, xV k] (xS a b) fun r σ' => pmWp ro d 4 89 0 6 [some (.ref 43), some (.ref w), some (xV k), some (xV id)] (r.toList ++ []) σ' Q) :
    pmWp ro d 4 89 0 0 [some (.ref 43), some (.ref w), some (xV k), some (xV id)] [] (xS a b) Q := by
  refine x_aloadn xc89_0 rfl ?_
  refine x_aloadn xc89_1 rfl ?_
  refine x_iloadn xc89_2 rfl ?_
  refine x_cV (as := [.ref w, xV k]) (rest := []) xc89_3 rfl xi90 xz43 ⟨rfl, rfl⟩ rfl rfl ?_
  exact k1

theorem xg89 {ro : Nat → Nat × (Nat → Int32)} {d : Nat} {Q : Option Value → pmS → Prop} {a : xA} {b : xB} {k id : Int} {w : Nat} (h : pmWp ro d 4 89 0 0 [some (.ref 43), some (.ref w), some (xV k), some (xV id)] [] (xS a b) Q) : pmCs ro (d + 1) 89 [.ref 43, .ref w, xV k, xV id] (xS a b) Q := x_go xi89 rfl rfl rfl rfl rfl h
theorem w89a {ro : Nat → Nat × (Nat → Int32)} {d : Nat} {Q : Option Value → pmS → Prop} {k id : Int} {w : Nat} {a : xA} {b : xB}
    (k1 : pmCs ro d 97 [.ref 43, .ref w, xV id] (xS a b) fun r σ' => pmWp ro d 4 89 0 12 [some (.ref 43), some (.ref w), some (xV k), some (xV id)] (r.toList ++ []) σ' Q) :
    pmWp ro d 4 89 0 6 [some (.ref 43), some (.ref w), some (xV k), some (xV id)] [] (xS a b) Q := by
  refine x_aloadn xc89_6 rfl ?_
  refine x_aloadn xc89_7 rfl ?_
  refine x_iloadn xc89_8 rfl ?_
  refine x_cV (as := [.ref w, xV id]) (rest := []) xc89_9 rfl xi97 xz43 ⟨rfl, rfl⟩ rfl rfl ?_
  exact k1

theorem w89b {ro : Nat → Nat × (Nat → Int32)} {d : Nat} {Q : Option Value → pmS → Prop} {k id : Int} {w : Nat} {a : xA} {b : xB}
    (k1 : Q none (xS a b)) :
    pmWp ro d 4 89 0 12 [some (.ref 43), some (.ref w), some (xV k), some (xV id)] [] (xS a b) Q := by
  refine x_ret xc89_12 rfl ?_
  exact k1

end
end
section
/-! the class plays a turn -/
section
set_option maxRecDepth 100000


section
variable {Ln : Nat} {xs : Nat → Int32} {d w : Nat} {Q : Option Value → pmS → Prop} {dr wp c pr cnt W F F' : Int → Int} {T : Int → List Int} {n f p k x cd wt id cn : Int} {S S' r r' : Int → Int} {ts : List Int} {a a' a0 : xA} {b b' : xB}
/-- one of the class's worlds -/
def uWo (w : Nat) : Prop := uWz w ∧ (21 ≤ w ∧ w ≤ 80) ∧ (w ≤ 26 ∨ 47 ≤ w)
/-- the slots of a mind in the class are the mind by the row -/
theorem uMn_s (hn0 : 0 ≤ n ∧ n ≤ 5) (hr : uRv n r) (hf : 1 ≤ f ∧ f ≤ 3) (hM : uRf n w r b f) (hO : uSl (b (w + 1) f) f = r f + 1) (hK : uKh n r 4) (hal : ¬ r f = 7) : uQ (uSl (b (w + 1) f)) (uMn n r f) := by
  intro j j0 j1
  obtain ⟨m1, m2, m3⟩ := hM
  unfold uMn
  by_cases c : j < 4
  · rw [if_pos c]
    by_cases cf : j = f
    · rw [if_pos cf, cf]
      exact hO
    · rw [if_neg cf]
      exact m2 j j0 c cf
  · rw [if_neg c]
    have h := m3 (j - 4) (by omega) (by omega)
    rw [show 4 + (j - 4) = j by omega] at h
    rw [h]
    by_cases cn : j - 4 < n
    · rw [if_pos cn]
      by_cases ch : r j = 10 + f
      · rw [if_pos ch]
        have := hK f (j - 4) hf.1 (by omega) hal (by omega) cn (by rw [show 4 + (j - 4) = j by omega]; exact ch)
        rw [this]
        unfold uTc
        rw [if_neg (by omega)]
        omega
      · rw [if_neg ch]
    · rw [if_neg cn, hr.2.2.2.2.2 f (j - 4) hf.1 hf.2 (by omega) (by omega) (by omega)]
      rfl
theorem uOk_q (hf : 1 ≤ f ∧ f ≤ 3) (h : uQ S S') (hk : uOk f S') : uOk f S := by
  obtain ⟨h1, h2, h3⟩ := hk
  refine ⟨by rw [h f (by omega) (by omega)]; exact h1, fun q q0 q1 => by rw [h q q0 (by omega)]; exact h2 q q0 q1, fun x x0 x1 => by rw [h (4 + x) (by omega) (by omega)]; exact h3 x x0 x1⟩
theorem uTks_k (h : uRe pr f ts) : uTks ts := fun t ht => (h.2.2.2.1 t ht).1
theorem uFd_c (hf : 1 ≤ f ∧ f ≤ 3) (ht : uTks ts) (h : uQ S S') : uFd dr wp pr ts f S = uFd dr wp pr ts f S' := by
  unfold uFd
  rw [uQ_hold h hf ht, uQ_opt hf ht 4 S S' h]
theorem uChs_c (h : uChs cn W F k) (e : ∀ i, 0 ≤ i → i < cn → F i = F' i) : uChs cn W F' k := by
  rcases h with ⟨h1, h2⟩ | ⟨h1, h2, h3⟩
  · exact Or.inl ⟨h1, fun i i0 i1 => by rw [← e i i0 i1]; exact h2 i i0 i1⟩
  · exact Or.inr ⟨h1, by rw [← e k h1.1 h1.2]; exact h2, fun i i0 i1 hi => h3 i i0 i1 (by rw [e i i0 i1]; exact hi)⟩
theorem uFd_can (h : ¬ uFd dr wp pr ts f S = -1) : (0 ≤ uFd dr wp pr ts f S ∧ uFd dr wp pr ts f S < 41) ∧ uCan dr wp f S (uFd dr wp pr ts f S) := by
  cases hh : uHold f ts S with
  | true => exact absurd (uFd_h hh) h
  | false =>
    rw [uFd_1 hh] at h ⊢
    unfold uF1 at h ⊢
    cases ho : uOpt dr wp pr f ts 4 S with
    | none =>
      rw [ho] at h
      exact absurd rfl h
    | some q =>
      obtain ⟨k, l, e1, e2, e3⟩ := uOpt_1 4 ho
      show (0 ≤ q.2.headD (-1) ∧ q.2.headD (-1) < 41) ∧ uCan dr wp f S (q.2.headD (-1))
      rw [e1]
      exact ⟨e2, e3⟩
/-- what a folk wants to do it can do -/
theorem uWd_c (hr : uRv n r) (hf : 1 ≤ f ∧ f ≤ 3) (hal : ¬ r f = 7) (h : ¬ uWd dr wp pr cnt W T n r f = -1) : (0 ≤ uWd dr wp pr cnt W T n r f ∧ uWd dr wp pr cnt W T n r f < 61) ∧ uCp n f (uWd dr wp pr cnt W T n r f) r := by
  unfold uWd at h ⊢
  by_cases c : uWk dr wp pr cnt W T n r f = -1
  · rw [if_pos c] at h
    exact absurd rfl h
  rw [if_neg c] at h ⊢
  obtain ⟨hk, hc⟩ := uFd_can h
  obtain ⟨k, ek⟩ : ∃ k, uFd dr wp pr (T (f * 3 + uWk dr wp pr cnt W T n r f)) f (uMn n r f) = k := ⟨_, rfl⟩
  rw [ek] at hk hc ⊢
  have hrf := hr.1 f (by omega) (by omega)
  have mf : uMn n r f f = r f + 1 := by
    unfold uMn
    rw [if_pos (by omega), if_pos rfl]
  have mx : ∀ x, 0 ≤ x → ¬ x < n → uMn n r f (4 + x) = 0 := fun x x0 xn => by
    unfold uMn
    rw [if_neg (by omega), if_neg (by omega)]
  refine ⟨⟨hk.1, by omega⟩, hal, fun e => Classical.byContradiction (fun hx => ?_), fun e => ?_, fun e => ?_⟩
  all_goals
    unfold uCan at hc
    rcases uKd hk with g | g | g | g | g
    all_goals first
      | (exfalso; omega)
      | skip
  · rw [if_neg (by omega), if_pos (by omega), mx (uX k) (by omega) hx, mf] at hc
    omega
  · rw [if_neg (by omega), if_neg (by omega), if_pos (by omega), mx (uX k) (by omega) hx] at hc
    omega
  · rw [if_neg (by omega), if_neg (by omega), if_neg (by omega), if_pos (by omega), mx (uX k) (by omega) hx] at hc
    omega
  · rw [if_neg (by omega), if_neg (by omega), if_neg (by omega), if_neg (by omega)] at hc
    exact hc.1
/-- what the class plays by -/
def uCb (dr wp c pr cnt W : Int → Int) (T : Int → List Int) (n : Int) (a0 a : xA) (b : xB) : Prop := uPg dr wp c cnt T n a0 a b ∧ uPf dr wp c pr cnt T a0 ∧ uOr cnt W a ∧ uMC dr wp pr cnt T b ∧ uLx a
/-- a world of the class's by the row -/
def uCw (n : Int) (w : Nat) (r : Int → Int) (a : xA) (b : xB) : Prop := uRv n r ∧ uRt n w r b ∧ uRm n w r b ∧ uOx w r b 4 ∧ uKh n r 4 ∧ uMk w a ∧ a w 11 = r 119
/-- what a turn leaves alone -/
def uTf (w : Nat) (a a' : xA) (b b' : xB) : Prop := (∀ q j, ¬ q = w + 2 → ¬ q = w + 3 → ¬ q = w + 4 → ¬ (q = w ∧ (j = 6 ∨ j = 7 ∨ j = 11 ∨ j = 12)) → ¬ q = 44 → ¬ (34 ≤ q ∧ q ≤ 42) → a' q j = a q j) ∧ ∀ q j, ¬ (q = w ∧ (j = 4 ∨ j = 5)) → ¬ (q = w + 1 ∧ 1 ≤ j ∧ j ≤ 3) → ¬ (34 ≤ q ∧ q ≤ 36) → b' q j = b q j
theorem uTf_r : uTf w a a b b := ⟨fun _ _ _ _ _ _ _ _ => rfl, fun _ _ _ _ _ => rfl⟩
theorem uTf_t {a'' : xA} {b'' : xB} (h : uTf w a a' b b') (h' : uTf w a' a'' b' b'') : uTf w a a'' b b'' := ⟨fun q j e1 e2 e3 e4 e5 e6 => (h'.1 q j e1 e2 e3 e4 e5 e6).trans (h.1 q j e1 e2 e3 e4 e5 e6), fun q j e1 e2 e3 => (h'.2 q j e1 e2 e3).trans (h.2 q j e1 e2 e3)⟩
theorem uPg_o (h : uPg dr wp c cnt T n a0 a b) (e : ∀ q j, 3 ≤ q → q ≤ 12 → a' q j = a q j) (eb : b' 3 3 = b 3 3) (hA : xAr a') : uPg dr wp c cnt T n a0 a' b' := by
  obtain ⟨h1, h2, h3, h4, h5, h6, h7, h8⟩ := h
  have f : ∀ q j, q = 3 ∨ q = 4 ∨ q = 5 ∨ q = 6 ∨ q = 8 ∨ q = 9 ∨ q = 11 ∨ q = 12 → a' q j = a q j := fun q j g => e q j (by omega) (by omega)
  refine ⟨hA, uKs_f h2 (fun k => f 3 k (by decide)) (fun k => f 4 k (by decide)) eb, fun k => (f 6 k (by decide)).trans (h3 k), fun k k0 => by rw [f 6 k (by decide)]; exact h4 k k0, fun k k0 k1 => (f 5 k (by decide)).trans (h5 k k0 k1), fun p k p0 p1 k0 k1 => ?_, fun p p0 p1 => by rw [f 12 p (by decide)]; exact h7 p p0 p1, fun p i p0 p1 i0 i1 => by rw [f 11 _ (by decide)]; exact h8 p i p0 p1 i0 i1⟩
  obtain ⟨g1, g2⟩ := h6 p k p0 p1 k0 k1
  exact ⟨(f 9 _ (by decide)).trans g1, fun j t ht => (f 8 _ (by decide)).trans (g2 j t ht)⟩
theorem uCb_o (h : uCb dr wp c pr cnt W T n a0 a b) (e : ∀ q j, 3 ≤ q → q ≤ 20 → a' q j = a q j) (eb : ∀ q j, q = 3 ∨ q = 35 ∨ q = 36 → b' q j = b q j) (hA : xAr a') : uCb dr wp c pr cnt W T n a0 a' b' := by
  obtain ⟨h1, h2, h3, h4, h5⟩ := h
  refine ⟨uPg_o h1 (fun q j e1 e2 => e q j e1 (by omega)) (eb 3 3 (by decide)) hA, h2, fun p p0 p1 => ?_, fun j j0 j1 => ?_, uLx_o h5 (fun q j e1 e2 => e q j (by omega) e2)⟩
  · have e11 : ∀ j, a' 11 j = a 11 j := fun j => e 11 j (by decide) (by decide)
    obtain ⟨g1, g2⟩ := h3 p p0 p1
    exact ⟨fun i j i0 ij jc => by rw [e11, e11]; exact g1 i j i0 ij jc, fun k k0 k1 => by
      obtain ⟨i, i0, i1, i2⟩ := g2 k k0 k1
      exact ⟨i, i0, i1, by rw [e11]; exact i2⟩⟩
  · rw [eb 35 j (by decide), eb 36 j (by decide)]
    exact h4 j j0 j1
theorem uCw_o (h : uCw n w r a b) (e2 : ∀ j, a' (w + 2) j = a (w + 2) j) (e11 : a' w 11 = a w 11) (e4 : b' w 4 = b w 4) (e5 : b' w 5 = b w 5) (em : ∀ g, 1 ≤ g → g ≤ 3 → b' (w + 1) g = b (w + 1) g) : uCw n w r a' b' := by
  obtain ⟨h1, h2, h3, h4, h5, h6, h7⟩ := h
  exact ⟨h1, ⟨fun j j0 j1 => by rw [e4]; exact h2.1 j j0 j1, by rw [e4]; exact h2.2.1, fun x x0 xn hx => by rw [e5]; exact h2.2.2 x x0 xn hx⟩, fun f f0 f1 => uRf_c (h3 f f0 f1) (fun _ _ _ => rfl) (em f f0 f1), fun f f0 f1 hf => by rw [em f f0 (by omega)]; exact h4 f f0 f1 hf, h5, fun c c0 c1 => by rw [e2]; exact h6 c c0 c1, by rw [e11]; exact h7⟩
/-- what the class notes of a person's deed -/
noncomputable def uEt (dr wp pr cnt W : Int → Int) (T : Int → List Int) (n cd wt p : Int) (r : Int → Int) : Int := if r p = 7 then -1 else if uDc dr wp pr cnt W T n cd wt p r = -1 then 0 else uD (uDc dr wp pr cnt W T n cd wt p r) + 512 * uSg p (uDc dr wp pr cnt W T n cd wt p r) r 4 + (if p = 0 then 0 else (uWk dr wp pr cnt W T n r p + 1) * 8192)
theorem uOr3 {z s t : Int} (hz : 0 ≤ z ∧ z < 512) (hs : 0 ≤ s ∧ s ≤ 15) (ht : 0 ≤ t ∧ t ≤ 4) : xOr (z + 512 * s) (z + t * 8192) = z + 512 * s + t * 8192 := by
  have e9 : ((2 ^ 9 : Nat) : Int) = 512 := rfl
  have e13 : ((2 ^ 13 : Nat) : Int) = 8192 := rfl
  have o1 := uOrd (z := z) (q := s) 9 hz.1 (by omega) hs.1 (by omega)
  have o2 := uOrd (z := z) (q := t) 13 hz.1 (by omega) ht.1 (by omega)
  have o3 := uOrd (z := z + 512 * s) (q := t) 13 (by omega) (by omega) ht.1 (by omega)
  rw [e9] at o1
  rw [e13] at o2 o3
  rw [← o3, ← o2, show z + 512 * s = xOr z (s * 512) by omega]
  unfold xOr
  rw [Int32.ofInt_toInt, Int32.ofInt_toInt]
  have hh : ∀ u v y : Int32, (u ||| v) ||| (u ||| y) = (u ||| v) ||| y := fun u v y => by
    rw [Int32.or_assoc, Int32.or_assoc, ← Int32.or_assoc v u y, Int32.or_comm v u, Int32.or_assoc, ← Int32.or_assoc u u, Int32.or_self]
  rw [hh]
end
end
end
section
/-! the class plays a turn, by rows -/
section
set_option maxRecDepth 100000


section
variable {Ln : Nat} {xs : Nat → Int32} {ro : Nat → Nat × (Nat → Int32)} {d w : Nat} {Q : Option Value → pmS → Prop} {dr wp c pr cnt W : Int → Int} {T : Int → List Int} {n f p k x cd wt id : Int} {r r' : Int → Int} {a a' a0 : xA} {b b' : xB}
theorem u91w (hz : uWz w) (hp : 0 ≤ p ∧ p ≤ 3) (hd : 4 ≤ d) (hQ : Q (some (xV 0)) (xS a b)) : pmCs ro d 91 [.ref 43, .ref w, xV p, xV 0] (xS a b) Q := pmCs_deep (d := 4) (xg91 (w91z hz hp rfl (by decide) (fun e => absurd (by decide) e) (fun _ => hQ))) hd
theorem uMk_o (h : uMk w a) (e : ∀ j, a' (w + 2) j = a (w + 2) j) : uMk w a' := fun c c0 c1 => by rw [e]; exact h c c0 c1
theorem uS1_n (h : r p = 7 ∨ uDc dr wp pr cnt W T n cd wt p r = -1) : uS1 dr wp pr cnt W T n cd wt p r = r := by
  unfold uS1
  rw [if_pos h]
theorem uS1_y (h1 : ¬ r p = 7) (h2 : ¬ uDc dr wp pr cnt W T n cd wt p r = -1) : uS1 dr wp pr cnt W T n cd wt p r = uDe n p (uDc dr wp pr cnt W T n cd wt p r) r := by
  unfold uS1
  rw [if_neg (fun h => h.elim h1 h2)]
theorem uEt_d (h : r p = 7) : uEt dr wp pr cnt W T n cd wt p r = -1 := by
  unfold uEt
  rw [if_pos h]
theorem uEt_w (h1 : ¬ r p = 7) (h2 : uDc dr wp pr cnt W T n cd wt p r = -1) : uEt dr wp pr cnt W T n cd wt p r = 0 := by
  unfold uEt
  rw [if_neg h1, if_pos h2]
theorem uEt_y (h1 : ¬ r p = 7) (h2 : ¬ uDc dr wp pr cnt W T n cd wt p r = -1) : uEt dr wp pr cnt W T n cd wt p r = uD (uDc dr wp pr cnt W T n cd wt p r) + 512 * uSg p (uDc dr wp pr cnt W T n cd wt p r) r 4 + (if p = 0 then 0 else (uWk dr wp pr cnt W T n r p + 1) * 8192) := by
  unfold uEt
  rw [if_neg h1, if_neg h2]
/-- a deed of the class's, by rows -/
theorem u91r (hwo : uWo w) (hn0 : 0 ≤ n ∧ n ≤ 5) (hC : uCb dr wp c pr cnt W T n a0 a b) (hW : uCw n w r a b) (htn : 0 ≤ a w 6 ∧ a w 6 ≤ 1000) (hev : 0 ≤ r 119 ∧ r 119 ≤ 2000) (hp : 0 ≤ p ∧ p ≤ 3) (hk : 0 ≤ k ∧ k < 61) (hc : uCp n p k r) (hd : 4 ≤ d)
    (hQ : ∀ a' b', (∀ q j, ¬ q = w + 2 → ¬ q = w + 3 → ¬ (q = w ∧ (j = 7 ∨ j = 11)) → a' q j = a q j) → (∀ q j, ¬ (q = w ∧ (j = 4 ∨ j = 5)) → ¬ (q = w + 1 ∧ 1 ≤ j ∧ j ≤ 3) → b' q j = b q j) → uCb dr wp c pr cnt W T n a0 a' b' → uCw n w (uDe n p k r) a' b' → uDe n p k r 119 = r 119 + 1 → Q (some (xV (uD k + 512 * uSg p k r 4))) (xS a' b')) : pmCs ro d 91 [.ref 43, .ref w, xV p, xV (uD k)] (xS a b) Q := by
  obtain ⟨hz, hw, hw2⟩ := hwo
  obtain ⟨h1, h2, h3, h4, h5, h6, h7⟩ := hW
  obtain ⟨d1, d2, d3⟩ := uDe_v hn0.2 h1 hp hk (uCp_d hc)
  refine u91 hz hw hn0 h1 h2 h3 hC.1.1 hC.2.2.2.2 h6 htn (by rw [h7]; exact hev) hp hk hc hd (fun a' b' x1 A1 M1 e11 x2 V1 T1 R1 O1 => ?_)
  refine hQ a' b' x1 x2 (uCb_o hC (fun q j e1 e2 => x1 q j (by omega) (by omega) (by omega)) (fun q j e => x2 q j (by omega) (by omega)) A1) ⟨V1, T1, R1, O1, uKh_l hn0.2, M1, by rw [e11, h7, d3]⟩ d3
/-- strangerDoes -/
theorem u90 (hwo : uWo w) (hn0 : 0 ≤ n ∧ n ≤ 5) (hC : uCb dr wp c pr cnt W T n a0 a b) (hW : uCw n w r a b) (htn : 0 ≤ a w 6 ∧ a w 6 ≤ 999) (hev : 0 ≤ r 119 ∧ r 119 ≤ 2000) (hcd : cd = -1 ∨ ((0 ≤ cd ∧ cd < 61) ∧ (¬ r 0 = 7 → uCp n 0 cd r))) (hd : 5 ≤ d)
    (hQ : ∀ a' b', uTf w a a' b b' → uCb dr wp c pr cnt W T n a0 a' b' → uCw n w (uTr dr wp pr cnt W T n cd wt r 1) a' b' → a' w 6 = a w 6 + 1 → a' w 12 = 0 → (∀ j, 0 ≤ j → j < 3 → a' (w + 4) j = 0) → a' 44 0 = uEt dr wp pr cnt W T n cd wt 0 r → (∀ p, ¬ p = 0 → a' 44 p = a 44 p) → r 119 ≤ uTr dr wp pr cnt W T n cd wt r 1 119 → uTr dr wp pr cnt W T n cd wt r 1 119 ≤ r 119 + 1 → Q none (xS a' b')) : pmCs ro d 90 [.ref 43, .ref w, xV (uD cd)] (xS a b) Q := by
  have hz := hwo.1
  have hw := hwo.2
  have hb0 : uDc dr wp pr cnt W T n cd wt 0 r = cd := by
    unfold uDc
    rw [if_pos rfl]
  have e1 : uTr dr wp pr cnt W T n cd wt r 1 = uS1 dr wp pr cnt W T n cd wt 0 r := rfl
  rw [e1] at hQ
  have e0 : uSl (b w 4) 0 = r 0 + 1 := (hW.2.1.1 0 (by decide) (by decide)).trans (uWs_p (by decide))
  have e6 : (uFg w a) w 6 = a w 6 := by
    unfold uFg
    rw [xUn (by omega), xUn (by omega), xUn (by omega)]
  have key : ∀ A, A = xU (xU (uFg w a) w 12 0) w 6 ((uFg w a) w 6 + 1) → (∀ q j, ¬ q = w + 4 → ¬ (q = w ∧ (j = 6 ∨ j = 12)) → A q j = a q j) ∧ A w 6 = a w 6 + 1 ∧ A w 12 = 0 ∧ (∀ j, 0 ≤ j → j < 3 → A (w + 4) j = 0) ∧ xAr A := by
    intro A eA
    rw [e6] at eA
    subst eA
    refine ⟨fun q j g1 g2 => ?_, xUa, ?_, fun j j0 j1 => ?_, xAr_u (xAr_u ?_ xR0) ⟨by omega, by omega⟩⟩
    · rw [xUo (fun h => g2 ⟨h.1, Or.inl h.2⟩), xUo (fun h => g2 ⟨h.1, Or.inr h.2⟩)]
      unfold uFg
      rw [xUn g1, xUn g1, xUn g1]
    · rw [xUk (by decide), xUa]
    · rw [xUn (by omega), xUn (by omega)]
      unfold uFg
      by_cases j2 : j = 2
      · rw [j2, xUa]
      · rw [xUk j2]
        by_cases j1 : j = 1
        · rw [j1, xUa]
        · rw [xUk j1, show j = 0 by omega, xUa]
    · unfold uFg
      exact xAr_u (xAr_u (xAr_u hC.1.1 xR0) xR0) xR0
  obtain ⟨A, eA⟩ : ∃ A, A = xU (xU (uFg w a) w 12 0) w 6 ((uFg w a) w 6 + 1) := ⟨_, rfl⟩
  obtain ⟨f1, f2, f3, f4, f5⟩ := key A eA
  have CA : uCb dr wp c pr cnt W T n a0 A b := uCb_o hC (fun q j g1 g2 => f1 q j (by omega) (by omega)) (fun _ _ _ => rfl) f5
  have WA : uCw n w r A b := uCw_o hW (fun j => f1 _ j (by omega) (by omega)) (f1 w 11 (by omega) (by omega)) rfl rfl (fun _ _ _ => rfl)
  have done : ∀ (a3 : xA) (b3 : xB) (z : Int), (∀ q j, ¬ q = w + 2 → ¬ q = w + 3 → ¬ (q = w ∧ (j = 7 ∨ j = 11)) → a3 q j = A q j) → (∀ q j, ¬ (q = w ∧ (j = 4 ∨ j = 5)) → ¬ (q = w + 1 ∧ 1 ≤ j ∧ j ≤ 3) → b3 q j = b q j) → uCb dr wp c pr cnt W T n a0 a3 b3 → uCw n w (uS1 dr wp pr cnt W T n cd wt 0 r) a3 b3 → z = uEt dr wp pr cnt W T n cd wt 0 r → xR z → r 119 ≤ uS1 dr wp pr cnt W T n cd wt 0 r 119 → uS1 dr wp pr cnt W T n cd wt 0 r 119 ≤ r 119 + 1 → Q none (xS (xU a3 44 0 z) b3) := by
    intro a3 b3 z x1 x2 C3 W3 hzz hzr g1 g2
    refine hQ _ b3 ⟨fun q j e1 e2 e3 e4 e5 e6 => ?_, fun q j e1 e2 _ => x2 q j e1 e2⟩ (uCb_o C3 (fun q j e1 e2 => xUn (by omega)) (fun _ _ _ => rfl) (xAr_u C3.1.1 hzr)) (uCw_o W3 (fun j => xUn (by omega)) (xUn (by omega)) rfl rfl (fun _ _ _ => rfl)) ?_ ?_ (fun j j0 j1 => ?_) ?_ (fun p hp => ?_) g1 g2
    · rw [xUn e5, x1 q j e1 e2 (by omega)]
      exact f1 q j e3 (by omega)
    · rw [xUn (by omega), x1 w 6 (by omega) (by omega) (by omega)]
      exact f2
    · rw [xUn (by omega), x1 w 12 (by omega) (by omega) (by omega)]
      exact f3
    · rw [xUn (by omega), x1 (w + 4) j (by omega) (by omega) (by omega)]
      exact f4 j j0 j1
    · rw [xUa]
      exact hzz
    · rw [xUk hp, x1 44 p (by omega) (by omega) (by omega)]
      exact f1 44 p (by omega) (by omega)
  refine pmCs_deep (d := 5) (xg90 (w90 hz (by decide) (fun h8 => ?_) (fun h8 => ?_))) hd
  · have hal : ¬ r 0 = 7 := by omega
    rw [← eA]
    by_cases hm : cd = -1
    · have hd0 : uD cd = 0 := by rw [hm]; rfl
      rw [hd0]
      refine u91w hz (by decide) (by decide) (w90s ?_)
      have es : uS1 dr wp pr cnt W T n cd wt 0 r = r := uS1_n (Or.inr (hb0.trans hm))
      have ee : uEt dr wp pr cnt W T n cd wt 0 r = 0 := uEt_w hal (hb0.trans hm)
      exact done A b 0 (fun _ _ _ _ _ => rfl) (fun _ _ _ _ => rfl) CA (by rw [es]; exact WA) ee.symm xR0 (by rw [es]; omega) (by rw [es]; omega)
    · obtain ⟨hk, hcp⟩ := hcd.elim (fun h => absurd h hm) id
      have hcp := hcp hal
      refine u91r hwo hn0 CA WA (by rw [f2]; omega) hev (by decide) hk hcp (by decide) (fun a3 b3 x1 x2 C3 W3 e119 => w90s ?_)
      have es : uS1 dr wp pr cnt W T n cd wt 0 r = uDe n 0 cd r := by
        rw [uS1_y hal (by rw [hb0]; exact hm), hb0]
      have ee : uEt dr wp pr cnt W T n cd wt 0 r = uD cd + 512 * uSg 0 cd r 4 := by
        rw [uEt_y hal (by rw [hb0]; exact hm), hb0, if_pos rfl, Int.add_zero]
      have hDb := uD_b cd hk.2
      have hsb := uSg_b (p := 0) (k := cd) (r := r) 4
      have h16 : ((2 ^ 4 : Nat) : Int) = 16 := rfl
      exact done a3 b3 _ x1 x2 C3 (by rw [es]; exact W3) ee.symm ⟨by omega, by omega⟩ (by rw [es, e119]; omega) (by rw [es, e119]; omega)
  · have hde : r 0 = 7 := by omega
    rw [← eA]
    have es : uS1 dr wp pr cnt W T n cd wt 0 r = r := uS1_n (Or.inl hde)
    exact done A b (-1) (fun _ _ _ _ _ => rfl) (fun _ _ _ _ => rfl) CA (by rw [es]; exact WA) (uEt_d hde).symm ⟨by decide, by decide⟩ (by rw [es]; omega) (by rw [es]; omega)
/-- what stands while the folk play -/
def uTn (dr wp c pr cnt W : Int → Int) (T : Int → List Int) (n cd wt : Int) (a0 : xA) (w : Nat) (R : Int → Int) (a : xA) (b : xB) (q : Nat) (a1 : xA) (b1 : xB) : Prop := uTf w a a1 b b1 ∧ uCb dr wp c pr cnt W T n a0 a1 b1 ∧ uCw n w (uTr dr wp pr cnt W T n cd wt R q) a1 b1 ∧ (a1 w 6 = a w 6 ∧ a1 w 12 = a w 12 ∧ ∀ j, a1 (w + 4) j = a (w + 4) j) ∧ (0 ≤ uTr dr wp pr cnt W T n cd wt R q 119 ∧ uTr dr wp pr cnt W T n cd wt R q 119 ≤ uTr dr wp pr cnt W T n cd wt R 1 119 + (q : Int)) ∧ a1 44 0 = a 44 0 ∧ ∀ p : Nat, 1 ≤ p → p < q → a1 44 p = uEt dr wp pr cnt W T n cd wt p (uTr dr wp pr cnt W T n cd wt R p)
theorem uTn_1 {R : Int → Int} {q : Nat} {a1 : xA} {b1 : xB} {z : Int} (hwo : uWo w) (h1 : uTf w a a1 b b1) (h2 : uCb dr wp c pr cnt W T n a0 a1 b1) (h3 : uCw n w (uTr dr wp pr cnt W T n cd wt R (q + 1)) a1 b1) (h4 : a1 w 6 = a w 6 ∧ a1 w 12 = a w 12 ∧ ∀ j, a1 (w + 4) j = a (w + 4) j) (h5 : 0 ≤ uTr dr wp pr cnt W T n cd wt R (q + 1) 119 ∧ uTr dr wp pr cnt W T n cd wt R (q + 1) 119 ≤ uTr dr wp pr cnt W T n cd wt R 1 119 + ((q + 1 : Nat) : Int)) (h6 : a1 44 0 = a 44 0) (h7 : ∀ p : Nat, 1 ≤ p → p < q → a1 44 p = uEt dr wp pr cnt W T n cd wt p (uTr dr wp pr cnt W T n cd wt R p)) (hq : 1 ≤ q) (hzz : z = uEt dr wp pr cnt W T n cd wt q (uTr dr wp pr cnt W T n cd wt R q)) (hzr : xR z) : uTn dr wp c pr cnt W T n cd wt a0 w R a b (q + 1) (xU a1 44 (q : Int) z) b1 := by
  have hw := hwo.2
  refine ⟨⟨fun q j e1 e2 e3 e4 e5 e6 => by rw [xUn e5]; exact h1.1 q j e1 e2 e3 e4 e5 e6, h1.2⟩, uCb_o h2 (fun q j e1 e2 => xUn (by omega)) (fun _ _ _ => rfl) (xAr_u h2.1.1 hzr), uCw_o h3 (fun j => xUn (by omega)) (xUn (by omega)) rfl rfl (fun _ _ _ => rfl), ⟨by rw [xUn (by omega)]; exact h4.1, by rw [xUn (by omega)]; exact h4.2.1, fun j => by rw [xUn (by omega)]; exact h4.2.2 j⟩, h5, by rw [xUk (by omega)]; exact h6, fun p p1 p2 => ?_⟩
  by_cases e : p = q
  · rw [e, xUa]
    exact hzz
  · rw [xUk (by omega)]
    exact h7 p p1 (by omega)
/-- folkDo -/
theorem u97 {R : Int → Int} (hwo : uWo w) (hK : uRk pr cnt W T) (hn0 : 0 ≤ n ∧ n ≤ 5) (hC : uCb dr wp c pr cnt W T n a0 a b) (hW : uCw n w (uTr dr wp pr cnt W T n cd wt R 1) a b) (htn : 0 ≤ a w 6 ∧ a w 6 ≤ 1000) (hev : 0 ≤ uTr dr wp pr cnt W T n cd wt R 1 119 ∧ uTr dr wp pr cnt W T n cd wt R 1 119 ≤ 1900) (hid : 0 ≤ id ∧ id ≤ 3) (hiw : ∀ p, 1 ≤ p → p ≤ 3 → (p = id ↔ p = wt)) (hd : 10 ≤ d)
    (hQ : ∀ a' b', uTf w a a' b b' → uCb dr wp c pr cnt W T n a0 a' b' → uCw n w (uTr dr wp pr cnt W T n cd wt R 4) a' b' → a' w 6 = a w 6 → a' w 12 = a w 12 → (∀ j, a' (w + 4) j = a (w + 4) j) → (0 ≤ uTr dr wp pr cnt W T n cd wt R 4 119 ∧ uTr dr wp pr cnt W T n cd wt R 4 119 ≤ uTr dr wp pr cnt W T n cd wt R 1 119 + 4) → a' 44 0 = a 44 0 → (∀ p : Nat, 1 ≤ p → p < 4 → a' 44 p = uEt dr wp pr cnt W T n cd wt p (uTr dr wp pr cnt W T n cd wt R p)) → Q none (xS a' b')) : pmCs (pmRo Ln xs) d 97 [.ref 43, .ref w, xV id] (xS a b) Q := by
  have hz := hwo.1
  have hw := hwo.2
  refine pmCs_deep (d := 10) (xg97 (w97 ?_)) hd
  have loop : ∀ (m q : Nat) (a1 : xA) (b1 : xB) (v4 : Option Value), q + m = 4 → 1 ≤ q → uTn dr wp c pr cnt W T n cd wt a0 w R a b q a1 b1 → pmWp (pmRo Ln xs) 9 4 97 0 2 [some (.ref 43), some (.ref w), some (xV id), some (xV (q : Int)), v4] [] (xS a1 b1) Q := by
    intro m
    induction m with
    | zero =>
      intro q a1 b1 v4 hq q1 hI
      have e4 : q = 4 := by omega
      subst e4
      obtain ⟨h1, h2, h3, h4, h5, h6, h7⟩ := hI
      refine w97p hz hid (by decide) (by decide) (fun _ => ?_) (fun e => absurd (by decide) e) (fun e => absurd (by decide) e) (fun e => absurd (by decide) e)
      refine u98 hz hw.1 h2.1.1 h2.2.2.2.2 h3.2.2.2.2.2.1 (by rw [h4.1]; exact htn) (by decide) (fun a3 h3' => w97r hz hid (by decide) (by decide) ?_)
      obtain ⟨g1, g2, g3⟩ := h3'
      refine hQ a3 b1 (uTf_t h1 ⟨fun q j e1 e2 e3 e4 e5 e6 => g1 q j e1 e2 (by omega), fun _ _ _ _ _ => rfl⟩) (uCb_o h2 (fun q j e1 e2 => g1 q j (by omega) (by omega) (by omega)) (fun _ _ _ => rfl) g2) ?_ ?_ ?_ (fun j => ?_) h5 ?_ (fun p p1 p2 => ?_)
      · obtain ⟨k1, k2, k3, k4, k5, k6, k7⟩ := h3
        exact ⟨k1, k2, k3, k4, k5, g3, by rw [g1 w 11 (by omega) (by omega) (by omega)]; exact k7⟩
      · rw [g1 w 6 (by omega) (by omega) (by omega)]
        exact h4.1
      · rw [g1 w 12 (by omega) (by omega) (by omega)]
        exact h4.2.1
      · rw [g1 (w + 4) j (by omega) (by omega) (by omega)]
        exact h4.2.2 j
      · rw [g1 44 0 (by omega) (by omega) (by omega)]
        exact h6
      · rw [g1 44 p (by omega) (by omega) (by omega)]
        exact h7 p p1 p2
    | succ m ih =>
      intro q a1 b1 v4 hq q1 hI
      have hq3 : 1 ≤ (q : Int) ∧ (q : Int) ≤ 3 := by omega
      have hq4 : 1 ≤ (q : Int) ∧ (q : Int) ≤ 4 := by omega
      obtain ⟨rq, erq⟩ : ∃ rq, uTr dr wp pr cnt W T n cd wt R q = rq := ⟨_, rfl⟩
      have es1 : uTr dr wp pr cnt W T n cd wt R (q + 1) = uS1 dr wp pr cnt W T n cd wt q rq := by
        rw [← erq]
        rfl
      have nxt : ∀ (a3 : xA) (b3 : xB) (v4 : Option Value), uTn dr wp c pr cnt W T n cd wt a0 w R a b (q + 1) a3 b3 → pmWp (pmRo Ln xs) 9 4 97 0 76 [some (.ref 43), some (.ref w), some (xV id), some (xV (q : Int)), v4] [] (xS a3 b3) Q := fun a3 b3 v4 h => w97n hz hid hq3 (by decide) (ih (q + 1) a3 b3 v4 (by omega) (by omega) h)
      have row : ∀ a2 b2, uTn dr wp c pr cnt W T n cd wt a0 w R a b q a2 b2 → uRv n rq ∧ (∀ j, 0 ≤ j → j < 4 → uSl (b2 w 4) j = rq j + 1) := fun a2 b2 h => by
        obtain ⟨h1, h2, h3, h4, h5, h6, h7⟩ := h
        rw [erq] at h3
        exact ⟨h3.1, fun j j0 j1 => (h3.2.1.1 j j0 (by omega)).trans (uWs_p j1)⟩
      obtain ⟨hrv, esl⟩ := row a1 b1 hI
      have eq1 := esl q (by omega) (by omega)
      -- the deed
      have at53 : ¬ rq q = 7 → ∀ (a2 : xA) (b2 : xB) (z : Int), uTn dr wp c pr cnt W T n cd wt a0 w R a b q a2 b2 → (uDc dr wp pr cnt W T n cd wt q rq = -1 ∧ z = 0 ∨ ¬ uDc dr wp pr cnt W T n cd wt q rq = -1 ∧ z = uD (uDc dr wp pr cnt W T n cd wt q rq) + (uWk dr wp pr cnt W T n rq q + 1) * 8192 ∧ (0 ≤ uWk dr wp pr cnt W T n rq q ∧ uWk dr wp pr cnt W T n rq q ≤ 2) ∧ (0 ≤ uDc dr wp pr cnt W T n cd wt q rq ∧ uDc dr wp pr cnt W T n cd wt q rq < 61) ∧ uCp n q (uDc dr wp pr cnt W T n cd wt q rq) rq) → pmWp (pmRo Ln xs) 9 4 97 0 53 [some (.ref 43), some (.ref w), some (xV id), some (xV (q : Int)), v4] [xV z] (xS a2 b2) Q := by
        intro hal a2 b2 z hJ hzc
        obtain ⟨h1, h2, h3, h4, h5, h6, h7⟩ := hJ
        rw [erq] at h3 h5
        rcases hzc with ⟨hk, hz0⟩ | ⟨hk, hz0, hwk, hkb, hcp⟩
        · subst hz0
          refine w97c hz hid hq3 (by decide) (by decide) ?_
          refine u91w hz (by omega) (by decide) (w97s hz hid hq3 (by decide) ?_)
          have es : uS1 dr wp pr cnt W T n cd wt q rq = rq := uS1_n (Or.inr hk)
          refine nxt _ _ _ (uTn_1 hwo h1 h2 (by rw [es1, es]; exact h3) h4 (by rw [es1, es]; omega) h6 h7 q1 ?_ ?_)
          · rw [erq, uEt_w hal hk]
            rfl
          · exact ⟨by decide, by decide⟩
        · obtain ⟨k, ek⟩ : ∃ k, uDc dr wp pr cnt W T n cd wt q rq = k := ⟨_, rfl⟩
          rw [ek] at hz0 hkb hcp
          have hkn : ¬ k = -1 := by rw [← ek]; exact hk
          have hDb := uD_b k hkb.2
          refine w97c hz hid hq3 (by omega) (by decide) ?_
          have ez : z % 512 = uD k := by omega
          rw [ez]
          refine u91r hwo hn0 h2 h3 (by rw [h4.1]; exact htn) ⟨h5.1, by omega⟩ (by omega) hkb hcp (by decide) (fun a3 b3 x1 x2 C3 W3 e119 => w97s hz hid hq3 (by decide) ?_)
          have hsb := uSg_b (p := q) (k := k) (r := rq) 4
          have h16 : ((2 ^ 4 : Nat) : Int) = 16 := rfl
          have eor := uOr3 (z := uD k) (s := uSg q k rq 4) (t := uWk dr wp pr cnt W T n rq q + 1) ⟨hDb.1, by omega⟩ ⟨hsb.1, by omega⟩ (by omega)
          rw [hz0, eor]
          have es : uS1 dr wp pr cnt W T n cd wt q rq = uDe n q k rq := by
            rw [uS1_y hal (by rw [ek]; exact hkn), ek]
          refine nxt _ _ _ (uTn_1 hwo (uTf_t h1 ⟨fun q j e1 e2 e3 e4 e5 e6 => x1 q j e1 e2 (by omega), fun q j e1 e2 e3 => x2 q j e1 e2⟩) C3 (by rw [es1, es]; exact W3) ⟨by rw [x1 w 6 (by omega) (by omega) (by omega)]; exact h4.1, by rw [x1 w 12 (by omega) (by omega) (by omega)]; exact h4.2.1, fun j => by rw [x1 (w + 4) j (by omega) (by omega) (by omega)]; exact h4.2.2 j⟩ (by rw [es1, es, e119]; omega) (by rw [x1 44 0 (by omega) (by omega) (by omega)]; exact h6) (fun p p1 p2 => by rw [x1 44 p (by omega) (by omega) (by omega)]; exact h7 p p1 p2) q1 ?_ ?_)
          · rw [erq, uEt_y hal hk, ek, if_neg (by omega)]
          · exact ⟨by omega, by omega⟩
      refine w97p hz hid hq4 (by decide) (fun e => absurd e (by omega)) (fun _ h8 hnid => ?_) (fun _ h8 hid1 => ?_) (fun _ h8 => ?_)
      · have hal : ¬ rq q = 7 := by omega
        have hI0 := hI
        obtain ⟨h1, h2, h3, h4, h5, h6, h7⟩ := hI
        rw [erq] at h3
        have hnw : ¬ (q : Int) = wt := fun e => hnid ((hiw q hq3.1 hq3.2).mpr e)
        have hms := uMn_s hn0 h3.1 hq3 (h3.2.2.1 q hq3.1 hq3.2) (h3.2.2.2.1 q hq3.1 (by omega) hal) h3.2.2.2.2.1 hal
        have hok := (uMn_ok hn0 h3.1 hq3 hal).1
        have hok2 : uOk q (uSl (b1 (w + 1) q)) := uOk_q hq3 hms hok
        refine u85 h2.1 h2.2.1 h2.2.2.1 h2.2.2.2.1 hq3 hok2 (h3.2.2.1 q hq3.1 hq3.2).1 (by decide) (fun a2 b2 k z x2 A2 M2 hch z1 z2 => ?_)
        have hch2 : uChs (cnt q) (fun i => W (q * 3 + i)) (fun i => uFd dr wp pr (T (q * 3 + i)) q (uMn n rq q)) k := uChs_c hch (fun i i0 i1 => uFd_c hq3 (uTks_k (hK.2 q i hq3.1 hq3.2 i0 i1).1) hms)
        have ewk := uWk_e hch2
        have edc : uDc dr wp pr cnt W T n cd wt q rq = uWd dr wp pr cnt W T n rq q := by
          unfold uDc
          rw [if_neg (by omega), if_neg hnw]
        obtain ⟨wb1, wb2⟩ := uWd_b (dr := dr) (wp := wp) (n := n) hK hq3 hch2
        have hJ : uTn dr wp c pr cnt W T n cd wt a0 w R a b q a2 b2 := by
          obtain ⟨y1, y2⟩ := x2
          have y1' : ∀ q j, ¬ (34 ≤ q ∧ q ≤ 42) → a2 q j = a1 q j := fun q j e => y1 q j (by omega) (by omega) (by omega) (by omega) (by omega) (by omega) (by omega)
          have y2' : ∀ q j, ¬ (34 ≤ q ∧ q ≤ 36) → b2 q j = b1 q j := fun q j e => y2 q j (by omega) (by omega) (by omega)
          refine ⟨uTf_t h1 ⟨fun q j e1 e2 e3 e4 e5 e6 => y1' q j e6, fun q j e1 e2 e3 => y2' q j e3⟩, ⟨uPg_x h2.1 ⟨y1, y2⟩ A2, h2.2.1, ?_, M2, uLx_o h2.2.2.2.2 (fun q j e1 e2 => y1' q j (by omega))⟩, ?_, ⟨by rw [y1' w 6 (by omega)]; exact h4.1, by rw [y1' w 12 (by omega)]; exact h4.2.1, fun j => by rw [y1' (w + 4) j (by omega)]; exact h4.2.2 j⟩, h5, by rw [y1' 44 0 (by omega)]; exact h6, fun p p1 p2 => by rw [y1' 44 p (by omega)]; exact h7 p p1 p2⟩
          · intro p p0 p1
            have e11 : ∀ j, a2 11 j = a1 11 j := fun j => y1' 11 j (by omega)
            obtain ⟨g1, g2⟩ := h2.2.2.1 p p0 p1
            exact ⟨fun i j i0 ij jc => by rw [e11, e11]; exact g1 i j i0 ij jc, fun k k0 k1 => by
              obtain ⟨i, i0, i1, i2⟩ := g2 k k0 k1
              exact ⟨i, i0, i1, by rw [e11]; exact i2⟩⟩
          · rw [erq]
            exact uCw_o h3 (fun j => y1' _ j (by omega)) (y1' w 11 (by omega)) (y2' w 4 (by omega)) (y2' w 5 (by omega)) (fun g g0 g1 => y2' (w + 1) g (by omega))
        refine at53 hal a2 b2 z hJ ?_
        rw [edc]
        by_cases hk1 : k = -1
        · refine Or.inl ⟨?_, z1 hk1⟩
          unfold uWd
          rw [ewk, if_pos hk1]
        · have ewd : uWd dr wp pr cnt W T n rq q = uFd dr wp pr (T (q * 3 + k)) q (uMn n rq q) := by
            unfold uWd
            rw [ewk, if_neg hk1]
          have hne : ¬ uWd dr wp pr cnt W T n rq q = -1 := by
            rw [ewd]
            rcases hch2 with g | g
            · exact absurd g.1 hk1
            · exact g.2.1
          obtain ⟨c1, c2⟩ := uWd_c hrv hq3 hal hne
          refine Or.inr ⟨hne, ?_, by rw [ewk]; omega, c1, c2⟩
          rw [z2 hk1, ewk, ewd]
          rcases hch2 with g | g
          · exact absurd g.1 hk1
          · rw [uFd_c hq3 (uTks_k (hK.2 q k hq3.1 hq3.2 g.1.1 g.1.2).1) hms]
      · have hal : ¬ rq q = 7 := by omega
        refine at53 hal a1 b1 0 hI (Or.inl ⟨?_, rfl⟩)
        unfold uDc
        rw [if_neg (by omega), if_pos ((hiw q hq3.1 hq3.2).mp hid1)]
      · have hde : rq q = 7 := by omega
        obtain ⟨h1, h2, h3, h4, h5, h6, h7⟩ := hI
        have es : uS1 dr wp pr cnt W T n cd wt q rq = rq := uS1_n (Or.inl hde)
        rw [erq] at h3 h5
        refine nxt _ _ _ (uTn_1 hwo h1 h2 (by rw [es1, es]; exact h3) h4 (by rw [es1, es]; omega) h6 h7 q1 ?_ ⟨by decide, by decide⟩)
        rw [erq, uEt_d hde]
  refine loop 3 1 a b _ rfl (by decide) ⟨uTf_r, hC, hW, ⟨rfl, rfl, fun _ => rfl⟩, ⟨hev.1, by omega⟩, rfl, fun p p1 p2 => by omega⟩
/-- playTurn -/
theorem u89 (hwo : uWo w) (hK : uRk pr cnt W T) (hn0 : 0 ≤ n ∧ n ≤ 5) (hC : uCb dr wp c pr cnt W T n a0 a b) (hW : uCw n w r a b) (htn : 0 ≤ a w 6 ∧ a w 6 ≤ 999) (hev : 0 ≤ r 119 ∧ r 119 ≤ 1800) (hcd : cd = -1 ∨ ((0 ≤ cd ∧ cd < 61) ∧ (¬ r 0 = 7 → uCp n 0 cd r))) (hid : 0 ≤ id ∧ id ≤ 3) (hiw : ∀ p, 1 ≤ p → p ≤ 3 → (p = id ↔ p = wt)) (hd : 11 ≤ d)
    (hQ : ∀ a' b', uTf w a a' b b' → uCb dr wp c pr cnt W T n a0 a' b' → uCw n w (uTr dr wp pr cnt W T n cd wt r 4) a' b' → a' w 6 = a w 6 + 1 → a' w 12 = 0 → (∀ j, 0 ≤ j → j < 3 → a' (w + 4) j = 0) → (0 ≤ uTr dr wp pr cnt W T n cd wt r 4 119 ∧ uTr dr wp pr cnt W T n cd wt r 4 119 ≤ r 119 + 5) → (∀ p : Nat, p < 4 → a' 44 p = uEt dr wp pr cnt W T n cd wt p (uTr dr wp pr cnt W T n cd wt r p)) → Q none (xS a' b')) : pmCs (pmRo Ln xs) d 89 [.ref 43, .ref w, xV (uD cd), xV id] (xS a b) Q := by
  refine pmCs_deep (d := 11) (xg89 (w89 ?_)) hd
  refine u90 (cd := cd) (wt := wt) hwo hn0 hC hW htn ⟨hev.1, by omega⟩ hcd (by decide) (fun a1 b1 f1 C1 W1 e6 e12 e4 e0 _ g1 g2 => w89a ?_)
  refine u97 hwo hK hn0 C1 W1 (by omega) (by omega) hid hiw (by decide) (fun a2 b2 f2 C2 W2 i6 i12 i4 i119 i0 ip => w89b ?_)
  refine hQ a2 b2 (uTf_t f1 f2) C2 W2 (by rw [i6, e6]) (by rw [i12, e12]) (fun j j0 j1 => by rw [i4 j]; exact e4 j j0 j1) (by omega) (fun p hp => ?_)
  by_cases p0 : p = 0
  · subst p0
    exact i0.trans e0
  · exact ip p (by omega) hp
end
end
end
