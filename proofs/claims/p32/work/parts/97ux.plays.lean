/-! exact: the reference plays -/
section
set_option maxRecDepth 100000
theorem xi208 : pmInf[208]? = some pmI_208 := rfl
theorem xc208_0 : pmCode 208 0 = some (.iconst 0) ∧ 0 + 1 = 1 := ⟨rfl, rfl⟩
theorem xc208_1 : pmCode 208 1 = some (.istore_n 3) ∧ 1 + 1 = 2 := ⟨rfl, rfl⟩
theorem xc208_2 : pmCode 208 2 = some (.iload_n 3) ∧ 2 + 1 = 3 := ⟨rfl, rfl⟩
theorem xc208_3 : pmCode 208 3 = some (.iconst 4) ∧ 3 + 1 = 4 := ⟨rfl, rfl⟩
theorem xc208_4 : pmCode 208 4 = some (.if_icmp .ge 124) ∧ ((4 : Nat) : Int) + 124 = ((128 : Nat) : Int) ∧ 4 + 3 = 7 := ⟨rfl, rfl, rfl⟩
theorem xc208_7 : pmCode 208 7 = some (.aload_n 0) ∧ 7 + 1 = 8 := ⟨rfl, rfl⟩
theorem xc208_8 : pmCode 208 8 = some (.getfield 106) ∧ 8 + 3 = 11 := ⟨rfl, rfl⟩
theorem xc208_11 : pmCode 208 11 = some (.iload_n 3) ∧ 11 + 1 = 12 := ⟨rfl, rfl⟩
theorem xc208_12 : pmCode 208 12 = some (.aload_n 0) ∧ 12 + 1 = 13 := ⟨rfl, rfl⟩
theorem xc208_13 : pmCode 208 13 = some (.iload_n 3) ∧ 13 + 1 = 14 := ⟨rfl, rfl⟩
theorem xc208_14 : pmCode 208 14 = some (.invokevirtual 253) ∧ 14 + 3 = 17 := ⟨rfl, rfl⟩
theorem xc208_17 : pmCode 208 17 = some .bastore ∧ 17 + 1 = 18 := ⟨rfl, rfl⟩
theorem xc208_18 : pmCode 208 18 = some (.aload_n 0) ∧ 18 + 1 = 19 := ⟨rfl, rfl⟩
theorem xc208_19 : pmCode 208 19 = some (.getfield 97) ∧ 19 + 3 = 22 := ⟨rfl, rfl⟩
theorem xc208_22 : pmCode 208 22 = some (.iload_n 3) ∧ 22 + 1 = 23 := ⟨rfl, rfl⟩
theorem xc208_23 : pmCode 208 23 = some (.iconst (-1)) ∧ 23 + 1 = 24 := ⟨rfl, rfl⟩
theorem xc208_24 : pmCode 208 24 = some .iastore ∧ 24 + 1 = 25 := ⟨rfl, rfl⟩
theorem xc208_25 : pmCode 208 25 = some (.aload_n 0) ∧ 25 + 1 = 26 := ⟨rfl, rfl⟩
theorem xc208_26 : pmCode 208 26 = some (.getfield 100) ∧ 26 + 3 = 29 := ⟨rfl, rfl⟩
theorem xc208_29 : pmCode 208 29 = some (.iload_n 3) ∧ 29 + 1 = 30 := ⟨rfl, rfl⟩
theorem xc208_30 : pmCode 208 30 = some (.iconst (-1)) ∧ 30 + 1 = 31 := ⟨rfl, rfl⟩
theorem xc208_31 : pmCode 208 31 = some .iastore ∧ 31 + 1 = 32 := ⟨rfl, rfl⟩
theorem xc208_32 : pmCode 208 32 = some (.aload_n 0) ∧ 32 + 1 = 33 := ⟨rfl, rfl⟩
theorem xc208_33 : pmCode 208 33 = some (.getfield 103) ∧ 33 + 3 = 36 := ⟨rfl, rfl⟩
theorem xc208_36 : pmCode 208 36 = some (.iload_n 3) ∧ 36 + 1 = 37 := ⟨rfl, rfl⟩
theorem xc208_37 : pmCode 208 37 = some (.iconst (-1)) ∧ 37 + 1 = 38 := ⟨rfl, rfl⟩
theorem xc208_38 : pmCode 208 38 = some .iastore ∧ 38 + 1 = 39 := ⟨rfl, rfl⟩
theorem xc208_39 : pmCode 208 39 = some (.aload_n 0) ∧ 39 + 1 = 40 := ⟨rfl, rfl⟩
theorem xc208_40 : pmCode 208 40 = some (.getfield 106) ∧ 40 + 3 = 43 := ⟨rfl, rfl⟩
theorem xc208_43 : pmCode 208 43 = some (.iload_n 3) ∧ 43 + 1 = 44 := ⟨rfl, rfl⟩
theorem xc208_44 : pmCode 208 44 = some .baload ∧ 44 + 1 = 45 := ⟨rfl, rfl⟩
theorem xc208_45 : pmCode 208 45 = some (.ifCond .ne 6) ∧ ((45 : Nat) : Int) + 6 = ((51 : Nat) : Int) ∧ 45 + 3 = 48 := ⟨rfl, rfl, rfl⟩
theorem xc208_48 : pmCode 208 48 = some (.goto 74) ∧ ((48 : Nat) : Int) + 74 = ((122 : Nat) : Int) := ⟨rfl, rfl⟩
theorem xc208_51 : pmCode 208 51 = some (.iload_n 3) ∧ 51 + 1 = 52 := ⟨rfl, rfl⟩
theorem xc208_52 : pmCode 208 52 = some (.ifCond .ne 13) ∧ ((52 : Nat) : Int) + 13 = ((65 : Nat) : Int) ∧ 52 + 3 = 55 := ⟨rfl, rfl, rfl⟩
theorem xc208_55 : pmCode 208 55 = some (.aload_n 0) ∧ 55 + 1 = 56 := ⟨rfl, rfl⟩
theorem xc208_56 : pmCode 208 56 = some (.getfield 97) ∧ 56 + 3 = 59 := ⟨rfl, rfl⟩
theorem xc208_59 : pmCode 208 59 = some (.iload_n 3) ∧ 59 + 1 = 60 := ⟨rfl, rfl⟩
theorem xc208_60 : pmCode 208 60 = some (.iload_n 1) ∧ 60 + 1 = 61 := ⟨rfl, rfl⟩
theorem xc208_61 : pmCode 208 61 = some .iastore ∧ 61 + 1 = 62 := ⟨rfl, rfl⟩
theorem xc208_62 : pmCode 208 62 = some (.goto 33) ∧ ((62 : Nat) : Int) + 33 = ((95 : Nat) : Int) := ⟨rfl, rfl⟩
theorem xc208_65 : pmCode 208 65 = some (.iload_n 3) ∧ 65 + 1 = 66 := ⟨rfl, rfl⟩
theorem xc208_66 : pmCode 208 66 = some (.iload_n 2) ∧ 66 + 1 = 67 := ⟨rfl, rfl⟩
theorem xc208_67 : pmCode 208 67 = some (.if_icmp .eq 28) ∧ ((67 : Nat) : Int) + 28 = ((95 : Nat) : Int) ∧ 67 + 3 = 70 := ⟨rfl, rfl, rfl⟩
theorem xc208_70 : pmCode 208 70 = some (.aload_n 0) ∧ 70 + 1 = 71 := ⟨rfl, rfl⟩
theorem xc208_71 : pmCode 208 71 = some (.iload_n 3) ∧ 71 + 1 = 72 := ⟨rfl, rfl⟩
theorem xc208_72 : pmCode 208 72 = some (.invokevirtual 345) ∧ 72 + 3 = 75 := ⟨rfl, rfl⟩
theorem xc208_75 : pmCode 208 75 = some (.aload_n 0) ∧ 75 + 1 = 76 := ⟨rfl, rfl⟩
theorem xc208_76 : pmCode 208 76 = some (.getfield 97) ∧ 76 + 3 = 79 := ⟨rfl, rfl⟩
theorem xc208_79 : pmCode 208 79 = some (.iload_n 3) ∧ 79 + 1 = 80 := ⟨rfl, rfl⟩
theorem xc208_80 : pmCode 208 80 = some (.aload_n 0) ∧ 80 + 1 = 81 := ⟨rfl, rfl⟩
theorem xc208_81 : pmCode 208 81 = some (.getfield 327) ∧ 81 + 3 = 84 := ⟨rfl, rfl⟩
theorem xc208_84 : pmCode 208 84 = some .iastore ∧ 84 + 1 = 85 := ⟨rfl, rfl⟩
theorem xc208_85 : pmCode 208 85 = some (.aload_n 0) ∧ 85 + 1 = 86 := ⟨rfl, rfl⟩
theorem xc208_86 : pmCode 208 86 = some (.getfield 103) ∧ 86 + 3 = 89 := ⟨rfl, rfl⟩
theorem xc208_89 : pmCode 208 89 = some (.iload_n 3) ∧ 89 + 1 = 90 := ⟨rfl, rfl⟩
theorem xc208_90 : pmCode 208 90 = some (.aload_n 0) ∧ 90 + 1 = 91 := ⟨rfl, rfl⟩
theorem xc208_91 : pmCode 208 91 = some (.getfield 324) ∧ 91 + 3 = 94 := ⟨rfl, rfl⟩
theorem xc208_94 : pmCode 208 94 = some .iastore ∧ 94 + 1 = 95 := ⟨rfl, rfl⟩
theorem xc208_95 : pmCode 208 95 = some (.aload_n 0) ∧ 95 + 1 = 96 := ⟨rfl, rfl⟩
theorem xc208_96 : pmCode 208 96 = some (.getfield 97) ∧ 96 + 3 = 99 := ⟨rfl, rfl⟩
theorem xc208_99 : pmCode 208 99 = some (.iload_n 3) ∧ 99 + 1 = 100 := ⟨rfl, rfl⟩
theorem xc208_100 : pmCode 208 100 = some .iaload ∧ 100 + 1 = 101 := ⟨rfl, rfl⟩
theorem xc208_101 : pmCode 208 101 = some (.iconst (-1)) ∧ 101 + 1 = 102 := ⟨rfl, rfl⟩
theorem xc208_102 : pmCode 208 102 = some (.if_icmp .eq 20) ∧ ((102 : Nat) : Int) + 20 = ((122 : Nat) : Int) ∧ 102 + 3 = 105 := ⟨rfl, rfl, rfl⟩
theorem xc208_105 : pmCode 208 105 = some (.aload_n 0) ∧ 105 + 1 = 106 := ⟨rfl, rfl⟩
theorem xc208_106 : pmCode 208 106 = some (.getfield 100) ∧ 106 + 3 = 109 := ⟨rfl, rfl⟩
theorem xc208_109 : pmCode 208 109 = some (.iload_n 3) ∧ 109 + 1 = 110 := ⟨rfl, rfl⟩
theorem xc208_110 : pmCode 208 110 = some (.aload_n 0) ∧ 110 + 1 = 111 := ⟨rfl, rfl⟩
theorem xc208_111 : pmCode 208 111 = some (.iload_n 3) ∧ 111 + 1 = 112 := ⟨rfl, rfl⟩
theorem xc208_112 : pmCode 208 112 = some (.aload_n 0) ∧ 112 + 1 = 113 := ⟨rfl, rfl⟩
theorem xc208_113 : pmCode 208 113 = some (.getfield 97) ∧ 113 + 3 = 116 := ⟨rfl, rfl⟩
theorem xc208_116 : pmCode 208 116 = some (.iload_n 3) ∧ 116 + 1 = 117 := ⟨rfl, rfl⟩
theorem xc208_117 : pmCode 208 117 = some .iaload ∧ 117 + 1 = 118 := ⟨rfl, rfl⟩
theorem xc208_118 : pmCode 208 118 = some (.invokevirtual 367) ∧ 118 + 3 = 121 := ⟨rfl, rfl⟩
theorem xc208_121 : pmCode 208 121 = some .iastore ∧ 121 + 1 = 122 := ⟨rfl, rfl⟩
theorem xc208_122 : pmCode 208 122 = some (.iinc 3 1) ∧ 122 + 3 = 125 := ⟨rfl, rfl⟩
theorem xc208_125 : pmCode 208 125 = some (.goto (-123)) ∧ ((125 : Nat) : Int) + (-123) = ((2 : Nat) : Int) := ⟨rfl, rfl⟩
theorem xc208_128 : pmCode 208 128 = some (.aload_n 0) ∧ 128 + 1 = 129 := ⟨rfl, rfl⟩
theorem xc208_129 : pmCode 208 129 = some (.invokevirtual 370) ∧ 129 + 3 = 132 := ⟨rfl, rfl⟩
theorem xc208_132 : pmCode 208 132 = some .return_ := rfl
theorem w208 {ro : Nat → Nat × (Nat → Int32)} {d : Nat} {Q : Option Value → pmS → Prop} {c wt : Int} {a : xA} {b : xB}
    (k1 : pmWp ro d 12 208 0 2 [some (.ref 87), some (xV c), some (xV wt), some (xV 0)] [] (xS a b) Q) :
    pmWp ro d 12 208 0 0 [some (.ref 87), some (xV c), some (xV wt), none] [] (xS a b) Q := by
  refine x_iconst xc208_0 ?_
  refine x_istoren (pl' := [some (.ref 87), some (xV c), some (xV wt), some (xV 0)]) xc208_1 rfl rfl ?_
  exact k1

theorem xg208 {ro : Nat → Nat × (Nat → Int32)} {d : Nat} {Q : Option Value → pmS → Prop} {a : xA} {b : xB} {c wt : Int} (h : pmWp ro d 12 208 0 0 [some (.ref 87), some (xV c), some (xV wt), none] [] (xS a b) Q) : pmCs ro (d + 1) 208 [.ref 87, xV c, xV wt] (xS a b) Q := x_go xi208 rfl rfl rfl rfl rfl h
theorem w208p {ro : Nat → Nat × (Nat → Int32)} {d : Nat} {Q : Option Value → pmS → Prop} {c wt p : Int} {a : xA} {b : xB} (hA : xAr a) (hp : 0 ≤ p ∧ p ≤ 4) (hc : -1 ≤ c ∧ c ≤ 60) (hwt : -1 ≤ wt ∧ wt ≤ 3) (hd : 1 ≤ d)
    (k1 : (4 ≤ p) → pmCs ro d 214 [.ref 87] (xS a b) fun r σ' => pmWp ro d 12 208 0 132 [some (.ref 87), some (xV c), some (xV wt), some (xV p)] (r.toList ++ []) σ' Q)
    (k2 : (¬ 4 ≤ p) → (¬ a 88 p = 7) → pmWp ro d 12 208 0 51 [some (.ref 87), some (xV c), some (xV wt), some (xV p)] [] (xS (xU (xU (xU (xU a 119 p 1) 116 p (-1)) 117 p (-1)) 118 p (-1)) b) Q)
    (k3 : (¬ 4 ≤ p) → (a 88 p = 7) → pmWp ro d 12 208 0 122 [some (.ref 87), some (xV c), some (xV wt), some (xV p)] [] (xS (xU (xU (xU (xU a 119 p 0) 116 p (-1)) 117 p (-1)) 118 p (-1)) b) Q) :
    pmWp ro d 12 208 0 2 [some (.ref 87), some (xV c), some (xV wt), some (xV p)] [] (xS a b) Q := by
  refine x_iloadn xc208_2 rfl ?_
  refine x_iconst xc208_3 ?_
  refine x_icge xc208_4 (xRk (by have g0 := hp; omega)) (xRk (by decide)) (fun h0 => ?_) (fun h0 => ?_)
  · refine x_aloadn xc208_128 rfl ?_
    refine x_cV (as := []) (rest := []) xc208_129 rfl xi214 xz87 ⟨rfl, rfl⟩ rfl rfl ?_
    exact k1 h0
  · refine x_aloadn xc208_7 rfl ?_
    refine x_gfr xc208_8 rfl rfl xz87 rfl ?_
    refine x_iloadn xc208_11 rfl ?_
    refine x_aloadn xc208_12 rfl ?_
    refine x_iloadn xc208_13 rfl ?_
    refine x_cV (as := [xV p]) (rest := [xV p, .ref 119]) xc208_14 rfl xi176 xz87 ⟨rfl, rfl⟩ rfl rfl ?_
    refine rk176 (by omega) hA (by have g0 := hp; omega) (fun h1 => ?_) (fun h2 => ?_)
    · refine x_zas (by omega) xc208_17 xz119 (by have g0 := hp; omega) (by have g0 := hp; omega) (by have g0 := hp; omega) ?_
      refine x_aloadn xc208_18 rfl ?_
      refine x_gfr xc208_19 rfl rfl xz87 rfl ?_
      refine x_iloadn xc208_22 rfl ?_
      refine x_iconst xc208_23 ?_
      refine x_ias xc208_24 xz116 (by have g0 := hp; omega) (by have g0 := hp; omega) (by have g0 := hp; omega) ?_
      refine x_aloadn xc208_25 rfl ?_
      refine x_gfr xc208_26 rfl rfl xz87 rfl ?_
      refine x_iloadn xc208_29 rfl ?_
      refine x_iconst xc208_30 ?_
      refine x_ias xc208_31 xz117 (by have g0 := hp; omega) (by have g0 := hp; omega) (by have g0 := hp; omega) ?_
      refine x_aloadn xc208_32 rfl ?_
      refine x_gfr xc208_33 rfl rfl xz87 rfl ?_
      refine x_iloadn xc208_36 rfl ?_
      refine x_iconst xc208_37 ?_
      refine x_ias xc208_38 xz118 (by have g0 := hp; omega) (by have g0 := hp; omega) (by have g0 := hp; omega) ?_
      refine x_aloadn xc208_39 rfl ?_
      refine x_gfr xc208_40 rfl rfl xz87 rfl ?_
      refine x_iloadn xc208_43 rfl ?_
      refine x_bal' (v := 1) xc208_44 xz119 (Or.inl rfl) (by have g0 := hp; omega) (by have g0 := hp; omega) (by have g0 := hp; omega) (by rw [xUn (by decide), xUn (by decide), xUn (by decide), xUa]) ?_
      refine x_ifne xc208_45 (xRk (by decide)) (fun _ => ?_) (fun h => absurd h (by omega))
      exact k2 h0 h1
    · refine x_zas (by omega) xc208_17 xz119 (by have g0 := hp; omega) (by have g0 := hp; omega) (by have g0 := hp; omega) ?_
      refine x_aloadn xc208_18 rfl ?_
      refine x_gfr xc208_19 rfl rfl xz87 rfl ?_
      refine x_iloadn xc208_22 rfl ?_
      refine x_iconst xc208_23 ?_
      refine x_ias xc208_24 xz116 (by have g0 := hp; omega) (by have g0 := hp; omega) (by have g0 := hp; omega) ?_
      refine x_aloadn xc208_25 rfl ?_
      refine x_gfr xc208_26 rfl rfl xz87 rfl ?_
      refine x_iloadn xc208_29 rfl ?_
      refine x_iconst xc208_30 ?_
      refine x_ias xc208_31 xz117 (by have g0 := hp; omega) (by have g0 := hp; omega) (by have g0 := hp; omega) ?_
      refine x_aloadn xc208_32 rfl ?_
      refine x_gfr xc208_33 rfl rfl xz87 rfl ?_
      refine x_iloadn xc208_36 rfl ?_
      refine x_iconst xc208_37 ?_
      refine x_ias xc208_38 xz118 (by have g0 := hp; omega) (by have g0 := hp; omega) (by have g0 := hp; omega) ?_
      refine x_aloadn xc208_39 rfl ?_
      refine x_gfr xc208_40 rfl rfl xz87 rfl ?_
      refine x_iloadn xc208_43 rfl ?_
      refine x_bal' (v := 0) xc208_44 xz119 (Or.inl rfl) (by have g0 := hp; omega) (by have g0 := hp; omega) (by have g0 := hp; omega) (by rw [xUn (by decide), xUn (by decide), xUn (by decide), xUa]) ?_
      refine x_ifne xc208_45 (xRk (by decide)) (fun h => absurd h (by omega)) (fun _ => ?_)
      refine x_goto xc208_48 ?_
      exact k3 h0 h2

theorem w208q {ro : Nat → Nat × (Nat → Int32)} {d : Nat} {Q : Option Value → pmS → Prop} {c wt p : Int} {a : xA} {b : xB} (hA : xAr a) (hp : 0 ≤ p ∧ p ≤ 3) (hc : -1 ≤ c ∧ c ≤ 60) (hwt : -1 ≤ wt ∧ wt ≤ 3) (hd : 1 ≤ d)
    (k1 : (¬ p = 0) → (p = wt) → pmWp ro d 12 208 0 95 [some (.ref 87), some (xV c), some (xV wt), some (xV p)] [] (xS a b) Q)
    (k2 : (¬ p = 0) → (¬ p = wt) → pmCs ro d 198 [.ref 87, xV p] (xS a b) fun r σ' => pmWp ro d 12 208 0 75 [some (.ref 87), some (xV c), some (xV wt), some (xV p)] (r.toList ++ []) σ' Q)
    (k3 : (p = 0) → pmWp ro d 12 208 0 95 [some (.ref 87), some (xV c), some (xV wt), some (xV p)] [] (xS (xU a 116 p c) b) Q) :
    pmWp ro d 12 208 0 51 [some (.ref 87), some (xV c), some (xV wt), some (xV p)] [] (xS a b) Q := by
  refine x_iloadn xc208_51 rfl ?_
  refine x_ifne xc208_52 (xRk (by have g0 := hp; omega)) (fun h0 => ?_) (fun h0 => ?_)
  · refine x_iloadn xc208_65 rfl ?_
    refine x_iloadn xc208_66 rfl ?_
    refine x_iceq xc208_67 (xRk (by have g0 := hp; omega)) (xRk (by have g0 := hwt; omega)) (fun h1 => ?_) (fun h1 => ?_)
    · exact k1 h0 h1
    · refine x_aloadn xc208_70 rfl ?_
      refine x_iloadn xc208_71 rfl ?_
      refine x_cV (as := [xV p]) (rest := []) xc208_72 rfl xi198 xz87 ⟨rfl, rfl⟩ rfl rfl ?_
      exact k2 h0 h1
  · replace h0 := Classical.not_not.mp h0
    refine x_aloadn xc208_55 rfl ?_
    refine x_gfr xc208_56 rfl rfl xz87 rfl ?_
    refine x_iloadn xc208_59 rfl ?_
    refine x_iloadn xc208_60 rfl ?_
    refine x_ias xc208_61 xz116 (by have g0 := hp; omega) (by have g0 := hp; omega) (by have g0 := hp; omega) ?_
    refine x_goto xc208_62 ?_
    exact k3 h0

theorem w208w {ro : Nat → Nat × (Nat → Int32)} {d : Nat} {Q : Option Value → pmS → Prop} {c wt p k wd : Int} {a : xA} {b : xB} (hp : 0 ≤ p ∧ p ≤ 3) (hwd : a 87 43 = wd) (hwd0 : -1 ≤ wd ∧ wd ≤ 60) (hk : a 87 42 = k) (hk0 : -1 ≤ k ∧ k ≤ 2)
    (k1 : pmWp ro d 12 208 0 95 [some (.ref 87), some (xV c), some (xV wt), some (xV p)] [] (xS (xU (xU a 116 p wd) 118 p k) b) Q) :
    pmWp ro d 12 208 0 75 [some (.ref 87), some (xV c), some (xV wt), some (xV p)] [] (xS a b) Q := by
  refine x_aloadn xc208_75 rfl ?_
  refine x_gfr xc208_76 rfl rfl xz87 rfl ?_
  refine x_iloadn xc208_79 rfl ?_
  refine x_aloadn xc208_80 rfl ?_
  refine x_gfi' (k := 43) (v := wd) xc208_81 rfl (Or.inl rfl) rfl xz87 hwd ?_
  refine x_ias xc208_84 xz116 (by have g0 := hp; omega) (by have g0 := hp; omega) (by have g0 := hp; omega) ?_
  refine x_aloadn xc208_85 rfl ?_
  refine x_gfr xc208_86 rfl rfl xz87 rfl ?_
  refine x_iloadn xc208_89 rfl ?_
  refine x_aloadn xc208_90 rfl ?_
  refine x_gfi' (k := 42) (v := k) xc208_91 rfl (Or.inl rfl) rfl xz87 (by rw [xUn (by decide), hk]) ?_
  refine x_ias xc208_94 xz118 (by have g0 := hp; omega) (by have g0 := hp; omega) (by have g0 := hp; omega) ?_
  exact k1

theorem w208d {ro : Nat → Nat × (Nat → Int32)} {d : Nat} {Q : Option Value → pmS → Prop} {c wt p k : Int} {a : xA} {b : xB} (hp : 0 ≤ p ∧ p ≤ 3) (hk : a 116 p = k) (hk0 : -1 ≤ k ∧ k ≤ 60)
    (k1 : (k = -1) → pmWp ro d 12 208 0 122 [some (.ref 87), some (xV c), some (xV wt), some (xV p)] [] (xS a b) Q)
    (k2 : (¬ k = -1) → pmCs ro d 209 [.ref 87, xV p, xV k] (xS a b) fun r σ' => pmWp ro d 12 208 0 121 [some (.ref 87), some (xV c), some (xV wt), some (xV p)] (r.toList ++ [xV p, .ref 117]) σ' Q) :
    pmWp ro d 12 208 0 95 [some (.ref 87), some (xV c), some (xV wt), some (xV p)] [] (xS a b) Q := by
  refine x_aloadn xc208_95 rfl ?_
  refine x_gfr xc208_96 rfl rfl xz87 rfl ?_
  refine x_iloadn xc208_99 rfl ?_
  refine x_ial' (v := k) xc208_100 xz116 rfl (by have g0 := hp; omega) (by have g0 := hp; omega) (by have g0 := hp; omega) hk ?_
  refine x_iconst xc208_101 ?_
  refine x_iceq xc208_102 (xRk (by have g0 := hk0; omega)) (xRk (by decide)) (fun h0 => ?_) (fun h0 => ?_)
  · exact k1 h0
  · refine x_aloadn xc208_105 rfl ?_
    refine x_gfr xc208_106 rfl rfl xz87 rfl ?_
    refine x_iloadn xc208_109 rfl ?_
    refine x_aloadn xc208_110 rfl ?_
    refine x_iloadn xc208_111 rfl ?_
    refine x_aloadn xc208_112 rfl ?_
    refine x_gfr xc208_113 rfl rfl xz87 rfl ?_
    refine x_iloadn xc208_116 rfl ?_
    refine x_ial' (v := k) xc208_117 xz116 rfl (by have g0 := hp; omega) (by have g0 := hp; omega) (by have g0 := hp; omega) hk ?_
    refine x_cV (as := [xV p, xV k]) (rest := [xV p, .ref 117]) xc208_118 rfl xi209 xz87 ⟨rfl, rfl⟩ rfl rfl ?_
    exact k2 h0

theorem w208s {ro : Nat → Nat × (Nat → Int32)} {d : Nat} {Q : Option Value → pmS → Prop} {c wt p sn : Int} {a : xA} {b : xB} (hp : 0 ≤ p ∧ p ≤ 3) (hsn : 0 ≤ sn ∧ sn ≤ 15)
    (k1 : pmWp ro d 12 208 0 122 [some (.ref 87), some (xV c), some (xV wt), some (xV p)] [] (xS (xU a 117 p sn) b) Q) :
    pmWp ro d 12 208 0 121 [some (.ref 87), some (xV c), some (xV wt), some (xV p)] [xV sn, xV p, .ref 117] (xS a b) Q := by
  refine x_ias xc208_121 xz117 (by have g0 := hp; omega) (by have g0 := hp; omega) (by have g0 := hp; omega) ?_
  exact k1

theorem w208n {ro : Nat → Nat × (Nat → Int32)} {d : Nat} {Q : Option Value → pmS → Prop} {c wt p : Int} {a : xA} {b : xB} (hp : 0 ≤ p ∧ p ≤ 3)
    (k1 : pmWp ro d 12 208 0 2 [some (.ref 87), some (xV c), some (xV wt), some (xV (p + 1))] [] (xS a b) Q) :
    pmWp ro d 12 208 0 122 [some (.ref 87), some (xV c), some (xV wt), some (xV p)] [] (xS a b) Q := by
  refine x_iinc (pl' := [some (.ref 87), some (xV c), some (xV wt), some (xV (p + 1))]) xc208_122 rfl rfl ?_
  refine x_goto xc208_125 ?_
  exact k1

theorem w208e {ro : Nat → Nat × (Nat → Int32)} {d : Nat} {Q : Option Value → pmS → Prop} {c wt p : Int} {a : xA} {b : xB}
    (k1 : Q none (xS a b)) :
    pmWp ro d 12 208 0 132 [some (.ref 87), some (xV c), some (xV wt), some (xV p)] [] (xS a b) Q := by
  refine x_ret xc208_132 rfl ?_
  exact k1

end
