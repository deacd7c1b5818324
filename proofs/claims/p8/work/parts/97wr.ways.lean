section
/-! exact: measureWays, begin -/
section
set_option maxRecDepth 100000

theorem xc58_0 : pmCode 58 0 = some (.iconst 0) ∧ 0 + 1 = 1 := ⟨rfl, rfl⟩
theorem xc58_1 : pmCode 58 1 = some (.istore_n 1) ∧ 1 + 1 = 2 := ⟨rfl, rfl⟩
theorem xc58_2 : pmCode 58 2 = some (.iload_n 1) ∧ 2 + 1 = 3 := ⟨rfl, rfl⟩
theorem xc58_3 : pmCode 58 3 = some (.bipush 7) ∧ 3 + 2 = 5 := ⟨rfl, rfl⟩
theorem xc58_5 : pmCode 58 5 = some (.if_icmp .ge 58) ∧ ((5 : Nat) : Int) + 58 = ((63 : Nat) : Int) ∧ 5 + 3 = 8 := ⟨rfl, rfl, rfl⟩
theorem xc58_8 : pmCode 58 8 = some (.iconst 0) ∧ 8 + 1 = 9 := ⟨rfl, rfl⟩
theorem xc58_9 : pmCode 58 9 = some (.istore_n 2) ∧ 9 + 1 = 10 := ⟨rfl, rfl⟩
theorem xc58_10 : pmCode 58 10 = some (.iload_n 2) ∧ 10 + 1 = 11 := ⟨rfl, rfl⟩
theorem xc58_11 : pmCode 58 11 = some (.bipush 7) ∧ 11 + 2 = 13 := ⟨rfl, rfl⟩
theorem xc58_13 : pmCode 58 13 = some (.if_icmp .ge 44) ∧ ((13 : Nat) : Int) + 44 = ((57 : Nat) : Int) ∧ 13 + 3 = 16 := ⟨rfl, rfl, rfl⟩
theorem xc58_16 : pmCode 58 16 = some (.aload_n 0) ∧ 16 + 1 = 17 := ⟨rfl, rfl⟩
theorem xc58_17 : pmCode 58 17 = some (.getfield 18) ∧ 17 + 3 = 20 := ⟨rfl, rfl⟩
theorem xc58_20 : pmCode 58 20 = some (.bipush 7) ∧ 20 + 2 = 22 := ⟨rfl, rfl⟩
theorem xc58_22 : pmCode 58 22 = some (.iload_n 1) ∧ 22 + 1 = 23 := ⟨rfl, rfl⟩
theorem xc58_23 : pmCode 58 23 = some .imul ∧ 23 + 1 = 24 := ⟨rfl, rfl⟩
theorem xc58_24 : pmCode 58 24 = some (.iload_n 2) ∧ 24 + 1 = 25 := ⟨rfl, rfl⟩
theorem xc58_25 : pmCode 58 25 = some .iadd ∧ 25 + 1 = 26 := ⟨rfl, rfl⟩
theorem xc58_26 : pmCode 58 26 = some (.iload_n 1) ∧ 26 + 1 = 27 := ⟨rfl, rfl⟩
theorem xc58_27 : pmCode 58 27 = some (.iload_n 2) ∧ 27 + 1 = 28 := ⟨rfl, rfl⟩
theorem xc58_28 : pmCode 58 28 = some (.if_icmp .ne 7) ∧ ((28 : Nat) : Int) + 7 = ((35 : Nat) : Int) ∧ 28 + 3 = 31 := ⟨rfl, rfl, rfl⟩
theorem xc58_31 : pmCode 58 31 = some (.iconst 0) ∧ 31 + 1 = 32 := ⟨rfl, rfl⟩
theorem xc58_32 : pmCode 58 32 = some (.goto 18) ∧ ((32 : Nat) : Int) + 18 = ((50 : Nat) : Int) := ⟨rfl, rfl⟩
theorem xc58_35 : pmCode 58 35 = some (.aload_n 0) ∧ 35 + 1 = 36 := ⟨rfl, rfl⟩
theorem xc58_36 : pmCode 58 36 = some (.iload_n 1) ∧ 36 + 1 = 37 := ⟨rfl, rfl⟩
theorem xc58_37 : pmCode 58 37 = some (.iload_n 2) ∧ 37 + 1 = 38 := ⟨rfl, rfl⟩
theorem xc58_38 : pmCode 58 38 = some (.invokevirtual 38) ∧ 38 + 3 = 41 := ⟨rfl, rfl⟩
theorem xc58_41 : pmCode 58 41 = some (.ifCond .eq 7) ∧ ((41 : Nat) : Int) + 7 = ((48 : Nat) : Int) ∧ 41 + 3 = 44 := ⟨rfl, rfl, rfl⟩
theorem xc58_44 : pmCode 58 44 = some (.iconst 1) ∧ 44 + 1 = 45 := ⟨rfl, rfl⟩
theorem xc58_45 : pmCode 58 45 = some (.goto 5) ∧ ((45 : Nat) : Int) + 5 = ((50 : Nat) : Int) := ⟨rfl, rfl⟩
theorem xc58_48 : pmCode 58 48 = some (.bipush 99) ∧ 48 + 2 = 50 := ⟨rfl, rfl⟩
theorem xc58_50 : pmCode 58 50 = some .iastore ∧ 50 + 1 = 51 := ⟨rfl, rfl⟩
theorem xc58_51 : pmCode 58 51 = some (.iinc 2 1) ∧ 51 + 3 = 54 := ⟨rfl, rfl⟩
theorem xc58_54 : pmCode 58 54 = some (.goto (-44)) ∧ ((54 : Nat) : Int) + (-44) = ((10 : Nat) : Int) := ⟨rfl, rfl⟩
theorem xc58_57 : pmCode 58 57 = some (.iinc 1 1) ∧ 57 + 3 = 60 := ⟨rfl, rfl⟩
theorem xc58_60 : pmCode 58 60 = some (.goto (-58)) ∧ ((60 : Nat) : Int) + (-58) = ((2 : Nat) : Int) := ⟨rfl, rfl⟩
theorem xc58_63 : pmCode 58 63 = some (.iconst 0) ∧ 63 + 1 = 64 := ⟨rfl, rfl⟩
theorem xc58_64 : pmCode 58 64 = some (.istore_n 1) ∧ 64 + 1 = 65 := ⟨rfl, rfl⟩
theorem xc58_65 : pmCode 58 65 = some (.iload_n 1) ∧ 65 + 1 = 66 := ⟨rfl, rfl⟩
theorem xc58_66 : pmCode 58 66 = some (.bipush 7) ∧ 66 + 2 = 68 := ⟨rfl, rfl⟩
theorem xc58_68 : pmCode 58 68 = some (.if_icmp .ge 89) ∧ ((68 : Nat) : Int) + 89 = ((157 : Nat) : Int) ∧ 68 + 3 = 71 := ⟨rfl, rfl, rfl⟩
theorem xc58_71 : pmCode 58 71 = some (.iconst 0) ∧ 71 + 1 = 72 := ⟨rfl, rfl⟩
theorem xc58_72 : pmCode 58 72 = some (.istore_n 2) ∧ 72 + 1 = 73 := ⟨rfl, rfl⟩
theorem xc58_73 : pmCode 58 73 = some (.iload_n 2) ∧ 73 + 1 = 74 := ⟨rfl, rfl⟩
theorem xc58_74 : pmCode 58 74 = some (.bipush 7) ∧ 74 + 2 = 76 := ⟨rfl, rfl⟩
theorem xc58_76 : pmCode 58 76 = some (.if_icmp .ge 75) ∧ ((76 : Nat) : Int) + 75 = ((151 : Nat) : Int) ∧ 76 + 3 = 79 := ⟨rfl, rfl, rfl⟩
theorem xc58_79 : pmCode 58 79 = some (.iconst 0) ∧ 79 + 1 = 80 := ⟨rfl, rfl⟩
theorem xc58_80 : pmCode 58 80 = some (.istore_n 3) ∧ 80 + 1 = 81 := ⟨rfl, rfl⟩
theorem xc58_81 : pmCode 58 81 = some (.iload_n 3) ∧ 81 + 1 = 82 := ⟨rfl, rfl⟩
theorem xc58_82 : pmCode 58 82 = some (.bipush 7) ∧ 82 + 2 = 84 := ⟨rfl, rfl⟩
theorem xc58_84 : pmCode 58 84 = some (.if_icmp .ge 61) ∧ ((84 : Nat) : Int) + 61 = ((145 : Nat) : Int) ∧ 84 + 3 = 87 := ⟨rfl, rfl, rfl⟩
theorem xc58_87 : pmCode 58 87 = some (.aload_n 0) ∧ 87 + 1 = 88 := ⟨rfl, rfl⟩
theorem xc58_88 : pmCode 58 88 = some (.getfield 18) ∧ 88 + 3 = 91 := ⟨rfl, rfl⟩
theorem xc58_91 : pmCode 58 91 = some (.bipush 7) ∧ 91 + 2 = 93 := ⟨rfl, rfl⟩
theorem xc58_93 : pmCode 58 93 = some (.iload_n 2) ∧ 93 + 1 = 94 := ⟨rfl, rfl⟩
theorem xc58_94 : pmCode 58 94 = some .imul ∧ 94 + 1 = 95 := ⟨rfl, rfl⟩
theorem xc58_95 : pmCode 58 95 = some (.iload_n 1) ∧ 95 + 1 = 96 := ⟨rfl, rfl⟩
theorem xc58_96 : pmCode 58 96 = some .iadd ∧ 96 + 1 = 97 := ⟨rfl, rfl⟩
theorem xc58_97 : pmCode 58 97 = some .iaload ∧ 97 + 1 = 98 := ⟨rfl, rfl⟩
theorem xc58_98 : pmCode 58 98 = some (.aload_n 0) ∧ 98 + 1 = 99 := ⟨rfl, rfl⟩
theorem xc58_99 : pmCode 58 99 = some (.getfield 18) ∧ 99 + 3 = 102 := ⟨rfl, rfl⟩
theorem xc58_102 : pmCode 58 102 = some (.bipush 7) ∧ 102 + 2 = 104 := ⟨rfl, rfl⟩
theorem xc58_104 : pmCode 58 104 = some (.iload_n 1) ∧ 104 + 1 = 105 := ⟨rfl, rfl⟩
theorem xc58_105 : pmCode 58 105 = some .imul ∧ 105 + 1 = 106 := ⟨rfl, rfl⟩
theorem xc58_106 : pmCode 58 106 = some (.iload_n 3) ∧ 106 + 1 = 107 := ⟨rfl, rfl⟩
theorem xc58_107 : pmCode 58 107 = some .iadd ∧ 107 + 1 = 108 := ⟨rfl, rfl⟩
theorem xc58_108 : pmCode 58 108 = some .iaload ∧ 108 + 1 = 109 := ⟨rfl, rfl⟩
theorem xc58_109 : pmCode 58 109 = some .iadd ∧ 109 + 1 = 110 := ⟨rfl, rfl⟩
theorem xc58_110 : pmCode 58 110 = some (.istore 4) ∧ 110 + 2 = 112 := ⟨rfl, rfl⟩
theorem xc58_112 : pmCode 58 112 = some (.aload_n 0) ∧ 112 + 1 = 113 := ⟨rfl, rfl⟩
theorem xc58_113 : pmCode 58 113 = some (.getfield 18) ∧ 113 + 3 = 116 := ⟨rfl, rfl⟩
theorem xc58_116 : pmCode 58 116 = some (.bipush 7) ∧ 116 + 2 = 118 := ⟨rfl, rfl⟩
theorem xc58_118 : pmCode 58 118 = some (.iload_n 2) ∧ 118 + 1 = 119 := ⟨rfl, rfl⟩
theorem xc58_119 : pmCode 58 119 = some .imul ∧ 119 + 1 = 120 := ⟨rfl, rfl⟩
theorem xc58_120 : pmCode 58 120 = some (.iload_n 3) ∧ 120 + 1 = 121 := ⟨rfl, rfl⟩
theorem xc58_121 : pmCode 58 121 = some .iadd ∧ 121 + 1 = 122 := ⟨rfl, rfl⟩
theorem xc58_122 : pmCode 58 122 = some (.aload_n 0) ∧ 122 + 1 = 123 := ⟨rfl, rfl⟩
theorem xc58_123 : pmCode 58 123 = some (.getfield 18) ∧ 123 + 3 = 126 := ⟨rfl, rfl⟩
theorem xc58_126 : pmCode 58 126 = some (.bipush 7) ∧ 126 + 2 = 128 := ⟨rfl, rfl⟩
theorem xc58_128 : pmCode 58 128 = some (.iload_n 2) ∧ 128 + 1 = 129 := ⟨rfl, rfl⟩
theorem xc58_129 : pmCode 58 129 = some .imul ∧ 129 + 1 = 130 := ⟨rfl, rfl⟩
theorem xc58_130 : pmCode 58 130 = some (.iload_n 3) ∧ 130 + 1 = 131 := ⟨rfl, rfl⟩
theorem xc58_131 : pmCode 58 131 = some .iadd ∧ 131 + 1 = 132 := ⟨rfl, rfl⟩
theorem xc58_132 : pmCode 58 132 = some .iaload ∧ 132 + 1 = 133 := ⟨rfl, rfl⟩
theorem xc58_133 : pmCode 58 133 = some (.iload 4) ∧ 133 + 2 = 135 := ⟨rfl, rfl⟩
theorem xc58_135 : pmCode 58 135 = some (.invokestatic 25) ∧ 135 + 3 = 138 := ⟨rfl, rfl⟩
theorem xc58_138 : pmCode 58 138 = some .iastore ∧ 138 + 1 = 139 := ⟨rfl, rfl⟩
theorem xc58_139 : pmCode 58 139 = some (.iinc 3 1) ∧ 139 + 3 = 142 := ⟨rfl, rfl⟩
theorem xc58_142 : pmCode 58 142 = some (.goto (-61)) ∧ ((142 : Nat) : Int) + (-61) = ((81 : Nat) : Int) := ⟨rfl, rfl⟩
theorem xc58_145 : pmCode 58 145 = some (.iinc 2 1) ∧ 145 + 3 = 148 := ⟨rfl, rfl⟩
theorem xc58_148 : pmCode 58 148 = some (.goto (-75)) ∧ ((148 : Nat) : Int) + (-75) = ((73 : Nat) : Int) := ⟨rfl, rfl⟩
theorem xc58_151 : pmCode 58 151 = some (.iinc 1 1) ∧ 151 + 3 = 154 := ⟨rfl, rfl⟩
theorem xc58_154 : pmCode 58 154 = some (.goto (-89)) ∧ ((154 : Nat) : Int) + (-89) = ((65 : Nat) : Int) := ⟨rfl, rfl⟩
theorem xc58_157 : pmCode 58 157 = some .return_ := rfl
theorem wb58 {ro : Nat → Nat × (Nat → Int32)} {d : Nat} {Q : Option Value → pmS → Prop} {a : xA} {b : xB}
    (k1 : pmWp ro d 5 58 0 2 [some (.ref 3), some (xV 0), none, none, none] [] (xS a b) Q) :
    pmWp ro d 5 58 0 0 [some (.ref 3), none, none, none, none] [] (xS a b) Q := by
  refine x_iconst xc58_0 ?_
  refine x_istoren (pl' := [some (.ref 3), some (xV 0), none, none, none]) xc58_1 rfl rfl ?_
  exact k1

theorem xg58 {ro : Nat → Nat × (Nat → Int32)} {d : Nat} {Q : Option Value → pmS → Prop} {a : xA} {b : xB} (h : pmWp ro d 5 58 0 0 [some (.ref 3), none, none, none, none] [] (xS a b) Q) : pmCs ro (d + 1) 58 [.ref 3] (xS a b) Q := x_go xi58 rfl rfl rfl rfl rfl h
theorem wb58a {ro : Nat → Nat × (Nat → Int32)} {d : Nat} {Q : Option Value → pmS → Prop} {v2 : Option Value} {v3 : Option Value} {v4 : Option Value} {x : Int} {v2 v3 v4 : Option Value} {a : xA} {b : xB} (hx : 0 ≤ x ∧ x ≤ 7)
    (k1 : (7 ≤ x) → pmWp ro d 5 58 0 65 [some (.ref 3), some (xV 0), v2, v3, v4] [] (xS a b) Q)
    (k2 : (¬ 7 ≤ x) → pmWp ro d 5 58 0 10 [some (.ref 3), some (xV x), some (xV 0), v3, v4] [] (xS a b) Q) :
    pmWp ro d 5 58 0 2 [some (.ref 3), some (xV x), v2, v3, v4] [] (xS a b) Q := by
  refine x_iloadn xc58_2 rfl ?_
  refine x_bipush xc58_3 (by decide) ?_
  refine x_icge xc58_5 (xRk (by have g0 := hx; omega)) (xRk (by decide)) (fun h0 => ?_) (fun h0 => ?_)
  · refine x_iconst xc58_63 ?_
    refine x_istoren (pl' := [some (.ref 3), some (xV 0), v2, v3, v4]) xc58_64 rfl rfl ?_
    exact k1 h0
  · refine x_iconst xc58_8 ?_
    refine x_istoren (pl' := [some (.ref 3), some (xV x), some (xV 0), v3, v4]) xc58_9 rfl rfl ?_
    exact k2 h0

theorem wb58b {ro : Nat → Nat × (Nat → Int32)} {d : Nat} {Q : Option Value → pmS → Prop} {v3 : Option Value} {v4 : Option Value} {x y : Int} {v3 v4 : Option Value} {a : xA} {b : xB} (hx : 0 ≤ x ∧ x < 7) (hy : 0 ≤ y ∧ y ≤ 7) (hd : 1 ≤ d)
    (k1 : (7 ≤ y) → pmWp ro d 5 58 0 2 [some (.ref 3), some (xV (x + 1)), some (xV y), v3, v4] [] (xS a b) Q)
    (k2 : (¬ 7 ≤ y) → (¬ x = y) → (xBit (b 3 3) (7 * x + y) = true) → pmWp ro d 5 58 0 10 [some (.ref 3), some (xV x), some (xV (y + 1)), v3, v4] [] (xS (xU a 6 (7 * x + y) 1) b) Q)
    (k3 : (¬ 7 ≤ y) → (¬ x = y) → (xBit (b 3 3) (7 * x + y) = false) → pmWp ro d 5 58 0 10 [some (.ref 3), some (xV x), some (xV (y + 1)), v3, v4] [] (xS (xU a 6 (7 * x + y) 99) b) Q)
    (k4 : (¬ 7 ≤ y) → (x = y) → pmWp ro d 5 58 0 10 [some (.ref 3), some (xV x), some (xV (y + 1)), v3, v4] [] (xS (xU a 6 (7 * x + y) 0) b) Q) :
    pmWp ro d 5 58 0 10 [some (.ref 3), some (xV x), some (xV y), v3, v4] [] (xS a b) Q := by
  refine x_iloadn xc58_10 rfl ?_
  refine x_bipush xc58_11 (by decide) ?_
  refine x_icge xc58_13 (xRk (by have g0 := hy; omega)) (xRk (by decide)) (fun h0 => ?_) (fun h0 => ?_)
  · refine x_iinc (pl' := [some (.ref 3), some (xV (x + 1)), some (xV y), v3, v4]) xc58_57 rfl rfl ?_
    refine x_goto xc58_60 ?_
    exact k1 h0
  · refine x_aloadn xc58_16 rfl ?_
    refine x_gfr xc58_17 rfl rfl xz3 rfl ?_
    refine x_bipush xc58_20 (by decide) ?_
    refine x_iloadn xc58_22 rfl ?_
    refine x_imul xc58_23 ?_
    refine x_iloadn xc58_24 rfl ?_
    refine x_iadd xc58_25 ?_
    refine x_iloadn xc58_26 rfl ?_
    refine x_iloadn xc58_27 rfl ?_
    refine x_icne xc58_28 (xRk (by have g0 := hx; omega)) (xRk (by have g0 := hy; omega)) (fun h1 => ?_) (fun h1 => ?_)
    · refine x_aloadn xc58_35 rfl ?_
      refine x_iloadn xc58_36 rfl ?_
      refine x_iloadn xc58_37 rfl ?_
      refine x_cV (as := [xV x, xV y]) (rest := [xV (7 * x + y), .ref 6]) xc58_38 rfl xi16 xz3 ⟨rfl, rfl⟩ rfl rfl ?_
      refine xk16 (by omega) (by have g0 := hx; omega) (by have g0 := hy; omega) (fun h2 => ?_) (fun h3 => ?_)
      · refine x_ifeq xc58_41 (xRk (by decide)) (fun h => absurd h (by omega)) (fun _ => ?_)
        refine x_iconst xc58_44 ?_
        refine x_goto xc58_45 ?_
        refine x_ias xc58_50 xz6 (by have g0 := hx; have g1 := hy; omega) (by have g0 := hx; have g1 := hy; omega) (by have g0 := hx; have g1 := hy; omega) ?_
        refine x_iinc (pl' := [some (.ref 3), some (xV x), some (xV (y + 1)), v3, v4]) xc58_51 rfl rfl ?_
        refine x_goto xc58_54 ?_
        exact k2 h0 h1 h2
      · refine x_ifeq xc58_41 (xRk (by decide)) (fun _ => ?_) (fun h => absurd h (by omega))
        refine x_bipush xc58_48 (by decide) ?_
        refine x_ias xc58_50 xz6 (by have g0 := hx; have g1 := hy; omega) (by have g0 := hx; have g1 := hy; omega) (by have g0 := hx; have g1 := hy; omega) ?_
        refine x_iinc (pl' := [some (.ref 3), some (xV x), some (xV (y + 1)), v3, v4]) xc58_51 rfl rfl ?_
        refine x_goto xc58_54 ?_
        exact k3 h0 h1 h3
    · replace h1 := Classical.not_not.mp h1
      refine x_iconst xc58_31 ?_
      refine x_goto xc58_32 ?_
      refine x_ias xc58_50 xz6 (by have g0 := hx; have g1 := hy; omega) (by have g0 := hx; have g1 := hy; omega) (by have g0 := hx; have g1 := hy; omega) ?_
      refine x_iinc (pl' := [some (.ref 3), some (xV x), some (xV (y + 1)), v3, v4]) xc58_51 rfl rfl ?_
      refine x_goto xc58_54 ?_
      exact k4 h0 h1

theorem wb58c {ro : Nat → Nat × (Nat → Int32)} {d : Nat} {Q : Option Value → pmS → Prop} {v2 : Option Value} {v3 : Option Value} {v4 : Option Value} {k : Int} {v2 v3 v4 : Option Value} {a : xA} {b : xB} (hk : 0 ≤ k ∧ k ≤ 7)
    (k1 : (7 ≤ k) → Q none (xS a b))
    (k2 : (¬ 7 ≤ k) → pmWp ro d 5 58 0 73 [some (.ref 3), some (xV k), some (xV 0), v3, v4] [] (xS a b) Q) :
    pmWp ro d 5 58 0 65 [some (.ref 3), some (xV k), v2, v3, v4] [] (xS a b) Q := by
  refine x_iloadn xc58_65 rfl ?_
  refine x_bipush xc58_66 (by decide) ?_
  refine x_icge xc58_68 (xRk (by have g0 := hk; omega)) (xRk (by decide)) (fun h0 => ?_) (fun h0 => ?_)
  · refine x_ret xc58_157 rfl ?_
    exact k1 h0
  · refine x_iconst xc58_71 ?_
    refine x_istoren (pl' := [some (.ref 3), some (xV k), some (xV 0), v3, v4]) xc58_72 rfl rfl ?_
    exact k2 h0

theorem wb58d {ro : Nat → Nat × (Nat → Int32)} {d : Nat} {Q : Option Value → pmS → Prop} {v3 : Option Value} {v4 : Option Value} {k x : Int} {v3 v4 : Option Value} {a : xA} {b : xB} (hk : 0 ≤ k ∧ k < 7) (hx : 0 ≤ x ∧ x ≤ 7)
    (k1 : (7 ≤ x) → pmWp ro d 5 58 0 65 [some (.ref 3), some (xV (k + 1)), some (xV x), v3, v4] [] (xS a b) Q)
    (k2 : (¬ 7 ≤ x) → pmWp ro d 5 58 0 81 [some (.ref 3), some (xV k), some (xV x), some (xV 0), v4] [] (xS a b) Q) :
    pmWp ro d 5 58 0 73 [some (.ref 3), some (xV k), some (xV x), v3, v4] [] (xS a b) Q := by
  refine x_iloadn xc58_73 rfl ?_
  refine x_bipush xc58_74 (by decide) ?_
  refine x_icge xc58_76 (xRk (by have g0 := hx; omega)) (xRk (by decide)) (fun h0 => ?_) (fun h0 => ?_)
  · refine x_iinc (pl' := [some (.ref 3), some (xV (k + 1)), some (xV x), v3, v4]) xc58_151 rfl rfl ?_
    refine x_goto xc58_154 ?_
    exact k1 h0
  · refine x_iconst xc58_79 ?_
    refine x_istoren (pl' := [some (.ref 3), some (xV k), some (xV x), some (xV 0), v4]) xc58_80 rfl rfl ?_
    exact k2 h0

theorem wb58e {ro : Nat → Nat × (Nat → Int32)} {d : Nat} {Q : Option Value → pmS → Prop} {v4 : Option Value} {k x y : Int} {v4 : Option Value} {a : xA} {b : xB} (hk : 0 ≤ k ∧ k < 7) (hx : 0 ≤ x ∧ x < 7) (hy : 0 ≤ y ∧ y ≤ 7) (hW : ∀ k, 0 ≤ k → 0 ≤ a 6 k ∧ a 6 k ≤ 99)
    (k1 : (7 ≤ y) → pmWp ro d 5 58 0 73 [some (.ref 3), some (xV k), some (xV (x + 1)), some (xV y), v4] [] (xS a b) Q)
    (k2 : (¬ 7 ≤ y) → pmWp ro d 5 58 0 81 [some (.ref 3), some (xV k), some (xV x), some (xV (y + 1)), some (xV (a 6 (7 * x + k) + (a 6 (7 * k + y))))] [] (xS (xU a 6 (7 * x + y) (if a 6 (7 * x + k) + (a 6 (7 * k + y)) < a 6 (7 * x + y) then a 6 (7 * x + k) + (a 6 (7 * k + y)) else a 6 (7 * x + y))) b) Q) :
    pmWp ro d 5 58 0 81 [some (.ref 3), some (xV k), some (xV x), some (xV y), v4] [] (xS a b) Q := by
  refine x_iloadn xc58_81 rfl ?_
  refine x_bipush xc58_82 (by decide) ?_
  refine x_icge xc58_84 (xRk (by have g0 := hy; omega)) (xRk (by decide)) (fun h0 => ?_) (fun h0 => ?_)
  · refine x_iinc (pl' := [some (.ref 3), some (xV k), some (xV (x + 1)), some (xV y), v4]) xc58_145 rfl rfl ?_
    refine x_goto xc58_148 ?_
    exact k1 h0
  · refine x_aloadn xc58_87 rfl ?_
    refine x_gfr xc58_88 rfl rfl xz3 rfl ?_
    refine x_bipush xc58_91 (by decide) ?_
    refine x_iloadn xc58_93 rfl ?_
    refine x_imul xc58_94 ?_
    refine x_iloadn xc58_95 rfl ?_
    refine x_iadd xc58_96 ?_
    refine x_ial xc58_97 xz6 rfl (by have g0 := hx; have g1 := hk; omega) (by have g0 := hx; have g1 := hk; omega) (by have g0 := hx; have g1 := hk; omega) ?_
    refine x_aloadn xc58_98 rfl ?_
    refine x_gfr xc58_99 rfl rfl xz3 rfl ?_
    refine x_bipush xc58_102 (by decide) ?_
    refine x_iloadn xc58_104 rfl ?_
    refine x_imul xc58_105 ?_
    refine x_iloadn xc58_106 rfl ?_
    refine x_iadd xc58_107 ?_
    refine x_ial xc58_108 xz6 rfl (by have g0 := hk; have g1 := hy; omega) (by have g0 := hk; have g1 := hy; omega) (by have g0 := hk; have g1 := hy; omega) ?_
    refine x_iadd xc58_109 ?_
    refine x_istore (pl' := [some (.ref 3), some (xV k), some (xV x), some (xV y), some (xV (a 6 (7 * x + k) + (a 6 (7 * k + y))))]) xc58_110 rfl rfl ?_
    refine x_aloadn xc58_112 rfl ?_
    refine x_gfr xc58_113 rfl rfl xz3 rfl ?_
    refine x_bipush xc58_116 (by decide) ?_
    refine x_iloadn xc58_118 rfl ?_
    refine x_imul xc58_119 ?_
    refine x_iloadn xc58_120 rfl ?_
    refine x_iadd xc58_121 ?_
    refine x_aloadn xc58_122 rfl ?_
    refine x_gfr xc58_123 rfl rfl xz3 rfl ?_
    refine x_bipush xc58_126 (by decide) ?_
    refine x_iloadn xc58_128 rfl ?_
    refine x_imul xc58_129 ?_
    refine x_iloadn xc58_130 rfl ?_
    refine x_iadd xc58_131 ?_
    refine x_ial xc58_132 xz6 rfl (by have g0 := hx; have g1 := hy; omega) (by have g0 := hx; have g1 := hy; omega) (by have g0 := hx; have g1 := hy; omega) ?_
    refine x_iload xc58_133 rfl ?_
    refine x_min xc58_135 rfl (xRk (by have g0 := hx; have g1 := hy; have g2 := hW (7 * x + y) (by omega); omega)) (xRk (by have g0 := hx; have g1 := hk; have g2 := hW (7 * x + k) (by omega); have g3 := hy; have g4 := hW (7 * k + y) (by omega); omega)) rfl ?_
    refine x_ias xc58_138 xz6 (by have g0 := hx; have g1 := hy; omega) (by have g0 := hx; have g1 := hy; omega) (by have g0 := hx; have g1 := hy; omega) ?_
    refine x_iinc (pl' := [some (.ref 3), some (xV k), some (xV x), some (xV (y + 1)), some (xV (a 6 (7 * x + k) + (a 6 (7 * k + y))))]) xc58_139 rfl rfl ?_
    refine x_goto xc58_142 ?_
    exact k2 h0

theorem wb57 {ro : Nat → Nat × (Nat → Int32)} {d : Nat} {Q : Option Value → pmS → Prop} {a : xA} {b : xB} (hg : 0 ≤ a 0 12 ∧ a 0 12 ≤ 1)
    (k1 : (a 0 12 = 0) → pmCs ro d 58 [.ref 3] (xS (xU a 0 12 1) b) fun r σ' => pmWp ro d 11 57 2 21 [some (.ref 0)] (r.toList ++ []) σ' Q)
    (k2 : (¬ a 0 12 = 0) → Q (some (xV 0)) (xS a b)) :
    pmWp ro d 11 57 2 0 [some (.ref 0)] [] (xS a b) Q := by
  refine x_aloadn xc57_0 rfl ?_
  refine x_gfi (k := 12) xc57_1 rfl (Or.inr rfl) rfl xz0 ?_
  refine x_ifeq xc57_4 (xRk (by have g0 := hg; omega)) (fun h0 => ?_) (fun h0 => ?_)
  · refine x_aloadn xc57_9 rfl ?_
    refine x_iconst xc57_10 ?_
    refine x_pfz (k := 12) (by omega) xc57_11 rfl ⟨rfl, rfl⟩ rfl xz0 ?_
    refine x_aloadn xc57_14 rfl ?_
    refine x_gfr xc57_15 rfl rfl xz0 rfl ?_
    refine x_cV (as := []) (rest := []) xc57_18 rfl xi58 xz3 ⟨rfl, rfl⟩ rfl rfl ?_
    exact k1 h0
  · refine x_iconst xc57_7 ?_
    refine x_iret xc57_8 (Or.inr ⟨rfl, (by omega)⟩) ?_
    exact k2 h0

theorem wb57_21 {ro : Nat → Nat × (Nat → Int32)} {d : Nat} {Q : Option Value → pmS → Prop} {a : xA} {b : xB}
    (k1 : pmCs ro d 59 [.ref 43, .ref 21] (xS a b) fun r σ' => pmWp ro d 11 57 2 32 [some (.ref 0)] (r.toList ++ []) σ' Q) :
    pmWp ro d 11 57 2 21 [some (.ref 0)] [] (xS a b) Q := by
  refine x_aloadn xc57_21 rfl ?_
  refine x_gfr xc57_22 rfl rfl xz0 rfl ?_
  refine x_aloadn xc57_25 rfl ?_
  refine x_gfr xc57_26 rfl rfl xz0 rfl ?_
  refine x_cV (as := [.ref 21]) (rest := []) xc57_29 rfl xi59 xz43 ⟨rfl, rfl⟩ rfl rfl ?_
  exact k1

theorem wb57_32 {ro : Nat → Nat × (Nat → Int32)} {d : Nat} {Q : Option Value → pmS → Prop} {a : xA} {b : xB}
    (k1 : pmCs ro d 65 [.ref 79, .ref 21] (xS a b) fun r σ' => pmWp ro d 11 57 2 43 [some (.ref 0)] (r.toList ++ []) σ' Q) :
    pmWp ro d 11 57 2 32 [some (.ref 0)] [] (xS a b) Q := by
  refine x_aloadn xc57_32 rfl ?_
  refine x_gfr xc57_33 rfl rfl xz0 rfl ?_
  refine x_aloadn xc57_36 rfl ?_
  refine x_gfr xc57_37 rfl rfl xz0 rfl ?_
  refine x_cV (as := [.ref 21]) (rest := []) xc57_40 rfl xi65 xz79 ⟨rfl, rfl⟩ rfl rfl ?_
  exact k1

theorem wb57_43 {ro : Nat → Nat × (Nat → Int32)} {d : Nat} {Q : Option Value → pmS → Prop} {a : xA} {b : xB}
    (k1 : Q (some (xV 1)) (xS a b)) :
    pmWp ro d 11 57 2 43 [some (.ref 0)] [] (xS a b) Q := by
  refine x_iconst xc57_43 ?_
  refine x_iret xc57_44 (Or.inr ⟨rfl, (by omega)⟩) ?_
  exact k1

theorem wb65 {ro : Nat → Nat × (Nat → Int32)} {d : Nat} {Q : Option Value → pmS → Prop} {a : xA} {b : xB}
    (k1 : pmCs ro d 66 [.ref 80, .ref 21] (xS a b) fun r σ' => pmWp ro d 0 65 0 8 [some (.ref 79), some (.ref 21)] (r.toList ++ []) σ' Q) :
    pmWp ro d 0 65 0 0 [some (.ref 79), some (.ref 21)] [] (xS a b) Q := by
  refine x_aloadn xc65_0 rfl ?_
  refine x_gfr xc65_1 rfl rfl xz79 rfl ?_
  refine x_aloadn xc65_4 rfl ?_
  refine x_cV (as := [.ref 21]) (rest := []) xc65_5 rfl xi66 xz80 ⟨rfl, rfl⟩ rfl rfl ?_
  exact k1

theorem wb65_8 {ro : Nat → Nat × (Nat → Int32)} {d : Nat} {Q : Option Value → pmS → Prop} {a : xA} {b : xB}
    (k1 : Q none (xS a b)) :
    pmWp ro d 0 65 0 8 [some (.ref 79), some (.ref 21)] [] (xS a b) Q := by
  refine x_ret xc65_8 rfl ?_
  exact k1

theorem wb173 {ro : Nat → Nat × (Nat → Int32)} {d : Nat} {Q : Option Value → pmS → Prop} {a : xA} {b : xB} (hg : 0 ≤ a 87 4 ∧ a 87 4 ≤ 1)
    (k1 : (a 87 4 = 0) → pmCs ro d 174 [.ref 87] (xS (xU a 87 4 1) b) fun r σ' => pmWp ro d 12 173 2 18 [some (.ref 87)] (r.toList ++ []) σ' Q)
    (k2 : (¬ a 87 4 = 0) → Q (some (xV 0)) (xS a b)) :
    pmWp ro d 12 173 2 0 [some (.ref 87)] [] (xS a b) Q := by
  refine x_aloadn xc173_0 rfl ?_
  refine x_gfi (k := 4) xc173_1 rfl (Or.inr rfl) rfl xz87 ?_
  refine x_ifeq xc173_4 (xRk (by have g0 := hg; omega)) (fun h0 => ?_) (fun h0 => ?_)
  · refine x_aloadn xc173_9 rfl ?_
    refine x_iconst xc173_10 ?_
    refine x_pfz (k := 4) (by omega) xc173_11 rfl ⟨rfl, rfl⟩ rfl xz87 ?_
    refine x_aloadn xc173_14 rfl ?_
    refine x_cV (as := []) (rest := []) xc173_15 rfl xi174 xz87 ⟨rfl, rfl⟩ rfl rfl ?_
    exact k1 h0
  · refine x_iconst xc173_7 ?_
    refine x_iret xc173_8 (Or.inr ⟨rfl, (by omega)⟩) ?_
    exact k2 h0

theorem wb173_18 {ro : Nat → Nat × (Nat → Int32)} {d : Nat} {Q : Option Value → pmS → Prop} {a : xA} {b : xB}
    (k1 : pmCs ro d 181 [.ref 87, xV 0] (xS a b) fun r σ' => pmWp ro d 12 173 2 23 [some (.ref 87)] (r.toList ++ []) σ' Q) :
    pmWp ro d 12 173 2 18 [some (.ref 87)] [] (xS a b) Q := by
  refine x_aloadn xc173_18 rfl ?_
  refine x_iconst xc173_19 ?_
  refine x_cV (as := [xV 0]) (rest := []) xc173_20 rfl xi181 xz87 ⟨rfl, rfl⟩ rfl rfl ?_
  exact k1

theorem wb173_23 {ro : Nat → Nat × (Nat → Int32)} {d : Nat} {Q : Option Value → pmS → Prop} {a : xA} {b : xB}
    (k1 : Q (some (xV 1)) (xS a b)) :
    pmWp ro d 12 173 2 23 [some (.ref 87)] [] (xS a b) Q := by
  refine x_iconst xc173_23 ?_
  refine x_iret xc173_24 (Or.inr ⟨rfl, (by omega)⟩) ?_
  exact k1

end
end
section
/-! measureWays -/
section
set_option maxRecDepth 100000


section
variable {ro : Nat → Nat × (Nat → Int32)} {d : Nat} {Q : Option Value → pmS → Prop} {dr : Int → Int} {D : Int → Int → Int} {K x y i j k : Int} {a a0 a1 : xA} {b : xB}
/-- ways: so many rooms may stand between -/
def vM (dr : Int → Int) (K : Int) (D : Int → Int → Int) : Prop := (∀ x y, 0 ≤ x → x < 7 → 0 ≤ y → y < 7 → (0 ≤ D x y ∧ D x y ≤ 99) ∧ (D x y = 0 ↔ x = y)) ∧ (∀ x e, 0 ≤ x → x < 7 → 0 ≤ e → e < 7 → ¬ dr (7 * x + e) = 0 → D x e ≤ 1) ∧ ∀ x e y, 0 ≤ x → x < 7 → 0 ≤ e → e < 7 → 0 ≤ y → y < 7 → e < K → D x y ≤ D x e + D e y
def vN (K : Int) (D : Int → Int → Int) (x y : Int) : Int := if D x K + D K y < D x y then D x K + D K y else D x y
theorem vN_r (h : D K K = 0) : vN K D x K = D x K := if_neg (by omega)
theorem vN_l (h : D K K = 0) : vN K D K y = D K y := if_neg (by omega)
theorem vN_c : (vN K D x y = D x K + D K y ∧ D x K + D K y < D x y) ∨ (vN K D x y = D x y ∧ D x y ≤ D x K + D K y) := by
  unfold vN
  split
  · exact Or.inl ⟨rfl, by assumption⟩
  · exact Or.inr ⟨rfl, by omega⟩
theorem vM_s (hK : 0 ≤ K ∧ K < 7) (h : vM dr K D) : vM dr (K + 1) (vN K D) := by
  obtain ⟨h1, h2, h3⟩ := h
  have hKK : D K K = 0 := (h1 K K hK.1 hK.2 hK.1 hK.2).2.mpr rfl
  refine ⟨fun x y x0 x6 y0 y6 => ?_, fun x e x0 x6 e0 e6 hn => ?_, fun x e y x0 x6 e0 e6 y0 y6 he => ?_⟩
  · obtain ⟨b1, b2⟩ := h1 x y x0 x6 y0 y6
    obtain ⟨b3, b4⟩ := h1 x K x0 x6 hK.1 hK.2
    obtain ⟨b5, b6⟩ := h1 K y hK.1 hK.2 y0 y6
    rcases vN_c (K := K) (D := D) (x := x) (y := y) with ⟨g1, g2⟩ | ⟨g1, g2⟩
    · rw [g1]
      exact ⟨by omega, fun e => by omega, fun e => by
        have := b2.mpr e
        omega⟩
    · rw [g1]
      exact ⟨b1, b2⟩
  · have := h2 x e x0 x6 e0 e6 hn
    rcases vN_c (K := K) (D := D) (x := x) (y := e) with ⟨g1, g2⟩ | ⟨g1, g2⟩ <;> omega
  · have n1 := (h1 e K e0 e6 hK.1 hK.2).1
    have n2 := (h1 K e hK.1 hK.2 e0 e6).1
    have hxy := vN_c (K := K) (D := D) (x := x) (y := y)
    by_cases c : e = K
    · rw [c, vN_r hKK, vN_l hKK]
      omega
    · have t1 := h3 x e y x0 x6 e0 e6 y0 y6 (by omega)
      have t2 := h3 K e y hK.1 hK.2 e0 e6 y0 y6 (by omega)
      have t3 := h3 x e K x0 x6 e0 e6 hK.1 hK.2 (by omega)
      have a1 := vN_c (K := K) (D := D) (x := x) (y := e)
      have a2 := vN_c (K := K) (D := D) (x := e) (y := y)
      omega
def vH (K : Int) (D : Int → Int → Int) (x y : Int) (a : xA) : Prop := ∀ i j, 0 ≤ i → i < 7 → 0 ≤ j → j < 7 → a 6 (7 * i + j) = if i < x ∨ (i = x ∧ j < y) then vN K D i j else D i j
theorem vH_s (hK : 0 ≤ K ∧ K < 7) (hKK : D K K = 0) (hx : 0 ≤ x ∧ x < 7) (hy : 0 ≤ y ∧ y < 7) (h : vH K D x y a) : vH K D x (y + 1) (xU a 6 (7 * x + y) (if a 6 (7 * x + K) + (a 6 (7 * K + y)) < a 6 (7 * x + y) then a 6 (7 * x + K) + (a 6 (7 * K + y)) else a 6 (7 * x + y))) := by
  have e1 : a 6 (7 * x + K) = D x K := by
    rw [h x K hx.1 hx.2 hK.1 hK.2]
    by_cases c : x < x ∨ (x = x ∧ K < y)
    · rw [if_pos c, vN_r hKK]
    · rw [if_neg c]
  have e2 : a 6 (7 * K + y) = D K y := by
    rw [h K y hK.1 hK.2 hy.1 hy.2]
    by_cases c : K < x ∨ (K = x ∧ y < y)
    · rw [if_pos c, vN_l hKK]
    · rw [if_neg c]
  have e3 : a 6 (7 * x + y) = D x y := by
    rw [h x y hx.1 hx.2 hy.1 hy.2, if_neg (by omega)]
  rw [e1, e2, e3]
  intro i j i0 i6 j0 j6
  by_cases e : i = x ∧ j = y
  · obtain ⟨g1, g2⟩ := e
    have c2 : x < x ∨ (x = x ∧ y < y + 1) := Or.inr ⟨rfl, by omega⟩
    rw [g1, g2, xUa]
    exact (if_pos c2).symm
  · rw [xUk (by omega), h i j i0 i6 j0 j6]
    by_cases c : i < x ∨ (i = x ∧ j < y)
    · rw [if_pos c, if_pos (by omega)]
    · rw [if_neg c, if_neg (by omega)]
theorem vH_n (h : vH K D x 7 a) : vH K D (x + 1) 0 a := by
  intro i j i0 i6 j0 j6
  rw [h i j i0 i6 j0 j6]
  by_cases c : i < x ∨ (i = x ∧ j < 7)
  · rw [if_pos c, if_pos (by omega)]
  · rw [if_neg c, if_neg (by omega)]
def vJ (a0 a : xA) : Prop := (∀ q j, q ≠ 6 → a q j = a0 q j) ∧ xAr a ∧ ∀ k, 0 ≤ k → 0 ≤ a 6 k ∧ a 6 k ≤ 99
theorem vJ_u {v : Int} (h : vJ a0 a) (hv : 0 ≤ v ∧ v ≤ 99) : vJ a0 (xU a 6 k v) := ⟨fun q j e => by rw [xUn e]; exact h.1 q j e, xAr_u h.2.1 ⟨by omega, by omega⟩, fun j j0 => by
  by_cases e : j = k
  · rw [e, xUa]
    exact hv
  · rw [xUk e]
    exact h.2.2 j j0⟩
theorem vw81 (hK : 0 ≤ K ∧ K < 7) (hKK : D K K = 0) (hx : 0 ≤ x ∧ x < 7) (hQ : ∀ a2 v3 v4, vJ a0 a2 → vH K D x 7 a2 → pmWp ro d 5 58 0 73 [some (.ref 3), some (xV K), some (xV (x + 1)), v3, v4] [] (xS a2 b) Q) : ∀ (u : Nat) (y : Int) (a : xA) (v4 : Option Value), y + (u : Int) = 7 → 0 ≤ y → vJ a0 a → vH K D x y a → pmWp ro d 5 58 0 81 [some (.ref 3), some (xV K), some (xV x), some (xV y), v4] [] (xS a b) Q
  | 0, y, a, v4, hu, y0, hJ, hH => wb58e (v4 := v4) hK hx ⟨y0, by omega⟩ hJ.2.2 (fun _ => hQ a _ _ hJ (by rw [show (7 : Int) = y by omega]; exact hH)) (fun e => absurd (by omega) e)
  | u + 1, y, a, v4, hu, y0, hJ, hH => wb58e (v4 := v4) hK hx ⟨y0, by omega⟩ hJ.2.2 (fun e => absurd e (by omega)) (fun _ => vw81 hK hKK hx hQ u (y + 1) _ _ (by omega) (by omega) (vJ_u hJ (by
      have n1 := hJ.2.2 (7 * x + K) (by omega)
      have n2 := hJ.2.2 (7 * K + y) (by omega)
      have n3 := hJ.2.2 (7 * x + y) (by omega)
      split <;> omega)) (vH_s hK hKK hx ⟨y0, by omega⟩ hH))
theorem vw73 (hK : 0 ≤ K ∧ K < 7) (hKK : D K K = 0) (hQ : ∀ a2 v2 v3 v4, vJ a0 a2 → vH K D 7 0 a2 → pmWp ro d 5 58 0 65 [some (.ref 3), some (xV (K + 1)), v2, v3, v4] [] (xS a2 b) Q) : ∀ (u : Nat) (x : Int) (a : xA) (v3 v4 : Option Value), x + (u : Int) = 7 → 0 ≤ x → vJ a0 a → vH K D x 0 a → pmWp ro d 5 58 0 73 [some (.ref 3), some (xV K), some (xV x), v3, v4] [] (xS a b) Q
  | 0, x, a, v3, v4, hu, x0, hJ, hH => wb58d (v3 := v3) (v4 := v4) hK ⟨x0, by omega⟩ (fun _ => hQ a _ _ _ hJ (by rw [show (7 : Int) = x by omega]; exact hH)) (fun e => absurd (by omega) e)
  | u + 1, x, a, v3, v4, hu, x0, hJ, hH => wb58d (v3 := v3) (v4 := v4) hK ⟨x0, by omega⟩ (fun e => absurd e (by omega)) (fun _ => vw81 hK hKK ⟨x0, by omega⟩ (fun a2 _ _ hJ2 hH2 => vw73 hK hKK hQ u (x + 1) a2 _ _ (by omega) (by omega) hJ2 (vH_n hH2)) 7 0 a _ (by decide) (by decide) hJ hH)
theorem vM_h (hH : vH K D 7 0 a) (h : vM dr (K + 1) (vN K D)) : vM dr (K + 1) (fun x y => a 6 (7 * x + y)) := by
  have e : ∀ i j, 0 ≤ i → i < 7 → 0 ≤ j → j < 7 → a 6 (7 * i + j) = vN K D i j := fun i j i0 i6 j0 j6 => by
    rw [hH i j i0 i6 j0 j6, if_pos (by omega)]
  obtain ⟨h1, h2, h3⟩ := h
  refine ⟨fun x y x0 x6 y0 y6 => ?_, fun x e' x0 x6 e0 e6 hn => ?_, fun x e' y x0 x6 e0 e6 y0 y6 he => ?_⟩
  · show (0 ≤ a 6 (7 * x + y) ∧ a 6 (7 * x + y) ≤ 99) ∧ (a 6 (7 * x + y) = 0 ↔ x = y)
    rw [e x y x0 x6 y0 y6]
    exact h1 x y x0 x6 y0 y6
  · show a 6 (7 * x + e') ≤ 1
    rw [e x e' x0 x6 e0 e6]
    exact h2 x e' x0 x6 e0 e6 hn
  · show a 6 (7 * x + y) ≤ a 6 (7 * x + e') + a 6 (7 * e' + y)
    rw [e x y x0 x6 y0 y6, e x e' x0 x6 e0 e6, e e' y e0 e6 y0 y6]
    exact h3 x e' y x0 x6 e0 e6 y0 y6 he
theorem vw65 (hQ : ∀ a2, vJ a0 a2 → vM dr 7 (fun x y => a2 6 (7 * x + y)) → Q none (xS a2 b)) : ∀ (u : Nat) (K : Int) (a : xA) (v2 v3 v4 : Option Value), K + (u : Int) = 7 → 0 ≤ K → vJ a0 a → vM dr K (fun x y => a 6 (7 * x + y)) → pmWp ro d 5 58 0 65 [some (.ref 3), some (xV K), v2, v3, v4] [] (xS a b) Q
  | 0, K, a, v2, v3, v4, hu, K0, hJ, hM => wb58c (v2 := v2) (v3 := v3) (v4 := v4) ⟨K0, by omega⟩ (fun _ => hQ a hJ (by rw [show (7 : Int) = K by omega]; rw [show (7 : Int) = K by omega] at hM; exact hM)) (fun e => absurd (by omega) e)
  | u + 1, K, a, v2, v3, v4, hu, K0, hJ, hM => wb58c (v2 := v2) (v3 := v3) (v4 := v4) ⟨K0, by omega⟩ (fun e => absurd e (by omega)) (fun _ => vw73 (D := fun x y => a 6 (7 * x + y)) ⟨K0, by omega⟩ ((hM.1 K K K0 (by omega) K0 (by omega)).2.mpr rfl) (fun a2 _ _ _ hJ2 hH2 => vw65 hQ u (K + 1) a2 _ _ _ (by omega) (by omega) hJ2 (vM_h hH2 (vM_s ⟨K0, by omega⟩ hM))) 7 0 a _ _ (by decide) (by decide) hJ (fun i j _ _ _ _ => by rw [if_neg (by omega)]))
def vI (b : xB) (x y : Int) : Int := if x = y then 0 else bif xBit (b 3 3) (7 * x + y) then 1 else 99
def vE (b : xB) (x y : Int) (a : xA) : Prop := ∀ i j, 0 ≤ i → i < 7 → 0 ≤ j → j < 7 → i < x ∨ (i = x ∧ j < y) → a 6 (7 * i + j) = vI b i j
theorem vE_s {v : Int} (hx : 0 ≤ x ∧ x < 7) (hy : 0 ≤ y ∧ y < 7) (hv : v = vI b x y) (h : vE b x y a) : vE b x (y + 1) (xU a 6 (7 * x + y) v) := by
  intro i j i0 i6 j0 j6 hc
  by_cases e : i = x ∧ j = y
  · obtain ⟨g1, g2⟩ := e
    rw [g1, g2, xUa]
    exact hv
  · rw [xUk (by omega)]
    exact h i j i0 i6 j0 j6 (by omega)
theorem vw10 (hx : 0 ≤ x ∧ x < 7) (hd : 1 ≤ d) (hQ : ∀ a2 v2 v3 v4, vJ a0 a2 → vE b x 7 a2 → pmWp ro d 5 58 0 2 [some (.ref 3), some (xV (x + 1)), v2, v3, v4] [] (xS a2 b) Q) : ∀ (u : Nat) (y : Int) (a : xA) (v3 v4 : Option Value), y + (u : Int) = 7 → 0 ≤ y → vJ a0 a → vE b x y a → pmWp ro d 5 58 0 10 [some (.ref 3), some (xV x), some (xV y), v3, v4] [] (xS a b) Q
  | 0, y, a, v3, v4, hu, y0, hJ, hH => wb58b (v3 := v3) (v4 := v4) hx ⟨y0, by omega⟩ hd (fun _ => hQ a _ _ _ hJ (by rw [show (7 : Int) = y by omega]; exact hH)) (fun e => absurd (by omega) e) (fun e => absurd (by omega) e) (fun e => absurd (by omega) e)
  | u + 1, y, a, v3, v4, hu, y0, hJ, hH => wb58b (v3 := v3) (v4 := v4) hx ⟨y0, by omega⟩ hd (fun e => absurd e (by omega))
      (fun _ e1 e2 => vw10 hx hd hQ u (y + 1) _ _ _ (by omega) (by omega) (vJ_u hJ (by decide)) (vE_s hx ⟨y0, by omega⟩ (by unfold vI; rw [if_neg e1, e2]; rfl) hH))
      (fun _ e1 e2 => vw10 hx hd hQ u (y + 1) _ _ _ (by omega) (by omega) (vJ_u hJ (by decide)) (vE_s hx ⟨y0, by omega⟩ (by unfold vI; rw [if_neg e1, e2]; rfl) hH))
      (fun _ e1 => vw10 hx hd hQ u (y + 1) _ _ _ (by omega) (by omega) (vJ_u hJ (by decide)) (vE_s hx ⟨y0, by omega⟩ (by unfold vI; rw [if_pos e1]) hH))
theorem vw2 (hd : 1 ≤ d) (hQ : ∀ a2 v2 v3 v4, vJ a0 a2 → vE b 7 0 a2 → pmWp ro d 5 58 0 65 [some (.ref 3), some (xV 0), v2, v3, v4] [] (xS a2 b) Q) : ∀ (u : Nat) (x : Int) (a : xA) (v2 v3 v4 : Option Value), x + (u : Int) = 7 → 0 ≤ x → vJ a0 a → vE b x 0 a → pmWp ro d 5 58 0 2 [some (.ref 3), some (xV x), v2, v3, v4] [] (xS a b) Q
  | 0, x, a, v2, v3, v4, hu, x0, hJ, hH => wb58a (v2 := v2) (v3 := v3) (v4 := v4) ⟨x0, by omega⟩ (fun _ => hQ a _ _ _ hJ (by rw [show (7 : Int) = x by omega]; exact hH)) (fun e => absurd (by omega) e)
  | u + 1, x, a, v2, v3, v4, hu, x0, hJ, hH => wb58a (v2 := v2) (v3 := v3) (v4 := v4) ⟨x0, by omega⟩ (fun e => absurd e (by omega)) (fun _ => vw10 ⟨x0, by omega⟩ hd (fun a2 _ _ _ hJ2 hH2 => vw2 hd hQ u (x + 1) a2 _ _ _ (by omega) (by omega) hJ2 (fun i j i0 i6 j0 j6 hc => hH2 i j i0 i6 j0 j6 (by omega))) 7 0 a _ _ (by decide) (by decide) hJ hH)
/-- measureWays -/
theorem u58 (hA : xAr a) (hW : ∀ k, 0 ≤ k → 0 ≤ a 6 k ∧ a 6 k ≤ 99) (hdr : ∀ k, 0 ≤ k → k < 49 → (xBit (b 3 3) k = true ↔ ¬ dr k = 0)) (hd : 2 ≤ d) (hQ : ∀ a', (∀ q j, q ≠ 6 → a' q j = a q j) → xAr a' → (∀ k, 0 ≤ k → 0 ≤ a' 6 k ∧ a' 6 k ≤ 99) → vM dr 7 (fun x y => a' 6 (7 * x + y)) → Q none (xS a' b)) : pmCs ro d 58 [.ref 3] (xS a b) Q := by
  refine pmCs_deep (d := 2) (xg58 (wb58 (vw2 (a0 := a) (by decide) (fun a2 v2 v3 v4 hJ hE => vw65 (fun a3 hJ3 hM => hQ a3 hJ3.1 hJ3.2.1 hJ3.2.2 hM) 7 0 a2 v2 v3 v4 (by decide) (by decide) hJ ?_) 7 0 a _ _ _ (by decide) (by decide) ⟨fun _ _ _ => rfl, hA, hW⟩ (fun i j i0 i6 j0 j6 hc => absurd hc (by omega))))) hd
  have e : ∀ i j, 0 ≤ i → i < 7 → 0 ≤ j → j < 7 → a2 6 (7 * i + j) = vI b i j := fun i j i0 i6 j0 j6 => hE i j i0 i6 j0 j6 (by omega)
  refine ⟨fun x y x0 x6 y0 y6 => ?_, fun x e' x0 x6 e0 e6 hn => ?_, fun x e' y x0 x6 e0 e6 y0 y6 he => absurd he (by omega)⟩
  · show (0 ≤ a2 6 (7 * x + y) ∧ a2 6 (7 * x + y) ≤ 99) ∧ (a2 6 (7 * x + y) = 0 ↔ x = y)
    rw [e x y x0 x6 y0 y6]
    unfold vI
    by_cases c : x = y
    · rw [if_pos c]
      exact ⟨by decide, fun _ => c, fun _ => rfl⟩
    · rw [if_neg c]
      cases xBit (b 3 3) (7 * x + y) with
      | true => exact ⟨by decide, fun g => absurd g (by decide), fun g => absurd g c⟩
      | false => exact ⟨by decide, fun g => absurd g (by decide), fun g => absurd g c⟩
  · show a2 6 (7 * x + e') ≤ 1
    rw [e x e' x0 x6 e0 e6]
    unfold vI
    by_cases c : x = e'
    · rw [if_pos c]
      decide
    · rw [if_neg c, (hdr (7 * x + e') (by omega) (by omega)).mpr hn]
      decide
end
end
end
