/-! exact: did -/
section
set_option maxRecDepth 100000
theorem xi127 : pmInf[127]? = some pmI_127 := rfl
theorem xi128 : pmInf[128]? = some pmI_128 := rfl
theorem xi240 : pmInf[240]? = some pmI_240 := rfl
theorem xc127_0 : pmCode 127 0 = some (.iload_n 1) ∧ 0 + 1 = 1 := ⟨rfl, rfl⟩
theorem xc127_1 : pmCode 127 1 = some (.iconst 1) ∧ 1 + 1 = 2 := ⟨rfl, rfl⟩
theorem xc127_2 : pmCode 127 2 = some (.if_icmp .lt 30) ∧ ((2 : Nat) : Int) + 30 = ((32 : Nat) : Int) ∧ 2 + 3 = 5 := ⟨rfl, rfl, rfl⟩
theorem xc127_5 : pmCode 127 5 = some (.iload_n 1) ∧ 5 + 1 = 6 := ⟨rfl, rfl⟩
theorem xc127_6 : pmCode 127 6 = some (.aload_n 0) ∧ 6 + 1 = 7 := ⟨rfl, rfl⟩
theorem xc127_7 : pmCode 127 7 = some (.getfield 40) ∧ 7 + 3 = 10 := ⟨rfl, rfl⟩
theorem xc127_10 : pmCode 127 10 = some (.getfield 234) ∧ 10 + 3 = 13 := ⟨rfl, rfl⟩
theorem xc127_13 : pmCode 127 13 = some (.if_icmp .gt 19) ∧ ((13 : Nat) : Int) + 19 = ((32 : Nat) : Int) ∧ 13 + 3 = 16 := ⟨rfl, rfl, rfl⟩
theorem xc127_16 : pmCode 127 16 = some (.iload_n 2) ∧ 16 + 1 = 17 := ⟨rfl, rfl⟩
theorem xc127_17 : pmCode 127 17 = some (.invokestatic 113) ∧ 17 + 3 = 20 := ⟨rfl, rfl⟩
theorem xc127_20 : pmCode 127 20 = some (.ifCond .eq 12) ∧ ((20 : Nat) : Int) + 12 = ((32 : Nat) : Int) ∧ 20 + 3 = 23 := ⟨rfl, rfl, rfl⟩
theorem xc127_23 : pmCode 127 23 = some (.iload_n 3) ∧ 23 + 1 = 24 := ⟨rfl, rfl⟩
theorem xc127_24 : pmCode 127 24 = some (.ifCond .lt 8) ∧ ((24 : Nat) : Int) + 8 = ((32 : Nat) : Int) ∧ 24 + 3 = 27 := ⟨rfl, rfl, rfl⟩
theorem xc127_27 : pmCode 127 27 = some (.iload_n 3) ∧ 27 + 1 = 28 := ⟨rfl, rfl⟩
theorem xc127_28 : pmCode 127 28 = some (.iconst 4) ∧ 28 + 1 = 29 := ⟨rfl, rfl⟩
theorem xc127_29 : pmCode 127 29 = some (.if_icmp .le 5) ∧ ((29 : Nat) : Int) + 5 = ((34 : Nat) : Int) ∧ 29 + 3 = 32 := ⟨rfl, rfl, rfl⟩
theorem xc127_32 : pmCode 127 32 = some (.iconst (-1)) ∧ 32 + 1 = 33 := ⟨rfl, rfl⟩
theorem xc127_33 : pmCode 127 33 = some .ireturn := rfl
theorem xc127_34 : pmCode 127 34 = some (.aload_n 0) ∧ 34 + 1 = 35 := ⟨rfl, rfl⟩
theorem xc127_35 : pmCode 127 35 = some (.getfield 97) ∧ 35 + 3 = 38 := ⟨rfl, rfl⟩
theorem xc127_38 : pmCode 127 38 = some (.iload_n 1) ∧ 38 + 1 = 39 := ⟨rfl, rfl⟩
theorem xc127_39 : pmCode 127 39 = some (.iload_n 2) ∧ 39 + 1 = 40 := ⟨rfl, rfl⟩
theorem xc127_40 : pmCode 127 40 = some (.invokevirtual 288) ∧ 40 + 3 = 43 := ⟨rfl, rfl⟩
theorem xc127_43 : pmCode 127 43 = some (.istore 4) ∧ 43 + 2 = 45 := ⟨rfl, rfl⟩
theorem xc127_45 : pmCode 127 45 = some (.iload 4) ∧ 45 + 2 = 47 := ⟨rfl, rfl⟩
theorem xc127_47 : pmCode 127 47 = some (.iconst (-1)) ∧ 47 + 1 = 48 := ⟨rfl, rfl⟩
theorem xc127_48 : pmCode 127 48 = some (.if_icmp .ne 7) ∧ ((48 : Nat) : Int) + 7 = ((55 : Nat) : Int) ∧ 48 + 3 = 51 := ⟨rfl, rfl, rfl⟩
theorem xc127_51 : pmCode 127 51 = some (.iconst (-1)) ∧ 51 + 1 = 52 := ⟨rfl, rfl⟩
theorem xc127_52 : pmCode 127 52 = some (.goto 9) ∧ ((52 : Nat) : Int) + 9 = ((61 : Nat) : Int) := ⟨rfl, rfl⟩
theorem xc127_55 : pmCode 127 55 = some (.iload 4) ∧ 55 + 2 = 57 := ⟨rfl, rfl⟩
theorem xc127_57 : pmCode 127 57 = some (.iload_n 3) ∧ 57 + 1 = 58 := ⟨rfl, rfl⟩
theorem xc127_58 : pmCode 127 58 = some (.invokestatic 292) ∧ 58 + 3 = 61 := ⟨rfl, rfl⟩
theorem xc127_61 : pmCode 127 61 = some .ireturn := rfl
theorem xc128_0 : pmCode 128 0 = some (.iload_n 1) ∧ 0 + 1 = 1 := ⟨rfl, rfl⟩
theorem xc128_1 : pmCode 128 1 = some (.iconst 3) ∧ 1 + 1 = 2 := ⟨rfl, rfl⟩
theorem xc128_2 : pmCode 128 2 = some (.if_icmp .ge 9) ∧ ((2 : Nat) : Int) + 9 = ((11 : Nat) : Int) ∧ 2 + 3 = 5 := ⟨rfl, rfl, rfl⟩
theorem xc128_5 : pmCode 128 5 = some (.iload_n 0) ∧ 5 + 1 = 6 := ⟨rfl, rfl⟩
theorem xc128_6 : pmCode 128 6 = some (.iload_n 1) ∧ 6 + 1 = 7 := ⟨rfl, rfl⟩
theorem xc128_7 : pmCode 128 7 = some (.invokestatic 328) ∧ 7 + 3 = 10 := ⟨rfl, rfl⟩
theorem xc128_10 : pmCode 128 10 = some .ireturn := rfl
theorem xc128_11 : pmCode 128 11 = some (.iload_n 1) ∧ 11 + 1 = 12 := ⟨rfl, rfl⟩
theorem xc128_12 : pmCode 128 12 = some (.iconst 4) ∧ 12 + 1 = 13 := ⟨rfl, rfl⟩
theorem xc128_13 : pmCode 128 13 = some (.if_icmp .ne 8) ∧ ((13 : Nat) : Int) + 8 = ((21 : Nat) : Int) ∧ 13 + 3 = 16 := ⟨rfl, rfl, rfl⟩
theorem xc128_16 : pmCode 128 16 = some (.iload_n 0) ∧ 16 + 1 = 17 := ⟨rfl, rfl⟩
theorem xc128_17 : pmCode 128 17 = some (.invokestatic 231) ∧ 17 + 3 = 20 := ⟨rfl, rfl⟩
theorem xc128_20 : pmCode 128 20 = some .ireturn := rfl
theorem xc128_21 : pmCode 128 21 = some (.iload_n 0) ∧ 21 + 1 = 22 := ⟨rfl, rfl⟩
theorem xc128_22 : pmCode 128 22 = some (.bipush 6) ∧ 22 + 2 = 24 := ⟨rfl, rfl⟩
theorem xc128_24 : pmCode 128 24 = some .ishr ∧ 24 + 1 = 25 := ⟨rfl, rfl⟩
theorem xc128_25 : pmCode 128 25 = some (.bipush 7) ∧ 25 + 2 = 27 := ⟨rfl, rfl⟩
theorem xc128_27 : pmCode 128 27 = some .iand ∧ 27 + 1 = 28 := ⟨rfl, rfl⟩
theorem xc128_28 : pmCode 128 28 = some (.ifCond .ne 7) ∧ ((28 : Nat) : Int) + 7 = ((35 : Nat) : Int) ∧ 28 + 3 = 31 := ⟨rfl, rfl, rfl⟩
theorem xc128_31 : pmCode 128 31 = some (.iconst (-1)) ∧ 31 + 1 = 32 := ⟨rfl, rfl⟩
theorem xc128_32 : pmCode 128 32 = some (.goto 10) ∧ ((32 : Nat) : Int) + 10 = ((42 : Nat) : Int) := ⟨rfl, rfl⟩
theorem xc128_35 : pmCode 128 35 = some (.iload_n 0) ∧ 35 + 1 = 36 := ⟨rfl, rfl⟩
theorem xc128_36 : pmCode 128 36 = some (.bipush 9) ∧ 36 + 2 = 38 := ⟨rfl, rfl⟩
theorem xc128_38 : pmCode 128 38 = some .ishr ∧ 38 + 1 = 39 := ⟨rfl, rfl⟩
theorem xc128_39 : pmCode 128 39 = some (.bipush 15) ∧ 39 + 2 = 41 := ⟨rfl, rfl⟩
theorem xc128_41 : pmCode 128 41 = some .iand ∧ 41 + 1 = 42 := ⟨rfl, rfl⟩
theorem xc128_42 : pmCode 128 42 = some .ireturn := rfl
theorem xc240_0 : pmCode 240 0 = some (.iload_n 1) ∧ 0 + 1 = 1 := ⟨rfl, rfl⟩
theorem xc240_1 : pmCode 240 1 = some (.iconst 1) ∧ 1 + 1 = 2 := ⟨rfl, rfl⟩
theorem xc240_2 : pmCode 240 2 = some (.aload_n 0) ∧ 2 + 1 = 3 := ⟨rfl, rfl⟩
theorem xc240_3 : pmCode 240 3 = some (.getfield 7) ∧ 3 + 3 = 6 := ⟨rfl, rfl⟩
theorem xc240_6 : pmCode 240 6 = some (.bipush 114) ∧ 6 + 2 = 8 := ⟨rfl, rfl⟩
theorem xc240_8 : pmCode 240 8 = some .iaload ∧ 8 + 1 = 9 := ⟨rfl, rfl⟩
theorem xc240_9 : pmCode 240 9 = some (.invokestatic 142) ∧ 9 + 3 = 12 := ⟨rfl, rfl⟩
theorem xc240_12 : pmCode 240 12 = some (.ifCond .eq 23) ∧ ((12 : Nat) : Int) + 23 = ((35 : Nat) : Int) ∧ 12 + 3 = 15 := ⟨rfl, rfl, rfl⟩
theorem xc240_15 : pmCode 240 15 = some (.iload_n 2) ∧ 15 + 1 = 16 := ⟨rfl, rfl⟩
theorem xc240_16 : pmCode 240 16 = some (.invokestatic 139) ∧ 16 + 3 = 19 := ⟨rfl, rfl⟩
theorem xc240_19 : pmCode 240 19 = some (.ifCond .eq 16) ∧ ((19 : Nat) : Int) + 16 = ((35 : Nat) : Int) ∧ 19 + 3 = 22 := ⟨rfl, rfl, rfl⟩
theorem xc240_22 : pmCode 240 22 = some (.aload_n 0) ∧ 22 + 1 = 23 := ⟨rfl, rfl⟩
theorem xc240_23 : pmCode 240 23 = some (.getfield 121) ∧ 23 + 3 = 26 := ⟨rfl, rfl⟩
theorem xc240_26 : pmCode 240 26 = some (.iconst 4) ∧ 26 + 1 = 27 := ⟨rfl, rfl⟩
theorem xc240_27 : pmCode 240 27 = some (.iload_n 1) ∧ 27 + 1 = 28 := ⟨rfl, rfl⟩
theorem xc240_28 : pmCode 240 28 = some .imul ∧ 28 + 1 = 29 := ⟨rfl, rfl⟩
theorem xc240_29 : pmCode 240 29 = some (.iload_n 2) ∧ 29 + 1 = 30 := ⟨rfl, rfl⟩
theorem xc240_30 : pmCode 240 30 = some .iadd ∧ 30 + 1 = 31 := ⟨rfl, rfl⟩
theorem xc240_31 : pmCode 240 31 = some .baload ∧ 31 + 1 = 32 := ⟨rfl, rfl⟩
theorem xc240_32 : pmCode 240 32 = some (.ifCond .ne 5) ∧ ((32 : Nat) : Int) + 5 = ((37 : Nat) : Int) ∧ 32 + 3 = 35 := ⟨rfl, rfl, rfl⟩
theorem xc240_35 : pmCode 240 35 = some (.iconst (-1)) ∧ 35 + 1 = 36 := ⟨rfl, rfl⟩
theorem xc240_36 : pmCode 240 36 = some .ireturn := rfl
theorem xc240_37 : pmCode 240 37 = some (.aload_n 0) ∧ 37 + 1 = 38 := ⟨rfl, rfl⟩
theorem xc240_38 : pmCode 240 38 = some (.getfield 109) ∧ 38 + 3 = 41 := ⟨rfl, rfl⟩
theorem xc240_41 : pmCode 240 41 = some (.iconst 4) ∧ 41 + 1 = 42 := ⟨rfl, rfl⟩
theorem xc240_42 : pmCode 240 42 = some (.iload_n 1) ∧ 42 + 1 = 43 := ⟨rfl, rfl⟩
theorem xc240_43 : pmCode 240 43 = some .imul ∧ 43 + 1 = 44 := ⟨rfl, rfl⟩
theorem xc240_44 : pmCode 240 44 = some (.iload_n 2) ∧ 44 + 1 = 45 := ⟨rfl, rfl⟩
theorem xc240_45 : pmCode 240 45 = some .iadd ∧ 45 + 1 = 46 := ⟨rfl, rfl⟩
theorem xc240_46 : pmCode 240 46 = some .iaload ∧ 46 + 1 = 47 := ⟨rfl, rfl⟩
theorem xc240_47 : pmCode 240 47 = some (.istore 4) ∧ 47 + 2 = 49 := ⟨rfl, rfl⟩
theorem xc240_49 : pmCode 240 49 = some (.iload_n 3) ∧ 49 + 1 = 50 := ⟨rfl, rfl⟩
theorem xc240_50 : pmCode 240 50 = some (.tableswitch 74 0 4 #[34, 40, 46, 52, 63]) ∧ ((50 : Nat) : Int) + 74 = ((124 : Nat) : Int) := ⟨rfl, rfl⟩
theorem xc240_84 : pmCode 240 84 = some (.iload 4) ∧ 84 + 2 = 86 := ⟨rfl, rfl⟩
theorem xc240_86 : pmCode 240 86 = some (.invokestatic 279) ∧ 86 + 3 = 89 := ⟨rfl, rfl⟩
theorem xc240_89 : pmCode 240 89 = some .ireturn := rfl
theorem xc240_90 : pmCode 240 90 = some (.iload 4) ∧ 90 + 2 = 92 := ⟨rfl, rfl⟩
theorem xc240_92 : pmCode 240 92 = some (.invokestatic 276) ∧ 92 + 3 = 95 := ⟨rfl, rfl⟩
theorem xc240_95 : pmCode 240 95 = some .ireturn := rfl
theorem xc240_96 : pmCode 240 96 = some (.iload 4) ∧ 96 + 2 = 98 := ⟨rfl, rfl⟩
theorem xc240_98 : pmCode 240 98 = some (.invokestatic 282) ∧ 98 + 3 = 101 := ⟨rfl, rfl⟩
theorem xc240_101 : pmCode 240 101 = some .ireturn := rfl
theorem xc240_102 : pmCode 240 102 = some (.aload_n 0) ∧ 102 + 1 = 103 := ⟨rfl, rfl⟩
theorem xc240_103 : pmCode 240 103 = some (.getfield 112) ∧ 103 + 3 = 106 := ⟨rfl, rfl⟩
theorem xc240_106 : pmCode 240 106 = some (.iconst 4) ∧ 106 + 1 = 107 := ⟨rfl, rfl⟩
theorem xc240_107 : pmCode 240 107 = some (.iload_n 1) ∧ 107 + 1 = 108 := ⟨rfl, rfl⟩
theorem xc240_108 : pmCode 240 108 = some .imul ∧ 108 + 1 = 109 := ⟨rfl, rfl⟩
theorem xc240_109 : pmCode 240 109 = some (.iload_n 2) ∧ 109 + 1 = 110 := ⟨rfl, rfl⟩
theorem xc240_110 : pmCode 240 110 = some .iadd ∧ 110 + 1 = 111 := ⟨rfl, rfl⟩
theorem xc240_111 : pmCode 240 111 = some .iaload ∧ 111 + 1 = 112 := ⟨rfl, rfl⟩
theorem xc240_112 : pmCode 240 112 = some .ireturn := rfl
theorem xc240_113 : pmCode 240 113 = some (.aload_n 0) ∧ 113 + 1 = 114 := ⟨rfl, rfl⟩
theorem xc240_114 : pmCode 240 114 = some (.getfield 115) ∧ 114 + 3 = 117 := ⟨rfl, rfl⟩
theorem xc240_117 : pmCode 240 117 = some (.iconst 4) ∧ 117 + 1 = 118 := ⟨rfl, rfl⟩
theorem xc240_118 : pmCode 240 118 = some (.iload_n 1) ∧ 118 + 1 = 119 := ⟨rfl, rfl⟩
theorem xc240_119 : pmCode 240 119 = some .imul ∧ 119 + 1 = 120 := ⟨rfl, rfl⟩
theorem xc240_120 : pmCode 240 120 = some (.iload_n 2) ∧ 120 + 1 = 121 := ⟨rfl, rfl⟩
theorem xc240_121 : pmCode 240 121 = some .iadd ∧ 121 + 1 = 122 := ⟨rfl, rfl⟩
theorem xc240_122 : pmCode 240 122 = some .iaload ∧ 122 + 1 = 123 := ⟨rfl, rfl⟩
theorem xc240_123 : pmCode 240 123 = some .ireturn := rfl
theorem xc240_124 : pmCode 240 124 = some (.iconst (-1)) ∧ 124 + 1 = 125 := ⟨rfl, rfl⟩
theorem xc240_125 : pmCode 240 125 = some .ireturn := rfl
theorem wa127 {ro : Nat → Nat × (Nat → Int32)} {d : Nat} {Q : Option Value → pmS → Prop} {t p k : Int} {a : xA} {b : xB} (qr1 : xR t) (qr2 : xR p) (qr3 : xR k) (htn : 0 ≤ a 21 6 ∧ a 21 6 ≤ 60) (hd : 1 ≤ d)
    (k1 : (t < 1) → Q (some (xV (-1))) (xS a b))
    (k2 : (¬ t < 1) → (a 21 6 < t) → Q (some (xV (-1))) (xS a b))
    (k3 : (¬ t < 1) → (¬ a 21 6 < t) → (0 ≤ p ∧ p < 4) → (k < 0) → Q (some (xV (-1))) (xS a b))
    (k4 : (¬ t < 1) → (¬ a 21 6 < t) → (0 ≤ p ∧ p < 4) → (¬ k < 0) → (k ≤ 4) → pmCs ro d 118 [.ref 79, xV t, xV p] (xS a b) fun r σ' => pmWp ro d 11 127 1 43 [some (.ref 0), some (xV t), some (xV p), some (xV k), none] (r.toList ++ []) σ' Q)
    (k5 : (¬ t < 1) → (¬ a 21 6 < t) → (0 ≤ p ∧ p < 4) → (¬ k < 0) → (¬ k ≤ 4) → Q (some (xV (-1))) (xS a b))
    (k6 : (¬ t < 1) → (¬ a 21 6 < t) → (¬ (0 ≤ p ∧ p < 4)) → Q (some (xV (-1))) (xS a b)) :
    pmWp ro d 11 127 1 0 [some (.ref 0), some (xV t), some (xV p), some (xV k), none] [] (xS a b) Q := by
  refine x_iloadn xc127_0 rfl ?_
  refine x_iconst xc127_1 ?_
  refine x_iclt xc127_2 (xRk (by have g0 := xRb qr1; omega)) (xRk (by decide)) (fun h0 => ?_) (fun h0 => ?_)
  · refine x_iconst xc127_32 ?_
    refine x_iret xc127_33 (Or.inl rfl) ?_
    exact k1 h0
  · refine x_iloadn xc127_5 rfl ?_
    refine x_aloadn xc127_6 rfl ?_
    refine x_gfr xc127_7 rfl rfl xz0 rfl ?_
    refine x_gfi (k := 6) xc127_10 rfl (Or.inl rfl) rfl xz21 ?_
    refine x_icgt xc127_13 (xRk (by have g0 := xRb qr1; omega)) (xRk (by have g0 := htn; omega)) (fun h1 => ?_) (fun h1 => ?_)
    · refine x_iconst xc127_32 ?_
      refine x_iret xc127_33 (Or.inl rfl) ?_
      exact k2 h0 h1
    · refine x_iloadn xc127_16 rfl ?_
      refine x_cS (as := [xV p]) (rest := []) xc127_17 rfl rfl xi18 ⟨rfl, rfl⟩ rfl rfl ?_
      refine xk18 (by omega) (xRk (by have g0 := xRb qr2; omega)) (fun h2 => ?_) (fun h3 => ?_)
      · refine x_ifeq xc127_20 (xRk (by decide)) (fun h => absurd h (by omega)) (fun _ => ?_)
        refine x_iloadn xc127_23 rfl ?_
        refine x_iflt xc127_24 (xRk (by have g0 := xRb qr3; omega)) (fun h5 => ?_) (fun h5 => ?_)
        · refine x_iconst xc127_32 ?_
          refine x_iret xc127_33 (Or.inl rfl) ?_
          exact k3 h0 h1 h2 h5
        · refine x_iloadn xc127_27 rfl ?_
          refine x_iconst xc127_28 ?_
          refine x_icle xc127_29 (xRk (by have g0 := xRb qr3; omega)) (xRk (by decide)) (fun h6 => ?_) (fun h6 => ?_)
          · refine x_aloadn xc127_34 rfl ?_
            refine x_gfr xc127_35 rfl rfl xz0 rfl ?_
            refine x_iloadn xc127_38 rfl ?_
            refine x_iloadn xc127_39 rfl ?_
            refine x_cV (as := [xV t, xV p]) (rest := []) xc127_40 rfl xi118 xz79 ⟨rfl, rfl⟩ rfl rfl ?_
            exact k4 h0 h1 h2 h5 h6
          · refine x_iconst xc127_32 ?_
            refine x_iret xc127_33 (Or.inl rfl) ?_
            exact k5 h0 h1 h2 h5 h6
      · refine x_ifeq xc127_20 (xRk (by decide)) (fun _ => ?_) (fun h => absurd h (by omega))
        refine x_iconst xc127_32 ?_
        refine x_iret xc127_33 (Or.inl rfl) ?_
        exact k6 h0 h1 h3

theorem xg127 {ro : Nat → Nat × (Nat → Int32)} {d : Nat} {Q : Option Value → pmS → Prop} {a : xA} {b : xB} {t p k : Int} (h : pmWp ro d 11 127 1 0 [some (.ref 0), some (xV t), some (xV p), some (xV k), none] [] (xS a b) Q) : pmCs ro (d + 1) 127 [.ref 0, xV t, xV p, xV k] (xS a b) Q := x_go xi127 rfl rfl rfl rfl rfl h
theorem wa127a {ro : Nat → Nat × (Nat → Int32)} {d : Nat} {Q : Option Value → pmS → Prop} {t p k e : Int} {a : xA} {b : xB} (hk : 0 ≤ k ∧ k ≤ 4) (he : -1 ≤ e ∧ e ≤ 50000) (hd : 1 ≤ d)
    (k1 : (¬ e = -1) → pmCs ro d 128 [xV e, xV k] (xS a b) fun r σ' => pmWp ro d 11 127 1 61 [some (.ref 0), some (xV t), some (xV p), some (xV k), some (xV e)] (r.toList ++ []) σ' Q)
    (k2 : (e = -1) → Q (some (xV (-1))) (xS a b)) :
    pmWp ro d 11 127 1 43 [some (.ref 0), some (xV t), some (xV p), some (xV k), none] [xV e] (xS a b) Q := by
  refine x_istore (pl' := [some (.ref 0), some (xV t), some (xV p), some (xV k), some (xV e)]) xc127_43 rfl rfl ?_
  refine x_iload xc127_45 rfl ?_
  refine x_iconst xc127_47 ?_
  refine x_icne xc127_48 (xRk (by have g0 := he; omega)) (xRk (by decide)) (fun h0 => ?_) (fun h0 => ?_)
  · refine x_iload xc127_55 rfl ?_
    refine x_iloadn xc127_57 rfl ?_
    refine x_cS (as := [xV e, xV k]) (rest := []) xc127_58 rfl rfl xi128 ⟨rfl, rfl⟩ rfl rfl ?_
    exact k1 h0
  · replace h0 := Classical.not_not.mp h0
    refine x_iconst xc127_51 ?_
    refine x_goto xc127_52 ?_
    refine x_iret xc127_61 (Or.inl rfl) ?_
    exact k2 h0

theorem wa127b {ro : Nat → Nat × (Nat → Int32)} {d : Nat} {Q : Option Value → pmS → Prop} {t p k e z : Int} {a : xA} {b : xB}
    (k1 : Q (some (xV z)) (xS a b)) :
    pmWp ro d 11 127 1 61 [some (.ref 0), some (xV t), some (xV p), some (xV k), some (xV e)] [xV z] (xS a b) Q := by
  refine x_iret xc127_61 (Or.inl rfl) ?_
  exact k1

theorem wa128 {ro : Nat → Nat × (Nat → Int32)} {d : Nat} {Q : Option Value → pmS → Prop} {k e : Int} {a : xA} {b : xB} (hk : 0 ≤ k ∧ k ≤ 4) (he : 0 ≤ e ∧ e ≤ 50000) (hd : 1 ≤ d)
    (k1 : (3 ≤ k) → (¬ k = 4) → (¬ (e / 64) % 8 = 0) → Q (some (xV ((e / 512) % 16))) (xS a b))
    (k2 : (3 ≤ k) → (¬ k = 4) → ((e / 64) % 8 = 0) → Q (some (xV (-1))) (xS a b))
    (k3 : (3 ≤ k) → (k = 4) → Q (some (xV (e / 8192 % 8 - 1))) (xS a b))
    (k4 : (¬ 3 ≤ k) → Q (some (xV (uPrt e k))) (xS a b)) :
    pmWp ro d 11 128 1 0 [some (xV e), some (xV k)] [] (xS a b) Q := by
  refine x_iloadn xc128_0 rfl ?_
  refine x_iconst xc128_1 ?_
  refine x_icge xc128_2 (xRk (by have g0 := hk; omega)) (xRk (by decide)) (fun h0 => ?_) (fun h0 => ?_)
  · refine x_iloadn xc128_11 rfl ?_
    refine x_iconst xc128_12 ?_
    refine x_icne xc128_13 (xRk (by have g0 := hk; omega)) (xRk (by decide)) (fun h1 => ?_) (fun h1 => ?_)
    · refine x_iloadn xc128_21 rfl ?_
      refine x_bipush xc128_22 (by decide) ?_
      refine x_ishr (M := 64) (by omega) (by omega) (by decide) (xRk (by have g0 := he; omega)) xc128_24 ?_
      refine x_bipush xc128_25 (by decide) ?_
      refine x_iandm (M := 8) 3 (by decide) (by decide) (by decide) xc128_27 ?_
      refine x_ifne xc128_28 (xRk (by have g0 := he; omega)) (fun h2 => ?_) (fun h2 => ?_)
      · refine x_iloadn xc128_35 rfl ?_
        refine x_bipush xc128_36 (by decide) ?_
        refine x_ishr (M := 512) (by omega) (by omega) (by decide) (xRk (by have g0 := he; omega)) xc128_38 ?_
        refine x_bipush xc128_39 (by decide) ?_
        refine x_iandm (M := 16) 4 (by decide) (by decide) (by decide) xc128_41 ?_
        refine x_iret xc128_42 (Or.inl rfl) ?_
        exact k1 h0 h1 h2
      · replace h2 := Classical.not_not.mp h2
        refine x_iconst xc128_31 ?_
        refine x_goto xc128_32 ?_
        refine x_iret xc128_42 (Or.inl rfl) ?_
        exact k2 h0 h1 h2
    · replace h1 := Classical.not_not.mp h1
      refine x_iloadn xc128_16 rfl ?_
      refine x_cS (as := [xV e]) (rest := []) xc128_17 rfl rfl xi86 ⟨rfl, rfl⟩ rfl rfl ?_
      refine rk86 (by omega) (by have g0 := he; omega) ?_
      refine x_iret xc128_20 (Or.inl rfl) ?_
      exact k3 h0 h1
  · refine x_iloadn xc128_5 rfl ?_
    refine x_iloadn xc128_6 rfl ?_
    refine x_cS (as := [xV e, xV k]) (rest := []) xc128_7 rfl rfl xi83 ⟨rfl, rfl⟩ rfl rfl ?_
    refine rk83x (by omega) (xRk (by have g0 := he; omega)) (by have g0 := hk; omega) ?_
    refine x_iret xc128_10 (Or.inl rfl) ?_
    exact k4 h0

theorem xg128 {ro : Nat → Nat × (Nat → Int32)} {d : Nat} {Q : Option Value → pmS → Prop} {a : xA} {b : xB} {e k : Int} (h : pmWp ro d 11 128 1 0 [some (xV e), some (xV k)] [] (xS a b) Q) : pmCs ro (d + 1) 128 [xV e, xV k] (xS a b) Q := x_go xi128 rfl rfl rfl rfl rfl h
theorem wa240 {ro : Nat → Nat × (Nat → Int32)} {d : Nat} {Q : Option Value → pmS → Prop} {t p k tn : Int} {a : xA} {b : xB} (qr1 : xR t) (qr2 : xR p) (qr3 : xR k) (hA : xAr a) (ht : a 88 114 = tn) (htn : 0 ≤ tn ∧ tn ≤ 60) (hd : 1 ≤ d)
    (k1 : (1 ≤ t ∧ t ≤ tn) → (0 ≤ p ∧ p < 4) → (¬ a 124 (4 * t + p) = 0) → (k = 0) → pmCs ro d 193 [xV (a 120 (4 * t + p))] (xS a b) fun r σ' => pmWp ro d 12 240 1 89 [some (.ref 87), some (xV t), some (xV p), some (xV k), some (xV (a 120 (4 * t + p)))] (r.toList ++ []) σ' Q)
    (k2 : (1 ≤ t ∧ t ≤ tn) → (0 ≤ p ∧ p < 4) → (¬ a 124 (4 * t + p) = 0) → (¬ k = 0) → (k = 1) → pmCs ro d 192 [xV (a 120 (4 * t + p))] (xS a b) fun r σ' => pmWp ro d 12 240 1 95 [some (.ref 87), some (xV t), some (xV p), some (xV k), some (xV (a 120 (4 * t + p)))] (r.toList ++ []) σ' Q)
    (k3 : (1 ≤ t ∧ t ≤ tn) → (0 ≤ p ∧ p < 4) → (¬ a 124 (4 * t + p) = 0) → (¬ k = 0) → (¬ k = 1) → (k = 2) → pmCs ro d 194 [xV (a 120 (4 * t + p))] (xS a b) fun r σ' => pmWp ro d 12 240 1 101 [some (.ref 87), some (xV t), some (xV p), some (xV k), some (xV (a 120 (4 * t + p)))] (r.toList ++ []) σ' Q)
    (k4 : (1 ≤ t ∧ t ≤ tn) → (0 ≤ p ∧ p < 4) → (¬ a 124 (4 * t + p) = 0) → (¬ k = 0) → (¬ k = 1) → (¬ k = 2) → (k = 3) → Q (some (xV (a 121 (4 * t + p)))) (xS a b))
    (k5 : (1 ≤ t ∧ t ≤ tn) → (0 ≤ p ∧ p < 4) → (¬ a 124 (4 * t + p) = 0) → (¬ k = 0) → (¬ k = 1) → (¬ k = 2) → (¬ k = 3) → (k = 4) → Q (some (xV (a 122 (4 * t + p)))) (xS a b))
    (k6 : (1 ≤ t ∧ t ≤ tn) → (0 ≤ p ∧ p < 4) → (¬ a 124 (4 * t + p) = 0) → (¬ k = 0) → (¬ k = 1) → (¬ k = 2) → (¬ k = 3) → (¬ k = 4) → Q (some (xV (-1))) (xS a b))
    (k7 : (1 ≤ t ∧ t ≤ tn) → (0 ≤ p ∧ p < 4) → (a 124 (4 * t + p) = 0) → Q (some (xV (-1))) (xS a b))
    (k8 : (1 ≤ t ∧ t ≤ tn) → (¬ (0 ≤ p ∧ p < 4)) → Q (some (xV (-1))) (xS a b))
    (k9 : (¬ (1 ≤ t ∧ t ≤ tn)) → Q (some (xV (-1))) (xS a b)) :
    pmWp ro d 12 240 1 0 [some (.ref 87), some (xV t), some (xV p), some (xV k), none] [] (xS a b) Q := by
  refine x_iloadn xc240_0 rfl ?_
  refine x_iconst xc240_1 ?_
  refine x_aloadn xc240_2 rfl ?_
  refine x_gfr xc240_3 rfl rfl xz87 rfl ?_
  refine x_bipush xc240_6 (by decide) ?_
  refine x_ial' (v := tn) xc240_8 xz88 rfl (by omega) (by omega) (by omega) ht ?_
  refine x_cS (as := [xV t, xV 1, xV tn]) (rest := []) xc240_9 rfl rfl xi143 ⟨rfl, rfl⟩ rfl rfl ?_
  refine xk143 (xRk (by have g0 := xRb qr1; omega)) (xRk (by decide)) (xRk (by have g0 := htn; omega)) (by omega) (fun h0 => ?_) (fun h1 => ?_)
  · refine x_ifeq xc240_12 (xRk (by decide)) (fun h => absurd h (by omega)) (fun _ => ?_)
    refine x_iloadn xc240_15 rfl ?_
    refine x_cS (as := [xV p]) (rest := []) xc240_16 rfl rfl xi140 ⟨rfl, rfl⟩ rfl rfl ?_
    refine xk140 (by omega) (xRk (by have g0 := xRb qr2; omega)) (fun h3 => ?_) (fun h4 => ?_)
    · refine x_ifeq xc240_19 (xRk (by decide)) (fun h => absurd h (by omega)) (fun _ => ?_)
      refine x_aloadn xc240_22 rfl ?_
      refine x_gfr xc240_23 rfl rfl xz87 rfl ?_
      refine x_iconst xc240_26 ?_
      refine x_iloadn xc240_27 rfl ?_
      refine x_imul xc240_28 ?_
      refine x_iloadn xc240_29 rfl ?_
      refine x_iadd xc240_30 ?_
      refine x_bal xc240_31 xz124 (Or.inl rfl) (by have g0 := xRb qr1; have g1 := xRb qr2; omega) (by have g0 := xRb qr1; have g1 := xRb qr2; omega) (by have g0 := xRb qr1; have g1 := xRb qr2; omega) ?_
      refine x_ifne xc240_32 (xRk (by have g0 := xRb qr1; have g1 := xRb qr2; have g2 := xRb (hA 124 (4 * t + p)); omega)) (fun h6 => ?_) (fun h6 => ?_)
      · refine x_aloadn xc240_37 rfl ?_
        refine x_gfr xc240_38 rfl rfl xz87 rfl ?_
        refine x_iconst xc240_41 ?_
        refine x_iloadn xc240_42 rfl ?_
        refine x_imul xc240_43 ?_
        refine x_iloadn xc240_44 rfl ?_
        refine x_iadd xc240_45 ?_
        refine x_ial xc240_46 xz120 rfl (by have g0 := xRb qr1; have g1 := xRb qr2; omega) (by have g0 := xRb qr1; have g1 := xRb qr2; omega) (by have g0 := xRb qr1; have g1 := xRb qr2; omega) ?_
        refine x_istore (pl' := [some (.ref 87), some (xV t), some (xV p), some (xV k), some (xV (a 120 (4 * t + p)))]) xc240_47 rfl rfl ?_
        refine x_iloadn xc240_49 rfl ?_
        by_cases h7 : k = 0
        · refine x_sw (c := 0) (t := 84) h7 xc240_50.1 rfl ?_
          refine x_iload xc240_84 rfl ?_
          refine x_cS (as := [xV (a 120 (4 * t + p))]) (rest := []) xc240_86 rfl rfl xi193 ⟨rfl, rfl⟩ rfl rfl ?_
          exact k1 h0 h3 h6 h7
        by_cases h8 : k = 1
        · refine x_sw (c := 1) (t := 90) h8 xc240_50.1 rfl ?_
          refine x_iload xc240_90 rfl ?_
          refine x_cS (as := [xV (a 120 (4 * t + p))]) (rest := []) xc240_92 rfl rfl xi192 ⟨rfl, rfl⟩ rfl rfl ?_
          exact k2 h0 h3 h6 h7 h8
        by_cases h9 : k = 2
        · refine x_sw (c := 2) (t := 96) h9 xc240_50.1 rfl ?_
          refine x_iload xc240_96 rfl ?_
          refine x_cS (as := [xV (a 120 (4 * t + p))]) (rest := []) xc240_98 rfl rfl xi194 ⟨rfl, rfl⟩ rfl rfl ?_
          exact k3 h0 h3 h6 h7 h8 h9
        by_cases h10 : k = 3
        · refine x_sw (c := 3) (t := 102) h10 xc240_50.1 rfl ?_
          refine x_aloadn xc240_102 rfl ?_
          refine x_gfr xc240_103 rfl rfl xz87 rfl ?_
          refine x_iconst xc240_106 ?_
          refine x_iloadn xc240_107 rfl ?_
          refine x_imul xc240_108 ?_
          refine x_iloadn xc240_109 rfl ?_
          refine x_iadd xc240_110 ?_
          refine x_ial xc240_111 xz121 rfl (by have g0 := xRb qr1; have g1 := xRb qr2; omega) (by have g0 := xRb qr1; have g1 := xRb qr2; omega) (by have g0 := xRb qr1; have g1 := xRb qr2; omega) ?_
          refine x_iret xc240_112 (Or.inl rfl) ?_
          exact k4 h0 h3 h6 h7 h8 h9 h10
        by_cases h11 : k = 4
        · refine x_sw (c := 4) (t := 113) h11 xc240_50.1 rfl ?_
          refine x_aloadn xc240_113 rfl ?_
          refine x_gfr xc240_114 rfl rfl xz87 rfl ?_
          refine x_iconst xc240_117 ?_
          refine x_iloadn xc240_118 rfl ?_
          refine x_imul xc240_119 ?_
          refine x_iloadn xc240_120 rfl ?_
          refine x_iadd xc240_121 ?_
          refine x_ial xc240_122 xz122 rfl (by have g0 := xRb qr1; have g1 := xRb qr2; omega) (by have g0 := xRb qr1; have g1 := xRb qr2; omega) (by have g0 := xRb qr1; have g1 := xRb qr2; omega) ?_
          refine x_iret xc240_123 (Or.inl rfl) ?_
          exact k5 h0 h3 h6 h7 h8 h9 h10 h11
        refine x_tsd xc240_50 (xRk (by have g0 := xRb qr3; omega)) (by omega) ?_
        refine x_iconst xc240_124 ?_
        refine x_iret xc240_125 (Or.inl rfl) ?_
        exact k6 h0 h3 h6 h7 h8 h9 h10 h11
      · replace h6 := Classical.not_not.mp h6
        refine x_iconst xc240_35 ?_
        refine x_iret xc240_36 (Or.inl rfl) ?_
        exact k7 h0 h3 h6
    · refine x_ifeq xc240_19 (xRk (by decide)) (fun _ => ?_) (fun h => absurd h (by omega))
      refine x_iconst xc240_35 ?_
      refine x_iret xc240_36 (Or.inl rfl) ?_
      exact k8 h0 h4
  · refine x_ifeq xc240_12 (xRk (by decide)) (fun _ => ?_) (fun h => absurd h (by omega))
    refine x_iconst xc240_35 ?_
    refine x_iret xc240_36 (Or.inl rfl) ?_
    exact k9 h1

theorem xg240 {ro : Nat → Nat × (Nat → Int32)} {d : Nat} {Q : Option Value → pmS → Prop} {a : xA} {b : xB} {t p k : Int} (h : pmWp ro d 12 240 1 0 [some (.ref 87), some (xV t), some (xV p), some (xV k), none] [] (xS a b) Q) : pmCs ro (d + 1) 240 [.ref 87, xV t, xV p, xV k] (xS a b) Q := x_go xi240 rfl rfl rfl rfl rfl h
theorem wa240a {ro : Nat → Nat × (Nat → Int32)} {d : Nat} {Q : Option Value → pmS → Prop} {t p k c z : Int} {a : xA} {b : xB}
    (k1 : Q (some (xV z)) (xS a b)) :
    pmWp ro d 12 240 1 89 [some (.ref 87), some (xV t), some (xV p), some (xV k), some (xV c)] [xV z] (xS a b) Q := by
  refine x_iret xc240_89 (Or.inl rfl) ?_
  exact k1

theorem wa240b {ro : Nat → Nat × (Nat → Int32)} {d : Nat} {Q : Option Value → pmS → Prop} {t p k c z : Int} {a : xA} {b : xB}
    (k1 : Q (some (xV z)) (xS a b)) :
    pmWp ro d 12 240 1 95 [some (.ref 87), some (xV t), some (xV p), some (xV k), some (xV c)] [xV z] (xS a b) Q := by
  refine x_iret xc240_95 (Or.inl rfl) ?_
  exact k1

theorem wa240c {ro : Nat → Nat × (Nat → Int32)} {d : Nat} {Q : Option Value → pmS → Prop} {t p k c z : Int} {a : xA} {b : xB}
    (k1 : Q (some (xV z)) (xS a b)) :
    pmWp ro d 12 240 1 101 [some (.ref 87), some (xV t), some (xV p), some (xV k), some (xV c)] [xV z] (xS a b) Q := by
  refine x_iret xc240_101 (Or.inl rfl) ?_
  exact k1

section
variable {Ln : Nat} {xs : Nat → Int32} {ro : Nat → Nat × (Nat → Int32)} {d w : Nat} {Q : Option Value → pmS → Prop} {n m t k x c cd p L sw ws dn e tn : Int} {a : xA} {b : xB}
/-- what may be recorded of a person in a turn -/
def uEk (dn cd sw ws : Int) : Prop := (dn = 0 ∧ cd = -1) ∨ (dn = 1 ∧ cd = -1 ∧ sw = -1 ∧ ws = -1) ∨ (dn = 1 ∧ (0 ≤ cd ∧ cd < 61) ∧ (0 ≤ sw ∧ sw ≤ 15) ∧ (-1 ≤ ws ∧ ws ≤ 2))
theorem uEk_r (h : uEk dn cd sw ws) : uEr (uEe dn cd sw ws) dn cd := by
  rcases h with ⟨h1, h2⟩ | ⟨h1, h2, h3, h4⟩ | ⟨h1, h2, h3, h4⟩
  · unfold uEe
    rw [if_pos h1]
    exact Or.inl ⟨h1, rfl, h2⟩
  · exact uEr_e (Or.inr h1) (by omega) (fun _ => h2) (fun g => absurd h2 g) (by omega)
  · exact uEr_e (Or.inr h1) (by omega) (fun g => by omega) (fun _ => h3) h4
/-- what is told of it -/
def uTd (dn cd sw ws k : Int) : Int := if ¬ (0 ≤ k ∧ k ≤ 4) then -1 else if dn = 0 then -1 else if k = 0 then uK cd else if k = 1 then uX cd else if k = 2 then uY cd else if k = 3 then sw else ws
theorem rk118x (hd : 2 ≤ d) (ht : 1 ≤ t ∧ t ≤ 60) (hp : 0 ≤ p ∧ p < 4) (hQ : Q (some (xV (a 85 (t * 4 + p)))) (xS a b)) : pmCs ro d 118 [.ref 79, xV t, xV p] (xS a b) Q := rk118 hd ht (by omega) hQ
/-- did of the class -/
theorem u127 (qr1 : xR t) (qr2 : xR p) (qr3 : xR k) (h21 : a 21 6 = tn) (htn : 0 ≤ tn ∧ tn ≤ 60) (hE : 1 ≤ t → t ≤ tn → 0 ≤ p → p < 4 → a 85 (t * 4 + p) = uEe dn cd sw ws ∧ uEk dn cd sw ws) (hd : 4 ≤ d) (hQ : Q (some (xV (if 1 ≤ t ∧ t ≤ tn ∧ 0 ≤ p ∧ p < 4 then uTd dn cd sw ws k else -1))) (xS a b)) : pmCs ro d 127 [.ref 0, xV t, xV p, xV k] (xS a b) Q := by
  refine pmCs_deep (d := 4) (xg127 (wa127 qr1 qr2 qr3 (by omega) (by decide) (fun h => ?_) (fun _ h => ?_) (fun h1 h2 h3 h4 => ?_) (fun h1 h2 h3 h4 h5 => ?_) (fun h1 h2 h3 h4 h5 => ?_) (fun _ _ h => ?_))) hd
  · rw [if_neg (by omega)] at hQ
    exact hQ
  · rw [if_neg (by omega)] at hQ
    exact hQ
  · rw [if_pos (by omega)] at hQ
    unfold uTd at hQ
    rw [if_pos (by omega)] at hQ
    exact hQ
  · rw [if_pos (by omega)] at hQ
    unfold uTd at hQ
    rw [if_neg (by omega)] at hQ
    obtain ⟨e1, e2⟩ := hE (by omega) (by omega) h3.1 h3.2
    refine rk118 (by decide) (by omega) (by omega) ?_
    rw [e1]
    have hk : 0 ≤ k ∧ k ≤ 4 := by omega
    have hE := uEk_r e2
    obtain ⟨e, ee⟩ : ∃ e, uEe dn cd sw ws = e := ⟨_, rfl⟩
    rw [ee] at hE ⊢
    have he : -1 ≤ e ∧ e ≤ 50000 := by
      rcases hE with g | g <;> omega
    refine wa127a hk he (by decide) (fun c => ?_) (fun c => ?_)
    · have d1 : dn = 1 := by
        rcases hE with g | g <;> omega
      have he0 : 0 ≤ e ∧ e ≤ 50000 := by omega
      rw [if_neg (by omega)] at hQ
      have hcd : -1 ≤ cd ∧ cd < 61 := by
        rcases hE with g | g <;> omega
      have hD := uD_p hcd
      have e64 : e / 64 % 8 = uK cd := by
        rcases hE with g | g
        · omega
        · obtain ⟨g1, g2, g3, g4⟩ := g
          omega
      have e8 : e / 8 % 8 - 1 = uX cd ∧ e % 8 - 1 = uY cd := by
        rcases hE with g | g
        · omega
        · obtain ⟨g1, g2, g3, g4⟩ := g
          by_cases c0 : cd = -1
          · have e1 : uX (-1) = -1 := by decide
            have e2 : uY (-1) = -1 := by decide
            have e0 := hD.2.2.2.2 c0
            rw [c0, e1, e2]
            omega
          · have := hD.2.2.2.1 (by omega)
            omega
      have es : k = 3 → (if uK cd = 0 then -1 else e / 512 % 16) = sw := by
        intro k3
        rcases e2 with g | ⟨g1, g2, g3, g4⟩ | ⟨g1, g2, g3, g4⟩
        · omega
        · rw [g2, if_pos (by decide), g3]
        · have : ¬ uK cd = 0 := by
            rw [uK_e]
            omega
          rw [if_neg this, ← ee]
          unfold uEe
          rw [if_neg (by omega), if_neg (by omega)]
          omega
      have ev : e / 8192 % 8 - 1 = ws := by
        rcases e2 with g | ⟨g1, g2, g3, g4⟩ | ⟨g1, g2, g3, g4⟩
        · omega
        · rw [← ee]
          unfold uEe
          rw [if_neg (by omega), if_pos g2]
          omega
        · rw [← ee]
          unfold uEe
          rw [if_neg (by omega), if_neg (by omega)]
          omega
      refine pmCs_deep (d := 2) (xg128 (wa128 hk he0 (by decide) (fun h1 h2 h3 => ?_) (fun h1 h2 h3 => ?_) (fun h1 h2 => ?_) (fun h1 => ?_))) (by decide)
      all_goals refine wa127b ?_
      · rw [if_neg (show ¬ k = 0 by omega), if_neg (show ¬ k = 1 by omega), if_neg (show ¬ k = 2 by omega), if_pos (show k = 3 by omega), ← es (by omega), if_neg (by omega)] at hQ
        exact hQ
      · rw [if_neg (show ¬ k = 0 by omega), if_neg (show ¬ k = 1 by omega), if_neg (show ¬ k = 2 by omega), if_pos (show k = 3 by omega), ← es (by omega), if_pos (by omega)] at hQ
        exact hQ
      · rw [if_neg (show ¬ k = 0 by omega), if_neg (show ¬ k = 1 by omega), if_neg (show ¬ k = 2 by omega), if_neg (show ¬ k = 3 by omega), ← ev] at hQ
        exact hQ
      · unfold uPrt
        by_cases k0 : k = 0
        · rw [if_pos k0] at hQ ⊢
          rw [e64]
          exact hQ
        rw [if_neg k0] at hQ ⊢
        by_cases k1 : k = 1
        · rw [if_pos k1] at hQ ⊢
          rw [e8.1]
          exact hQ
        rw [if_neg k1] at hQ ⊢
        rw [if_pos (show k = 2 by omega)] at hQ
        rw [e8.2]
        exact hQ
    · have d0 : dn = 0 := by
        rcases hE with g | g <;> omega
      rw [if_pos d0] at hQ
      exact hQ
  · rw [if_pos (by omega)] at hQ
    unfold uTd at hQ
    rw [if_pos (by omega)] at hQ
    exact hQ
  · rw [if_neg (by omega)] at hQ
    exact hQ
/-- did of the reference -/
theorem u240 (qr1 : xR t) (qr2 : xR p) (qr3 : xR k) (hA : xAr a) (h21 : a 88 114 = tn) (htn : 0 ≤ tn ∧ tn ≤ 60) (hE : 1 ≤ t → t ≤ tn → 0 ≤ p → p < 4 → (a 124 (4 * t + p) = dn ∧ a 120 (4 * t + p) = cd ∧ a 121 (4 * t + p) = sw ∧ a 122 (4 * t + p) = ws) ∧ uEk dn cd sw ws) (hd : 4 ≤ d) (hQ : Q (some (xV (if 1 ≤ t ∧ t ≤ tn ∧ 0 ≤ p ∧ p < 4 then uTd dn cd sw ws k else -1))) (xS a b)) : pmCs ro d 240 [.ref 87, xV t, xV p, xV k] (xS a b) Q := by
  have key : (1 ≤ t ∧ t ≤ tn) → (0 ≤ p ∧ p < 4) → (a 124 (4 * t + p) = dn ∧ a 120 (4 * t + p) = cd ∧ a 121 (4 * t + p) = sw ∧ a 122 (4 * t + p) = ws) ∧ -1 ≤ cd ∧ cd < 61 := fun h1 h2 => by
    obtain ⟨g1, g2⟩ := hE h1.1 h1.2 h2.1 h2.2
    refine ⟨g1, ?_⟩
    rcases g2 with g | g | g <;> omega
  have rr : ∀ z, (1 ≤ t ∧ t ≤ tn) → (0 ≤ p ∧ p < 4) → uTd dn cd sw ws k = z → Q (some (xV z)) (xS a b) := fun z h1 h2 e => by
    rw [if_pos ⟨h1.1, h1.2, h2.1, h2.2⟩, e] at hQ
    exact hQ
  have no : ¬ ((1 ≤ t ∧ t ≤ tn) ∧ (0 ≤ p ∧ p < 4)) → Q (some (xV (-1))) (xS a b) := fun h => by
    rw [if_neg (by omega)] at hQ
    exact hQ
  refine pmCs_deep (d := 4) (xg240 (wa240 qr1 qr2 qr3 hA h21 htn (by decide) (fun h1 h2 h3 h4 => ?_) (fun h1 h2 h3 h4 h5 => ?_) (fun h1 h2 h3 h4 h5 h6 => ?_) (fun h1 h2 h3 h4 h5 h6 h7 => ?_) (fun h1 h2 h3 h4 h5 h6 h7 h8 => ?_) (fun h1 h2 h3 h4 h5 h6 h7 h8 => ?_) (fun h1 h2 h3 => ?_) (fun h1 h2 => no (fun g => h2 g.2)) (fun h1 => no (fun g => h1 g.1)))) hd
  · obtain ⟨⟨g1, g2, g3, g4⟩, g5⟩ := key h1 h2
    rw [g1] at h3
    rw [g2]
    refine rk193 (by decide) g5 (wa240a (rr _ h1 h2 ?_))
    unfold uTd
    rw [if_neg (by omega), if_neg h3, if_pos h4]
  · obtain ⟨⟨g1, g2, g3, g4⟩, g5⟩ := key h1 h2
    rw [g1] at h3
    rw [g2]
    refine rk192 (by decide) g5 (wa240b (rr _ h1 h2 ?_))
    unfold uTd
    rw [if_neg (by omega), if_neg h3, if_neg h4, if_pos h5]
  · obtain ⟨⟨g1, g2, g3, g4⟩, g5⟩ := key h1 h2
    rw [g1] at h3
    rw [g2]
    refine rk194 (by decide) g5 (wa240c (rr _ h1 h2 ?_))
    unfold uTd
    rw [if_neg (by omega), if_neg h3, if_neg h4, if_neg h5, if_pos h6]
  · obtain ⟨⟨g1, g2, g3, g4⟩, g5⟩ := key h1 h2
    rw [g1] at h3
    rw [g3]
    refine rr _ h1 h2 ?_
    unfold uTd
    rw [if_neg (by omega), if_neg h3, if_neg h4, if_neg h5, if_neg h6, if_pos h7]
  · obtain ⟨⟨g1, g2, g3, g4⟩, g5⟩ := key h1 h2
    rw [g1] at h3
    rw [g4]
    refine rr _ h1 h2 ?_
    unfold uTd
    rw [if_neg (by omega), if_neg h3, if_neg h4, if_neg h5, if_neg h6, if_neg h7]
  · refine rr _ h1 h2 ?_
    unfold uTd
    rw [if_pos (by omega)]
  · obtain ⟨⟨g1, g2, g3, g4⟩, g5⟩ := key h1 h2
    rw [g1] at h3
    refine rr _ h1 h2 ?_
    unfold uTd
    rw [if_pos h3]
    split <;> rfl
end
end
