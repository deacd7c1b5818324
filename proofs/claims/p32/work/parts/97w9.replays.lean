/-! exact: replays of the reference -/
section
set_option maxRecDepth 100000

theorem xc232_15 : pmCode 232 15 = some (.iload_n 1) ∧ 15 + 1 = 16 := ⟨rfl, rfl⟩
theorem xc232_16 : pmCode 232 16 = some (.iconst 1) ∧ 16 + 1 = 17 := ⟨rfl, rfl⟩
theorem xc232_17 : pmCode 232 17 = some (.iload_n 2) ∧ 17 + 1 = 18 := ⟨rfl, rfl⟩
theorem xc232_18 : pmCode 232 18 = some (.invokestatic 142) ∧ 18 + 3 = 21 := ⟨rfl, rfl⟩
theorem xc232_21 : pmCode 232 21 = some (.ifCond .ne 5) ∧ ((21 : Nat) : Int) + 5 = ((26 : Nat) : Int) ∧ 21 + 3 = 24 := ⟨rfl, rfl, rfl⟩
theorem xc232_26 : pmCode 232 26 = some (.aload_n 0) ∧ 26 + 1 = 27 := ⟨rfl, rfl⟩
theorem xc232_27 : pmCode 232 27 = some (.iconst 1) ∧ 27 + 1 = 28 := ⟨rfl, rfl⟩
theorem xc232_28 : pmCode 232 28 = some (.invokevirtual 336) ∧ 28 + 3 = 31 := ⟨rfl, rfl⟩
theorem xc232_31 : pmCode 232 31 = some (.aload_n 0) ∧ 31 + 1 = 32 := ⟨rfl, rfl⟩
theorem xc232_32 : pmCode 232 32 = some (.iconst 0) ∧ 32 + 1 = 33 := ⟨rfl, rfl⟩
theorem xc232_33 : pmCode 232 33 = some (.invokevirtual 404) ∧ 33 + 3 = 36 := ⟨rfl, rfl⟩
theorem xc232_36 : pmCode 232 36 = some (.iconst 0) ∧ 36 + 1 = 37 := ⟨rfl, rfl⟩
theorem xc232_37 : pmCode 232 37 = some (.istore_n 3) ∧ 37 + 1 = 38 := ⟨rfl, rfl⟩
theorem xc232_38 : pmCode 232 38 = some (.iconst 1) ∧ 38 + 1 = 39 := ⟨rfl, rfl⟩
theorem xc232_39 : pmCode 232 39 = some (.istore 4) ∧ 39 + 2 = 41 := ⟨rfl, rfl⟩
theorem xc232_41 : pmCode 232 41 = some (.iload 4) ∧ 41 + 2 = 43 := ⟨rfl, rfl⟩
theorem xc232_43 : pmCode 232 43 = some (.iload_n 2) ∧ 43 + 1 = 44 := ⟨rfl, rfl⟩
theorem xc232_44 : pmCode 232 44 = some (.if_icmp .gt 57) ∧ ((44 : Nat) : Int) + 57 = ((101 : Nat) : Int) ∧ 44 + 3 = 47 := ⟨rfl, rfl, rfl⟩
theorem xc232_47 : pmCode 232 47 = some (.aload_n 0) ∧ 47 + 1 = 48 := ⟨rfl, rfl⟩
theorem xc232_48 : pmCode 232 48 = some (.iload 4) ∧ 48 + 2 = 50 := ⟨rfl, rfl⟩
theorem xc232_50 : pmCode 232 50 = some (.iload_n 1) ∧ 50 + 1 = 51 := ⟨rfl, rfl⟩
theorem xc232_51 : pmCode 232 51 = some (.iconst (-1)) ∧ 51 + 1 = 52 := ⟨rfl, rfl⟩
theorem xc232_52 : pmCode 232 52 = some (.invokevirtual 419) ∧ 52 + 3 = 55 := ⟨rfl, rfl⟩
theorem xc232_55 : pmCode 232 55 = some (.iconst 1) ∧ 55 + 1 = 56 := ⟨rfl, rfl⟩
theorem xc232_56 : pmCode 232 56 = some (.istore 5) ∧ 56 + 2 = 58 := ⟨rfl, rfl⟩
theorem xc232_58 : pmCode 232 58 = some (.iload 5) ∧ 58 + 2 = 60 := ⟨rfl, rfl⟩
theorem xc232_60 : pmCode 232 60 = some (.iconst 4) ∧ 60 + 1 = 61 := ⟨rfl, rfl⟩
theorem xc232_61 : pmCode 232 61 = some (.if_icmp .ge 28) ∧ ((61 : Nat) : Int) + 28 = ((89 : Nat) : Int) ∧ 61 + 3 = 64 := ⟨rfl, rfl, rfl⟩
theorem xc232_64 : pmCode 232 64 = some (.iload_n 3) ∧ 64 + 1 = 65 := ⟨rfl, rfl⟩
theorem xc232_65 : pmCode 232 65 = some (.aload_n 0) ∧ 65 + 1 = 66 := ⟨rfl, rfl⟩
theorem xc232_66 : pmCode 232 66 = some (.iload 4) ∧ 66 + 2 = 68 := ⟨rfl, rfl⟩
theorem xc232_68 : pmCode 232 68 = some (.iload 5) ∧ 68 + 2 = 70 := ⟨rfl, rfl⟩
theorem xc232_70 : pmCode 232 70 = some (.invokevirtual 422) ∧ 70 + 3 = 73 := ⟨rfl, rfl⟩
theorem xc232_73 : pmCode 232 73 = some (.ifCond .eq 7) ∧ ((73 : Nat) : Int) + 7 = ((80 : Nat) : Int) ∧ 73 + 3 = 76 := ⟨rfl, rfl, rfl⟩
theorem xc232_76 : pmCode 232 76 = some (.iconst 1) ∧ 76 + 1 = 77 := ⟨rfl, rfl⟩
theorem xc232_77 : pmCode 232 77 = some (.goto 4) ∧ ((77 : Nat) : Int) + 4 = ((81 : Nat) : Int) := ⟨rfl, rfl⟩
theorem xc232_80 : pmCode 232 80 = some (.iconst 0) ∧ 80 + 1 = 81 := ⟨rfl, rfl⟩
theorem xc232_81 : pmCode 232 81 = some .iadd ∧ 81 + 1 = 82 := ⟨rfl, rfl⟩
theorem xc232_82 : pmCode 232 82 = some (.istore_n 3) ∧ 82 + 1 = 83 := ⟨rfl, rfl⟩
theorem xc232_83 : pmCode 232 83 = some (.iinc 5 1) ∧ 83 + 3 = 86 := ⟨rfl, rfl⟩
theorem xc232_86 : pmCode 232 86 = some (.goto (-28)) ∧ ((86 : Nat) : Int) + (-28) = ((58 : Nat) : Int) := ⟨rfl, rfl⟩
theorem xc232_89 : pmCode 232 89 = some (.aload_n 0) ∧ 89 + 1 = 90 := ⟨rfl, rfl⟩
theorem xc232_90 : pmCode 232 90 = some (.iload 4) ∧ 90 + 2 = 92 := ⟨rfl, rfl⟩
theorem xc232_92 : pmCode 232 92 = some (.invokevirtual 425) ∧ 92 + 3 = 95 := ⟨rfl, rfl⟩
theorem xc232_95 : pmCode 232 95 = some (.iinc 4 1) ∧ 95 + 3 = 98 := ⟨rfl, rfl⟩
theorem xc232_98 : pmCode 232 98 = some (.goto (-57)) ∧ ((98 : Nat) : Int) + (-57) = ((41 : Nat) : Int) := ⟨rfl, rfl⟩
theorem xc232_101 : pmCode 232 101 = some (.aload_n 0) ∧ 101 + 1 = 102 := ⟨rfl, rfl⟩
theorem xc232_102 : pmCode 232 102 = some (.iconst 1) ∧ 102 + 1 = 103 := ⟨rfl, rfl⟩
theorem xc232_103 : pmCode 232 103 = some (.invokevirtual 404) ∧ 103 + 3 = 106 := ⟨rfl, rfl⟩
theorem xc232_106 : pmCode 232 106 = some (.iload_n 3) ∧ 106 + 1 = 107 := ⟨rfl, rfl⟩
theorem xc232_107 : pmCode 232 107 = some .ireturn := rfl
theorem xc236_7 : pmCode 236 7 = some (.iload_n 1) ∧ 7 + 1 = 8 := ⟨rfl, rfl⟩
theorem xc236_8 : pmCode 236 8 = some (.invokestatic 150) ∧ 8 + 3 = 11 := ⟨rfl, rfl⟩
theorem xc236_11 : pmCode 236 11 = some (.ifCond .ne 5) ∧ ((11 : Nat) : Int) + 5 = ((16 : Nat) : Int) ∧ 11 + 3 = 14 := ⟨rfl, rfl, rfl⟩
theorem xc236_16 : pmCode 236 16 = some (.aload_n 0) ∧ 16 + 1 = 17 := ⟨rfl, rfl⟩
theorem xc236_17 : pmCode 236 17 = some (.getfield 7) ∧ 17 + 3 = 20 := ⟨rfl, rfl⟩
theorem xc236_20 : pmCode 236 20 = some (.bipush 114) ∧ 20 + 2 = 22 := ⟨rfl, rfl⟩
theorem xc236_22 : pmCode 236 22 = some .iaload ∧ 22 + 1 = 23 := ⟨rfl, rfl⟩
theorem xc236_23 : pmCode 236 23 = some (.istore_n 2) ∧ 23 + 1 = 24 := ⟨rfl, rfl⟩
theorem xc236_24 : pmCode 236 24 = some (.aload_n 0) ∧ 24 + 1 = 25 := ⟨rfl, rfl⟩
theorem xc236_25 : pmCode 236 25 = some (.iconst 1) ∧ 25 + 1 = 26 := ⟨rfl, rfl⟩
theorem xc236_26 : pmCode 236 26 = some (.invokevirtual 336) ∧ 26 + 3 = 29 := ⟨rfl, rfl⟩
theorem xc236_29 : pmCode 236 29 = some (.aload_n 0) ∧ 29 + 1 = 30 := ⟨rfl, rfl⟩
theorem xc236_30 : pmCode 236 30 = some (.iconst 0) ∧ 30 + 1 = 31 := ⟨rfl, rfl⟩
theorem xc236_31 : pmCode 236 31 = some (.invokevirtual 404) ∧ 31 + 3 = 34 := ⟨rfl, rfl⟩
theorem xc236_34 : pmCode 236 34 = some (.iconst 1) ∧ 34 + 1 = 35 := ⟨rfl, rfl⟩
theorem xc236_35 : pmCode 236 35 = some (.istore_n 3) ∧ 35 + 1 = 36 := ⟨rfl, rfl⟩
theorem xc236_36 : pmCode 236 36 = some (.iconst 1) ∧ 36 + 1 = 37 := ⟨rfl, rfl⟩
theorem xc236_37 : pmCode 236 37 = some (.istore 4) ∧ 37 + 2 = 39 := ⟨rfl, rfl⟩
theorem xc236_39 : pmCode 236 39 = some (.iload 4) ∧ 39 + 2 = 41 := ⟨rfl, rfl⟩
theorem xc236_41 : pmCode 236 41 = some (.iload_n 2) ∧ 41 + 1 = 42 := ⟨rfl, rfl⟩
theorem xc236_42 : pmCode 236 42 = some (.if_icmp .gt 69) ∧ ((42 : Nat) : Int) + 69 = ((111 : Nat) : Int) ∧ 42 + 3 = 45 := ⟨rfl, rfl, rfl⟩
theorem xc236_45 : pmCode 236 45 = some (.iload_n 3) ∧ 45 + 1 = 46 := ⟨rfl, rfl⟩
theorem xc236_46 : pmCode 236 46 = some (.ifCond .eq 65) ∧ ((46 : Nat) : Int) + 65 = ((111 : Nat) : Int) ∧ 46 + 3 = 49 := ⟨rfl, rfl, rfl⟩
theorem xc236_49 : pmCode 236 49 = some (.aload_n 0) ∧ 49 + 1 = 50 := ⟨rfl, rfl⟩
theorem xc236_50 : pmCode 236 50 = some (.iload 4) ∧ 50 + 2 = 52 := ⟨rfl, rfl⟩
theorem xc236_52 : pmCode 236 52 = some (.iconst (-1)) ∧ 52 + 1 = 53 := ⟨rfl, rfl⟩
theorem xc236_53 : pmCode 236 53 = some (.iload_n 1) ∧ 53 + 1 = 54 := ⟨rfl, rfl⟩
theorem xc236_54 : pmCode 236 54 = some (.invokevirtual 419) ∧ 54 + 3 = 57 := ⟨rfl, rfl⟩
theorem xc236_57 : pmCode 236 57 = some (.iconst 0) ∧ 57 + 1 = 58 := ⟨rfl, rfl⟩
theorem xc236_58 : pmCode 236 58 = some (.istore 5) ∧ 58 + 2 = 60 := ⟨rfl, rfl⟩
theorem xc236_60 : pmCode 236 60 = some (.iload 5) ∧ 60 + 2 = 62 := ⟨rfl, rfl⟩
theorem xc236_62 : pmCode 236 62 = some (.iconst 4) ∧ 62 + 1 = 63 := ⟨rfl, rfl⟩
theorem xc236_63 : pmCode 236 63 = some (.if_icmp .ge 36) ∧ ((63 : Nat) : Int) + 36 = ((99 : Nat) : Int) ∧ 63 + 3 = 66 := ⟨rfl, rfl, rfl⟩
theorem xc236_66 : pmCode 236 66 = some (.iload_n 3) ∧ 66 + 1 = 67 := ⟨rfl, rfl⟩
theorem xc236_67 : pmCode 236 67 = some (.ifCond .eq 24) ∧ ((67 : Nat) : Int) + 24 = ((91 : Nat) : Int) ∧ 67 + 3 = 70 := ⟨rfl, rfl, rfl⟩
theorem xc236_70 : pmCode 236 70 = some (.iload 5) ∧ 70 + 2 = 72 := ⟨rfl, rfl⟩
theorem xc236_72 : pmCode 236 72 = some (.iload_n 1) ∧ 72 + 1 = 73 := ⟨rfl, rfl⟩
theorem xc236_73 : pmCode 236 73 = some (.if_icmp .eq 14) ∧ ((73 : Nat) : Int) + 14 = ((87 : Nat) : Int) ∧ 73 + 3 = 76 := ⟨rfl, rfl, rfl⟩
theorem xc236_76 : pmCode 236 76 = some (.aload_n 0) ∧ 76 + 1 = 77 := ⟨rfl, rfl⟩
theorem xc236_77 : pmCode 236 77 = some (.iload 4) ∧ 77 + 2 = 79 := ⟨rfl, rfl⟩
theorem xc236_79 : pmCode 236 79 = some (.iload 5) ∧ 79 + 2 = 81 := ⟨rfl, rfl⟩
theorem xc236_81 : pmCode 236 81 = some (.invokevirtual 422) ∧ 81 + 3 = 84 := ⟨rfl, rfl⟩
theorem xc236_84 : pmCode 236 84 = some (.ifCond .ne 7) ∧ ((84 : Nat) : Int) + 7 = ((91 : Nat) : Int) ∧ 84 + 3 = 87 := ⟨rfl, rfl, rfl⟩
theorem xc236_87 : pmCode 236 87 = some (.iconst 1) ∧ 87 + 1 = 88 := ⟨rfl, rfl⟩
theorem xc236_88 : pmCode 236 88 = some (.goto 4) ∧ ((88 : Nat) : Int) + 4 = ((92 : Nat) : Int) := ⟨rfl, rfl⟩
theorem xc236_91 : pmCode 236 91 = some (.iconst 0) ∧ 91 + 1 = 92 := ⟨rfl, rfl⟩
theorem xc236_92 : pmCode 236 92 = some (.istore_n 3) ∧ 92 + 1 = 93 := ⟨rfl, rfl⟩
theorem xc236_93 : pmCode 236 93 = some (.iinc 5 1) ∧ 93 + 3 = 96 := ⟨rfl, rfl⟩
theorem xc236_96 : pmCode 236 96 = some (.goto (-36)) ∧ ((96 : Nat) : Int) + (-36) = ((60 : Nat) : Int) := ⟨rfl, rfl⟩
theorem xc236_99 : pmCode 236 99 = some (.aload_n 0) ∧ 99 + 1 = 100 := ⟨rfl, rfl⟩
theorem xc236_100 : pmCode 236 100 = some (.iload 4) ∧ 100 + 2 = 102 := ⟨rfl, rfl⟩
theorem xc236_102 : pmCode 236 102 = some (.invokevirtual 425) ∧ 102 + 3 = 105 := ⟨rfl, rfl⟩
theorem xc236_105 : pmCode 236 105 = some (.iinc 4 1) ∧ 105 + 3 = 108 := ⟨rfl, rfl⟩
theorem xc236_108 : pmCode 236 108 = some (.goto (-69)) ∧ ((108 : Nat) : Int) + (-69) = ((39 : Nat) : Int) := ⟨rfl, rfl⟩
theorem xc236_111 : pmCode 236 111 = some (.aload_n 0) ∧ 111 + 1 = 112 := ⟨rfl, rfl⟩
theorem xc236_112 : pmCode 236 112 = some (.iconst 1) ∧ 112 + 1 = 113 := ⟨rfl, rfl⟩
theorem xc236_113 : pmCode 236 113 = some (.invokevirtual 404) ∧ 113 + 3 = 116 := ⟨rfl, rfl⟩
theorem xc236_116 : pmCode 236 116 = some (.iload_n 3) ∧ 116 + 1 = 117 := ⟨rfl, rfl⟩
theorem xc236_117 : pmCode 236 117 = some (.ifCond .eq 7) ∧ ((117 : Nat) : Int) + 7 = ((124 : Nat) : Int) ∧ 117 + 3 = 120 := ⟨rfl, rfl, rfl⟩
theorem xc236_120 : pmCode 236 120 = some (.iconst 1) ∧ 120 + 1 = 121 := ⟨rfl, rfl⟩
theorem xc236_121 : pmCode 236 121 = some (.goto 4) ∧ ((121 : Nat) : Int) + 4 = ((125 : Nat) : Int) := ⟨rfl, rfl⟩
theorem xc236_124 : pmCode 236 124 = some (.iconst 0) ∧ 124 + 1 = 125 := ⟨rfl, rfl⟩
theorem xc236_125 : pmCode 236 125 = some .ireturn := rfl
theorem wb232 {ro : Nat → Nat × (Nat → Int32)} {d : Nat} {Q : Option Value → pmS → Prop} {t bg tn : Int} {a : xA} {b : xB} (qr1 : xR t) (hb : a 87 4 = bg) (hbg : bg = 0 ∨ bg = 1) (ht : a 88 114 = tn) (htn : 0 ≤ tn ∧ tn ≤ 60) (hd : 1 ≤ d)
    (k1 : (bg = 0) → Q (some (xV (-1))) (xS a b))
    (k2 : (¬ bg = 0) → (1 ≤ t ∧ t ≤ tn) → pmCs ro d 181 [.ref 87, xV 1] (xS a b) fun r σ' => pmWp ro d 12 232 1 31 [some (.ref 87), some (xV t), some (xV tn), none, none, none] (r.toList ++ []) σ' Q)
    (k3 : (¬ bg = 0) → (¬ (1 ≤ t ∧ t ≤ tn)) → Q (some (xV (-1))) (xS a b)) :
    pmWp ro d 12 232 1 0 [some (.ref 87), some (xV t), none, none, none, none] [] (xS a b) Q := by
  refine x_aloadn xc232_0 rfl ?_
  refine x_gfr xc232_1 rfl rfl xz87 rfl ?_
  refine x_bipush xc232_4 (by decide) ?_
  refine x_ial' (v := tn) xc232_6 xz88 rfl (by omega) (by omega) (by omega) ht ?_
  refine x_istoren (pl' := [some (.ref 87), some (xV t), some (xV tn), none, none, none]) xc232_7 rfl rfl ?_
  refine x_aloadn xc232_8 rfl ?_
  refine x_gfi' (k := 4) (v := bg) xc232_9 rfl (Or.inr rfl) rfl xz87 hb ?_
  refine x_ifeq xc232_12 (xRk (by have g0 := hbg; omega)) (fun h0 => ?_) (fun h0 => ?_)
  · refine x_iconst xc232_24 ?_
    refine x_iret xc232_25 (Or.inl rfl) ?_
    exact k1 h0
  · refine x_iloadn xc232_15 rfl ?_
    refine x_iconst xc232_16 ?_
    refine x_iloadn xc232_17 rfl ?_
    refine x_cS (as := [xV t, xV 1, xV tn]) (rest := []) xc232_18 rfl rfl xi143 ⟨rfl, rfl⟩ rfl rfl ?_
    refine xk143 (xRk (by have g0 := xRb qr1; omega)) (xRk (by decide)) (xRk (by have g0 := htn; omega)) (by omega) (fun h1 => ?_) (fun h2 => ?_)
    · refine x_ifne xc232_21 (xRk (by decide)) (fun _ => ?_) (fun h => absurd h (by omega))
      refine x_aloadn xc232_26 rfl ?_
      refine x_iconst xc232_27 ?_
      refine x_cV (as := [xV 1]) (rest := []) xc232_28 rfl xi181 xz87 ⟨rfl, rfl⟩ rfl rfl ?_
      exact k2 h0 h1
    · refine x_ifne xc232_21 (xRk (by decide)) (fun h => absurd h (by omega)) (fun _ => ?_)
      refine x_iconst xc232_24 ?_
      refine x_iret xc232_25 (Or.inl rfl) ?_
      exact k3 h0 h2

theorem wb232a {ro : Nat → Nat × (Nat → Int32)} {d : Nat} {Q : Option Value → pmS → Prop} {t tn : Int} {a : xA} {b : xB} (htn : 0 ≤ tn ∧ tn ≤ 60)
    (k1 : pmCs ro d 227 [.ref 87, xV 0] (xS a b) fun r σ' => pmWp ro d 12 232 1 36 [some (.ref 87), some (xV t), some (xV tn), none, none, none] (r.toList ++ []) σ' Q) :
    pmWp ro d 12 232 1 31 [some (.ref 87), some (xV t), some (xV tn), none, none, none] [] (xS a b) Q := by
  refine x_aloadn xc232_31 rfl ?_
  refine x_iconst xc232_32 ?_
  refine x_cV (as := [xV 0]) (rest := []) xc232_33 rfl xi227 xz87 ⟨rfl, rfl⟩ rfl rfl ?_
  exact k1

theorem wb232b {ro : Nat → Nat × (Nat → Int32)} {d : Nat} {Q : Option Value → pmS → Prop} {t tn : Int} {a : xA} {b : xB} (htn : 0 ≤ tn ∧ tn ≤ 60)
    (k1 : pmWp ro d 12 232 1 41 [some (.ref 87), some (xV t), some (xV tn), some (xV 0), some (xV 1), none] [] (xS a b) Q) :
    pmWp ro d 12 232 1 36 [some (.ref 87), some (xV t), some (xV tn), none, none, none] [] (xS a b) Q := by
  refine x_iconst xc232_36 ?_
  refine x_istoren (pl' := [some (.ref 87), some (xV t), some (xV tn), some (xV 0), none, none]) xc232_37 rfl rfl ?_
  refine x_iconst xc232_38 ?_
  refine x_istore (pl' := [some (.ref 87), some (xV t), some (xV tn), some (xV 0), some (xV 1), none]) xc232_39 rfl rfl ?_
  exact k1

theorem wb232c {ro : Nat → Nat × (Nat → Int32)} {d : Nat} {Q : Option Value → pmS → Prop} {v5 : Option Value} {t tn ch i : Int} {a : xA} {b : xB} (htn : 0 ≤ tn ∧ tn ≤ 60) (hch : 0 ≤ ch ∧ ch ≤ 1000) (hi : 1 ≤ i ∧ i ≤ 61)
    (k1 : (tn < i) → pmWp ro d 12 232 1 101 [some (.ref 87), some (xV t), some (xV tn), some (xV ch), some (xV i), v5] [] (xS a b) Q)
    (k2 : (¬ tn < i) → pmCs ro d 233 [.ref 87, xV i, xV t, xV (-1)] (xS a b) fun r σ' => pmWp ro d 12 232 1 55 [some (.ref 87), some (xV t), some (xV tn), some (xV ch), some (xV i), v5] (r.toList ++ []) σ' Q) :
    pmWp ro d 12 232 1 41 [some (.ref 87), some (xV t), some (xV tn), some (xV ch), some (xV i), v5] [] (xS a b) Q := by
  refine x_iload xc232_41 rfl ?_
  refine x_iloadn xc232_43 rfl ?_
  refine x_icgt xc232_44 (xRk (by have g0 := hi; omega)) (xRk (by have g0 := htn; omega)) (fun h0 => ?_) (fun h0 => ?_)
  · exact k1 h0
  · refine x_aloadn xc232_47 rfl ?_
    refine x_iload xc232_48 rfl ?_
    refine x_iloadn xc232_50 rfl ?_
    refine x_iconst xc232_51 ?_
    refine x_cV (as := [xV i, xV t, xV (-1)]) (rest := []) xc232_52 rfl xi233 xz87 ⟨rfl, rfl⟩ rfl rfl ?_
    exact k2 h0

theorem wb232d {ro : Nat → Nat × (Nat → Int32)} {d : Nat} {Q : Option Value → pmS → Prop} {v5 : Option Value} {t tn ch i : Int} {a : xA} {b : xB} (htn : 0 ≤ tn ∧ tn ≤ 60) (hch : 0 ≤ ch ∧ ch ≤ 1000) (hi : 1 ≤ i ∧ i ≤ 61)
    (k1 : pmWp ro d 12 232 1 58 [some (.ref 87), some (xV t), some (xV tn), some (xV ch), some (xV i), some (xV 1)] [] (xS a b) Q) :
    pmWp ro d 12 232 1 55 [some (.ref 87), some (xV t), some (xV tn), some (xV ch), some (xV i), v5] [] (xS a b) Q := by
  refine x_iconst xc232_55 ?_
  refine x_istore (pl' := [some (.ref 87), some (xV t), some (xV tn), some (xV ch), some (xV i), some (xV 1)]) xc232_56 rfl rfl ?_
  exact k1

theorem wb232e {ro : Nat → Nat × (Nat → Int32)} {d : Nat} {Q : Option Value → pmS → Prop} {q t tn ch i : Int} {a : xA} {b : xB} (htn : 0 ≤ tn ∧ tn ≤ 60) (hch : 0 ≤ ch ∧ ch ≤ 1000) (hi : 1 ≤ i ∧ i ≤ 61) (hq : 1 ≤ q ∧ q ≤ 4)
    (k1 : (4 ≤ q) → pmWp ro d 12 232 1 89 [some (.ref 87), some (xV t), some (xV tn), some (xV ch), some (xV i), some (xV q)] [] (xS a b) Q)
    (k2 : (¬ 4 ≤ q) → pmCs ro d 234 [.ref 87, xV i, xV q] (xS a b) fun r σ' => pmWp ro d 12 232 1 73 [some (.ref 87), some (xV t), some (xV tn), some (xV ch), some (xV i), some (xV q)] (r.toList ++ [xV ch]) σ' Q) :
    pmWp ro d 12 232 1 58 [some (.ref 87), some (xV t), some (xV tn), some (xV ch), some (xV i), some (xV q)] [] (xS a b) Q := by
  refine x_iload xc232_58 rfl ?_
  refine x_iconst xc232_60 ?_
  refine x_icge xc232_61 (xRk (by have g0 := hq; omega)) (xRk (by decide)) (fun h0 => ?_) (fun h0 => ?_)
  · exact k1 h0
  · refine x_iloadn xc232_64 rfl ?_
    refine x_aloadn xc232_65 rfl ?_
    refine x_iload xc232_66 rfl ?_
    refine x_iload xc232_68 rfl ?_
    refine x_cV (as := [xV i, xV q]) (rest := [xV ch]) xc232_70 rfl xi234 xz87 ⟨rfl, rfl⟩ rfl rfl ?_
    exact k2 h0

theorem wb232f {ro : Nat → Nat × (Nat → Int32)} {d : Nat} {Q : Option Value → pmS → Prop} {z q t tn ch i : Int} {a : xA} {b : xB} (htn : 0 ≤ tn ∧ tn ≤ 60) (hch : 0 ≤ ch ∧ ch ≤ 1000) (hi : 1 ≤ i ∧ i ≤ 61) (hq : 1 ≤ q ∧ q ≤ 4) (hzz : z = 0 ∨ z = 1)
    (k1 : (z = 0) → pmWp ro d 12 232 1 58 [some (.ref 87), some (xV t), some (xV tn), some (xV (ch + 0)), some (xV i), some (xV (q + 1))] [] (xS a b) Q)
    (k2 : (¬ z = 0) → pmWp ro d 12 232 1 58 [some (.ref 87), some (xV t), some (xV tn), some (xV (ch + 1)), some (xV i), some (xV (q + 1))] [] (xS a b) Q) :
    pmWp ro d 12 232 1 73 [some (.ref 87), some (xV t), some (xV tn), some (xV ch), some (xV i), some (xV q)] [xV z, xV ch] (xS a b) Q := by
  refine x_ifeq xc232_73 (xRk (by have g0 := hzz; omega)) (fun h0 => ?_) (fun h0 => ?_)
  · refine x_iconst xc232_80 ?_
    refine x_iadd xc232_81 ?_
    refine x_istoren (pl' := [some (.ref 87), some (xV t), some (xV tn), some (xV (ch + 0)), some (xV i), some (xV q)]) xc232_82 rfl rfl ?_
    refine x_iinc (pl' := [some (.ref 87), some (xV t), some (xV tn), some (xV (ch + 0)), some (xV i), some (xV (q + 1))]) xc232_83 rfl rfl ?_
    refine x_goto xc232_86 ?_
    exact k1 h0
  · refine x_iconst xc232_76 ?_
    refine x_goto xc232_77 ?_
    refine x_iadd xc232_81 ?_
    refine x_istoren (pl' := [some (.ref 87), some (xV t), some (xV tn), some (xV (ch + 1)), some (xV i), some (xV q)]) xc232_82 rfl rfl ?_
    refine x_iinc (pl' := [some (.ref 87), some (xV t), some (xV tn), some (xV (ch + 1)), some (xV i), some (xV (q + 1))]) xc232_83 rfl rfl ?_
    refine x_goto xc232_86 ?_
    exact k2 h0

theorem wb232g {ro : Nat → Nat × (Nat → Int32)} {d : Nat} {Q : Option Value → pmS → Prop} {q t tn ch i : Int} {a : xA} {b : xB} (htn : 0 ≤ tn ∧ tn ≤ 60) (hch : 0 ≤ ch ∧ ch ≤ 1000) (hi : 1 ≤ i ∧ i ≤ 61) (hq : 1 ≤ q ∧ q ≤ 4)
    (k1 : pmCs ro d 235 [.ref 87, xV i] (xS a b) fun r σ' => pmWp ro d 12 232 1 95 [some (.ref 87), some (xV t), some (xV tn), some (xV ch), some (xV i), some (xV q)] (r.toList ++ []) σ' Q) :
    pmWp ro d 12 232 1 89 [some (.ref 87), some (xV t), some (xV tn), some (xV ch), some (xV i), some (xV q)] [] (xS a b) Q := by
  refine x_aloadn xc232_89 rfl ?_
  refine x_iload xc232_90 rfl ?_
  refine x_cV (as := [xV i]) (rest := []) xc232_92 rfl xi235 xz87 ⟨rfl, rfl⟩ rfl rfl ?_
  exact k1

theorem wb232h {ro : Nat → Nat × (Nat → Int32)} {d : Nat} {Q : Option Value → pmS → Prop} {q t tn ch i : Int} {a : xA} {b : xB} (htn : 0 ≤ tn ∧ tn ≤ 60) (hch : 0 ≤ ch ∧ ch ≤ 1000) (hi : 1 ≤ i ∧ i ≤ 61) (hq : 1 ≤ q ∧ q ≤ 4)
    (k1 : pmWp ro d 12 232 1 41 [some (.ref 87), some (xV t), some (xV tn), some (xV ch), some (xV (i + 1)), some (xV q)] [] (xS a b) Q) :
    pmWp ro d 12 232 1 95 [some (.ref 87), some (xV t), some (xV tn), some (xV ch), some (xV i), some (xV q)] [] (xS a b) Q := by
  refine x_iinc (pl' := [some (.ref 87), some (xV t), some (xV tn), some (xV ch), some (xV (i + 1)), some (xV q)]) xc232_95 rfl rfl ?_
  refine x_goto xc232_98 ?_
  exact k1

theorem wb232i {ro : Nat → Nat × (Nat → Int32)} {d : Nat} {Q : Option Value → pmS → Prop} {v5 : Option Value} {t tn ch i : Int} {a : xA} {b : xB} (htn : 0 ≤ tn ∧ tn ≤ 60) (hch : 0 ≤ ch ∧ ch ≤ 1000) (hi : 1 ≤ i ∧ i ≤ 61)
    (k1 : pmCs ro d 227 [.ref 87, xV 1] (xS a b) fun r σ' => pmWp ro d 12 232 1 106 [some (.ref 87), some (xV t), some (xV tn), some (xV ch), some (xV i), v5] (r.toList ++ []) σ' Q) :
    pmWp ro d 12 232 1 101 [some (.ref 87), some (xV t), some (xV tn), some (xV ch), some (xV i), v5] [] (xS a b) Q := by
  refine x_aloadn xc232_101 rfl ?_
  refine x_iconst xc232_102 ?_
  refine x_cV (as := [xV 1]) (rest := []) xc232_103 rfl xi227 xz87 ⟨rfl, rfl⟩ rfl rfl ?_
  exact k1

theorem wb232j {ro : Nat → Nat × (Nat → Int32)} {d : Nat} {Q : Option Value → pmS → Prop} {v5 : Option Value} {t tn ch i : Int} {a : xA} {b : xB} (htn : 0 ≤ tn ∧ tn ≤ 60) (hch : 0 ≤ ch ∧ ch ≤ 1000) (hi : 1 ≤ i ∧ i ≤ 61)
    (k1 : Q (some (xV ch)) (xS a b)) :
    pmWp ro d 12 232 1 106 [some (.ref 87), some (xV t), some (xV tn), some (xV ch), some (xV i), v5] [] (xS a b) Q := by
  refine x_iloadn xc232_106 rfl ?_
  refine x_iret xc232_107 (Or.inl rfl) ?_
  exact k1

theorem wb236 {ro : Nat → Nat × (Nat → Int32)} {d : Nat} {Q : Option Value → pmS → Prop} {p bg tn : Int} {a : xA} {b : xB} (qr1 : xR p) (hb : a 87 4 = bg) (hbg : bg = 0 ∨ bg = 1) (ht : a 88 114 = tn) (htn : 0 ≤ tn ∧ tn ≤ 60) (hd : 1 ≤ d)
    (k1 : (bg = 0) → Q (some (xV (-1))) (xS a b))
    (k2 : (¬ bg = 0) → (1 ≤ p ∧ p < 4) → pmCs ro d 181 [.ref 87, xV 1] (xS a b) fun r σ' => pmWp ro d 12 236 1 29 [some (.ref 87), some (xV p), some (xV tn), none, none, none] (r.toList ++ []) σ' Q)
    (k3 : (¬ bg = 0) → (¬ (1 ≤ p ∧ p < 4)) → Q (some (xV (-1))) (xS a b)) :
    pmWp ro d 12 236 1 0 [some (.ref 87), some (xV p), none, none, none, none] [] (xS a b) Q := by
  refine x_aloadn xc236_0 rfl ?_
  refine x_gfi' (k := 4) (v := bg) xc236_1 rfl (Or.inr rfl) rfl xz87 hb ?_
  refine x_ifeq xc236_4 (xRk (by have g0 := hbg; omega)) (fun h0 => ?_) (fun h0 => ?_)
  · refine x_iconst xc236_14 ?_
    refine x_iret xc236_15 (Or.inl rfl) ?_
    exact k1 h0
  · refine x_iloadn xc236_7 rfl ?_
    refine x_cS (as := [xV p]) (rest := []) xc236_8 rfl rfl xi146 ⟨rfl, rfl⟩ rfl rfl ?_
    refine xk146 (by omega) (xRk (by have g0 := xRb qr1; omega)) (fun h1 => ?_) (fun h2 => ?_)
    · refine x_ifne xc236_11 (xRk (by decide)) (fun _ => ?_) (fun h => absurd h (by omega))
      refine x_aloadn xc236_16 rfl ?_
      refine x_gfr xc236_17 rfl rfl xz87 rfl ?_
      refine x_bipush xc236_20 (by decide) ?_
      refine x_ial' (v := tn) xc236_22 xz88 rfl (by omega) (by omega) (by omega) ht ?_
      refine x_istoren (pl' := [some (.ref 87), some (xV p), some (xV tn), none, none, none]) xc236_23 rfl rfl ?_
      refine x_aloadn xc236_24 rfl ?_
      refine x_iconst xc236_25 ?_
      refine x_cV (as := [xV 1]) (rest := []) xc236_26 rfl xi181 xz87 ⟨rfl, rfl⟩ rfl rfl ?_
      exact k2 h0 h1
    · refine x_ifne xc236_11 (xRk (by decide)) (fun h => absurd h (by omega)) (fun _ => ?_)
      refine x_iconst xc236_14 ?_
      refine x_iret xc236_15 (Or.inl rfl) ?_
      exact k3 h0 h2

theorem wb236a {ro : Nat → Nat × (Nat → Int32)} {d : Nat} {Q : Option Value → pmS → Prop} {p tn : Int} {a : xA} {b : xB} (hp : 1 ≤ p ∧ p ≤ 3) (htn : 0 ≤ tn ∧ tn ≤ 60)
    (k1 : pmCs ro d 227 [.ref 87, xV 0] (xS a b) fun r σ' => pmWp ro d 12 236 1 34 [some (.ref 87), some (xV p), some (xV tn), none, none, none] (r.toList ++ []) σ' Q) :
    pmWp ro d 12 236 1 29 [some (.ref 87), some (xV p), some (xV tn), none, none, none] [] (xS a b) Q := by
  refine x_aloadn xc236_29 rfl ?_
  refine x_iconst xc236_30 ?_
  refine x_cV (as := [xV 0]) (rest := []) xc236_31 rfl xi227 xz87 ⟨rfl, rfl⟩ rfl rfl ?_
  exact k1

theorem wb236b {ro : Nat → Nat × (Nat → Int32)} {d : Nat} {Q : Option Value → pmS → Prop} {p tn : Int} {a : xA} {b : xB} (hp : 1 ≤ p ∧ p ≤ 3) (htn : 0 ≤ tn ∧ tn ≤ 60)
    (k1 : pmWp ro d 12 236 1 39 [some (.ref 87), some (xV p), some (xV tn), some (xV 1), some (xV 1), none] [] (xS a b) Q) :
    pmWp ro d 12 236 1 34 [some (.ref 87), some (xV p), some (xV tn), none, none, none] [] (xS a b) Q := by
  refine x_iconst xc236_34 ?_
  refine x_istoren (pl' := [some (.ref 87), some (xV p), some (xV tn), some (xV 1), none, none]) xc236_35 rfl rfl ?_
  refine x_iconst xc236_36 ?_
  refine x_istore (pl' := [some (.ref 87), some (xV p), some (xV tn), some (xV 1), some (xV 1), none]) xc236_37 rfl rfl ?_
  exact k1

theorem wb236c {ro : Nat → Nat × (Nat → Int32)} {d : Nat} {Q : Option Value → pmS → Prop} {v5 : Option Value} {p tn ok i : Int} {a : xA} {b : xB} (hp : 1 ≤ p ∧ p ≤ 3) (htn : 0 ≤ tn ∧ tn ≤ 60) (hok : ok = 0 ∨ ok = 1) (hi : 1 ≤ i ∧ i ≤ 61)
    (k1 : (tn < i) → pmWp ro d 12 236 1 111 [some (.ref 87), some (xV p), some (xV tn), some (xV ok), some (xV i), v5] [] (xS a b) Q)
    (k2 : (¬ tn < i) → (ok = 0) → pmWp ro d 12 236 1 111 [some (.ref 87), some (xV p), some (xV tn), some (xV ok), some (xV i), v5] [] (xS a b) Q)
    (k3 : (¬ tn < i) → (¬ ok = 0) → pmCs ro d 233 [.ref 87, xV i, xV (-1), xV p] (xS a b) fun r σ' => pmWp ro d 12 236 1 57 [some (.ref 87), some (xV p), some (xV tn), some (xV ok), some (xV i), v5] (r.toList ++ []) σ' Q) :
    pmWp ro d 12 236 1 39 [some (.ref 87), some (xV p), some (xV tn), some (xV ok), some (xV i), v5] [] (xS a b) Q := by
  refine x_iload xc236_39 rfl ?_
  refine x_iloadn xc236_41 rfl ?_
  refine x_icgt xc236_42 (xRk (by have g0 := hi; omega)) (xRk (by have g0 := htn; omega)) (fun h0 => ?_) (fun h0 => ?_)
  · exact k1 h0
  · refine x_iloadn xc236_45 rfl ?_
    refine x_ifeq xc236_46 (xRk (by have g0 := hok; omega)) (fun h1 => ?_) (fun h1 => ?_)
    · exact k2 h0 h1
    · refine x_aloadn xc236_49 rfl ?_
      refine x_iload xc236_50 rfl ?_
      refine x_iconst xc236_52 ?_
      refine x_iloadn xc236_53 rfl ?_
      refine x_cV (as := [xV i, xV (-1), xV p]) (rest := []) xc236_54 rfl xi233 xz87 ⟨rfl, rfl⟩ rfl rfl ?_
      exact k3 h0 h1

theorem wb236d {ro : Nat → Nat × (Nat → Int32)} {d : Nat} {Q : Option Value → pmS → Prop} {v5 : Option Value} {p tn ok i : Int} {a : xA} {b : xB} (hp : 1 ≤ p ∧ p ≤ 3) (htn : 0 ≤ tn ∧ tn ≤ 60) (hok : ok = 0 ∨ ok = 1) (hi : 1 ≤ i ∧ i ≤ 61)
    (k1 : pmWp ro d 12 236 1 60 [some (.ref 87), some (xV p), some (xV tn), some (xV ok), some (xV i), some (xV 0)] [] (xS a b) Q) :
    pmWp ro d 12 236 1 57 [some (.ref 87), some (xV p), some (xV tn), some (xV ok), some (xV i), v5] [] (xS a b) Q := by
  refine x_iconst xc236_57 ?_
  refine x_istore (pl' := [some (.ref 87), some (xV p), some (xV tn), some (xV ok), some (xV i), some (xV 0)]) xc236_58 rfl rfl ?_
  exact k1

theorem wb236e {ro : Nat → Nat × (Nat → Int32)} {d : Nat} {Q : Option Value → pmS → Prop} {q p tn ok i : Int} {a : xA} {b : xB} (hp : 1 ≤ p ∧ p ≤ 3) (htn : 0 ≤ tn ∧ tn ≤ 60) (hok : ok = 0 ∨ ok = 1) (hi : 1 ≤ i ∧ i ≤ 61) (hq : 0 ≤ q ∧ q ≤ 4)
    (k1 : (4 ≤ q) → pmWp ro d 12 236 1 99 [some (.ref 87), some (xV p), some (xV tn), some (xV ok), some (xV i), some (xV q)] [] (xS a b) Q)
    (k2 : (¬ 4 ≤ q) → (ok = 0) → pmWp ro d 12 236 1 93 [some (.ref 87), some (xV p), some (xV tn), some (xV 0), some (xV i), some (xV q)] [] (xS a b) Q)
    (k3 : (¬ 4 ≤ q) → (¬ ok = 0) → (q = p) → pmWp ro d 12 236 1 93 [some (.ref 87), some (xV p), some (xV tn), some (xV 1), some (xV i), some (xV q)] [] (xS a b) Q)
    (k4 : (¬ 4 ≤ q) → (¬ ok = 0) → (¬ q = p) → pmCs ro d 234 [.ref 87, xV i, xV q] (xS a b) fun r σ' => pmWp ro d 12 236 1 84 [some (.ref 87), some (xV p), some (xV tn), some (xV ok), some (xV i), some (xV q)] (r.toList ++ []) σ' Q) :
    pmWp ro d 12 236 1 60 [some (.ref 87), some (xV p), some (xV tn), some (xV ok), some (xV i), some (xV q)] [] (xS a b) Q := by
  refine x_iload xc236_60 rfl ?_
  refine x_iconst xc236_62 ?_
  refine x_icge xc236_63 (xRk (by have g0 := hq; omega)) (xRk (by decide)) (fun h0 => ?_) (fun h0 => ?_)
  · exact k1 h0
  · refine x_iloadn xc236_66 rfl ?_
    refine x_ifeq xc236_67 (xRk (by have g0 := hok; omega)) (fun h1 => ?_) (fun h1 => ?_)
    · refine x_iconst xc236_91 ?_
      refine x_istoren (pl' := [some (.ref 87), some (xV p), some (xV tn), some (xV 0), some (xV i), some (xV q)]) xc236_92 rfl rfl ?_
      exact k2 h0 h1
    · refine x_iload xc236_70 rfl ?_
      refine x_iloadn xc236_72 rfl ?_
      refine x_iceq xc236_73 (xRk (by have g0 := hq; omega)) (xRk (by have g0 := hp; omega)) (fun h2 => ?_) (fun h2 => ?_)
      · refine x_iconst xc236_87 ?_
        refine x_goto xc236_88 ?_
        refine x_istoren (pl' := [some (.ref 87), some (xV p), some (xV tn), some (xV 1), some (xV i), some (xV q)]) xc236_92 rfl rfl ?_
        exact k3 h0 h1 h2
      · refine x_aloadn xc236_76 rfl ?_
        refine x_iload xc236_77 rfl ?_
        refine x_iload xc236_79 rfl ?_
        refine x_cV (as := [xV i, xV q]) (rest := []) xc236_81 rfl xi234 xz87 ⟨rfl, rfl⟩ rfl rfl ?_
        exact k4 h0 h1 h2

theorem wb236f {ro : Nat → Nat × (Nat → Int32)} {d : Nat} {Q : Option Value → pmS → Prop} {z q p tn ok i : Int} {a : xA} {b : xB} (hp : 1 ≤ p ∧ p ≤ 3) (htn : 0 ≤ tn ∧ tn ≤ 60) (hok : ok = 0 ∨ ok = 1) (hi : 1 ≤ i ∧ i ≤ 61) (hq : 0 ≤ q ∧ q ≤ 4) (hzz : z = 0 ∨ z = 1)
    (k1 : (¬ z = 0) → pmWp ro d 12 236 1 93 [some (.ref 87), some (xV p), some (xV tn), some (xV 0), some (xV i), some (xV q)] [] (xS a b) Q)
    (k2 : (z = 0) → pmWp ro d 12 236 1 93 [some (.ref 87), some (xV p), some (xV tn), some (xV 1), some (xV i), some (xV q)] [] (xS a b) Q) :
    pmWp ro d 12 236 1 84 [some (.ref 87), some (xV p), some (xV tn), some (xV ok), some (xV i), some (xV q)] [xV z] (xS a b) Q := by
  refine x_ifne xc236_84 (xRk (by have g0 := hzz; omega)) (fun h0 => ?_) (fun h0 => ?_)
  · refine x_iconst xc236_91 ?_
    refine x_istoren (pl' := [some (.ref 87), some (xV p), some (xV tn), some (xV 0), some (xV i), some (xV q)]) xc236_92 rfl rfl ?_
    exact k1 h0
  · replace h0 := Classical.not_not.mp h0
    refine x_iconst xc236_87 ?_
    refine x_goto xc236_88 ?_
    refine x_istoren (pl' := [some (.ref 87), some (xV p), some (xV tn), some (xV 1), some (xV i), some (xV q)]) xc236_92 rfl rfl ?_
    exact k2 h0

theorem wb236n {ro : Nat → Nat × (Nat → Int32)} {d : Nat} {Q : Option Value → pmS → Prop} {q p tn ok i : Int} {a : xA} {b : xB} (hp : 1 ≤ p ∧ p ≤ 3) (htn : 0 ≤ tn ∧ tn ≤ 60) (hok : ok = 0 ∨ ok = 1) (hi : 1 ≤ i ∧ i ≤ 61) (hq : 0 ≤ q ∧ q ≤ 3)
    (k1 : pmWp ro d 12 236 1 60 [some (.ref 87), some (xV p), some (xV tn), some (xV ok), some (xV i), some (xV (q + 1))] [] (xS a b) Q) :
    pmWp ro d 12 236 1 93 [some (.ref 87), some (xV p), some (xV tn), some (xV ok), some (xV i), some (xV q)] [] (xS a b) Q := by
  refine x_iinc (pl' := [some (.ref 87), some (xV p), some (xV tn), some (xV ok), some (xV i), some (xV (q + 1))]) xc236_93 rfl rfl ?_
  refine x_goto xc236_96 ?_
  exact k1

theorem wb236g {ro : Nat → Nat × (Nat → Int32)} {d : Nat} {Q : Option Value → pmS → Prop} {q p tn ok i : Int} {a : xA} {b : xB} (hp : 1 ≤ p ∧ p ≤ 3) (htn : 0 ≤ tn ∧ tn ≤ 60) (hok : ok = 0 ∨ ok = 1) (hi : 1 ≤ i ∧ i ≤ 61) (hq : 0 ≤ q ∧ q ≤ 4)
    (k1 : pmCs ro d 235 [.ref 87, xV i] (xS a b) fun r σ' => pmWp ro d 12 236 1 105 [some (.ref 87), some (xV p), some (xV tn), some (xV ok), some (xV i), some (xV q)] (r.toList ++ []) σ' Q) :
    pmWp ro d 12 236 1 99 [some (.ref 87), some (xV p), some (xV tn), some (xV ok), some (xV i), some (xV q)] [] (xS a b) Q := by
  refine x_aloadn xc236_99 rfl ?_
  refine x_iload xc236_100 rfl ?_
  refine x_cV (as := [xV i]) (rest := []) xc236_102 rfl xi235 xz87 ⟨rfl, rfl⟩ rfl rfl ?_
  exact k1

theorem wb236h {ro : Nat → Nat × (Nat → Int32)} {d : Nat} {Q : Option Value → pmS → Prop} {q p tn ok i : Int} {a : xA} {b : xB} (hp : 1 ≤ p ∧ p ≤ 3) (htn : 0 ≤ tn ∧ tn ≤ 60) (hok : ok = 0 ∨ ok = 1) (hi : 1 ≤ i ∧ i ≤ 61) (hq : 0 ≤ q ∧ q ≤ 4)
    (k1 : pmWp ro d 12 236 1 39 [some (.ref 87), some (xV p), some (xV tn), some (xV ok), some (xV (i + 1)), some (xV q)] [] (xS a b) Q) :
    pmWp ro d 12 236 1 105 [some (.ref 87), some (xV p), some (xV tn), some (xV ok), some (xV i), some (xV q)] [] (xS a b) Q := by
  refine x_iinc (pl' := [some (.ref 87), some (xV p), some (xV tn), some (xV ok), some (xV (i + 1)), some (xV q)]) xc236_105 rfl rfl ?_
  refine x_goto xc236_108 ?_
  exact k1

theorem wb236i {ro : Nat → Nat × (Nat → Int32)} {d : Nat} {Q : Option Value → pmS → Prop} {v5 : Option Value} {p tn ok i : Int} {a : xA} {b : xB} (hp : 1 ≤ p ∧ p ≤ 3) (htn : 0 ≤ tn ∧ tn ≤ 60) (hok : ok = 0 ∨ ok = 1) (hi : 1 ≤ i ∧ i ≤ 61)
    (k1 : pmCs ro d 227 [.ref 87, xV 1] (xS a b) fun r σ' => pmWp ro d 12 236 1 116 [some (.ref 87), some (xV p), some (xV tn), some (xV ok), some (xV i), v5] (r.toList ++ []) σ' Q) :
    pmWp ro d 12 236 1 111 [some (.ref 87), some (xV p), some (xV tn), some (xV ok), some (xV i), v5] [] (xS a b) Q := by
  refine x_aloadn xc236_111 rfl ?_
  refine x_iconst xc236_112 ?_
  refine x_cV (as := [xV 1]) (rest := []) xc236_113 rfl xi227 xz87 ⟨rfl, rfl⟩ rfl rfl ?_
  exact k1

theorem wb236j {ro : Nat → Nat × (Nat → Int32)} {d : Nat} {Q : Option Value → pmS → Prop} {v5 : Option Value} {p tn ok i : Int} {a : xA} {b : xB} (hp : 1 ≤ p ∧ p ≤ 3) (htn : 0 ≤ tn ∧ tn ≤ 60) (hok : ok = 0 ∨ ok = 1) (hi : 1 ≤ i ∧ i ≤ 61)
    (k1 : (ok = 0) → Q (some (xV 0)) (xS a b))
    (k2 : (¬ ok = 0) → Q (some (xV 1)) (xS a b)) :
    pmWp ro d 12 236 1 116 [some (.ref 87), some (xV p), some (xV tn), some (xV ok), some (xV i), v5] [] (xS a b) Q := by
  refine x_iloadn xc236_116 rfl ?_
  refine x_ifeq xc236_117 (xRk (by have g0 := hok; omega)) (fun h0 => ?_) (fun h0 => ?_)
  · refine x_iconst xc236_124 ?_
    refine x_iret xc236_125 (Or.inl rfl) ?_
    exact k1 h0
  · refine x_iconst xc236_120 ?_
    refine x_goto xc236_121 ?_
    refine x_iret xc236_125 (Or.inl rfl) ?_
    exact k2 h0

end
