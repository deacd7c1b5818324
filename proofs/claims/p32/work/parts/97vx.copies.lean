/-! exact: copying of worlds; more rules -/
section
set_option maxRecDepth 100000
theorem xi113 : pmInf[113]? = some pmI_113 := rfl
theorem xc66_0 : pmCode 66 0 = some (.aload_n 1) ∧ 0 + 1 = 1 := ⟨rfl, rfl⟩
theorem xc66_1 : pmCode 66 1 = some (.getfield 9) ∧ 1 + 3 = 4 := ⟨rfl, rfl⟩
theorem xc66_4 : pmCode 66 4 = some (.iconst 0) ∧ 4 + 1 = 5 := ⟨rfl, rfl⟩
theorem xc66_5 : pmCode 66 5 = some (.aload_n 0) ∧ 5 + 1 = 6 := ⟨rfl, rfl⟩
theorem xc66_6 : pmCode 66 6 = some (.getfield 9) ∧ 6 + 3 = 9 := ⟨rfl, rfl⟩
theorem xc66_9 : pmCode 66 9 = some (.iconst 0) ∧ 9 + 1 = 10 := ⟨rfl, rfl⟩
theorem xc66_10 : pmCode 66 10 = some (.iconst 4) ∧ 10 + 1 = 11 := ⟨rfl, rfl⟩
theorem xc66_11 : pmCode 66 11 = some (.invokestatic 33) ∧ 11 + 3 = 14 := ⟨rfl, rfl⟩
theorem xc66_14 : pmCode 66 14 = some (.aload_n 1) ∧ 14 + 1 = 15 := ⟨rfl, rfl⟩
theorem xc66_15 : pmCode 66 15 = some (.getfield 15) ∧ 15 + 3 = 18 := ⟨rfl, rfl⟩
theorem xc66_18 : pmCode 66 18 = some (.iconst 0) ∧ 18 + 1 = 19 := ⟨rfl, rfl⟩
theorem xc66_19 : pmCode 66 19 = some (.aload_n 0) ∧ 19 + 1 = 20 := ⟨rfl, rfl⟩
theorem xc66_20 : pmCode 66 20 = some (.getfield 15) ∧ 20 + 3 = 23 := ⟨rfl, rfl⟩
theorem xc66_23 : pmCode 66 23 = some (.iconst 0) ∧ 23 + 1 = 24 := ⟨rfl, rfl⟩
theorem xc66_24 : pmCode 66 24 = some (.bipush 24) ∧ 24 + 2 = 26 := ⟨rfl, rfl⟩
theorem xc66_26 : pmCode 66 26 = some (.invokestatic 33) ∧ 26 + 3 = 29 := ⟨rfl, rfl⟩
theorem xc66_29 : pmCode 66 29 = some (.aload_n 1) ∧ 29 + 1 = 30 := ⟨rfl, rfl⟩
theorem xc66_30 : pmCode 66 30 = some (.getfield 19) ∧ 30 + 3 = 33 := ⟨rfl, rfl⟩
theorem xc66_33 : pmCode 66 33 = some (.iconst 0) ∧ 33 + 1 = 34 := ⟨rfl, rfl⟩
theorem xc66_34 : pmCode 66 34 = some (.aload_n 0) ∧ 34 + 1 = 35 := ⟨rfl, rfl⟩
theorem xc66_35 : pmCode 66 35 = some (.getfield 19) ∧ 35 + 3 = 38 := ⟨rfl, rfl⟩
theorem xc66_38 : pmCode 66 38 = some (.iconst 0) ∧ 38 + 1 = 39 := ⟨rfl, rfl⟩
theorem xc66_39 : pmCode 66 39 = some (.bipush 6) ∧ 39 + 2 = 41 := ⟨rfl, rfl⟩
theorem xc66_41 : pmCode 66 41 = some (.invokestatic 33) ∧ 41 + 3 = 44 := ⟨rfl, rfl⟩
theorem xc66_44 : pmCode 66 44 = some (.aload_n 0) ∧ 44 + 1 = 45 := ⟨rfl, rfl⟩
theorem xc66_45 : pmCode 66 45 = some (.invokevirtual 39) ∧ 45 + 3 = 48 := ⟨rfl, rfl⟩
theorem xc66_48 : pmCode 66 48 = some (.aload_n 0) ∧ 48 + 1 = 49 := ⟨rfl, rfl⟩
theorem xc66_49 : pmCode 66 49 = some (.aload_n 1) ∧ 49 + 1 = 50 := ⟨rfl, rfl⟩
theorem xc66_50 : pmCode 66 50 = some (.getfield 29) ∧ 50 + 3 = 53 := ⟨rfl, rfl⟩
theorem xc66_53 : pmCode 66 53 = some (.putfield 29) ∧ 53 + 3 = 56 := ⟨rfl, rfl⟩
theorem xc66_56 : pmCode 66 56 = some (.aload_n 0) ∧ 56 + 1 = 57 := ⟨rfl, rfl⟩
theorem xc66_57 : pmCode 66 57 = some (.aload_n 1) ∧ 57 + 1 = 58 := ⟨rfl, rfl⟩
theorem xc66_58 : pmCode 66 58 = some (.getfield 42) ∧ 58 + 3 = 61 := ⟨rfl, rfl⟩
theorem xc66_61 : pmCode 66 61 = some (.putfield 42) ∧ 61 + 3 = 64 := ⟨rfl, rfl⟩
theorem xc66_64 : pmCode 66 64 = some (.aload_n 0) ∧ 64 + 1 = 65 := ⟨rfl, rfl⟩
theorem xc66_65 : pmCode 66 65 = some (.aload_n 1) ∧ 65 + 1 = 66 := ⟨rfl, rfl⟩
theorem xc66_66 : pmCode 66 66 = some (.getfield 45) ∧ 66 + 3 = 69 := ⟨rfl, rfl⟩
theorem xc66_69 : pmCode 66 69 = some (.putfield 45) ∧ 69 + 3 = 72 := ⟨rfl, rfl⟩
theorem xc66_72 : pmCode 66 72 = some (.aload_n 0) ∧ 72 + 1 = 73 := ⟨rfl, rfl⟩
theorem xc66_73 : pmCode 66 73 = some (.aload_n 1) ∧ 73 + 1 = 74 := ⟨rfl, rfl⟩
theorem xc66_74 : pmCode 66 74 = some (.getfield 49) ∧ 74 + 3 = 77 := ⟨rfl, rfl⟩
theorem xc66_77 : pmCode 66 77 = some (.putfield 49) ∧ 77 + 3 = 80 := ⟨rfl, rfl⟩
theorem xc66_80 : pmCode 66 80 = some (.aload_n 0) ∧ 80 + 1 = 81 := ⟨rfl, rfl⟩
theorem xc66_81 : pmCode 66 81 = some (.aload_n 1) ∧ 81 + 1 = 82 := ⟨rfl, rfl⟩
theorem xc66_82 : pmCode 66 82 = some (.getfield 52) ∧ 82 + 3 = 85 := ⟨rfl, rfl⟩
theorem xc66_85 : pmCode 66 85 = some (.putfield 52) ∧ 85 + 3 = 88 := ⟨rfl, rfl⟩
theorem xc66_88 : pmCode 66 88 = some (.aload_n 0) ∧ 88 + 1 = 89 := ⟨rfl, rfl⟩
theorem xc66_89 : pmCode 66 89 = some (.aload_n 1) ∧ 89 + 1 = 90 := ⟨rfl, rfl⟩
theorem xc66_90 : pmCode 66 90 = some (.getfield 55) ∧ 90 + 3 = 93 := ⟨rfl, rfl⟩
theorem xc66_93 : pmCode 66 93 = some (.putfield 55) ∧ 93 + 3 = 96 := ⟨rfl, rfl⟩
theorem xc66_96 : pmCode 66 96 = some (.aload_n 0) ∧ 96 + 1 = 97 := ⟨rfl, rfl⟩
theorem xc66_97 : pmCode 66 97 = some (.aload_n 1) ∧ 97 + 1 = 98 := ⟨rfl, rfl⟩
theorem xc66_98 : pmCode 66 98 = some (.getfield 58) ∧ 98 + 3 = 101 := ⟨rfl, rfl⟩
theorem xc66_101 : pmCode 66 101 = some (.putfield 58) ∧ 101 + 3 = 104 := ⟨rfl, rfl⟩
theorem xc66_104 : pmCode 66 104 = some (.aload_n 0) ∧ 104 + 1 = 105 := ⟨rfl, rfl⟩
theorem xc66_105 : pmCode 66 105 = some (.aload_n 1) ∧ 105 + 1 = 106 := ⟨rfl, rfl⟩
theorem xc66_106 : pmCode 66 106 = some (.getfield 61) ∧ 106 + 3 = 109 := ⟨rfl, rfl⟩
theorem xc66_109 : pmCode 66 109 = some (.putfield 61) ∧ 109 + 3 = 112 := ⟨rfl, rfl⟩
theorem xc66_112 : pmCode 66 112 = some (.aload_n 0) ∧ 112 + 1 = 113 := ⟨rfl, rfl⟩
theorem xc66_113 : pmCode 66 113 = some (.aload_n 1) ∧ 113 + 1 = 114 := ⟨rfl, rfl⟩
theorem xc66_114 : pmCode 66 114 = some (.getfield 64) ∧ 114 + 3 = 117 := ⟨rfl, rfl⟩
theorem xc66_117 : pmCode 66 117 = some (.putfield 64) ∧ 117 + 3 = 120 := ⟨rfl, rfl⟩
theorem xc66_120 : pmCode 66 120 = some .return_ := rfl
theorem xc113_0 : pmCode 113 0 = some (.aload_n 0) ∧ 0 + 1 = 1 := ⟨rfl, rfl⟩
theorem xc113_1 : pmCode 113 1 = some (.getfield 29) ∧ 1 + 3 = 4 := ⟨rfl, rfl⟩
theorem xc113_4 : pmCode 113 4 = some (.aload_n 1) ∧ 4 + 1 = 5 := ⟨rfl, rfl⟩
theorem xc113_5 : pmCode 113 5 = some (.getfield 29) ∧ 5 + 3 = 8 := ⟨rfl, rfl⟩
theorem xc113_8 : pmCode 113 8 = some .lcmp ∧ 8 + 1 = 9 := ⟨rfl, rfl⟩
theorem xc113_9 : pmCode 113 9 = some (.ifCond .ne 30) ∧ ((9 : Nat) : Int) + 30 = ((39 : Nat) : Int) ∧ 9 + 3 = 12 := ⟨rfl, rfl, rfl⟩
theorem xc113_12 : pmCode 113 12 = some (.aload_n 0) ∧ 12 + 1 = 13 := ⟨rfl, rfl⟩
theorem xc113_13 : pmCode 113 13 = some (.getfield 42) ∧ 13 + 3 = 16 := ⟨rfl, rfl⟩
theorem xc113_16 : pmCode 113 16 = some (.aload_n 1) ∧ 16 + 1 = 17 := ⟨rfl, rfl⟩
theorem xc113_17 : pmCode 113 17 = some (.getfield 42) ∧ 17 + 3 = 20 := ⟨rfl, rfl⟩
theorem xc113_20 : pmCode 113 20 = some .lcmp ∧ 20 + 1 = 21 := ⟨rfl, rfl⟩
theorem xc113_21 : pmCode 113 21 = some (.ifCond .ne 18) ∧ ((21 : Nat) : Int) + 18 = ((39 : Nat) : Int) ∧ 21 + 3 = 24 := ⟨rfl, rfl, rfl⟩
theorem xc113_24 : pmCode 113 24 = some (.aload_n 0) ∧ 24 + 1 = 25 := ⟨rfl, rfl⟩
theorem xc113_25 : pmCode 113 25 = some (.getfield 49) ∧ 25 + 3 = 28 := ⟨rfl, rfl⟩
theorem xc113_28 : pmCode 113 28 = some (.aload_n 1) ∧ 28 + 1 = 29 := ⟨rfl, rfl⟩
theorem xc113_29 : pmCode 113 29 = some (.getfield 49) ∧ 29 + 3 = 32 := ⟨rfl, rfl⟩
theorem xc113_32 : pmCode 113 32 = some (.if_icmp .ne 7) ∧ ((32 : Nat) : Int) + 7 = ((39 : Nat) : Int) ∧ 32 + 3 = 35 := ⟨rfl, rfl, rfl⟩
theorem xc113_35 : pmCode 113 35 = some (.iconst 1) ∧ 35 + 1 = 36 := ⟨rfl, rfl⟩
theorem xc113_36 : pmCode 113 36 = some (.goto 4) ∧ ((36 : Nat) : Int) + 4 = ((40 : Nat) : Int) := ⟨rfl, rfl⟩
theorem xc113_39 : pmCode 113 39 = some (.iconst 0) ∧ 39 + 1 = 40 := ⟨rfl, rfl⟩
theorem xc113_40 : pmCode 113 40 = some (.istore_n 2) ∧ 40 + 1 = 41 := ⟨rfl, rfl⟩
theorem xc113_41 : pmCode 113 41 = some (.iconst 0) ∧ 41 + 1 = 42 := ⟨rfl, rfl⟩
theorem xc113_42 : pmCode 113 42 = some (.istore_n 3) ∧ 42 + 1 = 43 := ⟨rfl, rfl⟩
theorem xc113_43 : pmCode 113 43 = some (.iload_n 3) ∧ 43 + 1 = 44 := ⟨rfl, rfl⟩
theorem xc113_44 : pmCode 113 44 = some (.iconst 4) ∧ 44 + 1 = 45 := ⟨rfl, rfl⟩
theorem xc113_45 : pmCode 113 45 = some (.if_icmp .ge 33) ∧ ((45 : Nat) : Int) + 33 = ((78 : Nat) : Int) ∧ 45 + 3 = 48 := ⟨rfl, rfl, rfl⟩
theorem xc113_48 : pmCode 113 48 = some (.iload_n 2) ∧ 48 + 1 = 49 := ⟨rfl, rfl⟩
theorem xc113_49 : pmCode 113 49 = some (.aload_n 0) ∧ 49 + 1 = 50 := ⟨rfl, rfl⟩
theorem xc113_50 : pmCode 113 50 = some (.getfield 9) ∧ 50 + 3 = 53 := ⟨rfl, rfl⟩
theorem xc113_53 : pmCode 113 53 = some (.iload_n 3) ∧ 53 + 1 = 54 := ⟨rfl, rfl⟩
theorem xc113_54 : pmCode 113 54 = some .laload ∧ 54 + 1 = 55 := ⟨rfl, rfl⟩
theorem xc113_55 : pmCode 113 55 = some (.aload_n 1) ∧ 55 + 1 = 56 := ⟨rfl, rfl⟩
theorem xc113_56 : pmCode 113 56 = some (.getfield 9) ∧ 56 + 3 = 59 := ⟨rfl, rfl⟩
theorem xc113_59 : pmCode 113 59 = some (.iload_n 3) ∧ 59 + 1 = 60 := ⟨rfl, rfl⟩
theorem xc113_60 : pmCode 113 60 = some .laload ∧ 60 + 1 = 61 := ⟨rfl, rfl⟩
theorem xc113_61 : pmCode 113 61 = some .lcmp ∧ 61 + 1 = 62 := ⟨rfl, rfl⟩
theorem xc113_62 : pmCode 113 62 = some (.ifCond .ne 7) ∧ ((62 : Nat) : Int) + 7 = ((69 : Nat) : Int) ∧ 62 + 3 = 65 := ⟨rfl, rfl, rfl⟩
theorem xc113_65 : pmCode 113 65 = some (.iconst 1) ∧ 65 + 1 = 66 := ⟨rfl, rfl⟩
theorem xc113_66 : pmCode 113 66 = some (.goto 4) ∧ ((66 : Nat) : Int) + 4 = ((70 : Nat) : Int) := ⟨rfl, rfl⟩
theorem xc113_69 : pmCode 113 69 = some (.iconst 0) ∧ 69 + 1 = 70 := ⟨rfl, rfl⟩
theorem xc113_70 : pmCode 113 70 = some .iand ∧ 70 + 1 = 71 := ⟨rfl, rfl⟩
theorem xc113_71 : pmCode 113 71 = some (.istore_n 2) ∧ 71 + 1 = 72 := ⟨rfl, rfl⟩
theorem xc113_72 : pmCode 113 72 = some (.iinc 3 1) ∧ 72 + 3 = 75 := ⟨rfl, rfl⟩
theorem xc113_75 : pmCode 113 75 = some (.goto (-32)) ∧ ((75 : Nat) : Int) + (-32) = ((43 : Nat) : Int) := ⟨rfl, rfl⟩
theorem xc113_78 : pmCode 113 78 = some (.iconst 0) ∧ 78 + 1 = 79 := ⟨rfl, rfl⟩
theorem xc113_79 : pmCode 113 79 = some (.istore_n 3) ∧ 79 + 1 = 80 := ⟨rfl, rfl⟩
theorem xc113_80 : pmCode 113 80 = some (.iload_n 3) ∧ 80 + 1 = 81 := ⟨rfl, rfl⟩
theorem xc113_81 : pmCode 113 81 = some (.bipush 24) ∧ 81 + 2 = 83 := ⟨rfl, rfl⟩
theorem xc113_83 : pmCode 113 83 = some (.if_icmp .ge 32) ∧ ((83 : Nat) : Int) + 32 = ((115 : Nat) : Int) ∧ 83 + 3 = 86 := ⟨rfl, rfl, rfl⟩
theorem xc113_86 : pmCode 113 86 = some (.iload_n 2) ∧ 86 + 1 = 87 := ⟨rfl, rfl⟩
theorem xc113_87 : pmCode 113 87 = some (.aload_n 0) ∧ 87 + 1 = 88 := ⟨rfl, rfl⟩
theorem xc113_88 : pmCode 113 88 = some (.getfield 15) ∧ 88 + 3 = 91 := ⟨rfl, rfl⟩
theorem xc113_91 : pmCode 113 91 = some (.iload_n 3) ∧ 91 + 1 = 92 := ⟨rfl, rfl⟩
theorem xc113_92 : pmCode 113 92 = some .iaload ∧ 92 + 1 = 93 := ⟨rfl, rfl⟩
theorem xc113_93 : pmCode 113 93 = some (.aload_n 1) ∧ 93 + 1 = 94 := ⟨rfl, rfl⟩
theorem xc113_94 : pmCode 113 94 = some (.getfield 15) ∧ 94 + 3 = 97 := ⟨rfl, rfl⟩
theorem xc113_97 : pmCode 113 97 = some (.iload_n 3) ∧ 97 + 1 = 98 := ⟨rfl, rfl⟩
theorem xc113_98 : pmCode 113 98 = some .iaload ∧ 98 + 1 = 99 := ⟨rfl, rfl⟩
theorem xc113_99 : pmCode 113 99 = some (.if_icmp .ne 7) ∧ ((99 : Nat) : Int) + 7 = ((106 : Nat) : Int) ∧ 99 + 3 = 102 := ⟨rfl, rfl, rfl⟩
theorem xc113_102 : pmCode 113 102 = some (.iconst 1) ∧ 102 + 1 = 103 := ⟨rfl, rfl⟩
theorem xc113_103 : pmCode 113 103 = some (.goto 4) ∧ ((103 : Nat) : Int) + 4 = ((107 : Nat) : Int) := ⟨rfl, rfl⟩
theorem xc113_106 : pmCode 113 106 = some (.iconst 0) ∧ 106 + 1 = 107 := ⟨rfl, rfl⟩
theorem xc113_107 : pmCode 113 107 = some .iand ∧ 107 + 1 = 108 := ⟨rfl, rfl⟩
theorem xc113_108 : pmCode 113 108 = some (.istore_n 2) ∧ 108 + 1 = 109 := ⟨rfl, rfl⟩
theorem xc113_109 : pmCode 113 109 = some (.iinc 3 1) ∧ 109 + 3 = 112 := ⟨rfl, rfl⟩
theorem xc113_112 : pmCode 113 112 = some (.goto (-32)) ∧ ((112 : Nat) : Int) + (-32) = ((80 : Nat) : Int) := ⟨rfl, rfl⟩
theorem xc113_115 : pmCode 113 115 = some (.iload_n 2) ∧ 115 + 1 = 116 := ⟨rfl, rfl⟩
theorem xc113_116 : pmCode 113 116 = some .ireturn := rfl
/-- arraycopy of longs -/
def xCl (b : xB) (p q : Nat) (sp dp s : Int) : xB := fun r j => if r = q ∧ dp ≤ j ∧ j < dp + s then b p (sp + (j - dp)) else b r j
theorem xClN {b : xB} {p q r : Nat} {sp dp s j : Int} (h : r ≠ q) : xCl b p q sp dp s r j = b r j := if_neg (fun e => h e.1)
theorem pmWp_cpl {ro : Nat → Nat × (Nat → Int32)} {d o m rt pc : Nat} {pl : pmL} {rest : List Value} {σ : pmS} {Q : Option Value → pmS → Prop} {k a b na nb : Nat} {ra rb : List (Option Nat)} {sp dp s : Int32} {X : _} (hi : pmCode m pc = some (.invokestatic k)) (hm : pmM o k = some (9000, X)) (ha : σ.1[a]? = some (51, na, ra)) (hb : σ.1[b]? = some (51, nb, rb)) (hc : ¬ sp < 0 ∧ ¬ dp < 0 ∧ ¬ s < 0 ∧ sp.toNatClampNeg + s.toNatClampNeg ≤ na ∧ dp.toNatClampNeg + s.toNatClampNeg ≤ nb) (hcat : pmCats rest ≤ 8) (hw : pmWp ro d o m rt (pc + 3) pl rest (σ.1, σ.2.1, pmRow σ.2.2 b (va_cpy (σ.2.2 a) (σ.2.2 b) sp.toNatClampNeg dp.toNatClampNeg s.toNatClampNeg)) Q) : pmWp ro d o m rt pc pl (.int s :: .int dp :: .ref b :: .int sp :: .ref a :: rest) σ Q := by
  refine pmWp_1 hi ?_ hw
  obtain ⟨x1, x2⟩ := X
  simp only [pmStep, hm, pmCopy, ha, hb]
  rw [if_pos trivial, if_pos hcat, if_pos hc, if_neg (by decide), if_pos ⟨trivial, trivial⟩]
  rfl
theorem x_cpl {ro : Nat → Nat × (Nat → Int32)} {d o m rt pc t k na nb wd p q : Nat} {ra rb : List (Option Nat)} {nst : Bool} {pl : pmL} {rest : List Value} {Q : Option Value → pmS → Prop} {a : xA} {b : xB} {sp dp s : Int} (hc : pmCode m pc = some (.invokestatic k) ∧ pc + 3 = t) (hm : pmM o k = some (9000, wd, nst)) (ha : xZ[p]? = some (51, na, ra)) (hb : xZ[q]? = some (51, nb, rb)) (h0 : 0 ≤ sp ∧ sp + s ≤ 100000) (h1 : 0 ≤ dp ∧ dp + s ≤ 100000) (h2 : 0 ≤ s) (h3 : sp + s ≤ na) (h4 : dp + s ≤ nb) (hcat : Nat.ble (pmCats rest) 8 = true) (hw : pmWp ro d o m rt t pl rest (xS a (xCl b p q sp dp s)) Q) : pmWp ro d o m rt pc pl (xV s :: xV dp :: .ref q :: xV sp :: .ref p :: rest) (xS a b) Q := by
  obtain ⟨g1, rfl⟩ := hc
  have i0 := xIx (k := sp) h0.1 (by omega)
  have i1 := xIx (k := dp) h1.1 (by omega)
  have i2 := xIx (k := s) h2 (by omega)
  refine pmWp_cpl g1 hm (show (xS a b).1[p]? = _ from ha) (show (xS a b).1[q]? = _ from hb) ⟨xNn h0.1 (by omega), xNn h1.1 (by omega), xNn h2 (by omega), by omega, by omega⟩ (Nat.le_of_ble_eq_true hcat) ?_
  have e : pmRow (fun p (k : Nat) => b p (k : Int)) q (va_cpy ((fun p (k : Nat) => b p (k : Int)) p) ((fun p (k : Nat) => b p (k : Int)) q) (Int32.ofInt sp).toNatClampNeg (Int32.ofInt dp).toNatClampNeg (Int32.ofInt s).toNatClampNeg) = fun r (k : Nat) => xCl b p q sp dp s r (k : Int) := by
    funext r k
    show (if r = q then va_cpy _ _ _ _ _ k else b r (k : Int)) = (if r = q ∧ dp ≤ (k : Int) ∧ (k : Int) < dp + s then b p (sp + ((k : Int) - dp)) else b r (k : Int))
    by_cases hr : r = q
    · rw [if_pos hr]
      unfold va_cpy
      by_cases hk : dp ≤ (k : Int) ∧ (k : Int) < dp + s
      · rw [if_pos (by omega), if_pos ⟨hr, hk⟩]
        show b p _ = _
        congr 1
        omega
      · rw [if_neg (by omega), if_neg (fun e => hk e.2), hr]
    · rw [if_neg hr, if_neg (fun e => hr e.1)]
  rw [show ((xS a b).1, (xS a b).2.1, pmRow (xS a b).2.2 q (va_cpy ((xS a b).2.2 p) ((xS a b).2.2 q) (Int32.ofInt sp).toNatClampNeg (Int32.ofInt dp).toNatClampNeg (Int32.ofInt s).toNatClampNeg)) = xS a (xCl b p q sp dp s) from congrArg (fun z => (xZ, (fun p (k : Nat) => Int32.ofInt (a p (k : Int))), z)) e]
  exact hw
/-- aaload -/
theorem x_aal {ro : Nat → Nat × (Nat → Int32)} {d o m rt pc t p q n k : Nat} {rs : List (Option Nat)} {pl : pmL} {st : List Value} {Q : Option Value → pmS → Prop} {a : xA} {b : xB} (hc : pmCode m pc = some .aaload ∧ pc + 1 = t) (hp : xZ[p]? = some (54, n, rs)) (hk : (Nat.blt k n && decide (va_rf (pmRf rs k) = Value.ref q) && Nat.ble k 1000) = true) (hw : pmWp ro d o m rt t pl (.ref q :: st) (xS a b) Q) : pmWp ro d o m rt pc pl (xV ((k : Nat) : Int) :: .ref p :: st) (xS a b) Q := by
  obtain ⟨g1, rfl⟩ := hc
  simp only [Bool.and_eq_true, decide_eq_true_eq] at hk
  obtain ⟨⟨k1, k2⟩, k3⟩ := hk
  have k1 : k < n := Nat.le_of_ble_eq_true k1
  have k3 := Nat.le_of_ble_eq_true k3
  refine pmWp_1 g1 (st' := .ref q :: st) ?_ hw
  have hp' : (xS a b).1[p]? = some (54, n, rs) := hp
  have ei : (Int32.ofInt ((k : Nat) : Int)).toNatClampNeg = k := by
    have := xIx (k := ((k : Nat) : Int)) (by omega) (by omega)
    omega
  simp only [pmStep, hp', xV, pmNx]
  rw [if_pos ⟨trivial, xIn (by omega) (by omega) (by omega)⟩, ei, k2]

theorem w66 {ro : Nat → Nat × (Nat → Int32)} {d : Nat} {Q : Option Value → pmS → Prop} {w v : Nat} {a : xA} {b : xB} (hz : uWz w) (hy : uWz v) (hne : v ≠ w) (hF : ∀ j, (uFg w (xCp (xCp a (v + 2) (w + 2) 0 0 24) (v + 3) (w + 3) 0 0 6)) v j = a v j) (hG : ∀ j, (xCl b (v + 1) (w + 1) 0 0 4) v j = b v j) (hB12 : 0 ≤ a v 12 ∧ a v 12 ≤ 1) (hd : 1 ≤ d)
    (k1 : Q none (xS (xU (xU (xU (xU (xU (xU (xU (uFg w (xCp (xCp a (v + 2) (w + 2) 0 0 24) (v + 3) (w + 3) 0 0 6)) w 6 (a v 6)) w 7 (a v 7)) w 8 (a v 8)) w 9 (a v 9)) w 10 (a v 10)) w 11 (a v 11)) w 12 (a v 12)) (xU (xU (xCl b (v + 1) (w + 1) 0 0 4) w 4 (b v 4)) w 5 (b v 5)))) :
    pmWp ro d 10 66 0 0 [some (.ref w), some (.ref v)] [] (xS a b) Q := by
  refine x_aloadn xc66_0 rfl ?_
  refine x_gfr xc66_1 rfl rfl hy.1 rfl ?_
  refine x_iconst xc66_4 ?_
  refine x_aloadn xc66_5 rfl ?_
  refine x_gfr xc66_6 rfl rfl hz.1 rfl ?_
  refine x_iconst xc66_9 ?_
  refine x_iconst xc66_10 ?_
  refine x_cpl xc66_11 rfl hy.2.1 hz.2.1 (by omega) (by omega) (by omega) (by omega) (by omega) rfl ?_
  refine x_aloadn xc66_14 rfl ?_
  refine x_gfr xc66_15 rfl rfl hy.1 rfl ?_
  refine x_iconst xc66_18 ?_
  refine x_aloadn xc66_19 rfl ?_
  refine x_gfr xc66_20 rfl rfl hz.1 rfl ?_
  refine x_iconst xc66_23 ?_
  refine x_bipush xc66_24 (by decide) ?_
  refine x_cpy xc66_26 rfl hy.2.2.1 hz.2.2.1 (by omega) (by omega) (by omega) (by omega) (by omega) rfl ?_
  refine x_aloadn xc66_29 rfl ?_
  refine x_gfr xc66_30 rfl rfl hy.1 rfl ?_
  refine x_iconst xc66_33 ?_
  refine x_aloadn xc66_34 rfl ?_
  refine x_gfr xc66_35 rfl rfl hz.1 rfl ?_
  refine x_iconst xc66_38 ?_
  refine x_bipush xc66_39 (by decide) ?_
  refine x_cpy xc66_41 rfl hy.2.2.2.1 hz.2.2.2.1 (by omega) (by omega) (by omega) (by omega) (by omega) rfl ?_
  refine x_aloadn xc66_44 rfl ?_
  refine x_cV (as := []) (rest := []) xc66_45 rfl xi67 hz.1 ⟨rfl, rfl⟩ rfl rfl ?_
  refine rk67 hz (by omega) ?_
  refine x_aloadn xc66_48 rfl ?_
  refine x_aloadn xc66_49 rfl ?_
  refine x_gfl' (k := 4) (v := b v 4) xc66_50 rfl rfl rfl hy.1 (hG 4) ?_
  refine x_pfl (k := 4) xc66_53 rfl ⟨rfl, rfl⟩ rfl hz.1 ?_
  refine x_aloadn xc66_56 rfl ?_
  refine x_aloadn xc66_57 rfl ?_
  refine x_gfl' (k := 5) (v := b v 5) xc66_58 rfl rfl rfl hy.1 (by rw [xUn hne, (hG 5)]) ?_
  refine x_pfl (k := 5) xc66_61 rfl ⟨rfl, rfl⟩ rfl hz.1 ?_
  refine x_aloadn xc66_64 rfl ?_
  refine x_aloadn xc66_65 rfl ?_
  refine x_gfi' (k := 6) (v := a v 6) xc66_66 rfl (Or.inl rfl) rfl hy.1 (hF 6) ?_
  refine x_pfi (k := 6) xc66_69 rfl ⟨rfl, rfl⟩ rfl hz.1 ?_
  refine x_aloadn xc66_72 rfl ?_
  refine x_aloadn xc66_73 rfl ?_
  refine x_gfi' (k := 7) (v := a v 7) xc66_74 rfl (Or.inl rfl) rfl hy.1 (by rw [xUn hne, (hF 7)]) ?_
  refine x_pfi (k := 7) xc66_77 rfl ⟨rfl, rfl⟩ rfl hz.1 ?_
  refine x_aloadn xc66_80 rfl ?_
  refine x_aloadn xc66_81 rfl ?_
  refine x_gfi' (k := 8) (v := a v 8) xc66_82 rfl (Or.inl rfl) rfl hy.1 (by rw [xUn hne, xUn hne, (hF 8)]) ?_
  refine x_pfi (k := 8) xc66_85 rfl ⟨rfl, rfl⟩ rfl hz.1 ?_
  refine x_aloadn xc66_88 rfl ?_
  refine x_aloadn xc66_89 rfl ?_
  refine x_gfi' (k := 9) (v := a v 9) xc66_90 rfl (Or.inl rfl) rfl hy.1 (by rw [xUn hne, xUn hne, xUn hne, (hF 9)]) ?_
  refine x_pfi (k := 9) xc66_93 rfl ⟨rfl, rfl⟩ rfl hz.1 ?_
  refine x_aloadn xc66_96 rfl ?_
  refine x_aloadn xc66_97 rfl ?_
  refine x_gfi' (k := 10) (v := a v 10) xc66_98 rfl (Or.inl rfl) rfl hy.1 (by rw [xUn hne, xUn hne, xUn hne, xUn hne, (hF 10)]) ?_
  refine x_pfi (k := 10) xc66_101 rfl ⟨rfl, rfl⟩ rfl hz.1 ?_
  refine x_aloadn xc66_104 rfl ?_
  refine x_aloadn xc66_105 rfl ?_
  refine x_gfi' (k := 11) (v := a v 11) xc66_106 rfl (Or.inl rfl) rfl hy.1 (by rw [xUn hne, xUn hne, xUn hne, xUn hne, xUn hne, (hF 11)]) ?_
  refine x_pfi (k := 11) xc66_109 rfl ⟨rfl, rfl⟩ rfl hz.1 ?_
  refine x_aloadn xc66_112 rfl ?_
  refine x_aloadn xc66_113 rfl ?_
  refine x_gfi' (k := 12) (v := a v 12) xc66_114 rfl (Or.inr rfl) rfl hy.1 (by rw [xUn hne, xUn hne, xUn hne, xUn hne, xUn hne, xUn hne, (hF 12)]) ?_
  refine x_pfz (k := 12) (by have g0 := hB12; omega) xc66_117 rfl ⟨rfl, rfl⟩ rfl hz.1 ?_
  refine x_ret xc66_120 rfl ?_
  exact k1

theorem xg66 {ro : Nat → Nat × (Nat → Int32)} {d : Nat} {Q : Option Value → pmS → Prop} {a : xA} {b : xB} {w v : Nat} (h : pmWp ro d 10 66 0 0 [some (.ref w), some (.ref v)] [] (xS a b) Q) : pmCs ro (d + 1) 66 [.ref w, .ref v] (xS a b) Q := x_go xi66 rfl rfl rfl rfl rfl h
theorem w113 {ro : Nat → Nat × (Nat → Int32)} {d : Nat} {Q : Option Value → pmS → Prop} {w v : Nat} {a : xA} {b : xB} (hz : uWz w) (hy : uWz v) (hw9 : w ≤ 80) (hv9 : v ≤ 80) (hA : xAr a)
    (k1 : (¬ xCmp (b w 4) (b v 4) = 0) → pmWp ro d 10 113 2 43 [some (.ref w), some (.ref v), some (xV 0), some (xV 0)] [] (xS a b) Q)
    (k2 : (xCmp (b w 4) (b v 4) = 0) → (¬ xCmp (b w 5) (b v 5) = 0) → pmWp ro d 10 113 2 43 [some (.ref w), some (.ref v), some (xV 0), some (xV 0)] [] (xS a b) Q)
    (k3 : (xCmp (b w 4) (b v 4) = 0) → (xCmp (b w 5) (b v 5) = 0) → (¬ a w 7 = a v 7) → pmWp ro d 10 113 2 43 [some (.ref w), some (.ref v), some (xV 0), some (xV 0)] [] (xS a b) Q)
    (k4 : (xCmp (b w 4) (b v 4) = 0) → (xCmp (b w 5) (b v 5) = 0) → (a w 7 = a v 7) → pmWp ro d 10 113 2 43 [some (.ref w), some (.ref v), some (xV 1), some (xV 0)] [] (xS a b) Q) :
    pmWp ro d 10 113 2 0 [some (.ref w), some (.ref v), none, none] [] (xS a b) Q := by
  refine x_aloadn xc113_0 rfl ?_
  refine x_gfl (k := 4) xc113_1 rfl rfl rfl hz.1 ?_
  refine x_aloadn xc113_4 rfl ?_
  refine x_gfl (k := 4) xc113_5 rfl rfl rfl hy.1 ?_
  refine x_lcmp xc113_8 ?_
  refine x_ifne xc113_9 (xRk (by have g0 := xCmpB (b w 4) (b v 4); omega)) (fun h0 => ?_) (fun h0 => ?_)
  · refine x_iconst xc113_39 ?_
    refine x_istoren (pl' := [some (.ref w), some (.ref v), some (xV 0), none]) xc113_40 rfl rfl ?_
    refine x_iconst xc113_41 ?_
    refine x_istoren (pl' := [some (.ref w), some (.ref v), some (xV 0), some (xV 0)]) xc113_42 rfl rfl ?_
    exact k1 h0
  · replace h0 := Classical.not_not.mp h0
    refine x_aloadn xc113_12 rfl ?_
    refine x_gfl (k := 5) xc113_13 rfl rfl rfl hz.1 ?_
    refine x_aloadn xc113_16 rfl ?_
    refine x_gfl (k := 5) xc113_17 rfl rfl rfl hy.1 ?_
    refine x_lcmp xc113_20 ?_
    refine x_ifne xc113_21 (xRk (by have g0 := xCmpB (b w 5) (b v 5); omega)) (fun h1 => ?_) (fun h1 => ?_)
    · refine x_iconst xc113_39 ?_
      refine x_istoren (pl' := [some (.ref w), some (.ref v), some (xV 0), none]) xc113_40 rfl rfl ?_
      refine x_iconst xc113_41 ?_
      refine x_istoren (pl' := [some (.ref w), some (.ref v), some (xV 0), some (xV 0)]) xc113_42 rfl rfl ?_
      exact k2 h0 h1
    · replace h1 := Classical.not_not.mp h1
      refine x_aloadn xc113_24 rfl ?_
      refine x_gfi (k := 7) xc113_25 rfl (Or.inl rfl) rfl hz.1 ?_
      refine x_aloadn xc113_28 rfl ?_
      refine x_gfi (k := 7) xc113_29 rfl (Or.inl rfl) rfl hy.1 ?_
      refine x_icne xc113_32 (xRk (by have g0 := xRb (hA w 7); omega)) (xRk (by have g0 := xRb (hA v 7); omega)) (fun h2 => ?_) (fun h2 => ?_)
      · refine x_iconst xc113_39 ?_
        refine x_istoren (pl' := [some (.ref w), some (.ref v), some (xV 0), none]) xc113_40 rfl rfl ?_
        refine x_iconst xc113_41 ?_
        refine x_istoren (pl' := [some (.ref w), some (.ref v), some (xV 0), some (xV 0)]) xc113_42 rfl rfl ?_
        exact k3 h0 h1 h2
      · replace h2 := Classical.not_not.mp h2
        refine x_iconst xc113_35 ?_
        refine x_goto xc113_36 ?_
        refine x_istoren (pl' := [some (.ref w), some (.ref v), some (xV 1), none]) xc113_40 rfl rfl ?_
        refine x_iconst xc113_41 ?_
        refine x_istoren (pl' := [some (.ref w), some (.ref v), some (xV 1), some (xV 0)]) xc113_42 rfl rfl ?_
        exact k4 h0 h1 h2

theorem xg113 {ro : Nat → Nat × (Nat → Int32)} {d : Nat} {Q : Option Value → pmS → Prop} {a : xA} {b : xB} {w v : Nat} (h : pmWp ro d 10 113 2 0 [some (.ref w), some (.ref v), none, none] [] (xS a b) Q) : pmCs ro (d + 1) 113 [.ref w, .ref v] (xS a b) Q := x_go xi113 rfl rfl rfl rfl rfl h
theorem w113m {ro : Nat → Nat × (Nat → Int32)} {d : Nat} {Q : Option Value → pmS → Prop} {g i : Int} {w v : Nat} {a : xA} {b : xB} (hz : uWz w) (hy : uWz v) (hw9 : w ≤ 80) (hv9 : v ≤ 80) (hA : xAr a) (hg : g = 0 ∨ g = 1) (hi : 0 ≤ i ∧ i ≤ 4)
    (k1 : (4 ≤ i) → pmWp ro d 10 113 2 80 [some (.ref w), some (.ref v), some (xV g), some (xV 0)] [] (xS a b) Q)
    (k2 : (¬ 4 ≤ i) → (¬ xCmp (b (w + 1) i) (b (v + 1) i) = 0) → pmWp ro d 10 113 2 43 [some (.ref w), some (.ref v), some (xV (xAnd g 0)), some (xV (i + 1))] [] (xS a b) Q)
    (k3 : (¬ 4 ≤ i) → (xCmp (b (w + 1) i) (b (v + 1) i) = 0) → pmWp ro d 10 113 2 43 [some (.ref w), some (.ref v), some (xV (g % 2)), some (xV (i + 1))] [] (xS a b) Q) :
    pmWp ro d 10 113 2 43 [some (.ref w), some (.ref v), some (xV g), some (xV i)] [] (xS a b) Q := by
  refine x_iloadn xc113_43 rfl ?_
  refine x_iconst xc113_44 ?_
  refine x_icge xc113_45 (xRk (by have g0 := hi; omega)) (xRk (by decide)) (fun h0 => ?_) (fun h0 => ?_)
  · refine x_iconst xc113_78 ?_
    refine x_istoren (pl' := [some (.ref w), some (.ref v), some (xV g), some (xV 0)]) xc113_79 rfl rfl ?_
    exact k1 h0
  · refine x_iloadn xc113_48 rfl ?_
    refine x_aloadn xc113_49 rfl ?_
    refine x_gfr xc113_50 rfl rfl hz.1 rfl ?_
    refine x_iloadn xc113_53 rfl ?_
    refine x_lal xc113_54 hz.2.1 (by have g0 := hi; omega) (by have g0 := hi; omega) (by have g0 := hi; omega) ?_
    refine x_aloadn xc113_55 rfl ?_
    refine x_gfr xc113_56 rfl rfl hy.1 rfl ?_
    refine x_iloadn xc113_59 rfl ?_
    refine x_lal xc113_60 hy.2.1 (by have g0 := hi; omega) (by have g0 := hi; omega) (by have g0 := hi; omega) ?_
    refine x_lcmp xc113_61 ?_
    refine x_ifne xc113_62 (xRk (by have g0 := xCmpB (b (w + 1) i) (b (v + 1) i); omega)) (fun h1 => ?_) (fun h1 => ?_)
    · refine x_iconst xc113_69 ?_
      refine x_iand xc113_70 ?_
      refine x_istoren (pl' := [some (.ref w), some (.ref v), some (xV (xAnd g 0)), some (xV i)]) xc113_71 rfl rfl ?_
      refine x_iinc (pl' := [some (.ref w), some (.ref v), some (xV (xAnd g 0)), some (xV (i + 1))]) xc113_72 rfl rfl ?_
      refine x_goto xc113_75 ?_
      exact k2 h0 h1
    · replace h1 := Classical.not_not.mp h1
      refine x_iconst xc113_65 ?_
      refine x_goto xc113_66 ?_
      refine x_iandm (M := 2) 1 (by decide) (by decide) (by decide) xc113_70 ?_
      refine x_istoren (pl' := [some (.ref w), some (.ref v), some (xV (g % 2)), some (xV i)]) xc113_71 rfl rfl ?_
      refine x_iinc (pl' := [some (.ref w), some (.ref v), some (xV (g % 2)), some (xV (i + 1))]) xc113_72 rfl rfl ?_
      refine x_goto xc113_75 ?_
      exact k3 h0 h1

theorem w113k {ro : Nat → Nat × (Nat → Int32)} {d : Nat} {Q : Option Value → pmS → Prop} {g i : Int} {w v : Nat} {a : xA} {b : xB} (hz : uWz w) (hy : uWz v) (hw9 : w ≤ 80) (hv9 : v ≤ 80) (hA : xAr a) (hg : g = 0 ∨ g = 1) (hi : 0 ≤ i ∧ i ≤ 24)
    (k1 : (24 ≤ i) → Q (some (xV g)) (xS a b))
    (k2 : (¬ 24 ≤ i) → (¬ a (w + 2) i = a (v + 2) i) → pmWp ro d 10 113 2 80 [some (.ref w), some (.ref v), some (xV (xAnd g 0)), some (xV (i + 1))] [] (xS a b) Q)
    (k3 : (¬ 24 ≤ i) → (a (w + 2) i = a (v + 2) i) → pmWp ro d 10 113 2 80 [some (.ref w), some (.ref v), some (xV (g % 2)), some (xV (i + 1))] [] (xS a b) Q) :
    pmWp ro d 10 113 2 80 [some (.ref w), some (.ref v), some (xV g), some (xV i)] [] (xS a b) Q := by
  refine x_iloadn xc113_80 rfl ?_
  refine x_bipush xc113_81 (by decide) ?_
  refine x_icge xc113_83 (xRk (by have g0 := hi; omega)) (xRk (by decide)) (fun h0 => ?_) (fun h0 => ?_)
  · refine x_iloadn xc113_115 rfl ?_
    refine x_iret xc113_116 (Or.inr ⟨rfl, (by have g0 := hg; omega)⟩) ?_
    exact k1 h0
  · refine x_iloadn xc113_86 rfl ?_
    refine x_aloadn xc113_87 rfl ?_
    refine x_gfr xc113_88 rfl rfl hz.1 rfl ?_
    refine x_iloadn xc113_91 rfl ?_
    refine x_ial xc113_92 hz.2.2.1 (Nat.ble_eq_true_of_le (by omega)) (by have g0 := hi; omega) (by have g0 := hi; omega) (by have g0 := hi; omega) ?_
    refine x_aloadn xc113_93 rfl ?_
    refine x_gfr xc113_94 rfl rfl hy.1 rfl ?_
    refine x_iloadn xc113_97 rfl ?_
    refine x_ial xc113_98 hy.2.2.1 (Nat.ble_eq_true_of_le (by omega)) (by have g0 := hi; omega) (by have g0 := hi; omega) (by have g0 := hi; omega) ?_
    refine x_icne xc113_99 (xRk (by have g0 := hi; have g1 := xRb (hA (w + 2) i); omega)) (xRk (by have g0 := hi; have g1 := xRb (hA (v + 2) i); omega)) (fun h1 => ?_) (fun h1 => ?_)
    · refine x_iconst xc113_106 ?_
      refine x_iand xc113_107 ?_
      refine x_istoren (pl' := [some (.ref w), some (.ref v), some (xV (xAnd g 0)), some (xV i)]) xc113_108 rfl rfl ?_
      refine x_iinc (pl' := [some (.ref w), some (.ref v), some (xV (xAnd g 0)), some (xV (i + 1))]) xc113_109 rfl rfl ?_
      refine x_goto xc113_112 ?_
      exact k2 h0 h1
    · replace h1 := Classical.not_not.mp h1
      refine x_iconst xc113_102 ?_
      refine x_goto xc113_103 ?_
      refine x_iandm (M := 2) 1 (by decide) (by decide) (by decide) xc113_107 ?_
      refine x_istoren (pl' := [some (.ref w), some (.ref v), some (xV (g % 2)), some (xV i)]) xc113_108 rfl rfl ?_
      refine x_iinc (pl' := [some (.ref w), some (.ref v), some (xV (g % 2)), some (xV (i + 1))]) xc113_109 rfl rfl ?_
      refine x_goto xc113_112 ?_
      exact k3 h0 h1

end
