section
/-! kept, loses, answer of the class, as frames -/
section
set_option maxRecDepth 100000


section
variable {Ln : Nat} {xs : Nat → Int32} {ro : Nat → Nat × (Nat → Int32)} {d w : Nat} {Q : Option Value → pmS → Prop} {dr wp co pr cnt W : Int → Int} {T : Int → List Int} {n m t wh : Int} {r r' : Int → Int} {a a' a'' a0 : xA} {b b' b'' : xB}
/-- what a question to the teller leaves -/
def uKe (dr wp co pr cnt W : Int → Int) (T : Int → List Int) (n : Int) (a0 a a' : xA) (b b' : xB) : Prop := uTe (fun q => (47 ≤ q ∧ q ≤ 77) ∨ q = 25) a a' b b' ∧ uCb dr wp co pr cnt W T n a0 a' b' ∧ uHm a' ∧ uFo3 21 a'
theorem uKe_r (hC : uCb dr wp co pr cnt W T n a0 a b) (hH : uHm a) (hF : uFo3 21 a) : uKe dr wp co pr cnt W T n a0 a a b b := ⟨uTe_r, hC, hH, hF⟩
theorem uKe_t (h : uKe dr wp co pr cnt W T n a0 a a' b b') (h' : uKe dr wp co pr cnt W T n a0 a' a'' b' b'') : uKe dr wp co pr cnt W T n a0 a a'' b b'' := ⟨uTe_t h.1 h'.1, h'.2⟩
theorem uKe_x (h : uKe dr wp co pr cnt W T n a0 a a' b b') (hX : uCx n 21 r a b) : uCx n 21 r a' b' := uCx_e uWo21 (by decide) hX h.1 (fun q h1 h2 => by omega)
theorem u111_now (hK : uRk pr cnt W T) (hn0 : 0 ≤ n ∧ n ≤ 5) (hC : uCb dr wp co pr cnt W T n a0 a b) (hH : uHm a) (hX : uCx n 21 r a b) (hB : uBqm 0 r) (hF : uFo3 21 a) (ht : t = 0 ∨ t = 1 ∨ t = 2) (hd : 14 ≤ d) (hQ : ∀ a' b' z, uKe dr wp co pr cnt W T n a0 a a' b b' → (-2 ≤ z ∧ z ≤ 300) → Q (some (xV z)) (xS a' b')) : pmCs (pmRo Ln xs) d 111 [.ref 45, .ref 21, xV t] (xS a b) Q := by
  rcases ht with h | h | h <;> subst h
  · exact u111_0 uWo21 hC.1.1 (by omega) (fun z hz => hQ a b z (uKe_r hC hH hF) (by omega))
  · exact u111_1 (m := 0) hK hn0 uWo21 (by decide) hC hH hX hB (by decide) hF (by omega) (fun a' b' z f C H F hz => hQ a' b' z ⟨uTe_m f (fun q h => by omega), C, H, F⟩ hz)
  · exact u111_2 (m := 0) hK hn0 uWo21 (by decide) hC hH hX hB (by decide) hF hd (fun a' b' z f C H F hz => hQ a' b' z ⟨uTe_m f (fun q h => by omega), C, H, F⟩ hz)
theorem u110n (q1 : xR t) (hb : a 0 12 = 0) (hd : 1 ≤ d) (hN : Q (some (xV (-1))) (xS a b)) : pmCs ro d 110 [.ref 0, xV t] (xS a b) Q :=
  pmCs_deep (d := 1) (xg110 (wa110 q1 hb (by decide) (fun _ => hN) (fun e => absurd rfl e) (fun e => absurd rfl e) (fun e => absurd rfl e))) hd
theorem u114n (hb : a 0 12 = 0) (hd : 1 ≤ d) (hN : Q (some (xV (-1))) (xS a b)) : pmCs ro d 114 [.ref 0] (xS a b) Q :=
  pmCs_deep (d := 1) (xg114 (wa114 hb (by decide) (fun e => absurd rfl e) (fun _ => hN))) hd
theorem u115n (q1 : xR t) (q2 : xR wh) (hb : a 0 12 = 0) (hd : 1 ≤ d) (hN : Q (some (xV (-1))) (xS a b)) : pmCs ro d 115 [.ref 0, xV t, xV wh] (xS a b) Q :=
  pmCs_deep (d := 1) (xg115 (wa115 q1 q2 hb (by decide) (fun _ => hN) (fun e => absurd rfl e) (fun e => absurd rfl e) (fun e => absurd rfl e) (fun e => absurd rfl e) (fun e => absurd rfl e))) hd
theorem u110 (q1 : xR t) (hK : uRk pr cnt W T) (hn0 : 0 ≤ n ∧ n ≤ 5) (hC : uCb dr wp co pr cnt W T n a0 a b) (hH : uHm a) (hX : uCx n 21 r a b) (hB : uBqm 0 r) (hF : uFo3 21 a) (hb : a 0 12 = 1) (hd : 15 ≤ d) (hQ : ∀ a' b' z, uKe dr wp co pr cnt W T n a0 a a' b b' → (-1 ≤ z ∧ z ≤ 1) → Q (some (xV z)) (xS a' b')) : pmCs (pmRo Ln xs) d 110 [.ref 0, xV t] (xS a b) Q := by
  have no := hQ a b (-1) (uKe_r hC hH hF) (by decide)
  refine pmCs_deep (d := 15) (xg110 (wa110 q1 hb (by decide) ?_ ?_ ?_ ?_)) hd <;> intros
  all_goals first
    | exact no
    | (refine u111_now hK hn0 hC hH hX hB hF (by omega) (by decide) (fun a' b' z f hz => ?_)
       refine wa110a ⟨by omega, by omega⟩ ?_ ?_ <;> intros
       all_goals exact hQ a' b' _ f (by decide))
theorem u114 (hK : uRk pr cnt W T) (hn0 : 0 ≤ n ∧ n ≤ 5) (hC : uCb dr wp co pr cnt W T n a0 a b) (hH : uHm a) (hX : uCx n 21 r a b) (hB : uBqm 0 r) (hF : uFo3 21 a) (hb : a 0 12 = 1) (hd : 15 ≤ d) (hQ : ∀ a' b' z, uKe dr wp co pr cnt W T n a0 a a' b b' → (-1 ≤ z ∧ z ≤ 3) → Q (some (xV z)) (xS a' b')) : pmCs (pmRo Ln xs) d 114 [.ref 0] (xS a b) Q := by
  refine pmCs_deep (d := 15) (xg114 (wa114 hb (by decide) (fun _ => ?_) (fun e => absurd e (by decide)))) hd
  refine u111_now hK hn0 hC hH hX hB hF (t := 0) (by decide) (by decide) (fun a1 b1 z1 f1 hz1 => wa114_0 ⟨by omega, by omega⟩ (fun _ => ?_) (fun _ => hQ a1 b1 0 f1 (by decide)))
  refine u111_now hK hn0 f1.2.1 f1.2.2.1 (uKe_x f1 hX) hB f1.2.2.2 (t := 1) (by decide) (by decide) (fun a2 b2 z2 f2 hz2 => wa114_1 ⟨by omega, by omega⟩ (fun _ => ?_) (fun _ => hQ a2 b2 1 (uKe_t f1 f2) (by decide)))
  have f3 := uKe_t f1 f2
  refine u111_now hK hn0 f3.2.1 f3.2.2.1 (uKe_x f3 hX) hB f3.2.2.2 (t := 2) (by decide) (by decide) (fun a3 b3 z3 f4 hz3 => wa114_2 ⟨by omega, by omega⟩ (fun _ => hQ a3 b3 3 (uKe_t f3 f4) (by decide)) (fun _ => hQ a3 b3 2 (uKe_t f3 f4) (by decide)))
theorem u115 (q1 : xR t) (q2 : xR wh) (hK : uRk pr cnt W T) (hn0 : 0 ≤ n ∧ n ≤ 5) (hC : uCb dr wp co pr cnt W T n a0 a b) (hH : uHm a) (hX : uCx n 21 r a b) (hB : uBqm 0 r) (hF : uFo3 21 a) (hb : a 0 12 = 1) (hd : 15 ≤ d) (hQ : ∀ a' b' z, uKe dr wp co pr cnt W T n a0 a a' b b' → (-2 ≤ z ∧ z ≤ 4000) → Q (some (xV z)) (xS a' b')) : pmCs (pmRo Ln xs) d 115 [.ref 0, xV t, xV wh] (xS a b) Q := by
  have no := hQ a b (-1) (uKe_r hC hH hF) (by decide)
  refine pmCs_deep (d := 15) (xg115 (wa115 q1 q2 hb (by decide) (fun _ => no) (fun _ _ => no) (fun _ _ _ => no) (fun _ _ _ _ => no) (fun _ h1 h2 h3 h4 => ?_) (fun _ _ _ _ _ => no))) hd
  refine u111_now hK hn0 hC hH hX hB hF (by omega) (by decide) (fun a' b' z f hz => ?_)
  have X1 := uKe_x f hX
  have hBd := uBqm_b (m := 0) (by decide) hB
  obtain ⟨y1, y2, y3, y4, y5, y6⟩ := hBd
  obtain ⟨_, e6, e12, e8, e9, e10⟩ := X1
  refine wa115a ⟨by omega, h4⟩ ⟨by omega, by omega⟩ (fun _ _ => hQ a' b' _ f (by omega)) (fun _ _ _ _ => hQ a' b' _ f (by omega)) (fun _ _ _ _ => hQ a' b' _ f (by omega)) (fun _ _ _ _ _ => hQ a' b' _ f (by omega)) (fun _ _ _ _ _ => hQ a' b' _ f (by omega)) (fun h0 _ _ _ => ?_) (fun _ => hQ a' b' _ f (by omega))
  refine rk103 (by decide) uWo21.1 ⟨h0, by omega⟩ f.2.1.1.1 (by omega) (by omega) (by omega) (by omega) (by omega) (wa115b ?_)
  have := uPc_b (c := z) (s := a' 21 8) (h := a' 21 9) (by omega) (by omega)
  exact hQ a' b' _ f (by omega)
end
end
end
section
/-! exact: made of the class -/
section
set_option maxRecDepth 100000
theorem xi121 : pmInf[121]? = some pmI_121 := rfl
theorem xi122 : pmInf[122]? = some pmI_122 := rfl
theorem xi123 : pmInf[123]? = some pmI_123 := rfl
theorem xc120_45 : pmCode 120 45 = some (.iload 5) ∧ 45 + 2 = 47 := ⟨rfl, rfl⟩
theorem xc120_47 : pmCode 120 47 = some (.ifCond .eq 14) ∧ ((47 : Nat) : Int) + 14 = ((61 : Nat) : Int) ∧ 47 + 3 = 50 := ⟨rfl, rfl, rfl⟩
theorem xc120_50 : pmCode 120 50 = some (.iload 4) ∧ 50 + 2 = 52 := ⟨rfl, rfl⟩
theorem xc120_52 : pmCode 120 52 = some (.ifCond .lt 9) ∧ ((52 : Nat) : Int) + 9 = ((61 : Nat) : Int) ∧ 52 + 3 = 55 := ⟨rfl, rfl, rfl⟩
theorem xc120_55 : pmCode 120 55 = some (.iload 4) ∧ 55 + 2 = 57 := ⟨rfl, rfl⟩
theorem xc120_57 : pmCode 120 57 = some (.iconst 2) ∧ 57 + 1 = 58 := ⟨rfl, rfl⟩
theorem xc120_58 : pmCode 120 58 = some (.if_icmp .le 5) ∧ ((58 : Nat) : Int) + 5 = ((63 : Nat) : Int) ∧ 58 + 3 = 61 := ⟨rfl, rfl, rfl⟩
theorem xc120_63 : pmCode 120 63 = some (.aload_n 0) ∧ 63 + 1 = 64 := ⟨rfl, rfl⟩
theorem xc120_64 : pmCode 120 64 = some (.getfield 44) ∧ 64 + 3 = 67 := ⟨rfl, rfl⟩
theorem xc120_67 : pmCode 120 67 = some (.aload_n 0) ∧ 67 + 1 = 68 := ⟨rfl, rfl⟩
theorem xc120_68 : pmCode 120 68 = some (.getfield 40) ∧ 68 + 3 = 71 := ⟨rfl, rfl⟩
theorem xc120_71 : pmCode 120 71 = some (.invokevirtual 272) ∧ 71 + 3 = 74 := ⟨rfl, rfl⟩
theorem xc120_74 : pmCode 120 74 = some (.aload_n 0) ∧ 74 + 1 = 75 := ⟨rfl, rfl⟩
theorem xc120_75 : pmCode 120 75 = some (.getfield 79) ∧ 75 + 3 = 78 := ⟨rfl, rfl⟩
theorem xc120_78 : pmCode 120 78 = some (.aload_n 0) ∧ 78 + 1 = 79 := ⟨rfl, rfl⟩
theorem xc120_79 : pmCode 120 79 = some (.getfield 44) ∧ 79 + 3 = 82 := ⟨rfl, rfl⟩
theorem xc120_82 : pmCode 120 82 = some (.iload_n 1) ∧ 82 + 1 = 83 := ⟨rfl, rfl⟩
theorem xc120_83 : pmCode 120 83 = some (.iload_n 2) ∧ 83 + 1 = 84 := ⟨rfl, rfl⟩
theorem xc120_84 : pmCode 120 84 = some (.iload_n 3) ∧ 84 + 1 = 85 := ⟨rfl, rfl⟩
theorem xc120_85 : pmCode 120 85 = some (.invokevirtual 275) ∧ 85 + 3 = 88 := ⟨rfl, rfl⟩
theorem xc120_88 : pmCode 120 88 = some (.istore 6) ∧ 88 + 2 = 90 := ⟨rfl, rfl⟩
theorem xc120_90 : pmCode 120 90 = some (.iload 4) ∧ 90 + 2 = 92 := ⟨rfl, rfl⟩
theorem xc120_92 : pmCode 120 92 = some (.lookupswitch 42 #[(0, 28), (1, 31)]) := rfl
theorem xc120_120 : pmCode 120 120 = some (.iload 6) ∧ 120 + 2 = 122 := ⟨rfl, rfl⟩
theorem xc120_122 : pmCode 120 122 = some .ireturn := rfl
theorem xc120_123 : pmCode 120 123 = some (.aload_n 0) ∧ 123 + 1 = 124 := ⟨rfl, rfl⟩
theorem xc120_124 : pmCode 120 124 = some (.getfield 44) ∧ 124 + 3 = 127 := ⟨rfl, rfl⟩
theorem xc120_127 : pmCode 120 127 = some (.getfield 116) ∧ 127 + 3 = 130 := ⟨rfl, rfl⟩
theorem xc120_130 : pmCode 120 130 = some (.invokestatic 278) ∧ 130 + 3 = 133 := ⟨rfl, rfl⟩
theorem xc120_133 : pmCode 120 133 = some .ireturn := rfl
theorem xc120_134 : pmCode 120 134 = some (.aload_n 0) ∧ 134 + 1 = 135 := ⟨rfl, rfl⟩
theorem xc120_135 : pmCode 120 135 = some (.getfield 44) ∧ 135 + 3 = 138 := ⟨rfl, rfl⟩
theorem xc120_138 : pmCode 120 138 = some (.getfield 282) ∧ 138 + 3 = 141 := ⟨rfl, rfl⟩
theorem xc120_141 : pmCode 120 141 = some (.aload_n 0) ∧ 141 + 1 = 142 := ⟨rfl, rfl⟩
theorem xc120_142 : pmCode 120 142 = some (.getfield 40) ∧ 142 + 3 = 145 := ⟨rfl, rfl⟩
theorem xc120_145 : pmCode 120 145 = some (.getfield 282) ∧ 145 + 3 = 148 := ⟨rfl, rfl⟩
theorem xc120_148 : pmCode 120 148 = some .isub ∧ 148 + 1 = 149 := ⟨rfl, rfl⟩
theorem xc120_149 : pmCode 120 149 = some .ireturn := rfl
theorem xc121_0 : pmCode 121 0 = some (.aload_n 1) ∧ 0 + 1 = 1 := ⟨rfl, rfl⟩
theorem xc121_1 : pmCode 121 1 = some (.getfield 132) ∧ 1 + 3 = 4 := ⟨rfl, rfl⟩
theorem xc121_4 : pmCode 121 4 = some (.ifCond .le 7) ∧ ((4 : Nat) : Int) + 7 = ((11 : Nat) : Int) ∧ 4 + 3 = 7 := ⟨rfl, rfl, rfl⟩
theorem xc121_7 : pmCode 121 7 = some (.iconst 0) ∧ 7 + 1 = 8 := ⟨rfl, rfl⟩
theorem xc121_8 : pmCode 121 8 = some (.goto 4) ∧ ((8 : Nat) : Int) + 4 = ((12 : Nat) : Int) := ⟨rfl, rfl⟩
theorem xc121_11 : pmCode 121 11 = some (.iconst (-1)) ∧ 11 + 1 = 12 := ⟨rfl, rfl⟩
theorem xc121_12 : pmCode 121 12 = some (.istore 5) ∧ 12 + 2 = 14 := ⟨rfl, rfl⟩
theorem xc121_14 : pmCode 121 14 = some (.iload_n 3) ∧ 14 + 1 = 15 := ⟨rfl, rfl⟩
theorem xc121_15 : pmCode 121 15 = some (.istore 6) ∧ 15 + 2 = 17 := ⟨rfl, rfl⟩
theorem xc121_17 : pmCode 121 17 = some (.iconst 1) ∧ 17 + 1 = 18 := ⟨rfl, rfl⟩
theorem xc121_18 : pmCode 121 18 = some (.istore 7) ∧ 18 + 2 = 20 := ⟨rfl, rfl⟩
theorem xc121_20 : pmCode 121 20 = some (.iload 7) ∧ 20 + 2 = 22 := ⟨rfl, rfl⟩
theorem xc121_22 : pmCode 121 22 = some (.iload 4) ∧ 22 + 2 = 24 := ⟨rfl, rfl⟩
theorem xc121_24 : pmCode 121 24 = some (.if_icmp .gt 79) ∧ ((24 : Nat) : Int) + 79 = ((103 : Nat) : Int) ∧ 24 + 3 = 27 := ⟨rfl, rfl, rfl⟩
theorem xc121_27 : pmCode 121 27 = some (.sipush 25173) ∧ 27 + 3 = 30 := ⟨rfl, rfl⟩
theorem xc121_30 : pmCode 121 30 = some (.iload 6) ∧ 30 + 2 = 32 := ⟨rfl, rfl⟩
theorem xc121_32 : pmCode 121 32 = some .imul ∧ 32 + 1 = 33 := ⟨rfl, rfl⟩
theorem xc121_33 : pmCode 121 33 = some (.sipush 13849) ∧ 33 + 3 = 36 := ⟨rfl, rfl⟩
theorem xc121_36 : pmCode 121 36 = some .iadd ∧ 36 + 1 = 37 := ⟨rfl, rfl⟩
theorem xc121_37 : pmCode 121 37 = some (.ldc 135) ∧ 37 + 2 = 39 := ⟨rfl, rfl⟩
theorem xc121_39 : pmCode 121 39 = some .iand ∧ 39 + 1 = 40 := ⟨rfl, rfl⟩
theorem xc121_40 : pmCode 121 40 = some (.istore 6) ∧ 40 + 2 = 42 := ⟨rfl, rfl⟩
theorem xc121_42 : pmCode 121 42 = some (.iload_n 2) ∧ 42 + 1 = 43 := ⟨rfl, rfl⟩
theorem xc121_43 : pmCode 121 43 = some (.ifCond .ne 7) ∧ ((43 : Nat) : Int) + 7 = ((50 : Nat) : Int) ∧ 43 + 3 = 46 := ⟨rfl, rfl, rfl⟩
theorem xc121_46 : pmCode 121 46 = some (.iconst 0) ∧ 46 + 1 = 47 := ⟨rfl, rfl⟩
theorem xc121_47 : pmCode 121 47 = some (.goto 23) ∧ ((47 : Nat) : Int) + 23 = ((70 : Nat) : Int) := ⟨rfl, rfl⟩
theorem xc121_50 : pmCode 121 50 = some (.aload_n 0) ∧ 50 + 1 = 51 := ⟨rfl, rfl⟩
theorem xc121_51 : pmCode 121 51 = some (.aload_n 1) ∧ 51 + 1 = 52 := ⟨rfl, rfl⟩
theorem xc121_52 : pmCode 121 52 = some (.getfield 47) ∧ 52 + 3 = 55 := ⟨rfl, rfl⟩
theorem xc121_55 : pmCode 121 55 = some (.iload_n 2) ∧ 55 + 1 = 56 := ⟨rfl, rfl⟩
theorem xc121_56 : pmCode 121 56 = some (.iconst 2) ∧ 56 + 1 = 57 := ⟨rfl, rfl⟩
theorem xc121_57 : pmCode 121 57 = some (.if_icmp .ne 7) ∧ ((57 : Nat) : Int) + 7 = ((64 : Nat) : Int) ∧ 57 + 3 = 60 := ⟨rfl, rfl, rfl⟩
theorem xc121_60 : pmCode 121 60 = some (.iconst 1) ∧ 60 + 1 = 61 := ⟨rfl, rfl⟩
theorem xc121_61 : pmCode 121 61 = some (.goto 4) ∧ ((61 : Nat) : Int) + 4 = ((65 : Nat) : Int) := ⟨rfl, rfl⟩
theorem xc121_64 : pmCode 121 64 = some (.iconst 0) ∧ 64 + 1 = 65 := ⟨rfl, rfl⟩
theorem xc121_65 : pmCode 121 65 = some (.iload 6) ∧ 65 + 2 = 67 := ⟨rfl, rfl⟩
theorem xc121_67 : pmCode 121 67 = some (.invokevirtual 136) ∧ 67 + 3 = 70 := ⟨rfl, rfl⟩
theorem xc121_70 : pmCode 121 70 = some (.istore 8) ∧ 70 + 2 = 72 := ⟨rfl, rfl⟩
theorem xc121_72 : pmCode 121 72 = some (.aload_n 0) ∧ 72 + 1 = 73 := ⟨rfl, rfl⟩
theorem xc121_73 : pmCode 121 73 = some (.aload_n 1) ∧ 73 + 1 = 74 := ⟨rfl, rfl⟩
theorem xc121_74 : pmCode 121 74 = some (.iload 8) ∧ 74 + 2 = 76 := ⟨rfl, rfl⟩
theorem xc121_76 : pmCode 121 76 = some (.iconst 0) ∧ 76 + 1 = 77 := ⟨rfl, rfl⟩
theorem xc121_77 : pmCode 121 77 = some (.invokevirtual 140) ∧ 77 + 3 = 80 := ⟨rfl, rfl⟩
theorem xc121_80 : pmCode 121 80 = some (.iload 5) ∧ 80 + 2 = 82 := ⟨rfl, rfl⟩
theorem xc121_82 : pmCode 121 82 = some (.iconst (-1)) ∧ 82 + 1 = 83 := ⟨rfl, rfl⟩
theorem xc121_83 : pmCode 121 83 = some (.if_icmp .ne 14) ∧ ((83 : Nat) : Int) + 14 = ((97 : Nat) : Int) ∧ 83 + 3 = 86 := ⟨rfl, rfl, rfl⟩
theorem xc121_86 : pmCode 121 86 = some (.aload_n 1) ∧ 86 + 1 = 87 := ⟨rfl, rfl⟩
theorem xc121_87 : pmCode 121 87 = some (.getfield 132) ∧ 87 + 3 = 90 := ⟨rfl, rfl⟩
theorem xc121_90 : pmCode 121 90 = some (.ifCond .le 7) ∧ ((90 : Nat) : Int) + 7 = ((97 : Nat) : Int) ∧ 90 + 3 = 93 := ⟨rfl, rfl, rfl⟩
theorem xc121_93 : pmCode 121 93 = some (.iload 7) ∧ 93 + 2 = 95 := ⟨rfl, rfl⟩
theorem xc121_95 : pmCode 121 95 = some (.istore 5) ∧ 95 + 2 = 97 := ⟨rfl, rfl⟩
theorem xc121_97 : pmCode 121 97 = some (.iinc 7 1) ∧ 97 + 3 = 100 := ⟨rfl, rfl⟩
theorem xc121_100 : pmCode 121 100 = some (.goto (-80)) ∧ ((100 : Nat) : Int) + (-80) = ((20 : Nat) : Int) := ⟨rfl, rfl⟩
theorem xc121_103 : pmCode 121 103 = some (.iload 5) ∧ 103 + 2 = 105 := ⟨rfl, rfl⟩
theorem xc121_105 : pmCode 121 105 = some .ireturn := rfl
theorem xc122_0 : pmCode 122 0 = some (.iconst 0) ∧ 0 + 1 = 1 := ⟨rfl, rfl⟩
theorem xc122_1 : pmCode 122 1 = some (.istore 5) ∧ 1 + 2 = 3 := ⟨rfl, rfl⟩
theorem xc122_3 : pmCode 122 3 = some (.iconst 0) ∧ 3 + 1 = 4 := ⟨rfl, rfl⟩
theorem xc122_4 : pmCode 122 4 = some (.istore 6) ∧ 4 + 2 = 6 := ⟨rfl, rfl⟩
theorem xc122_6 : pmCode 122 6 = some (.iload 6) ∧ 6 + 2 = 8 := ⟨rfl, rfl⟩
theorem xc122_8 : pmCode 122 8 = some (.bipush 62) ∧ 8 + 2 = 10 := ⟨rfl, rfl⟩
theorem xc122_10 : pmCode 122 10 = some (.if_icmp .ge 82) ∧ ((10 : Nat) : Int) + 82 = ((92 : Nat) : Int) ∧ 10 + 3 = 13 := ⟨rfl, rfl, rfl⟩
theorem xc122_13 : pmCode 122 13 = some (.aload_n 0) ∧ 13 + 1 = 14 := ⟨rfl, rfl⟩
theorem xc122_14 : pmCode 122 14 = some (.getfield 15) ∧ 14 + 3 = 17 := ⟨rfl, rfl⟩
theorem xc122_17 : pmCode 122 17 = some (.lload_n 1) ∧ 17 + 1 = 18 := ⟨rfl, rfl⟩
theorem xc122_18 : pmCode 122 18 = some (.iconst 0) ∧ 18 + 1 = 19 := ⟨rfl, rfl⟩
theorem xc122_19 : pmCode 122 19 = some (.aload_n 0) ∧ 19 + 1 = 20 := ⟨rfl, rfl⟩
theorem xc122_20 : pmCode 122 20 = some (.getfield 15) ∧ 20 + 3 = 23 := ⟨rfl, rfl⟩
theorem xc122_23 : pmCode 122 23 = some (.getfield 143) ∧ 23 + 3 = 26 := ⟨rfl, rfl⟩
theorem xc122_26 : pmCode 122 26 = some (.iload 6) ∧ 26 + 2 = 28 := ⟨rfl, rfl⟩
theorem xc122_28 : pmCode 122 28 = some .iaload ∧ 28 + 1 = 29 := ⟨rfl, rfl⟩
theorem xc122_29 : pmCode 122 29 = some (.invokevirtual 146) ∧ 29 + 3 = 32 := ⟨rfl, rfl⟩
theorem xc122_32 : pmCode 122 32 = some (.istore 7) ∧ 32 + 2 = 34 := ⟨rfl, rfl⟩
theorem xc122_34 : pmCode 122 34 = some (.iload 7) ∧ 34 + 2 = 36 := ⟨rfl, rfl⟩
theorem xc122_36 : pmCode 122 36 = some (.ifCond .eq 35) ∧ ((36 : Nat) : Int) + 35 = ((71 : Nat) : Int) ∧ 36 + 3 = 39 := ⟨rfl, rfl, rfl⟩
theorem xc122_39 : pmCode 122 39 = some (.iload_n 3) ∧ 39 + 1 = 40 := ⟨rfl, rfl⟩
theorem xc122_40 : pmCode 122 40 = some (.ifCond .eq 31) ∧ ((40 : Nat) : Int) + 31 = ((71 : Nat) : Int) ∧ 40 + 3 = 43 := ⟨rfl, rfl, rfl⟩
theorem xc122_43 : pmCode 122 43 = some (.aload_n 0) ∧ 43 + 1 = 44 := ⟨rfl, rfl⟩
theorem xc122_44 : pmCode 122 44 = some (.getfield 15) ∧ 44 + 3 = 47 := ⟨rfl, rfl⟩
theorem xc122_47 : pmCode 122 47 = some (.getfield 143) ∧ 47 + 3 = 50 := ⟨rfl, rfl⟩
theorem xc122_50 : pmCode 122 50 = some (.iload 6) ∧ 50 + 2 = 52 := ⟨rfl, rfl⟩
theorem xc122_52 : pmCode 122 52 = some .iaload ∧ 52 + 1 = 53 := ⟨rfl, rfl⟩
theorem xc122_53 : pmCode 122 53 = some (.bipush 6) ∧ 53 + 2 = 55 := ⟨rfl, rfl⟩
theorem xc122_55 : pmCode 122 55 = some .ishr ∧ 55 + 1 = 56 := ⟨rfl, rfl⟩
theorem xc122_56 : pmCode 122 56 = some (.iconst 5) ∧ 56 + 1 = 57 := ⟨rfl, rfl⟩
theorem xc122_57 : pmCode 122 57 = some (.if_icmp .ne 14) ∧ ((57 : Nat) : Int) + 14 = ((71 : Nat) : Int) ∧ 57 + 3 = 60 := ⟨rfl, rfl, rfl⟩
theorem xc122_60 : pmCode 122 60 = some (.aload_n 0) ∧ 60 + 1 = 61 := ⟨rfl, rfl⟩
theorem xc122_61 : pmCode 122 61 = some (.getfield 15) ∧ 61 + 3 = 64 := ⟨rfl, rfl⟩
theorem xc122_64 : pmCode 122 64 = some (.getfield 143) ∧ 64 + 3 = 67 := ⟨rfl, rfl⟩
theorem xc122_67 : pmCode 122 67 = some (.iload 6) ∧ 67 + 2 = 69 := ⟨rfl, rfl⟩
theorem xc122_69 : pmCode 122 69 = some .iaload ∧ 69 + 1 = 70 := ⟨rfl, rfl⟩
theorem xc122_70 : pmCode 122 70 = some .ireturn := rfl
theorem xc122_71 : pmCode 122 71 = some (.iload 5) ∧ 71 + 2 = 73 := ⟨rfl, rfl⟩
theorem xc122_73 : pmCode 122 73 = some (.iload 7) ∧ 73 + 2 = 75 := ⟨rfl, rfl⟩
theorem xc122_75 : pmCode 122 75 = some (.ifCond .eq 7) ∧ ((75 : Nat) : Int) + 7 = ((82 : Nat) : Int) ∧ 75 + 3 = 78 := ⟨rfl, rfl, rfl⟩
theorem xc122_78 : pmCode 122 78 = some (.iconst 1) ∧ 78 + 1 = 79 := ⟨rfl, rfl⟩
theorem xc122_79 : pmCode 122 79 = some (.goto 4) ∧ ((79 : Nat) : Int) + 4 = ((83 : Nat) : Int) := ⟨rfl, rfl⟩
theorem xc122_82 : pmCode 122 82 = some (.iconst 0) ∧ 82 + 1 = 83 := ⟨rfl, rfl⟩
theorem xc122_83 : pmCode 122 83 = some .iadd ∧ 83 + 1 = 84 := ⟨rfl, rfl⟩
theorem xc122_84 : pmCode 122 84 = some (.istore 5) ∧ 84 + 2 = 86 := ⟨rfl, rfl⟩
theorem xc122_86 : pmCode 122 86 = some (.iinc 6 1) ∧ 86 + 3 = 89 := ⟨rfl, rfl⟩
theorem xc122_89 : pmCode 122 89 = some (.goto (-83)) ∧ ((89 : Nat) : Int) + (-83) = ((6 : Nat) : Int) := ⟨rfl, rfl⟩
theorem xc122_92 : pmCode 122 92 = some (.iload 5) ∧ 92 + 2 = 94 := ⟨rfl, rfl⟩
theorem xc122_94 : pmCode 122 94 = some (.ifCond .le 11) ∧ ((94 : Nat) : Int) + 11 = ((105 : Nat) : Int) ∧ 94 + 3 = 97 := ⟨rfl, rfl, rfl⟩
theorem xc122_97 : pmCode 122 97 = some (.iload 4) ∧ 97 + 2 = 99 := ⟨rfl, rfl⟩
theorem xc122_99 : pmCode 122 99 = some (.iload 5) ∧ 99 + 2 = 101 := ⟨rfl, rfl⟩
theorem xc122_101 : pmCode 122 101 = some .irem ∧ 101 + 1 = 102 := ⟨rfl, rfl⟩
theorem xc122_102 : pmCode 122 102 = some (.goto 4) ∧ ((102 : Nat) : Int) + 4 = ((106 : Nat) : Int) := ⟨rfl, rfl⟩
theorem xc122_105 : pmCode 122 105 = some (.iconst 0) ∧ 105 + 1 = 106 := ⟨rfl, rfl⟩
theorem xc122_106 : pmCode 122 106 = some (.istore 6) ∧ 106 + 2 = 108 := ⟨rfl, rfl⟩
theorem xc122_108 : pmCode 122 108 = some (.iconst 0) ∧ 108 + 1 = 109 := ⟨rfl, rfl⟩
theorem xc122_109 : pmCode 122 109 = some (.istore 7) ∧ 109 + 2 = 111 := ⟨rfl, rfl⟩
theorem xc122_111 : pmCode 122 111 = some (.iload 7) ∧ 111 + 2 = 113 := ⟨rfl, rfl⟩
theorem xc122_113 : pmCode 122 113 = some (.bipush 62) ∧ 113 + 2 = 115 := ⟨rfl, rfl⟩
theorem xc122_115 : pmCode 122 115 = some (.if_icmp .ge 50) ∧ ((115 : Nat) : Int) + 50 = ((165 : Nat) : Int) ∧ 115 + 3 = 118 := ⟨rfl, rfl, rfl⟩
theorem xc122_118 : pmCode 122 118 = some (.aload_n 0) ∧ 118 + 1 = 119 := ⟨rfl, rfl⟩
theorem xc122_119 : pmCode 122 119 = some (.getfield 15) ∧ 119 + 3 = 122 := ⟨rfl, rfl⟩
theorem xc122_122 : pmCode 122 122 = some (.lload_n 1) ∧ 122 + 1 = 123 := ⟨rfl, rfl⟩
theorem xc122_123 : pmCode 122 123 = some (.iconst 0) ∧ 123 + 1 = 124 := ⟨rfl, rfl⟩
theorem xc122_124 : pmCode 122 124 = some (.aload_n 0) ∧ 124 + 1 = 125 := ⟨rfl, rfl⟩
theorem xc122_125 : pmCode 122 125 = some (.getfield 15) ∧ 125 + 3 = 128 := ⟨rfl, rfl⟩
theorem xc122_128 : pmCode 122 128 = some (.getfield 143) ∧ 128 + 3 = 131 := ⟨rfl, rfl⟩
theorem xc122_131 : pmCode 122 131 = some (.iload 7) ∧ 131 + 2 = 133 := ⟨rfl, rfl⟩
theorem xc122_133 : pmCode 122 133 = some .iaload ∧ 133 + 1 = 134 := ⟨rfl, rfl⟩
theorem xc122_134 : pmCode 122 134 = some (.invokevirtual 146) ∧ 134 + 3 = 137 := ⟨rfl, rfl⟩
theorem xc122_137 : pmCode 122 137 = some (.ifCond .eq 22) ∧ ((137 : Nat) : Int) + 22 = ((159 : Nat) : Int) ∧ 137 + 3 = 140 := ⟨rfl, rfl, rfl⟩
theorem xc122_140 : pmCode 122 140 = some (.iload 6) ∧ 140 + 2 = 142 := ⟨rfl, rfl⟩
theorem xc122_142 : pmCode 122 142 = some (.ifCond .ne 14) ∧ ((142 : Nat) : Int) + 14 = ((156 : Nat) : Int) ∧ 142 + 3 = 145 := ⟨rfl, rfl, rfl⟩
theorem xc122_145 : pmCode 122 145 = some (.aload_n 0) ∧ 145 + 1 = 146 := ⟨rfl, rfl⟩
theorem xc122_146 : pmCode 122 146 = some (.getfield 15) ∧ 146 + 3 = 149 := ⟨rfl, rfl⟩
theorem xc122_149 : pmCode 122 149 = some (.getfield 143) ∧ 149 + 3 = 152 := ⟨rfl, rfl⟩
theorem xc122_152 : pmCode 122 152 = some (.iload 7) ∧ 152 + 2 = 154 := ⟨rfl, rfl⟩
theorem xc122_154 : pmCode 122 154 = some .iaload ∧ 154 + 1 = 155 := ⟨rfl, rfl⟩
theorem xc122_155 : pmCode 122 155 = some .ireturn := rfl
theorem xc122_156 : pmCode 122 156 = some (.iinc 6 (-1)) ∧ 156 + 3 = 159 := ⟨rfl, rfl⟩
theorem xc122_159 : pmCode 122 159 = some (.iinc 7 1) ∧ 159 + 3 = 162 := ⟨rfl, rfl⟩
theorem xc122_162 : pmCode 122 162 = some (.goto (-51)) ∧ ((162 : Nat) : Int) + (-51) = ((111 : Nat) : Int) := ⟨rfl, rfl⟩
theorem xc122_165 : pmCode 122 165 = some (.iconst 0) ∧ 165 + 1 = 166 := ⟨rfl, rfl⟩
theorem xc122_166 : pmCode 122 166 = some .ireturn := rfl
theorem xc123_0 : pmCode 123 0 = some (.iconst 0) ∧ 0 + 1 = 1 := ⟨rfl, rfl⟩
theorem xc123_1 : pmCode 123 1 = some (.istore_n 2) ∧ 1 + 1 = 2 := ⟨rfl, rfl⟩
theorem xc123_2 : pmCode 123 2 = some (.iconst 0) ∧ 2 + 1 = 3 := ⟨rfl, rfl⟩
theorem xc123_3 : pmCode 123 3 = some (.istore_n 3) ∧ 3 + 1 = 4 := ⟨rfl, rfl⟩
theorem xc123_4 : pmCode 123 4 = some (.iload_n 3) ∧ 4 + 1 = 5 := ⟨rfl, rfl⟩
theorem xc123_5 : pmCode 123 5 = some (.iconst 4) ∧ 5 + 1 = 6 := ⟨rfl, rfl⟩
theorem xc123_6 : pmCode 123 6 = some (.if_icmp .ge 27) ∧ ((6 : Nat) : Int) + 27 = ((33 : Nat) : Int) ∧ 6 + 3 = 9 := ⟨rfl, rfl, rfl⟩
theorem xc123_9 : pmCode 123 9 = some (.iload_n 2) ∧ 9 + 1 = 10 := ⟨rfl, rfl⟩
theorem xc123_10 : pmCode 123 10 = some (.lload_n 0) ∧ 10 + 1 = 11 := ⟨rfl, rfl⟩
theorem xc123_11 : pmCode 123 11 = some (.iload_n 3) ∧ 11 + 1 = 12 := ⟨rfl, rfl⟩
theorem xc123_12 : pmCode 123 12 = some (.invokestatic 206) ∧ 12 + 3 = 15 := ⟨rfl, rfl⟩
theorem xc123_15 : pmCode 123 15 = some (.bipush 8) ∧ 15 + 2 = 17 := ⟨rfl, rfl⟩
theorem xc123_17 : pmCode 123 17 = some (.if_icmp .ne 7) ∧ ((17 : Nat) : Int) + 7 = ((24 : Nat) : Int) ∧ 17 + 3 = 20 := ⟨rfl, rfl, rfl⟩
theorem xc123_20 : pmCode 123 20 = some (.iconst 1) ∧ 20 + 1 = 21 := ⟨rfl, rfl⟩
theorem xc123_21 : pmCode 123 21 = some (.goto 4) ∧ ((21 : Nat) : Int) + 4 = ((25 : Nat) : Int) := ⟨rfl, rfl⟩
theorem xc123_24 : pmCode 123 24 = some (.iconst 0) ∧ 24 + 1 = 25 := ⟨rfl, rfl⟩
theorem xc123_25 : pmCode 123 25 = some .iadd ∧ 25 + 1 = 26 := ⟨rfl, rfl⟩
theorem xc123_26 : pmCode 123 26 = some (.istore_n 2) ∧ 26 + 1 = 27 := ⟨rfl, rfl⟩
theorem xc123_27 : pmCode 123 27 = some (.iinc 3 1) ∧ 27 + 3 = 30 := ⟨rfl, rfl⟩
theorem xc123_30 : pmCode 123 30 = some (.goto (-26)) ∧ ((30 : Nat) : Int) + (-26) = ((4 : Nat) : Int) := ⟨rfl, rfl⟩
theorem xc123_33 : pmCode 123 33 = some (.iload_n 2) ∧ 33 + 1 = 34 := ⟨rfl, rfl⟩
theorem xc123_34 : pmCode 123 34 = some .ireturn := rfl
theorem x_lsd2 {ro : Nat → Nat × (Nat → Int32)} {d o m rt pc t : Nat} {pl : pmL} {st : List Value} {a : xA} {b : xB} {Q : Option Value → pmS → Prop} {z k1 o1 k2 o2 dd : Int} (hc : pmCode m pc = some (.lookupswitch dd #[(k1, o1), (k2, o2)])) (hz : xR z) (h1 : ¬ z = k1) (h2 : ¬ z = k2) (hs : (decide (k1 < k2) && true) = true) (ht : (pc : Int) + dd = (t : Int)) (hw : pmWp ro d o m rt t pl st (xS a b) Q) : pmWp ro d o m rt pc pl (xV z :: st) (xS a b) Q := by
  refine pmWp_1 hc (pc' := t) (pl' := pl) (st' := st) ?_ hw
  simp only [pmStep, xV]
  rw [xI hz]
  have e1 : (([(k1, o1), (k2, o2)] : List (Int × Int)).zip (([(k1, o1), (k2, o2)] : List (Int × Int)).drop 1)).all (fun (a, next) => decide (a.1 < next.1)) = true := hs
  rw [if_pos e1]
  have e2 : Op.lookupswitch.offset [(k1, o1), (k2, o2)] dd z = dd := by
    show (if k1 = z then o1 else if k2 = z then o2 else dd) = dd
    rw [if_neg (fun e => h1 e.symm), if_neg (fun e => h2 e.symm)]
  rw [e2]
  unfold pmJp
  rw [ht]
  rfl

theorem w122 {ro : Nat → Nat × (Nat → Int32)} {d : Nat} {Q : Option Value → pmS → Prop} {g lot : Int} {l : Int64} {a : xA} {b : xB} 
    (k1 : pmWp ro d 4 122 1 6 [some (.ref 43), some (.long l), none, some (xV g), some (xV lot), some (xV 0), some (xV 0), none] [] (xS a b) Q) :
    pmWp ro d 4 122 1 0 [some (.ref 43), some (.long l), none, some (xV g), some (xV lot), none, none, none] [] (xS a b) Q := by
  refine x_iconst xc122_0 ?_
  refine x_istore (pl' := [some (.ref 43), some (.long l), none, some (xV g), some (xV lot), some (xV 0), none, none]) xc122_1 rfl rfl ?_
  refine x_iconst xc122_3 ?_
  refine x_istore (pl' := [some (.ref 43), some (.long l), none, some (xV g), some (xV lot), some (xV 0), some (xV 0), none]) xc122_4 rfl rfl ?_
  exact k1

theorem xg122 {ro : Nat → Nat × (Nat → Int32)} {d : Nat} {Q : Option Value → pmS → Prop} {a : xA} {b : xB} {g lot : Int} {l : Int64} (h : pmWp ro d 4 122 1 0 [some (.ref 43), some (.long l), none, some (xV g), some (xV lot), none, none, none] [] (xS a b) Q) : pmCs ro (d + 1) 122 [.ref 43, .long l, xV g, xV lot] (xS a b) Q := x_go xi122 rfl rfl rfl rfl rfl h
theorem w122i {ro : Nat → Nat × (Nat → Int32)} {d : Nat} {Q : Option Value → pmS → Prop} {v7 : Option Value} {my i g lot : Int} {l : Int64} {a : xA} {b : xB} (hA : xAr a) (hg : g = 0 ∨ g = 1) (hlot : 0 ≤ lot ∧ lot ≤ 65535) (hmy : 0 ≤ my ∧ my ≤ i) (hi : 0 ≤ i ∧ i ≤ 62)
    (k1 : (62 ≤ i) → pmWp ro d 4 122 1 92 [some (.ref 43), some (.long l), none, some (xV g), some (xV lot), some (xV my), some (xV i), v7] [] (xS a b) Q)
    (k2 : (¬ 62 ≤ i) → pmCs ro d 80 [.ref 3, .long l, xV 0, xV (a 4 i)] (xS a b) fun r σ' => pmWp ro d 4 122 1 32 [some (.ref 43), some (.long l), none, some (xV g), some (xV lot), some (xV my), some (xV i), v7] (r.toList ++ []) σ' Q) :
    pmWp ro d 4 122 1 6 [some (.ref 43), some (.long l), none, some (xV g), some (xV lot), some (xV my), some (xV i), v7] [] (xS a b) Q := by
  refine x_iload xc122_6 rfl ?_
  refine x_bipush xc122_8 (by decide) ?_
  refine x_icge xc122_10 (xRk (by have g0 := hi; omega)) (xRk (by decide)) (fun h0 => ?_) (fun h0 => ?_)
  · exact k1 h0
  · refine x_aloadn xc122_13 rfl ?_
    refine x_gfr xc122_14 rfl rfl xz43 rfl ?_
    refine x_lloadn xc122_17 rfl ?_
    refine x_iconst xc122_18 ?_
    refine x_aloadn xc122_19 rfl ?_
    refine x_gfr xc122_20 rfl rfl xz43 rfl ?_
    refine x_gfr xc122_23 rfl rfl xz3 rfl ?_
    refine x_iload xc122_26 rfl ?_
    refine x_ial xc122_28 xz4 rfl (by have g0 := hi; omega) (by have g0 := hi; omega) (by have g0 := hi; omega) ?_
    refine x_cV (as := [.long l, xV 0, xV (a 4 i)]) (rest := []) xc122_29 rfl xi80 xz3 ⟨rfl, rfl⟩ rfl rfl ?_
    exact k2 h0

theorem w122z {ro : Nat → Nat × (Nat → Int32)} {d : Nat} {Q : Option Value → pmS → Prop} {v7 : Option Value} {z my i g lot : Int} {l : Int64} {a : xA} {b : xB} (hA : xAr a) (hg : g = 0 ∨ g = 1) (hlot : 0 ≤ lot ∧ lot ≤ 65535) (hmy : 0 ≤ my ∧ my ≤ i) (hi : 0 ≤ i ∧ i ≤ 61) (hzz : z = 0 ∨ z = 1) {dd : Int} (hde : a 4 i = dd) (hdd : 0 ≤ dd ∧ dd ≤ 447)
    (k1 : (z = 0) → pmWp ro d 4 122 1 86 [some (.ref 43), some (.long l), none, some (xV g), some (xV lot), some (xV (my + 0)), some (xV i), some (xV z)] [] (xS a b) Q)
    (k2 : (¬ z = 0) → (g = 0) → pmWp ro d 4 122 1 86 [some (.ref 43), some (.long l), none, some (xV g), some (xV lot), some (xV (my + 1)), some (xV i), some (xV z)] [] (xS a b) Q)
    (k3 : (¬ z = 0) → (¬ g = 0) → (¬ dd / 64 = 5) → pmWp ro d 4 122 1 86 [some (.ref 43), some (.long l), none, some (xV g), some (xV lot), some (xV (my + 1)), some (xV i), some (xV z)] [] (xS a b) Q)
    (k4 : (¬ z = 0) → (¬ g = 0) → (dd / 64 = 5) → Q (some (xV dd)) (xS a b)) :
    pmWp ro d 4 122 1 32 [some (.ref 43), some (.long l), none, some (xV g), some (xV lot), some (xV my), some (xV i), v7] [xV z] (xS a b) Q := by
  refine x_istore (pl' := [some (.ref 43), some (.long l), none, some (xV g), some (xV lot), some (xV my), some (xV i), some (xV z)]) xc122_32 rfl rfl ?_
  refine x_iload xc122_34 rfl ?_
  refine x_ifeq xc122_36 (xRk (by have g0 := hzz; omega)) (fun h0 => ?_) (fun h0 => ?_)
  · refine x_iload xc122_71 rfl ?_
    refine x_iload xc122_73 rfl ?_
    refine x_ifeq xc122_75 (xRk (by have g0 := hzz; omega)) (fun _ => ?_) (fun h => absurd h (by omega))
    refine x_iconst xc122_82 ?_
    refine x_iadd xc122_83 ?_
    refine x_istore (pl' := [some (.ref 43), some (.long l), none, some (xV g), some (xV lot), some (xV (my + 0)), some (xV i), some (xV z)]) xc122_84 rfl rfl ?_
    exact k1 h0
  · refine x_iloadn xc122_39 rfl ?_
    refine x_ifeq xc122_40 (xRk (by have g0 := hg; omega)) (fun h2 => ?_) (fun h2 => ?_)
    · refine x_iload xc122_71 rfl ?_
      refine x_iload xc122_73 rfl ?_
      refine x_ifeq xc122_75 (xRk (by have g0 := hzz; omega)) (fun h => absurd h (by omega)) (fun _ => ?_)
      refine x_iconst xc122_78 ?_
      refine x_goto xc122_79 ?_
      refine x_iadd xc122_83 ?_
      refine x_istore (pl' := [some (.ref 43), some (.long l), none, some (xV g), some (xV lot), some (xV (my + 1)), some (xV i), some (xV z)]) xc122_84 rfl rfl ?_
      exact k2 h0 h2
    · refine x_aloadn xc122_43 rfl ?_
      refine x_gfr xc122_44 rfl rfl xz43 rfl ?_
      refine x_gfr xc122_47 rfl rfl xz3 rfl ?_
      refine x_iload xc122_50 rfl ?_
      refine x_ial' (v := dd) xc122_52 xz4 rfl (by have g0 := hi; omega) (by have g0 := hi; omega) (by have g0 := hi; omega) hde ?_
      refine x_bipush xc122_53 (by decide) ?_
      refine x_ishr (M := 64) (by omega) (by omega) (by decide) (xRk (by have g0 := hdd; omega)) xc122_55 ?_
      refine x_iconst xc122_56 ?_
      refine x_icne xc122_57 (xRk (by have g0 := hdd; omega)) (xRk (by decide)) (fun h4 => ?_) (fun h4 => ?_)
      · refine x_iload xc122_71 rfl ?_
        refine x_iload xc122_73 rfl ?_
        refine x_ifeq xc122_75 (xRk (by have g0 := hzz; omega)) (fun h => absurd h (by omega)) (fun _ => ?_)
        refine x_iconst xc122_78 ?_
        refine x_goto xc122_79 ?_
        refine x_iadd xc122_83 ?_
        refine x_istore (pl' := [some (.ref 43), some (.long l), none, some (xV g), some (xV lot), some (xV (my + 1)), some (xV i), some (xV z)]) xc122_84 rfl rfl ?_
        exact k3 h0 h2 h4
      · replace h4 := Classical.not_not.mp h4
        refine x_aloadn xc122_60 rfl ?_
        refine x_gfr xc122_61 rfl rfl xz43 rfl ?_
        refine x_gfr xc122_64 rfl rfl xz3 rfl ?_
        refine x_iload xc122_67 rfl ?_
        refine x_ial' (v := dd) xc122_69 xz4 rfl (by have g0 := hi; omega) (by have g0 := hi; omega) (by have g0 := hi; omega) hde ?_
        refine x_iret xc122_70 (Or.inl rfl) ?_
        exact k4 h0 h2 h4

theorem w122n2 {ro : Nat → Nat × (Nat → Int32)} {d : Nat} {Q : Option Value → pmS → Prop} {v7 : Option Value} {my i g lot : Int} {l : Int64} {a : xA} {b : xB} (hA : xAr a) (hg : g = 0 ∨ g = 1) (hlot : 0 ≤ lot ∧ lot ≤ 65535) (hmy : 0 ≤ my ∧ my ≤ i + 1) (hi : 0 ≤ i ∧ i ≤ 62)
    (k1 : pmWp ro d 4 122 1 6 [some (.ref 43), some (.long l), none, some (xV g), some (xV lot), some (xV my), some (xV (i + 1)), v7] [] (xS a b) Q) :
    pmWp ro d 4 122 1 86 [some (.ref 43), some (.long l), none, some (xV g), some (xV lot), some (xV my), some (xV i), v7] [] (xS a b) Q := by
  refine x_iinc (pl' := [some (.ref 43), some (.long l), none, some (xV g), some (xV lot), some (xV my), some (xV (i + 1)), v7]) xc122_86 rfl rfl ?_
  refine x_goto xc122_89 ?_
  exact k1

theorem w122m {ro : Nat → Nat × (Nat → Int32)} {d : Nat} {Q : Option Value → pmS → Prop} {v7 : Option Value} {my i g lot : Int} {l : Int64} {a : xA} {b : xB} (hA : xAr a) (hg : g = 0 ∨ g = 1) (hlot : 0 ≤ lot ∧ lot ≤ 65535) (hmy : 0 ≤ my ∧ my ≤ i) (hi : 0 ≤ i ∧ i ≤ 62)
    (k1 : (my ≤ 0) → pmWp ro d 4 122 1 111 [some (.ref 43), some (.long l), none, some (xV g), some (xV lot), some (xV my), some (xV 0), some (xV 0)] [] (xS a b) Q)
    (k2 : (¬ my ≤ 0) → pmWp ro d 4 122 1 111 [some (.ref 43), some (.long l), none, some (xV g), some (xV lot), some (xV my), some (xV (lot % my)), some (xV 0)] [] (xS a b) Q) :
    pmWp ro d 4 122 1 92 [some (.ref 43), some (.long l), none, some (xV g), some (xV lot), some (xV my), some (xV i), v7] [] (xS a b) Q := by
  refine x_iload xc122_92 rfl ?_
  refine x_ifle xc122_94 (xRk (by have g0 := hmy; omega)) (fun h0 => ?_) (fun h0 => ?_)
  · refine x_iconst xc122_105 ?_
    refine x_istore (pl' := [some (.ref 43), some (.long l), none, some (xV g), some (xV lot), some (xV my), some (xV 0), v7]) xc122_106 rfl rfl ?_
    refine x_iconst xc122_108 ?_
    refine x_istore (pl' := [some (.ref 43), some (.long l), none, some (xV g), some (xV lot), some (xV my), some (xV 0), some (xV 0)]) xc122_109 rfl rfl ?_
    exact k1 h0
  · refine x_iload xc122_97 rfl ?_
    refine x_iload xc122_99 rfl ?_
    refine x_irem (by have g0 := hlot; omega) (xRk (by have g0 := hlot; omega)) (by have g0 := hmy; omega) (xRk (by have g0 := hmy; omega)) xc122_101 ?_
    refine x_goto xc122_102 ?_
    refine x_istore (pl' := [some (.ref 43), some (.long l), none, some (xV g), some (xV lot), some (xV my), some (xV (lot % my)), v7]) xc122_106 rfl rfl ?_
    refine x_iconst xc122_108 ?_
    refine x_istore (pl' := [some (.ref 43), some (.long l), none, some (xV g), some (xV lot), some (xV my), some (xV (lot % my)), some (xV 0)]) xc122_109 rfl rfl ?_
    exact k2 h0

theorem w122j {ro : Nat → Nat × (Nat → Int32)} {d : Nat} {Q : Option Value → pmS → Prop} {my ah i g lot : Int} {l : Int64} {a : xA} {b : xB} (hA : xAr a) (hg : g = 0 ∨ g = 1) (hlot : 0 ≤ lot ∧ lot ≤ 65535) (hah : -100 ≤ ah ∧ ah ≤ 70000) (hi : 0 ≤ i ∧ i ≤ 62)
    (k1 : (62 ≤ i) → Q (some (xV 0)) (xS a b))
    (k2 : (¬ 62 ≤ i) → pmCs ro d 80 [.ref 3, .long l, xV 0, xV (a 4 i)] (xS a b) fun r σ' => pmWp ro d 4 122 1 137 [some (.ref 43), some (.long l), none, some (xV g), some (xV lot), some (xV my), some (xV ah), some (xV i)] (r.toList ++ []) σ' Q) :
    pmWp ro d 4 122 1 111 [some (.ref 43), some (.long l), none, some (xV g), some (xV lot), some (xV my), some (xV ah), some (xV i)] [] (xS a b) Q := by
  refine x_iload xc122_111 rfl ?_
  refine x_bipush xc122_113 (by decide) ?_
  refine x_icge xc122_115 (xRk (by have g0 := hi; omega)) (xRk (by decide)) (fun h0 => ?_) (fun h0 => ?_)
  · refine x_iconst xc122_165 ?_
    refine x_iret xc122_166 (Or.inl rfl) ?_
    exact k1 h0
  · refine x_aloadn xc122_118 rfl ?_
    refine x_gfr xc122_119 rfl rfl xz43 rfl ?_
    refine x_lloadn xc122_122 rfl ?_
    refine x_iconst xc122_123 ?_
    refine x_aloadn xc122_124 rfl ?_
    refine x_gfr xc122_125 rfl rfl xz43 rfl ?_
    refine x_gfr xc122_128 rfl rfl xz3 rfl ?_
    refine x_iload xc122_131 rfl ?_
    refine x_ial xc122_133 xz4 rfl (by have g0 := hi; omega) (by have g0 := hi; omega) (by have g0 := hi; omega) ?_
    refine x_cV (as := [.long l, xV 0, xV (a 4 i)]) (rest := []) xc122_134 rfl xi80 xz3 ⟨rfl, rfl⟩ rfl rfl ?_
    exact k2 h0

theorem w122y {ro : Nat → Nat × (Nat → Int32)} {d : Nat} {Q : Option Value → pmS → Prop} {z my ah i g lot : Int} {l : Int64} {a : xA} {b : xB} (hA : xAr a) (hg : g = 0 ∨ g = 1) (hlot : 0 ≤ lot ∧ lot ≤ 65535) (hah : -100 ≤ ah ∧ ah ≤ 70000) (hi : 0 ≤ i ∧ i ≤ 61) (hzz : z = 0 ∨ z = 1)
    (k1 : (z = 0) → pmWp ro d 4 122 1 159 [some (.ref 43), some (.long l), none, some (xV g), some (xV lot), some (xV my), some (xV ah), some (xV i)] [] (xS a b) Q)
    (k2 : (¬ z = 0) → (¬ ah = 0) → pmWp ro d 4 122 1 159 [some (.ref 43), some (.long l), none, some (xV g), some (xV lot), some (xV my), some (xV (ah + (-1))), some (xV i)] [] (xS a b) Q)
    (k3 : (¬ z = 0) → (ah = 0) → Q (some (xV (a 4 i))) (xS a b)) :
    pmWp ro d 4 122 1 137 [some (.ref 43), some (.long l), none, some (xV g), some (xV lot), some (xV my), some (xV ah), some (xV i)] [xV z] (xS a b) Q := by
  refine x_ifeq xc122_137 (xRk (by have g0 := hzz; omega)) (fun h0 => ?_) (fun h0 => ?_)
  · exact k1 h0
  · refine x_iload xc122_140 rfl ?_
    refine x_ifne xc122_142 (xRk (by have g0 := hah; omega)) (fun h1 => ?_) (fun h1 => ?_)
    · refine x_iinc (pl' := [some (.ref 43), some (.long l), none, some (xV g), some (xV lot), some (xV my), some (xV (ah + (-1))), some (xV i)]) xc122_156 rfl rfl ?_
      exact k2 h0 h1
    · replace h1 := Classical.not_not.mp h1
      refine x_aloadn xc122_145 rfl ?_
      refine x_gfr xc122_146 rfl rfl xz43 rfl ?_
      refine x_gfr xc122_149 rfl rfl xz3 rfl ?_
      refine x_iload xc122_152 rfl ?_
      refine x_ial xc122_154 xz4 rfl (by have g0 := hi; omega) (by have g0 := hi; omega) (by have g0 := hi; omega) ?_
      refine x_iret xc122_155 (Or.inl rfl) ?_
      exact k3 h0 h1

theorem w122o {ro : Nat → Nat × (Nat → Int32)} {d : Nat} {Q : Option Value → pmS → Prop} {my ah i g lot : Int} {l : Int64} {a : xA} {b : xB} (hA : xAr a) (hg : g = 0 ∨ g = 1) (hlot : 0 ≤ lot ∧ lot ≤ 65535) (hah : -100 ≤ ah ∧ ah ≤ 70000) (hi : 0 ≤ i ∧ i ≤ 62)
    (k1 : pmWp ro d 4 122 1 111 [some (.ref 43), some (.long l), none, some (xV g), some (xV lot), some (xV my), some (xV ah), some (xV (i + 1))] [] (xS a b) Q) :
    pmWp ro d 4 122 1 159 [some (.ref 43), some (.long l), none, some (xV g), some (xV lot), some (xV my), some (xV ah), some (xV i)] [] (xS a b) Q := by
  refine x_iinc (pl' := [some (.ref 43), some (.long l), none, some (xV g), some (xV lot), some (xV my), some (xV ah), some (xV (i + 1))]) xc122_159 rfl rfl ?_
  refine x_goto xc122_162 ?_
  exact k1

theorem w121 {ro : Nat → Nat × (Nat → Int32)} {d : Nat} {Q : Option Value → pmS → Prop} {so sd tn : Int} {w : Nat} {a : xA} {b : xB} (hz : uWz w) (hA : xAr a)
    (k1 : (a w 7 ≤ 0) → pmWp ro d 4 121 1 20 [some (.ref 43), some (.ref w), some (xV so), some (xV sd), some (xV tn), some (xV (-1)), some (xV sd), some (xV 1), none] [] (xS a b) Q)
    (k2 : (¬ a w 7 ≤ 0) → pmWp ro d 4 121 1 20 [some (.ref 43), some (.ref w), some (xV so), some (xV sd), some (xV tn), some (xV 0), some (xV sd), some (xV 1), none] [] (xS a b) Q) :
    pmWp ro d 4 121 1 0 [some (.ref 43), some (.ref w), some (xV so), some (xV sd), some (xV tn), none, none, none, none] [] (xS a b) Q := by
  refine x_aloadn xc121_0 rfl ?_
  refine x_gfi (k := 7) xc121_1 rfl (Or.inl rfl) rfl hz.1 ?_
  refine x_ifle xc121_4 (xRk (by have g0 := xRb (hA w 7); omega)) (fun h0 => ?_) (fun h0 => ?_)
  · refine x_iconst xc121_11 ?_
    refine x_istore (pl' := [some (.ref 43), some (.ref w), some (xV so), some (xV sd), some (xV tn), some (xV (-1)), none, none, none]) xc121_12 rfl rfl ?_
    refine x_iloadn xc121_14 rfl ?_
    refine x_istore (pl' := [some (.ref 43), some (.ref w), some (xV so), some (xV sd), some (xV tn), some (xV (-1)), some (xV sd), none, none]) xc121_15 rfl rfl ?_
    refine x_iconst xc121_17 ?_
    refine x_istore (pl' := [some (.ref 43), some (.ref w), some (xV so), some (xV sd), some (xV tn), some (xV (-1)), some (xV sd), some (xV 1), none]) xc121_18 rfl rfl ?_
    exact k1 h0
  · refine x_iconst xc121_7 ?_
    refine x_goto xc121_8 ?_
    refine x_istore (pl' := [some (.ref 43), some (.ref w), some (xV so), some (xV sd), some (xV tn), some (xV 0), none, none, none]) xc121_12 rfl rfl ?_
    refine x_iloadn xc121_14 rfl ?_
    refine x_istore (pl' := [some (.ref 43), some (.ref w), some (xV so), some (xV sd), some (xV tn), some (xV 0), some (xV sd), none, none]) xc121_15 rfl rfl ?_
    refine x_iconst xc121_17 ?_
    refine x_istore (pl' := [some (.ref 43), some (.ref w), some (xV so), some (xV sd), some (xV tn), some (xV 0), some (xV sd), some (xV 1), none]) xc121_18 rfl rfl ?_
    exact k2 h0

theorem xg121 {ro : Nat → Nat × (Nat → Int32)} {d : Nat} {Q : Option Value → pmS → Prop} {a : xA} {b : xB} {so sd tn : Int} {w : Nat} (h : pmWp ro d 4 121 1 0 [some (.ref 43), some (.ref w), some (xV so), some (xV sd), some (xV tn), none, none, none, none] [] (xS a b) Q) : pmCs ro (d + 1) 121 [.ref 43, .ref w, xV so, xV sd, xV tn] (xS a b) Q := x_go xi121 rfl rfl rfl rfl rfl h
theorem w121t {ro : Nat → Nat × (Nat → Int32)} {d : Nat} {Q : Option Value → pmS → Prop} {v8 : Option Value} {fb lot t so sd tn : Int} {w : Nat} {a : xA} {b : xB} (hz : uWz w) (hA : xAr a) (hso : 0 ≤ so ∧ so ≤ 2) (htn : 1 ≤ tn ∧ tn ≤ 20) (hfb : -1 ≤ fb ∧ fb ≤ 20) (hlot : 0 ≤ lot ∧ lot ≤ 65535) (ht : 1 ≤ t ∧ t ≤ 21)
    (k1 : (tn < t) → Q (some (xV fb)) (xS a b))
    (k2 : (¬ tn < t) → (¬ so = 0) → (¬ so = 2) → pmCs ro d 122 [.ref 43, .long (b w 4), xV 0, xV ((25173 * lot + 13849) % 65536)] (xS a b) fun r σ' => pmWp ro d 4 121 1 70 [some (.ref 43), some (.ref w), some (xV so), some (xV sd), some (xV tn), some (xV fb), some (xV ((25173 * lot + 13849) % 65536)), some (xV t), v8] (r.toList ++ []) σ' Q)
    (k3 : (¬ tn < t) → (¬ so = 0) → (so = 2) → pmCs ro d 122 [.ref 43, .long (b w 4), xV 1, xV ((25173 * lot + 13849) % 65536)] (xS a b) fun r σ' => pmWp ro d 4 121 1 70 [some (.ref 43), some (.ref w), some (xV so), some (xV sd), some (xV tn), some (xV fb), some (xV ((25173 * lot + 13849) % 65536)), some (xV t), v8] (r.toList ++ []) σ' Q)
    (k4 : (¬ tn < t) → (so = 0) → pmWp ro d 4 121 1 70 [some (.ref 43), some (.ref w), some (xV so), some (xV sd), some (xV tn), some (xV fb), some (xV ((25173 * lot + 13849) % 65536)), some (xV t), v8] [xV 0] (xS a b) Q) :
    pmWp ro d 4 121 1 20 [some (.ref 43), some (.ref w), some (xV so), some (xV sd), some (xV tn), some (xV fb), some (xV lot), some (xV t), v8] [] (xS a b) Q := by
  refine x_iload xc121_20 rfl ?_
  refine x_iload xc121_22 rfl ?_
  refine x_icgt xc121_24 (xRk (by have g0 := ht; omega)) (xRk (by have g0 := htn; omega)) (fun h0 => ?_) (fun h0 => ?_)
  · refine x_iload xc121_103 rfl ?_
    refine x_iret xc121_105 (Or.inl rfl) ?_
    exact k1 h0
  · refine x_sipush xc121_27 (by decide) ?_
    refine x_iload xc121_30 rfl ?_
    refine x_imul xc121_32 ?_
    refine x_sipush xc121_33 (by decide) ?_
    refine x_iadd xc121_36 ?_
    refine x_ldc (z := 65535) xc121_37 rfl ?_
    refine x_iandm (M := 65536) 16 (by decide) (by decide) (by decide) xc121_39 ?_
    refine x_istore (pl' := [some (.ref 43), some (.ref w), some (xV so), some (xV sd), some (xV tn), some (xV fb), some (xV ((25173 * lot + 13849) % 65536)), some (xV t), v8]) xc121_40 rfl rfl ?_
    refine x_iloadn xc121_42 rfl ?_
    refine x_ifne xc121_43 (xRk (by have g0 := hso; omega)) (fun h1 => ?_) (fun h1 => ?_)
    · refine x_aloadn xc121_50 rfl ?_
      refine x_aloadn xc121_51 rfl ?_
      refine x_gfl (k := 4) xc121_52 rfl rfl rfl hz.1 ?_
      refine x_iloadn xc121_55 rfl ?_
      refine x_iconst xc121_56 ?_
      refine x_icne xc121_57 (xRk (by have g0 := hso; omega)) (xRk (by decide)) (fun h2 => ?_) (fun h2 => ?_)
      · refine x_iconst xc121_64 ?_
        refine x_iload xc121_65 rfl ?_
        refine x_cV (as := [.long (b w 4), xV 0, xV ((25173 * lot + 13849) % 65536)]) (rest := []) xc121_67 rfl xi122 xz43 ⟨rfl, rfl⟩ rfl rfl ?_
        exact k2 h0 h1 h2
      · replace h2 := Classical.not_not.mp h2
        refine x_iconst xc121_60 ?_
        refine x_goto xc121_61 ?_
        refine x_iload xc121_65 rfl ?_
        refine x_cV (as := [.long (b w 4), xV 1, xV ((25173 * lot + 13849) % 65536)]) (rest := []) xc121_67 rfl xi122 xz43 ⟨rfl, rfl⟩ rfl rfl ?_
        exact k3 h0 h1 h2
    · replace h1 := Classical.not_not.mp h1
      refine x_iconst xc121_46 ?_
      refine x_goto xc121_47 ?_
      exact k4 h0 h1

theorem w121d {ro : Nat → Nat × (Nat → Int32)} {d : Nat} {Q : Option Value → pmS → Prop} {v8 : Option Value} {dd fb lot t so sd tn : Int} {w : Nat} {a : xA} {b : xB} (hz : uWz w) (hA : xAr a) (hso : 0 ≤ so ∧ so ≤ 2) (htn : 1 ≤ tn ∧ tn ≤ 20) (hfb : -1 ≤ fb ∧ fb ≤ 20) (hlot : 0 ≤ lot ∧ lot ≤ 65535) (ht : 1 ≤ t ∧ t ≤ 21)
    (k1 : pmCs ro d 89 [.ref 43, .ref w, xV dd, xV 0] (xS a b) fun r σ' => pmWp ro d 4 121 1 80 [some (.ref 43), some (.ref w), some (xV so), some (xV sd), some (xV tn), some (xV fb), some (xV lot), some (xV t), some (xV dd)] (r.toList ++ []) σ' Q) :
    pmWp ro d 4 121 1 70 [some (.ref 43), some (.ref w), some (xV so), some (xV sd), some (xV tn), some (xV fb), some (xV lot), some (xV t), v8] [xV dd] (xS a b) Q := by
  refine x_istore (pl' := [some (.ref 43), some (.ref w), some (xV so), some (xV sd), some (xV tn), some (xV fb), some (xV lot), some (xV t), some (xV dd)]) xc121_70 rfl rfl ?_
  refine x_aloadn xc121_72 rfl ?_
  refine x_aloadn xc121_73 rfl ?_
  refine x_iload xc121_74 rfl ?_
  refine x_iconst xc121_76 ?_
  refine x_cV (as := [.ref w, xV dd, xV 0]) (rest := []) xc121_77 rfl xi89 xz43 ⟨rfl, rfl⟩ rfl rfl ?_
  exact k1

theorem w121e {ro : Nat → Nat × (Nat → Int32)} {d : Nat} {Q : Option Value → pmS → Prop} {v8 : Option Value} {fb lot t so sd tn : Int} {w : Nat} {a : xA} {b : xB} (hz : uWz w) (hA : xAr a) (hso : 0 ≤ so ∧ so ≤ 2) (htn : 1 ≤ tn ∧ tn ≤ 20) (hfb : -1 ≤ fb ∧ fb ≤ 20) (hlot : 0 ≤ lot ∧ lot ≤ 65535) (ht : 1 ≤ t ∧ t ≤ 20)
    (k1 : (¬ fb = -1) → pmWp ro d 4 121 1 20 [some (.ref 43), some (.ref w), some (xV so), some (xV sd), some (xV tn), some (xV fb), some (xV lot), some (xV (t + 1)), v8] [] (xS a b) Q)
    (k2 : (fb = -1) → (a w 7 ≤ 0) → pmWp ro d 4 121 1 20 [some (.ref 43), some (.ref w), some (xV so), some (xV sd), some (xV tn), some (xV fb), some (xV lot), some (xV (t + 1)), v8] [] (xS a b) Q)
    (k3 : (fb = -1) → (¬ a w 7 ≤ 0) → pmWp ro d 4 121 1 20 [some (.ref 43), some (.ref w), some (xV so), some (xV sd), some (xV tn), some (xV t), some (xV lot), some (xV (t + 1)), v8] [] (xS a b) Q) :
    pmWp ro d 4 121 1 80 [some (.ref 43), some (.ref w), some (xV so), some (xV sd), some (xV tn), some (xV fb), some (xV lot), some (xV t), v8] [] (xS a b) Q := by
  refine x_iload xc121_80 rfl ?_
  refine x_iconst xc121_82 ?_
  refine x_icne xc121_83 (xRk (by have g0 := hfb; omega)) (xRk (by decide)) (fun h0 => ?_) (fun h0 => ?_)
  · refine x_iinc (pl' := [some (.ref 43), some (.ref w), some (xV so), some (xV sd), some (xV tn), some (xV fb), some (xV lot), some (xV (t + 1)), v8]) xc121_97 rfl rfl ?_
    refine x_goto xc121_100 ?_
    exact k1 h0
  · replace h0 := Classical.not_not.mp h0
    refine x_aloadn xc121_86 rfl ?_
    refine x_gfi (k := 7) xc121_87 rfl (Or.inl rfl) rfl hz.1 ?_
    refine x_ifle xc121_90 (xRk (by have g0 := xRb (hA w 7); omega)) (fun h1 => ?_) (fun h1 => ?_)
    · refine x_iinc (pl' := [some (.ref 43), some (.ref w), some (xV so), some (xV sd), some (xV tn), some (xV fb), some (xV lot), some (xV (t + 1)), v8]) xc121_97 rfl rfl ?_
      refine x_goto xc121_100 ?_
      exact k2 h0 h1
    · refine x_iload xc121_93 rfl ?_
      refine x_istore (pl' := [some (.ref 43), some (.ref w), some (xV so), some (xV sd), some (xV tn), some (xV t), some (xV lot), some (xV t), v8]) xc121_95 rfl rfl ?_
      refine x_iinc (pl' := [some (.ref 43), some (.ref w), some (xV so), some (xV sd), some (xV tn), some (xV t), some (xV lot), some (xV (t + 1)), v8]) xc121_97 rfl rfl ?_
      refine x_goto xc121_100 ?_
      exact k3 h0 h1

theorem w123 {ro : Nat → Nat × (Nat → Int32)} {d : Nat} {Q : Option Value → pmS → Prop} {l : Int64} {a : xA} {b : xB}
    (k1 : pmWp ro d 11 123 1 4 [some (.long l), none, some (xV 0), some (xV 0)] [] (xS a b) Q) :
    pmWp ro d 11 123 1 0 [some (.long l), none, none, none] [] (xS a b) Q := by
  refine x_iconst xc123_0 ?_
  refine x_istoren (pl' := [some (.long l), none, some (xV 0), none]) xc123_1 rfl rfl ?_
  refine x_iconst xc123_2 ?_
  refine x_istoren (pl' := [some (.long l), none, some (xV 0), some (xV 0)]) xc123_3 rfl rfl ?_
  exact k1

theorem xg123 {ro : Nat → Nat × (Nat → Int32)} {d : Nat} {Q : Option Value → pmS → Prop} {a : xA} {b : xB} {l : Int64} (h : pmWp ro d 11 123 1 0 [some (.long l), none, none, none] [] (xS a b) Q) : pmCs ro (d + 1) 123 [.long l] (xS a b) Q := x_go xi123 rfl rfl rfl rfl rfl h
theorem w123q {ro : Nat → Nat × (Nat → Int32)} {d : Nat} {Q : Option Value → pmS → Prop} {dn q : Int} {l : Int64} {a : xA} {b : xB} (hdn : 0 ≤ dn ∧ dn ≤ q) (hq : 0 ≤ q ∧ q ≤ 4) (hd : 1 ≤ d)
    (k1 : (4 ≤ q) → Q (some (xV dn)) (xS a b))
    (k2 : (¬ 4 ≤ q) → (¬ uSl l q = 8) → pmWp ro d 11 123 1 4 [some (.long l), none, some (xV (dn + 0)), some (xV (q + 1))] [] (xS a b) Q)
    (k3 : (¬ 4 ≤ q) → (uSl l q = 8) → pmWp ro d 11 123 1 4 [some (.long l), none, some (xV (dn + 1)), some (xV (q + 1))] [] (xS a b) Q) :
    pmWp ro d 11 123 1 4 [some (.long l), none, some (xV dn), some (xV q)] [] (xS a b) Q := by
  refine x_iloadn xc123_4 rfl ?_
  refine x_iconst xc123_5 ?_
  refine x_icge xc123_6 (xRk (by have g0 := hq; omega)) (xRk (by decide)) (fun h0 => ?_) (fun h0 => ?_)
  · refine x_iloadn xc123_33 rfl ?_
    refine x_iret xc123_34 (Or.inl rfl) ?_
    exact k1 h0
  · refine x_iloadn xc123_9 rfl ?_
    refine x_lloadn xc123_10 rfl ?_
    refine x_iloadn xc123_11 rfl ?_
    refine x_cS (as := [.long l, xV q]) (rest := [xV dn]) xc123_12 rfl rfl xi61 ⟨rfl, rfl⟩ rfl rfl ?_
    refine rk61 (by omega) (by have g0 := hq; omega) ?_
    refine x_bipush xc123_15 (by decide) ?_
    refine x_icne xc123_17 (xRk (by have g0 := uSl_b (l := l) (j := q) (by have g0 := hq; omega) (by have g0 := hq; omega); omega)) (xRk (by decide)) (fun h1 => ?_) (fun h1 => ?_)
    · refine x_iconst xc123_24 ?_
      refine x_iadd xc123_25 ?_
      refine x_istoren (pl' := [some (.long l), none, some (xV (dn + 0)), some (xV q)]) xc123_26 rfl rfl ?_
      refine x_iinc (pl' := [some (.long l), none, some (xV (dn + 0)), some (xV (q + 1))]) xc123_27 rfl rfl ?_
      refine x_goto xc123_30 ?_
      exact k2 h0 h1
    · replace h1 := Classical.not_not.mp h1
      refine x_iconst xc123_20 ?_
      refine x_goto xc123_21 ?_
      refine x_iadd xc123_25 ?_
      refine x_istoren (pl' := [some (.long l), none, some (xV (dn + 1)), some (xV q)]) xc123_26 rfl rfl ?_
      refine x_iinc (pl' := [some (.long l), none, some (xV (dn + 1)), some (xV (q + 1))]) xc123_27 rfl rfl ?_
      refine x_goto xc123_30 ?_
      exact k3 h0 h1

theorem wa120 {ro : Nat → Nat × (Nat → Int32)} {d : Nat} {Q : Option Value → pmS → Prop} {so sd tn wh bg : Int} {a : xA} {b : xB} (qso : xR so) (qsd : xR sd) (qtn : xR tn) (qwh : xR wh) (hb : a 0 12 = bg) (hbg : bg = 0 ∨ bg = 1)
    (k1 : (so < 0) → pmWp ro d 11 120 1 38 [some (.ref 0), some (xV so), some (xV sd), some (xV tn), some (xV wh), some (xV 0), none] [] (xS a b) Q)
    (k2 : (¬ so < 0) → (2 < so) → pmWp ro d 11 120 1 38 [some (.ref 0), some (xV so), some (xV sd), some (xV tn), some (xV wh), some (xV 0), none] [] (xS a b) Q)
    (k3 : (¬ so < 0) → (¬ 2 < so) → (sd < 0) → pmWp ro d 11 120 1 38 [some (.ref 0), some (xV so), some (xV sd), some (xV tn), some (xV wh), some (xV 0), none] [] (xS a b) Q)
    (k4 : (¬ so < 0) → (¬ 2 < so) → (¬ sd < 0) → (65535 < sd) → pmWp ro d 11 120 1 38 [some (.ref 0), some (xV so), some (xV sd), some (xV tn), some (xV wh), some (xV 0), none] [] (xS a b) Q)
    (k5 : (¬ so < 0) → (¬ 2 < so) → (¬ sd < 0) → (¬ 65535 < sd) → (tn < 1) → pmWp ro d 11 120 1 38 [some (.ref 0), some (xV so), some (xV sd), some (xV tn), some (xV wh), some (xV 0), none] [] (xS a b) Q)
    (k6 : (¬ so < 0) → (¬ 2 < so) → (¬ sd < 0) → (¬ 65535 < sd) → (¬ tn < 1) → (20 < tn) → pmWp ro d 11 120 1 38 [some (.ref 0), some (xV so), some (xV sd), some (xV tn), some (xV wh), some (xV 0), none] [] (xS a b) Q)
    (k7 : (¬ so < 0) → (¬ 2 < so) → (¬ sd < 0) → (¬ 65535 < sd) → (¬ tn < 1) → (¬ 20 < tn) → pmWp ro d 11 120 1 38 [some (.ref 0), some (xV so), some (xV sd), some (xV tn), some (xV wh), some (xV 1), none] [] (xS a b) Q) :
    pmWp ro d 11 120 1 0 [some (.ref 0), some (xV so), some (xV sd), some (xV tn), some (xV wh), none, none] [] (xS a b) Q := by
  refine x_iloadn xc120_0 rfl ?_
  refine x_iflt xc120_1 (xRk (by have g0 := xRb qso; omega)) (fun h0 => ?_) (fun h0 => ?_)
  · refine x_iconst xc120_35 ?_
    refine x_istore (pl' := [some (.ref 0), some (xV so), some (xV sd), some (xV tn), some (xV wh), some (xV 0), none]) xc120_36 rfl rfl ?_
    exact k1 h0
  · refine x_iloadn xc120_4 rfl ?_
    refine x_iconst xc120_5 ?_
    refine x_icgt xc120_6 (xRk (by have g0 := xRb qso; omega)) (xRk (by decide)) (fun h1 => ?_) (fun h1 => ?_)
    · refine x_iconst xc120_35 ?_
      refine x_istore (pl' := [some (.ref 0), some (xV so), some (xV sd), some (xV tn), some (xV wh), some (xV 0), none]) xc120_36 rfl rfl ?_
      exact k2 h0 h1
    · refine x_iloadn xc120_9 rfl ?_
      refine x_iflt xc120_10 (xRk (by have g0 := xRb qsd; omega)) (fun h2 => ?_) (fun h2 => ?_)
      · refine x_iconst xc120_35 ?_
        refine x_istore (pl' := [some (.ref 0), some (xV so), some (xV sd), some (xV tn), some (xV wh), some (xV 0), none]) xc120_36 rfl rfl ?_
        exact k3 h0 h1 h2
      · refine x_iloadn xc120_13 rfl ?_
        refine x_ldcw (z := 65535) xc120_14 rfl ?_
        refine x_icgt xc120_17 (xRk (by have g0 := xRb qsd; omega)) (xRk (by decide)) (fun h3 => ?_) (fun h3 => ?_)
        · refine x_iconst xc120_35 ?_
          refine x_istore (pl' := [some (.ref 0), some (xV so), some (xV sd), some (xV tn), some (xV wh), some (xV 0), none]) xc120_36 rfl rfl ?_
          exact k4 h0 h1 h2 h3
        · refine x_iloadn xc120_20 rfl ?_
          refine x_iconst xc120_21 ?_
          refine x_iclt xc120_22 (xRk (by have g0 := xRb qtn; omega)) (xRk (by decide)) (fun h4 => ?_) (fun h4 => ?_)
          · refine x_iconst xc120_35 ?_
            refine x_istore (pl' := [some (.ref 0), some (xV so), some (xV sd), some (xV tn), some (xV wh), some (xV 0), none]) xc120_36 rfl rfl ?_
            exact k5 h0 h1 h2 h3 h4
          · refine x_iloadn xc120_25 rfl ?_
            refine x_bipush xc120_26 (by decide) ?_
            refine x_icgt xc120_28 (xRk (by have g0 := xRb qtn; omega)) (xRk (by decide)) (fun h5 => ?_) (fun h5 => ?_)
            · refine x_iconst xc120_35 ?_
              refine x_istore (pl' := [some (.ref 0), some (xV so), some (xV sd), some (xV tn), some (xV wh), some (xV 0), none]) xc120_36 rfl rfl ?_
              exact k6 h0 h1 h2 h3 h4 h5
            · refine x_iconst xc120_31 ?_
              refine x_goto xc120_32 ?_
              refine x_istore (pl' := [some (.ref 0), some (xV so), some (xV sd), some (xV tn), some (xV wh), some (xV 1), none]) xc120_36 rfl rfl ?_
              exact k7 h0 h1 h2 h3 h4 h5

theorem wa120a {ro : Nat → Nat × (Nat → Int32)} {d : Nat} {Q : Option Value → pmS → Prop} {g so sd tn wh bg : Int} {a : xA} {b : xB} (qso : xR so) (qsd : xR sd) (qtn : xR tn) (qwh : xR wh) (hb : a 0 12 = bg) (hbg : bg = 0 ∨ bg = 1) (hg : g = 0 ∨ g = 1)
    (k1 : (bg = 0) → Q (some (xV (-1))) (xS a b))
    (k2 : (¬ bg = 0) → (g = 0) → Q (some (xV (-1))) (xS a b))
    (k3 : (¬ bg = 0) → (¬ g = 0) → (wh < 0) → Q (some (xV (-1))) (xS a b))
    (k4 : (¬ bg = 0) → (¬ g = 0) → (¬ wh < 0) → (wh ≤ 2) → pmCs ro d 66 [.ref 26, .ref 21] (xS a b) fun r σ' => pmWp ro d 11 120 1 74 [some (.ref 0), some (xV so), some (xV sd), some (xV tn), some (xV wh), some (xV g), none] (r.toList ++ []) σ' Q)
    (k5 : (¬ bg = 0) → (¬ g = 0) → (¬ wh < 0) → (¬ wh ≤ 2) → Q (some (xV (-1))) (xS a b)) :
    pmWp ro d 11 120 1 38 [some (.ref 0), some (xV so), some (xV sd), some (xV tn), some (xV wh), some (xV g), none] [] (xS a b) Q := by
  refine x_aloadn xc120_38 rfl ?_
  refine x_gfi' (k := 12) (v := bg) xc120_39 rfl (Or.inr rfl) rfl xz0 hb ?_
  refine x_ifeq xc120_42 (xRk (by have g0 := hbg; omega)) (fun h0 => ?_) (fun h0 => ?_)
  · refine x_iconst xc120_61 ?_
    refine x_iret xc120_62 (Or.inl rfl) ?_
    exact k1 h0
  · refine x_iload xc120_45 rfl ?_
    refine x_ifeq xc120_47 (xRk (by have g0 := hg; omega)) (fun h1 => ?_) (fun h1 => ?_)
    · refine x_iconst xc120_61 ?_
      refine x_iret xc120_62 (Or.inl rfl) ?_
      exact k2 h0 h1
    · refine x_iload xc120_50 rfl ?_
      refine x_iflt xc120_52 (xRk (by have g0 := xRb qwh; omega)) (fun h2 => ?_) (fun h2 => ?_)
      · refine x_iconst xc120_61 ?_
        refine x_iret xc120_62 (Or.inl rfl) ?_
        exact k3 h0 h1 h2
      · refine x_iload xc120_55 rfl ?_
        refine x_iconst xc120_57 ?_
        refine x_icle xc120_58 (xRk (by have g0 := xRb qwh; omega)) (xRk (by decide)) (fun h3 => ?_) (fun h3 => ?_)
        · refine x_aloadn xc120_63 rfl ?_
          refine x_gfr xc120_64 rfl rfl xz0 rfl ?_
          refine x_aloadn xc120_67 rfl ?_
          refine x_gfr xc120_68 rfl rfl xz0 rfl ?_
          refine x_cV (as := [.ref 21]) (rest := []) xc120_71 rfl xi66 xz26 ⟨rfl, rfl⟩ rfl rfl ?_
          exact k4 h0 h1 h2 h3
        · refine x_iconst xc120_61 ?_
          refine x_iret xc120_62 (Or.inl rfl) ?_
          exact k5 h0 h1 h2 h3

theorem wa120b {ro : Nat → Nat × (Nat → Int32)} {d : Nat} {Q : Option Value → pmS → Prop} {g so sd tn wh : Int} {a : xA} {b : xB} (hw : 0 ≤ wh ∧ wh ≤ 2)
    (k1 : pmCs ro d 121 [.ref 43, .ref 26, xV so, xV sd, xV tn] (xS a b) fun r σ' => pmWp ro d 11 120 1 88 [some (.ref 0), some (xV so), some (xV sd), some (xV tn), some (xV wh), some (xV g), none] (r.toList ++ []) σ' Q) :
    pmWp ro d 11 120 1 74 [some (.ref 0), some (xV so), some (xV sd), some (xV tn), some (xV wh), some (xV g), none] [] (xS a b) Q := by
  refine x_aloadn xc120_74 rfl ?_
  refine x_gfr xc120_75 rfl rfl xz0 rfl ?_
  refine x_aloadn xc120_78 rfl ?_
  refine x_gfr xc120_79 rfl rfl xz0 rfl ?_
  refine x_iloadn xc120_82 rfl ?_
  refine x_iloadn xc120_83 rfl ?_
  refine x_iloadn xc120_84 rfl ?_
  refine x_cV (as := [.ref 26, xV so, xV sd, xV tn]) (rest := []) xc120_85 rfl xi121 xz43 ⟨rfl, rfl⟩ rfl rfl ?_
  exact k1

theorem wa120c {ro : Nat → Nat × (Nat → Int32)} {d : Nat} {Q : Option Value → pmS → Prop} {z g so sd tn wh : Int} {a : xA} {b : xB} (hw : 0 ≤ wh ∧ wh ≤ 2)
    (k1 : (wh = 0) → Q (some (xV z)) (xS a b))
    (k2 : (¬ wh = 0) → (wh = 1) → pmCs ro d 123 [.long (b 26 4)] (xS a b) fun r σ' => pmWp ro d 11 120 1 133 [some (.ref 0), some (xV so), some (xV sd), some (xV tn), some (xV wh), some (xV g), some (xV z)] (r.toList ++ []) σ' Q)
    (k3 : (¬ wh = 0) → (¬ wh = 1) → Q (some (xV (a 26 11 - (a 21 11)))) (xS a b)) :
    pmWp ro d 11 120 1 88 [some (.ref 0), some (xV so), some (xV sd), some (xV tn), some (xV wh), some (xV g), none] [xV z] (xS a b) Q := by
  refine x_istore (pl' := [some (.ref 0), some (xV so), some (xV sd), some (xV tn), some (xV wh), some (xV g), some (xV z)]) xc120_88 rfl rfl ?_
  refine x_iload xc120_90 rfl ?_
  by_cases h0 : wh = 0
  · refine x_sw (c := 0) (t := 120) h0 xc120_92 rfl ?_
    refine x_iload xc120_120 rfl ?_
    refine x_iret xc120_122 (Or.inl rfl) ?_
    exact k1 h0
  by_cases h1 : wh = 1
  · refine x_sw (c := 1) (t := 123) h1 xc120_92 rfl ?_
    refine x_aloadn xc120_123 rfl ?_
    refine x_gfr xc120_124 rfl rfl xz0 rfl ?_
    refine x_gfl (k := 4) xc120_127 rfl rfl rfl xz26 ?_
    refine x_cS (as := [.long (b 26 4)]) (rest := []) xc120_130 rfl rfl xi123 ⟨rfl, rfl⟩ rfl rfl ?_
    exact k2 h0 h1
  refine x_lsd2 (t := 134) xc120_92 (xRk (by have g0 := hw; omega)) (by omega) (by omega) rfl rfl ?_
  refine x_aloadn xc120_134 rfl ?_
  refine x_gfr xc120_135 rfl rfl xz0 rfl ?_
  refine x_gfi (k := 11) xc120_138 rfl (Or.inl rfl) rfl xz26 ?_
  refine x_aloadn xc120_141 rfl ?_
  refine x_gfr xc120_142 rfl rfl xz0 rfl ?_
  refine x_gfi (k := 11) xc120_145 rfl (Or.inl rfl) rfl xz21 ?_
  refine x_isub xc120_148 ?_
  refine x_iret xc120_149 (Or.inl rfl) ?_
  exact k3 h0 h1

theorem wa120d {ro : Nat → Nat × (Nat → Int32)} {d : Nat} {Q : Option Value → pmS → Prop} {z v g so sd tn wh : Int} {a : xA} {b : xB} (hw : 0 ≤ wh ∧ wh ≤ 2)
    (k1 : Q (some (xV v)) (xS a b)) :
    pmWp ro d 11 120 1 133 [some (.ref 0), some (xV so), some (xV sd), some (xV tn), some (xV wh), some (xV g), some (xV z)] [xV v] (xS a b) Q := by
  refine x_iret xc120_133 (Or.inl rfl) ?_
  exact k1

end
end
section
/-! made of the class, as a frame -/
section
set_option maxRecDepth 100000


section
variable {Ln : Nat} {xs : Nat → Int32} {ro : Nat → Nat × (Nat → Int32)} {d w : Nat} {Q : Option Value → pmS → Prop} {dr wp co pr cnt W : Int → Int} {T : Int → List Int} {n m t wh k g lot so sd tn wt : Int} {r r' : Int → Int} {a a' a'' a0 : xA} {b b' b'' : xB} {l : Int64}
theorem uCx_t (hn0 : 0 ≤ n ∧ n ≤ 5) (hX : uCx n w r a b) (hcd : k = -1 ∨ ((0 ≤ k ∧ k < 61) ∧ (¬ r 0 = 7 → uCp n 0 k r))) (hwo : uWo w) (f : uTf w a a' b b') (h : uCw n w (uTr dr wp pr cnt W T n k wt r 4) a' b') (e6 : a' w 6 = a w 6 + 1) (e12 : a' w 12 = 0) : uCx n w (uTu dr wp pr cnt W T n k wt r) a' b' := by
  have hw := hwo.2
  have v4 := (uTr_v (dr := dr) (wp := wp) (pr := pr) (cnt := cnt) (W := W) (T := T) (wt := wt) hn0 hX.1.1 hcd 4 (by decide)).2
  have tu : ∀ j, ¬ j = 114 → ¬ j = 115 → uTu dr wp pr cnt W T n k wt r j = uTr dr wp pr cnt W T n k wt r 4 j := fun j h1 h2 => by
    unfold uTu
    rw [if_neg h1, if_neg h2]
  have ht4 : uTu dr wp pr cnt W T n k wt r 114 = r 114 + 1 := rfl
  have ht5 : uTu dr wp pr cnt W T n k wt r 115 = 0 := rfl
  have k8 : ∀ j, j = 8 ∨ j = 9 ∨ j = 10 → a' w j = a w j := fun j hj => f.1 w j (by omega) (by omega) (by omega) (by omega) (by omega) (by omega)
  exact ⟨uCw_q hn0.2 h (fun j hj => tu j (by omega) (by omega)), by rw [e6, hX.2.1, ht4], by rw [e12, ht5], by rw [k8 8 (by decide), hX.2.2.2.1, tu 116 (by decide) (by decide), v4 116 (by decide) (by decide)], by rw [k8 9 (by decide), hX.2.2.2.2.1, tu 117 (by decide) (by decide), v4 117 (by decide) (by decide)], by rw [k8 10 (by decide), hX.2.2.2.2.2, tu 118 (by decide) (by decide), v4 118 (by decide) (by decide)]⟩
theorem uBqm_u (hn0 : 0 ≤ n ∧ n ≤ 5) (hr : uRv n r) (h : uBqm m r) (hc : k = -1 ∨ ((0 ≤ k ∧ k < 61) ∧ (¬ r 0 = 7 → uCp n 0 k r))) (h9 : 0 ≤ uTr dr wp pr cnt W T n k wt r 4 119 ∧ uTr dr wp pr cnt W T n k wt r 4 119 ≤ r 119 + 5) : uBqm (m + 1) (uTu dr wp pr cnt W T n k wt r) := by
  obtain ⟨h1, h2, h3, h4, h5, h6⟩ := h
  have v := (uTr_v (dr := dr) (wp := wp) (pr := pr) (cnt := cnt) (W := W) (T := T) (wt := wt) hn0 hr hc 4 (by decide)).2
  have e : ∀ j, ¬ j = 114 → ¬ j = 115 → uTu dr wp pr cnt W T n k wt r j = uTr dr wp pr cnt W T n k wt r 4 j := fun j g1 g2 => by
    unfold uTu
    rw [if_neg g1, if_neg g2]
  refine ⟨?_, ?_, ?_, ?_, ?_, ?_⟩
  · show 0 ≤ r 114 + 1 ∧ r 114 + 1 ≤ _
    omega
  · show (0 : Int) ≤ 0 ∧ (0 : Int) ≤ 1
    decide
  · rw [e 116 (by decide) (by decide), v 116 (by decide) (by decide)]
    omega
  · rw [e 117 (by decide) (by decide), v 117 (by decide) (by decide)]
    omega
  · rw [e 118 (by decide) (by decide), v 118 (by decide) (by decide)]
    omega
  · rw [e 119 (by decide) (by decide)]
    omega
/-- madeDeed -/
theorem u122 (hA : xAr a) (hKs : uKs dr wp n a b) (hg : g = 0 ∨ g = 1) (hlot : 0 ≤ lot ∧ lot ≤ 65535) (hd : 2 ≤ d) (hQ : ∀ k, (-1 ≤ k ∧ k < 61) → uCa dr wp n 0 (uSl l) k → Q (some (xV (uD k))) (xS a b)) : pmCs ro d 122 [.ref 43, .long l, xV g, xV lot] (xS a b) Q := by
  have e4 : ∀ i, 0 ≤ i → i < 62 → a 4 i = uD (i - 1) := fun i i0 i1 => by
    have := hKs.2.2.2.2 (i - 1) (by omega) (by omega)
    rw [show i - 1 + 1 = i by omega] at this
    exact this
  refine pmCs_deep (d := 2) (xg122 (w122 ?_)) hd
  have l2 : ∀ (u : Nat) (i ah my : Int), i + (u : Int) = 62 → 0 ≤ i → (-i ≤ ah ∧ ah ≤ 66000) → pmWp ro 1 4 122 1 111 [some (.ref 43), some (.long l), none, some (xV g), some (xV lot), some (xV my), some (xV ah), some (xV i)] [] (xS a b) Q := by
    intro u
    induction u with
    | zero =>
      intro i ah my hi i0 hah
      exact w122j hA hg hlot ⟨by omega, by omega⟩ ⟨i0, by omega⟩ (fun _ => hQ (-1) (by decide) (Or.inl rfl)) (fun e => absurd (by omega) e)
    | succ u ih =>
      intro i ah my hi i0 hah
      have hi2 : 0 ≤ i ∧ i ≤ 61 := ⟨i0, by omega⟩
      have hah2 : -100 ≤ ah ∧ ah ≤ 70000 := ⟨by omega, by omega⟩
      have nxt : ∀ ah2 : Int, (-(i + 1) ≤ ah2 ∧ ah2 ≤ 66000) → pmWp ro 1 4 122 1 159 [some (.ref 43), some (.long l), none, some (xV g), some (xV lot), some (xV my), some (xV ah2), some (xV i)] [] (xS a b) Q := fun ah2 h => w122o hA hg hlot ⟨by omega, by omega⟩ ⟨i0, by omega⟩ (ih (i + 1) ah2 my (by omega) (by omega) h)
      refine w122j hA hg hlot hah2 ⟨i0, by omega⟩ (fun e => absurd e (by omega)) (fun _ => ?_)
      have e := e4 i i0 (by omega)
      rw [e]
      have fin := hQ (i - 1) ⟨by omega, by omega⟩
      refine u80 hA hKs (by decide) ⟨by omega, by omega⟩ (by decide) (fun hc => w122y hA hg hlot hah2 hi2 (by decide) (fun e => absurd e (by decide)) (fun _ _ => nxt (ah + -1) ⟨by omega, by omega⟩) (fun _ _ => ?_)) (fun hc => w122y hA hg hlot hah2 hi2 (by decide) (fun _ => nxt ah ⟨by omega, by omega⟩) (fun e => absurd rfl e) (fun e => absurd rfl e))
      rw [e]
      exact fin hc
  have l1 : ∀ (u : Nat) (i my : Int) (v7 : Option Value), i + (u : Int) = 62 → 0 ≤ i → (0 ≤ my ∧ my ≤ i) → pmWp ro 1 4 122 1 6 [some (.ref 43), some (.long l), none, some (xV g), some (xV lot), some (xV my), some (xV i), v7] [] (xS a b) Q := by
    intro u
    induction u with
    | zero =>
      intro i my v7 hi i0 hmy
      refine w122i hA hg hlot hmy ⟨i0, by omega⟩ (fun _ => ?_) (fun e => absurd (by omega) e)
      refine w122m hA hg hlot hmy ⟨i0, by omega⟩ (fun _ => l2 62 0 0 my (by decide) (by decide) (by decide)) (fun e => l2 62 0 (lot % my) my (by decide) (by decide) ?_)
      have h1 := Int.emod_nonneg lot (show my ≠ 0 by omega)
      have h2 := Int.emod_lt_of_pos lot (show 0 < my by omega)
      omega
    | succ u ih =>
      intro i my v7 hi i0 hmy
      have hi2 : 0 ≤ i ∧ i ≤ 61 := ⟨i0, by omega⟩
      have nxt : ∀ (my2 : Int) (v7 : Option Value), (0 ≤ my2 ∧ my2 ≤ i + 1) → pmWp ro 1 4 122 1 86 [some (.ref 43), some (.long l), none, some (xV g), some (xV lot), some (xV my2), some (xV i), v7] [] (xS a b) Q := fun my2 v7 h => w122n2 hA hg hlot h ⟨i0, by omega⟩ (ih (i + 1) my2 v7 (by omega) (by omega) h)
      refine w122i hA hg hlot hmy ⟨i0, by omega⟩ (fun e => absurd e (by omega)) (fun _ => ?_)
      have e := e4 i i0 (by omega)
      rw [e]
      have hDb := uD_p (k := i - 1) ⟨by omega, by omega⟩
      have fin := hQ (i - 1) ⟨by omega, by omega⟩
      refine u80 hA hKs (by decide) ⟨by omega, by omega⟩ (by decide) (fun hc => w122z hA hg hlot hmy hi2 (by decide) e ⟨hDb.1, hDb.2.1⟩ (fun e => absurd e (by decide)) (fun _ _ => nxt (my + 1) _ ⟨by omega, by omega⟩) (fun _ _ _ => nxt (my + 1) _ ⟨by omega, by omega⟩) (fun _ _ _ => fin hc)) (fun hc => w122z hA hg hlot hmy hi2 (by decide) e ⟨hDb.1, hDb.2.1⟩ (fun _ => nxt (my + 0) _ ⟨by omega, by omega⟩) (fun e => absurd rfl e) (fun e => absurd rfl e) (fun e => absurd rfl e))
  exact l1 62 0 0 _ (by decide) (by decide) (by decide)
/-- what playing on a world leaves alone -/
def uTgw (w : Nat) (a a' : xA) (b b' : xB) : Prop := (∀ q j, ¬ (w ≤ q ∧ q ≤ w + 4) → ¬ q = 44 → ¬ (34 ≤ q ∧ q ≤ 42) → a' q j = a q j) ∧ ∀ q j, ¬ (w ≤ q ∧ q ≤ w + 4) → ¬ (34 ≤ q ∧ q ≤ 36) → b' q j = b q j
theorem uTg_r : uTgw w a a b b := ⟨fun _ _ _ _ _ => rfl, fun _ _ _ _ => rfl⟩
theorem uTg_t (h : uTgw w a a' b b') (h' : uTgw w a' a'' b' b'') : uTgw w a a'' b b'' := ⟨fun q j e1 e2 e3 => (h'.1 q j e1 e2 e3).trans (h.1 q j e1 e2 e3), fun q j e1 e2 => (h'.2 q j e1 e2).trans (h.2 q j e1 e2)⟩
theorem uTg_f (h : uTf w a a' b b') : uTgw w a a' b b' := ⟨fun q j e1 e2 e3 => h.1 q j (by omega) (by omega) (by omega) (by omega) e2 e3, fun q j e1 e2 => h.2 q j (by omega) (by omega) e2⟩
theorem uTg_c {v : Nat} (h : uCopd w v a a' b b') : uTgw w a a' b b' := ⟨fun q j e1 _ _ => h.2.2.2.2.2.1 q j e1, fun q j e1 _ => h.2.2.2.2.2.2 q j e1⟩
theorem uTg_x (h : uXf w a a' b b') : uTgw w a a' b b' := ⟨fun q j e1 _ _ => h.1 q j (by omega) (by omega), fun q j e1 _ => h.2 q j (by omega) (by omega)⟩
/-- tryMade -/
theorem u121 (hK : uRk pr cnt W T) (hn0 : 0 ≤ n ∧ n ≤ 5) (hwo : uWo w) (hC : uCb dr wp co pr cnt W T n a0 a b) (hX : uCx n w r a b) (hB : uBqm 0 r) (hso : 0 ≤ so ∧ so ≤ 2) (hsd : 0 ≤ sd ∧ sd ≤ 65535) (htn : 1 ≤ tn ∧ tn ≤ 20) (hd : 12 ≤ d) (hQ : ∀ a' b' z, uTgw w a a' b b' → uCb dr wp co pr cnt W T n a0 a' b' → (-1 ≤ z ∧ z ≤ 20) → (0 ≤ a' w 11 ∧ a' w 11 ≤ 400) → Q (some (xV z)) (xS a' b')) : pmCs (pmRo Ln xs) d 121 [.ref 43, .ref w, xV so, xV sd, xV tn] (xS a b) Q := by
  have hz := hwo.1
  have hw := hwo.2
  have loop : ∀ (u : Nat) (t fb lot : Int) (r1 : Int → Int) (a2 : xA) (b2 : xB) (v8 : Option Value), t + (u : Int) = tn + 1 → 1 ≤ t → (-1 ≤ fb ∧ fb ≤ 20) → (0 ≤ lot ∧ lot ≤ 65535) → uTgw w a a2 b b2 → uCb dr wp co pr cnt W T n a0 a2 b2 → uCx n w r1 a2 b2 → uBqm (t - 1) r1 → pmWp (pmRo Ln xs) 11 4 121 1 20 [some (.ref 43), some (.ref w), some (xV so), some (xV sd), some (xV tn), some (xV fb), some (xV lot), some (xV t), v8] [] (xS a2 b2) Q := by
    intro u
    induction u with
    | zero =>
      intro t fb lot r1 a2 b2 v8 ht t1 hfb hlot f2 C2 X2 B2
      refine w121t hz C2.1.1 hso htn hfb hlot ⟨t1, by omega⟩ (fun _ => hQ a2 b2 fb f2 C2 hfb ?_) (fun e => absurd (by omega) e) (fun e => absurd (by omega) e) (fun e => absurd (by omega) e)
      rw [X2.1.2.2.2.2.2.2]
      obtain ⟨y1, y2, y3, y4, y5, y6⟩ := B2
      omega
    | succ u ih =>
      intro t fb lot r1 a2 b2 v8 ht t1 hfb hlot f2 C2 X2 B2
      have ht2 : 1 ≤ t ∧ t ≤ 21 := ⟨t1, by omega⟩
      have hl2 : 0 ≤ (25173 * lot + 13849) % 65536 ∧ (25173 * lot + 13849) % 65536 ≤ 65535 := by omega
      have hB0 := B2
      obtain ⟨y1, y2, y3, y4, y5, y6⟩ := B2
      have goes : ∀ k, (-1 ≤ k ∧ k < 61) → uCa dr wp n 0 (uSl (b2 w 4)) k → pmWp (pmRo Ln xs) 11 4 121 1 70 [some (.ref 43), some (.ref w), some (xV so), some (xV sd), some (xV tn), some (xV fb), some (xV ((25173 * lot + 13849) % 65536)), some (xV t), v8] [xV (uD k)] (xS a2 b2) Q := by
        intro k hk hc
        have hcp : k = -1 ∨ ((0 ≤ k ∧ k < 61) ∧ (¬ r1 0 = 7 → uCp n 0 k r1)) := by
          by_cases c : k = -1
          · exact Or.inl c
          · exact Or.inr ⟨⟨by omega, hk.2⟩, fun _ => uCa_p X2.1.1 ⟨by omega, hk.2⟩ ((uCa_q X2.1.2.1.1 (by decide) hk).mp hc)⟩
        refine w121d hz C2.1.1 hso htn hfb hl2 ht2 ?_
        refine u89 (cd := k) (id := 0) (wt := -1) hwo hK hn0 C2 X2.1 (by rw [X2.2.1]; omega) (by omega) hcp (by decide) (fun p p1 p3 => ⟨fun h => by omega, fun h => by omega⟩) (by decide) (fun a3 b3 f3 C3 W3 i6 i12 _ i119 _ => ?_)
        have X3 := uCx_t hn0 X2 hcp hwo f3 W3 i6 i12
        have B3 := uBqm_u (wt := -1) hn0 X2.1.1 hB0 hcp i119
        rw [show t - 1 + 1 = t + 1 - 1 by omega] at B3
        have f4 := uTg_t f2 (uTg_f f3)
        exact w121e hz C3.1.1 hso htn hfb hl2 ⟨t1, by omega⟩ (fun _ => ih (t + 1) fb _ _ a3 b3 _ (by omega) (by omega) hfb hl2 f4 C3 X3 B3) (fun _ _ => ih (t + 1) fb _ _ a3 b3 _ (by omega) (by omega) hfb hl2 f4 C3 X3 B3) (fun _ _ => ih (t + 1) t _ _ a3 b3 _ (by omega) (by omega) ⟨by omega, by omega⟩ hl2 f4 C3 X3 B3)
      exact w121t hz C2.1.1 hso htn hfb hlot ht2 (fun e => absurd e (by omega)) (fun _ _ _ => u122 C2.1.1 C2.1.2.1 (by decide) hl2 (by decide) goes) (fun _ _ _ => u122 C2.1.1 C2.1.2.1 (by decide) hl2 (by decide) goes) (fun _ _ => goes (-1) (by decide) (Or.inl rfl))
  exact pmCs_deep (d := 12) (xg121 (w121 hz hC.1.1 (fun _ => loop tn.toNat 1 (-1) sd r a b _ (by omega) (by decide) (by decide) hsd uTg_r hC hX (by rw [show (1 : Int) - 1 = 0 from rfl]; exact hB)) (fun _ => loop tn.toNat 1 0 sd r a b _ (by omega) (by decide) (by decide) hsd uTg_r hC hX (by rw [show (1 : Int) - 1 = 0 from rfl]; exact hB)))) hd
theorem u123 (hd : 2 ≤ d) (hQ : ∀ z, (0 ≤ z ∧ z ≤ 4) → Q (some (xV z)) (xS a b)) : pmCs ro d 123 [.long l] (xS a b) Q := by
  refine pmCs_deep (d := 2) (xg123 (w123 ?_)) hd
  have loop : ∀ (u : Nat) (q dn : Int), q + (u : Int) = 4 → 0 ≤ q → (0 ≤ dn ∧ dn ≤ q) → pmWp ro 1 11 123 1 4 [some (.long l), none, some (xV dn), some (xV q)] [] (xS a b) Q := by
    intro u
    induction u with
    | zero =>
      intro q dn hq q0 hdn
      exact w123q hdn ⟨q0, by omega⟩ (by decide) (fun _ => hQ dn (by omega)) (fun e => absurd (by omega) e) (fun e => absurd (by omega) e)
    | succ u ih =>
      intro q dn hq q0 hdn
      exact w123q hdn ⟨q0, by omega⟩ (by decide) (fun e => absurd e (by omega)) (fun _ _ => ih (q + 1) (dn + 0) (by omega) (by omega) (by omega)) (fun _ _ => ih (q + 1) (dn + 1) (by omega) (by omega) (by omega))
  exact loop 4 0 0 (by decide) (by decide) (by decide)
theorem uWo26 : uWo 26 := ⟨⟨xz26, xz27, xz28, xz29, xz30⟩, by decide, by decide⟩
/-- made -/
theorem u120n (q1 : xR so) (q2 : xR sd) (q3 : xR tn) (q4 : xR wh) (hb : a 0 12 = 0) (hd : 1 ≤ d) (hN : Q (some (xV (-1))) (xS a b)) : pmCs ro d 120 [.ref 0, xV so, xV sd, xV tn, xV wh] (xS a b) Q := by
  have at38 : ∀ g : Int, (g = 0 ∨ g = 1) → pmWp ro 0 11 120 1 38 [some (.ref 0), some (xV so), some (xV sd), some (xV tn), some (xV wh), some (xV g), none] [] (xS a b) Q := fun g hg => wa120a q1 q2 q3 q4 hb (by decide) hg (fun _ => hN) (fun e => absurd rfl e) (fun e => absurd rfl e) (fun e => absurd rfl e) (fun e => absurd rfl e)
  refine pmCs_deep (d := 1) (xg120 (wa120 q1 q2 q3 q4 hb (by decide) ?_ ?_ ?_ ?_ ?_ ?_ ?_)) hd <;> intros <;> exact at38 _ (by decide)
theorem u120 (q1 : xR so) (q2 : xR sd) (q3 : xR tn) (q4 : xR wh) (hK : uRk pr cnt W T) (hn0 : 0 ≤ n ∧ n ≤ 5) (hC : uCb dr wp co pr cnt W T n a0 a b) (hX : uCx n 21 r a b) (hB : uBqm 0 r) (hb : a 0 12 = 1) (hd : 13 ≤ d) (hQ : ∀ a' b' z, uTgw 26 a a' b b' → uCb dr wp co pr cnt W T n a0 a' b' → (-400 ≤ z ∧ z ≤ 400) → Q (some (xV z)) (xS a' b')) : pmCs (pmRo Ln xs) d 120 [.ref 0, xV so, xV sd, xV tn, xV wh] (xS a b) Q := by
  have no := hQ a b (-1) uTg_r hC (by decide)
  have n0 : pmWp (pmRo Ln xs) 12 11 120 1 38 [some (.ref 0), some (xV so), some (xV sd), some (xV tn), some (xV wh), some (xV 0), none] [] (xS a b) Q := wa120a q1 q2 q3 q4 hb (by decide) (by decide) (fun e => absurd e (by decide)) (fun _ _ => no) (fun _ e => absurd rfl e) (fun _ e => absurd rfl e) (fun _ e => absurd rfl e)
  refine pmCs_deep (d := 13) (xg120 (wa120 q1 q2 q3 q4 hb (by decide) (fun _ => n0) (fun _ _ => n0) (fun _ _ _ => n0) (fun _ _ _ _ => n0) (fun _ _ _ _ _ => n0) (fun _ _ _ _ _ _ => n0) (fun h1 h2 h3 h4 h5 h6 => ?_))) hd
  refine wa120a q1 q2 q3 q4 hb (by decide) (by decide) (fun e => absurd e (by decide)) (fun _ e => absurd e (by decide)) (fun _ _ _ => no) (fun _ _ h7 h8 => ?_) (fun _ _ _ _ => no)
  obtain ⟨y1, y2, y3, y4, y5, y6⟩ := hB
  refine u66 uWo26 uWo21 (by decide) hC.1.1 (by rw [hX.2.2.1]; exact y2) (by decide) (fun a3 b3 c3 A3 => wa120b ⟨by omega, h8⟩ ?_)
  have f3 := uTg_c c3
  have C3 : uCb dr wp co pr cnt W T n a0 a3 b3 := uCb_e hC (fun q j h1 h2 => c3.2.2.2.2.2.1 q j (by omega)) (fun q j e => c3.2.2.2.2.2.2 q j (by omega)) A3
  have X3 := uCx_cp (w := 26) hX c3
  refine u121 hK hn0 uWo26 C3 X3 ⟨y1, y2, y3, y4, y5, y6⟩ ⟨by omega, by omega⟩ ⟨by omega, by omega⟩ ⟨by omega, by omega⟩ (by decide) (fun a4 b4 z f4 C4 hzz hev => ?_)
  have f5 := uTg_t f3 f4
  refine wa120c ⟨by omega, h8⟩ (fun _ => hQ a4 b4 z f5 C4 (by omega)) (fun _ _ => u123 (by decide) (fun v hv => wa120d ⟨by omega, h8⟩ (hQ a4 b4 v f5 C4 (by omega)))) (fun _ _ => hQ a4 b4 _ f5 C4 ?_)
  have e11 : a4 21 11 = a 21 11 := f5.1 21 11 (by omega) (by omega) (by omega)
  rw [e11, hX.1.2.2.2.2.2.2]
  omega
end
end
end
