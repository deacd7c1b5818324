/-! kept, loses, answer of the class, as frames -/
section
set_option maxRecDepth 100000


section
variable {Ln : Nat} {xs : Nat → Int32} {ro : Nat → Nat × (Nat → Int32)} {d w : Nat} {Q : Option Value → pmS → Prop} {dr wp co pr cnt W : Int → Int} {T : Int → List Int} {n m t wh : Int} {r r' : Int → Int} {a a' a'' a0 : xA} {b b' b'' : xB}
/-- what a question to the teller leaves -/
def uKe (dr wp co pr cnt W : Int → Int) (T : Int → List Int) (n : Int) (a0 a a' : xA) (b b' : xB) : Prop := uTe (fun q => (47 ≤ q ∧ q ≤ 77) ∨ q = 25) a a' b b' ∧ uCb dr wp co pr cnt W T n a0 a' b' ∧ uHm a' ∧ uFo3 21 a'
theorem uKe_r (hC : uCb dr wp co pr cnt W T n a0 a b) (hH : uHm a) (hF : uFo3 21 a) : uKe dr wp co pr cnt W T n a0 a a b b := ⟨uTe_r, hC, hH, hF⟩
theorem uKe_t (h : uKe dr wp co pr cnt W T n a0 a a' b b') (h' : uKe dr wp co pr cnt W T n a0 a' a'' b' b'') : uKe dr wp co pr cnt W T n a0 a a'' b b'' := ⟨uTe_t h.1 h'.1, h'.2⟩
theorem uKe_x (h : uKe dr wp co pr cnt W T n a0 a a' b b') (hX : uCx n 21 r a b) : uCx n 21 r a' b' := uCx_e uWo21 (by decide) hX h.1 (fun q h1 h2 => by omega)
theorem u111_now (hK : uRk pr cnt W T) (hn0 : 0 ≤ n ∧ n ≤ 5) (hC : uCb dr wp co pr cnt W T n a0 a b) (hH : uHm a) (hX : uCx n 21 r a b) (hB : uBqm 0 r) (hF : uFo3 21 a) (ht : t = 0 ∨ t = 1 ∨ t = 2) (hd : 14 ≤ d) (hQ : ∀ a' b' z, uKe dr wp co pr cnt W T n a0 a a' b b' → (-2 ≤ z ∧ z ≤ 300) → Q (some (xV z)) (xS a' b')) : pmCs (pmRo Ln xs) d 111 [.ref 45, .ref 21, xV t] (xS a b) Q := by
  rcases ht with h | h | h <;> subst h
  · exact u111_0 uWo21 hC.1.1 (by omega) (fun z hz => hQ a b z (uKe_r hC hH hF) (by omega))
  · exact u111_1 (m := 0) hK hn0 uWo21 (by decide) hC hH hX hB (by decide) hF (by omega) (fun a' b' z f C H F hz => hQ a' b' z ⟨uTe_m f (fun q h => by omega), C, H, F⟩ hz)
  · exact u111_2 (m := 0) hK hn0 uWo21 (by decide) hC hH hX hB (by decide) hF hd (fun a' b' z f C H F hz => hQ a' b' z ⟨uTe_m f (fun q h => by omega), C, H, F⟩ hz)
theorem u110n (q1 : xR t) (hb : a 0 12 = 0) (hd : 1 ≤ d) (hN : Q (some (xV (-1))) (xS a b)) : pmCs ro d 110 [.ref 0, xV t] (xS a b) Q :=
  pmCs_deep (d := 1) (xg110 (wa110 q1 hb (by decide) (fun _ => hN) (fun e => absurd rfl e) (fun e => absurd rfl e) (fun e => absurd rfl e))) hd
theorem u114n (hb : a 0 12 = 0) (hd : 1 ≤ d) (hN : Q (some (xV (-1))) (xS a b)) : pmCs ro d 114 [.ref 0] (xS a b) Q :=
  pmCs_deep (d := 1) (xg114 (wa114 hb (by decide) (fun e => absurd rfl e) (fun _ => hN))) hd
theorem u115n (q1 : xR t) (q2 : xR wh) (hb : a 0 12 = 0) (hd : 1 ≤ d) (hN : Q (some (xV (-1))) (xS a b)) : pmCs ro d 115 [.ref 0, xV t, xV wh] (xS a b) Q :=
  pmCs_deep (d := 1) (xg115 (wa115 q1 q2 hb (by decide) (fun _ => hN) (fun e => absurd rfl e) (fun e => absurd rfl e) (fun e => absurd rfl e) (fun e => absurd rfl e) (fun e => absurd rfl e))) hd
theorem u110 (q1 : xR t) (hK : uRk pr cnt W T) (hn0 : 0 ≤ n ∧ n ≤ 5) (hC : uCb dr wp co pr cnt W T n a0 a b) (hH : uHm a) (hX : uCx n 21 r a b) (hB : uBqm 0 r) (hF : uFo3 21 a) (hb : a 0 12 = 1) (hd : 15 ≤ d) (hQ : ∀ a' b' z, uKe dr wp co pr cnt W T n a0 a a' b b' → (-1 ≤ z ∧ z ≤ 1) → Q (some (xV z)) (xS a' b')) : pmCs (pmRo Ln xs) d 110 [.ref 0, xV t] (xS a b) Q := by
  have no := hQ a b (-1) (uKe_r hC hH hF) (by decide)
  refine pmCs_deep (d := 15) (xg110 (wa110 q1 hb (by decide) ?_ ?_ ?_ ?_)) hd <;> intros
  all_goals first
    | exact no
    | (refine u111_now hK hn0 hC hH hX hB hF (by omega) (by decide) (fun a' b' z f hz => ?_)
       refine wa110a ⟨by omega, by omega⟩ ?_ ?_ <;> intros
       all_goals exact hQ a' b' _ f (by decide))
theorem u114 (hK : uRk pr cnt W T) (hn0 : 0 ≤ n ∧ n ≤ 5) (hC : uCb dr wp co pr cnt W T n a0 a b) (hH : uHm a) (hX : uCx n 21 r a b) (hB : uBqm 0 r) (hF : uFo3 21 a) (hb : a 0 12 = 1) (hd : 15 ≤ d) (hQ : ∀ a' b' z, uKe dr wp co pr cnt W T n a0 a a' b b' → (-1 ≤ z ∧ z ≤ 3) → Q (some (xV z)) (xS a' b')) : pmCs (pmRo Ln xs) d 114 [.ref 0] (xS a b) Q := by
  refine pmCs_deep (d := 15) (xg114 (wa114 hb (by decide) (fun _ => ?_) (fun e => absurd e (by decide)))) hd
  refine u111_now hK hn0 hC hH hX hB hF (t := 0) (by decide) (by decide) (fun a1 b1 z1 f1 hz1 => wa114_0 ⟨by omega, by omega⟩ (fun _ => ?_) (fun _ => hQ a1 b1 0 f1 (by decide)))
  refine u111_now hK hn0 f1.2.1 f1.2.2.1 (uKe_x f1 hX) hB f1.2.2.2 (t := 1) (by decide) (by decide) (fun a2 b2 z2 f2 hz2 => wa114_1 ⟨by omega, by omega⟩ (fun _ => ?_) (fun _ => hQ a2 b2 1 (uKe_t f1 f2) (by decide)))
  have f3 := uKe_t f1 f2
  refine u111_now hK hn0 f3.2.1 f3.2.2.1 (uKe_x f3 hX) hB f3.2.2.2 (t := 2) (by decide) (by decide) (fun a3 b3 z3 f4 hz3 => wa114_2 ⟨by omega, by omega⟩ (fun _ => hQ a3 b3 3 (uKe_t f3 f4) (by decide)) (fun _ => hQ a3 b3 2 (uKe_t f3 f4) (by decide)))
theorem u115 (q1 : xR t) (q2 : xR wh) (hK : uRk pr cnt W T) (hn0 : 0 ≤ n ∧ n ≤ 5) (hC : uCb dr wp co pr cnt W T n a0 a b) (hH : uHm a) (hX : uCx n 21 r a b) (hB : uBqm 0 r) (hF : uFo3 21 a) (hb : a 0 12 = 1) (hd : 15 ≤ d) (hQ : ∀ a' b' z, uKe dr wp co pr cnt W T n a0 a a' b b' → (-2 ≤ z ∧ z ≤ 4000) → Q (some (xV z)) (xS a' b')) : pmCs (pmRo Ln xs) d 115 [.ref 0, xV t, xV wh] (xS a b) Q := by
  have no := hQ a b (-1) (uKe_r hC hH hF) (by decide)
  refine pmCs_deep (d := 15) (xg115 (wa115 q1 q2 hb (by decide) (fun _ => no) (fun _ _ => no) (fun _ _ _ => no) (fun _ _ _ _ => no) (fun _ h1 h2 h3 h4 => ?_) (fun _ _ _ _ _ => no))) hd
  refine u111_now hK hn0 hC hH hX hB hF (by omega) (by decide) (fun a' b' z f hz => ?_)
  have X1 := uKe_x f hX
  have hBd := uBqm_b (m := 0) (by decide) hB
  obtain ⟨y1, y2, y3, y4, y5, y6⟩ := hBd
  obtain ⟨_, e6, e12, e8, e9, e10⟩ := X1
  refine wa115a ⟨by omega, h4⟩ ⟨by omega, by omega⟩ (fun _ _ => hQ a' b' _ f (by omega)) (fun _ _ _ _ => hQ a' b' _ f (by omega)) (fun _ _ _ _ => hQ a' b' _ f (by omega)) (fun _ _ _ _ _ => hQ a' b' _ f (by omega)) (fun _ _ _ _ _ => hQ a' b' _ f (by omega)) (fun h0 _ _ _ => ?_) (fun _ => hQ a' b' _ f (by omega))
  refine rk103 (by decide) uWo21.1 ⟨h0, by omega⟩ f.2.1.1.1 (by omega) (by omega) (by omega) (by omega) (by omega) (wa115b ?_)
  have := uPc_b (c := z) (s := a' 21 8) (h := a' 21 9) (by omega) (by omega)
  exact hQ a' b' _ f (by omega)
end
end
