/-! both sides once begun -/
section
set_option maxRecDepth 100000


section
variable {Ln : Nat} {xs : Nat → Int32} {d : Nat} {dr wp co pr cnt W : Int → Int} {T : Int → List Int} {n n' m t k x c cd wt p L l : Int} {r r' R tp : Int → Int} {a a' a0 a1 a2 : xA} {b b' b1 b2 : xB}
/-- the class answers, then the reference answers the same, and I holds -/
def uBo (Ln : Nat) (xs : Nat → Int32) (I : xA → xB → Prop) (d mC mR : Nat) (as : List Value) (a : xA) (b : xB) : Prop := ∀ Q : Option Value → pmS → Prop, (∀ z a' b', (∀ Q2 : Option Value → pmS → Prop, (∀ a'' b'', I a'' b'' → Q2 (some (xV z)) (xS a'' b'')) → pmCs (pmRo Ln xs) d mR (.ref 87 :: as) (xS a' b') Q2) → Q (some (xV z)) (xS a' b')) → pmCs (pmRo Ln xs) d mC (.ref 0 :: as) (xS a b) Q
theorem uBg_n (f : uTgw 26 a a' b b') : a' 124 = a 124 ∧ a' 120 = a 120 ∧ a' 123 = a 123 ∧ a' 88 = a 88 := ⟨funext fun j => f.1 _ j (by decide) (by decide) (by decide), funext fun j => f.1 _ j (by decide) (by decide) (by decide), funext fun j => f.1 _ j (by decide) (by decide) (by decide), funext fun j => f.1 _ j (by decide) (by decide) (by decide)⟩
theorem uBg_o (h : uBg dr wp co pr cnt W T n a0 R a b) (A : xAr a') (e : ∀ q j, ¬ q = 125 → ¬ q = 1 → ¬ (q = 87 ∧ j = 9) → a' q j = a q j) : uBg dr wp co pr cnt W T n a0 R a' b := by
  obtain ⟨g1, ⟨c1, c2, c3, c4, c5, c6⟩, ⟨s1, s2, s3, s4, s5, s6⟩, ch⟩ := h
  have e2 : ∀ q j, ¬ q = 125 → ¬ q = 1 → ¬ q = 87 → a' q j = a q j := fun q j h1 h2 h3 => e q j h1 h2 (by omega)
  have e88 : a' 88 = a 88 := funext fun j => e2 88 j (by decide) (by decide) (by decide)
  obtain ⟨t1, t2, t3, t4⟩ := s1
  unfold uBg
  rw [e88]
  refine ⟨g1, ⟨uCb_e c1 (fun q j h1 h2 => e2 q j (by omega) (by omega) (by omega)) (fun _ _ _ => rfl) A, uHm_o c2 (fun j => e2 78 j (by decide) (by decide) (by decide)), (fun j j0 j1 => by rw [e2 (21 + 4) j (by decide) (by decide) (by decide)]; exact c3 j j0 j1), uCx_o uWo21 c4 (fun q j q1 q2 => e2 q j (by omega) (by omega) (by omega)) (fun _ _ _ _ => rfl), uCx_o uWo80 c5 (fun q j q1 q2 => e2 q j (by omega) (by omega) (by omega)) (fun _ _ _ _ => rfl), ?_⟩, ⟨⟨uRb_o t1 A (fun q j g => e q j (by omega) (by omega) (by omega)) (fun j j0 j1 => by rw [e2 109 j (by decide) (by decide) (by decide)]; exact t1.2.2.2.2.2.2 j j0 j1), uMV_f t2 (e 87 41 (by decide) (by decide) (by decide)) (fun j => e2 115 j (by decide) (by decide) (by decide)) (fun _ => rfl), uLw_o t3 (fun q j g => e q j (by omega) (by omega) (by omega)), fun i i0 i1 => by rw [e2 100 i (by decide) (by decide) (by decide)]; exact t4 i i0 i1⟩, s2, s3, uShl_o (x := 1) (by decide) s4 (fun j _ => e2 89 j (by decide) (by decide) (by decide)), s5, ?_⟩, uChr_o ch (e2 79 6 (by decide) (by decide) (by decide)) (fun q j hq => e2 q j (by omega) (by omega) (by omega)) (fun _ _ _ g => g)⟩
  · rw [e2 0 12 (by decide) (by decide) (by decide)]
    exact c6
  · rw [e 87 4 (by decide) (by decide) (by decide)]
    exact s6
/-- otherwise -/
theorem uB116 (h : uBg dr wp co pr cnt W T n a0 R a b) (q1 : xR t) (hd : 13 ≤ d) : uBo Ln xs (uBg dr wp co pr cnt W T n a0 R) d 116 232 [xV t] a b := by
  intro Q hQ
  have h0 := h
  obtain ⟨⟨hn0, hK, hvR, hBR⟩, ⟨c1, c2, c3, c4, c5, c6⟩, ⟨s1, s2, s3, s4, s5, s6⟩, ch⟩ := h
  obtain ⟨L, hL⟩ : ∃ L, a 88 114 = L := ⟨_, rfl⟩
  rw [hL] at s3 ch
  refine u116 q1 hK hn0 c1 c5 hBR (uChr_r ch) s3.1 (c4.2.1.trans hL) hd (fun hn => hQ _ _ _ (fun Q2 h2 => ?_)) (fun ht a' b' f C' => hQ _ _ _ (fun Q2 h2 => ?_))
  · exact u232 q1 hK hn0 s1 s4 s5 hvR hBR s6 (Or.inr rfl) hL s3.1 uChr_f (uChr_g ch) (by omega) (fun _ => h2 a b h0) (fun _ g => absurd g hn)
  · have g := uBg_g h0 C' f
    obtain ⟨e1, e2, e3, e4⟩ := uBg_n f
    have g0 := g
    obtain ⟨_, _, ⟨t1, t2, t3, t4, t5, t6⟩, ch'⟩ := g
    rw [e4, hL] at ch'
    rw [← e1, ← e2, ← e3] at h2
    exact u232 q1 hK hn0 t1 t4 t5 hvR hBR t6 (Or.inr rfl) (by rw [e4]; exact hL) s3.1 uChr_f (uChr_g ch') (by omega) (fun g => absurd ht (g.elim (fun e => absurd e (by decide)) id)) (fun _ _ a'' b'' k => h2 a'' b'' (uBg_r g0 k))
/-- needless -/
theorem uB119 (h : uBg dr wp co pr cnt W T n a0 R a b) (q1 : xR p) (hd : 13 ≤ d) : uBo Ln xs (uBg dr wp co pr cnt W T n a0 R) d 119 236 [xV p] a b := by
  intro Q hQ
  have h0 := h
  obtain ⟨⟨hn0, hK, hvR, hBR⟩, ⟨c1, c2, c3, c4, c5, c6⟩, ⟨s1, s2, s3, s4, s5, s6⟩, ch⟩ := h
  obtain ⟨L, hL⟩ : ∃ L, a 88 114 = L := ⟨_, rfl⟩
  rw [hL] at s3 ch
  refine u119 q1 hK hn0 c1 c5 hBR (uChr_r ch) s3.1 c6 (Or.inr rfl) hd (fun hn => hQ _ _ _ (fun Q2 h2 => ?_)) (fun _ hp a' b' f C' => hQ _ _ _ (fun Q2 h2 => ?_))
  · exact u236 (M := uMq p) q1 hK hn0 s1 s4 s5 hvR hBR s6 (Or.inr rfl) hL s3.1 uChr_f (uChr_g ch) uMq_q (by omega) (fun _ => h2 a b h0) (fun _ g => absurd g (hn.elim (fun e => absurd e (by decide)) id))
  · have g := uBg_g h0 C' f
    obtain ⟨e1, e2, e3, e4⟩ := uBg_n f
    have g0 := g
    obtain ⟨_, _, ⟨t1, t2, t3, t4, t5, t6⟩, ch'⟩ := g
    rw [e4, hL] at ch'
    rw [← e1, ← e2, ← e3] at h2
    exact u236 q1 hK hn0 t1 t4 t5 hvR hBR t6 (Or.inr rfl) (by rw [e4]; exact hL) s3.1 uChr_f (uChr_g ch') uMq_q (by omega) (fun g => absurd hp (g.elim (fun e => absurd e (by decide)) id)) (fun _ _ a'' b'' k => h2 a'' b'' (uBg_r g0 k))
/-- did -/
theorem uB127 (h : uBg dr wp co pr cnt W T n a0 R a b) (q1 : xR t) (q2 : xR p) (q3 : xR k) (hd : 4 ≤ d) : uBo Ln xs (uBg dr wp co pr cnt W T n a0 R) d 127 240 [xV t, xV p, xV k] a b := by
  intro Q hQ
  have h0 := h
  obtain ⟨⟨hn0, hK, hvR, hBR⟩, ⟨c1, c2, c3, c4, c5, c6⟩, ⟨s1, s2, s3, s4, s5, s6⟩, ch⟩ := h
  obtain ⟨L, hL⟩ : ∃ L, a 88 114 = L := ⟨_, rfl⟩
  rw [hL] at s3 ch
  exact u127 q1 q2 q3 (c4.2.1.trans hL) s3.1 (fun t1 t2 p0 p1 => ch.2.1 t p t1 t2 p0 p1) hd (hQ _ _ _ (fun Q2 h2 => u240 q1 q2 q3 s1.1.1 hL s3.1 (fun t1 t2 p0 p1 => ⟨⟨rfl, rfl, rfl, rfl⟩, (ch.2.1 t p t1 t2 p0 p1).2⟩) hd (h2 a b h0)))
/-- surprise -/
theorem uB124 (h : uBg dr wp co pr cnt W T n a0 R a b) (q1 : xR t) (hd : 5 ≤ d) : uBo Ln xs (uBg dr wp co pr cnt W T n a0 R) d 124 239 [xV t] a b := by
  intro Q hQ
  have h0 := h
  obtain ⟨⟨hn0, hK, hvR, hBR⟩, ⟨c1, c2, c3, c4, c5, c6⟩, ⟨s1, s2, s3, s4, s5, s6⟩, ch⟩ := h
  obtain ⟨L, hL⟩ : ∃ L, a 88 114 = L := ⟨_, rfl⟩
  have ch0 := ch
  rw [hL] at s3 ch
  exact u124 q1 s1.1.1 (uChr_r ch) s3.1 (c4.2.1.trans hL) ch.2.2.2.2.1 hd (hQ _ _ _ (fun Q2 h2 => u239 q1 s1.1.1 uChr_f (uChr_c ch) s3.1 hL (by omega) (fun a' f A' => h2 a' b (uBg_o h0 A' (fun q j g1 _ _ => f q j g1)))))
/-- check -/
theorem uB129 (h : uBg dr wp co pr cnt W T n a0 R a b) (hl : a 1 1 = l) (hl2 : a 87 9 = l) (hl0 : 0 ≤ l ∧ l ≤ 400) (ht1 : ∀ j, 0 ≤ j → j < l → a 2 j = tp j) (ht2 : ∀ j, 0 ≤ j → j < l → a 93 j % 256 = tp j) (q1 : xR t) (q2 : xR n') (hd : 4 ≤ d) : uBo Ln xs (fun a' b' => uBg dr wp co pr cnt W T n a0 R a' b' ∧ ((a' 1 1 = l ∧ a' 87 9 = l) ∨ (a' 1 1 = 0 ∧ a' 87 9 = 0)) ∧ a' 2 = a 2 ∧ a' 93 = a 93) d 129 241 [xV t, xV n'] a b := by
  intro Q hQ
  have h0 := h
  obtain ⟨⟨hn0, hK, hvR, hBR⟩, ⟨c1, c2, c3, c4, c5, c6⟩, ⟨s1, s2, s3, s4, s5, s6⟩, ch⟩ := h
  obtain ⟨L, hL⟩ : ∃ L, a 88 114 = L := ⟨_, rfl⟩
  rw [hL] at s3 ch
  refine u129 q1 q2 s1.1.1 (uChr_r ch) s3.1 (c4.2.1.trans hL) hl hl0 ht1 hd (fun hn => hQ _ _ _ (fun Q2 h2 => ?_)) (fun hy => hQ _ _ _ (fun Q2 h2 => ?_))
  · exact u241 q1 q2 s1.1.1 uChr_f (uChr_c ch) s3.1 hL hl2 hl0 ht2 (by omega) (fun _ => h2 a b ⟨h0, Or.inl ⟨hl, hl2⟩, rfl, rfl⟩) (fun g => absurd g hn)
  · have A1 : xAr (xU a 1 1 0) := xAr_u s1.1.1 ⟨by decide, by decide⟩
    have o : ∀ q j, ¬ q = 1 → (xU a 1 1 0) q j = a q j := fun q j g => xUn g
    have o120 : (xU a 1 1 0) 120 = a 120 := funext fun j => o 120 j (by decide)
    have o124 : (xU a 1 1 0) 124 = a 124 := funext fun j => o 124 j (by decide)
    have hF : uRef L (a 124) (a 120) (a 123) (xU a 1 1 0) := ⟨fun t p _ _ _ _ => ⟨o 124 _ (by decide), o 120 _ (by decide)⟩, fun t _ _ => o 123 _ (by decide)⟩
    refine u241 (L := L) (D := a 124) (C := a 120) (AC := a 123) q1 q2 A1 hF (uChr_c ch) s3.1 ((o 88 114 (by decide)).trans hL) ((o 87 9 (by decide)).trans hl2) hl0 (fun j j0 j1 => by rw [o 93 j (by decide)]; exact ht2 j j0 j1) (by omega) (fun g => absurd hy g) (fun _ => h2 _ _ ⟨uBg_o h0 (xAr_u A1 ⟨by decide, by decide⟩) (fun q j _ g2 g3 => ?_), Or.inr ⟨?_, xUy⟩, ?_, ?_⟩)
    · rw [xUo g3, o q j g2]
    · rw [xUn (by decide)]
      exact xUy
    · exact funext fun j => (xUn (by decide)).trans (o 2 j (by decide))
    · exact funext fun j => (xUn (by decide)).trans (o 93 j (by decide))
end
end
