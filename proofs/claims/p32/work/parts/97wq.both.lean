/-! both sides once begun: count, holds, plan, wanted; kept, loses, answer, made -/
section
set_option maxRecDepth 100000


section
variable {Ln : Nat} {xs : Nat → Int32} {d : Nat} {dr wp co pr cnt W : Int → Int} {T : Int → List Int} {n x p k g i t wh so sd tn : Int} {R : Int → Int} {a a' a0 : xA} {b b' : xB}
/-- what a question leaves of the class -/
theorem uBg_x (h : uBg dr wp co pr cnt W T n a0 R a b) (hC : uCb dr wp co pr cnt W T n a0 a' b') (x : uPx a a' b b') : uBg dr wp co pr cnt W T n a0 R a' b' :=
  uBg_c h hC (uHm_o h.2.1.2.1 (fun j => x.1 78 j (by decide) (by decide) (by decide) (by decide) (by decide) (by decide) (by decide))) (fun j j0 j1 => by rw [x.1 (21 + 4) j (by decide) (by decide) (by decide) (by decide) (by decide) (by decide) (by decide)]; exact h.2.1.2.2.1 j j0 j1) (fun q j hq => x.1 q j (by omega) (by omega) (by omega) (by omega) (by omega) (by omega) (by omega)) (fun q j hq => x.2 q j (by omega) (by omega) (by omega))
/-- what a question leaves of the reference -/
theorem uBg_q (h : uBg dr wp co pr cnt W T n a0 R a b) (f : uWq dr wp pr cnt W T n a a' b b') : uBg dr wp co pr cnt W T n a0 R a' b' := by
  obtain ⟨_, _, ⟨s1, _, _, _, _, _⟩, _⟩ := id h
  obtain ⟨f1, f2, f3⟩ := id f
  exact uBg_r h ⟨uPq_m (uPm_w f1), ⟨f2, f3, uLw_o s1.2.2.1 (fun q j hq => f1.1 q j (by omega) (by omega) (by omega) (by omega) (by omega) (by omega) (by omega) (by omega)), fun i i0 i1 => by rw [f1.1 100 i (by decide) (by decide) (by decide) (by decide) (by decide) (by decide) (by decide) (by omega)]; exact s1.2.2.2 i i0 i1⟩, uWq_8 f, fun j _ => f1.1 89 j (by decide) (by decide) (by decide) (by decide) (by decide) (by decide) (by decide) (by omega)⟩
/-- count -/
theorem uB134 (h : uBg dr wp co pr cnt W T n a0 R a b) (q1 : xR k) (hl : a 1 1 = a 87 9) (hlw : a 13 7 = a 87 3) (hsz : ∀ i, 0 ≤ i → i < a 13 7 → a 20 i = a 100 i) (hd : 6 ≤ d) : uBo Ln xs (uBg dr wp co pr cnt W T n a0 R) d 134 245 [xV k] a b := by
  intro Q hQ
  have h0 := h
  obtain ⟨⟨hn0, hK, hvR, hBR⟩, ⟨c1, c2, c3, c4, c5, c6⟩, ⟨s1, s2, s3, s4, s5, s6⟩, ch⟩ := h
  have hn : a 3 5 = n := c1.1.2.1.2.2.1
  have hn2 : a 87 2 = n := s1.1.2.1.2.1
  have hT := c4.1.2.1
  have hM := c4.1.2.2.1
  have hlw0 : 0 ≤ a 13 7 ∧ a 13 7 ≤ 6 := c1.2.2.2.2.1
  refine u134 (cnt := cnt) (sz := a 20) s1.1.1 q1 hn hn0 rfl hlw0 s2 hT c6 (Or.inr rfl) rfl (fun f f0 f1 => (c1.1.2.2.2.2.2.2.1 f f0 f1).1) (fun _ _ _ => rfl) c4.2.1 c4.2.2.2.1 c4.2.2.2.2.1 c4.2.2.2.2.2 c4.1.2.2.2.2.2.2 hd (hQ _ _ _ (fun Q2 h2 => ?_))
  exact u245 (cnt := cnt) (sz := a 20) q1 s1.1.1 hn2 hn0 hlw.symm hlw0 s6 (Or.inr rfl) hl.symm (fun f f0 f1 => s1.1.2.2.2.2.1 f f0 f1) (fun i i0 i1 => (hsz i i0 i1).symm) (by omega) (h2 a b h0)
/-- holds -/
theorem uB70 (h : uBg dr wp co pr cnt W T n a0 R a b) (q1 : xR p) (q2 : xR k) (hd : 7 ≤ d) : uBo Ln xs (uBg dr wp co pr cnt W T n a0 R) d 70 183 [xV p, xV k] a b := by
  intro Q hQ
  have h0 := h
  obtain ⟨⟨hn0, hK, hvR, hBR⟩, ⟨c1, c2, c3, c4, c5, c6⟩, ⟨s1, s2, s3, s4, s5, s6⟩, ch⟩ := h
  refine u70 q1 q2 hK hn0 c1 c4.1 c6 (by omega) (fun hk a' z x C' hz hi => hQ _ _ _ (fun Q2 h2 => ?_)) (fun hn => hQ _ _ _ (fun Q2 h2 => ?_))
  · have g := uBg_x h0 C' x
    have g0 := g
    obtain ⟨_, _, ⟨t1, t2, t3, t4, t5, t6⟩, _⟩ := g
    have e88 : a' 88 = a 88 := funext fun j => x.1 88 j (by decide) (by decide) (by decide) (by decide) (by decide) (by decide) (by decide)
    refine u183 q1 q2 hK t1.1 t2 t1.2.1 t6 (by omega) (fun _ a'' z' w hz' hi' => ?_) (fun hno => absurd (by rw [e88]; exact hk) hno)
    rw [e88] at hi'
    have ez : z' = z := by
      by_cases hh : uHold p (T (p * 3 + k)) (uMn n (a 88) p) = true
      · rw [hi.mpr hh, hi'.mpr hh]
      · have e1 : ¬ z = 1 := fun e => hh (hi.mp e)
        have e2 : ¬ z' = 1 := fun e => hh (hi'.mp e)
        omega
    rw [ez]
    exact h2 a'' b (uBg_q g0 w)
  · exact u183 q1 q2 hK s1.1 s2 s1.2.1 s6 (by omega) (fun hk => absurd hk hn) (fun _ => h2 a b h0)
/-- plan -/
theorem uB76 (h : uBg dr wp co pr cnt W T n a0 R a b) (q1 : xR p) (q2 : xR k) (q3 : xR wh) (hd : 9 ≤ d) : uBo Ln xs (uBg dr wp co pr cnt W T n a0 R) d 76 189 [xV p, xV k, xV wh] a b := by
  intro Q hQ
  have h0 := h
  obtain ⟨⟨hn0, hK, hvR, hBR⟩, ⟨c1, c2, c3, c4, c5, c6⟩, ⟨s1, s2, s3, s4, s5, s6⟩, ch⟩ := h
  refine u76 q1 q2 q3 hK hn0 c1 c4.1 c6 (by omega) (fun hk a' b' x C' => hQ _ _ _ (fun Q2 h2 => ?_)) (fun hn => hQ _ _ _ (fun Q2 h2 => ?_))
  · have g := uBg_x h0 C' x
    have g0 := g
    obtain ⟨_, _, ⟨t1, t2, t3, t4, t5, t6⟩, _⟩ := g
    have e88 : a' 88 = a 88 := funext fun j => x.1 88 j (by decide) (by decide) (by decide) (by decide) (by decide) (by decide) (by decide)
    refine u189 q1 q2 q3 hK t1.1 t2 t1.2.1 t6 (by omega) (fun _ a'' w => ?_) (fun hno => absurd (by rw [e88]; exact hk) hno)
    rw [e88]
    exact h2 a'' b' (uBg_q g0 w)
  · exact u189 q1 q2 q3 hK s1.1 s2 s1.2.1 s6 (by omega) (fun hk => absurd hk hn) (fun _ => h2 a b h0)
/-- wanted -/
theorem uB84 (h : uBg dr wp co pr cnt W T n a0 R a b) (q1 : xR p) (hd : 10 ≤ d) : uBo Ln xs (uBg dr wp co pr cnt W T n a0 R) d 84 197 [xV p] a b := by
  intro Q hQ
  have h0 := h
  obtain ⟨⟨hn0, hK, hvR, hBR⟩, ⟨c1, c2, c3, c4, c5, c6⟩, ⟨s1, s2, s3, s4, s5, s6⟩, ch⟩ := h
  refine u84 q1 hK hn0 c1 c4.1 c6 (by omega) (fun hk a' b' x C' => hQ _ _ _ (fun Q2 h2 => ?_)) (fun hn => hQ _ _ _ (fun Q2 h2 => ?_))
  · have g := uBg_x h0 C' x
    have g0 := g
    obtain ⟨_, _, ⟨t1, t2, t3, t4, t5, t6⟩, _⟩ := g
    have e88 : a' 88 = a 88 := funext fun j => x.1 88 j (by decide) (by decide) (by decide) (by decide) (by decide) (by decide) (by decide)
    refine u197 q1 hK t1.1 t2 t1.2.1 t6 (by omega) (fun _ a'' b'' w => ?_) (fun hno => absurd (by rw [e88]; exact hk) hno)
    rw [e88]
    exact h2 a'' b'' (uBg_q g0 w)
  · exact u197 q1 hK s1.1 s2 s1.2.1 s6 (by omega) (fun hk => absurd hk hn) (fun _ => h2 a b h0)
/-- both answer, and I holds -/
def uBf (Ln : Nat) (xs : Nat → Int32) (I : xA → xB → Prop) (d mC mR : Nat) (as : List Value) (a : xA) (b : xB) : Prop := ∀ Q : Option Value → pmS → Prop, (∀ z a' b', (∀ Q2 : Option Value → pmS → Prop, (∀ z' a'' b'', I a'' b'' → Q2 (some (xV z')) (xS a'' b'')) → pmCs (pmRo Ln xs) d mR (.ref 87 :: as) (xS a' b') Q2) → Q (some (xV z)) (xS a' b')) → pmCs (pmRo Ln xs) d mC (.ref 0 :: as) (xS a b) Q
/-- kept -/
theorem uB110 (h : uBg dr wp co pr cnt W T n a0 R a b) (q1 : xR t) (hd : 15 ≤ d) : uBf Ln xs (uBg dr wp co pr cnt W T n a0 R) d 110 223 [xV t] a b := by
  intro Q hQ
  have h0 := h
  obtain ⟨⟨hn0, hK, hvR, hBR⟩, ⟨c1, c2, c3, c4, c5, c6⟩, ⟨s1, s2, s3, s4, s5, s6⟩, ch⟩ := h
  have hB := (uBqs_r s3 s2).2
  refine u110 q1 hK hn0 c1 c2 c4 hB c3 c6 hd (fun a' b' z f _ => hQ _ _ _ (fun Q2 h2 => ?_))
  have g := uBg_k h0 f
  have g0 := g
  obtain ⟨_, _, ⟨t1, t2, t3, t4, t5, t6⟩, _⟩ := g
  exact u223 q1 hK t1 (uBqs_r t3 t2) t6 (Or.inr rfl) (by omega) (fun a'' b'' z' k _ => h2 z' a'' b'' (uBg_r g0 k))
/-- loses -/
theorem uB114 (h : uBg dr wp co pr cnt W T n a0 R a b) (hd : 15 ≤ d) : uBf Ln xs (uBg dr wp co pr cnt W T n a0 R) d 114 230 [] a b := by
  intro Q hQ
  have h0 := h
  obtain ⟨⟨hn0, hK, hvR, hBR⟩, ⟨c1, c2, c3, c4, c5, c6⟩, ⟨s1, s2, s3, s4, s5, s6⟩, ch⟩ := h
  have hB := (uBqs_r s3 s2).2
  refine u114 hK hn0 c1 c2 c4 hB c3 c6 hd (fun a' b' z f _ => hQ _ _ _ (fun Q2 h2 => ?_))
  have g := uBg_k h0 f
  have g0 := g
  obtain ⟨_, _, ⟨t1, t2, t3, t4, t5, t6⟩, _⟩ := g
  exact u230 hK t1 (uBqs_r t3 t2) t6 (Or.inr rfl) (by omega) (fun a'' b'' z' k _ => h2 z' a'' b'' (uBg_r g0 k))
/-- answer -/
theorem uB115 (h : uBg dr wp co pr cnt W T n a0 R a b) (q1 : xR t) (q2 : xR wh) (hd : 15 ≤ d) : uBf Ln xs (uBg dr wp co pr cnt W T n a0 R) d 115 231 [xV t, xV wh] a b := by
  intro Q hQ
  have h0 := h
  obtain ⟨⟨hn0, hK, hvR, hBR⟩, ⟨c1, c2, c3, c4, c5, c6⟩, ⟨s1, s2, s3, s4, s5, s6⟩, ch⟩ := h
  have hB := (uBqs_r s3 s2).2
  refine u115 q1 q2 hK hn0 c1 c2 c4 hB c3 c6 hd (fun a' b' z f _ => hQ _ _ _ (fun Q2 h2 => ?_))
  have g := uBg_k h0 f
  have g0 := g
  obtain ⟨_, _, ⟨t1, t2, t3, t4, t5, t6⟩, _⟩ := g
  exact u231 q1 q2 hK t1 (uBqs_r t3 t2) t6 (Or.inr rfl) (by omega) (fun a'' b'' z' k _ => h2 z' a'' b'' (uBg_r g0 k))
/-- made -/
theorem uB120 (h : uBg dr wp co pr cnt W T n a0 R a b) (q1 : xR so) (q2 : xR sd) (q3 : xR tn) (q4 : xR wh) (hd : 13 ≤ d) : uBf Ln xs (uBg dr wp co pr cnt W T n a0 R) d 120 237 [xV so, xV sd, xV tn, xV wh] a b := by
  intro Q hQ
  have h0 := h
  obtain ⟨⟨hn0, hK, hvR, hBR⟩, ⟨c1, c2, c3, c4, c5, c6⟩, ⟨s1, s2, s3, s4, s5, s6⟩, ch⟩ := h
  have hB := (uBqs_r s3 s2).2
  refine u120 q1 q2 q3 q4 hK hn0 c1 c4 hB c6 hd (fun a' b' z f C' _ => hQ _ _ _ (fun Q2 h2 => ?_))
  have g := uBg_g h0 C' f
  have g0 := g
  obtain ⟨_, _, ⟨t1, t2, t3, t4, t5, t6⟩, _⟩ := g
  exact u237 q1 q2 q3 q4 hK t1 (uBqs_r t3 t2) t6 (Or.inr rfl) (by omega) (fun a'' b'' z' k _ => h2 z' a'' b'' (uBg_r g0 k))
end
end
