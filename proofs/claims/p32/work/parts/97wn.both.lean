/-! both sides once begun: settle, shift -/
section
set_option maxRecDepth 100000


section
variable {Ln : Nat} {xs : Nat → Int32} {d : Nat} {dr wp co pr cnt W : Int → Int} {T : Int → List Int} {n x p rm : Int} {R : Int → Int} {a a' a0 : xA} {b b' : xB}
/-- settle -/
theorem uB100 (h : uBg dr wp co pr cnt W T n a0 R a b) (q1 : xR x) (q2 : xR rm) (hd : 6 ≤ d) : uBo Ln xs (uBg dr wp co pr cnt W T n a0 R) d 100 215 [xV x, xV rm] a b := by
  intro Q hQ
  have h0 := h
  obtain ⟨⟨hn0, hK, hvR, hBR⟩, ⟨c1, c2, c3, c4, c5, c6⟩, ⟨s1, s2, s3, s4, s5, s6⟩, ch⟩ := h
  have hbd := uBqs_d s3
  have hl : a 88 114 ≤ 60 := s3.1.2
  refine u100 q1 q2 s1.1.1 hn0 c1.1.2.1 c4 hbd hl hd (fun hx hm hac a' b' f => hQ _ _ _ (fun Q2 h2 => ?_)) (fun hno => hQ _ _ _ (fun Q2 h2 => ?_))
  · obtain ⟨S1, e88, e4⟩ := uBg_a0 h0 f
    rw [← e88] at s2 hbd hl
    refine u215 q1 q2 S1.1 s2 e4 hbd hl hd (fun _ _ _ a'' f2 => ?_) (fun hno => absurd ⟨hx, hm, by rw [e88]; exact hac⟩ hno)
    rw [e88]
    exact h2 a'' b' (uBg_a h0 (by omega) hac f f2)
  · exact u215 q1 q2 s1.1 s2 s6 hbd hl hd (fun hx hm hac _ _ => absurd ⟨hx, hm, hac⟩ hno) (fun _ => h2 a b h0)
/-- shift -/
theorem uB106 (h : uBg dr wp co pr cnt W T n a0 R a b) (q1 : xR p) (q2 : xR rm) (hd : 6 ≤ d) : uBo Ln xs (uBg dr wp co pr cnt W T n a0 R) d 106 222 [xV p, xV rm] a b := by
  intro Q hQ
  have h0 := h
  obtain ⟨⟨hn0, hK, hvR, hBR⟩, ⟨c1, c2, c3, c4, c5, c6⟩, ⟨s1, s2, s3, s4, s5, s6⟩, ch⟩ := h
  have hbd := uBqs_d s3
  have hl : a 88 114 ≤ 60 := s3.1.2
  refine u106 q1 q2 s1.1.1 hn0 c1.1.2.1 c4 hbd hl hd (fun hx hm hac a' b' f => hQ _ _ _ (fun Q2 h2 => ?_)) (fun hno => hQ _ _ _ (fun Q2 h2 => ?_))
  · obtain ⟨S1, e88, e4⟩ := uBg_a0 h0 f
    rw [← e88] at s2 hbd hl
    refine u222 q1 q2 S1.1 s2 e4 hbd hl hd (fun _ _ _ a'' f2 => ?_) (fun hno => absurd ⟨hx, hm, by rw [e88]; exact hac⟩ hno)
    rw [e88]
    exact h2 a'' b' (uBg_a h0 (by omega) hac f f2)
  · exact u222 q1 q2 s1.1 s2 s6 hbd hl hd (fun hx hm hac _ _ => absurd ⟨hx, hm, hac⟩ hno) (fun _ => h2 a b h0)
end
end
