/-! both sides once begun: believes, where, lies -/
section
set_option maxRecDepth 100000


section
variable {Ln : Nat} {xs : Nat → Int32} {d : Nat} {dr wp co pr cnt W : Int → Int} {T : Int → List Int} {n x p g i : Int} {R : Int → Int} {a a' a0 : xA} {b b' : xB}
/-- believes -/
theorem uB68 (h : uBg dr wp co pr cnt W T n a0 R a b) (q1 : xR p) (hg : g = 0 ∨ g = 1) (q2 : xR i) (hd : 6 ≤ d) : uBo Ln xs (uBg dr wp co pr cnt W T n a0 R) d 68 182 [xV p, xV g, xV i] a b := by
  intro Q hQ
  have h0 := h
  obtain ⟨⟨hn0, hK, hvR, hBR⟩, ⟨c1, c2, c3, c4, c5, c6⟩, ⟨s1, s2, s3, s4, s5, s6⟩, ch⟩ := h
  have hn : a 3 5 = n := c1.1.2.1.2.2.1
  have hn2 : a 87 2 = n := s1.1.2.1.2.1
  have hT := c4.1.2.1
  have hM := c4.1.2.2.1
  exact u68 q1 hg q2 hn hn0 s2 hT hM hd (hQ _ _ _ (fun Q2 h2 => u182 q1 hg q2 s1.1.1 hn2 hn0 (by omega) (h2 a b h0)))
/-- where -/
theorem uB132 (h : uBg dr wp co pr cnt W T n a0 R a b) (q1 : xR p) (hd : 4 ≤ d) : uBo Ln xs (uBg dr wp co pr cnt W T n a0 R) d 132 243 [xV p] a b := by
  intro Q hQ
  have h0 := h
  obtain ⟨⟨hn0, hK, hvR, hBR⟩, ⟨c1, c2, c3, c4, c5, c6⟩, ⟨s1, s2, s3, s4, s5, s6⟩, ch⟩ := h
  have hn : a 3 5 = n := c1.1.2.1.2.2.1
  have hn2 : a 87 2 = n := s1.1.2.1.2.1
  have hT := c4.1.2.1
  have hM := c4.1.2.2.1
  exact u132 q1 s2 hT hd (hQ _ _ _ (fun Q2 h2 => u243 q1 hd (h2 a b h0)))
/-- lies -/
theorem uB133 (h : uBg dr wp co pr cnt W T n a0 R a b) (q1 : xR x) (hd : 4 ≤ d) : uBo Ln xs (uBg dr wp co pr cnt W T n a0 R) d 133 244 [xV x] a b := by
  intro Q hQ
  have h0 := h
  obtain ⟨⟨hn0, hK, hvR, hBR⟩, ⟨c1, c2, c3, c4, c5, c6⟩, ⟨s1, s2, s3, s4, s5, s6⟩, ch⟩ := h
  have hn : a 3 5 = n := c1.1.2.1.2.2.1
  have hn2 : a 87 2 = n := s1.1.2.1.2.1
  have hT := c4.1.2.1
  have hM := c4.1.2.2.1
  exact u133 q1 hn hn0 s2 hT hd (hQ _ _ _ (fun Q2 h2 => u244 q1 s1.1.1 hn2 hn0 hd (h2 a b h0)))
end
end
