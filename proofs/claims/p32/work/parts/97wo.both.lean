/-! both sides once begun: turn -/
section
set_option maxRecDepth 100000


section
variable {Ln : Nat} {xs : Nat → Int32} {d : Nat} {dr wp co pr cnt W : Int → Int} {T : Int → List Int} {n x y kk : Int} {R : Int → Int} {a a' a0 : xA} {b b' : xB}
/-- turn -/
theorem uB87 (h : uBg dr wp co pr cnt W T n a0 R a b) (q1 : xR kk) (q2 : xR x) (q3 : xR y) (hd : 13 ≤ d) : uBo Ln xs (uBg dr wp co pr cnt W T n a0 R) d 87 204 [xV kk, xV x, xV y] a b := by
  intro Q hQ
  have h0 := h
  obtain ⟨⟨hn0, hK, hvR, hBR⟩, ⟨c1, c2, c3, c4, c5, c6⟩, ⟨s1, s2, s3, s4, s5, s6⟩, ch⟩ := h
  have hbd := uBqs_d s3
  have htn : 0 ≤ a 88 114 ∧ a 88 114 ≤ 60 := s3.1
  have hev : 0 ≤ a 88 119 ∧ a 88 119 ≤ 900 := by
    obtain ⟨_, _, _, _, _, _, _, _, _, g1, g2⟩ := s3
    omega
  refine u87 q1 q2 q3 hK hn0 c1 c4 hbd c6 hd (fun hge => hQ _ _ _ (fun Q2 h2 => ?_)) (fun hlt hng => hQ _ _ _ (fun Q2 h2 => ?_)) (fun hlt hg a1 a2 b1 f1 n1 C2 X2 h25 g1 => hQ _ _ _ (fun Q2 h2 => ?_))
  · exact u204 q1 q2 q3 hK s1.1 s2 s1.2.1 s1.2.2.1 s6 htn hev (by omega) (fun _ => h2 a b h0) (fun g => absurd g (by omega)) (fun g => absurd g (by omega))
  · exact u204 q1 q2 q3 hK s1.1 s2 s1.2.1 s1.2.2.1 s6 htn hev (by omega) (fun g => absurd g (by omega)) (fun _ _ => h2 a b h0) (fun _ g => absurd g hng)
  · obtain ⟨S2, e88, e4⟩ := uBg_t0 h0 C2 f1 n1
    refine u204 q1 q2 q3 hK S2.1 (by rw [e88]; exact s2) S2.2.1 S2.2.2.1 e4 (by rw [e88]; exact htn) (by rw [e88]; exact hev) (by omega) (fun g => absurd hlt (by rw [e88] at g; omega)) (fun _ g => absurd hg (by rw [e88] at g; exact g)) (fun _ _ a3 a4 b4 f2 n2 hB hv hV hLw er _ _ g2 => ?_)
    rw [e88] at n2 er g2 ⊢
    exact h2 a4 b4 (uBg_t h0 rfl hlt (uQc_f hg.1).1 (uGd_p s2 hg) f1 n1 C2 X2 h25 g1 f2 n2 hB hv hV hLw er g2)
end
end
