/-! acts, replays, check within the invariant -/
section
set_option maxRecDepth 100000


section
variable {Ln : Nat} {xs : Nat → Int32} {d : Nat} {Q : Option Value → pmS → Prop} {dr wp co pr cnt W : Int → Int} {T : Int → List Int} {n m t k x c cd wt p L l : Int} {r r' R tp : Int → Int} {a a' a0 a1 a2 a3 a4 : xA} {b b' b1 b2 b3 b4 : xB}
/-- what the class has left behind an act -/
theorem uBg_a0 (h : uBg dr wp co pr cnt W T n a0 R a b) (f1 : uPu dr n c (a 88) a a1 b b1) : uSx dr wp pr cnt W T n a1 b1 ∧ a1 88 = a 88 ∧ a1 87 4 = 1 := by
  have e : ∀ q j, 87 ≤ q → a1 q j = a q j := fun q j hq => f1.1 q j (by omega) (by omega) (by omega)
  exact ⟨uSx_o h.2.2.1.1 f1.2.2.1 e (fun j => f1.2.1 114 j (by omega) (by omega)), funext fun j => e 88 j (by decide), (e 87 4 (by decide)).trans h.2.2.1.2.2.2.2.2⟩
/-- an act of both -/
theorem uBg_a (h : uBg dr wp co pr cnt W T n a0 R a b) (hc : 1 ≤ c ∧ c ≤ 56) (hac : uAc dr n c (a 88)) (f1 : uPu dr n c (a 88) a a1 b b1) (f2 : uRa n c a1 a2) : uBg dr wp co pr cnt W T n a0 R a2 b1 := by
  obtain ⟨S1, e88, e4⟩ := uBg_a0 h f1
  obtain ⟨⟨hn0, hK, hvR, hBR⟩, ⟨c1, c2, c3, c4, c5, c6⟩, ⟨s1, s2, s3, s4, s5, s6⟩, ch⟩ := h
  obtain ⟨L, hL⟩ : ∃ L, a 88 114 = L := ⟨_, rfl⟩
  rw [hL] at s3 ch
  have hL1 : 1 ≤ L ∧ L ≤ 60 := by
    have := s3.1
    rcases hac with g | g
    · omega
    · omega
  have hch := uChr_a hn0 hL1 ch s2 hc hac hL f1 e88 f2
  obtain ⟨x1, x2, x3, x4, x5, x6⟩ := f1
  obtain ⟨y1, y2, y3, y4⟩ := f2
  rw [e88] at y1 y3 y4
  have e12 : ∀ q j, q ≠ 88 → ¬ q = 123 → a2 q j = a1 q j := fun q j h1 h2 => y1 q j h1 (by omega)
  have e01 : ∀ q j, ¬ q = 21 → ¬ q = 25 → ¬ q = 86 → a1 q j = a q j := fun q j h1 h2 h3 => x1 q j h2 (by omega) (by omega)
  have hq := uBqs_a hn0 s2 hc hac s3
  have hax : uAx n c (a 88) = uAl n (uAa c (a 88)) := if_neg (by omega)
  obtain ⟨t1, t2, t3, t4⟩ := S1
  unfold uBg
  rw [y3, show uAx n c (a 88) 114 = L from hq.2.1]
  refine ⟨⟨hn0, hK, hvR, hBR⟩, ⟨uCb_e c1 (fun q j h1 h2 => (e12 q j (by omega) (by omega)).trans (e01 q j (by omega) (by omega) (by omega))) (fun q j g => x2 q j (by omega) (by omega)) y2, uHm_o c2 (fun j => (e12 78 j (by decide) (by decide)).trans (e01 78 j (by decide) (by decide) (by decide))), fun j j0 j1 => ?_, uCx_o uWo21 x4 (fun q j q1 q2 => e12 q j (by omega) (by omega)) (fun _ _ _ _ => rfl), uCx_o uWo80 c5 (fun q j q1 q2 => (e12 q j (by omega) (by omega)).trans (e01 q j (by omega) (by omega) (by omega))) (fun q j q1 q2 => x2 q j (by omega) (by omega)), ?_⟩, ⟨⟨uRb_o t1 y2 (fun q j g => e12 q j (by omega) (by omega)) (fun j j0 j1 => by rw [e12 109 j (by decide) (by decide)]; exact t1.2.2.2.2.2.2 j j0 j1), uMV_f t2 (e12 _ _ (by decide) (by decide)) (fun j => e12 _ _ (by decide) (by decide)) (fun _ => rfl), uLw_o t3 (fun q j g => e12 q j (by omega) (by omega)), fun i i0 i1 => by rw [e12 100 i (by decide) (by decide)]; exact t4 i i0 i1⟩, ?_, hq, uShl_o (x := 1) (by decide) s4 (fun j _ => (e12 89 j (by decide) (by decide)).trans (e01 89 j (by decide) (by decide) (by decide))), fun j hj => ?_, ?_⟩, hch⟩
  · show 0 ≤ a2 25 j ∧ a2 25 j ≤ 300
    rw [e12 25 j (by decide) (by decide), x6 j j0 j1]
    decide
  · rw [e12 0 12 (by decide) (by decide), e01 0 12 (by decide) (by decide) (by decide)]
    exact c6
  · rw [hax]
    exact uRv_l hn0.2 (uRv_x hn0 s2 hc)
  · rw [uAx_n hn0 s2 ⟨by omega, hc.2⟩ hj]
    exact s5 j hj
  · rw [e12 87 4 (by decide) (by decide)]
    exact e4
end
end
