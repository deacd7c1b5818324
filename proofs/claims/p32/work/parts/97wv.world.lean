/-! ahead of the beginning: the world -/
section
set_option maxRecDepth 100000


section
variable {n p q x y v f i j k : Int} {r r' : Int → Int} {b b' : xB} {l : Int64}
theorem vIw_c (h : x = -1 ∨ (0 ≤ x ∧ x < 7) ∨ (10 ≤ x ∧ x < 14)) : vIw x = uTc x := by
  unfold vIw uTc
  by_cases c : x = -1
  · rw [if_pos c, if_pos (by omega)]
    omega
  rw [if_neg c]
  by_cases c2 : 10 ≤ x
  · rw [if_pos c2, if_neg (by omega)]
    omega
  · rw [if_neg c2, if_pos (by omega)]
theorem vWith (i0 : 0 ≤ i) (i1 : i < 16) (c0 : 0 ≤ x) (c1 : x < 16) (j0 : 0 ≤ j) (j1 : j < 16) : uSl (xWith l i x) j = if j = i then x else uSl l j := uWith i0 i1 c0 c1 j0 j1 rfl
theorem vWith_y (i0 : 0 ≤ i) (i1 : i < 16) (c0 : 0 ≤ x) (c1 : x < 16) : uSl (xWith l i x) i = x := by
  rw [vWith i0 i1 c0 c1 i0 i1, if_pos rfl]
theorem vWith_n (i0 : 0 ≤ i) (i1 : i < 16) (c0 : 0 ≤ x) (c1 : x < 16) (j0 : 0 ≤ j) (j1 : j < 16) (h : ¬ j = i) : uSl (xWith l i x) j = uSl l j := by
  rw [vWith i0 i1 c0 c1 j0 j1, if_neg h]
theorem vHi (i0 : 0 ≤ i) (i1 : i < 9) (c0 : 0 ≤ x) (c1 : x < 16) (h : uHi l) : uHi (xWith l i x) := fun j j0 j1 => by
  rw [vWith_n i0 (by omega) c0 c1 (by omega) j1 (by omega)]
  exact h j j0 j1
/-- the world ahead of the beginning: the row and the class's -/
def vPw (n : Int) (r : Int → Int) (b : xB) : Prop := uRv n r ∧ uRt n 21 r b ∧ uRm n 21 r b ∧ ∀ x, n ≤ x → x < 5 → uSt (b 21 5) x = 0
theorem vPw_o (h : vPw n r b) (e4 : b' 21 4 = b 21 4) (e5 : b' 21 5 = b 21 5) (e22 : ∀ f, b' 22 f = b 22 f) : vPw n r b' := by
  obtain ⟨h1, ⟨t1, t2, t3⟩, h3, h4⟩ := h
  refine ⟨h1, ⟨fun j j0 j1 => ?_, ?_, fun x x0 x1 hx => ?_⟩, fun f f0 f1 => ?_, fun x x0 x1 => ?_⟩
  · rw [e4]
    exact t1 j j0 j1
  · rw [e4]
    exact t2
  · rw [e5]
    exact t3 x x0 x1 hx
  · obtain ⟨g1, g2, g3⟩ := h3 f f0 f1
    have e : b' (21 + 1) f = b (21 + 1) f := e22 f
    unfold uRf
    rw [e]
    exact ⟨g1, g2, g3⟩
  · rw [e5]
    exact h4 x x0 x1
/-- person -/
theorem vPw_p (h : vPw n r b) (hn0 : 0 ≤ n ∧ n ≤ 5) (hp : 0 ≤ p ∧ p < 4) (hy : 0 ≤ y ∧ y < 7) (e1 : r' p = y) (e2 : ∀ j, ¬ j = p → r' j = r j) (e4 : b' 21 4 = xWith (b 21 4) p (y + 1)) (e5 : b' 21 5 = b 21 5) (e22 : ∀ f, b' 22 f = b 22 f) : vPw n r' b' := by
  obtain ⟨⟨v1, v2, v3, v4, v5, v6⟩, ⟨t1, t2, t3⟩, h3, h4⟩ := h
  refine ⟨⟨fun q q0 q1 => ?_, fun x x0 x1 => ?_, fun x x0 x1 => ?_, fun f x f0 f1 x0 x1 => ?_, fun f q f0 f1 q0 q1 => ?_, fun f x f0 f1 nx x0 x1 => ?_⟩, ⟨fun j j0 j1 => ?_, ?_, fun x x0 x1 hx => ?_⟩, fun f f0 f1 => ?_, fun x x0 x1 => ?_⟩
  · by_cases c : q = p
    · rw [c, e1]
      omega
    · rw [e2 q c]
      exact v1 q q0 q1
  · rw [e2 _ (by omega)]
    exact v2 x x0 x1
  · rw [e2 _ (by omega)]
    exact v3 x x0 x1
  · rw [e2 _ (by omega)]
    exact v4 f x f0 f1 x0 x1
  · rw [e2 _ (by omega)]
    exact v5 f q f0 f1 q0 q1
  · rw [e2 _ (by omega)]
    exact v6 f x f0 f1 nx x0 x1
  · rw [e4]
    by_cases c : j = p
    · rw [c, vWith_y hp.1 (by omega) (by omega) (by omega)]
      unfold uWs
      rw [if_pos hp.2, e1]
    · rw [vWith_n hp.1 (by omega) (by omega) (by omega) j0 (by omega) c, t1 j j0 j1]
      unfold uWs
      rw [e2 j c]
  · rw [e4]
    exact vHi hp.1 (by omega) (by omega) (by omega) t2
  · rw [e2 _ (by omega)] at hx ⊢
    rw [e5]
    exact t3 x x0 x1 hx
  · obtain ⟨g1, g2, g3⟩ := h3 f f0 f1
    have e : b' (21 + 1) f = b (21 + 1) f := e22 f
    unfold uRf
    rw [e]
    refine ⟨g1, fun q q0 q1 hq => ?_, fun x x0 x1 => ?_⟩
    · rw [e2 _ (by omega)]
      exact g2 q q0 q1 hq
    · rw [e2 _ (by omega)]
      exact g3 x x0 x1
  · rw [e5]
    exact h4 x x0 x1
/-- a thing more: what comes of the slots -/
theorem vPw_n (t1 : ∀ j, 0 ≤ j → j < 9 → uSl l j = uWs n r j) (hn0 : 0 ≤ n ∧ n < 5) (hy : 0 ≤ y ∧ y < 16) (ey : (if r' (4 + n) = 20 then 13 else uTc (r' (4 + n))) = y) (e2 : ∀ j, 0 ≤ j → j < 9 → ¬ j = 4 + n → r' j = r j) : ∀ j, 0 ≤ j → j < 9 → uSl (xWith l (4 + n) y) j = uWs (n + 1) r' j := by
  intro j j0 j1
  by_cases c : j = 4 + n
  · rw [c, vWith_y (by omega) (by omega) hy.1 hy.2]
    unfold uWs
    rw [if_neg (by omega), if_pos (by omega), ey]
  · rw [vWith_n (by omega) (by omega) hy.1 hy.2 j0 (by omega) c, t1 j j0 j1]
    unfold uWs
    rw [e2 j j0 j1 c]
    by_cases c4 : j < 4
    · rw [if_pos c4, if_pos c4]
    · rw [if_neg c4, if_neg c4]
      by_cases cn : j - 4 < n
      · have cn' : j - 4 < n + 1 := by omega
        rw [if_pos cn, if_pos cn']
      · have cn' : ¬ j - 4 < n + 1 := by omega
        rw [if_neg cn, if_neg cn']
/-- thing, hidden -/
theorem vPw_t (h : vPw n r b) (hn0 : 0 ≤ n ∧ n < 5) (hx : ((0 ≤ x ∧ x < 7) ∨ (10 ≤ x ∧ x < 14)) ∧ y = vIw x ∧ b' 21 5 = b 21 5 ∧ r' (9 + n) = r (9 + n) ∨ x = 20 ∧ y = 13 ∧ (0 ≤ v ∧ v ≤ 127) ∧ b' 21 5 = b 21 5 ||| xShL (Int64.ofInt v) (7 * n) ∧ r' (9 + n) = v) (e1 : r' (4 + n) = x) (e2 : ∀ j, ¬ j = 4 + n → ¬ j = 9 + n → r' j = r j) (e4 : b' 21 4 = xWith (b 21 4) (4 + n) y) (e22 : ∀ f, b' 22 f = b 22 f) : vPw (n + 1) r' b' := by
  obtain ⟨⟨v1, v2, v3, v4, v5, v6⟩, ⟨t1, t2, t3⟩, h3, h4⟩ := h
  have hx2 : ((0 ≤ x ∧ x ≤ 6) ∨ (10 ≤ x ∧ x ≤ 13)) ∨ x = 20 := by
    rcases hx with ⟨g, _⟩ | ⟨g, _⟩ <;> omega
  have hy : (0 ≤ y ∧ y < 16) ∧ (if x = 20 then 13 else uTc x) = y := by
    rcases hx with ⟨g, g2, _⟩ | ⟨g, g2, _⟩
    · have := vIw_b (v := x) (by omega)
      rw [if_neg (by omega), g2, vIw_c (by omega)]
      rw [vIw_c (by omega)] at this
      exact ⟨by omega, rfl⟩
    · rw [if_pos g, g2]
      decide
  have h9 : 0 ≤ r' (9 + n) ∧ r' (9 + n) ≤ 127 := by
    rcases hx with ⟨_, _, _, g⟩ | ⟨_, _, g2, _, g⟩
    · rw [g]
      exact v3 n hn0.1 hn0.2
    · rw [g]
      exact g2
  have hst : ∀ z, 0 ≤ z → z < 5 → ¬ z = n → uSt (b' 21 5) z = uSt (b 21 5) z := by
    intro z z0 z1 c
    rcases hx with ⟨_, _, g, _⟩ | ⟨_, _, g2, g, _⟩
    · rw [g]
    · rw [g, uSt_put hn0.1 (by omega) z0 (by omega) g2.1 (by omega) (h4 n (by omega) hn0.2) rfl, if_neg c]
  refine ⟨⟨fun q q0 q1 => ?_, fun z z0 z1 => ?_, fun z z0 z1 => ?_, fun f z f0 f1 z0 z1 => ?_, fun f q f0 f1 q0 q1 => ?_, fun f z f0 f1 nz z0 z1 => ?_⟩, ⟨?_, ?_, fun z z0 z1 hz => ?_⟩, fun f f0 f1 => ?_, fun z z0 z1 => ?_⟩
  · rw [e2 q (by omega) (by omega)]
    exact v1 q q0 q1
  · by_cases c : z = n
    · rw [c, e1]
      omega
    · rw [e2 _ (by omega) (by omega)]
      exact v2 z z0 (by omega)
  · by_cases c : z = n
    · rw [c]
      exact h9
    · rw [e2 _ (by omega) (by omega)]
      exact v3 z z0 z1
  · rw [e2 _ (by omega) (by omega)]
    exact v4 f z f0 f1 z0 z1
  · rw [e2 _ (by omega) (by omega)]
    exact v5 f q f0 f1 q0 q1
  · rw [e2 _ (by omega) (by omega)]
    exact v6 f z f0 f1 (by omega) z0 z1
  · rw [e4]
    exact vPw_n t1 hn0 hy.1 (by rw [e1]; exact hy.2) (fun j j0 j1 c => e2 j c (by omega))
  · rw [e4]
    exact vHi (by omega) (by omega) hy.1.1 hy.1.2 t2
  · by_cases c : z = n
    · rw [c] at hz ⊢
      rw [e1] at hz
      rcases hx with ⟨g, _⟩ | ⟨_, _, g2, g, g3⟩
      · omega
      · rw [g, uSt_put hn0.1 (by omega) hn0.1 (by omega) g2.1 (by omega) (h4 n (by omega) hn0.2) rfl, if_pos rfl, g3]
    · rw [e2 _ (by omega) (by omega)] at hz ⊢
      rw [hst z z0 (by omega) c]
      exact t3 z z0 (by omega) hz
  · obtain ⟨g1, g2, g3⟩ := h3 f f0 f1
    have e : b' (21 + 1) f = b (21 + 1) f := e22 f
    unfold uRf
    rw [e]
    refine ⟨g1, fun q q0 q1 hq => ?_, fun z z0 z1 => ?_⟩
    · rw [e2 _ (by omega) (by omega)]
      exact g2 q q0 q1 hq
    · rw [e2 _ (by omega) (by omega)]
      exact g3 z z0 z1
  · rw [hst z (by omega) z1 (by omega)]
    exact h4 z (by omega) z1
/-- believe -/
theorem vPw_b (h : vPw n r b) (hn0 : 0 ≤ n ∧ n ≤ 5) (hp : 1 ≤ p ∧ p < 4) (hs : (∃ q, (0 ≤ q ∧ q < 4) ∧ ¬ q = p ∧ j = q ∧ k = 14 + 9 * (p - 1) + 5 + q ∧ (x = -1 ∨ (0 ≤ x ∧ x < 7))) ∨ ∃ q, (0 ≤ q ∧ q < n) ∧ j = 4 + q ∧ k = 14 + 9 * (p - 1) + q ∧ (x = -1 ∨ (0 ≤ x ∧ x < 7) ∨ (10 ≤ x ∧ x < 14))) (e1 : r' k = x) (e2 : ∀ j, ¬ j = k → r' j = r j) (e4 : b' 21 4 = b 21 4) (e5 : b' 21 5 = b 21 5) (e22 : b' 22 p = xWith (b 22 p) j (vIw x)) (e22n : ∀ f, ¬ f = p → b' 22 f = b 22 f) : vPw n r' b' := by
  obtain ⟨⟨v1, v2, v3, v4, v5, v6⟩, ⟨t1, t2, t3⟩, h3, h4⟩ := h
  have hk : 14 ≤ k ∧ k ≤ 40 := by
    rcases hs with ⟨q, q0, q1, q2, q3, q4⟩ | ⟨q, q0, q2, q3, q4⟩ <;> omega
  have hj : 0 ≤ j ∧ j < 9 := by
    rcases hs with ⟨q, q0, q1, q2, q3, q4⟩ | ⟨q, q0, q2, q3, q4⟩ <;> omega
  have hx : x = -1 ∨ (0 ≤ x ∧ x < 7) ∨ (10 ≤ x ∧ x < 14) := by
    rcases hs with ⟨q, q0, q1, q2, q3, q4⟩ | ⟨q, q0, q2, q3, q4⟩ <;> omega
  have hI := vIw_b (v := x) (by omega)
  have hC := vIw_c hx
  refine ⟨⟨fun q q0 q1 => ?_, fun z z0 z1 => ?_, fun z z0 z1 => ?_, fun f z f0 f1 z0 z1 => ?_, fun f q f0 f1 q0 q1 => ?_, fun f z f0 f1 nz z0 z1 => ?_⟩, ⟨fun j j0 j1 => ?_, ?_, fun z z0 z1 hz => ?_⟩, fun f f0 f1 => ?_, fun z z0 z1 => ?_⟩
  · rw [e2 q (by omega)]
    exact v1 q q0 q1
  · rw [e2 _ (by omega)]
    exact v2 z z0 z1
  · rw [e2 _ (by omega)]
    exact v3 z z0 z1
  · by_cases c : 14 + 9 * (f - 1) + z = k
    · rw [c, e1]
      omega
    · rw [e2 _ c]
      exact v4 f z f0 f1 z0 z1
  · by_cases c : 14 + 9 * (f - 1) + 5 + q = k
    · rw [c, e1]
      rcases hs with ⟨q', g0, g1, g2, g3, g4⟩ | ⟨q', g0, g2, g3, g4⟩
      · omega
      · exfalso
        omega
    · rw [e2 _ c]
      exact v5 f q f0 f1 q0 q1
  · by_cases c : 14 + 9 * (f - 1) + z = k
    · exfalso
      rcases hs with ⟨q', g0, g1, g2, g3, g4⟩ | ⟨q', g0, g2, g3, g4⟩
      · omega
      · omega
    · rw [e2 _ c]
      exact v6 f z f0 f1 nz z0 z1
  · rw [e4, t1 j j0 j1]
    unfold uWs
    rw [e2 j (by omega)]
  · rw [e4]
    exact t2
  · rw [e2 _ (by omega)] at hz ⊢
    rw [e5]
    exact t3 z z0 z1 hz
  · obtain ⟨g1, g2, g3⟩ := h3 f f0 f1
    by_cases cf : f = p
    · have e : b' (21 + 1) f = xWith (b (21 + 1) f) j (vIw x) := by
        rw [cf]
        exact e22
      unfold uRf
      rw [e]
      refine ⟨vHi hj.1 hj.2 hI.1 (by omega) g1, fun q q0 q1 hq => ?_, fun z z0 z1 => ?_⟩
      · by_cases c : q = j
        · rw [c, vWith_y hj.1 (by omega) hI.1 (by omega), hC]
          rcases hs with ⟨q', g0, g1', g2', g3', g4⟩ | ⟨q', g0, g2', g3', g4⟩
          · rw [show 14 + 9 * (f - 1) + 5 + j = k by omega, e1]
            unfold uTc
            rw [if_pos (by omega)]
          · exfalso
            omega
        · rw [vWith_n hj.1 (by omega) hI.1 (by omega) q0 (by omega) c, e2 _ ?_]
          · exact g2 q q0 q1 hq
          · rcases hs with ⟨q', g0, g1', g2', g3', g4⟩ | ⟨q', g0, g2', g3', g4⟩ <;> omega
      · by_cases c : 4 + z = j
        · rw [c, vWith_y hj.1 (by omega) hI.1 (by omega), hC]
          rcases hs with ⟨q', g0, g1', g2', g3', g4⟩ | ⟨q', g0, g2', g3', g4⟩
          · exfalso
            omega
          · rw [show 14 + 9 * (f - 1) + z = k by omega, e1]
        · rw [vWith_n hj.1 (by omega) hI.1 (by omega) (by omega) (by omega) c, e2 _ ?_]
          · exact g3 z z0 z1
          · rcases hs with ⟨q', g0, g1', g2', g3', g4⟩ | ⟨q', g0, g2', g3', g4⟩ <;> omega
    · have e : b' (21 + 1) f = b (21 + 1) f := e22n f cf
      unfold uRf
      rw [e]
      refine ⟨g1, fun q q0 q1 hq => ?_, fun z z0 z1 => ?_⟩
      · rw [e2 _ ?_]
        · exact g2 q q0 q1 hq
        · rcases hs with ⟨q', g0, g1', g2', g3', g4⟩ | ⟨q', g0, g2', g3', g4⟩ <;> omega
      · rw [e2 _ ?_]
        · exact g3 z z0 z1
        · rcases hs with ⟨q', g0, g1', g2', g3', g4⟩ | ⟨q', g0, g2', g3', g4⟩ <;> omega
  · rw [e5]
    exact h4 z z0 z1
end
end
