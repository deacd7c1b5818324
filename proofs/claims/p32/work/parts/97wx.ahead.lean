/-! ahead of the beginning: thing, hidden, believe, price -/
section
set_option maxRecDepth 100000


section
variable {Ln : Nat} {xs : Nat → Int32} {d : Nat} {n p q x y v f i j k m g : Int} {a a' : xA} {b b' : xB}
theorem vWo_x (hn : 0 ≤ n ∧ n ≤ 5) (h : vWo (n + 1) y) : xR y := by
  have h1 := h.1
  have h2 := h.2
  have : n = 0 ∨ n = 1 ∨ n = 2 ∨ n = 3 ∨ n = 4 ∨ n = 5 := by omega
  rcases this with rfl | rfl | rfl | rfl | rfl | rfl <;> exact ⟨by omega, Int.le_of_lt (Int.lt_of_lt_of_le h2 (by decide))⟩
/-- thing -/
theorem vB20 (h : vPz a b) (q1 : xR x) (hg : 0 ≤ g ∧ g ≤ 1) (hd : 4 ≤ d) : uBo Ln xs vPz d 20 141 [xV x, xV g] a b := by
  intro Q hQ
  have h0 := h
  obtain ⟨⟨⟨g1, g2⟩, hA, hs, hp, hw, hv, hl, T, hT⟩, hz⟩ := h
  obtain ⟨⟨k1, k2, k3, k4, k5⟩, k6, k7⟩ := id hs
  obtain ⟨n, en⟩ : ∃ n, a 87 2 = n := ⟨_, rfl⟩
  rw [en] at k3 k4 k7
  refine vk20 q1 hg k3 k4 g1 (Or.inl rfl) k7 hd (fun hy => hQ _ _ _ (fun Q2 h2 => ?_)) (fun hno => hQ _ _ _ (fun Q2 h2 => ?_))
  · have hn : 0 ≤ n ∧ n < 5 := ⟨k4.1, hy.2.1⟩
    have hW := (vWn_b hn k7 hg).1
    have A1 : xAr (xU (xU a 3 4 (vWn g n (a 3 4))) 3 5 (n + 1)) := xAr_u (xAr_u hA (vWo_x (by omega) hW)) ⟨by omega, by omega⟩
    have e34 : (xU (xU a 3 4 (vWn g n (a 3 4))) 3 5 (n + 1)) 3 4 = vWn g n (a 3 4) := by rw [xUk (by decide), xUa]
    have e35 : (xU (xU a 3 4 (vWn g n (a 3 4))) 3 5 (n + 1)) 3 5 = n + 1 := xUa
    have o1 : ∀ q j, ¬ (q = 3 ∧ (j = 4 ∨ j = 5)) → (xU (xU a 3 4 (vWn g n (a 3 4))) 3 5 (n + 1)) q j = a q j := fun q j h => by
      unfold xU
      rw [if_neg (by omega), if_neg (by omega)]
    have ob : ∀ q j, ¬ (q = 21 ∧ (j = 4 ∨ j = 5)) → (xU b 21 4 (xWith (b 21 4) (4 + n) (vIw x))) q j = b q j := fun q j h => by
      unfold xU
      rw [if_neg (by omega)]
    have e4 : (xU b 21 4 (xWith (b 21 4) (4 + n) (vIw x))) 21 4 = xWith (b 21 4) (4 + n) (vIw x) := xUa
    have e5 : (xU b 21 4 (xWith (b 21 4) (4 + n) (vIw x))) 21 5 = b 21 5 := xUk (by decide)
    generalize xU (xU a 3 4 (vWn g n (a 3 4))) 3 5 (n + 1) = a1 at *
    generalize (xU b 21 4 (xWith (b 21 4) (4 + n) (vIw x))) = b1 at *
    refine vk141 q1 hg A1 ((o1 87 2 (by omega)).trans en) k4 ((o1 87 4 (by omega)).trans g2) (Or.inl rfl) hd (fun _ => h2 _ _ ?_) (fun hno => absurd hy hno)
    have A2 : xAr (xU (xU (xU a1 88 (4 + n) x) 91 n g) 87 2 (n + 1)) := xAr_u (xAr_u (xAr_u A1 q1) ⟨by omega, by omega⟩) ⟨by omega, by omega⟩
    have o2 : ∀ q j, ¬ (q = 88 ∧ (j = 4 + n ∨ j = 9 + n)) → ¬ (q = 91 ∧ j = n) → ¬ (q = 87 ∧ j = 2) → ¬ (q = 3 ∧ (j = 4 ∨ j = 5)) → (xU (xU (xU a1 88 (4 + n) x) 91 n g) 87 2 (n + 1)) q j = a q j := fun q j h1 h2 h3 h4 => by
      rw [← o1 q j h4]
      unfold xU
      rw [if_neg (by omega), if_neg (by omega), if_neg (by omega)]
    have r1 : (xU (xU (xU a1 88 (4 + n) x) 91 n g) 87 2 (n + 1)) 88 (4 + n) = x := by
      unfold xU
      rw [if_neg (by omega), if_neg (by omega), if_pos ⟨rfl, rfl⟩]
    have r9 : (xU (xU (xU a1 88 (4 + n) x) 91 n g) 87 2 (n + 1)) 88 (9 + n) = a 88 (9 + n) := by
      rw [← o1 88 (9 + n) (by omega)]
      unfold xU
      rw [if_neg (by omega), if_neg (by omega), if_neg (by omega)]
    refine ⟨?_, vT_o hz (fun q j hq => o2 q j (by omega) (by omega) (by omega) (by omega))⟩
    refine vB20n (s := 0) (w' := 0) (w5 := 0) h0.1 (by rw [en]; exact hn) hg A2 (by rw [en]; exact o2) ob (by
      rw [en]
      unfold xU
      rw [if_neg (by omega), if_pos ⟨rfl, rfl⟩]) (by
      rw [en]
      exact xUa) (by
      rw [en, ← e34]
      unfold xU
      rw [if_neg (by omega), if_neg (by omega), if_neg (by omega)]) (by
      rw [en, ← e35]
      unfold xU
      rw [if_neg (by omega), if_neg (by omega), if_neg (by omega)]) ?_
    rw [en]
    rw [en] at hw
    exact vPw_t (x := x) (y := (vIw x)) (v := 0) hw hn (Or.inl ⟨hy.2.2, rfl, e5, r9⟩) r1 (fun j j1 j2 => o2 88 j (by omega) (by omega) (by omega) (by omega)) e4 (fun f => ob 22 f (by omega))
  · exact vk141 q1 hg hA en k4 g2 (Or.inl rfl) hd (fun hy => absurd hy hno) (fun _ => h2 a b h0)
/-- hidden -/
theorem vB23 (h : vPz a b) (q1 : xR v) (hg : 0 ≤ g ∧ g ≤ 1) (hd : 4 ≤ d) : uBo Ln xs vPz d 23 142 [xV v, xV g] a b := by
  intro Q hQ
  have h0 := h
  obtain ⟨⟨⟨g1, g2⟩, hA, hs, hp, hw, hv, hl, T, hT⟩, hz⟩ := h
  obtain ⟨⟨k1, k2, k3, k4, k5⟩, k6, k7⟩ := id hs
  obtain ⟨n, en⟩ : ∃ n, a 87 2 = n := ⟨_, rfl⟩
  rw [en] at k3 k4 k7
  refine vk23 q1 hg k3 k4 g1 (Or.inl rfl) k7 hd (fun hy => hQ _ _ _ (fun Q2 h2 => ?_)) (fun hno => hQ _ _ _ (fun Q2 h2 => ?_))
  · have hn : 0 ≤ n ∧ n < 5 := ⟨k4.1, hy.2.1⟩
    have hW := (vWn_b hn k7 hg).1
    have A1 : xAr (xU (xU a 3 4 (vWn g n (a 3 4))) 3 5 (n + 1)) := xAr_u (xAr_u hA (vWo_x (by omega) hW)) ⟨by omega, by omega⟩
    have e34 : (xU (xU a 3 4 (vWn g n (a 3 4))) 3 5 (n + 1)) 3 4 = vWn g n (a 3 4) := by rw [xUk (by decide), xUa]
    have e35 : (xU (xU a 3 4 (vWn g n (a 3 4))) 3 5 (n + 1)) 3 5 = n + 1 := xUa
    have o1 : ∀ q j, ¬ (q = 3 ∧ (j = 4 ∨ j = 5)) → (xU (xU a 3 4 (vWn g n (a 3 4))) 3 5 (n + 1)) q j = a q j := fun q j h => by
      unfold xU
      rw [if_neg (by omega), if_neg (by omega)]
    have ob : ∀ q j, ¬ (q = 21 ∧ (j = 4 ∨ j = 5)) → (xU (xU b 21 4 (xWith (b 21 4) (4 + n) 13)) 21 5 ((b 21 5) ||| (xShL (Int64.ofInt v) (7 * n)))) q j = b q j := fun q j h => by
      unfold xU
      rw [if_neg (by omega), if_neg (by omega)]
    have e4 : (xU (xU b 21 4 (xWith (b 21 4) (4 + n) 13)) 21 5 ((b 21 5) ||| (xShL (Int64.ofInt v) (7 * n)))) 21 4 = xWith (b 21 4) (4 + n) 13 := (xUk (by decide)).trans xUa
    have e5 : (xU (xU b 21 4 (xWith (b 21 4) (4 + n) 13)) 21 5 ((b 21 5) ||| (xShL (Int64.ofInt v) (7 * n)))) 21 5 = (b 21 5) ||| (xShL (Int64.ofInt v) (7 * n)) := xUa
    generalize xU (xU a 3 4 (vWn g n (a 3 4))) 3 5 (n + 1) = a1 at *
    generalize (xU (xU b 21 4 (xWith (b 21 4) (4 + n) 13)) 21 5 ((b 21 5) ||| (xShL (Int64.ofInt v) (7 * n)))) = b1 at *
    refine vk142 q1 hg A1 ((o1 87 2 (by omega)).trans en) k4 ((o1 87 4 (by omega)).trans g2) (Or.inl rfl) hd (fun _ => h2 _ _ ?_) (fun hno => absurd hy hno)
    have A2 : xAr (xU (xU (xU (xU a1 88 (4 + n) 20) 88 (9 + n) v) 91 n g) 87 2 (n + 1)) := xAr_u (xAr_u (xAr_u (xAr_u A1 ⟨by decide, by decide⟩) q1) ⟨by omega, by omega⟩) ⟨by omega, by omega⟩
    have o2 : ∀ q j, ¬ (q = 88 ∧ (j = 4 + n ∨ j = 9 + n)) → ¬ (q = 91 ∧ j = n) → ¬ (q = 87 ∧ j = 2) → ¬ (q = 3 ∧ (j = 4 ∨ j = 5)) → (xU (xU (xU (xU a1 88 (4 + n) 20) 88 (9 + n) v) 91 n g) 87 2 (n + 1)) q j = a q j := fun q j h1 h2 h3 h4 => by
      rw [← o1 q j h4]
      unfold xU
      rw [if_neg (by omega), if_neg (by omega), if_neg (by omega), if_neg (by omega)]
    have r1 : (xU (xU (xU (xU a1 88 (4 + n) 20) 88 (9 + n) v) 91 n g) 87 2 (n + 1)) 88 (4 + n) = 20 := by
      unfold xU
      rw [if_neg (by omega), if_neg (by omega), if_neg (by omega), if_pos ⟨rfl, rfl⟩]
    have r9 : (xU (xU (xU (xU a1 88 (4 + n) 20) 88 (9 + n) v) 91 n g) 87 2 (n + 1)) 88 (9 + n) = v := by
      rw [show v = v from rfl]
      unfold xU
      rw [if_neg (by omega), if_neg (by omega), if_pos ⟨rfl, rfl⟩]
    refine ⟨?_, vT_o hz (fun q j hq => o2 q j (by omega) (by omega) (by omega) (by omega))⟩
    refine vB20n (s := 0) (w' := 0) (w5 := 0) h0.1 (by rw [en]; exact hn) hg A2 (by rw [en]; exact o2) ob (by
      rw [en]
      unfold xU
      rw [if_neg (by omega), if_pos ⟨rfl, rfl⟩]) (by
      rw [en]
      exact xUa) (by
      rw [en, ← e34]
      unfold xU
      rw [if_neg (by omega), if_neg (by omega), if_neg (by omega), if_neg (by omega)]) (by
      rw [en, ← e35]
      unfold xU
      rw [if_neg (by omega), if_neg (by omega), if_neg (by omega), if_neg (by omega)]) ?_
    rw [en]
    rw [en] at hw
    exact vPw_t (x := 20) (y := 13) (v := v) hw hn (Or.inr ⟨rfl, rfl, hy.2.2.1, e5, r9⟩) r1 (fun j j1 j2 => o2 88 j (by omega) (by omega) (by omega) (by omega)) e4 (fun f => ob 22 f (by omega))
  · exact vk142 q1 hg hA en k4 g2 (Or.inl rfl) hd (fun hy => absurd hy hno) (fun _ => h2 a b h0)
/-- believe -/
theorem vB25 (h : vPz a b) (q1 : xR p) (hg : g = 0 ∨ g = 1) (q2 : xR i) (q3 : xR x) (hd : 5 ≤ d) : uBo Ln xs vPz d 25 145 [xV p, xV g, xV i, xV x] a b := by
  intro Q hQ
  have h0 := h
  obtain ⟨⟨⟨g1, g2⟩, hA, hs, hp, hw, hv, hl, T, hT⟩, hz⟩ := h
  obtain ⟨⟨k1, k2, k3, k4, k5⟩, k6, k7⟩ := id hs
  have new : ∀ j k, (1 ≤ p ∧ p < 4) → ((∃ q, (0 ≤ q ∧ q < 4) ∧ ¬ q = p ∧ j = q ∧ k = 14 + 9 * (p - 1) + 5 + q ∧ (x = -1 ∨ (0 ≤ x ∧ x < 7))) ∨ ∃ q, (0 ≤ q ∧ q < a 87 2) ∧ j = 4 + q ∧ k = 14 + 9 * (p - 1) + q ∧ (x = -1 ∨ (0 ≤ x ∧ x < 7) ∨ (10 ≤ x ∧ x < 14))) → vPz (xU a 88 k x) (xU b 22 p (xWith (b 22 p) j (vIw x))) := by
    intro j k hp' hs'
    have hk : 14 ≤ k ∧ k ≤ 40 := by
      rcases hs' with ⟨q, q0, q1, q2, q3, q4⟩ | ⟨q, q0, q2, q3, q4⟩ <;> omega
    have o : ∀ q j, ¬ (q = 88 ∧ j = k) → (xU a 88 k x) q j = a q j := fun q j h => by
      unfold xU
      rw [if_neg h]
    have ob : ∀ q i, ¬ (q = 22 ∧ i = p) → (xU b 22 p (xWith (b 22 p) j (vIw x))) q i = b q i := fun q j h => by
      unfold xU
      rw [if_neg h]
    refine ⟨?_, vT_o hz (fun q j hq => o q j (by omega))⟩
    refine ⟨⟨(o 0 12 (by omega)).trans g1, (o 87 4 (by omega)).trans g2⟩, xAr_u hA q3, vPs_o hs (fun q j hq => o q j (by omega)) (ob 3 3 (by omega)), vPp_o hp (fun q j hq => o q j (by omega)), ?_, vPv_o hv (fun q j hq => o q j (by omega)) (fun j => ⟨ob 35 j (by omega), ob 114 j (by omega)⟩), vPl_o hl (fun q j hq => o q j (by omega)), T, vPg_o hT (fun q j hq => o q j (by omega))⟩
    rw [o 87 2 (by omega)]
    exact vPw_b (k := k) (x := x) hw k4 hp' hs' xUa (fun j hj => o 88 j (by omega)) (ob 21 4 (by omega)) (ob 21 5 (by omega)) xUa (fun f hf => ob 22 f (by omega))
  refine vk25 q1 hg q2 q3 k3 k4 g1 (Or.inl rfl) hd (fun e hy => hQ _ _ _ (fun Q2 h2 => ?_)) (fun e hy => hQ _ _ _ (fun Q2 h2 => ?_)) (fun hno => hQ _ _ _ (fun Q2 h2 => ?_))
  · refine vk145 q1 hg q2 q3 hA rfl k4 g2 (Or.inl rfl) (by omega) (fun _ _ => h2 _ _ (new i _ hy.2.1 (Or.inl ⟨i, hy.2.2.1, hy.2.2.2.1, rfl, rfl, hy.2.2.2.2⟩))) (fun e0 => absurd e0 (by omega)) (fun hno => absurd (by omega) hno)
  · refine vk145 q1 hg q2 q3 hA rfl k4 g2 (Or.inl rfl) (by omega) (fun e1 => absurd e1 (by omega)) (fun _ _ => h2 _ _ (new (4 + i) _ hy.2.1 (Or.inr ⟨i, hy.2.2.1, rfl, rfl, by omega⟩))) (fun hno => absurd (by omega) hno)
  · exact vk145 q1 hg q2 q3 hA rfl k4 g2 (Or.inl rfl) (by omega) (fun e1 hy => absurd (by omega) hno) (fun e1 hy => absurd (by omega) hno) (fun _ => h2 a b h0)
/-- price -/
theorem vB28 (h : vPz a b) (q1 : xR k) (q2 : xR m) (hd : 4 ≤ d) : uBo Ln xs vPz d 28 150 [xV k, xV m] a b := by
  intro Q hQ
  have h0 := h
  obtain ⟨⟨⟨g1, g2⟩, hA, hs, hp, hw, hv, hl, T, hT⟩, hz⟩ := h
  obtain ⟨⟨k1, k2, k3, k4, k5⟩, k6, k7⟩ := id hs
  refine vk28 q1 q2 g1 (Or.inl rfl) (by omega) (fun hy => hQ _ _ _ (fun Q2 h2 => ?_)) (fun hno => hQ _ _ _ (fun Q2 h2 => ?_))
  · have A1 : xAr (xU a 5 k (8 * m + 1)) := xAr_u hA ⟨by omega, by omega⟩
    have o1 : ∀ q j, ¬ q = 5 → (xU a 5 k (8 * m + 1)) q j = a q j := fun q j h => xUn h
    refine vk150 q1 q2 A1 (o1 87 2 (by decide)) k4 ((o1 87 4 (by decide)).trans g2) (Or.inl rfl) hd (fun _ => h2 _ _ ?_) (fun hno => absurd hy hno)
    have o2 : ∀ q j, ¬ q = 5 → ¬ q = 92 → (xU (xU a 5 k (8 * m + 1)) 92 k m) q j = a q j := fun q j h h' => by rw [xUn h', xUn h]
    have e88 : (xU (xU a 5 k (8 * m + 1)) 92 k m) 88 = a 88 := funext fun j => o2 88 j (by decide) (by decide)
    refine ⟨?_, vT_o hz (fun q j hq => o2 q j (by omega) (by omega))⟩
    refine ⟨⟨(o2 0 12 (by decide) (by decide)).trans g1, (o2 87 4 (by decide) (by decide)).trans g2⟩, xAr_u A1 q2, vPs_o hs (fun q j hq => o2 q j (by omega) (by omega)) rfl, fun i i0 i1 => ?_, ?_, vPv_o hv (fun q j hq => o2 q j (by omega) (by omega)) (fun _ => ⟨rfl, rfl⟩), vPl_o hl (fun q j hq => o2 q j (by omega) (by omega)), T, vPg_o hT (fun q j hq => o2 q j (by omega) (by omega))⟩
    · by_cases c : i = k
      · rw [c, xUa, xUn (by decide), xUa]
      · have e5 : (xU (xU a 5 k (8 * m + 1)) 92 k m) 5 i = a 5 i := (xUn (by decide)).trans (xUk c)
        have e92 : (xU (xU a 5 k (8 * m + 1)) 92 k m) 92 i = a 92 i := (xUk c).trans (xUn (by decide))
        rw [e5, e92]
        exact hp i i0 i1
    · rw [e88, o2 87 2 (by decide) (by decide)]
      exact hw
  · exact vk150 q1 q2 hA rfl k4 g2 (Or.inl rfl) hd (fun hy => absurd hy hno) (fun _ => h2 a b h0)
end
end
