/-! deeds by slots -/
section
set_option maxRecDepth 100000


section
variable {w : Nat} {n g p k x : Int} {r r' : Int → Int} {b b' : xB}
/-- a deed that can be done in the world of the row -/
def uCp (n p k : Int) (r : Int → Int) : Prop := ¬ r p = 7 ∧ (uK k = 2 ∨ uK k = 3 ∨ uK k = 4 ∨ uK k = 6 → uX k < n) ∧ (uK k = 6 → 1 ≤ uY k) ∧ (uK k = 5 → ¬ uX k = p)
theorem uCp_d (h : uCp n p k r) : uCd n p k r := ⟨h.1, fun e => ⟨h.2.1 (by omega), h.2.2.1 e⟩⟩
theorem uWs_w {j v : Int} (h : r j = v) (h4 : 4 ≤ j) (hn : j - 4 < n) (h1 : 10 ≤ v) (h2 : v < 14) : uWs n r j = v - 1 := by
  unfold uWs
  generalize r j = u at h ⊢
  subst h
  rw [if_neg (show ¬ j < 4 by omega), if_pos hn, if_neg (show ¬ u = 20 by omega)]
  exact if_neg (show ¬ u < 7 by omega)
theorem uK6 (h : 41 ≤ k) (h2 : k < 61) : uK k = 6 := by
  have := @uK_e k
  omega
theorem uIfP {α : Type} {P P' : Prop} [Decidable P] [Decidable P'] {x y z z' : α} (h : P ↔ P') (h1 : P' → x = z) (h2 : ¬ P' → y = z') : (if P then x else y) = if P' then z else z' := by
  by_cases c : P'
  · rw [if_pos c, if_pos (h.mpr c)]
    exact h1 c
  · rw [if_neg c, if_neg (fun g => c (h.mp g))]
    exact h2 c
/-- what applied does is what the deed changes -/
theorem uWs_app (hn5 : n ≤ 5) (hr : uRv n r) (hp : 0 ≤ p ∧ p ≤ 3) (hk : 0 ≤ k ∧ k < 61) (hc : uCp n p k r) {j : Int} (j0 : 0 ≤ j) (j1 : j < 9) : uApp p (uWs n r) k j = uWs n (uDo n p k r) j := by
  obtain ⟨hal, hx, hy, hv⟩ := hc
  have hrp := hr.1 p hp.1 (by omega)
  by_cases h6 : 41 ≤ k
  · have k6 := uK6 h6 hk.2
    have hb := (uX_b hk).1
    have hy6 := hy k6
    rw [uApp_no (Or.inr h6), uDo_6 k6]
    exact (uWs_c (if_neg (by omega))).symm
  rcases uKd ⟨hk.1, by omega⟩ with h | h | h | h | h
  · rw [uApp_go ⟨hk.1, h.1⟩, uDo_1 h.2.1]
    unfold uP
    by_cases c : j = p
    · rw [if_pos c, uWs_p (by omega), if_pos c]
      omega
    · rw [if_neg c]
      exact (uWs_c (if_neg c)).symm
  · have hxn := hx (by omega)
    rw [uApp_ta h.1, uDo_2 h.2.1]
    unfold uP
    by_cases c : j = 4 + uX k
    · rw [if_pos c]
      exact Eq.trans (by omega) (Eq.symm (uWs_w (v := 10 + p) (if_pos c) (by omega) (by omega) (by omega) (by omega)))
    · rw [if_neg c]
      exact (uWs_c (if_neg c)).symm
  · have hxn := hx (by omega)
    rw [uApp_dr h.1, uDo_3 h.2.1]
    unfold uP
    by_cases c : j = 4 + uX k
    · rw [if_pos c]
      exact Eq.trans (uWs_p (by omega)) (Eq.symm (uWs_v (v := r p) (if_pos c) (by omega) (by omega) (by omega)))
    · rw [if_neg c]
      exact (uWs_c (if_neg c)).symm
  · have hxn := hx (by omega)
    rw [uApp_gi h.1, uDo_4 h.2.1]
    unfold uP
    by_cases c : j = 4 + uX k
    · rw [if_pos c]
      exact Eq.trans (by omega) (Eq.symm (uWs_w (v := 10 + uY k) (if_pos c) (by omega) (by omega) (by omega) (by omega)))
    · rw [if_neg c]
      exact (uWs_c (if_neg c)).symm
  · have hvp := hv h.2.1
    rw [uApp_hi h.1, uDo_5 h.2.1]
    have hx0 : 0 ≤ uX k ∧ uX k ≤ 3 := by omega
    dsimp only
    obtain ⟨z, ez⟩ : ∃ z, uX k = z := ⟨_, rfl⟩
    rw [ez] at hx0 hvp ⊢
    have ep := uWs_p (n := n) (r := r) (p := p) (by omega)
    rw [ep]
    clear hx hy hv h ez
    by_cases c : j = z
    · have e7 : uZt n p z r j = 7 := by
        unfold uZt
        exact if_pos c
      rw [if_pos c, uWs_p (by omega), e7]
      decide
    · rw [if_neg c]
      by_cases c4 : 4 ≤ j
      · have hjx := uWs_x hr (x := j - 4) (by omega) (by omega)
        rw [show 4 + (j - 4) = j by omega] at hjx
        by_cases cn : j < 4 + n
        · have eZ : uZt n p z r j = if r j = 10 + z then r p else r j := by
            unfold uZt
            rw [if_neg c, if_pos ⟨c4, cn⟩]
          by_cases ch : r j = 10 + z
          · rw [if_pos ch] at eZ
            rw [if_pos ⟨c4, j1, by omega⟩, uWs_v eZ c4 (by omega) (by omega)]
          · rw [if_neg ch] at eZ
            rw [if_neg (show ¬ (4 ≤ j ∧ j < 9 ∧ uWs n r j = 9 + z) by omega)]
            exact (uWs_c eZ).symm
        · have eZ : uZt n p z r j = r j := by
            unfold uZt
            rw [if_neg c, if_neg (show ¬ (4 ≤ j ∧ j < 4 + n) by omega), if_neg (show ¬ ((14 ≤ j ∧ j < 41) ∧ (j - 14) % 9 = 5 + z ∧ r ((j - 14) / 9 + 1) = r p ∧ ¬ (j - 14) / 9 + 1 = z) by omega)]
          rw [if_neg (show ¬ (4 ≤ j ∧ j < 9 ∧ uWs n r j = 9 + z) by omega)]
          exact (uWs_c eZ).symm
      · have eZ : uZt n p z r j = r j := by
          unfold uZt
          rw [if_neg c, if_neg (show ¬ (4 ≤ j ∧ j < 4 + n) by omega), if_neg (show ¬ ((14 ≤ j ∧ j < 41) ∧ (j - 14) % 9 = 5 + z ∧ r ((j - 14) / 9 + 1) = r p ∧ ¬ (j - 14) / 9 + 1 = z) by omega)]
        rw [if_neg (show ¬ (4 ≤ j ∧ j < 9 ∧ uWs n r j = 9 + z) by omega)]
        exact (uWs_c eZ).symm
/-- a person's place behind a deed -/
theorem uDo_p (hp : 0 ≤ p ∧ p ≤ 3) (hk : 0 ≤ k ∧ k < 61) (hc : uCp n p k r) {q : Int} (q0 : 0 ≤ q) (q1 : q < 4) : uDo n p k r q = if uK k = 1 ∧ q = p then uX k else if uK k = 5 ∧ q = uX k then 7 else r q := by
  have hb := uX_b hk
  by_cases k1 : uK k = 1
  · rw [uDo_1 k1]
    dsimp only
    by_cases c : q = p
    · rw [if_pos c, if_pos ⟨k1, c⟩]
    · rw [if_neg c, if_neg (fun h => c h.2), if_neg (fun h => by omega)]
  rw [if_neg (fun h => k1 h.1)]
  by_cases k5 : uK k = 5
  · rw [uDo_5 k5]
    unfold uZt
    by_cases c : q = uX k
    · rw [if_pos c, if_pos ⟨k5, c⟩]
    · rw [if_neg c, if_neg (show ¬ (uK k = 5 ∧ q = uX k) from fun h => c h.2), if_neg (show ¬ (4 ≤ q ∧ q < 4 + n) by omega), if_neg (show ¬ ((14 ≤ q ∧ q < 41) ∧ (q - 14) % 9 = 5 + uX k ∧ r ((q - 14) / 9 + 1) = r p ∧ ¬ (q - 14) / 9 + 1 = uX k) by omega)]
  rw [if_neg (fun h => k5 h.1)]
  have hx0 := hb.1
  have hy0 := hc.2.2.1
  clear hb
  by_cases k2 : uK k = 2
  · rw [uDo_2 k2]
    exact if_neg (by omega)
  by_cases k3 : uK k = 3
  · rw [uDo_3 k3]
    exact if_neg (by omega)
  by_cases k4 : uK k = 4
  · rw [uDo_4 k4]
    exact if_neg (by omega)
  · have k6 : uK k = 6 := by
      have := (uX_b hk).2.2.2.2.2.2
      omega
    rw [uDo_6 k6]
    have := hy0 k6
    exact if_neg (by omega)
/-- who sees it, by where they are behind it -/
theorem uSb_e (hr : uRv n r) (hp : 0 ≤ p ∧ p ≤ 3) (hk : 0 ≤ k ∧ k < 61) (hc : uCp n p k r) {q : Int} (q0 : 0 ≤ q) (q1 : q < 4) : uSb p k r q ↔ ¬ q = p ∧ (uDo n p k r q = r p ∨ uDo n p k r q = uDo n p k r p) := by
  have hb := uX_b hk
  have h7 := hr.1 p hp.1 (by omega)
  have h5 := hc.2.2.2
  have hal := hc.1
  have eq := uDo_p hp hk hc q0 q1
  have ep := uDo_p hp hk hc hp.1 (by omega)
  unfold uSb
  by_cases cq : q = p
  · exact ⟨fun h => absurd cq h.1, fun h => absurd cq h.1⟩
  rw [if_neg (show ¬ (uK k = 1 ∧ q = p) from fun h => cq h.2)] at eq
  by_cases k1 : uK k = 1
  · have hx := hb.2.1 k1
    rw [if_neg (show ¬ (uK k = 5 ∧ q = uX k) from fun h => by omega)] at eq
    rw [if_pos (show uK k = 1 ∧ p = p from ⟨k1, rfl⟩)] at ep
    rw [eq, ep]
    clear eq ep hb hc h5
    omega
  rw [if_neg (show ¬ (uK k = 1 ∧ p = p) from fun h => k1 h.1)] at ep
  by_cases k5 : uK k = 5
  · have hx := h5 k5
    rw [if_neg (show ¬ (uK k = 5 ∧ p = uX k) from fun h => hx h.2.symm)] at ep
    by_cases c : q = uX k
    · rw [if_pos (show uK k = 5 ∧ q = uX k from ⟨k5, c⟩)] at eq
      rw [eq, ep]
      clear eq ep hb hc h5
      omega
    · rw [if_neg (show ¬ (uK k = 5 ∧ q = uX k) from fun h => c h.2)] at eq
      rw [eq, ep]
      clear eq ep hb hc h5
      omega
  · rw [if_neg (show ¬ (uK k = 5 ∧ p = uX k) from fun h => k5 h.1)] at ep
    rw [if_neg (show ¬ (uK k = 5 ∧ q = uX k) from fun h => k5 h.1)] at eq
    rw [eq, ep]
    clear eq ep hb hc h5
    omega
theorem uApp_9 {S : Int → Int} (hp : 0 ≤ p ∧ p ≤ 3) (hk : 0 ≤ k ∧ k < 61) {j : Int} (j0 : 9 ≤ j) : uApp p S k j = S j := by
  by_cases h6 : 41 ≤ k
  · rw [uApp_no (Or.inr h6)]
  rcases uKd ⟨hk.1, by omega⟩ with h | h | h | h | h
  · rw [uApp_go ⟨hk.1, h.1⟩]
    exact if_neg (by omega)
  · rw [uApp_ta h.1]
    exact if_neg (by omega)
  · rw [uApp_dr h.1]
    exact if_neg (by omega)
  · rw [uApp_gi h.1]
    exact if_neg (by omega)
  · rw [uApp_hi h.1]
    dsimp only
    rw [if_neg (by omega), if_neg (by omega)]
theorem uDo_20 (hn0 : 0 ≤ n ∧ n ≤ 5) (hr : uRv n r) (hp : 0 ≤ p ∧ p ≤ 3) (hk : 0 ≤ k ∧ k < 61) (hc : uCp n p k r) (x0 : 0 ≤ x) (xn : x < n) (h : uDo n p k r (4 + x) = 20) : r (4 + x) = 20 ∧ uDo n p k r (9 + x) = r (9 + x) := by
  have hb := uX_b hk
  have hrp := hr.1 p hp.1 (by omega)
  obtain ⟨hal, hx, hy, hv⟩ := hc
  obtain ⟨b0, b1, b2, b3, b4, b5, b6⟩ := hb
  by_cases k1 : uK k = 1
  · rw [uDo_1 k1] at h ⊢
    dsimp only at h ⊢
    rw [if_neg (by omega)] at h
    rw [if_neg (by omega)]
    exact ⟨h, rfl⟩
  by_cases k2 : uK k = 2
  · have := b2 (by omega)
    rw [uDo_2 k2] at h ⊢
    dsimp only at h ⊢
    rw [if_neg (show ¬ 9 + x = 4 + uX k by omega)]
    by_cases c : 4 + x = 4 + uX k
    · rw [if_pos c] at h
      omega
    · rw [if_neg c] at h
      exact ⟨h, rfl⟩
  by_cases k3 : uK k = 3
  · have := b2 (by omega)
    rw [uDo_3 k3] at h ⊢
    dsimp only at h ⊢
    rw [if_neg (show ¬ 9 + x = 4 + uX k by omega)]
    by_cases c : 4 + x = 4 + uX k
    · rw [if_pos c] at h
      omega
    · rw [if_neg c] at h
      exact ⟨h, rfl⟩
  by_cases k4 : uK k = 4
  · have := b2 (by omega)
    have := b4 (by omega)
    rw [uDo_4 k4] at h ⊢
    dsimp only at h ⊢
    rw [if_neg (show ¬ 9 + x = 4 + uX k by omega)]
    by_cases c : 4 + x = 4 + uX k
    · rw [if_pos c] at h
      omega
    · rw [if_neg c] at h
      exact ⟨h, rfl⟩
  by_cases k5 : uK k = 5
  · have hx3 := b3 k5
    rw [uDo_5 k5] at h ⊢
    obtain ⟨z, ez⟩ : ∃ z, uX k = z := ⟨_, rfl⟩
    rw [ez] at b0 hx3 h ⊢
    clear b1 b2 b3 b4 b5 b6 hx hy hv ez
    unfold uZt at h ⊢
    rw [if_neg (show ¬ 9 + x = z by omega), if_neg (show ¬ (4 ≤ 9 + x ∧ 9 + x < 4 + n) by omega), if_neg (show ¬ ((14 ≤ 9 + x ∧ 9 + x < 41) ∧ (9 + x - 14) % 9 = 5 + z ∧ r ((9 + x - 14) / 9 + 1) = r p ∧ ¬ (9 + x - 14) / 9 + 1 = z) by omega)]
    rw [if_neg (show ¬ 4 + x = z by omega), if_pos (show 4 ≤ 4 + x ∧ 4 + x < 4 + n by omega)] at h
    by_cases c : r (4 + x) = 10 + z
    · rw [if_pos c] at h
      omega
    · rw [if_neg c] at h
      exact ⟨h, rfl⟩
  · have k6 : uK k = 6 := by omega
    have := hy k6
    have := b2 (by omega)
    rw [uDo_6 k6] at h ⊢
    dsimp only at h ⊢
    rw [if_neg (show ¬ 4 + x = 14 + 9 * (uY k - 1) + uX k by omega)] at h
    rw [if_neg (show ¬ 9 + x = 14 + 9 * (uY k - 1) + uX k by omega)]
    exact ⟨h, rfl⟩
/-- the truth behind a deed -/
theorem uRt_d (hn0 : 0 ≤ n ∧ n ≤ 5) (hr : uRv n r) (hp : 0 ≤ p ∧ p ≤ 3) (hk : 0 ≤ k ∧ k < 61) (hc : uCp n p k r) (hT : uRt n w r b) (e4 : ∀ j, 0 ≤ j → j < 16 → uSl (b' w 4) j = uApp p (uSl (b w 4)) k j) (e5 : b' w 5 = b w 5) : uRt n w (uDo n p k r) b' := by
  have hb := uX_b hk
  have hx0 := hb.1
  have eS : ∀ j, 0 ≤ j → j < 9 → uApp p (uSl (b w 4)) k j = uApp p (uWs n r) k j := uQ_app hT.1 hp
  refine ⟨fun j j0 j1 => ?_, fun j j0 j1 => ?_, fun x x0 xn hx => ?_⟩
  · rw [e4 j j0 (by omega), eS j j0 j1]
    exact uWs_app hn0.2 hr hp hk hc j0 j1
  · rw [e4 j (by omega) j1, uApp_9 hp hk j0]
    exact hT.2.1 j j0 j1
  · rw [e5]
    obtain ⟨h1, h2⟩ := uDo_20 hn0 hr hp hk hc x0 xn hx
    rw [h2]
    exact hT.2.2 x x0 xn h1
end
end
