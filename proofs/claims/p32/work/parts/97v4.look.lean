/-! the class looks, by rows -/
section
set_option maxRecDepth 100000


section
variable {ro : Nat → Nat × (Nat → Int32)} {d w : Nat} {Q : Option Value → pmS → Prop} {n f p k x : Int} {r r' : Int → Int} {a a' : xA} {b b' : xB}
/-- a folk's mind in a world of the class's, by the row -/
def uRf (n : Int) (w : Nat) (r : Int → Int) (b : xB) (f : Int) : Prop := uHi (b (w + 1) f) ∧ (∀ q, 0 ≤ q → q < 4 → ¬ q = f → uSl (b (w + 1) f) q = r (14 + 9 * (f - 1) + 5 + q) + 1) ∧ ∀ x, 0 ≤ x → x < 5 → uSl (b (w + 1) f) (4 + x) = uTc (r (14 + 9 * (f - 1) + x))
theorem uTc_m : uTc (-1) = 0 := rfl
theorem uHr_t {S : Int → Int} {v sv i : Int} (hr : uRv n r) (hS : ∀ j, 0 ≤ j → j < 4 → S j = r j + 1) (hf : 0 ≤ r f ∧ r f ≤ 6) (hi : 4 ≤ i) (hv : (-1 ≤ v ∧ v ≤ 6 ∧ sv = v + 1) ∨ (10 ≤ v ∧ v ≤ 13 ∧ sv = v - 1) ∨ (v = 20 ∧ sv = 13)) : uHr S (r f + 1) i sv ↔ uTh r (r f) v := by
  rcases hv with h | h | h
  · constructor
    · rintro (g | g)
      · exact Or.inl (by omega)
      · omega
    · rintro (g | g)
      · exact Or.inl (by omega)
      · omega
  · have e : sv - 9 = v - 10 := by omega
    have hs := hS (v - 10) (by omega) (by omega)
    constructor
    · rintro (g | ⟨_, _, g⟩)
      · omega
      · rw [e, hs] at g
        exact Or.inr ⟨by omega, by omega⟩
    · rintro (g | ⟨_, g⟩)
      · omega
      · refine Or.inr ⟨hi, by omega, ?_⟩
        rw [e, hs]
        omega
  · constructor
    · rintro (g | g) <;> omega
    · rintro (g | g) <;> omega
theorem uTc_v {v : Int} (h : (-1 ≤ v ∧ v ≤ 6) ∨ (10 ≤ v ∧ v ≤ 13)) : (-1 ≤ v ∧ v ≤ 6 ∧ uTc v = v + 1) ∨ (10 ≤ v ∧ v ≤ 13 ∧ uTc v = v - 1) := by
  unfold uTc
  split <;> omega
/-- look -/
theorem u63 (hz : uWz w) (hn0 : 0 ≤ n ∧ n ≤ 5) (hr : uRv n r) (hT : uRt n w r b) (hf : 1 ≤ f ∧ f ≤ 3) (hM : uRf n w r b f) (hal : ¬ r f = 7) (hd : 2 ≤ d) (hQ : ∀ l, uRf n w (uLk n f r) (xU b (w + 1) f l) f → uSl l f = r f + 1 → Q none (xS a (xU b (w + 1) f l))) : pmCs ro d 63 [.ref 43, .ref w, xV f] (xS a b) Q := by
  have h7 := hr.1 f (by omega) (by omega)
  have h6 : 0 ≤ r f ∧ r f ≤ 6 := by omega
  have eS : ∀ j, 0 ≤ j → j < 4 → uSl (b w 4) j = r j + 1 := fun j j0 j1 => (hT.1 j j0 (by omega)).trans (uWs_p j1)
  have ef := eS f (by omega) (by omega)
  obtain ⟨m1, m2, m3⟩ := hM
  refine u63s hz hf m1 (by rw [ef]; omega) hd (fun l g1 g2 => hQ l ⟨?_, fun q q0 q1 hq => ?_, fun x x0 x1 => ?_⟩ ?_)
  · rw [xUa]
    exact g1
  · rw [xUa, g2 q q0 (by omega), uLk_q hn0.2 q0 q1 hq, ef]
    unfold uTg uBq
    rw [m2 q q0 q1 hq, eS q q0 q1]
    by_cases c : r q = r f
    · rw [if_pos c, if_pos (Or.inl (by omega))]
      omega
    · rw [if_neg c, if_neg (fun h => h.elim (fun h => by omega) (fun h => by omega))]
      by_cases c2 : r (14 + 9 * (f - 1) + 5 + q) = r f
      · rw [if_pos c2, if_pos (Or.inl (by omega))]
        decide
      · rw [if_neg c2, if_neg (fun h => h.elim (fun h => by omega) (fun h => by omega))]
  · rw [xUa, g2 (4 + x) (by omega) (by omega), ef]
    have hb := uTc_v (hr.2.2.2.1 f x hf.1 hf.2 x0 x1)
    have hx := uWs_x hr x0 x1
    have ex := hT.1 (4 + x) (by omega) (by omega)
    unfold uTg
    rw [m3 x x0 x1, ex]
    have tb := uHr_t (S := uSl (b w 4)) (f := f) (v := r (14 + 9 * (f - 1) + x)) (sv := uTc (r (14 + 9 * (f - 1) + x))) (i := 4 + x) hr eS h6 (by omega) (hb.elim (fun h => Or.inl h) (fun h => Or.inr (Or.inl h)))
    rcases hx with ⟨xn, hx⟩ | ⟨xn, hx⟩
    · have ts := uHr_t (S := uSl (b w 4)) (f := f) (v := r (4 + x)) (sv := uWs n r (4 + x)) (i := 4 + x) hr eS h6 (by omega) (by omega)
      rw [uLk_t hn0.2 x0 xn]
      unfold uBt
      by_cases c : uTh r (r f) (r (4 + x))
      · rw [if_pos c, if_pos (ts.mpr c)]
        have : ¬ r (4 + x) = 20 := fun h => by
          rcases c with c | c <;> omega
        have := @uTc_v (r (4 + x)) (by omega)
        omega
      · rw [if_neg c, if_neg (fun h => c (ts.mp h))]
        by_cases c2 : uTh r (r f) (r (14 + 9 * (f - 1) + x))
        · rw [if_pos c2, if_pos (tb.mpr c2)]
          rfl
        · rw [if_neg c2, if_neg (fun h => c2 (tb.mp h))]
    · rw [uLk_t2 hn0.2 xn x1 x0]
      have e1 := hr.2.2.2.2.2 f x hf.1 hf.2 xn x0 x1
      rw [e1] at tb ⊢
      rw [hx, if_neg (fun h => h.elim (fun h => by omega) (fun h => by omega)), if_neg (fun h => (tb.mp h).elim (fun h => by omega) (fun h => by omega))]
  · rw [g2 f (by omega) (by omega)]
    unfold uTg
    rw [if_pos (Or.inl rfl), ef]
end
end
