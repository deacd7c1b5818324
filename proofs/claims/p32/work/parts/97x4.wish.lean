/-! wishes read once more: the rows (the reference) -/
section
set_option maxRecDepth 100000


section
variable {ro : Nat → Nat × (Nat → Int32)} {d : Nat} {Q : Option Value → pmS → Prop} {b : xB} {t : Int → Int}
/-- the codes, put behind those of the wishes that stand -/
theorem vl153 {p x n k o r : Int} {v4 : Option Value} {a0 : xA} (h_p : xR p) (h_x : xR x) (hp : 1 ≤ p ∧ p ≤ 3) (hk0 : 0 ≤ k ∧ k < 3) (ho0 : 0 ≤ o ∧ o ≤ 40) (hr : 3 ≤ r ∧ r < 12) (hk : a0 96 p = k) (ho : a0 87 15 = o) (hQ : ∀ a1, xAr a1 → (∀ q j, q ≠ 99 → a1 q j = a0 q j) → (∀ j, 0 ≤ j → j < o → a1 99 (60 * r + j) = a0 95 j) → (∀ j, (j < 60 * r ∨ 60 * r + o ≤ j) → a1 99 j = a0 99 j) → Q (some (xV k)) (xS (xU a1 96 p (k + 1)) b)) : ∀ (m : Nat) (i : Int) (a : xA), o - i ≤ (m : Int) → 0 ≤ i ∧ i ≤ o → xAr a → (∀ q j, q ≠ 99 → a q j = a0 q j) → (∀ j, 0 ≤ j → j < i → a 99 (60 * r + j) = a0 95 j) → (∀ j, (j < 60 * r ∨ 60 * r + o ≤ j) → a 99 j = a0 99 j) →
    pmWp ro d 12 153 1 114 [some (.ref 87), some (xV p), some (xV x), some (xV n), v4, some (xV r), some (xV i)] [] (xS a b) Q := by
  intro m
  induction m with
  | zero =>
    intro i a hm hi hA hF h1 h2
    refine w153l h_p h_x hp ((hF 96 p (by decide)).trans hk) hk0 ((hF 87 15 (by decide)).trans ho) ho0 hr hi hA (fun _ => ?_) (fun e => by omega)
    rw [show k + 1 - 1 = k by omega]
    exact hQ a hA hF (fun j j0 j1 => h1 j j0 (by omega)) h2
  | succ m ih =>
    intro i a hm hi hA hF h1 h2
    refine w153l h_p h_x hp ((hF 96 p (by decide)).trans hk) hk0 ((hF 87 15 (by decide)).trans ho) ho0 hr hi hA (fun _ => ?_) (fun e => ?_)
    · rw [show k + 1 - 1 = k by omega]
      exact hQ a hA hF (fun j j0 j1 => h1 j j0 (by omega)) h2
    · refine ih (i + 1) _ (by omega) (by omega) (xAr_u hA (hA 95 i)) (fun q j h => by rw [xUn h]; exact hF q j h) (fun j j0 j1 => ?_) (fun j hj => ?_)
      · by_cases c : j = i
        · rw [c, xUa]
          exact hF 95 i (by decide)
        · rw [xUk (by omega)]
          exact h1 j j0 (by omega)
      · rw [xUk (by omega)]
        exact h2 j hj
/-- a wish added: what becomes of the reference's rows -/
def vAr (p k x : Int) (ts : List Int) (a a1 : xA) : Prop := (a1 96 p = k + 1 ∧ ∀ j, ¬ j = p → a1 96 j = a 96 j) ∧ (a1 97 (3 * p + k) = x ∧ ∀ j, ¬ j = 3 * p + k → a1 97 j = a 97 j) ∧ (a1 98 (3 * p + k) = (ts.length : Int) ∧ ∀ j, ¬ j = 3 * p + k → a1 98 j = a 98 j) ∧ (∀ (j : Nat) y, ts[j]? = some y → a1 99 (60 * (3 * p + k) + (j : Int)) = y) ∧ ∀ j, (j < 60 * (3 * p + k) ∨ 60 * (3 * p + k) + 60 ≤ j) → a1 99 j = a 99 j
/-- wish of the reference -/
theorem ym153 {a : xA} {p x n l : Int} {m : Nat} {r : Int ⊕ List Int} (h_p : xR p) (h_x : xR x) (h_n : xR n) (hg : a 87 4 = 0) (hl : a 87 9 = l) (hl0 : 0 ≤ l ∧ l ≤ 400) (ht : ∀ j, 0 ≤ j → j < n → a 93 j % 256 = t j) (hb : tB t) (hA : xAr a) (h96 : ∀ i, 0 ≤ i → 0 ≤ a 96 i ∧ a 96 i ≤ 3) (hd : 8 ≤ d)
    (hr : (1 ≤ p ∧ p ≤ 3 ∧ 1 ≤ x ∧ x ≤ 9 ∧ 1 ≤ n ∧ n ≤ 40 ∧ a 96 p < 3 ∧ n ≤ l) → wRun t n m true 0 [] [] = some r)
    (hR : ¬ (1 ≤ p ∧ p ≤ 3 ∧ 1 ≤ x ∧ x ≤ 9 ∧ 1 ≤ n ∧ n ≤ 40 ∧ a 96 p < 3 ∧ n ≤ l) → Q (some (xV (-1))) (xS a b))
    (hB : (1 ≤ p ∧ p ≤ 3 ∧ 1 ≤ x ∧ x ≤ 9 ∧ 1 ≤ n ∧ n ≤ 40 ∧ a 96 p < 3 ∧ n ≤ l) → ∀ (a1 : xA) (f : Int), r = .inl f → xAr a1 → a1 87 9 = 0 → (∀ q j, q ≠ 87 → q ≠ 94 → q ≠ 95 → a1 q j = a q j) → zWr a a1 → Q (some (xV f)) (xS a1 b))
    (hG : (1 ≤ p ∧ p ≤ 3 ∧ 1 ≤ x ∧ x ≤ 9 ∧ 1 ≤ n ∧ n ≤ 40 ∧ a 96 p < 3 ∧ n ≤ l) → ∀ (a1 : xA) (ts : List Int), r = .inr ts → xAr a1 → a1 87 9 = 0 → vAr p (a 96 p) x ts a a1 → zWr a a1 → Q (some (xV (a 96 p))) (xS a1 b)) : pmCs ro d 153 [.ref 87, xV p, xV x, xV n] (xS a b) Q := by
  refine pmCs_deep (d := 8) (xg153 (w153 h_p h_x h_n hg hl (by decide) hl0 hA (by decide) ?_ ?_ ?_ ?_ ?_ ?_ ?_)) hd
  case refine_3 =>
    intro _ e1 e2 e3 e4 e5
    have h96p := h96 p (by omega)
    have hG0 : 1 ≤ p ∧ p ≤ 3 ∧ 1 ≤ x ∧ x ≤ 9 ∧ 1 ≤ n ∧ n ≤ 40 ∧ a 96 p < 3 ∧ n ≤ l := by omega
    generalize ha0 : xU (xU (xU (xU (xU a 87 10 0) 87 11 n) 87 13 0) 87 14 0) 87 15 0 = a0
    have f1 : ∀ q j, q ≠ 87 → a0 q j = a q j := fun q j h => by rw [← ha0, xUn h, xUn h, xUn h, xUn h, xUn h]
    have f2 : ∀ k, k ≠ 10 → k ≠ 11 → k ≠ 13 → k ≠ 14 → k ≠ 15 → a0 87 k = a 87 k := fun k q10 q11 q13 q14 q15 => by rw [← ha0, xUk q15, xUk q14, xUk q13, xUk q11, xUk q10]
    have hA0 : xAr a0 := by
      rw [← ha0]
      exact xAr_u (xAr_u (xAr_u (xAr_u (xAr_u hA xR0) h_n) xR0) xR0) xR0
    have hW : rW a0 a0 t n 0 [] [] := by
      refine ⟨⟨fun j j0 j1 => ?_, ?_, ?_⟩, hA0, ?_, fun j y g => (by cases g), ?_, fun j y g => (by cases g), ?_, fun y hy => (by cases hy), fun _ _ _ _ _ => rfl, fun _ _ _ _ _ _ _ => rfl⟩
      · rw [f1 93 j (by decide)]
        exact ht j j0 j1
      · rw [← ha0, xUk (by decide), xUk (by decide), xUk (by decide), xUa]
      · rw [← ha0, xUk (by decide), xUk (by decide), xUk (by decide), xUk (by decide), xUa]
      · rw [← ha0, xUk (by decide), xUa]
        rfl
      · rw [← ha0, xUa]
        rfl
      · rw [← ha0, xUk (by decide), xUk (by decide), xUa]
        rfl
    refine yk155 (by omega) (by omega) hb (by decide) (hr hG0) hW (fun a1 f p1 S1 o1 g1 g2 g3 g4 => ?_) (fun a1 ts p1 S1 g1 g2 g3 => ?_)
    · obtain ⟨k1, k2, _, _, _, _, _, _, k9, k10⟩ := g4
      refine w153f ⟨by omega, by omega⟩ g3 ?_
      refine hB hG0 _ f g1 (xAr_u k2 xR0) xUa (fun q j q87 q94 q95 => ?_) ⟨fun q j q87 q94 q95 q96 q97 q98 q99 => ?_, fun k q9 q10 q11 q12 q13 q14 q15 q22 => ?_⟩
      · rw [xUn q87, k9 q j q87 q94 q95, f1 q j q87]
      · rw [xUn q87, k9 q j q87 q94 q95, f1 q j q87]
      · rw [xUk q9, k10 k q10 q12 q13 q14 q15 q22, f2 k q10 q11 q13 q14 q15]
    · obtain ⟨k1, k2, _, _, k5, k6, _, _, k9, k10⟩ := g3
      have eo : ∀ q j, q ≠ 87 → q ≠ 94 → q ≠ 95 → a1 q j = a q j := fun q j q87 q94 q95 => by rw [k9 q j q87 q94 q95, f1 q j q87]
      have e96 : ∀ j, a1 96 j = a 96 j := fun j => eo 96 j (by decide) (by decide) (by decide)
      refine w153g (o := (ts.length : Int)) h_p h_x (by omega) (e96 p) (by omega) k5 ⟨by omega, by omega⟩ ?_
      have A2 : xAr (xU (xU (xU a1 87 9 0) 97 (3 * p + a 96 p) x) 98 (3 * p + a 96 p) (ts.length : Int)) := xAr_u (xAr_u (xAr_u k2 xR0) h_x) ⟨by omega, by omega⟩
      refine vl153 (k := a 96 p) (o := (ts.length : Int)) (a0 := xU (xU (xU a1 87 9 0) 97 (3 * p + a 96 p) x) 98 (3 * p + a 96 p) (ts.length : Int)) h_p h_x (by omega) (by omega) ⟨by omega, by omega⟩ ⟨by omega, by omega⟩ ?_ ?_ (fun a2 h1 h2 h3 h4 => ?_) ts.length 0 _ (by omega) ⟨by decide, by omega⟩ A2 (fun _ _ _ => rfl) (fun j j0 j1 => by omega) (fun _ _ => rfl)
      · rw [xUn (by decide), xUn (by decide), xUn (by decide)]
        exact e96 p
      · rw [xUn (by decide), xUn (by decide), xUk (by decide)]
        exact k5
      · refine hG hG0 _ ts g1 (xAr_u h1 ⟨by omega, by omega⟩) ?_ ⟨⟨xUa, fun j hj => ?_⟩, ⟨?_, fun j hj => ?_⟩, ⟨?_, fun j hj => ?_⟩, fun j y hy => ?_, fun j hj => ?_⟩ ⟨fun q j q87 q94 q95 q96 q97 q98 q99 => ?_, fun k q9 q10 q11 q12 q13 q14 q15 q22 => ?_⟩
        · rw [xUn (by decide), h2 87 9 (by decide), xUn (by decide), xUn (by decide), xUa]
        · rw [xUk hj, h2 96 j (by decide), xUn (by decide), xUn (by decide), xUn (by decide)]
          exact e96 j
        · rw [xUn (by decide), h2 97 _ (by decide), xUn (by decide), xUa]
        · rw [xUn (by decide), h2 97 _ (by decide), xUn (by decide), xUk hj, xUn (by decide)]
          exact eo 97 j (by decide) (by decide) (by decide)
        · rw [xUn (by decide), h2 98 _ (by decide), xUa]
        · rw [xUn (by decide), h2 98 _ (by decide), xUk hj, xUn (by decide), xUn (by decide)]
          exact eo 98 j (by decide) (by decide) (by decide)
        · have hj : j < ts.length := by
            rcases Nat.lt_or_ge j ts.length with h | h
            · exact h
            · rw [List.getElem?_eq_none h] at hy
              cases hy
          rw [xUn (by decide), h3 (j : Int) (by omega) (by omega), xUn (by decide), xUn (by decide), xUn (by decide)]
          exact k6 j y hy
        · rw [xUn (by decide), h4 j (by omega), xUn (by decide), xUn (by decide), xUn (by decide)]
          exact eo 99 j (by decide) (by decide) (by decide)
        · rw [xUn q96, h2 q j q99, xUn q98, xUn q97, xUn q87, k9 q j q87 q94 q95, f1 q j q87]
        · rw [xUn (by decide), h2 87 k (by decide), xUn (by decide), xUn (by decide), xUk q9, k10 k q10 q12 q13 q14 q15 q22, f2 k q10 q11 q13 q14 q15]
  all_goals (
    (try unfold xK)
    intros
    first
      | exact hR (by omega)
      | (exfalso; omega))
end
end
