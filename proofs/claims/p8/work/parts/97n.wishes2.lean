/-! a wish taken, on both sides -/
section
variable {ro : Nat → Nat × (Nat → Int32)} {d : Nat} {Q : Option Value → pmS → Prop} {b : xB} {t : Int → Int}
theorem yl46 {p g z k r : Int} (h_p : xR p) (h_g : xR g) (hp : 1 ≤ p ∧ p ≤ 3) (hk0 : 0 ≤ k ∧ k < 3) : ∀ (m : Nat) (q : Int) (a : xA), q - p * 3 ≤ (m : Int) → p * 3 ≤ q ∧ q ≤ p * 3 + k → xAr a → (∀ i, 0 ≤ i → 0 ≤ a 11 i ∧ a 11 i ≤ 2) → (∀ a1, xAr a1 → (∀ q j, q ≠ 11 → a1 q j = a q j) → Q (some (xV k)) (xS a1 b)) →
    pmWp ro d 9 46 1 84 [some (.ref 7), some (xV p), some (xV g), some (.ref 32), some (xV z), some (xV k), some (xV r), some (xV q)] [] (xS a b) Q := by
  intro m
  induction m with
  | zero =>
    intro q a hm hq hA h11 hQ
    refine w46l h_p h_g hp hk0 hq rfl (h11 (q - 1) (by omega)) hA (fun _ => ?_) (fun e _ => by omega) (fun e _ => by omega)
    exact hQ _ (xAr_u hA ⟨by omega, by omega⟩) (fun q j h => by rw [xUn h])
  | succ m ih =>
    intro q a hm hq hA h11 hQ
    have hy := h11 (q - 1) (by omega)
    have hend : Q (some (xV k)) (xS (xU a 11 q k) b) := hQ _ (xAr_u hA ⟨by omega, by omega⟩) (fun q j h => by rw [xUn h])
    refine w46l h_p h_g hp hk0 hq rfl hy hA (fun _ => hend) (fun _ _ => hend) (fun e _ => ?_)
    refine ih (q + -1) _ (by omega) (by omega) (xAr_u hA ⟨by omega, by omega⟩) (fun i hi => ?_) (fun a1 g1 g2 => hQ a1 g1 (fun q j h => by rw [g2 q j h, xUn h]))
    by_cases hj : i = q
    · rw [hj, xUa]
      exact hy
    · rw [xUk (by omega)]
      exact h11 i hi
theorem yk46 {a : xA} {p g z k : Int} (h_g : xR g) (h_z : xR z) (hk : a 12 p = k) (hp : 1 ≤ p ∧ p ≤ 3) (hk0 : 0 ≤ k ∧ k < 3) (hA : xAr a) (h11 : ∀ i, 0 ≤ i → 0 ≤ a 11 i ∧ a 11 i ≤ 2) (hd : 1 ≤ d)
    (hQ : ∀ a1, xAr a1 → a1 12 p = k + 1 → (∀ j, ¬ j = p → a1 12 j = a 12 j) → (∀ q j, q ≠ 8 → q ≠ 9 → q ≠ 10 → q ≠ 11 → q ≠ 12 → a1 q j = a q j) → Q (some (xV k)) (xS a1 b)) : pmCs ro d 46 [.ref 7, xV p, xV g, .ref 32, xV z] (xS a b) Q := by
  have h_p : xR p := ⟨by omega, by omega⟩
  refine pmCs_deep (d := 1) (xg46 (w46 h_p h_g h_z hk hp hk0 hA (fun e => by omega) (fun _ e => by omega) (fun _ _ _ => ?_) (fun _ _ e => by omega))) hd
  refine yl46 h_p h_g hp hk0 3 _ _ (by omega) (by omega) (xAr_u (xAr_u (xAr_u (xAr_cp hA) h_z) h_g) ⟨by omega, by omega⟩) (fun i hi => ?_) (fun a1 g1 g2 => hQ a1 g1 ?_ (fun j hj => ?_) (fun q j n8 n9 n10 n11 n12 => ?_))
  · rw [xUn (by decide), xUn (by decide), xUn (by decide), xCpN (by decide)]
    exact h11 i hi
  · rw [g2 12 p (by decide), xUa]
  · rw [g2 12 j (by decide), xUk (by omega), xUn (by decide), xUn (by decide), xCpN (by decide)]
  · rw [g2 q j n11, xUn n12, xUn n10, xUn n9, xCpN n8]
/-- what a wish may change: the class's side -/
def zWc (a a1 : xA) : Prop := ∀ q j, q ≠ 1 → q ≠ 8 → q ≠ 9 → q ≠ 10 → q ≠ 11 → q ≠ 12 → q ≠ 31 → q ≠ 32 → a1 q j = a q j
theorem yk31 {a : xA} {p x n l : Int} (h_p : xR p) (h_x : xR x) (h_n : xR n) (hg : a 0 12 = 0) (hl : a 1 1 = l) (hl0 : 0 ≤ l ∧ l ≤ 400) (ht : ∀ j, 0 ≤ j → j < n → a 2 j = t j) (hb : tB t) (hA : xAr a) (h11 : ∀ i, 0 ≤ i → 0 ≤ a 11 i ∧ a 11 i ≤ 2) (h12 : ∀ i, 0 ≤ i → 0 ≤ a 12 i ∧ a 12 i ≤ 3) (hd : 34 ≤ d)
    (hR : ¬ (1 ≤ p ∧ p ≤ 3 ∧ 1 ≤ x ∧ x ≤ 9 ∧ 1 ≤ n ∧ n ≤ 40 ∧ a 12 p < 3 ∧ n ≤ l) → Q (some (xV (-1))) (xS a b))
    (hB : (1 ≤ p ∧ p ≤ 3 ∧ 1 ≤ x ∧ x ≤ 9 ∧ 1 ≤ n ∧ n ≤ 40 ∧ a 12 p < 3 ∧ n ≤ l) → ∀ (a1 : xA) (f : Int) (m : Nat), wRun t n m true 0 [] [] = some (.inl f) → f < 0 ∧ -10000 < f → xAr a1 → a1 1 1 = 0 → (∀ j, a1 12 j = a 12 j) → zWc a a1 → Q (some (xV f)) (xS a1 b))
    (hG : (1 ≤ p ∧ p ≤ 3 ∧ 1 ≤ x ∧ x ≤ 9 ∧ 1 ≤ n ∧ n ≤ 40 ∧ a 12 p < 3 ∧ n ≤ l) → ∀ (a1 : xA) (ts : List Int) (m : Nat), wRun t n m true 0 [] [] = some (.inr ts) → xAr a1 → a1 1 1 = 0 → a1 12 p = a 12 p + 1 → (∀ j, ¬ j = p → a1 12 j = a 12 j) → zWc a a1 → Q (some (xV (a 12 p))) (xS a1 b)) : pmCs ro d 31 [.ref 0, xV p, xV x, xV n] (xS a b) Q := by
  refine pmCs_deep (d := 34) (xg31 (w31 h_p h_x h_n hg hl (by decide) hl0 hA (by decide) ?_ ?_ ?_ ?_ ?_ ?_ ?_ ?_ ?_ ?_ ?_ ?_ ?_ ?_)) hd
  case refine_11 =>
    intro e1 e2 e3 e4 e5 _ e6 e7
    have hG0 : 1 ≤ p ∧ p ≤ 3 ∧ 1 ≤ x ∧ x ≤ 9 ∧ 1 ≤ n ∧ n ≤ 40 ∧ a 12 p < 3 ∧ n ≤ l := by omega
    refine yk32 ⟨by omega, by omega⟩ hb hl e7 hl0.2 ht hA (by decide) (fun a1 ts m g1 g2 g3 g4 g5 g6 => ?_) (fun a1 f m g1 g2 g3 g4 => ?_)
    · refine w31b (f := 0) (Or.inr rfl) rfl (by decide) (fun _ => ?_) (fun e => absurd rfl e)
      have h12p := h12 p (by omega)
      have e12 : ∀ j, xU a1 1 1 0 12 j = a 12 j := fun j => by rw [xUn (by decide), g1 12 j (by decide) (by decide) (by decide)]
      refine yk46 h_x (g2 31 2) (e12 p) (by omega) (by omega) (xAr_u g2 xR0) (fun i hi => ?_) (by decide) (fun a2 k1 k2 k3 k4 => ?_)
      · rw [xUn (by decide), g1 11 i (by decide) (by decide) (by decide)]
        exact h11 i hi
      · refine w31c (hG hG0 a2 ts m g6 k1 ?_ k2 (fun j hj => ?_) (fun q j q1 q8 q9 q10 q11 q12 q31 q32 => ?_))
        · rw [k4 1 1 (by decide) (by decide) (by decide) (by decide) (by decide), xUa]
        · rw [k3 j hj, e12]
        · rw [k4 q j q8 q9 q10 q11 q12, xUn q1, g1 q j q1 q31 q32]
    · refine w31b (f := f) (Or.inl ⟨g3.2, g3.1⟩) rfl (by decide) (fun e => by omega) (fun _ => ?_)
      refine hB hG0 _ f m g4 g3 (xAr_u g2 xR0) xUa (fun j => ?_) (fun q j q1 q8 q9 q10 q11 q12 q31 q32 => ?_)
      · rw [xUn (by decide), g1 12 j (by decide) (by decide) (by decide)]
      · rw [xUn q1, g1 q j q1 q31 q32]
  all_goals (
    (try unfold xK)
    intros
    first
      | exact hR (by omega)
      | (exfalso; omega))
/-- what a wish may change: the reference's side -/
def zWr (a a1 : xA) : Prop := (∀ q j, q ≠ 87 → q ≠ 94 → q ≠ 95 → q ≠ 96 → q ≠ 97 → q ≠ 98 → q ≠ 99 → a1 q j = a q j) ∧ ∀ k, k ≠ 9 → k ≠ 10 → k ≠ 11 → k ≠ 12 → k ≠ 13 → k ≠ 14 → k ≠ 15 → k ≠ 22 → a1 87 k = a 87 k
theorem yl153 {p x n k o r : Int} {v4 : Option Value} (h_p : xR p) (h_x : xR x) (hp : 1 ≤ p ∧ p ≤ 3) (hk0 : 0 ≤ k ∧ k < 3) (ho0 : 0 ≤ o ∧ o ≤ 40) (hr : 3 ≤ r ∧ r < 12) : ∀ (m : Nat) (i : Int) (a : xA), o - i ≤ (m : Int) → 0 ≤ i ∧ i ≤ o → xAr a → a 96 p = k → a 87 15 = o → (∀ a1, xAr a1 → (∀ q j, q ≠ 99 → a1 q j = a q j) → Q (some (xV k)) (xS (xU a1 96 p (k + 1)) b)) →
    pmWp ro d 12 153 1 114 [some (.ref 87), some (xV p), some (xV x), some (xV n), v4, some (xV r), some (xV i)] [] (xS a b) Q := by
  intro m
  induction m with
  | zero =>
    intro i a hm hi hA hk ho hQ
    refine w153l h_p h_x hp hk hk0 ho ho0 hr hi hA (fun _ => ?_) (fun e => by omega)
    rw [show k + 1 - 1 = k by omega]
    exact hQ a hA (fun _ _ _ => rfl)
  | succ m ih =>
    intro i a hm hi hA hk ho hQ
    refine w153l h_p h_x hp hk hk0 ho ho0 hr hi hA (fun _ => ?_) (fun e => ?_)
    · rw [show k + 1 - 1 = k by omega]
      exact hQ a hA (fun _ _ _ => rfl)
    · refine ih (i + 1) _ (by omega) (by omega) (xAr_u hA (hA 95 i)) ?_ ?_ (fun a1 g1 g2 => hQ a1 g1 (fun q j h => by rw [g2 q j h, xUn h]))
      · rw [xUn (by decide)]
        exact hk
      · rw [xUn (by decide)]
        exact ho
theorem yk153 {a : xA} {p x n l : Int} {m : Nat} {r : Int ⊕ List Int} (h_p : xR p) (h_x : xR x) (h_n : xR n) (hg : a 87 4 = 0) (hl : a 87 9 = l) (hl0 : 0 ≤ l ∧ l ≤ 400) (ht : ∀ j, 0 ≤ j → j < n → a 93 j % 256 = t j) (hb : tB t) (hA : xAr a) (h96 : ∀ i, 0 ≤ i → 0 ≤ a 96 i ∧ a 96 i ≤ 3) (hd : 8 ≤ d)
    (hr : (1 ≤ p ∧ p ≤ 3 ∧ 1 ≤ x ∧ x ≤ 9 ∧ 1 ≤ n ∧ n ≤ 40 ∧ a 96 p < 3 ∧ n ≤ l) → wRun t n m true 0 [] [] = some r)
    (hR : ¬ (1 ≤ p ∧ p ≤ 3 ∧ 1 ≤ x ∧ x ≤ 9 ∧ 1 ≤ n ∧ n ≤ 40 ∧ a 96 p < 3 ∧ n ≤ l) → Q (some (xV (-1))) (xS a b))
    (hB : (1 ≤ p ∧ p ≤ 3 ∧ 1 ≤ x ∧ x ≤ 9 ∧ 1 ≤ n ∧ n ≤ 40 ∧ a 96 p < 3 ∧ n ≤ l) → ∀ (a1 : xA) (f : Int), r = .inl f → xAr a1 → a1 87 9 = 0 → (∀ j, a1 96 j = a 96 j) → zWr a a1 → Q (some (xV f)) (xS a1 b))
    (hG : (1 ≤ p ∧ p ≤ 3 ∧ 1 ≤ x ∧ x ≤ 9 ∧ 1 ≤ n ∧ n ≤ 40 ∧ a 96 p < 3 ∧ n ≤ l) → ∀ (a1 : xA) (ts : List Int), r = .inr ts → xAr a1 → a1 87 9 = 0 → a1 96 p = a 96 p + 1 → (∀ j, ¬ j = p → a1 96 j = a 96 j) → zWr a a1 → Q (some (xV (a 96 p))) (xS a1 b)) : pmCs ro d 153 [.ref 87, xV p, xV x, xV n] (xS a b) Q := by
  refine pmCs_deep (d := 8) (xg153 (w153 h_p h_x h_n hg hl (by decide) hl0 hA (by decide) ?_ ?_ ?_ ?_ ?_ ?_ ?_)) hd
  case refine_3 =>
    intro _ e1 e2 e3 e4 e5
    have h96p := h96 p (by omega)
    have hG0 : 1 ≤ p ∧ p ≤ 3 ∧ 1 ≤ x ∧ x ≤ 9 ∧ 1 ≤ n ∧ n ≤ 40 ∧ a 96 p < 3 ∧ n ≤ l := by omega
    generalize ha0 : xU (xU (xU (xU (xU a 87 10 0) 87 11 n) 87 13 0) 87 14 0) 87 15 0 = a0
    have f1 : ∀ q j, q ≠ 87 → a0 q j = a q j := fun q j h => by rw [← ha0, xUn h, xUn h, xUn h, xUn h, xUn h]
    have f2 : ∀ k, k ≠ 10 → k ≠ 11 → k ≠ 13 → k ≠ 14 → k ≠ 15 → a0 87 k = a 87 k := fun k q10 q11 q13 q14 q15 => by rw [← ha0, xUk q15, xUk q14, xUk q13, xUk q11, xUk q10]
    have hA0 : xAr a0 := by
      rw [← ha0]
      exact xAr_u (xAr_u (xAr_u (xAr_u (xAr_u hA xR0) h_n) xR0) xR0) xR0
    have hW : rW a0 a0 t n 0 [] [] := by
      refine ⟨⟨fun j j0 j1 => ?_, ?_, ?_⟩, hA0, ?_, fun j y g => (by cases g), ?_, fun j y g => (by cases g), ?_, fun y hy => (by cases hy), fun _ _ _ _ _ => rfl, fun _ _ _ _ _ _ _ => rfl⟩
      · rw [f1 93 j (by decide)]
        exact ht j j0 j1
      · rw [← ha0, xUk (by decide), xUk (by decide), xUk (by decide), xUa]
      · rw [← ha0, xUk (by decide), xUk (by decide), xUk (by decide), xUk (by decide), xUa]
      · rw [← ha0, xUk (by decide), xUa]
        rfl
      · rw [← ha0, xUa]
        rfl
      · rw [← ha0, xUk (by decide), xUk (by decide), xUa]
        rfl
    refine yk155 (by omega) (by omega) hb (by decide) (hr hG0) hW (fun a1 f p1 S1 o1 g1 g2 g3 g4 => ?_) (fun a1 ts p1 S1 g1 g2 g3 => ?_)
    · obtain ⟨k1, k2, _, _, _, _, _, _, k9, k10⟩ := g4
      refine w153f ⟨by omega, by omega⟩ g3 ?_
      refine hB hG0 _ f g1 (xAr_u k2 xR0) xUa (fun j => ?_) ⟨fun q j q87 q94 q95 q96 q97 q98 q99 => ?_, fun k q9 q10 q11 q12 q13 q14 q15 q22 => ?_⟩
      · rw [xUn (by decide), k9 96 j (by decide) (by decide) (by decide), f1 96 j (by decide)]
      · rw [xUn q87, k9 q j q87 q94 q95, f1 q j q87]
      · rw [xUk q9, k10 k q10 q12 q13 q14 q15 q22, f2 k q10 q11 q13 q14 q15]
    · obtain ⟨k1, k2, _, _, k5, _, _, _, k9, k10⟩ := g3
      have e96 : ∀ j, a1 96 j = a 96 j := fun j => by rw [k9 96 j (by decide) (by decide) (by decide), f1 96 j (by decide)]
      refine w153g (o := (ts.length : Int)) h_p h_x (by omega) (e96 p) (by omega) k5 ⟨by omega, by omega⟩ ?_
      refine yl153 (k := a 96 p) (o := (ts.length : Int)) h_p h_x (by omega) (by omega) ⟨by omega, by omega⟩ ⟨by omega, by omega⟩ ts.length 0 _ (by omega) ⟨by decide, by omega⟩ (xAr_u (xAr_u (xAr_u k2 xR0) h_x) ⟨by omega, by omega⟩) ?_ ?_ (fun a2 h1 h2 => ?_)
      · rw [xUn (by decide), xUn (by decide), xUn (by decide)]
        exact e96 p
      · rw [xUn (by decide), xUn (by decide), xUk (by decide)]
        exact k5
      · refine hG hG0 _ ts g1 (xAr_u h1 ⟨by omega, by omega⟩) ?_ xUa (fun j hj => ?_) ⟨fun q j q87 q94 q95 q96 q97 q98 q99 => ?_, fun k q9 q10 q11 q12 q13 q14 q15 q22 => ?_⟩
        · rw [xUn (by decide), h2 87 9 (by decide), xUn (by decide), xUn (by decide), xUa]
        · rw [xUk hj, h2 96 j (by decide), xUn (by decide), xUn (by decide), xUn (by decide)]
          exact e96 j
        · rw [xUn q96, h2 q j q99, xUn q98, xUn q97, xUn q87, k9 q j q87 q94 q95, f1 q j q87]
        · rw [xUn (by decide), h2 87 k (by decide), xUn (by decide), xUn (by decide), xUk q9, k10 k q10 q12 q13 q14 q15 q22, f2 k q10 q11 q13 q14 q15]
  all_goals (
    (try unfold xK)
    intros
    first
      | exact hR (by omega)
      | (exfalso; omega))
end
