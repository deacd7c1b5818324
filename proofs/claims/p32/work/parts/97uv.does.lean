/-! what a deed changes, by rows -/
section
set_option maxRecDepth 100000


section
variable {ro : Nat → Nat × (Nat → Int32)} {d : Nat} {Q : Option Value → pmS → Prop} {n f p k x : Int} {r r' : Int → Int} {a a' : xA} {b b' : xB}
/-- the same in all that counts -/
def uRq (r r' : Int → Int) : Prop := ∀ j, j < 41 ∨ 113 ≤ j → r' j = r j
theorem uRv_c (hn5 : n ≤ 5) (h : uRv n r) (e : uRq r r') : uRv n r' := by
  obtain ⟨h1, h2, h3, h4, h5, h6⟩ := h
  exact ⟨fun q q0 q1 => by rw [e q (by omega)]; exact h1 q q0 q1, fun y y0 y1 => by rw [e _ (by omega)]; exact h2 y y0 y1, fun y y0 y1 => by rw [e _ (by omega)]; exact h3 y y0 y1, fun f y f0 f1 y0 y1 => by rw [e _ (by omega)]; exact h4 f y f0 f1 y0 y1, fun f q f0 f1 q0 q1 => by rw [e _ (by omega)]; exact h5 f q f0 f1 q0 q1, fun f y f0 f1 yn y0 y1 => by rw [e _ (by omega)]; exact h6 f y f0 f1 yn y0 y1⟩
theorem uL1_c (e : uRq r r') (hp : 0 ≤ p ∧ p < 4) (hx : 0 ≤ x ∧ x < 5) : uRq (uL1 n p x r) (uL1 n p x r') := by
  intro j hj
  unfold uL1
  rw [e (4 + x) (by omega), e p (by omega), e (9 + x) (by omega)]
  have ej := e j hj
  split
  · split
    · dsimp only
      rw [ej]
    · dsimp only
      rw [ej]
  · exact ej
theorem uLr_c (hp : 0 ≤ p ∧ p < 4) : ∀ (m : Nat) (x : Int) (r r' : Int → Int), uRq r r' → 0 ≤ x → x + (m : Int) ≤ 5 → uRq (uLr n p m x r) (uLr n p m x r') := by
  intro m
  induction m with
  | zero => intro x r r' e _ _; exact e
  | succ m ih => intro x r r' e x0 x1; exact ih (x + 1) _ _ (uL1_c e hp ⟨x0, by omega⟩) (by omega) (by omega)
theorem uLq_c : ∀ (m : Nat) (p : Int) (r r' : Int → Int), uRq r r' → 0 ≤ p → p + (m : Int) ≤ 4 → uRq (uLq n m p r) (uLq n m p r') := by
  intro m
  induction m with
  | zero => intro x r r' e _ _; exact e
  | succ m ih => intro p r r' e x0 x1; exact ih (p + 1) _ _ (uLr_c ⟨x0, by omega⟩ 5 0 r r' e (by decide) (by decide)) (by omega) (by omega)
theorem uTh_c {v rm : Int} (e : uRq r r') (hv : v ≤ 20) : uTh r' rm v ↔ uTh r rm v := by
  constructor
  · rintro (h | ⟨h1, h2⟩)
    · exact Or.inl h
    · rw [e _ (by omega)] at h2
      exact Or.inr ⟨h1, h2⟩
  · rintro (h | ⟨h1, h2⟩)
    · exact Or.inl h
    · exact Or.inr ⟨h1, by rw [e _ (by omega)]; exact h2⟩
theorem uLk_c (hn5 : n ≤ 5) (e : uRq r r') (hr : uRv n r) (hf : 1 ≤ f ∧ f ≤ 3) : uRq (uLk n f r) (uLk n f r') := by
  intro j hj
  unfold uLk
  have ej := e j hj
  have ef := e f (by omega)
  by_cases c : 0 ≤ j - (14 + 9 * (f - 1)) ∧ j - (14 + 9 * (f - 1)) < n
  · rw [if_pos c, if_pos c, e (4 + (j - (14 + 9 * (f - 1)))) (by omega), ef, ej]
    have h1 := hr.2.1 (j - (14 + 9 * (f - 1))) c.1 c.2
    have h2 := hr.2.2.2.1 f (j - (14 + 9 * (f - 1))) hf.1 hf.2 c.1 (by omega)
    rw [show 14 + 9 * (f - 1) + (j - (14 + 9 * (f - 1))) = j by omega] at h2
    unfold uBt
    by_cases c1 : uTh r (r f) (r (4 + (j - (14 + 9 * (f - 1)))))
    · rw [if_pos c1, if_pos ((uTh_c e (by omega)).mpr c1)]
    · rw [if_neg c1, if_neg (fun h => c1 ((uTh_c e (by omega)).mp h))]
      by_cases c2 : uTh r (r f) (r j)
      · rw [if_pos c2, if_pos ((uTh_c e (by omega)).mpr c2)]
      · rw [if_neg c2, if_neg (fun h => c2 ((uTh_c e (by omega)).mp h))]
  · rw [if_neg c, if_neg c]
    by_cases c2 : (5 ≤ j - (14 + 9 * (f - 1)) ∧ j - (14 + 9 * (f - 1)) < 9) ∧ ¬ j - (14 + 9 * (f - 1)) - 5 = f
    · rw [if_pos c2, if_pos c2, e (j - (14 + 9 * (f - 1)) - 5) (by omega), ef, ej]
    · rw [if_neg c2, if_neg c2]
      exact ej
theorem uAr_c (hn5 : n ≤ 5) : ∀ (m : Nat) (f : Int) (r r' : Int → Int), uRq r r' → uRv n r → 1 ≤ f → f + (m : Int) ≤ 4 → uRq (uAr n m f r) (uAr n m f r') := by
  intro m
  induction m with
  | zero => intro x r r' e _ _ _; exact e
  | succ m ih =>
    intro f r r' e hr f0 f1
    show uRq (uAr n m (f + 1) (if r f = 7 then r else uLk n f r)) (uAr n m (f + 1) (if r' f = 7 then r' else uLk n f r'))
    rw [e f (by omega)]
    by_cases c : r f = 7
    · rw [if_pos c, if_pos c]
      exact ih (f + 1) r r' e hr (by omega) (by omega)
    · rw [if_neg c, if_neg c]
      exact ih (f + 1) _ _ (uLk_c hn5 e hr ⟨f0, by omega⟩) (uRv_k hn5 hr ⟨f0, by omega⟩ c) (by omega) (by omega)
theorem uAl_c (hn5 : n ≤ 5) (e : uRq r r') (hr : uRv n r) : uRq (uAl n r) (uAl n r') := uAr_c hn5 3 1 _ _ (uLq_c 4 0 r r' e (by decide) (by decide)) (uRv_f hn5 hr).1 (by decide) (by decide)
/-- a hit -/
def uZt (n p x : Int) (r : Int → Int) : Int → Int := fun j => if j = x then 7 else if 4 ≤ j ∧ j < 4 + n then (if r j = 10 + x then r p else r j) else if (14 ≤ j ∧ j < 41) ∧ (j - 14) % 9 = 5 + x ∧ r ((j - 14) / 9 + 1) = r p ∧ ¬ (j - 14) / 9 + 1 = x then 7 else r j
theorem u211 (hA : xAr a) (hn : a 87 2 = n) (hn0 : 0 ≤ n ∧ n ≤ 5) (hr : uRv n (a 88)) (hp : 0 ≤ p ∧ p ≤ 3) (hx : 0 ≤ x ∧ x ≤ 3) (hal : ¬ a 88 p = 7) (hd : 2 ≤ d) (hQ : ∀ a', (∀ q j, q ≠ 88 → a' q j = a q j) → xAr a' → a' 88 = uZt n p x (a 88) → Q none (xS a' b)) : pmCs ro d 211 [.ref 87, xV p, xV x] (xS a b) Q := by
  have hrm := hr.1 p (by omega) (by omega)
  have hrm : 0 ≤ a 88 p ∧ a 88 p ≤ 6 := by omega
  obtain ⟨R, hR⟩ : ∃ R, a 88 = R := ⟨_, rfl⟩
  refine pmCs_deep (d := 2) (xg211 (w211 hp hx ?_)) hd
  rw [Int.zero_add, Int.zero_add]
  rw [hR] at hQ hrm ⊢
  have lf : ∀ (m : Nat) (f : Int) (a1 : xA), f + (m : Int) = 4 → 1 ≤ f → (∀ q j, q ≠ 88 → a1 q j = a q j) → xAr a1 → (∀ j, j < 14 + 9 * (f - 1) ∨ 41 ≤ j → a1 88 j = uZt n p x R j) → (∀ j, 14 + 9 * (f - 1) ≤ j → a1 88 j = R j) →
      pmWp ro 1 12 211 0 78 [some (.ref 87), some (xV p), some (xV x), some (xV (R p)), some (xV f)] [] (xS a1 b) Q := by
    intro m
    induction m with
    | zero =>
      intro f a1 hf f1 g1 g2 g3 g4
      exact w211f g2 hx hrm (by decide) ⟨f1, by omega⟩ (fun _ => hQ a1 g1 g2 (funext fun j => g3 j (by omega))) (fun e => by omega) (fun e => by omega)
    | succ m ih =>
      intro f a1 hf f1 g1 g2 g3 g4
      have ef : a1 88 (0 + f) = if f = x then 7 else R f := by
        rw [Int.zero_add, g3 f (by omega)]
        unfold uZt
        by_cases c : f = x
        · rw [if_pos c, if_pos c]
        · rw [if_neg c, if_neg c, if_neg (by omega), if_neg (by omega)]
      have cell : ∀ j, 14 + 9 * (f - 1) ≤ j → j < 14 + 9 * f → uZt n p x R j = if j = 14 + 9 * (f - 1) + 5 + x ∧ R f = R p ∧ ¬ f = x then 7 else R j := by
        intro j j0 j1
        have e1 : (j - 14) / 9 + 1 = f := by omega
        unfold uZt
        rw [if_neg (by omega), if_neg (by omega), e1]
        by_cases c : j = 14 + 9 * (f - 1) + 5 + x ∧ R f = R p ∧ ¬ f = x
        · rw [if_pos c, if_pos ⟨by omega, by omega, c.2.1, c.2.2⟩]
        · rw [if_neg c, if_neg (fun h => c ⟨by omega, h.2.2.1, h.2.2.2⟩)]
      refine w211f g2 hx hrm (by decide) ⟨f1, by omega⟩ (fun e => by omega) (fun _ e => ?_) (fun _ e => ?_)
      · refine ih (f + 1) a1 (by omega) (by omega) g1 g2 (fun j hj => ?_) (fun j hj => g4 j (by omega))
        by_cases c : 14 + 9 * (f - 1) ≤ j ∧ j < 41
        · rw [g4 j c.1, cell j c.1 (by omega), if_neg (fun h => ?_)]
          rw [ef, if_neg h.2.2] at e
          exact e h.2.1
        · exact g3 j (by omega)
      · have hfx : ¬ f = x := fun c => by
          rw [ef, if_pos c] at e
          omega
        rw [ef, if_neg hfx] at e
        refine ih (f + 1) _ (by omega) (by omega) (fun q j h => by rw [xUn h]; exact g1 q j h) (xAr_u g2 ⟨by decide, by decide⟩) (fun j hj => ?_) (fun j hj => by rw [xUk (by omega)]; exact g4 j (by omega))
        by_cases c : 14 + 9 * (f - 1) ≤ j ∧ j < 41
        · rw [cell j c.1 (by omega)]
          by_cases c2 : j = 14 + 9 * (f - 1) + 5 + x
          · rw [if_pos ⟨c2, e, hfx⟩, c2, xUa]
          · rw [if_neg (fun h => c2 h.1), xUk c2]
            exact g4 j c.1
        · rw [xUk (by omega)]
          exact g3 j (by omega)
  have lt : ∀ (m : Nat) (t : Int) (a1 : xA), t + (m : Int) = n → 0 ≤ t → (∀ q j, q ≠ 88 → a1 q j = a q j) → xAr a1 → (∀ j, a1 88 j = if j = x then 7 else if 4 ≤ j ∧ j < 4 + t then (if R j = 10 + x then R p else R j) else R j) →
      pmWp ro 1 12 211 0 22 [some (.ref 87), some (xV p), some (xV x), some (xV (R p)), some (xV t)] [] (xS a1 b) Q := by
    intro m
    induction m with
    | zero =>
      intro t a1 ht t0 g1 g2 g3
      have et : t = n := by omega
      refine w211t g2 hx ((g1 87 2 (by decide)).trans hn) hn0 hrm (by decide) ⟨t0, by omega⟩ (fun _ => ?_) (fun e => by omega) (fun e => by omega)
      refine lf 3 1 a1 (by decide) (by decide) g1 g2 (fun j hj => ?_) (fun j hj => ?_)
      · rw [g3 j]
        unfold uZt
        rw [et]
        by_cases c : j = x
        · rw [if_pos c, if_pos c]
        · rw [if_neg c, if_neg c]
          by_cases c2 : 4 ≤ j ∧ j < 4 + n
          · rw [if_pos c2, if_pos c2]
          · rw [if_neg c2, if_neg c2, if_neg (by omega)]
      · rw [g3 j, if_neg (by omega), if_neg (by omega)]
    | succ m ih =>
      intro t a1 ht t0 g1 g2 g3
      have e4 : a1 88 (4 + t) = R (4 + t) := by rw [g3, if_neg (by omega), if_neg (by omega)]
      have nx : ∀ v, v = (if R (4 + t) = 10 + x then R p else R (4 + t)) → xR v → pmWp ro 1 12 211 0 22 [some (.ref 87), some (xV p), some (xV x), some (xV (R p)), some (xV (t + 1))] [] (xS (xU a1 88 (4 + t) v) b) Q := by
        intro v hv hvr
        refine ih (t + 1) _ (by omega) (by omega) (fun q j h => by rw [xUn h]; exact g1 q j h) (xAr_u g2 hvr) (fun j => ?_)
        by_cases c : j = 4 + t
        · rw [c, xUa, hv, if_neg (show ¬ 4 + t = x by omega), if_pos (show 4 ≤ 4 + t ∧ 4 + t < 4 + (t + 1) by omega)]
        · rw [xUk c, g3 j]
          by_cases c2 : 4 ≤ j ∧ j < 4 + t
          · rw [if_pos c2, if_pos (show 4 ≤ j ∧ j < 4 + (t + 1) by omega)]
          · rw [if_neg c2, if_neg (show ¬ (4 ≤ j ∧ j < 4 + (t + 1)) by omega)]
      refine w211t g2 hx ((g1 87 2 (by decide)).trans hn) hn0 hrm (by decide) ⟨t0, by omega⟩ (fun e => by omega) (fun _ e => ?_) (fun _ e => ?_)
      · rw [e4] at e ⊢
        exact nx _ (by rw [if_neg e]) (by rw [← e4]; exact g2 _ _)
      · rw [e4] at e
        exact nx _ (by rw [if_pos e]) ⟨by omega, by omega⟩
  refine lt n.toNat 0 _ (by omega) (by decide) (fun q j h => xUn h) (xAr_u hA ⟨by decide, by decide⟩) (fun j => ?_)
  by_cases c : j = x
  · rw [c, xUa, if_pos rfl]
  · rw [xUk c, if_neg c, if_neg (by omega), hR]
end
end
