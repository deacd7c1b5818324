section
/-! the reference does -/
section
set_option maxRecDepth 100000


section
variable {ro : Nat → Nat × (Nat → Int32)} {d : Nat} {Q : Option Value → pmS → Prop} {n f p k x : Int} {r r' : Int → Int} {a a' : xA} {b b' : xB}
/-- who sees a deed -/
abbrev uSb (p k : Int) (r : Int → Int) (q : Int) : Prop := ¬ q = p ∧ ¬ (uK k = 5 ∧ q = uX k) ∧ ¬ r q = 7 ∧ (r q = r p ∨ (uK k = 1 ∧ r q = uX k))
def uSg (p k : Int) (r : Int → Int) : Nat → Int
  | 0 => 0
  | m + 1 => uSg p k r m + (if uSb p k r m then ((2 ^ m : Nat) : Int) else 0)
theorem uSg_b : ∀ m : Nat, 0 ≤ uSg p k r m ∧ uSg p k r m < ((2 ^ m : Nat) : Int)
  | 0 => ⟨Int.le_refl 0, (by decide : (0 : Int) < ((2 ^ 0 : Nat) : Int))⟩
  | m + 1 => by
    have ih := uSg_b m
    have e : ((2 ^ (m + 1) : Nat) : Int) = 2 * ((2 ^ m : Nat) : Int) := by
      rw [Nat.pow_succ]
      omega
    show 0 ≤ uSg p k r m + (if uSb p k r m then ((2 ^ m : Nat) : Int) else 0) ∧ uSg p k r m + (if uSb p k r m then ((2 ^ m : Nat) : Int) else 0) < ((2 ^ (m + 1) : Nat) : Int)
    rw [e]
    split <;> omega
theorem uOr2 {m : Int} {q : Nat} (hq : q < 4) (h0 : 0 ≤ m) (h1 : m < ((2 ^ q : Nat) : Int)) : xOr m (1 * ((2 ^ q : Nat) : Int)) = m + ((2 ^ q : Nat) : Int) := by
  have key : ∀ q : Fin 4, ∀ m : Fin 8, (m.val : Int) < ((2 ^ q.val : Nat) : Int) → xOr (m.val : Int) (1 * ((2 ^ q.val : Nat) : Int)) = (m.val : Int) + ((2 ^ q.val : Nat) : Int) := by decide +kernel
  have h8 : ((2 ^ q : Nat) : Int) ≤ 8 := by
    have : 2 ^ q ≤ 2 ^ 3 := Nat.pow_le_pow_right (by decide) (by omega)
    omega
  have := key ⟨q, hq⟩ ⟨m.toNat, by omega⟩
  rw [show (((⟨m.toNat, by omega⟩ : Fin 8).val : Nat) : Int) = m by show ((m.toNat : Nat) : Int) = m; omega] at this
  exact this h1
/-- seenBy -/
theorem u210 (hA : xAr a) (hp : 0 ≤ p ∧ p ≤ 3) (hk : 0 ≤ k ∧ k < 61) (hd : 2 ≤ d) (hQ : Q (some (xV (uSg p k (a 88) 4))) (xS a b)) : pmCs ro d 210 [.ref 87, xV p, xV k] (xS a b) Q := by
  have hkb := uX_b hk
  have hkk : 1 ≤ uK k ∧ uK k ≤ 6 := hkb.2.2.2.2.2.2
  have hxk := uXb (k := k) ⟨by omega, hk.2⟩
  refine pmCs_deep (d := 2) (xg210 (w210 hA hp hk hkk hxk (by decide) (fun e => ?_) (fun e => ?_))) hd
  all_goals
    have loop : ∀ g : Int, (g = 0 ∧ ¬ uK k = 1) ∨ (g = 1 ∧ uK k = 1) → ∀ (m q : Nat) (v6 : Option Value), q + m = 4 → pmWp ro 1 12 210 1 20 [some (.ref 87), some (xV p), some (xV k), some (xV (uSg p k (a 88) q)), some (xV g), some (xV (q : Int)), v6] [] (xS a b) Q := by
      intro g hg m
      induction m with
      | zero =>
        intro q v6 hq
        have e4 : q = 4 := by omega
        subst e4
        have hb := uSg_b (p := p) (k := k) (r := a 88) 4
        have h16 : ((2 ^ 4 : Nat) : Int) = 16 := rfl
        refine w210q hA hp hk hkk hxk (by decide) (by decide) (by omega) (by omega) (fun _ => hQ) ?_ ?_ ?_ ?_ ?_ ?_ ?_ ?_ ?_ ?_ ?_ ?_ <;> (intro e; exact absurd (by decide) e)
      | succ m ih =>
        intro q v6 hq
        have hb := uSg_b (p := p) (k := k) (r := a 88) q
        have h8 : ((2 ^ q : Nat) : Int) ≤ 8 := by
          have : 2 ^ q ≤ 2 ^ 3 := Nat.pow_le_pow_right (by decide) (by omega)
          omega
        have yes : uSb p k (a 88) q → ∀ v6, pmWp ro 1 12 210 1 125 [some (.ref 87), some (xV p), some (xV k), some (xV (xOr (uSg p k (a 88) q) (1 * ((2 ^ (q : Int).toNat : Nat) : Int)))), some (xV g), some (xV (q : Int)), v6] [] (xS a b) Q := fun h v6 => w210n (by omega) (by
          rw [show (q : Int).toNat = q from rfl, uOr2 (by omega) hb.1 hb.2]
          have := ih (q + 1) v6 (by omega)
          rw [show uSg p k (a 88) (q + 1) = uSg p k (a 88) q + ((2 ^ q : Nat) : Int) from congrArg (fun z => uSg p k (a 88) q + z) (if_pos h)] at this
          exact this)
        have no : ¬ uSb p k (a 88) q → ∀ v6, pmWp ro 1 12 210 1 125 [some (.ref 87), some (xV p), some (xV k), some (xV (uSg p k (a 88) q)), some (xV g), some (xV (q : Int)), v6] [] (xS a b) Q := fun h v6 => w210n (by omega) (by
          have := ih (q + 1) v6 (by omega)
          rw [show uSg p k (a 88) (q + 1) = uSg p k (a 88) q + 0 from congrArg (fun z => uSg p k (a 88) q + z) (if_neg h), Int.add_zero] at this
          exact this)
        have e0 : a 88 (0 + (q : Int)) = a 88 (q : Int) := by rw [Int.zero_add]
        have e1 : a 88 (0 + p) = a 88 p := by rw [Int.zero_add]
        refine w210q hA hp hk hkk hxk (by decide) (by omega) (by omega) (by omega) (fun e => by omega) (fun _ e => no (fun h => h.1 e) _) (fun _ e2 e3 e4 e5 => yes ⟨e2, fun h => e3 h.1, e4, Or.inl (by rw [e0, e1] at e5; exact e5)⟩ _) (fun _ e2 e3 e4 e5 e6 => no (fun h => ?_) _) (fun _ e2 e3 e4 e5 e6 e7 => no (fun h => ?_) _) (fun _ e2 e3 e4 e5 e6 e7 => yes ⟨e2, fun h => e3 h.1, e4, Or.inr ⟨by omega, by rw [e0] at e7; exact e7⟩⟩ _) (fun _ e2 e3 e4 => no (fun h => h.2.2.1 e4) _) (fun _ e2 e3 e4 => no (fun h => h.2.1 ⟨e3, e4⟩) _) (fun _ e2 e3 e4 e5 e6 => yes ⟨e2, fun h => e4 h.2, e5, Or.inl (by rw [e0, e1] at e6; exact e6)⟩ _) (fun _ e2 e3 e4 e5 e6 e7 => no (fun h => ?_) _) (fun _ e2 e3 e4 e5 e6 e7 e8 => no (fun h => ?_) _) (fun _ e2 e3 e4 e5 e6 e7 e8 => yes ⟨e2, fun h => e4 h.2, e5, Or.inr ⟨by omega, by rw [e0] at e8; exact e8⟩⟩ _) (fun _ e2 e3 e4 e5 => no (fun h => h.2.2.1 e5) _)
        all_goals
          rw [e0, e1] at *
          obtain ⟨_, _, _, h4⟩ := h
          rcases h4 with h4 | h4
          · first | exact e5 h4 | exact e6 h4
          · first | omega | exact e7 h4.2 | exact e8 h4.2
  · exact loop 0 (Or.inl ⟨rfl, e⟩) 4 0 none rfl
  · exact loop 1 (Or.inr ⟨rfl, e⟩) 4 0 none rfl
end
end
end
section
/-! what a deed changes, by rows -/
section
set_option maxRecDepth 100000


section
variable {ro : Nat → Nat × (Nat → Int32)} {d : Nat} {Q : Option Value → pmS → Prop} {n f p k x : Int} {r r' : Int → Int} {a a' : xA} {b b' : xB}
/-- the same in all that counts -/
def uRq (r r' : Int → Int) : Prop := ∀ j, j < 41 ∨ 113 ≤ j → r' j = r j
theorem uRv_c (hn5 : n ≤ 5) (h : uRv n r) (e : uRq r r') : uRv n r' := by
  obtain ⟨h1, h2, h3, h4, h5, h6⟩ := h
  exact ⟨fun q q0 q1 => by rw [e q (by omega)]; exact h1 q q0 q1, fun y y0 y1 => by rw [e _ (by omega)]; exact h2 y y0 y1, fun y y0 y1 => by rw [e _ (by omega)]; exact h3 y y0 y1, fun f y f0 f1 y0 y1 => by rw [e _ (by omega)]; exact h4 f y f0 f1 y0 y1, fun f q f0 f1 q0 q1 => by rw [e _ (by omega)]; exact h5 f q f0 f1 q0 q1, fun f y f0 f1 yn y0 y1 => by rw [e _ (by omega)]; exact h6 f y f0 f1 yn y0 y1⟩
theorem uL1_c (e : uRq r r') (hp : 0 ≤ p ∧ p < 4) (hx : 0 ≤ x ∧ x < 5) : uRq (uL1 n p x r) (uL1 n p x r') := by
  intro j hj
  unfold uL1
  rw [e (4 + x) (by omega), e p (by omega), e (9 + x) (by omega)]
  have ej := e j hj
  split
  · split
    · dsimp only
      rw [ej]
    · dsimp only
      rw [ej]
  · exact ej
theorem uLr_c (hp : 0 ≤ p ∧ p < 4) : ∀ (m : Nat) (x : Int) (r r' : Int → Int), uRq r r' → 0 ≤ x → x + (m : Int) ≤ 5 → uRq (uLr n p m x r) (uLr n p m x r') := by
  intro m
  induction m with
  | zero => intro x r r' e _ _; exact e
  | succ m ih => intro x r r' e x0 x1; exact ih (x + 1) _ _ (uL1_c e hp ⟨x0, by omega⟩) (by omega) (by omega)
theorem uLq_c : ∀ (m : Nat) (p : Int) (r r' : Int → Int), uRq r r' → 0 ≤ p → p + (m : Int) ≤ 4 → uRq (uLq n m p r) (uLq n m p r') := by
  intro m
  induction m with
  | zero => intro x r r' e _ _; exact e
  | succ m ih => intro p r r' e x0 x1; exact ih (p + 1) _ _ (uLr_c ⟨x0, by omega⟩ 5 0 r r' e (by decide) (by decide)) (by omega) (by omega)
theorem uTh_c {v rm : Int} (e : uRq r r') (hv : v ≤ 20) : uTh r' rm v ↔ uTh r rm v := by
  constructor
  · rintro (h | ⟨h1, h2⟩)
    · exact Or.inl h
    · rw [e _ (by omega)] at h2
      exact Or.inr ⟨h1, h2⟩
  · rintro (h | ⟨h1, h2⟩)
    · exact Or.inl h
    · exact Or.inr ⟨h1, by rw [e _ (by omega)]; exact h2⟩
theorem uLk_c (hn5 : n ≤ 5) (e : uRq r r') (hr : uRv n r) (hf : 1 ≤ f ∧ f ≤ 3) : uRq (uLk n f r) (uLk n f r') := by
  intro j hj
  unfold uLk
  have ej := e j hj
  have ef := e f (by omega)
  by_cases c : 0 ≤ j - (14 + 9 * (f - 1)) ∧ j - (14 + 9 * (f - 1)) < n
  · rw [if_pos c, if_pos c, e (4 + (j - (14 + 9 * (f - 1)))) (by omega), ef, ej]
    have h1 := hr.2.1 (j - (14 + 9 * (f - 1))) c.1 c.2
    have h2 := hr.2.2.2.1 f (j - (14 + 9 * (f - 1))) hf.1 hf.2 c.1 (by omega)
    rw [show 14 + 9 * (f - 1) + (j - (14 + 9 * (f - 1))) = j by omega] at h2
    unfold uBt
    by_cases c1 : uTh r (r f) (r (4 + (j - (14 + 9 * (f - 1)))))
    · rw [if_pos c1, if_pos ((uTh_c e (by omega)).mpr c1)]
    · rw [if_neg c1, if_neg (fun h => c1 ((uTh_c e (by omega)).mp h))]
      by_cases c2 : uTh r (r f) (r j)
      · rw [if_pos c2, if_pos ((uTh_c e (by omega)).mpr c2)]
      · rw [if_neg c2, if_neg (fun h => c2 ((uTh_c e (by omega)).mp h))]
  · rw [if_neg c, if_neg c]
    by_cases c2 : (5 ≤ j - (14 + 9 * (f - 1)) ∧ j - (14 + 9 * (f - 1)) < 9) ∧ ¬ j - (14 + 9 * (f - 1)) - 5 = f
    · rw [if_pos c2, if_pos c2, e (j - (14 + 9 * (f - 1)) - 5) (by omega), ef, ej]
    · rw [if_neg c2, if_neg c2]
      exact ej
theorem uAr_c (hn5 : n ≤ 5) : ∀ (m : Nat) (f : Int) (r r' : Int → Int), uRq r r' → uRv n r → 1 ≤ f → f + (m : Int) ≤ 4 → uRq (uAr n m f r) (uAr n m f r') := by
  intro m
  induction m with
  | zero => intro x r r' e _ _ _; exact e
  | succ m ih =>
    intro f r r' e hr f0 f1
    show uRq (uAr n m (f + 1) (if r f = 7 then r else uLk n f r)) (uAr n m (f + 1) (if r' f = 7 then r' else uLk n f r'))
    rw [e f (by omega)]
    by_cases c : r f = 7
    · rw [if_pos c, if_pos c]
      exact ih (f + 1) r r' e hr (by omega) (by omega)
    · rw [if_neg c, if_neg c]
      exact ih (f + 1) _ _ (uLk_c hn5 e hr ⟨f0, by omega⟩) (uRv_k hn5 hr ⟨f0, by omega⟩ c) (by omega) (by omega)
theorem uAl_c (hn5 : n ≤ 5) (e : uRq r r') (hr : uRv n r) : uRq (uAl n r) (uAl n r') := uAr_c hn5 3 1 _ _ (uLq_c 4 0 r r' e (by decide) (by decide)) (uRv_f hn5 hr).1 (by decide) (by decide)
/-- a hit -/
def uZt (n p x : Int) (r : Int → Int) : Int → Int := fun j => if j = x then 7 else if 4 ≤ j ∧ j < 4 + n then (if r j = 10 + x then r p else r j) else if (14 ≤ j ∧ j < 41) ∧ (j - 14) % 9 = 5 + x ∧ r ((j - 14) / 9 + 1) = r p ∧ ¬ (j - 14) / 9 + 1 = x then 7 else r j
theorem u211 (hA : xAr a) (hn : a 87 2 = n) (hn0 : 0 ≤ n ∧ n ≤ 5) (hr : uRv n (a 88)) (hp : 0 ≤ p ∧ p ≤ 3) (hx : 0 ≤ x ∧ x ≤ 3) (hal : ¬ a 88 p = 7) (hd : 2 ≤ d) (hQ : ∀ a', (∀ q j, q ≠ 88 → a' q j = a q j) → xAr a' → a' 88 = uZt n p x (a 88) → Q none (xS a' b)) : pmCs ro d 211 [.ref 87, xV p, xV x] (xS a b) Q := by
  have hrm := hr.1 p (by omega) (by omega)
  have hrm : 0 ≤ a 88 p ∧ a 88 p ≤ 6 := by omega
  obtain ⟨R, hR⟩ : ∃ R, a 88 = R := ⟨_, rfl⟩
  refine pmCs_deep (d := 2) (xg211 (w211 hp hx ?_)) hd
  rw [Int.zero_add, Int.zero_add]
  rw [hR] at hQ hrm ⊢
  have lf : ∀ (m : Nat) (f : Int) (a1 : xA), f + (m : Int) = 4 → 1 ≤ f → (∀ q j, q ≠ 88 → a1 q j = a q j) → xAr a1 → (∀ j, j < 14 + 9 * (f - 1) ∨ 41 ≤ j → a1 88 j = uZt n p x R j) → (∀ j, 14 + 9 * (f - 1) ≤ j → a1 88 j = R j) →
      pmWp ro 1 12 211 0 78 [some (.ref 87), some (xV p), some (xV x), some (xV (R p)), some (xV f)] [] (xS a1 b) Q := by
    intro m
    induction m with
    | zero =>
      intro f a1 hf f1 g1 g2 g3 g4
      exact w211f g2 hx hrm (by decide) ⟨f1, by omega⟩ (fun _ => hQ a1 g1 g2 (funext fun j => g3 j (by omega))) (fun e => by omega) (fun e => by omega)
    | succ m ih =>
      intro f a1 hf f1 g1 g2 g3 g4
      have ef : a1 88 (0 + f) = if f = x then 7 else R f := by
        rw [Int.zero_add, g3 f (by omega)]
        unfold uZt
        by_cases c : f = x
        · rw [if_pos c, if_pos c]
        · rw [if_neg c, if_neg c, if_neg (by omega), if_neg (by omega)]
      have cell : ∀ j, 14 + 9 * (f - 1) ≤ j → j < 14 + 9 * f → uZt n p x R j = if j = 14 + 9 * (f - 1) + 5 + x ∧ R f = R p ∧ ¬ f = x then 7 else R j := by
        intro j j0 j1
        have e1 : (j - 14) / 9 + 1 = f := by omega
        unfold uZt
        rw [if_neg (by omega), if_neg (by omega), e1]
        by_cases c : j = 14 + 9 * (f - 1) + 5 + x ∧ R f = R p ∧ ¬ f = x
        · rw [if_pos c, if_pos ⟨by omega, by omega, c.2.1, c.2.2⟩]
        · rw [if_neg c, if_neg (fun h => c ⟨by omega, h.2.2.1, h.2.2.2⟩)]
      refine w211f g2 hx hrm (by decide) ⟨f1, by omega⟩ (fun e => by omega) (fun _ e => ?_) (fun _ e => ?_)
      · refine ih (f + 1) a1 (by omega) (by omega) g1 g2 (fun j hj => ?_) (fun j hj => g4 j (by omega))
        by_cases c : 14 + 9 * (f - 1) ≤ j ∧ j < 41
        · rw [g4 j c.1, cell j c.1 (by omega), if_neg (fun h => ?_)]
          rw [ef, if_neg h.2.2] at e
          exact e h.2.1
        · exact g3 j (by omega)
      · have hfx : ¬ f = x := fun c => by
          rw [ef, if_pos c] at e
          omega
        rw [ef, if_neg hfx] at e
        refine ih (f + 1) _ (by omega) (by omega) (fun q j h => by rw [xUn h]; exact g1 q j h) (xAr_u g2 ⟨by decide, by decide⟩) (fun j hj => ?_) (fun j hj => by rw [xUk (by omega)]; exact g4 j (by omega))
        by_cases c : 14 + 9 * (f - 1) ≤ j ∧ j < 41
        · rw [cell j c.1 (by omega)]
          by_cases c2 : j = 14 + 9 * (f - 1) + 5 + x
          · rw [if_pos ⟨c2, e, hfx⟩, c2, xUa]
          · rw [if_neg (fun h => c2 h.1), xUk c2]
            exact g4 j c.1
        · rw [xUk (by omega)]
          exact g3 j (by omega)
  have lt : ∀ (m : Nat) (t : Int) (a1 : xA), t + (m : Int) = n → 0 ≤ t → (∀ q j, q ≠ 88 → a1 q j = a q j) → xAr a1 → (∀ j, a1 88 j = if j = x then 7 else if 4 ≤ j ∧ j < 4 + t then (if R j = 10 + x then R p else R j) else R j) →
      pmWp ro 1 12 211 0 22 [some (.ref 87), some (xV p), some (xV x), some (xV (R p)), some (xV t)] [] (xS a1 b) Q := by
    intro m
    induction m with
    | zero =>
      intro t a1 ht t0 g1 g2 g3
      have et : t = n := by omega
      refine w211t g2 hx ((g1 87 2 (by decide)).trans hn) hn0 hrm (by decide) ⟨t0, by omega⟩ (fun _ => ?_) (fun e => by omega) (fun e => by omega)
      refine lf 3 1 a1 (by decide) (by decide) g1 g2 (fun j hj => ?_) (fun j hj => ?_)
      · rw [g3 j]
        unfold uZt
        rw [et]
        by_cases c : j = x
        · rw [if_pos c, if_pos c]
        · rw [if_neg c, if_neg c]
          by_cases c2 : 4 ≤ j ∧ j < 4 + n
          · rw [if_pos c2, if_pos c2]
          · rw [if_neg c2, if_neg c2, if_neg (by omega)]
      · rw [g3 j, if_neg (by omega), if_neg (by omega)]
    | succ m ih =>
      intro t a1 ht t0 g1 g2 g3
      have e4 : a1 88 (4 + t) = R (4 + t) := by rw [g3, if_neg (by omega), if_neg (by omega)]
      have nx : ∀ v, v = (if R (4 + t) = 10 + x then R p else R (4 + t)) → xR v → pmWp ro 1 12 211 0 22 [some (.ref 87), some (xV p), some (xV x), some (xV (R p)), some (xV (t + 1))] [] (xS (xU a1 88 (4 + t) v) b) Q := by
        intro v hv hvr
        refine ih (t + 1) _ (by omega) (by omega) (fun q j h => by rw [xUn h]; exact g1 q j h) (xAr_u g2 hvr) (fun j => ?_)
        by_cases c : j = 4 + t
        · rw [c, xUa, hv, if_neg (show ¬ 4 + t = x by omega), if_pos (show 4 ≤ 4 + t ∧ 4 + t < 4 + (t + 1) by omega)]
        · rw [xUk c, g3 j]
          by_cases c2 : 4 ≤ j ∧ j < 4 + t
          · rw [if_pos c2, if_pos (show 4 ≤ j ∧ j < 4 + (t + 1) by omega)]
          · rw [if_neg c2, if_neg (show ¬ (4 ≤ j ∧ j < 4 + (t + 1)) by omega)]
      refine w211t g2 hx ((g1 87 2 (by decide)).trans hn) hn0 hrm (by decide) ⟨t0, by omega⟩ (fun e => by omega) (fun _ e => ?_) (fun _ e => ?_)
      · rw [e4] at e ⊢
        exact nx _ (by rw [if_neg e]) (by rw [← e4]; exact g2 _ _)
      · rw [e4] at e
        exact nx _ (by rw [if_pos e]) ⟨by omega, by omega⟩
  refine lt n.toNat 0 _ (by omega) (by decide) (fun q j h => xUn h) (xAr_u hA ⟨by decide, by decide⟩) (fun j => ?_)
  by_cases c : j = x
  · rw [c, xUa, if_pos rfl]
  · rw [xUk c, if_neg c, if_neg (by omega), hR]
end
end
end
section
/-! the reference does a deed -/
section
set_option maxRecDepth 100000


section
variable {ro : Nat → Nat × (Nat → Int32)} {d : Nat} {Q : Option Value → pmS → Prop} {dr wp : Int → Int} {n f p k x : Int} {r r' : Int → Int} {a a' : xA} {b b' : xB}
/-- what a deed changes -/
def uDo (n p k : Int) (r : Int → Int) : Int → Int :=
  if uK k = 1 then fun j => if j = p then uX k else r j
  else if uK k = 2 then fun j => if j = 4 + uX k then 10 + p else r j
  else if uK k = 3 then fun j => if j = 4 + uX k then r p else r j
  else if uK k = 4 then fun j => if j = 4 + uX k then 10 + uY k else r j
  else if uK k = 5 then uZt n p (uX k) r
  else fun j => if j = 14 + 9 * (uY k - 1) + uX k then (if r (4 + uX k) = 20 then -1 else r (4 + uX k)) else r j
/-- and one more event -/
def uEv (r : Int → Int) : Int → Int := fun j => if j = 119 then r 119 + 1 else r j
/-- then all look -/
def uDe (n p k : Int) (r : Int → Int) : Int → Int := uAl n (uEv (uDo n p k r))
theorem uDo_1 (h : uK k = 1) : uDo n p k r = fun j => if j = p then uX k else r j := if_pos h
theorem uDo_2 (h : uK k = 2) : uDo n p k r = fun j => if j = 4 + uX k then 10 + p else r j := by
  unfold uDo
  rw [if_neg (by omega), if_pos h]
theorem uDo_3 (h : uK k = 3) : uDo n p k r = fun j => if j = 4 + uX k then r p else r j := by
  unfold uDo
  rw [if_neg (by omega), if_neg (by omega), if_pos h]
theorem uDo_4 (h : uK k = 4) : uDo n p k r = fun j => if j = 4 + uX k then 10 + uY k else r j := by
  unfold uDo
  rw [if_neg (by omega), if_neg (by omega), if_neg (by omega), if_pos h]
theorem uDo_5 (h : uK k = 5) : uDo n p k r = uZt n p (uX k) r := by
  unfold uDo
  rw [if_neg (by omega), if_neg (by omega), if_neg (by omega), if_neg (by omega), if_pos h]
theorem uDo_6 (h : uK k = 6) : uDo n p k r = fun j => if j = 14 + 9 * (uY k - 1) + uX k then (if r (4 + uX k) = 20 then -1 else r (4 + uX k)) else r j := by
  unfold uDo
  rw [if_neg (by omega), if_neg (by omega), if_neg (by omega), if_neg (by omega), if_neg (by omega)]
theorem uRv_e (hn5 : n ≤ 5) (h : uRv n r) : uRv n (uEv r) := by
  obtain ⟨h1, h2, h3, h4, h5, h6⟩ := h
  have e : ∀ j, j < 41 → uEv r j = r j := fun j hj => if_neg (by omega)
  exact ⟨fun q q0 q1 => by rw [e q (by omega)]; exact h1 q q0 q1, fun y y0 y1 => by rw [e _ (by omega)]; exact h2 y y0 y1, fun y y0 y1 => by rw [e _ (by omega)]; exact h3 y y0 y1, fun f y f0 f1 y0 y1 => by rw [e _ (by omega)]; exact h4 f y f0 f1 y0 y1, fun f q f0 f1 q0 q1 => by rw [e _ (by omega)]; exact h5 f q f0 f1 q0 q1, fun f y f0 f1 yn y0 y1 => by rw [e _ (by omega)]; exact h6 f y f0 f1 yn y0 y1⟩
/-- a row with one cell changed -/
theorem uRv_j {j v : Int} (hn5 : n ≤ 5) (h : uRv n r) (h1 : 0 ≤ j → j < 4 → 0 ≤ v ∧ v ≤ 7) (h2 : 4 ≤ j → j < 9 → (0 ≤ v ∧ v ≤ 6) ∨ (10 ≤ v ∧ v ≤ 13)) (h3 : j < 9 ∨ ∃ f x, (1 ≤ f ∧ f ≤ 3) ∧ (0 ≤ x ∧ x < n) ∧ j = 14 + 9 * (f - 1) + x ∧ ((-1 ≤ v ∧ v ≤ 6) ∨ (10 ≤ v ∧ v ≤ 13))) : uRv n (fun i => if i = j then v else r i) := by
  obtain ⟨g1, g2, g3, g4, g5, g6⟩ := h
  refine ⟨fun q q0 q1 => ?_, fun y y0 y1 => ?_, fun y y0 y1 => ?_, fun f y f0 f1 y0 y1 => ?_, fun f q f0 f1 q0 q1 => ?_, fun f y f0 f1 yn y0 y1 => ?_⟩ <;> dsimp only
  · by_cases c : q = j
    · rw [if_pos c]
      exact h1 (by omega) (by omega)
    · rw [if_neg c]
      exact g1 q q0 q1
  · by_cases c : 4 + y = j
    · rw [if_pos c]
      have := h2 (by omega) (by omega)
      omega
    · rw [if_neg c]
      exact g2 y y0 y1
  · by_cases c : 9 + y = j
    · rcases h3 with h3 | ⟨f, x, hf, hx, e, _⟩ <;> omega
    · rw [if_neg c]
      exact g3 y y0 y1
  · by_cases c : 14 + 9 * (f - 1) + y = j
    · rw [if_pos c]
      rcases h3 with h3 | ⟨f', x, hf, hx, e, e2⟩
      · omega
      · exact e2
    · rw [if_neg c]
      exact g4 f y f0 f1 y0 y1
  · by_cases c : 14 + 9 * (f - 1) + 5 + q = j
    · rcases h3 with h3 | ⟨f', x, hf, hx, e, e2⟩ <;> omega
    · rw [if_neg c]
      exact g5 f q f0 f1 q0 q1
  · by_cases c : 14 + 9 * (f - 1) + y = j
    · rcases h3 with h3 | ⟨f', x, hf, hx, e, e2⟩ <;> omega
    · rw [if_neg c]
      exact g6 f y f0 f1 yn y0 y1
theorem uRv_z (hn5 : n ≤ 5) (h : uRv n r) (hp : 0 ≤ p ∧ p ≤ 3) (hx : 0 ≤ x ∧ x ≤ 3) (hal : ¬ r p = 7) : uRv n (uZt n p x r) := by
  obtain ⟨g1, g2, g3, g4, g5, g6⟩ := h
  have hrm := g1 p hp.1 (by omega)
  refine ⟨fun q q0 q1 => ?_, fun y y0 y1 => ?_, fun y y0 y1 => ?_, fun f y f0 f1 y0 y1 => ?_, fun f q f0 f1 q0 q1 => ?_, fun f y f0 f1 yn y0 y1 => ?_⟩ <;> unfold uZt
  · by_cases c : q = x
    · rw [if_pos c]
      omega
    · rw [if_neg c, if_neg (by omega), if_neg (by omega)]
      exact g1 q q0 q1
  · rw [if_neg (by omega), if_pos (by omega)]
    by_cases c : r (4 + y) = 10 + x
    · rw [if_pos c]
      omega
    · rw [if_neg c]
      exact g2 y y0 y1
  · rw [if_neg (by omega), if_neg (by omega), if_neg (by omega)]
    exact g3 y y0 y1
  · rw [if_neg (by omega), if_neg (by omega), if_neg (by omega)]
    exact g4 f y f0 f1 y0 y1
  · rw [if_neg (by omega), if_neg (by omega)]
    have := g5 f q f0 f1 q0 q1
    by_cases c : (14 ≤ 14 + 9 * (f - 1) + 5 + q ∧ 14 + 9 * (f - 1) + 5 + q < 41) ∧ (14 + 9 * (f - 1) + 5 + q - 14) % 9 = 5 + x ∧ r ((14 + 9 * (f - 1) + 5 + q - 14) / 9 + 1) = r p ∧ ¬ (14 + 9 * (f - 1) + 5 + q - 14) / 9 + 1 = x
    · rw [if_pos c]
      omega
    · rw [if_neg c]
      exact this
  · rw [if_neg (by omega), if_neg (by omega), if_neg (by omega)]
    exact g6 f y f0 f1 yn y0 y1
/-- a deed that can be done leaves a row that may be -/
def uCd (n p k : Int) (r : Int → Int) : Prop := ¬ r p = 7 ∧ (uK k = 6 → uX k < n ∧ 1 ≤ uY k)
theorem uRv_d (hn5 : n ≤ 5) (h : uRv n r) (hp : 0 ≤ p ∧ p ≤ 3) (hk : 0 ≤ k ∧ k < 61) (hc : uCd n p k r) : uRv n (uDo n p k r) := by
  have hb := uX_b hk
  have hrm := h.1 p hp.1 (by omega)
  have hal := hc.1
  by_cases k1 : uK k = 1
  · rw [uDo_1 k1]
    have := hb.2.1 k1
    exact uRv_j hn5 h (fun _ _ => by omega) (fun _ _ => by omega) (Or.inl (by omega))
  by_cases k2 : uK k = 2
  · rw [uDo_2 k2]
    have := hb.2.2.1 (by omega)
    exact uRv_j hn5 h (fun _ _ => by omega) (fun _ _ => by omega) (Or.inl (by omega))
  by_cases k3 : uK k = 3
  · rw [uDo_3 k3]
    have := hb.2.2.1 (by omega)
    exact uRv_j hn5 h (fun _ _ => by omega) (fun _ _ => by omega) (Or.inl (by omega))
  by_cases k4 : uK k = 4
  · rw [uDo_4 k4]
    have := hb.2.2.1 (by omega)
    have := hb.2.2.2.2.1 (by omega)
    exact uRv_j hn5 h (fun _ _ => by omega) (fun _ _ => by omega) (Or.inl (by omega))
  by_cases k5 : uK k = 5
  · rw [uDo_5 k5]
    have := hb.2.2.2.1 k5
    exact uRv_z hn5 h hp ⟨hb.1, by omega⟩ hal
  · have k6 : uK k = 6 := by omega
    rw [uDo_6 k6]
    have hx := hb.2.2.1 (by omega)
    have hy := hb.2.2.2.2.1 (by omega)
    obtain ⟨c1, c2⟩ := hc.2 k6
    have h2 := h.2.1 (uX k) hb.1 c1
    refine uRv_j hn5 h (fun _ _ => by omega) (fun _ _ => by omega) (Or.inr ⟨uY k, uX k, ⟨c2, by omega⟩, ⟨hb.1, c1⟩, rfl, ?_⟩)
    split <;> omega
theorem uDo_hi (hn5 : n ≤ 5) (hp : 0 ≤ p ∧ p ≤ 3) (hk : 0 ≤ k ∧ k < 61) (h6 : uK k = 6 → 1 ≤ uY k) {j : Int} (hj : 41 ≤ j) : uDo n p k r j = r j := by
  have hb := uX_b hk
  by_cases k1 : uK k = 1
  · rw [uDo_1 k1]
    exact if_neg (by omega)
  by_cases k2 : uK k = 2
  · rw [uDo_2 k2]
    have := hb.2.2.1 (by omega)
    exact if_neg (by omega)
  by_cases k3 : uK k = 3
  · rw [uDo_3 k3]
    have := hb.2.2.1 (by omega)
    exact if_neg (by omega)
  by_cases k4 : uK k = 4
  · rw [uDo_4 k4]
    have := hb.2.2.1 (by omega)
    exact if_neg (by omega)
  by_cases k5 : uK k = 5
  · rw [uDo_5 k5]
    have := hb.2.2.2.1 k5
    unfold uZt
    rw [if_neg (by omega), if_neg (by omega), if_neg (by omega)]
  · have k6 : uK k = 6 := by omega
    rw [uDo_6 k6]
    have hx := hb.2.2.1 (by omega)
    have hy := hb.2.2.2.2.1 (by omega)
    exact if_neg (by omega)
/-- does -/
theorem u209 (hA : xAr a) (hn : a 87 2 = n) (hn0 : 0 ≤ n ∧ n ≤ 5) (hL : uLw a) (htn : 0 ≤ a 88 114 ∧ a 88 114 ≤ 99) (hev : 0 ≤ a 88 119 ∧ a 88 119 ≤ 1000) (hr : uRv n (a 88)) (hp : 0 ≤ p ∧ p ≤ 3) (hk : 0 ≤ k ∧ k < 61) (hc : uCd n p k (a 88)) (hd : 4 ≤ d) (hQ : ∀ a', (∀ q j, q ≠ 88 → a' q j = a q j) → xAr a' → uRv n (a' 88) → uRq (uDe n p k (a 88)) (a' 88) → Q (some (xV (uSg p k (a 88) 4))) (xS a' b)) : pmCs ro d 209 [.ref 87, xV p, xV k] (xS a b) Q := by
  have hb := uX_b hk
  have hsn := uSg_b (p := p) (k := k) (r := a 88) 4
  have h16 : ((2 ^ 4 : Nat) : Int) = 16 := rfl
  have hrm := hr.1 p hp.1 (by omega)
  have hal := hc.1
  refine pmCs_deep (d := 4) (xg209 (w209 (u210 hA hp hk (by decide) ?_))) hd
  obtain ⟨sn, esn⟩ : ∃ z, uSg p k (a 88) 4 = z := ⟨_, rfl⟩
  rw [esn] at hsn hQ ⊢
  have after : ∀ (a1 : xA) (v4 v5 : Option Value), (∀ q j, q ≠ 88 → a1 q j = a q j) → xAr a1 → a1 88 = uDo n p k (a 88) → pmWp ro 3 12 209 1 171 [some (.ref 87), some (xV p), some (xV k), some (xV sn), v4, v5] [] (xS a1 b) Q := by
    intro a1 v4 v5 g1 g2 g3
    have hi : ∀ j, 41 ≤ j → a1 88 j = a 88 j := fun j hj => by
      rw [g3]
      exact uDo_hi hn0.2 hp hk (fun e => (hc.2 e).2) hj
    have e119 := hi 119 (by decide)
    have e114 := hi 114 (by decide)
    refine w209a e119 hev ?_
    have hA2 : xAr (xU a1 88 119 (a 88 119 + 1)) := xAr_u g2 ⟨by omega, by omega⟩
    have eR : (xU a1 88 119 (a 88 119 + 1)) 88 = uEv (uDo n p k (a 88)) := by
      rw [xU_row]
      funext j
      show (if j = 119 then a 88 119 + 1 else a1 88 j) = if j = 119 then uDo n p k (a 88) 119 + 1 else uDo n p k (a 88) j
      rw [← g3, e119]
    refine u212 hA2 (uLw_o hL (fun q j e => by rw [xUn (by omega)]; exact g1 q j (by omega))) (by rw [xUk (by decide), e114]; exact htn) hp hk ⟨hsn.1, by omega⟩ (by decide) (fun a3 h3 => ?_)
    have hR3 : uRq (uEv (uDo n p k (a 88))) (a3 88) := fun j hj => by
      rw [h3.1 88 j (by omega), eR]
    have hv2 : uRv n (uEv (uDo n p k (a 88))) := uRv_e hn0.2 (uRv_d hn0.2 hr hp hk hc)
    refine w209b (u174 h3.2 ?_ hn0 (uRv_c hn0.2 hv2 hR3) (by decide) (fun a4 x4 A4 R4 => w209c ?_))
    · rw [h3.1 87 2 (by omega), xUn (by decide)]
      exact (g1 87 2 (by decide)).trans hn
    · have hq := uAl_c hn0.2 hR3 hv2
      refine hQ a4 (fun q j h => ?_) A4 (by rw [R4]; exact uRv_l hn0.2 (uRv_c hn0.2 hv2 hR3)) (by rw [R4]; exact hq)
      rw [x4 q j h, h3.1 q j (fun e => h e.1), xUn h]
      exact g1 q j h
  have hrow : ∀ j v, (xU a 88 j v) 88 = fun i => if i = j then v else a 88 i := fun j v => xU_row
  by_cases k1 : uK k = 1
  · have hx := hb.2.1 k1
    refine w209_1 hA hp hk k1 ⟨hb.1, hx⟩ (hb.2.2.2.2.2.1 (by omega)) (by decide) (after _ _ _ (fun q j h => xUn h) (xAr_u hA ⟨by omega, by omega⟩) ?_)
    rw [uDo_1 k1, hrow, Int.zero_add]
  by_cases k2 : uK k = 2
  · have hx := hb.2.2.1 (by omega)
    refine w209_2 hA hp hk k2 ⟨hb.1, hx⟩ (hb.2.2.2.2.2.1 (by omega)) (by decide) (after _ _ _ (fun q j h => xUn h) (xAr_u hA ⟨by omega, by omega⟩) ?_)
    rw [uDo_2 k2, hrow]
  by_cases k3 : uK k = 3
  · have hx := hb.2.2.1 (by omega)
    refine w209_3 hA hp hk k3 ⟨hb.1, hx⟩ (hb.2.2.2.2.2.1 (by omega)) (by decide) (after _ _ _ (fun q j h => xUn h) (xAr_u hA (hA _ _)) ?_)
    rw [uDo_3 k3, hrow, Int.zero_add]
  by_cases k4 : uK k = 4
  · have hx := hb.2.2.1 (by omega)
    have hy := hb.2.2.2.2.1 (by omega)
    refine w209_4 hA hp hk k4 ⟨hb.1, hx⟩ hy (by decide) (after _ _ _ (fun q j h => xUn h) (xAr_u hA ⟨by omega, by omega⟩) ?_)
    rw [uDo_4 k4, hrow]
  by_cases k5 : uK k = 5
  · have hx := hb.2.2.2.1 k5
    refine w209_5 hA hp hk k5 ⟨hb.1, hx⟩ (hb.2.2.2.2.2.1 (by omega)) (by decide) (u211 hA hn hn0 hr hp ⟨hb.1, by omega⟩ hal (by decide) (fun a1 x1 A1 R1 => w209h (after a1 _ _ x1 A1 ?_)))
    rw [R1, uDo_5 k5]
  · have k6 : uK k = 6 := by omega
    have hx := hb.2.2.1 (by omega)
    have hy := hb.2.2.2.2.1 (by omega)
    obtain ⟨c1, c2⟩ := hc.2 k6
    refine w209_6 hA hp hk k6 ⟨hb.1, hx⟩ ⟨c2, hy.2⟩ (by decide) (fun e => after _ _ _ (fun q j h => xUn h) (xAr_u hA (hA _ _)) ?_) (fun e => after _ _ _ (fun q j h => xUn h) (xAr_u hA ⟨by decide, by decide⟩) ?_)
    · rw [uDo_6 k6, hrow, if_neg e]
    · rw [uDo_6 k6, hrow, if_pos e]
end
end
end
section
/-! exact: the reference plays -/
section
set_option maxRecDepth 100000
theorem xi208 : pmInf[208]? = some pmI_208 := rfl
theorem xc208_0 : pmCode 208 0 = some (.iconst 0) ∧ 0 + 1 = 1 := ⟨rfl, rfl⟩
theorem xc208_1 : pmCode 208 1 = some (.istore_n 3) ∧ 1 + 1 = 2 := ⟨rfl, rfl⟩
theorem xc208_2 : pmCode 208 2 = some (.iload_n 3) ∧ 2 + 1 = 3 := ⟨rfl, rfl⟩
theorem xc208_3 : pmCode 208 3 = some (.iconst 4) ∧ 3 + 1 = 4 := ⟨rfl, rfl⟩
theorem xc208_4 : pmCode 208 4 = some (.if_icmp .ge 124) ∧ ((4 : Nat) : Int) + 124 = ((128 : Nat) : Int) ∧ 4 + 3 = 7 := ⟨rfl, rfl, rfl⟩
theorem xc208_7 : pmCode 208 7 = some (.aload_n 0) ∧ 7 + 1 = 8 := ⟨rfl, rfl⟩
theorem xc208_8 : pmCode 208 8 = some (.getfield 106) ∧ 8 + 3 = 11 := ⟨rfl, rfl⟩
theorem xc208_11 : pmCode 208 11 = some (.iload_n 3) ∧ 11 + 1 = 12 := ⟨rfl, rfl⟩
theorem xc208_12 : pmCode 208 12 = some (.aload_n 0) ∧ 12 + 1 = 13 := ⟨rfl, rfl⟩
theorem xc208_13 : pmCode 208 13 = some (.iload_n 3) ∧ 13 + 1 = 14 := ⟨rfl, rfl⟩
theorem xc208_14 : pmCode 208 14 = some (.invokevirtual 253) ∧ 14 + 3 = 17 := ⟨rfl, rfl⟩
theorem xc208_17 : pmCode 208 17 = some .bastore ∧ 17 + 1 = 18 := ⟨rfl, rfl⟩
theorem xc208_18 : pmCode 208 18 = some (.aload_n 0) ∧ 18 + 1 = 19 := ⟨rfl, rfl⟩
theorem xc208_19 : pmCode 208 19 = some (.getfield 97) ∧ 19 + 3 = 22 := ⟨rfl, rfl⟩
theorem xc208_22 : pmCode 208 22 = some (.iload_n 3) ∧ 22 + 1 = 23 := ⟨rfl, rfl⟩
theorem xc208_23 : pmCode 208 23 = some (.iconst (-1)) ∧ 23 + 1 = 24 := ⟨rfl, rfl⟩
theorem xc208_24 : pmCode 208 24 = some .iastore ∧ 24 + 1 = 25 := ⟨rfl, rfl⟩
theorem xc208_25 : pmCode 208 25 = some (.aload_n 0) ∧ 25 + 1 = 26 := ⟨rfl, rfl⟩
theorem xc208_26 : pmCode 208 26 = some (.getfield 100) ∧ 26 + 3 = 29 := ⟨rfl, rfl⟩
theorem xc208_29 : pmCode 208 29 = some (.iload_n 3) ∧ 29 + 1 = 30 := ⟨rfl, rfl⟩
theorem xc208_30 : pmCode 208 30 = some (.iconst (-1)) ∧ 30 + 1 = 31 := ⟨rfl, rfl⟩
theorem xc208_31 : pmCode 208 31 = some .iastore ∧ 31 + 1 = 32 := ⟨rfl, rfl⟩
theorem xc208_32 : pmCode 208 32 = some (.aload_n 0) ∧ 32 + 1 = 33 := ⟨rfl, rfl⟩
theorem xc208_33 : pmCode 208 33 = some (.getfield 103) ∧ 33 + 3 = 36 := ⟨rfl, rfl⟩
theorem xc208_36 : pmCode 208 36 = some (.iload_n 3) ∧ 36 + 1 = 37 := ⟨rfl, rfl⟩
theorem xc208_37 : pmCode 208 37 = some (.iconst (-1)) ∧ 37 + 1 = 38 := ⟨rfl, rfl⟩
theorem xc208_38 : pmCode 208 38 = some .iastore ∧ 38 + 1 = 39 := ⟨rfl, rfl⟩
theorem xc208_39 : pmCode 208 39 = some (.aload_n 0) ∧ 39 + 1 = 40 := ⟨rfl, rfl⟩
theorem xc208_40 : pmCode 208 40 = some (.getfield 106) ∧ 40 + 3 = 43 := ⟨rfl, rfl⟩
theorem xc208_43 : pmCode 208 43 = some (.iload_n 3) ∧ 43 + 1 = 44 := ⟨rfl, rfl⟩
theorem xc208_44 : pmCode 208 44 = some .baload ∧ 44 + 1 = 45 := ⟨rfl, rfl⟩
theorem xc208_45 : pmCode 208 45 = some (.ifCond .ne 6) ∧ ((45 : Nat) : Int) + 6 = ((51 : Nat) : Int) ∧ 45 + 3 = 48 := ⟨rfl, rfl, rfl⟩
theorem xc208_48 : pmCode 208 48 = some (.goto 74) ∧ ((48 : Nat) : Int) + 74 = ((122 : Nat) : Int) := ⟨rfl, rfl⟩
theorem xc208_51 : pmCode 208 51 = some (.iload_n 3) ∧ 51 + 1 = 52 := ⟨rfl, rfl⟩
theorem xc208_52 : pmCode 208 52 = some (.ifCond .ne 13) ∧ ((52 : Nat) : Int) + 13 = ((65 : Nat) : Int) ∧ 52 + 3 = 55 := ⟨rfl, rfl, rfl⟩
theorem xc208_55 : pmCode 208 55 = some (.aload_n 0) ∧ 55 + 1 = 56 := ⟨rfl, rfl⟩
theorem xc208_56 : pmCode 208 56 = some (.getfield 97) ∧ 56 + 3 = 59 := ⟨rfl, rfl⟩
theorem xc208_59 : pmCode 208 59 = some (.iload_n 3) ∧ 59 + 1 = 60 := ⟨rfl, rfl⟩
theorem xc208_60 : pmCode 208 60 = some (.iload_n 1) ∧ 60 + 1 = 61 := ⟨rfl, rfl⟩
theorem xc208_61 : pmCode 208 61 = some .iastore ∧ 61 + 1 = 62 := ⟨rfl, rfl⟩
theorem xc208_62 : pmCode 208 62 = some (.goto 33) ∧ ((62 : Nat) : Int) + 33 = ((95 : Nat) : Int) := ⟨rfl, rfl⟩
theorem xc208_65 : pmCode 208 65 = some (.iload_n 3) ∧ 65 + 1 = 66 := ⟨rfl, rfl⟩
theorem xc208_66 : pmCode 208 66 = some (.iload_n 2) ∧ 66 + 1 = 67 := ⟨rfl, rfl⟩
theorem xc208_67 : pmCode 208 67 = some (.if_icmp .eq 28) ∧ ((67 : Nat) : Int) + 28 = ((95 : Nat) : Int) ∧ 67 + 3 = 70 := ⟨rfl, rfl, rfl⟩
theorem xc208_70 : pmCode 208 70 = some (.aload_n 0) ∧ 70 + 1 = 71 := ⟨rfl, rfl⟩
theorem xc208_71 : pmCode 208 71 = some (.iload_n 3) ∧ 71 + 1 = 72 := ⟨rfl, rfl⟩
theorem xc208_72 : pmCode 208 72 = some (.invokevirtual 345) ∧ 72 + 3 = 75 := ⟨rfl, rfl⟩
theorem xc208_75 : pmCode 208 75 = some (.aload_n 0) ∧ 75 + 1 = 76 := ⟨rfl, rfl⟩
theorem xc208_76 : pmCode 208 76 = some (.getfield 97) ∧ 76 + 3 = 79 := ⟨rfl, rfl⟩
theorem xc208_79 : pmCode 208 79 = some (.iload_n 3) ∧ 79 + 1 = 80 := ⟨rfl, rfl⟩
theorem xc208_80 : pmCode 208 80 = some (.aload_n 0) ∧ 80 + 1 = 81 := ⟨rfl, rfl⟩
theorem xc208_81 : pmCode 208 81 = some (.getfield 327) ∧ 81 + 3 = 84 := ⟨rfl, rfl⟩
theorem xc208_84 : pmCode 208 84 = some .iastore ∧ 84 + 1 = 85 := ⟨rfl, rfl⟩
theorem xc208_85 : pmCode 208 85 = some (.aload_n 0) ∧ 85 + 1 = 86 := ⟨rfl, rfl⟩
theorem xc208_86 : pmCode 208 86 = some (.getfield 103) ∧ 86 + 3 = 89 := ⟨rfl, rfl⟩
theorem xc208_89 : pmCode 208 89 = some (.iload_n 3) ∧ 89 + 1 = 90 := ⟨rfl, rfl⟩
theorem xc208_90 : pmCode 208 90 = some (.aload_n 0) ∧ 90 + 1 = 91 := ⟨rfl, rfl⟩
theorem xc208_91 : pmCode 208 91 = some (.getfield 324) ∧ 91 + 3 = 94 := ⟨rfl, rfl⟩
theorem xc208_94 : pmCode 208 94 = some .iastore ∧ 94 + 1 = 95 := ⟨rfl, rfl⟩
theorem xc208_95 : pmCode 208 95 = some (.aload_n 0) ∧ 95 + 1 = 96 := ⟨rfl, rfl⟩
theorem xc208_96 : pmCode 208 96 = some (.getfield 97) ∧ 96 + 3 = 99 := ⟨rfl, rfl⟩
theorem xc208_99 : pmCode 208 99 = some (.iload_n 3) ∧ 99 + 1 = 100 := ⟨rfl, rfl⟩
theorem xc208_100 : pmCode 208 100 = some .iaload ∧ 100 + 1 = 101 := ⟨rfl, rfl⟩
theorem xc208_101 : pmCode 208 101 = some (.iconst (-1)) ∧ 101 + 1 = 102 := ⟨rfl, rfl⟩
theorem xc208_102 : pmCode 208 102 = some (.if_icmp .eq 20) ∧ ((102 : Nat) : Int) + 20 = ((122 : Nat) : Int) ∧ 102 + 3 = 105 := ⟨rfl, rfl, rfl⟩
theorem xc208_105 : pmCode 208 105 = some (.aload_n 0) ∧ 105 + 1 = 106 := ⟨rfl, rfl⟩
theorem xc208_106 : pmCode 208 106 = some (.getfield 100) ∧ 106 + 3 = 109 := ⟨rfl, rfl⟩
theorem xc208_109 : pmCode 208 109 = some (.iload_n 3) ∧ 109 + 1 = 110 := ⟨rfl, rfl⟩
theorem xc208_110 : pmCode 208 110 = some (.aload_n 0) ∧ 110 + 1 = 111 := ⟨rfl, rfl⟩
theorem xc208_111 : pmCode 208 111 = some (.iload_n 3) ∧ 111 + 1 = 112 := ⟨rfl, rfl⟩
theorem xc208_112 : pmCode 208 112 = some (.aload_n 0) ∧ 112 + 1 = 113 := ⟨rfl, rfl⟩
theorem xc208_113 : pmCode 208 113 = some (.getfield 97) ∧ 113 + 3 = 116 := ⟨rfl, rfl⟩
theorem xc208_116 : pmCode 208 116 = some (.iload_n 3) ∧ 116 + 1 = 117 := ⟨rfl, rfl⟩
theorem xc208_117 : pmCode 208 117 = some .iaload ∧ 117 + 1 = 118 := ⟨rfl, rfl⟩
theorem xc208_118 : pmCode 208 118 = some (.invokevirtual 367) ∧ 118 + 3 = 121 := ⟨rfl, rfl⟩
theorem xc208_121 : pmCode 208 121 = some .iastore ∧ 121 + 1 = 122 := ⟨rfl, rfl⟩
theorem xc208_122 : pmCode 208 122 = some (.iinc 3 1) ∧ 122 + 3 = 125 := ⟨rfl, rfl⟩
theorem xc208_125 : pmCode 208 125 = some (.goto (-123)) ∧ ((125 : Nat) : Int) + (-123) = ((2 : Nat) : Int) := ⟨rfl, rfl⟩
theorem xc208_128 : pmCode 208 128 = some (.aload_n 0) ∧ 128 + 1 = 129 := ⟨rfl, rfl⟩
theorem xc208_129 : pmCode 208 129 = some (.invokevirtual 370) ∧ 129 + 3 = 132 := ⟨rfl, rfl⟩
theorem xc208_132 : pmCode 208 132 = some .return_ := rfl
theorem w208 {ro : Nat → Nat × (Nat → Int32)} {d : Nat} {Q : Option Value → pmS → Prop} {c wt : Int} {a : xA} {b : xB}
    (k1 : pmWp ro d 12 208 0 2 [some (.ref 87), some (xV c), some (xV wt), some (xV 0)] [] (xS a b) Q) :
    pmWp ro d 12 208 0 0 [some (.ref 87), some (xV c), some (xV wt), none] [] (xS a b) Q := by
  refine x_iconst xc208_0 ?_
  refine x_istoren (pl' := [some (.ref 87), some (xV c), some (xV wt), some (xV 0)]) xc208_1 rfl rfl ?_
  exact k1

theorem xg208 {ro : Nat → Nat × (Nat → Int32)} {d : Nat} {Q : Option Value → pmS → Prop} {a : xA} {b : xB} {c wt : Int} (h : pmWp ro d 12 208 0 0 [some (.ref 87), some (xV c), some (xV wt), none] [] (xS a b) Q) : pmCs ro (d + 1) 208 [.ref 87, xV c, xV wt] (xS a b) Q := x_go xi208 rfl rfl rfl rfl rfl h
theorem w208p {ro : Nat → Nat × (Nat → Int32)} {d : Nat} {Q : Option Value → pmS → Prop} {c wt p : Int} {a : xA} {b : xB} (hA : xAr a) (hp : 0 ≤ p ∧ p ≤ 4) (hc : -1 ≤ c ∧ c ≤ 60) (hwt : -1 ≤ wt ∧ wt ≤ 3) (hd : 1 ≤ d)
    (k1 : (4 ≤ p) → pmCs ro d 214 [.ref 87] (xS a b) fun r σ' => pmWp ro d 12 208 0 132 [some (.ref 87), some (xV c), some (xV wt), some (xV p)] (r.toList ++ []) σ' Q)
    (k2 : (¬ 4 ≤ p) → (¬ a 88 p = 7) → pmWp ro d 12 208 0 51 [some (.ref 87), some (xV c), some (xV wt), some (xV p)] [] (xS (xU (xU (xU (xU a 119 p 1) 116 p (-1)) 117 p (-1)) 118 p (-1)) b) Q)
    (k3 : (¬ 4 ≤ p) → (a 88 p = 7) → pmWp ro d 12 208 0 122 [some (.ref 87), some (xV c), some (xV wt), some (xV p)] [] (xS (xU (xU (xU (xU a 119 p 0) 116 p (-1)) 117 p (-1)) 118 p (-1)) b) Q) :
    pmWp ro d 12 208 0 2 [some (.ref 87), some (xV c), some (xV wt), some (xV p)] [] (xS a b) Q := by
  refine x_iloadn xc208_2 rfl ?_
  refine x_iconst xc208_3 ?_
  refine x_icge xc208_4 (xRk (by have g0 := hp; omega)) (xRk (by decide)) (fun h0 => ?_) (fun h0 => ?_)
  · refine x_aloadn xc208_128 rfl ?_
    refine x_cV (as := []) (rest := []) xc208_129 rfl xi214 xz87 ⟨rfl, rfl⟩ rfl rfl ?_
    exact k1 h0
  · refine x_aloadn xc208_7 rfl ?_
    refine x_gfr xc208_8 rfl rfl xz87 rfl ?_
    refine x_iloadn xc208_11 rfl ?_
    refine x_aloadn xc208_12 rfl ?_
    refine x_iloadn xc208_13 rfl ?_
    refine x_cV (as := [xV p]) (rest := [xV p, .ref 119]) xc208_14 rfl xi176 xz87 ⟨rfl, rfl⟩ rfl rfl ?_
    refine rk176 (by omega) hA (by have g0 := hp; omega) (fun h1 => ?_) (fun h2 => ?_)
    · refine x_zas (by omega) xc208_17 xz119 (by have g0 := hp; omega) (by have g0 := hp; omega) (by have g0 := hp; omega) ?_
      refine x_aloadn xc208_18 rfl ?_
      refine x_gfr xc208_19 rfl rfl xz87 rfl ?_
      refine x_iloadn xc208_22 rfl ?_
      refine x_iconst xc208_23 ?_
      refine x_ias xc208_24 xz116 (by have g0 := hp; omega) (by have g0 := hp; omega) (by have g0 := hp; omega) ?_
      refine x_aloadn xc208_25 rfl ?_
      refine x_gfr xc208_26 rfl rfl xz87 rfl ?_
      refine x_iloadn xc208_29 rfl ?_
      refine x_iconst xc208_30 ?_
      refine x_ias xc208_31 xz117 (by have g0 := hp; omega) (by have g0 := hp; omega) (by have g0 := hp; omega) ?_
      refine x_aloadn xc208_32 rfl ?_
      refine x_gfr xc208_33 rfl rfl xz87 rfl ?_
      refine x_iloadn xc208_36 rfl ?_
      refine x_iconst xc208_37 ?_
      refine x_ias xc208_38 xz118 (by have g0 := hp; omega) (by have g0 := hp; omega) (by have g0 := hp; omega) ?_
      refine x_aloadn xc208_39 rfl ?_
      refine x_gfr xc208_40 rfl rfl xz87 rfl ?_
      refine x_iloadn xc208_43 rfl ?_
      refine x_bal' (v := 1) xc208_44 xz119 (Or.inl rfl) (by have g0 := hp; omega) (by have g0 := hp; omega) (by have g0 := hp; omega) (by rw [xUn (by decide), xUn (by decide), xUn (by decide), xUa]) ?_
      refine x_ifne xc208_45 (xRk (by decide)) (fun _ => ?_) (fun h => absurd h (by omega))
      exact k2 h0 h1
    · refine x_zas (by omega) xc208_17 xz119 (by have g0 := hp; omega) (by have g0 := hp; omega) (by have g0 := hp; omega) ?_
      refine x_aloadn xc208_18 rfl ?_
      refine x_gfr xc208_19 rfl rfl xz87 rfl ?_
      refine x_iloadn xc208_22 rfl ?_
      refine x_iconst xc208_23 ?_
      refine x_ias xc208_24 xz116 (by have g0 := hp; omega) (by have g0 := hp; omega) (by have g0 := hp; omega) ?_
      refine x_aloadn xc208_25 rfl ?_
      refine x_gfr xc208_26 rfl rfl xz87 rfl ?_
      refine x_iloadn xc208_29 rfl ?_
      refine x_iconst xc208_30 ?_
      refine x_ias xc208_31 xz117 (by have g0 := hp; omega) (by have g0 := hp; omega) (by have g0 := hp; omega) ?_
      refine x_aloadn xc208_32 rfl ?_
      refine x_gfr xc208_33 rfl rfl xz87 rfl ?_
      refine x_iloadn xc208_36 rfl ?_
      refine x_iconst xc208_37 ?_
      refine x_ias xc208_38 xz118 (by have g0 := hp; omega) (by have g0 := hp; omega) (by have g0 := hp; omega) ?_
      refine x_aloadn xc208_39 rfl ?_
      refine x_gfr xc208_40 rfl rfl xz87 rfl ?_
      refine x_iloadn xc208_43 rfl ?_
      refine x_bal' (v := 0) xc208_44 xz119 (Or.inl rfl) (by have g0 := hp; omega) (by have g0 := hp; omega) (by have g0 := hp; omega) (by rw [xUn (by decide), xUn (by decide), xUn (by decide), xUa]) ?_
      refine x_ifne xc208_45 (xRk (by decide)) (fun h => absurd h (by omega)) (fun _ => ?_)
      refine x_goto xc208_48 ?_
      exact k3 h0 h2

theorem w208q {ro : Nat → Nat × (Nat → Int32)} {d : Nat} {Q : Option Value → pmS → Prop} {c wt p : Int} {a : xA} {b : xB} (hA : xAr a) (hp : 0 ≤ p ∧ p ≤ 3) (hc : -1 ≤ c ∧ c ≤ 60) (hwt : -1 ≤ wt ∧ wt ≤ 3) (hd : 1 ≤ d)
    (k1 : (¬ p = 0) → (p = wt) → pmWp ro d 12 208 0 95 [some (.ref 87), some (xV c), some (xV wt), some (xV p)] [] (xS a b) Q)
    (k2 : (¬ p = 0) → (¬ p = wt) → pmCs ro d 198 [.ref 87, xV p] (xS a b) fun r σ' => pmWp ro d 12 208 0 75 [some (.ref 87), some (xV c), some (xV wt), some (xV p)] (r.toList ++ []) σ' Q)
    (k3 : (p = 0) → pmWp ro d 12 208 0 95 [some (.ref 87), some (xV c), some (xV wt), some (xV p)] [] (xS (xU a 116 p c) b) Q) :
    pmWp ro d 12 208 0 51 [some (.ref 87), some (xV c), some (xV wt), some (xV p)] [] (xS a b) Q := by
  refine x_iloadn xc208_51 rfl ?_
  refine x_ifne xc208_52 (xRk (by have g0 := hp; omega)) (fun h0 => ?_) (fun h0 => ?_)
  · refine x_iloadn xc208_65 rfl ?_
    refine x_iloadn xc208_66 rfl ?_
    refine x_iceq xc208_67 (xRk (by have g0 := hp; omega)) (xRk (by have g0 := hwt; omega)) (fun h1 => ?_) (fun h1 => ?_)
    · exact k1 h0 h1
    · refine x_aloadn xc208_70 rfl ?_
      refine x_iloadn xc208_71 rfl ?_
      refine x_cV (as := [xV p]) (rest := []) xc208_72 rfl xi198 xz87 ⟨rfl, rfl⟩ rfl rfl ?_
      exact k2 h0 h1
  · replace h0 := Classical.not_not.mp h0
    refine x_aloadn xc208_55 rfl ?_
    refine x_gfr xc208_56 rfl rfl xz87 rfl ?_
    refine x_iloadn xc208_59 rfl ?_
    refine x_iloadn xc208_60 rfl ?_
    refine x_ias xc208_61 xz116 (by have g0 := hp; omega) (by have g0 := hp; omega) (by have g0 := hp; omega) ?_
    refine x_goto xc208_62 ?_
    exact k3 h0

theorem w208w {ro : Nat → Nat × (Nat → Int32)} {d : Nat} {Q : Option Value → pmS → Prop} {c wt p k wd : Int} {a : xA} {b : xB} (hp : 0 ≤ p ∧ p ≤ 3) (hwd : a 87 43 = wd) (hwd0 : -1 ≤ wd ∧ wd ≤ 60) (hk : a 87 42 = k) (hk0 : -1 ≤ k ∧ k ≤ 2)
    (k1 : pmWp ro d 12 208 0 95 [some (.ref 87), some (xV c), some (xV wt), some (xV p)] [] (xS (xU (xU a 116 p wd) 118 p k) b) Q) :
    pmWp ro d 12 208 0 75 [some (.ref 87), some (xV c), some (xV wt), some (xV p)] [] (xS a b) Q := by
  refine x_aloadn xc208_75 rfl ?_
  refine x_gfr xc208_76 rfl rfl xz87 rfl ?_
  refine x_iloadn xc208_79 rfl ?_
  refine x_aloadn xc208_80 rfl ?_
  refine x_gfi' (k := 43) (v := wd) xc208_81 rfl (Or.inl rfl) rfl xz87 hwd ?_
  refine x_ias xc208_84 xz116 (by have g0 := hp; omega) (by have g0 := hp; omega) (by have g0 := hp; omega) ?_
  refine x_aloadn xc208_85 rfl ?_
  refine x_gfr xc208_86 rfl rfl xz87 rfl ?_
  refine x_iloadn xc208_89 rfl ?_
  refine x_aloadn xc208_90 rfl ?_
  refine x_gfi' (k := 42) (v := k) xc208_91 rfl (Or.inl rfl) rfl xz87 (by rw [xUn (by decide), hk]) ?_
  refine x_ias xc208_94 xz118 (by have g0 := hp; omega) (by have g0 := hp; omega) (by have g0 := hp; omega) ?_
  exact k1

theorem w208d {ro : Nat → Nat × (Nat → Int32)} {d : Nat} {Q : Option Value → pmS → Prop} {c wt p k : Int} {a : xA} {b : xB} (hp : 0 ≤ p ∧ p ≤ 3) (hk : a 116 p = k) (hk0 : -1 ≤ k ∧ k ≤ 60)
    (k1 : (k = -1) → pmWp ro d 12 208 0 122 [some (.ref 87), some (xV c), some (xV wt), some (xV p)] [] (xS a b) Q)
    (k2 : (¬ k = -1) → pmCs ro d 209 [.ref 87, xV p, xV k] (xS a b) fun r σ' => pmWp ro d 12 208 0 121 [some (.ref 87), some (xV c), some (xV wt), some (xV p)] (r.toList ++ [xV p, .ref 117]) σ' Q) :
    pmWp ro d 12 208 0 95 [some (.ref 87), some (xV c), some (xV wt), some (xV p)] [] (xS a b) Q := by
  refine x_aloadn xc208_95 rfl ?_
  refine x_gfr xc208_96 rfl rfl xz87 rfl ?_
  refine x_iloadn xc208_99 rfl ?_
  refine x_ial' (v := k) xc208_100 xz116 rfl (by have g0 := hp; omega) (by have g0 := hp; omega) (by have g0 := hp; omega) hk ?_
  refine x_iconst xc208_101 ?_
  refine x_iceq xc208_102 (xRk (by have g0 := hk0; omega)) (xRk (by decide)) (fun h0 => ?_) (fun h0 => ?_)
  · exact k1 h0
  · refine x_aloadn xc208_105 rfl ?_
    refine x_gfr xc208_106 rfl rfl xz87 rfl ?_
    refine x_iloadn xc208_109 rfl ?_
    refine x_aloadn xc208_110 rfl ?_
    refine x_iloadn xc208_111 rfl ?_
    refine x_aloadn xc208_112 rfl ?_
    refine x_gfr xc208_113 rfl rfl xz87 rfl ?_
    refine x_iloadn xc208_116 rfl ?_
    refine x_ial' (v := k) xc208_117 xz116 rfl (by have g0 := hp; omega) (by have g0 := hp; omega) (by have g0 := hp; omega) hk ?_
    refine x_cV (as := [xV p, xV k]) (rest := [xV p, .ref 117]) xc208_118 rfl xi209 xz87 ⟨rfl, rfl⟩ rfl rfl ?_
    exact k2 h0

theorem w208s {ro : Nat → Nat × (Nat → Int32)} {d : Nat} {Q : Option Value → pmS → Prop} {c wt p sn : Int} {a : xA} {b : xB} (hp : 0 ≤ p ∧ p ≤ 3) (hsn : 0 ≤ sn ∧ sn ≤ 15)
    (k1 : pmWp ro d 12 208 0 122 [some (.ref 87), some (xV c), some (xV wt), some (xV p)] [] (xS (xU a 117 p sn) b) Q) :
    pmWp ro d 12 208 0 121 [some (.ref 87), some (xV c), some (xV wt), some (xV p)] [xV sn, xV p, .ref 117] (xS a b) Q := by
  refine x_ias xc208_121 xz117 (by have g0 := hp; omega) (by have g0 := hp; omega) (by have g0 := hp; omega) ?_
  exact k1

theorem w208n {ro : Nat → Nat × (Nat → Int32)} {d : Nat} {Q : Option Value → pmS → Prop} {c wt p : Int} {a : xA} {b : xB} (hp : 0 ≤ p ∧ p ≤ 3)
    (k1 : pmWp ro d 12 208 0 2 [some (.ref 87), some (xV c), some (xV wt), some (xV (p + 1))] [] (xS a b) Q) :
    pmWp ro d 12 208 0 122 [some (.ref 87), some (xV c), some (xV wt), some (xV p)] [] (xS a b) Q := by
  refine x_iinc (pl' := [some (.ref 87), some (xV c), some (xV wt), some (xV (p + 1))]) xc208_122 rfl rfl ?_
  refine x_goto xc208_125 ?_
  exact k1

theorem w208e {ro : Nat → Nat × (Nat → Int32)} {d : Nat} {Q : Option Value → pmS → Prop} {c wt p : Int} {a : xA} {b : xB}
    (k1 : Q none (xS a b)) :
    pmWp ro d 12 208 0 132 [some (.ref 87), some (xV c), some (xV wt), some (xV p)] [] (xS a b) Q := by
  refine x_ret xc208_132 rfl ?_
  exact k1

end
end
section
/-! the reference plays a turn -/
section
set_option maxRecDepth 100000


section
variable {ro : Nat → Nat × (Nat → Int32)} {d : Nat} {Q : Option Value → pmS → Prop} {dr wp pr cnt W : Int → Int} {T : Int → List Int} {n f p k c wt : Int} {r r' : Int → Int} {a a' : xA} {b b' : xB}
/-- the wish that a folk follows, the deed that it does -/
noncomputable def uWk (dr wp pr cnt W : Int → Int) (T : Int → List Int) (n : Int) (r : Int → Int) (f : Int) : Int := by
  classical
  exact if h : ∃ k, uChs (cnt f) (fun i => W (f * 3 + i)) (fun i => uFd dr wp pr (T (f * 3 + i)) f (uMn n r f)) k then Classical.choose h else -1
theorem uWk_e (h : uChs (cnt f) (fun i => W (f * 3 + i)) (fun i => uFd dr wp pr (T (f * 3 + i)) f (uMn n r f)) k) : uWk dr wp pr cnt W T n r f = k := by
  unfold uWk
  have hx : ∃ k, uChs (cnt f) (fun i => W (f * 3 + i)) (fun i => uFd dr wp pr (T (f * 3 + i)) f (uMn n r f)) k := ⟨k, h⟩
  rw [dif_pos hx]
  exact uChs_u (Classical.choose_spec hx) h
noncomputable def uWd (dr wp pr cnt W : Int → Int) (T : Int → List Int) (n : Int) (r : Int → Int) (f : Int) : Int := if uWk dr wp pr cnt W T n r f = -1 then -1 else uFd dr wp pr (T (f * 3 + uWk dr wp pr cnt W T n r f)) f (uMn n r f)
/-- the deed of a person in a turn -/
noncomputable def uDc (dr wp pr cnt W : Int → Int) (T : Int → List Int) (n c wt p : Int) (r : Int → Int) : Int := if p = 0 then c else if p = wt then -1 else uWd dr wp pr cnt W T n r p
noncomputable def uS1 (dr wp pr cnt W : Int → Int) (T : Int → List Int) (n c wt p : Int) (r : Int → Int) : Int → Int := if r p = 7 ∨ uDc dr wp pr cnt W T n c wt p r = -1 then r else uDe n p (uDc dr wp pr cnt W T n c wt p r) r
noncomputable def uTr (dr wp pr cnt W : Int → Int) (T : Int → List Int) (n c wt : Int) (r : Int → Int) : Nat → Int → Int
  | 0 => r
  | m + 1 => uS1 dr wp pr cnt W T n c wt m (uTr dr wp pr cnt W T n c wt r m)
/-- what is told of a person's deed, the row being as ahead of it -/
noncomputable def uEn (dr wp pr cnt W : Int → Int) (T : Int → List Int) (n c wt : Int) (a : xA) (p : Int) (r : Int → Int) : Prop :=
  (a 119 p = if r p = 7 then 0 else 1) ∧ (a 116 p = if r p = 7 then -1 else uDc dr wp pr cnt W T n c wt p r) ∧ (a 117 p = if r p = 7 ∨ uDc dr wp pr cnt W T n c wt p r = -1 then -1 else uSg p (uDc dr wp pr cnt W T n c wt p r) r 4) ∧ (a 118 p = if r p = 7 ∨ p = 0 ∨ p = wt then -1 else uWk dr wp pr cnt W T n r p)
theorem uMn_q (hn5 : n ≤ 5) (e : uRq r r') (hf : 1 ≤ f ∧ f ≤ 3) : uMn n r' f = uMn n r f := by
  funext j
  unfold uMn
  by_cases c : j < 4
  · rw [if_pos c, if_pos c, e f (by omega), e _ (by omega)]
  · rw [if_neg c, if_neg c]
    by_cases c2 : j - 4 < n
    · rw [if_pos c2, if_pos c2, e j (by omega), e _ (by omega)]
    · rw [if_neg c2, if_neg c2]
theorem uWk_q (hn5 : n ≤ 5) (e : uRq r r') (hf : 1 ≤ f ∧ f ≤ 3) : uWk dr wp pr cnt W T n r' f = uWk dr wp pr cnt W T n r f := by
  unfold uWk
  rw [uMn_q hn5 e hf]
theorem uDc_q (hn5 : n ≤ 5) (e : uRq r r') (hp : 0 ≤ p ∧ p ≤ 3) : uDc dr wp pr cnt W T n c wt p r' = uDc dr wp pr cnt W T n c wt p r := by
  unfold uDc uWd
  by_cases c0 : p = 0
  · rw [if_pos c0, if_pos c0]
  · rw [if_neg c0, if_neg c0, uWk_q hn5 e ⟨by omega, hp.2⟩, uMn_q hn5 e ⟨by omega, hp.2⟩]
theorem uSg_q (e : uRq r r') (hp : 0 ≤ p ∧ p ≤ 3) : ∀ m : Nat, m ≤ 4 → uSg p k r' m = uSg p k r m
  | 0, _ => rfl
  | m + 1, h => by
    show uSg p k r' m + (if uSb p k r' m then ((2 ^ m : Nat) : Int) else 0) = uSg p k r m + (if uSb p k r m then ((2 ^ m : Nat) : Int) else 0)
    rw [uSg_q e hp m (by omega)]
    unfold uSb
    rw [e (m : Int) (by omega), e p (by omega)]
theorem uDe_q (hn5 : n ≤ 5) (e : uRq r r') (hr : uRv n r) (hp : 0 ≤ p ∧ p ≤ 3) (hk : 0 ≤ k ∧ k < 61) (hc : uCd n p k r) : uRq (uDe n p k r) (uDe n p k r') := by
  have hb := uX_b hk
  have e1 : uRq (uDo n p k r) (uDo n p k r') := by
    intro j hj
    have ej := e j hj
    by_cases k1 : uK k = 1
    · rw [uDo_1 k1, uDo_1 k1]
      dsimp only
      rw [ej]
    by_cases k2 : uK k = 2
    · rw [uDo_2 k2, uDo_2 k2]
      dsimp only
      rw [ej]
    by_cases k3 : uK k = 3
    · rw [uDo_3 k3, uDo_3 k3]
      dsimp only
      rw [ej, e p (by omega)]
    by_cases k4 : uK k = 4
    · rw [uDo_4 k4, uDo_4 k4]
      dsimp only
      rw [ej]
    by_cases k5 : uK k = 5
    · rw [uDo_5 k5, uDo_5 k5]
      unfold uZt
      by_cases c1 : 14 ≤ j ∧ j < 41
      · rw [ej, e p (by omega), e ((j - 14) / 9 + 1) (by omega)]
      · have n1 : ∀ z : Int, ¬ ((14 ≤ j ∧ j < 41) ∧ (j - 14) % 9 = 5 + uX k ∧ z = r p ∧ ¬ (j - 14) / 9 + 1 = uX k) := fun z h => c1 h.1
        have n2 : ¬ ((14 ≤ j ∧ j < 41) ∧ (j - 14) % 9 = 5 + uX k ∧ r' ((j - 14) / 9 + 1) = r' p ∧ ¬ (j - 14) / 9 + 1 = uX k) := fun h => c1 h.1
        rw [if_neg n2, if_neg (n1 _), ej, e p (by omega)]
    · have k6 : uK k = 6 := by omega
      have hx := hb.2.2.1 (by omega)
      rw [uDo_6 k6, uDo_6 k6]
      dsimp only
      rw [ej, e (4 + uX k) (by omega)]
  have e2 : uRq (uEv (uDo n p k r)) (uEv (uDo n p k r')) := by
    intro j hj
    unfold uEv
    rw [e1 j hj, e1 119 (by omega)]
  exact uAl_c hn5 e2 (uRv_e hn5 (uRv_d hn5 hr hp hk hc))
theorem uDe_v (hn5 : n ≤ 5) (hr : uRv n r) (hp : 0 ≤ p ∧ p ≤ 3) (hk : 0 ≤ k ∧ k < 61) (hc : uCd n p k r) : uRv n (uDe n p k r) ∧ uDe n p k r 114 = r 114 ∧ uDe n p k r 119 = r 119 + 1 := by
  have h1 := uRv_e hn5 (uRv_d hn5 hr hp hk hc)
  have hh : ∀ j, 41 ≤ j → uDo n p k r j = r j := fun j hj => uDo_hi hn5 hp hk (fun e => (hc.2 e).2) hj
  refine ⟨uRv_l hn5 h1, ?_, ?_⟩
  · unfold uDe
    rw [uAl_p hn5 h1 (by omega)]
    show (if (114 : Int) = 119 then _ else uDo n p k r 114) = _
    rw [if_neg (by decide)]
    exact hh 114 (by decide)
  · unfold uDe
    rw [uAl_p hn5 h1 (by omega)]
    show (if (119 : Int) = 119 then uDo n p k r 119 + 1 else _) = _
    rw [if_pos rfl, hh 119 (by decide)]
theorem uFd_b (hp : uPp pr) {S : Int → Int} {ts : List Int} : -1 ≤ uFd dr wp pr ts f S ∧ uFd dr wp pr ts f S ≤ 40 := by
  cases h : uHold f ts S with
  | true => rw [uFd_h h]; exact ⟨by decide, by decide⟩
  | false => rw [uFd_1 h]; exact uF1_b hp
theorem uWd_b (hK : uRk pr cnt W T) (hf : 1 ≤ f ∧ f ≤ 3) (h : uChs (cnt f) (fun i => W (f * 3 + i)) (fun i => uFd dr wp pr (T (f * 3 + i)) f (uMn n r f)) k) : (-1 ≤ k ∧ k ≤ 2) ∧ -1 ≤ uWd dr wp pr cnt W T n r f ∧ uWd dr wp pr cnt W T n r f ≤ 40 := by
  have hk := uWk_e h
  unfold uWd
  rw [hk]
  have hc := hK.1 f hf.1 hf.2
  rcases h with ⟨h1, _⟩ | ⟨h1, _, _⟩
  · rw [if_pos h1]
    omega
  · rw [if_neg (by omega)]
    exact ⟨by omega, uFd_b (hK.2 f k hf.1 hf.2 h1.1 h1.2).1.1⟩
/-- what a turn may change -/
def uPm (a a' : xA) (b b' : xB) : Prop := (∀ q j, q ≠ 88 → q ≠ 108 → q ≠ 109 → q ≠ 110 → q ≠ 111 → q ≠ 112 → q ≠ 113 → q ≠ 115 → q ≠ 116 → q ≠ 117 → q ≠ 118 → q ≠ 119 → ¬ (q = 87 ∧ (j = 33 ∨ j = 34 ∨ j = 41 ∨ j = 42 ∨ j = 43)) → a' q j = a q j) ∧ ∀ q j, q ≠ 114 → b' q j = b q j
theorem uPm_r : uPm a a b b := ⟨fun _ _ _ _ _ _ _ _ _ _ _ _ _ _ _ => rfl, fun _ _ _ => rfl⟩
theorem uPm_t {a'' : xA} {b'' : xB} (h : uPm a a' b b') (h' : uPm a' a'' b' b'') : uPm a a'' b b'' := ⟨fun q j e0 e1 e2 e3 e4 e5 e6 e7 e8 e9 e10 e11 e12 => (h'.1 q j e0 e1 e2 e3 e4 e5 e6 e7 e8 e9 e10 e11 e12).trans (h.1 q j e0 e1 e2 e3 e4 e5 e6 e7 e8 e9 e10 e11 e12), fun q j e => (h'.2 q j e).trans (h.2 q j e)⟩
theorem uPm_w (h : uWm a a' b b') : uPm a a' b b' := ⟨fun q j _ e1 e2 e3 e4 e5 e6 e7 _ _ _ _ e12 => h.1 q j e1 e2 e3 e4 e5 e6 e7 e12, h.2⟩
theorem uPm_8 (h : ∀ q j, q ≠ 88 → a' q j = a q j) : uPm a a' b b := ⟨fun q j e _ _ _ _ _ _ _ _ _ _ _ _ => h q j e, fun _ _ _ => rfl⟩
theorem uPm_u {q : Nat} {j v : Int} (hq : q = 116 ∨ q = 117 ∨ q = 118 ∨ q = 119) : uPm a (xU a q j v) b b := ⟨fun r i _ _ _ _ _ _ _ _ e8 e9 e10 e11 _ => xUn (by omega), fun _ _ _ => rfl⟩
end
end
end
