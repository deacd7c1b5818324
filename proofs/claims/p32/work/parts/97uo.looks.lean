/-! a folk looks; all look -/
section
set_option maxRecDepth 100000


section
variable {ro : Nat → Nat × (Nat → Int32)} {d : Nat} {Q : Option Value → pmS → Prop} {n f p x rm v : Int} {r : Int → Int} {a a' : xA} {b b' : xB}
/-- a place that is a room, or with one who is there -/
abbrev uTh (r : Int → Int) (rm v : Int) : Prop := v = rm ∨ ((0 ≤ v - 10 ∧ v - 10 < 4) ∧ r (v - 10) = rm)
/-- a folk looks at one thing, at one person -/
def uBt (r : Int → Int) (rm sv bv : Int) : Int := if uTh r rm sv then sv else if uTh r rm bv then -1 else bv
def uBq (pv rm bv : Int) : Int := if pv = rm then rm else if bv = rm then -1 else bv
def uLk (n f : Int) (r : Int → Int) : Int → Int := fun j => if 0 ≤ j - (14 + 9 * (f - 1)) ∧ j - (14 + 9 * (f - 1)) < n then uBt r (r f) (r (4 + (j - (14 + 9 * (f - 1))))) (r j) else if (5 ≤ j - (14 + 9 * (f - 1)) ∧ j - (14 + 9 * (f - 1)) < 9) ∧ ¬ j - (14 + 9 * (f - 1)) - 5 = f then uBq (r (j - (14 + 9 * (f - 1)) - 5)) (r f) (r j) else r j
theorem uLk_lo (hf : 1 ≤ f) {j : Int} (hj : j < 14 ∨ 41 ≤ j) (hf3 : f ≤ 3) (hn : n ≤ 5) : uLk n f r j = r j := by
  unfold uLk
  rw [if_neg (by omega), if_neg (by omega)]
theorem uLk_t (hn : n ≤ 5) (h0 : 0 ≤ x) (h1 : x < n) : uLk n f r (14 + 9 * (f - 1) + x) = uBt r (r f) (r (4 + x)) (r (14 + 9 * (f - 1) + x)) := by
  unfold uLk
  rw [if_pos (by omega), show 14 + 9 * (f - 1) + x - (14 + 9 * (f - 1)) = x by omega]
theorem uLk_t2 (hn : n ≤ 5) (h0 : n ≤ x) (h1 : x < 5) (h2 : 0 ≤ x) : uLk n f r (14 + 9 * (f - 1) + x) = r (14 + 9 * (f - 1) + x) := by
  unfold uLk
  rw [if_neg (by omega), if_neg (by omega)]
theorem uLk_q (hn : n ≤ 5) (h0 : 0 ≤ x) (h1 : x < 4) (h : ¬ x = f) : uLk n f r (14 + 9 * (f - 1) + 5 + x) = uBq (r x) (r f) (r (14 + 9 * (f - 1) + 5 + x)) := by
  unfold uLk
  rw [if_neg (by omega), if_pos (by omega), show 14 + 9 * (f - 1) + 5 + x - (14 + 9 * (f - 1)) - 5 = x by omega]
theorem uLk_q2 (hn : n ≤ 5) (h : x = f) (hf : 1 ≤ f ∧ f ≤ 3) : uLk n f r (14 + 9 * (f - 1) + 5 + x) = r (14 + 9 * (f - 1) + 5 + x) := by
  unfold uLk
  rw [if_neg (by omega), if_neg (by omega)]
theorem uLk_o {g : Int} (hn : n ≤ 5) (hg : ¬ g = f) {j : Int} (j0 : 0 ≤ j) (j1 : j < 9) : uLk n f r (14 + 9 * (g - 1) + j) = r (14 + 9 * (g - 1) + j) := by
  unfold uLk
  rw [if_neg (by omega), if_neg (by omega)]
theorem uRv_k (hn5 : n ≤ 5) (h : uRv n r) (hf : 1 ≤ f ∧ f ≤ 3) (ha : ¬ r f = 7) : uRv n (uLk n f r) := by
  obtain ⟨h1, h2, h3, h4, h5, h6⟩ := h
  have hrm := h1 f (by omega) (by omega)
  refine ⟨fun q q0 q1 => by rw [uLk_lo hf.1 (by omega) hf.2 hn5]; exact h1 q q0 q1, fun y y0 y1 => by rw [uLk_lo hf.1 (by omega) hf.2 hn5]; exact h2 y y0 y1, fun y y0 y1 => by rw [uLk_lo hf.1 (by omega) hf.2 hn5]; exact h3 y y0 y1, fun g y g0 g1 y0 y1 => ?_, fun g q g0 g1 q0 q1 => ?_, fun g y g0 g1 yn y0 y1 => ?_⟩
  · by_cases c : g = f
    · subst c
      by_cases c2 : y < n
      · rw [uLk_t hn5 y0 c2]
        have hs := h2 y y0 c2
        have hb := h4 g y g0 g1 y0 y1
        unfold uBt
        split
        · rename_i ht
          rcases ht with e | e <;> omega
        · split
          · omega
          · exact hb
      · rw [uLk_t2 hn5 (by omega) y1 y0]
        exact h4 g y g0 g1 y0 y1
    · rw [uLk_o hn5 c y0 (by omega)]
      exact h4 g y g0 g1 y0 y1
  · by_cases c : g = f
    · subst c
      by_cases c2 : q = g
      · rw [uLk_q2 hn5 c2 hf]
        exact h5 g q g0 g1 q0 q1
      · rw [uLk_q hn5 q0 q1 c2]
        have hb := h5 g q g0 g1 q0 q1
        unfold uBq
        split
        · omega
        · split
          · omega
          · exact hb
    · rw [show 14 + 9 * (g - 1) + 5 + q = 14 + 9 * (g - 1) + (5 + q) by omega, uLk_o hn5 c (by omega) (by omega), show 14 + 9 * (g - 1) + (5 + q) = 14 + 9 * (g - 1) + 5 + q by omega]
      exact h5 g q g0 g1 q0 q1
  · by_cases c : g = f
    · subst c
      rw [uLk_t2 hn5 yn y1 y0]
      exact h6 g y g0 g1 yn y0 y1
    · rw [uLk_o hn5 c y0 (by omega)]
      exact h6 g y g0 g1 yn y0 y1
/-- looks -/
theorem u179 (hA : xAr a) (hn : a 87 2 = n) (hn0 : 0 ≤ n ∧ n ≤ 5) (hr : uRv n (a 88)) (hf : 1 ≤ f ∧ f ≤ 3) (ha : ¬ a 88 f = 7) (hd : 2 ≤ d) (hQ : ∀ a', (∀ q j, q ≠ 88 → a' q j = a q j) → xAr a' → a' 88 = uLk n f (a 88) → Q none (xS a' b)) : pmCs ro d 179 [.ref 87, xV f] (xS a b) Q := by
  have hrm := hr.1 f (by omega) (by omega)
  have hrm : 0 ≤ a 88 f ∧ a 88 f ≤ 6 := by omega
  obtain ⟨h1, h2, h3, h4, h5, h6⟩ := hr
  refine pmCs_deep (d := 2) (xg179 (w179 hf ?_)) hd
  rw [Int.zero_add]
  obtain ⟨R, hR⟩ : ∃ R, a 88 = R := ⟨_, rfl⟩
  rw [hR] at hQ hrm h1 h2 h3 h4 h5 h6 ha
  -- persons
  have lq : ∀ (m : Nat) (x : Int) (a1 : xA) (v4 v5 : Option Value), x + (m : Int) = 4 → 0 ≤ x → (∀ q j, q ≠ 88 → a1 q j = a q j) → xAr a1 → (∀ j, j < 14 ∨ 41 ≤ j → a1 88 j = R j) → (∀ q, x ≤ q → q < 4 → a1 88 (14 + 9 * (f - 1) + 5 + q) = R (14 + 9 * (f - 1) + 5 + q)) → (∀ j, (∀ q, x ≤ q → q < 4 → ¬ j = 14 + 9 * (f - 1) + 5 + q) → a1 88 j = uLk n f R j) →
      pmWp ro 1 12 179 0 120 [some (.ref 87), some (xV f), some (xV (R f)), some (xV x), v4, v5] [] (xS a1 b) Q := by
    intro m
    have fin : ∀ (x : Int) (a1 : xA), x = 4 → (∀ q j, q ≠ 88 → a1 q j = a q j) → xAr a1 → (∀ j, (∀ q, x ≤ q → q < 4 → ¬ j = 14 + 9 * (f - 1) + 5 + q) → a1 88 j = uLk n f R j) → Q none (xS a1 b) := fun x a1 hx g1 g2 g3 => hQ a1 g1 g2 (funext fun j => g3 j (fun q q0 q1 => by omega))
    induction m with
    | zero =>
      intro x a1 v4 v5 hx x0 g1 g2 g3 g4 g5
      have e4 : x = 4 := by omega
      subst e4
      exact w179q2 (fin 4 a1 rfl g1 g2 g5)
    | succ m ih =>
      intro x a1 v4 v5 hx x0 g1 g2 g3 g4 g5
      have hbv := h5 f x hf.1 hf.2 x0 (by omega)
      have ebv := g4 x (by omega) (by omega)
      have nx : ∀ a2 : xA, (∀ q j, q ≠ 88 → a2 q j = a1 q j) → xAr a2 → (∀ j, ¬ j = 14 + 9 * (f - 1) + 5 + x → a2 88 j = a1 88 j) → a2 88 (14 + 9 * (f - 1) + 5 + x) = uLk n f R (14 + 9 * (f - 1) + 5 + x) → pmWp ro 1 12 179 0 181 [some (.ref 87), some (xV f), some (xV (R f)), some (xV x), v4, v5] [] (xS a2 b) Q := by
        intro a2 y1 y2 y3 y4
        refine w179z ⟨x0, by omega⟩ ?_
        refine ih (x + 1) a2 v4 v5 (by omega) (by omega) (fun q j h => (y1 q j h).trans (g1 q j h)) y2 (fun j hj => (y3 j (by omega)).trans (g3 j hj)) (fun q q0 q1 => (y3 _ (by omega)).trans (g4 q (by omega) q1)) (fun j hj => ?_)
        by_cases c : j = 14 + 9 * (f - 1) + 5 + x
        · rw [c]
          exact y4
        · rw [y3 j c]
          refine g5 j (fun q q0 q1 => ?_)
          by_cases c2 : q = x
          · rw [c2]
            exact c
          · exact hj q (by omega) q1
      have ex : a1 88 x = R x := g3 x (by omega)
      refine w179q g2 hf hrm (by decide) ⟨x0, by omega⟩ ebv hbv (fun e => by omega) (fun _ e1 e2 => ?_) (fun _ e1 e2 e3 => ?_) (fun _ e1 e2 e3 => ?_) (fun _ e1 => ?_)
      · rw [ex] at e2
        refine nx _ (fun q j h => xUn h) (xAr_u g2 ⟨by omega, by omega⟩) (fun j h => xUk h) ?_
        rw [xUa, uLk_q hn0.2 x0 (by omega) e1]
        unfold uBq
        rw [if_pos e2.2]
      · rw [ex] at e2
        refine nx a1 (fun _ _ _ => rfl) g2 (fun _ _ => rfl) ?_
        rw [ebv] at e3 ⊢
        rw [uLk_q hn0.2 x0 (by omega) e1]
        unfold uBq
        rw [if_neg (fun h => e2 ⟨⟨x0, by omega⟩, h⟩), if_neg e3]
      · rw [ex] at e2
        refine nx _ (fun q j h => xUn h) (xAr_u g2 ⟨by decide, by decide⟩) (fun j h => xUk h) ?_
        rw [ebv] at e3
        rw [xUa, uLk_q hn0.2 x0 (by omega) e1]
        unfold uBq
        rw [if_neg (fun h => e2 ⟨⟨x0, by omega⟩, h⟩), if_pos e3]
      · refine nx a1 (fun _ _ _ => rfl) g2 (fun _ _ => rfl) ?_
        rw [uLk_q2 hn0.2 e1 hf]
        exact ebv
  -- things
  have lt : ∀ (m : Nat) (x : Int) (a1 : xA) (v4 v5 : Option Value), x + (m : Int) = n → 0 ≤ x → (∀ q j, q ≠ 88 → a1 q j = a q j) → xAr a1 → (∀ j, j < 14 ∨ 41 ≤ j → a1 88 j = R j) → (∀ j, (∀ y, 0 ≤ y → y < x → ¬ j = 14 + 9 * (f - 1) + y) → a1 88 j = R j) → (∀ y, 0 ≤ y → y < x → a1 88 (14 + 9 * (f - 1) + y) = uLk n f R (14 + 9 * (f - 1) + y)) →
      pmWp ro 1 12 179 0 11 [some (.ref 87), some (xV f), some (xV (R f)), some (xV x), v4, v5] [] (xS a1 b) Q := by
    intro m
    induction m with
    | zero =>
      intro x a1 v4 v5 hx x0 g1 g2 g3 g4 g5
      have en : x = n := by omega
      refine w179x2 ((g1 87 2 (by decide)).trans hn) hn0 ⟨x0, by omega⟩ (fun _ => ?_) (fun e => by omega)
      refine lq 4 0 a1 _ _ (by decide) (by decide) g1 g2 g3 (fun q q0 q1 => g4 _ (fun y y0 y1 => by omega)) (fun j hj => ?_)
      by_cases c : 0 ≤ j - (14 + 9 * (f - 1)) ∧ j - (14 + 9 * (f - 1)) < n
      · have := g5 (j - (14 + 9 * (f - 1))) c.1 (by omega)
        rw [show 14 + 9 * (f - 1) + (j - (14 + 9 * (f - 1))) = j by omega] at this
        exact this
      · rw [g4 j (fun y y0 y1 => by omega)]
        have c5 : ¬ ((5 ≤ j - (14 + 9 * (f - 1)) ∧ j - (14 + 9 * (f - 1)) < 9) ∧ ¬ j - (14 + 9 * (f - 1)) - 5 = f) := fun h => hj (j - (14 + 9 * (f - 1)) - 5) (by omega) (by omega) (by omega)
        unfold uLk
        rw [if_neg c, if_neg c5]
    | succ m ih =>
      intro x a1 v4 v5 hx x0 g1 g2 g3 g4 g5
      have xn : x < n := by omega
      have hs := h2 x x0 xn
      have hbv := h4 f x hf.1 hf.2 x0 (by omega)
      have ebv := g4 (14 + 9 * (f - 1) + x) (fun y y0 y1 => by omega)
      have esv : a1 88 (4 + x) = R (4 + x) := g3 _ (by omega)
      have eu := uLk_t (f := f) (r := R) hn0.2 x0 xn
      have nx : ∀ (a2 : xA) (v4 v5 : Option Value), (∀ q j, q ≠ 88 → a2 q j = a1 q j) → xAr a2 → (∀ j, ¬ j = 14 + 9 * (f - 1) + x → a2 88 j = a1 88 j) → a2 88 (14 + 9 * (f - 1) + x) = uLk n f R (14 + 9 * (f - 1) + x) → pmWp ro 1 12 179 0 112 [some (.ref 87), some (xV f), some (xV (R f)), some (xV x), v4, v5] [] (xS a2 b) Q := by
        intro a2 v4 v5 y1 y2 y3 y4
        refine w179y ⟨x0, by omega⟩ ?_
        refine ih (x + 1) a2 v4 v5 (by omega) (by omega) (fun q j h => (y1 q j h).trans (g1 q j h)) y2 (fun j hj => (y3 j (by omega)).trans (g3 j hj)) (fun j hj => ?_) (fun y y0 yx => ?_)
        · rw [y3 j (hj x x0 (by omega))]
          exact g4 j (fun y y0 yx => hj y y0 (by omega))
        · by_cases c : y = x
          · rw [c]
            exact y4
          · rw [y3 _ (by omega)]
            exact g5 y y0 (by omega)
      have ht : ∀ v : Int, (0 ≤ v - 10 ∧ v - 10 < 4) → a1 88 (v - 10) = R (v - 10) := fun v hv => g3 _ (by omega)
      have th : ∀ v : Int, ((0 ≤ v - 10 ∧ v - 10 < 4) ∧ a1 88 (v - 10) = R f) ↔ ((0 ≤ v - 10 ∧ v - 10 < 4) ∧ R (v - 10) = R f) := fun v => ⟨fun h => ⟨h.1, (ht v h.1).symm.trans h.2⟩, fun h => ⟨h.1, (ht v h.1).trans h.2⟩⟩
      refine w179x g2 hf ((g1 87 2 (by decide)).trans hn) hn0 hrm (by decide) ⟨x0, by omega⟩ esv (by omega) ebv (by omega) (fun e => by omega) (fun _ e1 => ?_) (fun _ e1 e2 => ?_) (fun _ e1 e2 e3 => ?_) (fun _ e1 e2 e3 e4 => ?_) (fun _ e1 e2 e3 e4 e5 => ?_) (fun _ e1 e2 e3 e4 e5 => ?_)
      · refine nx _ _ _ (fun q j h => xUn h) (xAr_u g2 ⟨by omega, by omega⟩) (fun j h => xUk h) ?_
        rw [xUa, eu]
        unfold uBt
        rw [if_pos (Or.inl e1)]
      · refine nx _ _ _ (fun q j h => xUn h) (xAr_u g2 ⟨by omega, by omega⟩) (fun j h => xUk h) ?_
        rw [xUa, eu]
        unfold uBt
        rw [if_pos (Or.inr ((th _).mp e2))]
      all_goals
        have c1 : ¬ uTh R (R f) (R (4 + x)) := fun h => h.elim e1 (fun h => e2 ((th _).mpr h))
        rw [ebv] at e3
      · refine nx _ _ _ (fun q j h => xUn h) (xAr_u g2 ⟨by decide, by decide⟩) (fun j h => xUk h) ?_
        rw [xUa, eu]
        unfold uBt
        rw [if_neg c1, if_pos (Or.inl e3)]
      · rw [ebv] at e4
        refine nx a1 _ _ (fun _ _ _ => rfl) g2 (fun _ _ => rfl) ?_
        rw [ebv, eu]
        unfold uBt
        rw [if_neg c1, if_neg (fun h => h.elim e3 (fun h => by omega))]
      · rw [ebv] at e5
        refine nx _ _ _ (fun q j h => xUn h) (xAr_u g2 ⟨by decide, by decide⟩) (fun j h => xUk h) ?_
        rw [xUa, eu]
        unfold uBt
        rw [if_neg c1, if_pos (Or.inr ((th _).mp e5))]
      · rw [ebv] at e5
        refine nx a1 _ _ (fun _ _ _ => rfl) g2 (fun _ _ => rfl) ?_
        rw [ebv, eu]
        unfold uBt
        rw [if_neg c1, if_neg (fun h => h.elim e3 (fun h => e5 ((th _).mpr h)))]
  have e0 : a 88 f = R f := by rw [hR]
  rw [e0]
  exact lt n.toNat 0 a none none (by omega) (by decide) (fun _ _ _ => rfl) hA (fun j _ => by rw [hR]) (fun j _ => by rw [hR]) (fun y y0 y1 => by omega)
/-- all look -/
def uAr (n : Int) : Nat → Int → (Int → Int) → Int → Int
  | 0, _, r => r
  | m + 1, f, r => uAr n m (f + 1) (if r f = 7 then r else uLk n f r)
def uAl (n : Int) (r : Int → Int) : Int → Int := uAr n 3 1 (uLf n r)
theorem uRv_a (hn5 : n ≤ 5) : ∀ (m : Nat) (f : Int) (r : Int → Int), uRv n r → 1 ≤ f → f + (m : Int) ≤ 4 → uRv n (uAr n m f r) ∧ ∀ j, j < 14 ∨ 41 ≤ j → uAr n m f r j = r j := by
  intro m
  induction m with
  | zero => intro f r h _ _; exact ⟨h, fun _ _ => rfl⟩
  | succ m ih =>
    intro f r h f1 f4
    show uRv n (uAr n m (f + 1) (if r f = 7 then r else uLk n f r)) ∧ ∀ j, j < 14 ∨ 41 ≤ j → uAr n m (f + 1) (if r f = 7 then r else uLk n f r) j = r j
    by_cases c : r f = 7
    · rw [if_pos c]
      exact ih (f + 1) r h (by omega) (by omega)
    · rw [if_neg c]
      obtain ⟨i1, i2⟩ := ih (f + 1) (uLk n f r) (uRv_k hn5 h ⟨f1, by omega⟩ c) (by omega) (by omega)
      exact ⟨i1, fun j hj => (i2 j hj).trans (uLk_lo f1 hj (by omega) hn5)⟩
theorem uRv_l (hn5 : n ≤ 5) (h : uRv n r) : uRv n (uAl n r) := (uRv_a hn5 3 1 _ (uRv_f hn5 h).1 (by decide) (by decide)).1
theorem uAl_p (hn5 : n ≤ 5) (h : uRv n r) {j : Int} (hj : j < 4 ∨ 41 ≤ j) : uAl n r j = r j := ((uRv_a hn5 3 1 _ (uRv_f hn5 h).1 (by decide) (by decide)).2 j (by omega)).trans ((uRv_f hn5 h).2 j (by omega))
theorem u174 (hA : xAr a) (hn : a 87 2 = n) (hn0 : 0 ≤ n ∧ n ≤ 5) (hr : uRv n (a 88)) (hd : 3 ≤ d) (hQ : ∀ a', (∀ q j, q ≠ 88 → a' q j = a q j) → xAr a' → a' 88 = uAl n (a 88) → Q none (xS a' b)) : pmCs ro d 174 [.ref 87] (xS a b) Q := by
  refine pmCs_deep (d := 3) (xg174 (w174 (u175 hA hn hn0 hr (by decide) fun a1 x1 A1 R1 => w174a ?_))) hd
  have lf : ∀ (m : Nat) (f : Int) (a1 : xA), f + (m : Int) = 4 → 1 ≤ f → (∀ q j, q ≠ 88 → a1 q j = a q j) → xAr a1 → uRv n (a1 88) → uAr n m f (a1 88) = uAl n (a 88) → pmWp ro 2 12 174 0 6 [some (.ref 87), some (xV f)] [] (xS a1 b) Q := by
    intro m
    induction m with
    | zero =>
      intro f a1 hf f1 g1 g2 g3 g4
      exact w174f g2 ⟨f1, by omega⟩ (by decide) (fun _ => hQ a1 g1 g2 g4) (fun e => by omega) (fun e => by omega)
    | succ m ih =>
      intro f a1 hf f1 g1 g2 g3 g4
      have g4 : uAr n m (f + 1) (if a1 88 f = 7 then a1 88 else uLk n f (a1 88)) = uAl n (a 88) := g4
      refine w174f g2 ⟨f1, by omega⟩ (by decide) (fun e => by omega) (fun _ e => ?_) (fun _ e => ?_)
      · rw [if_neg e] at g4
        refine u179 g2 ((g1 87 2 (by decide)).trans hn) hn0 g3 ⟨f1, by omega⟩ e (by decide) (fun a2 x2 A2 R2 => w174e ⟨f1, by omega⟩ ?_)
        exact ih (f + 1) a2 (by omega) (by omega) (fun q j h => (x2 q j h).trans (g1 q j h)) A2 (by rw [R2]; exact uRv_k hn0.2 g3 ⟨f1, by omega⟩ e) (by rw [R2]; exact g4)
      · rw [if_pos e] at g4
        exact ih (f + 1) a1 (by omega) (by omega) g1 g2 g3 g4
  exact lf 3 1 a1 (by decide) (by decide) x1 A1 (by rw [R1]; exact (uRv_f hn0.2 hr).1) (by rw [R1]; rfl)
end
end
