section
/-! looking, as rows; the reference looks -/
section
set_option maxRecDepth 100000


section
variable {ro : Nat → Nat × (Nat → Int32)} {d : Nat} {Q : Option Value → pmS → Prop} {n f p x : Int} {r : Int → Int} {a a' : xA} {b b' : xB}
/-- a person looks for one thing -/
def uL1 (n p x : Int) (r : Int → Int) : Int → Int := if (x < n ∧ r (4 + x) = 20) ∧ ¬ r p = 7 ∧ ¬ r (9 + x) / ((2 ^ (r p).toNat : Nat) : Int) % 2 = 0 then (if uBs (uCl (r (9 + x)) (r p)) = 1 then fun j => if j = 9 + x then 0 else if j = 4 + x then uLo (uCl (r (9 + x)) (r p)) else r j else fun j => if j = 9 + x then uCl (r (9 + x)) (r p) else r j) else r
def uLr (n p : Int) : Nat → Int → (Int → Int) → Int → Int
  | 0, _, r => r
  | m + 1, x, r => uLr n p m (x + 1) (uL1 n p x r)
def uLq (n : Int) : Nat → Int → (Int → Int) → Int → Int
  | 0, _, r => r
  | m + 1, p, r => uLq n m (p + 1) (uLr n p 5 0 r)
def uLf (n : Int) (r : Int → Int) : Int → Int := uLq n 4 0 r
theorem uL1_n (h : ¬ ((x < n ∧ r (4 + x) = 20) ∧ ¬ r p = 7 ∧ ¬ r (9 + x) / ((2 ^ (r p).toNat : Nat) : Int) % 2 = 0)) : uL1 n p x r = r := if_neg h
theorem uLr_n (h : n ≤ x ∨ r p = 7) : ∀ m : Nat, uLr n p m x r = r := by
  intro m
  induction m generalizing x with
  | zero => rfl
  | succ m ih =>
    show uLr n p m (x + 1) (uL1 n p x r) = r
    rw [uL1_n (by
      rintro ⟨h1, h2, _⟩
      rcases h with h | h
      · omega
      · exact h2 h)]
    exact ih (by omega)
theorem uAnd {st rm : Int} (h : 0 ≤ st ∧ st ≤ 127) (hr : 0 ≤ rm ∧ rm ≤ 6) : (xAnd st (1 * ((2 ^ rm.toNat : Nat) : Int)) = 0 ↔ st / ((2 ^ rm.toNat : Nat) : Int) % 2 = 0) ∧ xAnd st (xXor (1 * ((2 ^ rm.toNat : Nat) : Int)) (-1)) = uCl st rm := by
  have key : ∀ r : Fin 7, ∀ v : Fin 128, (xAnd (v.val : Int) (1 * ((2 ^ (r.val : Int).toNat : Nat) : Int)) = 0 ↔ (v.val : Int) / ((2 ^ (r.val : Int).toNat : Nat) : Int) % 2 = 0) ∧ xAnd (v.val : Int) (xXor (1 * ((2 ^ (r.val : Int).toNat : Nat) : Int)) (-1)) = uCl (v.val : Int) (r.val : Int) := by decide +kernel
  have := key ⟨rm.toNat, by omega⟩ ⟨st.toNat, by omega⟩
  rw [show (((⟨rm.toNat, by omega⟩ : Fin 7).val : Nat) : Int) = rm by show ((rm.toNat : Nat) : Int) = rm; omega, show (((⟨st.toNat, by omega⟩ : Fin 128).val : Nat) : Int) = st by show ((st.toNat : Nat) : Int) = st; omega] at this
  exact this
theorem uP7 {rm : Int} (h : 0 ≤ rm ∧ rm ≤ 6) : 1 ≤ 1 * ((2 ^ rm.toNat : Nat) : Int) ∧ 1 * ((2 ^ rm.toNat : Nat) : Int) ≤ 64 := by
  have : rm = 0 ∨ rm = 1 ∨ rm = 2 ∨ rm = 3 ∨ rm = 4 ∨ rm = 5 ∨ rm = 6 := by omega
  rcases this with e | e | e | e | e | e | e <;> subst e <;> decide
theorem uL1_lo (hx : 0 ≤ x) {j : Int} (hj : j < 4 ∨ 14 ≤ j) (hx5 : x < 5) : uL1 n p x r j = r j := by
  unfold uL1
  split
  · split
    · show (if j = 9 + x then _ else if j = 4 + x then _ else r j) = r j
      rw [if_neg (by omega), if_neg (by omega)]
    · show (if j = 9 + x then _ else r j) = r j
      rw [if_neg (by omega)]
  · rfl
theorem uRv_1 (hn5 : n ≤ 5) (h : uRv n r) (hp : 0 ≤ p ∧ p < 4) (hx : 0 ≤ x ∧ x < 5) : uRv n (uL1 n p x r) := by
  obtain ⟨h1, h2, h3, h4, h5, h6⟩ := h
  have lo : ∀ j, j < 4 ∨ 14 ≤ j → uL1 n p x r j = r j := fun j hj => uL1_lo hx.1 hj hx.2
  refine ⟨fun q q0 q1 => by rw [lo q (by omega)]; exact h1 q q0 q1, fun y y0 y1 => ?_, fun y y0 y1 => ?_, fun f y f0 f1 y0 y1 => by rw [lo _ (by omega)]; exact h4 f y f0 f1 y0 y1, fun f q f0 f1 q0 q1 => by rw [lo _ (by omega)]; exact h5 f q f0 f1 q0 q1, fun f y f0 f1 yn y0 y1 => by rw [lo _ (by omega)]; exact h6 f y f0 f1 yn y0 y1⟩
  all_goals
    unfold uL1
    split
    rotate_left
    · first | exact h2 y y0 y1 | exact h3 y y0 y1
    rename_i hc
    have hs := h3 x hx.1 hx.2
    have hr := h1 p hp.1 hp.2
    have hcl := uCl_b (z := r (9 + x)) (r := r p) hs.1 (by omega) hr.1 (by omega)
    have hlo := uLo_b (v := uCl (r (9 + x)) (r p)) ⟨hcl.1, by omega⟩
    split
  · show (0 ≤ (if 4 + y = 9 + x then _ else if 4 + y = 4 + x then _ else r (4 + y)) ∧ _) ∨ _
    dsimp only
    by_cases c : 4 + y = 9 + x
    · rw [if_pos c]
      omega
    · rw [if_neg c]
      by_cases c2 : 4 + y = 4 + x
      · rw [if_pos c2]
        omega
      · rw [if_neg c2]
        exact h2 y y0 y1
  · dsimp only
    by_cases c : 4 + y = 9 + x
    · rw [if_pos c]
      omega
    · rw [if_neg c]
      exact h2 y y0 y1
  · dsimp only
    by_cases c : 9 + y = 9 + x
    · rw [if_pos c]
      omega
    · rw [if_neg c, if_neg (by omega)]
      exact h3 y y0 y1
  · dsimp only
    by_cases c : 9 + y = 9 + x
    · rw [if_pos c]
      omega
    · rw [if_neg c]
      exact h3 y y0 y1
theorem uRv_r (hn5 : n ≤ 5) (hp : 0 ≤ p ∧ p < 4) : ∀ (m : Nat) (x : Int) (r : Int → Int), uRv n r → 0 ≤ x → x + (m : Int) ≤ 5 → uRv n (uLr n p m x r) ∧ ∀ j, j < 4 ∨ 14 ≤ j → uLr n p m x r j = r j := by
  intro m
  induction m with
  | zero => intro x r h _ _; exact ⟨h, fun _ _ => rfl⟩
  | succ m ih =>
    intro x r h h0 h1
    obtain ⟨i1, i2⟩ := ih (x + 1) (uL1 n p x r) (uRv_1 hn5 h hp ⟨h0, by omega⟩) (by omega) (by omega)
    exact ⟨i1, fun j hj => (i2 j hj).trans (uL1_lo h0 hj (by omega))⟩
theorem uRv_q (hn5 : n ≤ 5) : ∀ (m : Nat) (p : Int) (r : Int → Int), uRv n r → 0 ≤ p → p + (m : Int) ≤ 4 → uRv n (uLq n m p r) ∧ ∀ j, j < 4 ∨ 14 ≤ j → uLq n m p r j = r j := by
  intro m
  induction m with
  | zero => intro x r h _ _; exact ⟨h, fun _ _ => rfl⟩
  | succ m ih =>
    intro p r h h0 h1
    obtain ⟨j1, j2⟩ := uRv_r hn5 (p := p) ⟨h0, by omega⟩ 5 0 r h (by decide) (by decide)
    obtain ⟨i1, i2⟩ := ih (p + 1) (uLr n p 5 0 r) j1 (by omega) (by omega)
    exact ⟨i1, fun j hj => (i2 j hj).trans (j2 j hj)⟩
theorem uRv_f (hn5 : n ≤ 5) (h : uRv n r) : uRv n (uLf n r) ∧ ∀ j, j < 4 ∨ 14 ≤ j → uLf n r j = r j := uRv_q hn5 4 0 r h (by decide) (by decide)
theorem xU_row {q : Nat} {k v : Int} : (xU a q k v) q = fun j => if j = k then v else a q j := funext fun j => by
  by_cases c : j = k
  · rw [c, xUa, if_pos rfl]
  · rw [xUk c, if_neg c]
/-- lookedFor -/
theorem u175 (hA : xAr a) (hn : a 87 2 = n) (hn0 : 0 ≤ n ∧ n ≤ 5) (hr : uRv n (a 88)) (hd : 2 ≤ d) (hQ : ∀ a', (∀ q j, q ≠ 88 → a' q j = a q j) → xAr a' → a' 88 = uLf n (a 88) → Q none (xS a' b)) : pmCs ro d 175 [.ref 87] (xS a b) Q := by
  refine pmCs_deep (d := 2) (xg175 (w175 ?_)) hd
  have lx : ∀ (m : Nat) (p x : Int) (a1 : xA) (v3 : Option Value), x + (m : Int) = 5 → 0 ≤ x ∧ x ≤ n → 0 ≤ p ∧ p < 4 → (∀ q j, q ≠ 88 → a1 q j = a q j) → xAr a1 → uRv n (a1 88) → (∀ (a2 : xA) (v2 v3 : Option Value), (∀ q j, q ≠ 88 → a2 q j = a q j) → xAr a2 → a2 88 = uLr n p m x (a1 88) → pmWp ro 1 12 175 0 2 [some (.ref 87), some (xV (p + 1)), v2, v3] [] (xS a2 b) Q) →
      pmWp ro 1 12 175 0 9 [some (.ref 87), some (xV p), some (xV x), v3] [] (xS a1 b) Q := by
    intro m
    induction m with
    | zero =>
      intro p x a1 v3 hx ⟨x0, xn⟩ hp g1 g2 g3 K
      have e2 : a1 87 2 = n := (g1 87 2 (by decide)).trans hn
      by_cases hnx : n ≤ x
      · refine w175x (rm := a1 88 p) g2 ⟨by omega, by omega⟩ ⟨x0, xn⟩ e2 hn0 (by rw [Int.zero_add]) (g3.1 p hp.1 hp.2) (by decide) (fun _ => K a1 _ _ g1 g2 rfl) (fun e => by omega) (fun e => by omega)
      · omega
    | succ m ih =>
      intro p x a1 v3 hx ⟨x0, xn⟩ hp g1 g2 g3 K
      have e2 : a1 87 2 = n := (g1 87 2 (by decide)).trans hn
      refine w175x (rm := a1 88 p) g2 ⟨by omega, by omega⟩ ⟨x0, xn⟩ e2 hn0 (by rw [Int.zero_add]) (g3.1 p hp.1 hp.2) (by decide) (fun e => K a1 _ _ g1 g2 (uLr_n (Or.inl e) _).symm) (fun e1 e3 => ?_) (fun e1 e3 => K a1 _ _ g1 g2 (uLr_n (Or.inr e3) _).symm)
      have hrm := g3.1 p hp.1 hp.2
      have hrm : 0 ≤ a1 88 p ∧ a1 88 p ≤ 6 := by omega
      have hst := g3.2.2.1 x x0 (by omega)
      obtain ⟨n1, n2⟩ := uAnd hst hrm
      have skip : x < n → ¬ ((x < n ∧ a1 88 (4 + x) = 20) ∧ ¬ a1 88 p = 7 ∧ ¬ a1 88 (9 + x) / ((2 ^ (a1 88 p).toNat : Nat) : Int) % 2 = 0) → ∀ v3, pmWp ro 1 12 175 0 121 [some (.ref 87), some (xV p), some (xV x), v3] [] (xS a1 b) Q := fun hxn hc v3 => w175e ⟨by omega, by omega⟩ (ih p (x + 1) a1 _ (by omega) ⟨by omega, by omega⟩ hp g1 g2 g3 (fun a2 v2 v3 k1 k2 k3 => K a2 v2 v3 k1 k2 (by rw [k3]; show _ = uLr n p m (x + 1) (uL1 n p x (a1 88)); rw [uL1_n hc])))
      refine w175b g2 ⟨by omega, by omega⟩ rfl hst (uP7 hrm) (by decide) (fun e => skip (by omega) (fun h => e h.1.2) _) (fun e4 e5 => ?_) (fun _ e5 => skip (by omega) (fun h => h.2.2 (n1.mp e5)) _)
      rw [n2]
      have hcl := uCl_b (z := a1 88 (9 + x)) (r := a1 88 p) hst.1 (by omega) hrm.1 (by omega)
      have hlo := uLo_b (v := uCl (a1 88 (9 + x)) (a1 88 p)) ⟨hcl.1, by omega⟩
      have hcond : (x < n ∧ a1 88 (4 + x) = 20) ∧ ¬ a1 88 p = 7 ∧ ¬ a1 88 (9 + x) / ((2 ^ (a1 88 p).toNat : Nat) : Int) % 2 = 0 := ⟨⟨by omega, e4⟩, e3, fun h => e5 (n1.mpr h)⟩
      have hA2 : xAr (xU a1 88 (9 + x) (uCl (a1 88 (9 + x)) (a1 88 p))) := xAr_u g2 ⟨by omega, by omega⟩
      refine w175c (st := uCl (a1 88 (9 + x)) (a1 88 p)) hA2 ⟨by omega, by omega⟩ xUa ⟨hcl.1, by omega⟩ (by decide) (fun e6 => ?_) (fun e6 => ?_)
      · refine w175e ⟨by omega, by omega⟩ ?_
        have er : (xU a1 88 (9 + x) (uCl (a1 88 (9 + x)) (a1 88 p))) 88 = uL1 n p x (a1 88) := by
          rw [xU_row]
          unfold uL1
          rw [if_pos hcond, if_neg e6]
        refine ih p (x + 1) _ _ (by omega) ⟨by omega, by omega⟩ hp (fun q j h => by rw [xUn h]; exact g1 q j h) hA2 (by rw [er]; exact uRv_1 hn0.2 g3 hp ⟨x0, by omega⟩) (fun a2 v2 v3 k1 k2 k3 => K a2 v2 v3 k1 k2 (by rw [k3, er]; rfl))
      · refine rk178 (by decide) ⟨x0, by omega⟩ ?_
        refine w175e ⟨by omega, by omega⟩ ?_
        have er : (xU (xU (xU a1 88 (9 + x) (uCl (a1 88 (9 + x)) (a1 88 p))) 88 (4 + x) (uLo (uCl (a1 88 (9 + x)) (a1 88 p)))) 88 (9 + x) 0) 88 = uL1 n p x (a1 88) := by
          rw [xU_row, xU_row, xU_row]
          unfold uL1
          rw [if_pos hcond, if_pos e6]
          funext j
          dsimp only
          by_cases c : j = 9 + x
          · rw [if_pos c, if_pos c]
          · rw [if_neg c, if_neg c, if_neg c]
        refine ih p (x + 1) _ _ (by omega) ⟨by omega, by omega⟩ hp (fun q j h => by rw [xUn h, xUn h, xUn h]; exact g1 q j h) (xAr_u (xAr_u hA2 ⟨by omega, by omega⟩) xR0) (by rw [er]; exact uRv_1 hn0.2 g3 hp ⟨x0, by omega⟩) (fun a2 v2 v3 k1 k2 k3 => K a2 v2 v3 k1 k2 (by rw [k3, er]; rfl))
  have lp : ∀ (m : Nat) (p : Int) (a1 : xA) (v2 v3 : Option Value), p + (m : Int) = 4 → 0 ≤ p → (∀ q j, q ≠ 88 → a1 q j = a q j) → xAr a1 → uRv n (a1 88) → uLq n m p (a1 88) = uLf n (a 88) →
      pmWp ro 1 12 175 0 2 [some (.ref 87), some (xV p), v2, v3] [] (xS a1 b) Q := by
    intro m
    induction m with
    | zero =>
      intro p a1 v2 v3 hp p0 g1 g2 g3 g4
      exact w175p ⟨p0, by omega⟩ (fun _ => hQ a1 g1 g2 g4) (fun e => by omega)
    | succ m ih =>
      intro p a1 v2 v3 hp p0 g1 g2 g3 g4
      refine w175p ⟨p0, by omega⟩ (fun e => by omega) (fun _ => ?_)
      refine lx 5 p 0 a1 _ (by decide) ⟨by decide, hn0.1⟩ ⟨p0, by omega⟩ g1 g2 g3 (fun a2 v2 v3 k1 k2 k3 => ?_)
      exact ih (p + 1) a2 v2 v3 (by omega) (by omega) k1 k2 (by rw [k3]; exact (uRv_r hn0.2 ⟨p0, by omega⟩ 5 0 _ g3 (by decide) (by decide)).1) (by rw [k3]; exact g4)
  exact lp 4 0 a none none (by decide) (by decide) (fun _ _ _ => rfl) hA hr rfl
end
end
end
section
/-! a folk looks; all look -/
section
set_option maxRecDepth 100000


section
variable {ro : Nat → Nat × (Nat → Int32)} {d : Nat} {Q : Option Value → pmS → Prop} {n f p x rm v : Int} {r : Int → Int} {a a' : xA} {b b' : xB}
/-- a place that is a room, or with one who is there -/
abbrev uTh (r : Int → Int) (rm v : Int) : Prop := v = rm ∨ ((0 ≤ v - 10 ∧ v - 10 < 4) ∧ r (v - 10) = rm)
/-- a folk looks at one thing, at one person -/
def uBt (r : Int → Int) (rm sv bv : Int) : Int := if uTh r rm sv then sv else if uTh r rm bv then -1 else bv
def uBq (pv rm bv : Int) : Int := if pv = rm then rm else if bv = rm then -1 else bv
def uLk (n f : Int) (r : Int → Int) : Int → Int := fun j => if 0 ≤ j - (14 + 9 * (f - 1)) ∧ j - (14 + 9 * (f - 1)) < n then uBt r (r f) (r (4 + (j - (14 + 9 * (f - 1))))) (r j) else if (5 ≤ j - (14 + 9 * (f - 1)) ∧ j - (14 + 9 * (f - 1)) < 9) ∧ ¬ j - (14 + 9 * (f - 1)) - 5 = f then uBq (r (j - (14 + 9 * (f - 1)) - 5)) (r f) (r j) else r j
theorem uLk_lo (hf : 1 ≤ f) {j : Int} (hj : j < 14 ∨ 41 ≤ j) (hf3 : f ≤ 3) (hn : n ≤ 5) : uLk n f r j = r j := by
  unfold uLk
  rw [if_neg (by omega), if_neg (by omega)]
theorem uLk_t (hn : n ≤ 5) (h0 : 0 ≤ x) (h1 : x < n) : uLk n f r (14 + 9 * (f - 1) + x) = uBt r (r f) (r (4 + x)) (r (14 + 9 * (f - 1) + x)) := by
  unfold uLk
  rw [if_pos (by omega), show 14 + 9 * (f - 1) + x - (14 + 9 * (f - 1)) = x by omega]
theorem uLk_t2 (hn : n ≤ 5) (h0 : n ≤ x) (h1 : x < 5) (h2 : 0 ≤ x) : uLk n f r (14 + 9 * (f - 1) + x) = r (14 + 9 * (f - 1) + x) := by
  unfold uLk
  rw [if_neg (by omega), if_neg (by omega)]
theorem uLk_q (hn : n ≤ 5) (h0 : 0 ≤ x) (h1 : x < 4) (h : ¬ x = f) : uLk n f r (14 + 9 * (f - 1) + 5 + x) = uBq (r x) (r f) (r (14 + 9 * (f - 1) + 5 + x)) := by
  unfold uLk
  rw [if_neg (by omega), if_pos (by omega), show 14 + 9 * (f - 1) + 5 + x - (14 + 9 * (f - 1)) - 5 = x by omega]
theorem uLk_q2 (hn : n ≤ 5) (h : x = f) (hf : 1 ≤ f ∧ f ≤ 3) : uLk n f r (14 + 9 * (f - 1) + 5 + x) = r (14 + 9 * (f - 1) + 5 + x) := by
  unfold uLk
  rw [if_neg (by omega), if_neg (by omega)]
theorem uLk_o {g : Int} (hn : n ≤ 5) (hg : ¬ g = f) {j : Int} (j0 : 0 ≤ j) (j1 : j < 9) : uLk n f r (14 + 9 * (g - 1) + j) = r (14 + 9 * (g - 1) + j) := by
  unfold uLk
  rw [if_neg (by omega), if_neg (by omega)]
theorem uRv_k (hn5 : n ≤ 5) (h : uRv n r) (hf : 1 ≤ f ∧ f ≤ 3) (ha : ¬ r f = 7) : uRv n (uLk n f r) := by
  obtain ⟨h1, h2, h3, h4, h5, h6⟩ := h
  have hrm := h1 f (by omega) (by omega)
  refine ⟨fun q q0 q1 => by rw [uLk_lo hf.1 (by omega) hf.2 hn5]; exact h1 q q0 q1, fun y y0 y1 => by rw [uLk_lo hf.1 (by omega) hf.2 hn5]; exact h2 y y0 y1, fun y y0 y1 => by rw [uLk_lo hf.1 (by omega) hf.2 hn5]; exact h3 y y0 y1, fun g y g0 g1 y0 y1 => ?_, fun g q g0 g1 q0 q1 => ?_, fun g y g0 g1 yn y0 y1 => ?_⟩
  · by_cases c : g = f
    · subst c
      by_cases c2 : y < n
      · rw [uLk_t hn5 y0 c2]
        have hs := h2 y y0 c2
        have hb := h4 g y g0 g1 y0 y1
        unfold uBt
        split
        · rename_i ht
          rcases ht with e | e <;> omega
        · split
          · omega
          · exact hb
      · rw [uLk_t2 hn5 (by omega) y1 y0]
        exact h4 g y g0 g1 y0 y1
    · rw [uLk_o hn5 c y0 (by omega)]
      exact h4 g y g0 g1 y0 y1
  · by_cases c : g = f
    · subst c
      by_cases c2 : q = g
      · rw [uLk_q2 hn5 c2 hf]
        exact h5 g q g0 g1 q0 q1
      · rw [uLk_q hn5 q0 q1 c2]
        have hb := h5 g q g0 g1 q0 q1
        unfold uBq
        split
        · omega
        · split
          · omega
          · exact hb
    · rw [show 14 + 9 * (g - 1) + 5 + q = 14 + 9 * (g - 1) + (5 + q) by omega, uLk_o hn5 c (by omega) (by omega), show 14 + 9 * (g - 1) + (5 + q) = 14 + 9 * (g - 1) + 5 + q by omega]
      exact h5 g q g0 g1 q0 q1
  · by_cases c : g = f
    · subst c
      rw [uLk_t2 hn5 yn y1 y0]
      exact h6 g y g0 g1 yn y0 y1
    · rw [uLk_o hn5 c y0 (by omega)]
      exact h6 g y g0 g1 yn y0 y1
/-- looks -/
theorem u179 (hA : xAr a) (hn : a 87 2 = n) (hn0 : 0 ≤ n ∧ n ≤ 5) (hr : uRv n (a 88)) (hf : 1 ≤ f ∧ f ≤ 3) (ha : ¬ a 88 f = 7) (hd : 2 ≤ d) (hQ : ∀ a', (∀ q j, q ≠ 88 → a' q j = a q j) → xAr a' → a' 88 = uLk n f (a 88) → Q none (xS a' b)) : pmCs ro d 179 [.ref 87, xV f] (xS a b) Q := by
  have hrm := hr.1 f (by omega) (by omega)
  have hrm : 0 ≤ a 88 f ∧ a 88 f ≤ 6 := by omega
  obtain ⟨h1, h2, h3, h4, h5, h6⟩ := hr
  refine pmCs_deep (d := 2) (xg179 (w179 hf ?_)) hd
  rw [Int.zero_add]
  obtain ⟨R, hR⟩ : ∃ R, a 88 = R := ⟨_, rfl⟩
  rw [hR] at hQ hrm h1 h2 h3 h4 h5 h6 ha
  -- persons
  have lq : ∀ (m : Nat) (x : Int) (a1 : xA) (v4 v5 : Option Value), x + (m : Int) = 4 → 0 ≤ x → (∀ q j, q ≠ 88 → a1 q j = a q j) → xAr a1 → (∀ j, j < 14 ∨ 41 ≤ j → a1 88 j = R j) → (∀ q, x ≤ q → q < 4 → a1 88 (14 + 9 * (f - 1) + 5 + q) = R (14 + 9 * (f - 1) + 5 + q)) → (∀ j, (∀ q, x ≤ q → q < 4 → ¬ j = 14 + 9 * (f - 1) + 5 + q) → a1 88 j = uLk n f R j) →
      pmWp ro 1 12 179 0 120 [some (.ref 87), some (xV f), some (xV (R f)), some (xV x), v4, v5] [] (xS a1 b) Q := by
    intro m
    have fin : ∀ (x : Int) (a1 : xA), x = 4 → (∀ q j, q ≠ 88 → a1 q j = a q j) → xAr a1 → (∀ j, (∀ q, x ≤ q → q < 4 → ¬ j = 14 + 9 * (f - 1) + 5 + q) → a1 88 j = uLk n f R j) → Q none (xS a1 b) := fun x a1 hx g1 g2 g3 => hQ a1 g1 g2 (funext fun j => g3 j (fun q q0 q1 => by omega))
    induction m with
    | zero =>
      intro x a1 v4 v5 hx x0 g1 g2 g3 g4 g5
      have e4 : x = 4 := by omega
      subst e4
      exact w179q2 (fin 4 a1 rfl g1 g2 g5)
    | succ m ih =>
      intro x a1 v4 v5 hx x0 g1 g2 g3 g4 g5
      have hbv := h5 f x hf.1 hf.2 x0 (by omega)
      have ebv := g4 x (by omega) (by omega)
      have nx : ∀ a2 : xA, (∀ q j, q ≠ 88 → a2 q j = a1 q j) → xAr a2 → (∀ j, ¬ j = 14 + 9 * (f - 1) + 5 + x → a2 88 j = a1 88 j) → a2 88 (14 + 9 * (f - 1) + 5 + x) = uLk n f R (14 + 9 * (f - 1) + 5 + x) → pmWp ro 1 12 179 0 181 [some (.ref 87), some (xV f), some (xV (R f)), some (xV x), v4, v5] [] (xS a2 b) Q := by
        intro a2 y1 y2 y3 y4
        refine w179z ⟨x0, by omega⟩ ?_
        refine ih (x + 1) a2 v4 v5 (by omega) (by omega) (fun q j h => (y1 q j h).trans (g1 q j h)) y2 (fun j hj => (y3 j (by omega)).trans (g3 j hj)) (fun q q0 q1 => (y3 _ (by omega)).trans (g4 q (by omega) q1)) (fun j hj => ?_)
        by_cases c : j = 14 + 9 * (f - 1) + 5 + x
        · rw [c]
          exact y4
        · rw [y3 j c]
          refine g5 j (fun q q0 q1 => ?_)
          by_cases c2 : q = x
          · rw [c2]
            exact c
          · exact hj q (by omega) q1
      have ex : a1 88 x = R x := g3 x (by omega)
      refine w179q g2 hf hrm (by decide) ⟨x0, by omega⟩ ebv hbv (fun e => by omega) (fun _ e1 e2 => ?_) (fun _ e1 e2 e3 => ?_) (fun _ e1 e2 e3 => ?_) (fun _ e1 => ?_)
      · rw [ex] at e2
        refine nx _ (fun q j h => xUn h) (xAr_u g2 ⟨by omega, by omega⟩) (fun j h => xUk h) ?_
        rw [xUa, uLk_q hn0.2 x0 (by omega) e1]
        unfold uBq
        rw [if_pos e2.2]
      · rw [ex] at e2
        refine nx a1 (fun _ _ _ => rfl) g2 (fun _ _ => rfl) ?_
        rw [ebv] at e3 ⊢
        rw [uLk_q hn0.2 x0 (by omega) e1]
        unfold uBq
        rw [if_neg (fun h => e2 ⟨⟨x0, by omega⟩, h⟩), if_neg e3]
      · rw [ex] at e2
        refine nx _ (fun q j h => xUn h) (xAr_u g2 ⟨by decide, by decide⟩) (fun j h => xUk h) ?_
        rw [ebv] at e3
        rw [xUa, uLk_q hn0.2 x0 (by omega) e1]
        unfold uBq
        rw [if_neg (fun h => e2 ⟨⟨x0, by omega⟩, h⟩), if_pos e3]
      · refine nx a1 (fun _ _ _ => rfl) g2 (fun _ _ => rfl) ?_
        rw [uLk_q2 hn0.2 e1 hf]
        exact ebv
  -- things
  have lt : ∀ (m : Nat) (x : Int) (a1 : xA) (v4 v5 : Option Value), x + (m : Int) = n → 0 ≤ x → (∀ q j, q ≠ 88 → a1 q j = a q j) → xAr a1 → (∀ j, j < 14 ∨ 41 ≤ j → a1 88 j = R j) → (∀ j, (∀ y, 0 ≤ y → y < x → ¬ j = 14 + 9 * (f - 1) + y) → a1 88 j = R j) → (∀ y, 0 ≤ y → y < x → a1 88 (14 + 9 * (f - 1) + y) = uLk n f R (14 + 9 * (f - 1) + y)) →
      pmWp ro 1 12 179 0 11 [some (.ref 87), some (xV f), some (xV (R f)), some (xV x), v4, v5] [] (xS a1 b) Q := by
    intro m
    induction m with
    | zero =>
      intro x a1 v4 v5 hx x0 g1 g2 g3 g4 g5
      have en : x = n := by omega
      refine w179x2 ((g1 87 2 (by decide)).trans hn) hn0 ⟨x0, by omega⟩ (fun _ => ?_) (fun e => by omega)
      refine lq 4 0 a1 _ _ (by decide) (by decide) g1 g2 g3 (fun q q0 q1 => g4 _ (fun y y0 y1 => by omega)) (fun j hj => ?_)
      by_cases c : 0 ≤ j - (14 + 9 * (f - 1)) ∧ j - (14 + 9 * (f - 1)) < n
      · have := g5 (j - (14 + 9 * (f - 1))) c.1 (by omega)
        rw [show 14 + 9 * (f - 1) + (j - (14 + 9 * (f - 1))) = j by omega] at this
        exact this
      · rw [g4 j (fun y y0 y1 => by omega)]
        have c5 : ¬ ((5 ≤ j - (14 + 9 * (f - 1)) ∧ j - (14 + 9 * (f - 1)) < 9) ∧ ¬ j - (14 + 9 * (f - 1)) - 5 = f) := fun h => hj (j - (14 + 9 * (f - 1)) - 5) (by omega) (by omega) (by omega)
        unfold uLk
        rw [if_neg c, if_neg c5]
    | succ m ih =>
      intro x a1 v4 v5 hx x0 g1 g2 g3 g4 g5
      have xn : x < n := by omega
      have hs := h2 x x0 xn
      have hbv := h4 f x hf.1 hf.2 x0 (by omega)
      have ebv := g4 (14 + 9 * (f - 1) + x) (fun y y0 y1 => by omega)
      have esv : a1 88 (4 + x) = R (4 + x) := g3 _ (by omega)
      have eu := uLk_t (f := f) (r := R) hn0.2 x0 xn
      have nx : ∀ (a2 : xA) (v4 v5 : Option Value), (∀ q j, q ≠ 88 → a2 q j = a1 q j) → xAr a2 → (∀ j, ¬ j = 14 + 9 * (f - 1) + x → a2 88 j = a1 88 j) → a2 88 (14 + 9 * (f - 1) + x) = uLk n f R (14 + 9 * (f - 1) + x) → pmWp ro 1 12 179 0 112 [some (.ref 87), some (xV f), some (xV (R f)), some (xV x), v4, v5] [] (xS a2 b) Q := by
        intro a2 v4 v5 y1 y2 y3 y4
        refine w179y ⟨x0, by omega⟩ ?_
        refine ih (x + 1) a2 v4 v5 (by omega) (by omega) (fun q j h => (y1 q j h).trans (g1 q j h)) y2 (fun j hj => (y3 j (by omega)).trans (g3 j hj)) (fun j hj => ?_) (fun y y0 yx => ?_)
        · rw [y3 j (hj x x0 (by omega))]
          exact g4 j (fun y y0 yx => hj y y0 (by omega))
        · by_cases c : y = x
          · rw [c]
            exact y4
          · rw [y3 _ (by omega)]
            exact g5 y y0 (by omega)
      have ht : ∀ v : Int, (0 ≤ v - 10 ∧ v - 10 < 4) → a1 88 (v - 10) = R (v - 10) := fun v hv => g3 _ (by omega)
      have th : ∀ v : Int, ((0 ≤ v - 10 ∧ v - 10 < 4) ∧ a1 88 (v - 10) = R f) ↔ ((0 ≤ v - 10 ∧ v - 10 < 4) ∧ R (v - 10) = R f) := fun v => ⟨fun h => ⟨h.1, (ht v h.1).symm.trans h.2⟩, fun h => ⟨h.1, (ht v h.1).trans h.2⟩⟩
      refine w179x g2 hf ((g1 87 2 (by decide)).trans hn) hn0 hrm (by decide) ⟨x0, by omega⟩ esv (by omega) ebv (by omega) (fun e => by omega) (fun _ e1 => ?_) (fun _ e1 e2 => ?_) (fun _ e1 e2 e3 => ?_) (fun _ e1 e2 e3 e4 => ?_) (fun _ e1 e2 e3 e4 e5 => ?_) (fun _ e1 e2 e3 e4 e5 => ?_)
      · refine nx _ _ _ (fun q j h => xUn h) (xAr_u g2 ⟨by omega, by omega⟩) (fun j h => xUk h) ?_
        rw [xUa, eu]
        unfold uBt
        rw [if_pos (Or.inl e1)]
      · refine nx _ _ _ (fun q j h => xUn h) (xAr_u g2 ⟨by omega, by omega⟩) (fun j h => xUk h) ?_
        rw [xUa, eu]
        unfold uBt
        rw [if_pos (Or.inr ((th _).mp e2))]
      all_goals
        have c1 : ¬ uTh R (R f) (R (4 + x)) := fun h => h.elim e1 (fun h => e2 ((th _).mpr h))
        rw [ebv] at e3
      · refine nx _ _ _ (fun q j h => xUn h) (xAr_u g2 ⟨by decide, by decide⟩) (fun j h => xUk h) ?_
        rw [xUa, eu]
        unfold uBt
        rw [if_neg c1, if_pos (Or.inl e3)]
      · rw [ebv] at e4
        refine nx a1 _ _ (fun _ _ _ => rfl) g2 (fun _ _ => rfl) ?_
        rw [ebv, eu]
        unfold uBt
        rw [if_neg c1, if_neg (fun h => h.elim e3 (fun h => by omega))]
      · rw [ebv] at e5
        refine nx _ _ _ (fun q j h => xUn h) (xAr_u g2 ⟨by decide, by decide⟩) (fun j h => xUk h) ?_
        rw [xUa, eu]
        unfold uBt
        rw [if_neg c1, if_pos (Or.inr ((th _).mp e5))]
      · rw [ebv] at e5
        refine nx a1 _ _ (fun _ _ _ => rfl) g2 (fun _ _ => rfl) ?_
        rw [ebv, eu]
        unfold uBt
        rw [if_neg c1, if_neg (fun h => h.elim e3 (fun h => e5 ((th _).mpr h)))]
  have e0 : a 88 f = R f := by rw [hR]
  rw [e0]
  exact lt n.toNat 0 a none none (by omega) (by decide) (fun _ _ _ => rfl) hA (fun j _ => by rw [hR]) (fun j _ => by rw [hR]) (fun y y0 y1 => by omega)
/-- all look -/
def uAr (n : Int) : Nat → Int → (Int → Int) → Int → Int
  | 0, _, r => r
  | m + 1, f, r => uAr n m (f + 1) (if r f = 7 then r else uLk n f r)
def uAl (n : Int) (r : Int → Int) : Int → Int := uAr n 3 1 (uLf n r)
theorem uRv_a (hn5 : n ≤ 5) : ∀ (m : Nat) (f : Int) (r : Int → Int), uRv n r → 1 ≤ f → f + (m : Int) ≤ 4 → uRv n (uAr n m f r) ∧ ∀ j, j < 14 ∨ 41 ≤ j → uAr n m f r j = r j := by
  intro m
  induction m with
  | zero => intro f r h _ _; exact ⟨h, fun _ _ => rfl⟩
  | succ m ih =>
    intro f r h f1 f4
    show uRv n (uAr n m (f + 1) (if r f = 7 then r else uLk n f r)) ∧ ∀ j, j < 14 ∨ 41 ≤ j → uAr n m (f + 1) (if r f = 7 then r else uLk n f r) j = r j
    by_cases c : r f = 7
    · rw [if_pos c]
      exact ih (f + 1) r h (by omega) (by omega)
    · rw [if_neg c]
      obtain ⟨i1, i2⟩ := ih (f + 1) (uLk n f r) (uRv_k hn5 h ⟨f1, by omega⟩ c) (by omega) (by omega)
      exact ⟨i1, fun j hj => (i2 j hj).trans (uLk_lo f1 hj (by omega) hn5)⟩
theorem uRv_l (hn5 : n ≤ 5) (h : uRv n r) : uRv n (uAl n r) := (uRv_a hn5 3 1 _ (uRv_f hn5 h).1 (by decide) (by decide)).1
theorem uAl_p (hn5 : n ≤ 5) (h : uRv n r) {j : Int} (hj : j < 4 ∨ 41 ≤ j) : uAl n r j = r j := ((uRv_a hn5 3 1 _ (uRv_f hn5 h).1 (by decide) (by decide)).2 j (by omega)).trans ((uRv_f hn5 h).2 j (by omega))
theorem u174 (hA : xAr a) (hn : a 87 2 = n) (hn0 : 0 ≤ n ∧ n ≤ 5) (hr : uRv n (a 88)) (hd : 3 ≤ d) (hQ : ∀ a', (∀ q j, q ≠ 88 → a' q j = a q j) → xAr a' → a' 88 = uAl n (a 88) → Q none (xS a' b)) : pmCs ro d 174 [.ref 87] (xS a b) Q := by
  refine pmCs_deep (d := 3) (xg174 (w174 (u175 hA hn hn0 hr (by decide) fun a1 x1 A1 R1 => w174a ?_))) hd
  have lf : ∀ (m : Nat) (f : Int) (a1 : xA), f + (m : Int) = 4 → 1 ≤ f → (∀ q j, q ≠ 88 → a1 q j = a q j) → xAr a1 → uRv n (a1 88) → uAr n m f (a1 88) = uAl n (a 88) → pmWp ro 2 12 174 0 6 [some (.ref 87), some (xV f)] [] (xS a1 b) Q := by
    intro m
    induction m with
    | zero =>
      intro f a1 hf f1 g1 g2 g3 g4
      exact w174f g2 ⟨f1, by omega⟩ (by decide) (fun _ => hQ a1 g1 g2 g4) (fun e => by omega) (fun e => by omega)
    | succ m ih =>
      intro f a1 hf f1 g1 g2 g3 g4
      have g4 : uAr n m (f + 1) (if a1 88 f = 7 then a1 88 else uLk n f (a1 88)) = uAl n (a 88) := g4
      refine w174f g2 ⟨f1, by omega⟩ (by decide) (fun e => by omega) (fun _ e => ?_) (fun _ e => ?_)
      · rw [if_neg e] at g4
        refine u179 g2 ((g1 87 2 (by decide)).trans hn) hn0 g3 ⟨f1, by omega⟩ e (by decide) (fun a2 x2 A2 R2 => w174e ⟨f1, by omega⟩ ?_)
        exact ih (f + 1) a2 (by omega) (by omega) (fun q j h => (x2 q j h).trans (g1 q j h)) A2 (by rw [R2]; exact uRv_k hn0.2 g3 ⟨f1, by omega⟩ e) (by rw [R2]; exact g4)
      · rw [if_pos e] at g4
        exact ih (f + 1) a1 (by omega) (by omega) g1 g2 g3 g4
  exact lf 3 1 a1 (by decide) (by decide) x1 A1 (by rw [R1]; exact (uRv_f hn0.2 hr).1) (by rw [R1]; rfl)
end
end
end
