/-! looking, as rows; the reference looks -/
section
set_option maxRecDepth 100000


section
variable {ro : Nat → Nat × (Nat → Int32)} {d : Nat} {Q : Option Value → pmS → Prop} {n f p x : Int} {r : Int → Int} {a a' : xA} {b b' : xB}
/-- a person looks for one thing -/
def uL1 (n p x : Int) (r : Int → Int) : Int → Int := if (x < n ∧ r (4 + x) = 20) ∧ ¬ r p = 7 ∧ ¬ r (9 + x) / ((2 ^ (r p).toNat : Nat) : Int) % 2 = 0 then (if uBs (uCl (r (9 + x)) (r p)) = 1 then fun j => if j = 9 + x then 0 else if j = 4 + x then uLo (uCl (r (9 + x)) (r p)) else r j else fun j => if j = 9 + x then uCl (r (9 + x)) (r p) else r j) else r
def uLr (n p : Int) : Nat → Int → (Int → Int) → Int → Int
  | 0, _, r => r
  | m + 1, x, r => uLr n p m (x + 1) (uL1 n p x r)
def uLq (n : Int) : Nat → Int → (Int → Int) → Int → Int
  | 0, _, r => r
  | m + 1, p, r => uLq n m (p + 1) (uLr n p 5 0 r)
def uLf (n : Int) (r : Int → Int) : Int → Int := uLq n 4 0 r
theorem uL1_n (h : ¬ ((x < n ∧ r (4 + x) = 20) ∧ ¬ r p = 7 ∧ ¬ r (9 + x) / ((2 ^ (r p).toNat : Nat) : Int) % 2 = 0)) : uL1 n p x r = r := if_neg h
theorem uLr_n (h : n ≤ x ∨ r p = 7) : ∀ m : Nat, uLr n p m x r = r := by
  intro m
  induction m generalizing x with
  | zero => rfl
  | succ m ih =>
    show uLr n p m (x + 1) (uL1 n p x r) = r
    rw [uL1_n (by
      rintro ⟨h1, h2, _⟩
      rcases h with h | h
      · omega
      · exact h2 h)]
    exact ih (by omega)
theorem uAnd {st rm : Int} (h : 0 ≤ st ∧ st ≤ 127) (hr : 0 ≤ rm ∧ rm ≤ 6) : (xAnd st (1 * ((2 ^ rm.toNat : Nat) : Int)) = 0 ↔ st / ((2 ^ rm.toNat : Nat) : Int) % 2 = 0) ∧ xAnd st (xXor (1 * ((2 ^ rm.toNat : Nat) : Int)) (-1)) = uCl st rm := by
  have key : ∀ r : Fin 7, ∀ v : Fin 128, (xAnd (v.val : Int) (1 * ((2 ^ (r.val : Int).toNat : Nat) : Int)) = 0 ↔ (v.val : Int) / ((2 ^ (r.val : Int).toNat : Nat) : Int) % 2 = 0) ∧ xAnd (v.val : Int) (xXor (1 * ((2 ^ (r.val : Int).toNat : Nat) : Int)) (-1)) = uCl (v.val : Int) (r.val : Int) := by decide +kernel
  have := key ⟨rm.toNat, by omega⟩ ⟨st.toNat, by omega⟩
  rw [show (((⟨rm.toNat, by omega⟩ : Fin 7).val : Nat) : Int) = rm by show ((rm.toNat : Nat) : Int) = rm; omega, show (((⟨st.toNat, by omega⟩ : Fin 128).val : Nat) : Int) = st by show ((st.toNat : Nat) : Int) = st; omega] at this
  exact this
theorem uP7 {rm : Int} (h : 0 ≤ rm ∧ rm ≤ 6) : 1 ≤ 1 * ((2 ^ rm.toNat : Nat) : Int) ∧ 1 * ((2 ^ rm.toNat : Nat) : Int) ≤ 64 := by
  have : rm = 0 ∨ rm = 1 ∨ rm = 2 ∨ rm = 3 ∨ rm = 4 ∨ rm = 5 ∨ rm = 6 := by omega
  rcases this with e | e | e | e | e | e | e <;> subst e <;> decide
theorem uL1_lo (hx : 0 ≤ x) {j : Int} (hj : j < 4 ∨ 14 ≤ j) (hx5 : x < 5) : uL1 n p x r j = r j := by
  unfold uL1
  split
  · split
    · show (if j = 9 + x then _ else if j = 4 + x then _ else r j) = r j
      rw [if_neg (by omega), if_neg (by omega)]
    · show (if j = 9 + x then _ else r j) = r j
      rw [if_neg (by omega)]
  · rfl
theorem uRv_1 (hn5 : n ≤ 5) (h : uRv n r) (hp : 0 ≤ p ∧ p < 4) (hx : 0 ≤ x ∧ x < 5) : uRv n (uL1 n p x r) := by
  obtain ⟨h1, h2, h3, h4, h5, h6⟩ := h
  have lo : ∀ j, j < 4 ∨ 14 ≤ j → uL1 n p x r j = r j := fun j hj => uL1_lo hx.1 hj hx.2
  refine ⟨fun q q0 q1 => by rw [lo q (by omega)]; exact h1 q q0 q1, fun y y0 y1 => ?_, fun y y0 y1 => ?_, fun f y f0 f1 y0 y1 => by rw [lo _ (by omega)]; exact h4 f y f0 f1 y0 y1, fun f q f0 f1 q0 q1 => by rw [lo _ (by omega)]; exact h5 f q f0 f1 q0 q1, fun f y f0 f1 yn y0 y1 => by rw [lo _ (by omega)]; exact h6 f y f0 f1 yn y0 y1⟩
  all_goals
    unfold uL1
    split
    rotate_left
    · first | exact h2 y y0 y1 | exact h3 y y0 y1
    rename_i hc
    have hs := h3 x hx.1 hx.2
    have hr := h1 p hp.1 hp.2
    have hcl := uCl_b (z := r (9 + x)) (r := r p) hs.1 (by omega) hr.1 (by omega)
    have hlo := uLo_b (v := uCl (r (9 + x)) (r p)) ⟨hcl.1, by omega⟩
    split
  · show (0 ≤ (if 4 + y = 9 + x then _ else if 4 + y = 4 + x then _ else r (4 + y)) ∧ _) ∨ _
    dsimp only
    by_cases c : 4 + y = 9 + x
    · rw [if_pos c]
      omega
    · rw [if_neg c]
      by_cases c2 : 4 + y = 4 + x
      · rw [if_pos c2]
        omega
      · rw [if_neg c2]
        exact h2 y y0 y1
  · dsimp only
    by_cases c : 4 + y = 9 + x
    · rw [if_pos c]
      omega
    · rw [if_neg c]
      exact h2 y y0 y1
  · dsimp only
    by_cases c : 9 + y = 9 + x
    · rw [if_pos c]
      omega
    · rw [if_neg c, if_neg (by omega)]
      exact h3 y y0 y1
  · dsimp only
    by_cases c : 9 + y = 9 + x
    · rw [if_pos c]
      omega
    · rw [if_neg c]
      exact h3 y y0 y1
theorem uRv_r (hn5 : n ≤ 5) (hp : 0 ≤ p ∧ p < 4) : ∀ (m : Nat) (x : Int) (r : Int → Int), uRv n r → 0 ≤ x → x + (m : Int) ≤ 5 → uRv n (uLr n p m x r) ∧ ∀ j, j < 4 ∨ 14 ≤ j → uLr n p m x r j = r j := by
  intro m
  induction m with
  | zero => intro x r h _ _; exact ⟨h, fun _ _ => rfl⟩
  | succ m ih =>
    intro x r h h0 h1
    obtain ⟨i1, i2⟩ := ih (x + 1) (uL1 n p x r) (uRv_1 hn5 h hp ⟨h0, by omega⟩) (by omega) (by omega)
    exact ⟨i1, fun j hj => (i2 j hj).trans (uL1_lo h0 hj (by omega))⟩
theorem uRv_q (hn5 : n ≤ 5) : ∀ (m : Nat) (p : Int) (r : Int → Int), uRv n r → 0 ≤ p → p + (m : Int) ≤ 4 → uRv n (uLq n m p r) ∧ ∀ j, j < 4 ∨ 14 ≤ j → uLq n m p r j = r j := by
  intro m
  induction m with
  | zero => intro x r h _ _; exact ⟨h, fun _ _ => rfl⟩
  | succ m ih =>
    intro p r h h0 h1
    obtain ⟨j1, j2⟩ := uRv_r hn5 (p := p) ⟨h0, by omega⟩ 5 0 r h (by decide) (by decide)
    obtain ⟨i1, i2⟩ := ih (p + 1) (uLr n p 5 0 r) j1 (by omega) (by omega)
    exact ⟨i1, fun j hj => (i2 j hj).trans (j2 j hj)⟩
theorem uRv_f (hn5 : n ≤ 5) (h : uRv n r) : uRv n (uLf n r) ∧ ∀ j, j < 4 ∨ 14 ≤ j → uLf n r j = r j := uRv_q hn5 4 0 r h (by decide) (by decide)
theorem xU_row {q : Nat} {k v : Int} : (xU a q k v) q = fun j => if j = k then v else a q j := funext fun j => by
  by_cases c : j = k
  · rw [c, xUa, if_pos rfl]
  · rw [xUk c, if_neg c]
/-- lookedFor -/
theorem u175 (hA : xAr a) (hn : a 87 2 = n) (hn0 : 0 ≤ n ∧ n ≤ 5) (hr : uRv n (a 88)) (hd : 2 ≤ d) (hQ : ∀ a', (∀ q j, q ≠ 88 → a' q j = a q j) → xAr a' → a' 88 = uLf n (a 88) → Q none (xS a' b)) : pmCs ro d 175 [.ref 87] (xS a b) Q := by
  refine pmCs_deep (d := 2) (xg175 (w175 ?_)) hd
  have lx : ∀ (m : Nat) (p x : Int) (a1 : xA) (v3 : Option Value), x + (m : Int) = 5 → 0 ≤ x ∧ x ≤ n → 0 ≤ p ∧ p < 4 → (∀ q j, q ≠ 88 → a1 q j = a q j) → xAr a1 → uRv n (a1 88) → (∀ (a2 : xA) (v2 v3 : Option Value), (∀ q j, q ≠ 88 → a2 q j = a q j) → xAr a2 → a2 88 = uLr n p m x (a1 88) → pmWp ro 1 12 175 0 2 [some (.ref 87), some (xV (p + 1)), v2, v3] [] (xS a2 b) Q) →
      pmWp ro 1 12 175 0 9 [some (.ref 87), some (xV p), some (xV x), v3] [] (xS a1 b) Q := by
    intro m
    induction m with
    | zero =>
      intro p x a1 v3 hx ⟨x0, xn⟩ hp g1 g2 g3 K
      have e2 : a1 87 2 = n := (g1 87 2 (by decide)).trans hn
      by_cases hnx : n ≤ x
      · refine w175x (rm := a1 88 p) g2 ⟨by omega, by omega⟩ ⟨x0, xn⟩ e2 hn0 (by rw [Int.zero_add]) (g3.1 p hp.1 hp.2) (by decide) (fun _ => K a1 _ _ g1 g2 rfl) (fun e => by omega) (fun e => by omega)
      · omega
    | succ m ih =>
      intro p x a1 v3 hx ⟨x0, xn⟩ hp g1 g2 g3 K
      have e2 : a1 87 2 = n := (g1 87 2 (by decide)).trans hn
      refine w175x (rm := a1 88 p) g2 ⟨by omega, by omega⟩ ⟨x0, xn⟩ e2 hn0 (by rw [Int.zero_add]) (g3.1 p hp.1 hp.2) (by decide) (fun e => K a1 _ _ g1 g2 (uLr_n (Or.inl e) _).symm) (fun e1 e3 => ?_) (fun e1 e3 => K a1 _ _ g1 g2 (uLr_n (Or.inr e3) _).symm)
      have hrm := g3.1 p hp.1 hp.2
      have hrm : 0 ≤ a1 88 p ∧ a1 88 p ≤ 6 := by omega
      have hst := g3.2.2.1 x x0 (by omega)
      obtain ⟨n1, n2⟩ := uAnd hst hrm
      have skip : x < n → ¬ ((x < n ∧ a1 88 (4 + x) = 20) ∧ ¬ a1 88 p = 7 ∧ ¬ a1 88 (9 + x) / ((2 ^ (a1 88 p).toNat : Nat) : Int) % 2 = 0) → ∀ v3, pmWp ro 1 12 175 0 121 [some (.ref 87), some (xV p), some (xV x), v3] [] (xS a1 b) Q := fun hxn hc v3 => w175e ⟨by omega, by omega⟩ (ih p (x + 1) a1 _ (by omega) ⟨by omega, by omega⟩ hp g1 g2 g3 (fun a2 v2 v3 k1 k2 k3 => K a2 v2 v3 k1 k2 (by rw [k3]; show _ = uLr n p m (x + 1) (uL1 n p x (a1 88)); rw [uL1_n hc])))
      refine w175b g2 ⟨by omega, by omega⟩ rfl hst (uP7 hrm) (by decide) (fun e => skip (by omega) (fun h => e h.1.2) _) (fun e4 e5 => ?_) (fun _ e5 => skip (by omega) (fun h => h.2.2 (n1.mp e5)) _)
      rw [n2]
      have hcl := uCl_b (z := a1 88 (9 + x)) (r := a1 88 p) hst.1 (by omega) hrm.1 (by omega)
      have hlo := uLo_b (v := uCl (a1 88 (9 + x)) (a1 88 p)) ⟨hcl.1, by omega⟩
      have hcond : (x < n ∧ a1 88 (4 + x) = 20) ∧ ¬ a1 88 p = 7 ∧ ¬ a1 88 (9 + x) / ((2 ^ (a1 88 p).toNat : Nat) : Int) % 2 = 0 := ⟨⟨by omega, e4⟩, e3, fun h => e5 (n1.mpr h)⟩
      have hA2 : xAr (xU a1 88 (9 + x) (uCl (a1 88 (9 + x)) (a1 88 p))) := xAr_u g2 ⟨by omega, by omega⟩
      refine w175c (st := uCl (a1 88 (9 + x)) (a1 88 p)) hA2 ⟨by omega, by omega⟩ xUa ⟨hcl.1, by omega⟩ (by decide) (fun e6 => ?_) (fun e6 => ?_)
      · refine w175e ⟨by omega, by omega⟩ ?_
        have er : (xU a1 88 (9 + x) (uCl (a1 88 (9 + x)) (a1 88 p))) 88 = uL1 n p x (a1 88) := by
          rw [xU_row]
          unfold uL1
          rw [if_pos hcond, if_neg e6]
        refine ih p (x + 1) _ _ (by omega) ⟨by omega, by omega⟩ hp (fun q j h => by rw [xUn h]; exact g1 q j h) hA2 (by rw [er]; exact uRv_1 hn0.2 g3 hp ⟨x0, by omega⟩) (fun a2 v2 v3 k1 k2 k3 => K a2 v2 v3 k1 k2 (by rw [k3, er]; rfl))
      · refine rk178 (by decide) ⟨x0, by omega⟩ ?_
        refine w175e ⟨by omega, by omega⟩ ?_
        have er : (xU (xU (xU a1 88 (9 + x) (uCl (a1 88 (9 + x)) (a1 88 p))) 88 (4 + x) (uLo (uCl (a1 88 (9 + x)) (a1 88 p)))) 88 (9 + x) 0) 88 = uL1 n p x (a1 88) := by
          rw [xU_row, xU_row, xU_row]
          unfold uL1
          rw [if_pos hcond, if_pos e6]
          funext j
          dsimp only
          by_cases c : j = 9 + x
          · rw [if_pos c, if_pos c]
          · rw [if_neg c, if_neg c, if_neg c]
        refine ih p (x + 1) _ _ (by omega) ⟨by omega, by omega⟩ hp (fun q j h => by rw [xUn h, xUn h, xUn h]; exact g1 q j h) (xAr_u (xAr_u hA2 ⟨by omega, by omega⟩) xR0) (by rw [er]; exact uRv_1 hn0.2 g3 hp ⟨x0, by omega⟩) (fun a2 v2 v3 k1 k2 k3 => K a2 v2 v3 k1 k2 (by rw [k3, er]; rfl))
  have lp : ∀ (m : Nat) (p : Int) (a1 : xA) (v2 v3 : Option Value), p + (m : Int) = 4 → 0 ≤ p → (∀ q j, q ≠ 88 → a1 q j = a q j) → xAr a1 → uRv n (a1 88) → uLq n m p (a1 88) = uLf n (a 88) →
      pmWp ro 1 12 175 0 2 [some (.ref 87), some (xV p), v2, v3] [] (xS a1 b) Q := by
    intro m
    induction m with
    | zero =>
      intro p a1 v2 v3 hp p0 g1 g2 g3 g4
      exact w175p ⟨p0, by omega⟩ (fun _ => hQ a1 g1 g2 g4) (fun e => by omega)
    | succ m ih =>
      intro p a1 v2 v3 hp p0 g1 g2 g3 g4
      refine w175p ⟨p0, by omega⟩ (fun e => by omega) (fun _ => ?_)
      refine lx 5 p 0 a1 _ (by decide) ⟨by decide, hn0.1⟩ ⟨p0, by omega⟩ g1 g2 g3 (fun a2 v2 v3 k1 k2 k3 => ?_)
      exact ih (p + 1) a2 v2 v3 (by omega) (by omega) k1 k2 (by rw [k3]; exact (uRv_r hn0.2 ⟨p0, by omega⟩ 5 0 _ g3 (by decide) (by decide)).1) (by rw [k3]; exact g4)
  exact lp 4 0 a none none (by decide) (by decide) (fun _ _ _ => rfl) hA hr rfl
end
end
