section
/-! the class looks, by rows -/
section
set_option maxRecDepth 100000


section
variable {ro : Nat → Nat × (Nat → Int32)} {d w : Nat} {Q : Option Value → pmS → Prop} {n f p k x : Int} {r r' : Int → Int} {a a' : xA} {b b' : xB}
/-- a folk's mind in a world of the class's, by the row -/
def uRf (n : Int) (w : Nat) (r : Int → Int) (b : xB) (f : Int) : Prop := uHi (b (w + 1) f) ∧ (∀ q, 0 ≤ q → q < 4 → ¬ q = f → uSl (b (w + 1) f) q = r (14 + 9 * (f - 1) + 5 + q) + 1) ∧ ∀ x, 0 ≤ x → x < 5 → uSl (b (w + 1) f) (4 + x) = uTc (r (14 + 9 * (f - 1) + x))
theorem uTc_m : uTc (-1) = 0 := rfl
theorem uHr_t {S : Int → Int} {v sv i : Int} (hr : uRv n r) (hS : ∀ j, 0 ≤ j → j < 4 → S j = r j + 1) (hf : 0 ≤ r f ∧ r f ≤ 6) (hi : 4 ≤ i) (hv : (-1 ≤ v ∧ v ≤ 6 ∧ sv = v + 1) ∨ (10 ≤ v ∧ v ≤ 13 ∧ sv = v - 1) ∨ (v = 20 ∧ sv = 13)) : uHr S (r f + 1) i sv ↔ uTh r (r f) v := by
  rcases hv with h | h | h
  · constructor
    · rintro (g | g)
      · exact Or.inl (by omega)
      · omega
    · rintro (g | g)
      · exact Or.inl (by omega)
      · omega
  · have e : sv - 9 = v - 10 := by omega
    have hs := hS (v - 10) (by omega) (by omega)
    constructor
    · rintro (g | ⟨_, _, g⟩)
      · omega
      · rw [e, hs] at g
        exact Or.inr ⟨by omega, by omega⟩
    · rintro (g | ⟨_, g⟩)
      · omega
      · refine Or.inr ⟨hi, by omega, ?_⟩
        rw [e, hs]
        omega
  · constructor
    · rintro (g | g) <;> omega
    · rintro (g | g) <;> omega
theorem uTc_v {v : Int} (h : (-1 ≤ v ∧ v ≤ 6) ∨ (10 ≤ v ∧ v ≤ 13)) : (-1 ≤ v ∧ v ≤ 6 ∧ uTc v = v + 1) ∨ (10 ≤ v ∧ v ≤ 13 ∧ uTc v = v - 1) := by
  unfold uTc
  split <;> omega
/-- look -/
theorem u63 (hz : uWz w) (hn0 : 0 ≤ n ∧ n ≤ 5) (hr : uRv n r) (hT : uRt n w r b) (hf : 1 ≤ f ∧ f ≤ 3) (hM : uRf n w r b f) (hal : ¬ r f = 7) (hd : 2 ≤ d) (hQ : ∀ l, uRf n w (uLk n f r) (xU b (w + 1) f l) f → uSl l f = r f + 1 → Q none (xS a (xU b (w + 1) f l))) : pmCs ro d 63 [.ref 43, .ref w, xV f] (xS a b) Q := by
  have h7 := hr.1 f (by omega) (by omega)
  have h6 : 0 ≤ r f ∧ r f ≤ 6 := by omega
  have eS : ∀ j, 0 ≤ j → j < 4 → uSl (b w 4) j = r j + 1 := fun j j0 j1 => (hT.1 j j0 (by omega)).trans (uWs_p j1)
  have ef := eS f (by omega) (by omega)
  obtain ⟨m1, m2, m3⟩ := hM
  refine u63s hz hf m1 (by rw [ef]; omega) hd (fun l g1 g2 => hQ l ⟨?_, fun q q0 q1 hq => ?_, fun x x0 x1 => ?_⟩ ?_)
  · rw [xUa]
    exact g1
  · rw [xUa, g2 q q0 (by omega), uLk_q hn0.2 q0 q1 hq, ef]
    unfold uTg uBq
    rw [m2 q q0 q1 hq, eS q q0 q1]
    by_cases c : r q = r f
    · rw [if_pos c, if_pos (Or.inl (by omega))]
      omega
    · rw [if_neg c, if_neg (fun h => h.elim (fun h => by omega) (fun h => by omega))]
      by_cases c2 : r (14 + 9 * (f - 1) + 5 + q) = r f
      · rw [if_pos c2, if_pos (Or.inl (by omega))]
        decide
      · rw [if_neg c2, if_neg (fun h => h.elim (fun h => by omega) (fun h => by omega))]
  · rw [xUa, g2 (4 + x) (by omega) (by omega), ef]
    have hb := uTc_v (hr.2.2.2.1 f x hf.1 hf.2 x0 x1)
    have hx := uWs_x hr x0 x1
    have ex := hT.1 (4 + x) (by omega) (by omega)
    unfold uTg
    rw [m3 x x0 x1, ex]
    have tb := uHr_t (S := uSl (b w 4)) (f := f) (v := r (14 + 9 * (f - 1) + x)) (sv := uTc (r (14 + 9 * (f - 1) + x))) (i := 4 + x) hr eS h6 (by omega) (hb.elim (fun h => Or.inl h) (fun h => Or.inr (Or.inl h)))
    rcases hx with ⟨xn, hx⟩ | ⟨xn, hx⟩
    · have ts := uHr_t (S := uSl (b w 4)) (f := f) (v := r (4 + x)) (sv := uWs n r (4 + x)) (i := 4 + x) hr eS h6 (by omega) (by omega)
      rw [uLk_t hn0.2 x0 xn]
      unfold uBt
      by_cases c : uTh r (r f) (r (4 + x))
      · rw [if_pos c, if_pos (ts.mpr c)]
        have : ¬ r (4 + x) = 20 := fun h => by
          rcases c with c | c <;> omega
        have := @uTc_v (r (4 + x)) (by omega)
        omega
      · rw [if_neg c, if_neg (fun h => c (ts.mp h))]
        by_cases c2 : uTh r (r f) (r (14 + 9 * (f - 1) + x))
        · rw [if_pos c2, if_pos (tb.mpr c2)]
          rfl
        · rw [if_neg c2, if_neg (fun h => c2 (tb.mp h))]
    · rw [uLk_t2 hn0.2 xn x1 x0]
      have e1 := hr.2.2.2.2.2 f x hf.1 hf.2 xn x0 x1
      rw [e1] at tb ⊢
      rw [hx, if_neg (fun h => h.elim (fun h => by omega) (fun h => by omega)), if_neg (fun h => (tb.mp h).elim (fun h => by omega) (fun h => by omega))]
  · rw [g2 f (by omega) (by omega)]
    unfold uTg
    rw [if_pos (Or.inl rfl), ef]
end
end
end
section
/-! all of the class look -/
section
set_option maxRecDepth 100000


section
variable {ro : Nat → Nat × (Nat → Int32)} {d w : Nat} {Q : Option Value → pmS → Prop} {n f g p k x : Int} {r r' : Int → Int} {a a' : xA} {b b' : xB}
/-- a world of the class's, by the row: the minds, and that the folk know their own room -/
def uRm (n : Int) (w : Nat) (r : Int → Int) (b : xB) : Prop := ∀ f, 1 ≤ f → f ≤ 3 → uRf n w r b f
def uOx (w : Nat) (r : Int → Int) (b : xB) (k : Int) : Prop := ∀ f, 1 ≤ f → f < k → ¬ r f = 7 → uSl (b (w + 1) f) f = r f + 1
theorem uRt_c (hT : uRt n w r b) (hn5 : n ≤ 5) (e : ∀ j, j < 14 → r' j = r j) (h4 : b' w 4 = b w 4) (h5 : b' w 5 = b w 5) : uRt n w r' b' := ⟨fun j j0 j1 => by
  rw [h4, hT.1 j j0 j1]
  exact (uWs_c (e j (by omega))).symm, by rw [h4]; exact hT.2.1, fun x x0 xn hx => by
  rw [e _ (by omega)] at hx
  rw [h5, e _ (by omega)]
  exact hT.2.2 x x0 xn hx⟩
theorem uRf_c (hM : uRf n w r b g) (e : ∀ j, 0 ≤ j → j < 9 → r' (14 + 9 * (g - 1) + j) = r (14 + 9 * (g - 1) + j)) (hb : b' (w + 1) g = b (w + 1) g) : uRf n w r' b' g := by
  obtain ⟨m1, m2, m3⟩ := hM
  refine ⟨by rw [hb]; exact m1, fun q q0 q1 hq => ?_, fun x x0 x1 => ?_⟩
  · rw [hb, m2 q q0 q1 hq, show 14 + 9 * (g - 1) + 5 + q = 14 + 9 * (g - 1) + (5 + q) by omega, e (5 + q) (by omega) (by omega)]
  · rw [hb, m3 x x0 x1, e x x0 (by omega)]
/-- lookAbout -/
theorem u59 (hz : uWz w) (hn0 : 0 ≤ n ∧ n ≤ 5) (hr : uRv n r) (hT : uRt n w r b) (hM : uRm n w r b) (hd : 3 ≤ d) (hQ : ∀ b', (∀ q j, ¬ (q = w ∧ (j = 4 ∨ j = 5)) → ¬ (q = w + 1 ∧ 1 ≤ j ∧ j ≤ 3) → b' q j = b q j) → uRt n w (uAl n r) b' → uRm n w (uAl n r) b' → uOx w (uAl n r) b' 4 → Q none (xS a b')) : pmCs ro d 59 [.ref 43, .ref w] (xS a b) Q := by
  refine pmCs_deep (d := 3) (xg59 (w59 hz (by decide) (u60 hz hn0 hr hT (by decide) (fun b1 x1 T1 => w59a hz (by decide) ?_)))) hd
  have hf0 := uRv_f hn0.2 hr
  have M1 : uRm n w (uLf n r) b1 := fun f f0 f1 => uRf_c (hM f f0 f1) (fun j j0 j1 => hf0.2 _ (by omega)) (x1 _ _ (by omega))
  have loop : ∀ (m : Nat) (f : Int) (r1 : Int → Int) (b1 : xB), f + (m : Int) = 4 → 1 ≤ f → (∀ q j, ¬ (q = w ∧ (j = 4 ∨ j = 5)) → ¬ (q = w + 1 ∧ 1 ≤ j ∧ j ≤ 3) → b1 q j = b q j) → uRv n r1 → uRt n w r1 b1 → uRm n w r1 b1 → uOx w r1 b1 f → uAr n m f r1 = uAl n r → pmWp ro 2 4 59 0 7 [some (.ref 43), some (.ref w), some (xV f)] [] (xS a b1) Q := by
    intro m
    induction m with
    | zero =>
      intro f r1 b1 hf f1 g1 g2 g3 g4 g5 g6
      have g6 : r1 = uAl n r := g6
      have e4 : f = 4 := by omega
      rw [e4] at g5
      exact w59p hz (by decide) ⟨f1, by omega⟩ (fun _ => hQ b1 g1 (by rw [← g6]; exact g3) (by rw [← g6]; exact g4) (by rw [← g6]; exact g5)) (fun e => by omega)
    | succ m ih =>
      intro f r1 b1 hf f1 g1 g2 g3 g4 g5 g6
      have g6 : uAr n m (f + 1) (if r1 f = 7 then r1 else uLk n f r1) = uAl n r := g6
      refine w59p hz (by decide) ⟨f1, by omega⟩ (fun e => by omega) (fun _ => ?_)
      have ef : uSl (b1 w 4) f = r1 f + 1 := (g3.1 f (by omega) (by omega)).trans (uWs_p (by omega))
      by_cases c : r1 f = 7
      · rw [if_pos c] at g6
        refine pmCs_deep (d := 2) (xg63 (w63 hz (by decide) ⟨f1, by omega⟩ (fun e => absurd (by omega) e) (fun _ => w59n hz (by decide) ⟨f1, by omega⟩ ?_))) (by decide)
        refine ih (f + 1) r1 b1 (by omega) (by omega) g1 g2 g3 g4 (fun k k1 k2 hk => ?_) g6
        by_cases ck : k = f
        · rw [ck] at hk
          exact absurd c hk
        · exact g5 k k1 (by omega) hk
      · rw [if_neg c] at g6
        refine u63 hz hn0 g2 g3 ⟨f1, by omega⟩ (g4 f f1 (by omega)) c (by decide) (fun l h1 h2 => w59n hz (by decide) ⟨f1, by omega⟩ ?_)
        have lo : ∀ j, j < 14 → uLk n f r1 j = r1 j := fun j hj => uLk_lo f1 (Or.inl hj) (by omega) hn0.2
        refine ih (f + 1) (uLk n f r1) _ (by omega) (by omega) (fun q j e1 e2 => by rw [xUo (fun e => e2 ⟨e.1, by omega⟩)]; exact g1 q j e1 e2) (uRv_k hn0.2 g2 ⟨f1, by omega⟩ c) (uRt_c g3 hn0.2 lo (xUn (by omega)) (xUn (by omega))) (fun k k1 k3 => ?_) (fun k k1 k2 hk => ?_) g6
        · by_cases ck : k = f
          · rw [ck]
            exact h1
          · exact uRf_c (g4 k k1 k3) (fun j j0 j1 => uLk_o hn0.2 ck j0 j1) (xUk ck)
        · rw [lo k (by omega)] at hk ⊢
          by_cases ck : k = f
          · rw [ck, xUa]
            exact h2
          · rw [xUk ck]
            exact g5 k k1 (by omega) hk
  exact loop 3 1 (uLf n r) b1 (by decide) (by decide) (fun q j e1 _ => x1 q j e1) hf0.1 T1 M1 (fun k k1 k2 => by omega) rfl
end
end
end
section
/-! what it holds it knows; a first deed can be done -/
section
set_option maxRecDepth 100000


section
variable {dr wp pr : Int → Int} {ts : List Int} {n f x : Int} {r : Int → Int} {S : Int → Int}
/-- a best row begins with what can be done -/
theorem uOpt_1 (m : Nat) {q : Int × List Int} (h : uOpt dr wp pr f ts m S = some q) : ∃ k l, q.2 = k :: l ∧ (0 ≤ k ∧ k < 41) ∧ uCan dr wp f S k := by
  cases m with
  | zero => cases h
  | succ m =>
    rw [uOpt_s] at h
    refine uFo_all (P := fun p => ∃ k l, p.2 = k :: l ∧ (0 ≤ k ∧ k < 41) ∧ uCan dr wp f S k) 41 (fun k hk p hp => ?_) q h
    unfold uOne at hp
    by_cases c : uCan dr wp f S (k : Int)
    · rw [uIf_t c] at hp
      cases hh : uHold f ts (uApp f S (k : Int)) with
      | true =>
        rw [hh] at hp
        have hp : some (uCs pr (k : Int), [(k : Int)]) = some p := hp
        injection hp with hp
        subst hp
        exact ⟨k, [], rfl, by omega, c⟩
      | false =>
        rw [hh] at hp
        have hp : uSh (uCs pr (k : Int)) (k : Int) (uOpt dr wp pr f ts m (uApp f S (k : Int))) = some p := hp
        cases ho : uOpt dr wp pr f ts m (uApp f S (k : Int)) with
        | none =>
          rw [ho] at hp
          cases hp
        | some p2 =>
          rw [ho] at hp
          have hp : some (uCs pr (k : Int) + p2.1, (k : Int) :: p2.2) = some p := hp
          injection hp with hp
          subst hp
          exact ⟨k, p2.2, rfl, by omega, c⟩
    · rw [uIf_f c] at hp
      cases hp
/-- what a folk holds it knows of -/
def uKh (n : Int) (r : Int → Int) (k : Int) : Prop := ∀ f x, 1 ≤ f → f < k → ¬ r f = 7 → 0 ≤ x → x < n → r (4 + x) = 10 + f → r (14 + 9 * (f - 1) + x) = 10 + f
theorem uKh_k (hn5 : n ≤ 5) (hf : 1 ≤ f ∧ f ≤ 3) (h : uKh n r f) : uKh n (uLk n f r) (f + 1) := by
  intro g x g1 g2 ga x0 xn hx
  rw [uLk_lo hf.1 (by omega) hf.2 hn5] at ga
  rw [uLk_lo hf.1 (by omega) hf.2 hn5] at hx
  by_cases c : g = f
  · subst c
    rw [uLk_t hn5 x0 xn]
    unfold uBt
    rw [if_pos (Or.inr ⟨by omega, by rw [hx, show 10 + g - 10 = g by omega]⟩)]
    exact hx
  · rw [uLk_o hn5 c x0 (by omega)]
    exact h g x g1 (by omega) ga x0 xn hx
theorem uKh_a (hn5 : n ≤ 5) : ∀ (m : Nat) (f : Int) (r : Int → Int), 1 ≤ f → f + (m : Int) = 4 → uKh n r f → uKh n (uAr n m f r) 4 := by
  intro m
  induction m with
  | zero =>
    intro f r f1 f4 h
    have : f = 4 := by omega
    rw [this] at h
    exact h
  | succ m ih =>
    intro f r f1 f4 h
    show uKh n (uAr n m (f + 1) (if r f = 7 then r else uLk n f r)) 4
    by_cases c : r f = 7
    · rw [if_pos c]
      refine ih (f + 1) r (by omega) (by omega) (fun g x g1 g2 ga => ?_)
      by_cases cg : g = f
      · rw [cg] at ga
        exact absurd c ga
      · exact h g x g1 (by omega) ga
    · rw [if_neg c]
      exact ih (f + 1) _ (by omega) (by omega) (uKh_k hn5 ⟨f1, by omega⟩ h)
theorem uKh_l (hn5 : n ≤ 5) : uKh n (uAl n r) 4 := uKh_a hn5 3 1 _ (by decide) (by decide) (fun g x g1 g2 => by omega)
end
end
end
