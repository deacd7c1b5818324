/-! what it holds it knows; a first deed can be done -/
section
set_option maxRecDepth 100000


section
variable {dr wp pr : Int → Int} {ts : List Int} {n f x : Int} {r : Int → Int} {S : Int → Int}
/-- a best row begins with what can be done -/
theorem uOpt_1 (m : Nat) {q : Int × List Int} (h : uOpt dr wp pr f ts m S = some q) : ∃ k l, q.2 = k :: l ∧ (0 ≤ k ∧ k < 41) ∧ uCan dr wp f S k := by
  cases m with
  | zero => cases h
  | succ m =>
    rw [uOpt_s] at h
    refine uFo_all (P := fun p => ∃ k l, p.2 = k :: l ∧ (0 ≤ k ∧ k < 41) ∧ uCan dr wp f S k) 41 (fun k hk p hp => ?_) q h
    unfold uOne at hp
    by_cases c : uCan dr wp f S (k : Int)
    · rw [uIf_t c] at hp
      cases hh : uHold f ts (uApp f S (k : Int)) with
      | true =>
        rw [hh] at hp
        have hp : some (uCs pr (k : Int), [(k : Int)]) = some p := hp
        injection hp with hp
        subst hp
        exact ⟨k, [], rfl, by omega, c⟩
      | false =>
        rw [hh] at hp
        have hp : uSh (uCs pr (k : Int)) (k : Int) (uOpt dr wp pr f ts m (uApp f S (k : Int))) = some p := hp
        cases ho : uOpt dr wp pr f ts m (uApp f S (k : Int)) with
        | none =>
          rw [ho] at hp
          cases hp
        | some p2 =>
          rw [ho] at hp
          have hp : some (uCs pr (k : Int) + p2.1, (k : Int) :: p2.2) = some p := hp
          injection hp with hp
          subst hp
          exact ⟨k, p2.2, rfl, by omega, c⟩
    · rw [uIf_f c] at hp
      cases hp
/-- what a folk holds it knows of -/
def uKh (n : Int) (r : Int → Int) (k : Int) : Prop := ∀ f x, 1 ≤ f → f < k → ¬ r f = 7 → 0 ≤ x → x < n → r (4 + x) = 10 + f → r (14 + 9 * (f - 1) + x) = 10 + f
theorem uKh_k (hn5 : n ≤ 5) (hf : 1 ≤ f ∧ f ≤ 3) (h : uKh n r f) : uKh n (uLk n f r) (f + 1) := by
  intro g x g1 g2 ga x0 xn hx
  rw [uLk_lo hf.1 (by omega) hf.2 hn5] at ga
  rw [uLk_lo hf.1 (by omega) hf.2 hn5] at hx
  by_cases c : g = f
  · subst c
    rw [uLk_t hn5 x0 xn]
    unfold uBt
    rw [if_pos (Or.inr ⟨by omega, by rw [hx, show 10 + g - 10 = g by omega]⟩)]
    exact hx
  · rw [uLk_o hn5 c x0 (by omega)]
    exact h g x g1 (by omega) ga x0 xn hx
theorem uKh_a (hn5 : n ≤ 5) : ∀ (m : Nat) (f : Int) (r : Int → Int), 1 ≤ f → f + (m : Int) = 4 → uKh n r f → uKh n (uAr n m f r) 4 := by
  intro m
  induction m with
  | zero =>
    intro f r f1 f4 h
    have : f = 4 := by omega
    rw [this] at h
    exact h
  | succ m ih =>
    intro f r f1 f4 h
    show uKh n (uAr n m (f + 1) (if r f = 7 then r else uLk n f r)) 4
    by_cases c : r f = 7
    · rw [if_pos c]
      refine ih (f + 1) r (by omega) (by omega) (fun g x g1 g2 ga => ?_)
      by_cases cg : g = f
      · rw [cg] at ga
        exact absurd c ga
      · exact h g x g1 (by omega) ga
    · rw [if_neg c]
      exact ih (f + 1) _ (by omega) (by omega) (uKh_k hn5 ⟨f1, by omega⟩ h)
theorem uKh_l (hn5 : n ≤ 5) : uKh n (uAl n r) 4 := uKh_a hn5 3 1 _ (by decide) (by decide) (fun g x g1 g2 => by omega)
end
end
