/-! the abstract machine is sound: the heap -/
section
def aCk (n : Nat) (ρ : Nat → Int) (c : aI × aO) (φ : Nat → Int) : Prop := ∀ k, match pmLk c.2 k with
  | some g => aFok n ρ g (φ k)
  | none => c.1.1 ≤ φ k ∧ φ k ≤ c.1.2
def aHok (n : Nat) (ρ : Nat → Int) (H : aH) (φ : Nat → Nat → Int) : Prop := ∀ p c, aG2 H p = some c → aCk n ρ c (φ p)
variable {L : aLa} {x y z d : Int} {ρ ρ' : Nat → Int} {E E' : aE} {X : aX} {f g : aF} {i j : aI} {n n' p k : Nat} {H : aH} {φ φ' : Nat → Nat → Int} {c : aI × aO}
theorem aCk.ext {ψ : Nat → Int} (h : aCk n ρ c ψ) (hn : n ≤ n') (he : aExt n ρ ρ') : aCk n' ρ' c ψ := fun k => by
  have := h k
  split at this
  · exact this.ext hn he
  · exact this
theorem aHok.ext (h : aHok n ρ H φ) (hn : n ≤ n') (he : aExt n ρ ρ') : aHok n' ρ' H φ := fun p c hp => (h p c hp).ext hn he
theorem aHok.set {c' : aI × aO} {K : aH → Bool} (h : aHok n ρ H φ) (hc : aCk n ρ c' (φ' p)) (ho : ∀ q, q ≠ p → φ' q = φ q) (hK : aS2 H p c' K = true) : ∃ H', aHok n ρ H' φ' ∧ K H' = true := by
  obtain ⟨H', h1, h2⟩ := aS2_ok hK
  refine ⟨H', fun q cq hq => ?_, h2⟩
  rw [h1] at hq
  by_cases e : q = p
  · rw [if_pos e] at hq
    cases hq
    rw [e]
    exact hc
  · rw [if_neg e] at hq
    rw [ho q e]
    exact h q cq hq
theorem pmLk_cons {β : Type} (q : Nat × β) (l : List (Nat × β)) (k : Nat) : pmLk (q :: l) k = if q.1 = k then some q.2 else pmLk l k := by
  show (bif Nat.beq q.1 k then some q.2 else pmLk l k) = _
  by_cases h : q.1 = k
  · rw [if_pos h, h]
    simp
  · rw [if_neg h]
    cases hb : Nat.beq q.1 k with
    | true => exact absurd (Nat.eq_of_beq_eq_true hb) h
    | false => rfl
theorem pmLk_del {β : Type} (k : Nat) : ∀ (l : List (Nat × β)) (j : Nat), pmLk (l.filter fun q => !(Nat.beq q.1 k)) j = if j = k then none else pmLk l j
  | [], j => by simp [pmLk]
  | q :: l, j => by
    have ih := pmLk_del k l j
    by_cases h : q.1 = k
    · rw [List.filter_cons_of_neg (by rw [h]; simp), ih, pmLk_cons]
      split
      · rfl
      · rw [if_neg (by omega)]
    · have hb : (!(Nat.beq q.1 k)) = true := by
        cases hb : Nat.beq q.1 k with
        | true => exact absurd (Nat.eq_of_beq_eq_true hb) h
        | false => rfl
      rw [List.filter_cons_of_pos (p := fun q : Nat × β => !(Nat.beq q.1 k)) hb, pmLk_cons, pmLk_cons, ih]
      by_cases h2 : q.1 = j
      · rw [if_pos h2, if_neg (by omega), if_pos h2]
      · rw [if_neg h2, if_neg h2]
def aGh (L : aLa) (E : aE) (ρ : Nat → Int) (φ : Nat → Nat → Int) (z : Int) (K : aE → aH → aF → Bool) : Prop :=
  ∃ E' ρ' H' g, E.length ≤ E'.length ∧ aExt E.length ρ ρ' ∧ aEok L ρ' E' ∧ aHok E'.length ρ' H' φ ∧ aFok E'.length ρ' g z ∧ K E' H' g = true
theorem aGetK_ok {K : aE → aH → aF → Bool} (hE : aEok L ρ E) (hH : aHok E.length ρ H φ) (hK : aGetK E H p k K = true) : aGh L E ρ φ (φ p k) K := by
  unfold aGetK at hK
  simp only [fGet_eq, fLk_eq, fG2_eq, zLe_eq, zEq_eq, zAdd_eq, zSub_eq, zNeg_eq, zAnd, zIf] at hK
  split at hK
  · rename_i d0 o0 hc
    have hck := hH p (d0, o0) hc k
    split at hK
    · rename_i g hg
      rw [hg] at hck
      exact ⟨E, ρ, H, g, Nat.le_refl _, aExt.rf, hE, hH, hck, hK⟩
    · rename_i hg
      rw [hg] at hck
      split at hK
      · rename_i e
        rw [aFz_eq] at hK
        have hz : φ p k = d0.1 := by
          have q1 : d0.1 ≤ φ p k := hck.1
          have q2 : φ p k ≤ d0.2 := hck.2
          omega
        rw [hz]
        exact ⟨E, ρ, H, _, Nat.le_refl _, aExt.rf, hE, hH, aFok.c0 hE, hK⟩
      · obtain ⟨E', ρ', g, h1, h2, h3, h4, h5⟩ := aNew_ok hE hck.1 hck.2 hK
        suffices hck' : aCk E'.length ρ' (d0, (k, g) :: o0) (φ p) by
          obtain ⟨H', g1, g2⟩ := (hH.ext h1 h2).set hck' (fun _ _ => rfl) h5
          exact ⟨E', ρ', H', g, h1, h2, h3, g1, h4, g2⟩
        intro j
        show match pmLk ((k, g) :: o0) j with | some g => aFok E'.length ρ' g (φ p j) | none => d0.1 ≤ φ p j ∧ φ p j ≤ d0.2
        rw [pmLk_cons]
        by_cases hj : k = j
        · subst hj
          rw [if_pos rfl]
          exact h4
        · rw [if_neg hj]
          exact ((hH p (d0, o0) hc).ext h1 h2) j
  · cases hK
def aGs (n : Nat) (ρ : Nat → Int) (φ : Nat → Nat → Int) (K : aH → Bool) : Prop := ∃ H', aHok n ρ H' φ ∧ K H' = true
def aUp (φ : Nat → Nat → Int) (p k : Nat) (z : Int) : Nat → Nat → Int := fun q j => if q = p ∧ j = k then z else φ q j
theorem aUp_ne (q : Nat) (h : q ≠ p) : aUp φ p k z q = φ q := by funext j; simp [aUp, h]
theorem aPutK_ok {K : aH → Bool} (hH : aHok n ρ H φ) (hg : aFok n ρ g z) (hK : aPutK H p k g K = true) : aGs n ρ (aUp φ p k z) K := by
  unfold aPutK at hK
  simp only [fG2_eq, fDel_eq] at hK
  split at hK
  · rename_i d0 o0 hc
    refine hH.set ?_ aUp_ne hK
    intro j
    show match pmLk ((k, g) :: o0.filter fun q => !(Nat.beq q.1 k)) j with | some g => aFok n ρ g (aUp φ p k z p j) | none => d0.1 ≤ aUp φ p k z p j ∧ aUp φ p k z p j ≤ d0.2
    rw [pmLk_cons]
    by_cases hj : k = j
    · subst hj
      rw [if_pos rfl]
      show aFok n ρ g (if p = p ∧ k = k then z else φ p k)
      rw [if_pos ⟨rfl, rfl⟩]
      exact hg
    · rw [if_neg hj, pmLk_del, if_neg (Ne.symm hj)]
      have e : aUp φ p k z p j = φ p j := if_neg (fun h => hj h.2.symm)
      rw [e]
      exact hH p (d0, o0) hc j
  · cases hK
theorem aJo_ok : ∀ (l : aO) (i r : aI), aJo E l i = some r → (r.1 ≤ i.1 ∧ i.2 ≤ r.2) ∧ ∀ k g, pmLk l k = some g → ∃ j, aItv E g = some j ∧ r.1 ≤ j.1 ∧ j.2 ≤ r.2
  | [], i, r, h => by cases h; exact ⟨⟨Int.le_refl _, Int.le_refl _⟩, fun k g h => by cases h⟩
  | q :: l, i, r, h => by
    unfold aJo at h
    split at h
    · rename_i j hj
      obtain ⟨⟨a1, a2⟩, a3⟩ := aJo_ok l _ r h
      have m1 := aMin_le i.1 j.1
      have m2 := aMax_le i.2 j.2
      change r.1 ≤ aMin i.1 j.1 at a1
      change aMax i.2 j.2 ≤ r.2 at a2
      refine ⟨⟨by omega, by omega⟩, fun k g hg => ?_⟩
      rw [pmLk_cons] at hg
      split at hg
      · cases hg
        exact ⟨j, hj, by omega, by omega⟩
      · exact a3 k g hg
    · cases h
theorem aGetA_ok {K : aE → aH → aF → Bool} (hE : aEok L ρ E) (hH : aHok E.length ρ H φ) (hf : aFok E.length ρ f x) (hx : x.toNat = k) (hK : aGetA E H p f K = true) : aGh L E ρ φ (φ p k) K := by
  unfold aGetA at hK
  simp only [fGet_eq, fLk_eq, fG2_eq, zLe_eq, zEq_eq, zAdd_eq, zSub_eq, zNeg_eq, zAnd, zIf] at hK
  split at hK
  · rename_i i hi
    have a := aItv_ok hE hf hi
    split at hK
    · rw [aFn_eq] at hK
      have e : i.1.toNat = k := by rw [← hx]; congr 1; omega
      rw [e] at hK
      exact aGetK_ok hE hH hK
    · split at hK
      · rename_i c hc
        split at hK
        · rename_i j hj
          obtain ⟨⟨a1, a2⟩, a3⟩ := aJo_ok _ _ _ hj
          have hck := hH p c hc k
          have hin : j.1 ≤ φ p k ∧ φ p k ≤ j.2 := by
            split at hck
            · rename_i g hg
              obtain ⟨q, q1, q2, q3⟩ := a3 k g hg
              have := aItv_ok hE hck q1
              omega
            · omega
          obtain ⟨E', ρ', g, h1, h2, h3, h4, h5⟩ := aNew_ok hE hin.1 hin.2 hK
          exact ⟨E', ρ', H, g, h1, h2, h3, hH.ext h1 h2, h4, h5⟩
        · cases hK
      · cases hK
  · cases hK
theorem aWk_ok {a b : Int} : ∀ (l : aO) (i : aI) (r : aI × aO), aWk E a b l i = some r → (r.1.1 ≤ i.1 ∧ i.2 ≤ r.1.2) ∧ ∀ k : Nat, (a ≤ (k : Int) ∧ (k : Int) ≤ b → pmLk r.2 k = none ∧ ∀ g, pmLk l k = some g → ∃ j, aItv E g = some j ∧ r.1.1 ≤ j.1 ∧ j.2 ≤ r.1.2) ∧ (¬ (a ≤ (k : Int) ∧ (k : Int) ≤ b) → pmLk r.2 k = pmLk l k)
  | [], i, r, h => by cases h; exact ⟨⟨Int.le_refl _, Int.le_refl _⟩, fun k => ⟨fun _ => ⟨rfl, fun g h => by cases h⟩, fun _ => rfl⟩⟩
  | q :: l, i, r, h => by
    unfold aWk at h
    simp only [fGet_eq, fLk_eq, fG2_eq, zLe_eq, zEq_eq, zAdd_eq, zSub_eq, zNeg_eq, zAnd, zIf] at h
    split at h
    · rename_i hq
      split at h
      · rename_i j hj
        obtain ⟨⟨a1, a2⟩, a3⟩ := aWk_ok l _ r h
        have m1 := aMin_le i.1 j.1
        have m2 := aMax_le i.2 j.2
        change r.1.1 ≤ aMin i.1 j.1 at a1
        change aMax i.2 j.2 ≤ r.1.2 at a2
        refine ⟨⟨by omega, by omega⟩, fun k => ⟨fun hk => ⟨((a3 k).1 hk).1, fun g hg => ?_⟩, fun hk => ?_⟩⟩
        · rw [pmLk_cons] at hg
          split at hg
          · cases hg
            exact ⟨j, hj, by omega, by omega⟩
          · exact ((a3 k).1 hk).2 g hg
        · rw [(a3 k).2 hk, pmLk_cons, if_neg (fun e => hk (by rw [← e]; exact hq))]
      · cases h
    · rename_i hq
      split at h
      · rename_i r' hr
        cases h
        obtain ⟨⟨a1, a2⟩, a3⟩ := aWk_ok l _ r' hr
        refine ⟨⟨a1, a2⟩, fun k => ⟨fun hk => ?_, fun hk => ?_⟩⟩
        · have hne : q.1 ≠ k := fun e => hq (by rw [e]; exact hk)
          refine ⟨?_, fun g hg => ?_⟩
          · show pmLk (q :: r'.2) k = none
            rw [pmLk_cons, if_neg hne]
            exact ((a3 k).1 hk).1
          · rw [pmLk_cons, if_neg hne] at hg
            exact ((a3 k).1 hk).2 g hg
        · show pmLk (q :: r'.2) k = pmLk (q :: l) k
          rw [pmLk_cons, pmLk_cons, (a3 k).2 hk]
      · cases h
theorem aPutA_ok {K : aH → Bool} (hE : aEok L ρ E) (hH : aHok E.length ρ H φ) (hf : aFok E.length ρ f x) (hg : aFok E.length ρ g z) (h0 : 0 ≤ x) (hx : x.toNat = k) (hK : aPutA E H p f g K = true) : aGs E.length ρ (aUp φ p k z) K := by
  unfold aPutA at hK
  simp only [fGet_eq, fLk_eq, fG2_eq, zLe_eq, zEq_eq, zAdd_eq, zSub_eq, zNeg_eq, zAnd, zIf] at hK
  split at hK
  · rename_i i hi
    have a := aItv_ok hE hf hi
    split at hK
    · rw [aFn_eq] at hK
      have e : i.1.toNat = k := by rw [← hx]; congr 1; omega
      rw [e] at hK
      exact aPutK_ok hH hg hK
    · split at hK
      · rename_i c j hc hj
        split at hK
        · rename_i r hr
          rw [aFz_eq, aFz_eq] at hK
          obtain ⟨⟨a1, a2⟩, a3⟩ := aWk_ok _ _ _ hr
          have b := aItv_ok hE hg hj
          have m1 := aMin_le c.1.1 j.1
          have m2 := aMax_le c.1.2 j.2
          change r.1.1 ≤ aMin c.1.1 j.1 at a1
          change aMax c.1.2 j.2 ≤ r.1.2 at a2
          refine hH.set ?_ aUp_ne hK
          intro m
          show match pmLk r.2 m with | some g => aFok E.length ρ g (aUp φ p k z p m) | none => r.1.1 ≤ aUp φ p k z p m ∧ aUp φ p k z p m ≤ r.1.2
          have hck := hH p c hc m
          by_cases hm : i.1 ≤ (m : Int) ∧ (m : Int) ≤ i.2
          · obtain ⟨q1, q2⟩ := (a3 m).1 hm
            rw [q1]
            show r.1.1 ≤ aUp φ p k z p m ∧ aUp φ p k z p m ≤ r.1.2
            by_cases e : m = k
            · rw [show aUp φ p k z p m = z from if_pos ⟨rfl, e⟩]
              omega
            · rw [show aUp φ p k z p m = φ p m from if_neg (fun h => e h.2)]
              split at hck
              · rename_i g' hg'
                obtain ⟨q, w1, w2, w3⟩ := q2 g' hg'
                have := aItv_ok hE hck w1
                omega
              · omega
          · have e : m ≠ k := by omega
            rw [(a3 m).2 hm, show aUp φ p k z p m = φ p m from if_neg (fun h => e h.2)]
            split at hck
            · exact hck
            · show r.1.1 ≤ φ p m ∧ φ p m ≤ r.1.2
              omega
        · cases hK
      · cases hK
  · cases hK
theorem pmLk_append {β : Type} : ∀ (a b : List (Nat × β)) (k : Nat), pmLk (a ++ b) k = match pmLk a k with | some v => some v | none => pmLk b k
  | [], b, k => rfl
  | q :: a, b, k => by
    show pmLk (q :: (a ++ b)) k = _
    rw [pmLk_cons, pmLk_cons, pmLk_append a b k]
    split <;> rfl
theorem aCpO_1 (sp dp n : Nat) : ∀ (a : aO) (k : Nat), pmLk ((a.filter fun q => decide (sp ≤ q.1) && decide (q.1 < sp + n)).map fun q => (dp + (q.1 - sp), q.2)) k = if dp ≤ k ∧ k < dp + n then pmLk a (sp + (k - dp)) else none
  | [], k => by simp [pmLk]
  | q :: a, k => by
    have ih := aCpO_1 sp dp n a k
    by_cases h : sp ≤ q.1 ∧ q.1 < sp + n
    · rw [List.filter_cons_of_pos (by simp [h.1, h.2]), List.map_cons, pmLk_cons, pmLk_cons, ih]
      show (if dp + (q.1 - sp) = k then some q.2 else _) = _
      by_cases h2 : dp + (q.1 - sp) = k
      · rw [if_pos h2, if_pos (by omega), if_pos (by omega)]
      · rw [if_neg h2]
        by_cases h3 : dp ≤ k ∧ k < dp + n
        · rw [if_pos h3, if_pos h3, if_neg (by omega)]
        · rw [if_neg h3, if_neg h3]
    · rw [List.filter_cons_of_neg (by simp; omega), ih, pmLk_cons]
      by_cases h3 : dp ≤ k ∧ k < dp + n
      · rw [if_pos h3, if_pos h3, if_neg (by omega)]
      · rw [if_neg h3, if_neg h3]
theorem aCpO_2 (dp n : Nat) : ∀ (b : aO) (k : Nat), pmLk (b.filter fun q => !(decide (dp ≤ q.1) && decide (q.1 < dp + n))) k = if dp ≤ k ∧ k < dp + n then none else pmLk b k
  | [], k => by simp [pmLk]
  | q :: b, k => by
    have ih := aCpO_2 dp n b k
    by_cases h : dp ≤ q.1 ∧ q.1 < dp + n
    · rw [List.filter_cons_of_neg (by simp [h.1, h.2]), ih, pmLk_cons]
      by_cases h3 : dp ≤ k ∧ k < dp + n
      · rw [if_pos h3, if_pos h3]
      · rw [if_neg h3, if_neg h3, if_neg (by omega)]
    · rw [List.filter_cons_of_pos (by simp; omega), pmLk_cons, pmLk_cons, ih]
      by_cases h3 : dp ≤ k ∧ k < dp + n
      · rw [if_pos h3, if_pos h3, if_neg (by omega)]
      · rw [if_neg h3, if_neg h3]
def aCpF (φ : Nat → Nat → Int) (a b sp dp n : Nat) : Nat → Nat → Int := fun q k => if q = b then (if dp ≤ k ∧ k < dp + n then φ a (sp + (k - dp)) else φ b k) else φ q k
theorem aCpy_ok {a b sp dp m : Nat} {K : aH → Bool} (hH : aHok n ρ H φ) (hK : aCpy H a b sp dp m K = true) : aGs n ρ (aCpF φ a b sp dp m) K := by
  unfold aCpy at hK
  simp only [fG2_eq] at hK
  split at hK
  · rename_i ca cb hca hcb
    rw [aFz_eq, aFz_eq, aFl_eq] at hK
    have m1 := aMin_le ca.1.1 cb.1.1
    have m2 := aMax_le ca.1.2 cb.1.2
    refine hH.set ?_ (fun q hq => by funext k; exact if_neg hq) hK
    intro k
    show match pmLk (aCpO sp dp m ca.2 cb.2) k with | some g => aFok n ρ g (aCpF φ a b sp dp m b k) | none => aMin ca.1.1 cb.1.1 ≤ aCpF φ a b sp dp m b k ∧ aCpF φ a b sp dp m b k ≤ aMax ca.1.2 cb.1.2
    have e0 : aCpF φ a b sp dp m b k = if dp ≤ k ∧ k < dp + m then φ a (sp + (k - dp)) else φ b k := if_pos rfl
    rw [e0]
    unfold aCpO
    rw [pmLk_append, aCpO_1, aCpO_2]
    by_cases h3 : dp ≤ k ∧ k < dp + m
    · simp only [if_pos h3]
      have hck := hH a ca hca (sp + (k - dp))
      split at hck
      · rename_i g hg
        rw [hg]; exact hck
      · rename_i hg
        rw [hg]
        show aMin ca.1.1 cb.1.1 ≤ _ ∧ _ ≤ aMax ca.1.2 cb.1.2
        omega
    · simp only [if_neg h3]
      have hck := hH b cb hcb k
      split at hck
      · rename_i g hg
        rw [hg]; exact hck
      · rename_i hg
        rw [hg]
        show aMin ca.1.1 cb.1.1 ≤ _ ∧ _ ≤ aMax ca.1.2 cb.1.2
        omega
  · cases hK
end
