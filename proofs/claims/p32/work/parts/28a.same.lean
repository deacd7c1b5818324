/-! when two pictures are the same -/
section
def fSnd {α : Type} (e : α → α → Bool) : Prop := ∀ a b, e a b = true → a = b
noncomputable def fEqL {α : Type} (e : α → α → Bool) (l : List α) : List α → Bool := List.rec (fun m => List.rec true (fun _ _ _ => false) m) (fun a _ ih m => List.rec false (fun b m _ => e a b && ih m) m) l
theorem fEqL_ok {α : Type} {e : α → α → Bool} (he : fSnd e) : fSnd (fEqL e) := fun l => by
  induction l with
  | nil =>
    intro m h
    cases m with
    | nil => rfl
    | cons _ _ => cases h
  | cons a t ih =>
    intro m h
    cases m with
    | nil => cases h
    | cons b m =>
      have h : (e a b && fEqL e t m) = true := h
      rw [Bool.and_eq_true] at h
      rw [he a b h.1, ih m h.2]
def fEqP {α β : Type} (e : α → α → Bool) (e' : β → β → Bool) (p q : α × β) : Bool := e p.1 q.1 && e' p.2 q.2
theorem fEqP_ok {α β : Type} {e : α → α → Bool} {e' : β → β → Bool} (he : fSnd e) (he' : fSnd e') : fSnd (fEqP e e') := fun p q h => by
  unfold fEqP at h
  rw [Bool.and_eq_true] at h
  exact Prod.ext (he _ _ h.1) (he' _ _ h.2)
def fEqO {α : Type} (e : α → α → Bool) : Option α → Option α → Bool
  | none, none => true
  | some a, some b => e a b
  | _, _ => false
theorem fEqO_ok {α : Type} {e : α → α → Bool} (he : fSnd e) : fSnd (fEqO e) := fun a b h => by
  cases a <;> cases b
  · rfl
  · cases h
  · cases h
  · rw [he _ _ h]
def fEqS {α β : Type} (e : α → α → Bool) (e' : β → β → Bool) : α ⊕ β → α ⊕ β → Bool
  | .inl a, .inl b => e a b
  | .inr a, .inr b => e' a b
  | _, _ => false
theorem fEqS_ok {α β : Type} {e : α → α → Bool} {e' : β → β → Bool} (he : fSnd e) (he' : fSnd e') : fSnd (fEqS e e') := fun a b h => by
  cases a <;> cases b
  · rw [he _ _ h]
  · cases h
  · cases h
  · rw [he' _ _ h]
theorem fNat_ok : fSnd Nat.beq := fun _ _ h => Nat.eq_of_beq_eq_true h
theorem fInt_ok : fSnd zEq := fun a b h => by
  rw [zEq_eq] at h
  exact of_decide_eq_true h
def fBoo (a b : Bool) : Bool := a == b
theorem fBoo_ok : fSnd fBoo := fun a b h => by
  cases a <;> cases b <;> first | rfl | cases h
noncomputable def eqF : aF → aF → Bool := fEqP Nat.beq zEq
noncomputable def eqI : aI → aI → Bool := fEqP zEq zEq
noncomputable def eqV : aV → aV → Bool := fEqS (fEqP fBoo eqF) Nat.beq
noncomputable def eqZ : pmZ → pmZ → Bool := fEqP Nat.beq (fEqP Nat.beq (fEqL (fEqO Nat.beq)))
noncomputable def eqC : aI × aO → aI × aO → Bool := fEqP eqI (fEqL (fEqP Nat.beq eqF))
noncomputable def eqM : aM → aM → Bool := fEqP (fEqP Nat.beq (fEqL (fEqL eqZ))) (fEqP (fEqL (fEqL eqC)) (fEqP (fEqL (fEqL eqC)) Nat.beq))
noncomputable def eqX : aX → aX → Bool := fEqP (fEqL eqI) (fEqP (fEqL (fEqP Nat.beq (fEqP Nat.beq zEq))) (fEqL (fEqP eqF eqF)))
noncomputable def eqT : aL × List aV × aX → aL × List aV × aX → Bool := fEqP (fEqL (fEqO eqV)) (fEqP (fEqL eqV) eqX)
theorem eqF_ok : fSnd eqF := fEqP_ok fNat_ok fInt_ok
theorem eqI_ok : fSnd eqI := fEqP_ok fInt_ok fInt_ok
theorem eqV_ok : fSnd eqV := fEqS_ok (fEqP_ok fBoo_ok eqF_ok) fNat_ok
theorem eqZ_ok : fSnd eqZ := fEqP_ok fNat_ok (fEqP_ok fNat_ok (fEqL_ok (fEqO_ok fNat_ok)))
theorem eqC_ok : fSnd eqC := fEqP_ok eqI_ok (fEqL_ok (fEqP_ok fNat_ok eqF_ok))
theorem eqM_ok : fSnd eqM := fEqP_ok (fEqP_ok fNat_ok (fEqL_ok (fEqL_ok eqZ_ok))) (fEqP_ok (fEqL_ok (fEqL_ok eqC_ok)) (fEqP_ok (fEqL_ok (fEqL_ok eqC_ok)) fNat_ok))
theorem eqX_ok : fSnd eqX := fEqP_ok (fEqL_ok eqI_ok) (fEqP_ok (fEqL_ok (fEqP_ok fNat_ok (fEqP_ok fNat_ok fInt_ok))) (fEqL_ok (fEqP_ok eqF_ok eqF_ok)))
theorem eqT_ok : fSnd eqT := fEqP_ok (fEqL_ok (fEqO_ok eqV_ok)) (fEqP_ok (fEqL_ok eqV_ok) eqX_ok)
end
