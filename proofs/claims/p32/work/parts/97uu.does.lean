/-! the reference does -/
section
set_option maxRecDepth 100000


section
variable {ro : Nat → Nat × (Nat → Int32)} {d : Nat} {Q : Option Value → pmS → Prop} {n f p k x : Int} {r r' : Int → Int} {a a' : xA} {b b' : xB}
/-- who sees a deed -/
abbrev uSb (p k : Int) (r : Int → Int) (q : Int) : Prop := ¬ q = p ∧ ¬ (uK k = 5 ∧ q = uX k) ∧ ¬ r q = 7 ∧ (r q = r p ∨ (uK k = 1 ∧ r q = uX k))
def uSg (p k : Int) (r : Int → Int) : Nat → Int
  | 0 => 0
  | m + 1 => uSg p k r m + (if uSb p k r m then ((2 ^ m : Nat) : Int) else 0)
theorem uSg_b : ∀ m : Nat, 0 ≤ uSg p k r m ∧ uSg p k r m < ((2 ^ m : Nat) : Int)
  | 0 => ⟨Int.le_refl 0, (by decide : (0 : Int) < ((2 ^ 0 : Nat) : Int))⟩
  | m + 1 => by
    have ih := uSg_b m
    have e : ((2 ^ (m + 1) : Nat) : Int) = 2 * ((2 ^ m : Nat) : Int) := by
      rw [Nat.pow_succ]
      omega
    show 0 ≤ uSg p k r m + (if uSb p k r m then ((2 ^ m : Nat) : Int) else 0) ∧ uSg p k r m + (if uSb p k r m then ((2 ^ m : Nat) : Int) else 0) < ((2 ^ (m + 1) : Nat) : Int)
    rw [e]
    split <;> omega
theorem uOr2 {m : Int} {q : Nat} (hq : q < 4) (h0 : 0 ≤ m) (h1 : m < ((2 ^ q : Nat) : Int)) : xOr m (1 * ((2 ^ q : Nat) : Int)) = m + ((2 ^ q : Nat) : Int) := by
  have key : ∀ q : Fin 4, ∀ m : Fin 8, (m.val : Int) < ((2 ^ q.val : Nat) : Int) → xOr (m.val : Int) (1 * ((2 ^ q.val : Nat) : Int)) = (m.val : Int) + ((2 ^ q.val : Nat) : Int) := by decide +kernel
  have h8 : ((2 ^ q : Nat) : Int) ≤ 8 := by
    have : 2 ^ q ≤ 2 ^ 3 := Nat.pow_le_pow_right (by decide) (by omega)
    omega
  have := key ⟨q, hq⟩ ⟨m.toNat, by omega⟩
  rw [show (((⟨m.toNat, by omega⟩ : Fin 8).val : Nat) : Int) = m by show ((m.toNat : Nat) : Int) = m; omega] at this
  exact this h1
/-- seenBy -/
theorem u210 (hA : xAr a) (hp : 0 ≤ p ∧ p ≤ 3) (hk : 0 ≤ k ∧ k < 61) (hd : 2 ≤ d) (hQ : Q (some (xV (uSg p k (a 88) 4))) (xS a b)) : pmCs ro d 210 [.ref 87, xV p, xV k] (xS a b) Q := by
  have hkb := uX_b hk
  have hkk : 1 ≤ uK k ∧ uK k ≤ 6 := hkb.2.2.2.2.2.2
  have hxk := uXb (k := k) ⟨by omega, hk.2⟩
  refine pmCs_deep (d := 2) (xg210 (w210 hA hp hk hkk hxk (by decide) (fun e => ?_) (fun e => ?_))) hd
  all_goals
    have loop : ∀ g : Int, (g = 0 ∧ ¬ uK k = 1) ∨ (g = 1 ∧ uK k = 1) → ∀ (m q : Nat) (v6 : Option Value), q + m = 4 → pmWp ro 1 12 210 1 20 [some (.ref 87), some (xV p), some (xV k), some (xV (uSg p k (a 88) q)), some (xV g), some (xV (q : Int)), v6] [] (xS a b) Q := by
      intro g hg m
      induction m with
      | zero =>
        intro q v6 hq
        have e4 : q = 4 := by omega
        subst e4
        have hb := uSg_b (p := p) (k := k) (r := a 88) 4
        have h16 : ((2 ^ 4 : Nat) : Int) = 16 := rfl
        refine w210q hA hp hk hkk hxk (by decide) (by decide) (by omega) (by omega) (fun _ => hQ) ?_ ?_ ?_ ?_ ?_ ?_ ?_ ?_ ?_ ?_ ?_ ?_ <;> (intro e; exact absurd (by decide) e)
      | succ m ih =>
        intro q v6 hq
        have hb := uSg_b (p := p) (k := k) (r := a 88) q
        have h8 : ((2 ^ q : Nat) : Int) ≤ 8 := by
          have : 2 ^ q ≤ 2 ^ 3 := Nat.pow_le_pow_right (by decide) (by omega)
          omega
        have yes : uSb p k (a 88) q → ∀ v6, pmWp ro 1 12 210 1 125 [some (.ref 87), some (xV p), some (xV k), some (xV (xOr (uSg p k (a 88) q) (1 * ((2 ^ (q : Int).toNat : Nat) : Int)))), some (xV g), some (xV (q : Int)), v6] [] (xS a b) Q := fun h v6 => w210n (by omega) (by
          rw [show (q : Int).toNat = q from rfl, uOr2 (by omega) hb.1 hb.2]
          have := ih (q + 1) v6 (by omega)
          rw [show uSg p k (a 88) (q + 1) = uSg p k (a 88) q + ((2 ^ q : Nat) : Int) from congrArg (fun z => uSg p k (a 88) q + z) (if_pos h)] at this
          exact this)
        have no : ¬ uSb p k (a 88) q → ∀ v6, pmWp ro 1 12 210 1 125 [some (.ref 87), some (xV p), some (xV k), some (xV (uSg p k (a 88) q)), some (xV g), some (xV (q : Int)), v6] [] (xS a b) Q := fun h v6 => w210n (by omega) (by
          have := ih (q + 1) v6 (by omega)
          rw [show uSg p k (a 88) (q + 1) = uSg p k (a 88) q + 0 from congrArg (fun z => uSg p k (a 88) q + z) (if_neg h), Int.add_zero] at this
          exact this)
        have e0 : a 88 (0 + (q : Int)) = a 88 (q : Int) := by rw [Int.zero_add]
        have e1 : a 88 (0 + p) = a 88 p := by rw [Int.zero_add]
        refine w210q hA hp hk hkk hxk (by decide) (by omega) (by omega) (by omega) (fun e => by omega) (fun _ e => no (fun h => h.1 e) _) (fun _ e2 e3 e4 e5 => yes ⟨e2, fun h => e3 h.1, e4, Or.inl (by rw [e0, e1] at e5; exact e5)⟩ _) (fun _ e2 e3 e4 e5 e6 => no (fun h => ?_) _) (fun _ e2 e3 e4 e5 e6 e7 => no (fun h => ?_) _) (fun _ e2 e3 e4 e5 e6 e7 => yes ⟨e2, fun h => e3 h.1, e4, Or.inr ⟨by omega, by rw [e0] at e7; exact e7⟩⟩ _) (fun _ e2 e3 e4 => no (fun h => h.2.2.1 e4) _) (fun _ e2 e3 e4 => no (fun h => h.2.1 ⟨e3, e4⟩) _) (fun _ e2 e3 e4 e5 e6 => yes ⟨e2, fun h => e4 h.2, e5, Or.inl (by rw [e0, e1] at e6; exact e6)⟩ _) (fun _ e2 e3 e4 e5 e6 e7 => no (fun h => ?_) _) (fun _ e2 e3 e4 e5 e6 e7 e8 => no (fun h => ?_) _) (fun _ e2 e3 e4 e5 e6 e7 e8 => yes ⟨e2, fun h => e4 h.2, e5, Or.inr ⟨by omega, by rw [e0] at e8; exact e8⟩⟩ _) (fun _ e2 e3 e4 e5 => no (fun h => h.2.2.1 e5) _)
        all_goals
          rw [e0, e1] at *
          obtain ⟨_, _, _, h4⟩ := h
          rcases h4 with h4 | h4
          · first | exact e5 h4 | exact e6 h4
          · first | omega | exact e7 h4.2 | exact e8 h4.2
  · exact loop 0 (Or.inl ⟨rfl, e⟩) 4 0 none rfl
  · exact loop 1 (Or.inr ⟨rfl, e⟩) 4 0 none rfl
end
end
