/-! THE ABSTRACT MACHINE: intervals over variables; one evaluation speaks of all runs -/
section
/-- a form: a variable and what is added to it; the variable 0 is 0, the variable 1 the script's length -/
abbrev aF : Type := Nat × Int
abbrev aI : Type := Int × Int
abbrev aE : Type := List aI
/-- v, w, k: v is at most w + k -/
abbrev aC : Type := List (Nat × Nat × Int)
/-- what was read of the script -/
abbrev aS : Type := List (aF × aF)
abbrev aX : Type := aE × aC × aS
/-- an int (false) or a long (true); or a place -/
abbrev aV : Type := (Bool × aF) ⊕ Nat
abbrev aO : Type := List (Nat × aF)
/-- rows of sixteen -/
abbrev aT2 (α : Type) : Type := List (List α)
abbrev aH : Type := aT2 (aI × aO)
/-- how many cells and their shapes; ints, longs, the places written (bits) -/
abbrev aM : Type := (Nat × aT2 pmZ) × aH × aH × Nat
abbrev aL : Type := List (Option aV)
noncomputable def aG2 {α : Type} (T : aT2 α) (p : Nat) : Option α := match T[p / 16]? with
  | some c => c[p % 16]?
  | none => none
noncomputable def fG2 {α : Type} (T : aT2 α) (p : Nat) : Option α := match fGet T (Nat.div p 16) with
  | some c => fGet c (Nat.mod p 16)
  | none => none
theorem fG2_eq {α : Type} (T : aT2 α) (p : Nat) : fG2 T p = aG2 T p := by
  unfold fG2 aG2
  rw [fGet_eq]
  change (match T[p / 16]? with | some c => fGet c (p % 16) | none => none) = _
  cases T[p / 16]? with
  | none => rfl
  | some c => exact fGet_eq c (p % 16)
noncomputable def aS2 {α : Type} (T : aT2 α) (p : Nat) (x : α) (K : aT2 α → Bool) : Bool := Option.rec false (fun c => fSet x c (Nat.mod p 16) fun c => fSet c T (Nat.div p 16) K) (fGet T (Nat.div p 16))
/-- one more behind n -/
noncomputable def aP2 {α : Type} (n : Nat) (T : aT2 α) (x : α) (K : aT2 α → Bool) : Bool :=
  bif Nat.beq (Nat.mod n 16) 0 then (bif Nat.beq (fLen T) (Nat.div n 16) then fSnoc [x] T K else false)
  else Option.rec false (fun c => bif Nat.beq (fLen c) (Nat.mod n 16) then fSnoc x c fun c => fSet c T (Nat.div n 16) K else false) (fGet T (Nat.div n 16))
theorem aS2_ok {α : Type} {T : aT2 α} {p : Nat} {x : α} {K : aT2 α → Bool} (h : aS2 T p x K = true) : ∃ T', (∀ q, aG2 T' q = if q = p then some x else aG2 T q) ∧ K T' = true := by
  unfold aS2 at h
  change Option.rec false (fun c => fSet x c (p % 16) fun c => fSet c T (p / 16) K) (fGet T (p / 16)) = true at h
  rw [fGet_eq] at h
  cases hc : T[p / 16]? with
  | none => rw [hc] at h; cases h
  | some c =>
    rw [hc] at h
    obtain ⟨hlt, h⟩ := fSet_ok c h
    obtain ⟨hpl, h⟩ := fSet_ok T h
    refine ⟨_, fun q => ?_, h⟩
    unfold aG2
    by_cases e : p / 16 = q / 16
    · rw [← e, List.getElem?_set_self hpl]
      by_cases e2 : p % 16 = q % 16
      · rw [if_pos (by omega), ← e2]
        exact List.getElem?_set_self hlt
      · rw [if_neg (by omega), hc]
        exact List.getElem?_set_ne e2
    · rw [List.getElem?_set_ne e, if_neg (by omega)]
theorem aP2_ok {α : Type} {n : Nat} {T : aT2 α} {x : α} {K : aT2 α → Bool} (h : aP2 n T x K = true) : ∃ T', (∀ q, q < n → aG2 T' q = aG2 T q) ∧ aG2 T' n = some x ∧ (∀ q, n < q → aG2 T' q = none ∨ aG2 T' q = aG2 T q) ∧ K T' = true := by
  unfold aP2 at h
  change (bif Nat.beq (n % 16) 0 then (bif Nat.beq (fLen T) (n / 16) then fSnoc [x] T K else false) else Option.rec false (fun c => bif Nat.beq (fLen c) (n % 16) then fSnoc x c fun c => fSet c T (n / 16) K else false) (fGet T (n / 16))) = true at h
  rw [fGet_eq] at h
  cases hb : Nat.beq (n % 16) 0 with
  | true =>
    have e0 := Nat.eq_of_beq_eq_true hb
    rw [hb] at h
    simp only [cond_true, fLen_eq] at h
    cases hb2 : Nat.beq T.length (n / 16) with
    | false => rw [hb2] at h; cases h
    | true =>
      have e1 := Nat.eq_of_beq_eq_true hb2
      rw [hb2] at h
      simp only [cond_true, fSnoc_eq] at h
      refine ⟨_, fun q hq => ?_, ?_, fun q hq => ?_, h⟩
      · unfold aG2
        rw [List.getElem?_append_left (by omega)]
      · unfold aG2
        rw [List.getElem?_append_right (by omega), e1, Nat.sub_self, e0]
        rfl
      · unfold aG2
        left
        rw [List.getElem?_append_right (by omega)]
        by_cases e2 : q / 16 - T.length = 0
        · rw [e2]
          show [x][q % 16]? = none
          exact List.getElem?_eq_none (by simp; omega)
        · rw [List.getElem?_eq_none (by simp; omega)]
  | false =>
    rw [hb] at h
    simp only [cond_false] at h
    cases hc : T[n / 16]? with
    | none => rw [hc] at h; cases h
    | some c =>
      rw [hc] at h
      change (bif Nat.beq (fLen c) (n % 16) then fSnoc x c fun c => fSet c T (n / 16) K else false) = true at h
      rw [fLen_eq] at h
      cases hb2 : Nat.beq c.length (n % 16) with
      | false => rw [hb2] at h; cases h
      | true =>
        have e1 := Nat.eq_of_beq_eq_true hb2
        rw [hb2] at h
        simp only [cond_true, fSnoc_eq] at h
        obtain ⟨hpl, h⟩ := fSet_ok T h
        refine ⟨_, fun q hq => ?_, ?_, fun q hq => ?_, h⟩
        · unfold aG2
          by_cases e : n / 16 = q / 16
          · rw [← e, List.getElem?_set_self hpl, hc]
            show (c ++ [x])[q % 16]? = c[q % 16]?
            rw [List.getElem?_append_left (by omega)]
          · rw [List.getElem?_set_ne e]
        · unfold aG2
          rw [List.getElem?_set_self hpl]
          show (c ++ [x])[n % 16]? = some x
          rw [List.getElem?_append_right (by omega), e1, Nat.sub_self]
          rfl
        · unfold aG2
          by_cases e : n / 16 = q / 16
          · left
            rw [← e, List.getElem?_set_self hpl]
            show (c ++ [x])[q % 16]? = none
            exact List.getElem?_eq_none (by simp; omega)
          · right
            rw [List.getElem?_set_ne e]
noncomputable def aItv (E : aE) (f : aF) : Option aI := match fGet E f.1 with
  | some i => some (zAdd i.1 f.2, zAdd i.2 f.2)
  | none => none
abbrev aT32 : aI := (-2147483648, 2147483647)
abbrev aT64 : aI := (-9223372036854775808, 9223372036854775807)
noncomputable def aNew (E : aE) (i : aI) (K : aE → aF → Bool) : Bool := aFz i.1 fun a => aFz i.2 fun b => bif zEq a b then K E (0, a) else fSnoc (a, b) E fun E' => aFn (fLen E) fun n => K E' (n, 0)
/-- a narrower interval for a form; nothing is due where there is none -/
noncomputable def aRf (E : aE) (f : aF) (i : aI) (K : aE → Bool) : Bool := match fGet E f.1 with
  | some j => aFz (zSub i.1 f.2) fun lo => aFz (zSub i.2 f.2) fun hi => aFz (bif zLe j.1 lo then lo else j.1) fun a => aFz (bif zLe hi j.2 then hi else j.2) fun b => bif zLe a b then fSet (a, b) E f.1 K else true
  | none => false
noncomputable def aCm (f g : aF) : aC → Int → Int
  | [], b => b
  | q :: t, b => bif Nat.beq q.1 f.1 && Nat.beq q.2.1 g.1 then (bif zLe (q.2.2 + f.2 - g.2) b then aCm f g t (q.2.2 + f.2 - g.2) else aCm f g t b) else aCm f g t b
/-- at most this is f less g -/
noncomputable def aUb (X : aX) (f g : aF) : Option Int := bif Nat.beq f.1 g.1 then some (zSub f.2 g.2) else match aItv X.1 f, aItv X.1 g with
  | some i, some j => some (aCm f g X.2.1 (zSub i.2 j.1))
  | _, _ => none
noncomputable def aAC (X : aX) (f g : aF) (d : Int) (K : aX → Bool) : Bool := bif Nat.beq f.1 0 || (Nat.beq g.1 0 || Nat.beq f.1 g.1) then K X else match f, g with
  | (v, a), (w, b) => aFz (zSub (zSub b a) d) fun c => K (X.1, (v, w, c) :: X.2.1, X.2.2)
/-- f + d is at most g -/
noncomputable def aLe (X : aX) (f g : aF) (d : Int) (K : aX → Bool) : Bool := match aUb X g f with
  | some u => bif zLe d u then (match aItv X.1 f, aItv X.1 g with
    | some i, some j => aRf X.1 f (i.1, zSub j.2 d) fun E1 => aRf E1 g (zAdd i.1 d, j.2) fun E2 => aAC (E2, X.2) f g d K
    | _, _ => false) else true
  | none => false
noncomputable def aEq (X : aX) (f g : aF) (K : aX → Bool) : Bool := aLe X f g 0 fun X1 => aLe X1 g f 0 K
noncomputable def aNe (X : aX) (f g : aF) (K : aX → Bool) : Bool := match aUb X f g, aUb X g f with
  | some u, some w => bif zLe u 0 && zLe w 0 then true else match aItv X.1 f, aItv X.1 g with
    | some i, some j =>
      bif zEq j.1 j.2 then (bif zEq i.1 j.1 then aRf X.1 f (j.1 + 1, i.2) fun E1 => K (E1, X.2) else bif zEq i.2 j.1 then aRf X.1 f (i.1, j.1 - 1) fun E1 => K (E1, X.2) else aLe X f g 1 K && aLe X g f 1 K)
      else bif zEq i.1 i.2 then (bif zEq j.1 i.1 then aRf X.1 g (i.1 + 1, j.2) fun E1 => K (E1, X.2) else bif zEq j.2 i.1 then aRf X.1 g (j.1, i.1 - 1) fun E1 => K (E1, X.2) else aLe X f g 1 K && aLe X g f 1 K)
      else bif zLe u 0 then aLe X f g 1 K else bif zLe w 0 then aLe X g f 1 K else K X
    | _, _ => false
  | _, _ => false
/-- both ways of a comparison -/
noncomputable def aIf (c : Nat) (X : aX) (f g : aF) (Kt Kf : aX → Bool) : Bool := match c with
  | 0 => aEq X f g Kt && aNe X f g Kf
  | 1 => aNe X f g Kt && aEq X f g Kf
  | 2 => aLe X f g 1 Kt && aLe X g f 0 Kf
  | 3 => aLe X g f 0 Kt && aLe X f g 1 Kf
  | 4 => aLe X g f 1 Kt && aLe X f g 0 Kf
  | 5 => aLe X f g 0 Kt && aLe X g f 1 Kf
  | _ => false
noncomputable def aR32 (i : aI) : Bool := zLe (.negSucc 2147483647) i.1 && zLe i.2 (.ofNat 2147483647)
noncomputable def aR64 (i : aI) : Bool := zLe (.negSucc 9223372036854775807) i.1 && zLe i.2 (.ofNat 9223372036854775807)
noncomputable def aLin (E : aE) (f : aF) (z : Int) (K : aE → aF → Bool) : Bool := match f with
  | (v, c0) => aFz (zAdd c0 z) fun c => K E (v, c)
noncomputable def aSf (f : aF) : aS → Option aF
  | [] => none
  | q :: t => bif Nat.beq q.1.1 f.1 && zEq q.1.2 f.2 then some q.2 else aSf f t
/-- a sum beyond all ints: one turn less or more -/
noncomputable def aShf (r : aI → Bool) (top : aI) (E : aE) (i : aI) (K : aE → aF → Bool) : Bool :=
  bif r (i.1 + (top.2 - top.1 + 1), i.2 + (top.2 - top.1 + 1)) then aNew E (i.1 + (top.2 - top.1 + 1), i.2 + (top.2 - top.1 + 1)) K
  else bif r (i.1 - (top.2 - top.1 + 1), i.2 - (top.2 - top.1 + 1)) then aNew E (i.1 - (top.2 - top.1 + 1), i.2 - (top.2 - top.1 + 1)) K else aNew E top K
noncomputable def aAdd (r : aI → Bool) (top : aI) (E : aE) (f g : aF) (K : aE → aF → Bool) : Bool := match aItv E f, aItv E g with
  | some i, some j => bif r (zAdd i.1 j.1, zAdd i.2 j.2) then (bif zEq j.1 j.2 then aLin E f j.1 K else bif zEq i.1 i.2 then aLin E g i.1 K else aNew E (zAdd i.1 j.1, zAdd i.2 j.2) K) else aShf r top E (zAdd i.1 j.1, zAdd i.2 j.2) K
  | _, _ => false
noncomputable def aSub (r : aI → Bool) (top : aI) (E : aE) (f g : aF) (K : aE → aF → Bool) : Bool := match aItv E f, aItv E g with
  | some i, some j => bif r (zSub i.1 j.2, zSub i.2 j.1) then (bif zEq j.1 j.2 then aLin E f (zNeg j.1) K else aNew E (zSub i.1 j.2, zSub i.2 j.1) K) else aShf r top E (zSub i.1 j.2, zSub i.2 j.1) K
  | _, _ => false
/-- an operation of ints: exact where both are known -/
noncomputable def aOp (op : Int32 → Int32 → Int32) (rule : aI → aI → aI) (E : aE) (f g : aF) (K : aE → aF → Bool) : Bool := match aItv E f, aItv E g with
  | some i, some j => bif zEq i.1 i.2 && zEq j.1 j.2 then aFz (op (Int32.ofInt i.1) (Int32.ofInt j.1)).toInt fun z => K E (0, z) else aNew E (rule i j) K
  | _, _ => false
noncomputable def aOq (op : Int64 → Int64 → Int64) (rule : aI → aI → aI) (E : aE) (f g : aF) (K : aE → aF → Bool) : Bool := match aItv E f, aItv E g with
  | some i, some j => bif zEq i.1 i.2 && zEq j.1 j.2 then aFz (op (Int64.ofInt i.1) (Int64.ofInt j.1)).toInt fun z => K E (0, z) else aNew E (rule i j) K
  | _, _ => false
/-- a shift of a long by an int -/
noncomputable def aOs (op : Int64 → Int32 → Int64) (rule : aI → aI → aI) (E : aE) (f g : aF) (K : aE → aF → Bool) : Bool := match aItv E f, aItv E g with
  | some i, some j => bif zEq i.1 i.2 && zEq j.1 j.2 then aFz (op (Int64.ofInt i.1) (Int32.ofInt j.1)).toInt fun z => K E (0, z) else aNew E (rule i j) K
  | _, _ => false
/-- a function of one int or long -/
noncomputable def aO1 (op : Int64 → Int64) (rule : aI → aI) (E : aE) (f : aF) (K : aE → aF → Bool) : Bool := match aItv E f with
  | some i => bif zEq i.1 i.2 then aFz (op (Int64.ofInt i.1)).toInt fun z => K E (0, z) else aNew E (rule i) K
  | none => false
/-- what keeps an int as it is, if it is so great; else anything so great -/
noncomputable def aKeep (lo hi : Int) (E : aE) (f : aF) (K : aE → aF → Bool) : Bool := match aItv E f with
  | some i => bif zLe lo i.1 && zLe i.2 hi then K E f else aNew E (lo, hi) K
  | none => false
/-! rules of intervals -/
noncomputable def aMin (a b : Int) : Int := bif zLe a b then a else b
noncomputable def aMax (a b : Int) : Int := bif zLe a b then b else a
noncomputable def aAndR (top i j : aI) : aI := bif zLe 0 j.1 then (bif zLe 0 i.1 then (0, aMin i.2 j.2) else (0, j.2)) else bif zLe 0 i.1 then (0, i.2) else top
noncomputable def aMaxR (i j : aI) : aI := (aMax i.1 j.1, aMax i.2 j.2)
noncomputable def aMinR (i j : aI) : aI := (aMin i.1 j.1, aMin i.2 j.2)
/-! the heap -/
noncomputable def aJo (E : aE) : aO → aI → Option aI
  | [], i => some i
  | q :: t, i => match aItv E q.2 with
    | some j => aJo E t (aMin i.1 j.1, aMax i.2 j.2)
    | none => none
noncomputable def aWk (E : aE) (a b : Int) : aO → aI → Option (aI × aO)
  | [], i => some (i, [])
  | q :: t, i => bif zLe a (q.1 : Int) && zLe (q.1 : Int) b then (match aItv E q.2 with
      | some j => aWk E a b t (aMin i.1 j.1, aMax i.2 j.2)
      | none => none) else match aWk E a b t i with
      | some r => some (r.1, q :: r.2)
      | none => none
noncomputable def aWt (W : Nat) (p : Nat) : Nat := W ||| 1 <<< p
noncomputable def aNm (X : aX) (M : aM) (k : aX → aM → Bool) : Bool := match X, M with
  | (E, C, S), ((n, Z), HI, HL, W) => aFw E fun E => aFw C fun C => aFw S fun S => aFn n fun n => aFw Z fun Z => aFw HI fun HI => aFw HL fun HL => aFn W fun W => k (E, C, S) ((n, Z), HI, HL, W)
theorem aNm_eq (X : aX) (M : aM) (k : aX → aM → Bool) : aNm X M k = k X M := by
  obtain ⟨E, C, S⟩ := X
  obtain ⟨⟨n, Z⟩, HI, HL, W⟩ := M
  simp only [aNm, aFw_eq, aFn_eq]
noncomputable def aAt (X : aX) (f : aF) (n : Nat) : Bool := match aItv X.1 f with
  | some i => zLe 0 i.1 && zLe (zAdd i.2 1) (.ofNat n)
  | none => false
noncomputable def aCutA (m : Nat) (pl : aL) (i : Nat) : aL := match i with
  | 0 => pl
  | j + 1 => bif pmLg m j then (match fGet pl j with
    | some (some (.inl (true, _))) => pl.set j none
    | _ => pl) else pl
noncomputable def aJp (pc : Nat) (off : Int) (k : Nat → Bool) : Bool := match zAdd (.ofNat pc) off with
  | .ofNat t => k t
  | .negSucc _ => false
/-- System.arraycopy -/
noncomputable def aCpO (sp dp n : Nat) (a b : aO) : aO := (a.filter fun q => decide (sp ≤ q.1) && decide (q.1 < sp + n)).map (fun q => (dp + (q.1 - sp), q.2)) ++ b.filter fun q => !(decide (dp ≤ q.1) && decide (q.1 < dp + n))
noncomputable def aCpy (H : aH) (a b sp dp n : Nat) (K : aH → Bool) : Bool := match fG2 H a, fG2 H b with
  | some ca, some cb => aFz (aMin ca.1.1 cb.1.1) fun lo => aFz (aMax ca.1.2 cb.1.2) fun hi => aFl (aCpO sp dp n ca.2 cb.2) fun t => aS2 H b ((lo, hi), t) K
  | _, _ => false
noncomputable def aCst (E : aE) (f : aF) : Option Int := match aItv E f with
  | some i => bif zEq i.1 i.2 then some i.1 else none
  | none => none
/-- a switch: every case, and the rest -/
noncomputable def aSw (X : aX) (f : aF) (pc : Nat) (k : aX → Nat → Bool) (d : Int) : List (Int × Int) → Bool
  | [] => aJp pc d fun t => k X t
  | q :: r => (aEq X f (0, q.1) fun X' => aJp pc q.2 fun t => k X' t) && aNe X f (0, q.1) (fun X' => aSw X' f pc k d r)
end
