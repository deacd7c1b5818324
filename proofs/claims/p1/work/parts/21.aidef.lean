/-! THE ABSTRACT MACHINE: intervals over variables; one evaluation speaks of all runs -/
section
/-- a form: a variable and what is added to it; the variable 0 is 0, the variable 1 the script's length -/
abbrev aF : Type := Nat × Int
abbrev aI : Type := Int × Int
abbrev aE : Type := List aI
/-- v, w, k: v is at most w + k -/
abbrev aC : Type := List (Nat × Nat × Int)
/-- what was read of the script -/
abbrev aS : Type := List (aF × aF)
abbrev aX : Type := aE × aC × aS
/-- an int (false) or a long (true); or a place -/
abbrev aV : Type := (Bool × aF) ⊕ Nat
abbrev aO : Type := List (Nat × aF)
abbrev aH : Type := List (aI × aO)
/-- shapes, ints, longs, the places written -/
abbrev aM : Type := List pmZ × aH × aH × List Nat
abbrev aL : Type := List (Option aV)
def aFn {β : Type} (n : Nat) (k : Nat → β) : β := match n with
  | 0 => k 0
  | Nat.succ m => k (Nat.succ m)
def aFz {β : Type} (z : Int) (k : Int → β) : β := match z with
  | .ofNat n => aFn n fun n => k (.ofNat n)
  | .negSucc n => aFn n fun n => k (.negSucc n)
def aFl {α β : Type} : List α → (List α → β) → β
  | [], k => k []
  | a :: t, k => aFl t fun t => k (a :: t)
theorem aFn_eq {β : Type} (n : Nat) (k : Nat → β) : aFn n k = k n := by cases n <;> rfl
theorem aFz_eq {β : Type} (z : Int) (k : Int → β) : aFz z k = k z := by cases z <;> simp [aFz, aFn_eq]
theorem aFl_eq {α β : Type} : ∀ (l : List α) (k : List α → β), aFl l k = k l
  | [], _ => rfl
  | a :: t, k => by unfold aFl; exact aFl_eq t _
def aItv (E : aE) (f : aF) : Option aI := match E[f.1]? with
  | some i => some (i.1 + f.2, i.2 + f.2)
  | none => none
abbrev aT32 : aI := (-2147483648, 2147483647)
abbrev aT64 : aI := (-9223372036854775808, 9223372036854775807)
def aNew (E : aE) (i : aI) (K : aE → aF → Bool) : Bool := aFz i.1 fun a => aFz i.2 fun b => if a = b then K E (0, a) else aFl (E ++ [(a, b)]) fun E' => aFn E.length fun n => K E' (n, 0)
/-- a narrower interval for a form; nothing is due where there is none -/
def aRf (E : aE) (f : aF) (i : aI) (K : aE → Bool) : Bool := match E[f.1]? with
  | some j => aFz (if j.1 ≤ i.1 - f.2 then i.1 - f.2 else j.1) fun a => aFz (if i.2 - f.2 ≤ j.2 then i.2 - f.2 else j.2) fun b => if a ≤ b then aFl (E.set f.1 (a, b)) K else true
  | none => false
def aCm (f g : aF) : aC → Int → Int
  | [], b => b
  | q :: t, b => bif Nat.beq q.1 f.1 && Nat.beq q.2.1 g.1 then (if q.2.2 + f.2 - g.2 ≤ b then aCm f g t (q.2.2 + f.2 - g.2) else aCm f g t b) else aCm f g t b
/-- at most this is f less g -/
def aUb (X : aX) (f g : aF) : Option Int := bif Nat.beq f.1 g.1 then some (f.2 - g.2) else match aItv X.1 f, aItv X.1 g with
  | some i, some j => some (aCm f g X.2.1 (i.2 - j.1))
  | _, _ => none
def aAC (X : aX) (f g : aF) (d : Int) : aX := bif Nat.beq f.1 0 || (Nat.beq g.1 0 || Nat.beq f.1 g.1) then X else (X.1, (f.1, g.1, g.2 - f.2 - d) :: X.2.1, X.2.2)
/-- f + d is at most g -/
def aLe (X : aX) (f g : aF) (d : Int) (K : aX → Bool) : Bool := match aUb X g f with
  | some u => if u < d then true else match aItv X.1 f, aItv X.1 g with
    | some i, some j => aRf X.1 f (i.1, j.2 - d) fun E1 => aRf E1 g (i.1 + d, j.2) fun E2 => K (aAC (E2, X.2) f g d)
    | _, _ => false
  | none => false
def aEq (X : aX) (f g : aF) (K : aX → Bool) : Bool := aLe X f g 0 fun X1 => aLe X1 g f 0 K
def aNe (X : aX) (f g : aF) (K : aX → Bool) : Bool := match aUb X f g, aUb X g f with
  | some u, some w => if u ≤ 0 ∧ w ≤ 0 then true else match aItv X.1 f, aItv X.1 g with
    | some i, some j =>
      if j.1 = j.2 then (if i.1 = j.1 then aRf X.1 f (j.1 + 1, i.2) fun E1 => K (E1, X.2) else if i.2 = j.1 then aRf X.1 f (i.1, j.1 - 1) fun E1 => K (E1, X.2) else aLe X f g 1 K && aLe X g f 1 K)
      else if i.1 = i.2 then (if j.1 = i.1 then aRf X.1 g (i.1 + 1, j.2) fun E1 => K (E1, X.2) else if j.2 = i.1 then aRf X.1 g (j.1, i.1 - 1) fun E1 => K (E1, X.2) else aLe X f g 1 K && aLe X g f 1 K)
      else K X
    | _, _ => false
  | _, _ => false
/-- both ways of a comparison -/
def aIf (c : Nat) (X : aX) (f g : aF) (Kt Kf : aX → Bool) : Bool := match c with
  | 0 => aEq X f g Kt && aNe X f g Kf
  | 1 => aNe X f g Kt && aEq X f g Kf
  | 2 => aLe X f g 1 Kt && aLe X g f 0 Kf
  | 3 => aLe X g f 0 Kt && aLe X f g 1 Kf
  | 4 => aLe X g f 1 Kt && aLe X f g 0 Kf
  | 5 => aLe X f g 0 Kt && aLe X g f 1 Kf
  | _ => false
def aR32 (i : aI) : Bool := decide (-2147483648 ≤ i.1) && decide (i.2 ≤ 2147483647)
def aR64 (i : aI) : Bool := decide (-9223372036854775808 ≤ i.1) && decide (i.2 ≤ 9223372036854775807)
def aLin (E : aE) (f : aF) (z : Int) (K : aE → aF → Bool) : Bool := aFz (f.2 + z) fun c => K E (f.1, c)
def aSf (f : aF) : aS → Option aF
  | [] => none
  | q :: t => bif Nat.beq q.1.1 f.1 && decide (q.1.2 = f.2) then some q.2 else aSf f t
/-- a sum beyond all ints: one turn less or more -/
def aShf (r : aI → Bool) (top : aI) (E : aE) (i : aI) (K : aE → aF → Bool) : Bool :=
  bif r (i.1 + (top.2 - top.1 + 1), i.2 + (top.2 - top.1 + 1)) then aNew E (i.1 + (top.2 - top.1 + 1), i.2 + (top.2 - top.1 + 1)) K
  else bif r (i.1 - (top.2 - top.1 + 1), i.2 - (top.2 - top.1 + 1)) then aNew E (i.1 - (top.2 - top.1 + 1), i.2 - (top.2 - top.1 + 1)) K else aNew E top K
def aAdd (r : aI → Bool) (top : aI) (E : aE) (f g : aF) (K : aE → aF → Bool) : Bool := match aItv E f, aItv E g with
  | some i, some j => bif r (i.1 + j.1, i.2 + j.2) then (if j.1 = j.2 then aLin E f j.1 K else if i.1 = i.2 then aLin E g i.1 K else aNew E (i.1 + j.1, i.2 + j.2) K) else aShf r top E (i.1 + j.1, i.2 + j.2) K
  | _, _ => false
def aSub (r : aI → Bool) (top : aI) (E : aE) (f g : aF) (K : aE → aF → Bool) : Bool := match aItv E f, aItv E g with
  | some i, some j => bif r (i.1 - j.2, i.2 - j.1) then (if j.1 = j.2 then aLin E f (- j.1) K else aNew E (i.1 - j.2, i.2 - j.1) K) else aShf r top E (i.1 - j.2, i.2 - j.1) K
  | _, _ => false
/-- an operation of ints: exact where both are known -/
def aOp (op : Int32 → Int32 → Int32) (rule : aI → aI → aI) (E : aE) (f g : aF) (K : aE → aF → Bool) : Bool := match aItv E f, aItv E g with
  | some i, some j => if i.1 = i.2 ∧ j.1 = j.2 then aFz (op (Int32.ofInt i.1) (Int32.ofInt j.1)).toInt fun z => K E (0, z) else aNew E (rule i j) K
  | _, _ => false
def aOq (op : Int64 → Int64 → Int64) (rule : aI → aI → aI) (E : aE) (f g : aF) (K : aE → aF → Bool) : Bool := match aItv E f, aItv E g with
  | some i, some j => if i.1 = i.2 ∧ j.1 = j.2 then aFz (op (Int64.ofInt i.1) (Int64.ofInt j.1)).toInt fun z => K E (0, z) else aNew E (rule i j) K
  | _, _ => false
/-- a shift of a long by an int -/
def aOs (op : Int64 → Int32 → Int64) (rule : aI → aI → aI) (E : aE) (f g : aF) (K : aE → aF → Bool) : Bool := match aItv E f, aItv E g with
  | some i, some j => if i.1 = i.2 ∧ j.1 = j.2 then aFz (op (Int64.ofInt i.1) (Int32.ofInt j.1)).toInt fun z => K E (0, z) else aNew E (rule i j) K
  | _, _ => false
/-- a function of one int or long -/
def aO1 (op : Int64 → Int64) (rule : aI → aI) (E : aE) (f : aF) (K : aE → aF → Bool) : Bool := match aItv E f with
  | some i => if i.1 = i.2 then aFz (op (Int64.ofInt i.1)).toInt fun z => K E (0, z) else aNew E (rule i) K
  | none => false
/-- what keeps an int as it is, if it is so great; else anything so great -/
def aKeep (lo hi : Int) (E : aE) (f : aF) (K : aE → aF → Bool) : Bool := match aItv E f with
  | some i => if lo ≤ i.1 ∧ i.2 ≤ hi then K E f else aNew E (lo, hi) K
  | none => false
/-! rules of intervals -/
def aMin (a b : Int) : Int := if a ≤ b then a else b
def aMax (a b : Int) : Int := if a ≤ b then b else a
def aAndR (top i j : aI) : aI := if 0 ≤ j.1 then (if 0 ≤ i.1 then (0, aMin i.2 j.2) else (0, j.2)) else if 0 ≤ i.1 then (0, i.2) else top
def aMaxR (i j : aI) : aI := (aMax i.1 j.1, aMax i.2 j.2)
def aMinR (i j : aI) : aI := (aMin i.1 j.1, aMin i.2 j.2)
/-! the heap -/
def aJo (E : aE) : aO → aI → Option aI
  | [], i => some i
  | q :: t, i => match aItv E q.2 with
    | some j => aJo E t (aMin i.1 j.1, aMax i.2 j.2)
    | none => none
def aWk (E : aE) (a b : Int) : aO → aI → Option (aI × aO)
  | [], i => some (i, [])
  | q :: t, i => if a ≤ (q.1 : Int) ∧ (q.1 : Int) ≤ b then (match aItv E q.2 with
      | some j => aWk E a b t (aMin i.1 j.1, aMax i.2 j.2)
      | none => none) else match aWk E a b t i with
      | some r => some (r.1, q :: r.2)
      | none => none
def aWt (W : List Nat) (p : Nat) : List Nat := bif W.any (Nat.beq p) then W else p :: W
def aAt (X : aX) (f : aF) (n : Nat) : Bool := match aItv X.1 f with
  | some i => decide (0 ≤ i.1) && decide (i.2 < (n : Int))
  | none => false
def aCutA (m : Nat) (pl : aL) (i : Nat) : aL := match i with
  | 0 => pl
  | j + 1 => bif pmLg m j then (match pl[j]? with
    | some (some (.inl (true, _))) => pl.set j none
    | _ => pl) else pl
def aJp (pc : Nat) (off : Int) (k : Nat → Bool) : Bool := match (pc : Int) + off with
  | .ofNat t => k t
  | .negSucc _ => false
/-- System.arraycopy -/
def aCpO (sp dp n : Nat) (a b : aO) : aO := (a.filter fun q => decide (sp ≤ q.1) && decide (q.1 < sp + n)).map (fun q => (dp + (q.1 - sp), q.2)) ++ b.filter fun q => !(decide (dp ≤ q.1) && decide (q.1 < dp + n))
def aCpy (H : aH) (a b sp dp n : Nat) (K : aH → Bool) : Bool := match H[a]?, H[b]? with
  | some ca, some cb => aFz (aMin ca.1.1 cb.1.1) fun lo => aFz (aMax ca.1.2 cb.1.2) fun hi => aFl (aCpO sp dp n ca.2 cb.2) fun t => aFl (H.set b ((lo, hi), t)) K
  | _, _ => false
def aCst (E : aE) (f : aF) : Option Int := match aItv E f with
  | some i => if i.1 = i.2 then some i.1 else none
  | none => none
/-- a switch: every case, and the rest -/
def aSw (X : aX) (f : aF) (pc : Nat) (k : aX → Nat → Bool) (d : Int) : List (Int × Int) → Bool
  | [] => aJp pc d fun t => k X t
  | q :: r => (aEq X f (0, q.1) fun X' => aJp pc q.2 fun t => k X' t) && aNe X f (0, q.1) (fun X' => aSw X' f pc k d r)
end
