section
/-! wishes: what is read, as relations (as the class reads), and as a machine (as the reference reads) -/
section
variable {t : Int → Int} {n : Int}
/-- NOT as often as it waits on top -/
def wPopN : List Int → List Int → List Int × List Int
  | [], o => ([], o)
  | x :: S, o => if x = 7 then wPopN S (o ++ [1792]) else (x :: S, o)
/-- AND, and OR if all, as often as they wait on top -/
def wPopJ (al : Bool) : List Int → List Int → List Int × List Int
  | [], o => ([], o)
  | x :: S, o => if x = 5 then wPopJ al S (o ++ [1280]) else if al = true ∧ x = 6 then wPopJ al S (o ++ [1536]) else (x :: S, o)
def wOp : List Int → Int
  | [] => 0
  | x :: S => wOp S + (if x = 7 ∨ x = 8 then 1 else 0)
/-- true: a piece is to come; false: behind one -/
def wRun (t : Int → Int) (n : Int) : Nat → Bool → Int → List Int → List Int → Option (Int ⊕ List Int)
  | 0, _, _, _, _ => none
  | k + 1, true, p, S, o =>
    if sG t n p = 33 ∨ sG t n p = 40 then (if wOp S = 6 then some (.inl (-5000 - p)) else wRun t n k true (p + 1) ((if sG t n p = 33 then 7 else 8) :: S) o)
    else if (wAt t n p).1 = 0 then wRun t n k false (wAt t n p).2.1 (wPopN S (o ++ [(wAt t n p).2.2])).1 (wPopN S (o ++ [(wAt t n p).2.2])).2
    else some (.inl (wAt t n p).1)
  | k + 1, false, p, S, o =>
    if sG t n p = 41 ∧ 8 ∈ S then wRun t n k false (p + 1) (wPopN (wPopJ true S o).1.tail (wPopJ true S o).2).1 (wPopN (wPopJ true S o).1.tail (wPopJ true S o).2).2
    else if sG t n p = 38 then wRun t n k true (p + 1) (5 :: (wPopJ false S o).1) (wPopJ false S o).2
    else if sG t n p = 124 then wRun t n k true (p + 1) (6 :: (wPopJ true S o).1) (wPopJ true S o).2
    else if sG t n p = -1 ∧ ¬ 8 ∈ S then some (.inr (wPopJ true S o).2)
    else some (.inl (-1000 - p))
/-- what is so of reading -/
def wYc (t : Int → Int) (n : Int) (P : Nat → Int → Int → Int → List Int → Prop) : Prop :=
  (∀ (o : Int) (p : Int) (p1 : Int) (c : Int), ¬ sG t n p = 33 → ¬ sG t n p = 40 → wAt t n p = (0, p1, c) → P 0 o p p1 [c]) ∧
  (∀ (o : Int) (p : Int) (p1 : Int) (ts : List Int), sG t n p = 33 → o < 6 → P 0 (o + 1) (p + 1) p1 ts → P 0 o p p1 (ts ++ [1792])) ∧
  (∀ (o : Int) (p : Int) (p1 : Int) (ts : List Int), sG t n p = 40 → o < 6 → P 2 (o + 1) (p + 1) p1 ts → ¬ sG t n p1 = 124 → sG t n p1 = 41 → P 0 o p (p1 + 1) ts) ∧
  (∀ (o : Int) (p : Int) (p1 : Int) (ts : List Int), P 0 o p p1 ts → P 1 o p p1 ts) ∧
  (∀ (o : Int) (p : Int) (p1 : Int) (ts : List Int) (p2 : Int) (us : List Int), P 1 o p p1 ts → sG t n p1 = 38 → P 0 o (p1 + 1) p2 us → P 1 o p p2 (ts ++ us ++ [1280])) ∧
  (∀ (o : Int) (p : Int) (p1 : Int) (ts : List Int), P 1 o p p1 ts → ¬ sG t n p1 = 38 → P 2 o p p1 ts) ∧
  (∀ (o : Int) (p : Int) (p1 : Int) (ts : List Int) (p2 : Int) (us : List Int), P 2 o p p1 ts → sG t n p1 = 124 → P 1 o (p1 + 1) p2 us → ¬ sG t n p2 = 38 → P 2 o p p2 (ts ++ us ++ [1536]))
/-- read: 0 a piece, 1 pieces joined by AND (so far), 2 those joined by OR (so far) -/
def wY (t : Int → Int) (n : Int) (k : Nat) (o p p1 : Int) (ts : List Int) : Prop := ∀ P : Nat → Int → Int → Int → List Int → Prop, wYc t n P → P k o p p1 ts
theorem wY.ac {o : Int} {p : Int} {p1 : Int} {c : Int} (h0 : ¬ sG t n p = 33) (h1 : ¬ sG t n p = 40) (h2 : wAt t n p = (0, p1, c)) : wY t n 0 o p p1 [c] := fun P hP => hP.1 o p p1 c h0 h1 h2
theorem wY.no {o : Int} {p : Int} {p1 : Int} {ts : List Int} (h0 : sG t n p = 33) (h1 : o < 6) (h2 : wY t n 0 (o + 1) (p + 1) p1 ts) : wY t n 0 o p p1 (ts ++ [1792]) := fun P hP => hP.2.1 o p p1 ts h0 h1 (h2 P hP)
theorem wY.br {o : Int} {p : Int} {p1 : Int} {ts : List Int} (h0 : sG t n p = 40) (h1 : o < 6) (h2 : wY t n 2 (o + 1) (p + 1) p1 ts) (h3 : ¬ sG t n p1 = 124) (h4 : sG t n p1 = 41) : wY t n 0 o p (p1 + 1) ts := fun P hP => hP.2.2.1 o p p1 ts h0 h1 (h2 P hP) h3 h4
theorem wY.a0 {o : Int} {p : Int} {p1 : Int} {ts : List Int} (h0 : wY t n 0 o p p1 ts) : wY t n 1 o p p1 ts := fun P hP => hP.2.2.2.1 o p p1 ts (h0 P hP)
theorem wY.a1 {o : Int} {p : Int} {p1 : Int} {ts : List Int} {p2 : Int} {us : List Int} (h0 : wY t n 1 o p p1 ts) (h1 : sG t n p1 = 38) (h2 : wY t n 0 o (p1 + 1) p2 us) : wY t n 1 o p p2 (ts ++ us ++ [1280]) := fun P hP => hP.2.2.2.2.1 o p p1 ts p2 us (h0 P hP) h1 (h2 P hP)
theorem wY.o0 {o : Int} {p : Int} {p1 : Int} {ts : List Int} (h0 : wY t n 1 o p p1 ts) (h1 : ¬ sG t n p1 = 38) : wY t n 2 o p p1 ts := fun P hP => hP.2.2.2.2.2.1 o p p1 ts (h0 P hP) h1
theorem wY.o1 {o : Int} {p : Int} {p1 : Int} {ts : List Int} {p2 : Int} {us : List Int} (h0 : wY t n 2 o p p1 ts) (h1 : sG t n p1 = 124) (h2 : wY t n 1 o (p1 + 1) p2 us) (h3 : ¬ sG t n p2 = 38) : wY t n 2 o p p2 (ts ++ us ++ [1536]) := fun P hP => hP.2.2.2.2.2.2 o p p1 ts p2 us (h0 P hP) h1 (h2 P hP) h3
/-- what is so of not reading -/
def wNc (t : Int → Int) (n : Int) (P : Nat → Int → Int → Int → Prop) : Prop :=
  (∀ (o : Int) (p : Int) (f : Int), ¬ sG t n p = 33 → ¬ sG t n p = 40 → (wAt t n p).1 = f → f < 0 → P 0 o p f) ∧
  (∀ (o : Int) (p : Int), (sG t n p = 33 ∨ sG t n p = 40) → ¬ o < 6 → P 0 o p (-5000 - p)) ∧
  (∀ (o : Int) (p : Int) (f : Int), sG t n p = 33 → o < 6 → P 0 (o + 1) (p + 1) f → P 0 o p f) ∧
  (∀ (o : Int) (p : Int) (f : Int), sG t n p = 40 → o < 6 → P 2 (o + 1) (p + 1) f → P 0 o p f) ∧
  (∀ (o : Int) (p : Int) (p1 : Int) (ts : List Int), sG t n p = 40 → o < 6 → wY t n 2 (o + 1) (p + 1) p1 ts → ¬ sG t n p1 = 124 → ¬ sG t n p1 = 41 → P 0 o p (-1000 - p1)) ∧
  (∀ (o : Int) (p : Int) (f : Int), P 0 o p f → P 1 o p f) ∧
  (∀ (o : Int) (p : Int) (p1 : Int) (ts : List Int) (f : Int), wY t n 1 o p p1 ts → sG t n p1 = 38 → P 0 o (p1 + 1) f → P 1 o p f) ∧
  (∀ (o : Int) (p : Int) (f : Int), P 1 o p f → P 2 o p f) ∧
  (∀ (o : Int) (p : Int) (p1 : Int) (ts : List Int) (f : Int), wY t n 2 o p p1 ts → sG t n p1 = 124 → P 1 o (p1 + 1) f → P 2 o p f)
/-- not read: a fault -/
def wN (t : Int → Int) (n : Int) (k : Nat) (o p f : Int) : Prop := ∀ P : Nat → Int → Int → Int → Prop, wNc t n P → P k o p f
theorem wN.ac {o : Int} {p : Int} {f : Int} (h0 : ¬ sG t n p = 33) (h1 : ¬ sG t n p = 40) (h2 : (wAt t n p).1 = f) (h3 : f < 0) : wN t n 0 o p f := fun P hP => hP.1 o p f h0 h1 h2 h3
theorem wN.mo {o : Int} {p : Int} (h0 : (sG t n p = 33 ∨ sG t n p = 40)) (h1 : ¬ o < 6) : wN t n 0 o p (-5000 - p) := fun P hP => hP.2.1 o p h0 h1
theorem wN.no {o : Int} {p : Int} {f : Int} (h0 : sG t n p = 33) (h1 : o < 6) (h2 : wN t n 0 (o + 1) (p + 1) f) : wN t n 0 o p f := fun P hP => hP.2.2.1 o p f h0 h1 (h2 P hP)
theorem wN.br {o : Int} {p : Int} {f : Int} (h0 : sG t n p = 40) (h1 : o < 6) (h2 : wN t n 2 (o + 1) (p + 1) f) : wN t n 0 o p f := fun P hP => hP.2.2.2.1 o p f h0 h1 (h2 P hP)
theorem wN.b1 {o : Int} {p : Int} {p1 : Int} {ts : List Int} (h0 : sG t n p = 40) (h1 : o < 6) (h2 : wY t n 2 (o + 1) (p + 1) p1 ts) (h3 : ¬ sG t n p1 = 124) (h4 : ¬ sG t n p1 = 41) : wN t n 0 o p (-1000 - p1) := fun P hP => hP.2.2.2.2.1 o p p1 ts h0 h1 h2 h3 h4
theorem wN.a0 {o : Int} {p : Int} {f : Int} (h0 : wN t n 0 o p f) : wN t n 1 o p f := fun P hP => hP.2.2.2.2.2.1 o p f (h0 P hP)
theorem wN.a1 {o : Int} {p : Int} {p1 : Int} {ts : List Int} {f : Int} (h0 : wY t n 1 o p p1 ts) (h1 : sG t n p1 = 38) (h2 : wN t n 0 o (p1 + 1) f) : wN t n 1 o p f := fun P hP => hP.2.2.2.2.2.2.1 o p p1 ts f h0 h1 (h2 P hP)
theorem wN.o0 {o : Int} {p : Int} {f : Int} (h0 : wN t n 1 o p f) : wN t n 2 o p f := fun P hP => hP.2.2.2.2.2.2.2.1 o p f (h0 P hP)
theorem wN.o1 {o : Int} {p : Int} {p1 : Int} {ts : List Int} {f : Int} (h0 : wY t n 2 o p p1 ts) (h1 : sG t n p1 = 124) (h2 : wN t n 1 o (p1 + 1) f) : wN t n 2 o p f := fun P hP => hP.2.2.2.2.2.2.2.2 o p p1 ts f h0 h1 (h2 P hP)
theorem wY_38 {k : Nat} {o p p1 : Int} {ts : List Int} (h : wY t n k o p p1 ts) (hk : k = 2) : ¬ sG t n p1 = 38 := by
  refine h (fun k _ _ p1 _ => k = 2 → ¬ sG t n p1 = 38) ⟨?_, ?_, ?_, ?_, ?_, ?_, ?_⟩ hk
  · intro _ _ _ _ _ _ _ e
    exact absurd e (by decide)
  · intro _ _ _ _ _ _ _ e
    exact absurd e (by decide)
  · intro _ _ _ _ _ _ _ _ _ e
    exact absurd e (by decide)
  · intro _ _ _ _ _ e
    exact absurd e (by decide)
  · intro _ _ _ _ _ _ _ _ _ e
    exact absurd e (by decide)
  · intro _ _ _ _ _ h _
    exact h
  · intro _ _ _ _ _ _ _ _ _ h _
    exact h
/-- what may lie on top -/
def wTop (k : Nat) (S : List Int) : Prop := k = 0 ∨ (¬ S.head? = some 7 ∧ ¬ S.head? = some 5 ∧ (k = 1 ∨ ¬ S.head? = some 6))
theorem wHd {x y : Int} {S : List Int} (h : ¬ x = y) : ¬ (x :: S).head? = some y := fun e => h (Option.some.inj e)
theorem wHe {y : Int} : ¬ ([] : List Int).head? = some y := fun e => by cases e
theorem wPopN_n {S o : List Int} (h : ¬ S.head? = some 7) : wPopN S o = (S, o) := by
  cases S with
  | nil => rfl
  | cons x S =>
    unfold wPopN
    rw [if_neg (fun e => h (by rw [e]; rfl))]
theorem wPopJ_n {al : Bool} {S o : List Int} (h : ¬ S.head? = some 5) (h2 : al = false ∨ ¬ S.head? = some 6) : wPopJ al S o = (S, o) := by
  cases S with
  | nil => rfl
  | cons x S =>
    unfold wPopJ
    rw [if_neg (fun e => h (by rw [e]; rfl)), if_neg]
    rintro ⟨e1, e2⟩
    rcases h2 with h2 | h2
    · rw [h2] at e1
      cases e1
    · exact h2 (by rw [e2]; rfl)
theorem wRun5 {m : Nat} {p : Int} {S o : List Int} : wRun t n m false p (5 :: S) o = wRun t n m false p S (o ++ [1280]) := by
  cases m with
  | zero => rfl
  | succ m =>
    have e1 : ∀ al, wPopJ al (5 :: S) o = wPopJ al S (o ++ [1280]) := fun al => if_pos rfl
    have e2 : (8 : Int) ∈ (5 :: S) ↔ (8 : Int) ∈ S := by
      rw [List.mem_cons]
      exact ⟨fun h => h.resolve_left (by decide), Or.inr⟩
    unfold wRun
    rw [e1, e1]
    simp only [e2]
theorem wRun6 {m : Nat} {p : Int} {S o : List Int} (h : ¬ sG t n p = 38) : wRun t n m false p (6 :: S) o = wRun t n m false p S (o ++ [1536]) := by
  cases m with
  | zero => rfl
  | succ m =>
    have e1 : wPopJ true (6 :: S) o = wPopJ true S (o ++ [1536]) := (if_neg (by decide)).trans (if_pos ⟨rfl, rfl⟩)
    have e2 : (8 : Int) ∈ (6 :: S) ↔ (8 : Int) ∈ S := by
      rw [List.mem_cons]
      exact ⟨fun h => h.resolve_left (by decide), Or.inr⟩
    unfold wRun
    rw [e1]
    simp only [e2, if_neg h]
/-- a step of the machine -/
theorem wR_o {m : Nat} {p : Int} {S o : List Int} (h : sG t n p = 33 ∨ sG t n p = 40) (h6 : ¬ wOp S = 6) : wRun t n (m + 1) true p S o = wRun t n m true (p + 1) ((if sG t n p = 33 then 7 else 8) :: S) o := (if_pos h).trans (if_neg h6)
theorem wR_f {m : Nat} {p : Int} {S o : List Int} (h : sG t n p = 33 ∨ sG t n p = 40) (h6 : wOp S = 6) : wRun t n (m + 1) true p S o = some (.inl (-5000 - p)) := (if_pos h).trans (if_pos h6)
theorem wR_a {m : Nat} {p p1 c : Int} {S o : List Int} (h : ¬ (sG t n p = 33 ∨ sG t n p = 40)) (ha : wAt t n p = (0, p1, c)) : wRun t n (m + 1) true p S o = wRun t n m false p1 (wPopN S (o ++ [c])).1 (wPopN S (o ++ [c])).2 := by
  show (if _ then _ else if _ then _ else _) = _
  rw [if_neg h, ha, if_pos rfl]
theorem wR_n {m : Nat} {p f : Int} {S o : List Int} (h : ¬ (sG t n p = 33 ∨ sG t n p = 40)) (ha : (wAt t n p).1 = f) (hf : f < 0) : wRun t n (m + 1) true p S o = some (.inl f) := by
  show (if _ then _ else if _ then _ else _) = _
  rw [if_neg h, ha, if_neg (by omega)]
theorem wR_c {m : Nat} {p : Int} {S o : List Int} (h : sG t n p = 41) (h8 : (8 : Int) ∈ S) : wRun t n (m + 1) false p S o = wRun t n m false (p + 1) (wPopN (wPopJ true S o).1.tail (wPopJ true S o).2).1 (wPopN (wPopJ true S o).1.tail (wPopJ true S o).2).2 := if_pos ⟨h, h8⟩
theorem wR_38 {m : Nat} {p : Int} {S o : List Int} (h : sG t n p = 38) : wRun t n (m + 1) false p S o = wRun t n m true (p + 1) (5 :: (wPopJ false S o).1) (wPopJ false S o).2 := by
  show (if _ then _ else if _ then _ else _) = _
  rw [if_neg (by omega), if_pos h]
theorem wR_124 {m : Nat} {p : Int} {S o : List Int} (h : sG t n p = 124) : wRun t n (m + 1) false p S o = wRun t n m true (p + 1) (6 :: (wPopJ true S o).1) (wPopJ true S o).2 := by
  show (if _ then _ else if _ then _ else if _ then _ else _) = _
  rw [if_neg (by omega), if_neg (by omega), if_pos h]
theorem wR_e {m : Nat} {p : Int} {S o : List Int} (h : sG t n p = -1) (h8 : ¬ (8 : Int) ∈ S) : wRun t n (m + 1) false p S o = some (.inr (wPopJ true S o).2) := by
  show (if _ then _ else if _ then _ else if _ then _ else if _ then _ else _) = _
  rw [if_neg (by omega), if_neg (by omega), if_neg (by omega), if_pos ⟨h, h8⟩]
theorem wR_b {m : Nat} {p : Int} {S o : List Int} (h1 : ¬ (sG t n p = 41 ∧ (8 : Int) ∈ S)) (h2 : ¬ sG t n p = 38) (h3 : ¬ sG t n p = 124) (h4 : ¬ (sG t n p = -1 ∧ ¬ (8 : Int) ∈ S)) : wRun t n (m + 1) false p S o = some (.inl (-1000 - p)) := by
  show (if _ then _ else if _ then _ else if _ then _ else if _ then _ else _) = _
  rw [if_neg h1, if_neg h2, if_neg h3, if_neg h4]
theorem wOp7 {S : List Int} : wOp (7 :: S) = wOp S + 1 := rfl
theorem wOp8 {S : List Int} : wOp (8 :: S) = wOp S + 1 := rfl
theorem wOp5 {S : List Int} : wOp (5 :: S) = wOp S := Int.add_zero _
theorem wOp6 {S : List Int} : wOp (6 :: S) = wOp S := Int.add_zero _
theorem wY_run {k : Nat} {o p p1 : Int} {ts : List Int} (h : wY t n k o p p1 ts) : ∀ (S out : List Int) (r : Int ⊕ List Int), wOp S = o → wTop k S → (∃ m, wRun t n m false p1 (wPopN S (out ++ ts)).1 (wPopN S (out ++ ts)).2 = some r) → ∃ m, wRun t n m true p S out = some r := by
  refine h (fun k o p p1 ts => ∀ (S out : List Int) (r : Int ⊕ List Int), wOp S = o → wTop k S → (∃ m, wRun t n m false p1 (wPopN S (out ++ ts)).1 (wPopN S (out ++ ts)).2 = some r) → ∃ m, wRun t n m true p S out = some r) ⟨?_, ?_, ?_, ?_, ?_, ?_, ?_⟩
  · intro _ _ _ _ h1 h2 h3
    rintro S out r - - ⟨m, hm⟩
    exact ⟨m + 1, (wR_a (by omega) h3).trans hm⟩
  · intro _ _ _ _ h1 h2 ih
    rintro S out r hS - ⟨m, hm⟩
    obtain ⟨m2, h⟩ := ih (7 :: S) out r (by rw [wOp7, hS]) (Or.inl rfl) ⟨m, by
      rw [show wPopN (7 :: S) _ = wPopN S (_ ++ [1792]) from if_pos rfl, List.append_assoc]
      exact hm⟩
    exact ⟨m2 + 1, by rw [wR_o (Or.inl h1) (by omega), if_pos h1]; exact h⟩
  · intro _ _ _ _ h1 h2 ih h3 h4
    rintro S out r hS - ⟨m, hm⟩
    obtain ⟨m2, h⟩ := ih (8 :: S) out r (by rw [wOp8, hS]) (Or.inr ⟨wHd (by decide), wHd (by decide), Or.inr (wHd (by decide))⟩) ⟨m + 1, by
      rw [wPopN_n (S := 8 :: S) (wHd (by decide)), wR_c h4 List.mem_cons_self, wPopJ_n (S := 8 :: S) (wHd (by decide)) (Or.inr (wHd (by decide)))]
      exact hm⟩
    exact ⟨m2 + 1, by rw [wR_o (Or.inr h1) (by omega), if_neg (by omega)]; exact h⟩
  · intro _ _ _ _ ih
    intro S out r hS hT hm
    exact ih S out r hS (Or.inl rfl) hm
  · intro _ _ _ _ _ _ ih1 h1 ih2
    rintro S out r hS hT ⟨m, hm⟩
    obtain ⟨t7, t5, -⟩ := hT.resolve_left (by decide)
    refine ih1 S out r hS hT ?_
    rw [wPopN_n t7]
    obtain ⟨m2, h⟩ := ih2 (5 :: S) (out ++ _) r (by rw [wOp5, hS]) (Or.inl rfl) ⟨m, by
      rw [wPopN_n (S := 5 :: S) (wHd (by decide))]
      rw [wPopN_n t7, ← List.append_assoc, ← List.append_assoc] at hm
      exact wRun5.trans hm⟩
    exact ⟨m2 + 1, by rw [wR_38 h1, wPopJ_n t5 (Or.inl rfl)]; exact h⟩
  · intro _ _ _ _ ih _
    intro S out r hS hT hm
    obtain ⟨t7, t5, -⟩ := hT.resolve_left (by decide)
    exact ih S out r hS (Or.inr ⟨t7, t5, Or.inl rfl⟩) hm
  · intro _ _ _ _ _ _ ih1 h1 ih2 h2
    rintro S out r hS hT ⟨m, hm⟩
    obtain ⟨t7, t5, t6⟩ := hT.resolve_left (by decide)
    refine ih1 S out r hS hT ?_
    rw [wPopN_n t7]
    obtain ⟨m2, h⟩ := ih2 (6 :: S) (out ++ _) r (by rw [wOp6, hS]) (Or.inr ⟨wHd (by decide), wHd (by decide), Or.inl rfl⟩) ⟨m, by
      rw [wPopN_n (S := 6 :: S) (wHd (by decide))]
      rw [wPopN_n t7, ← List.append_assoc, ← List.append_assoc] at hm
      exact (wRun6 h2).trans hm⟩
    exact ⟨m2 + 1, by rw [wR_124 h1, wPopJ_n t5 (Or.inr (t6.resolve_left (by decide)))]; exact h⟩
theorem wN_run {k : Nat} {o p f : Int} (h : wN t n k o p f) : ∀ (S out : List Int), wOp S = o → o ≤ 6 → wTop k S → ∃ m, wRun t n m true p S out = some (.inl f) := by
  refine h (fun k o p f => ∀ (S out : List Int), wOp S = o → o ≤ 6 → wTop k S → ∃ m, wRun t n m true p S out = some (.inl f)) ⟨?_, ?_, ?_, ?_, ?_, ?_, ?_, ?_, ?_⟩
  · intro _ _ _ h1 h2 h3 h4
    intro S out _ _ _
    exact ⟨1, wR_n (by omega) h3 h4⟩
  · intro _ _ h1 h2
    intro S out hS h6 _
    exact ⟨1, wR_f h1 (by omega)⟩
  · intro _ _ _ h1 h2 ih
    intro S out hS h6 _
    obtain ⟨m2, h⟩ := ih (7 :: S) out (by rw [wOp7, hS]) (by omega) (Or.inl rfl)
    exact ⟨m2 + 1, by rw [wR_o (Or.inl h1) (by omega), if_pos h1]; exact h⟩
  · intro _ _ _ h1 h2 ih
    intro S out hS h6 _
    obtain ⟨m2, h⟩ := ih (8 :: S) out (by rw [wOp8, hS]) (by omega) (Or.inr ⟨wHd (by decide), wHd (by decide), Or.inr (wHd (by decide))⟩)
    exact ⟨m2 + 1, by rw [wR_o (Or.inr h1) (by omega), if_neg (by omega)]; exact h⟩
  · intro _ _ _ _ h1 h2 h3 h4 h5
    intro S out hS h6 _
    obtain ⟨m2, h⟩ := wY_run h3 (8 :: S) out _ (by rw [wOp8, hS]) (Or.inr ⟨wHd (by decide), wHd (by decide), Or.inr (wHd (by decide))⟩) ⟨1, by
      rw [wPopN_n (S := 8 :: S) (wHd (by decide))]
      exact wR_b (fun e => h5 e.1) (wY_38 h3 rfl) h4 (fun e => e.2 List.mem_cons_self)⟩
    exact ⟨m2 + 1, by rw [wR_o (Or.inr h1) (by omega), if_neg (by omega)]; exact h⟩
  · intro _ _ _ ih
    intro S out hS h6 _
    exact ih S out hS h6 (Or.inl rfl)
  · intro _ _ _ _ _ h1 h2 ih
    intro S out hS h6 hT
    obtain ⟨t7, t5, -⟩ := hT.resolve_left (by decide)
    obtain ⟨m2, h⟩ := ih (5 :: S) (out ++ _) (by rw [wOp5, hS]) h6 (Or.inl rfl)
    refine wY_run h1 S out _ hS hT ⟨m2 + 1, ?_⟩
    rw [wPopN_n t7, wR_38 h2, wPopJ_n t5 (Or.inl rfl)]
    exact h
  · intro _ _ _ ih
    intro S out hS h6 hT
    obtain ⟨t7, t5, -⟩ := hT.resolve_left (by decide)
    exact ih S out hS h6 (Or.inr ⟨t7, t5, Or.inl rfl⟩)
  · intro _ _ _ _ _ h1 h2 ih
    intro S out hS h6 hT
    obtain ⟨t7, t5, t6⟩ := hT.resolve_left (by decide)
    obtain ⟨m2, h⟩ := ih (6 :: S) (out ++ _) (by rw [wOp6, hS]) h6 (Or.inr ⟨wHd (by decide), wHd (by decide), Or.inl rfl⟩)
    refine wY_run h1 S out _ hS hT ⟨m2 + 1, ?_⟩
    rw [wPopN_n t7, wR_124 h2, wPopJ_n t5 (Or.inr (t6.resolve_left (by decide)))]
    exact h
/-- the whole text: what the machine answers -/
theorem wAll_0 {p1 : Int} {ts : List Int} (h : wY t n 2 0 0 p1 ts) (hp : n ≤ p1) : ∃ m, wRun t n m true 0 [] [] = some (.inr ts) := by
  refine wY_run h [] [] _ rfl (Or.inr ⟨wHe, wHe, Or.inr wHe⟩) ⟨1, ?_⟩
  exact wR_e (by unfold sG; exact if_neg (by omega)) (by intro h; cases h)
theorem wAll_1 {p1 : Int} {ts : List Int} (h : wY t n 2 0 0 p1 ts) (hp : ¬ sG t n p1 = -1) (h2 : ¬ sG t n p1 = 124) : ∃ m, wRun t n m true 0 [] [] = some (.inl (-1000 - p1)) := by
  refine wY_run h [] [] _ rfl (Or.inr ⟨wHe, wHe, Or.inr wHe⟩) ⟨1, ?_⟩
  exact wR_b (fun e => by cases e.2) (wY_38 h rfl) h2 (fun e => hp e.1)
theorem wAll_f {f : Int} (h : wN t n 2 0 0 f) : ∃ m, wRun t n m true 0 [] [] = some (.inl f) := wN_run h [] [] rfl (by decide) (Or.inr ⟨wHe, wHe, Or.inr wHe⟩)
end
end
section
/-! the class reads a wish: what is so behind it -/
section
/-- the class's reader: the text, the tokens L so far -/
def wC (a0 a : xA) (t : Int → Int) (n p : Int) (L : List Int) : Prop := tC a t n p ∧ xAr a ∧ a 1 4 = 0 ∧ a 31 2 = (L.length : Int) ∧ (∀ (j : Nat) x, L[j]? = some x → a 32 (j : Int) = cT x) ∧ kWs a0 a
variable {a0 a : xA} {t : Int → Int} {n p v s c : Int} {L : List Int}
theorem gSnoc {L : List Int} {c x : Int} {j : Nat} (h : (L ++ [c])[j]? = some x) : L[j]? = some x ∧ j < L.length ∨ j = L.length ∧ x = c := by
  by_cases hj : j < L.length
  · rw [List.getElem?_append_left hj] at h
    exact Or.inl ⟨h, hj⟩
  · rw [List.getElem?_append_right (by omega)] at h
    obtain ⟨i, hi⟩ : ∃ i, j - L.length = i := ⟨_, rfl⟩
    rw [hi] at h
    cases i with
    | zero =>
      have e : c = x := Option.some.inj h
      exact Or.inr ⟨by omega, e.symm⟩
    | succ i => cases h
theorem kWs.u {q : Nat} {k : Int} (h : kWs a0 a) (hq : q = 1 ∨ q = 31 ∨ q = 32) : kWs a0 (xU a q k v) := fun r j g1 g2 g3 => by
  rw [xUn (by rcases hq with e | e | e <;> (rw [e]; assumption))]
  exact h r j g1 g2 g3
theorem wC.at (h : wC a0 a t n p L) (hv : xR v) : wC a0 (xU a 1 3 v) t n v L := by
  obtain ⟨h1, h2, h3, h4, h5, h6⟩ := h
  refine ⟨tC.at h1, xAr_u h2 hv, ?_, ?_, fun j x g => ?_, h6.u (Or.inl rfl)⟩
  · rw [xUk (by decide)]; exact h3
  · rw [xUn (by decide)]; exact h4
  · rw [xUn (by decide)]; exact h5 j x g
theorem wC.put (h : wC a0 a t n p L) (hs : (L.length : Int) = s) (hv : v = cT c) (r1 : xR v) (r2 : xR (s + 1)) : wC a0 (xU (xU a 32 s v) 31 2 (s + 1)) t n p (L ++ [c]) := by
  obtain ⟨h1, h2, h3, h4, h5, h6⟩ := h
  refine ⟨tC.ot (by decide) (by decide) (tC.ot (by decide) (by decide) h1), xAr_u (xAr_u h2 r1) r2, ?_, ?_, fun j x g => ?_, (h6.u (Or.inr (Or.inr rfl))).u (Or.inr (Or.inl rfl))⟩
  · rw [xUn (by decide), xUn (by decide)]; exact h3
  · rw [xUa, List.length_append, ← hs]; rfl
  · rw [xUn (by decide)]
    rcases gSnoc g with ⟨e, hj⟩ | ⟨e, hx⟩
    · rw [xUk (by omega)]; exact h5 j x e
    · rw [show (j : Int) = s by omega, xUa, hv, hx]
/-- what a reader of the class keeps: kind, method, depth -/
def wCon (ro : Nat → Nat × (Nat → Int32)) (mm kd D : Nat) (t : Int → Int) (n o : Int) : Prop :=
  ∀ ⦃d : Nat⦄ ⦃Q : Option Value → pmS → Prop⦄ ⦃a0 a : xA⦄ ⦃b : xB⦄ ⦃p : Int⦄ ⦃L : List Int⦄, D ≤ d → wC a0 a t n p L → 0 ≤ p ∧ p ≤ n → (L.length : Int) ≤ p →
    (∀ (a1 : xA) (p1 : Int) (ts : List Int), wC a0 a1 t n p1 (L ++ ts) → wY t n kd o p p1 ts → p + (ts.length : Int) ≤ p1 ∧ p < p1 ∧ p1 ≤ n → (kd = 1 → ¬ sG t n p1 = 38) → (kd = 2 → ¬ sG t n p1 = 124) → Q (some (xV 1)) (xS a1 b)) →
    (∀ (a1 : xA) (f : Int), kWs a0 a1 → xAr a1 → a1 1 4 = f → f < 0 ∧ -10000 < f → 0 ≤ a1 31 2 ∧ a1 31 2 ≤ 40 → wN t n kd o p f → Q (some (xV 0)) (xS a1 b)) →
    pmCs ro d mm [.ref 31, xV o] (xS a b) Q
variable {ro : Nat → Nat × (Nat → Int32)} {o : Int} {D : Nat}
theorem gLen (L M : List Int) : ((L ++ M).length : Int) = (L.length : Int) + (M.length : Int) := by
  rw [List.length_append]
  rfl
theorem yk35 (hn : n ≤ 40) (hb : tB t) (hD : 2 ≤ D) (ih : wCon ro 36 0 D t n o) : wCon ro 35 1 (D + 1) t n o := by
  intro d Q a0 a b p L hd h hp hL hT hF
  refine pmCs_deep (d := D + 1) (xg35 (w35 ?_)) hd
  -- the loop
  have loop : ∀ (k : Nat) (i p1 : Int) (a1 : xA) (ts : List Int), 40 - i ≤ (k : Int) → 0 ≤ i ∧ i ≤ p1 → wC a0 a1 t n p1 (L ++ ts) → wY t n 1 o p p1 ts → p + (ts.length : Int) ≤ p1 ∧ p < p1 ∧ p1 ≤ n → pmWp ro D 8 35 2 12 [some (.ref 31), some (xV o), some (xV i)] [] (xS a1 b) Q := by
    intro k
    induction k with
    | zero =>
      intro i p1 a1 ts hk hi g1 g2 g3
      have e1 := gLen L ts
      have hend : ¬ sG t n p1 = 38 := by
        unfold sG
        rw [if_neg (by omega)]
        decide
      refine w35l g1.1 (by omega) hn hb g1.2.1 g1.2.2.1 g1.2.2.2.1 ⟨by omega, by omega⟩ ⟨by omega, by omega⟩ hD ?_ ?_ ?_
      · intro e
        exact hT a1 p1 ts g1 g2 g3 (fun _ => hend) (fun e => absurd e (by decide))
      · intro e
        omega
      · intro e
        omega
    | succ k ihk =>
      intro i p1 a1 ts hk hi g1 g2 g3
      have e1 := gLen L ts
      refine w35l g1.1 (by omega) hn hb g1.2.1 g1.2.2.1 g1.2.2.2.1 ⟨by omega, by omega⟩ ⟨by omega, by omega⟩ hD ?_ ?_ ?_
      · intro e
        refine hT a1 p1 ts g1 g2 g3 (fun _ => ?_) (fun e => absurd e (by decide))
        unfold sG
        rw [if_neg (by omega)]
        decide
      · intro e e2 e3
        refine ih (Nat.le_refl D) (g1.at ⟨by omega, by omega⟩) (by omega) (by omega) (fun a2 p2 us k1 k2 k3 _ _ => ?_) (fun a2 f k1 k2 k3 k4 k5 k6 => w35g (hF a2 f k1 k2 k3 k4 k5 (.a1 g2 e2 k6)))
        have e4 := gLen (L ++ ts) us
        refine w35m k1.1 (by omega) hn hb k1.2.1 k1.2.2.1 k1.2.2.2.1 ⟨by omega, by omega⟩ ⟨by omega, by omega⟩ hD (fun _ => ?_) (fun e => by omega)
        have e5 := gLen (ts ++ us) [1280]
        have e6 := gLen ts us
        have e7 : (([1280] : List Int).length : Int) = 1 := rfl
        refine ihk (i + 1) p2 _ (ts ++ us ++ [1280]) (by omega) ⟨by omega, by omega⟩ ?_ (.a1 g2 e2 k2) ⟨by omega, by omega, by omega⟩
        have k1' := k1.put (s := ((L ++ ts ++ us).length : Int)) (v := xOr (xOr (6 * 64) (0 % 8 * 8)) (0 % 8)) (c := 1280) rfl (by decide) (xRk (by decide)) ⟨by omega, by omega⟩
        rw [show L ++ (ts ++ us ++ [1280]) = L ++ ts ++ us ++ [1280] by simp only [List.append_assoc]]
        exact k1'
      · intro e e2
        exact hT a1 p1 ts g1 g2 g3 (fun _ => e2) (fun e => absurd e (by decide))
  refine ih (Nat.le_refl D) h hp hL (fun a1 p1 ts g1 g2 g3 _ _ => w35a ?_) (fun a1 f g1 g2 g3 g4 g5 g6 => w35f (hF a1 f g1 g2 g3 g4 g5 (.a0 g6)))
  exact loop 40 0 p1 a1 ts (by decide) ⟨by decide, by omega⟩ g1 (.a0 g2) g3
theorem yk34 (hn : n ≤ 40) (hb : tB t) (hD : 2 ≤ D) (ih : wCon ro 35 1 D t n o) : wCon ro 34 2 (D + 1) t n o := by
  intro d Q a0 a b p L hd h hp hL hT hF
  refine pmCs_deep (d := D + 1) (xg34 (w34 ?_)) hd
  -- the loop
  have loop : ∀ (k : Nat) (i p1 : Int) (a1 : xA) (ts : List Int), 40 - i ≤ (k : Int) → 0 ≤ i ∧ i ≤ p1 → wC a0 a1 t n p1 (L ++ ts) → wY t n 2 o p p1 ts → p + (ts.length : Int) ≤ p1 ∧ p < p1 ∧ p1 ≤ n → pmWp ro D 8 34 2 12 [some (.ref 31), some (xV o), some (xV i)] [] (xS a1 b) Q := by
    intro k
    induction k with
    | zero =>
      intro i p1 a1 ts hk hi g1 g2 g3
      have e1 := gLen L ts
      have hend : ¬ sG t n p1 = 124 := by
        unfold sG
        rw [if_neg (by omega)]
        decide
      refine w34l g1.1 (by omega) hn hb g1.2.1 g1.2.2.1 g1.2.2.2.1 ⟨by omega, by omega⟩ ⟨by omega, by omega⟩ hD ?_ ?_ ?_
      · intro e
        exact hT a1 p1 ts g1 g2 g3 (fun e => absurd e (by decide)) (fun _ => hend)
      · intro e
        omega
      · intro e
        omega
    | succ k ihk =>
      intro i p1 a1 ts hk hi g1 g2 g3
      have e1 := gLen L ts
      refine w34l g1.1 (by omega) hn hb g1.2.1 g1.2.2.1 g1.2.2.2.1 ⟨by omega, by omega⟩ ⟨by omega, by omega⟩ hD ?_ ?_ ?_
      · intro e
        refine hT a1 p1 ts g1 g2 g3 (fun e => absurd e (by decide)) (fun _ => ?_)
        unfold sG
        rw [if_neg (by omega)]
        decide
      · intro e e2 e3
        refine ih (Nat.le_refl D) (g1.at ⟨by omega, by omega⟩) (by omega) (by omega) (fun a2 p2 us k1 k2 k3 k4 _ => ?_) (fun a2 f k1 k2 k3 k4 k5 k6 => w34g (hF a2 f k1 k2 k3 k4 k5 (.o1 g2 e2 k6)))
        have e4 := gLen (L ++ ts) us
        refine w34m k1.1 (by omega) hn hb k1.2.1 k1.2.2.1 k1.2.2.2.1 ⟨by omega, by omega⟩ ⟨by omega, by omega⟩ hD (fun _ => ?_) (fun e => by omega)
        have e5 := gLen (ts ++ us) [1536]
        have e6 := gLen ts us
        have e7 : (([1536] : List Int).length : Int) = 1 := rfl
        refine ihk (i + 1) p2 _ (ts ++ us ++ [1536]) (by omega) ⟨by omega, by omega⟩ ?_ (.o1 g2 e2 k2 (k4 rfl)) ⟨by omega, by omega, by omega⟩
        have k1' := k1.put (s := ((L ++ ts ++ us).length : Int)) (v := xOr (xOr (7 * 64) (0 % 8 * 8)) (0 % 8)) (c := 1536) rfl (by decide) (xRk (by decide)) ⟨by omega, by omega⟩
        rw [show L ++ (ts ++ us ++ [1536]) = L ++ ts ++ us ++ [1536] by simp only [List.append_assoc]]
        exact k1'
      · intro e e2
        exact hT a1 p1 ts g1 g2 g3 (fun e => absurd e (by decide)) (fun _ => e2)
  refine ih (Nat.le_refl D) h hp hL (fun a1 p1 ts g1 g2 g3 g4 _ => w34a ?_) (fun a1 f g1 g2 g3 g4 g5 g6 => w34f (hF a1 f g1 g2 g3 g4 g5 (.o0 g6)))
  exact loop 40 0 p1 a1 ts (by decide) ⟨by decide, by omega⟩ g1 (.o0 g2 (g4 rfl)) g3
theorem yk36s (hn : n ≤ 40) (hb : tB t) (ho : 0 ≤ o ∧ o ≤ 6) (hD1 : 1 ≤ D) (ih : o < 6 → 2 ≤ D ∧ wCon ro 36 0 D t n (o + 1)) : wCon ro 36 0 (D + 4) t n o := by
  intro d Q a0 a b p L hd h hp hL hT hF
  refine pmCs_deep (d := D + 4) (xg36 (w36 h.1 hp hn hb h.2.1 h.2.2.1 h.2.2.2.1 ⟨by omega, hL⟩ ⟨by omega, by omega⟩ ho (by omega) ?_ ?_ ?_ ?_ ?_)) hd
  · intro _ e1 e2
    have hpn : p < n := sGn (t := t) (by omega)
    obtain ⟨hD, ih⟩ := ih e2
    refine pmCs_deep (d := D + 1) (xg42 (w42 ?_)) (by omega)
    refine ih (Nat.le_refl D) (h.at ⟨by omega, by omega⟩) (by omega) (by omega) (fun a1 p1 ts g1 g2 g3 _ _ => ?_) (fun a1 f g1 g2 g3 g4 g5 g6 => ?_)
    · have e4 := gLen L ts
      have e5 := gLen ts [1792]
      have e7 : (([1792] : List Int).length : Int) = 1 := rfl
      refine w42b (z := 1) (xRk (by decide)) (Or.inr rfl) g1.2.2.2.1 ⟨by omega, by omega⟩ (by omega) (fun _ => ?_) (fun e => by omega)
      refine w36r67 (z := 1) (xRk (by decide)) (Or.inr rfl) ?_
      refine hT _ p1 (ts ++ [1792]) ?_ (.no e1 e2 g2) ⟨by omega, by omega, by omega⟩ (fun e => absurd e (by decide)) (fun e => absurd e (by decide))
      rw [← List.append_assoc]
      exact g1.put rfl (by decide) (xRk (by decide)) ⟨by omega, by omega⟩
    · refine w42b (z := 0) (xRk (by decide)) (Or.inl rfl) rfl g5 (by omega) (fun e => ?_) (fun e => ?_)
      · refine w36r67 (z := 0) (xRk (by decide)) (Or.inl rfl) ?_
        refine hF _ f ((g1.u (Or.inr (Or.inr rfl))).u (Or.inr (Or.inl rfl))) (xAr_u (xAr_u g2 (xRk (by decide))) ⟨by omega, by omega⟩) ?_ g4 ?_ (.no e1 e2 g6)
        · rw [xUn (by decide), xUn (by decide)]
          exact g3
        · rw [xUa]
          omega
      · refine w36r67 (z := 0) (xRk (by decide)) (Or.inl rfl) ?_
        exact hF _ f g1 g2 g3 g4 g5 (.no e1 e2 g6)
  · intro _ e1 e2
    refine hF _ (-1000 * 5 - p) (h.2.2.2.2.2.u (Or.inl rfl)) (xAr_u h.2.1 ⟨by omega, by omega⟩) xUa ⟨by omega, by omega⟩ ?_ ?_
    · rw [xUn (by decide), h.2.2.2.1]
      omega
    · rw [show (-1000 * 5 - p : Int) = -5000 - p by omega]
      exact .mo (Or.inl e1) e2
  · intro _ e0 e1 e2
    have hpn : p < n := sGn (t := t) (by omega)
    obtain ⟨hD, ih⟩ := ih e2
    refine pmCs_deep (d := D + 3) (xg43 (w43 ?_)) (by omega)
    refine yk34 hn hb (D := D + 1) (by omega) (yk35 hn hb hD ih) (Nat.le_refl _) (h.at ⟨by omega, by omega⟩) (by omega) (by omega) (fun a1 p1 ts g1 g2 g3 _ g4 => ?_) (fun a1 f g1 g2 g3 g4 g5 g6 => ?_)
    · have e4 := gLen L ts
      refine w43b g1.1 (by omega) hn hb g1.2.1 g1.2.2.1 g1.2.2.2.1 ⟨by omega, by omega⟩ (by omega) (fun e5 e6 => ?_) (fun e5 => ?_)
      · refine w36r77 (z := 1) (xRk (by decide)) (Or.inr rfl) ?_
        exact hT _ (p1 + 1) ts (g1.at ⟨by omega, by omega⟩) (.br e1 e2 g2 (g4 rfl) e5) ⟨by omega, by omega, by omega⟩ (fun e => absurd e (by decide)) (fun e => absurd e (by decide))
      · refine w36r77 (z := 0) (xRk (by decide)) (Or.inl rfl) ?_
        refine hF _ (-1000 * 1 - p1) (g1.2.2.2.2.2.u (Or.inl rfl)) (xAr_u g1.2.1 ⟨by omega, by omega⟩) xUa ⟨by omega, by omega⟩ ?_ ?_
        · rw [xUn (by decide), g1.2.2.2.1]
          omega
        · rw [show (-1000 * 1 - p1 : Int) = -1000 - p1 by omega]
          exact .b1 e1 e2 g2 (g4 rfl) e5
    · refine w43f ?_
      refine w36r77 (z := 0) (xRk (by decide)) (Or.inl rfl) ?_
      exact hF _ f g1 g2 g3 g4 g5 (.br e1 e2 g6)
  · intro _ e0 e1 e2
    refine hF _ (-1000 * 5 - p) (h.2.2.2.2.2.u (Or.inl rfl)) (xAr_u h.2.1 ⟨by omega, by omega⟩) xUa ⟨by omega, by omega⟩ ?_ ?_
    · rw [xUn (by decide), h.2.2.2.1]
      omega
    · rw [show (-1000 * 5 - p : Int) = -5000 - p by omega]
      exact .mo (Or.inr e1) e2
  · intro e0 e1 e2
    refine xk38 h.1 hp hn hb h.2.1 h.2.2.1 h.2.2.2.1 ⟨by omega, hL⟩ e0 (by omega) (fun a1 p1 c g1 g2 g3 g4 g5 g6 g7 g8 g9 => ?_) (fun a1 f g1 g2 g3 g4 g5 g6 => ?_)
    · refine w36r25 (z := 1) (xRk (by decide)) (Or.inr rfl) ?_
      have e7 : (([c] : List Int).length : Int) = 1 := rfl
      refine hT a1 p1 [c] ⟨g1, g2, g3, ?_, fun j x g => ?_, ?_⟩ (.ac e1 e2 g7) ⟨by omega, by omega, by omega⟩ (fun e => absurd e (by decide)) (fun e => absurd e (by decide))
      · rw [g4, gLen]
        rfl
      · rcases gSnoc g with ⟨k1, k2⟩ | ⟨k1, k2⟩
        · rw [g5 j (by omega)]
          exact h.2.2.2.2.1 j x k1
        · rw [k1, k2]
          exact g6
      · intro q k k1 k2 k3
        rw [g9 q k k1 k2 k3]
        exact h.2.2.2.2.2 q k k1 k2 k3
    · refine w36r25 (z := 0) (xRk (by decide)) (Or.inl rfl) ?_
      refine hF a1 f (fun q k k1 k2 k3 => ?_) g1 g2 g3 g5 (.ac e1 e2 g4 g3.1)
      rw [g6 q k k1 k2 k3]
      exact h.2.2.2.2.2 q k k1 k2 k3
theorem yk36 (hn : n ≤ 40) (hb : tB t) : ∀ (k : Nat) (o : Int), 0 ≤ o ∧ o ≤ 6 → 6 - o ≤ (k : Int) → wCon ro 36 0 (4 * k + 1 + 4) t n o := by
  intro k
  induction k with
  | zero =>
    intro o ho hk
    exact yk36s hn hb ho (by decide) (fun e => by omega)
  | succ k ih =>
    intro o ho hk
    refine yk36s hn hb ho (by omega) (fun e => ⟨by omega, ?_⟩)
    have h := ih (o + 1) (by omega) (by omega)
    rw [show 4 * (k + 1) + 1 = 4 * k + 1 + 4 by omega]
    exact h
/-- a wish's text read by the class -/
theorem yk32 {d : Nat} {Q : Option Value → pmS → Prop} {a : xA} {b : xB} {l : Int} (hn : 0 ≤ n ∧ n ≤ 40) (hb : tB t) (hl : a 1 1 = l) (hl0 : n ≤ l) (hl1 : l ≤ 400) (ht : ∀ j, 0 ≤ j → j < n → a 2 j = t j) (hA : xAr a) (hd : 32 ≤ d)
    (hT : ∀ (a1 : xA) (ts : List Int) (m : Nat), kWs a a1 → xAr a1 → a1 31 2 = (ts.length : Int) → (ts.length : Int) ≤ n → (∀ (j : Nat) x, ts[j]? = some x → a1 32 (j : Int) = cT x) → wRun t n m true 0 [] [] = some (.inr ts) → Q (some (xV 0)) (xS a1 b))
    (hF : ∀ (a1 : xA) (f : Int) (m : Nat), kWs a a1 → xAr a1 → f < 0 ∧ -10000 < f → wRun t n m true 0 [] [] = some (.inl f) → Q (some (xV f)) (xS a1 b)) : pmCs ro d 32 [.ref 31, xV n] (xS a b) Q := by
  refine pmCs_deep (d := 32) (xg32 (w32 hl ⟨hn.1, hl0⟩ hl1 (by decide) ?_)) hd
  have h0 : wC a (xU (xU (xU (xU a 1 2 n) 1 3 0) 1 4 0) 31 2 0) t n 0 [] := by
    refine ⟨⟨fun j g0 g1 => ?_, ?_, ?_⟩, xAr_u (xAr_u (xAr_u (xAr_u hA ⟨by omega, by omega⟩) xR0) xR0) xR0, ?_, ?_, fun j x g => ?_, (((kWs.u (fun _ _ _ _ _ => rfl) (Or.inl rfl)).u (Or.inl rfl)).u (Or.inl rfl)).u (Or.inr (Or.inl rfl))⟩
    · rw [xUn (by decide), xUn (by decide), xUn (by decide), xUn (by decide)]
      exact ht j g0 g1
    · rw [xUn (by decide), xUk (by decide), xUk (by decide), xUa]
    · rw [xUn (by decide), xUk (by decide), xUa]
    · rw [xUn (by decide), xUa]
    · rw [xUa]
      rfl
    · cases g
  refine yk34 hn.2 hb (D := 30) (by decide) (yk35 hn.2 hb (D := 29) (by decide) (yk36 hn.2 hb 6 0 (by decide) (by decide))) (Nat.le_refl _) h0 ⟨by decide, hn.1⟩ (by decide) (fun a1 p1 ts g1 g2 g3 _ g4 => ?_) (fun a1 f g1 g2 g3 g4 g5 g6 => ?_)
  · have e := gLen [] ts
    have e' : ([] ++ ts : List Int) = ts := rfl
    rw [e'] at e g1
    refine w32t g1.1 (by omega) hn.2 hb g1.2.1 g1.2.2.1 g1.2.2.2.1 ⟨by omega, by omega⟩ (by decide) (fun e1 => ?_) (fun e1 => ?_)
    · obtain ⟨m, hm⟩ := wAll_0 g2 e1
      exact hT a1 ts m g1.2.2.2.2.2 g1.2.1 g1.2.2.2.1 (by omega) g1.2.2.2.2.1 hm
    · have hs : ¬ sG t n p1 = -1 := by
        unfold sG
        rw [if_pos (by omega)]
        have := hb p1 (by omega)
        omega
      obtain ⟨m, hm⟩ := wAll_1 g2 hs (g4 rfl)
      rw [show (-1000 - p1 : Int) = -1000 * 1 - p1 by omega] at hm
      exact hF _ _ m (g1.2.2.2.2.2.u (Or.inl rfl)) (xAr_u g1.2.1 ⟨by omega, by omega⟩) ⟨by omega, by omega⟩ hm
  · obtain ⟨m, hm⟩ := wAll_f g6
    exact w32f g3 (hF a1 f m g1 g2 g4 hm)
end
end
