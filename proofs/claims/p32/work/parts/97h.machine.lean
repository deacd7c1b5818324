/-! wishes: what is read, as relations (as the class reads), and as a machine (as the reference reads) -/
section
variable {t : Int → Int} {n : Int}
/-- NOT as often as it waits on top -/
def wPopN : List Int → List Int → List Int × List Int
  | [], o => ([], o)
  | x :: S, o => if x = 7 then wPopN S (o ++ [1792]) else (x :: S, o)
/-- AND, and OR if all, as often as they wait on top -/
def wPopJ (al : Bool) : List Int → List Int → List Int × List Int
  | [], o => ([], o)
  | x :: S, o => if x = 5 then wPopJ al S (o ++ [1280]) else if al = true ∧ x = 6 then wPopJ al S (o ++ [1536]) else (x :: S, o)
def wOp : List Int → Int
  | [] => 0
  | x :: S => wOp S + (if x = 7 ∨ x = 8 then 1 else 0)
/-- true: a piece is to come; false: behind one -/
def wRun (t : Int → Int) (n : Int) : Nat → Bool → Int → List Int → List Int → Option (Int ⊕ List Int)
  | 0, _, _, _, _ => none
  | k + 1, true, p, S, o =>
    if sG t n p = 33 ∨ sG t n p = 40 then (if wOp S = 6 then some (.inl (-5000 - p)) else wRun t n k true (p + 1) ((if sG t n p = 33 then 7 else 8) :: S) o)
    else if (wAt t n p).1 = 0 then wRun t n k false (wAt t n p).2.1 (wPopN S (o ++ [(wAt t n p).2.2])).1 (wPopN S (o ++ [(wAt t n p).2.2])).2
    else some (.inl (wAt t n p).1)
  | k + 1, false, p, S, o =>
    if sG t n p = 41 ∧ 8 ∈ S then wRun t n k false (p + 1) (wPopN (wPopJ true S o).1.tail (wPopJ true S o).2).1 (wPopN (wPopJ true S o).1.tail (wPopJ true S o).2).2
    else if sG t n p = 38 then wRun t n k true (p + 1) (5 :: (wPopJ false S o).1) (wPopJ false S o).2
    else if sG t n p = 124 then wRun t n k true (p + 1) (6 :: (wPopJ true S o).1) (wPopJ true S o).2
    else if sG t n p = -1 ∧ ¬ 8 ∈ S then some (.inr (wPopJ true S o).2)
    else some (.inl (-1000 - p))
/-- what is so of reading -/
def wYc (t : Int → Int) (n : Int) (P : Nat → Int → Int → Int → List Int → Prop) : Prop :=
  (∀ (o : Int) (p : Int) (p1 : Int) (c : Int), ¬ sG t n p = 33 → ¬ sG t n p = 40 → wAt t n p = (0, p1, c) → P 0 o p p1 [c]) ∧
  (∀ (o : Int) (p : Int) (p1 : Int) (ts : List Int), sG t n p = 33 → o < 6 → P 0 (o + 1) (p + 1) p1 ts → P 0 o p p1 (ts ++ [1792])) ∧
  (∀ (o : Int) (p : Int) (p1 : Int) (ts : List Int), sG t n p = 40 → o < 6 → P 2 (o + 1) (p + 1) p1 ts → ¬ sG t n p1 = 124 → sG t n p1 = 41 → P 0 o p (p1 + 1) ts) ∧
  (∀ (o : Int) (p : Int) (p1 : Int) (ts : List Int), P 0 o p p1 ts → P 1 o p p1 ts) ∧
  (∀ (o : Int) (p : Int) (p1 : Int) (ts : List Int) (p2 : Int) (us : List Int), P 1 o p p1 ts → sG t n p1 = 38 → P 0 o (p1 + 1) p2 us → P 1 o p p2 (ts ++ us ++ [1280])) ∧
  (∀ (o : Int) (p : Int) (p1 : Int) (ts : List Int), P 1 o p p1 ts → ¬ sG t n p1 = 38 → P 2 o p p1 ts) ∧
  (∀ (o : Int) (p : Int) (p1 : Int) (ts : List Int) (p2 : Int) (us : List Int), P 2 o p p1 ts → sG t n p1 = 124 → P 1 o (p1 + 1) p2 us → ¬ sG t n p2 = 38 → P 2 o p p2 (ts ++ us ++ [1536]))
/-- read: 0 a piece, 1 pieces joined by AND (so far), 2 those joined by OR (so far) -/
def wY (t : Int → Int) (n : Int) (k : Nat) (o p p1 : Int) (ts : List Int) : Prop := ∀ P : Nat → Int → Int → Int → List Int → Prop, wYc t n P → P k o p p1 ts
theorem wY.ac {o : Int} {p : Int} {p1 : Int} {c : Int} (h0 : ¬ sG t n p = 33) (h1 : ¬ sG t n p = 40) (h2 : wAt t n p = (0, p1, c)) : wY t n 0 o p p1 [c] := fun P hP => hP.1 o p p1 c h0 h1 h2
theorem wY.no {o : Int} {p : Int} {p1 : Int} {ts : List Int} (h0 : sG t n p = 33) (h1 : o < 6) (h2 : wY t n 0 (o + 1) (p + 1) p1 ts) : wY t n 0 o p p1 (ts ++ [1792]) := fun P hP => hP.2.1 o p p1 ts h0 h1 (h2 P hP)
theorem wY.br {o : Int} {p : Int} {p1 : Int} {ts : List Int} (h0 : sG t n p = 40) (h1 : o < 6) (h2 : wY t n 2 (o + 1) (p + 1) p1 ts) (h3 : ¬ sG t n p1 = 124) (h4 : sG t n p1 = 41) : wY t n 0 o p (p1 + 1) ts := fun P hP => hP.2.2.1 o p p1 ts h0 h1 (h2 P hP) h3 h4
theorem wY.a0 {o : Int} {p : Int} {p1 : Int} {ts : List Int} (h0 : wY t n 0 o p p1 ts) : wY t n 1 o p p1 ts := fun P hP => hP.2.2.2.1 o p p1 ts (h0 P hP)
theorem wY.a1 {o : Int} {p : Int} {p1 : Int} {ts : List Int} {p2 : Int} {us : List Int} (h0 : wY t n 1 o p p1 ts) (h1 : sG t n p1 = 38) (h2 : wY t n 0 o (p1 + 1) p2 us) : wY t n 1 o p p2 (ts ++ us ++ [1280]) := fun P hP => hP.2.2.2.2.1 o p p1 ts p2 us (h0 P hP) h1 (h2 P hP)
theorem wY.o0 {o : Int} {p : Int} {p1 : Int} {ts : List Int} (h0 : wY t n 1 o p p1 ts) (h1 : ¬ sG t n p1 = 38) : wY t n 2 o p p1 ts := fun P hP => hP.2.2.2.2.2.1 o p p1 ts (h0 P hP) h1
theorem wY.o1 {o : Int} {p : Int} {p1 : Int} {ts : List Int} {p2 : Int} {us : List Int} (h0 : wY t n 2 o p p1 ts) (h1 : sG t n p1 = 124) (h2 : wY t n 1 o (p1 + 1) p2 us) (h3 : ¬ sG t n p2 = 38) : wY t n 2 o p p2 (ts ++ us ++ [1536]) := fun P hP => hP.2.2.2.2.2.2 o p p1 ts p2 us (h0 P hP) h1 (h2 P hP) h3
/-- what is so of not reading -/
def wNc (t : Int → Int) (n : Int) (P : Nat → Int → Int → Int → Prop) : Prop :=
  (∀ (o : Int) (p : Int) (f : Int), ¬ sG t n p = 33 → ¬ sG t n p = 40 → (wAt t n p).1 = f → f < 0 → P 0 o p f) ∧
  (∀ (o : Int) (p : Int), (sG t n p = 33 ∨ sG t n p = 40) → ¬ o < 6 → P 0 o p (-5000 - p)) ∧
  (∀ (o : Int) (p : Int) (f : Int), sG t n p = 33 → o < 6 → P 0 (o + 1) (p + 1) f → P 0 o p f) ∧
  (∀ (o : Int) (p : Int) (f : Int), sG t n p = 40 → o < 6 → P 2 (o + 1) (p + 1) f → P 0 o p f) ∧
  (∀ (o : Int) (p : Int) (p1 : Int) (ts : List Int), sG t n p = 40 → o < 6 → wY t n 2 (o + 1) (p + 1) p1 ts → ¬ sG t n p1 = 124 → ¬ sG t n p1 = 41 → P 0 o p (-1000 - p1)) ∧
  (∀ (o : Int) (p : Int) (f : Int), P 0 o p f → P 1 o p f) ∧
  (∀ (o : Int) (p : Int) (p1 : Int) (ts : List Int) (f : Int), wY t n 1 o p p1 ts → sG t n p1 = 38 → P 0 o (p1 + 1) f → P 1 o p f) ∧
  (∀ (o : Int) (p : Int) (f : Int), P 1 o p f → P 2 o p f) ∧
  (∀ (o : Int) (p : Int) (p1 : Int) (ts : List Int) (f : Int), wY t n 2 o p p1 ts → sG t n p1 = 124 → P 1 o (p1 + 1) f → P 2 o p f)
/-- not read: a fault -/
def wN (t : Int → Int) (n : Int) (k : Nat) (o p f : Int) : Prop := ∀ P : Nat → Int → Int → Int → Prop, wNc t n P → P k o p f
theorem wN.ac {o : Int} {p : Int} {f : Int} (h0 : ¬ sG t n p = 33) (h1 : ¬ sG t n p = 40) (h2 : (wAt t n p).1 = f) (h3 : f < 0) : wN t n 0 o p f := fun P hP => hP.1 o p f h0 h1 h2 h3
theorem wN.mo {o : Int} {p : Int} (h0 : (sG t n p = 33 ∨ sG t n p = 40)) (h1 : ¬ o < 6) : wN t n 0 o p (-5000 - p) := fun P hP => hP.2.1 o p h0 h1
theorem wN.no {o : Int} {p : Int} {f : Int} (h0 : sG t n p = 33) (h1 : o < 6) (h2 : wN t n 0 (o + 1) (p + 1) f) : wN t n 0 o p f := fun P hP => hP.2.2.1 o p f h0 h1 (h2 P hP)
theorem wN.br {o : Int} {p : Int} {f : Int} (h0 : sG t n p = 40) (h1 : o < 6) (h2 : wN t n 2 (o + 1) (p + 1) f) : wN t n 0 o p f := fun P hP => hP.2.2.2.1 o p f h0 h1 (h2 P hP)
theorem wN.b1 {o : Int} {p : Int} {p1 : Int} {ts : List Int} (h0 : sG t n p = 40) (h1 : o < 6) (h2 : wY t n 2 (o + 1) (p + 1) p1 ts) (h3 : ¬ sG t n p1 = 124) (h4 : ¬ sG t n p1 = 41) : wN t n 0 o p (-1000 - p1) := fun P hP => hP.2.2.2.2.1 o p p1 ts h0 h1 h2 h3 h4
theorem wN.a0 {o : Int} {p : Int} {f : Int} (h0 : wN t n 0 o p f) : wN t n 1 o p f := fun P hP => hP.2.2.2.2.2.1 o p f (h0 P hP)
theorem wN.a1 {o : Int} {p : Int} {p1 : Int} {ts : List Int} {f : Int} (h0 : wY t n 1 o p p1 ts) (h1 : sG t n p1 = 38) (h2 : wN t n 0 o (p1 + 1) f) : wN t n 1 o p f := fun P hP => hP.2.2.2.2.2.2.1 o p p1 ts f h0 h1 (h2 P hP)
theorem wN.o0 {o : Int} {p : Int} {f : Int} (h0 : wN t n 1 o p f) : wN t n 2 o p f := fun P hP => hP.2.2.2.2.2.2.2.1 o p f (h0 P hP)
theorem wN.o1 {o : Int} {p : Int} {p1 : Int} {ts : List Int} {f : Int} (h0 : wY t n 2 o p p1 ts) (h1 : sG t n p1 = 124) (h2 : wN t n 1 o (p1 + 1) f) : wN t n 2 o p f := fun P hP => hP.2.2.2.2.2.2.2.2 o p p1 ts f h0 h1 (h2 P hP)
theorem wY_38 {k : Nat} {o p p1 : Int} {ts : List Int} (h : wY t n k o p p1 ts) (hk : k = 2) : ¬ sG t n p1 = 38 := by
  refine h (fun k _ _ p1 _ => k = 2 → ¬ sG t n p1 = 38) ⟨?_, ?_, ?_, ?_, ?_, ?_, ?_⟩ hk
  · intro _ _ _ _ _ _ _ e
    exact absurd e (by decide)
  · intro _ _ _ _ _ _ _ e
    exact absurd e (by decide)
  · intro _ _ _ _ _ _ _ _ _ e
    exact absurd e (by decide)
  · intro _ _ _ _ _ e
    exact absurd e (by decide)
  · intro _ _ _ _ _ _ _ _ _ e
    exact absurd e (by decide)
  · intro _ _ _ _ _ h _
    exact h
  · intro _ _ _ _ _ _ _ _ _ h _
    exact h
/-- what may lie on top -/
def wTop (k : Nat) (S : List Int) : Prop := k = 0 ∨ (¬ S.head? = some 7 ∧ ¬ S.head? = some 5 ∧ (k = 1 ∨ ¬ S.head? = some 6))
theorem wHd {x y : Int} {S : List Int} (h : ¬ x = y) : ¬ (x :: S).head? = some y := fun e => h (Option.some.inj e)
theorem wHe {y : Int} : ¬ ([] : List Int).head? = some y := fun e => by cases e
theorem wPopN_n {S o : List Int} (h : ¬ S.head? = some 7) : wPopN S o = (S, o) := by
  cases S with
  | nil => rfl
  | cons x S =>
    unfold wPopN
    rw [if_neg (fun e => h (by rw [e]; rfl))]
theorem wPopJ_n {al : Bool} {S o : List Int} (h : ¬ S.head? = some 5) (h2 : al = false ∨ ¬ S.head? = some 6) : wPopJ al S o = (S, o) := by
  cases S with
  | nil => rfl
  | cons x S =>
    unfold wPopJ
    rw [if_neg (fun e => h (by rw [e]; rfl)), if_neg]
    rintro ⟨e1, e2⟩
    rcases h2 with h2 | h2
    · rw [h2] at e1
      cases e1
    · exact h2 (by rw [e2]; rfl)
theorem wRun5 {m : Nat} {p : Int} {S o : List Int} : wRun t n m false p (5 :: S) o = wRun t n m false p S (o ++ [1280]) := by
  cases m with
  | zero => rfl
  | succ m =>
    have e1 : ∀ al, wPopJ al (5 :: S) o = wPopJ al S (o ++ [1280]) := fun al => if_pos rfl
    have e2 : (8 : Int) ∈ (5 :: S) ↔ (8 : Int) ∈ S := by
      rw [List.mem_cons]
      exact ⟨fun h => h.resolve_left (by decide), Or.inr⟩
    unfold wRun
    rw [e1, e1]
    simp only [e2]
theorem wRun6 {m : Nat} {p : Int} {S o : List Int} (h : ¬ sG t n p = 38) : wRun t n m false p (6 :: S) o = wRun t n m false p S (o ++ [1536]) := by
  cases m with
  | zero => rfl
  | succ m =>
    have e1 : wPopJ true (6 :: S) o = wPopJ true S (o ++ [1536]) := (if_neg (by decide)).trans (if_pos ⟨rfl, rfl⟩)
    have e2 : (8 : Int) ∈ (6 :: S) ↔ (8 : Int) ∈ S := by
      rw [List.mem_cons]
      exact ⟨fun h => h.resolve_left (by decide), Or.inr⟩
    unfold wRun
    rw [e1]
    simp only [e2, if_neg h]
/-- a step of the machine -/
theorem wR_o {m : Nat} {p : Int} {S o : List Int} (h : sG t n p = 33 ∨ sG t n p = 40) (h6 : ¬ wOp S = 6) : wRun t n (m + 1) true p S o = wRun t n m true (p + 1) ((if sG t n p = 33 then 7 else 8) :: S) o := (if_pos h).trans (if_neg h6)
theorem wR_f {m : Nat} {p : Int} {S o : List Int} (h : sG t n p = 33 ∨ sG t n p = 40) (h6 : wOp S = 6) : wRun t n (m + 1) true p S o = some (.inl (-5000 - p)) := (if_pos h).trans (if_pos h6)
theorem wR_a {m : Nat} {p p1 c : Int} {S o : List Int} (h : ¬ (sG t n p = 33 ∨ sG t n p = 40)) (ha : wAt t n p = (0, p1, c)) : wRun t n (m + 1) true p S o = wRun t n m false p1 (wPopN S (o ++ [c])).1 (wPopN S (o ++ [c])).2 := by
  show (if _ then _ else if _ then _ else _) = _
  rw [if_neg h, ha, if_pos rfl]
theorem wR_n {m : Nat} {p f : Int} {S o : List Int} (h : ¬ (sG t n p = 33 ∨ sG t n p = 40)) (ha : (wAt t n p).1 = f) (hf : f < 0) : wRun t n (m + 1) true p S o = some (.inl f) := by
  show (if _ then _ else if _ then _ else _) = _
  rw [if_neg h, ha, if_neg (by omega)]
theorem wR_c {m : Nat} {p : Int} {S o : List Int} (h : sG t n p = 41) (h8 : (8 : Int) ∈ S) : wRun t n (m + 1) false p S o = wRun t n m false (p + 1) (wPopN (wPopJ true S o).1.tail (wPopJ true S o).2).1 (wPopN (wPopJ true S o).1.tail (wPopJ true S o).2).2 := if_pos ⟨h, h8⟩
theorem wR_38 {m : Nat} {p : Int} {S o : List Int} (h : sG t n p = 38) : wRun t n (m + 1) false p S o = wRun t n m true (p + 1) (5 :: (wPopJ false S o).1) (wPopJ false S o).2 := by
  show (if _ then _ else if _ then _ else _) = _
  rw [if_neg (by omega), if_pos h]
theorem wR_124 {m : Nat} {p : Int} {S o : List Int} (h : sG t n p = 124) : wRun t n (m + 1) false p S o = wRun t n m true (p + 1) (6 :: (wPopJ true S o).1) (wPopJ true S o).2 := by
  show (if _ then _ else if _ then _ else if _ then _ else _) = _
  rw [if_neg (by omega), if_neg (by omega), if_pos h]
theorem wR_e {m : Nat} {p : Int} {S o : List Int} (h : sG t n p = -1) (h8 : ¬ (8 : Int) ∈ S) : wRun t n (m + 1) false p S o = some (.inr (wPopJ true S o).2) := by
  show (if _ then _ else if _ then _ else if _ then _ else if _ then _ else _) = _
  rw [if_neg (by omega), if_neg (by omega), if_neg (by omega), if_pos ⟨h, h8⟩]
theorem wR_b {m : Nat} {p : Int} {S o : List Int} (h1 : ¬ (sG t n p = 41 ∧ (8 : Int) ∈ S)) (h2 : ¬ sG t n p = 38) (h3 : ¬ sG t n p = 124) (h4 : ¬ (sG t n p = -1 ∧ ¬ (8 : Int) ∈ S)) : wRun t n (m + 1) false p S o = some (.inl (-1000 - p)) := by
  show (if _ then _ else if _ then _ else if _ then _ else if _ then _ else _) = _
  rw [if_neg h1, if_neg h2, if_neg h3, if_neg h4]
theorem wOp7 {S : List Int} : wOp (7 :: S) = wOp S + 1 := rfl
theorem wOp8 {S : List Int} : wOp (8 :: S) = wOp S + 1 := rfl
theorem wOp5 {S : List Int} : wOp (5 :: S) = wOp S := Int.add_zero _
theorem wOp6 {S : List Int} : wOp (6 :: S) = wOp S := Int.add_zero _
theorem wY_run {k : Nat} {o p p1 : Int} {ts : List Int} (h : wY t n k o p p1 ts) : ∀ (S out : List Int) (r : Int ⊕ List Int), wOp S = o → wTop k S → (∃ m, wRun t n m false p1 (wPopN S (out ++ ts)).1 (wPopN S (out ++ ts)).2 = some r) → ∃ m, wRun t n m true p S out = some r := by
  refine h (fun k o p p1 ts => ∀ (S out : List Int) (r : Int ⊕ List Int), wOp S = o → wTop k S → (∃ m, wRun t n m false p1 (wPopN S (out ++ ts)).1 (wPopN S (out ++ ts)).2 = some r) → ∃ m, wRun t n m true p S out = some r) ⟨?_, ?_, ?_, ?_, ?_, ?_, ?_⟩
  · intro _ _ _ _ h1 h2 h3
    rintro S out r - - ⟨m, hm⟩
    exact ⟨m + 1, (wR_a (by omega) h3).trans hm⟩
  · intro _ _ _ _ h1 h2 ih
    rintro S out r hS - ⟨m, hm⟩
    obtain ⟨m2, h⟩ := ih (7 :: S) out r (by rw [wOp7, hS]) (Or.inl rfl) ⟨m, by
      rw [show wPopN (7 :: S) _ = wPopN S (_ ++ [1792]) from if_pos rfl, List.append_assoc]
      exact hm⟩
    exact ⟨m2 + 1, by rw [wR_o (Or.inl h1) (by omega), if_pos h1]; exact h⟩
  · intro _ _ _ _ h1 h2 ih h3 h4
    rintro S out r hS - ⟨m, hm⟩
    obtain ⟨m2, h⟩ := ih (8 :: S) out r (by rw [wOp8, hS]) (Or.inr ⟨wHd (by decide), wHd (by decide), Or.inr (wHd (by decide))⟩) ⟨m + 1, by
      rw [wPopN_n (S := 8 :: S) (wHd (by decide)), wR_c h4 List.mem_cons_self, wPopJ_n (S := 8 :: S) (wHd (by decide)) (Or.inr (wHd (by decide)))]
      exact hm⟩
    exact ⟨m2 + 1, by rw [wR_o (Or.inr h1) (by omega), if_neg (by omega)]; exact h⟩
  · intro _ _ _ _ ih
    intro S out r hS hT hm
    exact ih S out r hS (Or.inl rfl) hm
  · intro _ _ _ _ _ _ ih1 h1 ih2
    rintro S out r hS hT ⟨m, hm⟩
    obtain ⟨t7, t5, -⟩ := hT.resolve_left (by decide)
    refine ih1 S out r hS hT ?_
    rw [wPopN_n t7]
    obtain ⟨m2, h⟩ := ih2 (5 :: S) (out ++ _) r (by rw [wOp5, hS]) (Or.inl rfl) ⟨m, by
      rw [wPopN_n (S := 5 :: S) (wHd (by decide))]
      rw [wPopN_n t7, ← List.append_assoc, ← List.append_assoc] at hm
      exact wRun5.trans hm⟩
    exact ⟨m2 + 1, by rw [wR_38 h1, wPopJ_n t5 (Or.inl rfl)]; exact h⟩
  · intro _ _ _ _ ih _
    intro S out r hS hT hm
    obtain ⟨t7, t5, -⟩ := hT.resolve_left (by decide)
    exact ih S out r hS (Or.inr ⟨t7, t5, Or.inl rfl⟩) hm
  · intro _ _ _ _ _ _ ih1 h1 ih2 h2
    rintro S out r hS hT ⟨m, hm⟩
    obtain ⟨t7, t5, t6⟩ := hT.resolve_left (by decide)
    refine ih1 S out r hS hT ?_
    rw [wPopN_n t7]
    obtain ⟨m2, h⟩ := ih2 (6 :: S) (out ++ _) r (by rw [wOp6, hS]) (Or.inr ⟨wHd (by decide), wHd (by decide), Or.inl rfl⟩) ⟨m, by
      rw [wPopN_n (S := 6 :: S) (wHd (by decide))]
      rw [wPopN_n t7, ← List.append_assoc, ← List.append_assoc] at hm
      exact (wRun6 h2).trans hm⟩
    exact ⟨m2 + 1, by rw [wR_124 h1, wPopJ_n t5 (Or.inr (t6.resolve_left (by decide)))]; exact h⟩
theorem wN_run {k : Nat} {o p f : Int} (h : wN t n k o p f) : ∀ (S out : List Int), wOp S = o → o ≤ 6 → wTop k S → ∃ m, wRun t n m true p S out = some (.inl f) := by
  refine h (fun k o p f => ∀ (S out : List Int), wOp S = o → o ≤ 6 → wTop k S → ∃ m, wRun t n m true p S out = some (.inl f)) ⟨?_, ?_, ?_, ?_, ?_, ?_, ?_, ?_, ?_⟩
  · intro _ _ _ h1 h2 h3 h4
    intro S out _ _ _
    exact ⟨1, wR_n (by omega) h3 h4⟩
  · intro _ _ h1 h2
    intro S out hS h6 _
    exact ⟨1, wR_f h1 (by omega)⟩
  · intro _ _ _ h1 h2 ih
    intro S out hS h6 _
    obtain ⟨m2, h⟩ := ih (7 :: S) out (by rw [wOp7, hS]) (by omega) (Or.inl rfl)
    exact ⟨m2 + 1, by rw [wR_o (Or.inl h1) (by omega), if_pos h1]; exact h⟩
  · intro _ _ _ h1 h2 ih
    intro S out hS h6 _
    obtain ⟨m2, h⟩ := ih (8 :: S) out (by rw [wOp8, hS]) (by omega) (Or.inr ⟨wHd (by decide), wHd (by decide), Or.inr (wHd (by decide))⟩)
    exact ⟨m2 + 1, by rw [wR_o (Or.inr h1) (by omega), if_neg (by omega)]; exact h⟩
  · intro _ _ _ _ h1 h2 h3 h4 h5
    intro S out hS h6 _
    obtain ⟨m2, h⟩ := wY_run h3 (8 :: S) out _ (by rw [wOp8, hS]) (Or.inr ⟨wHd (by decide), wHd (by decide), Or.inr (wHd (by decide))⟩) ⟨1, by
      rw [wPopN_n (S := 8 :: S) (wHd (by decide))]
      exact wR_b (fun e => h5 e.1) (wY_38 h3 rfl) h4 (fun e => e.2 List.mem_cons_self)⟩
    exact ⟨m2 + 1, by rw [wR_o (Or.inr h1) (by omega), if_neg (by omega)]; exact h⟩
  · intro _ _ _ ih
    intro S out hS h6 _
    exact ih S out hS h6 (Or.inl rfl)
  · intro _ _ _ _ _ h1 h2 ih
    intro S out hS h6 hT
    obtain ⟨t7, t5, -⟩ := hT.resolve_left (by decide)
    obtain ⟨m2, h⟩ := ih (5 :: S) (out ++ _) (by rw [wOp5, hS]) h6 (Or.inl rfl)
    refine wY_run h1 S out _ hS hT ⟨m2 + 1, ?_⟩
    rw [wPopN_n t7, wR_38 h2, wPopJ_n t5 (Or.inl rfl)]
    exact h
  · intro _ _ _ ih
    intro S out hS h6 hT
    obtain ⟨t7, t5, -⟩ := hT.resolve_left (by decide)
    exact ih S out hS h6 (Or.inr ⟨t7, t5, Or.inl rfl⟩)
  · intro _ _ _ _ _ h1 h2 ih
    intro S out hS h6 hT
    obtain ⟨t7, t5, t6⟩ := hT.resolve_left (by decide)
    obtain ⟨m2, h⟩ := ih (6 :: S) (out ++ _) (by rw [wOp6, hS]) h6 (Or.inr ⟨wHd (by decide), wHd (by decide), Or.inl rfl⟩)
    refine wY_run h1 S out _ hS hT ⟨m2 + 1, ?_⟩
    rw [wPopN_n t7, wR_124 h2, wPopJ_n t5 (Or.inr (t6.resolve_left (by decide)))]
    exact h
/-- the whole text: what the machine answers -/
theorem wAll_0 {p1 : Int} {ts : List Int} (h : wY t n 2 0 0 p1 ts) (hp : n ≤ p1) : ∃ m, wRun t n m true 0 [] [] = some (.inr ts) := by
  refine wY_run h [] [] _ rfl (Or.inr ⟨wHe, wHe, Or.inr wHe⟩) ⟨1, ?_⟩
  exact wR_e (by unfold sG; exact if_neg (by omega)) (by intro h; cases h)
theorem wAll_1 {p1 : Int} {ts : List Int} (h : wY t n 2 0 0 p1 ts) (hp : ¬ sG t n p1 = -1) (h2 : ¬ sG t n p1 = 124) : ∃ m, wRun t n m true 0 [] [] = some (.inl (-1000 - p1)) := by
  refine wY_run h [] [] _ rfl (Or.inr ⟨wHe, wHe, Or.inr wHe⟩) ⟨1, ?_⟩
  exact wR_b (fun e => by cases e.2) (wY_38 h rfl) h2 (fun e => hp e.1)
theorem wAll_f {f : Int} (h : wN t n 2 0 0 f) : ∃ m, wRun t n m true 0 [] [] = some (.inl f) := wN_run h [] [] rfl (by decide) (Or.inr ⟨wHe, wHe, Or.inr wHe⟩)
end
