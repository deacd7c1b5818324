/-! THE ABSTRACT MACHINE, SECOND MAKE: a table of what always holds of each cell (bGT); the state keeps what differs from it -/
section
/-- what an entry says: a form, or one of some intervals -/
abbrev bN : Type := aF ⊕ List aI
abbrev bO : Type := List (Nat × bN)
abbrev bH : Type := List (Nat × bO)
/-- what was read of a row at a place that is a form -/
abbrev bS : Type := List (Nat × aF × aF)
/-- heap, reads, regions written (bits) -/
abbrev bM : Type := bH × bS × Nat
/-- an int (false) or a long (true); or one of some places -/
abbrev bV : Type := (Bool × aF) ⊕ List Nat
abbrev bL : Type := List (Option bV)
noncomputable def bGe (p k : Nat) : List aI := match fG2 bGT p with
  | some g => (match fLk g.2.2 (bif Nat.beq g.2.1 0 then k else Nat.mod k g.2.1) with
    | some e => e
    | none => g.1)
  | none => [(.negSucc 9223372036854775807, .ofNat 9223372036854775807)]
/-- one for all places of a row -/
noncomputable def bGu (p : Nat) : Option (List aI) := match fG2 bGT p with
  | some (d, _, []) => some d
  | _ => none
theorem bGu_ok {p : Nat} {d : List aI} (h : bGu p = some d) (k : Nat) : bGe p k = d := by
  unfold bGu at h
  unfold bGe
  split at h
  · rename_i d0 m hg
    cases h
    rw [hg]
    rfl
  · cases h
/-- the region of a cell: a row is one, unless it is told apart; a field is one -/
noncomputable def bRg (p k : Nat) : Nat := match fG2 bRT p with
  | some b => bif b.2 then Nat.add b.1 k else b.1
  | none => 0
/-- the regions of a to a + n -/
noncomputable def bRm (p a n : Nat) : Nat := match fG2 bRT p with
  | some b => bif b.2 then (2 ^ (n + 1) - 1) <<< (b.1 + a) else 1 <<< b.1
  | none => 1
theorem bRm_ok (p a n k : Nat) (h1 : a ≤ k) (h2 : k ≤ a + n) : (bRm p a n).testBit (bRg p k) = true := by
  unfold bRm bRg
  cases fG2 bRT p with
  | none =>
    show Nat.testBit 1 0 = true
    decide
  | some b =>
    obtain ⟨b1, b2⟩ := b
    cases b2 with
    | true =>
      show ((2 ^ (n + 1) - 1) <<< (b1 + a)).testBit (b1 + k) = true
      rw [Nat.testBit_shiftLeft]
      simp only [Nat.testBit_two_pow_sub_one, Bool.and_eq_true, decide_eq_true_eq]
      omega
    | false =>
      show (1 <<< b1).testBit b1 = true
      rw [Nat.one_shiftLeft]
      exact Nat.testBit_two_pow_self
/-- a row that is one region -/
noncomputable def bSing (p : Nat) : Bool := match fG2 bRT p with
  | some b => !b.2
  | none => false
noncomputable def bEn (H : bH) (p k : Nat) : bN := match fLk H p with
  | some o => (match fLk o k with
    | some e => e
    | none => .inr (bGe p k))
  | none => .inr (bGe p k)
noncomputable def bSetO (p k : Nat) (e : bN) (H : bH) (K : bH → Bool) : Bool := match fLk H p with
  | some o => fDel k o fun o => fDel p H fun H => K ((p, (k, e) :: o) :: H)
  | none => K ((p, [(k, e)]) :: H)
theorem bSetO_ok {p k : Nat} {e : bN} {H : bH} {K : bH → Bool} (h : bSetO p k e H K = true) : ∃ H', (∀ q j, bEn H' q j = if q = p ∧ j = k then e else bEn H q j) ∧ K H' = true := by
  unfold bSetO at h
  rw [fLk_eq] at h
  cases hp : pmLk H p with
  | some o =>
    rw [hp] at h
    simp only [fDel_eq] at h
    refine ⟨_, fun q j => ?_, h⟩
    unfold bEn
    simp only [fLk_eq]
    rw [pmLk_cons, pmLk_del]
    by_cases hq : q = p
    · subst hq
      rw [if_pos rfl]
      simp only [true_and]
      rw [pmLk_cons, pmLk_del, hp]
      by_cases hj : j = k
      · subst hj
        rw [if_pos rfl, if_pos rfl]
      · rw [if_neg (Ne.symm hj), if_neg hj, if_neg hj]
    · rw [if_neg (Ne.symm hq), if_neg hq, if_neg (fun e => hq e.1)]
  | none =>
    rw [hp] at h
    refine ⟨_, fun q j => ?_, h⟩
    unfold bEn
    simp only [fLk_eq]
    rw [pmLk_cons]
    by_cases hq : q = p
    · subst hq
      rw [if_pos rfl]
      simp only [true_and]
      rw [pmLk_cons, hp]
      by_cases hj : j = k
      · subst hj
        rw [if_pos rfl, if_pos rfl]
      · rw [if_neg (Ne.symm hj), if_neg hj]
        rfl
    · rw [if_neg (Ne.symm hq), if_neg (fun e => hq e.1)]
noncomputable def bCov (j : aI) (l : List aI) : Bool := List.rec false (fun i _ ih => Bool.rec ih true (zLe i.1 j.1 && zLe j.2 i.2)) l
/-- z is in one of them -/
def bIn (l : List aI) (z : Int) : Prop := ∃ i ∈ l, i.1 ≤ z ∧ z ≤ i.2
theorem bCov_ok {j : aI} : ∀ {l : List aI} {z : Int}, bCov j l = true → j.1 ≤ z → z ≤ j.2 → bIn l z := fun {l} => by
  induction l with
  | nil => intro z h; cases h
  | cons i t ih =>
    intro z h h1 h2
    have h : (Bool.rec (bCov j t) true (zLe i.1 j.1 && zLe j.2 i.2) : Bool) = true := h
    cases hb : (zLe i.1 j.1 && zLe j.2 i.2) with
    | true =>
      rw [zLe_eq, zLe_eq, Bool.and_eq_true, decide_eq_true_eq, decide_eq_true_eq] at hb
      exact ⟨i, List.mem_cons_self, by omega, by omega⟩
    | false =>
      rw [hb] at h
      obtain ⟨q, hq, g⟩ := ih h h1 h2
      exact ⟨q, List.mem_cons_of_mem _ hq, g⟩
/-- every interval in turn -/
noncomputable def bFk (E : aE) (K : aE → aF → Bool) (l : List aI) : Bool := List.rec true (fun i _ ih => aNew E i K && ih) l
/-- the hull -/
noncomputable def bLh (l : List aI) : Option aI := List.rec none (fun i _ ih => match ih with
  | some j => some (aMin i.1 j.1, aMax i.2 j.2)
  | none => some i) l
noncomputable def bEi (E : aE) (e : bN) : Option aI := match e with
  | .inl g => aItv E g
  | .inr l => bLh l
noncomputable def bHu (E : aE) (H : bH) (p a : Nat) : Nat → Option aI
  | 0 => bEi E (bEn H p a)
  | n + 1 => match bHu E H p a n, bEi E (bEn H p (a + n + 1)) with
    | some i, some j => some (aMin i.1 j.1, aMax i.2 j.2)
    | _, _ => none
noncomputable def bGetK (E : aE) (H : bH) (p k : Nat) (K : aE → bH → aF → Bool) : Bool := match bEn H p k with
  | .inl g => K E H g
  | .inr l => (match l with
    | [i] => bif zEq i.1 i.2 then aFz i.1 fun z => K E H (0, z) else aNew E i fun E' g => bSetO p k (.inl g) H fun H' => K E' H' g
    | _ => bFk E (fun E' g => bSetO p k (.inl g) H fun H' => K E' H' g) l)
noncomputable def bSf (p : Nat) (f : aF) : bS → Option aF
  | [] => none
  | q :: t => bif Nat.beq q.1 p && (Nat.beq q.2.1.1 f.1 && zEq q.2.1.2 f.2) then some q.2.2 else bSf p f t
/-- a row's place: a number, or a form -/
noncomputable def bGetA (E : aE) (H : bH) (S : bS) (p : Nat) (f : aF) (K : aE → bH → bS → aF → Bool) : Bool := match aItv E f with
  | some i => bif zEq i.1 i.2 && zLe 0 i.1 then aFn i.1.toNat fun k => bGetK E H p k fun E H g => K E H S g
    else bif zLe 0 i.1 then (match bSf p f S with
      | some g => K E H S g
      | none => (match bGu p, fLk H p with
        | some d, none => bFk E (fun E g => K E H ((p, f, g) :: S) g) d
        | _, _ => aFn (i.2 - i.1).toNat fun n => bif Nat.ble n 200 then (match bHu E H p i.1.toNat n with
          | some j => aNew E j fun E g => K E H ((p, f, g) :: S) g
          | none => false) else false)) else false
  | none => false
noncomputable def bW1 (E : aE) (p k : Nat) (j : aI) (H : bH) (K : bH → Bool) : Bool := match bEn H p k with
  | .inl g => (match aItv E g with
    | some i => aFz (aMin i.1 j.1) fun a => aFz (aMax i.2 j.2) fun b => bSetO p k (.inr [(a, b)]) H K
    | none => false)
  | .inr l => bif bCov j l then K H else bSetO p k (.inr (j :: l)) H K
noncomputable def bWp (E : aE) (p a : Nat) (j : aI) : Nat → bH → (bH → Bool) → Bool
  | 0, H, K => bW1 E p a j H K
  | n + 1, H, K => bWp E p a j n H fun H => bW1 E p (a + n + 1) j H K
noncomputable def bPutA (E : aE) (H : bH) (S : bS) (p : Nat) (f g : aF) (K : bH → bS → Nat → Bool) : Bool := match aItv E f, aItv E g with
  | some i, some j => bif zEq i.1 i.2 && zLe 0 i.1 then aFn i.1.toNat fun k => bSetO p k (.inl g) H fun H => fDel p S fun S => K H S (bRm p k 0)
    else bif zLe 0 i.1 then fDel p S fun S => aFn i.1.toNat fun a => aFn (i.2 - i.1).toNat fun n => (match bGu p, fLk H p with
      | some d, none => bif bCov j d then K H ((p, f, g) :: S) (bRm p a n) else false
      | _, _ => bif Nat.ble n 200 then bWp E p a j n H fun H => K H ((p, f, g) :: S) (bRm p a n) else false) else false
  | _, _ => false
/-- under guard: as long as no region from 3000 on is there -/
noncomputable def bFg (W : Nat) : Bool := Nat.beq (Nat.shiftRight W 3000) 0
/-- what is written is not under guard -/
noncomputable def bPr (W m : Nat) : Bool := bif bFg W then Nat.beq (Nat.land bPM m) 0 else true
noncomputable def bNm (X : aX) (M : bM) (k : aX → bM → Bool) : Bool := match X, M with
  | (E, C, S), (H, R, W) => aFw E fun E => aFw C fun C => aFw S fun S => aFw H fun H => aFw R fun R => aFn W fun W => k (E, C, S) (H, R, W)
theorem bNm_eq (X : aX) (M : bM) (k : aX → bM → Bool) : bNm X M k = k X M := by
  obtain ⟨E, C, S⟩ := X
  obtain ⟨H, R, W⟩ := M
  simp only [bNm, aFw_eq, aFn_eq]
end
