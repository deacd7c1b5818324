/-! when one picture covers another: variables of the covering one (B) stand for forms of the covered one (A); those below nC are the same in both -/
section
abbrev bSu : Type := List (Nat × aF)
noncomputable def bSb (nC : Nat) (S : bSu) (f : aF) : Option aF := bif Nat.blt f.1 nC then some f else match fLk S f.1 with
  | some g => some (g.1, zAdd g.2 f.2)
  | none => none
/-- what B's variables are worth -/
noncomputable def bRo (nC : Nat) (S : bSu) (ρ : Nat → Int) (w : Nat) : Int := bif Nat.blt w nC then ρ w else match fLk S w with
  | some g => ρ g.1 + g.2
  | none => 0
noncomputable def bKn (E : aE) (f g : aF) : Bool := match aItv E f, aItv E g with
  | some i, some j => zEq i.1 i.2 && (zEq j.1 j.2 && zEq i.1 j.1)
  | _, _ => false
noncomputable def bMf (E : aE) (nC nB : Nat) (S : bSu) (f g : aF) : Bool := Nat.blt f.1 nB && (match bSb nC S f with
  | some h => Nat.blt h.1 (fLen E) && (eqF h g || bKn E h g)
  | none => false)
noncomputable def bMem (ps : List Nat) (q : Nat) : Bool := List.rec false (fun p _ ih => Bool.rec ih true (Nat.beq p q)) ps
noncomputable def bMv (E : aE) (nC nB : Nat) (S : bSu) (a b : bV) : Bool := match a, b with
  | .inl (t, f), .inl (u, g) => fBoo t u && bMf E nC nB S f g
  | .inr ps, .inr qs => bAll qs (bMem ps)
  | _, _ => false
noncomputable def bMl (E : aE) (nC nB : Nat) (S : bSu) : bL → bL → Bool
  | [], [] => true
  | none :: l, _ :: m => bMl E nC nB S l m
  | some a :: l, some b :: m => bMv E nC nB S a b && bMl E nC nB S l m
  | _, _ => false
noncomputable def bMs (E : aE) (nC nB : Nat) (S : bSu) : List bV → List bV → Bool
  | [], [] => true
  | a :: l, b :: m => bMv E nC nB S a b && bMs E nC nB S l m
  | _, _ => false
noncomputable def bMe (E : aE) (nC : Nat) (S : bSu) : Nat → aE → Bool
  | _, [] => true
  | w, i :: t => (match bSb nC S (w, 0) with
    | some h => (match aItv E h with
      | some j => zLe i.1 j.1 && zLe j.2 i.2
      | none => false)
    | none => false) && bMe E nC S (Nat.succ w) t
noncomputable def bMc (X : aX) (nC nB : Nat) (S : bSu) : aC → Bool
  | [] => true
  | q :: t => (Nat.blt q.1 nB && (Nat.blt q.2.1 nB && (match bSb nC S (q.1, 0), bSb nC S (q.2.1, 0) with
    | some h, some g => Nat.blt h.1 (fLen X.1) && (Nat.blt g.1 (fLen X.1) && (match aUb X h g with
      | some u => zLe u q.2.2
      | none => false))
    | _, _ => false))) && bMc X nC nB S t
noncomputable def bMn (E : aE) (nC nB : Nat) (S : bSu) (eB eA : bN) : Bool := match eB, eA with
  | .inl f, .inl g => bMf E nC nB S f g
  | .inr l, .inl g => (match aItv E g with
    | some j => bCov j l
    | none => false)
  | .inr l, .inr m => bCv m l
  | _, _ => false
noncomputable def bMh (E : aE) (nC nB : Nat) (S : bSu) (HB HA : bH) : Bool :=
  (HA.all fun q => q.2.all fun r => bMn E nC nB S (bEn HB q.1 r.1) r.2) && HB.all fun q => q.2.all fun r => bMn E nC nB S r.2 (bEn HA q.1 r.1)
variable {L : aLa} {ρ : Nat → Int} {E : aE} {X : aX} {nC nB : Nat} {S : bSu} {f g : aF} {x z : Int}
theorem bBlt {a b : Nat} (h : Nat.blt a b = true) : a < b := Nat.lt_of_lt_of_le (Nat.lt_succ_self a) (Nat.le_of_ble_eq_true h)
theorem bSb_ok {h : aF} (hs : bSb nC S f = some h) : ρ h.1 + h.2 = bRo nC S ρ f.1 + f.2 := by
  unfold bSb at hs
  unfold bRo
  cases hb : Nat.blt f.1 nC with
  | true =>
    rw [hb] at hs
    cases hs
    rfl
  | false =>
    rw [hb] at hs
    simp only [cond_false] at hs ⊢
    split at hs
    · rename_i g hg
      cases hs
      rw [zAdd_eq]
      show ρ g.1 + (g.2 + f.2) = ρ g.1 + g.2 + f.2
      omega
    · cases hs
theorem bMf_ok (hE : aEok L ρ E) (h : bMf E nC nB S f g = true) (hg : aFok E.length ρ g z) : aFok nB (bRo nC S ρ) f z := by
  unfold bMf at h
  rw [Bool.and_eq_true] at h
  refine ⟨bBlt h.1, ?_⟩
  have h := h.2
  split at h
  · rename_i w hw
    rw [Bool.and_eq_true, Bool.or_eq_true, fLen_eq] at h
    have e := bSb_ok (ρ := ρ) hw
    have hwl := bBlt h.1
    rcases h.2 with h1 | h1
    · have := eqF_ok _ _ h1
      subst this
      rw [hg.2]
      exact e
    · unfold bKn at h1
      split at h1
      · rename_i i j hi hj
        simp only [zEq_eq, Bool.and_eq_true, decide_eq_true_eq] at h1
        have a := aItv_ok (z := ρ w.1 + w.2) hE ⟨hwl, rfl⟩ hi
        have b := aItv_ok hE hg hj
        omega
      · cases h1
  · cases h
theorem bMem_ok {q : Nat} : ∀ {ps : List Nat}, bMem ps q = true → q ∈ ps := fun {ps} => by
  induction ps with
  | nil => intro h; cases h
  | cons a t ih =>
    intro h
    have h : (Bool.rec (bMem t q) true (Nat.beq a q) : Bool) = true := h
    cases hb : Nat.beq a q with
    | true =>
      rw [Nat.eq_of_beq_eq_true hb]
      exact List.mem_cons_self
    | false =>
      rw [hb] at h
      exact List.mem_cons_of_mem _ (ih h)
theorem bMv_ok {a b : bV} {v : Value} (hE : aEok L ρ E) (h : bMv E nC nB S a b = true) (hb : bVok E.length ρ b v) : bVok nB (bRo nC S ρ) a v := by
  unfold bMv at h
  split at h
  · rename_i t f u g
    rw [Bool.and_eq_true] at h
    have := fBoo_ok _ _ h.1
    subst this
    cases t with
    | false =>
      obtain ⟨x, rfl, hx⟩ := bVok_int hb
      exact bMf_ok hE h.2 hx
    | true =>
      obtain ⟨x, rfl, hx⟩ := bVok_long hb
      exact bMf_ok hE h.2 hx
  · rename_i ps qs
    obtain ⟨q, rfl, hq⟩ := bVok_ref hb
    exact bMem_ok (bAll_ok h q hq)
  · cases h
theorem bMs_ok (hE : aEok L ρ E) : ∀ {l m : List bV} {cs : List Value}, bMs E nC nB S l m = true → bSok E.length ρ m cs → bSok nB (bRo nC S ρ) l cs
  | [], [], [], _, _ => trivial
  | a :: l, b :: m, v :: cs, h, hs => by
    unfold bMs at h
    rw [Bool.and_eq_true] at h
    exact ⟨bMv_ok hE h.1 hs.1, bMs_ok hE h.2 hs.2⟩
  | [], _ :: _, _, h, _ => by cases h
  | _ :: _, [], _, h, _ => by cases h
theorem bMl_ok (hE : aEok L ρ E) : ∀ {l m : bL}, bMl E nC nB S l m = true → l.length = m.length ∧ ∀ (i : Nat) (a : bV), l[i]? = some (some a) → ∃ b, m[i]? = some (some b) ∧ bMv E nC nB S a b = true
  | [], [], _ => ⟨rfl, fun i a h => by cases h⟩
  | none :: l, b :: m, h => by
    obtain ⟨h1, h2⟩ := bMl_ok hE (l := l) (m := m) (by unfold bMl at h; exact h)
    refine ⟨by simp [h1], fun i a hi => ?_⟩
    cases i with
    | zero => cases hi
    | succ i => exact h2 i a hi
  | some a :: l, some b :: m, h => by
    unfold bMl at h
    rw [Bool.and_eq_true] at h
    obtain ⟨h1, h2⟩ := bMl_ok hE h.2
    refine ⟨by simp [h1], fun i c hi => ?_⟩
    cases i with
    | zero => cases hi; exact ⟨b, rfl, h.1⟩
    | succ i => exact h2 i c hi
  | some _ :: _, none :: _, h => by cases h
  | [], _ :: _, h => by cases h
  | none :: _, [], h => by cases h
  | some _ :: _, [], h => by cases h
theorem bMl_lok {l m : bL} {cl : pmL} (hE : aEok L ρ E) (h : bMl E nC nB S l m = true) (hl : bLok E.length ρ m cl) : bLok nB (bRo nC S ρ) l cl := by
  obtain ⟨h1, h2⟩ := bMl_ok hE h
  refine ⟨h1.trans hl.1, fun i a hi => ?_⟩
  obtain ⟨b, hb, hv⟩ := h2 i a hi
  obtain ⟨v, g1, g2⟩ := hl.2 i b hb
  exact ⟨v, g1, bMv_ok hE hv g2⟩
theorem bMe_ok (hE : aEok L ρ E) : ∀ (t : aE) (w : Nat), bMe E nC S w t = true → (∀ h : aF, ∀ v, bSb nC S (v, 0) = some h → aItv E h ≠ none → h.1 < E.length) → ∀ (j : Nat) (i : aI), t[j]? = some i → i.1 ≤ bRo nC S ρ (w + j) ∧ bRo nC S ρ (w + j) ≤ i.2
  | [], w, _, _, j, i, hj => by cases hj
  | i0 :: t, w, h, hb, j, i, hj => by
    unfold bMe at h
    rw [Bool.and_eq_true] at h
    cases j with
    | zero =>
      cases hj
      have h1 := h.1
      split at h1
      · rename_i u hu
        split at h1
        · rename_i q hq
          rw [zLe_eq, zLe_eq, Bool.and_eq_true, decide_eq_true_eq, decide_eq_true_eq] at h1
          have hlt := hb u w hu (by rw [hq]; exact fun e => by cases e)
          have a := aItv_ok (z := ρ u.1 + u.2) hE ⟨hlt, rfl⟩ hq
          have e := bSb_ok (ρ := ρ) hu
          have e : ρ u.1 + u.2 = bRo nC S ρ w + 0 := e
          show i0.1 ≤ bRo nC S ρ (w + 0) ∧ bRo nC S ρ (w + 0) ≤ i0.2
          rw [Nat.add_zero]
          omega
        · cases h1
      · cases h1
    | succ j =>
      have := bMe_ok hE t (w + 1) h.2 hb j i hj
      rw [show w + (j + 1) = w + 1 + j by omega]
      exact this
theorem aItv_lt (h : aItv E f ≠ none) : f.1 < E.length := by
  unfold aItv at h
  rw [fGet_eq] at h
  rcases Nat.lt_or_ge f.1 E.length with h1 | h1
  · exact h1
  · rw [List.getElem?_eq_none h1] at h
    exact absurd rfl h
theorem bMe_all (hE : aEok L ρ E) {t : aE} (h : bMe E nC S 0 t = true) (j : Nat) (i : aI) (hj : t[j]? = some i) : i.1 ≤ bRo nC S ρ j ∧ bRo nC S ρ j ≤ i.2 := by
  have := bMe_ok hE t 0 h (fun h v _ hn => aItv_lt hn) j i hj
  rw [Nat.zero_add] at this
  exact this
theorem bRo_lt {w : Nat} (h : w < nC) : bRo nC S ρ w = ρ w := by
  unfold bRo
  have : Nat.blt w nC = true := Nat.ble_eq_true_of_le h
  rw [this]
  rfl
theorem bMe_env (hE : aEok L ρ E) (hC : 2 ≤ nC) {t : aE} (ht : 1 < t.length) (h : bMe E nC S 0 t = true) : aEok L (bRo nC S ρ) t :=
  ⟨⟨by rw [bRo_lt (by omega)]; exact hE.1.1, by rw [bRo_lt (by omega)]; exact hE.1.2.1, ht⟩, fun v i hi => bMe_all hE h v i hi⟩
theorem bMc_ok (hX : aXok L ρ X) : ∀ {C : aC}, bMc X nC nB S C = true → aDok nB (bRo nC S ρ) C
  | [], _ => fun q hq => absurd hq List.not_mem_nil
  | q :: t, h => by
    unfold bMc at h
    rw [Bool.and_eq_true, Bool.and_eq_true, Bool.and_eq_true] at h
    obtain ⟨⟨h1, h2, h3⟩, h4⟩ := h
    intro r hr
    rcases List.mem_cons.mp hr with rfl | hr
    · refine ⟨bBlt h1, bBlt h2, ?_⟩
      split at h3
      · rename_i u w hu hw
        rw [Bool.and_eq_true, Bool.and_eq_true, fLen_eq] at h3
        obtain ⟨k1, k2, k3⟩ := h3
        split at k3
        · rename_i b hb
          rw [zLe_eq, decide_eq_true_eq] at k3
          have a := aUb_ok (x := ρ u.1 + u.2) (y := ρ w.1 + w.2) hX ⟨bBlt k1, rfl⟩ ⟨bBlt k2, rfl⟩ hb
          have e1 : ρ u.1 + u.2 = bRo nC S ρ r.1 + 0 := bSb_ok (ρ := ρ) hu
          have e2 : ρ w.1 + w.2 = bRo nC S ρ r.2.1 + 0 := bSb_ok (ρ := ρ) hw
          omega
        · cases k3
      · cases h3
    · exact bMc_ok hX h4 r hr
theorem bMn_ok {eB eA : bN} (hE : aEok L ρ E) (h : bMn E nC nB S eB eA = true) (hz : bEk E.length ρ eA z) : bEk nB (bRo nC S ρ) eB z := by
  unfold bMn at h
  split at h
  · exact bMf_ok hE h hz
  · rename_i l g
    split at h
    · rename_i j hj
      have a := aItv_ok hE hz hj
      exact bCov_ok h a.1 a.2
    · cases h
  · exact bCv_ok h hz
  · cases h
theorem fLk_mem {β : Type} {k : Nat} {v : β} : ∀ {l : List (Nat × β)}, fLk l k = some v → (k, v) ∈ l := fun {l} h => by
  rw [fLk_eq] at h
  induction l with
  | nil => cases h
  | cons a t ih =>
    rw [pmLk_cons] at h
    split at h
    · rename_i e
      cases h
      rw [← e]
      exact List.mem_cons_self
    · exact List.mem_cons_of_mem _ (ih h)
theorem bMh_ok {HB HA : bH} {φ : Nat → Nat → Int} (hE : aEok L ρ E) (h : bMh E nC nB S HB HA = true) (hH : bHok E.length ρ HA φ) : bHok nB (bRo nC S ρ) HB φ := by
  unfold bMh at h
  rw [Bool.and_eq_true] at h
  obtain ⟨h1, h2⟩ := h
  have hA : ∀ p k o e, fLk HA p = some o → fLk o k = some e → bMn E nC nB S (bEn HB p k) e = true := fun p k o e ho he =>
    List.all_eq_true.mp (List.all_eq_true.mp h1 _ (fLk_mem ho)) _ (fLk_mem he)
  have hB : ∀ p k o e, fLk HB p = some o → fLk o k = some e → bMn E nC nB S e (bEn HA p k) = true := fun p k o e ho he =>
    List.all_eq_true.mp (List.all_eq_true.mp h2 _ (fLk_mem ho)) _ (fLk_mem he)
  intro p k
  have hz := hH p k
  cases hp : fLk HB p with
  | some o =>
    cases hk : fLk o k with
    | some e =>
      have hn := bMn_ok hE (hB p k o e hp hk) hz
      unfold bEn
      rw [hp]
      simp only [hk]
      exact hn
    | none =>
      have hg : bEn HB p k = .inr (bGe p k) := by
        unfold bEn
        rw [hp]
        simp only [hk]
      cases hp2 : fLk HA p with
      | some o2 =>
        cases hk2 : fLk o2 k with
        | some e2 =>
          have he : bEn HA p k = e2 := by
            unfold bEn
            rw [hp2]
            simp only [hk2]
          rw [he] at hz
          exact bMn_ok hE (hA p k o2 e2 hp2 hk2) hz
        | none =>
          have he : bEn HA p k = .inr (bGe p k) := by
            unfold bEn
            rw [hp2]
            simp only [hk2]
          rw [he] at hz
          rw [hg]
          exact hz
      | none =>
        have he : bEn HA p k = .inr (bGe p k) := by
          unfold bEn
          rw [hp2]
        rw [he] at hz
        rw [hg]
        exact hz
  | none =>
    have hg : bEn HB p k = .inr (bGe p k) := by
      unfold bEn
      rw [hp]
    cases hp2 : fLk HA p with
    | some o2 =>
      cases hk2 : fLk o2 k with
      | some e2 =>
        have he : bEn HA p k = e2 := by
          unfold bEn
          rw [hp2]
          simp only [hk2]
        rw [he] at hz
        exact bMn_ok hE (hA p k o2 e2 hp2 hk2) hz
      | none =>
        have he : bEn HA p k = .inr (bGe p k) := by
          unfold bEn
          rw [hp2]
          simp only [hk2]
        rw [he] at hz
        rw [hg]
        exact hz
    | none =>
      have he : bEn HA p k = .inr (bGe p k) := by
        unfold bEn
        rw [hp2]
      rw [he] at hz
      rw [hg]
      exact hz
end
