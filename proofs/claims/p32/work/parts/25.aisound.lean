/-! the abstract machine is sound: an instruction -/
section
def aVok (n : Nat) (ρ : Nat → Int) : aV → Value → Prop
  | .inl (false, f), .int x => aFok n ρ f x.toInt
  | .inl (true, f), .long x => aFok n ρ f x.toInt
  | .inr p, .ref q => p = q
  | _, _ => False
def aSok (n : Nat) (ρ : Nat → Int) : List aV → List Value → Prop
  | [], [] => True
  | a :: r, v :: cr => aVok n ρ a v ∧ aSok n ρ r cr
  | _, _ => False
def aLok (n : Nat) (ρ : Nat → Int) (pl : aL) (cl : pmL) : Prop := pl.length = cl.length ∧ ∀ (i : Nat) (a : aV), pl[i]? = some (some a) → ∃ v, cl[i]? = some (some v) ∧ aVok n ρ a v
def aZi (σ : pmS) : Nat → Nat → Int := fun p k => (σ.2.1 p k).toInt
def aZl (σ : pmS) : Nat → Nat → Int := fun p k => (σ.2.2 p k).toInt
def aZok (Z : Nat × aT2 pmZ) (l : List pmZ) : Prop := l.length = Z.1 ∧ ∀ p : Nat, l[p]? = aG2 Z.2 p
def aMok (n : Nat) (ρ : Nat → Int) (σ0 : pmS) (M : aM) (σ : pmS) : Prop := aZok M.1 σ.1 ∧ aHok n ρ M.2.1 (aZi σ) ∧ aHok n ρ M.2.2.1 (aZl σ) ∧ ∀ p, M.2.2.2.testBit p = false → σ.2.1 p = σ0.2.1 p ∧ σ.2.2 p = σ0.2.2 p
theorem aZok.set {Z : Nat × aT2 pmZ} {l : List pmZ} (h : aZok Z l) {p : Nat} {s s0 : pmZ} {K : aT2 pmZ → Bool} (hp : l[p]? = some s0) (hK : aS2 Z.2 p s K = true) : ∃ T, aZok (Z.1, T) (l.set p s) ∧ K T = true := by
  have hb : p < l.length := (List.getElem?_eq_some_iff.mp hp).1
  obtain ⟨T, h1, h2⟩ := aS2_ok hK
  refine ⟨T, ⟨by rw [List.length_set]; exact h.1, fun q => ?_⟩, h2⟩
  rw [h1]
  by_cases e : q = p
  · rw [if_pos e, e, List.getElem?_set_self hb]
  · rw [if_neg e, List.getElem?_set_ne (Ne.symm e), h.2 q]
theorem aZok.push {Z : Nat × aT2 pmZ} {l : List pmZ} (h : aZok Z l) {s : pmZ} {K : aT2 pmZ → Bool} (hK : aP2 Z.1 Z.2 s K = true) : ∃ T, aZok (Z.1 + 1, T) (l ++ [s]) ∧ K T = true := by
  obtain ⟨T, h1, h2, h3, h4⟩ := aP2_ok hK
  refine ⟨T, ⟨by simp [h.1], fun q => ?_⟩, h4⟩
  rcases Nat.lt_trichotomy q Z.1 with e | e | e
  · rw [List.getElem?_append_left (by rw [h.1]; exact e), h1 q e, h.2 q]
  · rw [e, h2, List.getElem?_append_right (by rw [h.1]; exact Nat.le_refl _), h.1, Nat.sub_self]
    rfl
  · rw [List.getElem?_eq_none (by simp [h.1]; omega)]
    rcases h3 q e with e2 | e2
    · exact e2.symm
    · rw [e2, ← h.2, List.getElem?_eq_none (by rw [h.1]; omega)]
def aNx (ro : Nat → Nat × (Nat → Int32)) (L : aLa) (σ0 : pmS) (o m rt pc : Nat) (i : Instr) (cl : pmL) (cs : List Value) (σ : pmS) (n : Nat) (ρ : Nat → Int) (k : aKk) : Prop :=
  ∃ pc' cl' cs' σ' X' M' pl' st' ρ', pmStep ro (fun _ _ _ => none) o m rt pc i cl cs σ = some (.inr (pc', cl', cs', σ')) ∧ n ≤ X'.1.length ∧ aExt n ρ ρ' ∧ aXok L ρ' X' ∧ aMok X'.1.length ρ' σ0 M' σ' ∧ aLok X'.1.length ρ' pl' cl' ∧ aSok X'.1.length ρ' st' cs' ∧ k X' M' pc' pl' st' = true
variable {L : aLa} {ro : Nat → Nat × (Nat → Int32)} {σ0 σ σ' : pmS} {o m rt pc pc' : Nat} {i : Instr} {cl cl' : pmL} {cs cr : List Value} {n n' : Nat} {ρ ρ' : Nat → Int} {k : aKk} {X X' : aX} {M M' : aM} {pl pl' : aL} {st r : List aV} {f g : aF} {p q : Nat} {a b : aV} {v w : Value}
theorem aVok.ext (h : aVok n ρ a v) (hn : n ≤ n') (he : aExt n ρ ρ') : aVok n' ρ' a v := by
  unfold aVok at h ⊢
  split at h
  · exact h.ext hn he
  · exact h.ext hn he
  · exact h
  · cases h
theorem aSok.ext : ∀ {st : List aV} {cs : List Value}, aSok n ρ st cs → n ≤ n' → aExt n ρ ρ' → aSok n' ρ' st cs
  | [], [], _, _, _ => trivial
  | _ :: _, _ :: _, h, hn, he => ⟨h.1.ext hn he, aSok.ext h.2 hn he⟩
theorem aLok.ext (h : aLok n ρ pl cl) (hn : n ≤ n') (he : aExt n ρ ρ') : aLok n' ρ' pl cl := ⟨h.1, fun i a hi => by
  obtain ⟨v, h1, h2⟩ := h.2 i a hi
  exact ⟨v, h1, h2.ext hn he⟩⟩
theorem aMok.ext (h : aMok n ρ σ0 M σ) (hn : n ≤ n') (he : aExt n ρ ρ') : aMok n' ρ' σ0 M σ := ⟨h.1, h.2.1.ext hn he, h.2.2.1.ext hn he, h.2.2.2⟩
theorem aXok.ext (h : aXok L ρ X) {E : aE} (hn : X.1.length ≤ E.length) (he : aExt X.1.length ρ ρ') (hE : aEok L ρ' E) : aXok L ρ' (E, X.2) := ⟨hE, h.2.ext hn he⟩
theorem aSok_cons (h : aSok n ρ (a :: r) cs) : ∃ v cr, cs = v :: cr ∧ aVok n ρ a v ∧ aSok n ρ r cr := by
  cases cs with
  | nil => exact h.elim
  | cons v cr => exact ⟨v, cr, rfl, h.1, h.2⟩
theorem aVok_int (h : aVok n ρ (.inl (false, f)) v) : ∃ x, v = .int x ∧ aFok n ρ f x.toInt := by
  cases v with
  | int x => exact ⟨x, rfl, h⟩
  | _ => exact h.elim
theorem aVok_long (h : aVok n ρ (.inl (true, f)) v) : ∃ x, v = .long x ∧ aFok n ρ f x.toInt := by
  cases v with
  | long x => exact ⟨x, rfl, h⟩
  | _ => exact h.elim
theorem aVok_ref (h : aVok n ρ (.inr p) v) : v = .ref p := by
  cases v with
  | ref q => exact congrArg _ (Eq.symm h)
  | _ => exact h.elim
theorem aVok_cat (h : aVok n ρ a v) : v.category = aCat a := by
  unfold aVok at h
  split at h
  · rfl
  · rfl
  · rfl
  · cases h
theorem aSok_cats : ∀ {st : List aV} {cs : List Value}, aSok n ρ st cs → pmCats cs = aCats st
  | [], [], _ => rfl
  | a :: r, v :: cr, h => by
    have e := aSok_cats h.2
    have c := aVok_cat h.1
    unfold pmCats aCats at e ⊢
    simp only [List.map_cons, List.sum_cons, e, c]
/-- a next place with the same surroundings -/
theorem aNx.go (hs : pmStep ro (fun _ _ _ => none) o m rt pc i cl cs σ = some (.inr (pc', cl', cr, σ'))) (hX : aXok L ρ X) (hM : aMok X.1.length ρ σ0 M' σ') (hl : aLok X.1.length ρ pl' cl') (hr : aSok X.1.length ρ r cr) (hn : n = X.1.length) (hk : k X M' pc' pl' r = true) : aNx ro L σ0 o m rt pc i cl cs σ n ρ k :=
  ⟨pc', cl', cr, σ', X, M', pl', r, ρ, hs, by omega, aExt.rf, hX, hM, hl, hr, hk⟩
theorem aNx.gx {Kx : aX → Bool} (hs : pmStep ro (fun _ _ _ => none) o m rt pc i cl cs σ = some (.inr (pc', cl', cr, σ'))) (h : aGx L X ρ Kx) (hK : ∀ Y, Kx Y = true → k Y M' pc' pl' r = true) (hM : aMok X.1.length ρ σ0 M' σ') (hl : aLok X.1.length ρ pl' cl') (hr : aSok X.1.length ρ r cr) : aNx ro L σ0 o m rt pc i cl cs σ X.1.length ρ k := by
  obtain ⟨Y, h1, h2, h3⟩ := h
  exact ⟨pc', cl', cr, σ', Y, M', pl', r, ρ, hs, by omega, aExt.rf, h2, by rw [h1]; exact hM, by rw [h1]; exact hl, by rw [h1]; exact hr, hK Y h3⟩
/-- an int, a long upon the stack -/
theorem aNx.gi {w : Int32} {z : Int} (hs : pmStep ro (fun _ _ _ => none) o m rt pc i cl cs σ = some (.inr (pc', cl, .int w :: cr, σ))) (hX : aXok L ρ X) (hM : aMok X.1.length ρ σ0 M σ) (hl : aLok X.1.length ρ pl cl) (hr : aSok X.1.length ρ r cr) (hz : z = w.toInt) (h : aGv L X.1 ρ z fun E h => k (E, X.2) M pc' pl (.inl (false, h) :: r)) : aNx ro L σ0 o m rt pc i cl cs σ X.1.length ρ k := by
  obtain ⟨E', ρ', g, h1, h2, h3, h4, h5⟩ := h
  subst hz
  exact ⟨pc', cl, _, σ, (E', X.2), M, pl, .inl (false, g) :: r, ρ', hs, h1, h2, hX.ext h1 h2 h3, hM.ext h1 h2, hl.ext h1 h2, ⟨h4, hr.ext h1 h2⟩, h5⟩
theorem aNx.gl {w : Int64} {z : Int} (hs : pmStep ro (fun _ _ _ => none) o m rt pc i cl cs σ = some (.inr (pc', cl, .long w :: cr, σ))) (hX : aXok L ρ X) (hM : aMok X.1.length ρ σ0 M σ) (hl : aLok X.1.length ρ pl cl) (hr : aSok X.1.length ρ r cr) (hz : z = w.toInt) (h : aGv L X.1 ρ z fun E h => k (E, X.2) M pc' pl (.inl (true, h) :: r)) : aNx ro L σ0 o m rt pc i cl cs σ X.1.length ρ k := by
  obtain ⟨E', ρ', g, h1, h2, h3, h4, h5⟩ := h
  subst hz
  exact ⟨pc', cl, _, σ, (E', X.2), M, pl, .inl (true, g) :: r, ρ', hs, h1, h2, hX.ext h1 h2 h3, hM.ext h1 h2, hl.ext h1 h2, ⟨h4, hr.ext h1 h2⟩, h5⟩
/-- read from the heap: ints, longs -/
theorem aNx.ri {w : Int32} (hs : pmStep ro (fun _ _ _ => none) o m rt pc i cl cs σ = some (.inr (pc', cl, .int w :: cr, σ))) (hX : aXok L ρ X) (hM : aMok X.1.length ρ σ0 M σ) (hl : aLok X.1.length ρ pl cl) (hr : aSok X.1.length ρ r cr) (h : aGh L X.1 ρ (aZi σ) w.toInt fun E H g => k (E, X.2) (M.1, H, M.2.2) pc' pl (.inl (false, g) :: r)) : aNx ro L σ0 o m rt pc i cl cs σ X.1.length ρ k := by
  obtain ⟨E', ρ', H', g, h1, h2, h3, h4, h5, h6⟩ := h
  exact ⟨pc', cl, _, σ, (E', X.2), (M.1, H', M.2.2), pl, .inl (false, g) :: r, ρ', hs, h1, h2, hX.ext h1 h2 h3, ⟨hM.1, h4, hM.2.2.1.ext h1 h2, hM.2.2.2⟩, hl.ext h1 h2, ⟨h5, hr.ext h1 h2⟩, h6⟩
theorem aNx.rl {w : Int64} (hs : pmStep ro (fun _ _ _ => none) o m rt pc i cl cs σ = some (.inr (pc', cl, .long w :: cr, σ))) (hX : aXok L ρ X) (hM : aMok X.1.length ρ σ0 M σ) (hl : aLok X.1.length ρ pl cl) (hr : aSok X.1.length ρ r cr) (h : aGh L X.1 ρ (aZl σ) w.toInt fun E H g => k (E, X.2) (M.1, M.2.1, H, M.2.2.2) pc' pl (.inl (true, g) :: r)) : aNx ro L σ0 o m rt pc i cl cs σ X.1.length ρ k := by
  obtain ⟨E', ρ', H', g, h1, h2, h3, h4, h5, h6⟩ := h
  exact ⟨pc', cl, _, σ, (E', X.2), (M.1, M.2.1, H', M.2.2.2), pl, .inl (true, g) :: r, ρ', hs, h1, h2, hX.ext h1 h2 h3, ⟨hM.1, hM.2.1.ext h1 h2, h4, hM.2.2.2⟩, hl.ext h1 h2, ⟨h5, hr.ext h1 h2⟩, h6⟩
theorem aWt_mem {W : Nat} (h : (aWt W p).testBit q = false) : q ≠ p ∧ W.testBit q = false := by
  unfold aWt at h
  rw [Nat.testBit_or, Bool.or_eq_false_iff] at h
  refine ⟨fun e => ?_, h.1⟩
  have h2 := h.2
  rw [e, Nat.one_shiftLeft, Nat.testBit_two_pow_self] at h2
  cases h2
/-- written into the heap -/
theorem aMok.wi {H : aH} {j : Nat → Nat → Int32} (hM : aMok n ρ σ0 M σ) (hH : aHok n ρ H (aZi (σ.1, j, σ.2.2))) (ho : ∀ q, q ≠ p → j q = σ.2.1 q) : aMok n ρ σ0 (M.1, H, M.2.2.1, aWt M.2.2.2 p) (σ.1, j, σ.2.2) :=
  ⟨hM.1, hH, hM.2.2.1, fun q hq => by
    obtain ⟨h1, h2⟩ := aWt_mem hq
    obtain ⟨h3, h4⟩ := hM.2.2.2 q h2
    exact ⟨(ho q h1).trans h3, h4⟩⟩
theorem aMok.wl {H : aH} {j : Nat → Nat → Int64} (hM : aMok n ρ σ0 M σ) (hH : aHok n ρ H (aZl (σ.1, σ.2.1, j))) (ho : ∀ q, q ≠ p → j q = σ.2.2 q) : aMok n ρ σ0 (M.1, M.2.1, H, aWt M.2.2.2 p) (σ.1, σ.2.1, j) :=
  ⟨hM.1, hM.2.1, hH, fun q hq => by
    obtain ⟨h1, h2⟩ := aWt_mem hq
    obtain ⟨h3, h4⟩ := hM.2.2.2 q h2
    exact ⟨h3, (ho q h1).trans h4⟩⟩
theorem aZi_up (x : Int32) (kk : Nat) : aZi (σ.1, pmUp σ.2.1 p kk x, σ.2.2) = aUp (aZi σ) p kk x.toInt := by
  funext q j
  show (if q = p ∧ j = kk then x else σ.2.1 q j).toInt = if q = p ∧ j = kk then x.toInt else (σ.2.1 q j).toInt
  split <;> rfl
theorem aZl_up (x : Int64) (kk : Nat) : aZl (σ.1, σ.2.1, pmUp σ.2.2 p kk x) = aUp (aZl σ) p kk x.toInt := by
  funext q j
  show (if q = p ∧ j = kk then x else σ.2.2 q j).toInt = if q = p ∧ j = kk then x.toInt else (σ.2.2 q j).toInt
  split <;> rfl
theorem aMok.pi {kk : Nat} {x : Int32} {Kh : aH → Bool} (hM : aMok n ρ σ0 M σ) (h : aGs n ρ (aUp (aZi σ) p kk x.toInt) Kh) : ∃ H, aMok n ρ σ0 (M.1, H, M.2.2.1, aWt M.2.2.2 p) (σ.1, pmUp σ.2.1 p kk x, σ.2.2) ∧ Kh H = true := by
  obtain ⟨H, h1, h2⟩ := h
  exact ⟨H, hM.wi (by rw [aZi_up]; exact h1) (fun q hq => pmUp_ne _ _ _ hq), h2⟩
theorem aMok.pn {kk : Nat} {x : Int64} {Kh : aH → Bool} (hM : aMok n ρ σ0 M σ) (h : aGs n ρ (aUp (aZl σ) p kk x.toInt) Kh) : ∃ H, aMok n ρ σ0 (M.1, M.2.1, H, aWt M.2.2.2 p) (σ.1, σ.2.1, pmUp σ.2.2 p kk x) ∧ Kh H = true := by
  obtain ⟨H, h1, h2⟩ := h
  exact ⟨H, hM.wl (by rw [aZl_up]; exact h1) (fun q hq => pmUp_ne _ _ _ hq), h2⟩
/-- locals -/
theorem aLok.set (h : aLok n ρ pl cl) (i : Nat) (hv : aVok n ρ a v) : aLok n ρ (pl.set i (some a)) (cl.set i (some v)) := by
  refine ⟨by simp [h.1], fun j b hj => ?_⟩
  by_cases e : i = j
  · subst e
    by_cases hl : i < pl.length
    · rw [List.getElem?_set_self hl] at hj
      cases hj
      exact ⟨v, by rw [List.getElem?_set_self (by rw [← h.1]; exact hl)], hv⟩
    · rw [List.getElem?_eq_none (by simp; omega)] at hj
      cases hj
  · rw [List.getElem?_set_ne e] at hj ⊢
    exact h.2 j b hj
theorem aLok.cut0 (h : aLok n ρ pl cl) (i : Nat) : aLok n ρ (pl.set i none) (cl.set i none) := by
  refine ⟨by simp [h.1], fun j b hj => ?_⟩
  by_cases e : i = j
  · subst e
    by_cases hl : i < pl.length
    · rw [List.getElem?_set_self hl] at hj
      cases hj
    · rw [List.getElem?_eq_none (by simp; omega)] at hj
      cases hj
  · rw [List.getElem?_set_ne e] at hj ⊢
    exact h.2 j b hj
/-- a slot that is unknown on the abstract side may be anything -/
theorem aLok.cutR (h : aLok n ρ pl cl) (i : Nat) (hu : ∀ a, pl[i]? ≠ some (some a)) : aLok n ρ pl (cl.set i none) := by
  refine ⟨by simp [h.1], fun j b hj => ?_⟩
  by_cases e : i = j
  · subst e
    exact absurd hj (hu b)
  · rw [List.getElem?_set_ne e]
    exact h.2 j b hj
theorem aCut_ok (h : aLok n ρ pl cl) (i : Nat) : aLok n ρ (aCutA m pl i) (pmCut m cl i) := by
  cases i with
  | zero => exact h
  | succ j =>
    show aLok n ρ (bif pmLg m j then (match fGet pl j with | some (some (.inl (true, _))) => pl.set j none | _ => pl) else pl) (bif pmLg m j then (match cl[j]? with | some (some v) => if v.category = 2 then cl.set j none else cl | _ => cl) else cl)
    cases pmLg m j with
    | false => exact h
    | true =>
      simp only [cond_true, fGet_eq]
      split
      · rename_i f hj
        obtain ⟨v, h1, h2⟩ := h.2 j _ hj
        obtain ⟨x, rfl, -⟩ := aVok_long h2
        rw [h1]
        simp only [Value.category, if_true]
        exact h.cut0 j
      · rename_i hne
        split
        · rename_i v hv
          split
          · rename_i hc
            refine h.cutR j fun a ha => ?_
            obtain ⟨v', h1, h2⟩ := h.2 j a ha
            rw [hv] at h1
            cases h1
            have e := aVok_cat h2
            rw [hc] at e
            match a, e, ha with
            | .inl (true, g), _, ha => exact hne g ha
            | .inl (false, g), e, _ => cases e
            | .inr q, e, _ => cases e
          · exact h
        · exact h
theorem aCutA_len (m : Nat) (pl : aL) (i : Nat) : (aCutA m pl i).length = pl.length := by
  cases i with
  | zero => rfl
  | succ j =>
    show (bif pmLg m j then (match fGet pl j with | some (some (.inl (true, _))) => pl.set j none | _ => pl) else pl).length = pl.length
    cases pmLg m j with
    | false => rfl
    | true =>
      simp only [cond_true]
      split
      · exact List.length_set
      · rfl
theorem aSt1_ok {K : aL → Bool} (h : aLok n ρ pl cl) (i : Nat) (hv : aVok n ρ a v) (hK : aSt1 m pl i a K = true) : i < cl.length ∧ ∃ pl', aLok n ρ pl' (pmS1 m cl i v) ∧ K pl' = true := by
  unfold aSt1 at hK
  obtain ⟨h1, h2⟩ := fSet_ok _ hK
  exact ⟨by rw [← h.1, ← aCutA_len m pl i]; exact h1, _, (aCut_ok h i).set i hv, h2⟩
theorem aSt2_ok {K : aL → Bool} (h : aLok n ρ pl cl) (i : Nat) (hv : aVok n ρ a v) (hK : aSt2 m pl i a K = true) : i + 1 < cl.length ∧ ∃ pl', aLok n ρ pl' (pmS2 m cl i v) ∧ K pl' = true := by
  unfold aSt2 at hK
  obtain ⟨h1, h2⟩ := fSet_ok _ hK
  obtain ⟨h3, h4⟩ := fSet_ok _ h2
  rw [List.length_set, aCutA_len] at h3
  exact ⟨by rw [← h.1]; exact h3, _, ((aCut_ok h i).set i hv).cut0 (i + 1), h4⟩
theorem aLd1_ok {K : aV → Bool} (h : aLok n ρ pl cl) {j : Nat} (hK : aLd1 pl j K = true) : ∃ a v, cl[j]? = some (some v) ∧ aVok n ρ a v ∧ K a = true := by
  unfold aLd1 at hK
  rw [fGet_eq] at hK
  split at hK
  · rename_i a ha
    obtain ⟨v, h1, h2⟩ := h.2 _ _ ha
    exact ⟨a, v, h1, h2, hK⟩
  · cases hK
theorem aAt_ok {x : Int32} {s : Nat} (hX : aXok L ρ X) (hf : aFok X.1.length ρ f x.toInt) (h : aAt X f s = true) : pmIn x s ∧ 0 ≤ x.toInt := by
  unfold aAt at h
  simp only [zLe_eq, zAdd_eq] at h
  split at h
  · rename_i i hi
    rw [Bool.and_eq_true] at h
    have h1 := of_decide_eq_true h.1
    have h2 : _ ≤ (Int.ofNat s) := of_decide_eq_true h.2
    simp only [Int.ofNat_eq_natCast] at h2
    have a := aItv_ok hX.1 hf hi
    refine ⟨fun hc => ?_, by omega⟩
    rcases hc with hc | hc
    · rw [aLt32] at hc
      have : (0 : Int32).toInt = 0 := rfl
      omega
    · have e : x.toNatClampNeg = x.toInt.toNat := rfl
      omega
  · cases h
theorem aJp_ok {off : Int} {K : Nat → Bool} (h : aJp pc off K = true) : ∃ t : Nat, (pc : Int) + off = (t : Int) ∧ K t = true := by
  unfold aJp at h
  rw [zAdd_eq] at h
  split at h
  · rename_i t ht
    exact ⟨t, ht, h⟩
  · cases h
theorem pmJp_eq {off : Int} {t : Nat} (h : (pc : Int) + off = (t : Int)) : pmJp pc off cl cr σ = some (.inr (t, cl, cr, σ)) := by
  unfold pmJp
  rw [h]
  rfl
theorem pmBr_eq {off : Int} {t : Nat} {C : Prop} [Decidable C] (h : (pc : Int) + off = (t : Int)) : pmBr pc off C cl cr σ = if C then some (.inr (t, cl, cr, σ)) else some (.inr (pc + 3, cl, cr, σ)) := by
  unfold pmBr
  rw [h]
  rfl
theorem aNx.br {c : Nat} {off : Int} {C : Prop} [Decidable C] {x y : Int} (hs : pmStep ro (fun _ _ _ => none) o m rt pc i cl cs σ = pmBr pc off C cl cr σ) (hc : C ↔ aCd c x y) (hX : aXok L ρ X) (hM : aMok X.1.length ρ σ0 M σ) (hl : aLok X.1.length ρ pl cl) (hr : aSok X.1.length ρ r cr) (hf : aFok X.1.length ρ f x) (hg : aFok X.1.length ρ g y) (hK : aBrs c pc off X M f g pl r k = true) : aNx ro L σ0 o m rt pc i cl cs σ X.1.length ρ k := by
  unfold aBrs at hK
  obtain ⟨t, ht, hK⟩ := aJp_ok hK
  obtain ⟨h1, h2⟩ := aIf_ok hX hf hg hK
  rw [pmBr_eq ht] at hs
  by_cases h : C
  · rw [if_pos h] at hs
    exact aNx.gx hs (h1 (hc.mp h)) (fun _ hy => hy) hM hl hr
  · rw [if_neg h] at hs
    exact aNx.gx hs (h2 (fun q => h (hc.mpr q))) (fun _ hy => hy) hM hl hr
theorem aSw_ok {x d : Int} {Ks : aX → Nat → Bool} : ∀ (l : List (Int × Int)) (X : aX), aXok L ρ X → aFok X.1.length ρ f x → aSw X f pc Ks d l = true → ∃ t : Nat, (pc : Int) + Op.lookupswitch.offset l d x = (t : Int) ∧ aGx L X ρ fun Y => Ks Y t
  | [], X, hX, hf, h => by
    obtain ⟨t, h1, h2⟩ := aJp_ok h
    exact ⟨t, h1, aGx.same hX h2⟩
  | q :: l, X, hX, hf, h => by
    unfold aSw at h
    rw [Bool.and_eq_true] at h
    by_cases e : x = q.1
    · obtain ⟨Y, h1, h2, h3⟩ := aEq_ok hX hf (aFok.c0 hX.1) e h.1
      obtain ⟨t, h4, h5⟩ := aJp_ok h3
      refine ⟨t, ?_, Y, h1, h2, h5⟩
      rw [← h4]
      obtain ⟨q1, q2⟩ := q
      rw [Op.lookupswitch.offset_cons, if_pos e.symm]
    · obtain ⟨Y, h1, h2, h3⟩ := aNe_ok hX hf (aFok.c0 hX.1) e h.2
      obtain ⟨t, h4, h5⟩ := aSw_ok l Y h2 (by rw [h1]; exact hf) h3
      refine ⟨t, ?_, h5.tr h1⟩
      rw [← h4]
      obtain ⟨q1, q2⟩ := q
      rw [Op.lookupswitch.offset_cons, if_neg (fun h => e h.symm)]
theorem aTab_off (lo d x : Int) : ∀ (l : List Int) (s : Nat), Op.lookupswitch.offset (l.mapIdx fun j z => (lo + ((j + s : Nat) : Int), z)) d x = if x < lo + (s : Int) ∨ lo + (s : Int) + (l.length : Int) ≤ x then d else (l[(x - lo - (s : Int)).toNat]?).getD d
  | [], s => by
    show d = _
    rw [if_pos (by simp; omega)]
  | q :: l, s => by
    have ih := aTab_off lo d x l (s + 1)
    rw [List.mapIdx_cons]
    have e : (l.mapIdx fun j z => (lo + ((j + 1 + s : Nat) : Int), z)) = l.mapIdx fun j z => (lo + ((j + (s + 1) : Nat) : Int), z) := by
      congr 1; funext j z; rw [show j + 1 + s = j + (s + 1) by omega]
    rw [e, Op.lookupswitch.offset_cons, ih]
    simp only [List.length_cons, Nat.zero_add]
    by_cases h : lo + (s : Int) = x
    · rw [if_pos h, if_neg (by omega), show (x - lo - (s : Int)).toNat = 0 by omega]
      rfl
    · rw [if_neg h]
      by_cases h2 : x < lo + (s : Int) ∨ lo + (s : Int) + ((l.length + 1 : Nat) : Int) ≤ x
      · rw [if_pos (by omega), if_pos h2]
      · rw [if_neg (by omega), if_neg h2, show (x - lo - (s : Int)).toNat = (x - lo - ((s + 1 : Nat) : Int)).toNat + 1 by omega]
        rfl
theorem aFresh_i {s : pmZ} {H : aH} {K : aH → Bool} (hH : aHok n ρ H (aZi σ)) (hK : aP2 σ.1.length H ((0, 0), []) K = true) : ∃ H', aHok n ρ H' (aZi (pmFresh σ s)) ∧ K H' = true := by
  obtain ⟨T, h1, h2, h3, h4⟩ := aP2_ok hK
  have he : ∀ q, q ≠ σ.1.length → aZi (pmFresh σ s) q = aZi σ q := fun q hq => by
    funext j
    show (pmRow σ.2.1 σ.1.length (fun _ => 0) q j).toInt = (σ.2.1 q j).toInt
    rw [pmRow_ne _ _ hq]
  refine ⟨T, fun q c hq => ?_, h4⟩
  rcases Nat.lt_trichotomy q σ.1.length with e | e | e
  · rw [he q (by omega)]
    rw [h1 q e] at hq
    exact hH q c hq
  · subst e
    rw [h2] at hq
    cases hq
    intro j
    show (0 : Int) ≤ (pmRow σ.2.1 σ.1.length (fun _ => 0) σ.1.length j).toInt ∧ (pmRow σ.2.1 σ.1.length (fun _ => 0) σ.1.length j).toInt ≤ 0
    rw [pmRow_eq]
    exact ⟨Int.le_refl _, Int.le_refl _⟩
  · rw [he q (by omega)]
    rcases h3 q e with e2 | e2
    · rw [e2] at hq; cases hq
    · rw [e2] at hq
      exact hH q c hq
theorem aFresh_l {s : pmZ} {H : aH} {K : aH → Bool} (hH : aHok n ρ H (aZl σ)) (hK : aP2 σ.1.length H ((0, 0), []) K = true) : ∃ H', aHok n ρ H' (aZl (pmFresh σ s)) ∧ K H' = true := by
  obtain ⟨T, h1, h2, h3, h4⟩ := aP2_ok hK
  have he : ∀ q, q ≠ σ.1.length → aZl (pmFresh σ s) q = aZl σ q := fun q hq => by
    funext j
    show (pmRow σ.2.2 σ.1.length (fun _ => 0) q j).toInt = (σ.2.2 q j).toInt
    rw [pmRow_ne _ _ hq]
  refine ⟨T, fun q c hq => ?_, h4⟩
  rcases Nat.lt_trichotomy q σ.1.length with e | e | e
  · rw [he q (by omega)]
    rw [h1 q e] at hq
    exact hH q c hq
  · subst e
    rw [h2] at hq
    cases hq
    intro j
    show (0 : Int) ≤ (pmRow σ.2.2 σ.1.length (fun _ => 0) σ.1.length j).toInt ∧ (pmRow σ.2.2 σ.1.length (fun _ => 0) σ.1.length j).toInt ≤ 0
    rw [pmRow_eq]
    exact ⟨Int.le_refl _, Int.le_refl _⟩
  · rw [he q (by omega)]
    rcases h3 q e with e2 | e2
    · rw [e2] at hq; cases hq
    · rw [e2] at hq
      exact hH q c hq
theorem aNewZ_ok {s : pmZ} {K : Nat → aM → Bool} (hM : aMok n ρ σ0 M σ) (hK : aNewZ X M s K = true) : σ.1.length < 900 ∧ ∃ M', aMok n ρ σ0 M' (pmFresh σ s) ∧ K σ.1.length M' = true := by
  unfold aNewZ at hK
  cases hb : decide (M.1.1 < 900) with
  | false => rw [hb] at hK; cases hK
  | true =>
    rw [hb] at hK
    have h1 := of_decide_eq_true hb
    simp only [cond_true] at hK
    obtain ⟨m1, m2, m3, m4⟩ := hM
    obtain ⟨T, t1, hK⟩ := m1.push hK
    rw [← m1.1] at hK h1
    obtain ⟨HI, t2, hK⟩ := aFresh_i (s := s) m2 hK
    obtain ⟨HL, t3, hK⟩ := aFresh_l (s := s) m3 hK
    rw [aFn_eq] at hK
    refine ⟨h1, _, ⟨?_, t2, t3, fun q hq => ?_⟩, hK⟩
    · rw [← m1.1] at t1
      exact t1
    · obtain ⟨hq1, hq2⟩ := aWt_mem hq
      obtain ⟨w1, w2⟩ := m4 q hq2
      constructor
      · show pmRow σ.2.1 σ.1.length _ q = _
        rw [pmRow_ne _ _ hq1]; exact w1
      · show pmRow σ.2.2 σ.1.length _ q = _
        rw [pmRow_ne _ _ hq1]; exact w2
theorem aCst_ok {x z : Int} (hX : aXok L ρ X) (hf : aFok X.1.length ρ f x) (h : aCst X.1 f = some z) : x = z := by
  unfold aCst at h
  simp only [zEq_eq, zIf] at h
  split at h
  · rename_i i hi
    split at h
    · cases h
      have := aItv_ok hX.1 hf hi
      omega
    · cases h
  · cases h
end
