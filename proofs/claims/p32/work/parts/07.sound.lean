/-! THE PURE MACHINE IS SOUND: what a run of it comes to, the machine comes to -/
section
def pv (E : Nat → Nat) : Value → Value
  | .ref k => .ref (E k)
  | v => v
theorem pv_cat (E : Nat → Nat) (v : Value) : (pv E v).category = v.category := by cases v <;> rfl
theorem pv_rf (E : Nat → Nat) (r : Option Nat) : pv E (va_rf r) = va_rf (r.map E) := by cases r <;> rfl
theorem pv_cats (E : Nat → Nat) (st : List Value) : ((st.map (pv E)).map fun v => v.category).sum = pmCats st := by
  unfold pmCats
  rw [List.map_map]
  congr 1
  apply List.map_congr_left
  intro v _
  exact pv_cat E v
def pmCell (E : Nat → Nat) (cA : Nat → ClassId) (σ : pmS) (p : Nat) (s : pmZ) : va_E :=
  if s.1 < 50 then .inr (s.1, (List.range ((pmNf[s.1]?).getD 0)).map fun k => pv E ((pmRd σ s.2.2 s.1 k p).getD .null))
  else if s.1 = 51 then .inl (cA 51, s.2.1, .inr (.inl (σ.2.2 p)))
  else if s.1 = 54 then .inl (cA 54, s.2.1, .inr (.inr (.inr (.inr (fun j => (pmRf s.2.2 j).map E)))))
  else .inl (cA s.1, s.2.1, .inl (σ.2.1 p))
def pmW (E : Nat → Nat) (cA : Nat → ClassId) (σ : pmS) : va_W := σ.1.mapIdx fun p s => (E p, pmCell E cA σ p s)
def pmTot (S : List pmZ) : Nat := (S.map fun s => s.2.1).sum
theorem pmW_len (E : Nat → Nat) (cA : Nat → ClassId) (σ : pmS) : (pmW E cA σ).length = σ.1.length := by simp [pmW]
theorem pmW_at (E : Nat → Nat) (cA : Nat → ClassId) (σ : pmS) (p : Nat) : (pmW E cA σ)[p]? = (σ.1[p]?).map fun s => (E p, pmCell E cA σ p s) := by
  simp [pmW, List.getElem?_mapIdx]
theorem pmW_get {E : Nat → Nat} {cA : Nat → ClassId} {σ : pmS} {p : Nat} {s : pmZ} (h : σ.1[p]? = some s) : (pmW E cA σ)[p]? = some (E p, pmCell E cA σ p s) := by
  rw [pmW_at, h]; rfl
theorem pmCell_congr {E : Nat → Nat} {cA : Nat → ClassId} {σ σ' : pmS} {q : Nat} (h2 : σ'.2.1 q = σ.2.1 q) (h3 : σ'.2.2 q = σ.2.2 q) (s : pmZ) : pmCell E cA σ' q s = pmCell E cA σ q s := by
  unfold pmCell pmRd
  rw [h2, h3]
theorem pmW_set {E : Nat → Nat} {cA : Nat → ClassId} {σ σ' : pmS} {p : Nat} {s s' : pmZ} (h1 : σ'.1 = σ.1.set p s') (hs : σ.1[p]? = some s) (ho : ∀ q, q ≠ p → ∀ z, pmCell E cA σ' q z = pmCell E cA σ q z) : pmW E cA σ' = (pmW E cA σ).set p (E p, pmCell E cA σ' p s') := by
  have hp := (List.getElem?_eq_some_iff.mp hs).1
  have hl : p < (pmW E cA σ).length := by rw [pmW_len]; exact hp
  apply List.ext_getElem?
  intro q
  by_cases hq : q = p
  · subst hq
    rw [List.getElem?_set_self hl, pmW_at, h1, List.getElem?_set_self hp]; rfl
  · rw [List.getElem?_set_ne (Ne.symm hq), pmW_at, pmW_at, h1, List.getElem?_set_ne (Ne.symm hq)]
    cases σ.1[q]? with
    | none => rfl
    | some z => simp only [Option.map_some, ho q hq]
theorem pmSet_self {α : Type} {l : List α} {p : Nat} {s : α} (h : l[p]? = some s) : l = l.set p s := by
  apply List.ext_getElem?
  intro q
  by_cases hq : q = p
  · subst hq
    rw [List.getElem?_set_self (List.getElem?_eq_some_iff.mp h).1, h]
  · rw [List.getElem?_set_ne (Ne.symm hq)]
theorem pmUp_ne {β : Type} (f : Nat → Nat → β) {p q : Nat} (k : Nat) (v : β) (h : q ≠ p) : pmUp f p k v q = f q := by funext j; simp [pmUp, h]
theorem pmUp_eq {β : Type} (f : Nat → Nat → β) (p k : Nat) (v : β) : pmUp f p k v p = fun j => if j = k then v else f p j := by funext j; simp [pmUp]
theorem pmRow_ne {β : Type} (f : Nat → Nat → β) {p q : Nat} (r : Nat → β) (h : q ≠ p) : pmRow f p r q = f q := by funext j; simp [pmRow, h]
theorem pmRow_eq {β : Type} (f : Nat → Nat → β) (p : Nat) (r : Nat → β) : pmRow f p r p = r := by funext j; simp [pmRow]
theorem pmW_fresh (E : Nat → Nat) (cA : Nat → ClassId) (σ : pmS) (s : pmZ) : pmW E cA (pmFresh σ s) = pmW E cA σ ++ [(E σ.1.length, pmCell E cA (pmFresh σ s) σ.1.length s)] := by
  apply List.ext_getElem?
  intro q
  rw [pmW_at]
  show ((σ.1 ++ [s])[q]?).map _ = _
  by_cases hq : q < σ.1.length
  · rw [List.getElem?_append_left hq, List.getElem?_append_left (by rw [pmW_len]; exact hq), pmW_at]
    congr 1
    funext z
    rw [pmCell_congr (σ := σ) (pmRow_ne _ _ (by omega)) (pmRow_ne _ _ (by omega))]
  · rw [List.getElem?_append_right (by omega), List.getElem?_append_right (by rw [pmW_len]; omega), pmW_len]
    by_cases h0 : q = σ.1.length
    · subst h0; simp
    · have : q - σ.1.length ≠ 0 := by omega
      obtain ⟨j, hj⟩ := Nat.exists_eq_succ_of_ne_zero this
      rw [hj]; rfl
theorem pmW_D {base : Nat} {E : Nat → Nat} {cA : Nat → ClassId} {σ : pmS} (hE : ∀ k, k < 1000 → E k = base + k) (hl : σ.1.length ≤ 901) : va_D (fun q => base ≤ q) (pmW E cA σ) := by
  have key : ∀ (k : Nat) (q : Nat × va_E), (pmW E cA σ)[k]? = some q → k < σ.1.length ∧ q.1 = E k := by
    intro k q h
    rw [pmW_at] at h
    cases hs : σ.1[k]? with
    | none => rw [hs] at h; cases h
    | some s => rw [hs] at h; cases h; exact ⟨(List.getElem?_eq_some_iff.mp hs).1, rfl⟩
  refine ⟨fun i j p q hi hj hpq => ?_, fun k q h => ?_⟩
  · obtain ⟨a1, a2⟩ := key i p hi
    obtain ⟨b1, b2⟩ := key j q hj
    rw [a2, b2, hE i (by omega), hE j (by omega)] at hpq
    omega
  · obtain ⟨a1, a2⟩ := key k q h
    show base ≤ q.1
    rw [a2, hE k (by omega)]
    omega
/-- what a method's surroundings give, at a state U and a heap H -/
def pmNest : Cond → Bool
  | .fieldLinkNest .. => true
  | .methodLinkNest .. => true
  | _ => false
def pmGood : List Cond := lw_tbl.filter goodWord
abbrev pmT5 (cA : Nat → ClassId) : List (ClassId × FieldType) := [(cA 50, .int), (cA 51, .long), (cA 52, .boolean), (cA 53, .byte), (cA 54, .object "BentTale$World")]
def pmSur (base : Nat) (E : Nat → Nat) (cA : Nat → ClassId) (D : va_G) (ro : Nat → Nat × (Nat → Int32)) (U : State) (H : Heap) : Prop :=
  va_K D pmCl (pmT5 cA) U ∧ (∀ w ∈ lw_tbl, pmNest w = true → va_Nw w U) ∧ va_AO "BentTale$World" U ∧ va_Z "BentTale$Planner" "UNITS" "[I" (.ref (E 1000)) (fun q => base ≤ q) U H ∧
  (∀ p, 1000 ≤ p → (p = 1001 ∨ 0 < (ro p).1) → va_T .int (E p) (ro p).1 (fun j => .int ((ro p).2 j)) (fun q => base ≤ q) U H) ∧ (∀ k, k < 1000 → E k = base + k)
theorem pmNest_warm {w : Cond} (hw : pmNest w = true) {s U : State} (hW : s.WarmedH U.vm) (h : va_Nw w s) : va_Nw w U := by
  cases w <;> first | (simp [pmNest] at hw; done) | exact va_Nw.warmF hW h | exact va_Nw.warmM hW h
theorem pmSur.moved {base : Nat} {E : Nat → Nat} {cA : Nat → ClassId} {D : va_G} {ro : Nat → Nat × (Nat → Int32)} {s U : State} {H H1 : Heap} (h : pmSur base E cA D ro s H) (hW : s.WarmedH U.vm) (hk : ∀ q : Nat, q < H.size → ¬ base ≤ q → H1[q]? = H[q]?) : pmSur base E cA D ro U H1 := by
  obtain ⟨h1, h2, h3, h4, h5, h6⟩ := h
  exact ⟨h1.moved hW.alike, fun w hw hn => pmNest_warm hn hW (h2 w hw hn), h3.moved hW.alike, (h4.moved hW.alike).kept hk, fun p hp h0 => ((h5 p hp h0).moved hW.alike).kept hk, h6⟩
/-- the locals -/
def pmLr (E : Nat → Nat) (mth nL : Nat) (ls : Array Slot) (pl : pmL) : Prop := pl.length = nL ∧ ls.size = nL ∧ lv_wf ls ∧ (∀ (i : Nat) (v : Value), pl[i]? = some (some v) → ls[i]? = some (.val (pv E v))) ∧ ∀ (i : Nat) (v : Value), pl[i]? = some (some v) → v.category = 2 → pmLg mth i = true
def pmLv (E : Nat → Nat) (pl : pmL) : List (Nat × Value) := (List.range pl.length).filterMap fun i => match pl[i]? with
  | some (some v) => some (i, pv E v)
  | _ => none
theorem pmLv_in {E : Nat → Nat} {pl : pmL} {i : Nat} {v : Value} (h : pl[i]? = some (some v)) : (i, pv E v) ∈ pmLv E pl := by
  unfold pmLv
  rw [List.mem_filterMap]
  exact ⟨i, List.mem_range.mpr (List.getElem?_eq_some_iff.mp h).1, by rw [h]⟩
theorem pmLv_of {E : Nat → Nat} {pl : pmL} {q : Nat × Value} (h : q ∈ pmLv E pl) : ∃ v, pl[q.1]? = some (some v) ∧ q.2 = pv E v := by
  unfold pmLv at h
  rw [List.mem_filterMap] at h
  obtain ⟨i, -, hi⟩ := h
  split at hi
  · rename_i v hv
    cases hi
    exact ⟨v, hv, rfl⟩
  · cases hi
theorem pmLr.has {E : Nat → Nat} {mth nL : Nat} {ls : Array Slot} {pl : pmL} (h : pmLr E mth nL ls pl) : lv_has ls nL (pmLv E pl) := by
  obtain ⟨-, h1, h2, h3, -⟩ := h
  refine ⟨h1, h2, fun q hq => ?_⟩
  obtain ⟨v, hv, e⟩ := pmLv_of hq
  rw [e]
  exact h3 q.1 v hv
theorem pmCut_len (m : Nat) (pl : pmL) (i : Nat) : (pmCut m pl i).length = pl.length := by
  unfold pmCut
  split
  · rfl
  · rename_i j
    cases pmLg m j with
    | false => rfl
    | true =>
      show (match pl[j]? with
        | some (some v) => if v.category = 2 then pl.set j none else pl
        | _ => pl).length = _
      split
      · split
        · simp
        · rfl
      · rfl
theorem pmCut_at {m : Nat} {pl : pmL} {i j : Nat} {v : Value} (hlg : ∀ (i : Nat) (v : Value), pl[i]? = some (some v) → v.category = 2 → pmLg m i = true) (h : (pmCut m pl i)[j]? = some (some v)) : pl[j]? = some (some v) ∧ ¬ (j + 1 = i ∧ v.category = 2) := by
  unfold pmCut at h
  split at h
  · exact ⟨h, by omega⟩
  · rename_i i k
    cases hk : pmLg m k with
    | false =>
      rw [hk] at h
      change pl[j]? = some (some v) at h
      refine ⟨h, fun q => ?_⟩
      have hj : j = k := by omega
      subst hj
      rw [hlg j v h q.2] at hk
      cases hk
    | true =>
      rw [hk] at h
      change (match pl[k]? with
        | some (some v) => if v.category = 2 then pl.set k none else pl
        | _ => pl)[j]? = some (some v) at h
      split at h
      · rename_i z hz
        split at h
        · by_cases hj : j = k
          · subst hj
            rw [List.getElem?_set_self (List.getElem?_eq_some_iff.mp hz).1] at h
            cases h
          · rw [List.getElem?_set_ne (Ne.symm hj)] at h
            exact ⟨h, by omega⟩
        · rename_i hc
          refine ⟨h, fun q => ?_⟩
          have hj : j = k := by omega
          subst hj
          rw [hz] at h
          cases h
          exact hc q.2
      · rename_i hn
        refine ⟨h, fun q => ?_⟩
        have hj : j = k := by omega
        subst hj
        exact hn v h
theorem pmS1_lr {E : Nat → Nat} {mth nL : Nat} {ls ls' : Array Slot} {pl : pmL} {i : Nat} {v : Value} (hL : pmLr E mth nL ls pl) (hi : i < nL) (hv : v.category ≠ 2)
    (hl : lv_has ls' nL ((i, pv E v) :: (pmLv E pl).filter (fun q => !(q.1 == i) && !(q.1 + 1 == i && q.2.category == 2)))) : pmLr E mth nL ls' (pmS1 mth pl i v) := by
  have hp := hL.1
  have hlg := hL.2.2.2.2
  have key : ∀ (j : Nat) (w : Value), (pmS1 mth pl i v)[j]? = some (some w) → (j = i ∧ w = v) ∨ (j ≠ i ∧ pl[j]? = some (some w) ∧ ¬ (j + 1 = i ∧ w.category = 2)) := by
    intro j w h
    unfold pmS1 at h
    by_cases hj : j = i
    · subst hj
      rw [List.getElem?_set_self (by rw [pmCut_len]; omega)] at h
      cases h
      exact Or.inl ⟨rfl, rfl⟩
    · rw [List.getElem?_set_ne (Ne.symm hj)] at h
      exact Or.inr ⟨hj, pmCut_at hlg h⟩
  refine ⟨by simp [pmS1, pmCut_len, hp], hl.1, hl.2.1, fun j w h => ?_, fun j w h hc => ?_⟩
  · rcases key j w h with ⟨rfl, rfl⟩ | ⟨hj, h1, h2⟩
    · exact hl.2.2 _ List.mem_cons_self
    · refine hl.2.2 (j, pv E w) (List.mem_cons_of_mem _ (List.mem_filter.mpr ⟨pmLv_in h1, ?_⟩))
      simp only [Bool.and_eq_true, Bool.not_eq_true', beq_eq_false_iff_ne, ne_eq, Bool.and_eq_false_iff, pv_cat]
      refine ⟨hj, ?_⟩
      by_cases q : j + 1 = i
      · exact Or.inr (fun z => h2 ⟨q, z⟩)
      · exact Or.inl q
  · rcases key j w h with ⟨rfl, rfl⟩ | ⟨hj, h1, h2⟩
    · exact absurd hc hv
    · exact hlg j w h1 hc
theorem pmS2_lr {E : Nat → Nat} {mth nL : Nat} {ls ls' : Array Slot} {pl : pmL} {i : Nat} {v : Value} (hL : pmLr E mth nL ls pl) (hi : i + 1 < nL) (hg : pmLg mth i = true)
    (hl : lv_has ls' nL ((i, pv E v) :: (pmLv E pl).filter (fun q => !(q.1 == i) && (!(q.1 == i + 1) && !(q.1 + 1 == i && q.2.category == 2))))) : pmLr E mth nL ls' (pmS2 mth pl i v) := by
  have hp := hL.1
  have hlg := hL.2.2.2.2
  have key : ∀ (j : Nat) (w : Value), (pmS2 mth pl i v)[j]? = some (some w) → (j = i ∧ w = v) ∨ (j ≠ i ∧ j ≠ i + 1 ∧ pl[j]? = some (some w) ∧ ¬ (j + 1 = i ∧ w.category = 2)) := by
    intro j w h
    unfold pmS2 at h
    by_cases hk : j = i + 1
    · subst hk
      rw [List.getElem?_set_self (by simp [pmCut_len]; omega)] at h
      cases h
    rw [List.getElem?_set_ne (Ne.symm hk)] at h
    by_cases hj : j = i
    · subst hj
      rw [List.getElem?_set_self (by rw [pmCut_len]; omega)] at h
      cases h
      exact Or.inl ⟨rfl, rfl⟩
    · rw [List.getElem?_set_ne (Ne.symm hj)] at h
      exact Or.inr ⟨hj, hk, pmCut_at hlg h⟩
  refine ⟨by simp [pmS2, pmCut_len, hp], hl.1, hl.2.1, fun j w h => ?_, fun j w h hc => ?_⟩
  · rcases key j w h with ⟨rfl, rfl⟩ | ⟨hj, hk, h1, h2⟩
    · exact hl.2.2 _ List.mem_cons_self
    · refine hl.2.2 (j, pv E w) (List.mem_cons_of_mem _ (List.mem_filter.mpr ⟨pmLv_in h1, ?_⟩))
      simp only [Bool.and_eq_true, Bool.not_eq_true', beq_eq_false_iff_ne, ne_eq, Bool.and_eq_false_iff, pv_cat]
      refine ⟨hj, hk, ?_⟩
      by_cases q : j + 1 = i
      · exact Or.inr (fun z => h2 ⟨q, z⟩)
      · exact Or.inl q
  · rcases key j w h with ⟨rfl, rfl⟩ | ⟨hj, hk, h1, h2⟩
    · exact hg
    · exact hlg j w h1 hc
theorem pmPl_sl (E : Nat → Nat) (as : List Value) : lg_sl (as.map (pv E)) = (pmPl as).map fun o => match o with
    | some v => Slot.val (pv E v)
    | none => Slot.second := by
  induction as with
  | nil => rfl
  | cons v t ih =>
    have e1 : lg_sl ((v :: t).map (pv E)) = (if (pv E v).category = 2 then [Slot.val (pv E v), Slot.second] else [Slot.val (pv E v)]) ++ lg_sl (t.map (pv E)) := rfl
    have e2 : pmPl (v :: t) = (if v.category = 2 then [some v, none] else [some v]) ++ pmPl t := rfl
    rw [e1, e2, ih, pv_cat, List.map_append]
    split <;> rfl
theorem pmEntry (E : Nat → Nat) (mth : Nat) (as : List Value) {n : Nat} (h : (pmPl as).length ≤ n) (hel : pmEl mth (pmPl as) = true) : pmLr E mth n ((lg_sl (as.map (pv E)) ++ List.replicate (n - (lg_sl (as.map (pv E))).length) Slot.unset).toArray) (pmPl as ++ List.replicate (n - (pmPl as).length) none) := by
  have hl : (lg_sl (as.map (pv E))).length = (pmPl as).length := by rw [pmPl_sl, List.length_map]
  have h0 := lv_entry (as.map (pv E)) (n := n) (by rw [hl]; exact h)
  have key : ∀ (i : Nat) (v : Value), (pmPl as ++ List.replicate (n - (pmPl as).length) none)[i]? = some (some v) → (pmPl as)[i]? = some (some v) := by
    intro i v hv
    by_cases hi : i < (pmPl as).length
    · rw [List.getElem?_append_left hi] at hv
      exact hv
    · rw [List.getElem?_append_right (by omega)] at hv
      rw [List.getElem?_replicate] at hv
      split at hv <;> cases hv
  refine ⟨by simp; omega, h0.1, h0.2.1, fun i v hv => ?_, fun i v hv hc => ?_⟩
  · have hv := key i v hv
    have hi : i < (pmPl as).length := (List.getElem?_eq_some_iff.mp hv).1
    simp only [List.getElem?_toArray]
    rw [List.getElem?_append_left (by rw [hl]; exact hi), pmPl_sl, List.getElem?_map, hv]
    rfl
  · have hv := key i v hv
    have hm : (some v, i) ∈ (pmPl as).zipIdx := List.mem_zipIdx_iff_getElem?.mpr hv
    have h1 := List.all_eq_true.mp hel _ hm
    simpa [hc] using h1
end
