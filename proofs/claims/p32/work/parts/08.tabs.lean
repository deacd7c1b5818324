/-! what the checked tables give -/
section
theorem pmLk_mem {β : Type} : ∀ (l : List (Nat × β)) (k : Nat) (v : β), pmLk l k = some v → (k, v) ∈ l
  | [], _, _, h => by cases h
  | a :: l, k, v, h => by
    unfold pmLk at h
    cases hk : Nat.beq a.1 k with
    | true =>
      rw [hk] at h
      have e : a.1 = k := Nat.eq_of_beq_eq_true hk
      have e2 : a.2 = v := by simpa using h
      rw [← e, ← e2]
      exact List.mem_cons_self
    | false =>
      rw [hk] at h
      exact List.mem_cons_of_mem _ (pmLk_mem l k v (by simpa using h))
theorem pmG_mem {w : Jvm.Cond} {i : Nat} (h : pmWd i = some w) (hg : goodWord w = true) : w ∈ pmGood := List.mem_filter.mpr ⟨List.mem_of_getElem? h, hg⟩
theorem pmTb_mem {β : Type} {tb : List (List (Nat × β))} {ok : Nat → Nat × β → Prop} (hall : ∀ o, ∀ e ∈ (tb[o]?).getD [], ok o e) {o k : Nat} {v : β} (h : ((tb[o]?).bind fun l => pmLk l k) = some v) : ok o (k, v) := by
  cases hl : tb[o]? with
  | none => rw [hl] at h; cases h
  | some l =>
    rw [hl] at h
    have h1 := hall o
    rw [hl] at h1
    exact h1 _ (pmLk_mem l k v h)
theorem pmC_ok {o k : Nat} {v : Int32} {w : Nat} {own : String} (ho : pmOwn[o]? = some own) (h : pmC o k = some (v, w)) : Jvm.Cond.constant own k v ∈ pmGood := by
  obtain ⟨own', h1, h2⟩ := pmTb_mem pmCp_all h
  cases ho.symm.trans h1
  exact pmG_mem h2 rfl
theorem pmCL_ok {o k : Nat} {v : Int64} {w : Nat} {own : String} (ho : pmOwn[o]? = some own) (h : pmCL o k = some (v, w)) : Jvm.Cond.constantLong own k v ∈ pmGood := by
  obtain ⟨own', h1, h2⟩ := pmTb_mem pmLp_all h
  cases ho.symm.trans h1
  exact pmG_mem h2 rfl
theorem pmG_ok {o k w : Nat} {own : String} (ho : pmOwn[o]? = some own) (h : pmG o k = some w) : Jvm.Cond.fieldLink own k "BentTale$Planner" "UNITS" "[I" ∈ pmGood := by
  obtain ⟨own', h1, h2⟩ := pmTb_mem pmGp_all h
  cases ho.symm.trans h1
  exact pmG_mem h2 rfl
theorem pmN_ok {o k ci w : Nat} {own : String} (ho : pmOwn[o]? = some own) (h : pmN o k = some (ci, w)) : ∃ C T N, pmCl[ci]? = some (C, T, N) ∧ Jvm.Cond.classLink own k C ∈ pmGood := by
  obtain ⟨own', C, T, N, h1, h2, h3⟩ := pmTb_mem pmNp_all h
  cases ho.symm.trans h1
  exact ⟨C, T, N, h2, pmG_mem h3 rfl⟩
theorem pmF_ok {o k ci j w : Nat} {nst : Bool} {own : String} (ho : pmOwn[o]? = some own) (h : pmF o k = some (ci, j, w, nst)) : ∃ C T N, pmCl[ci]? = some (C, T, N) ∧ j < N ∧ (T j).1 = C ∧ (nst = false → Jvm.Cond.fieldLink own k C (T j).2.1 (T j).2.2.1 ∈ pmGood) ∧ (nst = true → Jvm.Cond.fieldLinkNest own k C (T j).2.1 (T j).2.2.1 "BentTale" ∈ lw_tbl) := by
  obtain ⟨own', C, T, N, h1, h2, h3, h4, h5⟩ := pmTb_mem pmFp_all h
  cases ho.symm.trans h1
  refine ⟨C, T, N, h2, h3, h4, fun hn => ?_, fun hn => ?_⟩
  · subst hn
    exact pmG_mem h5 rfl
  · subst hn
    exact List.mem_of_getElem? h5
theorem pmM_ok {o k mm w : Nat} {nst : Bool} {own : String} (ho : pmOwn[o]? = some own) (h : pmM o k = some (mm, w, nst)) : (mm = 9001 → Jvm.Cond.methodLink own k objectInit ∈ pmGood) ∧ (mm = 9000 → Jvm.Cond.methodLink own k arraycopyName ∈ pmGood) ∧
    (mm = 9002 → Jvm.Cond.methodLink own k Lib.Math.max.name ∈ pmGood) ∧ (mm = 9003 → Jvm.Cond.methodLink own k Lib.Math.min.name ∈ pmGood) ∧ (∀ q, mm ≠ 9000 → mm ≠ 9001 → mm ≠ 9002 → mm ≠ 9003 → pmInf[mm]? = some q → (nst = false → Jvm.Cond.methodLink own k q.1 ∈ pmGood) ∧ (nst = true → Jvm.Cond.methodLinkNest own k q.1 "BentTale" ∈ lw_tbl)) := by
  obtain ⟨own', h1, h2⟩ := pmTb_mem pmMp_all h
  cases ho.symm.trans h1
  refine ⟨fun e => ?_, fun e => ?_, fun e => ?_, fun e => ?_, fun q e0 e1 e2 e3 hq => ?_⟩
  · subst e
    exact pmG_mem h2 rfl
  · subst e
    exact pmG_mem h2 rfl
  · subst e
    exact pmG_mem h2 rfl
  · subst e
    exact pmG_mem h2 rfl
  · simp only [e0, e1, e2, e3, if_false] at h2
    obtain ⟨q', h3, h4⟩ := h2
    cases hq.symm.trans h3
    refine ⟨fun hn => ?_, fun hn => ?_⟩
    · subst hn
      exact pmG_mem h4 rfl
    · subst hn
      exact List.mem_of_getElem? h4
theorem pmK_ok {ci : Nat} {C : String} {T : u_T} {N : Nat} (h : pmCl[ci]? = some (C, T, N)) : ci < 13 ∧ pmOwn[ci]? = some C ∧ ∃ ty : Nat → FieldType, (pmNf[ci]?).getD 0 = N ∧ (∀ w ∈ u_ws C T N, w ∈ pmGood) ∧ Jvm.Cond.instantiable C N ∈ pmGood ∧ Jvm.Cond.initialized C ∈ pmGood ∧
    (∀ k, k < N → parseFieldDescriptor (T k).2.2.1 = some (ty k) ∧ pmKd ci k = pmKind (ty k) ∧ pmKd ci k ≤ 3 ∧ pmFn ci k = (T k).2.2.2) ∧ (∀ a, a < N → ∀ b, b < N → a ≠ b → (T a).2.1 ≠ (T b).2.1) := by
  have hci : ci < 13 := (List.getElem?_eq_some_iff.mp h).1
  obtain ⟨C', T', N', ty, ix, a, b, h1, h2, h3, h4, h5, h6, h7, h8, h9, h10, h11⟩ := pmKp_all ci hci
  cases h.symm.trans h1
  refine ⟨hci, h3, ty, h4, fun w hw => ?_, pmG_mem h7 rfl, pmG_mem h8 rfl, fun k hk => ⟨h10 k hk, h9 k hk⟩, h11⟩
  have hm : some w ∈ (u_ws C T N).map some := List.mem_map.mpr ⟨w, hw, rfl⟩
  rw [← h6] at hm
  obtain ⟨i, -, hi⟩ := List.mem_map.mp hm
  refine pmG_mem hi ?_
  obtain ⟨k, -, rfl⟩ := List.mem_map.mp hw
  unfold u_lay
  split <;> rfl
theorem pmI_at {m : Nat} {q : pmIt} (h : pmInf[m]? = some q) : ∃ t, pmAll[m]? = some (q, t) ∧ pmIp q := by
  unfold pmInf at h
  rw [List.getElem?_map] at h
  cases ha : pmAll[m]? with
  | none => rw [ha] at h; cases h
  | some x =>
    rw [ha] at h
    cases h
    exact ⟨x.2, rfl, pmIa x (List.mem_of_getElem? ha)⟩
end
