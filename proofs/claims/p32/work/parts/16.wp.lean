/-! the pure machine: more fuel, more depth; a stretch of a run; the rules of a goal -/
section
variable {o m rt : Nat}
def pmRoLe (ro ro' : Nat → Nat × (Nat → Int32)) : Prop := (∀ p, 0 < (ro p).1 → ro' p = ro p) ∧ ((ro 1002).2 0 = 1 → (ro' 1002).2 0 = 1 ∧ ro' 1001 = ro 1001)
theorem pmRoLe.rf {ro : Nat → Nat × (Nat → Int32)} : pmRoLe ro ro := ⟨fun _ _ => rfl, fun h => ⟨h, rfl⟩⟩
def pmCaLe (call call' : Nat → List Value → pmS → pmA) : Prop := ∀ mm as σ x, call mm as σ = some x → call' mm as σ = some x
theorem pmRt_le {call call' : Nat → List Value → pmS → pmA} (hc : pmCaLe call call') {mm pc : Nat} {as rest : List Value} {pl : pmL} {σ : pmS} {x : (Option Value × pmS) ⊕ (Nat × pmL × List Value × pmS)} (h : pmRt call mm as pc pl rest σ = some x) : pmRt call' mm as pc pl rest σ = some x := by
  unfold pmRt at h ⊢
  split at h
  · rename_i hcat
    rw [if_pos hcat]
    split at h
    · rename_i r σ' hr
      rw [hc _ _ _ _ hr]
      exact h
    · cases h
  · cases h
theorem pmStep_le {ro ro' : Nat → Nat × (Nat → Int32)} {call call' : Nat → List Value → pmS → pmA} (hr : pmRoLe ro ro') (hc : pmCaLe call call') {pc : Nat} {i : Instr} {pl : pmL} {st : List Value} {σ : pmS} {x : (Option Value × pmS) ⊕ (Nat × pmL × List Value × pmS)} (h : pmStep ro call o m rt pc i pl st σ = some x) : pmStep ro' call' o m rt pc i pl st σ = some x := by
  cases i with
  | iaload =>
    simp only [pmStep] at h ⊢
    split at h
    · split at h
      · rename_i hp
        rw [if_pos hp]
        split at h
        · rename_i hi
          have hpos : 0 < (ro _).1 := Nat.pos_of_ne_zero (fun z => hi (Or.inr (by rw [z]; exact Nat.zero_le _)))
          rw [hr.1 _ hpos, if_pos hi]
          exact h
        · cases h
      · rename_i hp
        rw [if_neg hp]
        exact h
    · cases h
  | arraylength =>
    simp only [pmStep] at h ⊢
    split at h
    · split at h
      · rename_i hp
        obtain ⟨h1, h2⟩ := hr.2 hp.2
        rw [if_pos ⟨hp.1, h1⟩, hp.1, h2]
        rw [hp.1] at h
        exact h
      · cases h
    · cases h
  | invokestatic z =>
    simp only [pmStep] at h ⊢
    split at h
    · split at h
      · rename_i h0
        rw [if_pos h0]; exact h
      · rename_i h0
        rw [if_neg h0]
        split at h
        · rename_i h1
          rw [if_pos h1]; exact h
        · rename_i h1
          rw [if_neg h1]
          split at h
          · rename_i h2
            rw [if_pos h2]; exact h
          · rename_i h2
            rw [if_neg h2]
            split at h
            · split at h
              · rename_i hn
                rw [if_pos hn]
                exact pmRt_le hc h
              · cases h
            · cases h
    · cases h
  | invokevirtual z =>
    simp only [pmStep] at h ⊢
    split at h
    · split at h
      · split at h
        · split at h
          · split at h
            · rename_i hcc
              rw [if_pos hcc]
              exact pmRt_le hc h
            · cases h
          · cases h
        · cases h
      · cases h
    · cases h
  | invokespecial z =>
    simp only [pmStep] at h ⊢
    split at h
    · split at h
      · rename_i h0
        rw [if_pos h0]; exact h
      · rename_i h0
        rw [if_neg h0]
        split at h
        · split at h
          · exact pmRt_le hc h
          · cases h
        · cases h
    · cases h
  | _ => exact h
theorem pmRun_le {ro ro' : Nat → Nat × (Nat → Int32)} {call call' : Nat → List Value → pmS → pmA} (hr : pmRoLe ro ro') (hc : pmCaLe call call') : ∀ (N N' pc : Nat) (pl : pmL) (st : List Value) (σ : pmS) (x : Option Value × pmS), N ≤ N' → pmRun ro call o m rt N pc pl st σ = some x → pmRun ro' call' o m rt N' pc pl st σ = some x
  | 0, _, _, _, _, _, _, _, h => by cases h
  | N + 1, 0, _, _, _, _, _, hN, _ => by omega
  | N + 1, N' + 1, pc, pl, st, σ, x, hN, h => by
    unfold pmRun at h ⊢
    split at h
    · cases h
    · rename_i i hi
      split at h
      · cases h
      · rename_i hx
        simp only [pmStep_le hr hc hx]
        exact h
      · rename_i hx
        simp only [pmStep_le hr hc hx]
        exact pmRun_le hr hc N N' _ _ _ _ _ (by omega) h
theorem pmCall_le {ro ro' : Nat → Nat × (Nat → Int32)} (hr : pmRoLe ro ro') {N N' : Nat} (hN : N ≤ N') : ∀ (d d' : Nat), d ≤ d' → pmCaLe (pmCall ro N d) (pmCall ro' N' d')
  | 0, _, _ => fun _ _ _ _ h => by cases h
  | d + 1, 0, h => by omega
  | d + 1, d' + 1, hd => fun mm as σ x h => by
    unfold pmCall at h ⊢
    split at h
    · split at h
      · rename_i hcond
        rw [if_pos hcond]
        exact pmRun_le hr (pmCall_le hr hN d d' (by omega)) N N' _ _ _ _ _ hN h
      · cases h
    · cases h
/-- the goal at a place of a method: a run comes to its end there with Q; calls go d deep -/
def pmWp (ro : Nat → Nat × (Nat → Int32)) (d o m rt pc : Nat) (pl : pmL) (st : List Value) (σ : pmS) (Q : Option Value → pmS → Prop) : Prop := ∃ (M N : Nat) (r : Option Value) (σ' : pmS), pmRun ro (pmCall ro M d) o m rt N pc pl st σ = some (r, σ') ∧ Q r σ'
/-- the goal of a call -/
def pmCs (ro : Nat → Nat × (Nat → Int32)) (d mm : Nat) (as : List Value) (σ : pmS) (Q : Option Value → pmS → Prop) : Prop := ∃ (M : Nat) (r : Option Value) (σ' : pmS), pmCall ro M d mm as σ = some (r, σ') ∧ Q r σ'
/-- so many instructions without a call -/
def pmBlk (ro : Nat → Nat × (Nat → Int32)) (o m rt : Nat) : Nat → Nat → pmL → List Value → pmS → Option (Nat × pmL × List Value × pmS)
  | 0, pc, pl, st, σ => some (pc, pl, st, σ)
  | n + 1, pc, pl, st, σ => match pmCode m pc with
    | none => none
    | some i => match pmStep ro (fun _ _ _ => none) o m rt pc i pl st σ with
      | some (.inr (pc', pl', st', σ')) => pmBlk ro o m rt n pc' pl' st' σ'
      | _ => none
theorem pmNoCall {call : Nat → List Value → pmS → pmA} : pmCaLe (fun _ _ _ => none) call := fun _ _ _ _ h => by cases h
theorem pmBlk_run {ro : Nat → Nat × (Nat → Int32)} {call : Nat → List Value → pmS → pmA} : ∀ (n N pc : Nat) (pl : pmL) (st : List Value) (σ : pmS) (pc' : Nat) (pl' : pmL) (st' : List Value) (σ' : pmS), pmBlk ro o m rt n pc pl st σ = some (pc', pl', st', σ') → pmRun ro call o m rt (n + N) pc pl st σ = pmRun ro call o m rt N pc' pl' st' σ'
  | 0, N, _, _, _, _, _, _, _, _, h => by cases h; rw [Nat.zero_add]
  | n + 1, N, pc, pl, st, σ, pc', pl', st', σ', h => by
    unfold pmBlk at h
    split at h
    · cases h
    · rename_i i hi
      split at h
      · rename_i hx
        rw [show n + 1 + N = (n + N) + 1 by omega]
        conv => lhs; unfold pmRun
        rw [hi]
        simp only [pmStep_le pmRoLe.rf (pmNoCall (call := call)) hx]
        exact pmBlk_run n N _ _ _ _ _ _ _ _ h
      · cases h
theorem pmWp_blk {ro : Nat → Nat × (Nat → Int32)} {d n pc pc' : Nat} {pl pl' : pmL} {st st' : List Value} {σ σ' : pmS} {Q : Option Value → pmS → Prop} (h : pmBlk ro o m rt n pc pl st σ = some (pc', pl', st', σ')) : pmWp ro d o m rt pc pl st σ Q ↔ pmWp ro d o m rt pc' pl' st' σ' Q := by
  constructor
  · rintro ⟨M, N, r, τ, h1, h2⟩
    refine ⟨M, N, r, τ, ?_, h2⟩
    rw [← pmBlk_run n N _ _ _ _ _ _ _ _ h]
    exact pmRun_le pmRoLe.rf (pmCall_le pmRoLe.rf (Nat.le_refl M) d d (Nat.le_refl d)) N (n + N) _ _ _ _ _ (by omega) h1
  · rintro ⟨M, N, r, τ, h1, h2⟩
    exact ⟨M, n + N, r, τ, by rw [pmBlk_run n N _ _ _ _ _ _ _ _ h]; exact h1, h2⟩
/-- an end -/
theorem pmWp_ret {ro : Nat → Nat × (Nat → Int32)} {d pc : Nat} {i : Instr} {pl : pmL} {st : List Value} {σ : pmS} {r : Option Value} {Q : Option Value → pmS → Prop} (hi : pmCode m pc = some i) (h : pmStep ro (fun _ _ _ => none) o m rt pc i pl st σ = some (.inl (r, σ))) : pmWp ro d o m rt pc pl st σ Q ↔ Q r σ := by
  constructor
  · rintro ⟨M, N, r', τ, h1, h2⟩
    cases N with
    | zero => cases h1
    | succ N =>
      unfold pmRun at h1
      rw [hi] at h1
      simp only [pmStep_le pmRoLe.rf (pmNoCall (call := pmCall ro M d)) h, Option.some.injEq, Prod.mk.injEq] at h1
      obtain ⟨rfl, rfl⟩ := h1
      exact h2
  · intro h2
    refine ⟨0, 1, r, σ, ?_, h2⟩
    unfold pmRun
    rw [hi]
    simp only [pmStep_le pmRoLe.rf (pmNoCall (call := pmCall ro 0 d)) h]
/-- a call -/
theorem pmWp_call {ro : Nat → Nat × (Nat → Int32)} {d pc mm : Nat} {i : Instr} {pl : pmL} {st as rest : List Value} {σ : pmS} {Q : Option Value → pmS → Prop} (hi : pmCode m pc = some i) (hcat : pmCats rest ≤ 8) (h : ∀ call, pmStep ro call o m rt pc i pl st σ = pmRt call mm as pc pl rest σ) :
    pmWp ro d o m rt pc pl st σ Q ↔ pmCs ro d mm as σ (fun r σ' => pmWp ro d o m rt (pc + 3) pl (r.toList ++ rest) σ' Q) := by
  constructor
  · rintro ⟨M, N, r', τ, h1, h2⟩
    cases N with
    | zero => cases h1
    | succ N =>
      unfold pmRun at h1
      rw [hi] at h1
      simp only [h, pmRt, if_pos hcat] at h1
      cases hc : pmCall ro M d mm as σ with
      | none => rw [hc] at h1; cases h1
      | some x =>
        obtain ⟨r, σ1⟩ := x
        rw [hc] at h1
        exact ⟨M, r, σ1, hc, M, N, r', τ, h1, h2⟩
  · rintro ⟨M, r, σ1, hc, M', N, r', τ, h1, h2⟩
    refine ⟨max M M', N + 1, r', τ, ?_, h2⟩
    unfold pmRun
    rw [hi]
    simp only [h, pmRt, if_pos hcat, pmCall_le pmRoLe.rf (Nat.le_max_left M M') d d (Nat.le_refl d) _ _ _ _ hc]
    exact pmRun_le pmRoLe.rf (pmCall_le pmRoLe.rf (Nat.le_max_right M M') d d (Nat.le_refl d)) N N _ _ _ _ _ (Nat.le_refl N) h1
theorem pmCs_go {ro : Nat → Nat × (Nat → Int32)} {d mm : Nat} {as : List Value} {σ : pmS} {Q : Option Value → pmS → Prop} {y : MethodName} {b : ByteArray} {oo n mx r kind : Nat} {ev : Nat × Nat × Nat × Nat} (hq : pmInf[mm]? = some (y, b, (oo, n, mx, r), (kind, ev))) (hcond : (pmPl as).length ≤ mx ∧ mx ≤ 40 ∧ kind < 3 ∧ pmEl mm (pmPl as) = true) :
    pmCs ro (d + 1) mm as σ Q ↔ pmWp ro d oo mm (pmRk r kind) 0 (pmPl as ++ List.replicate (mx - (pmPl as).length) none) [] σ Q := by
  have e : ∀ M, pmCall ro M (d + 1) mm as σ = pmRun ro (pmCall ro M d) oo mm (pmRk r kind) M 0 (pmPl as ++ List.replicate (mx - (pmPl as).length) none) [] σ := by
    intro M
    unfold pmCall
    rw [hq]
    simp only [hcond, and_self, if_true]
  constructor
  · rintro ⟨M, r', τ, h1, h2⟩
    rw [e] at h1
    exact ⟨M, M, r', τ, h1, h2⟩
  · rintro ⟨M, N, r', τ, h1, h2⟩
    refine ⟨max M N, r', τ, ?_, h2⟩
    rw [e]
    exact pmRun_le pmRoLe.rf (pmCall_le pmRoLe.rf (Nat.le_max_left M N) d d (Nat.le_refl d)) N (max M N) _ _ _ _ _ (Nat.le_max_right M N) h1
theorem pmWp_mono {ro : Nat → Nat × (Nat → Int32)} {d pc : Nat} {pl : pmL} {st : List Value} {σ : pmS} {Q Q' : Option Value → pmS → Prop} (h : pmWp ro d o m rt pc pl st σ Q) (hQ : ∀ r τ, Q r τ → Q' r τ) : pmWp ro d o m rt pc pl st σ Q' := by
  obtain ⟨M, N, r, τ, h1, h2⟩ := h
  exact ⟨M, N, r, τ, h1, hQ r τ h2⟩
theorem pmCs_mono {ro : Nat → Nat × (Nat → Int32)} {d mm : Nat} {as : List Value} {σ : pmS} {Q Q' : Option Value → pmS → Prop} (h : pmCs ro d mm as σ Q) (hQ : ∀ r τ, Q r τ → Q' r τ) : pmCs ro d mm as σ Q' := by
  obtain ⟨M, r, τ, h1, h2⟩ := h
  exact ⟨M, r, τ, h1, hQ r τ h2⟩
theorem pmCs_deep {ro : Nat → Nat × (Nat → Int32)} {d d' mm : Nat} {as : List Value} {σ : pmS} {Q : Option Value → pmS → Prop} (h : pmCs ro d mm as σ Q) (hd : d ≤ d') : pmCs ro d' mm as σ Q := by
  obtain ⟨M, r, τ, h1, h2⟩ := h
  exact ⟨M, r, τ, pmCall_le pmRoLe.rf (Nat.le_refl M) d d' hd _ _ _ _ h1, h2⟩
end
