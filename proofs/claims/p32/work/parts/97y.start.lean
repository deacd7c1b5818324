/-! at the start -/
section
set_option maxRecDepth 100000


section
variable {ρ : Nat → Int} {σ : pmS} {p k : Nat} {v : Int} {a : xA} {b : xB}
noncomputable def vCk (p k : Nat) (v : Int) : Bool := match aG2 p1M.2.1 p with
  | some c => (match pmLk c.2 k with
    | some f => decide (f.1 = 0) && decide (f.2 = v)
    | none => decide (c.1.1 = 0) && decide (c.1.2 = 0) && decide (v = 0))
  | none => false
theorem vCk_i (h0 : ρ 0 = 0) (h : aMok 2 ρ pmσ0 p1M σ) (hc : vCk p k v = true) : kI σ p k = v := by
  unfold vCk at hc
  split at hc
  · rename_i c e
    have := h.2.1 p c e k
    split at hc
    · rename_i f ef
      simp only [ef] at this
      rw [Bool.and_eq_true, decide_eq_true_eq, decide_eq_true_eq] at hc
      have h2 : aZi σ p k = ρ f.1 + f.2 := this.2
      rw [hc.1, h0] at h2
      show aZi σ p k = v
      omega
    · rename_i ef
      simp only [ef] at this
      rw [Bool.and_eq_true, Bool.and_eq_true, decide_eq_true_eq, decide_eq_true_eq, decide_eq_true_eq] at hc
      have h2 : c.1.1 ≤ aZi σ p k ∧ aZi σ p k ≤ c.1.2 := this
      show aZi σ p k = v
      omega
  · cases hc
theorem v88_all : (List.range 120).all (fun k => vCk 88 k (if 14 ≤ k ∧ k ≤ 40 then -1 else 0)) = true := by decide +kernel
theorem v4_all : (List.range 62).all (fun k => vCk 4 k (uD ((k : Int) - 1))) = true := by decide +kernel
theorem vSl1 : ∀ j : Fin 16, uSl (4369 : Int64) (j.val : Int) = if j.val < 4 then 1 else 0 := by decide +kernel
theorem vSl0 : ∀ j : Fin 16, uSl (0 : Int64) (j.val : Int) = 0 := by decide +kernel
theorem vSt0 : ∀ j : Fin 5, uSt (0 : Int64) (j.val : Int) = 0 := by decide +kernel
theorem vIni (h0 : ρ 0 = 0) (hM : aMok 2 ρ pmσ0 p1M (xS a b)) (hA : xAr a) (hK : kOk (xS a b)) (hP : kP (xS a b)) : vInv a b := by
  have cv : ∀ p (k : Nat), kI (xS a b) p k = a p (k : Int) := fun p k => xI (hA p k)
  have ci : ∀ p (k : Nat) v, vCk p k v = true → a p (k : Int) = v := fun p k v h => (cv p k).symm.trans (vCk_i h0 hM h)
  have e88 : ∀ j, 0 ≤ j → j < 120 → a 88 j = if 14 ≤ j ∧ j ≤ 40 then -1 else 0 := fun j j0 j1 => by
    have h := ci 88 j.toNat _ (List.all_eq_true.mp v88_all j.toNat (List.mem_range.mpr (by omega)))
    rw [Int.toNat_of_nonneg j0] at h
    rw [h]
    by_cases c : 14 ≤ j ∧ j ≤ 40
    · rw [if_pos c, if_pos (by omega)]
    · rw [if_neg c, if_neg (by omega)]
  have n88 : ∀ j, 14 ≤ j → j ≤ 40 → a 88 j = -1 := fun j j0 j1 => by
    rw [e88 j (by omega) (by omega), if_pos ⟨j0, j1⟩]
  have z88 : ∀ j, 0 ≤ j → j < 120 → ¬ (14 ≤ j ∧ j ≤ 40) → a 88 j = 0 := fun j j0 j1 h => by
    rw [e88 j j0 j1, if_neg h]
  have row : ∀ p, (∀ k, kI (xS a b) p k = 0) → ∀ j, 0 ≤ j → a p j = 0 := fun p h j j0 => by
    have := h j.toNat
    rw [cv, Int.toNat_of_nonneg j0] at this
    exact this
  have r90 := row 90 (fun k => kZ_int hM (p := 90) (k := k) rfl rfl)
  have r91 := row 91 (fun k => kZ_int hM (p := 91) (k := k) rfl rfl)
  have r96 := row 96 (fun k => kZ_int hM (p := 96) (k := k) rfl rfl)
  have r12 := row 12 (fun k => kZ_int hM (p := 12) (k := k) rfl rfl)
  have r21 := row 21 (fun k => kZ_int hM (p := 21) (k := k) rfl rfl)
  have r23 := row 23 (fun k => kZ_int hM (p := 23) (k := k) rfl rfl)
  have r25 := row 25 (fun k => kZ_int hM (p := 25) (k := k) rfl rfl)
  have r78 := row 78 (fun k => kZ_int hM (p := 78) (k := k) rfl rfl)
  have r79 := row 79 (fun k => kZ_int hM (p := 79) (k := k) rfl rfl)
  have r86 := row 86 (fun k => kZ_int hM (p := 86) (k := k) rfl rfl)
  have r19 := row 19 (fun k => kZ_int hM (p := 19) (k := k) rfl rfl)
  have r106 := row 106 (fun k => kZ_int hM (p := 106) (k := k) rfl rfl)
  have r3 := row 3 (fun k => kZ_int hM (p := 3) (k := k) rfl rfl)
  have r0 := row 0 (fun k => kZ_int hM (p := 0) (k := k) rfl rfl)
  have r1 := row 1 (fun k => kZ_int hM (p := 1) (k := k) rfl rfl)
  have r13 := row 13 (fun k => kZ_int hM (p := 13) (k := k) rfl rfl)
  have d2 : a 87 2 = 0 := ci 87 2 0 (by decide +kernel)
  have d3 : a 87 3 = 0 := ci 87 3 0 (by decide +kernel)
  have d4 : a 87 4 = 0 := ci 87 4 0 (by decide +kernel)
  have d9 : a 87 9 = 0 := ci 87 9 0 (by decide +kernel)
  have lo : ∀ p, (∀ k, (xS a b).2.2 p k = 0) → ∀ j, 0 ≤ j → b p j = 0 := fun p h j j0 => by
    have h2 : b p ((j.toNat : Nat) : Int) = 0 := h j.toNat
    rw [Int.toNat_of_nonneg j0] at h2
    exact h2
  have l3 := lo 3 (fun k => kZ_long hM (p := 3) (k := k) rfl rfl)
  have l22 := lo 22 (fun k => kZ_long hM (p := 22) (k := k) rfl rfl)
  have l35 := lo 35 (fun k => kZ_long hM (p := 35) (k := k) rfl rfl)
  have l114 := lo 114 (fun k => kZ_long hM (p := 114) (k := k) rfl rfl)
  have l215 : b 21 5 = 0 := kZ_long hM (p := 21) (k := 5) rfl rfl
  have l214 : b 21 4 = 4369 := by
    have := hM.2.2.1 21 _ rfl 4
    have h2 : aZl (xS a b) 21 4 = ρ 0 + 4369 := this.2
    rw [h0] at h2
    exact Int64.toInt_inj.mp (h2.trans rfl)
  have s1 : ∀ j, 0 ≤ j → j < 16 → uSl (b 21 4) j = if j < 4 then 1 else 0 := fun j j0 j1 => by
    have h := vSl1 ⟨j.toNat, by omega⟩
    dsimp only at h
    rw [Int.toNat_of_nonneg j0] at h
    rw [l214, h]
    by_cases c : j < 4
    · rw [if_pos c, if_pos (by omega)]
    · rw [if_neg c, if_neg (by omega)]
  have s0 : ∀ f j, 0 ≤ f → 0 ≤ j → j < 16 → uSl (b 22 f) j = 0 := fun f j f0 j0 j1 => by
    have h := vSl0 ⟨j.toNat, by omega⟩
    dsimp only at h
    rw [Int.toNat_of_nonneg j0] at h
    rw [l22 f f0, h]
  refine ⟨⟨hK, hP⟩, hA, ⟨(r13 7 (by decide)).trans d3.symm, fun i i0 i1 => ?_⟩, ⟨(r1 1 (by decide)).trans d9.symm, ?_, fun j j0 j1 => ?_⟩, Or.inl ⟨⟨r0 12 (by decide), d4⟩, hA, ?_, fun i i0 i1 => ?_, ?_, ?_, ?_, fun _ => [], ?_⟩⟩
  · rw [r13 7 (by decide)] at i1
    omega
  · rw [r1 1 (by decide)]
    decide
  · rw [r1 1 (by decide)] at j1
    omega
  · unfold vPs uKs
    rw [d2, r3 4 (by decide), r3 5 (by decide), l3 3 (by decide)]
    refine ⟨⟨fun k k0 k1 => ?_, fun i i0 i1 => ?_, rfl, by decide, fun k k0 k1 => ?_⟩, fun i _ i0 i1 => r91 i i0, by decide, by decide⟩
    · rw [r90 k k0]
      have e : xBit (0 : Int64) k = false := BitVec.getLsbD_zero
      rw [e]
      exact ⟨fun h => (by cases h), fun h => absurd rfl h⟩
    · rw [r91 i i0]
      have e : uBi 0 i = 0 := by
        unfold uBi
        rw [Int.zero_ediv]
        rfl
      rw [e]
    · have h := ci 4 (k + 1).toNat _ (List.all_eq_true.mp v4_all (k + 1).toNat (List.mem_range.mpr (by omega)))
      rw [Int.toNat_of_nonneg (by omega), show k + 1 - 1 = k by omega] at h
      exact h
  · have : i = 1 ∨ i = 2 ∨ i = 3 ∨ i = 4 ∨ i = 5 := by omega
    rcases this with rfl | rfl | rfl | rfl | rfl
    · rw [show a 5 1 = 9 from ci 5 1 9 (by decide +kernel), show a 92 1 = 1 from ci 92 1 1 (by decide +kernel)]
      rfl
    · rw [show a 5 2 = 9 from ci 5 2 9 (by decide +kernel), show a 92 2 = 1 from ci 92 2 1 (by decide +kernel)]
      rfl
    · rw [show a 5 3 = 9 from ci 5 3 9 (by decide +kernel), show a 92 3 = 1 from ci 92 3 1 (by decide +kernel)]
      rfl
    · rw [show a 5 4 = 9 from ci 5 4 9 (by decide +kernel), show a 92 4 = 1 from ci 92 4 1 (by decide +kernel)]
      rfl
    · rw [show a 5 5 = 9 from ci 5 5 9 (by decide +kernel), show a 92 5 = 1 from ci 92 5 1 (by decide +kernel)]
      rfl
  · rw [d2]
    refine ⟨⟨fun p p0 p1 => ?_, fun x x0 x1 => absurd x1 (by omega), fun x x0 x1 => ?_, fun f x f0 f1 x0 x1 => ?_, fun f q f0 f1 q0 q1 => ?_, fun f x f0 f1 _ x0 x1 => ?_⟩, ⟨fun j j0 j1 => ?_, fun j j0 j1 => ?_, fun x x0 x1 => absurd x1 (by omega)⟩, fun f f0 f1 => ⟨fun j j0 j1 => s0 f j (by omega) (by omega) j1, fun q q0 q1 _ => ?_, fun x x0 x1 => ?_⟩, fun x x0 x1 => ?_⟩
    · rw [z88 p p0 (by omega) (by omega)]
      decide
    · rw [z88 _ (by omega) (by omega) (by omega)]
      decide
    · rw [n88 _ (by omega) (by omega)]
      decide
    · rw [n88 _ (by omega) (by omega)]
      decide
    · rw [n88 _ (by omega) (by omega)]
    · rw [s1 j j0 (by omega)]
      unfold uWs
      by_cases c : j < 4
      · rw [if_pos c, if_pos c, z88 j j0 (by omega) (by omega)]
        rfl
      · rw [if_neg c, if_neg c, if_neg (by omega)]
    · rw [s1 j (by omega) j1, if_neg (by omega)]
    · show uSl (b 22 f) q = _
      rw [s0 f q (by omega) q0 (by omega), n88 _ (by omega) (by omega)]
      rfl
    · show uSl (b 22 f) (4 + x) = _
      rw [s0 f (4 + x) (by omega) (by omega) (by omega), n88 _ (by omega) (by omega)]
      rfl
    · have h := vSt0 ⟨x.toNat, by omega⟩
      dsimp only at h
      rw [Int.toNat_of_nonneg x0] at h
      rw [l215, h]
  · exact ⟨fun j j0 j1 => z88 j (by omega) j1 (by omega), fun j j0 j1 => r21 j (by omega), fun j j0 _ => r25 j j0, fun j j0 _ => r23 j j0, fun j j0 _ => r78 j j0, fun j j0 _ => l35 j j0, fun j j0 _ => l114 j j0, r79 6 (by decide), fun j j0 _ => r86 j j0⟩
  · exact ⟨fun c c0 _ => by rw [r19 c c0]; decide, fun c c0 _ => by rw [r106 c c0]; decide, (r13 7 (by decide)).trans d3.symm, fun i i0 i1 => by
      rw [r13 7 (by decide)] at i1
      omega⟩
  · refine ⟨fun p p0 p1 => ?_, fun p k p0 p1 k0 k1 => ?_, fun p p0 p1 => ⟨fun i j i0 ij jc => ?_, fun k k0 k1 => ?_⟩, fun p i p0 p1 i0 i1 => ?_⟩
    · rw [r12 p (by omega), r96 p (by omega)]
      decide
    · rw [r96 p (by omega)] at k1
      omega
    · rw [r96 p (by omega)] at jc
      omega
    · rw [r96 p (by omega)] at k1
      omega
    · rw [r96 p (by omega)] at i1
      omega
end
end
