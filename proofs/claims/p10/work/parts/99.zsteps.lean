/-! the tape, wishes and laws alike: kept by every call -/
section
set_option maxRecDepth 100000
def zZ (a : xA) : Prop := a 1 1 = a 87 9 ∧ (∀ j, 0 ≤ j → a 1 1 ≤ j ∨ a 2 j = a 93 j % 256) ∧ (∀ p, 0 ≤ p → a 12 p = a 96 p) ∧ a 13 7 = a 87 3 ∧ a 21 6 = 0 ∧ a 88 114 = 0
def zInv (a : xA) (b : xB) : Prop := kOk (xS a b) ∧ kP (xS a b) ∧ xAr a ∧ (0 ≤ a 88 114 ∧ a 88 114 ≤ 60) ∧ a 0 12 = a 87 4 ∧ (a 0 12 = 0 → zZ a)
noncomputable def zM (W : Nat) : Bool := W.testBit (bRg 1 1) || W.testBit (bRg 87 9) || W.testBit (bRg 2 0) || W.testBit (bRg 93 0) || W.testBit (bRg 12 0) || W.testBit (bRg 96 0) || W.testBit (bRg 13 7) || W.testBit (bRg 87 3) || W.testBit (bRg 21 6) || W.testBit (bRg 88 114)
theorem zFrB {a a' : xA} {b b' : xB} {W : Nat} (h : zInv a b) (hg : ¬ a 0 12 = 0) (h1 : kOk (xS a' b')) (h2 : kP (xS a' b')) (h3 : xAr a') (h4 : 0 ≤ a' 88 114 ∧ a' 88 114 ≤ 60) (hW : kSm W (xS a' b') (xS a b)) (f1 : W.testBit (bRg 0 12) = false) (f2 : W.testBit (bRg 87 4) = false) : zInv a' b' := by
  obtain ⟨i1, i2, i3, i4, i5, i6⟩ := h
  have e1 := (xFr hW h3 i3 (p := 0) (k := 12) (by decide) f1).1
  have e2 := (xFr hW h3 i3 (p := 87) (k := 4) (by decide) f2).1
  exact ⟨h1, h2, h3, h4, by rw [e1, e2]; exact i5, fun e => absurd (e1 ▸ e) hg⟩
theorem zFr {a a' : xA} {b b' : xB} {W : Nat} (h : zInv a b) (h1 : kOk (xS a' b')) (h2 : kP (xS a' b')) (h3 : xAr a') (h4 : 0 ≤ a' 88 114 ∧ a' 88 114 ≤ 60) (hW : kSm W (xS a' b') (xS a b)) (f1 : W.testBit (bRg 0 12) = false) (f2 : W.testBit (bRg 87 4) = false) (f3 : zM W = false) : zInv a' b' := by
  obtain ⟨i1, i2, i3, i4, i5, i6⟩ := h
  have e1 := (xFr hW h3 i3 (p := 0) (k := 12) (by decide) f1).1
  have e2 := (xFr hW h3 i3 (p := 87) (k := 4) (by decide) f2).1
  unfold zM at f3
  simp only [Bool.or_eq_false_iff] at f3
  obtain ⟨⟨⟨⟨⟨⟨⟨⟨⟨m1, m2⟩, m3⟩, m4⟩, m5⟩, m6⟩, m7⟩, m8⟩, m9⟩, m10⟩ := f3
  have c1 := (xFr hW h3 i3 (p := 1) (k := 1) (by decide) m1).1
  have c2 := (xFr hW h3 i3 (p := 87) (k := 9) (by decide) m2).1
  have c3 := fun j (hj : 0 ≤ j) => (xFrr hW h3 i3 (p := 2) (by decide +kernel) m3 hj).1
  have c4 := fun j (hj : 0 ≤ j) => (xFrr hW h3 i3 (p := 93) (by decide +kernel) m4 hj).1
  have c5 := fun j (hj : 0 ≤ j) => (xFrr hW h3 i3 (p := 12) (by decide +kernel) m5 hj).1
  have c6 := fun j (hj : 0 ≤ j) => (xFrr hW h3 i3 (p := 96) (by decide +kernel) m6 hj).1
  have c7 := (xFr hW h3 i3 (p := 13) (k := 7) (by decide) m7).1
  have c8 := (xFr hW h3 i3 (p := 87) (k := 3) (by decide) m8).1
  have c9 := (xFr hW h3 i3 (p := 21) (k := 6) (by decide) m9).1
  have c10 := (xFr hW h3 i3 (p := 88) (k := 114) (by decide) m10).1
  refine ⟨h1, h2, h3, h4, by rw [e1, e2]; exact i5, fun e => ?_⟩
  rw [e1] at e
  obtain ⟨z1, z2, z3, z4, z5, z6⟩ := i6 e
  refine ⟨by rw [c1, c2]; exact z1, fun j hj => ?_, fun p hp => ?_, by rw [c7, c8]; exact z4, by rw [c9]; exact z5, by rw [c10]; exact z6⟩
  · rw [c1, c3 j hj, c4 j hj]
    exact z2 j hj
  · rw [c5 p hp, c6 p hp]
    exact z3 p hp
/-- an exact run and what the engine tells of it -/
theorem zJoin {ro : Nat → Nat × (Nat → Int32)} {mm W : Nat} {vs : List Value} {a : xA} {b : xB} {Q R : Option Value → pmS → Prop} (h1 : pmCs ro 59 mm vs (xS a b) fun _ s => kOk s ∧ kP s ∧ kSm W s (xS a b)) (h2 : pmCs ro 59 mm vs (xS a b) R) (hQ : ∀ r s, kOk s → kP s → kSm W s (xS a b) → R r s → Q r s) : pmCs ro 59 mm vs (xS a b) Q :=
  pmCs_mono (pmCs_deep (pmCs_and h1 h2) (by decide)) fun r s h => hQ r s h.1.1 h.1.2.1 h.1.2.2 h.2
theorem xStep_mono {ro : Nat → Nat × (Nat → Int32)} {d mm mm' : Nat} {as as' : List Value} {Inv : xA → xB → Prop} {A A' : Int → Int → Prop} {a : xA} {b : xB} (h : xStep ro d mm as mm' as' Inv A a b) (hA : ∀ z z', A z z' → A' z z') : xStep ro d mm as mm' as' Inv A' a b := by
  refine pmCs_mono h ?_
  rintro r s ⟨z, a1, b1, e1, e2, e3, h2⟩
  refine ⟨z, a1, b1, e1, e2, e3, pmCs_mono h2 ?_⟩
  rintro r' s' ⟨z', a2, b2, g1, g2, g3, g4, g5⟩
  exact ⟨z', a2, b2, g1, g2, g3, g4, hA _ _ g5⟩
theorem zS2 {Ln : Nat} {xs : Nat → Int32} (hLn : Ln ≤ 3072) : xHyp2 Ln xs zInv := by
  intro v0 hv0 v1 hv1 a b hI
  unfold xStep
  refine xe20 (xL0 hLn) (xC20 hLn) hI.1 hI.2.1 hI.2.2.1 (by decide) hv0 (by omega) (fun z1 a1 b1 k1 k2 k3 k4 k5 => ?_)
  have hI1 : zInv a1 b1 := zFr hI k1 k2 k3 (by rw [(xFr k4 k3 hI.2.2.1 (p := 88) (k := 114) (by decide) (by decide +kernel)).1]; exact hI.2.2.2.1) k4 (by decide +kernel) (by decide +kernel) (by decide +kernel)
  refine ⟨z1, a1, b1, rfl, ⟨by omega, by omega⟩, rfl, ?_⟩
  clear k1 k2 k3 k4
  refine xe141 (xL0 hLn) (xC141 hLn) hI1.1 hI1.2.1 hI1.2.2.1 (by decide) hv0 (by omega) (fun z2 a2 b2 k1 k2 k3 k4 k5 => ?_)
  exact ⟨z2, a2, b2, rfl, ⟨by omega, by omega⟩, rfl, zFr hI1 k1 k2 k3 (by rw [(xFr k4 k3 hI1.2.2.1 (p := 88) (k := 114) (by decide) (by decide +kernel)).1]; exact hI1.2.2.2.1) k4 (by decide +kernel) (by decide +kernel) (by decide +kernel), trivial⟩
theorem zS3 {Ln : Nat} {xs : Nat → Int32} (hLn : Ln ≤ 3072) : xHyp3 Ln xs zInv := by
  intro v0 hv0 v1 hv1 a b hI
  unfold xStep
  refine xe23 (xL0 hLn) (xC23 hLn) hI.1 hI.2.1 hI.2.2.1 (by decide) hv0 (by omega) (fun z1 a1 b1 k1 k2 k3 k4 k5 => ?_)
  have hI1 : zInv a1 b1 := zFr hI k1 k2 k3 (by rw [(xFr k4 k3 hI.2.2.1 (p := 88) (k := 114) (by decide) (by decide +kernel)).1]; exact hI.2.2.2.1) k4 (by decide +kernel) (by decide +kernel) (by decide +kernel)
  refine ⟨z1, a1, b1, rfl, ⟨by omega, by omega⟩, rfl, ?_⟩
  clear k1 k2 k3 k4
  refine xe142 (xL0 hLn) (xC142 hLn) hI1.1 hI1.2.1 hI1.2.2.1 (by decide) hv0 (by omega) (fun z2 a2 b2 k1 k2 k3 k4 k5 => ?_)
  exact ⟨z2, a2, b2, rfl, ⟨by omega, by omega⟩, rfl, zFr hI1 k1 k2 k3 (by rw [(xFr k4 k3 hI1.2.2.1 (p := 88) (k := 114) (by decide) (by decide +kernel)).1]; exact hI1.2.2.2.1) k4 (by decide +kernel) (by decide +kernel) (by decide +kernel), trivial⟩
theorem zS4 {Ln : Nat} {xs : Nat → Int32} (hLn : Ln ≤ 3072) : xHyp4 Ln xs zInv := by
  intro v0 hv0 v1 hv1 v2 hv2 v3 hv3 a b hI
  unfold xStep
  refine xe25 (xL0 hLn) (xC25 hLn) hI.1 hI.2.1 hI.2.2.1 (by decide) hv0 (by omega) hv2 hv3 (fun z1 a1 b1 k1 k2 k3 k4 k5 => ?_)
  have hI1 : zInv a1 b1 := zFr hI k1 k2 k3 (by rw [(xFr k4 k3 hI.2.2.1 (p := 88) (k := 114) (by decide) (by decide +kernel)).1]; exact hI.2.2.2.1) k4 (by decide +kernel) (by decide +kernel) (by decide +kernel)
  refine ⟨z1, a1, b1, rfl, ⟨by omega, by omega⟩, rfl, ?_⟩
  clear k1 k2 k3 k4
  refine xe145 (xL0 hLn) (xC145 hLn) hI1.1 hI1.2.1 hI1.2.2.1 (by decide) hv0 (by omega) hv2 hv3 (fun z2 a2 b2 k1 k2 k3 k4 k5 => ?_)
  exact ⟨z2, a2, b2, rfl, ⟨by omega, by omega⟩, rfl, zFr hI1 k1 k2 k3 (by rw [(xFr k4 k3 hI1.2.2.1 (p := 88) (k := 114) (by decide) (by decide +kernel)).1]; exact hI1.2.2.2.1) k4 (by decide +kernel) (by decide +kernel) (by decide +kernel), trivial⟩
theorem zS5 {Ln : Nat} {xs : Nat → Int32} (hLn : Ln ≤ 3072) : xHyp5 Ln xs zInv := by
  intro v0 hv0 v1 hv1 a b hI
  unfold xStep
  refine xe28 (xL0 hLn) (xC28 hLn) hI.1 hI.2.1 hI.2.2.1 (by decide) hv0 hv1 (fun z1 a1 b1 k1 k2 k3 k4 k5 => ?_)
  have hI1 : zInv a1 b1 := zFr hI k1 k2 k3 (by rw [(xFr k4 k3 hI.2.2.1 (p := 88) (k := 114) (by decide) (by decide +kernel)).1]; exact hI.2.2.2.1) k4 (by decide +kernel) (by decide +kernel) (by decide +kernel)
  refine ⟨z1, a1, b1, rfl, ⟨by omega, by omega⟩, rfl, ?_⟩
  clear k1 k2 k3 k4
  refine xe150 (xL0 hLn) (xC150 hLn) hI1.1 hI1.2.1 hI1.2.2.1 (by decide) hv0 hv1 (fun z2 a2 b2 k1 k2 k3 k4 k5 => ?_)
  exact ⟨z2, a2, b2, rfl, ⟨by omega, by omega⟩, rfl, zFr hI1 k1 k2 k3 (by rw [(xFr k4 k3 hI1.2.2.1 (p := 88) (k := 114) (by decide) (by decide +kernel)).1]; exact hI1.2.2.2.1) k4 (by decide +kernel) (by decide +kernel) (by decide +kernel), trivial⟩
theorem zS10 {Ln : Nat} {xs : Nat → Int32} (hLn : Ln ≤ 3072) : xHyp10 Ln xs zInv := by
  intro v0 hv0 v1 hv1 v2 hv2 a b hI
  unfold xStep
  refine xe68 (xL0 hLn) (xC68 hLn) hI.1 hI.2.1 hI.2.2.1 (by decide) hv0 (by omega) hv2 (fun z1 a1 b1 k1 k2 k3 k4 k5 => ?_)
  have hI1 : zInv a1 b1 := zFr hI k1 k2 k3 (by rw [(xFr k4 k3 hI.2.2.1 (p := 88) (k := 114) (by decide) (by decide +kernel)).1]; exact hI.2.2.2.1) k4 (by decide +kernel) (by decide +kernel) (by decide +kernel)
  refine ⟨z1, a1, b1, rfl, ⟨by omega, by omega⟩, rfl, ?_⟩
  clear k1 k2 k3 k4
  refine xe182 (xL0 hLn) (xC182 hLn) hI1.1 hI1.2.1 hI1.2.2.1 (by decide) hv0 (by omega) hv2 (fun z2 a2 b2 k1 k2 k3 k4 k5 => ?_)
  exact ⟨z2, a2, b2, rfl, ⟨by omega, by omega⟩, rfl, zFr hI1 k1 k2 k3 (by rw [(xFr k4 k3 hI1.2.2.1 (p := 88) (k := 114) (by decide) (by decide +kernel)).1]; exact hI1.2.2.2.1) k4 (by decide +kernel) (by decide +kernel) (by decide +kernel), trivial⟩
theorem zS11 {Ln : Nat} {xs : Nat → Int32} (hLn : Ln ≤ 3072) : xHyp11 Ln xs zInv := by
  intro v0 hv0 v1 hv1 a b hI
  unfold xStep
  refine xe70 (xL0 hLn) (xC70 hLn) hI.1 hI.2.1 hI.2.2.1 (by decide) hv0 hv1 (fun z1 a1 b1 k1 k2 k3 k4 k5 => ?_)
  have hI1 : zInv a1 b1 := zFr hI k1 k2 k3 (by rw [(xFr k4 k3 hI.2.2.1 (p := 88) (k := 114) (by decide) (by decide +kernel)).1]; exact hI.2.2.2.1) k4 (by decide +kernel) (by decide +kernel) (by decide +kernel)
  refine ⟨z1, a1, b1, rfl, ⟨by omega, by omega⟩, rfl, ?_⟩
  clear k1 k2 k3 k4
  refine xe183 (xL0 hLn) (xC183 hLn) hI1.1 hI1.2.1 hI1.2.2.1 (by decide) hv0 hv1 (fun z2 a2 b2 k1 k2 k3 k4 k5 => ?_)
  exact ⟨z2, a2, b2, rfl, ⟨by omega, by omega⟩, rfl, zFr hI1 k1 k2 k3 (by rw [(xFr k4 k3 hI1.2.2.1 (p := 88) (k := 114) (by decide) (by decide +kernel)).1]; exact hI1.2.2.2.1) k4 (by decide +kernel) (by decide +kernel) (by decide +kernel), trivial⟩
theorem zS12 {Ln : Nat} {xs : Nat → Int32} (hLn : Ln ≤ 3072) : xHyp12 Ln xs zInv := by
  intro v0 hv0 v1 hv1 v2 hv2 a b hI
  unfold xStep
  refine xe76 (xL0 hLn) (xC76 hLn) hI.1 hI.2.1 hI.2.2.1 (by decide) hv0 hv1 hv2 (fun z1 a1 b1 k1 k2 k3 k4 k5 => ?_)
  have hI1 : zInv a1 b1 := zFr hI k1 k2 k3 (by rw [(xFr k4 k3 hI.2.2.1 (p := 88) (k := 114) (by decide) (by decide +kernel)).1]; exact hI.2.2.2.1) k4 (by decide +kernel) (by decide +kernel) (by decide +kernel)
  refine ⟨z1, a1, b1, rfl, ⟨by omega, by omega⟩, rfl, ?_⟩
  clear k1 k2 k3 k4
  refine xe189 (xL0 hLn) (xC189 hLn) hI1.1 hI1.2.1 hI1.2.2.1 (by decide) hv0 hv1 hv2 (fun z2 a2 b2 k1 k2 k3 k4 k5 => ?_)
  exact ⟨z2, a2, b2, rfl, ⟨by omega, by omega⟩, rfl, zFr hI1 k1 k2 k3 (by rw [(xFr k4 k3 hI1.2.2.1 (p := 88) (k := 114) (by decide) (by decide +kernel)).1]; exact hI1.2.2.2.1) k4 (by decide +kernel) (by decide +kernel) (by decide +kernel), trivial⟩
theorem zS13 {Ln : Nat} {xs : Nat → Int32} (hLn : Ln ≤ 3072) : xHyp13 Ln xs zInv := by
  intro v0 hv0 a b hI
  unfold xStep
  refine xe84 (xL0 hLn) (xC84 hLn) hI.1 hI.2.1 hI.2.2.1 (by decide) hv0 (fun z1 a1 b1 k1 k2 k3 k4 k5 => ?_)
  have hI1 : zInv a1 b1 := zFr hI k1 k2 k3 (by rw [(xFr k4 k3 hI.2.2.1 (p := 88) (k := 114) (by decide) (by decide +kernel)).1]; exact hI.2.2.2.1) k4 (by decide +kernel) (by decide +kernel) (by decide +kernel)
  refine ⟨z1, a1, b1, rfl, ⟨by omega, by omega⟩, rfl, ?_⟩
  clear k1 k2 k3 k4
  refine xe197 (xL0 hLn) (xC197 hLn) hI1.1 hI1.2.1 hI1.2.2.1 (by decide) hv0 (fun z2 a2 b2 k1 k2 k3 k4 k5 => ?_)
  exact ⟨z2, a2, b2, rfl, ⟨by omega, by omega⟩, rfl, zFr hI1 k1 k2 k3 (by rw [(xFr k4 k3 hI1.2.2.1 (p := 88) (k := 114) (by decide) (by decide +kernel)).1]; exact hI1.2.2.2.1) k4 (by decide +kernel) (by decide +kernel) (by decide +kernel), trivial⟩
theorem zS14 {Ln : Nat} {xs : Nat → Int32} (hLn : Ln ≤ 3072) : xHyp14 Ln xs zInv := by
  intro v0 hv0 v1 hv1 v2 hv2 a b hI
  unfold xStep
  by_cases hg : a 0 12 = 0
  · refine xn87 hv0 hv1 hv2 hg hI.2.2.1 ⟨-1, a, b, rfl, xRk (by decide), rfl, ?_⟩
    exact xn204 hv0 hv1 hv2 (by have := hI.2.2.2.2.1; omega) hI.2.2.1 ⟨-1, a, b, rfl, xRk (by decide), rfl, hI, trivial⟩
  · refine xe87 (xL0 hLn) (xC87 hLn) hI.1 hI.2.1 hI.2.2.1 (by decide) hv0 hv1 hv2 (fun z1 a1 b1 k1 k2 k3 k4 k5 => ?_)
    have hI1 : zInv a1 b1 := zFrB hI hg k1 k2 k3 (by rw [(xFr k4 k3 hI.2.2.1 (p := 88) (k := 114) (by decide) (by decide +kernel)).1]; exact hI.2.2.2.1) k4 (by decide +kernel) (by decide +kernel)
    have hg1 : ¬ a1 0 12 = 0 := by
      rw [(xFr k4 k3 hI.2.2.1 (p := 0) (k := 12) (by decide) (by decide +kernel)).1]
      exact hg
    refine ⟨z1, a1, b1, rfl, ⟨by omega, by omega⟩, rfl, ?_⟩
    clear k1 k2 k3 k4
    refine xe204 (xL0 hLn) (xC204 hLn) hI1.1 hI1.2.1 hI1.2.2.1 (by decide) hv0 hv1 hv2 hI1.2.2.2.1 (fun z2 a2 b2 k1 k2 k3 k4 k5 k6 => ?_)
    exact ⟨z2, a2, b2, rfl, ⟨by omega, by omega⟩, rfl, zFrB hI1 hg1 k1 k2 k3 k6 k4 (by decide +kernel) (by decide +kernel), trivial⟩
theorem zS15 {Ln : Nat} {xs : Nat → Int32} (hLn : Ln ≤ 3072) : xHyp15 Ln xs zInv := by
  intro v0 hv0 v1 hv1 a b hI
  unfold xStep
  refine xe100 (xL0 hLn) (xC100 hLn) hI.1 hI.2.1 hI.2.2.1 (by decide) hv0 hv1 (fun z1 a1 b1 k1 k2 k3 k4 k5 => ?_)
  have hI1 : zInv a1 b1 := zFr hI k1 k2 k3 (by rw [(xFr k4 k3 hI.2.2.1 (p := 88) (k := 114) (by decide) (by decide +kernel)).1]; exact hI.2.2.2.1) k4 (by decide +kernel) (by decide +kernel) (by decide +kernel)
  refine ⟨z1, a1, b1, rfl, ⟨by omega, by omega⟩, rfl, ?_⟩
  clear k1 k2 k3 k4
  refine xe215 (xL0 hLn) (xC215 hLn) hI1.1 hI1.2.1 hI1.2.2.1 (by decide) hv0 hv1 hI1.2.2.2.1 (fun z2 a2 b2 k1 k2 k3 k4 k5 => ?_)
  exact ⟨z2, a2, b2, rfl, ⟨by omega, by omega⟩, rfl, zFr hI1 k1 k2 k3 (by rw [(xFr k4 k3 hI1.2.2.1 (p := 88) (k := 114) (by decide) (by decide +kernel)).1]; exact hI1.2.2.2.1) k4 (by decide +kernel) (by decide +kernel) (by decide +kernel), trivial⟩
theorem zS16 {Ln : Nat} {xs : Nat → Int32} (hLn : Ln ≤ 3072) : xHyp16 Ln xs zInv := by
  intro v0 hv0 v1 hv1 a b hI
  unfold xStep
  refine xe106 (xL0 hLn) (xC106 hLn) hI.1 hI.2.1 hI.2.2.1 (by decide) hv0 hv1 (fun z1 a1 b1 k1 k2 k3 k4 k5 => ?_)
  have hI1 : zInv a1 b1 := zFr hI k1 k2 k3 (by rw [(xFr k4 k3 hI.2.2.1 (p := 88) (k := 114) (by decide) (by decide +kernel)).1]; exact hI.2.2.2.1) k4 (by decide +kernel) (by decide +kernel) (by decide +kernel)
  refine ⟨z1, a1, b1, rfl, ⟨by omega, by omega⟩, rfl, ?_⟩
  clear k1 k2 k3 k4
  refine xe222 (xL0 hLn) (xC222 hLn) hI1.1 hI1.2.1 hI1.2.2.1 (by decide) hv0 hv1 hI1.2.2.2.1 (fun z2 a2 b2 k1 k2 k3 k4 k5 => ?_)
  exact ⟨z2, a2, b2, rfl, ⟨by omega, by omega⟩, rfl, zFr hI1 k1 k2 k3 (by rw [(xFr k4 k3 hI1.2.2.1 (p := 88) (k := 114) (by decide) (by decide +kernel)).1]; exact hI1.2.2.2.1) k4 (by decide +kernel) (by decide +kernel) (by decide +kernel), trivial⟩
theorem zS17 {Ln : Nat} {xs : Nat → Int32} (hLn : Ln ≤ 3072) : xHyp17 Ln xs zInv := by
  intro v0 hv0 a b hI
  unfold xStep
  refine xe107 (xL0 hLn) (xC107 hLn) hI.1 hI.2.1 hI.2.2.1 (by decide) hv0 (fun z1 a1 b1 k1 k2 k3 k4 k5 => ?_)
  have hI1 : zInv a1 b1 := zFr hI k1 k2 k3 (by rw [(xFr k4 k3 hI.2.2.1 (p := 88) (k := 114) (by decide) (by decide +kernel)).1]; exact hI.2.2.2.1) k4 (by decide +kernel) (by decide +kernel) (by decide +kernel)
  refine ⟨z1, a1, b1, rfl, ⟨by omega, by omega⟩, rfl, ?_⟩
  clear k1 k2 k3 k4
  refine xe201 (xL0 hLn) (xC201 hLn) hI1.1 hI1.2.1 hI1.2.2.1 (by decide) hv0 (fun z2 a2 b2 k1 k2 k3 k4 k5 => ?_)
  exact ⟨z2, a2, b2, rfl, ⟨by omega, by omega⟩, rfl, zFr hI1 k1 k2 k3 (by rw [(xFr k4 k3 hI1.2.2.1 (p := 88) (k := 114) (by decide) (by decide +kernel)).1]; exact hI1.2.2.2.1) k4 (by decide +kernel) (by decide +kernel) (by decide +kernel), trivial⟩
theorem zS18 {Ln : Nat} {xs : Nat → Int32} (hLn : Ln ≤ 3072) : xHyp18 Ln xs zInv := by
  intro v0 hv0 a b hI
  unfold xStep
  refine xe109 (xL0 hLn) (xC109 hLn) hI.1 hI.2.1 hI.2.2.1 (by decide) hv0 (fun z1 a1 b1 k1 k2 k3 k4 k5 => ?_)
  have hI1 : zInv a1 b1 := zFr hI k1 k2 k3 (by rw [(xFr k4 k3 hI.2.2.1 (p := 88) (k := 114) (by decide) (by decide +kernel)).1]; exact hI.2.2.2.1) k4 (by decide +kernel) (by decide +kernel) (by decide +kernel)
  refine ⟨z1, a1, b1, rfl, ⟨by omega, by omega⟩, rfl, ?_⟩
  clear k1 k2 k3 k4
  refine xe203 (xL0 hLn) (xC203 hLn) hI1.1 hI1.2.1 hI1.2.2.1 (by decide) hv0 (fun z2 a2 b2 k1 k2 k3 k4 k5 => ?_)
  exact ⟨z2, a2, b2, rfl, ⟨by omega, by omega⟩, rfl, zFr hI1 k1 k2 k3 (by rw [(xFr k4 k3 hI1.2.2.1 (p := 88) (k := 114) (by decide) (by decide +kernel)).1]; exact hI1.2.2.2.1) k4 (by decide +kernel) (by decide +kernel) (by decide +kernel), trivial⟩
theorem zS19 {Ln : Nat} {xs : Nat → Int32} (hLn : Ln ≤ 3072) : xHyp19 Ln xs zInv := by
  intro v0 hv0 a b hI
  unfold xStep
  by_cases hg : a 0 12 = 0
  · refine xn110 hv0 hg hI.2.2.1 ⟨-1, a, b, rfl, xRk (by decide), rfl, ?_⟩
    exact xn223 hv0 (by have := hI.2.2.2.2.1; omega) hI.2.2.1 ⟨-1, a, b, rfl, xRk (by decide), rfl, hI, trivial⟩
  · refine xe110 (xL0 hLn) (xC110 hLn) hI.1 hI.2.1 hI.2.2.1 (by decide) hv0 (fun z1 a1 b1 k1 k2 k3 k4 k5 => ?_)
    have hI1 : zInv a1 b1 := zFrB hI hg k1 k2 k3 (by rw [(xFr k4 k3 hI.2.2.1 (p := 88) (k := 114) (by decide) (by decide +kernel)).1]; exact hI.2.2.2.1) k4 (by decide +kernel) (by decide +kernel)
    have hg1 : ¬ a1 0 12 = 0 := by
      rw [(xFr k4 k3 hI.2.2.1 (p := 0) (k := 12) (by decide) (by decide +kernel)).1]
      exact hg
    refine ⟨z1, a1, b1, rfl, ⟨by omega, by omega⟩, rfl, ?_⟩
    clear k1 k2 k3 k4
    refine xe223 (xL0 hLn) (xC223 hLn) hI1.1 hI1.2.1 hI1.2.2.1 (by decide) hv0 hI1.2.2.2.1 (fun z2 a2 b2 k1 k2 k3 k4 k5 k6 => ?_)
    exact ⟨z2, a2, b2, rfl, ⟨by omega, by omega⟩, rfl, zFrB hI1 hg1 k1 k2 k3 k6 k4 (by decide +kernel) (by decide +kernel), trivial⟩
theorem zS20 {Ln : Nat} {xs : Nat → Int32} (hLn : Ln ≤ 3072) : xHyp20 Ln xs zInv := by
  intro a b hI
  unfold xStep
  by_cases hg : a 0 12 = 0
  · refine xn114  hg hI.2.2.1 ⟨-1, a, b, rfl, xRk (by decide), rfl, ?_⟩
    exact xn230  (by have := hI.2.2.2.2.1; omega) hI.2.2.1 ⟨-1, a, b, rfl, xRk (by decide), rfl, hI, trivial⟩
  · refine xe114 (xL0 hLn) (xC114 hLn) hI.1 hI.2.1 hI.2.2.1 (by decide)  (fun z1 a1 b1 k1 k2 k3 k4 k5 => ?_)
    have hI1 : zInv a1 b1 := zFrB hI hg k1 k2 k3 (by rw [(xFr k4 k3 hI.2.2.1 (p := 88) (k := 114) (by decide) (by decide +kernel)).1]; exact hI.2.2.2.1) k4 (by decide +kernel) (by decide +kernel)
    have hg1 : ¬ a1 0 12 = 0 := by
      rw [(xFr k4 k3 hI.2.2.1 (p := 0) (k := 12) (by decide) (by decide +kernel)).1]
      exact hg
    refine ⟨z1, a1, b1, rfl, ⟨by omega, by omega⟩, rfl, ?_⟩
    clear k1 k2 k3 k4
    refine xe230 (xL0 hLn) (xC230 hLn) hI1.1 hI1.2.1 hI1.2.2.1 (by decide) hI1.2.2.2.1 (fun z2 a2 b2 k1 k2 k3 k4 k5 k6 => ?_)
    exact ⟨z2, a2, b2, rfl, ⟨by omega, by omega⟩, rfl, zFrB hI1 hg1 k1 k2 k3 k6 k4 (by decide +kernel) (by decide +kernel), trivial⟩
theorem zS21 {Ln : Nat} {xs : Nat → Int32} (hLn : Ln ≤ 3072) : xHyp21 Ln xs zInv := by
  intro v0 hv0 v1 hv1 a b hI
  unfold xStep
  by_cases hg : a 0 12 = 0
  · refine xn115 hv0 hv1 hg hI.2.2.1 ⟨-1, a, b, rfl, xRk (by decide), rfl, ?_⟩
    exact xn231 hv0 hv1 (by have := hI.2.2.2.2.1; omega) hI.2.2.1 ⟨-1, a, b, rfl, xRk (by decide), rfl, hI, trivial⟩
  · refine xe115 (xL0 hLn) (xC115 hLn) hI.1 hI.2.1 hI.2.2.1 (by decide) hv0 hv1 (fun z1 a1 b1 k1 k2 k3 k4 k5 => ?_)
    have hI1 : zInv a1 b1 := zFrB hI hg k1 k2 k3 (by rw [(xFr k4 k3 hI.2.2.1 (p := 88) (k := 114) (by decide) (by decide +kernel)).1]; exact hI.2.2.2.1) k4 (by decide +kernel) (by decide +kernel)
    have hg1 : ¬ a1 0 12 = 0 := by
      rw [(xFr k4 k3 hI.2.2.1 (p := 0) (k := 12) (by decide) (by decide +kernel)).1]
      exact hg
    refine ⟨z1, a1, b1, rfl, ⟨by omega, by omega⟩, rfl, ?_⟩
    clear k1 k2 k3 k4
    refine xe231 (xL0 hLn) (xC231 hLn) hI1.1 hI1.2.1 hI1.2.2.1 (by decide) hv0 hv1 hI1.2.2.2.1 (fun z2 a2 b2 k1 k2 k3 k4 k5 k6 => ?_)
    exact ⟨z2, a2, b2, rfl, ⟨by omega, by omega⟩, rfl, zFrB hI1 hg1 k1 k2 k3 k6 k4 (by decide +kernel) (by decide +kernel), trivial⟩
theorem zS22 {Ln : Nat} {xs : Nat → Int32} (hLn : Ln ≤ 3072) : xHyp22 Ln xs zInv := by
  intro v0 hv0 a b hI
  unfold xStep
  by_cases hg : a 0 12 = 0
  · refine xn116 hv0 hg (hI.2.2.2.2.2 hg).2.2.2.2.1 hI.2.2.1 ⟨-1, a, b, rfl, xRk (by decide), rfl, ?_⟩
    exact xn232 hv0 (by have := hI.2.2.2.2.1; omega) (hI.2.2.2.2.2 hg).2.2.2.2.2 hI.2.2.1 ⟨-1, a, b, rfl, xRk (by decide), rfl, hI, trivial⟩
  · refine xe116 (xL0 hLn) (xC116 hLn) hI.1 hI.2.1 hI.2.2.1 (by decide) hv0 (fun z1 a1 b1 k1 k2 k3 k4 k5 => ?_)
    have hI1 : zInv a1 b1 := zFrB hI hg k1 k2 k3 (by rw [(xFr k4 k3 hI.2.2.1 (p := 88) (k := 114) (by decide) (by decide +kernel)).1]; exact hI.2.2.2.1) k4 (by decide +kernel) (by decide +kernel)
    have hg1 : ¬ a1 0 12 = 0 := by
      rw [(xFr k4 k3 hI.2.2.1 (p := 0) (k := 12) (by decide) (by decide +kernel)).1]
      exact hg
    refine ⟨z1, a1, b1, rfl, ⟨by omega, by omega⟩, rfl, ?_⟩
    clear k1 k2 k3 k4
    refine xe232 (xL0 hLn) (xC232 hLn) hI1.1 hI1.2.1 hI1.2.2.1 (by decide) hv0 hI1.2.2.2.1 (fun z2 a2 b2 k1 k2 k3 k4 k5 k6 => ?_)
    exact ⟨z2, a2, b2, rfl, ⟨by omega, by omega⟩, rfl, zFrB hI1 hg1 k1 k2 k3 k6 k4 (by decide +kernel) (by decide +kernel), trivial⟩
theorem zS23 {Ln : Nat} {xs : Nat → Int32} (hLn : Ln ≤ 3072) : xHyp23 Ln xs zInv := by
  intro v0 hv0 a b hI
  unfold xStep
  by_cases hg : a 0 12 = 0
  · refine xn119 hv0 hg hI.2.2.1 ⟨-1, a, b, rfl, xRk (by decide), rfl, ?_⟩
    exact xn236 hv0 (by have := hI.2.2.2.2.1; omega) hI.2.2.1 ⟨-1, a, b, rfl, xRk (by decide), rfl, hI, trivial⟩
  · refine xe119 (xL0 hLn) (xC119 hLn) hI.1 hI.2.1 hI.2.2.1 (by decide) hv0 (fun z1 a1 b1 k1 k2 k3 k4 k5 => ?_)
    have hI1 : zInv a1 b1 := zFrB hI hg k1 k2 k3 (by rw [(xFr k4 k3 hI.2.2.1 (p := 88) (k := 114) (by decide) (by decide +kernel)).1]; exact hI.2.2.2.1) k4 (by decide +kernel) (by decide +kernel)
    have hg1 : ¬ a1 0 12 = 0 := by
      rw [(xFr k4 k3 hI.2.2.1 (p := 0) (k := 12) (by decide) (by decide +kernel)).1]
      exact hg
    refine ⟨z1, a1, b1, rfl, ⟨by omega, by omega⟩, rfl, ?_⟩
    clear k1 k2 k3 k4
    refine xe236 (xL0 hLn) (xC236 hLn) hI1.1 hI1.2.1 hI1.2.2.1 (by decide) hv0 hI1.2.2.2.1 (fun z2 a2 b2 k1 k2 k3 k4 k5 k6 => ?_)
    exact ⟨z2, a2, b2, rfl, ⟨by omega, by omega⟩, rfl, zFrB hI1 hg1 k1 k2 k3 k6 k4 (by decide +kernel) (by decide +kernel), trivial⟩
theorem zS24 {Ln : Nat} {xs : Nat → Int32} (hLn : Ln ≤ 3072) : xHyp24 Ln xs zInv := by
  intro v0 hv0 v1 hv1 v2 hv2 v3 hv3 a b hI
  unfold xStep
  by_cases hg : a 0 12 = 0
  · refine xn120 hv0 hv1 hv2 hv3 hg hI.2.2.1 ⟨-1, a, b, rfl, xRk (by decide), rfl, ?_⟩
    exact xn237 hv0 hv1 hv2 hv3 (by have := hI.2.2.2.2.1; omega) hI.2.2.1 ⟨-1, a, b, rfl, xRk (by decide), rfl, hI, trivial⟩
  · refine xe120 (xL0 hLn) (xC120 hLn) hI.1 hI.2.1 hI.2.2.1 (by decide) hv0 hv1 hv2 hv3 (fun z1 a1 b1 k1 k2 k3 k4 k5 => ?_)
    have hI1 : zInv a1 b1 := zFrB hI hg k1 k2 k3 (by rw [(xFr k4 k3 hI.2.2.1 (p := 88) (k := 114) (by decide) (by decide +kernel)).1]; exact hI.2.2.2.1) k4 (by decide +kernel) (by decide +kernel)
    have hg1 : ¬ a1 0 12 = 0 := by
      rw [(xFr k4 k3 hI.2.2.1 (p := 0) (k := 12) (by decide) (by decide +kernel)).1]
      exact hg
    refine ⟨z1, a1, b1, rfl, ⟨by omega, by omega⟩, rfl, ?_⟩
    clear k1 k2 k3 k4
    refine xe237 (xL0 hLn) (xC237 hLn) hI1.1 hI1.2.1 hI1.2.2.1 (by decide) hv0 hv1 hv2 hv3 hI1.2.2.2.1 (fun z2 a2 b2 k1 k2 k3 k4 k5 k6 => ?_)
    exact ⟨z2, a2, b2, rfl, ⟨by omega, by omega⟩, rfl, zFrB hI1 hg1 k1 k2 k3 k6 k4 (by decide +kernel) (by decide +kernel), trivial⟩
theorem zS25 {Ln : Nat} {xs : Nat → Int32} (hLn : Ln ≤ 3072) : xHyp25 Ln xs zInv := by
  intro v0 hv0 a b hI
  unfold xStep
  refine xe124 (xL0 hLn) (xC124 hLn) hI.1 hI.2.1 hI.2.2.1 (by decide) hv0 (fun z1 a1 b1 k1 k2 k3 k4 k5 => ?_)
  have hI1 : zInv a1 b1 := zFr hI k1 k2 k3 (by rw [(xFr k4 k3 hI.2.2.1 (p := 88) (k := 114) (by decide) (by decide +kernel)).1]; exact hI.2.2.2.1) k4 (by decide +kernel) (by decide +kernel) (by decide +kernel)
  refine ⟨z1, a1, b1, rfl, ⟨by omega, by omega⟩, rfl, ?_⟩
  clear k1 k2 k3 k4
  refine xe239 (xL0 hLn) (xC239 hLn) hI1.1 hI1.2.1 hI1.2.2.1 (by decide) hv0 hI1.2.2.2.1 (fun z2 a2 b2 k1 k2 k3 k4 k5 => ?_)
  exact ⟨z2, a2, b2, rfl, ⟨by omega, by omega⟩, rfl, zFr hI1 k1 k2 k3 (by rw [(xFr k4 k3 hI1.2.2.1 (p := 88) (k := 114) (by decide) (by decide +kernel)).1]; exact hI1.2.2.2.1) k4 (by decide +kernel) (by decide +kernel) (by decide +kernel), trivial⟩
theorem zS26 {Ln : Nat} {xs : Nat → Int32} (hLn : Ln ≤ 3072) : xHyp26 Ln xs zInv := by
  intro v0 hv0 v1 hv1 v2 hv2 a b hI
  unfold xStep
  refine xe127 (xL0 hLn) (xC127 hLn) hI.1 hI.2.1 hI.2.2.1 (by decide) hv0 hv1 hv2 (fun z1 a1 b1 k1 k2 k3 k4 k5 => ?_)
  have hI1 : zInv a1 b1 := zFr hI k1 k2 k3 (by rw [(xFr k4 k3 hI.2.2.1 (p := 88) (k := 114) (by decide) (by decide +kernel)).1]; exact hI.2.2.2.1) k4 (by decide +kernel) (by decide +kernel) (by decide +kernel)
  refine ⟨z1, a1, b1, rfl, ⟨by omega, by omega⟩, rfl, ?_⟩
  clear k1 k2 k3 k4
  refine xe240 (xL0 hLn) (xC240 hLn) hI1.1 hI1.2.1 hI1.2.2.1 (by decide) hv0 hv1 hv2 hI1.2.2.2.1 (fun z2 a2 b2 k1 k2 k3 k4 k5 => ?_)
  exact ⟨z2, a2, b2, rfl, ⟨by omega, by omega⟩, rfl, zFr hI1 k1 k2 k3 (by rw [(xFr k4 k3 hI1.2.2.1 (p := 88) (k := 114) (by decide) (by decide +kernel)).1]; exact hI1.2.2.2.1) k4 (by decide +kernel) (by decide +kernel) (by decide +kernel), trivial⟩
theorem zS27 {Ln : Nat} {xs : Nat → Int32} (hLn : Ln ≤ 3072) : xHyp27 Ln xs zInv := by
  intro v0 hv0 v1 hv1 a b hI
  unfold xStep
  by_cases hg : a 0 12 = 0
  · refine xn129 hv0 hv1 (hI.2.2.2.2.2 hg).2.2.2.2.1 hI.2.2.1 ⟨-2, a, b, rfl, xRk (by decide), rfl, ?_⟩
    exact xn241 hv0 hv1 (hI.2.2.2.2.2 hg).2.2.2.2.2 hI.2.2.1 ⟨-2, a, b, rfl, xRk (by decide), rfl, hI, trivial⟩
  · refine xe129 (xL0 hLn) (xC129 hLn) hI.1 hI.2.1 hI.2.2.1 (by decide) hv0 hv1 (fun z1 a1 b1 k1 k2 k3 k4 k5 => ?_)
    have hI1 : zInv a1 b1 := zFrB hI hg k1 k2 k3 (by rw [(xFr k4 k3 hI.2.2.1 (p := 88) (k := 114) (by decide) (by decide +kernel)).1]; exact hI.2.2.2.1) k4 (by decide +kernel) (by decide +kernel)
    have hg1 : ¬ a1 0 12 = 0 := by
      rw [(xFr k4 k3 hI.2.2.1 (p := 0) (k := 12) (by decide) (by decide +kernel)).1]
      exact hg
    refine ⟨z1, a1, b1, rfl, ⟨by omega, by omega⟩, rfl, ?_⟩
    clear k1 k2 k3 k4
    refine xe241 (xL0 hLn) (xC241 hLn) hI1.1 hI1.2.1 hI1.2.2.1 (by decide) hv0 hv1 hI1.2.2.2.1 (fun z2 a2 b2 k1 k2 k3 k4 k5 => ?_)
    exact ⟨z2, a2, b2, rfl, ⟨by omega, by omega⟩, rfl, zFrB hI1 hg1 k1 k2 k3 (by rw [(xFr k4 k3 hI1.2.2.1 (p := 88) (k := 114) (by decide) (by decide +kernel)).1]; exact hI1.2.2.2.1) k4 (by decide +kernel) (by decide +kernel), trivial⟩
theorem zS28 {Ln : Nat} {xs : Nat → Int32} (hLn : Ln ≤ 3072) : xHyp28 Ln xs zInv := by
  intro v0 hv0 a b hI
  unfold xStep
  refine xe132 (xL0 hLn) (xC132 hLn) hI.1 hI.2.1 hI.2.2.1 (by decide) hv0 (fun z1 a1 b1 k1 k2 k3 k4 k5 => ?_)
  have hI1 : zInv a1 b1 := zFr hI k1 k2 k3 (by rw [(xFr k4 k3 hI.2.2.1 (p := 88) (k := 114) (by decide) (by decide +kernel)).1]; exact hI.2.2.2.1) k4 (by decide +kernel) (by decide +kernel) (by decide +kernel)
  refine ⟨z1, a1, b1, rfl, ⟨by omega, by omega⟩, rfl, ?_⟩
  clear k1 k2 k3 k4
  refine xe243 (xL0 hLn) (xC243 hLn) hI1.1 hI1.2.1 hI1.2.2.1 (by decide) hv0 (fun z2 a2 b2 k1 k2 k3 k4 k5 => ?_)
  exact ⟨z2, a2, b2, rfl, ⟨by omega, by omega⟩, rfl, zFr hI1 k1 k2 k3 (by rw [(xFr k4 k3 hI1.2.2.1 (p := 88) (k := 114) (by decide) (by decide +kernel)).1]; exact hI1.2.2.2.1) k4 (by decide +kernel) (by decide +kernel) (by decide +kernel), trivial⟩
theorem zS29 {Ln : Nat} {xs : Nat → Int32} (hLn : Ln ≤ 3072) : xHyp29 Ln xs zInv := by
  intro v0 hv0 a b hI
  unfold xStep
  refine xe133 (xL0 hLn) (xC133 hLn) hI.1 hI.2.1 hI.2.2.1 (by decide) hv0 (fun z1 a1 b1 k1 k2 k3 k4 k5 => ?_)
  have hI1 : zInv a1 b1 := zFr hI k1 k2 k3 (by rw [(xFr k4 k3 hI.2.2.1 (p := 88) (k := 114) (by decide) (by decide +kernel)).1]; exact hI.2.2.2.1) k4 (by decide +kernel) (by decide +kernel) (by decide +kernel)
  refine ⟨z1, a1, b1, rfl, ⟨by omega, by omega⟩, rfl, ?_⟩
  clear k1 k2 k3 k4
  refine xe244 (xL0 hLn) (xC244 hLn) hI1.1 hI1.2.1 hI1.2.2.1 (by decide) hv0 (fun z2 a2 b2 k1 k2 k3 k4 k5 => ?_)
  exact ⟨z2, a2, b2, rfl, ⟨by omega, by omega⟩, rfl, zFr hI1 k1 k2 k3 (by rw [(xFr k4 k3 hI1.2.2.1 (p := 88) (k := 114) (by decide) (by decide +kernel)).1]; exact hI1.2.2.2.1) k4 (by decide +kernel) (by decide +kernel) (by decide +kernel), trivial⟩
theorem zS30 {Ln : Nat} {xs : Nat → Int32} (hLn : Ln ≤ 3072) : xHyp30 Ln xs zInv := by
  intro v0 hv0 a b hI
  unfold xStep
  refine xe134 (xL0 hLn) (xC134 hLn) hI.1 hI.2.1 hI.2.2.1 (by decide) hv0 (fun z1 a1 b1 k1 k2 k3 k4 k5 => ?_)
  have hI1 : zInv a1 b1 := zFr hI k1 k2 k3 (by rw [(xFr k4 k3 hI.2.2.1 (p := 88) (k := 114) (by decide) (by decide +kernel)).1]; exact hI.2.2.2.1) k4 (by decide +kernel) (by decide +kernel) (by decide +kernel)
  refine ⟨z1, a1, b1, rfl, ⟨by omega, by omega⟩, rfl, ?_⟩
  clear k1 k2 k3 k4
  refine xe245 (xL0 hLn) (xC245 hLn) hI1.1 hI1.2.1 hI1.2.2.1 (by decide) hv0 (fun z2 a2 b2 k1 k2 k3 k4 k5 => ?_)
  exact ⟨z2, a2, b2, rfl, ⟨by omega, by omega⟩, rfl, zFr hI1 k1 k2 k3 (by rw [(xFr k4 k3 hI1.2.2.1 (p := 88) (k := 114) (by decide) (by decide +kernel)).1]; exact hI1.2.2.2.1) k4 (by decide +kernel) (by decide +kernel) (by decide +kernel), trivial⟩
end
