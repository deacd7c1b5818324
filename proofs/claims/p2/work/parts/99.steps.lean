/-! door: what both hold, kept by every call -/
section
set_option maxRecDepth 100000
def yInv (a : xA) (b : xB) : Prop := kOk (xS a b) ∧ kP (xS a b) ∧ xAr a ∧ (0 ≤ a 88 114 ∧ a 88 114 ≤ 60) ∧ a 0 12 = a 87 4 ∧ ∀ k, 0 ≤ k → k < 49 → a 90 k = if xBit (b 3 3) k = true then 1 else 0
theorem yFr {a a' : xA} {b b' : xB} {W : Nat} (h : yInv a b) (h1 : kOk (xS a' b')) (h2 : kP (xS a' b')) (h3 : xAr a') (h4 : 0 ≤ a' 88 114 ∧ a' 88 114 ≤ 60) (hW : kSm W (xS a' b') (xS a b)) (f1 : W.testBit (bRg 0 12) = false) (f2 : W.testBit (bRg 87 4) = false) (f3 : W.testBit (bRg 3 3) = false) (f4 : W.testBit (bRg 90 0) = false) : yInv a' b' := by
  obtain ⟨i1, i2, i3, i4, i5, i6⟩ := h
  refine ⟨h1, h2, h3, h4, ?_, fun k g0 g1 => ?_⟩
  · rw [(xFr hW h3 i3 (p := 0) (k := 12) (by decide) f1).1, (xFr hW h3 i3 (p := 87) (k := 4) (by decide) f2).1]
    exact i5
  · rw [(xFrr hW h3 i3 (p := 90) (by decide +kernel) f4 g0).1, (xFr hW h3 i3 (p := 3) (k := 3) (by decide) f3).2]
    exact i6 k g0 g1
theorem yS2 {Ln : Nat} {xs : Nat → Int32} (hLn : Ln ≤ 3072) : xHyp2 Ln xs yInv := by
  intro v0 hv0 v1 hv1 a b hI
  unfold xStep
  refine xe20 (xL0 hLn) (xC20 hLn) hI.1 hI.2.1 hI.2.2.1 (by decide) hv0 (by omega) (fun z1 a1 b1 k1 k2 k3 k4 k5 => ?_)
  have hI1 : yInv a1 b1 := yFr hI k1 k2 k3 (by rw [(xFr k4 k3 hI.2.2.1 (p := 88) (k := 114) (by decide) (by decide +kernel)).1]; exact hI.2.2.2.1) k4 (by decide +kernel) (by decide +kernel) (by decide +kernel) (by decide +kernel)
  refine ⟨z1, a1, b1, rfl, ⟨by omega, by omega⟩, rfl, ?_⟩
  clear k1 k2 k3 k4
  refine xe141 (xL0 hLn) (xC141 hLn) hI1.1 hI1.2.1 hI1.2.2.1 (by decide) hv0 (by omega) (fun z2 a2 b2 k1 k2 k3 k4 k5 => ?_)
  exact ⟨z2, a2, b2, rfl, ⟨by omega, by omega⟩, rfl, yFr hI1 k1 k2 k3 (by rw [(xFr k4 k3 hI1.2.2.1 (p := 88) (k := 114) (by decide) (by decide +kernel)).1]; exact hI1.2.2.2.1) k4 (by decide +kernel) (by decide +kernel) (by decide +kernel) (by decide +kernel), trivial⟩
theorem yS3 {Ln : Nat} {xs : Nat → Int32} (hLn : Ln ≤ 3072) : xHyp3 Ln xs yInv := by
  intro v0 hv0 v1 hv1 a b hI
  unfold xStep
  refine xe23 (xL0 hLn) (xC23 hLn) hI.1 hI.2.1 hI.2.2.1 (by decide) hv0 (by omega) (fun z1 a1 b1 k1 k2 k3 k4 k5 => ?_)
  have hI1 : yInv a1 b1 := yFr hI k1 k2 k3 (by rw [(xFr k4 k3 hI.2.2.1 (p := 88) (k := 114) (by decide) (by decide +kernel)).1]; exact hI.2.2.2.1) k4 (by decide +kernel) (by decide +kernel) (by decide +kernel) (by decide +kernel)
  refine ⟨z1, a1, b1, rfl, ⟨by omega, by omega⟩, rfl, ?_⟩
  clear k1 k2 k3 k4
  refine xe142 (xL0 hLn) (xC142 hLn) hI1.1 hI1.2.1 hI1.2.2.1 (by decide) hv0 (by omega) (fun z2 a2 b2 k1 k2 k3 k4 k5 => ?_)
  exact ⟨z2, a2, b2, rfl, ⟨by omega, by omega⟩, rfl, yFr hI1 k1 k2 k3 (by rw [(xFr k4 k3 hI1.2.2.1 (p := 88) (k := 114) (by decide) (by decide +kernel)).1]; exact hI1.2.2.2.1) k4 (by decide +kernel) (by decide +kernel) (by decide +kernel) (by decide +kernel), trivial⟩
theorem yS4 {Ln : Nat} {xs : Nat → Int32} (hLn : Ln ≤ 3072) : xHyp4 Ln xs yInv := by
  intro v0 hv0 v1 hv1 v2 hv2 v3 hv3 a b hI
  unfold xStep
  refine xe25 (xL0 hLn) (xC25 hLn) hI.1 hI.2.1 hI.2.2.1 (by decide) hv0 (by omega) hv2 hv3 (fun z1 a1 b1 k1 k2 k3 k4 k5 => ?_)
  have hI1 : yInv a1 b1 := yFr hI k1 k2 k3 (by rw [(xFr k4 k3 hI.2.2.1 (p := 88) (k := 114) (by decide) (by decide +kernel)).1]; exact hI.2.2.2.1) k4 (by decide +kernel) (by decide +kernel) (by decide +kernel) (by decide +kernel)
  refine ⟨z1, a1, b1, rfl, ⟨by omega, by omega⟩, rfl, ?_⟩
  clear k1 k2 k3 k4
  refine xe145 (xL0 hLn) (xC145 hLn) hI1.1 hI1.2.1 hI1.2.2.1 (by decide) hv0 (by omega) hv2 hv3 (fun z2 a2 b2 k1 k2 k3 k4 k5 => ?_)
  exact ⟨z2, a2, b2, rfl, ⟨by omega, by omega⟩, rfl, yFr hI1 k1 k2 k3 (by rw [(xFr k4 k3 hI1.2.2.1 (p := 88) (k := 114) (by decide) (by decide +kernel)).1]; exact hI1.2.2.2.1) k4 (by decide +kernel) (by decide +kernel) (by decide +kernel) (by decide +kernel), trivial⟩
theorem yS5 {Ln : Nat} {xs : Nat → Int32} (hLn : Ln ≤ 3072) : xHyp5 Ln xs yInv := by
  intro v0 hv0 v1 hv1 a b hI
  unfold xStep
  refine xe28 (xL0 hLn) (xC28 hLn) hI.1 hI.2.1 hI.2.2.1 (by decide) hv0 hv1 (fun z1 a1 b1 k1 k2 k3 k4 k5 => ?_)
  have hI1 : yInv a1 b1 := yFr hI k1 k2 k3 (by rw [(xFr k4 k3 hI.2.2.1 (p := 88) (k := 114) (by decide) (by decide +kernel)).1]; exact hI.2.2.2.1) k4 (by decide +kernel) (by decide +kernel) (by decide +kernel) (by decide +kernel)
  refine ⟨z1, a1, b1, rfl, ⟨by omega, by omega⟩, rfl, ?_⟩
  clear k1 k2 k3 k4
  refine xe150 (xL0 hLn) (xC150 hLn) hI1.1 hI1.2.1 hI1.2.2.1 (by decide) hv0 hv1 (fun z2 a2 b2 k1 k2 k3 k4 k5 => ?_)
  exact ⟨z2, a2, b2, rfl, ⟨by omega, by omega⟩, rfl, yFr hI1 k1 k2 k3 (by rw [(xFr k4 k3 hI1.2.2.1 (p := 88) (k := 114) (by decide) (by decide +kernel)).1]; exact hI1.2.2.2.1) k4 (by decide +kernel) (by decide +kernel) (by decide +kernel) (by decide +kernel), trivial⟩
theorem yS6 {Ln : Nat} {xs : Nat → Int32} (hLn : Ln ≤ 3072) : xHyp6 Ln xs yInv := by
  intro v0 hv0 v1 hv1 v2 hv2 v3 hv3 v4 hv4 a b hI
  unfold xStep
  refine xe29 (xL0 hLn) (xC29 hLn) hI.1 hI.2.1 hI.2.2.1 (by decide) hv0 hv1 hv2 hv3 hv4 (fun z1 a1 b1 k1 k2 k3 k4 k5 => ?_)
  have hI1 : yInv a1 b1 := yFr hI k1 k2 k3 (by rw [(xFr k4 k3 hI.2.2.1 (p := 88) (k := 114) (by decide) (by decide +kernel)).1]; exact hI.2.2.2.1) k4 (by decide +kernel) (by decide +kernel) (by decide +kernel) (by decide +kernel)
  refine ⟨z1, a1, b1, rfl, ⟨by omega, by omega⟩, rfl, ?_⟩
  clear k1 k2 k3 k4
  refine xe151 (xL0 hLn) (xC151 hLn) hI1.1 hI1.2.1 hI1.2.2.1 (by decide) hv0 hv1 hv2 hv3 hv4 (fun z2 a2 b2 k1 k2 k3 k4 k5 => ?_)
  exact ⟨z2, a2, b2, rfl, ⟨by omega, by omega⟩, rfl, yFr hI1 k1 k2 k3 (by rw [(xFr k4 k3 hI1.2.2.1 (p := 88) (k := 114) (by decide) (by decide +kernel)).1]; exact hI1.2.2.2.1) k4 (by decide +kernel) (by decide +kernel) (by decide +kernel) (by decide +kernel), trivial⟩
theorem yS7 {Ln : Nat} {xs : Nat → Int32} (hLn : Ln ≤ 3072) : xHyp7 Ln xs yInv := by
  intro v0 hv0 v1 hv1 v2 hv2 a b hI
  unfold xStep
  refine xe31 (xL0 hLn) (xC31 hLn) hI.1 hI.2.1 hI.2.2.1 (by decide) hv0 hv1 hv2 (fun z1 a1 b1 k1 k2 k3 k4 k5 => ?_)
  have hI1 : yInv a1 b1 := yFr hI k1 k2 k3 (by rw [(xFr k4 k3 hI.2.2.1 (p := 88) (k := 114) (by decide) (by decide +kernel)).1]; exact hI.2.2.2.1) k4 (by decide +kernel) (by decide +kernel) (by decide +kernel) (by decide +kernel)
  refine ⟨z1, a1, b1, rfl, ⟨by omega, by omega⟩, rfl, ?_⟩
  clear k1 k2 k3 k4
  refine xe153 (xL0 hLn) (xC153 hLn) hI1.1 hI1.2.1 hI1.2.2.1 (by decide) hv0 hv1 hv2 (fun z2 a2 b2 k1 k2 k3 k4 k5 => ?_)
  exact ⟨z2, a2, b2, rfl, ⟨by omega, by omega⟩, rfl, yFr hI1 k1 k2 k3 (by rw [(xFr k4 k3 hI1.2.2.1 (p := 88) (k := 114) (by decide) (by decide +kernel)).1]; exact hI1.2.2.2.1) k4 (by decide +kernel) (by decide +kernel) (by decide +kernel) (by decide +kernel), trivial⟩
theorem yS8 {Ln : Nat} {xs : Nat → Int32} (hLn : Ln ≤ 3072) : xHyp8 Ln xs yInv := by
  intro v0 hv0 a b hI
  unfold xStep
  refine xe47 (xL0 hLn) (xC47 hLn) hI.1 hI.2.1 hI.2.2.1 (by decide) hv0 (fun z1 a1 b1 k1 k2 k3 k4 k5 => ?_)
  have hI1 : yInv a1 b1 := yFr hI k1 k2 k3 (by rw [(xFr k4 k3 hI.2.2.1 (p := 88) (k := 114) (by decide) (by decide +kernel)).1]; exact hI.2.2.2.1) k4 (by decide +kernel) (by decide +kernel) (by decide +kernel) (by decide +kernel)
  refine ⟨z1, a1, b1, rfl, ⟨by omega, by omega⟩, rfl, ?_⟩
  clear k1 k2 k3 k4
  refine xe166 (xL0 hLn) (xC166 hLn) hI1.1 hI1.2.1 hI1.2.2.1 (by decide) hv0 (fun z2 a2 b2 k1 k2 k3 k4 k5 => ?_)
  exact ⟨z2, a2, b2, rfl, ⟨by omega, by omega⟩, rfl, yFr hI1 k1 k2 k3 (by rw [(xFr k4 k3 hI1.2.2.1 (p := 88) (k := 114) (by decide) (by decide +kernel)).1]; exact hI1.2.2.2.1) k4 (by decide +kernel) (by decide +kernel) (by decide +kernel) (by decide +kernel), trivial⟩
theorem yS10 {Ln : Nat} {xs : Nat → Int32} (hLn : Ln ≤ 3072) : xHyp10 Ln xs yInv := by
  intro v0 hv0 v1 hv1 v2 hv2 a b hI
  unfold xStep
  refine xe68 (xL0 hLn) (xC68 hLn) hI.1 hI.2.1 hI.2.2.1 (by decide) hv0 (by omega) hv2 (fun z1 a1 b1 k1 k2 k3 k4 k5 => ?_)
  have hI1 : yInv a1 b1 := yFr hI k1 k2 k3 (by rw [(xFr k4 k3 hI.2.2.1 (p := 88) (k := 114) (by decide) (by decide +kernel)).1]; exact hI.2.2.2.1) k4 (by decide +kernel) (by decide +kernel) (by decide +kernel) (by decide +kernel)
  refine ⟨z1, a1, b1, rfl, ⟨by omega, by omega⟩, rfl, ?_⟩
  clear k1 k2 k3 k4
  refine xe182 (xL0 hLn) (xC182 hLn) hI1.1 hI1.2.1 hI1.2.2.1 (by decide) hv0 (by omega) hv2 (fun z2 a2 b2 k1 k2 k3 k4 k5 => ?_)
  exact ⟨z2, a2, b2, rfl, ⟨by omega, by omega⟩, rfl, yFr hI1 k1 k2 k3 (by rw [(xFr k4 k3 hI1.2.2.1 (p := 88) (k := 114) (by decide) (by decide +kernel)).1]; exact hI1.2.2.2.1) k4 (by decide +kernel) (by decide +kernel) (by decide +kernel) (by decide +kernel), trivial⟩
theorem yS11 {Ln : Nat} {xs : Nat → Int32} (hLn : Ln ≤ 3072) : xHyp11 Ln xs yInv := by
  intro v0 hv0 v1 hv1 a b hI
  unfold xStep
  refine xe70 (xL0 hLn) (xC70 hLn) hI.1 hI.2.1 hI.2.2.1 (by decide) hv0 hv1 (fun z1 a1 b1 k1 k2 k3 k4 k5 => ?_)
  have hI1 : yInv a1 b1 := yFr hI k1 k2 k3 (by rw [(xFr k4 k3 hI.2.2.1 (p := 88) (k := 114) (by decide) (by decide +kernel)).1]; exact hI.2.2.2.1) k4 (by decide +kernel) (by decide +kernel) (by decide +kernel) (by decide +kernel)
  refine ⟨z1, a1, b1, rfl, ⟨by omega, by omega⟩, rfl, ?_⟩
  clear k1 k2 k3 k4
  refine xe183 (xL0 hLn) (xC183 hLn) hI1.1 hI1.2.1 hI1.2.2.1 (by decide) hv0 hv1 (fun z2 a2 b2 k1 k2 k3 k4 k5 => ?_)
  exact ⟨z2, a2, b2, rfl, ⟨by omega, by omega⟩, rfl, yFr hI1 k1 k2 k3 (by rw [(xFr k4 k3 hI1.2.2.1 (p := 88) (k := 114) (by decide) (by decide +kernel)).1]; exact hI1.2.2.2.1) k4 (by decide +kernel) (by decide +kernel) (by decide +kernel) (by decide +kernel), trivial⟩
theorem yS12 {Ln : Nat} {xs : Nat → Int32} (hLn : Ln ≤ 3072) : xHyp12 Ln xs yInv := by
  intro v0 hv0 v1 hv1 v2 hv2 a b hI
  unfold xStep
  refine xe76 (xL0 hLn) (xC76 hLn) hI.1 hI.2.1 hI.2.2.1 (by decide) hv0 hv1 hv2 (fun z1 a1 b1 k1 k2 k3 k4 k5 => ?_)
  have hI1 : yInv a1 b1 := yFr hI k1 k2 k3 (by rw [(xFr k4 k3 hI.2.2.1 (p := 88) (k := 114) (by decide) (by decide +kernel)).1]; exact hI.2.2.2.1) k4 (by decide +kernel) (by decide +kernel) (by decide +kernel) (by decide +kernel)
  refine ⟨z1, a1, b1, rfl, ⟨by omega, by omega⟩, rfl, ?_⟩
  clear k1 k2 k3 k4
  refine xe189 (xL0 hLn) (xC189 hLn) hI1.1 hI1.2.1 hI1.2.2.1 (by decide) hv0 hv1 hv2 (fun z2 a2 b2 k1 k2 k3 k4 k5 => ?_)
  exact ⟨z2, a2, b2, rfl, ⟨by omega, by omega⟩, rfl, yFr hI1 k1 k2 k3 (by rw [(xFr k4 k3 hI1.2.2.1 (p := 88) (k := 114) (by decide) (by decide +kernel)).1]; exact hI1.2.2.2.1) k4 (by decide +kernel) (by decide +kernel) (by decide +kernel) (by decide +kernel), trivial⟩
theorem yS13 {Ln : Nat} {xs : Nat → Int32} (hLn : Ln ≤ 3072) : xHyp13 Ln xs yInv := by
  intro v0 hv0 a b hI
  unfold xStep
  refine xe84 (xL0 hLn) (xC84 hLn) hI.1 hI.2.1 hI.2.2.1 (by decide) hv0 (fun z1 a1 b1 k1 k2 k3 k4 k5 => ?_)
  have hI1 : yInv a1 b1 := yFr hI k1 k2 k3 (by rw [(xFr k4 k3 hI.2.2.1 (p := 88) (k := 114) (by decide) (by decide +kernel)).1]; exact hI.2.2.2.1) k4 (by decide +kernel) (by decide +kernel) (by decide +kernel) (by decide +kernel)
  refine ⟨z1, a1, b1, rfl, ⟨by omega, by omega⟩, rfl, ?_⟩
  clear k1 k2 k3 k4
  refine xe197 (xL0 hLn) (xC197 hLn) hI1.1 hI1.2.1 hI1.2.2.1 (by decide) hv0 (fun z2 a2 b2 k1 k2 k3 k4 k5 => ?_)
  exact ⟨z2, a2, b2, rfl, ⟨by omega, by omega⟩, rfl, yFr hI1 k1 k2 k3 (by rw [(xFr k4 k3 hI1.2.2.1 (p := 88) (k := 114) (by decide) (by decide +kernel)).1]; exact hI1.2.2.2.1) k4 (by decide +kernel) (by decide +kernel) (by decide +kernel) (by decide +kernel), trivial⟩
theorem yS14 {Ln : Nat} {xs : Nat → Int32} (hLn : Ln ≤ 3072) : xHyp14 Ln xs yInv := by
  intro v0 hv0 v1 hv1 v2 hv2 a b hI
  unfold xStep
  refine xe87 (xL0 hLn) (xC87 hLn) hI.1 hI.2.1 hI.2.2.1 (by decide) hv0 hv1 hv2 (fun z1 a1 b1 k1 k2 k3 k4 k5 => ?_)
  have hI1 : yInv a1 b1 := yFr hI k1 k2 k3 (by rw [(xFr k4 k3 hI.2.2.1 (p := 88) (k := 114) (by decide) (by decide +kernel)).1]; exact hI.2.2.2.1) k4 (by decide +kernel) (by decide +kernel) (by decide +kernel) (by decide +kernel)
  refine ⟨z1, a1, b1, rfl, ⟨by omega, by omega⟩, rfl, ?_⟩
  clear k1 k2 k3 k4
  refine xe204 (xL0 hLn) (xC204 hLn) hI1.1 hI1.2.1 hI1.2.2.1 (by decide) hv0 hv1 hv2 hI1.2.2.2.1 (fun z2 a2 b2 k1 k2 k3 k4 k5 k6 => ?_)
  exact ⟨z2, a2, b2, rfl, ⟨by omega, by omega⟩, rfl, yFr hI1 k1 k2 k3 k6 k4 (by decide +kernel) (by decide +kernel) (by decide +kernel) (by decide +kernel), trivial⟩
theorem yS15 {Ln : Nat} {xs : Nat → Int32} (hLn : Ln ≤ 3072) : xHyp15 Ln xs yInv := by
  intro v0 hv0 v1 hv1 a b hI
  unfold xStep
  refine xe100 (xL0 hLn) (xC100 hLn) hI.1 hI.2.1 hI.2.2.1 (by decide) hv0 hv1 (fun z1 a1 b1 k1 k2 k3 k4 k5 => ?_)
  have hI1 : yInv a1 b1 := yFr hI k1 k2 k3 (by rw [(xFr k4 k3 hI.2.2.1 (p := 88) (k := 114) (by decide) (by decide +kernel)).1]; exact hI.2.2.2.1) k4 (by decide +kernel) (by decide +kernel) (by decide +kernel) (by decide +kernel)
  refine ⟨z1, a1, b1, rfl, ⟨by omega, by omega⟩, rfl, ?_⟩
  clear k1 k2 k3 k4
  refine xe215 (xL0 hLn) (xC215 hLn) hI1.1 hI1.2.1 hI1.2.2.1 (by decide) hv0 hv1 hI1.2.2.2.1 (fun z2 a2 b2 k1 k2 k3 k4 k5 => ?_)
  exact ⟨z2, a2, b2, rfl, ⟨by omega, by omega⟩, rfl, yFr hI1 k1 k2 k3 (by rw [(xFr k4 k3 hI1.2.2.1 (p := 88) (k := 114) (by decide) (by decide +kernel)).1]; exact hI1.2.2.2.1) k4 (by decide +kernel) (by decide +kernel) (by decide +kernel) (by decide +kernel), trivial⟩
theorem yS16 {Ln : Nat} {xs : Nat → Int32} (hLn : Ln ≤ 3072) : xHyp16 Ln xs yInv := by
  intro v0 hv0 v1 hv1 a b hI
  unfold xStep
  refine xe106 (xL0 hLn) (xC106 hLn) hI.1 hI.2.1 hI.2.2.1 (by decide) hv0 hv1 (fun z1 a1 b1 k1 k2 k3 k4 k5 => ?_)
  have hI1 : yInv a1 b1 := yFr hI k1 k2 k3 (by rw [(xFr k4 k3 hI.2.2.1 (p := 88) (k := 114) (by decide) (by decide +kernel)).1]; exact hI.2.2.2.1) k4 (by decide +kernel) (by decide +kernel) (by decide +kernel) (by decide +kernel)
  refine ⟨z1, a1, b1, rfl, ⟨by omega, by omega⟩, rfl, ?_⟩
  clear k1 k2 k3 k4
  refine xe222 (xL0 hLn) (xC222 hLn) hI1.1 hI1.2.1 hI1.2.2.1 (by decide) hv0 hv1 hI1.2.2.2.1 (fun z2 a2 b2 k1 k2 k3 k4 k5 => ?_)
  exact ⟨z2, a2, b2, rfl, ⟨by omega, by omega⟩, rfl, yFr hI1 k1 k2 k3 (by rw [(xFr k4 k3 hI1.2.2.1 (p := 88) (k := 114) (by decide) (by decide +kernel)).1]; exact hI1.2.2.2.1) k4 (by decide +kernel) (by decide +kernel) (by decide +kernel) (by decide +kernel), trivial⟩
theorem yS17 {Ln : Nat} {xs : Nat → Int32} (hLn : Ln ≤ 3072) : xHyp17 Ln xs yInv := by
  intro v0 hv0 a b hI
  unfold xStep
  refine xe107 (xL0 hLn) (xC107 hLn) hI.1 hI.2.1 hI.2.2.1 (by decide) hv0 (fun z1 a1 b1 k1 k2 k3 k4 k5 => ?_)
  have hI1 : yInv a1 b1 := yFr hI k1 k2 k3 (by rw [(xFr k4 k3 hI.2.2.1 (p := 88) (k := 114) (by decide) (by decide +kernel)).1]; exact hI.2.2.2.1) k4 (by decide +kernel) (by decide +kernel) (by decide +kernel) (by decide +kernel)
  refine ⟨z1, a1, b1, rfl, ⟨by omega, by omega⟩, rfl, ?_⟩
  clear k1 k2 k3 k4
  refine xe201 (xL0 hLn) (xC201 hLn) hI1.1 hI1.2.1 hI1.2.2.1 (by decide) hv0 (fun z2 a2 b2 k1 k2 k3 k4 k5 => ?_)
  exact ⟨z2, a2, b2, rfl, ⟨by omega, by omega⟩, rfl, yFr hI1 k1 k2 k3 (by rw [(xFr k4 k3 hI1.2.2.1 (p := 88) (k := 114) (by decide) (by decide +kernel)).1]; exact hI1.2.2.2.1) k4 (by decide +kernel) (by decide +kernel) (by decide +kernel) (by decide +kernel), trivial⟩
theorem yS18 {Ln : Nat} {xs : Nat → Int32} (hLn : Ln ≤ 3072) : xHyp18 Ln xs yInv := by
  intro v0 hv0 a b hI
  unfold xStep
  refine xe109 (xL0 hLn) (xC109 hLn) hI.1 hI.2.1 hI.2.2.1 (by decide) hv0 (fun z1 a1 b1 k1 k2 k3 k4 k5 => ?_)
  have hI1 : yInv a1 b1 := yFr hI k1 k2 k3 (by rw [(xFr k4 k3 hI.2.2.1 (p := 88) (k := 114) (by decide) (by decide +kernel)).1]; exact hI.2.2.2.1) k4 (by decide +kernel) (by decide +kernel) (by decide +kernel) (by decide +kernel)
  refine ⟨z1, a1, b1, rfl, ⟨by omega, by omega⟩, rfl, ?_⟩
  clear k1 k2 k3 k4
  refine xe203 (xL0 hLn) (xC203 hLn) hI1.1 hI1.2.1 hI1.2.2.1 (by decide) hv0 (fun z2 a2 b2 k1 k2 k3 k4 k5 => ?_)
  exact ⟨z2, a2, b2, rfl, ⟨by omega, by omega⟩, rfl, yFr hI1 k1 k2 k3 (by rw [(xFr k4 k3 hI1.2.2.1 (p := 88) (k := 114) (by decide) (by decide +kernel)).1]; exact hI1.2.2.2.1) k4 (by decide +kernel) (by decide +kernel) (by decide +kernel) (by decide +kernel), trivial⟩
theorem yS19 {Ln : Nat} {xs : Nat → Int32} (hLn : Ln ≤ 3072) : xHyp19 Ln xs yInv := by
  intro v0 hv0 a b hI
  unfold xStep
  refine xe110 (xL0 hLn) (xC110 hLn) hI.1 hI.2.1 hI.2.2.1 (by decide) hv0 (fun z1 a1 b1 k1 k2 k3 k4 k5 => ?_)
  have hI1 : yInv a1 b1 := yFr hI k1 k2 k3 (by rw [(xFr k4 k3 hI.2.2.1 (p := 88) (k := 114) (by decide) (by decide +kernel)).1]; exact hI.2.2.2.1) k4 (by decide +kernel) (by decide +kernel) (by decide +kernel) (by decide +kernel)
  refine ⟨z1, a1, b1, rfl, ⟨by omega, by omega⟩, rfl, ?_⟩
  clear k1 k2 k3 k4
  refine xe223 (xL0 hLn) (xC223 hLn) hI1.1 hI1.2.1 hI1.2.2.1 (by decide) hv0 hI1.2.2.2.1 (fun z2 a2 b2 k1 k2 k3 k4 k5 k6 => ?_)
  exact ⟨z2, a2, b2, rfl, ⟨by omega, by omega⟩, rfl, yFr hI1 k1 k2 k3 k6 k4 (by decide +kernel) (by decide +kernel) (by decide +kernel) (by decide +kernel), trivial⟩
theorem yS20 {Ln : Nat} {xs : Nat → Int32} (hLn : Ln ≤ 3072) : xHyp20 Ln xs yInv := by
  intro a b hI
  unfold xStep
  refine xe114 (xL0 hLn) (xC114 hLn) hI.1 hI.2.1 hI.2.2.1 (by decide)  (fun z1 a1 b1 k1 k2 k3 k4 k5 => ?_)
  have hI1 : yInv a1 b1 := yFr hI k1 k2 k3 (by rw [(xFr k4 k3 hI.2.2.1 (p := 88) (k := 114) (by decide) (by decide +kernel)).1]; exact hI.2.2.2.1) k4 (by decide +kernel) (by decide +kernel) (by decide +kernel) (by decide +kernel)
  refine ⟨z1, a1, b1, rfl, ⟨by omega, by omega⟩, rfl, ?_⟩
  clear k1 k2 k3 k4
  refine xe230 (xL0 hLn) (xC230 hLn) hI1.1 hI1.2.1 hI1.2.2.1 (by decide) hI1.2.2.2.1 (fun z2 a2 b2 k1 k2 k3 k4 k5 k6 => ?_)
  exact ⟨z2, a2, b2, rfl, ⟨by omega, by omega⟩, rfl, yFr hI1 k1 k2 k3 k6 k4 (by decide +kernel) (by decide +kernel) (by decide +kernel) (by decide +kernel), trivial⟩
theorem yS21 {Ln : Nat} {xs : Nat → Int32} (hLn : Ln ≤ 3072) : xHyp21 Ln xs yInv := by
  intro v0 hv0 v1 hv1 a b hI
  unfold xStep
  refine xe115 (xL0 hLn) (xC115 hLn) hI.1 hI.2.1 hI.2.2.1 (by decide) hv0 hv1 (fun z1 a1 b1 k1 k2 k3 k4 k5 => ?_)
  have hI1 : yInv a1 b1 := yFr hI k1 k2 k3 (by rw [(xFr k4 k3 hI.2.2.1 (p := 88) (k := 114) (by decide) (by decide +kernel)).1]; exact hI.2.2.2.1) k4 (by decide +kernel) (by decide +kernel) (by decide +kernel) (by decide +kernel)
  refine ⟨z1, a1, b1, rfl, ⟨by omega, by omega⟩, rfl, ?_⟩
  clear k1 k2 k3 k4
  refine xe231 (xL0 hLn) (xC231 hLn) hI1.1 hI1.2.1 hI1.2.2.1 (by decide) hv0 hv1 hI1.2.2.2.1 (fun z2 a2 b2 k1 k2 k3 k4 k5 k6 => ?_)
  exact ⟨z2, a2, b2, rfl, ⟨by omega, by omega⟩, rfl, yFr hI1 k1 k2 k3 k6 k4 (by decide +kernel) (by decide +kernel) (by decide +kernel) (by decide +kernel), trivial⟩
theorem yS22 {Ln : Nat} {xs : Nat → Int32} (hLn : Ln ≤ 3072) : xHyp22 Ln xs yInv := by
  intro v0 hv0 a b hI
  unfold xStep
  refine xe116 (xL0 hLn) (xC116 hLn) hI.1 hI.2.1 hI.2.2.1 (by decide) hv0 (fun z1 a1 b1 k1 k2 k3 k4 k5 => ?_)
  have hI1 : yInv a1 b1 := yFr hI k1 k2 k3 (by rw [(xFr k4 k3 hI.2.2.1 (p := 88) (k := 114) (by decide) (by decide +kernel)).1]; exact hI.2.2.2.1) k4 (by decide +kernel) (by decide +kernel) (by decide +kernel) (by decide +kernel)
  refine ⟨z1, a1, b1, rfl, ⟨by omega, by omega⟩, rfl, ?_⟩
  clear k1 k2 k3 k4
  refine xe232 (xL0 hLn) (xC232 hLn) hI1.1 hI1.2.1 hI1.2.2.1 (by decide) hv0 hI1.2.2.2.1 (fun z2 a2 b2 k1 k2 k3 k4 k5 k6 => ?_)
  exact ⟨z2, a2, b2, rfl, ⟨by omega, by omega⟩, rfl, yFr hI1 k1 k2 k3 k6 k4 (by decide +kernel) (by decide +kernel) (by decide +kernel) (by decide +kernel), trivial⟩
theorem yS23 {Ln : Nat} {xs : Nat → Int32} (hLn : Ln ≤ 3072) : xHyp23 Ln xs yInv := by
  intro v0 hv0 a b hI
  unfold xStep
  refine xe119 (xL0 hLn) (xC119 hLn) hI.1 hI.2.1 hI.2.2.1 (by decide) hv0 (fun z1 a1 b1 k1 k2 k3 k4 k5 => ?_)
  have hI1 : yInv a1 b1 := yFr hI k1 k2 k3 (by rw [(xFr k4 k3 hI.2.2.1 (p := 88) (k := 114) (by decide) (by decide +kernel)).1]; exact hI.2.2.2.1) k4 (by decide +kernel) (by decide +kernel) (by decide +kernel) (by decide +kernel)
  refine ⟨z1, a1, b1, rfl, ⟨by omega, by omega⟩, rfl, ?_⟩
  clear k1 k2 k3 k4
  refine xe236 (xL0 hLn) (xC236 hLn) hI1.1 hI1.2.1 hI1.2.2.1 (by decide) hv0 hI1.2.2.2.1 (fun z2 a2 b2 k1 k2 k3 k4 k5 k6 => ?_)
  exact ⟨z2, a2, b2, rfl, ⟨by omega, by omega⟩, rfl, yFr hI1 k1 k2 k3 k6 k4 (by decide +kernel) (by decide +kernel) (by decide +kernel) (by decide +kernel), trivial⟩
theorem yS24 {Ln : Nat} {xs : Nat → Int32} (hLn : Ln ≤ 3072) : xHyp24 Ln xs yInv := by
  intro v0 hv0 v1 hv1 v2 hv2 v3 hv3 a b hI
  unfold xStep
  refine xe120 (xL0 hLn) (xC120 hLn) hI.1 hI.2.1 hI.2.2.1 (by decide) hv0 hv1 hv2 hv3 (fun z1 a1 b1 k1 k2 k3 k4 k5 => ?_)
  have hI1 : yInv a1 b1 := yFr hI k1 k2 k3 (by rw [(xFr k4 k3 hI.2.2.1 (p := 88) (k := 114) (by decide) (by decide +kernel)).1]; exact hI.2.2.2.1) k4 (by decide +kernel) (by decide +kernel) (by decide +kernel) (by decide +kernel)
  refine ⟨z1, a1, b1, rfl, ⟨by omega, by omega⟩, rfl, ?_⟩
  clear k1 k2 k3 k4
  refine xe237 (xL0 hLn) (xC237 hLn) hI1.1 hI1.2.1 hI1.2.2.1 (by decide) hv0 hv1 hv2 hv3 hI1.2.2.2.1 (fun z2 a2 b2 k1 k2 k3 k4 k5 k6 => ?_)
  exact ⟨z2, a2, b2, rfl, ⟨by omega, by omega⟩, rfl, yFr hI1 k1 k2 k3 k6 k4 (by decide +kernel) (by decide +kernel) (by decide +kernel) (by decide +kernel), trivial⟩
theorem yS25 {Ln : Nat} {xs : Nat → Int32} (hLn : Ln ≤ 3072) : xHyp25 Ln xs yInv := by
  intro v0 hv0 a b hI
  unfold xStep
  refine xe124 (xL0 hLn) (xC124 hLn) hI.1 hI.2.1 hI.2.2.1 (by decide) hv0 (fun z1 a1 b1 k1 k2 k3 k4 k5 => ?_)
  have hI1 : yInv a1 b1 := yFr hI k1 k2 k3 (by rw [(xFr k4 k3 hI.2.2.1 (p := 88) (k := 114) (by decide) (by decide +kernel)).1]; exact hI.2.2.2.1) k4 (by decide +kernel) (by decide +kernel) (by decide +kernel) (by decide +kernel)
  refine ⟨z1, a1, b1, rfl, ⟨by omega, by omega⟩, rfl, ?_⟩
  clear k1 k2 k3 k4
  refine xe239 (xL0 hLn) (xC239 hLn) hI1.1 hI1.2.1 hI1.2.2.1 (by decide) hv0 hI1.2.2.2.1 (fun z2 a2 b2 k1 k2 k3 k4 k5 => ?_)
  exact ⟨z2, a2, b2, rfl, ⟨by omega, by omega⟩, rfl, yFr hI1 k1 k2 k3 (by rw [(xFr k4 k3 hI1.2.2.1 (p := 88) (k := 114) (by decide) (by decide +kernel)).1]; exact hI1.2.2.2.1) k4 (by decide +kernel) (by decide +kernel) (by decide +kernel) (by decide +kernel), trivial⟩
theorem yS26 {Ln : Nat} {xs : Nat → Int32} (hLn : Ln ≤ 3072) : xHyp26 Ln xs yInv := by
  intro v0 hv0 v1 hv1 v2 hv2 a b hI
  unfold xStep
  refine xe127 (xL0 hLn) (xC127 hLn) hI.1 hI.2.1 hI.2.2.1 (by decide) hv0 hv1 hv2 (fun z1 a1 b1 k1 k2 k3 k4 k5 => ?_)
  have hI1 : yInv a1 b1 := yFr hI k1 k2 k3 (by rw [(xFr k4 k3 hI.2.2.1 (p := 88) (k := 114) (by decide) (by decide +kernel)).1]; exact hI.2.2.2.1) k4 (by decide +kernel) (by decide +kernel) (by decide +kernel) (by decide +kernel)
  refine ⟨z1, a1, b1, rfl, ⟨by omega, by omega⟩, rfl, ?_⟩
  clear k1 k2 k3 k4
  refine xe240 (xL0 hLn) (xC240 hLn) hI1.1 hI1.2.1 hI1.2.2.1 (by decide) hv0 hv1 hv2 hI1.2.2.2.1 (fun z2 a2 b2 k1 k2 k3 k4 k5 => ?_)
  exact ⟨z2, a2, b2, rfl, ⟨by omega, by omega⟩, rfl, yFr hI1 k1 k2 k3 (by rw [(xFr k4 k3 hI1.2.2.1 (p := 88) (k := 114) (by decide) (by decide +kernel)).1]; exact hI1.2.2.2.1) k4 (by decide +kernel) (by decide +kernel) (by decide +kernel) (by decide +kernel), trivial⟩
theorem yS27 {Ln : Nat} {xs : Nat → Int32} (hLn : Ln ≤ 3072) : xHyp27 Ln xs yInv := by
  intro v0 hv0 v1 hv1 a b hI
  unfold xStep
  refine xe129 (xL0 hLn) (xC129 hLn) hI.1 hI.2.1 hI.2.2.1 (by decide) hv0 hv1 (fun z1 a1 b1 k1 k2 k3 k4 k5 => ?_)
  have hI1 : yInv a1 b1 := yFr hI k1 k2 k3 (by rw [(xFr k4 k3 hI.2.2.1 (p := 88) (k := 114) (by decide) (by decide +kernel)).1]; exact hI.2.2.2.1) k4 (by decide +kernel) (by decide +kernel) (by decide +kernel) (by decide +kernel)
  refine ⟨z1, a1, b1, rfl, ⟨by omega, by omega⟩, rfl, ?_⟩
  clear k1 k2 k3 k4
  refine xe241 (xL0 hLn) (xC241 hLn) hI1.1 hI1.2.1 hI1.2.2.1 (by decide) hv0 hv1 hI1.2.2.2.1 (fun z2 a2 b2 k1 k2 k3 k4 k5 => ?_)
  exact ⟨z2, a2, b2, rfl, ⟨by omega, by omega⟩, rfl, yFr hI1 k1 k2 k3 (by rw [(xFr k4 k3 hI1.2.2.1 (p := 88) (k := 114) (by decide) (by decide +kernel)).1]; exact hI1.2.2.2.1) k4 (by decide +kernel) (by decide +kernel) (by decide +kernel) (by decide +kernel), trivial⟩
theorem yS28 {Ln : Nat} {xs : Nat → Int32} (hLn : Ln ≤ 3072) : xHyp28 Ln xs yInv := by
  intro v0 hv0 a b hI
  unfold xStep
  refine xe132 (xL0 hLn) (xC132 hLn) hI.1 hI.2.1 hI.2.2.1 (by decide) hv0 (fun z1 a1 b1 k1 k2 k3 k4 k5 => ?_)
  have hI1 : yInv a1 b1 := yFr hI k1 k2 k3 (by rw [(xFr k4 k3 hI.2.2.1 (p := 88) (k := 114) (by decide) (by decide +kernel)).1]; exact hI.2.2.2.1) k4 (by decide +kernel) (by decide +kernel) (by decide +kernel) (by decide +kernel)
  refine ⟨z1, a1, b1, rfl, ⟨by omega, by omega⟩, rfl, ?_⟩
  clear k1 k2 k3 k4
  refine xe243 (xL0 hLn) (xC243 hLn) hI1.1 hI1.2.1 hI1.2.2.1 (by decide) hv0 (fun z2 a2 b2 k1 k2 k3 k4 k5 => ?_)
  exact ⟨z2, a2, b2, rfl, ⟨by omega, by omega⟩, rfl, yFr hI1 k1 k2 k3 (by rw [(xFr k4 k3 hI1.2.2.1 (p := 88) (k := 114) (by decide) (by decide +kernel)).1]; exact hI1.2.2.2.1) k4 (by decide +kernel) (by decide +kernel) (by decide +kernel) (by decide +kernel), trivial⟩
theorem yS29 {Ln : Nat} {xs : Nat → Int32} (hLn : Ln ≤ 3072) : xHyp29 Ln xs yInv := by
  intro v0 hv0 a b hI
  unfold xStep
  refine xe133 (xL0 hLn) (xC133 hLn) hI.1 hI.2.1 hI.2.2.1 (by decide) hv0 (fun z1 a1 b1 k1 k2 k3 k4 k5 => ?_)
  have hI1 : yInv a1 b1 := yFr hI k1 k2 k3 (by rw [(xFr k4 k3 hI.2.2.1 (p := 88) (k := 114) (by decide) (by decide +kernel)).1]; exact hI.2.2.2.1) k4 (by decide +kernel) (by decide +kernel) (by decide +kernel) (by decide +kernel)
  refine ⟨z1, a1, b1, rfl, ⟨by omega, by omega⟩, rfl, ?_⟩
  clear k1 k2 k3 k4
  refine xe244 (xL0 hLn) (xC244 hLn) hI1.1 hI1.2.1 hI1.2.2.1 (by decide) hv0 (fun z2 a2 b2 k1 k2 k3 k4 k5 => ?_)
  exact ⟨z2, a2, b2, rfl, ⟨by omega, by omega⟩, rfl, yFr hI1 k1 k2 k3 (by rw [(xFr k4 k3 hI1.2.2.1 (p := 88) (k := 114) (by decide) (by decide +kernel)).1]; exact hI1.2.2.2.1) k4 (by decide +kernel) (by decide +kernel) (by decide +kernel) (by decide +kernel), trivial⟩
theorem yS30 {Ln : Nat} {xs : Nat → Int32} (hLn : Ln ≤ 3072) : xHyp30 Ln xs yInv := by
  intro v0 hv0 a b hI
  unfold xStep
  refine xe134 (xL0 hLn) (xC134 hLn) hI.1 hI.2.1 hI.2.2.1 (by decide) hv0 (fun z1 a1 b1 k1 k2 k3 k4 k5 => ?_)
  have hI1 : yInv a1 b1 := yFr hI k1 k2 k3 (by rw [(xFr k4 k3 hI.2.2.1 (p := 88) (k := 114) (by decide) (by decide +kernel)).1]; exact hI.2.2.2.1) k4 (by decide +kernel) (by decide +kernel) (by decide +kernel) (by decide +kernel)
  refine ⟨z1, a1, b1, rfl, ⟨by omega, by omega⟩, rfl, ?_⟩
  clear k1 k2 k3 k4
  refine xe245 (xL0 hLn) (xC245 hLn) hI1.1 hI1.2.1 hI1.2.2.1 (by decide) hv0 (fun z2 a2 b2 k1 k2 k3 k4 k5 => ?_)
  exact ⟨z2, a2, b2, rfl, ⟨by omega, by omega⟩, rfl, yFr hI1 k1 k2 k3 (by rw [(xFr k4 k3 hI1.2.2.1 (p := 88) (k := 114) (by decide) (by decide +kernel)).1]; exact hI1.2.2.2.1) k4 (by decide +kernel) (by decide +kernel) (by decide +kernel) (by decide +kernel), trivial⟩
end
