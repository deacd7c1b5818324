/-! the tape, wishes and laws alike: by hand -/
section
set_option maxRecDepth 100000
variable {Ln : Nat} {xs : Nat → Int32} {a : xA} {b : xB}
theorem zInv_b {v : Int64} (h : zInv a b) : zInv a (xU b 3 3 v) := by
  obtain ⟨i1, i2, i3, i4, i5, i6⟩ := h
  exact ⟨xOk_l i1 (by decide) (by decide +kernel) (bInL (by decide +kernel) _), xP_l kP_fr i2 (by decide +kernel) (by decide), i3, i4, i5, i6⟩
theorem zDoor {x y : Int} (h0 : xR x) (h1 : xR y) (z0 : Int) (hI : zInv a b) : pmCs (pmRo Ln xs) 59 137 [.ref 87, xV x, xV y] (xS a b) fun r' σ2 => ∃ z' a2 b2, r' = some (xV z') ∧ xR z' ∧ σ2 = xS a2 b2 ∧ zInv a2 b2 ∧ (fun _ _ => True) z0 z' := by
  obtain ⟨i1, i2, i3, i4, i5, i6⟩ := id hI
  refine pmCs_deep (d := 5) (xg137 (w137 i1 i3 h0 h1 (by decide) (fun _ => ⟨0, a, b, rfl, xR0, rfl, hI, trivial⟩) (fun _ _ _ _ => ⟨0, a, b, rfl, xR0, rfl, hI, trivial⟩) (fun e1 e2 e3 e4 e5 => ⟨1, _, _, rfl, ⟨by decide, by decide⟩, rfl, ⟨?_, ?_, ?_, ?_, ?_, fun e => ?_⟩, trivial⟩) (fun _ _ _ _ _ => ⟨0, a, b, rfl, xR0, rfl, hI, trivial⟩) (fun _ _ _ => ⟨0, a, b, rfl, xR0, rfl, hI, trivial⟩) (fun _ _ => ⟨0, a, b, rfl, xR0, rfl, hI, trivial⟩))) (by decide)
  · refine xOk_i (xOk_i i1 (by omega) ⟨by decide, by decide⟩ rfl (xIn1 (lo := 0) (hi := 1) (bGu_ok (by decide +kernel) _) (by decide))) (by omega) ⟨by decide, by decide⟩ rfl (xIn1 (lo := 0) (hi := 1) (bGu_ok (by decide +kernel) _) (by decide))
  · refine xP_i kP_fr (xP_i kP_fr i2 ?_ (by omega)) ?_ (by omega)
    · rw [bRg_sing (by decide +kernel) _ 0]
      decide +kernel
    · rw [bRg_sing (by decide +kernel) _ 0]
      decide +kernel
  · exact xAr_u (xAr_u i3 ⟨by decide, by decide⟩) ⟨by decide, by decide⟩
  · rw [xUn (by decide), xUn (by decide)]
    exact i4
  · rw [xUn (by decide), xUn (by decide), xUn (by decide), xUn (by decide)]
    exact i5
  · rw [xUn (by decide), xUn (by decide)] at e
    obtain ⟨z1, z2, z3, z4, z5, z6⟩ := i6 e
    refine ⟨?_, fun j hj => ?_, fun p hp => ?_, ?_, ?_, ?_⟩
    · rw [xUn (by decide), xUn (by decide), xUn (by decide), xUn (by decide)]
      exact z1
    · rw [xUn (by decide), xUn (by decide), xUn (by decide), xUn (by decide), xUn (by decide), xUn (by decide)]
      exact z2 j hj
    · rw [xUn (by decide), xUn (by decide), xUn (by decide), xUn (by decide)]
      exact z3 p hp
    · rw [xUn (by decide), xUn (by decide), xUn (by decide), xUn (by decide)]
      exact z4
    · rw [xUn (by decide), xUn (by decide)]
      exact z5
    · rw [xUn (by decide), xUn (by decide)]
      exact z6
theorem zS0 (hLn : Ln ≤ 3072) : xHyp0 Ln xs zInv := by
  intro v0 h0 v1 h1 a b hI
  unfold xStep
  obtain ⟨i1, i2, i3, i4, i5, i6⟩ := id hI
  refine pmCs_deep (d := 5) (xg13 (w13 i1 i3 h0 h1 (by decide) (fun _ => ?_) (fun _ _ _ _ => ?_) (fun _ _ _ _ _ => ?_) (fun _ _ _ _ _ => ?_) (fun _ _ _ => ?_) (fun _ _ => ?_))) (by decide)
  · exact ⟨0, a, b, rfl, xR0, rfl, zDoor h0 h1 0 hI⟩
  · exact ⟨0, a, b, rfl, xR0, rfl, zDoor h0 h1 0 hI⟩
  · exact ⟨0, a, b, rfl, xR0, rfl, zDoor h0 h1 0 hI⟩
  · exact ⟨1, a, _, rfl, ⟨by decide, by decide⟩, rfl, zDoor h0 h1 1 (zInv_b hI)⟩
  · exact ⟨0, a, b, rfl, xR0, rfl, zDoor h0 h1 0 hI⟩
  · exact ⟨0, a, b, rfl, xR0, rfl, zDoor h0 h1 0 hI⟩
theorem zS1 (hLn : Ln ≤ 3072) : xHyp1 Ln xs zInv := by
  intro v0 h0 v1 h1 a b hI
  unfold xStep
  have key : ∀ (z : Int) (b1 : xB), xR z → zInv a b1 → ∃ z0 a1 b2, some (xV z) = some (xV z0) ∧ xR z0 ∧ xS a b1 = xS a1 b2 ∧ pmCs (pmRo Ln xs) 59 139 [.ref 87, xV v0, xV v1] (xS a1 b2) fun r' σ2 => ∃ z' a2 b2, r' = some (xV z') ∧ xR z' ∧ σ2 = xS a2 b2 ∧ zInv a2 b2 ∧ (fun _ _ => True) z0 z' := by
    intro z b1 hz hI1
    refine ⟨z, a, b1, rfl, hz, rfl, ?_⟩
    obtain ⟨i1, i2, i3, i4, i5, i6⟩ := id hI1
    refine pmCs_deep (d := 5) (xg139 (w139 i1 i3 h0 h1 (by decide) (fun _ => ⟨0, a, b1, rfl, xR0, rfl, hI1, trivial⟩) (fun e ex ey => ⟨1, _, _, rfl, ⟨by decide, by decide⟩, rfl, ⟨?_, ?_, ?_, ?_, ?_, fun e => ?_⟩, trivial⟩) (fun _ _ _ => ⟨0, a, b1, rfl, xR0, rfl, hI1, trivial⟩) (fun _ _ => ⟨0, a, b1, rfl, xR0, rfl, hI1, trivial⟩))) (by decide)
    · refine xOk_i i1 (by omega) h1 rfl ?_
      have : v0 = 0 ∨ v0 = 1 ∨ v0 = 2 ∨ v0 = 3 := by omega
      rcases this with rfl | rfl | rfl | rfl
      · exact xIn1 (lo := 0) (hi := 7) (by decide +kernel) (by omega)
      · exact xIn1 (lo := 0) (hi := 7) (by decide +kernel) (by omega)
      · exact xIn1 (lo := 0) (hi := 7) (by decide +kernel) (by omega)
      · exact xIn1 (lo := 0) (hi := 7) (by decide +kernel) (by omega)
    · refine xP_i kP_fr i2 ?_ (by omega)
      have : v0 = 0 ∨ v0 = 1 ∨ v0 = 2 ∨ v0 = 3 := by omega
      rcases this with rfl | rfl | rfl | rfl <;> decide +kernel
    · exact xAr_u i3 h1
    · rw [xUk (by omega)]
      exact i4
    · rw [xUn (by decide), xUn (by decide)]
      exact i5
    · rw [xUn (by decide)] at e
      obtain ⟨z1, z2, z3, z4, z5, z6⟩ := i6 e
      refine ⟨?_, fun j hj => ?_, fun p hp => ?_, ?_, ?_, ?_⟩
      · rw [xUn (by decide), xUn (by decide)]
        exact z1
      · rw [xUn (by decide), xUn (by decide), xUn (by decide)]
        exact z2 j hj
      · rw [xUn (by decide), xUn (by decide)]
        exact z3 p hp
      · rw [xUn (by decide), xUn (by decide)]
        exact z4
      · rw [xUn (by decide)]
        exact z5
      · rw [xUk (by omega)]
        exact z6
  obtain ⟨i1, i2, i3, i4, i5, i6⟩ := id hI
  refine pmCs_deep (d := 5) (xg17 (w17 i1 i3 h0 h1 (by decide) (fun _ => key 0 b xR0 hI) (fun e ex ey => key 1 _ ⟨by decide, by decide⟩ ⟨?_, ?_, i3, i4, i5, i6⟩) (fun _ _ _ => key 0 b xR0 hI) (fun _ _ => key 0 b xR0 hI))) (by decide)
  · exact xOk_l i1 (by decide) (by decide +kernel) (bInL (by decide +kernel) _)
  · exact xP_l kP_fr i2 (by decide +kernel) (by decide)
/-- with whether each has begun -/
def zJ (g h : Int) (a : xA) (b : xB) : Prop := kOk (xS a b) ∧ kP (xS a b) ∧ xAr a ∧ (0 ≤ a 88 114 ∧ a 88 114 ≤ 60) ∧ (a 0 12 = g ∧ a 87 4 = h)
theorem zJf {a a' : xA} {b b' : xB} {W : Nat} {g h : Int} (hI : zJ g h a b) (h1 : kOk (xS a' b')) (h2 : kP (xS a' b')) (h3 : xAr a') (hW : kSm W (xS a' b') (xS a b)) (f0 : W.testBit (bRg 88 114) = false) (f1 : W.testBit (bRg 0 12) = false) (f2 : W.testBit (bRg 87 4) = false) : zJ g h a' b' := by
  obtain ⟨i1, i2, i3, i4, i5⟩ := hI
  refine ⟨h1, h2, h3, ?_, ?_⟩
  · rw [(xFr hW h3 i3 (p := 88) (k := 114) (by decide) f0).1]
    exact i4
  · rw [(xFr hW h3 i3 (p := 0) (k := 12) (by decide) f1).1, (xFr hW h3 i3 (p := 87) (k := 4) (by decide) f2).1]
    exact i5
theorem zS9 (hLn : Ln ≤ 3072) : xHyp9 Ln xs zInv := by
  intro a b hI
  unfold xStep
  obtain ⟨i1, i2, i3, i4, i5, i6⟩ := id hI
  have hb1 := xt0_12 i1 i3
  have key : ∀ a1 b1, zJ 1 0 a1 b1 → pmCs (pmRo Ln xs) 59 173 [.ref 87] (xS a1 b1) fun r' σ2 => ∃ z' a2 b2, r' = some (xV z') ∧ xR z' ∧ σ2 = xS a2 b2 ∧ zInv a2 b2 ∧ (fun _ _ => True) (1 : Int) z' := by
    intro a1 b1 hJ
    obtain ⟨j1, j2, j3, j4, j5⟩ := id hJ
    refine pmCs_deep (d := 6) (xg173 (w173 j1 j3 (by decide) (fun _ => ?_) (fun e => absurd j5.2 e))) (by decide)
    have hJ2 : zJ 1 1 (xU a1 87 4 1) b1 := ⟨xOk_i j1 (by decide) ⟨by decide, by decide⟩ (by decide +kernel) (xIn1 (lo := 0) (hi := 1) (by decide +kernel) (by decide)), xP_i kP_fr j2 (by decide +kernel) (by decide), xAr_u j3 ⟨by decide, by decide⟩, by rw [xUn (by decide)]; exact j4, ⟨by rw [xUn (by decide)]; exact j5.1, xUa⟩⟩
    refine xe174 (xL0 hLn) (xC174 hLn) hJ2.1 hJ2.2.1 hJ2.2.2.1 (by decide) (fun a2 b2 k1 k2 k3 k4 => ?_)
    have hJ3 : zJ 1 1 a2 b2 := zJf hJ2 k1 k2 k3 k4 (by decide +kernel) (by decide +kernel) (by decide +kernel)
    refine w173_18 k1 k3 (by decide) ?_
    refine xe181d (xL0 hLn) (xC181d hLn) k1 k2 k3 (by decide) (k3 88 114) (fun a3 b3 l1 l2 l3 l4 => ?_)
    have hJ4 : zJ 1 1 a3 b3 := zJf hJ3 l1 l2 l3 l4 (by decide +kernel) (by decide +kernel) (by decide +kernel)
    refine w173_23 l1 l3 (by decide) ?_
    obtain ⟨m1, m2, m3, m4, m5⟩ := hJ4
    exact ⟨1, a3, b3, rfl, ⟨by decide, by decide⟩, rfl, ⟨m1, m2, m3, m4, by rw [m5.1, m5.2], fun e => by omega⟩, trivial⟩
  refine pmCs_deep (d := 6) (xg57 (w57 i1 i3 (by decide) (fun e => ?_) (fun e => ?_))) (by decide)
  · have hJ1 : zJ 1 0 (xU a 0 12 1) b := ⟨xOk_i i1 (by decide) ⟨by decide, by decide⟩ (by decide +kernel) (xIn1 (lo := 0) (hi := 1) (by decide +kernel) (by decide)), xP_i kP_fr i2 (by decide +kernel) (by decide), xAr_u i3 ⟨by decide, by decide⟩, by rw [xUn (by decide)]; exact i4, ⟨xUa, by rw [xUn (by decide)]; omega⟩⟩
    refine xe58 (xL0 hLn) (xC58 hLn) hJ1.1 hJ1.2.1 hJ1.2.2.1 (by decide) (fun a1 b1 k1 k2 k3 k4 => ?_)
    have hJ2 : zJ 1 0 a1 b1 := zJf hJ1 k1 k2 k3 k4 (by decide +kernel) (by decide +kernel) (by decide +kernel)
    refine w57_21 k1 k3 (by decide) ?_
    refine xe59 (xL0 hLn) (xC59 hLn) k1 k2 k3 (by decide) (by decide) (fun a2 b2 l1 l2 l3 l4 => ?_)
    have hJ3 : zJ 1 0 a2 b2 := zJf hJ2 l1 l2 l3 l4 (by decide +kernel) (by decide +kernel) (by decide +kernel)
    refine w57_32 l1 l3 (by decide) ?_
    refine pmCs_deep (d := 4) (xg65 (w65 l1 l3 ?_)) (by decide)
    refine xe66 (xL0 hLn) (xC66 hLn) l1 l2 l3 (by decide) (by decide) (by decide) (fun a3 b3 m1 m2 m3 m4 => ?_)
    have hJ4 : zJ 1 0 a3 b3 := zJf hJ3 m1 m2 m3 m4 (by decide +kernel) (by decide +kernel) (by decide +kernel)
    refine w65_8 m1 m3 ?_
    refine w57_43 m1 m3 (by decide) ?_
    exact ⟨1, a3, b3, rfl, ⟨by decide, by decide⟩, rfl, key a3 b3 hJ4⟩
  · refine ⟨0, a, b, rfl, xR0, rfl, ?_⟩
    refine pmCs_deep (d := 6) (xg173 (w173 i1 i3 (by decide) (fun e2 => absurd e2 (by omega)) (fun _ => ⟨0, a, b, rfl, xR0, rfl, hI, trivial⟩))) (by decide)
end
