/-! door, person, begin: by hand; the law from its beginning -/
section
set_option maxRecDepth 100000
variable {Ln : Nat} {xs : Nat → Int32} {ro : Nat → Nat × (Nat → Int32)} {d : Nat} {a : xA} {b : xB} {x y : Int} {Q : Option Value → pmS → Prop}
theorem yDf (i1 : kOk (xS a b)) (i3 : xAr a) (h0 : xR x) (h1 : xR y) (hc : ¬ a 87 4 = 0 ∨ ¬ (0 ≤ x ∧ x < 7) ∨ ¬ (0 ≤ y ∧ y < 7) ∨ x = y ∨ ¬ a 90 (7 * x + y) = 0) (hQ : Q (some (xV 0)) (xS a b)) : pmCs ro 59 137 [.ref 87, xV x, xV y] (xS a b) Q :=
  pmCs_deep (d := 5) (xg137 (w137 i1 i3 h0 h1 (by decide) (fun _ => hQ) (fun _ _ _ _ => hQ) (fun e1 e2 e3 e4 e5 => absurd hc (by omega)) (fun _ _ _ _ _ => hQ) (fun _ _ _ => hQ) (fun _ _ => hQ))) (by decide)
theorem yDt (i1 : kOk (xS a b)) (i3 : xAr a) (h0 : xR x) (h1 : xR y) (c1 : a 87 4 = 0) (c2 : 0 ≤ x ∧ x < 7) (c3 : 0 ≤ y ∧ y < 7) (c4 : ¬ x = y) (c5 : a 90 (7 * x + y) = 0) (hQ : Q (some (xV 1)) (xS (xU (xU a 90 (7 * x + y) 1) 90 (7 * y + x) 1) b)) : pmCs ro 59 137 [.ref 87, xV x, xV y] (xS a b) Q :=
  pmCs_deep (d := 5) (xg137 (w137 i1 i3 h0 h1 (by decide) (fun e => absurd c1 e) (fun _ _ _ e => absurd e c4) (fun _ _ _ _ _ => hQ) (fun _ _ _ _ e => absurd c5 e) (fun _ _ e => absurd c3 e) (fun _ e => absurd c2 e))) (by decide)
theorem yS0 (hLn : Ln ≤ 3072) : xHyp0 Ln xs yInv := by
  intro v0 h0 v1 h1 a b hI
  unfold xStep
  obtain ⟨i1, i2, i3, i4, i5, i6⟩ := id hI
  have hno : ¬ a 87 4 = 0 ∨ ¬ (0 ≤ v0 ∧ v0 < 7) ∨ ¬ (0 ≤ v1 ∧ v1 < 7) ∨ v0 = v1 ∨ ¬ a 90 (7 * v0 + v1) = 0 → ∃ z a1 b1, some (xV 0) = some (xV z) ∧ xR z ∧ xS a b = xS a1 b1 ∧ pmCs (pmRo Ln xs) 59 137 [.ref 87, xV v0, xV v1] (xS a1 b1) fun r' σ2 => ∃ z' a2 b2, r' = some (xV z') ∧ xR z' ∧ σ2 = xS a2 b2 ∧ yInv a2 b2 ∧ (fun z z' => z = z') z z' := fun hc =>
    ⟨0, a, b, rfl, xR0, rfl, yDf i1 i3 h0 h1 hc ⟨0, a, b, rfl, xR0, rfl, hI, rfl⟩⟩
  refine pmCs_deep (d := 5) (xg13 (w13 i1 i3 h0 h1 (by decide) (fun e => ?_) (fun e ex ey exy => ?_) (fun e ex ey exy eb => ?_) (fun e ex ey exy eb => ?_) (fun e ex ey => ?_) (fun e ex => ?_))) (by decide)
  · exact hno (by omega)
  · exact hno (by omega)
  · refine hno ?_
    have := i6 (7 * v0 + v1) (by omega) (by omega)
    rw [if_pos eb] at this
    omega
  · have hz : a 90 (7 * v0 + v1) = 0 := by
      have := i6 (7 * v0 + v1) (by omega) (by omega)
      rw [eb] at this
      exact this
    generalize hD : (b 3 3 ||| ((xShL (1 : Int64) (7 * v0 + v1)) ||| (xShL (1 : Int64) (7 * v1 + v0)))) = D
    have g1 : kOk (xS a (xU b 3 3 D)) := xOk_l i1 (by decide) (by decide +kernel) (bInL (by decide +kernel) _)
    refine ⟨1, a, xU b 3 3 D, rfl, ⟨by decide, by decide⟩, rfl, ?_⟩
    refine yDt g1 i3 h0 h1 (by omega) ex ey exy hz ⟨1, _, _, rfl, ⟨by decide, by decide⟩, rfl, ⟨?_, ?_, ?_, ?_, ?_, ?_⟩, rfl⟩
    · refine xOk_i (xOk_i g1 (by omega) ⟨by decide, by decide⟩ rfl (xIn1 (lo := 0) (hi := 1) (bGu_ok (by decide +kernel) _) (by decide))) (by omega) ⟨by decide, by decide⟩ rfl (xIn1 (lo := 0) (hi := 1) (bGu_ok (by decide +kernel) _) (by decide))
    · refine xP_i kP_fr (xP_i kP_fr (xP_l kP_fr i2 (by decide +kernel) (by decide)) ?_ (by omega)) ?_ (by omega)
      · rw [bRg_sing (by decide +kernel) _ 0]
        decide +kernel
      · rw [bRg_sing (by decide +kernel) _ 0]
        decide +kernel
    · exact xAr_u (xAr_u i3 ⟨by decide, by decide⟩) ⟨by decide, by decide⟩
    · rw [xUn (by decide), xUn (by decide)]
      exact i4
    · rw [xUn (by decide), xUn (by decide), xUn (by decide), xUn (by decide)]
      exact i5
    · intro k k0 k1
      rw [xUa, ← hD, xBit_or, xBit_or, xBit_one (by omega) (by omega) (by omega) (by omega), xBit_one (by omega) (by omega) (by omega) (by omega)]
      unfold xU
      by_cases c1 : k = 7 * v1 + v0
      · rw [if_pos ⟨rfl, c1⟩, if_pos (by simp [c1])]
      · rw [if_neg (fun e => c1 e.2)]
        by_cases c2 : k = 7 * v0 + v1
        · rw [if_pos ⟨rfl, c2⟩, if_pos (by simp [c2])]
        · rw [if_neg (fun e => c2 e.2), i6 k k0 k1]
          simp [c1, c2]
  · exact hno (by omega)
  · exact hno (by omega)
theorem yS1 (hLn : Ln ≤ 3072) : xHyp1 Ln xs yInv := by
  intro v0 h0 v1 h1 a b hI
  unfold xStep
  -- the class's
  have key : ∀ (z : Int) (b1 : xB), xR z → yInv a b1 → ∃ z0 a1 b2, some (xV z) = some (xV z0) ∧ xR z0 ∧ xS a b1 = xS a1 b2 ∧ pmCs (pmRo Ln xs) 59 139 [.ref 87, xV v0, xV v1] (xS a1 b2) fun r' σ2 => ∃ z' a2 b2, r' = some (xV z') ∧ xR z' ∧ σ2 = xS a2 b2 ∧ yInv a2 b2 ∧ (fun _ _ => True) z0 z' := by
    intro z b1 hz hI1
    refine ⟨z, a, b1, rfl, hz, rfl, ?_⟩
    obtain ⟨i1, i2, i3, i4, i5, i6⟩ := id hI1
    refine pmCs_deep (d := 5) (xg139 (w139 i1 i3 h0 h1 (by decide) (fun _ => ⟨0, a, b1, rfl, xR0, rfl, hI1, trivial⟩) (fun e ex ey => ⟨1, _, _, rfl, ⟨by decide, by decide⟩, rfl, ⟨?_, ?_, ?_, ?_, ?_, ?_⟩, trivial⟩) (fun _ _ _ => ⟨0, a, b1, rfl, xR0, rfl, hI1, trivial⟩) (fun _ _ => ⟨0, a, b1, rfl, xR0, rfl, hI1, trivial⟩))) (by decide)
    · refine xOk_i i1 (by omega) h1 rfl ?_
      have : v0 = 0 ∨ v0 = 1 ∨ v0 = 2 ∨ v0 = 3 := by omega
      rcases this with rfl | rfl | rfl | rfl
      · exact xIn1 (lo := 0) (hi := 7) (by decide +kernel) (by omega)
      · exact xIn1 (lo := 0) (hi := 7) (by decide +kernel) (by omega)
      · exact xIn1 (lo := 0) (hi := 7) (by decide +kernel) (by omega)
      · exact xIn1 (lo := 0) (hi := 7) (by decide +kernel) (by omega)
    · refine xP_i kP_fr i2 ?_ (by omega)
      have : v0 = 0 ∨ v0 = 1 ∨ v0 = 2 ∨ v0 = 3 := by omega
      rcases this with rfl | rfl | rfl | rfl <;> decide +kernel
    · exact xAr_u i3 h1
    · rw [xUk (by omega)]
      exact i4
    · rw [xUn (by decide), xUn (by decide)]
      exact i5
    · intro k k0 k1
      rw [xUn (by decide)]
      exact i6 k k0 k1
  obtain ⟨i1, i2, i3, i4, i5, i6⟩ := id hI
  refine pmCs_deep (d := 5) (xg17 (w17 i1 i3 h0 h1 (by decide) (fun _ => key 0 b xR0 hI) (fun e ex ey => key 1 _ ⟨by decide, by decide⟩ ⟨?_, ?_, i3, i4, i5, ?_⟩) (fun _ _ _ => key 0 b xR0 hI) (fun _ _ => key 0 b xR0 hI))) (by decide)
  · exact xOk_l i1 (by decide) (by decide +kernel) (bInL (by decide +kernel) _)
  · exact xP_l kP_fr i2 (by decide +kernel) (by decide)
  · intro k k0 k1
    rw [xUn (by decide)]
    exact i6 k k0 k1
/-- with whether each has begun -/
def yJ (g h : Int) (a : xA) (b : xB) : Prop := kOk (xS a b) ∧ kP (xS a b) ∧ xAr a ∧ (0 ≤ a 88 114 ∧ a 88 114 ≤ 60) ∧ (a 0 12 = g ∧ a 87 4 = h) ∧ ∀ k, 0 ≤ k → k < 49 → a 90 k = if xBit (b 3 3) k = true then 1 else 0
theorem yJf {a a' : xA} {b b' : xB} {W : Nat} {g h : Int} (hI : yJ g h a b) (h1 : kOk (xS a' b')) (h2 : kP (xS a' b')) (h3 : xAr a') (hW : kSm W (xS a' b') (xS a b)) (f0 : W.testBit (bRg 88 114) = false) (f1 : W.testBit (bRg 0 12) = false) (f2 : W.testBit (bRg 87 4) = false) (f3 : W.testBit (bRg 3 3) = false) (f4 : W.testBit (bRg 90 0) = false) : yJ g h a' b' := by
  obtain ⟨i1, i2, i3, i4, i5, i6⟩ := hI
  refine ⟨h1, h2, h3, ?_, ?_, fun k g0 g1 => ?_⟩
  · rw [(xFr hW h3 i3 (p := 88) (k := 114) (by decide) f0).1]
    exact i4
  · rw [(xFr hW h3 i3 (p := 0) (k := 12) (by decide) f1).1, (xFr hW h3 i3 (p := 87) (k := 4) (by decide) f2).1]
    exact i5
  · rw [(xFrr hW h3 i3 (p := 90) (by decide +kernel) f4 g0).1, (xFr hW h3 i3 (p := 3) (k := 3) (by decide) f3).2]
    exact i6 k g0 g1
theorem yS9 (hLn : Ln ≤ 3072) : xHyp9 Ln xs yInv := by
  intro a b hI
  unfold xStep
  obtain ⟨i1, i2, i3, i4, i5, i6⟩ := id hI
  have hb1 := xt0_12 i1 i3
  -- the reference's, once the class has begun
  have key : ∀ a1 b1, yJ 1 0 a1 b1 → pmCs (pmRo Ln xs) 59 173 [.ref 87] (xS a1 b1) fun r' σ2 => ∃ z' a2 b2, r' = some (xV z') ∧ xR z' ∧ σ2 = xS a2 b2 ∧ yInv a2 b2 ∧ (fun _ _ => True) (1 : Int) z' := by
    intro a1 b1 hJ
    obtain ⟨j1, j2, j3, j4, j5, j6⟩ := id hJ
    refine pmCs_deep (d := 6) (xg173 (w173 j1 j3 (by decide) (fun _ => ?_) (fun e => absurd j5.2 e))) (by decide)
    have hJ2 : yJ 1 1 (xU a1 87 4 1) b1 := ⟨xOk_i j1 (by decide) ⟨by decide, by decide⟩ (by decide +kernel) (xIn1 (lo := 0) (hi := 1) (by decide +kernel) (by decide)), xP_i kP_fr j2 (by decide +kernel) (by decide), xAr_u j3 ⟨by decide, by decide⟩, by rw [xUn (by decide)]; exact j4, ⟨by rw [xUn (by decide)]; exact j5.1, xUa⟩, fun k k0 k1 => by rw [xUn (by decide)]; exact j6 k k0 k1⟩
    refine xe174 (xL0 hLn) (xC174 hLn) hJ2.1 hJ2.2.1 hJ2.2.2.1 (by decide) (fun a2 b2 k1 k2 k3 k4 => ?_)
    have hJ3 : yJ 1 1 a2 b2 := yJf hJ2 k1 k2 k3 k4 (by decide +kernel) (by decide +kernel) (by decide +kernel) (by decide +kernel) (by decide +kernel)
    refine w173_18 k1 k3 (by decide) ?_
    refine xe181d (xL0 hLn) (xC181d hLn) k1 k2 k3 (by decide) (k3 88 114) (fun a3 b3 l1 l2 l3 l4 => ?_)
    have hJ4 : yJ 1 1 a3 b3 := yJf hJ3 l1 l2 l3 l4 (by decide +kernel) (by decide +kernel) (by decide +kernel) (by decide +kernel) (by decide +kernel)
    refine w173_23 l1 l3 (by decide) ?_
    obtain ⟨m1, m2, m3, m4, m5, m6⟩ := hJ4
    exact ⟨1, a3, b3, rfl, ⟨by decide, by decide⟩, rfl, ⟨m1, m2, m3, m4, by rw [m5.1, m5.2], m6⟩, trivial⟩
  refine pmCs_deep (d := 6) (xg57 (w57 i1 i3 (by decide) (fun e => ?_) (fun e => ?_))) (by decide)
  · have hJ1 : yJ 1 0 (xU a 0 12 1) b := ⟨xOk_i i1 (by decide) ⟨by decide, by decide⟩ (by decide +kernel) (xIn1 (lo := 0) (hi := 1) (by decide +kernel) (by decide)), xP_i kP_fr i2 (by decide +kernel) (by decide), xAr_u i3 ⟨by decide, by decide⟩, by rw [xUn (by decide)]; exact i4, ⟨xUa, by rw [xUn (by decide)]; omega⟩, fun k k0 k1 => by rw [xUn (by decide)]; exact i6 k k0 k1⟩
    refine xe58 (xL0 hLn) (xC58 hLn) hJ1.1 hJ1.2.1 hJ1.2.2.1 (by decide) (fun a1 b1 k1 k2 k3 k4 => ?_)
    have hJ2 : yJ 1 0 a1 b1 := yJf hJ1 k1 k2 k3 k4 (by decide +kernel) (by decide +kernel) (by decide +kernel) (by decide +kernel) (by decide +kernel)
    refine w57_21 k1 k3 (by decide) ?_
    refine xe59 (xL0 hLn) (xC59 hLn) k1 k2 k3 (by decide) (by decide) (fun a2 b2 l1 l2 l3 l4 => ?_)
    have hJ3 : yJ 1 0 a2 b2 := yJf hJ2 l1 l2 l3 l4 (by decide +kernel) (by decide +kernel) (by decide +kernel) (by decide +kernel) (by decide +kernel)
    refine w57_32 l1 l3 (by decide) ?_
    refine pmCs_deep (d := 4) (xg65 (w65 l1 l3 ?_)) (by decide)
    refine xe66 (xL0 hLn) (xC66 hLn) l1 l2 l3 (by decide) (by decide) (by decide) (fun a3 b3 m1 m2 m3 m4 => ?_)
    have hJ4 : yJ 1 0 a3 b3 := yJf hJ3 m1 m2 m3 m4 (by decide +kernel) (by decide +kernel) (by decide +kernel) (by decide +kernel) (by decide +kernel)
    refine w65_8 m1 m3 ?_
    refine w57_43 m1 m3 (by decide) ?_
    exact ⟨1, a3, b3, rfl, ⟨by decide, by decide⟩, rfl, key a3 b3 hJ4⟩
  · refine ⟨0, a, b, rfl, xR0, rfl, ?_⟩
    refine pmCs_deep (d := 6) (xg173 (w173 i1 i3 (by decide) (fun e2 => absurd e2 (by omega)) (fun _ => ⟨0, a, b, rfl, xR0, rfl, hI, trivial⟩))) (by decide)
theorem yHead (hLn : Ln ≤ 3072) : pLH Ln xs := by
  intro ρ cl cs σ hA hl hs
  have hE := hA.1.1
  have hM := hA.2.1
  have hok : kOk σ := ⟨fun p => by
    rw [hM.1.2 p]
    show aG2 p1M.1.2 p = _
    rw [pL_shape], fun p k => bIni_ok hE hM p k⟩
  obtain ⟨v0, g0, q0⟩ := hl.2 0 _ rfl
  obtain ⟨v1, g1, q1⟩ := hl.2 1 _ rfl
  obtain ⟨v2, g2, q2⟩ := hl.2 2 _ rfl
  obtain ⟨v3, g3, q3⟩ := hl.2 3 _ rfl
  have e0 := aVok_ref q0
  have e1 := aVok_ref q1
  have e2 := aVok_ref q2
  obtain ⟨z, e3, hz⟩ := aVok_int q3
  have hz : z.toInt = ρ 0 + 0 := hz.2
  rw [hE.1.1] at hz
  have e4 : z = Int32.ofInt 0 := Int32.toInt.inj (hz.trans rfl)
  have hlen : 4 = cl.length := hl.1
  have hcl : cl = [some (.ref 1001), some (.ref 0), some (.ref 87), some (xV 0)] := by
    rw [e0] at g0
    rw [e1] at g1
    rw [e2] at g2
    rw [e3, e4] at g3
    match cl, hlen, g0, g1, g2, g3 with
    | [c0, c1, c2, c3], _, g0, g1, g2, g3 =>
      cases g0
      cases g1
      cases g2
      cases g3
      rfl
  have hcs : cs = [] := by
    match cs, hs with
    | [], _ => rfl
  have hkp := kP_ini hM
  have hd : σ.2.2 3 3 = 0 := kZ_long hM (p := 3) (k := 3) rfl rfl
  have hb1 : kI σ 0 12 = 0 := kZ_int hM (p := 0) (k := 12) rfl rfl
  have hb2 : kI σ 87 4 = 0 := kZ_int hM (p := 87) (k := 4) rfl rfl
  have hb3 : kI σ 88 114 = 0 := kZ_int hM (p := 88) (k := 114) rfl rfl
  have hb4 : ∀ k, kI σ 90 k = 0 := fun k => kZ_int hM (p := 90) (k := k) rfl rfl
  obtain ⟨a, b, rfl, hAr⟩ := xEx hok
  have cv : ∀ p (k : Nat), kI (xS a b) p k = a p (k : Int) := fun p k => xI (hAr p k)
  rw [cv] at hb1 hb2 hb3
  have h1 : a 0 12 = 0 := hb1
  have h2 : a 87 4 = 0 := hb2
  have h3 : a 88 114 = 0 := hb3
  have hI : yInv a b := by
    refine ⟨hok, hkp, hAr, by omega, by omega, fun k k0 k1 => ?_⟩
    have h4 := hb4 k.toNat
    rw [cv, Int.toNat_of_nonneg k0] at h4
    have h5 : b 3 3 = 0 := hd
    rw [h4, h5]
    have : xBit 0 k = false := BitVec.getLsbD_zero
    rw [this]
    rfl
  rw [hcl, hcs]
  exact xLoop (Q := pLQ) hLn (yS0 hLn) (yS1 hLn) (yS2 hLn) (yS3 hLn) (yS4 hLn) (yS5 hLn) (yS6 hLn) (yS7 hLn) (yS8 hLn) (yS9 hLn) (yS10 hLn) (yS11 hLn) (yS12 hLn) (yS13 hLn) (yS14 hLn) (yS15 hLn) (yS16 hLn) (yS17 hLn) (yS18 hLn) (yS19 hLn) (yS20 hLn) (yS21 hLn) (yS22 hLn) (yS23 hLn) (yS24 hLn) (yS25 hLn) (yS26 hLn) (yS27 hLn) (yS28 hLn) (yS29 hLn) (yS30 hLn) (fun a b h => ⟨rfl, pL_tot h.1.1⟩) 3072 0 a b (by decide) (by decide) (by omega) hI
theorem yLaw (hLn : Ln ≤ 3072) : ∃ N d σf, d ≤ 1000 ∧ pmRun (pmRo Ln xs) (pmCall (pmRo Ln xs) N d) 13 246 2 N 0 [some (.ref 1001), none, none, none] [] pmσ0 = some (some (.int 1), σf) ∧ pmTot σf.1 ≤ 7302250 := pL_all hLn (yHead hLn)
end
