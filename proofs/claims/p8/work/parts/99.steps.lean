/-! each case of the law; the law from its beginning -/
section
set_option maxRecDepth 100000
variable {Ln : Nat} {xs : Nat → Int32}
theorem vH0 (hLn : Ln ≤ 3072) : xHyp0 Ln xs vInv := fun v0 h0 v1 h1 a b hI => vMono (vS0 hLn v0 h0 v1 h1 a b hI) (fun _ _ _ => trivial)
theorem vH1 (hLn : Ln ≤ 3072) : xHyp1 Ln xs vInv := fun v0 h0 v1 h1 a b hI => vMono (vS1 hLn v0 h0 v1 h1 a b hI) (fun _ _ _ => trivial)
theorem vH2 (hLn : Ln ≤ 3072) : xHyp2 Ln xs vInv := fun v0 h0 v1 h1 a b hI => vMono (vS2 hLn v0 h0 v1 h1 a b hI) (fun _ _ _ => trivial)
theorem vH3 (hLn : Ln ≤ 3072) : xHyp3 Ln xs vInv := fun v0 h0 v1 h1 a b hI => vMono (vS3 hLn v0 h0 v1 h1 a b hI) (fun _ _ _ => trivial)
theorem vH4 (hLn : Ln ≤ 3072) : xHyp4 Ln xs vInv := fun v0 h0 v1 h1 v2 h2 v3 h3 a b hI => vMono (vS4 hLn v0 h0 v1 h1 v2 h2 v3 h3 a b hI) (fun _ _ _ => trivial)
theorem vH5 (hLn : Ln ≤ 3072) : xHyp5 Ln xs vInv := fun v0 h0 v1 h1 a b hI => vMono (vS5 hLn v0 h0 v1 h1 a b hI) (fun _ _ _ => trivial)
theorem vH6 (hLn : Ln ≤ 3072) : xHyp6 Ln xs vInv := fun v0 h0 v1 h1 v2 h2 v3 h3 v4 h4 a b hI => vS6 hLn v0 h0 v1 h1 v2 h2 v3 h3 v4 h4 a b hI
theorem vH7 (hLn : Ln ≤ 3072) : xHyp7 Ln xs vInv := fun v0 h0 v1 h1 v2 h2 a b hI => vMono (vS7 hLn v0 h0 v1 h1 v2 h2 a b hI) (fun _ _ _ => trivial)
theorem vH8 (hLn : Ln ≤ 3072) : xHyp8 Ln xs vInv := fun v0 h0 a b hI => vMono (vS8 hLn v0 h0 a b hI) (fun _ _ _ => trivial)
theorem vH9 (hLn : Ln ≤ 3072) : xHyp9 Ln xs vInv := fun a b hI => vMono (vS9 hLn a b hI) (fun _ _ _ => trivial)
theorem vH10 (hLn : Ln ≤ 3072) : xHyp10 Ln xs vInv := fun v0 h0 v1 h1 v2 h2 a b hI => vMono (vS10 hLn v0 h0 v1 h1 v2 h2 a b hI) (fun _ _ _ => trivial)
theorem vH11 (hLn : Ln ≤ 3072) : xHyp11 Ln xs vInv := fun v0 h0 v1 h1 a b hI => vMono (vS11 hLn v0 h0 v1 h1 a b hI) (fun _ _ _ => trivial)
theorem vH12 (hLn : Ln ≤ 3072) : xHyp12 Ln xs vInv := fun v0 h0 v1 h1 v2 h2 a b hI => vMono (vS12 hLn v0 h0 v1 h1 v2 h2 a b hI) (fun _ _ _ => trivial)
theorem vH13 (hLn : Ln ≤ 3072) : xHyp13 Ln xs vInv := fun v0 h0 a b hI => vMono (vS13 hLn v0 h0 a b hI) (fun _ _ _ => trivial)
theorem vH14 (hLn : Ln ≤ 3072) : xHyp14 Ln xs vInv := fun v0 h0 v1 h1 v2 h2 a b hI => vMono (vS14 hLn v0 h0 v1 h1 v2 h2 a b hI) (fun _ _ _ => trivial)
theorem vH15 (hLn : Ln ≤ 3072) : xHyp15 Ln xs vInv := fun v0 h0 v1 h1 a b hI => vMono (vS15 hLn v0 h0 v1 h1 a b hI) (fun _ _ _ => trivial)
theorem vH16 (hLn : Ln ≤ 3072) : xHyp16 Ln xs vInv := fun v0 h0 v1 h1 a b hI => vMono (vS16 hLn v0 h0 v1 h1 a b hI) (fun _ _ _ => trivial)
theorem vH17 (hLn : Ln ≤ 3072) : xHyp17 Ln xs vInv := fun v0 h0 a b hI => vS17 hLn v0 h0 a b hI
theorem vH18 (hLn : Ln ≤ 3072) : xHyp18 Ln xs vInv := fun v0 h0 a b hI => vS18 hLn v0 h0 a b hI
theorem vH19 (hLn : Ln ≤ 3072) : xHyp19 Ln xs vInv := fun v0 h0 a b hI => vS19 hLn v0 h0 a b hI
theorem vH20 (hLn : Ln ≤ 3072) : xHyp20 Ln xs vInv := fun a b hI => vS20 hLn a b hI
theorem vH21 (hLn : Ln ≤ 3072) : xHyp21 Ln xs vInv := fun v0 h0 v1 h1 a b hI => vS21 hLn v0 h0 v1 h1 a b hI
theorem vH22 (hLn : Ln ≤ 3072) : xHyp22 Ln xs vInv := fun v0 h0 a b hI => vMono (vS22 hLn v0 h0 a b hI) (fun _ _ _ => trivial)
theorem vH23 (hLn : Ln ≤ 3072) : xHyp23 Ln xs vInv := fun v0 h0 a b hI => vMono (vS23 hLn v0 h0 a b hI) (fun _ _ _ => trivial)
theorem vH24 (hLn : Ln ≤ 3072) : xHyp24 Ln xs vInv := fun v0 h0 v1 h1 v2 h2 v3 h3 a b hI => vS24 hLn v0 h0 v1 h1 v2 h2 v3 h3 a b hI
theorem vH25 (hLn : Ln ≤ 3072) : xHyp25 Ln xs vInv := fun v0 h0 a b hI => vMono (vS25 hLn v0 h0 a b hI) (fun _ _ _ => trivial)
theorem vH26 (hLn : Ln ≤ 3072) : xHyp26 Ln xs vInv := fun v0 h0 v1 h1 v2 h2 a b hI => vMono (vS26 hLn v0 h0 v1 h1 v2 h2 a b hI) (fun _ _ _ => trivial)
theorem vH27 (hLn : Ln ≤ 3072) : xHyp27 Ln xs vInv := fun v0 h0 v1 h1 a b hI => vMono (vS27 hLn v0 h0 v1 h1 a b hI) (fun _ _ _ => trivial)
theorem vH28 (hLn : Ln ≤ 3072) : xHyp28 Ln xs vInv := fun v0 h0 a b hI => vMono (vS28 hLn v0 h0 a b hI) (fun _ _ _ => trivial)
theorem vH29 (hLn : Ln ≤ 3072) : xHyp29 Ln xs vInv := fun v0 h0 a b hI => vMono (vS29 hLn v0 h0 a b hI) (fun _ _ _ => trivial)
theorem vH30 (hLn : Ln ≤ 3072) : xHyp30 Ln xs vInv := fun v0 h0 a b hI => vMono (vS30 hLn v0 h0 a b hI) (fun _ _ _ => trivial)
theorem vHead (hLn : Ln ≤ 3072) : pLH Ln xs := by
  intro ρ cl cs σ hA hl hs
  have hE := hA.1.1
  have hM := hA.2.1
  have hok : kOk σ := ⟨fun p => by
    rw [hM.1.2 p]
    show aG2 p1M.1.2 p = _
    rw [pL_shape], fun p k => bIni_ok hE hM p k⟩
  obtain ⟨v0, g0, q0⟩ := hl.2 0 _ rfl
  obtain ⟨v1, g1, q1⟩ := hl.2 1 _ rfl
  obtain ⟨v2, g2, q2⟩ := hl.2 2 _ rfl
  obtain ⟨v3, g3, q3⟩ := hl.2 3 _ rfl
  have e0 := aVok_ref q0
  have e1 := aVok_ref q1
  have e2 := aVok_ref q2
  obtain ⟨z, e3, hz⟩ := aVok_int q3
  have hz : z.toInt = ρ 0 + 0 := hz.2
  rw [hE.1.1] at hz
  have e4 : z = Int32.ofInt 0 := Int32.toInt.inj (hz.trans rfl)
  have hlen : 4 = cl.length := hl.1
  have hcl : cl = [some (.ref 1001), some (.ref 0), some (.ref 87), some (xV 0)] := by
    rw [e0] at g0
    rw [e1] at g1
    rw [e2] at g2
    rw [e3, e4] at g3
    match cl, hlen, g0, g1, g2, g3 with
    | [c0, c1, c2, c3], _, g0, g1, g2, g3 =>
      cases g0
      cases g1
      cases g2
      cases g3
      rfl
  have hcs : cs = [] := by
    match cs, hs with
    | [], _ => rfl
  have hkp := kP_ini hM
  obtain ⟨a, b, rfl, hAr⟩ := xEx hok
  have hI : vInv a b := vIni hE.1.1 hM hAr hok hkp
  rw [hcl, hcs]
  exact xLoop (Q := pLQ) hLn (vH0 hLn) (vH1 hLn) (vH2 hLn) (vH3 hLn) (vH4 hLn) (vH5 hLn) (vH6 hLn) (vH7 hLn) (vH8 hLn) (vH9 hLn) (vH10 hLn) (vH11 hLn) (vH12 hLn) (vH13 hLn) (vH14 hLn) (vH15 hLn) (vH16 hLn) (vH17 hLn) (vH18 hLn) (vH19 hLn) (vH20 hLn) (vH21 hLn) (vH22 hLn) (vH23 hLn) (vH24 hLn) (vH25 hLn) (vH26 hLn) (vH27 hLn) (vH28 hLn) (vH29 hLn) (vH30 hLn) (fun a b h => ⟨rfl, pL_tot h.1.1.1⟩) 3072 0 a b (by decide) (by decide) (by omega) hI
theorem vLaw (hLn : Ln ≤ 3072) : ∃ N d σf, d ≤ 1000 ∧ pmRun (pmRo Ln xs) (pmCall (pmRo Ln xs) N d) 13 246 2 N 0 [some (.ref 1001), none, none, none] [] pmσ0 = some (some (.int 1), σf) ∧ pmTot σf.1 ≤ 7302250 := pL_all hLn (vHead hLn)
end
