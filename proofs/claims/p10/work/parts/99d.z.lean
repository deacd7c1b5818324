/-! feed, alike; the law from its beginning -/
section
set_option maxRecDepth 100000
variable {Ln : Nat} {xs : Nat → Int32}
theorem zS6 (hLn : Ln ≤ 3072) : xHyp6 Ln xs zInv := by
  intro v0 h0 v1 h1 v2 h2 v3 h3 v4 h4 a b hI
  unfold xStep
  obtain ⟨i1, i2, i3, i4, i5, i6⟩ := id hI
  have hg0 := xt0_12 i1 i3
  have hl0 := xt1_1 i1 i3
  by_cases hg : a 0 12 = 0
  · obtain ⟨z1, z2, z3, z4, z5, z6⟩ := i6 hg
    obtain ⟨F, hF⟩ : ∃ F : Int → Int, F = fun j => fT (fT (fT (fT (fT (a 2) (a 1 1) v0) (a 1 1 + 4) v1) (a 1 1 + 4 + 4) v2) (a 1 1 + 4 + 4 + 4) v3) (a 1 1 + 4 + 4 + 4 + 4) v4 j := ⟨_, rfl⟩
    refine zJoin2 (W := xW29) (R := fun _ s => ∃ a1, s = xS a1 b ∧ xAr a1 ∧ ((a 1 1 + 20 ≤ 400 ∧ a1 1 1 = a 1 1 + 20 ∧ ∀ j, 0 ≤ j → j < a 1 1 + 20 → a1 2 j = F j) ∨ (¬ a 1 1 + 20 ≤ 400 ∧ a1 = a))) ?_ ?_ ?_
    · exact xe29 (xL0 hLn) (xC29 hLn) i1 i2 i3 (by decide) h0 h1 h2 h3 h4 (fun z a' b' k1 k2 _ k4 k5 => ⟨k1, k2, k4, z, ⟨by omega, by omega⟩, rfl⟩)
    · refine pmCs_deep (d := 2) (xg29 (w29 h0 h1 h2 h3 h4 rfl hl0 (fun _ _ _ => rfl) i3 (by decide) (fun e a1 _ _ _ a2 _ _ _ a3 _ _ _ a4 _ _ _ a5 g1 g2 g3 => ⟨a5, rfl, g1, Or.inl ⟨e, by omega, fun j j0 j1 => ?_⟩⟩) (fun e => ⟨a, rfl, i3, Or.inr ⟨e, rfl⟩⟩))) (by decide)
      rw [hF]
      exact g3 j j0 (by omega)
    · rintro r s k1 k2 k4 ⟨z, hz, hr⟩ ⟨a1, rfl, hA1, hX⟩
      refine ⟨z, a1, b, hr, hz, rfl, ?_⟩
      obtain ⟨w6, w1, w7, w8⟩ := zFx k4 hA1 i3 (by decide +kernel)
      have w9 : a1 87 9 = a 87 9 := (xFr k4 hA1 i3 (by decide) (by decide +kernel)).1
      have w10 : a1 87 3 = a 87 3 := (xFr k4 hA1 i3 (by decide) (by decide +kernel)).1
      have w11 : a1 13 7 = a 13 7 := (xFr k4 hA1 i3 (by decide) (by decide +kernel)).1
      have w2 : ∀ j, 0 ≤ j → a1 93 j = a 93 j := fun j hj => (xFrr k4 hA1 i3 (by decide +kernel) (by decide +kernel) hj).1
      have w3 : ∀ j, 0 ≤ j → a1 96 j = a 96 j := fun j hj => (xFrr k4 hA1 i3 (by decide +kernel) (by decide +kernel) hj).1
      have w5 : ∀ j, 0 ≤ j → a1 12 j = a 12 j := fun j hj => (xFrr k4 hA1 i3 (by decide +kernel) (by decide +kernel) hj).1
      refine zJoin2 (W := xW151) (R := fun _ s' => ∃ a2, s' = xS a2 b ∧ xAr a2 ∧ ((a 1 1 + 20 ≤ 400 ∧ a2 87 9 = a 1 1 + 20 ∧ ∀ j, 0 ≤ j → j < a 1 1 + 20 → a2 93 j % 256 = F j) ∨ (¬ a 1 1 + 20 ≤ 400 ∧ a2 = a1))) ?_ ?_ ?_
      · exact xe151 (xL0 hLn) (xC151 hLn) k1 k2 hA1 (by decide) h0 h1 h2 h3 h4 (fun z a' b' k1 k2 _ k4 k5 => ⟨k1, k2, k4, z, ⟨by omega, by omega⟩, rfl⟩)
      · refine pmCs_deep (d := 2) (xg151 (w151 (l := a 1 1) (t := a 2) h0 h1 h2 h3 h4 (by omega) hl0 (fun j j0 j1 => ?_) hA1 (by decide) (fun e c1 _ _ _ c2 _ _ _ c3 _ _ _ c4 _ _ _ c5 g1 g2 g3 => ⟨c5, rfl, g1, Or.inl ⟨e, by omega, fun j j0 j1 => ?_⟩⟩) (fun e => ⟨a1, rfl, hA1, Or.inr ⟨e, rfl⟩⟩))) (by decide)
        · rw [w2 j j0]
          rcases z2 j j0 with g | g
          · omega
          · exact g.symm
        · rw [hF]
          exact g3 j j0 (by omega)
      · rintro r' s' q1 q2 q4 ⟨z', hz', hr'⟩ ⟨a2, rfl, q3, hY⟩
        obtain ⟨u6, u1, u7, u8⟩ := zFx q4 q3 hA1 (by decide +kernel)
        have u3 : ∀ j, 0 ≤ j → a2 96 j = a1 96 j := fun j hj => (xFrr q4 q3 hA1 (by decide +kernel) (by decide +kernel) hj).1
        have u4 : ∀ j, 0 ≤ j → a2 2 j = a1 2 j := fun j hj => (xFrr q4 q3 hA1 (by decide +kernel) (by decide +kernel) hj).1
        have u5 : ∀ j, 0 ≤ j → a2 12 j = a1 12 j := fun j hj => (xFrr q4 q3 hA1 (by decide +kernel) (by decide +kernel) hj).1
        have u9 : a2 1 1 = a1 1 1 := (xFr q4 q3 hA1 (by decide) (by decide +kernel)).1
        have u10 : a2 13 7 = a1 13 7 := (xFr q4 q3 hA1 (by decide) (by decide +kernel)).1
        have u11 : a2 87 3 = a1 87 3 := (xFr q4 q3 hA1 (by decide) (by decide +kernel)).1
        refine ⟨z', a2, b, hr', hz', rfl, ⟨q1, q2, q3, by omega, by omega, fun _ => ⟨?_, fun j hj => ?_, fun p hp => ?_, by omega, by omega, by omega⟩⟩, trivial⟩
        · rcases hX with ⟨x1, x2, _⟩ | ⟨x1, x2⟩
          · rcases hY with ⟨_, y2, _⟩ | ⟨y1, _⟩
            · omega
            · omega
          · rcases hY with ⟨y1, _, _⟩ | ⟨_, y2⟩
            · omega
            · rw [y2, w9, x2]
              exact z1
        · rcases hX with ⟨x1, x2, x3⟩ | ⟨x1, x2⟩
          · rcases hY with ⟨_, y2, y3⟩ | ⟨y1, _⟩
            · by_cases c : j < a 1 1 + 20
              · right
                rw [u4 j hj, x3 j hj c, y3 j hj c]
              · left
                omega
            · omega
          · rcases hY with ⟨y1, _, _⟩ | ⟨_, y2⟩
            · omega
            · rw [y2, x2]
              exact z2 j hj
        · rw [u5 p hp, u3 p hp, w5 p hp, w3 p hp]
          exact z3 p hp
  · refine xe29 (xL0 hLn) (xC29 hLn) i1 i2 i3 (by decide) h0 h1 h2 h3 h4 (fun z1 a1 b1 k1 k2 k3 k4 k5 => ?_)
    have e1 := (zFx k4 k3 i3 (by decide +kernel))
    have hI1 : zInv a1 b1 := zFrB hI hg k1 k2 k3 (by omega) k4 (by decide +kernel) (by decide +kernel)
    refine ⟨z1, a1, b1, rfl, ⟨by omega, by omega⟩, rfl, ?_⟩
    refine xe151 (xL0 hLn) (xC151 hLn) k1 k2 k3 (by decide) h0 h1 h2 h3 h4 (fun z2 a2 b2 l1 l2 l3 l4 l5 => ?_)
    have e2 := (zFx l4 l3 k3 (by decide +kernel))
    exact ⟨z2, a2, b2, rfl, ⟨by omega, by omega⟩, rfl, zFrB hI1 (by omega) l1 l2 l3 (by omega) l4 (by decide +kernel) (by decide +kernel), trivial⟩
theorem zS8 (hLn : Ln ≤ 3072) : xHyp8 Ln xs zInv := zE8 hLn
theorem zS7 (hLn : Ln ≤ 3072) : xHyp7 Ln xs zInv := by
  intro v0 h0 v1 h1 v2 h2 a b hI
  exact xStep_mono (zE7 hLn v0 h0 v1 h1 v2 h2 a b hI) (fun _ _ _ => trivial)
theorem zHead (hLn : Ln ≤ 3072) : pLH Ln xs := by
  intro ρ cl cs σ hA hl hs
  have hE := hA.1.1
  have hM := hA.2.1
  have hok : kOk σ := ⟨fun p => by
    rw [hM.1.2 p]
    show aG2 p1M.1.2 p = _
    rw [pL_shape], fun p k => bIni_ok hE hM p k⟩
  obtain ⟨v0, g0, q0⟩ := hl.2 0 _ rfl
  obtain ⟨v1, g1, q1⟩ := hl.2 1 _ rfl
  obtain ⟨v2, g2, q2⟩ := hl.2 2 _ rfl
  obtain ⟨v3, g3, q3⟩ := hl.2 3 _ rfl
  have e0 := aVok_ref q0
  have e1 := aVok_ref q1
  have e2 := aVok_ref q2
  obtain ⟨z, e3, hz⟩ := aVok_int q3
  have hz : z.toInt = ρ 0 + 0 := hz.2
  rw [hE.1.1] at hz
  have e4 : z = Int32.ofInt 0 := Int32.toInt.inj (hz.trans rfl)
  have hlen : 4 = cl.length := hl.1
  have hcl : cl = [some (.ref 1001), some (.ref 0), some (.ref 87), some (xV 0)] := by
    rw [e0] at g0
    rw [e1] at g1
    rw [e2] at g2
    rw [e3, e4] at g3
    match cl, hlen, g0, g1, g2, g3 with
    | [c0, c1, c2, c3], _, g0, g1, g2, g3 =>
      cases g0
      cases g1
      cases g2
      cases g3
      rfl
  have hcs : cs = [] := by
    match cs, hs with
    | [], _ => rfl
  have hkp := kP_ini hM
  have c1 : kI σ 0 12 = 0 := kZ_int hM (p := 0) (k := 12) rfl rfl
  have c2 : kI σ 87 4 = 0 := kZ_int hM (p := 87) (k := 4) rfl rfl
  have c3 : kI σ 88 114 = 0 := kZ_int hM (p := 88) (k := 114) rfl rfl
  have c4 : kI σ 1 1 = 0 := kZ_int hM (p := 1) (k := 1) rfl rfl
  have c5 : kI σ 87 9 = 0 := kZ_int hM (p := 87) (k := 9) rfl rfl
  have c6 : ∀ k, kI σ 12 k = 0 := fun k => kZ_int hM (p := 12) (k := k) rfl rfl
  have c7 : ∀ k, kI σ 96 k = 0 := fun k => kZ_int hM (p := 96) (k := k) rfl rfl
  have c8 : kI σ 13 7 = 0 := kZ_int hM (p := 13) (k := 7) rfl rfl
  have c9 : kI σ 87 3 = 0 := kZ_int hM (p := 87) (k := 3) rfl rfl
  have c10 : kI σ 21 6 = 0 := kZ_int hM (p := 21) (k := 6) rfl rfl
  obtain ⟨a, b, rfl, hAr⟩ := xEx hok
  have cv : ∀ p (k : Nat), kI (xS a b) p k = a p (k : Int) := fun p k => xI (hAr p k)
  rw [cv] at c1 c2 c3 c4 c5 c8 c9 c10
  have d1 : a 0 12 = 0 := c1
  have d2 : a 87 4 = 0 := c2
  have d3 : a 88 114 = 0 := c3
  have d4 : a 1 1 = 0 := c4
  have d5 : a 87 9 = 0 := c5
  have d8 : a 13 7 = 0 := c8
  have d9 : a 87 3 = 0 := c9
  have d10 : a 21 6 = 0 := c10
  have hI : zInv a b := by
    refine ⟨hok, hkp, hAr, by omega, by omega, fun _ => ⟨by omega, fun j hj => Or.inl (by omega), fun p hp => ?_, by omega, d10, d3⟩⟩
    have h6 := c6 p.toNat
    have h7 := c7 p.toNat
    rw [cv, Int.toNat_of_nonneg hp] at h6 h7
    rw [h6, h7]
  rw [hcl, hcs]
  exact xLoop (Q := pLQ) hLn (zS0 hLn) (zS1 hLn) (zS2 hLn) (zS3 hLn) (zS4 hLn) (zS5 hLn) (zS6 hLn) (zS7 hLn) (zS8 hLn) (zS9 hLn) (zS10 hLn) (zS11 hLn) (zS12 hLn) (zS13 hLn) (zS14 hLn) (zS15 hLn) (zS16 hLn) (zS17 hLn) (zS18 hLn) (zS19 hLn) (zS20 hLn) (zS21 hLn) (zS22 hLn) (zS23 hLn) (zS24 hLn) (zS25 hLn) (zS26 hLn) (zS27 hLn) (zS28 hLn) (zS29 hLn) (zS30 hLn) (fun a b h => ⟨rfl, pL_tot h.1.1⟩) 3072 0 a b (by decide) (by decide) (by omega) hI
theorem zLaw (hLn : Ln ≤ 3072) : ∃ N d σf, d ≤ 1000 ∧ pmRun (pmRo Ln xs) (pmCall (pmRo Ln xs) N d) 13 246 2 N 0 [some (.ref 1001), none, none, none] [] pmσ0 = some (some (.int 1), σf) ∧ pmTot σf.1 ≤ 7302250 := pL_all hLn (zHead hLn)
end
