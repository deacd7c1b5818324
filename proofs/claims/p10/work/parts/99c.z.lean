/-! feed, wish, law: exactly, on both sides; the law from its beginning -/
section
set_option maxRecDepth 100000
variable {Ln : Nat} {xs : Nat → Int32}
noncomputable def zN (W : Nat) : Bool := W.testBit (bRg 0 12) || W.testBit (bRg 87 4) || W.testBit (bRg 21 6) || W.testBit (bRg 88 114)
theorem zFx {a a' : xA} {b b' : xB} {W : Nat} (hW : kSm W (xS a' b') (xS a b)) (h3 : xAr a') (i3 : xAr a) (m : zN W = false) : a' 0 12 = a 0 12 ∧ a' 87 4 = a 87 4 ∧ a' 21 6 = a 21 6 ∧ a' 88 114 = a 88 114 := by
  unfold zN at m
  simp only [Bool.or_eq_false_iff] at m
  obtain ⟨⟨⟨m1, m2⟩, m3⟩, m4⟩ := m
  exact ⟨(xFr hW h3 i3 (by decide) m1).1, (xFr hW h3 i3 (by decide) m2).1, (xFr hW h3 i3 (by decide) m3).1, (xFr hW h3 i3 (by decide) m4).1⟩
/-- the wish, alike -/
theorem zE7 (hLn : Ln ≤ 3072) : ∀ v0 : Int, xR v0 → ∀ v1 : Int, xR v1 → ∀ v2 : Int, xR v2 → ∀ a b, zInv a b → xStep (pmRo Ln xs) 59 31 [.ref 0, xV v0, xV v1, xV v2] 153 [.ref 87, xV v0, xV v1, xV v2] zInv (fun z z' => z = z') a b := by
  intro v0 h0 v1 h1 v2 h2 a b hI
  unfold xStep
  obtain ⟨i1, i2, i3, i4, i5, i6⟩ := id hI
  have hg0 := xt0_12 i1 i3
  have hl0 := xt1_1 i1 i3
  by_cases hg : a 0 12 = 0
  · obtain ⟨z1, z2, z3, z4, z5, z6⟩ := i6 hg
    have hb : tB (a 2) := fun j hj => xt2 i1 i3 hj
    refine zJoin (W := xW31) (R := fun r s => ∃ z a1, r = some (xV z) ∧ xR z ∧ s = xS a1 b ∧ xAr a1 ∧ zWc a a1 ∧
      ((¬ (1 ≤ v0 ∧ v0 ≤ 3 ∧ 1 ≤ v1 ∧ v1 ≤ 9 ∧ 1 ≤ v2 ∧ v2 ≤ 40 ∧ a 12 v0 < 3 ∧ v2 ≤ a 1 1) ∧ z = -1 ∧ a1 = a)
      ∨ ((1 ≤ v0 ∧ v0 ≤ 3 ∧ 1 ≤ v1 ∧ v1 ≤ 9 ∧ 1 ≤ v2 ∧ v2 ≤ 40 ∧ a 12 v0 < 3 ∧ v2 ≤ a 1 1) ∧ (∃ m, wRun (a 2) v2 m true 0 [] [] = some (.inl z)) ∧ a1 1 1 = 0 ∧ (∀ j, a1 12 j = a 12 j))
      ∨ ((1 ≤ v0 ∧ v0 ≤ 3 ∧ 1 ≤ v1 ∧ v1 ≤ 9 ∧ 1 ≤ v2 ∧ v2 ≤ 40 ∧ a 12 v0 < 3 ∧ v2 ≤ a 1 1) ∧ (∃ m ts, wRun (a 2) v2 m true 0 [] [] = some (.inr ts)) ∧ z = a 12 v0 ∧ a1 1 1 = 0 ∧ a1 12 v0 = a 12 v0 + 1 ∧ (∀ j, ¬ j = v0 → a1 12 j = a 12 j)))) ?_ ?_ ?_
    · exact xe31 (xL0 hLn) (xC31 hLn) i1 i2 i3 (by decide) h0 h1 h2 (fun z a' b' k1 k2 _ k4 _ => ⟨k1, k2, k4⟩)
    · exact yk31 h0 h1 h2 hg rfl hl0 (fun j _ _ => rfl) hb i3 (fun i hi => xt11 i1 i3 hi) (fun i hi => xt12 i1 i3 hi) (by decide)
        (fun e => ⟨-1, a, rfl, ⟨by decide, by decide⟩, rfl, i3, fun _ _ _ _ _ _ _ _ _ _ => rfl, Or.inl ⟨e, rfl, rfl⟩⟩)
        (fun e a1 f m g1 g2 g3 g4 g5 g6 => ⟨f, a1, rfl, ⟨by omega, by omega⟩, rfl, g3, g6, Or.inr (Or.inl ⟨e, ⟨m, g1⟩, g4, g5⟩)⟩)
        (fun e a1 ts m g1 g2 g3 g4 g5 g6 => ⟨a 12 v0, a1, rfl, i3 12 v0, rfl, g2, g6, Or.inr (Or.inr ⟨e, ⟨m, ts, g1⟩, rfl, g3, g4, g5⟩)⟩)
    · rintro r s k1 k2 k4 ⟨z, a1, rfl, hz, rfl, hA1, hF, hX⟩
      refine ⟨z, a1, b, rfl, hz, rfl, ?_⟩
      have w1 : ∀ j, a1 87 j = a 87 j := fun j => hF 87 j (by decide) (by decide) (by decide) (by decide) (by decide) (by decide) (by decide) (by decide)
      have w2 : ∀ j, a1 93 j = a 93 j := fun j => hF 93 j (by decide) (by decide) (by decide) (by decide) (by decide) (by decide) (by decide) (by decide)
      have w3 : ∀ j, a1 96 j = a 96 j := fun j => hF 96 j (by decide) (by decide) (by decide) (by decide) (by decide) (by decide) (by decide) (by decide)
      have w4 : ∀ j, a1 2 j = a 2 j := fun j => hF 2 j (by decide) (by decide) (by decide) (by decide) (by decide) (by decide) (by decide) (by decide)
      have w5 : ∀ j, a1 13 j = a 13 j := fun j => hF 13 j (by decide) (by decide) (by decide) (by decide) (by decide) (by decide) (by decide) (by decide)
      have w6 : a1 0 12 = a 0 12 := hF 0 12 (by decide) (by decide) (by decide) (by decide) (by decide) (by decide) (by decide) (by decide)
      have w7 : a1 21 6 = a 21 6 := hF 21 6 (by decide) (by decide) (by decide) (by decide) (by decide) (by decide) (by decide) (by decide)
      have w8 : a1 88 114 = a 88 114 := hF 88 114 (by decide) (by decide) (by decide) (by decide) (by decide) (by decide) (by decide) (by decide)
      have hg4 : a1 87 4 = 0 := by
        rw [w1]
        omega
      have hl9 : a1 87 9 = a 1 1 := by
        rw [w1]
        omega
      have ht : v2 ≤ a 1 1 → ∀ j, 0 ≤ j → j < v2 → a1 93 j % 256 = a 2 j := fun e j j0 j1 => by
        rw [w2]
        rcases z2 j j0 with g | g
        · omega
        · exact g.symm
      have h96 : ∀ i, 0 ≤ i → 0 ≤ a1 96 i ∧ a1 96 i ≤ 3 := fun i hi => xt96 k1 hA1 hi
      -- the reference's
      have fin : ∀ a2 : xA, kOk (xS a2 b) → kP (xS a2 b) → xAr a2 → zWr a1 a2 → a2 1 1 = a2 87 9 → (∀ j, 0 ≤ j → a2 1 1 ≤ j ∨ a2 2 j = a2 93 j % 256) → (∀ p, 0 ≤ p → a2 12 p = a2 96 p) → zInv a2 b := by
        intro a2 q1 q2 q3 q4 q5 q6 q7
        have u1 : a2 0 12 = a1 0 12 := q4.1 0 12 (by decide) (by decide) (by decide) (by decide) (by decide) (by decide) (by decide)
        have u2 : a2 88 114 = a1 88 114 := q4.1 88 114 (by decide) (by decide) (by decide) (by decide) (by decide) (by decide) (by decide)
        have u3 : a2 21 6 = a1 21 6 := q4.1 21 6 (by decide) (by decide) (by decide) (by decide) (by decide) (by decide) (by decide)
        have u4 : a2 13 7 = a1 13 7 := q4.1 13 7 (by decide) (by decide) (by decide) (by decide) (by decide) (by decide) (by decide)
        have u5 : a2 87 4 = a1 87 4 := q4.2 4 (by decide) (by decide) (by decide) (by decide) (by decide) (by decide) (by decide) (by decide)
        have u6 : a2 87 3 = a1 87 3 := q4.2 3 (by decide) (by decide) (by decide) (by decide) (by decide) (by decide) (by decide) (by decide)
        refine ⟨q1, q2, q3, by rw [u2, w8]; exact i4, by rw [u1, u5, w6, hg4]; exact hg, fun _ => ⟨q5, q6, q7, by rw [u4, u6, w5, w1]; exact z4, by rw [u3, w7]; exact z5, by rw [u2, w8]; exact z6⟩⟩
      have eng := xe153 (xL0 (xs := xs) hLn) (xC153 (xs := xs) hLn) k1 k2 hA1 (by decide) h0 h1 h2 (d := 59) (Q := fun _ s => kOk s ∧ kP s ∧ kSm xW153 s (xS a1 b)) (fun z a' b' k1 k2 _ k4 _ => ⟨k1, k2, k4⟩)
      refine zJoin (W := xW153) (R := fun r' s' => ∃ a2, r' = some (xV z) ∧ s' = xS a2 b ∧ xAr a2 ∧ zWr a1 a2 ∧ a2 1 1 = a2 87 9 ∧ (∀ j, 0 ≤ j → a2 1 1 ≤ j ∨ a2 2 j = a2 93 j % 256) ∧ (∀ p, 0 ≤ p → a2 12 p = a2 96 p)) eng ?_ ?_
      · rcases hX with ⟨e, ez, ea⟩ | ⟨e, ⟨m, hm⟩, e1, e2⟩ | ⟨e, ⟨m, ts, hm⟩, e0, e1, e2, e3⟩
        · have hno : ¬ (1 ≤ v0 ∧ v0 ≤ 3 ∧ 1 ≤ v1 ∧ v1 ≤ 9 ∧ 1 ≤ v2 ∧ v2 ≤ 40 ∧ a1 96 v0 < 3 ∧ v2 ≤ a1 87 9) := fun e' => by
            have y1 := z3 v0 (by omega)
            have y2 := w3 v0
            omega
          refine yk153 (m := 0) (r := .inl 0) (t := fun j => a1 93 j % 256) h0 h1 h2 hg4 rfl (by omega) (fun _ _ _ => rfl) (fun j _ => ?_) hA1 h96 (by decide) (fun e' => absurd e' hno) (fun _ => ⟨a1, by rw [ez], rfl, hA1, ⟨fun _ _ _ _ _ _ _ _ _ => rfl, fun _ _ _ _ _ _ _ _ _ => rfl⟩, ?_, fun j hj => ?_, fun p hp => ?_⟩) (fun e' => absurd e' hno) (fun e' => absurd e' hno)
          · show 0 ≤ a1 93 j % 256 ∧ a1 93 j % 256 ≤ 255
            omega
          · rw [hl9, ea]
          · rw [ea]
            exact z2 j hj
          · rw [ea]
            exact z3 p hp
        · have hG' : 1 ≤ v0 ∧ v0 ≤ 3 ∧ 1 ≤ v1 ∧ v1 ≤ 9 ∧ 1 ≤ v2 ∧ v2 ≤ 40 ∧ a1 96 v0 < 3 ∧ v2 ≤ a1 87 9 := by
            have y1 := z3 v0 (by omega)
            have y2 := w3 v0
            omega
          refine yk153 (m := m) (r := .inl z) (t := a 2) h0 h1 h2 hg4 rfl (by omega) (ht (by omega)) hb hA1 h96 (by decide) (fun _ => hm) (fun e' => absurd hG' e') (fun _ a2 f g1 g2 g3 g4 g5 => ⟨a2, by rw [Sum.inl.inj g1], rfl, g2, g5, ?_, fun j hj => ?_, fun p hp => ?_⟩) (fun _ a2 ts g1 _ _ _ _ _ => by cases g1)
          · rw [g3, g5.1 1 1 (by decide) (by decide) (by decide) (by decide) (by decide) (by decide) (by decide), e1]
          · rw [g5.1 1 1 (by decide) (by decide) (by decide) (by decide) (by decide) (by decide) (by decide), e1]
            exact Or.inl hj
          · rw [g5.1 12 p (by decide) (by decide) (by decide) (by decide) (by decide) (by decide) (by decide), e2, g4, w3]
            exact z3 p hp
        · have hG' : 1 ≤ v0 ∧ v0 ≤ 3 ∧ 1 ≤ v1 ∧ v1 ≤ 9 ∧ 1 ≤ v2 ∧ v2 ≤ 40 ∧ a1 96 v0 < 3 ∧ v2 ≤ a1 87 9 := by
            have y1 := z3 v0 (by omega)
            have y2 := w3 v0
            omega
          refine yk153 (m := m) (r := .inr ts) (t := a 2) h0 h1 h2 hg4 rfl (by omega) (ht (by omega)) hb hA1 h96 (by decide) (fun _ => hm) (fun e' => absurd hG' e') (fun _ a2 f g1 _ _ _ _ => by cases g1) (fun _ a2 ts g1 g2 g3 g4 g5 g6 => ⟨a2, ?_, rfl, g2, g6, ?_, fun j hj => ?_, fun p hp => ?_⟩)
          · rw [w3, e0, z3 v0 (by omega)]
          · rw [g3, g6.1 1 1 (by decide) (by decide) (by decide) (by decide) (by decide) (by decide) (by decide), e1]
          · rw [g6.1 1 1 (by decide) (by decide) (by decide) (by decide) (by decide) (by decide) (by decide), e1]
            exact Or.inl hj
          · rw [g6.1 12 p (by decide) (by decide) (by decide) (by decide) (by decide) (by decide) (by decide)]
            by_cases c : p = v0
            · rw [c, e2, g4, w3, z3 v0 (by omega)]
            · rw [e3 p c, g5 p c, w3]
              exact z3 p hp
      · rintro r' s' q1 q2 _ ⟨a2, rfl, rfl, q3, q4, q5, q6, q7⟩
        exact ⟨z, a2, b, rfl, hz, rfl, fin a2 q1 q2 q3 q4 q5 q6 q7, rfl⟩
  · refine pmCs_deep (d := 3) (xg31 (w31 h0 h1 h2 rfl rfl hg0 hl0 i3 (by decide) ?_ ?_ ?_ ?_ ?_ ?_ ?_ ?_ ?_ ?_ ?_ ?_ ?_ ?_)) (by decide)
    all_goals (
      (try unfold xK)
      intros
      first
        | (exfalso; omega)
        | refine ⟨-1, a, b, rfl, ⟨by decide, by decide⟩, rfl, ?_⟩)
    all_goals (
      refine pmCs_deep (d := 3) (xg153 (w153 h0 h1 h2 rfl rfl (xt87_4 i1 i3) (xt87_9 i1 i3) i3 (by decide) ?_ ?_ ?_ ?_ ?_ ?_ ?_)) (by decide)
      all_goals (
        (try unfold xK)
        intros
        first
          | (exfalso; omega)
          | exact ⟨-1, a, b, rfl, ⟨by decide, by decide⟩, rfl, hI, rfl⟩))
end
section
set_option maxRecDepth 100000
variable {Ln : Nat} {xs : Nat → Int32}
theorem zJoin2 {ro : Nat → Nat × (Nat → Int32)} {mm W : Nat} {vs : List Value} {a : xA} {b : xB} {Q R : Option Value → pmS → Prop} (h1 : pmCs ro 59 mm vs (xS a b) fun r s => kOk s ∧ kP s ∧ kSm W s (xS a b) ∧ ∃ z, xR z ∧ r = some (xV z)) (h2 : pmCs ro 59 mm vs (xS a b) R) (hQ : ∀ r s, kOk s → kP s → kSm W s (xS a b) → (∃ z, xR z ∧ r = some (xV z)) → R r s → Q r s) : pmCs ro 59 mm vs (xS a b) Q :=
  pmCs_mono (pmCs_deep (pmCs_and h1 h2) (by decide)) fun r s h => hQ r s h.1.1 h.1.2.1 h.1.2.2.1 h.1.2.2.2 h.2
/-- the law, alike -/
theorem zE8 (hLn : Ln ≤ 3072) : ∀ v0 : Int, xR v0 → ∀ a b, zInv a b → xStep (pmRo Ln xs) 59 47 [.ref 0, xV v0] 166 [.ref 87, xV v0] zInv (fun z z' => z = z') a b := by
  intro v0 h0 a b hI
  unfold xStep
  obtain ⟨i1, i2, i3, i4, i5, i6⟩ := id hI
  have hg0 := xt0_12 i1 i3
  have hl0 := xt1_1 i1 i3
  have hm0 := xt13_7 i1 i3
  by_cases hg : a 0 12 = 0
  · obtain ⟨z1, z2, z3, z4, z5, z6⟩ := i6 hg
    have hb : tB (a 2) := fun j hj => xt2 i1 i3 hj
    refine zJoin2 (W := xW47) (R := fun r s => ∃ a1, s = xS a1 b ∧ xAr a1 ∧
      ((¬ (1 ≤ v0 ∧ v0 ≤ 60 ∧ a 13 7 < 6 ∧ v0 ≤ a 1 1) ∧ r = some (xV (-1)) ∧ a1 = a)
      ∨ ((1 ≤ v0 ∧ v0 ≤ 60 ∧ a 13 7 < 6 ∧ v0 ≤ a 1 1) ∧ ¬ (rLw (a 2) v0 6 0 0).1 = 0 ∧ r = some (xV (rLw (a 2) v0 6 0 0).1) ∧ a1 13 7 = a 13 7 ∧ a1 1 1 = 0)
      ∨ ((1 ≤ v0 ∧ v0 ≤ 60 ∧ a 13 7 < 6 ∧ v0 ≤ a 1 1) ∧ (rLw (a 2) v0 6 0 0).1 = 0 ∧ r = some (xV (a 13 7)) ∧ a1 13 7 = a 13 7 + 1 ∧ a1 1 1 = 0))) ?_ ?_ ?_
    · exact xe47 (xL0 hLn) (xC47 hLn) i1 i2 i3 (by decide) h0 (fun z a' b' k1 k2 _ k4 k5 => ⟨k1, k2, k4, z, ⟨by omega, by omega⟩, rfl⟩)
    · exact yk47 h0 hg rfl rfl hm0 hl0 (fun _ _ _ => rfl) hb i3 (by decide) (fun e => ⟨a, rfl, i3, Or.inl ⟨e, rfl, rfl⟩⟩) (fun e f a1 g1 g2 g3 => ⟨a1, rfl, g1, Or.inr (Or.inl ⟨e, f, rfl, g2, g3⟩)⟩) (fun e f a1 g1 g2 g3 _ => ⟨a1, rfl, g1, Or.inr (Or.inr ⟨e, f, rfl, g2, g3⟩)⟩)
    · rintro r s k1 k2 k4 ⟨z, hz, hr⟩ ⟨a1, rfl, hA1, hX⟩
      refine ⟨z, a1, b, hr, hz, rfl, ?_⟩
      obtain ⟨w6, w1, w7, w8⟩ := zFx k4 hA1 i3 (by decide +kernel)
      have w9 : a1 87 9 = a 87 9 := (xFr k4 hA1 i3 (by decide) (by decide +kernel)).1
      have w10 : a1 87 3 = a 87 3 := (xFr k4 hA1 i3 (by decide) (by decide +kernel)).1
      have w2 : ∀ j, 0 ≤ j → a1 93 j = a 93 j := fun j hj => (xFrr k4 hA1 i3 (by decide +kernel) (by decide +kernel) hj).1
      have w3 : ∀ j, 0 ≤ j → a1 96 j = a 96 j := fun j hj => (xFrr k4 hA1 i3 (by decide +kernel) (by decide +kernel) hj).1
      have w4 : ∀ j, 0 ≤ j → a1 2 j = a 2 j := fun j hj => (xFrr k4 hA1 i3 (by decide +kernel) (by decide +kernel) hj).1
      have w5 : ∀ j, 0 ≤ j → a1 12 j = a 12 j := fun j hj => (xFrr k4 hA1 i3 (by decide +kernel) (by decide +kernel) hj).1
      have hg4 : a1 87 4 = 0 := by omega
      have eng := xe166 (xL0 (xs := xs) hLn) (xC166 (xs := xs) hLn) k1 k2 hA1 (by decide) h0 (d := 59) (Q := fun r s => kOk s ∧ kP s ∧ kSm xW166 s (xS a1 b) ∧ ∃ z, xR z ∧ r = some (xV z)) (fun z a' b' k1 k2 _ k4 k5 => ⟨k1, k2, k4, z, ⟨by omega, by omega⟩, rfl⟩)
      refine zJoin2 (W := xW166) (R := fun r' s' => ∃ a2, r' = some (xV z) ∧ s' = xS a2 b ∧ xAr a2 ∧ ((a2 = a1 ∧ a1 1 1 = a1 87 9 ∧ a1 13 7 = a1 87 3 ∧ a1 1 1 = a 1 1) ∨ (a2 87 9 = 0 ∧ a1 1 1 = 0 ∧ a1 13 7 = a2 87 3))) eng ?_ ?_
      · rcases hX with ⟨e, e1, ea⟩ | ⟨e, ef, e1, e2, e3⟩ | ⟨e, ef, e1, e2, e3⟩
        · have hno : ¬ (1 ≤ v0 ∧ v0 ≤ 60 ∧ a1 87 3 < 6 ∧ v0 ≤ a1 87 9) := fun e' => by omega
          refine yk166 (t := fun j => a1 93 j % 256) h0 hg4 rfl rfl (by omega) (by omega) (fun _ _ _ => rfl) (fun j _ => ?_) hA1 (by decide) (fun _ => ⟨a1, by rw [← hr, e1], rfl, hA1, Or.inl ⟨rfl, by rw [ea]; exact z1, by rw [ea]; exact z4, by rw [ea]⟩⟩) (fun e' => absurd e' hno) (fun e' => absurd e' hno)
          show 0 ≤ a1 93 j % 256 ∧ a1 93 j % 256 ≤ 255
          omega
        · refine yk166 (t := a 2) h0 hg4 rfl rfl (by omega) (by omega) (fun j j0 j1 => ?_) hb hA1 (by decide) (fun e' => absurd (by omega) e') (fun _ _ a2 g1 g2 g3 => ⟨a2, by rw [← hr, e1], rfl, g1, Or.inr ⟨g3, e3, by omega⟩⟩) (fun _ e' => absurd e' ef)
          rw [w2 j j0]
          rcases z2 j j0 with g | g
          · omega
          · exact g.symm
        · refine yk166 (t := a 2) h0 hg4 rfl rfl (by omega) (by omega) (fun j j0 j1 => ?_) hb hA1 (by decide) (fun e' => absurd (by omega) e') (fun _ e' => absurd ef e') (fun _ _ a2 g1 g2 g3 _ => ⟨a2, by rw [← hr, e1, w10, z4], rfl, g1, Or.inr ⟨g3, e3, by omega⟩⟩)
          rw [w2 j j0]
          rcases z2 j j0 with g | g
          · omega
          · exact g.symm
      · rintro r' s' q1 q2 q4 _ ⟨a2, rfl, rfl, q3, hY⟩
        obtain ⟨u6, u1, u7, u8⟩ := zFx q4 q3 hA1 (by decide +kernel)
        have u2 : ∀ j, 0 ≤ j → a2 93 j = a1 93 j := fun j hj => (xFrr q4 q3 hA1 (by decide +kernel) (by decide +kernel) hj).1
        have u3 : ∀ j, 0 ≤ j → a2 96 j = a1 96 j := fun j hj => (xFrr q4 q3 hA1 (by decide +kernel) (by decide +kernel) hj).1
        have u4 : ∀ j, 0 ≤ j → a2 2 j = a1 2 j := fun j hj => (xFrr q4 q3 hA1 (by decide +kernel) (by decide +kernel) hj).1
        have u5 : ∀ j, 0 ≤ j → a2 12 j = a1 12 j := fun j hj => (xFrr q4 q3 hA1 (by decide +kernel) (by decide +kernel) hj).1
        have u9 : a2 1 1 = a1 1 1 := (xFr q4 q3 hA1 (by decide) (by decide +kernel)).1
        have u10 : a2 13 7 = a1 13 7 := (xFr q4 q3 hA1 (by decide) (by decide +kernel)).1
        refine ⟨z, a2, b, rfl, hz, rfl, ⟨q1, q2, q3, by omega, by omega, fun _ => ⟨?_, fun j hj => ?_, fun p hp => ?_, ?_, by omega, by omega⟩⟩, rfl⟩
        · rcases hY with ⟨ea, y1, _, _⟩ | ⟨y1, y2, _⟩
          · rw [ea]
            exact y1
          · omega
        · rcases hY with ⟨ea, _, _, y4⟩ | ⟨_, y2, _⟩
          · rw [u9, u4 j hj, u2 j hj, y4, w4 j hj, w2 j hj]
            exact z2 j hj
          · left
            omega
        · rw [u5 p hp, u3 p hp, w5 p hp, w3 p hp]
          exact z3 p hp
        · rcases hY with ⟨ea, _, y3, _⟩ | ⟨_, _, y3⟩
          · rw [ea]
            exact y3
          · omega
  · refine pmCs_deep (d := 3) (xg47 (w47 h0 rfl rfl rfl hg0 hm0 hl0 ?_ ?_ ?_ ?_ ?_ ?_)) (by decide)
    all_goals (
      intros
      first
        | (exfalso; omega)
        | refine ⟨-1, a, b, rfl, ⟨by decide, by decide⟩, rfl, ?_⟩)
    all_goals (
      refine pmCs_deep (d := 6) (xg166 (w166 h0 rfl rfl rfl (xt87_3 i1 i3) (xt87_9 i1 i3) (xt87_4 i1 i3) (by decide) ?_ ?_ ?_ ?_ ?_)) (by decide)
      all_goals (
        intros
        first
          | (exfalso; omega)
          | exact ⟨-1, a, b, rfl, ⟨by decide, by decide⟩, rfl, hI, rfl⟩))
end
