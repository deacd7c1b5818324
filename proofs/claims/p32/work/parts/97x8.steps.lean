/-! one call on both: what comes of it -/
section
set_option maxRecDepth 100000


theorem wr20 {ro : Nat → Nat × (Nat → Int32)} {d : Nat} {Q : Option Value → pmS → Prop} {x g n : Int} {a : xA} {b : xB} (q1 : xR x) (hg : 0 ≤ g ∧ g ≤ 1) (hn : a 3 5 = n) (hn0 : 0 ≤ n ∧ n ≤ 5) (hb : a 0 12 = 1) (hd : 3 ≤ d)
    (k1 : (x < 10) → Q (some (xV (-1))) (xS a b))
    (k2 : (¬ x < 10) → (0 ≤ x - 10 ∧ x - 10 < 4) → Q (some (xV (-1))) (xS a b))
    (k3 : (¬ x < 10) → (¬ (0 ≤ x - 10 ∧ x - 10 < 4)) → Q (some (xV (-1))) (xS a b)) :
    pmWp ro d 11 20 1 0 [some (.ref 0), some (xV x), some (xV g), none, none] [] (xS a b) Q := by
  refine x_iloadn xc20_0 rfl ?_
  refine x_bipush xc20_1 (by decide) ?_
  refine x_iclt xc20_3 (xRk (by have g0 := xRb q1; omega)) (xRk (by decide)) (fun h0 => ?_) (fun h0 => ?_)
  · refine x_iconst xc20_20 ?_
    refine x_istoren (pl' := [some (.ref 0), some (xV x), some (xV g), some (xV 0), none]) xc20_21 rfl rfl ?_
    refine x_aloadn xc20_22 rfl ?_
    refine x_gfi' (k := 12) (v := 1) xc20_23 rfl (Or.inr rfl) rfl xz0 hb ?_
    refine x_ifne xc20_26 (xRk (by decide)) (fun _ => ?_) (fun h => absurd h (by omega))
    refine x_iconst xc20_51 ?_
    refine x_iret xc20_52 (Or.inl rfl) ?_
    exact k1 h0
  · refine x_iloadn xc20_6 rfl ?_
    refine x_bipush xc20_7 (by decide) ?_
    refine x_isub xc20_9 ?_
    refine x_cS (as := [xV (x - 10)]) (rest := []) xc20_10 rfl rfl xi18 ⟨rfl, rfl⟩ rfl rfl ?_
    refine xk18 (by omega) (xRk (by have g0 := xRb q1; omega)) (fun h2 => ?_) (fun h3 => ?_)
    · refine x_ifeq xc20_13 (xRk (by decide)) (fun h => absurd h (by omega)) (fun _ => ?_)
      refine x_iconst xc20_16 ?_
      refine x_goto xc20_17 ?_
      refine x_istoren (pl' := [some (.ref 0), some (xV x), some (xV g), some (xV 1), none]) xc20_21 rfl rfl ?_
      refine x_aloadn xc20_22 rfl ?_
      refine x_gfi' (k := 12) (v := 1) xc20_23 rfl (Or.inr rfl) rfl xz0 hb ?_
      refine x_ifne xc20_26 (xRk (by decide)) (fun _ => ?_) (fun h => absurd h (by omega))
      refine x_iconst xc20_51 ?_
      refine x_iret xc20_52 (Or.inl rfl) ?_
      exact k2 h0 h2
    · refine x_ifeq xc20_13 (xRk (by decide)) (fun _ => ?_) (fun h => absurd h (by omega))
      refine x_iconst xc20_20 ?_
      refine x_istoren (pl' := [some (.ref 0), some (xV x), some (xV g), some (xV 0), none]) xc20_21 rfl rfl ?_
      refine x_aloadn xc20_22 rfl ?_
      refine x_gfi' (k := 12) (v := 1) xc20_23 rfl (Or.inr rfl) rfl xz0 hb ?_
      refine x_ifne xc20_26 (xRk (by decide)) (fun _ => ?_) (fun h => absurd h (by omega))
      refine x_iconst xc20_51 ?_
      refine x_iret xc20_52 (Or.inl rfl) ?_
      exact k3 h0 h3

theorem wr23 {ro : Nat → Nat × (Nat → Int32)} {d : Nat} {Q : Option Value → pmS → Prop} {v g n : Int} {a : xA} {b : xB} (q1 : xR v) (hg : 0 ≤ g ∧ g ≤ 1) (hn : a 3 5 = n) (hn0 : 0 ≤ n ∧ n ≤ 5) (hb : a 0 12 = 1) (hd : 3 ≤ d)
    (k1 : (v < 0) → Q (some (xV (-1))) (xS a b))
    (k2 : (¬ v < 0) → (128 ≤ v) → Q (some (xV (-1))) (xS a b))
    (k3 : (¬ v < 0) → (¬ 128 ≤ v) → (uBs v < 2) → Q (some (xV (-1))) (xS a b))
    (k4 : (¬ v < 0) → (¬ 128 ≤ v) → (¬ uBs v < 2) → Q (some (xV (-1))) (xS a b)) :
    pmWp ro d 11 23 1 0 [some (.ref 0), some (xV v), some (xV g), none, none] [] (xS a b) Q := by
  refine x_iloadn xc23_0 rfl ?_
  refine x_iflt xc23_1 (xRk (by have g0 := xRb q1; omega)) (fun h0 => ?_) (fun h0 => ?_)
  · refine x_iconst xc23_23 ?_
    refine x_istoren (pl' := [some (.ref 0), some (xV v), some (xV g), some (xV 0), none]) xc23_24 rfl rfl ?_
    refine x_aloadn xc23_25 rfl ?_
    refine x_gfi' (k := 12) (v := 1) xc23_26 rfl (Or.inr rfl) rfl xz0 hb ?_
    refine x_ifne xc23_29 (xRk (by decide)) (fun _ => ?_) (fun h => absurd h (by omega))
    refine x_iconst xc23_47 ?_
    refine x_iret xc23_48 (Or.inl rfl) ?_
    exact k1 h0
  · refine x_iloadn xc23_4 rfl ?_
    refine x_sipush xc23_5 (by decide) ?_
    refine x_icge xc23_8 (xRk (by have g0 := xRb q1; omega)) (xRk (by decide)) (fun h2 => ?_) (fun h2 => ?_)
    · refine x_iconst xc23_23 ?_
      refine x_istoren (pl' := [some (.ref 0), some (xV v), some (xV g), some (xV 0), none]) xc23_24 rfl rfl ?_
      refine x_aloadn xc23_25 rfl ?_
      refine x_gfi' (k := 12) (v := 1) xc23_26 rfl (Or.inr rfl) rfl xz0 hb ?_
      refine x_ifne xc23_29 (xRk (by decide)) (fun _ => ?_) (fun h => absurd h (by omega))
      refine x_iconst xc23_47 ?_
      refine x_iret xc23_48 (Or.inl rfl) ?_
      exact k2 h0 h2
    · refine x_iloadn xc23_11 rfl ?_
      refine x_cS (as := [xV v]) (rest := []) xc23_12 rfl rfl xi24 ⟨rfl, rfl⟩ rfl rfl ?_
      refine rk24 (by omega) (by have g0 := xRb q1; omega) ?_
      refine x_iconst xc23_15 ?_
      refine x_iclt xc23_16 (xRk (by have g0 := vBs_b (v := v); omega)) (xRk (by decide)) (fun h4 => ?_) (fun h4 => ?_)
      · refine x_iconst xc23_23 ?_
        refine x_istoren (pl' := [some (.ref 0), some (xV v), some (xV g), some (xV 0), none]) xc23_24 rfl rfl ?_
        refine x_aloadn xc23_25 rfl ?_
        refine x_gfi' (k := 12) (v := 1) xc23_26 rfl (Or.inr rfl) rfl xz0 hb ?_
        refine x_ifne xc23_29 (xRk (by decide)) (fun _ => ?_) (fun h => absurd h (by omega))
        refine x_iconst xc23_47 ?_
        refine x_iret xc23_48 (Or.inl rfl) ?_
        exact k3 h0 h2 h4
      · refine x_iconst xc23_19 ?_
        refine x_goto xc23_20 ?_
        refine x_istoren (pl' := [some (.ref 0), some (xV v), some (xV g), some (xV 1), none]) xc23_24 rfl rfl ?_
        refine x_aloadn xc23_25 rfl ?_
        refine x_gfi' (k := 12) (v := 1) xc23_26 rfl (Or.inr rfl) rfl xz0 hb ?_
        refine x_ifne xc23_29 (xRk (by decide)) (fun _ => ?_) (fun h => absurd h (by omega))
        refine x_iconst xc23_47 ?_
        refine x_iret xc23_48 (Or.inl rfl) ?_
        exact k4 h0 h2 h4

section
variable {Ln : Nat} {xs : Nat → Int32} {WC WR mC mR : Nat} {as : List Value} {I : xA → xB → Prop} {a a' a1 : xA} {b b' b1 : xB} {s : pmS} {z : Int}
def vStep (ro : Nat → Nat × (Nat → Int32)) (d mm : Nat) (as : List Value) (mm' : Nat) (as' : List Value) (Inv : xA → xB → Prop) (Ans : Int → Int → Prop) (a : xA) (b : xB) : Prop := pmCs ro d mm as (xS a b) fun r σ1 => ∃ z a1 b1, r = some (xV z) ∧ xR z ∧ σ1 = xS a1 b1 ∧ pmCs ro d mm' as' (xS a1 b1) fun r' σ2 => ∃ z' a2 b2, r' = some (xV z') ∧ xR z' ∧ σ2 = xS a2 b2 ∧ Inv a2 b2 ∧ Ans z z'
/-- what always holds -/
def vInv (a : xA) (b : xB) : Prop := (kOk (xS a b) ∧ kP (xS a b)) ∧ xAr a ∧ vQ a ∧ vT a ∧ (vPre a b ∨ vBg a b)
theorem vXV (z : Int) : xR (Int32.ofInt z).toInt ∧ xV (Int32.ofInt z).toInt = xV z := ⟨aB32 _, by
  unfold xV
  rw [Int32.ofInt_toInt]⟩
theorem vSm (h : kOk s) (hW : kSm 0 s (xS a b)) : s = xS a b := by
  obtain ⟨a', b', rfl, hA'⟩ := xEx h
  have h1 : (fun (p k : Nat) => Int32.ofInt (a' p (k : Int))) = fun (p k : Nat) => Int32.ofInt (a p (k : Int)) := by
    funext p k
    exact (hW p k (Nat.zero_testBit _)).1
  have h2 : (fun (p k : Nat) => b' p (k : Int)) = fun (p k : Nat) => b p (k : Int) := by
    funext p k
    exact (hW p k (Nat.zero_testBit _)).2
  show (xZ, _, _) = (xZ, _, _)
  rw [h1, h2]
/-- the engine's word on a call -/
def vEn (Ln : Nat) (xs : Nat → Int32) (mm W : Nat) (as : List Value) (a : xA) (b : xB) : Prop := ∀ Q : Option Value → pmS → Prop, (∀ z a' b', kOk (xS a' b') → kP (xS a' b') → xAr a' → kSm W (xS a' b') (xS a b) → xR z → Q (some (xV z)) (xS a' b')) → pmCs (pmRo Ln xs) 59 mm as (xS a b) Q
theorem vJo (hC : vEn Ln xs mC WC (.ref 0 :: as) a b) (hR : ∀ a1 b1, kOk (xS a1 b1) → kP (xS a1 b1) → xAr a1 → kSm WC (xS a1 b1) (xS a b) → vEn Ln xs mR WR (.ref 87 :: as) a1 b1) (hB : uBo Ln xs I 59 mC mR as a b) (fin : ∀ a1 b1 a2 b2, xAr a1 → kSm WC (xS a1 b1) (xS a b) → kSm WR (xS a2 b2) (xS a1 b1) → kOk (xS a2 b2) → kP (xS a2 b2) → I a2 b2 → vInv a2 b2) : vStep (pmRo Ln xs) 59 mC (.ref 0 :: as) mR (.ref 87 :: as) vInv (fun z z' => z = z') a b := by
  unfold vStep
  refine pmCs_mono (pmCs_deep (pmCs_and (hC (fun r s => kOk s ∧ kP s ∧ kSm WC s (xS a b) ∧ ∃ z, xR z ∧ r = some (xV z)) (fun z a' b' k1 k2 k3 k4 k5 => ⟨k1, k2, k4, z, k5, rfl⟩)) (hB (fun r s => ∃ z a' b', r = some (xV z) ∧ s = xS a' b' ∧ ∀ Q2 : Option Value → pmS → Prop, (∀ a'' b'', I a'' b'' → Q2 (some (xV z)) (xS a'' b'')) → pmCs (pmRo Ln xs) 59 mR (.ref 87 :: as) (xS a' b') Q2) (fun z a' b' hk => ⟨z, a', b', rfl, rfl, hk⟩))) (by decide)) ?_
  rintro r s ⟨⟨k1, k2, k4, z, hz, hr⟩, z', a', b', hr', hs, hk⟩
  obtain ⟨a1, b1, hs1, hA1⟩ := xEx k1
  refine ⟨z, a1, b1, hr, hz, hs1, ?_⟩
  have hk2 := hk (fun r' σ2 => ∃ a'' b'', r' = some (xV z) ∧ σ2 = xS a'' b'' ∧ I a'' b'') (fun a'' b'' hI => ⟨a'', b'', by rw [← hr', hr], rfl, hI⟩)
  rw [← hs, hs1] at hk2
  rw [hs1] at k1 k2 k4
  refine pmCs_mono (pmCs_deep (pmCs_and (hR a1 b1 k1 k2 hA1 k4 (fun r s => kOk s ∧ kP s ∧ kSm WR s (xS a1 b1)) (fun z a' b' q1 q2 q3 q4 q5 => ⟨q1, q2, q4⟩)) hk2) (by decide)) ?_
  rintro r' σ2 ⟨⟨q1, q2, q4⟩, a2, b2, e1, e2, hI⟩
  rw [e2] at q1 q2 q4
  exact ⟨z, a2, b2, e1, hz, e2, fin a1 b1 a2 b2 hA1 k4 q4 q1 q2 hI, rfl⟩
theorem vJf (hC : vEn Ln xs mC WC (.ref 0 :: as) a b) (hR : ∀ a1 b1, kOk (xS a1 b1) → kP (xS a1 b1) → xAr a1 → kSm WC (xS a1 b1) (xS a b) → vEn Ln xs mR WR (.ref 87 :: as) a1 b1) (hB : uBf Ln xs I 59 mC mR as a b) (fin : ∀ a1 b1 a2 b2, xAr a1 → kSm WC (xS a1 b1) (xS a b) → kSm WR (xS a2 b2) (xS a1 b1) → kOk (xS a2 b2) → kP (xS a2 b2) → I a2 b2 → vInv a2 b2) : vStep (pmRo Ln xs) 59 mC (.ref 0 :: as) mR (.ref 87 :: as) vInv (fun _ _ => True) a b := by
  unfold vStep
  refine pmCs_mono (pmCs_deep (pmCs_and (hC (fun r s => kOk s ∧ kP s ∧ kSm WC s (xS a b) ∧ ∃ z, xR z ∧ r = some (xV z)) (fun z a' b' k1 k2 k3 k4 k5 => ⟨k1, k2, k4, z, k5, rfl⟩)) (hB (fun r s => ∃ a' b', s = xS a' b' ∧ ∀ Q2 : Option Value → pmS → Prop, (∀ z' a'' b'', I a'' b'' → Q2 (some (xV z')) (xS a'' b'')) → pmCs (pmRo Ln xs) 59 mR (.ref 87 :: as) (xS a' b') Q2) (fun z a' b' hk => ⟨a', b', rfl, hk⟩))) (by decide)) ?_
  rintro r s ⟨⟨k1, k2, k4, z, hz, hr⟩, a', b', hs, hk⟩
  obtain ⟨a1, b1, hs1, hA1⟩ := xEx k1
  refine ⟨z, a1, b1, hr, hz, hs1, ?_⟩
  have hk2 := hk (fun r' σ2 => ∃ a'' b'', σ2 = xS a'' b'' ∧ I a'' b'') (fun z' a'' b'' hI => ⟨a'', b'', rfl, hI⟩)
  rw [← hs, hs1] at hk2
  rw [hs1] at k1 k2 k4
  refine pmCs_mono (pmCs_deep (pmCs_and (hR a1 b1 k1 k2 hA1 k4 (fun r s => kOk s ∧ kP s ∧ kSm WR s (xS a1 b1) ∧ ∃ z, xR z ∧ r = some (xV z)) (fun z a' b' q1 q2 q3 q4 q5 => ⟨q1, q2, q4, z, q5, rfl⟩)) hk2) (by decide)) ?_
  rintro r' σ2 ⟨⟨q1, q2, q4, z', hz', hr'⟩, a2, b2, e2, hI⟩
  rw [e2] at q1 q2 q4
  exact ⟨z', a2, b2, hr', hz', e2, fin a1 b1 a2 b2 hA1 k4 q4 q1 q2 hI, trivial⟩
/-- without the engine -/
theorem vJx (hB : uBo Ln xs I 59 mC mR as a b) (fin : ∀ a2 b2, I a2 b2 → vInv a2 b2) : vStep (pmRo Ln xs) 59 mC (.ref 0 :: as) mR (.ref 87 :: as) vInv (fun z z' => z = z') a b := by
  unfold vStep
  refine hB _ (fun z a' b' hk => ?_)
  obtain ⟨g1, g2⟩ := vXV z
  exact ⟨_, a', b', by rw [g2], g1, rfl, hk _ (fun a'' b'' hI => ⟨_, a'', b'', by rw [g2], g1, rfl, fin a'' b'' hI, rfl⟩)⟩
/-- nothing changes -/
theorem vU (hI : vInv a b) (z : Int) (hC : ∀ Q : Option Value → pmS → Prop, Q (some (xV z)) (xS a b) → pmCs (pmRo Ln xs) 59 mC (.ref 0 :: as) (xS a b) Q) (hR : ∀ Q : Option Value → pmS → Prop, Q (some (xV z)) (xS a b) → pmCs (pmRo Ln xs) 59 mR (.ref 87 :: as) (xS a b) Q) : vStep (pmRo Ln xs) 59 mC (.ref 0 :: as) mR (.ref 87 :: as) vInv (fun z z' => z = z') a b :=
  vJx (I := fun a'' b'' => a'' = a ∧ b'' = b) (fun Q hQ => hC Q (hQ z a b (fun Q2 h2 => hR Q2 (h2 a b ⟨rfl, rfl⟩)))) (fun a2 b2 h => by
    rw [h.1, h.2]
    exact hI)
theorem vMono {ro : Nat → Nat × (Nat → Int32)} {d mm mm' : Nat} {as as' : List Value} {Inv : xA → xB → Prop} {A A' : Int → Int → Prop} (h : vStep ro d mm as mm' as' Inv A a b) (hA : ∀ z z', A z z' → A' z z') : vStep ro d mm as mm' as' Inv A' a b := by
  refine pmCs_mono h ?_
  rintro r s ⟨z, a1, b1, e1, e2, e3, h2⟩
  refine ⟨z, a1, b1, e1, e2, e3, pmCs_mono h2 ?_⟩
  rintro r' s' ⟨z', a2, b2, g1, g2, g3, g4, g5⟩
  exact ⟨z', a2, b2, g1, g2, g3, g4, hA _ _ g5⟩
/-- the tape, the laws' numbers: not written -/
noncomputable def vMq (W : Nat) : Bool := W.testBit (bRg 13 7) || W.testBit (bRg 87 3) || W.testBit (bRg 20 0) || W.testBit (bRg 100 0)
noncomputable def vMt (W : Nat) : Bool := W.testBit (bRg 1 1) || W.testBit (bRg 87 9) || W.testBit (bRg 2 0) || W.testBit (bRg 93 0)
theorem vFq {W : Nat} (hW : kSm W (xS a' b') (xS a b)) (hA' : xAr a') (hA : xAr a) (m : vMq W = false) (h : vQ a) : vQ a' := by
  unfold vMq at m
  simp only [Bool.or_eq_false_iff] at m
  obtain ⟨⟨⟨m1, m2⟩, m3⟩, m4⟩ := m
  have c1 := (xFr hW hA' hA (p := 13) (k := 7) (by decide) m1).1
  have c2 := (xFr hW hA' hA (p := 87) (k := 3) (by decide) m2).1
  unfold vQ
  rw [c1, c2]
  exact ⟨h.1, fun i i0 i1 => by
    rw [(xFrr hW hA' hA (p := 20) (by decide +kernel) m3 i0).1, (xFrr hW hA' hA (p := 100) (by decide +kernel) m4 i0).1]
    exact h.2 i i0 i1⟩
theorem vFt {W : Nat} (hW : kSm W (xS a' b') (xS a b)) (hA' : xAr a') (hA : xAr a) (m : vMt W = false) (h : vT a) : vT a' := by
  unfold vMt at m
  simp only [Bool.or_eq_false_iff] at m
  obtain ⟨⟨⟨m1, m2⟩, m3⟩, m4⟩ := m
  have c1 := (xFr hW hA' hA (p := 1) (k := 1) (by decide) m1).1
  have c2 := (xFr hW hA' hA (p := 87) (k := 9) (by decide) m2).1
  unfold vT
  rw [c1, c2]
  exact ⟨h.1, h.2.1, fun j j0 j1 => by
    rw [(xFrr hW hA' hA (p := 2) (by decide +kernel) m3 j0).1, (xFrr hW hA' hA (p := 93) (by decide +kernel) m4 j0).1]
    exact h.2.2 j j0 j1⟩
theorem vPre_q (h : vPre a b) : vQ a := ⟨h.2.2.2.2.2.2.1.2.2.1, h.2.2.2.2.2.2.1.2.2.2⟩
theorem vPre_114 (h : vPre a b) : 0 ≤ a 88 114 ∧ a 88 114 ≤ 60 := by
  have := h.2.2.2.2.2.1.1 114 (by decide) (by decide)
  omega
theorem vBg_114 (h : vBg a b) : 0 ≤ a 88 114 ∧ a 88 114 ≤ 60 := by
  obtain ⟨dr, wp, co, pr, cnt, W, T, n, a0, R, h⟩ := h
  exact h.2.2.1.2.2.1.1
theorem vBg_A (h : vBg a b) : xAr a := by
  obtain ⟨dr, wp, co, pr, cnt, W, T, n, a0, R, h⟩ := h
  exact h.2.1.1.1.1
theorem vInv_114 (h : vInv a b) : 0 ≤ a 88 114 ∧ a 88 114 ≤ 60 := h.2.2.2.2.elim vPre_114 vBg_114
theorem vInv_p (h : vPz a b) (k : kOk (xS a b)) (k2 : kP (xS a b)) : vInv a b := ⟨⟨k, k2⟩, h.1.2.1, vPre_q h.1, h.2, Or.inl h.1⟩
theorem vInv_b (h : vBg a b) (k : kOk (xS a b)) (k2 : kP (xS a b)) (hq : vQ a) (ht : vT a) : vInv a b := ⟨⟨k, k2⟩, vBg_A h, hq, ht, Or.inr h⟩
/-- once begun: both masks keep the tape and the laws' numbers -/
theorem vInv_m {b2 : xB} {a2 : xA} (h : vInv a b) (hA1 : xAr a1) (k1 : kSm WC (xS a1 b1) (xS a b)) (k2 : kSm WR (xS a2 b2) (xS a1 b1)) (m1 : vMq WC = false) (m2 : vMt WC = false) (m3 : vMq WR = false) (m4 : vMt WR = false) (q1 : kOk (xS a2 b2)) (q2 : kP (xS a2 b2)) (hb : vBg a2 b2) : vInv a2 b2 :=
  vInv_b hb q1 q2 (vFq k2 (vBg_A hb) hA1 m3 (vFq k1 hA1 h.2.1 m1 h.2.2.1)) (vFt k2 (vBg_A hb) hA1 m4 (vFt k1 hA1 h.2.1 m2 h.2.2.2.1))
end
section
variable {Ln : Nat} {xs : Nat → Int32} {d : Nat} {dr wp co pr cnt W : Int → Int} {T : Int → List Int} {n n' m t k x c cd wt p L l : Int} {r r' R tp : Int → Int} {a a' a0 a1 a2 : xA} {b b' b1 b2 : xB}
/-- feeding leaves what has begun -/
theorem uBg_f (h : uBg dr wp co pr cnt W T n a0 R a b) (A : xAr a') (e : ∀ q j, ¬ (q = 2 ∨ q = 93) → ¬ q = 1 → ¬ (q = 87 ∧ j = 9) → a' q j = a q j) : uBg dr wp co pr cnt W T n a0 R a' b := by
  obtain ⟨g1, ⟨c1, c2, c3, c4, c5, c6⟩, ⟨s1, s2, s3, s4, s5, s6⟩, ch⟩ := h
  have e2 : ∀ q j, ¬ (q = 2 ∨ q = 93) → ¬ q = 1 → ¬ q = 87 → a' q j = a q j := fun q j h1 h2 h3 => e q j h1 h2 (by omega)
  have e88 : a' 88 = a 88 := funext fun j => e2 88 j (by decide) (by decide) (by decide)
  obtain ⟨t1, t2, t3, t4⟩ := s1
  unfold uBg
  rw [e88]
  refine ⟨g1, ⟨uCb_e c1 (fun q j h1 h2 => e2 q j (by omega) (by omega) (by omega)) (fun _ _ _ => rfl) A, uHm_o c2 (fun j => e2 78 j (by decide) (by decide) (by decide)), (fun j j0 j1 => by rw [e2 (21 + 4) j (by decide) (by decide) (by decide)]; exact c3 j j0 j1), uCx_o uWo21 c4 (fun q j q1 q2 => e2 q j (by omega) (by omega) (by omega)) (fun _ _ _ _ => rfl), uCx_o uWo80 c5 (fun q j q1 q2 => e2 q j (by omega) (by omega) (by omega)) (fun _ _ _ _ => rfl), ?_⟩, ⟨⟨uRb_o t1 A (fun q j g => e q j (by omega) (by omega) (by omega)) (fun j j0 j1 => by rw [e2 109 j (by decide) (by decide) (by decide)]; exact t1.2.2.2.2.2.2 j j0 j1), uMV_f t2 (e 87 41 (by decide) (by decide) (by decide)) (fun j => e2 115 j (by decide) (by decide) (by decide)) (fun _ => rfl), uLw_o t3 (fun q j g => e q j (by omega) (by omega) (by omega)), fun i i0 i1 => by rw [e2 100 i (by decide) (by decide) (by decide)]; exact t4 i i0 i1⟩, s2, s3, uShl_o (x := 1) (by decide) s4 (fun j _ => e2 89 j (by decide) (by decide) (by decide)), s5, ?_⟩, uChr_o ch (e2 79 6 (by decide) (by decide) (by decide)) (fun q j hq => e2 q j (by omega) (by omega) (by omega)) (fun _ _ _ g => g)⟩
  · rw [e2 0 12 (by decide) (by decide) (by decide)]
    exact c6
  · rw [e 87 4 (by decide) (by decide) (by decide)]
    exact s6
end
end
