/-! the engine's contracts as the walks use them (printed by eng.py) -/
section
set_option maxRecDepth 100000
variable {ro : Nat → Nat × (Nat → Int32)} {L : aLa} {d : Nat} {a : xA} {b : xB} {Q : Option Value → pmS → Prop}
theorem xEl.c {i : aI} {E : aE} {z : Int} {l : List Int} (h : i.1 ≤ z ∧ z ≤ i.2) (t : xEl E l) : xEl (i :: E) (z :: l) := ⟨h, t⟩
theorem xEl.f {E : aE} {z : Int} {l : List Int} (h : xR z) (t : xEl E l) : xEl ((.negSucc 2147483647, .ofNat 2147483647) :: E) (z :: l) := ⟨h, t⟩
theorem xEl.l {E : aE} {z : Int} {l : List Int} (h : -9223372036854775808 ≤ z ∧ z ≤ 9223372036854775807) (t : xEl E l) : xEl ((.negSucc 9223372036854775807, .ofNat 9223372036854775807) :: E) (z :: l) := ⟨h, t⟩
theorem xEl.n : xEl [] [] := trivial
theorem bSok.c {n : Nat} {ρ : Nat → Int} {a : bV} {r : List bV} {v : Value} {cr : List Value} (h : bVok n ρ a v) (t : bSok n ρ r cr) : bSok n ρ (a :: r) (v :: cr) := ⟨h, t⟩
theorem bSok.n {n : Nat} {ρ : Nat → Int} : bSok n ρ [] [] := trivial
abbrev xW20 : Nat := 144115188101021696
theorem xe20 (hL : 0 ≤ L.1 ∧ L.1 ≤ 3072) (hc : bCok ro L kP bC20) (hT : kOk (xS a b)) (hP : kP (xS a b)) (hA : xAr a) (hd : 2 ≤ d) {x2 : Int} {x3 : Int} (g2 : xR (x2)) (g3 : 0 ≤ x3 ∧ x3 ≤ 1) (hQ : ∀ z a' b', kOk (xS a' b') → kP (xS a' b') → xAr a' → kSm xW20 (xS a' b') (xS a b) → (-1 ≤ z ∧ z ≤ 4) → Q (some (xV z)) (xS a' b')) : pmCs ro d 20 [.ref 0, xV x2, xV x3] (xS a b) Q := by
  refine xEng (ρ := xRo (0 :: L.1 :: [x2, x3])) hc hd (xEl_ok (xEl.c ⟨Int.le_refl _, Int.le_refl _⟩ (xEl.c hL (xEl.f g2 (xEl.c g3 xEl.n)))) rfl) (kOk_mok hT hP) (bSok.c (xVr (List.mem_singleton.mpr rfl)) (bSok.c (xVk g2 (by decide) rfl) (bSok.c (xVk ⟨by omega, by omega⟩ (by decide) rfl) bSok.n))) (by decide +kernel) (by decide +kernel) ?_
  intro v a' b' ρ' h1 h2 h3 h4 h5 h6 h7 h8
  obtain ⟨z, rfl, z1, z2, -⟩ := xRi h6 h5 rfl
  exact hQ z a' b' h1 h2 h3 h4 ⟨z1, z2⟩
abbrev xW23 : Nat := 432345564252733440
theorem xe23 (hL : 0 ≤ L.1 ∧ L.1 ≤ 3072) (hc : bCok ro L kP bC23) (hT : kOk (xS a b)) (hP : kP (xS a b)) (hA : xAr a) (hd : 2 ≤ d) {x2 : Int} {x3 : Int} (g2 : xR (x2)) (g3 : 0 ≤ x3 ∧ x3 ≤ 1) (hQ : ∀ z a' b', kOk (xS a' b') → kP (xS a' b') → xAr a' → kSm xW23 (xS a' b') (xS a b) → (-1 ≤ z ∧ z ≤ 4) → Q (some (xV z)) (xS a' b')) : pmCs ro d 23 [.ref 0, xV x2, xV x3] (xS a b) Q := by
  refine xEng (ρ := xRo (0 :: L.1 :: [x2, x3])) hc hd (xEl_ok (xEl.c ⟨Int.le_refl _, Int.le_refl _⟩ (xEl.c hL (xEl.f g2 (xEl.c g3 xEl.n)))) rfl) (kOk_mok hT hP) (bSok.c (xVr (List.mem_singleton.mpr rfl)) (bSok.c (xVk g2 (by decide) rfl) (bSok.c (xVk ⟨by omega, by omega⟩ (by decide) rfl) bSok.n))) (by decide +kernel) (by decide +kernel) ?_
  intro v a' b' ρ' h1 h2 h3 h4 h5 h6 h7 h8
  obtain ⟨z, rfl, z1, z2, -⟩ := xRi h6 h5 rfl
  exact hQ z a' b' h1 h2 h3 h4 ⟨z1, z2⟩
abbrev xW25 : Nat := 73786976294838206464
theorem xe25 (hL : 0 ≤ L.1 ∧ L.1 ≤ 3072) (hc : bCok ro L kP bC25) (hT : kOk (xS a b)) (hP : kP (xS a b)) (hA : xAr a) (hd : 3 ≤ d) {x2 : Int} {x3 : Int} {x4 : Int} {x5 : Int} (g2 : xR (x2)) (g3 : 0 ≤ x3 ∧ x3 ≤ 1) (g4 : xR (x4)) (g5 : xR (x5)) (hQ : ∀ z a' b', kOk (xS a' b') → kP (xS a' b') → xAr a' → kSm xW25 (xS a' b') (xS a b) → (0 ≤ z ∧ z ≤ 1) → Q (some (xV z)) (xS a' b')) : pmCs ro d 25 [.ref 0, xV x2, xV x3, xV x4, xV x5] (xS a b) Q := by
  refine xEng (ρ := xRo (0 :: L.1 :: [x2, x3, x4, x5])) hc hd (xEl_ok (xEl.c ⟨Int.le_refl _, Int.le_refl _⟩ (xEl.c hL (xEl.f g2 (xEl.c g3 (xEl.f g4 (xEl.f g5 xEl.n)))))) rfl) (kOk_mok hT hP) (bSok.c (xVr (List.mem_singleton.mpr rfl)) (bSok.c (xVk g2 (by decide) rfl) (bSok.c (xVk ⟨by omega, by omega⟩ (by decide) rfl) (bSok.c (xVk g4 (by decide) rfl) (bSok.c (xVk g5 (by decide) rfl) bSok.n))))) (by decide +kernel) (by decide +kernel) ?_
  intro v a' b' ρ' h1 h2 h3 h4 h5 h6 h7 h8
  obtain ⟨z, rfl, z1, z2, -⟩ := xRi h6 h5 rfl
  exact hQ z a' b' h1 h2 h3 h4 ⟨z1, z2⟩
abbrev xW28 : Nat := 67108864
theorem xe28 (hL : 0 ≤ L.1 ∧ L.1 ≤ 3072) (hc : bCok ro L kP bC28) (hT : kOk (xS a b)) (hP : kP (xS a b)) (hA : xAr a) (hd : 2 ≤ d) {x2 : Int} {x3 : Int} (g2 : xR (x2)) (g3 : xR (x3)) (hQ : ∀ z a' b', kOk (xS a' b') → kP (xS a' b') → xAr a' → kSm xW28 (xS a' b') (xS a b) → (0 ≤ z ∧ z ≤ 1) → Q (some (xV z)) (xS a' b')) : pmCs ro d 28 [.ref 0, xV x2, xV x3] (xS a b) Q := by
  refine xEng (ρ := xRo (0 :: L.1 :: [x2, x3])) hc hd (xEl_ok (xEl.c ⟨Int.le_refl _, Int.le_refl _⟩ (xEl.c hL (xEl.f g2 (xEl.f g3 xEl.n)))) rfl) (kOk_mok hT hP) (bSok.c (xVr (List.mem_singleton.mpr rfl)) (bSok.c (xVk g2 (by decide) rfl) (bSok.c (xVk g3 (by decide) rfl) bSok.n))) (by decide +kernel) (by decide +kernel) ?_
  intro v a' b' ρ' h1 h2 h3 h4 h5 h6 h7 h8
  obtain ⟨z, rfl, z1, z2, -⟩ := xRi h6 h5 rfl
  exact hQ z a' b' h1 h2 h3 h4 ⟨z1, z2⟩
abbrev xW29 : Nat := 278528
theorem xe29 (hL : 0 ≤ L.1 ∧ L.1 ≤ 3072) (hc : bCok ro L kP bC29) (hT : kOk (xS a b)) (hP : kP (xS a b)) (hA : xAr a) (hd : 2 ≤ d) {x2 : Int} {x3 : Int} {x4 : Int} {x5 : Int} {x6 : Int} (g2 : xR (x2)) (g3 : xR (x3)) (g4 : xR (x4)) (g5 : xR (x5)) (g6 : xR (x6)) (hQ : ∀ z a' b', kOk (xS a' b') → kP (xS a' b') → xAr a' → kSm xW29 (xS a' b') (xS a b) → (-1 ≤ z ∧ z ≤ 400) → Q (some (xV z)) (xS a' b')) : pmCs ro d 29 [.ref 0, xV x2, xV x3, xV x4, xV x5, xV x6] (xS a b) Q := by
  refine xEng (ρ := xRo (0 :: L.1 :: [x2, x3, x4, x5, x6])) hc hd (xEl_ok (xEl.c ⟨Int.le_refl _, Int.le_refl _⟩ (xEl.c hL (xEl.f g2 (xEl.f g3 (xEl.f g4 (xEl.f g5 (xEl.f g6 xEl.n))))))) rfl) (kOk_mok hT hP) (bSok.c (xVr (List.mem_singleton.mpr rfl)) (bSok.c (xVk g2 (by decide) rfl) (bSok.c (xVk g3 (by decide) rfl) (bSok.c (xVk g4 (by decide) rfl) (bSok.c (xVk g5 (by decide) rfl) (bSok.c (xVk g6 (by decide) rfl) bSok.n)))))) (by decide +kernel) (by decide +kernel) ?_
  intro v a' b' ρ' h1 h2 h3 h4 h5 h6 h7 h8
  obtain ⟨z, rfl, z1, z2, -⟩ := xRi h6 h5 rfl
  exact hQ z a' b' h1 h2 h3 h4 ⟨z1, z2⟩
abbrev xW31 : Nat := 1856910058928070678636904448
theorem xe31 (hL : 0 ≤ L.1 ∧ L.1 ≤ 3072) (hc : bCok ro L kP bC31) (hT : kOk (xS a b)) (hP : kP (xS a b)) (hA : xAr a) (hd : 40 ≤ d) {x2 : Int} {x3 : Int} {x4 : Int} (g2 : xR (x2)) (g3 : xR (x3)) (g4 : xR (x4)) (hQ : ∀ z a' b', kOk (xS a' b') → kP (xS a' b') → xAr a' → kSm xW31 (xS a' b') (xS a b) → (-5400 ≤ z ∧ z ≤ 2) → Q (some (xV z)) (xS a' b')) : pmCs ro d 31 [.ref 0, xV x2, xV x3, xV x4] (xS a b) Q := by
  refine xEng (ρ := xRo (0 :: L.1 :: [x2, x3, x4])) hc hd (xEl_ok (xEl.c ⟨Int.le_refl _, Int.le_refl _⟩ (xEl.c hL (xEl.f g2 (xEl.f g3 (xEl.f g4 xEl.n))))) rfl) (kOk_mok hT hP) (bSok.c (xVr (List.mem_singleton.mpr rfl)) (bSok.c (xVk g2 (by decide) rfl) (bSok.c (xVk g3 (by decide) rfl) (bSok.c (xVk g4 (by decide) rfl) bSok.n)))) (by decide +kernel) (by decide +kernel) ?_
  intro v a' b' ρ' h1 h2 h3 h4 h5 h6 h7 h8
  obtain ⟨z, rfl, z1, z2, -⟩ := xRi h6 h5 rfl
  exact hQ z a' b' h1 h2 h3 h4 ⟨z1, z2⟩
abbrev xW47 : Nat := 69324642199990267409233854464
theorem xe47 (hL : 0 ≤ L.1 ∧ L.1 ≤ 3072) (hc : bCok ro L kP bC47) (hT : kOk (xS a b)) (hP : kP (xS a b)) (hA : xAr a) (hd : 7 ≤ d) {x2 : Int} (g2 : xR (x2)) (hQ : ∀ z a' b', kOk (xS a' b') → kP (xS a' b') → xAr a' → kSm xW47 (xS a' b') (xS a b) → (-5400 ≤ z ∧ z ≤ 5) → Q (some (xV z)) (xS a' b')) : pmCs ro d 47 [.ref 0, xV x2] (xS a b) Q := by
  refine xEng (ρ := xRo (0 :: L.1 :: [x2])) hc hd (xEl_ok (xEl.c ⟨Int.le_refl _, Int.le_refl _⟩ (xEl.c hL (xEl.f g2 xEl.n))) rfl) (kOk_mok hT hP) (bSok.c (xVr (List.mem_singleton.mpr rfl)) (bSok.c (xVk g2 (by decide) rfl) bSok.n)) (by decide +kernel) (by decide +kernel) ?_
  intro v a' b' ρ' h1 h2 h3 h4 h5 h6 h7 h8
  obtain ⟨z, rfl, z1, z2, -⟩ := xRi h6 h5 rfl
  exact hQ z a' b' h1 h2 h3 h4 ⟨z1, z2⟩
abbrev xW58 : Nat := 134217728
theorem xe58 (hL : 0 ≤ L.1 ∧ L.1 ≤ 3072) (hc : bCok ro L kP bC58) (hT : kOk (xS a b)) (hP : kP (xS a b)) (hA : xAr a) (hd : 2 ≤ d) (hQ : ∀ a' b', kOk (xS a' b') → kP (xS a' b') → xAr a' → kSm xW58 (xS a' b') (xS a b) → Q none (xS a' b')) : pmCs ro d 58 [.ref 3] (xS a b) Q := by
  refine xEng (ρ := xRo (0 :: L.1 :: [])) hc hd (xEl_ok (xEl.c ⟨Int.le_refl _, Int.le_refl _⟩ (xEl.c hL xEl.n)) rfl) (kOk_mok hT hP) (bSok.c (xVr (List.mem_singleton.mpr rfl)) bSok.n) (by decide +kernel) (by decide +kernel) ?_
  intro v a' b' ρ' h1 h2 h3 h4 h5 h6 h7 h8
  obtain rfl := xRn h6
  exact hQ a' b' h1 h2 h3 h4
abbrev xW59 : Nat := 867779903933653758116625711826992682548916367168294527303952797532160
theorem xe59 (hL : 0 ≤ L.1 ∧ L.1 ≤ 3072) (hc : bCok ro L kP bC59) (hT : kOk (xS a b)) (hP : kP (xS a b)) (hA : xAr a) (hd : 3 ≤ d) {w1 : Nat} (hw1 : w1 ∈ ([21, 26, 52, 57, 68, 73] : List Nat)) (hQ : ∀ a' b', kOk (xS a' b') → kP (xS a' b') → xAr a' → kSm xW59 (xS a' b') (xS a b) → Q none (xS a' b')) : pmCs ro d 59 [.ref 43, .ref w1] (xS a b) Q := by
  refine xEng (ρ := xRo (0 :: L.1 :: [])) hc hd (xEl_ok (xEl.c ⟨Int.le_refl _, Int.le_refl _⟩ (xEl.c hL xEl.n)) rfl) (kOk_mok hT hP) (bSok.c (xVr (List.mem_singleton.mpr rfl)) (bSok.c (xVr hw1) bSok.n)) (by decide +kernel) (by decide +kernel) ?_
  intro v a' b' ρ' h1 h2 h3 h4 h5 h6 h7 h8
  obtain rfl := xRn h6
  exact hQ a' b' h1 h2 h3 h4
abbrev xW66 : Nat := 463111831645104869746335202152167092146587173271403913001447226538705828184064
theorem xe66 (hL : 0 ≤ L.1 ∧ L.1 ≤ 3072) (hc : bCok ro L kP bC66) (hT : kOk (xS a b)) (hP : kP (xS a b)) (hA : xAr a) (hd : 2 ≤ d) {w0 : Nat} (hw0 : w0 ∈ ([26, 52, 57, 68, 73, 80] : List Nat)) {w1 : Nat} (hw1 : w1 ∈ ([21, 52, 57, 73, 80] : List Nat)) (hQ : ∀ a' b', kOk (xS a' b') → kP (xS a' b') → xAr a' → kSm xW66 (xS a' b') (xS a b) → Q none (xS a' b')) : pmCs ro d 66 [.ref w0, .ref w1] (xS a b) Q := by
  refine xEng (ρ := xRo (0 :: L.1 :: [])) hc hd (xEl_ok (xEl.c ⟨Int.le_refl _, Int.le_refl _⟩ (xEl.c hL xEl.n)) rfl) (kOk_mok hT hP) (bSok.c (xVr hw0) (bSok.c (xVr hw1) bSok.n)) (by decide +kernel) (by decide +kernel) ?_
  intro v a' b' ρ' h1 h2 h3 h4 h5 h6 h7 h8
  obtain rfl := xRn h6
  exact hQ a' b' h1 h2 h3 h4
abbrev xW68 : Nat := 0
theorem xe68 (hL : 0 ≤ L.1 ∧ L.1 ≤ 3072) (hc : bCok ro L kP bC68) (hT : kOk (xS a b)) (hP : kP (xS a b)) (hA : xAr a) (hd : 3 ≤ d) {x2 : Int} {x3 : Int} {x4 : Int} (g2 : xR (x2)) (g3 : 0 ≤ x3 ∧ x3 ≤ 1) (g4 : xR (x4)) (hQ : ∀ z a' b', kOk (xS a' b') → kP (xS a' b') → xAr a' → kSm xW68 (xS a' b') (xS a b) → (-1 ≤ z ∧ z ≤ 20) → Q (some (xV z)) (xS a' b')) : pmCs ro d 68 [.ref 0, xV x2, xV x3, xV x4] (xS a b) Q := by
  refine xEng (ρ := xRo (0 :: L.1 :: [x2, x3, x4])) hc hd (xEl_ok (xEl.c ⟨Int.le_refl _, Int.le_refl _⟩ (xEl.c hL (xEl.f g2 (xEl.c g3 (xEl.f g4 xEl.n))))) rfl) (kOk_mok hT hP) (bSok.c (xVr (List.mem_singleton.mpr rfl)) (bSok.c (xVk g2 (by decide) rfl) (bSok.c (xVk ⟨by omega, by omega⟩ (by decide) rfl) (bSok.c (xVk g4 (by decide) rfl) bSok.n)))) (by decide +kernel) (by decide +kernel) ?_
  intro v a' b' ρ' h1 h2 h3 h4 h5 h6 h7 h8
  obtain ⟨z, rfl, z1, z2, -⟩ := xRi h6 h5 rfl
  exact hQ z a' b' h1 h2 h3 h4 ⟨z1, z2⟩
abbrev xW70 : Nat := 654472793090632101239929904497164288
theorem xe70 (hL : 0 ≤ L.1 ∧ L.1 ≤ 3072) (hc : bCok ro L kP bC70) (hT : kOk (xS a b)) (hP : kP (xS a b)) (hA : xAr a) (hd : 4 ≤ d) {x2 : Int} {x3 : Int} (g2 : xR (x2)) (g3 : xR (x3)) (hQ : ∀ z a' b', kOk (xS a' b') → kP (xS a' b') → xAr a' → kSm xW70 (xS a' b') (xS a b) → (-1 ≤ z ∧ z ≤ 1) → Q (some (xV z)) (xS a' b')) : pmCs ro d 70 [.ref 0, xV x2, xV x3] (xS a b) Q := by
  refine xEng (ρ := xRo (0 :: L.1 :: [x2, x3])) hc hd (xEl_ok (xEl.c ⟨Int.le_refl _, Int.le_refl _⟩ (xEl.c hL (xEl.f g2 (xEl.f g3 xEl.n)))) rfl) (kOk_mok hT hP) (bSok.c (xVr (List.mem_singleton.mpr rfl)) (bSok.c (xVk g2 (by decide) rfl) (bSok.c (xVk g3 (by decide) rfl) bSok.n))) (by decide +kernel) (by decide +kernel) ?_
  intro v a' b' ρ' h1 h2 h3 h4 h5 h6 h7 h8
  obtain ⟨z, rfl, z1, z2, -⟩ := xRi h6 h5 rfl
  exact hQ z a' b' h1 h2 h3 h4 ⟨z1, z2⟩
abbrev xW76 : Nat := 664532868254043329770207741135028224
theorem xe76 (hL : 0 ≤ L.1 ∧ L.1 ≤ 3072) (hc : bCok ro L kP bC76) (hT : kOk (xS a b)) (hP : kP (xS a b)) (hA : xAr a) (hd : 8 ≤ d) {x2 : Int} {x3 : Int} {x4 : Int} (g2 : xR (x2)) (g3 : xR (x3)) (g4 : xR (x4)) (hQ : ∀ z a' b', kOk (xS a' b') → kP (xS a' b') → xAr a' → kSm xW76 (xS a' b') (xS a b) → (-3 ≤ z ∧ z ≤ 33554431) → Q (some (xV z)) (xS a' b')) : pmCs ro d 76 [.ref 0, xV x2, xV x3, xV x4] (xS a b) Q := by
  refine xEng (ρ := xRo (0 :: L.1 :: [x2, x3, x4])) hc hd (xEl_ok (xEl.c ⟨Int.le_refl _, Int.le_refl _⟩ (xEl.c hL (xEl.f g2 (xEl.f g3 (xEl.f g4 xEl.n))))) rfl) (kOk_mok hT hP) (bSok.c (xVr (List.mem_singleton.mpr rfl)) (bSok.c (xVk g2 (by decide) rfl) (bSok.c (xVk g3 (by decide) rfl) (bSok.c (xVk g4 (by decide) rfl) bSok.n)))) (by decide +kernel) (by decide +kernel) ?_
  intro v a' b' ρ' h1 h2 h3 h4 h5 h6 h7 h8
  obtain ⟨z, rfl, z1, z2, -⟩ := xRi h6 h5 rfl
  exact hQ z a' b' h1 h2 h3 h4 ⟨z1, z2⟩
abbrev xW84 : Nat := 664532868254043329770207741135028224
theorem xe84 (hL : 0 ≤ L.1 ∧ L.1 ≤ 3072) (hc : bCok ro L kP bC84) (hT : kOk (xS a b)) (hP : kP (xS a b)) (hA : xAr a) (hd : 9 ≤ d) {x2 : Int} (g2 : xR (x2)) (hQ : ∀ z a' b', kOk (xS a' b') → kP (xS a' b') → xAr a' → kSm xW84 (xS a' b') (xS a b) → (-2 ≤ z ∧ z ≤ 6) → Q (some (xV z)) (xS a' b')) : pmCs ro d 84 [.ref 0, xV x2] (xS a b) Q := by
  refine xEng (ρ := xRo (0 :: L.1 :: [x2])) hc hd (xEl_ok (xEl.c ⟨Int.le_refl _, Int.le_refl _⟩ (xEl.c hL (xEl.f g2 xEl.n))) rfl) (kOk_mok hT hP) (bSok.c (xVr (List.mem_singleton.mpr rfl)) (bSok.c (xVk g2 (by decide) rfl) bSok.n)) (by decide +kernel) (by decide +kernel) ?_
  intro v a' b' ρ' h1 h2 h3 h4 h5 h6 h7 h8
  obtain ⟨z, rfl, z1, z2, -⟩ := xRi h6 h5 rfl
  exact hQ z a' b' h1 h2 h3 h4 ⟨z1, z2⟩
abbrev xW87 : Nat := 463170137409521489942666444397263063757261896445574024500021803394402848079872
theorem xe87 (hL : 0 ≤ L.1 ∧ L.1 ≤ 3072) (hc : bCok ro L kP bC87) (hT : kOk (xS a b)) (hP : kP (xS a b)) (hA : xAr a) (hd : 11 ≤ d) {x2 : Int} {x3 : Int} {x4 : Int} (g2 : xR (x2)) (g3 : xR (x3)) (g4 : xR (x4)) (hQ : ∀ z a' b', kOk (xS a' b') → kP (xS a' b') → xAr a' → kSm xW87 (xS a' b') (xS a b) → (-2147483648 ≤ z ∧ z ≤ 2147483647) → Q (some (xV z)) (xS a' b')) : pmCs ro d 87 [.ref 0, xV x2, xV x3, xV x4] (xS a b) Q := by
  refine xEng (ρ := xRo (0 :: L.1 :: [x2, x3, x4])) hc hd (xEl_ok (xEl.c ⟨Int.le_refl _, Int.le_refl _⟩ (xEl.c hL (xEl.f g2 (xEl.f g3 (xEl.f g4 xEl.n))))) rfl) (kOk_mok hT hP) (bSok.c (xVr (List.mem_singleton.mpr rfl)) (bSok.c (xVk g2 (by decide) rfl) (bSok.c (xVk g3 (by decide) rfl) (bSok.c (xVk g4 (by decide) rfl) bSok.n)))) (by decide +kernel) (by decide +kernel) ?_
  intro v a' b' ρ' h1 h2 h3 h4 h5 h6 h7 h8
  obtain ⟨z, rfl, z1, z2, -⟩ := xRi h6 h5 rfl
  exact hQ z a' b' h1 h2 h3 h4 ⟨z1, z2⟩
abbrev xW100 : Nat := 926336714766309467322223308379558557612191846171897211787193874750053745164288
theorem xe100 (hL : 0 ≤ L.1 ∧ L.1 ≤ 3072) (hc : bCok ro L kP bC100) (hT : kOk (xS a b)) (hP : kP (xS a b)) (hA : xAr a) (hd : 6 ≤ d) {x2 : Int} {x3 : Int} (g2 : xR (x2)) (g3 : xR (x3)) (hQ : ∀ z a' b', kOk (xS a' b') → kP (xS a' b') → xAr a' → kSm xW100 (xS a' b') (xS a b) → (-2147483648 ≤ z ∧ z ≤ 2147483647) → Q (some (xV z)) (xS a' b')) : pmCs ro d 100 [.ref 0, xV x2, xV x3] (xS a b) Q := by
  refine xEng (ρ := xRo (0 :: L.1 :: [x2, x3])) hc hd (xEl_ok (xEl.c ⟨Int.le_refl _, Int.le_refl _⟩ (xEl.c hL (xEl.f g2 (xEl.f g3 xEl.n)))) rfl) (kOk_mok hT hP) (bSok.c (xVr (List.mem_singleton.mpr rfl)) (bSok.c (xVk g2 (by decide) rfl) (bSok.c (xVk g3 (by decide) rfl) bSok.n))) (by decide +kernel) (by decide +kernel) ?_
  intro v a' b' ρ' h1 h2 h3 h4 h5 h6 h7 h8
  obtain ⟨z, rfl, z1, z2, -⟩ := xRi h6 h5 rfl
  exact hQ z a' b' h1 h2 h3 h4 ⟨z1, z2⟩
abbrev xW106 : Nat := 926336714766309467322223308379558557612191846171897211787193874750053745164288
theorem xe106 (hL : 0 ≤ L.1 ∧ L.1 ≤ 3072) (hc : bCok ro L kP bC106) (hT : kOk (xS a b)) (hP : kP (xS a b)) (hA : xAr a) (hd : 6 ≤ d) {x2 : Int} {x3 : Int} (g2 : xR (x2)) (g3 : xR (x3)) (hQ : ∀ z a' b', kOk (xS a' b') → kP (xS a' b') → xAr a' → kSm xW106 (xS a' b') (xS a b) → (-2147483648 ≤ z ∧ z ≤ 2147483647) → Q (some (xV z)) (xS a' b')) : pmCs ro d 106 [.ref 0, xV x2, xV x3] (xS a b) Q := by
  refine xEng (ρ := xRo (0 :: L.1 :: [x2, x3])) hc hd (xEl_ok (xEl.c ⟨Int.le_refl _, Int.le_refl _⟩ (xEl.c hL (xEl.f g2 (xEl.f g3 xEl.n)))) rfl) (kOk_mok hT hP) (bSok.c (xVr (List.mem_singleton.mpr rfl)) (bSok.c (xVk g2 (by decide) rfl) (bSok.c (xVk g3 (by decide) rfl) bSok.n))) (by decide +kernel) (by decide +kernel) ?_
  intro v a' b' ρ' h1 h2 h3 h4 h5 h6 h7 h8
  obtain ⟨z, rfl, z1, z2, -⟩ := xRi h6 h5 rfl
  exact hQ z a' b' h1 h2 h3 h4 ⟨z1, z2⟩
abbrev xW107 : Nat := 0
theorem xe107 (hL : 0 ≤ L.1 ∧ L.1 ≤ 3072) (hc : bCok ro L kP bC107) (hT : kOk (xS a b)) (hP : kP (xS a b)) (hA : xAr a) (hd : 2 ≤ d) {x2 : Int} (g2 : xR (x2)) (hQ : ∀ z a' b', kOk (xS a' b') → kP (xS a' b') → xAr a' → kSm xW107 (xS a' b') (xS a b) → (-1 ≤ z ∧ z ≤ 2) → Q (some (xV z)) (xS a' b')) : pmCs ro d 107 [.ref 0, xV x2] (xS a b) Q := by
  refine xEng (ρ := xRo (0 :: L.1 :: [x2])) hc hd (xEl_ok (xEl.c ⟨Int.le_refl _, Int.le_refl _⟩ (xEl.c hL (xEl.f g2 xEl.n))) rfl) (kOk_mok hT hP) (bSok.c (xVr (List.mem_singleton.mpr rfl)) (bSok.c (xVk g2 (by decide) rfl) bSok.n)) (by decide +kernel) (by decide +kernel) ?_
  intro v a' b' ρ' h1 h2 h3 h4 h5 h6 h7 h8
  obtain ⟨z, rfl, z1, z2, -⟩ := xRi h6 h5 rfl
  exact hQ z a' b' h1 h2 h3 h4 ⟨z1, z2⟩
abbrev xW109 : Nat := 0
theorem xe109 (hL : 0 ≤ L.1 ∧ L.1 ≤ 3072) (hc : bCok ro L kP bC109) (hT : kOk (xS a b)) (hP : kP (xS a b)) (hA : xAr a) (hd : 1 ≤ d) {x2 : Int} (g2 : xR (x2)) (hQ : ∀ z a' b', kOk (xS a' b') → kP (xS a' b') → xAr a' → kSm xW109 (xS a' b') (xS a b) → (-2147483648 ≤ z ∧ z ≤ 2147483647) → Q (some (xV z)) (xS a' b')) : pmCs ro d 109 [.ref 0, xV x2] (xS a b) Q := by
  refine xEng (ρ := xRo (0 :: L.1 :: [x2])) hc hd (xEl_ok (xEl.c ⟨Int.le_refl _, Int.le_refl _⟩ (xEl.c hL (xEl.f g2 xEl.n))) rfl) (kOk_mok hT hP) (bSok.c (xVr (List.mem_singleton.mpr rfl)) (bSok.c (xVk g2 (by decide) rfl) bSok.n)) (by decide +kernel) (by decide +kernel) ?_
  intro v a' b' ρ' h1 h2 h3 h4 h5 h6 h7 h8
  obtain ⟨z, rfl, z1, z2, -⟩ := xRi h6 h5 rfl
  exact hQ z a' b' h1 h2 h3 h4 ⟨z1, z2⟩
abbrev xW110 : Nat := 463111845448597563327462777021678816700649376530456390713713785033506989015040
theorem xe110 (hL : 0 ≤ L.1 ∧ L.1 ≤ 3072) (hc : bCok ro L kP bC110) (hT : kOk (xS a b)) (hP : kP (xS a b)) (hA : xAr a) (hd : 14 ≤ d) {x2 : Int} (g2 : xR (x2)) (hQ : ∀ z a' b', kOk (xS a' b') → kP (xS a' b') → xAr a' → kSm xW110 (xS a' b') (xS a b) → (-1 ≤ z ∧ z ≤ 1) → Q (some (xV z)) (xS a' b')) : pmCs ro d 110 [.ref 0, xV x2] (xS a b) Q := by
  refine xEng (ρ := xRo (0 :: L.1 :: [x2])) hc hd (xEl_ok (xEl.c ⟨Int.le_refl _, Int.le_refl _⟩ (xEl.c hL (xEl.f g2 xEl.n))) rfl) (kOk_mok hT hP) (bSok.c (xVr (List.mem_singleton.mpr rfl)) (bSok.c (xVk g2 (by decide) rfl) bSok.n)) (by decide +kernel) (by decide +kernel) ?_
  intro v a' b' ρ' h1 h2 h3 h4 h5 h6 h7 h8
  obtain ⟨z, rfl, z1, z2, -⟩ := xRi h6 h5 rfl
  exact hQ z a' b' h1 h2 h3 h4 ⟨z1, z2⟩
abbrev xW114 : Nat := 463111845448597563327462777021678816700649376530456390713713785033506989015040
theorem xe114 (hL : 0 ≤ L.1 ∧ L.1 ≤ 3072) (hc : bCok ro L kP bC114) (hT : kOk (xS a b)) (hP : kP (xS a b)) (hA : xAr a) (hd : 14 ≤ d) (hQ : ∀ z a' b', kOk (xS a' b') → kP (xS a' b') → xAr a' → kSm xW114 (xS a' b') (xS a b) → (-1 ≤ z ∧ z ≤ 3) → Q (some (xV z)) (xS a' b')) : pmCs ro d 114 [.ref 0] (xS a b) Q := by
  refine xEng (ρ := xRo (0 :: L.1 :: [])) hc hd (xEl_ok (xEl.c ⟨Int.le_refl _, Int.le_refl _⟩ (xEl.c hL xEl.n)) rfl) (kOk_mok hT hP) (bSok.c (xVr (List.mem_singleton.mpr rfl)) bSok.n) (by decide +kernel) (by decide +kernel) ?_
  intro v a' b' ρ' h1 h2 h3 h4 h5 h6 h7 h8
  obtain ⟨z, rfl, z1, z2, -⟩ := xRi h6 h5 rfl
  exact hQ z a' b' h1 h2 h3 h4 ⟨z1, z2⟩
abbrev xW115 : Nat := 463111845448597563327462777021678816700649376530456390713713785033506989015040
theorem xe115 (hL : 0 ≤ L.1 ∧ L.1 ≤ 3072) (hc : bCok ro L kP bC115) (hT : kOk (xS a b)) (hP : kP (xS a b)) (hA : xAr a) (hd : 14 ≤ d) {x2 : Int} {x3 : Int} (g2 : xR (x2)) (g3 : xR (x3)) (hQ : ∀ z a' b', kOk (xS a' b') → kP (xS a' b') → xAr a' → kSm xW115 (xS a' b') (xS a b) → (-2147483648 ≤ z ∧ z ≤ 2147483647) → Q (some (xV z)) (xS a' b')) : pmCs ro d 115 [.ref 0, xV x2, xV x3] (xS a b) Q := by
  refine xEng (ρ := xRo (0 :: L.1 :: [x2, x3])) hc hd (xEl_ok (xEl.c ⟨Int.le_refl _, Int.le_refl _⟩ (xEl.c hL (xEl.f g2 (xEl.f g3 xEl.n)))) rfl) (kOk_mok hT hP) (bSok.c (xVr (List.mem_singleton.mpr rfl)) (bSok.c (xVk g2 (by decide) rfl) (bSok.c (xVk g3 (by decide) rfl) bSok.n))) (by decide +kernel) (by decide +kernel) ?_
  intro v a' b' ρ' h1 h2 h3 h4 h5 h6 h7 h8
  obtain ⟨z, rfl, z1, z2, -⟩ := xRi h6 h5 rfl
  exact hQ z a' b' h1 h2 h3 h4 ⟨z1, z2⟩
abbrev xW116 : Nat := 463111831645104869746335202152167092146598471628238446372940674708458541416448
theorem xe116 (hL : 0 ≤ L.1 ∧ L.1 ≤ 3072) (hc : bCok ro L kP bC116) (hT : kOk (xS a b)) (hP : kP (xS a b)) (hA : xAr a) (hd : 12 ≤ d) {x2 : Int} (g2 : xR (x2)) (hQ : ∀ z a' b', kOk (xS a' b') → kP (xS a' b') → xAr a' → kSm xW116 (xS a' b') (xS a b) → (-2147483648 ≤ z ∧ z ≤ 2147483647) → Q (some (xV z)) (xS a' b')) : pmCs ro d 116 [.ref 0, xV x2] (xS a b) Q := by
  refine xEng (ρ := xRo (0 :: L.1 :: [x2])) hc hd (xEl_ok (xEl.c ⟨Int.le_refl _, Int.le_refl _⟩ (xEl.c hL (xEl.f g2 xEl.n))) rfl) (kOk_mok hT hP) (bSok.c (xVr (List.mem_singleton.mpr rfl)) (bSok.c (xVk g2 (by decide) rfl) bSok.n)) (by decide +kernel) (by decide +kernel) ?_
  intro v a' b' ρ' h1 h2 h3 h4 h5 h6 h7 h8
  obtain ⟨z, rfl, z1, z2, -⟩ := xRi h6 h5 rfl
  exact hQ z a' b' h1 h2 h3 h4 ⟨z1, z2⟩
abbrev xW119 : Nat := 463111831645104869746335202152167092146598471628238446372940674708458541416448
theorem xe119 (hL : 0 ≤ L.1 ∧ L.1 ≤ 3072) (hc : bCok ro L kP bC119) (hT : kOk (xS a b)) (hP : kP (xS a b)) (hA : xAr a) (hd : 12 ≤ d) {x2 : Int} (g2 : xR (x2)) (hQ : ∀ z a' b', kOk (xS a' b') → kP (xS a' b') → xAr a' → kSm xW119 (xS a' b') (xS a b) → (-1 ≤ z ∧ z ≤ 1) → Q (some (xV z)) (xS a' b')) : pmCs ro d 119 [.ref 0, xV x2] (xS a b) Q := by
  refine xEng (ρ := xRo (0 :: L.1 :: [x2])) hc hd (xEl_ok (xEl.c ⟨Int.le_refl _, Int.le_refl _⟩ (xEl.c hL (xEl.f g2 xEl.n))) rfl) (kOk_mok hT hP) (bSok.c (xVr (List.mem_singleton.mpr rfl)) (bSok.c (xVk g2 (by decide) rfl) bSok.n)) (by decide +kernel) (by decide +kernel) ?_
  intro v a' b' ρ' h1 h2 h3 h4 h5 h6 h7 h8
  obtain ⟨z, rfl, z1, z2, -⟩ := xRi h6 h5 rfl
  exact hQ z a' b' h1 h2 h3 h4 ⟨z1, z2⟩
abbrev xW120 : Nat := 463111831645104869746335202152167092146598471628238446372924533807394045558784
theorem xe120 (hL : 0 ≤ L.1 ∧ L.1 ≤ 3072) (hc : bCok ro L kP bC120) (hT : kOk (xS a b)) (hP : kP (xS a b)) (hA : xAr a) (hd : 12 ≤ d) {x2 : Int} {x3 : Int} {x4 : Int} {x5 : Int} (g2 : xR (x2)) (g3 : xR (x3)) (g4 : xR (x4)) (g5 : xR (x5)) (hQ : ∀ z a' b', kOk (xS a' b') → kP (xS a' b') → xAr a' → kSm xW120 (xS a' b') (xS a b) → (-2147483648 ≤ z ∧ z ≤ 2147483647) → Q (some (xV z)) (xS a' b')) : pmCs ro d 120 [.ref 0, xV x2, xV x3, xV x4, xV x5] (xS a b) Q := by
  refine xEng (ρ := xRo (0 :: L.1 :: [x2, x3, x4, x5])) hc hd (xEl_ok (xEl.c ⟨Int.le_refl _, Int.le_refl _⟩ (xEl.c hL (xEl.f g2 (xEl.f g3 (xEl.f g4 (xEl.f g5 xEl.n)))))) rfl) (kOk_mok hT hP) (bSok.c (xVr (List.mem_singleton.mpr rfl)) (bSok.c (xVk g2 (by decide) rfl) (bSok.c (xVk g3 (by decide) rfl) (bSok.c (xVk g4 (by decide) rfl) (bSok.c (xVk g5 (by decide) rfl) bSok.n))))) (by decide +kernel) (by decide +kernel) ?_
  intro v a' b' ρ' h1 h2 h3 h4 h5 h6 h7 h8
  obtain ⟨z, rfl, z1, z2, -⟩ := xRi h6 h5 rfl
  exact hQ z a' b' h1 h2 h3 h4 ⟨z1, z2⟩
abbrev xW124 : Nat := 0
theorem xe124 (hL : 0 ≤ L.1 ∧ L.1 ≤ 3072) (hc : bCok ro L kP bC124) (hT : kOk (xS a b)) (hP : kP (xS a b)) (hA : xAr a) (hd : 5 ≤ d) {x2 : Int} (g2 : xR (x2)) (hQ : ∀ z a' b', kOk (xS a' b') → kP (xS a' b') → xAr a' → kSm xW124 (xS a' b') (xS a b) → (-2147483648 ≤ z ∧ z ≤ 2147483647) → Q (some (xV z)) (xS a' b')) : pmCs ro d 124 [.ref 0, xV x2] (xS a b) Q := by
  refine xEng (ρ := xRo (0 :: L.1 :: [x2])) hc hd (xEl_ok (xEl.c ⟨Int.le_refl _, Int.le_refl _⟩ (xEl.c hL (xEl.f g2 xEl.n))) rfl) (kOk_mok hT hP) (bSok.c (xVr (List.mem_singleton.mpr rfl)) (bSok.c (xVk g2 (by decide) rfl) bSok.n)) (by decide +kernel) (by decide +kernel) ?_
  intro v a' b' ρ' h1 h2 h3 h4 h5 h6 h7 h8
  obtain ⟨z, rfl, z1, z2, -⟩ := xRi h6 h5 rfl
  exact hQ z a' b' h1 h2 h3 h4 ⟨z1, z2⟩
abbrev xW127 : Nat := 0
theorem xe127 (hL : 0 ≤ L.1 ∧ L.1 ≤ 3072) (hc : bCok ro L kP bC127) (hT : kOk (xS a b)) (hP : kP (xS a b)) (hA : xAr a) (hd : 3 ≤ d) {x2 : Int} {x3 : Int} {x4 : Int} (g2 : xR (x2)) (g3 : xR (x3)) (g4 : xR (x4)) (hQ : ∀ z a' b', kOk (xS a' b') → kP (xS a' b') → xAr a' → kSm xW127 (xS a' b') (xS a b) → (-1 ≤ z ∧ z ≤ 15) → Q (some (xV z)) (xS a' b')) : pmCs ro d 127 [.ref 0, xV x2, xV x3, xV x4] (xS a b) Q := by
  refine xEng (ρ := xRo (0 :: L.1 :: [x2, x3, x4])) hc hd (xEl_ok (xEl.c ⟨Int.le_refl _, Int.le_refl _⟩ (xEl.c hL (xEl.f g2 (xEl.f g3 (xEl.f g4 xEl.n))))) rfl) (kOk_mok hT hP) (bSok.c (xVr (List.mem_singleton.mpr rfl)) (bSok.c (xVk g2 (by decide) rfl) (bSok.c (xVk g3 (by decide) rfl) (bSok.c (xVk g4 (by decide) rfl) bSok.n)))) (by decide +kernel) (by decide +kernel) ?_
  intro v a' b' ρ' h1 h2 h3 h4 h5 h6 h7 h8
  obtain ⟨z, rfl, z1, z2, -⟩ := xRi h6 h5 rfl
  exact hQ z a' b' h1 h2 h3 h4 ⟨z1, z2⟩
abbrev xW129 : Nat := 16384
theorem xe129 (hL : 0 ≤ L.1 ∧ L.1 ≤ 3072) (hc : bCok ro L kP bC129) (hT : kOk (xS a b)) (hP : kP (xS a b)) (hA : xAr a) (hd : 4 ≤ d) {x2 : Int} {x3 : Int} (g2 : xR (x2)) (g3 : xR (x3)) (hQ : ∀ z a' b', kOk (xS a' b') → kP (xS a' b') → xAr a' → kSm xW129 (xS a' b') (xS a b) → (-2 ≤ z ∧ z ≤ 100) → Q (some (xV z)) (xS a' b')) : pmCs ro d 129 [.ref 0, xV x2, xV x3] (xS a b) Q := by
  refine xEng (ρ := xRo (0 :: L.1 :: [x2, x3])) hc hd (xEl_ok (xEl.c ⟨Int.le_refl _, Int.le_refl _⟩ (xEl.c hL (xEl.f g2 (xEl.f g3 xEl.n)))) rfl) (kOk_mok hT hP) (bSok.c (xVr (List.mem_singleton.mpr rfl)) (bSok.c (xVk g2 (by decide) rfl) (bSok.c (xVk g3 (by decide) rfl) bSok.n))) (by decide +kernel) (by decide +kernel) ?_
  intro v a' b' ρ' h1 h2 h3 h4 h5 h6 h7 h8
  obtain ⟨z, rfl, z1, z2, -⟩ := xRi h6 h5 rfl
  exact hQ z a' b' h1 h2 h3 h4 ⟨z1, z2⟩
abbrev xW132 : Nat := 0
theorem xe132 (hL : 0 ≤ L.1 ∧ L.1 ≤ 3072) (hc : bCok ro L kP bC132) (hT : kOk (xS a b)) (hP : kP (xS a b)) (hA : xAr a) (hd : 2 ≤ d) {x2 : Int} (g2 : xR (x2)) (hQ : ∀ z a' b', kOk (xS a' b') → kP (xS a' b') → xAr a' → kSm xW132 (xS a' b') (xS a b) → (-1 ≤ z ∧ z ≤ 20) → Q (some (xV z)) (xS a' b')) : pmCs ro d 132 [.ref 0, xV x2] (xS a b) Q := by
  refine xEng (ρ := xRo (0 :: L.1 :: [x2])) hc hd (xEl_ok (xEl.c ⟨Int.le_refl _, Int.le_refl _⟩ (xEl.c hL (xEl.f g2 xEl.n))) rfl) (kOk_mok hT hP) (bSok.c (xVr (List.mem_singleton.mpr rfl)) (bSok.c (xVk g2 (by decide) rfl) bSok.n)) (by decide +kernel) (by decide +kernel) ?_
  intro v a' b' ρ' h1 h2 h3 h4 h5 h6 h7 h8
  obtain ⟨z, rfl, z1, z2, -⟩ := xRi h6 h5 rfl
  exact hQ z a' b' h1 h2 h3 h4 ⟨z1, z2⟩
abbrev xW133 : Nat := 0
theorem xe133 (hL : 0 ≤ L.1 ∧ L.1 ≤ 3072) (hc : bCok ro L kP bC133) (hT : kOk (xS a b)) (hP : kP (xS a b)) (hA : xAr a) (hd : 2 ≤ d) {x2 : Int} (g2 : xR (x2)) (hQ : ∀ z a' b', kOk (xS a' b') → kP (xS a' b') → xAr a' → kSm xW133 (xS a' b') (xS a b) → (-1 ≤ z ∧ z ≤ 20) → Q (some (xV z)) (xS a' b')) : pmCs ro d 133 [.ref 0, xV x2] (xS a b) Q := by
  refine xEng (ρ := xRo (0 :: L.1 :: [x2])) hc hd (xEl_ok (xEl.c ⟨Int.le_refl _, Int.le_refl _⟩ (xEl.c hL (xEl.f g2 xEl.n))) rfl) (kOk_mok hT hP) (bSok.c (xVr (List.mem_singleton.mpr rfl)) (bSok.c (xVk g2 (by decide) rfl) bSok.n)) (by decide +kernel) (by decide +kernel) ?_
  intro v a' b' ρ' h1 h2 h3 h4 h5 h6 h7 h8
  obtain ⟨z, rfl, z1, z2, -⟩ := xRi h6 h5 rfl
  exact hQ z a' b' h1 h2 h3 h4 ⟨z1, z2⟩
abbrev xW134 : Nat := 0
theorem xe134 (hL : 0 ≤ L.1 ∧ L.1 ≤ 3072) (hc : bCok ro L kP bC134) (hT : kOk (xS a b)) (hP : kP (xS a b)) (hA : xAr a) (hd : 3 ≤ d) {x2 : Int} (g2 : xR (x2)) (hQ : ∀ z a' b', kOk (xS a' b') → kP (xS a' b') → xAr a' → kSm xW134 (xS a' b') (xS a b) → (-2147483648 ≤ z ∧ z ≤ 2147483647) → Q (some (xV z)) (xS a' b')) : pmCs ro d 134 [.ref 0, xV x2] (xS a b) Q := by
  refine xEng (ρ := xRo (0 :: L.1 :: [x2])) hc hd (xEl_ok (xEl.c ⟨Int.le_refl _, Int.le_refl _⟩ (xEl.c hL (xEl.f g2 xEl.n))) rfl) (kOk_mok hT hP) (bSok.c (xVr (List.mem_singleton.mpr rfl)) (bSok.c (xVk g2 (by decide) rfl) bSok.n)) (by decide +kernel) (by decide +kernel) ?_
  intro v a' b' ρ' h1 h2 h3 h4 h5 h6 h7 h8
  obtain ⟨z, rfl, z1, z2, -⟩ := xRi h6 h5 rfl
  exact hQ z a' b' h1 h2 h3 h4 ⟨z1, z2⟩
abbrev xW141 : Nat := 1527716997362003638074695707052079048452488221419092279368033327472832085313659161088678539250702619636850727301414813650449510459954163020452912669422726479345433221903138203343794223787143921239462383908774946382107441178210858659218648730415255675760945317066583091278125219008527117857493961923505669243034186264754269373458650897890761663899121648700868426717385504981907664695217082366964789156905165222507928165878903246693680174601780100059641154934714399991619905062431402480931700736
theorem xe141 (hL : 0 ≤ L.1 ∧ L.1 ≤ 3072) (hc : bCok ro L kP bC141) (hT : kOk (xS a b)) (hP : kP (xS a b)) (hA : xAr a) (hd : 2 ≤ d) {x2 : Int} {x3 : Int} (g2 : xR (x2)) (g3 : 0 ≤ x3 ∧ x3 ≤ 1) (hQ : ∀ z a' b', kOk (xS a' b') → kP (xS a' b') → xAr a' → kSm xW141 (xS a' b') (xS a b) → (-1 ≤ z ∧ z ≤ 4) → Q (some (xV z)) (xS a' b')) : pmCs ro d 141 [.ref 87, xV x2, xV x3] (xS a b) Q := by
  refine xEng (ρ := xRo (0 :: L.1 :: [x2, x3])) hc hd (xEl_ok (xEl.c ⟨Int.le_refl _, Int.le_refl _⟩ (xEl.c hL (xEl.f g2 (xEl.c g3 xEl.n)))) rfl) (kOk_mok hT hP) (bSok.c (xVr (List.mem_singleton.mpr rfl)) (bSok.c (xVk g2 (by decide) rfl) (bSok.c (xVk ⟨by omega, by omega⟩ (by decide) rfl) bSok.n))) (by decide +kernel) (by decide +kernel) ?_
  intro v a' b' ρ' h1 h2 h3 h4 h5 h6 h7 h8
  obtain ⟨z, rfl, z1, z2, -⟩ := xRi h6 h5 rfl
  exact hQ z a' b' h1 h2 h3 h4 ⟨z1, z2⟩
abbrev xW142 : Nat := 1527716997362003638074695707052079048452488221419092279368033327472832085313659161088678539250702619636850727301414813650449510459954163020452912669422726479345433221903138203343794223787143921239462383908774946382107441178210858659218648730415255675760945317066583091278125219008527117857493961923505669243034186264754269373458650897890761663899121648700868426717385504981907664695217082366965318881690073608208362131262033295618101645323324549946588021253454310483613503918837097078491971584
theorem xe142 (hL : 0 ≤ L.1 ∧ L.1 ≤ 3072) (hc : bCok ro L kP bC142) (hT : kOk (xS a b)) (hP : kP (xS a b)) (hA : xAr a) (hd : 2 ≤ d) {x2 : Int} {x3 : Int} (g2 : xR (x2)) (g3 : 0 ≤ x3 ∧ x3 ≤ 1) (hQ : ∀ z a' b', kOk (xS a' b') → kP (xS a' b') → xAr a' → kSm xW142 (xS a' b') (xS a b) → (-1 ≤ z ∧ z ≤ 4) → Q (some (xV z)) (xS a' b')) : pmCs ro d 142 [.ref 87, xV x2, xV x3] (xS a b) Q := by
  refine xEng (ρ := xRo (0 :: L.1 :: [x2, x3])) hc hd (xEl_ok (xEl.c ⟨Int.le_refl _, Int.le_refl _⟩ (xEl.c hL (xEl.f g2 (xEl.c g3 xEl.n)))) rfl) (kOk_mok hT hP) (bSok.c (xVr (List.mem_singleton.mpr rfl)) (bSok.c (xVk g2 (by decide) rfl) (bSok.c (xVk ⟨by omega, by omega⟩ (by decide) rfl) bSok.n))) (by decide +kernel) (by decide +kernel) ?_
  intro v a' b' ρ' h1 h2 h3 h4 h5 h6 h7 h8
  obtain ⟨z, rfl, z1, z2, -⟩ := xRi h6 h5 rfl
  exact hQ z a' b' h1 h2 h3 h4 ⟨z1, z2⟩
abbrev xW145 : Nat := 36660106397142021594460444195183105282947906509733491572540929685802991185740637364135450427780538646396928
theorem xe145 (hL : 0 ≤ L.1 ∧ L.1 ≤ 3072) (hc : bCok ro L kP bC145) (hT : kOk (xS a b)) (hP : kP (xS a b)) (hA : xAr a) (hd : 2 ≤ d) {x2 : Int} {x3 : Int} {x4 : Int} {x5 : Int} (g2 : xR (x2)) (g3 : 0 ≤ x3 ∧ x3 ≤ 1) (g4 : xR (x4)) (g5 : xR (x5)) (hQ : ∀ z a' b', kOk (xS a' b') → kP (xS a' b') → xAr a' → kSm xW145 (xS a' b') (xS a b) → (0 ≤ z ∧ z ≤ 1) → Q (some (xV z)) (xS a' b')) : pmCs ro d 145 [.ref 87, xV x2, xV x3, xV x4, xV x5] (xS a b) Q := by
  refine xEng (ρ := xRo (0 :: L.1 :: [x2, x3, x4, x5])) hc hd (xEl_ok (xEl.c ⟨Int.le_refl _, Int.le_refl _⟩ (xEl.c hL (xEl.f g2 (xEl.c g3 (xEl.f g4 (xEl.f g5 xEl.n)))))) rfl) (kOk_mok hT hP) (bSok.c (xVr (List.mem_singleton.mpr rfl)) (bSok.c (xVk g2 (by decide) rfl) (bSok.c (xVk ⟨by omega, by omega⟩ (by decide) rfl) (bSok.c (xVk g4 (by decide) rfl) (bSok.c (xVk g5 (by decide) rfl) bSok.n))))) (by decide +kernel) (by decide +kernel) ?_
  intro v a' b' ρ' h1 h2 h3 h4 h5 h6 h7 h8
  obtain ⟨z, rfl, z1, z2, -⟩ := xRi h6 h5 rfl
  exact hQ z a' b' h1 h2 h3 h4 ⟨z1, z2⟩
abbrev xW150 : Nat := 3055433994724007276149391414104158096904976442838184558736066654945664170627318322177357078501405239273701454602829627300899020919908326040905825338845452958690866443806276406687588447574287842478924767817549892764214882356421717318437297460830511351521890634133166182556250438017054235714987923847011338486068372529508538746917301795781523327798243297401736853434771009963815329390434164733929545206011273670909564387533938488856569790197382559949142912166470353585293159625584436168921972736
theorem xe150 (hL : 0 ≤ L.1 ∧ L.1 ≤ 3072) (hc : bCok ro L kP bC150) (hT : kOk (xS a b)) (hP : kP (xS a b)) (hA : xAr a) (hd : 2 ≤ d) {x2 : Int} {x3 : Int} (g2 : xR (x2)) (g3 : xR (x3)) (hQ : ∀ z a' b', kOk (xS a' b') → kP (xS a' b') → xAr a' → kSm xW150 (xS a' b') (xS a b) → (0 ≤ z ∧ z ≤ 1) → Q (some (xV z)) (xS a' b')) : pmCs ro d 150 [.ref 87, xV x2, xV x3] (xS a b) Q := by
  refine xEng (ρ := xRo (0 :: L.1 :: [x2, x3])) hc hd (xEl_ok (xEl.c ⟨Int.le_refl _, Int.le_refl _⟩ (xEl.c hL (xEl.f g2 (xEl.f g3 xEl.n)))) rfl) (kOk_mok hT hP) (bSok.c (xVr (List.mem_singleton.mpr rfl)) (bSok.c (xVk g2 (by decide) rfl) (bSok.c (xVk g3 (by decide) rfl) bSok.n))) (by decide +kernel) (by decide +kernel) ?_
  intro v a' b' ρ' h1 h2 h3 h4 h5 h6 h7 h8
  obtain ⟨z, rfl, z1, z2, -⟩ := xRi h6 h5 rfl
  exact hQ z a' b' h1 h2 h3 h4 ⟨z1, z2⟩
abbrev xW151 : Nat := 6110867989448014552298782828208316193809952885676369117472133309891328341254636644354714157002810478547402909205659254601798041839816652081811650677690905917381732887612552813375176895148575684957849535635099785528429764712843434636874594921661022703043781268266332365112500876034108471429975847694022676972136745059017077493834603591563046655596486594803473706869542019927630658780868329467859090412022547341820077343862909071986049473903956291239419812047321634671197555779361696695854301184
theorem xe151 (hL : 0 ≤ L.1 ∧ L.1 ≤ 3072) (hc : bCok ro L kP bC151) (hT : kOk (xS a b)) (hP : kP (xS a b)) (hA : xAr a) (hd : 2 ≤ d) {x2 : Int} {x3 : Int} {x4 : Int} {x5 : Int} {x6 : Int} (g2 : xR (x2)) (g3 : xR (x3)) (g4 : xR (x4)) (g5 : xR (x5)) (g6 : xR (x6)) (hQ : ∀ z a' b', kOk (xS a' b') → kP (xS a' b') → xAr a' → kSm xW151 (xS a' b') (xS a b) → (-1 ≤ z ∧ z ≤ 400) → Q (some (xV z)) (xS a' b')) : pmCs ro d 151 [.ref 87, xV x2, xV x3, xV x4, xV x5, xV x6] (xS a b) Q := by
  refine xEng (ρ := xRo (0 :: L.1 :: [x2, x3, x4, x5, x6])) hc hd (xEl_ok (xEl.c ⟨Int.le_refl _, Int.le_refl _⟩ (xEl.c hL (xEl.f g2 (xEl.f g3 (xEl.f g4 (xEl.f g5 (xEl.f g6 xEl.n))))))) rfl) (kOk_mok hT hP) (bSok.c (xVr (List.mem_singleton.mpr rfl)) (bSok.c (xVk g2 (by decide) rfl) (bSok.c (xVk g3 (by decide) rfl) (bSok.c (xVk g4 (by decide) rfl) (bSok.c (xVk g5 (by decide) rfl) (bSok.c (xVk g6 (by decide) rfl) bSok.n)))))) (by decide +kernel) (by decide +kernel) ?_
  intro v a' b' ρ' h1 h2 h3 h4 h5 h6 h7 h8
  obtain ⟨z, rfl, z1, z2, -⟩ := xRi h6 h5 rfl
  exact hQ z a' b' h1 h2 h3 h4 ⟨z1, z2⟩
abbrev xW153 : Nat := 769969366670449833589646636354247840420054063595222508801488797046307370998084217188693983782354120296972766559913066079826553271816898162308267985389054145590098343839181654485272288788720536304689041490022572976582150353818272764246198960129288860583516439801557878004175110380297667400176956809446857298489229877436151764223160052536943878605157310945237687065562294510881463006389409512950245391914840965077101369464424491448192991232701759494077657661885464981078752903683383748856486297600
theorem xe153 (hL : 0 ≤ L.1 ∧ L.1 ≤ 3072) (hc : bCok ro L kP bC153) (hT : kOk (xS a b)) (hP : kP (xS a b)) (hA : xAr a) (hd : 8 ≤ d) {x2 : Int} {x3 : Int} {x4 : Int} (g2 : xR (x2)) (g3 : xR (x3)) (g4 : xR (x4)) (hQ : ∀ z a' b', kOk (xS a' b') → kP (xS a' b') → xAr a' → kSm xW153 (xS a' b') (xS a b) → (-2147483648 ≤ z ∧ z ≤ 2147483647) → Q (some (xV z)) (xS a' b')) : pmCs ro d 153 [.ref 87, xV x2, xV x3, xV x4] (xS a b) Q := by
  refine xEng (ρ := xRo (0 :: L.1 :: [x2, x3, x4])) hc hd (xEl_ok (xEl.c ⟨Int.le_refl _, Int.le_refl _⟩ (xEl.c hL (xEl.f g2 (xEl.f g3 (xEl.f g4 xEl.n))))) rfl) (kOk_mok hT hP) (bSok.c (xVr (List.mem_singleton.mpr rfl)) (bSok.c (xVk g2 (by decide) rfl) (bSok.c (xVk g3 (by decide) rfl) (bSok.c (xVk g4 (by decide) rfl) bSok.n)))) (by decide +kernel) (by decide +kernel) ?_
  intro v a' b' ρ' h1 h2 h3 h4 h5 h6 h7 h8
  obtain ⟨z, rfl, z1, z2, -⟩ := xRi h6 h5 rfl
  exact hQ z a' b' h1 h2 h3 h4 ⟨z1, z2⟩
abbrev xW166 : Nat := 199458731175583194987032271512719440565956862188476687994290431234852957058551340071737870084571734019787230956472718070202688085651615523950332278119831169143339761451673723828565773857649510357024208843129656999647947520227209706547586778243015781027349020596213088397272028593753300507474411668732900176370543358726317409398761461228617842838669322454385381792221851530437864702607542273830920711048415945236984254376842763967189686322405180948978995155241677655127514534086758851954395123286016
theorem xe166 (hL : 0 ≤ L.1 ∧ L.1 ≤ 3072) (hc : bCok ro L kP bC166) (hT : kOk (xS a b)) (hP : kP (xS a b)) (hA : xAr a) (hd : 6 ≤ d) {x2 : Int} (g2 : xR (x2)) (hQ : ∀ z a' b', kOk (xS a' b') → kP (xS a' b') → xAr a' → kSm xW166 (xS a' b') (xS a b) → (-2147483648 ≤ z ∧ z ≤ 2147483647) → Q (some (xV z)) (xS a' b')) : pmCs ro d 166 [.ref 87, xV x2] (xS a b) Q := by
  refine xEng (ρ := xRo (0 :: L.1 :: [x2])) hc hd (xEl_ok (xEl.c ⟨Int.le_refl _, Int.le_refl _⟩ (xEl.c hL (xEl.f g2 xEl.n))) rfl) (kOk_mok hT hP) (bSok.c (xVr (List.mem_singleton.mpr rfl)) (bSok.c (xVk g2 (by decide) rfl) bSok.n)) (by decide +kernel) (by decide +kernel) ?_
  intro v a' b' ρ' h1 h2 h3 h4 h5 h6 h7 h8
  obtain ⟨z, rfl, z1, z2, -⟩ := xRi h6 h5 rfl
  exact hQ z a' b' h1 h2 h3 h4 ⟨z1, z2⟩
abbrev xW174 : Nat := 36660106943420706031233197767709906635810859819375173165254875599758882386273332232534271096153092380426240
theorem xe174 (hL : 0 ≤ L.1 ∧ L.1 ≤ 3072) (hc : bCok ro L kP bC174) (hT : kOk (xS a b)) (hP : kP (xS a b)) (hA : xAr a) (hd : 3 ≤ d) (hQ : ∀ a' b', kOk (xS a' b') → kP (xS a' b') → xAr a' → kSm xW174 (xS a' b') (xS a b) → Q none (xS a' b')) : pmCs ro d 174 [.ref 87] (xS a b) Q := by
  refine xEng (ρ := xRo (0 :: L.1 :: [])) hc hd (xEl_ok (xEl.c ⟨Int.le_refl _, Int.le_refl _⟩ (xEl.c hL xEl.n)) rfl) (kOk_mok hT hP) (bSok.c (xVr (List.mem_singleton.mpr rfl)) bSok.n) (by decide +kernel) (by decide +kernel) ?_
  intro v a' b' ρ' h1 h2 h3 h4 h5 h6 h7 h8
  obtain rfl := xRn h6
  exact hQ a' b' h1 h2 h3 h4
abbrev xW181d : Nat := 58968162887836583628774290327941701376214178963073843940123596495048538282394332607832664878173244953001502434965675107919324887176341635325513034796178726418435276800
theorem xe181d (hL : 0 ≤ L.1 ∧ L.1 ≤ 3072) (hc : bCok ro L kP bC181d) (hT : kOk (xS a b)) (hP : kP (xS a b)) (hA : xAr a) (hd : 1 ≤ d) (g2 : xR (a 88 114)) (hQ : ∀ a' b', kOk (xS a' b') → kP (xS a' b') → xAr a' → kSm xW181d (xS a' b') (xS a b) → Q none (xS a' b')) : pmCs ro d 181 [.ref 87, xV 0] (xS a b) Q := by
  refine xEng (ρ := xRo (0 :: L.1 :: [a 88 114])) hc hd (xEl_ok (xEl.c ⟨Int.le_refl _, Int.le_refl _⟩ (xEl.c hL (xEl.f g2 xEl.n))) rfl) ⟨hT.1, bHok_c (kOk_hok hT) rfl (by decide) (by rw [xBZ hA (by decide +kernel)]; exact (Int.add_zero _).symm), fun q hq => absurd hq List.not_mem_nil, fun p k _ => ⟨rfl, rfl⟩, fun _ => hP⟩ (bSok.c (xVr (List.mem_singleton.mpr rfl)) (bSok.c (by exact ⟨by decide, rfl⟩) bSok.n)) (by decide +kernel) (by decide +kernel) ?_
  intro v a' b' ρ' h1 h2 h3 h4 h5 h6 h7 h8
  obtain rfl := xRn h6
  exact hQ a' b' h1 h2 h3 h4
abbrev xW182 : Nat := 0
theorem xe182 (hL : 0 ≤ L.1 ∧ L.1 ≤ 3072) (hc : bCok ro L kP bC182) (hT : kOk (xS a b)) (hP : kP (xS a b)) (hA : xAr a) (hd : 2 ≤ d) {x2 : Int} {x3 : Int} {x4 : Int} (g2 : xR (x2)) (g3 : 0 ≤ x3 ∧ x3 ≤ 1) (g4 : xR (x4)) (hQ : ∀ z a' b', kOk (xS a' b') → kP (xS a' b') → xAr a' → kSm xW182 (xS a' b') (xS a b) → (-1 ≤ z ∧ z ≤ 19) → Q (some (xV z)) (xS a' b')) : pmCs ro d 182 [.ref 87, xV x2, xV x3, xV x4] (xS a b) Q := by
  refine xEng (ρ := xRo (0 :: L.1 :: [x2, x3, x4])) hc hd (xEl_ok (xEl.c ⟨Int.le_refl _, Int.le_refl _⟩ (xEl.c hL (xEl.f g2 (xEl.c g3 (xEl.f g4 xEl.n))))) rfl) (kOk_mok hT hP) (bSok.c (xVr (List.mem_singleton.mpr rfl)) (bSok.c (xVk g2 (by decide) rfl) (bSok.c (xVk ⟨by omega, by omega⟩ (by decide) rfl) (bSok.c (xVk g4 (by decide) rfl) bSok.n)))) (by decide +kernel) (by decide +kernel) ?_
  intro v a' b' ρ' h1 h2 h3 h4 h5 h6 h7 h8
  obtain ⟨z, rfl, z1, z2, -⟩ := xRi h6 h5 rfl
  exact hQ z a' b' h1 h2 h3 h4 ⟨z1, z2⟩
abbrev xW183 : Nat := 600722766834697622549179547144190315116293608473529789723980592895557141258695800686645820490004281283123895586553127364375154705021336166250412508219726815302293869783864391766033389500685584134096440751072849316586759590331360998543320179178965175800015873795653536820019286117656999175452345731713205237068930586281614785953916871465013738431757018215560679280103458726965804280794480260008420023863464493890187635104272578417112473311126990346481089675225403277697317527666904826299411215679488
theorem xe183 (hL : 0 ≤ L.1 ∧ L.1 ≤ 3072) (hc : bCok ro L kP bC183) (hT : kOk (xS a b)) (hP : kP (xS a b)) (hA : xAr a) (hd : 4 ≤ d) {x2 : Int} {x3 : Int} (g2 : xR (x2)) (g3 : xR (x3)) (hQ : ∀ z a' b', kOk (xS a' b') → kP (xS a' b') → xAr a' → kSm xW183 (xS a' b') (xS a b) → (-1 ≤ z ∧ z ≤ 1) → Q (some (xV z)) (xS a' b')) : pmCs ro d 183 [.ref 87, xV x2, xV x3] (xS a b) Q := by
  refine xEng (ρ := xRo (0 :: L.1 :: [x2, x3])) hc hd (xEl_ok (xEl.c ⟨Int.le_refl _, Int.le_refl _⟩ (xEl.c hL (xEl.f g2 (xEl.f g3 xEl.n)))) rfl) (kOk_mok hT hP) (bSok.c (xVr (List.mem_singleton.mpr rfl)) (bSok.c (xVk g2 (by decide) rfl) (bSok.c (xVk g3 (by decide) rfl) bSok.n))) (by decide +kernel) (by decide +kernel) ?_
  intro v a' b' ρ' h1 h2 h3 h4 h5 h6 h7 h8
  obtain ⟨z, rfl, z1, z2, -⟩ := xRi h6 h5 rfl
  exact hQ z a' b' h1 h2 h3 h4 ⟨z1, z2⟩
abbrev xW189 : Nat := 12615178103528650073532770490027996617442165777944125584203592450806699966432611814419562230290089906945601807317615674651878248805448059491258662672614263121348171265461152227086701179514397266816025255772529835648321951396958580969409723762758268691800333349708724273220405008470796982684499260365977309978447542311913910505032254300765288507066897382526774264882172633266281889896684085460176820501132754371741683367885063664406278635355761597925746673656278849705928209862748313065490839580442624
theorem xe189 (hL : 0 ≤ L.1 ∧ L.1 ≤ 3072) (hc : bCok ro L kP bC189) (hT : kOk (xS a b)) (hP : kP (xS a b)) (hA : xAr a) (hd : 5 ≤ d) {x2 : Int} {x3 : Int} {x4 : Int} (g2 : xR (x2)) (g3 : xR (x3)) (g4 : xR (x4)) (hQ : ∀ z a' b', kOk (xS a' b') → kP (xS a' b') → xAr a' → kSm xW189 (xS a' b') (xS a b) → (-2147483648 ≤ z ∧ z ≤ 2147483647) → Q (some (xV z)) (xS a' b')) : pmCs ro d 189 [.ref 87, xV x2, xV x3, xV x4] (xS a b) Q := by
  refine xEng (ρ := xRo (0 :: L.1 :: [x2, x3, x4])) hc hd (xEl_ok (xEl.c ⟨Int.le_refl _, Int.le_refl _⟩ (xEl.c hL (xEl.f g2 (xEl.f g3 (xEl.f g4 xEl.n))))) rfl) (kOk_mok hT hP) (bSok.c (xVr (List.mem_singleton.mpr rfl)) (bSok.c (xVk g2 (by decide) rfl) (bSok.c (xVk g3 (by decide) rfl) (bSok.c (xVk g4 (by decide) rfl) bSok.n)))) (by decide +kernel) (by decide +kernel) ?_
  intro v a' b' ρ' h1 h2 h3 h4 h5 h6 h7 h8
  obtain ⟨z, rfl, z1, z2, -⟩ := xRi h6 h5 rfl
  exact hQ z a' b' h1 h2 h3 h4 ⟨z1, z2⟩
abbrev xW197 : Nat := 51061435180949297916680261507256176784884956720250032126538350396122357006989143058364894741650363909065531124857015825971888149926813574131285063198676779300694978931628473300112838107558274651398197463841192191909874565178165684876182215230212039943001349272630550629701639320000844929913449387195622445150859099833937256806082934074526167766699346548322657738808793991792093363867530822100715702028394482009232195683241313890859716564999183234821093924193812168384522822594768418635367043951493120
theorem xe197 (hL : 0 ≤ L.1 ∧ L.1 ≤ 3072) (hc : bCok ro L kP bC197) (hT : kOk (xS a b)) (hP : kP (xS a b)) (hA : xAr a) (hd : 14 ≤ d) {x2 : Int} (g2 : xR (x2)) (hQ : ∀ z a' b', kOk (xS a' b') → kP (xS a' b') → xAr a' → kSm xW197 (xS a' b') (xS a b) → (-2 ≤ z ∧ z ≤ 2) → Q (some (xV z)) (xS a' b')) : pmCs ro d 197 [.ref 87, xV x2] (xS a b) Q := by
  refine xEng (ρ := xRo (0 :: L.1 :: [x2])) hc hd (xEl_ok (xEl.c ⟨Int.le_refl _, Int.le_refl _⟩ (xEl.c hL (xEl.f g2 xEl.n))) rfl) (kOk_mok hT hP) (bSok.c (xVr (List.mem_singleton.mpr rfl)) (bSok.c (xVk g2 (by decide) rfl) bSok.n)) (by decide +kernel) (by decide +kernel) ?_
  intro v a' b' ρ' h1 h2 h3 h4 h5 h6 h7 h8
  obtain ⟨z, rfl, z1, z2, -⟩ := xRi h6 h5 rfl
  exact hQ z a' b' h1 h2 h3 h4 ⟨z1, z2⟩
abbrev xW201 : Nat := 0
theorem xe201 (hL : 0 ≤ L.1 ∧ L.1 ≤ 3072) (hc : bCok ro L kP bC201) (hT : kOk (xS a b)) (hP : kP (xS a b)) (hA : xAr a) (hd : 2 ≤ d) {x2 : Int} (g2 : xR (x2)) (hQ : ∀ z a' b', kOk (xS a' b') → kP (xS a' b') → xAr a' → kSm xW201 (xS a' b') (xS a b) → (-1 ≤ z ∧ z ≤ 2) → Q (some (xV z)) (xS a' b')) : pmCs ro d 201 [.ref 87, xV x2] (xS a b) Q := by
  refine xEng (ρ := xRo (0 :: L.1 :: [x2])) hc hd (xEl_ok (xEl.c ⟨Int.le_refl _, Int.le_refl _⟩ (xEl.c hL (xEl.f g2 xEl.n))) rfl) (kOk_mok hT hP) (bSok.c (xVr (List.mem_singleton.mpr rfl)) (bSok.c (xVk g2 (by decide) rfl) bSok.n)) (by decide +kernel) (by decide +kernel) ?_
  intro v a' b' ρ' h1 h2 h3 h4 h5 h6 h7 h8
  obtain ⟨z, rfl, z1, z2, -⟩ := xRi h6 h5 rfl
  exact hQ z a' b' h1 h2 h3 h4 ⟨z1, z2⟩
abbrev xW203 : Nat := 0
theorem xe203 (hL : 0 ≤ L.1 ∧ L.1 ≤ 3072) (hc : bCok ro L kP bC203) (hT : kOk (xS a b)) (hP : kP (xS a b)) (hA : xAr a) (hd : 2 ≤ d) {x2 : Int} (g2 : xR (x2)) (hQ : ∀ z a' b', kOk (xS a' b') → kP (xS a' b') → xAr a' → kSm xW203 (xS a' b') (xS a b) → (-2147483648 ≤ z ∧ z ≤ 1000) → Q (some (xV z)) (xS a' b')) : pmCs ro d 203 [.ref 87, xV x2] (xS a b) Q := by
  refine xEng (ρ := xRo (0 :: L.1 :: [x2])) hc hd (xEl_ok (xEl.c ⟨Int.le_refl _, Int.le_refl _⟩ (xEl.c hL (xEl.f g2 xEl.n))) rfl) (kOk_mok hT hP) (bSok.c (xVr (List.mem_singleton.mpr rfl)) (bSok.c (xVk g2 (by decide) rfl) bSok.n)) (by decide +kernel) (by decide +kernel) ?_
  intro v a' b' ρ' h1 h2 h3 h4 h5 h6 h7 h8
  obtain ⟨z, rfl, z1, z2, -⟩ := xRi h6 h5 rfl
  exact hQ z a' b' h1 h2 h3 h4 ⟨z1, z2⟩
abbrev xW204 : Nat := 26245777923930217361714504141245389597535906518744674356303953430471190020639505763933118112481783717353444039475034985592005300780617184215535939288289271136162319935480296564388587465081453399346718195227956477591447722088107272480023839735055381519094626864756701574845582616909140179641904802467127174542620600291505843869921946086596938569996274711510584597974146812958652421164660005931946299533539252727545742361312900587177646938509974289064247078899362587645182252781183157630978065447423836160
theorem xe204 (hL : 0 ≤ L.1 ∧ L.1 ≤ 3072) (hc : bCok ro L kP bC204) (hT : kOk (xS a b)) (hP : kP (xS a b)) (hA : xAr a) (hd : 15 ≤ d) {x2 : Int} {x3 : Int} {x4 : Int} (g2 : xR (x2)) (g3 : xR (x3)) (g4 : xR (x4)) (g5 : 0 ≤ a 88 114 ∧ a 88 114 ≤ 60) (hQ : ∀ z a' b', kOk (xS a' b') → kP (xS a' b') → xAr a' → kSm xW204 (xS a' b') (xS a b) → (-2 ≤ z ∧ z ≤ 60) → (0 ≤ a' 88 114 ∧ a' 88 114 ≤ 60) → Q (some (xV z)) (xS a' b')) : pmCs ro d 204 [.ref 87, xV x2, xV x3, xV x4] (xS a b) Q := by
  refine xEng (ρ := xRo (0 :: L.1 :: [x2, x3, x4, a 88 114])) hc hd (xEl_ok (xEl.c ⟨Int.le_refl _, Int.le_refl _⟩ (xEl.c hL (xEl.f g2 (xEl.f g3 (xEl.f g4 (xEl.c g5 xEl.n)))))) rfl) ⟨hT.1, bHok_c (kOk_hok hT) rfl (by decide) (by rw [xBZ hA (by decide +kernel)]; exact (Int.add_zero _).symm), fun q hq => absurd hq List.not_mem_nil, fun p k _ => ⟨rfl, rfl⟩, fun _ => hP⟩ (bSok.c (xVr (List.mem_singleton.mpr rfl)) (bSok.c (xVk g2 (by decide) rfl) (bSok.c (xVk g3 (by decide) rfl) (bSok.c (xVk g4 (by decide) rfl) bSok.n)))) (by decide +kernel) (by decide +kernel) ?_
  intro v a' b' ρ' h1 h2 h3 h4 h5 h6 h7 h8
  obtain ⟨z, rfl, z1, z2, -⟩ := xRi h6 h5 rfl
  have e8 : bZ (xS a' b') 88 114 = ρ' 7 + 0 := (h8.2.1 88 114).2
  rw [xBZ h3 (by decide +kernel)] at e8
  have e9 := h5.2 7 _ rfl
  have e10 : (0 : Int) ≤ ρ' 7 ∧ ρ' 7 ≤ (60 : Int) := e9
  have e11 : a' 88 114 = ρ' 7 + 0 := e8
  exact hQ z a' b' h1 h2 h3 h4 ⟨z1, z2⟩ ⟨by omega, by omega⟩
abbrev xW215 : Nat := 6561494541213123898563838466940276081910236320820208049891798689333872134921647998966670081938820096361801270193390959158615023124713047831897839023114669427941855175025889463129794035719488406968690723510385042135304979418659345733422505210445443626871640050845325031506130655834461516327074154978926103069424905817091984435379316014721856726977271324295830779550143378542533514263597287833490112155166073175657696215247740497453544731878673992948135808685796568779980053755428010112802961571104948224
theorem xe215 (hL : 0 ≤ L.1 ∧ L.1 ≤ 3072) (hc : bCok ro L kP bC215) (hT : kOk (xS a b)) (hP : kP (xS a b)) (hA : xAr a) (hd : 6 ≤ d) {x2 : Int} {x3 : Int} (g2 : xR (x2)) (g3 : xR (x3)) (g4 : 0 ≤ a 88 114 ∧ a 88 114 ≤ 60) (hQ : ∀ z a' b', kOk (xS a' b') → kP (xS a' b') → xAr a' → kSm xW215 (xS a' b') (xS a b) → (-2147483648 ≤ z ∧ z ≤ 2147483647) → Q (some (xV z)) (xS a' b')) : pmCs ro d 215 [.ref 87, xV x2, xV x3] (xS a b) Q := by
  refine xEng (ρ := xRo (0 :: L.1 :: [x2, x3, a 88 114])) hc hd (xEl_ok (xEl.c ⟨Int.le_refl _, Int.le_refl _⟩ (xEl.c hL (xEl.f g2 (xEl.f g3 (xEl.c g4 xEl.n))))) rfl) ⟨hT.1, bHok_c (kOk_hok hT) rfl (by decide) (by rw [xBZ hA (by decide +kernel)]; exact (Int.add_zero _).symm), fun q hq => absurd hq List.not_mem_nil, fun p k _ => ⟨rfl, rfl⟩, fun _ => hP⟩ (bSok.c (xVr (List.mem_singleton.mpr rfl)) (bSok.c (xVk g2 (by decide) rfl) (bSok.c (xVk g3 (by decide) rfl) bSok.n))) (by decide +kernel) (by decide +kernel) ?_
  intro v a' b' ρ' h1 h2 h3 h4 h5 h6 h7 h8
  obtain ⟨z, rfl, z1, z2, -⟩ := xRi h6 h5 rfl
  exact hQ z a' b' h1 h2 h3 h4 ⟨z1, z2⟩
abbrev xW222 : Nat := 6561494541213123898563838466940276081910236320820208049891798689333872134921647998966670081938820096361801270193390959158615023124713047831897839023114669427941855175025889463129794035719488406968690723510385042135304979418659345733422505210445443626871640050845325031506130655834461516327074154978926103069424905817091984435379316014721856726977271324295830779550143378542533514263597287833490112155166073175657696215247740497453544731878673992948135808685796568779980053755428010112802961571104948224
theorem xe222 (hL : 0 ≤ L.1 ∧ L.1 ≤ 3072) (hc : bCok ro L kP bC222) (hT : kOk (xS a b)) (hP : kP (xS a b)) (hA : xAr a) (hd : 6 ≤ d) {x2 : Int} {x3 : Int} (g2 : xR (x2)) (g3 : xR (x3)) (g4 : 0 ≤ a 88 114 ∧ a 88 114 ≤ 60) (hQ : ∀ z a' b', kOk (xS a' b') → kP (xS a' b') → xAr a' → kSm xW222 (xS a' b') (xS a b) → (-2147483648 ≤ z ∧ z ≤ 2147483647) → Q (some (xV z)) (xS a' b')) : pmCs ro d 222 [.ref 87, xV x2, xV x3] (xS a b) Q := by
  refine xEng (ρ := xRo (0 :: L.1 :: [x2, x3, a 88 114])) hc hd (xEl_ok (xEl.c ⟨Int.le_refl _, Int.le_refl _⟩ (xEl.c hL (xEl.f g2 (xEl.f g3 (xEl.c g4 xEl.n))))) rfl) ⟨hT.1, bHok_c (kOk_hok hT) rfl (by decide) (by rw [xBZ hA (by decide +kernel)]; exact (Int.add_zero _).symm), fun q hq => absurd hq List.not_mem_nil, fun p k _ => ⟨rfl, rfl⟩, fun _ => hP⟩ (bSok.c (xVr (List.mem_singleton.mpr rfl)) (bSok.c (xVk g2 (by decide) rfl) (bSok.c (xVk g3 (by decide) rfl) bSok.n))) (by decide +kernel) (by decide +kernel) ?_
  intro v a' b' ρ' h1 h2 h3 h4 h5 h6 h7 h8
  obtain ⟨z, rfl, z1, z2, -⟩ := xRi h6 h5 rfl
  exact hQ z a' b' h1 h2 h3 h4 ⟨z1, z2⟩
abbrev xW223 : Nat := 819986576729362254779630081851819780133740775566368162973233509302435497818119767937271544968855843951464117475645018852372086172354123866931813073719927102887631132254974894760635576668436006426818651526363390797992463636935030243854275736772335457370127185991091910745574219031379949191378078920401513455397332850997670145448529205259750411574874580558333099146322453258965819880588941571730831883432380984718261006510454585694498377593342776168324635335855616744811334939808307882492828078319861760
theorem xe223 (hL : 0 ≤ L.1 ∧ L.1 ≤ 3072) (hc : bCok ro L kP bC223) (hT : kOk (xS a b)) (hP : kP (xS a b)) (hA : xAr a) (hd : 19 ≤ d) {x2 : Int} (g2 : xR (x2)) (g3 : 0 ≤ a 88 114 ∧ a 88 114 ≤ 60) (hQ : ∀ z a' b', kOk (xS a' b') → kP (xS a' b') → xAr a' → kSm xW223 (xS a' b') (xS a b) → (-1 ≤ z ∧ z ≤ 1) → (0 ≤ a' 88 114 ∧ a' 88 114 ≤ 60) → Q (some (xV z)) (xS a' b')) : pmCs ro d 223 [.ref 87, xV x2] (xS a b) Q := by
  refine xEng (ρ := xRo (0 :: L.1 :: [x2, a 88 114])) hc hd (xEl_ok (xEl.c ⟨Int.le_refl _, Int.le_refl _⟩ (xEl.c hL (xEl.f g2 (xEl.c g3 xEl.n)))) rfl) ⟨hT.1, bHok_c (kOk_hok hT) rfl (by decide) (by rw [xBZ hA (by decide +kernel)]; exact (Int.add_zero _).symm), fun q hq => absurd hq List.not_mem_nil, fun p k _ => ⟨rfl, rfl⟩, fun _ => hP⟩ (bSok.c (xVr (List.mem_singleton.mpr rfl)) (bSok.c (xVk g2 (by decide) rfl) bSok.n)) (by decide +kernel) (by decide +kernel) ?_
  intro v a' b' ρ' h1 h2 h3 h4 h5 h6 h7 h8
  obtain ⟨z, rfl, z1, z2, -⟩ := xRi h6 h5 rfl
  have e8 : bZ (xS a' b') 88 114 = ρ' 3 + 0 := (h8.2.1 88 114).2
  rw [xBZ h3 (by decide +kernel)] at e8
  have e9 := h5.2 3 _ rfl
  have e10 : (0 : Int) ≤ ρ' 3 ∧ ρ' 3 ≤ (60 : Int) := e9
  have e11 : a' 88 114 = ρ' 3 + 0 := e8
  exact hQ z a' b' h1 h2 h3 h4 ⟨z1, z2⟩ ⟨by omega, by omega⟩
abbrev xW230 : Nat := 819986576729362254779630081851819780133740775566368162973233509302435497818119767937271544968855843951464117475645018852372086172354123866931813073719927102887631132254974894760635576668436006426818651526363390797992463636935030243854275736772335457370127185991091910745574219031379949191378078920401513455397332850997670145448529205259750411574874580558333099146322453258965819880588941571730831883432380984718261006510454585694498377593342776168324635335855616744811334939808307882492828078319861760
theorem xe230 (hL : 0 ≤ L.1 ∧ L.1 ≤ 3072) (hc : bCok ro L kP bC230) (hT : kOk (xS a b)) (hP : kP (xS a b)) (hA : xAr a) (hd : 19 ≤ d) (g2 : 0 ≤ a 88 114 ∧ a 88 114 ≤ 60) (hQ : ∀ z a' b', kOk (xS a' b') → kP (xS a' b') → xAr a' → kSm xW230 (xS a' b') (xS a b) → (-1 ≤ z ∧ z ≤ 3) → (0 ≤ a' 88 114 ∧ a' 88 114 ≤ 60) → Q (some (xV z)) (xS a' b')) : pmCs ro d 230 [.ref 87] (xS a b) Q := by
  refine xEng (ρ := xRo (0 :: L.1 :: [a 88 114])) hc hd (xEl_ok (xEl.c ⟨Int.le_refl _, Int.le_refl _⟩ (xEl.c hL (xEl.c g2 xEl.n))) rfl) ⟨hT.1, bHok_c (kOk_hok hT) rfl (by decide) (by rw [xBZ hA (by decide +kernel)]; exact (Int.add_zero _).symm), fun q hq => absurd hq List.not_mem_nil, fun p k _ => ⟨rfl, rfl⟩, fun _ => hP⟩ (bSok.c (xVr (List.mem_singleton.mpr rfl)) bSok.n) (by decide +kernel) (by decide +kernel) ?_
  intro v a' b' ρ' h1 h2 h3 h4 h5 h6 h7 h8
  obtain ⟨z, rfl, z1, z2, -⟩ := xRi h6 h5 rfl
  have e8 : bZ (xS a' b') 88 114 = ρ' 2 + 0 := (h8.2.1 88 114).2
  rw [xBZ h3 (by decide +kernel)] at e8
  have e9 := h5.2 2 _ rfl
  have e10 : (0 : Int) ≤ ρ' 2 ∧ ρ' 2 ≤ (60 : Int) := e9
  have e11 : a' 88 114 = ρ' 2 + 0 := e8
  exact hQ z a' b' h1 h2 h3 h4 ⟨z1, z2⟩ ⟨by omega, by omega⟩
abbrev xW231 : Nat := 819986576729362254779630081851819780133740775566368162973233509302435497818119767937271544968855843951464117475645018852372086172354123866931813073719927102887631132254974894760635576668436006426818651526363390797992463636935030243854275736772335457370127185991091910745574219031379949191378078920401513455397332850997670145448529205259750411574874580558333099146322453258965819880588941571730831883432380984718261006510454585694498377593342776168324635335855616744811334939808307882492828078319861760
theorem xe231 (hL : 0 ≤ L.1 ∧ L.1 ≤ 3072) (hc : bCok ro L kP bC231) (hT : kOk (xS a b)) (hP : kP (xS a b)) (hA : xAr a) (hd : 18 ≤ d) {x2 : Int} {x3 : Int} (g2 : xR (x2)) (g3 : xR (x3)) (g4 : 0 ≤ a 88 114 ∧ a 88 114 ≤ 60) (hQ : ∀ z a' b', kOk (xS a' b') → kP (xS a' b') → xAr a' → kSm xW231 (xS a' b') (xS a b) → (-2147483648 ≤ z ∧ z ≤ 2147483647) → (0 ≤ a' 88 114 ∧ a' 88 114 ≤ 60) → Q (some (xV z)) (xS a' b')) : pmCs ro d 231 [.ref 87, xV x2, xV x3] (xS a b) Q := by
  refine xEng (ρ := xRo (0 :: L.1 :: [x2, x3, a 88 114])) hc hd (xEl_ok (xEl.c ⟨Int.le_refl _, Int.le_refl _⟩ (xEl.c hL (xEl.f g2 (xEl.f g3 (xEl.c g4 xEl.n))))) rfl) ⟨hT.1, bHok_c (kOk_hok hT) rfl (by decide) (by rw [xBZ hA (by decide +kernel)]; exact (Int.add_zero _).symm), fun q hq => absurd hq List.not_mem_nil, fun p k _ => ⟨rfl, rfl⟩, fun _ => hP⟩ (bSok.c (xVr (List.mem_singleton.mpr rfl)) (bSok.c (xVk g2 (by decide) rfl) (bSok.c (xVk g3 (by decide) rfl) bSok.n))) (by decide +kernel) (by decide +kernel) ?_
  intro v a' b' ρ' h1 h2 h3 h4 h5 h6 h7 h8
  obtain ⟨z, rfl, z1, z2, -⟩ := xRi h6 h5 rfl
  have e8 : bZ (xS a' b') 88 114 = ρ' 4 + 0 := (h8.2.1 88 114).2
  rw [xBZ h3 (by decide +kernel)] at e8
  have e9 := h5.2 4 _ rfl
  have e10 : (0 : Int) ≤ ρ' 4 ∧ ρ' 4 ≤ (60 : Int) := e9
  have e11 : a' 88 114 = ρ' 4 + 0 := e8
  exact hQ z a' b' h1 h2 h3 h4 ⟨z1, z2⟩ ⟨by omega, by omega⟩
abbrev xW232 : Nat := 819986576729362254779630081851819780133740775566368162973233509302435497818119767937271544968855843951464117475645018852372086172354123866931813073719927102887631132254974894760635576668435822343041641625214439317140926840802307763011632044579287464967021667731067077759326325550601803874492451923866907281569607729265569789249522763163131298593461601615200685699260645647158947810041210555730012192465132154021525062791470490728937763863171047298068057939455928897544362440316225059137612812763791360
theorem xe232 (hL : 0 ≤ L.1 ∧ L.1 ≤ 3072) (hc : bCok ro L kP bC232) (hT : kOk (xS a b)) (hP : kP (xS a b)) (hA : xAr a) (hd : 16 ≤ d) {x2 : Int} (g2 : xR (x2)) (g3 : 0 ≤ a 88 114 ∧ a 88 114 ≤ 60) (hQ : ∀ z a' b', kOk (xS a' b') → kP (xS a' b') → xAr a' → kSm xW232 (xS a' b') (xS a b) → (-2147483648 ≤ z ∧ z ≤ 2147483647) → (0 ≤ a' 88 114 ∧ a' 88 114 ≤ 60) → Q (some (xV z)) (xS a' b')) : pmCs ro d 232 [.ref 87, xV x2] (xS a b) Q := by
  refine xEng (ρ := xRo (0 :: L.1 :: [x2, a 88 114])) hc hd (xEl_ok (xEl.c ⟨Int.le_refl _, Int.le_refl _⟩ (xEl.c hL (xEl.f g2 (xEl.c g3 xEl.n)))) rfl) ⟨hT.1, bHok_c (kOk_hok hT) rfl (by decide) (by rw [xBZ hA (by decide +kernel)]; exact (Int.add_zero _).symm), fun q hq => absurd hq List.not_mem_nil, fun p k _ => ⟨rfl, rfl⟩, fun _ => hP⟩ (bSok.c (xVr (List.mem_singleton.mpr rfl)) (bSok.c (xVk g2 (by decide) rfl) bSok.n)) (by decide +kernel) (by decide +kernel) ?_
  intro v a' b' ρ' h1 h2 h3 h4 h5 h6 h7 h8
  obtain ⟨z, rfl, z1, z2, -⟩ := xRi h6 h5 rfl
  have e8 : bZ (xS a' b') 88 114 = ρ' 3 + 0 := (h8.2.1 88 114).2
  rw [xBZ h3 (by decide +kernel)] at e8
  have e9 := h5.2 3 _ rfl
  have e10 : (0 : Int) ≤ ρ' 3 ∧ ρ' 3 ≤ (60 : Int) := e9
  have e11 : a' 88 114 = ρ' 3 + 0 := e8
  exact hQ z a' b' h1 h2 h3 h4 ⟨z1, z2⟩ ⟨by omega, by omega⟩
abbrev xW236 : Nat := 819986576729362254779630081851819780133740775566368162973233509302435497818119767937271544968855843951464117475645018852372086172354123866931813073719927102887631132254974894760635576668435822343041641625214439317140926840802307763011632044579287464967021667731067077759326325550601803874492451923866907281569607729265569789249522763163131298593461601615200685699260645647158947810041210555730012192465132154021525062791470490728937763863171047298068057939455928897544362440316225059137612812763791360
theorem xe236 (hL : 0 ≤ L.1 ∧ L.1 ≤ 3072) (hc : bCok ro L kP bC236) (hT : kOk (xS a b)) (hP : kP (xS a b)) (hA : xAr a) (hd : 16 ≤ d) {x2 : Int} (g2 : xR (x2)) (g3 : 0 ≤ a 88 114 ∧ a 88 114 ≤ 60) (hQ : ∀ z a' b', kOk (xS a' b') → kP (xS a' b') → xAr a' → kSm xW236 (xS a' b') (xS a b) → (-1 ≤ z ∧ z ≤ 1) → (0 ≤ a' 88 114 ∧ a' 88 114 ≤ 60) → Q (some (xV z)) (xS a' b')) : pmCs ro d 236 [.ref 87, xV x2] (xS a b) Q := by
  refine xEng (ρ := xRo (0 :: L.1 :: [x2, a 88 114])) hc hd (xEl_ok (xEl.c ⟨Int.le_refl _, Int.le_refl _⟩ (xEl.c hL (xEl.f g2 (xEl.c g3 xEl.n)))) rfl) ⟨hT.1, bHok_c (kOk_hok hT) rfl (by decide) (by rw [xBZ hA (by decide +kernel)]; exact (Int.add_zero _).symm), fun q hq => absurd hq List.not_mem_nil, fun p k _ => ⟨rfl, rfl⟩, fun _ => hP⟩ (bSok.c (xVr (List.mem_singleton.mpr rfl)) (bSok.c (xVk g2 (by decide) rfl) bSok.n)) (by decide +kernel) (by decide +kernel) ?_
  intro v a' b' ρ' h1 h2 h3 h4 h5 h6 h7 h8
  obtain ⟨z, rfl, z1, z2, -⟩ := xRi h6 h5 rfl
  have e8 : bZ (xS a' b') 88 114 = ρ' 3 + 0 := (h8.2.1 88 114).2
  rw [xBZ h3 (by decide +kernel)] at e8
  have e9 := h5.2 3 _ rfl
  have e10 : (0 : Int) ≤ ρ' 3 ∧ ρ' 3 ≤ (60 : Int) := e9
  have e11 : a' 88 114 = ρ' 3 + 0 := e8
  exact hQ z a' b' h1 h2 h3 h4 ⟨z1, z2⟩ ⟨by omega, by omega⟩
abbrev xW237 : Nat := 819986576729362254779630081851819780133740775566368162973233509302435497818119767937271544968855843951464117475645018852372086172354123866931813073719927102887631132254974894760635576668435822343041641625214439317140926840802307763011632044579287464967021667731067077759326325550601803874492451923866907281569607729265569789249522763163131298593461601615200685699260645647158947810041210555730012192465132154021525062791470490728937763863171047298068057939455928897544362440316225059137612812763791360
theorem xe237 (hL : 0 ≤ L.1 ∧ L.1 ≤ 3072) (hc : bCok ro L kP bC237) (hT : kOk (xS a b)) (hP : kP (xS a b)) (hA : xAr a) (hd : 15 ≤ d) {x2 : Int} {x3 : Int} {x4 : Int} {x5 : Int} (g2 : xR (x2)) (g3 : xR (x3)) (g4 : xR (x4)) (g5 : xR (x5)) (g6 : 0 ≤ a 88 114 ∧ a 88 114 ≤ 60) (hQ : ∀ z a' b', kOk (xS a' b') → kP (xS a' b') → xAr a' → kSm xW237 (xS a' b') (xS a b) → (-2147483648 ≤ z ∧ z ≤ 2147483647) → (0 ≤ a' 88 114 ∧ a' 88 114 ≤ 60) → Q (some (xV z)) (xS a' b')) : pmCs ro d 237 [.ref 87, xV x2, xV x3, xV x4, xV x5] (xS a b) Q := by
  refine xEng (ρ := xRo (0 :: L.1 :: [x2, x3, x4, x5, a 88 114])) hc hd (xEl_ok (xEl.c ⟨Int.le_refl _, Int.le_refl _⟩ (xEl.c hL (xEl.f g2 (xEl.f g3 (xEl.f g4 (xEl.f g5 (xEl.c g6 xEl.n))))))) rfl) ⟨hT.1, bHok_c (kOk_hok hT) rfl (by decide) (by rw [xBZ hA (by decide +kernel)]; exact (Int.add_zero _).symm), fun q hq => absurd hq List.not_mem_nil, fun p k _ => ⟨rfl, rfl⟩, fun _ => hP⟩ (bSok.c (xVr (List.mem_singleton.mpr rfl)) (bSok.c (xVk g2 (by decide) rfl) (bSok.c (xVk g3 (by decide) rfl) (bSok.c (xVk g4 (by decide) rfl) (bSok.c (xVk g5 (by decide) rfl) bSok.n))))) (by decide +kernel) (by decide +kernel) ?_
  intro v a' b' ρ' h1 h2 h3 h4 h5 h6 h7 h8
  obtain ⟨z, rfl, z1, z2, -⟩ := xRi h6 h5 rfl
  have e8 : bZ (xS a' b') 88 114 = ρ' 6 + 0 := (h8.2.1 88 114).2
  rw [xBZ h3 (by decide +kernel)] at e8
  have e9 := h5.2 6 _ rfl
  have e10 : (0 : Int) ≤ ρ' 6 ∧ ρ' 6 ≤ (60 : Int) := e9
  have e11 : a' 88 114 = ρ' 6 + 0 := e8
  exact hQ z a' b' h1 h2 h3 h4 ⟨z1, z2⟩ ⟨by omega, by omega⟩
abbrev xW239 : Nat := 26245978164852495594255353867761104327640945283280832199567194757335488539686591995866680327755280385447205080773563836634460092498852191327591356092458677711767420700103557852519176142877953627874762894041540168541219917674637382933690020841781774507486560203381300126024522623337846065308296619915704412277699623268367937741517264058887426907909085297183323118200573514086953966230764705546607876455944006047724891236129071799429255367278678959564656461970381352804780934328785516464238808953847283712
theorem xe239 (hL : 0 ≤ L.1 ∧ L.1 ≤ 3072) (hc : bCok ro L kP bC239) (hT : kOk (xS a b)) (hP : kP (xS a b)) (hA : xAr a) (hd : 2 ≤ d) {x2 : Int} (g2 : xR (x2)) (g3 : 0 ≤ a 88 114 ∧ a 88 114 ≤ 60) (hQ : ∀ z a' b', kOk (xS a' b') → kP (xS a' b') → xAr a' → kSm xW239 (xS a' b') (xS a b) → (-2147483648 ≤ z ∧ z ≤ 2147483647) → Q (some (xV z)) (xS a' b')) : pmCs ro d 239 [.ref 87, xV x2] (xS a b) Q := by
  refine xEng (ρ := xRo (0 :: L.1 :: [x2, a 88 114])) hc hd (xEl_ok (xEl.c ⟨Int.le_refl _, Int.le_refl _⟩ (xEl.c hL (xEl.f g2 (xEl.c g3 xEl.n)))) rfl) ⟨hT.1, bHok_c (kOk_hok hT) rfl (by decide) (by rw [xBZ hA (by decide +kernel)]; exact (Int.add_zero _).symm), fun q hq => absurd hq List.not_mem_nil, fun p k _ => ⟨rfl, rfl⟩, fun _ => hP⟩ (bSok.c (xVr (List.mem_singleton.mpr rfl)) (bSok.c (xVk g2 (by decide) rfl) bSok.n)) (by decide +kernel) (by decide +kernel) ?_
  intro v a' b' ρ' h1 h2 h3 h4 h5 h6 h7 h8
  obtain ⟨z, rfl, z1, z2, -⟩ := xRi h6 h5 rfl
  exact hQ z a' b' h1 h2 h3 h4 ⟨z1, z2⟩
abbrev xW240 : Nat := 0
theorem xe240 (hL : 0 ≤ L.1 ∧ L.1 ≤ 3072) (hc : bCok ro L kP bC240) (hT : kOk (xS a b)) (hP : kP (xS a b)) (hA : xAr a) (hd : 2 ≤ d) {x2 : Int} {x3 : Int} {x4 : Int} (g2 : xR (x2)) (g3 : xR (x3)) (g4 : xR (x4)) (g5 : 0 ≤ a 88 114 ∧ a 88 114 ≤ 60) (hQ : ∀ z a' b', kOk (xS a' b') → kP (xS a' b') → xAr a' → kSm xW240 (xS a' b') (xS a b) → (-2147483648 ≤ z ∧ z ≤ 2147483647) → Q (some (xV z)) (xS a' b')) : pmCs ro d 240 [.ref 87, xV x2, xV x3, xV x4] (xS a b) Q := by
  refine xEng (ρ := xRo (0 :: L.1 :: [x2, x3, x4, a 88 114])) hc hd (xEl_ok (xEl.c ⟨Int.le_refl _, Int.le_refl _⟩ (xEl.c hL (xEl.f g2 (xEl.f g3 (xEl.f g4 (xEl.c g5 xEl.n)))))) rfl) ⟨hT.1, bHok_c (kOk_hok hT) rfl (by decide) (by rw [xBZ hA (by decide +kernel)]; exact (Int.add_zero _).symm), fun q hq => absurd hq List.not_mem_nil, fun p k _ => ⟨rfl, rfl⟩, fun _ => hP⟩ (bSok.c (xVr (List.mem_singleton.mpr rfl)) (bSok.c (xVk g2 (by decide) rfl) (bSok.c (xVk g3 (by decide) rfl) (bSok.c (xVk g4 (by decide) rfl) bSok.n)))) (by decide +kernel) (by decide +kernel) ?_
  intro v a' b' ρ' h1 h2 h3 h4 h5 h6 h7 h8
  obtain ⟨z, rfl, z1, z2, -⟩ := xRi h6 h5 rfl
  exact hQ z a' b' h1 h2 h3 h4 ⟨z1, z2⟩
abbrev xW241 : Nat := 948568795032094272909893509191171341133987714380927500611236528192824358010355712
theorem xe241 (hL : 0 ≤ L.1 ∧ L.1 ≤ 3072) (hc : bCok ro L kP bC241) (hT : kOk (xS a b)) (hP : kP (xS a b)) (hA : xAr a) (hd : 2 ≤ d) {x2 : Int} {x3 : Int} (g2 : xR (x2)) (g3 : xR (x3)) (g4 : 0 ≤ a 88 114 ∧ a 88 114 ≤ 60) (hQ : ∀ z a' b', kOk (xS a' b') → kP (xS a' b') → xAr a' → kSm xW241 (xS a' b') (xS a b) → (-2 ≤ z ∧ z ≤ 16) → Q (some (xV z)) (xS a' b')) : pmCs ro d 241 [.ref 87, xV x2, xV x3] (xS a b) Q := by
  refine xEng (ρ := xRo (0 :: L.1 :: [x2, x3, a 88 114])) hc hd (xEl_ok (xEl.c ⟨Int.le_refl _, Int.le_refl _⟩ (xEl.c hL (xEl.f g2 (xEl.f g3 (xEl.c g4 xEl.n))))) rfl) ⟨hT.1, bHok_c (kOk_hok hT) rfl (by decide) (by rw [xBZ hA (by decide +kernel)]; exact (Int.add_zero _).symm), fun q hq => absurd hq List.not_mem_nil, fun p k _ => ⟨rfl, rfl⟩, fun _ => hP⟩ (bSok.c (xVr (List.mem_singleton.mpr rfl)) (bSok.c (xVk g2 (by decide) rfl) (bSok.c (xVk g3 (by decide) rfl) bSok.n))) (by decide +kernel) (by decide +kernel) ?_
  intro v a' b' ρ' h1 h2 h3 h4 h5 h6 h7 h8
  obtain ⟨z, rfl, z1, z2, -⟩ := xRi h6 h5 rfl
  exact hQ z a' b' h1 h2 h3 h4 ⟨z1, z2⟩
abbrev xW243 : Nat := 0
theorem xe243 (hL : 0 ≤ L.1 ∧ L.1 ≤ 3072) (hc : bCok ro L kP bC243) (hT : kOk (xS a b)) (hP : kP (xS a b)) (hA : xAr a) (hd : 2 ≤ d) {x2 : Int} (g2 : xR (x2)) (hQ : ∀ z a' b', kOk (xS a' b') → kP (xS a' b') → xAr a' → kSm xW243 (xS a' b') (xS a b) → (-1 ≤ z ∧ z ≤ 7) → Q (some (xV z)) (xS a' b')) : pmCs ro d 243 [.ref 87, xV x2] (xS a b) Q := by
  refine xEng (ρ := xRo (0 :: L.1 :: [x2])) hc hd (xEl_ok (xEl.c ⟨Int.le_refl _, Int.le_refl _⟩ (xEl.c hL (xEl.f g2 xEl.n))) rfl) (kOk_mok hT hP) (bSok.c (xVr (List.mem_singleton.mpr rfl)) (bSok.c (xVk g2 (by decide) rfl) bSok.n)) (by decide +kernel) (by decide +kernel) ?_
  intro v a' b' ρ' h1 h2 h3 h4 h5 h6 h7 h8
  obtain ⟨z, rfl, z1, z2, -⟩ := xRi h6 h5 rfl
  exact hQ z a' b' h1 h2 h3 h4 ⟨z1, z2⟩
abbrev xW244 : Nat := 0
theorem xe244 (hL : 0 ≤ L.1 ∧ L.1 ≤ 3072) (hc : bCok ro L kP bC244) (hT : kOk (xS a b)) (hP : kP (xS a b)) (hA : xAr a) (hd : 2 ≤ d) {x2 : Int} (g2 : xR (x2)) (hQ : ∀ z a' b', kOk (xS a' b') → kP (xS a' b') → xAr a' → kSm xW244 (xS a' b') (xS a b) → (-1 ≤ z ∧ z ≤ 20) → Q (some (xV z)) (xS a' b')) : pmCs ro d 244 [.ref 87, xV x2] (xS a b) Q := by
  refine xEng (ρ := xRo (0 :: L.1 :: [x2])) hc hd (xEl_ok (xEl.c ⟨Int.le_refl _, Int.le_refl _⟩ (xEl.c hL (xEl.f g2 xEl.n))) rfl) (kOk_mok hT hP) (bSok.c (xVr (List.mem_singleton.mpr rfl)) (bSok.c (xVk g2 (by decide) rfl) bSok.n)) (by decide +kernel) (by decide +kernel) ?_
  intro v a' b' ρ' h1 h2 h3 h4 h5 h6 h7 h8
  obtain ⟨z, rfl, z1, z2, -⟩ := xRi h6 h5 rfl
  exact hQ z a' b' h1 h2 h3 h4 ⟨z1, z2⟩
abbrev xW245 : Nat := 0
theorem xe245 (hL : 0 ≤ L.1 ∧ L.1 ≤ 3072) (hc : bCok ro L kP bC245) (hT : kOk (xS a b)) (hP : kP (xS a b)) (hA : xAr a) (hd : 2 ≤ d) {x2 : Int} (g2 : xR (x2)) (hQ : ∀ z a' b', kOk (xS a' b') → kP (xS a' b') → xAr a' → kSm xW245 (xS a' b') (xS a b) → (-2147483648 ≤ z ∧ z ≤ 2147483647) → Q (some (xV z)) (xS a' b')) : pmCs ro d 245 [.ref 87, xV x2] (xS a b) Q := by
  refine xEng (ρ := xRo (0 :: L.1 :: [x2])) hc hd (xEl_ok (xEl.c ⟨Int.le_refl _, Int.le_refl _⟩ (xEl.c hL (xEl.f g2 xEl.n))) rfl) (kOk_mok hT hP) (bSok.c (xVr (List.mem_singleton.mpr rfl)) (bSok.c (xVk g2 (by decide) rfl) bSok.n)) (by decide +kernel) (by decide +kernel) ?_
  intro v a' b' ρ' h1 h2 h3 h4 h5 h6 h7 h8
  obtain ⟨z, rfl, z1, z2, -⟩ := xRi h6 h5 rfl
  exact hQ z a' b' h1 h2 h3 h4 ⟨z1, z2⟩
end
