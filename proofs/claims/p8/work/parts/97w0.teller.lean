/-! the teller, as frames -/
section
set_option maxRecDepth 100000


section
variable {Ln : Nat} {xs : Nat → Int32} {ro : Nat → Nat × (Nat → Int32)} {d w : Nat} {Q : Option Value → pmS → Prop} {dr wp co pr cnt W : Int → Int} {T : Int → List Int} {n f k p x c s m i t wh bg v : Int} {r r' R : Int → Int} {a a' a'' a0 : xA} {b b' b'' : xB} {P P' : Nat → Prop}
theorem uWo52 : uWo 52 := ⟨⟨xz52, xz53, xz54, xz55, xz56⟩, by decide, by decide⟩
theorem uWo57 : uWo 57 := ⟨⟨xz57, xz58, xz59, xz60, xz61⟩, by decide, by decide⟩
theorem uWo68 : uWo 68 := ⟨⟨xz68, xz69, xz70, xz71, xz72⟩, by decide, by decide⟩
theorem uWo73 : uWo 73 := ⟨⟨xz73, xz74, xz75, xz76, xz77⟩, by decide, by decide⟩
/-- the deeds that the teller remembers -/
def uHm (a : xA) : Prop := ∀ t, 1 ≤ t → t ≤ 2 → ∃ k, (-1 ≤ k ∧ k < 61) ∧ a 78 t = uD k
theorem uHm_o (h : uHm a) (e : ∀ j, a' 78 j = a 78 j) : uHm a' := fun t t1 t2 => by
  obtain ⟨k, hk, g⟩ := h t t1 t2
  exact ⟨k, hk, (e t).trans g⟩
def uFo3 (w : Nat) (a : xA) : Prop := ∀ j, 0 ≤ j → j < 3 → 0 ≤ a (w + 4) j ∧ a (w + 4) j ≤ 300
/-- what the teller leaves alone: all but the worlds told -/
def uTe (P : Nat → Prop) (a a' : xA) (b b' : xB) : Prop := (∀ q j, ¬ P q → ¬ (34 ≤ q ∧ q ≤ 42) → ¬ q = 44 → ¬ q = 78 → a' q j = a q j) ∧ ∀ q j, ¬ P q → ¬ (34 ≤ q ∧ q ≤ 36) → b' q j = b q j
theorem uTe_r : uTe P a a b b := ⟨fun _ _ _ _ _ _ => rfl, fun _ _ _ _ => rfl⟩
theorem uTe_t (h : uTe P a a' b b') (h' : uTe P a' a'' b' b'') : uTe P a a'' b b'' := ⟨fun q j e1 e2 e3 e4 => (h'.1 q j e1 e2 e3 e4).trans (h.1 q j e1 e2 e3 e4), fun q j e1 e2 => (h'.2 q j e1 e2).trans (h.2 q j e1 e2)⟩
theorem uTe_m (h : uTe P a a' b b') (e : ∀ q, P q → P' q) : uTe P' a a' b b' := ⟨fun q j e1 e2 e3 e4 => h.1 q j (fun g => e1 (e q g)) e2 e3 e4, fun q j e1 e2 => h.2 q j (fun g => e1 (e q g)) e2⟩
theorem uTe_f (h : uTf w a a' b b') (e : ∀ q, w ≤ q → q ≤ w + 4 → P q) : uTe P a a' b b' := ⟨fun q j e1 e2 e3 e4 => h.1 q j (fun g => e1 (e q (by omega) (by omega))) (fun g => e1 (e q (by omega) (by omega))) (fun g => e1 (e q (by omega) (by omega))) (fun g => e1 (e q (by omega) (by omega))) e3 e2, fun q j e1 e2 => h.2 q j (fun g => e1 (e q (by omega) (by omega))) (fun g => e1 (e q (by omega) (by omega))) e2⟩
theorem uTe_c {v : Nat} (h : uCopd w v a a' b b') (e : ∀ q, w ≤ q → q ≤ w + 4 → P q) : uTe P a a' b b' := ⟨fun q j e1 _ _ _ => h.2.2.2.2.2.1 q j (fun g => e1 (e q g.1 g.2)), fun q j e1 _ => h.2.2.2.2.2.2 q j (fun g => e1 (e q g.1 g.2))⟩
theorem uTe_x (h : uXf w a a' b b') (e : ∀ q, w ≤ q → q ≤ w + 4 → P q) : uTe P a a' b b' := ⟨fun q j e1 _ _ _ => h.1 q j (fun g => e1 (e q (by omega) (by omega))) (fun g => e1 (e q (by omega) (by omega))), fun q j e1 _ => h.2 q j (fun g => e1 (e q (by omega) (by omega))) (fun g => e1 (e q (by omega) (by omega)))⟩
theorem uCx_o (hw : uWo w) (h : uCx n w r a b) (ea : ∀ q j, w ≤ q → q ≤ w + 3 → a' q j = a q j) (eb : ∀ q j, w ≤ q → q ≤ w + 1 → b' q j = b q j) : uCx n w r a' b' := by
  obtain ⟨k1, k2, k3, k4, k5, k6⟩ := h
  exact ⟨uCw_o k1 (fun j => ea _ j (by omega) (by omega)) (ea w 11 (by omega) (by omega)) (eb w 4 (by omega) (by omega)) (eb w 5 (by omega) (by omega)) (fun g _ _ => eb (w + 1) g (by omega) (by omega)), (ea w 6 (by omega) (by omega)).trans k2, (ea w 12 (by omega) (by omega)).trans k3, (ea w 8 (by omega) (by omega)).trans k4, (ea w 9 (by omega) (by omega)).trans k5, (ea w 10 (by omega) (by omega)).trans k6⟩
theorem uCx_e (hw : uWo w) (h78 : w + 4 < 78 ∨ 78 < w) (h : uCx n w r a b) (e : uTe P a a' b b') (hP : ∀ q, w ≤ q → q ≤ w + 3 → ¬ P q) : uCx n w r a' b' := by
  have h2 := hw.2
  exact uCx_o hw h (fun q j h1 h3 => e.1 q j (hP q h1 h3) (by omega) (by omega) (by omega)) (fun q j h1 h3 => e.2 q j (hP q h1 (by omega)) (by omega))
theorem uCb_e (h : uCb dr wp co pr cnt W T n a0 a b) (ea : ∀ q j, 3 ≤ q → q ≤ 20 → a' q j = a q j) (eb : ∀ q j, q = 3 ∨ q = 35 ∨ q = 36 → b' q j = b q j) (hA : xAr a') : uCb dr wp co pr cnt W T n a0 a' b' := uCb_o h ea eb hA
/-- any number of an act -/
theorem u102v (hz : uWz w) (hA : xAr a) (hKs : uKs dr wp n a b) (hX : uCx n w r a b) (hB : uBd r) (hv : 64 ≤ v ∧ v ≤ 191) (hd : 3 ≤ d) (hT : ∀ c, 1 ≤ c ∧ c ≤ 56 → v = uAn c → uAc dr n c r → Q (some (xV 1)) (xS a b)) (hF : Q (some (xV 0)) (xS a b)) : pmCs ro d 102 [.ref 45, .ref w, xV v] (xS a b) Q := by
  have hB0 := hB
  have hX0 := hX
  obtain ⟨hW, e6, e12, e8, e9, e10⟩ := hX
  obtain ⟨b1, b2, b3, b4, b5, b6⟩ := hB
  by_cases h1 : v < 128 ∧ v / 8 % 8 < 5 ∧ v % 8 < 7
  · have e : v = uAn (1 + 7 * (v / 8 % 8) + v % 8) := by
      unfold uAn
      rw [if_neg (by omega), if_pos (by omega)]
      omega
    have hT' := hT (1 + 7 * (v / 8 % 8) + v % 8) (by omega) e
    rw [e]
    exact u102 hz hA hKs hX0 hB0 (by omega) hd hT' (fun _ => hF)
  by_cases h2 : 128 ≤ v ∧ (1 ≤ v / 8 % 8 ∧ v / 8 % 8 < 4) ∧ v % 8 < 7
  · have e : v = uAn (36 + 7 * (v / 8 % 8 - 1) + v % 8) := by
      unfold uAn
      rw [if_neg (by omega), if_neg (by omega)]
      omega
    have hT' := hT (36 + 7 * (v / 8 % 8 - 1) + v % 8) (by omega) e
    rw [e]
    exact u102 hz hA hKs hX0 hB0 (by omega) hd hT' (fun _ => hF)
  refine pmCs_deep (d := 3) (xg102 (w102 hz ⟨by omega, by omega⟩ hA (by omega) (by omega) (by omega) (by omega) (by omega) (by decide) (fun _ => hF) (fun _ _ => hF) (fun _ _ h7 => ?_) (fun _ _ _ => hF))) hd
  have loop : ∀ (m : Nat) (q : Int), q + (m : Int) = 4 → 0 ≤ q → pmWp ro 2 7 102 2 87 [some (.ref 45), some (.ref w), some (xV v), some (xV (v / 8 % 8)), some (xV (v % 8)), some (xV 0), some (xV q)] [] (xS a b) Q := by
    intro m
    induction m with
    | zero =>
      intro q hq q0
      exact w102q hz (by omega) (by decide) ⟨q0, by omega⟩ (by decide) (fun _ => hF) (fun e => absurd (by omega) e) (fun e => absurd (by omega) e)
    | succ m ih =>
      intro q hq q0
      have e0 : xAnd 0 0 = 0 := by decide
      refine w102q hz (by omega) (by decide) ⟨q0, by omega⟩ (by decide) (fun e => absurd e (by omega)) (fun _ _ => ?_) (fun _ _ => ?_)
      · rw [e0]
        exact ih (q + 1) (by omega) (by omega)
      · exact ih (q + 1) (by omega) (by omega)
  refine w102s hz ⟨by omega, by omega⟩ (by omega) (by omega) (by decide) (fun _ _ _ => hF) (fun _ _ _ _ => hF) (fun _ _ _ _ _ _ => hF) (fun _ _ _ _ _ _ _ => hF) (fun e1 e2 _ _ _ _ _ => ?_) (fun _ _ _ _ _ => hF) (fun _ _ => hF) (fun _ _ => loop 4 0 (by decide) (by decide)) (fun _ _ _ => loop 4 0 (by decide) (by decide)) (fun _ _ _ _ => loop 4 0 (by decide) (by decide)) (fun e1 e2 _ _ => ?_)
  · omega
  · omega
theorem u111_0 (hw : uWo w) (hA : xAr a) (hd : 1 ≤ d) (hQ : ∀ z, (z = 0 ∨ z = -1) → Q (some (xV z)) (xS a b)) : pmCs ro d 111 [.ref 45, .ref w, xV 0] (xS a b) Q :=
  pmCs_deep (d := 1) (xg111 (w111_0 hw.1 hw.2.1.2 hA (fun _ => hQ (-1) (by decide)) (fun _ => hQ 0 (by decide)))) hd
/-- numbers of a row behind a turn -/
theorem uBqm_t (hn0 : 0 ≤ n ∧ n ≤ 5) (hr : uRv n r) (h : uBqm m r) (hc : k = -1 ∨ ((0 ≤ k ∧ k < 61) ∧ (¬ r 0 = 7 → uCp n 0 k r))) (h9 : 0 ≤ uTr dr wp pr cnt W T n k (-1) r 4 119 ∧ uTr dr wp pr cnt W T n k (-1) r 4 119 ≤ r 119 + 5) : uBqm (m + 1) (uTu dr wp pr cnt W T n k (-1) r) := by
  obtain ⟨h1, h2, h3, h4, h5, h6⟩ := h
  have v := (uTr_v (dr := dr) (wp := wp) (pr := pr) (cnt := cnt) (W := W) (T := T) (wt := -1) hn0 hr hc 4 (by decide)).2
  have e : ∀ j, ¬ j = 114 → ¬ j = 115 → uTu dr wp pr cnt W T n k (-1) r j = uTr dr wp pr cnt W T n k (-1) r 4 j := fun j g1 g2 => by
    unfold uTu
    rw [if_neg g1, if_neg g2]
  refine ⟨?_, ?_, ?_, ?_, ?_, ?_⟩
  · show 0 ≤ r 114 + 1 ∧ r 114 + 1 ≤ _
    omega
  · show (0 : Int) ≤ 0 ∧ (0 : Int) ≤ 1
    decide
  · rw [e 116 (by decide) (by decide), v 116 (by decide) (by decide)]
    omega
  · rw [e 117 (by decide) (by decide), v 117 (by decide) (by decide)]
    omega
  · rw [e 118 (by decide) (by decide), v 118 (by decide) (by decide)]
    omega
  · rw [e 119 (by decide) (by decide)]
    omega

/-- withstands 1 -/
theorem u112_1 (hK : uRk pr cnt W T) (hn0 : 0 ≤ n ∧ n ≤ 5) (hwo : uWo w) (hwc : (w + 4 < 68 ∨ 72 < w) ∧ (w + 4 < 78 ∨ 78 < w)) (hC : uCb dr wp co pr cnt W T n a0 a b) (hH : uHm a) (hX : uCx n w r a b) (hB : uBqm m r) (hm : 0 ≤ m ∧ m ≤ 30) (hd : 11 ≤ d) (hQ : ∀ a' b' z, uTe (fun q => (68 ≤ q ∧ q ≤ 72)) a a' b b' → uCb dr wp co pr cnt W T n a0 a' b' → uHm a' → (z = 0 ∨ z = 1) → Q (some (xV z)) (xS a' b')) : pmCs (pmRo Ln xs) d 112 [.ref 45, .ref w, xV 1] (xS a b) Q := by
  have hz := hwo.1
  have hw := hwo.2
  have hw9 := hwo.2.1.2
  obtain ⟨k0, hk0, ek0⟩ := hH 1 (by decide) (by decide)
  have hfs := uD_p hk0
  have hfs : 0 ≤ uD k0 ∧ uD k0 ≤ 447 := ⟨hfs.1, hfs.2.1⟩
  obtain ⟨y1, y2, y3, y4, y5, y6⟩ := hB
  refine pmCs_deep (d := 11) (xg112 (w112_1 hz hw9 hC.1.1 ?_)) hd
  rw [ek0]
  have loop : ∀ (u : Nat) (i : Int) (a2 : xA) (b2 : xB) (v6 : Option Value), i + (u : Int) = 62 → -1 ≤ i → uTe (fun q => (68 ≤ q ∧ q ≤ 72)) a a2 b b2 → uCb dr wp co pr cnt W T n a0 a2 b2 → uHm a2 → pmWp (pmRo Ln xs) 10 7 112 2 30 [some (.ref 45), some (.ref w), some (xV 1), some (.ref 68), some (xV (uD k0)), some (xV i), v6] [] (xS a2 b2) Q := by
    intro u
    induction u with
    | zero =>
      intro i a2 b2 v6 hi i0 f2 C2 H2
      exact w112i_1 hz hw9 C2.1.1 hfs ⟨i0, by omega⟩ (fun _ => hQ a2 b2 1 f2 C2 H2 (by decide)) (fun e => absurd (by omega) e) (fun e => absurd (by omega) e)
    | succ u ih =>
      intro i a2 b2 v6 hi i0 f2 C2 H2
      have hi2 : -1 ≤ i ∧ i ≤ 62 := ⟨i0, by omega⟩
      have X2 : uCx n w r a2 b2 := uCx_e hwo (by omega) hX f2 (fun q h1 h2 => by omega)
      have body : ∀ k, (-1 ≤ k ∧ k < 61) → pmWp (pmRo Ln xs) 10 7 112 2 59 [some (.ref 45), some (.ref w), some (xV 1), some (.ref 68), some (xV (uD k0)), some (xV i), some (xV (uD k))] [] (xS a2 b2) Q := by
        intro k hk
        have hDp := uD_p hk
        have hdd : 0 ≤ uD k ∧ uD k ≤ 447 := ⟨hDp.1, hDp.2.1⟩
        have nxt : ∀ (a3 : xA) (b3 : xB), uTe (fun q => (68 ≤ q ∧ q ≤ 72)) a a3 b b3 → uCb dr wp co pr cnt W T n a0 a3 b3 → uHm a3 → pmWp (pmRo Ln xs) 10 7 112 2 152 [some (.ref 45), some (.ref w), some (xV 1), some (.ref 68), some (xV (uD k0)), some (xV i), some (xV (uD k))] [] (xS a3 b3) Q := fun a3 b3 g1 g2 g3 => w112n_1 hz hw9 g2.1.1 hfs hi2 hdd (ih (i + 1) a3 b3 _ (by omega) (by omega) g1 g2 g3)
        have tries : pmCs (pmRo Ln xs) 10 80 [.ref 3, .long (b2 w 4), xV 0, xV (uD k)] (xS a2 b2) (fun r' s' => pmWp (pmRo Ln xs) 10 7 112 2 85 [some (.ref 45), some (.ref w), some (xV 1), some (.ref 68), some (xV (uD k0)), some (xV i), some (xV (uD k))] (r'.toList ++ []) s' Q) := by
          refine u80 C2.1.1 C2.1.2.1 (by decide) hk (by decide) (fun hc => w112c_1 hz hw9 C2.1.1 hfs hi2 hdd (by decide) (fun _ => ?_) (fun e => absurd e (by decide))) (fun hc => w112c_1 hz hw9 C2.1.1 hfs hi2 hdd (by decide) (fun e => absurd rfl e) (fun _ => nxt a2 b2 f2 C2 H2))
          have hcp : k = -1 ∨ ((0 ≤ k ∧ k < 61) ∧ (¬ r 0 = 7 → uCp n 0 k r)) := by
            by_cases c : k = -1
            · exact Or.inl c
            · exact Or.inr ⟨⟨by omega, hk.2⟩, fun _ => uCa_p X2.1.1 ⟨by omega, hk.2⟩ ((uCa_q X2.1.2.1.1 (by decide) hk).mp hc)⟩
          refine u66 uWo68 hwo (by omega) C2.1.1 (by rw [X2.2.2.1]; exact y2) (by decide) (fun a3 b3 c3 A3 => w112s_1 hz hw9 A3 hfs hi2 hdd ?_)
          have g3 : uTe (fun q => (68 ≤ q ∧ q ≤ 72)) a2 a3 b2 b3 := uTe_c c3 (fun q h1 h2 => by omega)
          have C3 : uCb dr wp co pr cnt W T n a0 a3 b3 := uCb_e C2 (fun q j h1 h2 => g3.1 q j (by omega) (by omega) (by omega) (by omega)) (fun q j e => c3.2.2.2.2.2.2 q j (by omega)) A3
          have X3 := uCx_cp (w := 68) X2 c3
          have H3 : uHm a3 := uHm_o H2 (fun j => c3.2.2.2.2.2.1 78 j (by omega))
          refine u90 (cd := k) (wt := -1) uWo68 hn0 C3 X3.1 (by rw [X3.2.1]; omega) (by omega) hcp (by decide) (fun a4 b4 f4 C4 W4 e6 e12 ef e0 ep e119 e119b => w112g_1 hz hw9 C4.1.1 hfs hi2 hdd (fun _ => ?_) (fun _ => ?_))
          all_goals
            have g4 : uTe (fun q => (68 ≤ q ∧ q ≤ 72)) a2 a4 b2 b4 := uTe_t g3 (uTe_f f4 (fun q h1 h2 => by omega))
            have H4 : uHm a4 := uHm_o H3 (fun j => f4.1 78 j (by omega) (by omega) (by omega) (by omega) (by omega) (by omega))
          have fin : pmWp (pmRo Ln xs) 10 7 112 2 122 [some (.ref 45), some (.ref w), some (xV 1), some (.ref 68), some (xV (uD k0)), some (xV i), some (xV (uD k))] [] (xS a4 b4) Q := by
            refine w112f_1 hz hw9 C4.1.1 hfs hi2 hdd (u97 (cd := k) (wt := -1) uWo68 hK hn0 C4 W4 (by rw [e6, X3.2.1]; omega) (by omega) (by decide) (fun p p1 p3 => ⟨fun h => by omega, fun h => by omega⟩) (by decide) (fun a5 b5 f5 C5 W5 i6 i12 i4 i119 i0' ip => w112t_1 hz hw9 C5.1.1 hfs hi2 hdd ?_))
            have g5 : uTe (fun q => (68 ≤ q ∧ q ≤ 72)) a2 a5 b2 b5 := uTe_t g4 (uTe_f f5 (fun q h1 h2 => by omega))
            have H5 : uHm a5 := uHm_o H4 (fun j => f5.1 78 j (by omega) (by omega) (by omega) (by omega) (by omega) (by omega))
            refine u111_0 uWo68 C5.1.1 (by decide) (fun z hzz => w112e_1 hz hw9 C5.1.1 hfs hi2 hdd ⟨by omega, by omega⟩ (fun _ => nxt a5 b5 (uTe_t f2 g5) C5 H5) (fun _ => ?_))
            refine hQ _ b5 0 (uTe_t (uTe_t f2 g5) ⟨fun q j _ _ _ e => xUn e, fun _ _ _ _ => rfl⟩) (uCb_e C5 (fun q j h1 h2 => xUn (by omega)) (fun _ _ _ => rfl) (xAr_u C5.1.1 ⟨by omega, by omega⟩)) (fun t t1 t2 => ?_) (by decide)
            by_cases ct : t = 1
            · exact ⟨k, hk, by rw [ct, xUa]⟩
            · obtain ⟨k', hk', ek'⟩ := H5 t t1 t2
              exact ⟨k', hk', by rw [xUk ct]; exact ek'⟩
          · exact fin
          · have fin : pmWp (pmRo Ln xs) 10 7 112 2 122 [some (.ref 45), some (.ref w), some (xV 1), some (.ref 68), some (xV (uD k0)), some (xV i), some (xV (uD k))] [] (xS a4 b4) Q := by
              refine w112f_1 hz hw9 C4.1.1 hfs hi2 hdd (u97 (cd := k) (wt := -1) uWo68 hK hn0 C4 W4 (by rw [e6, X3.2.1]; omega) (by omega) (by decide) (fun p p1 p3 => ⟨fun h => by omega, fun h => by omega⟩) (by decide) (fun a5 b5 f5 C5 W5 i6 i12 i4 i119 i0' ip => w112t_1 hz hw9 C5.1.1 hfs hi2 hdd ?_))
              have g5 : uTe (fun q => (68 ≤ q ∧ q ≤ 72)) a2 a5 b2 b5 := uTe_t g4 (uTe_f f5 (fun q h1 h2 => by omega))
              have H5 : uHm a5 := uHm_o H4 (fun j => f5.1 78 j (by omega) (by omega) (by omega) (by omega) (by omega) (by omega))
              refine u111_0 uWo68 C5.1.1 (by decide) (fun z hzz => w112e_1 hz hw9 C5.1.1 hfs hi2 hdd ⟨by omega, by omega⟩ (fun _ => nxt a5 b5 (uTe_t f2 g5) C5 H5) (fun _ => ?_))
              refine hQ _ b5 0 (uTe_t (uTe_t f2 g5) ⟨fun q j _ _ _ e => xUn e, fun _ _ _ _ => rfl⟩) (uCb_e C5 (fun q j h1 h2 => xUn (by omega)) (fun _ _ _ => rfl) (xAr_u C5.1.1 ⟨by omega, by omega⟩)) (fun t t1 t2 => ?_) (by decide)
              by_cases ct : t = 1
              · exact ⟨k, hk, by rw [ct, xUa]⟩
              · obtain ⟨k', hk', ek'⟩ := H5 t t1 t2
                exact ⟨k', hk', by rw [xUk ct]; exact ek'⟩
            refine u113 uWo68 hwo C4.1.1 (by decide) (fun z hzz => w112h_1 hz hw9 C4.1.1 hfs hi2 hdd hzz (fun _ => fin) (fun _ => nxt a4 b4 (uTe_t f2 g4) C4 H4))
        exact w112d_1 hz hw9 C2.1.1 hfs hi2 hdd (fun _ => tries) (fun _ _ => nxt a2 b2 f2 C2 H2) (fun _ _ => tries)
      refine w112i_1 hz hw9 C2.1.1 hfs hi2 (fun e => absurd e (by omega)) (fun _ h => ?_) (fun _ _ => body k0 hk0)
      have e4 := C2.1.2.1.2.2.2.2 (i - 1) (by omega) (by omega)
      rw [show i - 1 + 1 = i by omega] at e4
      rw [e4]
      exact body (i - 1) ⟨by omega, by omega⟩
  exact loop 63 (-1) a b _ (by decide) (by decide) uTe_r hC hH

/-- firstAct 1 -/
theorem u111_1 (hK : uRk pr cnt W T) (hn0 : 0 ≤ n ∧ n ≤ 5) (hwo : uWo w) (hwc : (w + 4 < 52 ∨ 56 < w) ∧ (w + 4 < 68 ∨ 72 < w) ∧ (w + 4 < 78 ∨ 78 < w)) (hC : uCb dr wp co pr cnt W T n a0 a b) (hH : uHm a) (hX : uCx n w r a b) (hB : uBqm m r) (hm : 0 ≤ m ∧ m ≤ 29) (hFo : uFo3 w a) (hd : 12 ≤ d) (hQ : ∀ a' b' z, uTe (fun q => ((52 ≤ q ∧ q ≤ 56) ∨ (68 ≤ q ∧ q ≤ 72)) ∨ q = w + 4) a a' b b' → uCb dr wp co pr cnt W T n a0 a' b' → uHm a' → uFo3 w a' → (-2 ≤ z ∧ z ≤ 300) → Q (some (xV z)) (xS a' b')) : pmCs (pmRo Ln xs) d 111 [.ref 45, .ref w, xV 1] (xS a b) Q := by
  have hz := hwo.1
  have hw := hwo.2
  have hw9 := hwo.2.1.2
  have hBd := uBqm_b (m := m) (by omega) hB
  obtain ⟨y1, y2, y3, y4, y5, y6⟩ := hB
  have hfo := hFo 1 (by decide) (by decide)
  refine pmCs_deep (d := 12) (xg111 (w111_1 hz hw9 hC.1.1 (fun _ => hQ a b (-1) uTe_r hC hH hFo (by decide)) (fun _ _ => ?_) (fun _ _ => hQ a b _ uTe_r hC hH hFo (by omega)))) hd
  have loop : ∀ (u : Nat) (i ac sf : Int) (a2 : xA) (b2 : xB) (v6 v7 : Option Value), i + (u : Int) = 128 → 0 ≤ i → (-1 ≤ ac ∧ ac ≤ 191) → (sf = 0 ∨ sf = 1) → uTe (fun q => ((52 ≤ q ∧ q ≤ 56) ∨ (68 ≤ q ∧ q ≤ 72))) a a2 b b2 → uCb dr wp co pr cnt W T n a0 a2 b2 → uHm a2 → pmWp (pmRo Ln xs) 11 7 111 1 85 [some (.ref 45), some (.ref w), some (xV 1), some (xV ac), some (xV sf), some (xV i), v6, v7] [] (xS a2 b2) Q := by
    intro u
    induction u with
    | zero =>
      intro i ac sf a2 b2 v6 v7 hi i0 hac hsf f2 C2 H2
      have fin : pmWp (pmRo Ln xs) 11 7 111 1 194 [some (.ref 45), some (.ref w), some (xV 1), some (xV ac), some (xV sf), some (xV i), v6, v7] [] (xS a2 b2) Q := by
        refine w111r_1 hz hac hsf ⟨i0, by omega⟩ (hQ _ b2 ac ⟨fun q j e1 e2 e3 e4 => ?_, fun q j e1 e2 => f2.2 q j (fun h => e1 (Or.inl h)) e2⟩ (uCb_e C2 (fun q j h1 h2 => xUn (by omega)) (fun _ _ _ => rfl) (xAr_u C2.1.1 ⟨by omega, by omega⟩)) (uHm_o H2 (fun j => xUn (by omega))) (fun j j0 j1 => ?_) (by omega))
        · rw [xUn (fun h => e1 (Or.inr h))]
          exact f2.1 q j (fun h => e1 (Or.inl h)) e2 e3 e4
        · by_cases cj : j = 1
          · rw [cj, xUa]
            omega
          · rw [xUk cj, f2.1 (w + 4) j (by omega) (by omega) (by omega) (by omega)]
            exact hFo j j0 j1
      exact w111i_1 hz hac hsf ⟨i0, by omega⟩ (fun _ => fin) (fun e => absurd (by omega) e) (fun e => absurd (by omega) e) (fun e => absurd (by omega) e) (fun e => absurd (by omega) e) (fun e => absurd (by omega) e)
    | succ u ih =>
      intro i ac sf a2 b2 v6 v7 hi i0 hac hsf f2 C2 H2
      have hi2 : 0 ≤ i ∧ i ≤ 128 := ⟨i0, by omega⟩
      have hi3 : 0 ≤ i ∧ i ≤ 127 := ⟨i0, by omega⟩
      have X2 : uCx n w r a2 b2 := uCx_e hwo (by omega) hX f2 (fun q h1 h2 => by omega)
      have fin : pmWp (pmRo Ln xs) 11 7 111 1 194 [some (.ref 45), some (.ref w), some (xV 1), some (xV ac), some (xV sf), some (xV i), v6, v7] [] (xS a2 b2) Q := by
        refine w111r_1 hz hac hsf hi2 (hQ _ b2 ac ⟨fun q j e1 e2 e3 e4 => ?_, fun q j e1 e2 => f2.2 q j (fun h => e1 (Or.inl h)) e2⟩ (uCb_e C2 (fun q j h1 h2 => xUn (by omega)) (fun _ _ _ => rfl) (xAr_u C2.1.1 ⟨by omega, by omega⟩)) (uHm_o H2 (fun j => xUn (by omega))) (fun j j0 j1 => ?_) (by omega))
        · rw [xUn (fun h => e1 (Or.inr h))]
          exact f2.1 q j (fun h => e1 (Or.inl h)) e2 e3 e4
        · by_cases cj : j = 1
          · rw [cj, xUa]
            omega
          · rw [xUk cj, f2.1 (w + 4) j (by omega) (by omega) (by omega) (by omega)]
            exact hFo j j0 j1
      have tries : ∀ (v : Int) (v6 : Option Value), (64 ≤ v ∧ v ≤ 191) → pmCs (pmRo Ln xs) 11 102 [.ref 45, .ref w, xV v] (xS a2 b2) (fun r' s' => pmWp (pmRo Ln xs) 11 7 111 1 142 [some (.ref 45), some (.ref w), some (xV 1), some (xV ac), some (xV sf), some (xV i), v6, some (xV v)] (r'.toList ++ []) s' Q) := by
        intro v v6 hv
        have nxt : ∀ (ac2 : Int) (a3 : xA) (b3 : xB), (-1 ≤ ac2 ∧ ac2 ≤ 191) → uTe (fun q => ((52 ≤ q ∧ q ≤ 56) ∨ (68 ≤ q ∧ q ≤ 72))) a a3 b b3 → uCb dr wp co pr cnt W T n a0 a3 b3 → uHm a3 → pmWp (pmRo Ln xs) 11 7 111 1 188 [some (.ref 45), some (.ref w), some (xV 1), some (xV ac2), some (xV sf), some (xV i), v6, some (xV v)] [] (xS a3 b3) Q := fun ac2 a3 b3 hac2 g1 g2 g3 => w111n_1 hz hac2 hsf hi3 hv (ih (i + 1) ac2 sf a3 b3 _ _ (by omega) (by omega) hac2 hsf g1 g2 g3)
        refine u102v hz C2.1.1 C2.1.2.1 X2 hBd hv (by decide) (fun c hc ev hcan => w111c_1 hz hac hsf hi3 hv (by decide) (fun e => absurd e (by decide)) (fun _ => ?_)) (w111c_1 hz hac hsf hi3 hv (by decide) (fun _ => nxt ac a2 b2 hac f2 C2 H2) (fun e => absurd rfl e))
        refine u66 uWo52 hwo (by omega) C2.1.1 (by rw [X2.2.2.1]; exact y2) (by decide) (fun a3 b3 c3 A3 => w111s_1 hz hac hsf hi3 hv ?_)
        have g3 : uTe (fun q => ((52 ≤ q ∧ q ≤ 56) ∨ (68 ≤ q ∧ q ≤ 72))) a2 a3 b2 b3 := uTe_c c3 (fun q h1 h2 => by omega)
        have C3 : uCb dr wp co pr cnt W T n a0 a3 b3 := uCb_e C2 (fun q j h1 h2 => g3.1 q j (by omega) (by omega) (by omega) (by omega)) (fun q j e => c3.2.2.2.2.2.2 q j (by omega)) A3
        have X3 := uCx_cp (w := 52) X2 c3
        have H3 : uHm a3 := uHm_o H2 (fun j => c3.2.2.2.2.2.1 78 j (by omega))
        have hao : uAo dr n c r := hcan.elim (fun h => by omega) (fun h => h.2.2)
        rw [ev]
        refine u104 uWo52.1 A3 hn0 X3 hBd hc hao (by decide) (fun a4 b4 f4 A4 X4 F4 => ?_)
        rw [← ev]
        refine w111t_1 hz hac hsf hi3 hv ?_
        have g4 : uTe (fun q => ((52 ≤ q ∧ q ≤ 56) ∨ (68 ≤ q ∧ q ≤ 72))) a2 a4 b2 b4 := uTe_t g3 (uTe_x f4 (fun q h1 h2 => by omega))
        have C4 : uCb dr wp co pr cnt W T n a0 a4 b4 := uCb_e C3 (fun q j h1 h2 => f4.1 q j (by omega) (by omega)) (fun q j e => f4.2 q j (by omega) (by omega)) A4
        have H4 : uHm a4 := uHm_o H3 (fun j => f4.1 78 j (by omega) (by omega))
        have B4 := (uRow_x hn0 (m := m) (by omega) ⟨X3.1.1, y1, y2, y3, y4, y5, y6⟩ (c := c) ⟨by omega, hc.2⟩).2
        refine u112_1 (m := m + 1) hK hn0 uWo52 (by decide) C4 H4 X4 B4 (by omega) (by decide) (fun a5 b5 z f5 C5 H5 hzz => ?_)
        have g5 : uTe (fun q => ((52 ≤ q ∧ q ≤ 56) ∨ (68 ≤ q ∧ q ≤ 72))) a a5 b b5 := uTe_t (uTe_t f2 g4) (uTe_m f5 (fun q h => by omega))
        exact w111e_1 hz hac hsf hi3 hv hzz (fun _ => nxt (-1) a5 b5 (by decide) g5 C5 H5) (fun _ => nxt v a5 b5 ⟨by omega, by omega⟩ g5 C5 H5)
      have e6 : ((2 ^ 6 : Nat) : Int) = 64 := rfl
      have o1 := xOr_dj 6 (by decide) (m := 1) (y := i % 64) (by decide) (by rw [e6]; omega)
      have o2 := xOr_dj 6 (by decide) (m := 2) (y := i % 64) (by decide) (by rw [e6]; omega)
      rw [e6] at o1 o2
      have p1 : xOr (1 * 64) (i % 64) = 64 + i % 64 := o1
      have p2 : xOr (2 * 64) (i % 64) = 128 + i % 64 := o2
      refine w111i_1 hz hac hsf hi2 (fun e => absurd e (by omega)) (fun _ _ => fin) (fun _ _ _ _ => ?_) (fun _ _ _ _ => ?_) (fun _ _ _ _ => ?_) (fun _ _ _ _ => ?_)
      · rw [p2]
        exact tries _ _ (by omega)
      · rw [p1]
        exact tries _ _ (by omega)
      · rw [p2]
        exact tries _ _ (by omega)
      · rw [p1]
        exact tries _ _ (by omega)
  refine u112_1 (m := m) hK hn0 hwo (by omega) hC hH hX ⟨y1, y2, y3, y4, y5, y6⟩ (by omega) (by decide) (fun a2 b2 z f2 C2 H2 hzz => ?_)
  have g2 : uTe (fun q => ((52 ≤ q ∧ q ≤ 56) ∨ (68 ≤ q ∧ q ≤ 72))) a a2 b b2 := uTe_m f2 (fun q h => by omega)
  have X2 : uCx n w r a2 b2 := uCx_e hwo (by omega) hX g2 (fun q h1 h2 => by omega)
  obtain ⟨_, e6, e12, e8, e9, e10⟩ := X2
  exact w111a_1 hz hzz C2.1.1 (by omega) (by omega) (by omega) (by omega) (by omega) (by decide) (fun _ _ => loop 128 0 (-1) 0 a2 b2 _ _ (by decide) (by decide) (by decide) (by decide) g2 C2 H2) (fun _ _ => loop 128 0 (-1) 1 a2 b2 _ _ (by decide) (by decide) (by decide) (by decide) g2 C2 H2) (fun _ _ => loop 128 0 0 0 a2 b2 _ _ (by decide) (by decide) (by decide) (by decide) g2 C2 H2) (fun _ _ => loop 128 0 0 1 a2 b2 _ _ (by decide) (by decide) (by decide) (by decide) g2 C2 H2)

/-- withstands 2 -/
theorem u112_2 (hK : uRk pr cnt W T) (hn0 : 0 ≤ n ∧ n ≤ 5) (hwo : uWo w) (hwc : (w + 4 < 52 ∨ 56 < w) ∧ (w + 4 < 68 ∨ 77 < w) ∧ (w + 4 < 78 ∨ 78 < w)) (hC : uCb dr wp co pr cnt W T n a0 a b) (hH : uHm a) (hX : uCx n w r a b) (hB : uBqm m r) (hm : 0 ≤ m ∧ m ≤ 28) (hd : 13 ≤ d) (hQ : ∀ a' b' z, uTe (fun q => ((52 ≤ q ∧ q ≤ 56) ∨ (68 ≤ q ∧ q ≤ 77))) a a' b b' → uCb dr wp co pr cnt W T n a0 a' b' → uHm a' → (z = 0 ∨ z = 1) → Q (some (xV z)) (xS a' b')) : pmCs (pmRo Ln xs) d 112 [.ref 45, .ref w, xV 2] (xS a b) Q := by
  have hz := hwo.1
  have hw := hwo.2
  have hw9 := hwo.2.1.2
  obtain ⟨k0, hk0, ek0⟩ := hH 2 (by decide) (by decide)
  have hfs := uD_p hk0
  have hfs : 0 ≤ uD k0 ∧ uD k0 ≤ 447 := ⟨hfs.1, hfs.2.1⟩
  obtain ⟨y1, y2, y3, y4, y5, y6⟩ := hB
  refine pmCs_deep (d := 13) (xg112 (w112_2 hz hw9 hC.1.1 ?_)) hd
  rw [ek0]
  have loop : ∀ (u : Nat) (i : Int) (a2 : xA) (b2 : xB) (v6 : Option Value), i + (u : Int) = 62 → -1 ≤ i → uTe (fun q => ((52 ≤ q ∧ q ≤ 56) ∨ (68 ≤ q ∧ q ≤ 77))) a a2 b b2 → uCb dr wp co pr cnt W T n a0 a2 b2 → uHm a2 → pmWp (pmRo Ln xs) 12 7 112 2 30 [some (.ref 45), some (.ref w), some (xV 2), some (.ref 73), some (xV (uD k0)), some (xV i), v6] [] (xS a2 b2) Q := by
    intro u
    induction u with
    | zero =>
      intro i a2 b2 v6 hi i0 f2 C2 H2
      exact w112i_2 hz hw9 C2.1.1 hfs ⟨i0, by omega⟩ (fun _ => hQ a2 b2 1 f2 C2 H2 (by decide)) (fun e => absurd (by omega) e) (fun e => absurd (by omega) e)
    | succ u ih =>
      intro i a2 b2 v6 hi i0 f2 C2 H2
      have hi2 : -1 ≤ i ∧ i ≤ 62 := ⟨i0, by omega⟩
      have X2 : uCx n w r a2 b2 := uCx_e hwo (by omega) hX f2 (fun q h1 h2 => by omega)
      have body : ∀ k, (-1 ≤ k ∧ k < 61) → pmWp (pmRo Ln xs) 12 7 112 2 59 [some (.ref 45), some (.ref w), some (xV 2), some (.ref 73), some (xV (uD k0)), some (xV i), some (xV (uD k))] [] (xS a2 b2) Q := by
        intro k hk
        have hDp := uD_p hk
        have hdd : 0 ≤ uD k ∧ uD k ≤ 447 := ⟨hDp.1, hDp.2.1⟩
        have nxt : ∀ (a3 : xA) (b3 : xB), uTe (fun q => ((52 ≤ q ∧ q ≤ 56) ∨ (68 ≤ q ∧ q ≤ 77))) a a3 b b3 → uCb dr wp co pr cnt W T n a0 a3 b3 → uHm a3 → pmWp (pmRo Ln xs) 12 7 112 2 152 [some (.ref 45), some (.ref w), some (xV 2), some (.ref 73), some (xV (uD k0)), some (xV i), some (xV (uD k))] [] (xS a3 b3) Q := fun a3 b3 g1 g2 g3 => w112n_2 hz hw9 g2.1.1 hfs hi2 hdd (ih (i + 1) a3 b3 _ (by omega) (by omega) g1 g2 g3)
        have tries : pmCs (pmRo Ln xs) 12 80 [.ref 3, .long (b2 w 4), xV 0, xV (uD k)] (xS a2 b2) (fun r' s' => pmWp (pmRo Ln xs) 12 7 112 2 85 [some (.ref 45), some (.ref w), some (xV 2), some (.ref 73), some (xV (uD k0)), some (xV i), some (xV (uD k))] (r'.toList ++ []) s' Q) := by
          refine u80 C2.1.1 C2.1.2.1 (by decide) hk (by decide) (fun hc => w112c_2 hz hw9 C2.1.1 hfs hi2 hdd (by decide) (fun _ => ?_) (fun e => absurd e (by decide))) (fun hc => w112c_2 hz hw9 C2.1.1 hfs hi2 hdd (by decide) (fun e => absurd rfl e) (fun _ => nxt a2 b2 f2 C2 H2))
          have hcp : k = -1 ∨ ((0 ≤ k ∧ k < 61) ∧ (¬ r 0 = 7 → uCp n 0 k r)) := by
            by_cases c : k = -1
            · exact Or.inl c
            · exact Or.inr ⟨⟨by omega, hk.2⟩, fun _ => uCa_p X2.1.1 ⟨by omega, hk.2⟩ ((uCa_q X2.1.2.1.1 (by decide) hk).mp hc)⟩
          refine u66 uWo73 hwo (by omega) C2.1.1 (by rw [X2.2.2.1]; exact y2) (by decide) (fun a3 b3 c3 A3 => w112s_2 hz hw9 A3 hfs hi2 hdd ?_)
          have g3 : uTe (fun q => ((52 ≤ q ∧ q ≤ 56) ∨ (68 ≤ q ∧ q ≤ 77))) a2 a3 b2 b3 := uTe_c c3 (fun q h1 h2 => by omega)
          have C3 : uCb dr wp co pr cnt W T n a0 a3 b3 := uCb_e C2 (fun q j h1 h2 => g3.1 q j (by omega) (by omega) (by omega) (by omega)) (fun q j e => c3.2.2.2.2.2.2 q j (by omega)) A3
          have X3 := uCx_cp (w := 73) X2 c3
          have H3 : uHm a3 := uHm_o H2 (fun j => c3.2.2.2.2.2.1 78 j (by omega))
          refine u90 (cd := k) (wt := -1) uWo73 hn0 C3 X3.1 (by rw [X3.2.1]; omega) (by omega) hcp (by decide) (fun a4 b4 f4 C4 W4 e6 e12 ef e0 ep e119 e119b => w112g_2 hz hw9 C4.1.1 hfs hi2 hdd (fun _ => ?_) (fun _ => ?_))
          all_goals
            have g4 : uTe (fun q => ((52 ≤ q ∧ q ≤ 56) ∨ (68 ≤ q ∧ q ≤ 77))) a2 a4 b2 b4 := uTe_t g3 (uTe_f f4 (fun q h1 h2 => by omega))
            have H4 : uHm a4 := uHm_o H3 (fun j => f4.1 78 j (by omega) (by omega) (by omega) (by omega) (by omega) (by omega))
          have fin : pmWp (pmRo Ln xs) 12 7 112 2 122 [some (.ref 45), some (.ref w), some (xV 2), some (.ref 73), some (xV (uD k0)), some (xV i), some (xV (uD k))] [] (xS a4 b4) Q := by
            refine w112f_2 hz hw9 C4.1.1 hfs hi2 hdd (u97 (cd := k) (wt := -1) uWo73 hK hn0 C4 W4 (by rw [e6, X3.2.1]; omega) (by omega) (by decide) (fun p p1 p3 => ⟨fun h => by omega, fun h => by omega⟩) (by decide) (fun a5 b5 f5 C5 W5 i6 i12 i4 i119 i0' ip => w112t_2 hz hw9 C5.1.1 hfs hi2 hdd ?_))
            have g5 : uTe (fun q => ((52 ≤ q ∧ q ≤ 56) ∨ (68 ≤ q ∧ q ≤ 77))) a2 a5 b2 b5 := uTe_t g4 (uTe_f f5 (fun q h1 h2 => by omega))
            have H5 : uHm a5 := uHm_o H4 (fun j => f5.1 78 j (by omega) (by omega) (by omega) (by omega) (by omega) (by omega))
            have ht4 : uTu dr wp pr cnt W T n k (-1) r 114 = r 114 + 1 := rfl
            have ht5 : uTu dr wp pr cnt W T n k (-1) r 115 = 0 := rfl
            have tu : ∀ j, ¬ j = 114 → ¬ j = 115 → uTu dr wp pr cnt W T n k (-1) r j = uTr dr wp pr cnt W T n k (-1) r 4 j := fun j h1 h2 => by
              unfold uTu
              rw [if_neg h1, if_neg h2]
            have v4 := (uTr_v (dr := dr) (wp := wp) (pr := pr) (cnt := cnt) (W := W) (T := T) (wt := -1) hn0 X2.1.1 hcp 4 (by decide)).2
            have k8 : ∀ j, j = 8 ∨ j = 9 ∨ j = 10 → a5 73 j = a3 73 j := fun j hj => (f5.1 73 j (by omega) (by omega) (by omega) (by omega) (by omega) (by omega)).trans (f4.1 73 j (by omega) (by omega) (by omega) (by omega) (by omega) (by omega))
            have X5 : uCx n 73 (uTu dr wp pr cnt W T n k (-1) r) a5 b5 := ⟨uCw_q hn0.2 W5 (fun j hj => tu j (by omega) (by omega)), by rw [i6, e6, X3.2.1, ht4], by rw [i12, e12, ht5], by rw [k8 8 (by decide), X3.2.2.2.1, tu 116 (by decide) (by decide), v4 116 (by decide) (by decide)], by rw [k8 9 (by decide), X3.2.2.2.2.1, tu 117 (by decide) (by decide), v4 117 (by decide) (by decide)], by rw [k8 10 (by decide), X3.2.2.2.2.2, tu 118 (by decide) (by decide), v4 118 (by decide) (by decide)]⟩
            have B5 : uBqm (m + 1) (uTu dr wp pr cnt W T n k (-1) r) := uBqm_t hn0 X2.1.1 ⟨y1, y2, y3, y4, y5, y6⟩ hcp (by omega)
            have F5 : uFo3 73 a5 := fun j j0 j1 => by
              rw [i4 j, ef j j0 j1]
              decide
            refine u111_1 (m := m + 1) hK hn0 uWo73 (by decide) C5 H5 X5 B5 (by omega) F5 (by decide) (fun a6 b6 z f6 C6 H6 _ hzz => w112e_2 hz hw9 C6.1.1 hfs hi2 hdd ⟨by omega, by omega⟩ (fun _ => ?_) (fun _ => ?_))
            · exact nxt a6 b6 (uTe_t (uTe_t f2 g5) (uTe_m f6 (fun q h => by omega))) C6 H6
            · refine hQ _ b6 0 (uTe_t (uTe_t (uTe_t f2 g5) (uTe_m f6 (fun q h => by omega))) ⟨fun q j _ _ _ e => xUn e, fun _ _ _ _ => rfl⟩) (uCb_e C6 (fun q j h1 h2 => xUn (by omega)) (fun _ _ _ => rfl) (xAr_u C6.1.1 ⟨by omega, by omega⟩)) (fun t t1 t2 => ?_) (by decide)
              by_cases ct : t = 2
              · exact ⟨k, hk, by rw [ct, xUa]⟩
              · obtain ⟨k', hk', ek'⟩ := H6 t t1 t2
                exact ⟨k', hk', by rw [xUk ct]; exact ek'⟩
          · exact fin
          · have fin : pmWp (pmRo Ln xs) 12 7 112 2 122 [some (.ref 45), some (.ref w), some (xV 2), some (.ref 73), some (xV (uD k0)), some (xV i), some (xV (uD k))] [] (xS a4 b4) Q := by
              refine w112f_2 hz hw9 C4.1.1 hfs hi2 hdd (u97 (cd := k) (wt := -1) uWo73 hK hn0 C4 W4 (by rw [e6, X3.2.1]; omega) (by omega) (by decide) (fun p p1 p3 => ⟨fun h => by omega, fun h => by omega⟩) (by decide) (fun a5 b5 f5 C5 W5 i6 i12 i4 i119 i0' ip => w112t_2 hz hw9 C5.1.1 hfs hi2 hdd ?_))
              have g5 : uTe (fun q => ((52 ≤ q ∧ q ≤ 56) ∨ (68 ≤ q ∧ q ≤ 77))) a2 a5 b2 b5 := uTe_t g4 (uTe_f f5 (fun q h1 h2 => by omega))
              have H5 : uHm a5 := uHm_o H4 (fun j => f5.1 78 j (by omega) (by omega) (by omega) (by omega) (by omega) (by omega))
              have ht4 : uTu dr wp pr cnt W T n k (-1) r 114 = r 114 + 1 := rfl
              have ht5 : uTu dr wp pr cnt W T n k (-1) r 115 = 0 := rfl
              have tu : ∀ j, ¬ j = 114 → ¬ j = 115 → uTu dr wp pr cnt W T n k (-1) r j = uTr dr wp pr cnt W T n k (-1) r 4 j := fun j h1 h2 => by
                unfold uTu
                rw [if_neg h1, if_neg h2]
              have v4 := (uTr_v (dr := dr) (wp := wp) (pr := pr) (cnt := cnt) (W := W) (T := T) (wt := -1) hn0 X2.1.1 hcp 4 (by decide)).2
              have k8 : ∀ j, j = 8 ∨ j = 9 ∨ j = 10 → a5 73 j = a3 73 j := fun j hj => (f5.1 73 j (by omega) (by omega) (by omega) (by omega) (by omega) (by omega)).trans (f4.1 73 j (by omega) (by omega) (by omega) (by omega) (by omega) (by omega))
              have X5 : uCx n 73 (uTu dr wp pr cnt W T n k (-1) r) a5 b5 := ⟨uCw_q hn0.2 W5 (fun j hj => tu j (by omega) (by omega)), by rw [i6, e6, X3.2.1, ht4], by rw [i12, e12, ht5], by rw [k8 8 (by decide), X3.2.2.2.1, tu 116 (by decide) (by decide), v4 116 (by decide) (by decide)], by rw [k8 9 (by decide), X3.2.2.2.2.1, tu 117 (by decide) (by decide), v4 117 (by decide) (by decide)], by rw [k8 10 (by decide), X3.2.2.2.2.2, tu 118 (by decide) (by decide), v4 118 (by decide) (by decide)]⟩
              have B5 : uBqm (m + 1) (uTu dr wp pr cnt W T n k (-1) r) := uBqm_t hn0 X2.1.1 ⟨y1, y2, y3, y4, y5, y6⟩ hcp (by omega)
              have F5 : uFo3 73 a5 := fun j j0 j1 => by
                rw [i4 j, ef j j0 j1]
                decide
              refine u111_1 (m := m + 1) hK hn0 uWo73 (by decide) C5 H5 X5 B5 (by omega) F5 (by decide) (fun a6 b6 z f6 C6 H6 _ hzz => w112e_2 hz hw9 C6.1.1 hfs hi2 hdd ⟨by omega, by omega⟩ (fun _ => ?_) (fun _ => ?_))
              · exact nxt a6 b6 (uTe_t (uTe_t f2 g5) (uTe_m f6 (fun q h => by omega))) C6 H6
              · refine hQ _ b6 0 (uTe_t (uTe_t (uTe_t f2 g5) (uTe_m f6 (fun q h => by omega))) ⟨fun q j _ _ _ e => xUn e, fun _ _ _ _ => rfl⟩) (uCb_e C6 (fun q j h1 h2 => xUn (by omega)) (fun _ _ _ => rfl) (xAr_u C6.1.1 ⟨by omega, by omega⟩)) (fun t t1 t2 => ?_) (by decide)
                by_cases ct : t = 2
                · exact ⟨k, hk, by rw [ct, xUa]⟩
                · obtain ⟨k', hk', ek'⟩ := H6 t t1 t2
                  exact ⟨k', hk', by rw [xUk ct]; exact ek'⟩
            refine u113 uWo73 hwo C4.1.1 (by decide) (fun z hzz => w112h_2 hz hw9 C4.1.1 hfs hi2 hdd hzz (fun _ => fin) (fun _ => nxt a4 b4 (uTe_t f2 g4) C4 H4))
        exact w112d_2 hz hw9 C2.1.1 hfs hi2 hdd (fun _ => tries) (fun _ _ => nxt a2 b2 f2 C2 H2) (fun _ _ => tries)
      refine w112i_2 hz hw9 C2.1.1 hfs hi2 (fun e => absurd e (by omega)) (fun _ h => ?_) (fun _ _ => body k0 hk0)
      have e4 := C2.1.2.1.2.2.2.2 (i - 1) (by omega) (by omega)
      rw [show i - 1 + 1 = i by omega] at e4
      rw [e4]
      exact body (i - 1) ⟨by omega, by omega⟩
  exact loop 63 (-1) a b _ (by decide) (by decide) uTe_r hC hH

/-- firstAct 2 -/
theorem u111_2 (hK : uRk pr cnt W T) (hn0 : 0 ≤ n ∧ n ≤ 5) (hwo : uWo w) (hwc : (w + 4 < 52 ∨ 61 < w) ∧ (w + 4 < 68 ∨ 77 < w) ∧ (w + 4 < 78 ∨ 78 < w)) (hC : uCb dr wp co pr cnt W T n a0 a b) (hH : uHm a) (hX : uCx n w r a b) (hB : uBqm m r) (hm : 0 ≤ m ∧ m ≤ 27) (hFo : uFo3 w a) (hd : 14 ≤ d) (hQ : ∀ a' b' z, uTe (fun q => ((52 ≤ q ∧ q ≤ 61) ∨ (68 ≤ q ∧ q ≤ 77)) ∨ q = w + 4) a a' b b' → uCb dr wp co pr cnt W T n a0 a' b' → uHm a' → uFo3 w a' → (-2 ≤ z ∧ z ≤ 300) → Q (some (xV z)) (xS a' b')) : pmCs (pmRo Ln xs) d 111 [.ref 45, .ref w, xV 2] (xS a b) Q := by
  have hz := hwo.1
  have hw := hwo.2
  have hw9 := hwo.2.1.2
  have hBd := uBqm_b (m := m) (by omega) hB
  obtain ⟨y1, y2, y3, y4, y5, y6⟩ := hB
  have hfo := hFo 2 (by decide) (by decide)
  refine pmCs_deep (d := 14) (xg111 (w111_2 hz hw9 hC.1.1 (fun _ => hQ a b (-1) uTe_r hC hH hFo (by decide)) (fun _ _ => ?_) (fun _ _ => hQ a b _ uTe_r hC hH hFo (by omega)))) hd
  have loop : ∀ (u : Nat) (i ac sf : Int) (a2 : xA) (b2 : xB) (v6 v7 : Option Value), i + (u : Int) = 128 → 0 ≤ i → (-1 ≤ ac ∧ ac ≤ 191) → (sf = 0 ∨ sf = 1) → uTe (fun q => ((52 ≤ q ∧ q ≤ 61) ∨ (68 ≤ q ∧ q ≤ 77))) a a2 b b2 → uCb dr wp co pr cnt W T n a0 a2 b2 → uHm a2 → pmWp (pmRo Ln xs) 13 7 111 1 85 [some (.ref 45), some (.ref w), some (xV 2), some (xV ac), some (xV sf), some (xV i), v6, v7] [] (xS a2 b2) Q := by
    intro u
    induction u with
    | zero =>
      intro i ac sf a2 b2 v6 v7 hi i0 hac hsf f2 C2 H2
      have fin : pmWp (pmRo Ln xs) 13 7 111 1 194 [some (.ref 45), some (.ref w), some (xV 2), some (xV ac), some (xV sf), some (xV i), v6, v7] [] (xS a2 b2) Q := by
        refine w111r_2 hz hac hsf ⟨i0, by omega⟩ (hQ _ b2 ac ⟨fun q j e1 e2 e3 e4 => ?_, fun q j e1 e2 => f2.2 q j (fun h => e1 (Or.inl h)) e2⟩ (uCb_e C2 (fun q j h1 h2 => xUn (by omega)) (fun _ _ _ => rfl) (xAr_u C2.1.1 ⟨by omega, by omega⟩)) (uHm_o H2 (fun j => xUn (by omega))) (fun j j0 j1 => ?_) (by omega))
        · rw [xUn (fun h => e1 (Or.inr h))]
          exact f2.1 q j (fun h => e1 (Or.inl h)) e2 e3 e4
        · by_cases cj : j = 2
          · rw [cj, xUa]
            omega
          · rw [xUk cj, f2.1 (w + 4) j (by omega) (by omega) (by omega) (by omega)]
            exact hFo j j0 j1
      exact w111i_2 hz hac hsf ⟨i0, by omega⟩ (fun _ => fin) (fun e => absurd (by omega) e) (fun e => absurd (by omega) e) (fun e => absurd (by omega) e) (fun e => absurd (by omega) e) (fun e => absurd (by omega) e)
    | succ u ih =>
      intro i ac sf a2 b2 v6 v7 hi i0 hac hsf f2 C2 H2
      have hi2 : 0 ≤ i ∧ i ≤ 128 := ⟨i0, by omega⟩
      have hi3 : 0 ≤ i ∧ i ≤ 127 := ⟨i0, by omega⟩
      have X2 : uCx n w r a2 b2 := uCx_e hwo (by omega) hX f2 (fun q h1 h2 => by omega)
      have fin : pmWp (pmRo Ln xs) 13 7 111 1 194 [some (.ref 45), some (.ref w), some (xV 2), some (xV ac), some (xV sf), some (xV i), v6, v7] [] (xS a2 b2) Q := by
        refine w111r_2 hz hac hsf hi2 (hQ _ b2 ac ⟨fun q j e1 e2 e3 e4 => ?_, fun q j e1 e2 => f2.2 q j (fun h => e1 (Or.inl h)) e2⟩ (uCb_e C2 (fun q j h1 h2 => xUn (by omega)) (fun _ _ _ => rfl) (xAr_u C2.1.1 ⟨by omega, by omega⟩)) (uHm_o H2 (fun j => xUn (by omega))) (fun j j0 j1 => ?_) (by omega))
        · rw [xUn (fun h => e1 (Or.inr h))]
          exact f2.1 q j (fun h => e1 (Or.inl h)) e2 e3 e4
        · by_cases cj : j = 2
          · rw [cj, xUa]
            omega
          · rw [xUk cj, f2.1 (w + 4) j (by omega) (by omega) (by omega) (by omega)]
            exact hFo j j0 j1
      have tries : ∀ (v : Int) (v6 : Option Value), (64 ≤ v ∧ v ≤ 191) → pmCs (pmRo Ln xs) 13 102 [.ref 45, .ref w, xV v] (xS a2 b2) (fun r' s' => pmWp (pmRo Ln xs) 13 7 111 1 142 [some (.ref 45), some (.ref w), some (xV 2), some (xV ac), some (xV sf), some (xV i), v6, some (xV v)] (r'.toList ++ []) s' Q) := by
        intro v v6 hv
        have nxt : ∀ (ac2 : Int) (a3 : xA) (b3 : xB), (-1 ≤ ac2 ∧ ac2 ≤ 191) → uTe (fun q => ((52 ≤ q ∧ q ≤ 61) ∨ (68 ≤ q ∧ q ≤ 77))) a a3 b b3 → uCb dr wp co pr cnt W T n a0 a3 b3 → uHm a3 → pmWp (pmRo Ln xs) 13 7 111 1 188 [some (.ref 45), some (.ref w), some (xV 2), some (xV ac2), some (xV sf), some (xV i), v6, some (xV v)] [] (xS a3 b3) Q := fun ac2 a3 b3 hac2 g1 g2 g3 => w111n_2 hz hac2 hsf hi3 hv (ih (i + 1) ac2 sf a3 b3 _ _ (by omega) (by omega) hac2 hsf g1 g2 g3)
        refine u102v hz C2.1.1 C2.1.2.1 X2 hBd hv (by decide) (fun c hc ev hcan => w111c_2 hz hac hsf hi3 hv (by decide) (fun e => absurd e (by decide)) (fun _ => ?_)) (w111c_2 hz hac hsf hi3 hv (by decide) (fun _ => nxt ac a2 b2 hac f2 C2 H2) (fun e => absurd rfl e))
        refine u66 uWo57 hwo (by omega) C2.1.1 (by rw [X2.2.2.1]; exact y2) (by decide) (fun a3 b3 c3 A3 => w111s_2 hz hac hsf hi3 hv ?_)
        have g3 : uTe (fun q => ((52 ≤ q ∧ q ≤ 61) ∨ (68 ≤ q ∧ q ≤ 77))) a2 a3 b2 b3 := uTe_c c3 (fun q h1 h2 => by omega)
        have C3 : uCb dr wp co pr cnt W T n a0 a3 b3 := uCb_e C2 (fun q j h1 h2 => g3.1 q j (by omega) (by omega) (by omega) (by omega)) (fun q j e => c3.2.2.2.2.2.2 q j (by omega)) A3
        have X3 := uCx_cp (w := 57) X2 c3
        have H3 : uHm a3 := uHm_o H2 (fun j => c3.2.2.2.2.2.1 78 j (by omega))
        have hao : uAo dr n c r := hcan.elim (fun h => by omega) (fun h => h.2.2)
        rw [ev]
        refine u104 uWo57.1 A3 hn0 X3 hBd hc hao (by decide) (fun a4 b4 f4 A4 X4 F4 => ?_)
        rw [← ev]
        refine w111t_2 hz hac hsf hi3 hv ?_
        have g4 : uTe (fun q => ((52 ≤ q ∧ q ≤ 61) ∨ (68 ≤ q ∧ q ≤ 77))) a2 a4 b2 b4 := uTe_t g3 (uTe_x f4 (fun q h1 h2 => by omega))
        have C4 : uCb dr wp co pr cnt W T n a0 a4 b4 := uCb_e C3 (fun q j h1 h2 => f4.1 q j (by omega) (by omega)) (fun q j e => f4.2 q j (by omega) (by omega)) A4
        have H4 : uHm a4 := uHm_o H3 (fun j => f4.1 78 j (by omega) (by omega))
        have B4 := (uRow_x hn0 (m := m) (by omega) ⟨X3.1.1, y1, y2, y3, y4, y5, y6⟩ (c := c) ⟨by omega, hc.2⟩).2
        refine u112_2 (m := m + 1) hK hn0 uWo57 (by decide) C4 H4 X4 B4 (by omega) (by decide) (fun a5 b5 z f5 C5 H5 hzz => ?_)
        have g5 : uTe (fun q => ((52 ≤ q ∧ q ≤ 61) ∨ (68 ≤ q ∧ q ≤ 77))) a a5 b b5 := uTe_t (uTe_t f2 g4) (uTe_m f5 (fun q h => by omega))
        exact w111e_2 hz hac hsf hi3 hv hzz (fun _ => nxt (-1) a5 b5 (by decide) g5 C5 H5) (fun _ => nxt v a5 b5 ⟨by omega, by omega⟩ g5 C5 H5)
      have e6 : ((2 ^ 6 : Nat) : Int) = 64 := rfl
      have o1 := xOr_dj 6 (by decide) (m := 1) (y := i % 64) (by decide) (by rw [e6]; omega)
      have o2 := xOr_dj 6 (by decide) (m := 2) (y := i % 64) (by decide) (by rw [e6]; omega)
      rw [e6] at o1 o2
      have p1 : xOr (1 * 64) (i % 64) = 64 + i % 64 := o1
      have p2 : xOr (2 * 64) (i % 64) = 128 + i % 64 := o2
      refine w111i_2 hz hac hsf hi2 (fun e => absurd e (by omega)) (fun _ _ => fin) (fun _ _ _ _ => ?_) (fun _ _ _ _ => ?_) (fun _ _ _ _ => ?_) (fun _ _ _ _ => ?_)
      · rw [p2]
        exact tries _ _ (by omega)
      · rw [p1]
        exact tries _ _ (by omega)
      · rw [p2]
        exact tries _ _ (by omega)
      · rw [p1]
        exact tries _ _ (by omega)
  refine u112_2 (m := m) hK hn0 hwo (by omega) hC hH hX ⟨y1, y2, y3, y4, y5, y6⟩ (by omega) (by decide) (fun a2 b2 z f2 C2 H2 hzz => ?_)
  have g2 : uTe (fun q => ((52 ≤ q ∧ q ≤ 61) ∨ (68 ≤ q ∧ q ≤ 77))) a a2 b b2 := uTe_m f2 (fun q h => by omega)
  have X2 : uCx n w r a2 b2 := uCx_e hwo (by omega) hX g2 (fun q h1 h2 => by omega)
  obtain ⟨_, e6, e12, e8, e9, e10⟩ := X2
  exact w111a_2 hz hzz C2.1.1 (by omega) (by omega) (by omega) (by omega) (by omega) (by decide) (fun _ _ => loop 128 0 (-1) 0 a2 b2 _ _ (by decide) (by decide) (by decide) (by decide) g2 C2 H2) (fun _ _ => loop 128 0 (-1) 1 a2 b2 _ _ (by decide) (by decide) (by decide) (by decide) g2 C2 H2) (fun _ _ => loop 128 0 0 0 a2 b2 _ _ (by decide) (by decide) (by decide) (by decide) g2 C2 H2) (fun _ _ => loop 128 0 0 1 a2 b2 _ _ (by decide) (by decide) (by decide) (by decide) g2 C2 H2)
end
end
