/-! begin -/
section
set_option maxRecDepth 100000


section
variable {Ln : Nat} {xs : Nat → Int32} {d : Nat} {dr wp co pr cnt W c : Int → Int} {T : Int → List Int} {n p k : Int} {R r : Int → Int} {a a' a0 a1 a2 a3 a4 : xA} {b b' b1 b2 : xB}
theorem vVo (hM : vM dr 7 (fun x y => a 6 (7 * x + y))) (hc : ∀ i, 1 ≤ i → i ≤ 5 → 1 ≤ c i ∧ c i ≤ 73) : uVo dr (uV a c) c := by
  obtain ⟨h1, h2, h3⟩ := hM
  obtain ⟨c1, c2⟩ := hc 1 (by decide) (by decide)
  refine ⟨fun x y x0 x6 y0 y6 => ?_, fun x e y x0 x6 e0 e6 y0 y6 hn => ?_, hc⟩
  · obtain ⟨g1, g2⟩ := h1 x y x0 x6 y0 y6
    have g1 : 0 ≤ a 6 (7 * x + y) ∧ a 6 (7 * x + y) ≤ 99 := g1
    have g2 : a 6 (7 * x + y) = 0 ↔ x = y := g2
    show (0 ≤ a 6 (7 * x + y) * c 1 ∧ a 6 (7 * x + y) * c 1 ≤ 7227) ∧ (a 6 (7 * x + y) * c 1 = 0 ↔ x = y)
    refine ⟨⟨Int.mul_nonneg g1.1 (by omega), ?_⟩, ?_⟩
    · have := Int.mul_le_mul g1.2 c2 (by omega) (by decide)
      exact this
    · rw [Int.mul_eq_zero]
      constructor
      · rintro (e | e)
        · exact g2.mp e
        · omega
      · exact fun e => Or.inl (g2.mpr e)
  · have t1 := h3 x e y x0 x6 e0 e6 y0 y6 (by omega)
    have t2 := h2 x e x0 x6 e0 e6 hn
    have t1 : a 6 (7 * x + y) ≤ a 6 (7 * x + e) + a 6 (7 * e + y) := t1
    have t2 : a 6 (7 * x + e) ≤ 1 := t2
    show a 6 (7 * x + y) * c 1 ≤ c 1 + a 6 (7 * e + y) * c 1
    have := Int.mul_le_mul_of_nonneg_right (show a 6 (7 * x + y) ≤ 1 + a 6 (7 * e + y) by omega) (show 0 ≤ c 1 by omega)
    rw [Int.add_mul, Int.one_mul] at this
    exact this
/-- begun, whatever it was -/
def vBg (a : xA) (b : xB) : Prop := ∃ (dr wp co pr cnt W : Int → Int) (T : Int → List Int) (n : Int) (a0 : xA) (R : Int → Int), uBg dr wp co pr cnt W T n a0 R a b
/-- what the table tells, as it is needed at the beginning -/
def vTb (a : xA) : Prop := (∀ k, 0 ≤ k → 0 ≤ a 6 k ∧ a 6 k ≤ 99) ∧ (∀ i, 1 ≤ i → i ≤ 5 → 1 ≤ a 92 i ∧ a 92 i ≤ 9) ∧ (0 ≤ a 13 7 ∧ a 13 7 ≤ 6) ∧ (∀ i, 0 ≤ i → 0 ≤ a 20 i ∧ a 20 i ≤ 4) ∧ (∀ i, 0 ≤ i → 0 ≤ a 100 i ∧ a 100 i ≤ 4) ∧ (∀ i, 0 ≤ i → 0 ≤ a 109 i ∧ a 109 i ≤ 1) ∧ (∀ i, 0 ≤ i → 0 ≤ a 90 i ∧ a 90 i ≤ 1) ∧ (0 ≤ a 87 41 ∧ a 87 41 ≤ 3000) ∧ (∀ i, 0 ≤ i → 0 ≤ a 115 i ∧ a 115 i ≤ 41)
theorem vTb_k (h : kOk (xS a b)) (hA : xAr a) : vTb a := ⟨fun k k0 => xt6 h hA k0, fun i i0 i1 => by
    have : i = 1 ∨ i = 2 ∨ i = 3 ∨ i = 4 ∨ i = 5 := by omega
    rcases this with rfl | rfl | rfl | rfl | rfl <;> exact xT1 h hA (by decide) rfl (by decide +kernel), xt13_7 h hA, fun i i0 => xt20 h hA i0, fun i i0 => xt100 h hA i0, fun i i0 => xt109 h hA i0, fun i i0 => xt90 h hA i0, xt87_41 h hA, fun i i0 => xt115 h hA i0⟩
theorem vMo (h : ∀ j, 0 ≤ j → j < 4096 → b 114 j = 0) (h41 : 0 ≤ a 87 41 ∧ a 87 41 ≤ 3000) : uMo a b := by
  refine ⟨h41, ?_⟩
  have e : (List.range 4096).countP (fun j : Nat => !(b 114 (j : Int) == 0)) = 0 := by
    rw [List.countP_eq_zero]
    intro j hj
    have hj2 := List.mem_range.mp hj
    rw [h (j : Int) (by omega) (by omega)]
    decide
  rw [e]
  exact h41.1
/-- both sides at the beginning -/
theorem vBg_b (h : vPre a b) (hT : vTb a) (x1 : ∀ q j, ¬ q = 6 → ¬ (q = 0 ∧ j = 12) → a1 q j = a q j) (x12 : a1 0 12 = 1) (hM : vM (a 90) 7 (fun x y => a1 6 (7 * x + y))) (hW : ∀ k, 0 ≤ k → 0 ≤ a1 6 k ∧ a1 6 k ≤ 99) (xb : ∀ q j, ¬ (q = 21 ∧ (j = 4 ∨ j = 5)) → ¬ (q = 21 + 1 ∧ 1 ≤ j ∧ j ≤ 3) → b1 q j = b q j) (hT1 : uRt (a 87 2) 21 (uAl (a 87 2) (a 88)) b1) (hM1 : uRm (a 87 2) 21 (uAl (a 87 2) (a 88)) b1) (hO1 : uOx 21 (uAl (a 87 2) (a 88)) b1 4) (hc : uCopd 80 21 a1 a2 b1 b2) (x4 : ∀ q j, ¬ q = 88 → ¬ (q = 87 ∧ j = 4) → ¬ q = 89 → a4 q j = a2 q j) (x88 : a4 88 = uAl (a 87 2) (a 88)) (x89 : uShl 0 (uAl (a 87 2) (a 88)) a4) (x87 : a4 87 4 = 1) (hA4 : xAr a4) : vBg a4 b2 := by
  obtain ⟨⟨g1, g2⟩, hA, ⟨⟨k1, k2, k3, k4, k5⟩, k6, k7⟩, hp, ⟨hv, hw2, hw3, hw4⟩, ⟨v1, v2, v3, v4, v5, v6, v7, v8, v9⟩, ⟨l1, l2, l3, l4⟩, T, ⟨p1, p2, p3, p4⟩⟩ := h
  obtain ⟨t1, t2, t3, t4, t5, t6, t7, t8, t9⟩ := hT
  obtain ⟨n, en⟩ : ∃ n, a 87 2 = n := ⟨_, rfl⟩
  rw [en] at k3 k4 k6 hv hT1 hM1 hO1 x88 x89
  obtain ⟨R, eR⟩ : ∃ R, uAl n (a 88) = R := ⟨_, rfl⟩
  rw [eR] at hT1 hM1 hO1 x88 x89
  have hvR : uRv n R := by
    rw [← eR]
    exact uRv_l k4.2 hv
  have hK : uKh n R 4 := by
    rw [← eR]
    exact uKh_l k4.2
  have hi : ∀ j, 113 ≤ j → j < 120 → R j = 0 := fun j j0 j1 => by
    rw [← eR, uAl_hi k4.2 hv (by omega)]
    exact v1 j j0 j1
  have e21 : ∀ q j, q < 80 → ¬ q = 6 → ¬ (q = 0 ∧ j = 12) → a4 q j = a q j := fun q j h1 h2 h3 => by
    rw [x4 q j (by omega) (by omega) (by omega), hc.2.2.2.2.2.1 q j (by omega), x1 q j h2 h3]
  have e90 : ∀ q j, 85 ≤ q → ¬ q = 88 → ¬ (q = 87 ∧ j = 4) → ¬ q = 89 → a4 q j = a q j := fun q j h1 h2 h3 h4 => by
    rw [x4 q j h2 h3 h4, hc.2.2.2.2.2.1 q j (by omega), x1 q j (by omega) (by omega)]
  have e6 : ∀ j, a4 6 j = a1 6 j := fun j => by
    rw [x4 6 j (by omega) (by omega) (by omega), hc.2.2.2.2.2.1 6 j (by decide)]
  have f21 : ∀ q j, ¬ (80 ≤ q ∧ q ≤ 84) → b2 q j = b1 q j := fun q j h1 => hc.2.2.2.2.2.2 q j h1
  have f1 : ∀ q j, ¬ (80 ≤ q ∧ q ≤ 84) → ¬ (21 ≤ q ∧ q ≤ 22) → b2 q j = b q j := fun q j h1 h2 => by
    rw [f21 q j h1, xb q j (by omega) (by omega)]
  have h12 : a4 0 12 = 1 := by
    rw [x4 0 12 (by decide) (by decide) (by decide), hc.2.2.2.2.2.1 0 12 (by decide), x12]
  have hc73 : ∀ i, 1 ≤ i → i ≤ 5 → 1 ≤ a 5 i ∧ a 5 i ≤ 73 := fun i i0 i1 => by
    have := hp i i0 i1
    have := t2 i i0 i1
    omega
  have hX1 : uCx n 21 R a1 b1 := ⟨⟨hvR, hT1, hM1, hO1, hK, fun c c0 c1 => by
      rw [x1 (21 + 2) c (by omega) (by omega), v4 c c0 c1]
      decide, by
      rw [x1 21 11 (by decide) (by decide), v2 11 (by decide) (by decide), hi 119 (by decide) (by decide)]⟩, by
      rw [x1 21 6 (by decide) (by decide), v2 6 (by decide) (by decide), hi 114 (by decide) (by decide)], by
      rw [x1 21 12 (by decide) (by decide), v2 12 (by decide) (by decide), hi 115 (by decide) (by decide)], by
      rw [x1 21 8 (by decide) (by decide), v2 8 (by decide) (by decide), hi 116 (by decide) (by decide)], by
      rw [x1 21 9 (by decide) (by decide), v2 9 (by decide) (by decide), hi 117 (by decide) (by decide)], by
      rw [x1 21 10 (by decide) (by decide), v2 10 (by decide) (by decide), hi 118 (by decide) (by decide)]⟩
  have hX80 : uCx n 80 R a2 b2 := uCx_cp hX1 hc
  have hX4 : uCx n 80 R a4 b2 := uCx_o uWo80 hX80 (fun q j q1 q2 => x4 q j (by omega) (by omega) (by omega)) (fun _ _ _ _ => rfl)
  have hX21 : uCx n 21 R a4 b2 := uCx_o uWo21 hX1 (fun q j q1 q2 => by
    rw [x4 q j (by omega) (by omega) (by omega), hc.2.2.2.2.2.1 q j (by omega)]) (fun q j q1 q2 => f21 q j (by omega))
  have h114 : R 114 = 0 := hi 114 (by decide) (by decide)
  have h0q : uBqr 0 R := ⟨by omega, by have := hi 115 (by decide) (by decide); omega, by have := hi 116 (by decide) (by decide); omega, by have := hi 117 (by decide) (by decide); omega, by have := hi 118 (by decide) (by decide); omega, by have := hi 119 (by decide) (by decide); omega⟩
  have hRk : uRk (a 92) (a 96) (a 97) T := ⟨fun p p0 p1' => (p1 p p0 p1').2, fun f k f0 f1' k0 k1' => by
    obtain ⟨r1, r2, _⟩ := p2 f k f0 f1' k0 k1'
    exact ⟨⟨t2, ⟨f0, f1'⟩, r1.1, r1.2.1, r1.2.2.1, r1.2.2.2⟩, r2.1, r2.2⟩⟩
  refine ⟨a 90, a 91, a 5, a 92, a 96, a 97, T, n, a1, R, ?_⟩
  unfold uBg
  rw [x88, h114]
  refine ⟨⟨k4, hRk, hvR, h0q⟩, ⟨⟨⟨hA4, ⟨fun k c0 c1 => ?_, fun i i0 i1 => ?_, ?_, k4, fun k c0 c1 => ?_⟩, e6, fun k c0 => ?_, fun k c0 c1 => e21 5 k (by decide) (by decide) (by omega), fun p k c0 c1 c2 c3 => ?_, fun p c0 c1 => ?_, fun p i c0 c1 c2 c3 => ?_⟩, fun p k c0 c1 c2 c3 => ?_, fun p c0 c1 => ?_, fun j j0 j1 => Or.inl ?_, ?_⟩, fun t c0 c1 => ⟨-1, by decide, ?_⟩, fun j j0 j1 => ?_, hX21, hX4, h12⟩, ⟨⟨⟨hA4, ⟨fun i i0 i1 => e90 91 i (by decide) (by decide) (by omega) (by decide), (e90 87 2 (by decide) (by decide) (by omega) (by decide)).trans en, k4, k6⟩, fun k c0 c1 => ⟨e90 90 k (by decide) (by decide) (by omega) (by decide), by have := t7 k c0; omega⟩, fun i i0 i1 => e90 92 i (by decide) (by decide) (by omega) (by decide), fun f c0 c1 => e90 96 f (by decide) (by decide) (by omega) (by decide), fun f k c0 c1 c2 c3 => ?_, fun j j0 j1 => ?_⟩, ⟨?_, fun j j0 j1 => ?_, fun j j0 j1 => Or.inl ?_⟩, ⟨?_, fun c c0 c1 => ?_⟩, fun i i0 i1 => ?_⟩, hvR, ?_, x89, fun j _ => rfl, x87⟩, ?_⟩
  · rw [f1 3 3 (by decide) (by decide)]
    exact k1 k c0 c1
  · rw [e21 3 4 (by decide) (by decide) (by omega)]
    exact k2 i i0 i1
  · rw [e21 3 5 (by decide) (by decide) (by omega)]
    exact k3
  · rw [e21 4 _ (by decide) (by decide) (by omega)]
    exact k5 k c0 c1
  · rw [e6]
    exact hW k c0
  · obtain ⟨_, _, _, r4, _, r6⟩ := p2 p k c0 c1 c2 c3
    rw [e21 9 _ (by decide) (by decide) (by omega)]
    exact ⟨r4, fun j t ht => by
      rw [e21 8 _ (by decide) (by decide) (by omega)]
      exact (r6 j t ht).1⟩
  · rw [e21 12 _ (by decide) (by decide) (by omega)]
    exact p1 p c0 c1
  · rw [e21 11 _ (by decide) (by decide) (by omega)]
    exact p4 p i c0 c1 c2 c3
  · obtain ⟨r1, r2, _⟩ := p2 p k c0 c1 c2 c3
    have := p1 p c0 c1
    exact ⟨⟨vVo hM hc73, vVo hM (fun _ _ _ => (by decide : (1 : Int) ≤ 1 ∧ (1 : Int) ≤ 73)), ⟨c0, c1⟩, fun t ht => (r1.2.1 t ht).1, r1.2.2.2, hp, fun _ _ _ => rfl, t2⟩, r1.1, r1.2.1, by omega, by omega⟩
  · obtain ⟨r1, r2⟩ := p3 p c0 c1
    have e11 : ∀ j, a4 11 j = a 11 j := fun j => e21 11 j (by decide) (by decide) (by omega)
    exact ⟨fun i j i0 ij jc => by rw [e11, e11]; exact r1 i j i0 ij jc, fun k c2 c3 => by
      obtain ⟨i, q1, q2, q3⟩ := r2 k c2 c3
      exact ⟨i, q1, q2, by rw [e11]; exact q3⟩⟩
  · rw [f1 35 j (by decide) (by decide)]
    exact v6 j j0 j1
  · refine ⟨?_, fun i i0 i1 => ?_, fun c c0 c1 => ?_⟩
    · rw [e21 13 7 (by decide) (by decide) (by omega)]
      exact t3
    · rw [e21 20 i (by decide) (by decide) (by omega)]
      exact t4 i i0
    · rw [e21 19 c (by decide) (by decide) (by omega)]
      exact l1 c c0 c1
  · rw [e21 78 t (by decide) (by decide) (by omega), v5 t (by omega) (by omega)]
    rfl
  · show 0 ≤ a4 25 j ∧ a4 25 j ≤ 300
    rw [e21 25 j (by decide) (by decide) (by omega), v3 j j0 j1]
    decide
  · obtain ⟨_, _, _, _, r5, r6⟩ := p2 f k c0 c1 c2 c3
    rw [show 3 * f + k = f * 3 + k by omega, e90 97 _ (by decide) (by decide) (by omega) (by decide), e90 98 _ (by decide) (by decide) (by omega) (by decide)]
    exact ⟨rfl, r5, fun j t ht => by
      rw [e90 99 _ (by decide) (by decide) (by omega) (by decide)]
      exact (r6 j t ht).2⟩
  · rw [e90 109 j (by decide) (by decide) (by omega) (by decide)]
    exact t6 j j0
  · exact vMo (fun j j0 j1 => (f1 114 j (by decide) (by decide)).trans (v7 j j0 j1)) (by
      rw [e90 87 41 (by decide) (by decide) (by omega) (by decide)]
      exact t8)
  · rw [e90 115 j (by decide) (by decide) (by omega) (by decide)]
    exact t9 j j0
  · rw [f1 114 j (by decide) (by decide)]
    exact v7 j j0 j1
  · rw [e90 87 3 (by decide) (by decide) (by omega) (by decide), ← l3]
    exact t3
  · rw [e90 106 c (by decide) (by decide) (by omega) (by decide)]
    exact l2 c c0 c1
  · rw [e90 100 i (by decide) (by decide) (by omega) (by decide)]
    exact t5 i i0
  · have h115 := hi 115 (by decide) (by decide)
    have h116 := hi 116 (by decide) (by decide)
    have h117 := hi 117 (by decide) (by decide)
    have h118 := hi 118 (by decide) (by decide)
    have h119 := hi 119 (by decide) (by decide)
    exact ⟨by decide, h114, by omega, by omega, by omega, by omega, by omega, by omega, fun _ h => absurd h (by decide), by omega, by omega⟩
  · refine ⟨?_, fun t p c0 c1 => absurd c0 (by omega), fun t c0 c1 => absurd c0 (by omega), fun t c0 c1 => ?_, fun p i j _ _ c0 c1 c2 => absurd c0 (by omega), fun p c0 => absurd c0 (by decide)⟩
    · rw [e21 79 6 (by decide) (by decide) (by omega)]
      exact v8
    · rw [e90 86 t (by decide) (by decide) (by omega) (by decide)]
      exact v9 t (by omega) c1
/-- the laws' numbers, alike -/
def vQ (a : xA) : Prop := a 13 7 = a 87 3 ∧ ∀ i, 0 ≤ i → i < a 13 7 → a 20 i = a 100 i
def vBq (a : xA) (b : xB) : Prop := vBg a b ∧ vT a ∧ vQ a
theorem vQ_o (h : vQ a) (e : ∀ q j, q = 20 ∨ q = 100 ∨ (q = 13 ∧ j = 7) ∨ (q = 87 ∧ j = 3) → a' q j = a q j) : vQ a' := by
  unfold vQ
  rw [e 13 7 (by omega), e 87 3 (by omega)]
  exact ⟨h.1, fun i i0 i1 => by
    rw [e 20 i (by omega), e 100 i (by omega)]
    exact h.2 i i0 i1⟩
/-- begin -/
theorem vB57 (h : vPz a b) (hT : vTb a) (hd : 7 ≤ d) : uBo Ln xs vBq d 57 173 [] a b := by
  intro Q hQ
  obtain ⟨h, hz⟩ := h
  have h0 := h
  obtain ⟨⟨g1, g2⟩, hA, ⟨⟨k1, k2, k3, k4, k5⟩, k6, k7⟩, hp, ⟨hv, hw2, hw3, hw4⟩, ⟨v1, v2, v3, v4, v5, v6, v7, v8, v9⟩, hl, _⟩ := h
  have A1 : xAr (xU a 0 12 1) := xAr_u hA ⟨by decide, by decide⟩
  have o1 : ∀ q j, ¬ (q = 0 ∧ j = 12) → (xU a 0 12 1) q j = a q j := fun q j h => if_neg h
  refine pmCs_deep (d := 6) (xg57 (wb57 (by omega) (fun _ => ?_) (fun e => absurd g1 e))) (by omega)
  refine u58 (dr := a 90) A1 (fun k c0 => by rw [o1 6 k (by omega)]; exact hT.1 k c0) k1 (by decide) (fun a1 y1 A2 hW hM => wb57_21 ?_)
  refine u59 (r := a 88) uWo21.1 k4 hv hw2 hw3 (by decide) (fun b1 xb hT1 hM1 hO1 => wb57_32 ?_)
  refine pmCs_deep (d := 4) (xg65 (wb65 ?_)) (by decide)
  have x1 : ∀ q j, ¬ q = 6 → ¬ (q = 0 ∧ j = 12) → a1 q j = a q j := fun q j h1 h2 => (y1 q j h1).trans (o1 q j h2)
  refine u66 uWo80 uWo21 (by decide) A2 (by rw [x1 21 12 (by decide) (by decide), v2 12 (by decide) (by decide)]; decide) (by decide) (fun a2 b2 hc A3 => wb65_8 (wb57_43 (hQ _ _ _ (fun Q2 h2 => ?_))))
  have e2 : ∀ q j, 85 ≤ q → a2 q j = a q j := fun q j hq => by rw [hc.2.2.2.2.2.1 q j (by omega), x1 q j (by omega) (by omega)]
  have A4 : xAr (xU a2 87 4 1) := xAr_u A3 ⟨by decide, by decide⟩
  refine pmCs_deep (d := 6) (xg173 (wb173 (by rw [e2 87 4 (by decide)]; omega) (fun _ => ?_) (fun e => absurd ((e2 87 4 (by decide)).trans g2) e))) (by omega)
  have e88 : (xU a2 87 4 1) 88 = a 88 := funext fun j => (xUn (by decide)).trans (e2 88 j (by decide))
  refine u174 (n := a 87 2) A4 ((xUk (by decide)).trans (e2 87 2 (by decide))) k4 (by rw [e88]; exact hv) (by decide) (fun a3 y3 A5 h88 => wb173_18 ?_)
  rw [e88] at h88
  refine u181 (by decide) (by decide) (wb173_23 (h2 _ _ ⟨vBg_b h0 hT x1 ?_ hM hW xb hT1 hM1 hO1 hc (fun q j h1 h2 h3 => ?_) ?_ ?_ ?_ ?_, vT_o hz (fun q j hq => ?_), vQ_o ⟨hl.2.2.1, hl.2.2.2⟩ (fun q j hq => ?_)⟩))
  · rw [y1 0 12 (by decide), xUa]
  · rw [uLa_n h3, y3 q j h1]
    exact if_neg h2
  · exact (funext fun j => (uLa_n (by decide)).trans rfl).trans h88
  · rw [← h88]
    exact uLa_s
  · rw [uLa_n (by decide), y3 87 4 (by decide), xUa]
  · intro q j
    unfold uLa
    split
    · exact A5 _ _
    · exact A5 _ _
  · rw [uLa_n (by omega), y3 q j (by omega)]
    refine (if_neg (by omega)).trans ?_
    rw [hc.2.2.2.2.2.1 q j (by omega), x1 q j (by omega) (by omega)]
  · rw [uLa_n (by omega), y3 q j (by omega)]
    refine (if_neg (by omega)).trans ?_
    rw [hc.2.2.2.2.2.1 q j (by omega), x1 q j (by omega) (by omega)]
end
end
