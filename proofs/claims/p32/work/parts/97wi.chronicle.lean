/-! the chronicle -/
section
set_option maxRecDepth 100000


section
variable {dr wp co pr cnt W : Int → Int} {T : Int → List Int} {n m t wh k x c cd wt wi p id M L sw ws dn z tt bg : Int} {r r' R : Int → Int} {D C AC : Int → Int} {a a' a'' a0 a1 a2 a3 a4 : xA} {b b' b'' b0 b1 b2 b3 b4 : xB}
/-- who is dead stays dead -/
theorem uDe_7 (hn5 : n ≤ 5) (hr : uRv n r) (hq : 0 ≤ x ∧ x ≤ 3) (hk : 0 ≤ k ∧ k < 61) (hc : uCp n x k r) (hp : 0 ≤ p ∧ p ≤ 3) (h7 : r p = 7) : uDe n x k r p = 7 := by
  have h1 := uRv_e hn5 (uRv_d hn5 hr hq hk (uCp_d hc))
  have hX := uX_b hk
  have hxp : ¬ p = x := fun h => hc.1 (by rw [← h]; exact h7)
  unfold uDe
  rw [uAl_p hn5 h1 (by omega)]
  show (if p = 119 then _ else uDo n x k r p) = 7
  rw [if_neg (by omega)]
  unfold uDo
  by_cases c1 : uK k = 1
  · rw [if_pos c1]
    show (if p = x then _ else r p) = 7
    rw [if_neg hxp, h7]
  rw [if_neg c1]
  by_cases c2 : uK k = 2
  · rw [if_pos c2]
    show (if p = 4 + uX k then _ else r p) = 7
    rw [if_neg (by omega), h7]
  rw [if_neg c2]
  by_cases c3 : uK k = 3
  · rw [if_pos c3]
    show (if p = 4 + uX k then _ else r p) = 7
    rw [if_neg (by omega), h7]
  rw [if_neg c3]
  by_cases c4 : uK k = 4
  · rw [if_pos c4]
    show (if p = 4 + uX k then _ else r p) = 7
    rw [if_neg (by omega), h7]
  rw [if_neg c4]
  by_cases c5 : uK k = 5
  · rw [if_pos c5]
    unfold uZt
    by_cases px : p = uX k
    · rw [if_pos px]
    · rw [if_neg px, if_neg (by omega), if_neg (by omega), h7]
  · rw [if_neg c5]
    have c6 : uK k = 6 := by omega
    have hy := hc.2.2.1 c6
    show (if p = 14 + 9 * (uY k - 1) + uX k then _ else r p) = 7
    rw [if_neg (by omega), h7]
theorem uTr_7 (hn0 : 0 ≤ n ∧ n ≤ 5) (hr : uRv n r) (hcd : cd = -1 ∨ ((0 ≤ cd ∧ cd < 61) ∧ (¬ r 0 = 7 → uCp n 0 cd r))) (hp : 0 ≤ p ∧ p ≤ 3) (q : Nat) (hq : q < 4) (h7 : uTr dr wp pr cnt W T n cd wt r q p = 7) : uTr dr wp pr cnt W T n cd wt r (q + 1) p = 7 := by
  have hv := (uTr_v (dr := dr) (wp := wp) (pr := pr) (cnt := cnt) (W := W) (T := T) (wt := wt) hn0 hr hcd q (by omega)).1
  have hk := uTr_k (dr := dr) (wp := wp) (pr := pr) (cnt := cnt) (W := W) (T := T) (wt := wt) hn0 hr hcd q hq
  show uS1 dr wp pr cnt W T n cd wt q (uTr dr wp pr cnt W T n cd wt r q) p = 7
  obtain ⟨rq, erq⟩ : ∃ z, uTr dr wp pr cnt W T n cd wt r q = z := ⟨_, rfl⟩
  rw [erq] at hv hk h7 ⊢
  by_cases c : rq q = 7 ∨ uDc dr wp pr cnt W T n cd wt q rq = -1
  · rw [uS1_n c]
    exact h7
  · have c1 : ¬ rq q = 7 := fun h => c (Or.inl h)
    have c2 : ¬ uDc dr wp pr cnt W T n cd wt q rq = -1 := fun h => c (Or.inr h)
    rw [uS1_y c1 c2]
    obtain ⟨k1, k2⟩ := hk c1 c2
    exact uDe_7 hn0.2 hv ⟨by omega, by omega⟩ k1 k2 hp h7
theorem uTr_7l (hn0 : 0 ≤ n ∧ n ≤ 5) (hr : uRv n r) (hcd : cd = -1 ∨ ((0 ≤ cd ∧ cd < 61) ∧ (¬ r 0 = 7 → uCp n 0 cd r))) (hp : 0 ≤ p ∧ p ≤ 3) : ∀ (u q : Nat), q + u ≤ 4 → uTr dr wp pr cnt W T n cd wt r q p = 7 → uTr dr wp pr cnt W T n cd wt r (q + u) p = 7
  | 0, _, _, h => h
  | u + 1, q, hq, h => uTr_7 hn0 hr hcd hp (q + u) (by omega) (uTr_7l hn0 hr hcd hp u q (by omega) h)
theorem uAx_7 (hn0 : 0 ≤ n ∧ n ≤ 5) (hr : uRv n r) (hc : 0 ≤ c ∧ c ≤ 56) (ha : uAc dr n c r) (hp : 0 ≤ p ∧ p ≤ 3) (h7 : r p = 7) : uAx n c r p = 7 := by
  unfold uAx
  by_cases c0 : c = 0
  · rw [if_pos c0, h7]
  rw [if_neg c0]
  have hc1 : 1 ≤ c ∧ c ≤ 56 := ⟨by omega, hc.2⟩
  rw [uAl_p hn0.2 (uRv_x hn0 hr hc1) (by omega)]
  unfold uAa
  rw [if_neg (by omega), if_neg (by omega)]
  by_cases cs : c < 36
  · rw [if_pos cs, if_neg (by omega), if_neg (by omega), if_neg (by omega), h7]
  · rw [if_neg cs]
    have hal : ¬ r (1 + (c - 36) / 7) = 7 := by
      rcases ha with g | g
      · exact absurd g c0
      · exact ((uAo_h cs).mp g.2.2).1
    rw [if_neg (fun e => hal (by rw [← e]; exact h7)), if_neg (by omega), h7]
/-- a wish that is chosen has a deed -/
theorem uWk_n {f : Int} (h : uWd dr wp pr cnt W T n r f = -1) : uWk dr wp pr cnt W T n r f = -1 := by
  refine Classical.byContradiction (fun c => ?_)
  unfold uWd at h
  rw [if_neg c] at h
  by_cases hx : ∃ k, uChs (cnt f) (fun i => W (f * 3 + i)) (fun i => uFd dr wp pr (T (f * 3 + i)) f (uMn n r f)) k
  · obtain ⟨k, hk⟩ := hx
    have e := uWk_e hk
    rw [e] at h c
    rcases hk with g | g
    · exact c g.1
    · exact g.2.1 h
  · refine c ?_
    unfold uWk
    rw [dif_neg hx]
theorem uEk_n (hK : uRk pr cnt W T) (hr : uRv n r) (hcd : -1 ≤ cd ∧ cd < 61) (hp : 0 ≤ p ∧ p ≤ 3) (h : uEn dr wp pr cnt W T n cd (-1) a p r) : uEk (a 119 p) (a 116 p) (a 117 p) (a 118 p) := by
  obtain ⟨h1, h2, h3, h4⟩ := h
  by_cases c7 : r p = 7
  · rw [if_pos c7] at h1 h2
    exact Or.inl ⟨h1, h2⟩
  · rw [if_neg c7] at h1 h2
    have hb := uDc_b (dr := dr) (wp := wp) (wt := -1) hK hr hcd hp c7
    by_cases cm : uDc dr wp pr cnt W T n cd (-1) p r = -1
    · rw [if_pos (Or.inr cm)] at h3
      refine Or.inr (Or.inl ⟨h1, h2.trans cm, h3, ?_⟩)
      rw [h4]
      by_cases p0 : p = 0
      · rw [if_pos (Or.inr (Or.inl p0))]
      · rw [if_neg (fun g => g.elim c7 (fun g => g.elim p0 (fun g => by omega)))]
        unfold uDc at cm
        rw [if_neg p0, if_neg (by omega)] at cm
        exact uWk_n cm
    · rw [if_neg (fun g => g.elim c7 cm)] at h3
      have hs := uSg_b (p := p) (k := uDc dr wp pr cnt W T n cd (-1) p r) (r := r) 4
      have h16 : ((2 ^ 4 : Nat) : Int) = 16 := rfl
      refine Or.inr (Or.inr ⟨h1, by omega, by omega, ?_⟩)
      rw [h4]
      by_cases p0 : p = 0
      · rw [if_pos (Or.inr (Or.inl p0))]
        decide
      · rw [if_neg (fun g => g.elim c7 (fun g => g.elim p0 (fun g => by omega)))]
        exact uWk_b hK ⟨by omega, hp.2⟩
/-- the chronicle of both, the row being r -/
def uChr (L : Int) (r : Int → Int) (a : xA) : Prop := a 79 6 = L ∧ (∀ t p, 1 ≤ t → t ≤ L → 0 ≤ p → p < 4 → a 85 (t * 4 + p) = uEe (a 124 (4 * t + p)) (a 120 (4 * t + p)) (a 121 (4 * t + p)) (a 122 (4 * t + p)) ∧ uEk (a 124 (4 * t + p)) (a 120 (4 * t + p)) (a 121 (4 * t + p)) (a 122 (4 * t + p))) ∧ (∀ t, 1 ≤ t → t ≤ L → (0 ≤ a 123 t ∧ a 123 t ≤ 56) ∧ a 86 t = uAn (a 123 t)) ∧ (∀ t, L < t → t ≤ 60 → a 86 t = 0) ∧ uAlv L (a 124) ∧ ∀ p, 1 ≤ L → 0 ≤ p → p < 4 → a 124 (4 * L + p) = 0 → r p = 7
theorem uChr_r (h : uChr L r a) : uRec L (a 124) (a 120) (a 123) a := ⟨h.1, fun t p t1 t2 p0 p1 => by
  obtain ⟨e1, e2⟩ := h.2.1 t p t1 t2 p0 p1
  rw [e1]
  exact uEk_r e2, h.2.2.1⟩
theorem uChr_f : uRef L (a 124) (a 120) (a 123) a := ⟨fun _ _ _ _ _ _ => ⟨rfl, rfl⟩, fun _ _ _ => rfl⟩
theorem uChr_c (h : uChr L r a) : ∀ t p, 1 ≤ t → t ≤ L → 0 ≤ p → p < 4 → -1 ≤ a 120 (4 * t + p) ∧ a 120 (4 * t + p) < 61 := fun t p t1 t2 p0 p1 => by
  rcases (h.2.1 t p t1 t2 p0 p1).2 with g | g | g <;> omega
theorem uChr_g (h : uChr L r a) : uRgs L (a 120) (a 123) := ⟨fun t t1 t2 => by
  have := uChr_c h t 0 t1 t2 (by decide) (by decide)
  rw [show 4 * t + 0 = 4 * t by omega] at this
  exact this, fun t t1 t2 => (h.2.2.1 t t1 t2).1⟩
/-- nothing of it changed -/
theorem uChr_o (h : uChr L r a) (e79 : a' 79 6 = a 79 6) (e : ∀ q j, q = 85 ∨ q = 86 ∨ (120 ≤ q ∧ q ≤ 124) → a' q j = a q j) (hr : ∀ p, 0 ≤ p → p < 4 → r p = 7 → r' p = 7) : uChr L r' a' := by
  have e124 : a' 124 = a 124 := funext fun j => e 124 j (by decide)
  have e120 : a' 120 = a 120 := funext fun j => e 120 j (by decide)
  have e121 : a' 121 = a 121 := funext fun j => e 121 j (by decide)
  have e122 : a' 122 = a 122 := funext fun j => e 122 j (by decide)
  have e123 : a' 123 = a 123 := funext fun j => e 123 j (by decide)
  have e85 : a' 85 = a 85 := funext fun j => e 85 j (by decide)
  have e86 : a' 86 = a 86 := funext fun j => e 86 j (by decide)
  unfold uChr
  rw [e79, e124, e120, e121, e122, e123, e85, e86]
  exact ⟨h.1, h.2.1, h.2.2.1, h.2.2.2.1, h.2.2.2.2.1, fun p l p0 p1 g => hr p p0 p1 (h.2.2.2.2.2 p l p0 p1 g)⟩
/-- a turn -/
theorem uChr_t (hK : uRk pr cnt W T) (hn0 : 0 ≤ n ∧ n ≤ 5) (hL : 0 ≤ L ∧ L < 60) (h : uChr L r a) (hr : uRv n r) (hcb : -1 ≤ cd ∧ cd < 61) (hcd : cd = -1 ∨ ((0 ≤ cd ∧ cd < 61) ∧ (¬ r 0 = 7 → uCp n 0 cd r))) (f1 : uTf 21 a a1 b b1) (n1 : uNt a1 a2 (L + 1)) (g1 : ∀ p : Nat, p < 4 → a1 44 p = uEt dr wp pr cnt W T n cd (-1) p (uTr dr wp pr cnt W T n cd (-1) r p)) (f2 : uPm a2 a3 b2 b3) (n2 : uCn a3 a4 (L + 1)) (g2 : ∀ p : Nat, p < 4 → uEn dr wp pr cnt W T n cd (-1) a3 p (uTr dr wp pr cnt W T n cd (-1) r p)) (er : uRq (uTu dr wp pr cnt W T n cd (-1) r) r') : uChr (L + 1) r' a4 := by
  obtain ⟨x1, x2, x3, x4⟩ := n1
  obtain ⟨y1, y2, y3, y4, y5⟩ := n2
  obtain ⟨c1, c2, c3, c4, c5, c6⟩ := h
  -- what stays
  have low : ∀ q j, (q = 124 ∨ q = 120 ∨ q = 121 ∨ q = 122 ∨ q = 123) → a3 q j = a q j := fun q j hq => by
    rw [f2.1 q j (by omega) (by omega) (by omega) (by omega) (by omega) (by omega) (by omega) (by omega) (by omega) (by omega) (by omega) (by omega) (by omega), x4 q j (by omega) (by omega), f1.1 q j (by omega) (by omega) (by omega) (by omega) (by omega) (by omega)]
  have hi : ∀ j, a4 85 j = a2 85 j ∧ a4 86 j = a 86 j ∧ a4 79 j = a2 79 j := fun j => by
    refine ⟨?_, ?_, ?_⟩
    · rw [y5 85 j (by decide), f2.1 85 j (by decide) (by decide) (by decide) (by decide) (by decide) (by decide) (by decide) (by decide) (by decide) (by decide) (by decide) (by decide) (by omega)]
    · rw [y5 86 j (by decide), f2.1 86 j (by decide) (by decide) (by decide) (by decide) (by decide) (by decide) (by decide) (by decide) (by decide) (by decide) (by decide) (by decide) (by omega), x4 86 j (by decide) (by omega), f1.1 86 j (by decide) (by decide) (by decide) (by omega) (by decide) (by decide)]
    · rw [y5 79 j (by decide), f2.1 79 j (by decide) (by decide) (by decide) (by decide) (by decide) (by decide) (by decide) (by decide) (by decide) (by decide) (by decide) (by decide) (by omega)]
  have old85 : ∀ j, ¬ (4 * (L + 1) ≤ j ∧ j < 4 * (L + 1) + 4) → a4 85 j = a 85 j := fun j hj => by
    rw [(hi j).1, x3 j hj, f1.1 85 j (by decide) (by decide) (by decide) (by omega) (by decide) (by decide)]
  have old : ∀ q j, q = 124 ∨ q = 120 ∨ q = 121 ∨ q = 122 → ¬ (4 * (L + 1) ≤ j ∧ j < 4 * (L + 1) + 4) → a4 q j = a q j := fun q j hq hj => by
    rw [y2 q j hq hj, low q j (by omega)]
  have v := fun q (hq : q ≤ 4) => (uTr_v (dr := dr) (wp := wp) (pr := pr) (cnt := cnt) (W := W) (T := T) (wt := -1) hn0 hr hcd q hq).1
  -- the new entries
  have new : ∀ p, 0 ≤ p → p < 4 → (a4 85 ((L + 1) * 4 + p) = uEe (a4 124 (4 * (L + 1) + p)) (a4 120 (4 * (L + 1) + p)) (a4 121 (4 * (L + 1) + p)) (a4 122 (4 * (L + 1) + p)) ∧ uEk (a4 124 (4 * (L + 1) + p)) (a4 120 (4 * (L + 1) + p)) (a4 121 (4 * (L + 1) + p)) (a4 122 (4 * (L + 1) + p))) ∧ (a4 124 (4 * (L + 1) + p) = 0 ↔ uTr dr wp pr cnt W T n cd (-1) r p.toNat p = 7) := fun p p0 p1 => by
    obtain ⟨z1, z2, z3, z4⟩ := y1 p p0 p1
    obtain ⟨q, eq⟩ : ∃ q : Nat, p = (q : Int) := ⟨p.toNat, by omega⟩
    subst eq
    have hq : q < 4 := by omega
    have hE := g2 q hq
    rw [z1, z2, z3, z4, (hi _).1, show (L + 1) * 4 + (q : Int) = 4 * (L + 1) + q by omega, x2 q p0 p1, g1 q hq, uEt_e hE, show (q : Int).toNat = q from rfl]
    refine ⟨⟨rfl, uEk_n hK (v q (by omega)) hcb ⟨p0, by omega⟩ hE⟩, ?_⟩
    rw [hE.1]
    constructor
    · intro g
      refine Classical.byContradiction (fun g7 => ?_)
      rw [if_neg g7] at g
      exact absurd g (by decide)
    · exact fun g => if_pos g
  refine ⟨(hi 6).2.2.trans x1, fun t p t1 t2 p0 p1 => ?_, fun t t1 t2 => ?_, fun t t1 t2 => ?_, fun p i j p0 p1 i1 ij j1 hj => ?_, fun p _ p0 p1 hz => ?_⟩
  · by_cases et : t = L + 1
    · subst et
      exact (new p p0 p1).1
    · have hj : ¬ (4 * (L + 1) ≤ 4 * t + p ∧ 4 * t + p < 4 * (L + 1) + 4) := by omega
      rw [old 124 _ (by decide) hj, old 120 _ (by decide) hj, old 121 _ (by decide) hj, old 122 _ (by decide) hj, old85 _ (by omega)]
      exact c2 t p t1 (by omega) p0 p1
  · by_cases et : t = L + 1
    · subst et
      rw [y3, (hi _).2.1, c4 _ (by omega) (by omega)]
      exact ⟨by decide, rfl⟩
    · rw [y4 t et, low 123 t (by decide), (hi _).2.1]
      exact c3 t t1 (by omega)
  · rw [(hi _).2.1]
    exact c4 t (by omega) t2
  · by_cases ej : j = L + 1
    · subst ej
      by_cases ei : i = L + 1
      · rw [ei]
        exact hj
      · rw [old 124 _ (by decide) (by omega)]
        have h7 : ¬ r p = 7 := fun g => hj ((new p p0 p1).2.mpr (by
          have := uTr_7l (dr := dr) (wp := wp) (pr := pr) (cnt := cnt) (W := W) (T := T) (wt := -1) hn0 hr hcd ⟨p0, by omega⟩ p.toNat 0 (by omega) g
          rw [Nat.zero_add] at this
          exact this))
        exact c5 p i L p0 p1 i1 (by omega) (Int.le_refl _) (fun g => h7 (c6 p (by omega) p0 p1 g))
    · rw [old 124 _ (by decide) (by omega)] at hj ⊢
      exact c5 p i j p0 p1 i1 ij (by omega) hj
  · have h7 := (new p p0 p1).2.mp hz
    have := uTr_7l (dr := dr) (wp := wp) (pr := pr) (cnt := cnt) (W := W) (T := T) (wt := -1) hn0 hr hcd ⟨p0, by omega⟩ (4 - p.toNat) p.toNat (by omega) h7
    rw [show p.toNat + (4 - p.toNat) = 4 by omega] at this
    rw [er p (by omega)]
    unfold uTu
    rw [if_neg (by omega), if_neg (by omega)]
    exact this
end
end
