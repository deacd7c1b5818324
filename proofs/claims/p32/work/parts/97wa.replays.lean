/-! replays of the reference, by rows -/
section
set_option maxRecDepth 100000


section
variable {Ln : Nat} {xs : Nat → Int32} {ro : Nat → Nat × (Nat → Int32)} {d w : Nat} {Q : Option Value → pmS → Prop} {dr wp co pr cnt W : Int → Int} {T : Int → List Int} {n m t wh k x c cd wt wi p id M L sw ws dn z tt bg : Int} {r r' R : Int → Int} {D C AC : Int → Int} {O O' : Int → Prop} {a a' a'' a0 : xA} {b b' b'' b0 : xB}
theorem uKdo_q (e : uRq r r') (hcd : -1 ≤ cd ∧ cd < 61) : uKdo dr wp n r' cd = uKdo dr wp n r cd := by
  have h := uCa_q (dr := dr) (wp := wp) (n := n) (p := 0) (uWs_q (n := n) e) (by decide) hcd
  by_cases c : uCa dr wp n 0 (uWs n r) cd
  · rw [uKdo_y c, uKdo_y (h.mpr c)]
  · rw [uKdo_n c, uKdo_n (fun g => c (h.mp g))]
theorem uDn_q (e : uRq r r') (hp : 0 ≤ p ∧ p ≤ 3) : uDn p r' = uDn p r := by
  unfold uDn
  rw [e p (by omega)]
theorem uCn2_q (hn5 : n ≤ 5) (e : uRq r r') (hp : 0 ≤ p ∧ p ≤ 3) : uCn2 dr wp pr cnt W T n cd wt p r' = uCn2 dr wp pr cnt W T n cd wt p r := by
  unfold uCn2
  rw [e p (by omega), uDc_q hn5 e hp]
theorem uBqr_q (e : uRq r r') (h : uBqr t r) : uBqr t r' := by
  unfold uBqr
  rw [e 114 (by decide), e 115 (by decide), e 116 (by decide), e 117 (by decide), e 118 (by decide), e 119 (by decide)]
  exact h
theorem uAy_q (hn0 : 0 ≤ n ∧ n ≤ 5) (e : uRq r r') (hr : uRv n r) (hc : 0 ≤ c ∧ c ≤ 56) : uRq (uAy dr n c r) (uAy dr n c r') := by
  by_cases h : uAc dr n c r
  · rw [uAy_y h, uAy_y ((uAc_q e hr hc).mpr h)]
    exact uAx_q hn0 e hr hc
  · rw [uAy_n h, uAy_n (fun g => h ((uAc_q e hr hc).mp g))]
    exact e
/-- what is recorded by the reference, and what may be recorded -/
def uRef (L : Int) (D C AC : Int → Int) (a : xA) : Prop := (∀ t p, 1 ≤ t → t ≤ L → 0 ≤ p → p < 4 → a 124 (4 * t + p) = D (4 * t + p) ∧ a 120 (4 * t + p) = C (4 * t + p)) ∧ ∀ t, 1 ≤ t → t ≤ L → a 123 t = AC t
def uRgs (L : Int) (C AC : Int → Int) : Prop := (∀ t, 1 ≤ t → t ≤ L → -1 ≤ C (4 * t) ∧ C (4 * t) < 61) ∧ ∀ t, 1 ≤ t → t ≤ L → 0 ≤ AC t ∧ AC t ≤ 56
theorem uRef_o (h : uRef L D C AC a) (f : uPq a a' b b') : uRef L D C AC a' := ⟨fun t p t1 t2 p0 p1 => by
  rw [f.1 124 _ (by decide) (by decide) (by decide) (by decide) (by decide) (by decide) (by decide) (by decide) (by decide) (by decide) (by decide) (by decide) (by decide) (by omega), f.1 120 _ (by decide) (by decide) (by decide) (by decide) (by decide) (by decide) (by decide) (by decide) (by decide) (by decide) (by decide) (by decide) (by decide) (by omega)]
  exact h.1 t p t1 t2 p0 p1, fun t t1 t2 => by
  rw [f.1 123 _ (by decide) (by decide) (by decide) (by decide) (by decide) (by decide) (by decide) (by decide) (by decide) (by decide) (by decide) (by decide) (by decide) (by omega)]
  exact h.2 t t1 t2⟩
/-- a replay of the reference has come to row r -/
def uRst (dr wp pr cnt W : Int → Int) (T : Int → List Int) (n : Int) (R : Int → Int) (a0 a : xA) (b0 b : xB) (r : Int → Int) : Prop := uPq a0 a b0 b ∧ uSx dr wp pr cnt W T n a b ∧ uRq r (a 88) ∧ (∀ j, j < 0 ∨ 120 ≤ j → a 88 j = R j) ∧ uShl 1 R a ∧ ∀ j, j < 120 → a 89 j = a0 89 j
/-- playsAnew -/
theorem u233 (hK : uRk pr cnt W T) (hn0 : 0 ≤ n ∧ n ≤ 5) (hS : uRst dr wp pr cnt W T n R a0 a b0 b r) (hr : uRv n r) (hB : uBqr tt r) (htt : 0 ≤ tt ∧ tt ≤ 60) (hF : uRef L D C AC a0) (hG : uRgs L C AC) (ht : 1 ≤ t ∧ t ≤ 60) (htL : t ≤ L) (qwi : xR wi) (hwt : -1 ≤ wt ∧ wt ≤ 3) (hd : 8 ≤ d) (hQ : ∀ a' b', uRst dr wp pr cnt W T n R a0 a' b0 b' (uTu dr wp pr cnt W T n (uRco dr wp n C wi t r) wt r) → (∀ q : Nat, q < 4 → a' 119 q = uDn q (uTr dr wp pr cnt W T n (uRco dr wp n C wi t r) wt r q) ∧ a' 116 q = uCn2 dr wp pr cnt W T n (uRco dr wp n C wi t r) wt q (uTr dr wp pr cnt W T n (uRco dr wp n C wi t r) wt r q)) → Q none (xS a' b')) : pmCs ro d 233 [.ref 87, xV t, xV wi, xV wt] (xS a b) Q := by
  obtain ⟨s1, s2, s3, s4, s5, s6⟩ := hS
  have hv : uRv n (a 88) := uRv_lo hn0.2 hr (fun j hj => s3 j (Or.inl hj))
  have hB2 := uBqr_q s3 hB
  have hF2 := uRef_o hF s1
  obtain ⟨cd, ecd⟩ : ∃ cd, (if t = wi then -1 else C (4 * t)) = cd := ⟨_, rfl⟩
  have hcd : -1 ≤ cd ∧ cd < 61 := by
    rw [← ecd]
    split
    · decide
    · exact hG.1 t ht.1 htL
  have hcp := uKdo_p (dr := dr) (wp := wp) hr hcd
  have hcp2 := uKdo_p (dr := dr) (wp := wp) hv hcd
  rw [uKdo_q s3 hcd] at hcp2
  obtain ⟨ko, eko⟩ : ∃ ko, uKdo dr wp n r cd = ko := ⟨_, rfl⟩
  have eco : uRco dr wp n C wi t r = ko := by
    unfold uRco
    rw [ecd, eko]
  rw [eco] at hQ
  rw [eko] at hcp hcp2
  have e120 : a 120 (4 * t) = C (4 * t) := by
    have h := (hF2.1 t 0 ht.1 htL (by decide) (by decide)).2
    rw [show 4 * t + 0 = 4 * t by omega] at h
    exact h
  have fin : ∀ c2 : Int, pmCs ro 7 208 [.ref 87, xV ko, xV wt] (xS a b) (fun r' s' => pmWp ro 7 12 233 0 46 [some (.ref 87), some (xV t), some (xV wi), some (xV wt), some (xV c2)] (r'.toList ++ []) s' Q) := by
    intro c2
    obtain ⟨h1, h2, h3, h4⟩ := s2
    obtain ⟨b1, b2, b3, b4, b5, b6⟩ := hB2
    refine u208 hK h1 hv h2 h3 (by omega) (by omega) (hcp2.elim Or.inl (fun h => Or.inr ⟨h.1, fun e => uCp_d (h.2 e)⟩)) hwt (by decide) (fun a' b' f1 B1 V1 M1 L1 R1 e114 e115 e119 e119b E1 => ?_)
    obtain ⟨R88, eR⟩ : ∃ R88, a 88 = R88 := ⟨_, rfl⟩
    rw [eR] at hv R1 e114 e119 E1 hcp2 s3 s4
    have v := uTr_v (dr := dr) (wp := wp) (pr := pr) (cnt := cnt) (W := W) (T := T) (wt := wt) hn0 hv hcp2 4 (by decide)
    have nn := uTr_n (dr := dr) (wp := wp) (pr := pr) (cnt := cnt) (W := W) (T := T) (wt := wt) hn0 hv hcp2 4 (by decide)
    have cg := uTr_q (dr := dr) (wp := wp) (pr := pr) (cnt := cnt) (W := W) (T := T) (wt := wt) hn0 hr hcp s3
    have tq := uTu_q (dr := dr) (wp := wp) (pr := pr) (cnt := cnt) (W := W) (T := T) (wt := wt) hn0 hr hcp s3
    refine w233b (hQ a' b' ⟨uPq_t s1 (uPq_m f1), ⟨B1, M1, L1, fun i i0 i1 => by rw [f1.1 100 i (by decide) (by decide) (by decide) (by decide) (by decide) (by decide) (by decide) (by decide) (by decide) (by decide) (by decide) (by decide) (by omega)]; exact h4 i i0 i1⟩, ?_, fun j hj => ?_, ?_, ?_⟩ (fun q hq => ?_))
    · refine uRq_t tq (fun j hj => ?_)
      unfold uTu
      by_cases c1 : j = 114
      · rw [if_pos c1, c1, e114]
      rw [if_neg c1]
      by_cases c2 : j = 115
      · rw [if_pos c2, c2, e115]
      rw [if_neg c2]
      exact R1 j (by omega)
    · rw [← s4 j hj]
      rcases hj with hj | hj
      · exact (R1 j (Or.inl (by omega))).trans (nn j hj)
      · exact (R1 j (by omega)).trans (v.2 j (by omega) (by omega))
    · exact fun j j0 j1 => by rw [f1.1 89 _ (by decide) (by decide) (by decide) (by decide) (by decide) (by decide) (by decide) (by decide) (by decide) (by decide) (by decide) (by decide) (by omega)]; exact s5 j j0 j1
    · exact fun j hj => by rw [f1.1 89 _ (by decide) (by decide) (by decide) (by decide) (by decide) (by decide) (by decide) (by decide) (by decide) (by decide) (by decide) (by decide) (by omega)]; exact s6 j hj
    · have hE := E1 q hq
      have cq := cg q (by omega)
      have hq3 : 0 ≤ (q : Int) ∧ (q : Int) ≤ 3 := by omega
      have e1 := uDn_q (p := (q : Int)) cq hq3
      have e2 := uCn2_q (dr := dr) (wp := wp) (pr := pr) (cnt := cnt) (W := W) (T := T) (cd := ko) (wt := wt) (p := (q : Int)) hn0.2 cq hq3
      exact ⟨hE.1.trans e1, hE.2.1.trans e2⟩
  refine pmCs_deep (d := 8) (xg233 (w233 ht qwi s2.1.1 (fun h1 h2 => ?_) (fun h1 h2 => ?_) (fun h1 => ?_))) hd
  · rw [if_neg h1, ← e120, h2] at ecd
    have : ko = -1 := by
      rw [← eko, ← ecd]
      by_cases g : uCa dr wp n 0 (uWs n r) (-1)
      · rw [uKdo_y g]
      · rw [uKdo_n g]
    rw [← this]
    exact fin _
  · rw [if_neg h1, ← e120] at ecd
    rw [ecd] at h2 ⊢
    refine pmCs_deep (d := 2) (u206 s2.1.1 s2.1.2.1 s2.1.2.2.1 hv (by decide) (by omega) (by decide) (fun hc => ?_) (fun hc => ?_)) (by decide)
    · have hc' := (uCa_q (dr := dr) (wp := wp) (n := n) (p := 0) (uWs_q (n := n) s3) (by decide) hcd).mp hc
      refine w233a (by decide) (fun e => absurd e (by decide)) (fun _ => ?_)
      have : ko = cd := by rw [← eko, uKdo_y hc']
      rw [← this]
      exact fin _
    · have hc' : ¬ uCa dr wp n 0 (uWs n r) cd := fun g => hc ((uCa_q (dr := dr) (wp := wp) (n := n) (p := 0) (uWs_q (n := n) s3) (by decide) hcd).mpr g)
      refine w233a (by decide) (fun _ => ?_) (fun e => absurd rfl e)
      have : ko = -1 := by rw [← eko, uKdo_n hc']
      have f := fin cd
      rw [this] at f
      exact f
  · rw [if_pos h1] at ecd
    have : ko = -1 := by
      rw [← eko, ← ecd]
      by_cases g : uCa dr wp n 0 (uWs n r) (-1)
      · rw [uKdo_y g]
      · rw [uKdo_n g]
    rw [← this]
    exact fin _
/-- isOther -/
theorem u234 {q : Nat} (hq : q < 4) (hS : uRst dr wp pr cnt W T n R a0 a b0 b r') (hF : uRef L D C AC a0) (ht : 1 ≤ t ∧ t ≤ 60) (htL : t ≤ L) (hE : a 119 q = uDn q (uTr dr wp pr cnt W T n (uRco dr wp n C wi t r) wt r q) ∧ a 116 q = uCn2 dr wp pr cnt W T n (uRco dr wp n C wi t r) wt q (uTr dr wp pr cnt W T n (uRco dr wp n C wi t r) wt r q)) (hd : 1 ≤ d) (hT : uOth dr wp pr cnt W T n D C wi wt t r q → Q (some (xV 1)) (xS a b)) (hN : ¬ uOth dr wp pr cnt W T n D C wi wt t r q → Q (some (xV 0)) (xS a b)) : pmCs ro d 234 [.ref 87, xV t, xV q] (xS a b) Q := by
  have hF2 := uRef_o hF hS.1
  have hq3 : 0 ≤ (q : Int) ∧ (q : Int) ≤ 3 := by omega
  obtain ⟨g1, g2⟩ := hF2.1 t q ht.1 htL hq3.1 (by omega)
  have ho : uOth dr wp pr cnt W T n D C wi wt t r q ↔ ¬ (a 124 (4 * t + q) = a 119 q ∧ a 120 (4 * t + q) = a 116 q) := by
    unfold uOth
    rw [g1, g2, hE.1, hE.2, show (q : Int).toNat = q from rfl]
  refine pmCs_deep (d := 1) (xg234 (w234 ht hq3 hS.2.1.1.1 (fun h => ?_) (fun h1 h2 => ?_) (fun h1 h2 => ?_))) hd
  · exact hT (ho.mpr (fun g => h g.1))
  · exact hN (fun g => ho.mp g ⟨h1, h2⟩)
  · exact hT (ho.mpr (fun g => h2 g.2))
/-- actsAnew -/
theorem u235 (hn0 : 0 ≤ n ∧ n ≤ 5) (hS : uRst dr wp pr cnt W T n R a0 a b0 b r) (hr : uRv n r) (hB : uBqr tt r) (htt : 0 ≤ tt ∧ tt ≤ 61) (hF : uRef L D C AC a0) (hG : uRgs L C AC) (ht : 1 ≤ t ∧ t ≤ 60) (htL : t ≤ L) (hd : 5 ≤ d) (hQ : ∀ a' b', uRst dr wp pr cnt W T n R a0 a' b0 b' (uAy dr n (AC t) r) → Q none (xS a' b')) : pmCs ro d 235 [.ref 87, xV t] (xS a b) Q := by
  obtain ⟨s1, s2, s3, s4, s5, s6⟩ := hS
  have hv : uRv n (a 88) := uRv_lo hn0.2 hr (fun j hj => s3 j (Or.inl hj))
  obtain ⟨b1, b2, b3, b4, b5, b6⟩ := uBqr_q s3 hB
  have e123 := (uRef_o hF s1).2 t ht.1 htL
  have hc := hG.2 t ht.1 htL
  refine pmCs_deep (d := 5) (xg235 (w235 ht s2.1.1 ?_)) hd
  rw [e123]
  refine pmCs_deep (d := 4) (u217 s2.1.1 s2.1.2.1.2.1 hn0 s2.1.2.2.1 hv (by omega) b2 hc (by decide) (fun h => w235a ht (by decide) s2.1.1 (fun e => absurd e (by decide)) (fun _ => ?_)) (fun h => w235a ht (by decide) s2.1.1 (fun _ => ?_) (fun e => absurd rfl e))) (by decide)
  · rw [e123]
    refine u221 s2.1.1 s2.1.2.1.2.1 hn0 hv (by omega) (by omega) (by omega) hc (by decide) (fun a' f1 A1 e88 => w235b ?_)
    refine hQ a' b ⟨uPq_t s1 (uPq_8 (fun q j _ e => f1 q j e)), uSx_8 s2 A1 (fun q j _ e => f1 q j e), ?_, fun j hj => ?_, fun j j0 j1 => by rw [f1 89 _ (by decide)]; exact s5 j j0 j1, fun j hj => by rw [f1 89 _ (by decide)]; exact s6 j hj⟩
    · have := uAy_q (dr := dr) hn0 s3 hr hc
      rw [uAy_y h] at this
      rw [e88]
      exact this
    · rw [e88, uAx_n hn0 hv hc hj]
      exact s4 j hj
  · refine hQ a b ⟨s1, s2, ?_, s4, s5, s6⟩
    have := uAy_q (dr := dr) hn0 s3 hr hc
    rw [uAy_n h] at this
    exact this
end
end
