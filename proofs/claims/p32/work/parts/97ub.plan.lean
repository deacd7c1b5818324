/-! the class, plans remembered, what is wanted -/
section
set_option maxRecDepth 100000


section
variable {Ln : Nat} {xs : Nat → Int32} {d : Nat} {Q : Option Value → pmS → Prop} {dr wp c pr cnt : Int → Int} {T : Int → List Int} {n p k : Int} {l : Int64} {a0 a a' : xA} {b b' : xB}
/-- the class, ready to plan: what stands, and what never changes -/
def uPg (dr wp c cnt : Int → Int) (T : Int → List Int) (n : Int) (a0 a : xA) (b : xB) : Prop := xAr a ∧ uKs dr wp n a b ∧ (∀ k, a 6 k = a0 6 k) ∧ (∀ k, 0 ≤ k → 0 ≤ a 6 k ∧ a 6 k ≤ 99) ∧ (∀ k, 0 ≤ k → k < 7 → a 5 k = c k) ∧ (∀ p k, 1 ≤ p → p ≤ 3 → 0 ≤ k → k < cnt p → a 9 (p * 3 + k) = ((T (p * 3 + k)).length : Int) ∧ ∀ (j : Nat) t, (T (p * 3 + k))[j]? = some t → a 8 ((p * 3 + k) * 40 + (j : Int)) = cT t) ∧ (∀ p, 1 ≤ p → p ≤ 3 → a 12 p = cnt p ∧ 0 ≤ cnt p ∧ cnt p ≤ 3) ∧ ∀ p i, 1 ≤ p → p ≤ 3 → 0 ≤ i → i < cnt p → 0 ≤ a 11 (p * 3 + i) ∧ a 11 (p * 3 + i) < cnt p
def uPf (dr wp c pr cnt : Int → Int) (T : Int → List Int) (a0 : xA) : Prop := ∀ p k, 1 ≤ p → p ≤ 3 → 0 ≤ k → k < cnt p → uPe dr wp c pr p (p * 3 + k) (T (p * 3 + k)) a0
theorem uPg_s (h : uPg dr wp c cnt T n a0 a b) (hp : 1 ≤ p ∧ p ≤ 3) (hk : 0 ≤ k ∧ k < cnt p) : uPs dr wp c n (p * 3 + k) (T (p * 3 + k)) a0 a b := by
  obtain ⟨h1, h2, h3, h4, h5, h6, h7, h8⟩ := h
  have := h6 p k hp.1 hp.2 hk.1 hk.2
  exact ⟨h1, h2, h3, h4, h5, this.1, this.2⟩
/-- what planning may change -/
def uPx (a a' : xA) (b b' : xB) : Prop := (∀ q j, q ≠ 37 → q ≠ 38 → q ≠ 39 → q ≠ 40 → q ≠ 41 → q ≠ 42 → q ≠ 34 → a' q j = a q j) ∧ ∀ q j, q ≠ 34 → q ≠ 35 → q ≠ 36 → b' q j = b q j
theorem uPx_r : uPx a a b b := ⟨fun _ _ _ _ _ _ _ _ _ => rfl, fun _ _ _ _ _ => rfl⟩
theorem uPx_t {a'' : xA} {b'' : xB} (h : uPx a a' b b') (h' : uPx a' a'' b' b'') : uPx a a'' b b'' := ⟨fun q j e1 e2 e3 e4 e5 e6 e7 => (h'.1 q j e1 e2 e3 e4 e5 e6 e7).trans (h.1 q j e1 e2 e3 e4 e5 e6 e7), fun q j e1 e2 e3 => (h'.2 q j e1 e2 e3).trans (h.2 q j e1 e2 e3)⟩
theorem uPx_c (h : uXc a a' b b') : uPx a a' b b' := ⟨fun q j e1 e2 e3 e4 e5 e6 e7 => h.1 q j e1 e2 e3 e4 e5 e6 (fun e => e7 e.1), fun q j e1 _ _ => h.2 q j (fun e => e1 e.1)⟩
theorem uPx_a {j v : Int} (h : uPx a a' b b') : uPx a (xU a' 34 j v) b b' := ⟨fun q i e1 e2 e3 e4 e5 e6 e7 => by rw [xUn e7]; exact h.1 q i e1 e2 e3 e4 e5 e6 e7, h.2⟩
theorem uPx_b {q : Nat} {j : Int} {v : Int64} (h : uPx a a' b b') (hq : q = 34 ∨ q = 35 ∨ q = 36) : uPx a a' b (xU b' q j v) := ⟨h.1, fun r i e1 e2 e3 => by rw [xUn (by omega)]; exact h.2 r i e1 e2 e3⟩
theorem uPg_x (h : uPg dr wp c cnt T n a0 a b) (hx : uPx a a' b b') (hA : xAr a') : uPg dr wp c cnt T n a0 a' b' := by
  obtain ⟨h1, h2, h3, h4, h5, h6, h7, h8⟩ := h
  have f : ∀ q j, q = 3 ∨ q = 4 ∨ q = 5 ∨ q = 6 ∨ q = 8 ∨ q = 9 ∨ q = 11 ∨ q = 12 → a' q j = a q j := fun q j e => hx.1 q j (by omega) (by omega) (by omega) (by omega) (by omega) (by omega) (by omega)
  refine ⟨hA, uKs_f h2 (fun k => f 3 k (by decide)) (fun k => f 4 k (by decide)) (hx.2 3 3 (by decide) (by decide) (by decide)), fun k => (f 6 k (by decide)).trans (h3 k), fun k k0 => by rw [f 6 k (by decide)]; exact h4 k k0, fun k k0 k1 => (f 5 k (by decide)).trans (h5 k k0 k1), fun p k p0 p1 k0 k1 => ?_, fun p p0 p1 => by rw [f 12 p (by decide)]; exact h7 p p0 p1, fun p i p0 p1 i0 i1 => by rw [f 11 _ (by decide)]; exact h8 p i p0 p1 i0 i1⟩
  obtain ⟨g1, g2⟩ := h6 p k p0 p1 k0 k1
  exact ⟨(f 9 _ (by decide)).trans g1, fun j t ht => (f 8 _ (by decide)).trans (g2 j t ht)⟩
/-- isSo -/
theorem u72 (hG : uPg dr wp c cnt T n a0 a b) (hF : uPf dr wp c pr cnt T a0) (hp : 1 ≤ p ∧ p ≤ 3) (hk : 0 ≤ k ∧ k < cnt p) (hS : uOk p (uSl l)) (hd : 2 ≤ d) (hQ : ∀ a' z, uPx a a' b b → xAr a' → a' 34 10 = p → a' 34 11 = p * 3 + k → a' 34 13 = a 34 13 → (z = 0 ∨ z = 1) → (z = 1 ↔ uHold p (T (p * 3 + k)) (uSl l) = true) → Q (some (xV z)) (xS a' b)) : pmCs (pmRo Ln xs) d 72 [.ref 34, .long l, xV p, xV k] (xS a b) Q := by
  have hE := hF p k hp.1 hp.2 hk.1 hk.2
  have hcn := hG.2.2.2.2.2.2.1 p hp.1 hp.2
  refine pmCs_deep (d := 2) (xg72 (w72 ?_)) hd
  have hx1 : uPx a (xU (xU a 34 10 p) 34 11 (p * 3 + k)) b b := uPx_a (uPx_a uPx_r)
  have hA1 : xAr (xU (xU a 34 10 p) 34 11 (p * 3 + k)) := xAr_u (xAr_u hG.1 ⟨by omega, by omega⟩) ⟨by omega, by omega⟩
  have hP := uPg_s (uPg_x hG hx1 hA1) hp hk
  refine pmCs_mono (uNd (n := n) (Or.inl ⟨rfl, rfl⟩) hE hP (by rw [xUk (by decide), xUa]) xUa hS (by decide) (Q := fun r σ => ∃ a2, r = some (xV (uH (uV a0 u1) u1 wp p (T (p * 3 + k)) (uSl l))) ∧ σ = xS a2 b ∧ uSc (xU (xU a 34 10 p) 34 11 (p * 3 + k)) a2 ∧ xAr a2) (fun a2 s2 A2 => ⟨a2, rfl, rfl, s2, A2⟩)) ?_
  rintro r σ ⟨a2, rfl, rfl, h74⟩
  refine w72b ?_
  refine pmCs_mono h74 ?_
  rintro r σ ⟨a3, rfl, rfl, h75⟩
  refine w72c ?_
  refine pmCs_mono h75 ?_
  rintro r σ ⟨a4, rfl, rfl, s4, A4⟩
  have hz := uH_z (wp := wp) hE.1.2.1 hp hS hE.1.2.2.2.1 (hE.1.2.2.2.2.1 (uSl l))
  have hzb := uH_b (wp := wp) hE.1.2.1 hp hS hE.1.2.2.2.1
  have hx4 : uPx a a4 b b := uPx_t hx1 (uPx_c (uXc_s s4))
  have e10 : a4 34 10 = p := (s4 34 10 (by decide) (by decide) (by decide) (by decide) (by decide) (by decide)).trans (by rw [xUk (by decide), xUa])
  have e11 : a4 34 11 = p * 3 + k := (s4 34 11 (by decide) (by decide) (by decide) (by decide) (by decide) (by decide)).trans xUa
  have e13 : a4 34 13 = a 34 13 := (s4 34 13 (by decide) (by decide) (by decide) (by decide) (by decide) (by decide)).trans (by rw [xUk (by decide), xUk (by decide)])
  refine w72d ⟨hz.1, by omega⟩ (fun e => hQ a4 0 hx4 A4 e10 e11 e13 (Or.inl rfl) ⟨fun g => by omega, fun g => absurd (hz.2.mpr g) e⟩) (fun e => hQ a4 1 hx4 A4 e10 e11 e13 (Or.inr rfl) ⟨fun _ => hz.2.mp e, fun _ => rfl⟩)
/-- the plan, as one number -/
noncomputable def uPlan (dr wp pr : Int → Int) (T : Int → List Int) (l : Int64) (p k : Int) : Int64 := bif uHold p (T (p * 3 + k)) (uSl l) then -1 else (uMg 0 [] (100000, 0) (uOpt dr wp pr p (T (p * 3 + k)) 4 (uSl l))).2
def uKey (l : Int64) (p k : Int) : Int64 := (l ||| xShL (Int64.ofInt p) 36) ||| xShL (Int64.ofInt k) 38
def uHi (l : Int64) : Prop := ∀ j, 9 ≤ j → j < 16 → uSl l j = 0
theorem uKey_s (hp : 0 ≤ p ∧ p ≤ 3) (hk : 0 ≤ k ∧ k ≤ 2) (h9 : uHi l) : (∀ j, 0 ≤ j → j < 9 → uSl (uKey l p k) j = uSl l j) ∧ uSl (uKey l p k) 9 = p + 4 * k := by
  constructor
  · intro j j0 j1
    unfold uKey
    rw [uOr9 hk.1 (by decide) (by decide) j0 j1, uOr9 hp.1 (by decide) (by decide) j0 j1]
  · have hv : uV4 l 9 = 0#4 := by
      apply BitVec.eq_of_toNat_eq
      have := h9 9 (by decide) (by decide)
      rw [uSl_V (by decide) (by decide)] at this
      have e : (0#4).toNat = 0 := rfl
      omega
    have hb : ∀ t : Nat, t < 4 → (uV4 (uKey l p k) 9).getLsbD t = (p.toNat.testBit t || (decide (2 ≤ t) && k.toNat.testBit (t - 2))) := by
      intro t ht
      have h0 := congrArg (fun q : BitVec 4 => q.getLsbD t) hv
      simp only [uV4_bit ht, BitVec.getLsbD_zero] at h0
      rw [uV4_bit ht]
      unfold uKey
      have e9 : (9 : Int).toNat = 9 := rfl
      rw [e9] at h0 ⊢
      have e36 : (36 : Int).toNat = 36 := rfl
      have e38 : (38 : Int).toNat = 38 := rfl
      rw [Int64.toBitVec_or, Int64.toBitVec_or, BitVec.getLsbD_or, BitVec.getLsbD_or, h0, uShL_bit (by decide) (by decide) (by omega), uShL_bit (by decide) (by decide) (by omega), uBc hp.1, uBc hk.1, e36, e38]
      rw [decide_eq_true (show 36 ≤ 4 * 9 + t by omega), decide_eq_true (show 4 * 9 + t - 36 < 64 by omega), show 4 * 9 + t - 36 = t by omega]
      by_cases c : 2 ≤ t
      · rw [decide_eq_true (show 38 ≤ 4 * 9 + t by omega), decide_eq_true (show 4 * 9 + t - 38 < 64 by omega), decide_eq_true c, show 4 * 9 + t - 38 = t - 2 by omega]
        simp
      · rw [decide_eq_false (show ¬ 38 ≤ 4 * 9 + t by omega), decide_eq_false c]
        simp
    have key : ∀ p : Fin 4, ∀ k : Fin 3, ∀ t : Fin 4, (p.val.testBit t.val || (decide (2 ≤ t.val) && k.val.testBit (t.val - 2))) = (BitVec.ofNat 4 (p.val + 4 * k.val)).getLsbD t.val := by decide
    have e : uV4 (uKey l p k) 9 = BitVec.ofNat 4 (p.toNat + 4 * k.toNat) := by
      apply BitVec.eq_of_getLsbD_eq
      intro t ht
      rw [hb t ht]
      exact key ⟨p.toNat, by omega⟩ ⟨k.toNat, by omega⟩ ⟨t, ht⟩
    rw [uSl_V (by decide) (by decide), e, BitVec.toNat_ofNat, Nat.mod_eq_of_lt (by omega)]
    omega
/-- what is remembered is so -/
def uMC (dr wp pr cnt : Int → Int) (T : Int → List Int) (b : xB) : Prop := ∀ j, 0 ≤ j → j < 512 → b 35 j = 0 ∨ ∀ l p k, 1 ≤ p → p ≤ 3 → 0 ≤ k → k < cnt p → uOk p (uSl l) → uHi l → uKey l p k = b 35 j → b 36 j = uPlan dr wp pr T l p k
theorem uPlan_c {l' : Int64} (hp : 1 ≤ p ∧ p ≤ 3) (ht : uTks (T (p * 3 + k))) (h : uQ (uSl l) (uSl l')) : uPlan dr wp pr T l p k = uPlan dr wp pr T l' p k := by
  unfold uPlan
  rw [uQ_hold h hp ht, uQ_opt hp ht 4 _ _ h]
theorem uKey_i {l' : Int64} {p' k' : Int} (hp : 1 ≤ p ∧ p ≤ 3) (hk : 0 ≤ k ∧ k ≤ 2) (h9 : uHi l) (hp' : 1 ≤ p' ∧ p' ≤ 3) (hk' : 0 ≤ k' ∧ k' ≤ 2) (h9' : uHi l') (h : uKey l p k = uKey l' p' k') : p = p' ∧ k = k' ∧ uQ (uSl l) (uSl l') := by
  obtain ⟨e1, e2⟩ := uKey_s (p := p) (k := k) ⟨by omega, by omega⟩ hk h9
  obtain ⟨f1, f2⟩ := uKey_s (p := p') (k := k') ⟨by omega, by omega⟩ hk' h9'
  rw [h, f2] at e2
  refine ⟨by omega, by omega, fun j j0 j1 => ?_⟩
  rw [← e1 j j0 j1, h, f1 j j0 j1]
/-- planOf -/
theorem u77 (hG : uPg dr wp c cnt T n a0 a b) (hF : uPf dr wp c pr cnt T a0) (hM : uMC dr wp pr cnt T b) (hp : 1 ≤ p ∧ p ≤ 3) (hk : 0 ≤ k ∧ k < cnt p) (hS : uOk p (uSl l)) (h9 : uHi l) (hd : 8 ≤ d) (hQ : ∀ a' b', uPx a a' b b' → xAr a' → uMC dr wp pr cnt T b' → Q (some (.long (uPlan dr wp pr T l p k))) (xS a' b')) : pmCs (pmRo Ln xs) d 77 [.ref 34, .long l, xV p, xV k] (xS a b) Q := by
  have hE := hF p k hp.1 hp.2 hk.1 hk.2
  have hSe := hE.1
  have hcn := hG.2.2.2.2.2.2.1 p hp.1 hp.2
  have hcc := hSe.2.2.2.2.2.1
  have hks := uKey_s (p := p) (k := k) ⟨by omega, by omega⟩ ⟨by omega, by omega⟩ h9
  refine pmCs_deep (d := 8) (xg77 (w77 (key := uKey l p k) (at0 := 0) ⟨by omega, by omega⟩ ⟨by omega, by omega⟩ rfl ?_)) hd
  refine w77a (key := uKey l p k) ?_
  obtain ⟨at0, ha⟩ : ∃ z, xL2 (xShr (uKey l p k * (-7046029254386353131 : Int64)) 55) = z := ⟨_, rfl⟩
  have hat := uH55 (uKey l p k * (-7046029254386353131 : Int64))
  rw [ha] at hat
  rw [ha]
  refine w77b hat (fun e => ?_) (fun e => ?_)
  · -- how it ends
    have fin : ∀ (a1 : xA) (b1 : xB) (v8 : Option Value), uPx a a1 b b1 → xAr a1 → b1 35 = b 35 → b1 36 = b 36 → b1 34 14 = uPlan dr wp pr T l p k → pmWp (pmRo Ln xs) 7 3 77 3 138 [some (.ref 34), some (.long l), none, some (xV p), some (xV k), some (.long (uKey l p k)), none, some (xV at0), v8] [] (xS a1 b1) Q := by
      intro a1 b1 v8 g1 g2 g3 g4 g5
      refine w77g hat ?_
      rw [g5]
      refine hQ _ _ (uPx_b (uPx_b g1 (by decide)) (by decide)) g2 (fun j j0 j1 => ?_)
      by_cases ej : j = at0
      · right
        intro l' p' k' p0 p1 k0 k1 hS' h9' hk'
        have hcn' := hG.2.2.2.2.2.2.1 p' p0 p1
        rw [ej, xUn (by decide), xUa] at hk'
        obtain ⟨q1, q2, q3⟩ := uKey_i ⟨p0, p1⟩ ⟨k0, by omega⟩ h9' hp ⟨by omega, by omega⟩ h9 hk'
        subst q1 q2
        rw [ej, xUa]
        exact (uPlan_c ⟨p0, p1⟩ (hF p' k' p0 p1 k0 k1).1.2.2.2.1 q3).symm
      · rw [xUn (by decide), xUk ej, xUk ej, xUn (by decide), g3, g4]
        exact hM j j0 j1
    have hx1 : uPx a (xU a 34 13 100000) b (xU b 34 14 0) := uPx_b (uPx_a uPx_r) (by decide)
    have hA1 : xAr (xU a 34 13 100000) := xAr_u hG.1 ⟨by decide, by decide⟩
    refine u72 (uPg_x hG hx1 hA1) hF hp hk hS (by decide) (fun a2 z x2 A2 e10 e11 e13 hz hzh => ?_)
    have x2' := uPx_t hx1 x2
    refine w77c hat hz (fun ez => ?_) (fun ez => ?_)
    · have hh : uHold p (T (p * 3 + k)) (uSl l) = false := by
        cases g : uHold p (T (p * 3 + k)) (uSl l) with
        | false => rfl
        | true =>
          have := hzh.mpr g
          omega
      have hG2 := uPg_x hG x2' A2
      have h5 : ∀ i, 1 ≤ i → i ≤ 5 → a2 5 i = 8 * pr i + 1 := fun i i0 i1 => (hG2.2.2.2.2.1 i (by omega) (by omega)).trans (hcc i i0 i1)
      refine u78 (fun i i0 i1 => by rw [h5 i i0 i1]; have := hSe.2.2.2.2.2.2.2 i i0 i1; omega) (by decide) (fun ch hch hche => ?_)
      refine w77d hat ?_
      have hPl : ∀ B : Int × Int64, B = uMg 0 [] (100000, 0) (uOpt dr wp pr p (T (p * 3 + k)) 4 (uSl l)) → B.2 = uPlan dr wp pr T l p k := by
        intro B hB
        unfold uPlan
        rw [hh, hB]
        rfl
      -- the loop over limits
      have loop : ∀ (q L : Nat) (a3 : xA) (b3 : xB), 5 - L ≤ q → L ≤ 4 → uPx a a3 b b3 → xAr a3 → b3 35 = b 35 → b3 36 = b 36 → a3 34 10 = p → a3 34 11 = p * 3 + k → a3 34 12 = (L : Int) + 1 → (a3 34 13, b3 34 14) = uMg 0 [] (100000, 0) (uOpt dr wp pr p (T (p * 3 + k)) L (uSl l)) → 0 ≤ a3 34 13 ∧ a3 34 13 ≤ 100000 →
          pmWp (pmRo Ln xs) 7 3 77 3 95 [some (.ref 34), some (.long l), none, some (xV p), some (xV k), some (.long (uKey l p k)), none, some (xV at0), some (xV ch)] [] (xS a3 b3) Q := by
        intro q
        induction q with
        | zero =>
          intro L a3 b3 hq hL
          omega
        | succ q ih =>
          intro L a3 b3 hq hL g1 g2 g3 g4 g5 g6 g7 g8 g9
          have hm : 0 ≤ ((L : Int) + 1) * ch ∧ ((L : Int) + 1) * ch ≤ 400 := ⟨Int.mul_nonneg (by omega) (by omega), Int.le_trans (Int.mul_le_mul (show ((L : Int) + 1) ≤ 5 by omega) hch.2 (by omega) (by decide)) (by decide)⟩
          refine w77e hat hch g7 ⟨by omega, by omega⟩ rfl g9 hm (fun e1 => ?_) (fun e1 e2 => ?_) (fun e1 e2 => ?_)
          · have eL : L = 4 := by omega
            subst eL
            exact fin a3 b3 _ g1 g2 g3 g4 (hPl _ g8)
          · have e3 : (uMg 0 [] (100000, 0) (uOpt dr wp pr p (T (p * 3 + k)) L (uSl l))).1 ≤ ((L : Int) + 1) * ch := by
              rw [← g8]
              exact e2
            have hend := uMg_end (B := ((100000 : Int), (0 : Int64))) hSe (ch := ch) (fun i i0 i1 => by rw [← h5 i i0 i1]; exact hche i i0 i1) hch.2 (by omega) (n := L) (by omega) rfl e3
            exact fin a3 b3 _ g1 g2 g3 g4 (hPl _ (g8.trans hend))
          · have hG3 := uPg_x hG g1 g2
            refine u79 (n := n) hE (L + 1) 0 0 l 0 [] a3 b3 7 _ (by omega) (uPg_s hG3 hp hk) g5 g6 (by rw [g7]; omega) rfl (by omega) (fun _ h => absurd h List.not_mem_nil) rfl hS ⟨by decide, by decide⟩ g9 (by omega) (fun a4 b4 x4 A4 hm4 hb4 => ?_)
            have e12 : a4 34 12 = (L : Int) + 1 := (x4.1 34 12 (by decide) (by decide) (by decide) (by decide) (by decide) (by decide) (by decide)).trans g7
            refine w77f hat e12 ?_
            by_cases eL : L = 3
            · subst eL
              -- one more turn of the loop, which ends it
              have hm5 : (0 : Int) ≤ ((3 : Nat) : Int) + 1 + 1 ∧ 0 ≤ (((3 : Nat) : Int) + 1 + 1) * ch ∧ (((3 : Nat) : Int) + 1 + 1) * ch ≤ 400 := ⟨by decide, by omega, by omega⟩
              refine w77e (lim := ((3 : Nat) : Int) + 1 + 1) hat hch xUa (by decide) rfl (by rw [xUk (by decide)]; exact hb4) hm5.2 (fun _ => ?_) (fun e => absurd (show (4 : Int) < ((3 : Nat) : Int) + 1 + 1 by decide) e) (fun e => absurd (show (4 : Int) < ((3 : Nat) : Int) + 1 + 1 by decide) e)
              refine fin _ b4 _ (uPx_a (uPx_t g1 (uPx_c x4))) (xAr_u A4 ⟨by decide, by decide⟩) ?_ ?_ (hPl (a4 34 13, b4 34 14) ?_)
              · funext j
                rw [x4.2 35 j (fun e => absurd e.1 (by decide)), g3]
              · funext j
                rw [x4.2 36 j (fun e => absurd e.1 (by decide)), g4]
              · show (a4 34 13, b4 34 14) = _
                rw [hm4, g8, uMg_bet, uBet_opt hSe (by decide)]
            · refine ih (L + 1) _ b4 (by omega) (by omega) (uPx_a (uPx_t g1 (uPx_c x4))) (xAr_u A4 ⟨by omega, by omega⟩) ?_ ?_ ?_ ?_ ?_ ?_ (by rw [xUk (by decide)]; exact hb4)
              · funext j
                rw [x4.2 35 j (fun e => absurd e.1 (by decide)), g3]
              · funext j
                rw [x4.2 36 j (fun e => absurd e.1 (by decide)), g4]
              · rw [xUk (by decide), x4.1 34 10 (by decide) (by decide) (by decide) (by decide) (by decide) (by decide) (by decide), g5]
              · rw [xUk (by decide), x4.1 34 11 (by decide) (by decide) (by decide) (by decide) (by decide) (by decide) (by decide), g6]
              · rw [xUa]
                omega
              · rw [xUk (by decide), hm4, g8, uMg_bet, uBet_opt hSe (by omega)]
      refine loop 5 0 _ _ (by decide) (by decide) (uPx_a x2') (xAr_u A2 ⟨by decide, by decide⟩) ?_ ?_ ?_ ?_ xUa ?_ ?_
      · funext j
        rw [xUn (by decide)]
      · funext j
        rw [xUn (by decide)]
      · rw [xUk (by decide)]
        exact e10
      · rw [xUk (by decide)]
        exact e11
      · rw [xUk (by decide), e13, xUa, xUa]
        rfl
      · rw [xUk (by decide), e13, xUa]
        decide
    · have hh : uHold p (T (p * 3 + k)) (uSl l) = true := hzh.mp (by omega)
      refine fin a2 _ _ (uPx_b x2' (by decide)) A2 ?_ ?_ ?_
      · funext j
        rw [xUn (by decide), xUn (by decide)]
      · funext j
        rw [xUn (by decide), xUn (by decide)]
      · rw [xUa]
        unfold uPlan
        rw [hh]
        rfl
  · rw [xCmp0] at e
    rcases hM at0 hat.1 (by omega) with h | h
    · exfalso
      rw [h] at e
      have h2 := hks.2
      rw [← e] at h2
      have h3 : uSl 0 9 = 0 := by decide
      omega
    · rw [h l p k hp.1 hp.2 hk.1 hk.2 hS h9 e.symm]
      exact hQ a b uPx_r hG.1 hM
end
end
