section
/-! holds, plan, wanted by rows -/
section
set_option maxRecDepth 100000


section
variable {Ln : Nat} {xs : Nat → Int32} {ro : Nat → Nat × (Nat → Int32)} {d w : Nat} {Q : Option Value → pmS → Prop} {dr wp co pr cnt W : Int → Int} {T : Int → List Int} {n f k p x wh bg : Int} {S S' r r' : Int → Int} {ts ks : List Int} {a a' a0 : xA} {b b' : xB} {l : Int64}
theorem uCb_x (h : uCb dr wp co pr cnt W T n a0 a b) (hx : uPx a a' b b') (hA : xAr a') (hM : uMC dr wp pr cnt T b') : uCb dr wp co pr cnt W T n a0 a' b' := by
  have y1 : ∀ q j, ¬ (34 ≤ q ∧ q ≤ 42) → a' q j = a q j := fun q j e => hx.1 q j (by omega) (by omega) (by omega) (by omega) (by omega) (by omega) (by omega)
  refine ⟨uPg_x h.1 hx hA, h.2.1, fun p p0 p1 => ?_, hM, uLx_o h.2.2.2.2 (fun q j e1 e2 => y1 q j (by omega))⟩
  have e11 : ∀ j, a' 11 j = a 11 j := fun j => y1 11 j (by omega)
  obtain ⟨g1, g2⟩ := h.2.2.1 p p0 p1
  exact ⟨fun i j i0 ij jc => by rw [e11, e11]; exact g1 i j i0 ij jc, fun k k0 k1 => by
    obtain ⟨i, i0, i1, i2⟩ := g2 k k0 k1
    exact ⟨i, i0, i1, by rw [e11]; exact i2⟩⟩
theorem uCw_x (hw : uWo w) (h : uCw n w r a b) (hx : uPx a a' b b') : uCw n w r a' b' := by
  have h2 := hw.2
  have y1 : ∀ q j, ¬ (34 ≤ q ∧ q ≤ 42) → a' q j = a q j := fun q j e => hx.1 q j (by omega) (by omega) (by omega) (by omega) (by omega) (by omega) (by omega)
  have y2 : ∀ q j, ¬ (34 ≤ q ∧ q ≤ 36) → b' q j = b q j := fun q j e => hx.2 q j (by omega) (by omega) (by omega)
  exact uCw_o h (fun j => y1 _ j (by omega)) (y1 w 11 (by omega)) (y2 w 4 (by omega)) (y2 w 5 (by omega)) (fun g g0 g1 => y2 (w + 1) g (by omega))
/-- whether one may ask -/
def uAk (cnt r : Int → Int) (p k : Int) : Prop := (1 ≤ p ∧ p < 4) ∧ (0 ≤ k ∧ k < cnt p) ∧ ¬ r p = 7
theorem u71 (q1 : xR p) (q2 : xR k) (hA : xAr a) (hb : a 0 12 = 1) (hcn : ∀ f, 1 ≤ f → f ≤ 3 → a 12 f = cnt f) (hr : uRv n r) (hT : uRt n 21 r b) (hd : 4 ≤ d) (hY : uAk cnt r p k → Q (some (xV 1)) (xS a b)) (hN : ¬ uAk cnt r p k → Q (some (xV 0)) (xS a b)) : pmCs ro d 71 [.ref 0, xV p, xV k] (xS a b) Q := by
  have sl : (1 ≤ p ∧ p < 4) → uSl (b 21 4) p = r p + 1 := fun hp => (hT.1 p (by omega) (by omega)).trans (uWs_p (by omega))
  refine pmCs_deep (d := 4) (xg71 (w71 q1 q2 hA hb (by decide) (by decide) (fun e => absurd e (by decide)) (fun _ hp e => hN (fun h => ?_)) (fun _ hp e1 e2 => hN (fun h => ?_)) (fun _ hp e1 e2 e3 => hN (fun h => ?_)) (fun _ hp e1 e2 e3 => hY ⟨hp, ?_, ?_⟩) (fun _ e => hN (fun h => e h.1)))) hd
  · have := h.2.1
    omega
  · have := h.2.1
    rw [hcn p hp.1 (by omega)] at e2
    omega
  · have := sl hp
    exact h.2.2 (by omega)
  · rw [hcn p hp.1 (by omega)] at e2
    omega
  · have := sl hp
    omega
theorem u71n (q1 : xR p) (q2 : xR k) (hA : xAr a) (hb : a 0 12 = 0) (hd : 4 ≤ d) (hN : Q (some (xV 0)) (xS a b)) : pmCs ro d 71 [.ref 0, xV p, xV k] (xS a b) Q :=
  pmCs_deep (d := 4) (xg71 (w71 q1 q2 hA hb (by decide) (by decide) (fun _ => hN) (fun e => absurd rfl e) (fun e => absurd rfl e) (fun e => absurd rfl e) (fun e => absurd rfl e) (fun e => absurd rfl e))) hd
theorem u70n (q1 : xR p) (q2 : xR k) (hA : xAr a) (hb : a 0 12 = 0) (hd : 5 ≤ d) (hN : Q (some (xV (-1))) (xS a b)) : pmCs ro d 70 [.ref 0, xV p, xV k] (xS a b) Q :=
  pmCs_deep (d := 5) (xg70 (w70 (u71n q1 q2 hA hb (by decide) (w70a (by decide) (fun e => absurd e (by decide)) (fun e => absurd rfl e) (fun _ => hN))))) hd
theorem u76n (q1 : xR p) (q2 : xR k) (hA : xAr a) (hb : a 0 12 = 0) (hd : 5 ≤ d) (hN : Q (some (xV (-1))) (xS a b)) : pmCs ro d 76 [.ref 0, xV p, xV k, xV wh] (xS a b) Q :=
  pmCs_deep (d := 5) (xg76 (w76 (u71n q1 q2 hA hb (by decide) (w76a (by decide) (fun e => absurd e (by decide)) (fun e => absurd rfl e) (fun _ => hN))))) hd
theorem u84n (q1 : xR p) (hA : xAr a) (hb : a 0 12 = 0) (hd : 4 ≤ d) (hN : Q (some (xV (-1))) (xS a b)) : pmCs ro d 84 [.ref 0, xV p] (xS a b) Q :=
  pmCs_deep (d := 4) (xg84 (w84 q1 hA hb (by decide) (by decide) (fun _ => hN) (fun e => absurd rfl e) (fun e => absurd rfl e) (fun e => absurd rfl e))) hd
/-- holds of the class -/
theorem u70 (q1 : xR p) (q2 : xR k) (hK : uRk pr cnt W T) (hn0 : 0 ≤ n ∧ n ≤ 5) (hC : uCb dr wp co pr cnt W T n a0 a b) (hW : uCw n 21 r a b) (hb : a 0 12 = 1) (hd : 5 ≤ d) (hY : uAk cnt r p k → ∀ a' z, uPx a a' b b → uCb dr wp co pr cnt W T n a0 a' b → (z = 0 ∨ z = 1) → (z = 1 ↔ uHold p (T (p * 3 + k)) (uMn n r p) = true) → Q (some (xV z)) (xS a' b)) (hN : ¬ uAk cnt r p k → Q (some (xV (-1))) (xS a b)) : pmCs (pmRo Ln xs) d 70 [.ref 0, xV p, xV k] (xS a b) Q := by
  refine pmCs_deep (d := 5) (xg70 (w70 (u71 q1 q2 hC.1.1 hb (fun f f0 f1 => (hC.1.2.2.2.2.2.2.1 f f0 f1).1) hW.1 hW.2.1 (by decide) (fun h => ?_) (fun h => w70a (by decide) (fun e => absurd e (by decide)) (fun e => absurd rfl e) (fun _ => hN h))))) hd
  have hp : 1 ≤ p ∧ p ≤ 3 := ⟨h.1.1, by have := h.1.2; omega⟩
  have hms := uMn_s hn0 hW.1 hp (hW.2.2.1 p hp.1 hp.2) (hW.2.2.2.1 p hp.1 h.1.2 h.2.2) hW.2.2.2.2.1 h.2.2
  have hok := uOk_q hp hms (uMn_ok hn0 hW.1 hp h.2.2).1
  refine w70a (by decide) (fun _ => hp) (fun _ => ?_) (fun e => absurd e (by decide))
  refine u72 hC.1 hC.2.1 hp h.2.1 hok (by decide) (fun a' z x1 A1 _ _ _ hz hi => ?_)
  rw [uQ_hold hms hp (uTks_k (hK.2 p k hp.1 hp.2 h.2.1.1 h.2.1.2).1)] at hi
  have fin := hY h a' z x1 (uCb_x hC x1 A1 hC.2.2.2.1) hz hi
  rcases hz with e | e
  · subst e
    exact w70b (by decide) (fun _ => fin) (fun e => absurd rfl e)
  · subst e
    exact w70b (by decide) (fun e => absurd e (by decide)) (fun _ => fin)
/-- wanted of the class -/
theorem u84 (q1 : xR p) (hK : uRk pr cnt W T) (hn0 : 0 ≤ n ∧ n ≤ 5) (hC : uCb dr wp co pr cnt W T n a0 a b) (hW : uCw n 21 r a b) (hb : a 0 12 = 1) (hd : 10 ≤ d) (hY : (1 ≤ p ∧ p < 4) ∧ ¬ r p = 7 → ∀ a' b', uPx a a' b b' → uCb dr wp co pr cnt W T n a0 a' b' → Q (some (xV (if uWk dr wp pr cnt W T n r p = -1 then -2 else uWk dr wp pr cnt W T n r p))) (xS a' b')) (hN : ¬ ((1 ≤ p ∧ p < 4) ∧ ¬ r p = 7) → Q (some (xV (-1))) (xS a b)) : pmCs (pmRo Ln xs) d 84 [.ref 0, xV p] (xS a b) Q := by
  have sl : (1 ≤ p ∧ p < 4) → uSl (b 21 4) p = r p + 1 := fun hp => (hW.2.1.1 p (by omega) (by omega)).trans (uWs_p (by omega))
  refine pmCs_deep (d := 10) (xg84 (w84 q1 hC.1.1 hb (by decide) (by decide) (fun e => absurd e (by decide)) (fun _ hp e => ?_) (fun _ hp e => hN (fun h => ?_)) (fun _ e => hN (fun h => e h.1)))) hd
  · have hal : ¬ r p = 7 := by
      have := sl hp
      omega
    have hp3 : 1 ≤ p ∧ p ≤ 3 := ⟨hp.1, by omega⟩
    have hms := uMn_s hn0 hW.1 hp3 (hW.2.2.1 p hp3.1 hp3.2) (hW.2.2.2.1 p hp3.1 hp.2 hal) hW.2.2.2.2.1 hal
    have hok := uOk_q hp3 hms (uMn_ok hn0 hW.1 hp3 hal).1
    refine u85 hC.1 hC.2.1 hC.2.2.1 hC.2.2.2.1 hp3 hok (hW.2.2.1 p hp3.1 hp3.2).1 (by decide) (fun a2 b2 k z x2 A2 M2 hch z1 z2 => ?_)
    have hch2 : uChs (cnt p) (fun i => W (p * 3 + i)) (fun i => uFd dr wp pr (T (p * 3 + i)) p (uMn n r p)) k := uChs_c hch (fun i i0 i1 => uFd_c hp3 (uTks_k (hK.2 p i hp3.1 hp3.2 i0 i1).1) hms)
    have ewk := uWk_e hch2
    have fin := hY ⟨hp, hal⟩ a2 b2 x2 (uCb_x hC x2 A2 M2)
    rw [ewk] at fin
    obtain ⟨wb1, wb2⟩ := uWd_b (dr := dr) (wp := wp) (n := n) hK hp3 hch2
    by_cases hk1 : k = -1
    · rw [if_pos hk1] at fin
      rw [z1 hk1]
      exact w84a (by decide) (by decide) (fun e => absurd rfl e) (fun _ => fin)
    · rw [if_neg hk1] at fin
      have hz := z2 hk1
      have hk3 : 0 ≤ k ∧ k < cnt p := by
        rcases hch2 with g | g
        · exact absurd g.1 hk1
        · exact g.1
      have hfd : 0 ≤ uD (uFd dr wp pr (T (p * 3 + k)) p (uSl (b 22 p))) ∧ uD (uFd dr wp pr (T (p * 3 + k)) p (uSl (b 22 p))) < 448 := uD_b _ (by
        have := uFd_b (dr := dr) (wp := wp) (f := p) (hK.2 p k hp3.1 hp3.2 hk3.1 hk3.2).1.1 (S := uSl (b 22 p)) (ts := T (p * 3 + k))
        omega)
      refine w84a (by omega) (by decide) (fun _ => ?_) (fun e => by omega)
      rw [show z / 8192 % 8 - 1 = k by omega]
      exact fin
  · have := sl hp
    exact h.2 (by omega)
/-- the deeds of a packed row -/
theorem uRw_d : ∀ (ks : List Int) (i M : Nat), (∀ k, k ∈ ks → k < 61) → i < ks.length → (uRw ks + M * 512 ^ ks.length) / 512 ^ i % 512 = (uD (ks.getD i (-1))).toNat
  | [], i, M, _, h => absurd h (Nat.not_lt_zero _)
  | x :: r, 0, M, hk, _ => by
    have hx := uD_b x (hk x List.mem_cons_self)
    show ((uD x).toNat + 512 * uRw r + M * 512 ^ (r.length + 1)) / 512 ^ 0 % 512 = (uD x).toNat
    rw [Nat.pow_zero, Nat.div_one, Nat.pow_succ, ← Nat.mul_assoc]
    omega
  | x :: r, i + 1, M, hk, h => by
    have hx := uD_b x (hk x List.mem_cons_self)
    have ih := uRw_d r i M (fun k hk' => hk k (List.mem_cons_of_mem _ hk')) (by
      have : (x :: r).length = r.length + 1 := rfl
      omega)
    show ((uD x).toNat + 512 * uRw r + M * 512 ^ (r.length + 1)) / 512 ^ (i + 1) % 512 = (uD (r.getD i (-1))).toNat
    rw [← ih, Nat.pow_succ 512 i, Nat.mul_comm (512 ^ i) 512, ← Nat.div_div_eq_div_mul]
    congr 2
    rw [Nat.pow_succ, ← Nat.mul_assoc]
    omega
theorem uL2_m : xL2 l % 512 = ((uN l % 512 : Nat) : Int) := by
  have e1 : xL2 l = (l.toBitVec.setWidth 32).toInt := by
    unfold xL2
    show l.toInt32.toBitVec.toInt = _
    rw [Int64.toBitVec_toInt32, BitVec.signExtend_eq_setWidth_of_le _ (by decide)]
  rw [e1]
  unfold uN
  rw [BitVec.toInt_eq_toNat_bmod, BitVec.toNat_setWidth]
  have h : ((l.toBitVec.toNat % 2 ^ 32 : Nat) : Int).bmod (2 ^ 32) = (l.toBitVec.toNat % 2 ^ 32 : Nat) ∨ ((l.toBitVec.toNat % 2 ^ 32 : Nat) : Int).bmod (2 ^ 32) = (l.toBitVec.toNat % 2 ^ 32 : Nat) - (2 ^ 32 : Nat) := by
    rw [Int.bmod_def]
    split <;> omega
  rcases h with h | h <;> rw [h] <;> omega
/-- what a plan tells -/
def uPtl (q : Int × List Int) (wh : Int) : Int := if wh = -1 then q.1 / 8 else if wh = 0 then (q.2.length : Int) else if wh < 0 ∨ 3 * (q.2.length : Int) < wh then -3 else if (wh - 1) % 3 = 0 then uK (q.2.getD ((wh - 1) / 3).toNat (-1)) else if (wh - 1) % 3 = 1 then (if uX (q.2.getD ((wh - 1) / 3).toNat (-1)) = -1 then -3 else uX (q.2.getD ((wh - 1) / 3).toNat (-1))) else if uY (q.2.getD ((wh - 1) / 3).toNat (-1)) = -1 then -3 else uY (q.2.getD ((wh - 1) / 3).toNat (-1))
def uPnl (x : uR) (wh : Int) : Int := match x with
  | none => -2
  | some q => uPtl q wh
theorem uPrt_m {e pt : Int} : uPrt e pt = uPrt (e % 512) pt := by
  unfold uPrt
  split
  · omega
  · split <;> omega
theorem uPrt_d (hk : 0 ≤ k ∧ k < 61) : uPrt (uD k) 0 = uK k ∧ uPrt (uD k) 1 = uX k ∧ uPrt (uD k) 2 = uY k := by
  obtain ⟨d0, d1, d2, d3, d4⟩ := uD_p (k := k) ⟨by omega, hk.2⟩
  have h3 := d3 hk.1
  have hb := uX_b hk
  refine ⟨?_, ?_, ?_⟩
  · unfold uPrt
    rw [if_pos rfl]
    omega
  · unfold uPrt
    rw [if_neg (by decide), if_pos rfl]
    exact h3.1
  · unfold uPrt
    rw [if_neg (by decide), if_neg (by decide)]
    exact h3.2
theorem u82 {z : Int} (q1 : xR wh) (h1 : 1 ≤ ks.length) (h4 : ks.length ≤ 4) (hk : ∀ k, k ∈ ks → 0 ≤ k ∧ k < 41) (hz : 0 ≤ z ∧ z ≤ 292) (h8 : z % 8 = (ks.length : Int)) (hd : 2 ≤ d) (hQ : Q (some (xV (uPtl (z, ks) wh))) (xS a b)) : pmCs ro d 82 [.long (uPl ks z), xV wh] (xS a b) Q := by
  have hN := uPl_N (l := ks) (z := z) (fun x hx => by have := hk x hx; omega) h4 hz.1 (by omega)
  have hRb := uRw_b ks (fun x hx => by have := hk x hx; omega)
  have h36 : 512 ^ ks.length ≤ 2 ^ 36 := Nat.le_trans (Nat.pow_le_pow_right (by decide) h4) (by decide)
  have ez : xL2 (xShr (uPl ks z) 36) = z := by
    have e := uN_shr (l := uPl ks z) (k := 36) (by decide) (by decide)
    rw [hN, show (36 : Int).toNat = 36 from rfl] at e
    have e2 : uN (xShr (uPl ks z) 36) = z.toNat := by omega
    rw [uN_l2 (by omega), e2]
    omega
  unfold uPtl at hQ
  dsimp only at hQ
  refine pmCs_deep (d := 2) (xg82 (w82 q1 ?_)) hd
  rw [ez]
  have part : ∀ i : Nat, i < ks.length → ∀ pt : Int, uPrt (xL2 (xShr (uPl ks z) (9 * (i : Int)))) pt = uPrt (uD (ks.getD i (-1))) pt := fun i hi pt => by
    have e := uN_shr (l := uPl ks z) (k := 9 * (i : Int)) (by omega) (by omega)
    rw [hN, show (9 * (i : Int)).toNat = 9 * i by omega, Nat.pow_mul, show (2 : Nat) ^ 9 = 512 from rfl] at e
    obtain ⟨M, hM⟩ : ∃ M, z.toNat * 2 ^ 36 = M * 512 ^ ks.length := ⟨z.toNat * 512 ^ (4 - ks.length), by
      rw [Nat.mul_assoc, ← Nat.pow_add, show 4 - ks.length + ks.length = 4 by omega]⟩
    rw [hM] at e
    have hd := uRw_d ks i M (fun k h => by have := hk k h; omega) hi
    rw [← e] at hd
    have hkx := hk (ks.getD i (-1)) (by
      rw [List.getD_eq_getElem?_getD, List.getElem?_eq_getElem hi]
      exact List.getElem_mem hi)
    have hDb := uD_b (ks.getD i (-1)) (by omega)
    rw [uPrt_m, uL2_m, hd, show (((uD (ks.getD i (-1))).toNat : Nat) : Int) = uD (ks.getD i (-1)) by omega]
  have kb : ∀ i : Nat, i < ks.length → 0 ≤ ks.getD i (-1) ∧ ks.getD i (-1) < 41 := fun i hi => hk (ks.getD i (-1)) (by
    rw [List.getD_eq_getElem?_getD, List.getElem?_eq_getElem hi]
    exact List.getElem_mem hi)
  have val : ¬ wh = -1 → ¬ wh = 0 → ¬ wh < -1 → wh ≤ 3 * (z % 8) → ∃ i : Nat, i < ks.length ∧ (wh - 1) / 3 = (i : Int) ∧ uPrt (xL2 (xShr (uPl ks z) (9 * ((wh - 1) / 3)))) ((wh - 1) % 3) = uPrt (uD (ks.getD i (-1))) ((wh - 1) % 3) := fun e1 e2 e3 e4 => by
    refine ⟨((wh - 1) / 3).toNat, by omega, by omega, ?_⟩
    have := part ((wh - 1) / 3).toNat (by omega) ((wh - 1) % 3)
    rw [show ((((wh - 1) / 3).toNat : Nat) : Int) = (wh - 1) / 3 by omega] at this
    exact this
  refine w82a (by omega) q1 (by decide) (fun e1 e2 e3 => ?_) (fun e1 e2 e3 e4 e5 => ?_) (fun e1 e2 e3 e4 e5 => ?_) (fun e1 e2 e3 e4 => ?_) (fun e1 e2 => ?_) (fun e1 => ?_)
  · rw [if_neg e1, if_neg e2, if_pos (Or.inl (by omega))] at hQ
    exact hQ
  · obtain ⟨i, hi, ei, ev⟩ := val e1 e2 e3 e4
    rw [if_neg e1, if_neg e2, if_neg (show ¬ (wh < 0 ∨ 3 * (ks.length : Int) < wh) by omega), ei, show (i : Int).toNat = i from rfl] at hQ
    rw [ev] at e5 ⊢
    obtain ⟨p0, p1, p2⟩ := uPrt_d (k := ks.getD i (-1)) ⟨(kb i hi).1, by have := (kb i hi).2; omega⟩
    rcases (show (wh - 1) % 3 = 0 ∨ (wh - 1) % 3 = 1 ∨ (wh - 1) % 3 = 2 by omega) with h | h | h <;> rw [h] at e5 hQ ⊢
    · rw [if_pos rfl] at hQ
      rw [p0]
      exact hQ
    · rw [p1] at e5
      rw [if_neg (by decide), if_pos rfl, if_neg e5] at hQ
      rw [p1]
      exact hQ
    · rw [p2] at e5
      rw [if_neg (by decide), if_neg (by decide), if_neg e5] at hQ
      rw [p2]
      exact hQ
  · obtain ⟨i, hi, ei, ev⟩ := val e1 e2 e3 e4
    rw [if_neg e1, if_neg e2, if_neg (show ¬ (wh < 0 ∨ 3 * (ks.length : Int) < wh) by omega), ei, show (i : Int).toNat = i from rfl] at hQ
    rw [ev] at e5
    have hkb := kb i hi
    obtain ⟨p0, p1, p2⟩ := uPrt_d (k := ks.getD i (-1)) ⟨hkb.1, by omega⟩
    rcases (show (wh - 1) % 3 = 0 ∨ (wh - 1) % 3 = 1 ∨ (wh - 1) % 3 = 2 by omega) with h | h | h <;> rw [h] at e5 hQ
    · have := (uX_b (k := ks.getD i (-1)) ⟨hkb.1, by omega⟩).2.2.2.2.2.2
      omega
    · rw [p1] at e5
      rw [if_neg (by decide), if_pos rfl, if_pos e5] at hQ
      exact hQ
    · rw [p2] at e5
      rw [if_neg (by decide), if_neg (by decide), if_pos e5] at hQ
      exact hQ
  · rw [if_neg e1, if_neg e2, if_pos (Or.inr (by omega))] at hQ
    exact hQ
  · rw [if_neg e1, if_pos e2] at hQ
    rw [h8]
    exact hQ
  · rw [if_pos e1] at hQ
    exact hQ
end
end
end
section
/-! plan of the class; holds, plan, wanted of the reference -/
section
set_option maxRecDepth 100000


section
variable {Ln : Nat} {xs : Nat → Int32} {ro : Nat → Nat × (Nat → Int32)} {d w : Nat} {Q : Option Value → pmS → Prop} {dr wp co pr cnt W : Int → Int} {T : Int → List Int} {n f k p x wh bg : Int} {S S' r r' : Int → Int} {ts ks : List Int} {a a' a0 : xA} {b b' : xB} {l : Int64}
/-- plan of the class -/
theorem u76 (q1 : xR p) (q2 : xR k) (q3 : xR wh) (hK : uRk pr cnt W T) (hn0 : 0 ≤ n ∧ n ≤ 5) (hC : uCb dr wp co pr cnt W T n a0 a b) (hW : uCw n 21 r a b) (hb : a 0 12 = 1) (hd : 9 ≤ d) (hY : uAk cnt r p k → ∀ a' b', uPx a a' b b' → uCb dr wp co pr cnt W T n a0 a' b' → Q (some (xV (bif uHold p (T (p * 3 + k)) (uMn n r p) then -1 else uPnl (uOpt dr wp pr p (T (p * 3 + k)) 4 (uMn n r p)) wh))) (xS a' b')) (hN : ¬ uAk cnt r p k → Q (some (xV (-1))) (xS a b)) : pmCs (pmRo Ln xs) d 76 [.ref 0, xV p, xV k, xV wh] (xS a b) Q := by
  refine pmCs_deep (d := 9) (xg76 (w76 (u71 q1 q2 hC.1.1 hb (fun f f0 f1 => (hC.1.2.2.2.2.2.2.1 f f0 f1).1) hW.1 hW.2.1 (by decide) (fun h => ?_) (fun h => w76a (by decide) (fun e => absurd e (by decide)) (fun e => absurd rfl e) (fun _ => hN h))))) hd
  have hp : 1 ≤ p ∧ p ≤ 3 := ⟨h.1.1, by have := h.1.2; omega⟩
  have hms := uMn_s hn0 hW.1 hp (hW.2.2.1 p hp.1 hp.2) (hW.2.2.2.1 p hp.1 h.1.2 h.2.2) hW.2.2.2.2.1 h.2.2
  have hok := uOk_q hp hms (uMn_ok hn0 hW.1 hp h.2.2).1
  have htk := uTks_k (hK.2 p k hp.1 hp.2 h.2.1.1 h.2.1.2).1
  refine w76a (by decide) (fun _ => hp) (fun _ => ?_) (fun e => absurd e (by decide))
  refine u77 hC.1 hC.2.1 hC.2.2.2.1 hp h.2.1 hok (hW.2.2.1 p hp.1 hp.2).1 (by decide) (fun a' b' x1 A1 M1 => ?_)
  have fin := hY h a' b' x1 (uCb_x hC x1 A1 M1)
  have hpl : uPlan dr wp pr T (b 22 p) p k = bif uHold p (T (p * 3 + k)) (uMn n r p) then -1 else (uMg 0 [] (100000, 0) (uOpt dr wp pr p (T (p * 3 + k)) 4 (uMn n r p))).2 := by
    unfold uPlan
    rw [uQ_hold hms hp htk, uQ_opt hp htk 4 _ _ hms]
  rw [hpl]
  have hE := (hC.2.1 p k hp.1 hp.2 h.2.1.1 h.2.1.2).1
  cases hh : uHold p (T (p * 3 + k)) (uMn n r p) with
  | true =>
    rw [hh] at fin
    exact w76b (fun e => absurd ((xCmp0 _ _).mpr rfl) e) (fun e => absurd ((xCmp0 _ _).mpr rfl) e) (fun _ => fin)
  | false =>
    rw [hh] at fin
    cases ho : uOpt dr wp pr p (T (p * 3 + k)) 4 (uMn n r p) with
    | none =>
      rw [ho] at fin
      exact w76b (fun _ e => absurd ((xCmp0 _ _).mpr rfl) e) (fun _ _ => fin) (fun e => absurd ((xCmp0 _ _).mp e) (by decide))
    | some q =>
      rw [ho] at fin
      obtain ⟨b1, b2, b3, b4, b5, b6⟩ := uOpt_b hE ho (by decide)
      obtain ⟨z, ks⟩ := q
      have b1 : 0 ≤ z := b1
      have b2 : z ≤ 292 := b2
      have b3 : ks.length ≤ 4 := b3
      have b4 : 1 ≤ ks.length := b4
      have b5 : z % 8 = (ks.length : Int) := b5
      have e1 : (bif false then (-1 : Int64) else (uMg 0 [] ((100000 : Int), (0 : Int64)) (some (z, ks))).2) = uPl ks z := by
        show (if 0 + z < 100000 then (0 + z, uPl ([] ++ ks) (0 + z)) else (100000, 0)).2 = _
        rw [if_pos (by omega), show 0 + z = z by omega]
        rfl
      rw [e1]
      have hN2 := uPl_N (l := ks) (z := z) (fun x hx => by have := b6 x hx; omega) b3 b1 (by omega)
      have hR2 := uRw_b ks (fun x hx => by have := b6 x hx; omega)
      have h4 : 512 ^ ks.length ≤ 2 ^ 36 := Nat.le_trans (Nat.pow_le_pow_right (by decide) b3) (by decide)
      refine w76b (fun _ _ => u82 q3 b4 b3 b6 ⟨b1, b2⟩ b5 (by decide) (w76c fin)) (fun _ e => ?_) (fun e => ?_)
      · have e := (xCmp0 _ _).mp e
        rw [e] at hN2
        have e2 : uN 0 = 0 := rfl
        omega
      · have e := (xCmp0 _ _).mp e
        rw [e] at hN2
        have e2 : uN (-1) = 18446744073709551615 := by decide
        omega
/-- the reference: whether one may ask -/
theorem u184 (q1 : xR p) (q2 : xR k) (hB : uRb dr wp pr cnt W T n a) (hb : a 87 4 = 1) (hd : 6 ≤ d) (hY : uAk cnt (a 88) p k → Q (some (xV 1)) (xS a b)) (hN : ¬ uAk cnt (a 88) p k → Q (some (xV 0)) (xS a b)) : pmCs ro d 184 [.ref 87, xV p, xV k] (xS a b) Q := by
  refine pmCs_deep (d := 6) (xg184 (w184 q1 q2 hB.1 hb (by decide) (by decide) (fun h e => hN (fun g => ?_)) (fun h _ e => hN (fun g => ?_)) (fun h e1 e2 => hY ⟨h.2.1, ?_, h.2.2⟩) (fun e => hN (fun g => e ⟨rfl, g.1, g.2.2⟩)))) hd
  · have := g.2.1
    omega
  · have := g.2.1
    rw [hB.2.2.2.2.1 p h.2.1.1 (by omega)] at e
    omega
  · rw [hB.2.2.2.2.1 p h.2.1.1 (by omega)] at e2
    omega
theorem u184n (q1 : xR p) (q2 : xR k) (hA : xAr a) (hb : a 87 4 = 0) (hd : 6 ≤ d) (hN : Q (some (xV 0)) (xS a b)) : pmCs ro d 184 [.ref 87, xV p, xV k] (xS a b) Q :=
  pmCs_deep (d := 6) (xg184 (w184 q1 q2 hA hb (by decide) (by decide) (fun h => absurd h.1 (by decide)) (fun h => absurd h.1 (by decide)) (fun h => absurd h.1 (by decide)) (fun _ => hN))) hd
theorem u183n (q1 : xR p) (q2 : xR k) (hA : xAr a) (hb : a 87 4 = 0) (hd : 7 ≤ d) (hN : Q (some (xV (-1))) (xS a b)) : pmCs ro d 183 [.ref 87, xV p, xV k] (xS a b) Q :=
  pmCs_deep (d := 7) (xg183 (w183 (u184n q1 q2 hA hb (by decide) (w183a (by decide) (fun e => absurd rfl e) (fun _ => hN))))) hd
theorem u189n (q1 : xR p) (q2 : xR k) (hA : xAr a) (hb : a 87 4 = 0) (hd : 7 ≤ d) (hN : Q (some (xV (-1))) (xS a b)) : pmCs ro d 189 [.ref 87, xV p, xV k, xV wh] (xS a b) Q :=
  pmCs_deep (d := 7) (xg189 (w189 (u184n q1 q2 hA hb (by decide) (w189a (by decide) (fun e => absurd rfl e) (fun _ => hN))))) hd
theorem u197n (q1 : xR p) (hA : xAr a) (hb : a 87 4 = 0) (hd : 6 ≤ d) (hN : Q (some (xV (-1))) (xS a b)) : pmCs ro d 197 [.ref 87, xV p] (xS a b) Q :=
  pmCs_deep (d := 6) (xg197 (w197 q1 hA hb (by decide) (by decide) (fun h => absurd h.1 (by decide)) (fun _ => hN))) hd
/-- what a question leaves of the reference -/
def uWq (dr wp pr cnt W : Int → Int) (T : Int → List Int) (n : Int) (a a' : xA) (b b' : xB) : Prop := uWm a a' b b' ∧ uRb dr wp pr cnt W T n a' ∧ uMV dr wp pr cnt T n a' b'
theorem uWq_8 (h : uWq dr wp pr cnt W T n a a' b b') : a' 88 = a 88 := funext fun j => h.1.1 88 j (by decide) (by decide) (by decide) (by decide) (by decide) (by decide) (by decide) (by omega)
/-- minds, and whether the wish holds -/
theorem u187q {Q : Option Value → pmS → Prop} (hK : uRk pr cnt W T) (hB : uRb dr wp pr cnt W T n a) (hr : uRv n (a 88)) (hV : uMV dr wp pr cnt T n a b) (h : uAk cnt (a 88) p k) (hd : 2 ≤ d) (x1 : ∀ q j, q ≠ 108 → a' q j = a q j) (A1 : xAr a') (M1 : uMd p 0 a' (uMn n (a 88) p)) (hQ : ∀ a2 z, uWq dr wp pr cnt W T n a a2 b b → uMd p 0 a2 (uMn n (a 88) p) → (z = 0 ∨ z = 1) → (z = 1 ↔ uHold p (T (p * 3 + k)) (uMn n (a 88) p) = true) → Q (some (xV z)) (xS a2 b)) : pmCs ro d 187 [.ref 87, xV 0, xV p, xV k] (xS a' b) Q := by
  have hn0 : 0 ≤ n ∧ n ≤ 5 := hB.2.1.2.2.1
  have hp : 1 ≤ p ∧ p ≤ 3 := ⟨h.1.1, by have := h.1.2; omega⟩
  have hc3 := hK.1 p hp.1 hp.2
  have hk := h.2.1
  have hRe := (hK.2 p k hp.1 hp.2 hk.1 hk.2).1
  have hok := (uMn_ok hn0 hr hp h.2.2).1
  have hB1 : uRb dr wp pr cnt W T n a' := uRb_o hB A1 (fun q j e => x1 q j (by omega)) (fun j j0 j1 => by rw [x1 109 j (by decide)]; exact hB.2.2.2.2.2.2 j j0 j1)
  have hRs := uRb_s hB1 hp hk
  refine u187 (lv := 0) A1 M1 (by decide) hp ⟨hk.1, by omega⟩ hok hRs.2.2.2.2.1 hRe.2.2.1 hRs.2.2.2.2.2.1 hRe.2.2.2.1 hRe.2.2.2.2.1 (hRe.2.2.2.2.2 _) hB1.2.2.2.2.2.2 hd (fun a2 z x2 A2 h9 hz hi => ?_)
  have ex : ∀ q j, q ≠ 108 → q ≠ 109 → a2 q j = a q j := fun q j e1 e2 => (x2 q j e2).trans (x1 q j e1)
  refine hQ a2 z ⟨⟨fun q j e0 e1 _ _ _ _ _ _ => ex q j e0 e1, fun _ _ _ => rfl⟩, uRb_o hB A2 (fun q j e => ex q j (by omega) (by omega)) h9, uMV_f hV (ex _ _ (by decide) (by decide)) (fun j => ex _ _ (by decide) (by decide)) (fun _ => rfl)⟩ ⟨?_, fun x x0 x1' => ?_, fun q q0 q1 => ?_⟩ hz hi
  · rw [x2 108 0 (by decide)]
    exact M1.1
  · rw [x2 108 _ (by decide)]
    exact M1.2.1 x x0 x1'
  · rw [x2 108 _ (by decide)]
    exact M1.2.2 q q0 q1
/-- holds of the reference -/
theorem u183 (q1 : xR p) (q2 : xR k) (hK : uRk pr cnt W T) (hB : uRb dr wp pr cnt W T n a) (hr : uRv n (a 88)) (hV : uMV dr wp pr cnt T n a b) (hb : a 87 4 = 1) (hd : 7 ≤ d) (hY : uAk cnt (a 88) p k → ∀ a' z, uWq dr wp pr cnt W T n a a' b b → (z = 0 ∨ z = 1) → (z = 1 ↔ uHold p (T (p * 3 + k)) (uMn n (a 88) p) = true) → Q (some (xV z)) (xS a' b)) (hN : ¬ uAk cnt (a 88) p k → Q (some (xV (-1))) (xS a b)) : pmCs ro d 183 [.ref 87, xV p, xV k] (xS a b) Q := by
  have hn0 : 0 ≤ n ∧ n ≤ 5 := hB.2.1.2.2.1
  refine pmCs_deep (d := 7) (xg183 (w183 (u184 q1 q2 hB hb (by decide) (fun h => w183a (by decide) (fun _ => ?_) (fun e => absurd e (by decide))) (fun h => w183a (by decide) (fun e => absurd rfl e) (fun _ => hN h))))) hd
  have hp : 1 ≤ p ∧ p ≤ 3 := ⟨h.1.1, by have := h.1.2; omega⟩
  refine u186 hB.1 hB.2.1.2.1 hn0 hr hp (by decide) (fun a1 x1 A1 M1 => w183b ?_)
  refine u187q hK hB hr hV h (by decide) x1 A1 M1 (fun a2 z g2 _ hz hi => ?_)
  have fin := hY h a2 z g2 hz hi
  rcases hz with e | e
  · subst e
    exact w183c (by decide) (fun _ => fin) (fun e => absurd rfl e)
  · subst e
    exact w183c (by decide) (fun e => absurd e (by decide)) (fun _ => fin)
/-- wanted of the reference -/
theorem u197 (q1 : xR p) (hK : uRk pr cnt W T) (hB : uRb dr wp pr cnt W T n a) (hr : uRv n (a 88)) (hV : uMV dr wp pr cnt T n a b) (hb : a 87 4 = 1) (hd : 7 ≤ d) (hY : (1 ≤ p ∧ p < 4) ∧ ¬ a 88 p = 7 → ∀ a' b', uWq dr wp pr cnt W T n a a' b b' → Q (some (xV (if uWk dr wp pr cnt W T n (a 88) p = -1 then -2 else uWk dr wp pr cnt W T n (a 88) p))) (xS a' b')) (hN : ¬ ((1 ≤ p ∧ p < 4) ∧ ¬ a 88 p = 7) → Q (some (xV (-1))) (xS a b)) : pmCs ro d 197 [.ref 87, xV p] (xS a b) Q := by
  refine pmCs_deep (d := 7) (xg197 (w197 q1 hB.1 hb (by decide) (by decide) (fun h => ?_) (fun e => hN (fun g => e ⟨rfl, g.1, g.2⟩)))) hd
  have hp : 1 ≤ p ∧ p ≤ 3 := ⟨h.2.1.1, by have := h.2.1.2; omega⟩
  refine u198 hK hB hr hp h.2.2 hV (by decide) (fun a' b' k f1 B1 V1 e42 hch _ => ?_)
  have ewk := uWk_e hch
  have fin := hY ⟨h.2.1, h.2.2⟩ a' b' ⟨f1, B1, V1⟩
  rw [ewk] at fin
  obtain ⟨wb1, wb2⟩ := uWd_b (dr := dr) (wp := wp) (n := n) hK hp hch
  refine w197a e42 wb1 (fun e => ?_) (fun e => ?_)
  · rw [if_neg e] at fin
    exact fin
  · rw [if_pos e] at fin
    exact fin
/-- plan of the reference -/
theorem u189 (q1 : xR p) (q2 : xR k) (q3 : xR wh) (hK : uRk pr cnt W T) (hB : uRb dr wp pr cnt W T n a) (hr : uRv n (a 88)) (hV : uMV dr wp pr cnt T n a b) (hb : a 87 4 = 1) (hd : 7 ≤ d) (hY : uAk cnt (a 88) p k → ∀ a', uWq dr wp pr cnt W T n a a' b b → Q (some (xV (bif uHold p (T (p * 3 + k)) (uMn n (a 88) p) then -1 else uPnl (uOpt dr wp pr p (T (p * 3 + k)) 4 (uMn n (a 88) p)) wh))) (xS a' b)) (hN : ¬ uAk cnt (a 88) p k → Q (some (xV (-1))) (xS a b)) : pmCs ro d 189 [.ref 87, xV p, xV k, xV wh] (xS a b) Q := by
  have hn0 : 0 ≤ n ∧ n ≤ 5 := hB.2.1.2.2.1
  refine pmCs_deep (d := 7) (xg189 (w189 (u184 q1 q2 hB hb (by decide) (fun h => w189a (by decide) (fun _ => ?_) (fun e => absurd e (by decide))) (fun h => w189a (by decide) (fun e => absurd rfl e) (fun _ => hN h))))) hd
  have hp : 1 ≤ p ∧ p ≤ 3 := ⟨h.1.1, by have := h.1.2; omega⟩
  have hc3 := hK.1 p hp.1 hp.2
  have hk := h.2.1
  have hRe := (hK.2 p k hp.1 hp.2 hk.1 hk.2).1
  have hokn := uMn_ok hn0 hr hp h.2.2
  refine u186 hB.1 hB.2.1.2.1 hn0 hr hp (by decide) (fun a1 x1 A1 M1 => w189b ?_)
  refine u187q hK hB hr hV h (by decide) x1 A1 M1 (fun a2 z g2 M2 hz hi => ?_)
  have e88 := uWq_8 g2
  cases hh : uHold p (T (p * 3 + k)) (uMn n (a 88) p) with
  | true =>
    have fin := hY h a2 g2
    rw [hh] at fin hi
    have e : z = 1 := hi.mpr rfl
    subst e
    exact w189c (by decide) (fun e => absurd e (by decide)) (fun _ => fin)
  | false =>
    rw [hh] at hi
    have e : z = 0 := by
      rcases hz with e | e
      · exact e
      · exact absurd (hi.mp e) (by decide)
    subst e
    refine w189c (by decide) (fun _ => ?_) (fun e => absurd rfl e)
    refine u190 hRe ⟨hk.1, by omega⟩ (uRb_s g2.2.1 hp hk) M2 hokn.1 hokn.2 (by decide) (fun a3 z3 f3 R3 B3 hz3 hi3 => ?_)
    have g3 : uWq dr wp pr cnt W T n a a3 b b := by
      obtain ⟨⟨k1, k2⟩, k3, k4⟩ := g2
      have ex : ∀ q j, q ≠ 108 → q ≠ 109 → q ≠ 110 → q ≠ 111 → q ≠ 112 → q ≠ 113 → ¬ (q = 87 ∧ (j = 33 ∨ j = 34)) → a3 q j = a2 q j := f3.1
      refine ⟨⟨fun q j e0 e1 e2 e3 e4 e5 e6 e7 => (ex q j e0 e1 e2 e3 e4 e5 (by omega)).trans (k1 q j e0 e1 e2 e3 e4 e5 e6 e7), fun _ _ _ => rfl⟩, uRb_o k3 R3.1 (fun q j e => ex q j (by omega) (by omega) (by omega) (by omega) (by omega) (by omega) (by omega)) R3.2.2.2.2.2.2, uMV_f k4 (ex _ _ (by decide) (by decide) (by decide) (by decide) (by decide) (by decide) (by decide)) (fun j => ex _ _ (by decide) (by decide) (by decide) (by decide) (by decide) (by decide) (by omega)) (fun _ => rfl)⟩
    have fin := hY h a3 g3
    rw [hh] at fin
    cases ho : uOpt dr wp pr p (T (p * 3 + k)) 4 (uMn n (a 88) p) with
    | none =>
      rw [ho] at fin
      have e := hi3.mpr ho
      subst e
      exact w189d (by decide) (fun e => absurd rfl e) (fun _ => fin)
    | some q =>
      rw [ho] at fin
      have e : z3 = 1 := by
        rcases hz3 with e | e
        · rw [hi3.mp e] at ho
          cases ho
        · exact e
      subst e
      obtain ⟨⟨l1, l4⟩, m1, m2, m3, m4⟩ := B3.2 q ho
      obtain ⟨z, ks⟩ := q
      have l1 : 1 ≤ ks.length := l1
      have l4 : ks.length ≤ 4 := l4
      have m1 : a3 87 34 = (ks.length : Int) := m1
      have m2 : 8 * a3 87 33 + (ks.length : Int) = z := m2
      have m4 : ∀ (j : Nat) c, ks[j]? = some c → a3 111 (j : Int) = c := m4
      have fin : Q (some (xV (uPtl (z, ks) wh))) (xS a3 b) := fin
      unfold uPtl at fin
      dsimp only at fin
      refine w189d (by decide) (fun _ => ?_) (fun e => absurd e (by decide))
      refine w189e q3 m1 (by omega) (fun e1 e2 e3 => ?_) (fun e1 e2 e3 e4 => ?_) (fun e1 e2 e3 e4 => ?_) (fun e1 e2 => ?_) (fun e1 => ?_)
      · rw [if_neg e1, if_neg e2, if_pos (Or.inl e3)] at fin
        exact fin
      · rw [if_neg e1, if_neg e2, if_neg (show ¬ (wh < 0 ∨ 3 * (ks.length : Int) < wh) by omega)] at fin
        have hi' : ((wh - 1) / 3).toNat < ks.length := by omega
        have hg := List.getElem?_eq_getElem hi'
        have eg : ks.getD ((wh - 1) / 3).toNat (-1) = ks[((wh - 1) / 3).toNat] := by
          rw [List.getD_eq_getElem?_getD, hg]
          rfl
        have e111 := m4 _ _ hg
        rw [show ((((wh - 1) / 3).toNat : Nat) : Int) = (wh - 1) / 3 by omega] at e111
        rw [eg] at fin
        rw [e111]
        have hcb := (uOpt_len hRe.1 4 _ _ ho).2.2.2 _ (List.getElem_mem hi')
        obtain ⟨c, ec⟩ : ∃ c, ks[((wh - 1) / 3).toNat] = c := ⟨_, rfl⟩
        rw [ec] at fin hcb ⊢
        refine w189f ⟨by omega, by omega⟩ ⟨hcb.1, by omega⟩ (uKb ⟨by omega, by omega⟩) (uXb ⟨by omega, by omega⟩) (uYb ⟨by omega, by omega⟩) (by decide) (fun h1 h2 h3 => ?_) (fun h1 h2 h3 => ?_) (fun h1 h2 h3 => ?_) (fun h1 h2 h3 => ?_) (fun h1 h3 => ?_) (fun h1 h3 => ?_)
        · rw [if_neg (by omega), if_neg (by omega), if_neg h3] at fin
          exact fin
        · rw [if_neg (by omega), if_neg (by omega), if_pos h3] at fin
          exact fin
        · rw [if_neg (by omega), if_pos (by omega), if_neg h3] at fin
          exact fin
        · rw [if_neg (by omega), if_pos (by omega), if_pos h3] at fin
          exact fin
        · rw [if_pos (by omega)] at fin
          exact fin
        · have := (uX_b (k := c) ⟨hcb.1, by omega⟩).2.2.2.2.2.2
          omega
      · rw [if_neg e1, if_neg e2, if_pos (Or.inr (by omega))] at fin
        exact fin
      · rw [if_neg e1, if_pos e2] at fin
        exact fin
      · rw [if_pos e1] at fin
        rw [show a3 87 33 = z / 8 by omega]
        exact fin
end
end
end
