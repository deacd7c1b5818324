/-! plan of the class; holds, plan, wanted of the reference -/
section
set_option maxRecDepth 100000


section
variable {Ln : Nat} {xs : Nat → Int32} {ro : Nat → Nat × (Nat → Int32)} {d w : Nat} {Q : Option Value → pmS → Prop} {dr wp co pr cnt W : Int → Int} {T : Int → List Int} {n f k p x wh bg : Int} {S S' r r' : Int → Int} {ts ks : List Int} {a a' a0 : xA} {b b' : xB} {l : Int64}
/-- plan of the class -/
theorem u76 (q1 : xR p) (q2 : xR k) (q3 : xR wh) (hK : uRk pr cnt W T) (hn0 : 0 ≤ n ∧ n ≤ 5) (hC : uCb dr wp co pr cnt W T n a0 a b) (hW : uCw n 21 r a b) (hb : a 0 12 = 1) (hd : 9 ≤ d) (hY : uAk cnt r p k → ∀ a' b', uPx a a' b b' → uCb dr wp co pr cnt W T n a0 a' b' → Q (some (xV (bif uHold p (T (p * 3 + k)) (uMn n r p) then -1 else uPnl (uOpt dr wp pr p (T (p * 3 + k)) 4 (uMn n r p)) wh))) (xS a' b')) (hN : ¬ uAk cnt r p k → Q (some (xV (-1))) (xS a b)) : pmCs (pmRo Ln xs) d 76 [.ref 0, xV p, xV k, xV wh] (xS a b) Q := by
  refine pmCs_deep (d := 9) (xg76 (w76 (u71 q1 q2 hC.1.1 hb (fun f f0 f1 => (hC.1.2.2.2.2.2.2.1 f f0 f1).1) hW.1 hW.2.1 (by decide) (fun h => ?_) (fun h => w76a (by decide) (fun e => absurd e (by decide)) (fun e => absurd rfl e) (fun _ => hN h))))) hd
  have hp : 1 ≤ p ∧ p ≤ 3 := ⟨h.1.1, by have := h.1.2; omega⟩
  have hms := uMn_s hn0 hW.1 hp (hW.2.2.1 p hp.1 hp.2) (hW.2.2.2.1 p hp.1 h.1.2 h.2.2) hW.2.2.2.2.1 h.2.2
  have hok := uOk_q hp hms (uMn_ok hn0 hW.1 hp h.2.2).1
  have htk := uTks_k (hK.2 p k hp.1 hp.2 h.2.1.1 h.2.1.2).1
  refine w76a (by decide) (fun _ => hp) (fun _ => ?_) (fun e => absurd e (by decide))
  refine u77 hC.1 hC.2.1 hC.2.2.2.1 hp h.2.1 hok (hW.2.2.1 p hp.1 hp.2).1 (by decide) (fun a' b' x1 A1 M1 => ?_)
  have fin := hY h a' b' x1 (uCb_x hC x1 A1 M1)
  have hpl : uPlan dr wp pr T (b 22 p) p k = bif uHold p (T (p * 3 + k)) (uMn n r p) then -1 else (uMg 0 [] (100000, 0) (uOpt dr wp pr p (T (p * 3 + k)) 4 (uMn n r p))).2 := by
    unfold uPlan
    rw [uQ_hold hms hp htk, uQ_opt hp htk 4 _ _ hms]
  rw [hpl]
  have hE := (hC.2.1 p k hp.1 hp.2 h.2.1.1 h.2.1.2).1
  cases hh : uHold p (T (p * 3 + k)) (uMn n r p) with
  | true =>
    rw [hh] at fin
    exact w76b (fun e => absurd ((xCmp0 _ _).mpr rfl) e) (fun e => absurd ((xCmp0 _ _).mpr rfl) e) (fun _ => fin)
  | false =>
    rw [hh] at fin
    cases ho : uOpt dr wp pr p (T (p * 3 + k)) 4 (uMn n r p) with
    | none =>
      rw [ho] at fin
      exact w76b (fun _ e => absurd ((xCmp0 _ _).mpr rfl) e) (fun _ _ => fin) (fun e => absurd ((xCmp0 _ _).mp e) (by decide))
    | some q =>
      rw [ho] at fin
      obtain ⟨b1, b2, b3, b4, b5, b6⟩ := uOpt_b hE ho (by decide)
      obtain ⟨z, ks⟩ := q
      have b1 : 0 ≤ z := b1
      have b2 : z ≤ 292 := b2
      have b3 : ks.length ≤ 4 := b3
      have b4 : 1 ≤ ks.length := b4
      have b5 : z % 8 = (ks.length : Int) := b5
      have e1 : (bif false then (-1 : Int64) else (uMg 0 [] ((100000 : Int), (0 : Int64)) (some (z, ks))).2) = uPl ks z := by
        show (if 0 + z < 100000 then (0 + z, uPl ([] ++ ks) (0 + z)) else (100000, 0)).2 = _
        rw [if_pos (by omega), show 0 + z = z by omega]
        rfl
      rw [e1]
      have hN2 := uPl_N (l := ks) (z := z) (fun x hx => by have := b6 x hx; omega) b3 b1 (by omega)
      have hR2 := uRw_b ks (fun x hx => by have := b6 x hx; omega)
      have h4 : 512 ^ ks.length ≤ 2 ^ 36 := Nat.le_trans (Nat.pow_le_pow_right (by decide) b3) (by decide)
      refine w76b (fun _ _ => u82 q3 b4 b3 b6 ⟨b1, b2⟩ b5 (by decide) (w76c fin)) (fun _ e => ?_) (fun e => ?_)
      · have e := (xCmp0 _ _).mp e
        rw [e] at hN2
        have e2 : uN 0 = 0 := rfl
        omega
      · have e := (xCmp0 _ _).mp e
        rw [e] at hN2
        have e2 : uN (-1) = 18446744073709551615 := by decide
        omega
/-- the reference: whether one may ask -/
theorem u184 (q1 : xR p) (q2 : xR k) (hB : uRb dr wp pr cnt W T n a) (hb : a 87 4 = 1) (hd : 6 ≤ d) (hY : uAk cnt (a 88) p k → Q (some (xV 1)) (xS a b)) (hN : ¬ uAk cnt (a 88) p k → Q (some (xV 0)) (xS a b)) : pmCs ro d 184 [.ref 87, xV p, xV k] (xS a b) Q := by
  refine pmCs_deep (d := 6) (xg184 (w184 q1 q2 hB.1 hb (by decide) (by decide) (fun h e => hN (fun g => ?_)) (fun h _ e => hN (fun g => ?_)) (fun h e1 e2 => hY ⟨h.2.1, ?_, h.2.2⟩) (fun e => hN (fun g => e ⟨rfl, g.1, g.2.2⟩)))) hd
  · have := g.2.1
    omega
  · have := g.2.1
    rw [hB.2.2.2.2.1 p h.2.1.1 (by omega)] at e
    omega
  · rw [hB.2.2.2.2.1 p h.2.1.1 (by omega)] at e2
    omega
theorem u184n (q1 : xR p) (q2 : xR k) (hA : xAr a) (hb : a 87 4 = 0) (hd : 6 ≤ d) (hN : Q (some (xV 0)) (xS a b)) : pmCs ro d 184 [.ref 87, xV p, xV k] (xS a b) Q :=
  pmCs_deep (d := 6) (xg184 (w184 q1 q2 hA hb (by decide) (by decide) (fun h => absurd h.1 (by decide)) (fun h => absurd h.1 (by decide)) (fun h => absurd h.1 (by decide)) (fun _ => hN))) hd
theorem u183n (q1 : xR p) (q2 : xR k) (hA : xAr a) (hb : a 87 4 = 0) (hd : 7 ≤ d) (hN : Q (some (xV (-1))) (xS a b)) : pmCs ro d 183 [.ref 87, xV p, xV k] (xS a b) Q :=
  pmCs_deep (d := 7) (xg183 (w183 (u184n q1 q2 hA hb (by decide) (w183a (by decide) (fun e => absurd rfl e) (fun _ => hN))))) hd
theorem u189n (q1 : xR p) (q2 : xR k) (hA : xAr a) (hb : a 87 4 = 0) (hd : 7 ≤ d) (hN : Q (some (xV (-1))) (xS a b)) : pmCs ro d 189 [.ref 87, xV p, xV k, xV wh] (xS a b) Q :=
  pmCs_deep (d := 7) (xg189 (w189 (u184n q1 q2 hA hb (by decide) (w189a (by decide) (fun e => absurd rfl e) (fun _ => hN))))) hd
theorem u197n (q1 : xR p) (hA : xAr a) (hb : a 87 4 = 0) (hd : 6 ≤ d) (hN : Q (some (xV (-1))) (xS a b)) : pmCs ro d 197 [.ref 87, xV p] (xS a b) Q :=
  pmCs_deep (d := 6) (xg197 (w197 q1 hA hb (by decide) (by decide) (fun h => absurd h.1 (by decide)) (fun _ => hN))) hd
/-- what a question leaves of the reference -/
def uWq (dr wp pr cnt W : Int → Int) (T : Int → List Int) (n : Int) (a a' : xA) (b b' : xB) : Prop := uWm a a' b b' ∧ uRb dr wp pr cnt W T n a' ∧ uMV dr wp pr cnt T n a' b'
theorem uWq_8 (h : uWq dr wp pr cnt W T n a a' b b') : a' 88 = a 88 := funext fun j => h.1.1 88 j (by decide) (by decide) (by decide) (by decide) (by decide) (by decide) (by decide) (by omega)
/-- minds, and whether the wish holds -/
theorem u187q {Q : Option Value → pmS → Prop} (hK : uRk pr cnt W T) (hB : uRb dr wp pr cnt W T n a) (hr : uRv n (a 88)) (hV : uMV dr wp pr cnt T n a b) (h : uAk cnt (a 88) p k) (hd : 2 ≤ d) (x1 : ∀ q j, q ≠ 108 → a' q j = a q j) (A1 : xAr a') (M1 : uMd p 0 a' (uMn n (a 88) p)) (hQ : ∀ a2 z, uWq dr wp pr cnt W T n a a2 b b → uMd p 0 a2 (uMn n (a 88) p) → (z = 0 ∨ z = 1) → (z = 1 ↔ uHold p (T (p * 3 + k)) (uMn n (a 88) p) = true) → Q (some (xV z)) (xS a2 b)) : pmCs ro d 187 [.ref 87, xV 0, xV p, xV k] (xS a' b) Q := by
  have hn0 : 0 ≤ n ∧ n ≤ 5 := hB.2.1.2.2.1
  have hp : 1 ≤ p ∧ p ≤ 3 := ⟨h.1.1, by have := h.1.2; omega⟩
  have hc3 := hK.1 p hp.1 hp.2
  have hk := h.2.1
  have hRe := (hK.2 p k hp.1 hp.2 hk.1 hk.2).1
  have hok := (uMn_ok hn0 hr hp h.2.2).1
  have hB1 : uRb dr wp pr cnt W T n a' := uRb_o hB A1 (fun q j e => x1 q j (by omega)) (fun j j0 j1 => by rw [x1 109 j (by decide)]; exact hB.2.2.2.2.2.2 j j0 j1)
  have hRs := uRb_s hB1 hp hk
  refine u187 (lv := 0) A1 M1 (by decide) hp ⟨hk.1, by omega⟩ hok hRs.2.2.2.2.1 hRe.2.2.1 hRs.2.2.2.2.2.1 hRe.2.2.2.1 hRe.2.2.2.2.1 (hRe.2.2.2.2.2 _) hB1.2.2.2.2.2.2 hd (fun a2 z x2 A2 h9 hz hi => ?_)
  have ex : ∀ q j, q ≠ 108 → q ≠ 109 → a2 q j = a q j := fun q j e1 e2 => (x2 q j e2).trans (x1 q j e1)
  refine hQ a2 z ⟨⟨fun q j e0 e1 _ _ _ _ _ _ => ex q j e0 e1, fun _ _ _ => rfl⟩, uRb_o hB A2 (fun q j e => ex q j (by omega) (by omega)) h9, uMV_f hV (ex _ _ (by decide) (by decide)) (fun j => ex _ _ (by decide) (by decide)) (fun _ => rfl)⟩ ⟨?_, fun x x0 x1' => ?_, fun q q0 q1 => ?_⟩ hz hi
  · rw [x2 108 0 (by decide)]
    exact M1.1
  · rw [x2 108 _ (by decide)]
    exact M1.2.1 x x0 x1'
  · rw [x2 108 _ (by decide)]
    exact M1.2.2 q q0 q1
/-- holds of the reference -/
theorem u183 (q1 : xR p) (q2 : xR k) (hK : uRk pr cnt W T) (hB : uRb dr wp pr cnt W T n a) (hr : uRv n (a 88)) (hV : uMV dr wp pr cnt T n a b) (hb : a 87 4 = 1) (hd : 7 ≤ d) (hY : uAk cnt (a 88) p k → ∀ a' z, uWq dr wp pr cnt W T n a a' b b → (z = 0 ∨ z = 1) → (z = 1 ↔ uHold p (T (p * 3 + k)) (uMn n (a 88) p) = true) → Q (some (xV z)) (xS a' b)) (hN : ¬ uAk cnt (a 88) p k → Q (some (xV (-1))) (xS a b)) : pmCs ro d 183 [.ref 87, xV p, xV k] (xS a b) Q := by
  have hn0 : 0 ≤ n ∧ n ≤ 5 := hB.2.1.2.2.1
  refine pmCs_deep (d := 7) (xg183 (w183 (u184 q1 q2 hB hb (by decide) (fun h => w183a (by decide) (fun _ => ?_) (fun e => absurd e (by decide))) (fun h => w183a (by decide) (fun e => absurd rfl e) (fun _ => hN h))))) hd
  have hp : 1 ≤ p ∧ p ≤ 3 := ⟨h.1.1, by have := h.1.2; omega⟩
  refine u186 hB.1 hB.2.1.2.1 hn0 hr hp (by decide) (fun a1 x1 A1 M1 => w183b ?_)
  refine u187q hK hB hr hV h (by decide) x1 A1 M1 (fun a2 z g2 _ hz hi => ?_)
  have fin := hY h a2 z g2 hz hi
  rcases hz with e | e
  · subst e
    exact w183c (by decide) (fun _ => fin) (fun e => absurd rfl e)
  · subst e
    exact w183c (by decide) (fun e => absurd e (by decide)) (fun _ => fin)
/-- wanted of the reference -/
theorem u197 (q1 : xR p) (hK : uRk pr cnt W T) (hB : uRb dr wp pr cnt W T n a) (hr : uRv n (a 88)) (hV : uMV dr wp pr cnt T n a b) (hb : a 87 4 = 1) (hd : 7 ≤ d) (hY : (1 ≤ p ∧ p < 4) ∧ ¬ a 88 p = 7 → ∀ a' b', uWq dr wp pr cnt W T n a a' b b' → Q (some (xV (if uWk dr wp pr cnt W T n (a 88) p = -1 then -2 else uWk dr wp pr cnt W T n (a 88) p))) (xS a' b')) (hN : ¬ ((1 ≤ p ∧ p < 4) ∧ ¬ a 88 p = 7) → Q (some (xV (-1))) (xS a b)) : pmCs ro d 197 [.ref 87, xV p] (xS a b) Q := by
  refine pmCs_deep (d := 7) (xg197 (w197 q1 hB.1 hb (by decide) (by decide) (fun h => ?_) (fun e => hN (fun g => e ⟨rfl, g.1, g.2⟩)))) hd
  have hp : 1 ≤ p ∧ p ≤ 3 := ⟨h.2.1.1, by have := h.2.1.2; omega⟩
  refine u198 hK hB hr hp h.2.2 hV (by decide) (fun a' b' k f1 B1 V1 e42 hch _ => ?_)
  have ewk := uWk_e hch
  have fin := hY ⟨h.2.1, h.2.2⟩ a' b' ⟨f1, B1, V1⟩
  rw [ewk] at fin
  obtain ⟨wb1, wb2⟩ := uWd_b (dr := dr) (wp := wp) (n := n) hK hp hch
  refine w197a e42 wb1 (fun e => ?_) (fun e => ?_)
  · rw [if_neg e] at fin
    exact fin
  · rw [if_pos e] at fin
    exact fin
/-- plan of the reference -/
theorem u189 (q1 : xR p) (q2 : xR k) (q3 : xR wh) (hK : uRk pr cnt W T) (hB : uRb dr wp pr cnt W T n a) (hr : uRv n (a 88)) (hV : uMV dr wp pr cnt T n a b) (hb : a 87 4 = 1) (hd : 7 ≤ d) (hY : uAk cnt (a 88) p k → ∀ a', uWq dr wp pr cnt W T n a a' b b → Q (some (xV (bif uHold p (T (p * 3 + k)) (uMn n (a 88) p) then -1 else uPnl (uOpt dr wp pr p (T (p * 3 + k)) 4 (uMn n (a 88) p)) wh))) (xS a' b)) (hN : ¬ uAk cnt (a 88) p k → Q (some (xV (-1))) (xS a b)) : pmCs ro d 189 [.ref 87, xV p, xV k, xV wh] (xS a b) Q := by
  have hn0 : 0 ≤ n ∧ n ≤ 5 := hB.2.1.2.2.1
  refine pmCs_deep (d := 7) (xg189 (w189 (u184 q1 q2 hB hb (by decide) (fun h => w189a (by decide) (fun _ => ?_) (fun e => absurd e (by decide))) (fun h => w189a (by decide) (fun e => absurd rfl e) (fun _ => hN h))))) hd
  have hp : 1 ≤ p ∧ p ≤ 3 := ⟨h.1.1, by have := h.1.2; omega⟩
  have hc3 := hK.1 p hp.1 hp.2
  have hk := h.2.1
  have hRe := (hK.2 p k hp.1 hp.2 hk.1 hk.2).1
  have hokn := uMn_ok hn0 hr hp h.2.2
  refine u186 hB.1 hB.2.1.2.1 hn0 hr hp (by decide) (fun a1 x1 A1 M1 => w189b ?_)
  refine u187q hK hB hr hV h (by decide) x1 A1 M1 (fun a2 z g2 M2 hz hi => ?_)
  have e88 := uWq_8 g2
  cases hh : uHold p (T (p * 3 + k)) (uMn n (a 88) p) with
  | true =>
    have fin := hY h a2 g2
    rw [hh] at fin hi
    have e : z = 1 := hi.mpr rfl
    subst e
    exact w189c (by decide) (fun e => absurd e (by decide)) (fun _ => fin)
  | false =>
    rw [hh] at hi
    have e : z = 0 := by
      rcases hz with e | e
      · exact e
      · exact absurd (hi.mp e) (by decide)
    subst e
    refine w189c (by decide) (fun _ => ?_) (fun e => absurd rfl e)
    refine u190 hRe ⟨hk.1, by omega⟩ (uRb_s g2.2.1 hp hk) M2 hokn.1 hokn.2 (by decide) (fun a3 z3 f3 R3 B3 hz3 hi3 => ?_)
    have g3 : uWq dr wp pr cnt W T n a a3 b b := by
      obtain ⟨⟨k1, k2⟩, k3, k4⟩ := g2
      have ex : ∀ q j, q ≠ 108 → q ≠ 109 → q ≠ 110 → q ≠ 111 → q ≠ 112 → q ≠ 113 → ¬ (q = 87 ∧ (j = 33 ∨ j = 34)) → a3 q j = a2 q j := f3.1
      refine ⟨⟨fun q j e0 e1 e2 e3 e4 e5 e6 e7 => (ex q j e0 e1 e2 e3 e4 e5 (by omega)).trans (k1 q j e0 e1 e2 e3 e4 e5 e6 e7), fun _ _ _ => rfl⟩, uRb_o k3 R3.1 (fun q j e => ex q j (by omega) (by omega) (by omega) (by omega) (by omega) (by omega) (by omega)) R3.2.2.2.2.2.2, uMV_f k4 (ex _ _ (by decide) (by decide) (by decide) (by decide) (by decide) (by decide) (by decide)) (fun j => ex _ _ (by decide) (by decide) (by decide) (by decide) (by decide) (by decide) (by omega)) (fun _ => rfl)⟩
    have fin := hY h a3 g3
    rw [hh] at fin
    cases ho : uOpt dr wp pr p (T (p * 3 + k)) 4 (uMn n (a 88) p) with
    | none =>
      rw [ho] at fin
      have e := hi3.mpr ho
      subst e
      exact w189d (by decide) (fun e => absurd rfl e) (fun _ => fin)
    | some q =>
      rw [ho] at fin
      have e : z3 = 1 := by
        rcases hz3 with e | e
        · rw [hi3.mp e] at ho
          cases ho
        · exact e
      subst e
      obtain ⟨⟨l1, l4⟩, m1, m2, m3, m4⟩ := B3.2 q ho
      obtain ⟨z, ks⟩ := q
      have l1 : 1 ≤ ks.length := l1
      have l4 : ks.length ≤ 4 := l4
      have m1 : a3 87 34 = (ks.length : Int) := m1
      have m2 : 8 * a3 87 33 + (ks.length : Int) = z := m2
      have m4 : ∀ (j : Nat) c, ks[j]? = some c → a3 111 (j : Int) = c := m4
      have fin : Q (some (xV (uPtl (z, ks) wh))) (xS a3 b) := fin
      unfold uPtl at fin
      dsimp only at fin
      refine w189d (by decide) (fun _ => ?_) (fun e => absurd e (by decide))
      refine w189e q3 m1 (by omega) (fun e1 e2 e3 => ?_) (fun e1 e2 e3 e4 => ?_) (fun e1 e2 e3 e4 => ?_) (fun e1 e2 => ?_) (fun e1 => ?_)
      · rw [if_neg e1, if_neg e2, if_pos (Or.inl e3)] at fin
        exact fin
      · rw [if_neg e1, if_neg e2, if_neg (show ¬ (wh < 0 ∨ 3 * (ks.length : Int) < wh) by omega)] at fin
        have hi' : ((wh - 1) / 3).toNat < ks.length := by omega
        have hg := List.getElem?_eq_getElem hi'
        have eg : ks.getD ((wh - 1) / 3).toNat (-1) = ks[((wh - 1) / 3).toNat] := by
          rw [List.getD_eq_getElem?_getD, hg]
          rfl
        have e111 := m4 _ _ hg
        rw [show ((((wh - 1) / 3).toNat : Nat) : Int) = (wh - 1) / 3 by omega] at e111
        rw [eg] at fin
        rw [e111]
        have hcb := (uOpt_len hRe.1 4 _ _ ho).2.2.2 _ (List.getElem_mem hi')
        obtain ⟨c, ec⟩ : ∃ c, ks[((wh - 1) / 3).toNat] = c := ⟨_, rfl⟩
        rw [ec] at fin hcb ⊢
        refine w189f ⟨by omega, by omega⟩ ⟨hcb.1, by omega⟩ (uKb ⟨by omega, by omega⟩) (uXb ⟨by omega, by omega⟩) (uYb ⟨by omega, by omega⟩) (by decide) (fun h1 h2 h3 => ?_) (fun h1 h2 h3 => ?_) (fun h1 h2 h3 => ?_) (fun h1 h2 h3 => ?_) (fun h1 h3 => ?_) (fun h1 h3 => ?_)
        · rw [if_neg (by omega), if_neg (by omega), if_neg h3] at fin
          exact fin
        · rw [if_neg (by omega), if_neg (by omega), if_pos h3] at fin
          exact fin
        · rw [if_neg (by omega), if_pos (by omega), if_neg h3] at fin
          exact fin
        · rw [if_neg (by omega), if_pos (by omega), if_pos h3] at fin
          exact fin
        · rw [if_pos (by omega)] at fin
          exact fin
        · have := (uX_b (k := c) ⟨hcb.1, by omega⟩).2.2.2.2.2.2
          omega
      · rw [if_neg e1, if_neg e2, if_pos (Or.inr (by omega))] at fin
        exact fin
      · rw [if_neg e1, if_pos e2] at fin
        exact fin
      · rw [if_pos e1] at fin
        rw [show a3 87 33 = z / 8 by omega]
        exact fin
end
end
