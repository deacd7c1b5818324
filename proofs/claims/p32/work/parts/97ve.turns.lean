/-! the class plays a turn, by rows -/
section
set_option maxRecDepth 100000


section
variable {Ln : Nat} {xs : Nat → Int32} {ro : Nat → Nat × (Nat → Int32)} {d w : Nat} {Q : Option Value → pmS → Prop} {dr wp c pr cnt W : Int → Int} {T : Int → List Int} {n f p k x cd wt id : Int} {r r' : Int → Int} {a a' a0 : xA} {b b' : xB}
theorem u91w (hz : uWz w) (hp : 0 ≤ p ∧ p ≤ 3) (hd : 4 ≤ d) (hQ : Q (some (xV 0)) (xS a b)) : pmCs ro d 91 [.ref 43, .ref w, xV p, xV 0] (xS a b) Q := pmCs_deep (d := 4) (xg91 (w91z hz hp rfl (by decide) (fun e => absurd (by decide) e) (fun _ => hQ))) hd
theorem uMk_o (h : uMk w a) (e : ∀ j, a' (w + 2) j = a (w + 2) j) : uMk w a' := fun c c0 c1 => by rw [e]; exact h c c0 c1
theorem uS1_n (h : r p = 7 ∨ uDc dr wp pr cnt W T n cd wt p r = -1) : uS1 dr wp pr cnt W T n cd wt p r = r := by
  unfold uS1
  rw [if_pos h]
theorem uS1_y (h1 : ¬ r p = 7) (h2 : ¬ uDc dr wp pr cnt W T n cd wt p r = -1) : uS1 dr wp pr cnt W T n cd wt p r = uDe n p (uDc dr wp pr cnt W T n cd wt p r) r := by
  unfold uS1
  rw [if_neg (fun h => h.elim h1 h2)]
theorem uEt_d (h : r p = 7) : uEt dr wp pr cnt W T n cd wt p r = -1 := by
  unfold uEt
  rw [if_pos h]
theorem uEt_w (h1 : ¬ r p = 7) (h2 : uDc dr wp pr cnt W T n cd wt p r = -1) : uEt dr wp pr cnt W T n cd wt p r = 0 := by
  unfold uEt
  rw [if_neg h1, if_pos h2]
theorem uEt_y (h1 : ¬ r p = 7) (h2 : ¬ uDc dr wp pr cnt W T n cd wt p r = -1) : uEt dr wp pr cnt W T n cd wt p r = uD (uDc dr wp pr cnt W T n cd wt p r) + 512 * uSg p (uDc dr wp pr cnt W T n cd wt p r) r 4 + (if p = 0 then 0 else (uWk dr wp pr cnt W T n r p + 1) * 8192) := by
  unfold uEt
  rw [if_neg h1, if_neg h2]
/-- a deed of the class's, by rows -/
theorem u91r (hwo : uWo w) (hn0 : 0 ≤ n ∧ n ≤ 5) (hC : uCb dr wp c pr cnt W T n a0 a b) (hW : uCw n w r a b) (htn : 0 ≤ a w 6 ∧ a w 6 ≤ 1000) (hev : 0 ≤ r 119 ∧ r 119 ≤ 2000) (hp : 0 ≤ p ∧ p ≤ 3) (hk : 0 ≤ k ∧ k < 61) (hc : uCp n p k r) (hd : 4 ≤ d)
    (hQ : ∀ a' b', (∀ q j, ¬ q = w + 2 → ¬ q = w + 3 → ¬ (q = w ∧ (j = 7 ∨ j = 11)) → a' q j = a q j) → (∀ q j, ¬ (q = w ∧ (j = 4 ∨ j = 5)) → ¬ (q = w + 1 ∧ 1 ≤ j ∧ j ≤ 3) → b' q j = b q j) → uCb dr wp c pr cnt W T n a0 a' b' → uCw n w (uDe n p k r) a' b' → uDe n p k r 119 = r 119 + 1 → Q (some (xV (uD k + 512 * uSg p k r 4))) (xS a' b')) : pmCs ro d 91 [.ref 43, .ref w, xV p, xV (uD k)] (xS a b) Q := by
  obtain ⟨hz, hw, hw2⟩ := hwo
  obtain ⟨h1, h2, h3, h4, h5, h6, h7⟩ := hW
  obtain ⟨d1, d2, d3⟩ := uDe_v hn0.2 h1 hp hk (uCp_d hc)
  refine u91 hz hw hn0 h1 h2 h3 hC.1.1 hC.2.2.2.2 h6 htn (by rw [h7]; exact hev) hp hk hc hd (fun a' b' x1 A1 M1 e11 x2 V1 T1 R1 O1 => ?_)
  refine hQ a' b' x1 x2 (uCb_o hC (fun q j e1 e2 => x1 q j (by omega) (by omega) (by omega)) (fun q j e => x2 q j (by omega) (by omega)) A1) ⟨V1, T1, R1, O1, uKh_l hn0.2, M1, by rw [e11, h7, d3]⟩ d3
/-- strangerDoes -/
theorem u90 (hwo : uWo w) (hn0 : 0 ≤ n ∧ n ≤ 5) (hC : uCb dr wp c pr cnt W T n a0 a b) (hW : uCw n w r a b) (htn : 0 ≤ a w 6 ∧ a w 6 ≤ 999) (hev : 0 ≤ r 119 ∧ r 119 ≤ 2000) (hcd : cd = -1 ∨ ((0 ≤ cd ∧ cd < 61) ∧ (¬ r 0 = 7 → uCp n 0 cd r))) (hd : 5 ≤ d)
    (hQ : ∀ a' b', uTf w a a' b b' → uCb dr wp c pr cnt W T n a0 a' b' → uCw n w (uTr dr wp pr cnt W T n cd wt r 1) a' b' → a' w 6 = a w 6 + 1 → a' w 12 = 0 → (∀ j, 0 ≤ j → j < 3 → a' (w + 4) j = 0) → a' 44 0 = uEt dr wp pr cnt W T n cd wt 0 r → (∀ p, ¬ p = 0 → a' 44 p = a 44 p) → r 119 ≤ uTr dr wp pr cnt W T n cd wt r 1 119 → uTr dr wp pr cnt W T n cd wt r 1 119 ≤ r 119 + 1 → Q none (xS a' b')) : pmCs ro d 90 [.ref 43, .ref w, xV (uD cd)] (xS a b) Q := by
  have hz := hwo.1
  have hw := hwo.2
  have hb0 : uDc dr wp pr cnt W T n cd wt 0 r = cd := by
    unfold uDc
    rw [if_pos rfl]
  have e1 : uTr dr wp pr cnt W T n cd wt r 1 = uS1 dr wp pr cnt W T n cd wt 0 r := rfl
  rw [e1] at hQ
  have e0 : uSl (b w 4) 0 = r 0 + 1 := (hW.2.1.1 0 (by decide) (by decide)).trans (uWs_p (by decide))
  have e6 : (uFg w a) w 6 = a w 6 := by
    unfold uFg
    rw [xUn (by omega), xUn (by omega), xUn (by omega)]
  have key : ∀ A, A = xU (xU (uFg w a) w 12 0) w 6 ((uFg w a) w 6 + 1) → (∀ q j, ¬ q = w + 4 → ¬ (q = w ∧ (j = 6 ∨ j = 12)) → A q j = a q j) ∧ A w 6 = a w 6 + 1 ∧ A w 12 = 0 ∧ (∀ j, 0 ≤ j → j < 3 → A (w + 4) j = 0) ∧ xAr A := by
    intro A eA
    rw [e6] at eA
    subst eA
    refine ⟨fun q j g1 g2 => ?_, xUa, ?_, fun j j0 j1 => ?_, xAr_u (xAr_u ?_ xR0) ⟨by omega, by omega⟩⟩
    · rw [xUo (fun h => g2 ⟨h.1, Or.inl h.2⟩), xUo (fun h => g2 ⟨h.1, Or.inr h.2⟩)]
      unfold uFg
      rw [xUn g1, xUn g1, xUn g1]
    · rw [xUk (by decide), xUa]
    · rw [xUn (by omega), xUn (by omega)]
      unfold uFg
      by_cases j2 : j = 2
      · rw [j2, xUa]
      · rw [xUk j2]
        by_cases j1 : j = 1
        · rw [j1, xUa]
        · rw [xUk j1, show j = 0 by omega, xUa]
    · unfold uFg
      exact xAr_u (xAr_u (xAr_u hC.1.1 xR0) xR0) xR0
  obtain ⟨A, eA⟩ : ∃ A, A = xU (xU (uFg w a) w 12 0) w 6 ((uFg w a) w 6 + 1) := ⟨_, rfl⟩
  obtain ⟨f1, f2, f3, f4, f5⟩ := key A eA
  have CA : uCb dr wp c pr cnt W T n a0 A b := uCb_o hC (fun q j g1 g2 => f1 q j (by omega) (by omega)) (fun _ _ _ => rfl) f5
  have WA : uCw n w r A b := uCw_o hW (fun j => f1 _ j (by omega) (by omega)) (f1 w 11 (by omega) (by omega)) rfl rfl (fun _ _ _ => rfl)
  have done : ∀ (a3 : xA) (b3 : xB) (z : Int), (∀ q j, ¬ q = w + 2 → ¬ q = w + 3 → ¬ (q = w ∧ (j = 7 ∨ j = 11)) → a3 q j = A q j) → (∀ q j, ¬ (q = w ∧ (j = 4 ∨ j = 5)) → ¬ (q = w + 1 ∧ 1 ≤ j ∧ j ≤ 3) → b3 q j = b q j) → uCb dr wp c pr cnt W T n a0 a3 b3 → uCw n w (uS1 dr wp pr cnt W T n cd wt 0 r) a3 b3 → z = uEt dr wp pr cnt W T n cd wt 0 r → xR z → r 119 ≤ uS1 dr wp pr cnt W T n cd wt 0 r 119 → uS1 dr wp pr cnt W T n cd wt 0 r 119 ≤ r 119 + 1 → Q none (xS (xU a3 44 0 z) b3) := by
    intro a3 b3 z x1 x2 C3 W3 hzz hzr g1 g2
    refine hQ _ b3 ⟨fun q j e1 e2 e3 e4 e5 e6 => ?_, fun q j e1 e2 _ => x2 q j e1 e2⟩ (uCb_o C3 (fun q j e1 e2 => xUn (by omega)) (fun _ _ _ => rfl) (xAr_u C3.1.1 hzr)) (uCw_o W3 (fun j => xUn (by omega)) (xUn (by omega)) rfl rfl (fun _ _ _ => rfl)) ?_ ?_ (fun j j0 j1 => ?_) ?_ (fun p hp => ?_) g1 g2
    · rw [xUn e5, x1 q j e1 e2 (by omega)]
      exact f1 q j e3 (by omega)
    · rw [xUn (by omega), x1 w 6 (by omega) (by omega) (by omega)]
      exact f2
    · rw [xUn (by omega), x1 w 12 (by omega) (by omega) (by omega)]
      exact f3
    · rw [xUn (by omega), x1 (w + 4) j (by omega) (by omega) (by omega)]
      exact f4 j j0 j1
    · rw [xUa]
      exact hzz
    · rw [xUk hp, x1 44 p (by omega) (by omega) (by omega)]
      exact f1 44 p (by omega) (by omega)
  refine pmCs_deep (d := 5) (xg90 (w90 hz (by decide) (fun h8 => ?_) (fun h8 => ?_))) hd
  · have hal : ¬ r 0 = 7 := by omega
    rw [← eA]
    by_cases hm : cd = -1
    · have hd0 : uD cd = 0 := by rw [hm]; rfl
      rw [hd0]
      refine u91w hz (by decide) (by decide) (w90s ?_)
      have es : uS1 dr wp pr cnt W T n cd wt 0 r = r := uS1_n (Or.inr (hb0.trans hm))
      have ee : uEt dr wp pr cnt W T n cd wt 0 r = 0 := uEt_w hal (hb0.trans hm)
      exact done A b 0 (fun _ _ _ _ _ => rfl) (fun _ _ _ _ => rfl) CA (by rw [es]; exact WA) ee.symm xR0 (by rw [es]; omega) (by rw [es]; omega)
    · obtain ⟨hk, hcp⟩ := hcd.elim (fun h => absurd h hm) id
      have hcp := hcp hal
      refine u91r hwo hn0 CA WA (by rw [f2]; omega) hev (by decide) hk hcp (by decide) (fun a3 b3 x1 x2 C3 W3 e119 => w90s ?_)
      have es : uS1 dr wp pr cnt W T n cd wt 0 r = uDe n 0 cd r := by
        rw [uS1_y hal (by rw [hb0]; exact hm), hb0]
      have ee : uEt dr wp pr cnt W T n cd wt 0 r = uD cd + 512 * uSg 0 cd r 4 := by
        rw [uEt_y hal (by rw [hb0]; exact hm), hb0, if_pos rfl, Int.add_zero]
      have hDb := uD_b cd hk.2
      have hsb := uSg_b (p := 0) (k := cd) (r := r) 4
      have h16 : ((2 ^ 4 : Nat) : Int) = 16 := rfl
      exact done a3 b3 _ x1 x2 C3 (by rw [es]; exact W3) ee.symm ⟨by omega, by omega⟩ (by rw [es, e119]; omega) (by rw [es, e119]; omega)
  · have hde : r 0 = 7 := by omega
    rw [← eA]
    have es : uS1 dr wp pr cnt W T n cd wt 0 r = r := uS1_n (Or.inl hde)
    exact done A b (-1) (fun _ _ _ _ _ => rfl) (fun _ _ _ _ => rfl) CA (by rw [es]; exact WA) (uEt_d hde).symm ⟨by decide, by decide⟩ (by rw [es]; omega) (by rw [es]; omega)
/-- what stands while the folk play -/
def uTn (dr wp c pr cnt W : Int → Int) (T : Int → List Int) (n cd wt : Int) (a0 : xA) (w : Nat) (R : Int → Int) (a : xA) (b : xB) (q : Nat) (a1 : xA) (b1 : xB) : Prop := uTf w a a1 b b1 ∧ uCb dr wp c pr cnt W T n a0 a1 b1 ∧ uCw n w (uTr dr wp pr cnt W T n cd wt R q) a1 b1 ∧ (a1 w 6 = a w 6 ∧ a1 w 12 = a w 12 ∧ ∀ j, a1 (w + 4) j = a (w + 4) j) ∧ (0 ≤ uTr dr wp pr cnt W T n cd wt R q 119 ∧ uTr dr wp pr cnt W T n cd wt R q 119 ≤ uTr dr wp pr cnt W T n cd wt R 1 119 + (q : Int)) ∧ a1 44 0 = a 44 0 ∧ ∀ p : Nat, 1 ≤ p → p < q → a1 44 p = uEt dr wp pr cnt W T n cd wt p (uTr dr wp pr cnt W T n cd wt R p)
theorem uTn_1 {R : Int → Int} {q : Nat} {a1 : xA} {b1 : xB} {z : Int} (hwo : uWo w) (h1 : uTf w a a1 b b1) (h2 : uCb dr wp c pr cnt W T n a0 a1 b1) (h3 : uCw n w (uTr dr wp pr cnt W T n cd wt R (q + 1)) a1 b1) (h4 : a1 w 6 = a w 6 ∧ a1 w 12 = a w 12 ∧ ∀ j, a1 (w + 4) j = a (w + 4) j) (h5 : 0 ≤ uTr dr wp pr cnt W T n cd wt R (q + 1) 119 ∧ uTr dr wp pr cnt W T n cd wt R (q + 1) 119 ≤ uTr dr wp pr cnt W T n cd wt R 1 119 + ((q + 1 : Nat) : Int)) (h6 : a1 44 0 = a 44 0) (h7 : ∀ p : Nat, 1 ≤ p → p < q → a1 44 p = uEt dr wp pr cnt W T n cd wt p (uTr dr wp pr cnt W T n cd wt R p)) (hq : 1 ≤ q) (hzz : z = uEt dr wp pr cnt W T n cd wt q (uTr dr wp pr cnt W T n cd wt R q)) (hzr : xR z) : uTn dr wp c pr cnt W T n cd wt a0 w R a b (q + 1) (xU a1 44 (q : Int) z) b1 := by
  have hw := hwo.2
  refine ⟨⟨fun q j e1 e2 e3 e4 e5 e6 => by rw [xUn e5]; exact h1.1 q j e1 e2 e3 e4 e5 e6, h1.2⟩, uCb_o h2 (fun q j e1 e2 => xUn (by omega)) (fun _ _ _ => rfl) (xAr_u h2.1.1 hzr), uCw_o h3 (fun j => xUn (by omega)) (xUn (by omega)) rfl rfl (fun _ _ _ => rfl), ⟨by rw [xUn (by omega)]; exact h4.1, by rw [xUn (by omega)]; exact h4.2.1, fun j => by rw [xUn (by omega)]; exact h4.2.2 j⟩, h5, by rw [xUk (by omega)]; exact h6, fun p p1 p2 => ?_⟩
  by_cases e : p = q
  · rw [e, xUa]
    exact hzz
  · rw [xUk (by omega)]
    exact h7 p p1 (by omega)
/-- folkDo -/
theorem u97 {R : Int → Int} (hwo : uWo w) (hK : uRk pr cnt W T) (hn0 : 0 ≤ n ∧ n ≤ 5) (hC : uCb dr wp c pr cnt W T n a0 a b) (hW : uCw n w (uTr dr wp pr cnt W T n cd wt R 1) a b) (htn : 0 ≤ a w 6 ∧ a w 6 ≤ 1000) (hev : 0 ≤ uTr dr wp pr cnt W T n cd wt R 1 119 ∧ uTr dr wp pr cnt W T n cd wt R 1 119 ≤ 1900) (hid : 0 ≤ id ∧ id ≤ 3) (hiw : ∀ p, 1 ≤ p → p ≤ 3 → (p = id ↔ p = wt)) (hd : 10 ≤ d)
    (hQ : ∀ a' b', uTf w a a' b b' → uCb dr wp c pr cnt W T n a0 a' b' → uCw n w (uTr dr wp pr cnt W T n cd wt R 4) a' b' → a' w 6 = a w 6 → a' w 12 = a w 12 → (∀ j, a' (w + 4) j = a (w + 4) j) → (0 ≤ uTr dr wp pr cnt W T n cd wt R 4 119 ∧ uTr dr wp pr cnt W T n cd wt R 4 119 ≤ uTr dr wp pr cnt W T n cd wt R 1 119 + 4) → a' 44 0 = a 44 0 → (∀ p : Nat, 1 ≤ p → p < 4 → a' 44 p = uEt dr wp pr cnt W T n cd wt p (uTr dr wp pr cnt W T n cd wt R p)) → Q none (xS a' b')) : pmCs (pmRo Ln xs) d 97 [.ref 43, .ref w, xV id] (xS a b) Q := by
  have hz := hwo.1
  have hw := hwo.2
  refine pmCs_deep (d := 10) (xg97 (w97 ?_)) hd
  have loop : ∀ (m q : Nat) (a1 : xA) (b1 : xB) (v4 : Option Value), q + m = 4 → 1 ≤ q → uTn dr wp c pr cnt W T n cd wt a0 w R a b q a1 b1 → pmWp (pmRo Ln xs) 9 4 97 0 2 [some (.ref 43), some (.ref w), some (xV id), some (xV (q : Int)), v4] [] (xS a1 b1) Q := by
    intro m
    induction m with
    | zero =>
      intro q a1 b1 v4 hq q1 hI
      have e4 : q = 4 := by omega
      subst e4
      obtain ⟨h1, h2, h3, h4, h5, h6, h7⟩ := hI
      refine w97p hz hid (by decide) (by decide) (fun _ => ?_) (fun e => absurd (by decide) e) (fun e => absurd (by decide) e) (fun e => absurd (by decide) e)
      refine u98 hz hw.1 h2.1.1 h2.2.2.2.2 h3.2.2.2.2.2.1 (by rw [h4.1]; exact htn) (by decide) (fun a3 h3' => w97r hz hid (by decide) (by decide) ?_)
      obtain ⟨g1, g2, g3⟩ := h3'
      refine hQ a3 b1 (uTf_t h1 ⟨fun q j e1 e2 e3 e4 e5 e6 => g1 q j e1 e2 (by omega), fun _ _ _ _ _ => rfl⟩) (uCb_o h2 (fun q j e1 e2 => g1 q j (by omega) (by omega) (by omega)) (fun _ _ _ => rfl) g2) ?_ ?_ ?_ (fun j => ?_) h5 ?_ (fun p p1 p2 => ?_)
      · obtain ⟨k1, k2, k3, k4, k5, k6, k7⟩ := h3
        exact ⟨k1, k2, k3, k4, k5, g3, by rw [g1 w 11 (by omega) (by omega) (by omega)]; exact k7⟩
      · rw [g1 w 6 (by omega) (by omega) (by omega)]
        exact h4.1
      · rw [g1 w 12 (by omega) (by omega) (by omega)]
        exact h4.2.1
      · rw [g1 (w + 4) j (by omega) (by omega) (by omega)]
        exact h4.2.2 j
      · rw [g1 44 0 (by omega) (by omega) (by omega)]
        exact h6
      · rw [g1 44 p (by omega) (by omega) (by omega)]
        exact h7 p p1 p2
    | succ m ih =>
      intro q a1 b1 v4 hq q1 hI
      have hq3 : 1 ≤ (q : Int) ∧ (q : Int) ≤ 3 := by omega
      have hq4 : 1 ≤ (q : Int) ∧ (q : Int) ≤ 4 := by omega
      obtain ⟨rq, erq⟩ : ∃ rq, uTr dr wp pr cnt W T n cd wt R q = rq := ⟨_, rfl⟩
      have es1 : uTr dr wp pr cnt W T n cd wt R (q + 1) = uS1 dr wp pr cnt W T n cd wt q rq := by
        rw [← erq]
        rfl
      have nxt : ∀ (a3 : xA) (b3 : xB) (v4 : Option Value), uTn dr wp c pr cnt W T n cd wt a0 w R a b (q + 1) a3 b3 → pmWp (pmRo Ln xs) 9 4 97 0 76 [some (.ref 43), some (.ref w), some (xV id), some (xV (q : Int)), v4] [] (xS a3 b3) Q := fun a3 b3 v4 h => w97n hz hid hq3 (by decide) (ih (q + 1) a3 b3 v4 (by omega) (by omega) h)
      have row : ∀ a2 b2, uTn dr wp c pr cnt W T n cd wt a0 w R a b q a2 b2 → uRv n rq ∧ (∀ j, 0 ≤ j → j < 4 → uSl (b2 w 4) j = rq j + 1) := fun a2 b2 h => by
        obtain ⟨h1, h2, h3, h4, h5, h6, h7⟩ := h
        rw [erq] at h3
        exact ⟨h3.1, fun j j0 j1 => (h3.2.1.1 j j0 (by omega)).trans (uWs_p j1)⟩
      obtain ⟨hrv, esl⟩ := row a1 b1 hI
      have eq1 := esl q (by omega) (by omega)
      -- the deed
      have at53 : ¬ rq q = 7 → ∀ (a2 : xA) (b2 : xB) (z : Int), uTn dr wp c pr cnt W T n cd wt a0 w R a b q a2 b2 → (uDc dr wp pr cnt W T n cd wt q rq = -1 ∧ z = 0 ∨ ¬ uDc dr wp pr cnt W T n cd wt q rq = -1 ∧ z = uD (uDc dr wp pr cnt W T n cd wt q rq) + (uWk dr wp pr cnt W T n rq q + 1) * 8192 ∧ (0 ≤ uWk dr wp pr cnt W T n rq q ∧ uWk dr wp pr cnt W T n rq q ≤ 2) ∧ (0 ≤ uDc dr wp pr cnt W T n cd wt q rq ∧ uDc dr wp pr cnt W T n cd wt q rq < 61) ∧ uCp n q (uDc dr wp pr cnt W T n cd wt q rq) rq) → pmWp (pmRo Ln xs) 9 4 97 0 53 [some (.ref 43), some (.ref w), some (xV id), some (xV (q : Int)), v4] [xV z] (xS a2 b2) Q := by
        intro hal a2 b2 z hJ hzc
        obtain ⟨h1, h2, h3, h4, h5, h6, h7⟩ := hJ
        rw [erq] at h3 h5
        rcases hzc with ⟨hk, hz0⟩ | ⟨hk, hz0, hwk, hkb, hcp⟩
        · subst hz0
          refine w97c hz hid hq3 (by decide) (by decide) ?_
          refine u91w hz (by omega) (by decide) (w97s hz hid hq3 (by decide) ?_)
          have es : uS1 dr wp pr cnt W T n cd wt q rq = rq := uS1_n (Or.inr hk)
          refine nxt _ _ _ (uTn_1 hwo h1 h2 (by rw [es1, es]; exact h3) h4 (by rw [es1, es]; omega) h6 h7 q1 ?_ ?_)
          · rw [erq, uEt_w hal hk]
            rfl
          · exact ⟨by decide, by decide⟩
        · obtain ⟨k, ek⟩ : ∃ k, uDc dr wp pr cnt W T n cd wt q rq = k := ⟨_, rfl⟩
          rw [ek] at hz0 hkb hcp
          have hkn : ¬ k = -1 := by rw [← ek]; exact hk
          have hDb := uD_b k hkb.2
          refine w97c hz hid hq3 (by omega) (by decide) ?_
          have ez : z % 512 = uD k := by omega
          rw [ez]
          refine u91r hwo hn0 h2 h3 (by rw [h4.1]; exact htn) ⟨h5.1, by omega⟩ (by omega) hkb hcp (by decide) (fun a3 b3 x1 x2 C3 W3 e119 => w97s hz hid hq3 (by decide) ?_)
          have hsb := uSg_b (p := q) (k := k) (r := rq) 4
          have h16 : ((2 ^ 4 : Nat) : Int) = 16 := rfl
          have eor := uOr3 (z := uD k) (s := uSg q k rq 4) (t := uWk dr wp pr cnt W T n rq q + 1) ⟨hDb.1, by omega⟩ ⟨hsb.1, by omega⟩ (by omega)
          rw [hz0, eor]
          have es : uS1 dr wp pr cnt W T n cd wt q rq = uDe n q k rq := by
            rw [uS1_y hal (by rw [ek]; exact hkn), ek]
          refine nxt _ _ _ (uTn_1 hwo (uTf_t h1 ⟨fun q j e1 e2 e3 e4 e5 e6 => x1 q j e1 e2 (by omega), fun q j e1 e2 e3 => x2 q j e1 e2⟩) C3 (by rw [es1, es]; exact W3) ⟨by rw [x1 w 6 (by omega) (by omega) (by omega)]; exact h4.1, by rw [x1 w 12 (by omega) (by omega) (by omega)]; exact h4.2.1, fun j => by rw [x1 (w + 4) j (by omega) (by omega) (by omega)]; exact h4.2.2 j⟩ (by rw [es1, es, e119]; omega) (by rw [x1 44 0 (by omega) (by omega) (by omega)]; exact h6) (fun p p1 p2 => by rw [x1 44 p (by omega) (by omega) (by omega)]; exact h7 p p1 p2) q1 ?_ ?_)
          · rw [erq, uEt_y hal hk, ek, if_neg (by omega)]
          · exact ⟨by omega, by omega⟩
      refine w97p hz hid hq4 (by decide) (fun e => absurd e (by omega)) (fun _ h8 hnid => ?_) (fun _ h8 hid1 => ?_) (fun _ h8 => ?_)
      · have hal : ¬ rq q = 7 := by omega
        have hI0 := hI
        obtain ⟨h1, h2, h3, h4, h5, h6, h7⟩ := hI
        rw [erq] at h3
        have hnw : ¬ (q : Int) = wt := fun e => hnid ((hiw q hq3.1 hq3.2).mpr e)
        have hms := uMn_s hn0 h3.1 hq3 (h3.2.2.1 q hq3.1 hq3.2) (h3.2.2.2.1 q hq3.1 (by omega) hal) h3.2.2.2.2.1 hal
        have hok := (uMn_ok hn0 h3.1 hq3 hal).1
        have hok2 : uOk q (uSl (b1 (w + 1) q)) := uOk_q hq3 hms hok
        refine u85 h2.1 h2.2.1 h2.2.2.1 h2.2.2.2.1 hq3 hok2 (h3.2.2.1 q hq3.1 hq3.2).1 (by decide) (fun a2 b2 k z x2 A2 M2 hch z1 z2 => ?_)
        have hch2 : uChs (cnt q) (fun i => W (q * 3 + i)) (fun i => uFd dr wp pr (T (q * 3 + i)) q (uMn n rq q)) k := uChs_c hch (fun i i0 i1 => uFd_c hq3 (uTks_k (hK.2 q i hq3.1 hq3.2 i0 i1).1) hms)
        have ewk := uWk_e hch2
        have edc : uDc dr wp pr cnt W T n cd wt q rq = uWd dr wp pr cnt W T n rq q := by
          unfold uDc
          rw [if_neg (by omega), if_neg hnw]
        obtain ⟨wb1, wb2⟩ := uWd_b (dr := dr) (wp := wp) (n := n) hK hq3 hch2
        have hJ : uTn dr wp c pr cnt W T n cd wt a0 w R a b q a2 b2 := by
          obtain ⟨y1, y2⟩ := x2
          have y1' : ∀ q j, ¬ (34 ≤ q ∧ q ≤ 42) → a2 q j = a1 q j := fun q j e => y1 q j (by omega) (by omega) (by omega) (by omega) (by omega) (by omega) (by omega)
          have y2' : ∀ q j, ¬ (34 ≤ q ∧ q ≤ 36) → b2 q j = b1 q j := fun q j e => y2 q j (by omega) (by omega) (by omega)
          refine ⟨uTf_t h1 ⟨fun q j e1 e2 e3 e4 e5 e6 => y1' q j e6, fun q j e1 e2 e3 => y2' q j e3⟩, ⟨uPg_x h2.1 ⟨y1, y2⟩ A2, h2.2.1, ?_, M2, uLx_o h2.2.2.2.2 (fun q j e1 e2 => y1' q j (by omega))⟩, ?_, ⟨by rw [y1' w 6 (by omega)]; exact h4.1, by rw [y1' w 12 (by omega)]; exact h4.2.1, fun j => by rw [y1' (w + 4) j (by omega)]; exact h4.2.2 j⟩, h5, by rw [y1' 44 0 (by omega)]; exact h6, fun p p1 p2 => by rw [y1' 44 p (by omega)]; exact h7 p p1 p2⟩
          · intro p p0 p1
            have e11 : ∀ j, a2 11 j = a1 11 j := fun j => y1' 11 j (by omega)
            obtain ⟨g1, g2⟩ := h2.2.2.1 p p0 p1
            exact ⟨fun i j i0 ij jc => by rw [e11, e11]; exact g1 i j i0 ij jc, fun k k0 k1 => by
              obtain ⟨i, i0, i1, i2⟩ := g2 k k0 k1
              exact ⟨i, i0, i1, by rw [e11]; exact i2⟩⟩
          · rw [erq]
            exact uCw_o h3 (fun j => y1' _ j (by omega)) (y1' w 11 (by omega)) (y2' w 4 (by omega)) (y2' w 5 (by omega)) (fun g g0 g1 => y2' (w + 1) g (by omega))
        refine at53 hal a2 b2 z hJ ?_
        rw [edc]
        by_cases hk1 : k = -1
        · refine Or.inl ⟨?_, z1 hk1⟩
          unfold uWd
          rw [ewk, if_pos hk1]
        · have ewd : uWd dr wp pr cnt W T n rq q = uFd dr wp pr (T (q * 3 + k)) q (uMn n rq q) := by
            unfold uWd
            rw [ewk, if_neg hk1]
          have hne : ¬ uWd dr wp pr cnt W T n rq q = -1 := by
            rw [ewd]
            rcases hch2 with g | g
            · exact absurd g.1 hk1
            · exact g.2.1
          obtain ⟨c1, c2⟩ := uWd_c hrv hq3 hal hne
          refine Or.inr ⟨hne, ?_, by rw [ewk]; omega, c1, c2⟩
          rw [z2 hk1, ewk, ewd]
          rcases hch2 with g | g
          · exact absurd g.1 hk1
          · rw [uFd_c hq3 (uTks_k (hK.2 q k hq3.1 hq3.2 g.1.1 g.1.2).1) hms]
      · have hal : ¬ rq q = 7 := by omega
        refine at53 hal a1 b1 0 hI (Or.inl ⟨?_, rfl⟩)
        unfold uDc
        rw [if_neg (by omega), if_pos ((hiw q hq3.1 hq3.2).mp hid1)]
      · have hde : rq q = 7 := by omega
        obtain ⟨h1, h2, h3, h4, h5, h6, h7⟩ := hI
        have es : uS1 dr wp pr cnt W T n cd wt q rq = rq := uS1_n (Or.inl hde)
        rw [erq] at h3 h5
        refine nxt _ _ _ (uTn_1 hwo h1 h2 (by rw [es1, es]; exact h3) h4 (by rw [es1, es]; omega) h6 h7 q1 ?_ ⟨by decide, by decide⟩)
        rw [erq, uEt_d hde]
  refine loop 3 1 a b _ rfl (by decide) ⟨uTf_r, hC, hW, ⟨rfl, rfl, fun _ => rfl⟩, ⟨hev.1, by omega⟩, rfl, fun p p1 p2 => by omega⟩
/-- playTurn -/
theorem u89 (hwo : uWo w) (hK : uRk pr cnt W T) (hn0 : 0 ≤ n ∧ n ≤ 5) (hC : uCb dr wp c pr cnt W T n a0 a b) (hW : uCw n w r a b) (htn : 0 ≤ a w 6 ∧ a w 6 ≤ 999) (hev : 0 ≤ r 119 ∧ r 119 ≤ 1800) (hcd : cd = -1 ∨ ((0 ≤ cd ∧ cd < 61) ∧ (¬ r 0 = 7 → uCp n 0 cd r))) (hid : 0 ≤ id ∧ id ≤ 3) (hiw : ∀ p, 1 ≤ p → p ≤ 3 → (p = id ↔ p = wt)) (hd : 11 ≤ d)
    (hQ : ∀ a' b', uTf w a a' b b' → uCb dr wp c pr cnt W T n a0 a' b' → uCw n w (uTr dr wp pr cnt W T n cd wt r 4) a' b' → a' w 6 = a w 6 + 1 → a' w 12 = 0 → (∀ j, 0 ≤ j → j < 3 → a' (w + 4) j = 0) → (0 ≤ uTr dr wp pr cnt W T n cd wt r 4 119 ∧ uTr dr wp pr cnt W T n cd wt r 4 119 ≤ r 119 + 5) → (∀ p : Nat, p < 4 → a' 44 p = uEt dr wp pr cnt W T n cd wt p (uTr dr wp pr cnt W T n cd wt r p)) → Q none (xS a' b')) : pmCs (pmRo Ln xs) d 89 [.ref 43, .ref w, xV (uD cd), xV id] (xS a b) Q := by
  refine pmCs_deep (d := 11) (xg89 (w89 ?_)) hd
  refine u90 (cd := cd) (wt := wt) hwo hn0 hC hW htn ⟨hev.1, by omega⟩ hcd (by decide) (fun a1 b1 f1 C1 W1 e6 e12 e4 e0 _ g1 g2 => w89a ?_)
  refine u97 hwo hK hn0 C1 W1 (by omega) (by omega) hid hiw (by decide) (fun a2 b2 f2 C2 W2 i6 i12 i4 i119 i0 ip => w89b ?_)
  refine hQ a2 b2 (uTf_t f1 f2) C2 W2 (by rw [i6, e6]) (by rw [i12, e12]) (fun j j0 j1 => by rw [i4 j]; exact e4 j j0 j1) (by omega) (fun p hp => ?_)
  by_cases p0 : p = 0
  · subst p0
    exact i0.trans e0
  · exact ip p (by omega) hp
end
end
