section
/-! keeping of the reference: what is left as it was -/
section
set_option maxRecDepth 100000


section
variable {ro : Nat → Nat × (Nat → Int32)} {d w : Nat} {Q : Option Value → pmS → Prop} {dr wp pr cnt W : Int → Int} {T : Int → List Int} {n f k p x c s m i t wh cd wt : Int} {r r' R R' : Int → Int} {a a' a'' a0 : xA} {b b' b'' : xB}
/-- numbers of a row, after so many turns and acts more -/
def uBqm (m : Int) (r : Int → Int) : Prop := (0 ≤ r 114 ∧ r 114 ≤ 60 + m) ∧ (0 ≤ r 115 ∧ r 115 ≤ 1) ∧ (0 ≤ r 116 ∧ r 116 ≤ 60 + m) ∧ (0 ≤ r 117 ∧ r 117 ≤ 60 + m) ∧ (0 ≤ r 118 ∧ r 118 ≤ 11000 + 400 * m) ∧ 0 ≤ r 119 ∧ r 119 ≤ 240 + 5 * m
theorem uBqm_b (hm : 0 ≤ m ∧ m ≤ 40) (h : uBqm m r) : uBd r := by
  obtain ⟨h1, h2, h3, h4, h5, h6⟩ := h
  exact ⟨by omega, h2, by omega, by omega, by omega, by omega⟩
/-- a row -/
def uRow (n m : Int) (r : Int → Int) : Prop := uRv n r ∧ uBqm m r
/-- the reference but for its row -/
def uLc (a : xA) : Prop := ∀ i, 0 ≤ i → i < 6 → 0 ≤ a 100 i ∧ a 100 i ≤ 4
def uSx (dr wp pr cnt W : Int → Int) (T : Int → List Int) (n : Int) (a : xA) (b : xB) : Prop := uRb dr wp pr cnt W T n a ∧ uMV dr wp pr cnt T n a b ∧ uLw a ∧ uLc a
/-- what keeping leaves alone -/
def uPq (a a' : xA) (b b' : xB) : Prop := (∀ q j, ¬ q = 89 → q ≠ 88 → q ≠ 108 → q ≠ 109 → q ≠ 110 → q ≠ 111 → q ≠ 112 → q ≠ 113 → q ≠ 115 → q ≠ 116 → q ≠ 117 → q ≠ 118 → q ≠ 119 → ¬ (q = 87 ∧ (j = 33 ∨ j = 34 ∨ j = 41 ∨ j = 42 ∨ j = 43)) → a' q j = a q j) ∧ ∀ q j, q ≠ 114 → b' q j = b q j
theorem uPq_r : uPq a a b b := ⟨fun _ _ _ _ _ _ _ _ _ _ _ _ _ _ _ _ => rfl, fun _ _ _ => rfl⟩
theorem uPq_t (h : uPq a a' b b') (h' : uPq a' a'' b' b'') : uPq a a'' b b'' := ⟨fun q j e e0 e1 e2 e3 e4 e5 e6 e7 e8 e9 e10 e11 e12 => (h'.1 q j e e0 e1 e2 e3 e4 e5 e6 e7 e8 e9 e10 e11 e12).trans (h.1 q j e e0 e1 e2 e3 e4 e5 e6 e7 e8 e9 e10 e11 e12), fun q j e => (h'.2 q j e).trans (h.2 q j e)⟩
theorem uPq_m (h : uPm a a' b b') : uPq a a' b b' := ⟨fun q j _ e0 e1 e2 e3 e4 e5 e6 e7 e8 e9 e10 e11 e12 => h.1 q j e0 e1 e2 e3 e4 e5 e6 e7 e8 e9 e10 e11 e12, h.2⟩
theorem uPq_8 (h : ∀ q j, ¬ q = 89 → q ≠ 88 → a' q j = a q j) : uPq a a' b b := ⟨fun q j e e0 _ _ _ _ _ _ _ _ _ _ _ _ => h q j e e0, fun _ _ _ => rfl⟩
theorem uSx_8 (h : uSx dr wp pr cnt W T n a b) (hA : xAr a') (e : ∀ q j, ¬ q = 89 → q ≠ 88 → a' q j = a q j) : uSx dr wp pr cnt W T n a' b := by
  obtain ⟨h1, h2, h3, h4⟩ := h
  exact ⟨uRb_o h1 hA (fun q j g => e q j (by omega) (by omega)) (fun j j0 j1 => by rw [e 109 j (by decide) (by decide)]; exact h1.2.2.2.2.2.2 j j0 j1), uMV_f h2 (e _ _ (by decide) (by decide)) (fun j => e _ _ (by decide) (by decide)) (fun _ => rfl), uLw_o h3 (fun q j g => e q j (by omega) (by omega)), fun i i0 i1 => by rw [e 100 i (by decide) (by decide)]; exact h4 i i0 i1⟩
/-- isAnyBroken -/
theorem u202 (hA : xAr a) (hcl : uLc a) (hi : 0 ≤ i ∧ i ≤ 5) (hd : 1 ≤ d) (hQ : ∀ z, (z = 0 ∨ z = 1) → Q (some (xV z)) (xS a b)) : pmCs ro d 202 [.ref 87, xV i] (xS a b) Q := by
  refine pmCs_deep (d := 1) (xg202 (w202 ?_)) hd
  have hc := hcl i hi.1 (by omega)
  have loop : ∀ (m : Nat) (j : Int), j + (m : Int) = a 100 i → 0 ≤ j → pmWp ro 0 12 202 2 2 [some (.ref 87), some (xV i), some (xV j)] [] (xS a b) Q := by
    intro m
    induction m with
    | zero =>
      intro j hj j0
      exact w202j hA hi hcl ⟨j0, by omega⟩ (fun _ => hQ 0 (by decide)) (fun e => absurd (by omega) e) (fun e => absurd (by omega) e)
    | succ m ih =>
      intro j hj j0
      exact w202j hA hi hcl ⟨j0, by omega⟩ (fun e => absurd e (by omega)) (fun _ _ => ih (j + 1) (by omega) (by omega)) (fun _ _ => hQ 1 (by decide))
  exact loop (a 100 i).toNat 0 (by omega) (by decide)
theorem u224 (hA : xAr a) (hL : uLw a) (hcl : uLc a) (hd : 2 ≤ d) (hQ : ∀ z, (z = 0 ∨ z = 1) → Q (some (xV z)) (xS a b)) : pmCs ro d 224 [.ref 87] (xS a b) Q := by
  refine pmCs_deep (d := 2) (xg224 (w224 ?_)) hd
  have hl := hL.1
  have loop : ∀ (m : Nat) (i : Int), i + (m : Int) = a 87 3 → 0 ≤ i → pmWp ro 1 12 224 2 2 [some (.ref 87), some (xV i)] [] (xS a b) Q := by
    intro m
    induction m with
    | zero =>
      intro i hi i0
      exact w224i ⟨i0, by omega⟩ rfl hl (fun _ => hQ 0 (by decide)) (fun e => absurd (by omega) e)
    | succ m ih =>
      intro i hi i0
      refine w224i ⟨i0, by omega⟩ rfl hl (fun e => absurd e (by omega)) (fun _ => u202 hA hcl ⟨i0, by omega⟩ (by decide) (fun z hz => ?_))
      exact w224z hz (fun _ => ih (i + 1) (by omega) (by omega)) (fun _ => hQ 1 (by decide))
  exact loop (a 87 3).toNat 0 (by omega) (by decide)
/-- a turn leaves a row that may be -/
theorem uTr_n (hn0 : 0 ≤ n ∧ n ≤ 5) (hr : uRv n r) (hcd : cd = -1 ∨ ((0 ≤ cd ∧ cd < 61) ∧ (¬ r 0 = 7 → uCp n 0 cd r))) : ∀ q : Nat, q ≤ 4 → ∀ j, j < 0 → uTr dr wp pr cnt W T n cd wt r q j = r j := by
  intro q
  induction q with
  | zero => exact fun _ _ _ => rfl
  | succ q ih =>
    intro hq j hj
    have hv := (uTr_v (dr := dr) (wp := wp) (pr := pr) (cnt := cnt) (W := W) (T := T) (wt := wt) hn0 hr hcd q (by omega)).1
    have hv2 := (uTr_v (dr := dr) (wp := wp) (pr := pr) (cnt := cnt) (W := W) (T := T) (wt := wt) hn0 hr hcd (q + 1) hq).1
    have e := ih (by omega) j hj
    obtain ⟨rq, erq⟩ : ∃ z, uTr dr wp pr cnt W T n cd wt r q = z := ⟨_, rfl⟩
    show uS1 dr wp pr cnt W T n cd wt q (uTr dr wp pr cnt W T n cd wt r q) j = r j
    rw [erq] at hv e ⊢
    by_cases c : rq q = 7 ∨ uDc dr wp pr cnt W T n cd wt q rq = -1
    · rw [uS1_n c]
      exact e
    · have c1 : ¬ rq q = 7 := fun h => c (Or.inl h)
      have c2 : ¬ uDc dr wp pr cnt W T n cd wt q rq = -1 := fun h => c (Or.inr h)
      rw [uS1_y c1 c2]
      have key : (0 ≤ uDc dr wp pr cnt W T n cd wt q rq ∧ uDc dr wp pr cnt W T n cd wt q rq < 61) ∧ uCp n q (uDc dr wp pr cnt W T n cd wt q rq) rq := by
        unfold uDc at c2 ⊢
        by_cases q0 : q = 0
        · subst q0
          have er : r = rq := erq
          subst er
          rw [if_pos (show ((0 : Nat) : Int) = 0 from rfl)] at c2 ⊢
          exact hcd.elim (fun h => absurd h c2) (fun h => ⟨h.1, h.2 c1⟩)
        · rw [if_neg (by omega)] at c2 ⊢
          by_cases cw : (q : Int) = wt
          · rw [if_pos cw] at c2
            exact absurd rfl c2
          · rw [if_neg cw] at c2 ⊢
            exact uWd_c hv ⟨by omega, by omega⟩ c1 c2
      have h1 := uRv_e hn0.2 (uRv_d hn0.2 hv (by omega) key.1 (uCp_d key.2))
      have hb := uX_b key.1
      have hy := key.2.2.2.1
      unfold uDe
      have h2 := uRv_f hn0.2 h1
      have e3 : uAl n (uEv (uDo n q (uDc dr wp pr cnt W T n cd wt q rq) rq)) j = uEv (uDo n q (uDc dr wp pr cnt W T n cd wt q rq) rq) j := ((uRv_a hn0.2 3 1 _ h2.1 (by decide) (by decide)).2 j (by omega)).trans (h2.2 j (by omega))
      rw [e3]
      show (if j = 119 then _ else uDo n q (uDc dr wp pr cnt W T n cd wt q rq) rq j) = r j
      rw [if_neg (by omega), ← e]
      obtain ⟨kk, ek⟩ : ∃ kk, uDc dr wp pr cnt W T n cd wt q rq = kk := ⟨_, rfl⟩
      rw [ek] at hb hy ⊢
      obtain ⟨b0, b1, b2, b3, b4, b5, b6⟩ := hb
      by_cases k1 : uK kk = 1
      · rw [uDo_1 k1]
        exact if_neg (by omega)
      by_cases k2 : uK kk = 2
      · rw [uDo_2 k2]
        exact if_neg (by omega)
      by_cases k3 : uK kk = 3
      · rw [uDo_3 k3]
        exact if_neg (by omega)
      by_cases k4 : uK kk = 4
      · rw [uDo_4 k4]
        exact if_neg (by omega)
      by_cases k5 : uK kk = 5
      · rw [uDo_5 k5]
        unfold uZt
        rw [if_neg (by omega), if_neg (by omega), if_neg (by omega)]
      · have k6 : uK kk = 6 := by omega
        have := hy k6
        rw [uDo_6 k6]
        exact if_neg (by omega)
theorem uAx_n (hn0 : 0 ≤ n ∧ n ≤ 5) (hr : uRv n r) (hc : 0 ≤ c ∧ c ≤ 56) {j : Int} (hj : j < 0 ∨ 120 ≤ j) : uAx n c r j = r j := by
  unfold uAx
  by_cases c0 : c = 0
  · rw [if_pos c0]
  rw [if_neg c0]
  have h1 := uRv_x hn0 hr (c := c) ⟨by omega, hc.2⟩
  have h2 := uRv_f hn0.2 h1
  have e3 : uAl n (uAa c r) j = uAa c r j := ((uRv_a hn0.2 3 1 _ h2.1 (by decide) (by decide)).2 j (by omega)).trans (h2.2 j (by omega))
  rw [e3]
  unfold uAa
  rw [if_neg (show ¬ j = 118 by omega), if_neg (show ¬ j = 115 by omega)]
  by_cases cs : c < 36
  · rw [if_pos cs, if_neg (show ¬ j = 4 + (c - 1) / 7 by omega), if_neg (show ¬ j = 9 + (c - 1) / 7 by omega), if_neg (show ¬ j = 116 by omega)]
  · rw [if_neg cs, if_neg (show ¬ j = 1 + (c - 36) / 7 by omega), if_neg (show ¬ j = 117 by omega)]
/-- a row behind an act -/
theorem uRow_x (hn0 : 0 ≤ n ∧ n ≤ 5) (hm : 0 ≤ m ∧ m ≤ 30) (h : uRow n m r) (hc : 0 ≤ c ∧ c ≤ 56) : uRow n (m + 1) (uAx n c r) := by
  obtain ⟨h1, b1, b2, b3, b4, b5, b6⟩ := h
  unfold uAx
  by_cases c0 : c = 0
  · rw [if_pos c0]
    exact ⟨h1, ⟨by omega, b2, by omega, by omega, by omega, by omega⟩⟩
  rw [if_neg c0]
  have hc1 : 1 ≤ c ∧ c ≤ 56 := ⟨by omega, hc.2⟩
  have v := uRv_x hn0 h1 hc1
  have hi : ∀ j, 41 ≤ j → uAl n (uAa c r) j = _ := fun j hj => (uAl_hi hn0.2 v hj).trans (uAa_hi hc1 hj)
  have hp : 0 ≤ uPr c r ∧ uPr c r ≤ 300 := by
    unfold uPr
    split
    · omega
    · split <;> omega
  refine ⟨uRv_l hn0.2 v, ?_, ?_, ?_, ?_, ?_, ?_⟩
  · rw [hi 114 (by decide), if_neg (by decide), if_neg (by decide), if_neg (by omega), if_neg (by omega)]
    omega
  · rw [hi 115 (by decide), if_neg (by decide), if_pos rfl]
    decide
  · rw [hi 116 (by decide), if_neg (by decide), if_neg (by decide)]
    split
    · omega
    · rw [if_neg (by omega)]
      omega
  · rw [hi 117 (by decide), if_neg (by decide), if_neg (by decide), if_neg (by omega)]
    split <;> omega
  · rw [hi 118 (by decide), if_pos rfl]
    omega
  · rw [hi 119 (by decide), if_neg (by decide), if_neg (by decide), if_neg (by omega), if_neg (by omega)]
    omega
/-- plays, as a frame -/
theorem u208x (hK : uRk pr cnt W T) (hS : uSx dr wp pr cnt W T n a b) (hR : uRow n m (a 88)) (hm : 0 ≤ m ∧ m ≤ 29) (hc : c = -1 ∨ ((0 ≤ c ∧ c < 61) ∧ (¬ a 88 0 = 7 → uCp n 0 c (a 88)))) (hwt : -1 ≤ wt ∧ wt ≤ 3) (hd : 7 ≤ d) (hQ : ∀ a' b', uPm a a' b b' → uSx dr wp pr cnt W T n a' b' → uRow n (m + 1) (a' 88) → (∀ j, j < 0 ∨ 120 ≤ j → a' 88 j = a 88 j) → Q none (xS a' b')) : pmCs ro d 208 [.ref 87, xV c, xV wt] (xS a b) Q := by
  obtain ⟨h1, h2, h3, h4⟩ := hS
  obtain ⟨r1, b1, b2, b3, b4, b5, b6⟩ := hR
  have hn0 : 0 ≤ n ∧ n ≤ 5 := h1.2.1.2.2.1
  refine u208 hK h1 r1 h2 h3 (by omega) (by omega) (hc.elim Or.inl (fun h => Or.inr ⟨h.1, fun e => uCp_d (h.2 e)⟩)) hwt hd (fun a' b' f1 B1 V1 M1 L1 R1 e114 e115 e119 e119b _ => ?_)
  obtain ⟨R, eR⟩ : ∃ R, a 88 = R := ⟨_, rfl⟩
  rw [eR] at r1 b1 b2 b3 b4 b5 b6 R1 hc e114 e119
  have v := uTr_v (dr := dr) (wp := wp) (pr := pr) (cnt := cnt) (W := W) (T := T) (wt := wt) hn0 r1 hc 4 (by decide)
  have nn := uTr_n (dr := dr) (wp := wp) (pr := pr) (cnt := cnt) (W := W) (T := T) (wt := wt) hn0 r1 hc 4 (by decide)
  have hi : ∀ j, 113 ≤ j → ¬ j = 114 → ¬ j = 115 → ¬ j = 119 → a' 88 j = R j := fun j h1 h2 h3 h4 => (R1 j (Or.inr ⟨h1, h2, h3⟩)).trans (v.2 j (by omega) h4)
  refine hQ a' b' f1 ⟨B1, M1, L1, fun i i0 i1 => by rw [f1.1 100 i (by decide) (by decide) (by decide) (by decide) (by decide) (by decide) (by decide) (by decide) (by decide) (by decide) (by decide) (by decide) (by omega)]; exact h4 i i0 i1⟩ ⟨V1, by omega, by omega, ?_, ?_, ?_, by omega⟩ (fun j hj => ?_)
  · rw [hi 116 (by decide) (by decide) (by decide) (by decide)]
    omega
  · rw [hi 117 (by decide) (by decide) (by decide) (by decide)]
    omega
  · rw [hi 118 (by decide) (by decide) (by decide) (by decide)]
    omega
  · rw [eR]
    rcases hj with hj | hj
    · exact (R1 j (Or.inl (by omega))).trans (nn j hj)
    · exact hi j (by omega) (by omega) (by omega) (by omega)
/-- a shelf holds a row -/
def uShl (s : Int) (R : Int → Int) (a : xA) : Prop := ∀ j, 0 ≤ j → j < 120 → a 89 (120 * s + j) = R j
theorem uShl_o (hs : 0 ≤ s ∧ s < x) (h : uShl s R a) (e : ∀ j, j < 120 * x → a' 89 j = a 89 j) : uShl s R a' := fun j j0 j1 => (e (120 * s + j) (by omega)).trans (h j j0 j1)
theorem uTa_row (h : uShl s R a) (e : ∀ j, j < 0 ∨ 120 ≤ j → a 88 j = R j) : (uTa s a) 88 = R := by
  funext j
  unfold uTa
  by_cases c : 0 ≤ j ∧ j < 120
  · rw [if_pos ⟨rfl, c.1, c.2⟩]
    exact h j c.1 c.2
  · rw [if_neg (fun g => c g.2)]
    exact e j (by omega)
theorem uTa_n {q : Nat} {j : Int} (h : q ≠ 88) : uTa s a q j = a q j := if_neg (fun e => h e.1)
theorem uLa_n {q : Nat} {j : Int} (h : ¬ q = 89) : uLa s a q j = a q j := if_neg (fun e => h e.1)
theorem uLa_lo {j : Int} (h : j < 120 * s) : uLa s a 89 j = a 89 j := if_neg (fun e => by omega)
theorem uLa_s : uShl s (a 88) (uLa s a) := fun j j0 j1 => by
  unfold uLa
  rw [if_pos ⟨rfl, by omega, by omega⟩, show 120 * s + j - 120 * s = j by omega]
theorem xAr_ta (h : xAr a) : xAr (uTa s a) := fun q j => by
  unfold uTa
  split
  · exact h _ _
  · exact h _ _
theorem xAr_la (h : xAr a) : xAr (uLa s a) := fun q j => by
  unfold uLa
  split
  · exact h _ _
  · exact h _ _
end
end
end
section
/-! keeping of the reference -/
section
set_option maxRecDepth 100000


section
variable {ro : Nat → Nat × (Nat → Int32)} {d : Nat} {Q : Option Value → pmS → Prop} {dr wp pr cnt W : Int → Int} {T : Int → List Int} {n f k p x c s m i t wh bg : Int} {r r' R : Int → Int} {a a' : xA} {b b' : xB}

/-- actKeeps 226 -/
theorem u226 (hK : uRk pr cnt W T) (hS : uSx dr wp pr cnt W T n a b) (hR : a 88 = R) (hrow : uRow n m R) (hm : 0 ≤ m ∧ m ≤ 20) (hc : 0 ≤ c ∧ c ≤ 56) (hs : 0 ≤ s ∧ s ≤ 5) (hsh : uShl s R a) (hd : 8 ≤ d) (hQ : ∀ a' b' z, uPq a a' b b' → uSx dr wp pr cnt W T n a' b' → a' 88 = R → (∀ j, j < 120 * (s + 1) → a' 89 j = a 89 j) → (z = 0 ∨ z = 1) → Q (some (xV z)) (xS a' b')) : pmCs ro d 226 [.ref 87, xV c, xV s] (xS a b) Q := by
  have hn0 : 0 ≤ n ∧ n ≤ 5 := hS.1.2.1.2.2.1
  have hs7 : 0 ≤ s ∧ s ≤ 7 := ⟨hs.1, by omega⟩
  obtain ⟨r1, y1, y2, y3, y4, y5, y6⟩ := hrow
  have hrow1 : uRow n (m + 1) (uAx n c R) := uRow_x hn0 (by omega) ⟨r1, y1, y2, y3, y4, y5, y6⟩ hc
  have out1 : ∀ j, j < 0 ∨ 120 ≤ j → uAx n c R j = R j := fun j hj => uAx_n hn0 r1 hc hj
  refine pmCs_deep (d := 8) (xg226 (w226 ?_)) hd
  refine u221 hS.1.1 hS.1.2.1.2.1 hn0 (by rw [hR]; exact r1) (by rw [hR]; omega) (by rw [hR]; omega) (by rw [hR]; omega) hc (by decide) (fun a1 x1 A1 R1 => w226a hs7 (u181 (by omega) (by decide) (w226b ?_)))
  rw [hR] at R1
  -- the loop
  obtain ⟨R2, eR2⟩ : ∃ R2, uAx n c R = R2 := ⟨_, rfl⟩
  rw [eR2] at hrow1 out1 R1
  have fin : ∀ (a2 : xA) (b2 : xB) (g k : Int), (g = 0 ∨ g = 1) → (-1 ≤ k ∧ k ≤ 61) → uPq a a2 b b2 → uSx dr wp pr cnt W T n a2 b2 → a2 88 = R2 → (∀ j, j < 120 * (s + 1) → a2 89 j = a 89 j) → pmWp ro 7 12 226 2 80 [some (.ref 87), some (xV c), some (xV s), some (xV g), some (xV k)] [] (xS a2 b2) Q := by
    intro a2 b2 g k hg hk i1 i2 i3 i5
    refine w226e hg hk (u227 (by omega) (by decide) (w226f hg hk ?_))
    refine hQ _ b2 g (uPq_t i1 (uPq_8 (fun q j _ e => uTa_n e))) (uSx_8 i2 (xAr_ta i2.1.1) (fun q j _ e => uTa_n e)) (uTa_row (uShl_o ⟨hs.1, by omega⟩ hsh i5) (fun j hj => by rw [i3]; exact out1 j hj)) (fun j hj => ?_) hg
    rw [uTa_n (by decide)]
    exact i5 j hj
  have loop : ∀ (w : Nat) (k g : Int) (a2 : xA) (b2 : xB), k + (w : Int) = 61 → -1 ≤ k → (g = 0 ∨ g = 1) → uPq a a2 b b2 → uSx dr wp pr cnt W T n a2 b2 → a2 88 = R2 → uShl (s + 1) R2 a2 → (∀ j, j < 120 * (s + 1) → a2 89 j = a 89 j) → pmWp ro 7 12 226 2 17 [some (.ref 87), some (xV c), some (xV s), some (xV g), some (xV k)] [] (xS a2 b2) Q := by
    intro w
    induction w with
    | zero =>
      intro k g a2 b2 hk k0 hg i1 i2 i3 i4 i5
      exact w226k hg ⟨k0, by omega⟩ (fun _ => fin a2 b2 g k hg ⟨k0, by omega⟩ i1 i2 i3 i5) (fun e => absurd (by omega) e) (fun e => absurd (by omega) e) (fun e => absurd (by omega) e)
    | succ w ih =>
      intro k g a2 b2 hk k0 hg i1 i2 i3 i4 i5
      have hkk : -1 ≤ k ∧ k ≤ 61 := ⟨k0, by omega⟩
      have nxt : ∀ (g2 : Int) (a3 : xA) (b3 : xB), (g2 = 0 ∨ g2 = 1) → uPq a a3 b b3 → uSx dr wp pr cnt W T n a3 b3 → a3 88 = R2 → uShl (s + 1) R2 a3 → (∀ j, j < 120 * (s + 1) → a3 89 j = a 89 j) → pmWp ro 7 12 226 2 74 [some (.ref 87), some (xV c), some (xV s), some (xV g2), some (xV k)] [] (xS a3 b3) Q := fun g2 a3 b3 hg2 j1 j2 j3 j4 j5 => w226n hg2 hkk (ih (k + 1) g2 a3 b3 (by omega) (by omega) hg2 j1 j2 j3 j4 j5)
      -- behind a turn: the row is taken up again
      have back : ∀ (g2 : Int) (a3 : xA) (b3 : xB), (g2 = 0 ∨ g2 = 1) → uPq a a3 b b3 → uSx dr wp pr cnt W T n a3 b3 → (∀ j, j < 0 ∨ 120 ≤ j → a3 88 j = R2 j) → uShl (s + 1) R2 a3 → (∀ j, j < 120 * (s + 1) → a3 89 j = a 89 j) → pmWp ro 7 12 226 2 67 [some (.ref 87), some (xV c), some (xV s), some (xV g2), some (xV k)] [] (xS a3 b3) Q := by
        intro g2 a3 b3 hg2 j1 j2 j3 j4 j5
        refine w226t hg2 hkk hs7 (u227 (by omega) (by decide) (nxt g2 _ b3 hg2 (uPq_t j1 (uPq_8 (fun q j _ e => uTa_n e))) (uSx_8 j2 (xAr_ta j2.1.1) (fun q j _ e => uTa_n e)) (uTa_row j4 j3) (fun j j0 j1 => ?_) (fun j hj => ?_)))
        · rw [uTa_n (by decide)]
          exact j4 j j0 j1
        · rw [uTa_n (by decide)]
          exact j5 j hj
      have goes : (k = -1 ∨ ((0 ≤ k ∧ k < 61) ∧ (¬ a2 88 0 = 7 → uCp n 0 k (a2 88)))) → pmWp ro 7 12 226 2 47 [some (.ref 87), some (xV c), some (xV s), some (xV g), some (xV k)] [] (xS a2 b2) Q := by
        intro hcp
        refine w226p hg hkk (u208x (m := m + 1) hK i2 (by rw [i3]; exact hrow1) (by omega) hcp (by decide) (by decide) (fun a3 b3 f3 S3 w3 o3 => ?_))
        have p3 : uPq a a3 b b3 := uPq_t i1 (uPq_m f3)
        have e89 : ∀ j, a3 89 j = a2 89 j := fun j => f3.1 89 j (by decide) (by decide) (by decide) (by decide) (by decide) (by decide) (by decide) (by decide) (by decide) (by decide) (by decide) (by decide) (by omega)
        have j3 : ∀ j, j < 0 ∨ 120 ≤ j → a3 88 j = R2 j := fun j hj => by rw [o3 j hj, i3]
        have j4 : uShl (s + 1) R2 a3 := fun j j0 j1 => by rw [e89]; exact i4 j j0 j1
        have j5 : ∀ j, j < 120 * (s + 1) → a3 89 j = a 89 j := fun j hj => by rw [e89]; exact i5 j hj
        refine w226q hg hkk (u224 S3.1.1 S3.2.2.1 S3.2.2.2 (by decide) (fun z hz => ?_))
        exact w226r hg hkk hz hs7 (fun _ => back 0 a3 b3 (by decide) p3 S3 j3 j4 j5) (fun _ => back 1 a3 b3 (by decide) p3 S3 j3 j4 j5)
      refine w226k hg hkk (fun e => absurd e (by omega)) (fun _ _ => fin a2 b2 g k hg hkk i1 i2 i3 i5) (fun _ _ e => goes (Or.inl e)) (fun _ _ e => ?_)
      have hk60 : 0 ≤ k ∧ k < 61 := ⟨by omega, by omega⟩
      have hr2 : uRv n (a2 88) := by rw [i3]; exact hrow1.1
      refine u206 i2.1.1 i2.1.2.1 i2.1.2.2.1 hr2 (by decide) hk60 (by decide) (fun h => w226z hg hkk (by decide) (fun _ => goes (Or.inr ⟨hk60, fun _ => uCa_p hr2 hk60 h⟩)) (fun e => absurd e (by decide))) (fun h => w226z hg hkk (by decide) (fun e => absurd rfl e) (fun _ => nxt g a2 b2 hg i1 i2 i3 i4 i5))
  have e1 : ∀ q j, ¬ q = 89 → q ≠ 88 → (uLa (s + 1) a1) q j = a q j := fun q j e e2 => (uLa_n e).trans (x1 q j e2)
  have e88 : (uLa (s + 1) a1) 88 = a1 88 := funext fun j => uLa_n (by decide)
  refine loop 62 (-1) 1 (uLa (s + 1) a1) b (by decide) (by decide) (by decide) (uPq_8 e1) (uSx_8 hS (xAr_la A1) e1) (by rw [e88]; exact R1) (by rw [← R1]; exact uLa_s) (fun j hj => (uLa_lo hj).trans (x1 89 j (by decide)))

/-- isKept 225 -/
theorem u225 (hK : uRk pr cnt W T) (hS : uSx dr wp pr cnt W T n a b) (hR : a 88 = R) (hrow : uRow n m R) (hm : 0 ≤ m ∧ m ≤ 20) (hs : 0 ≤ s ∧ s ≤ 5) (hd : 9 ≤ d) (hQ : ∀ a' b' z, uPq a a' b b' → uSx dr wp pr cnt W T n a' b' → a' 88 = R → (∀ j, j < 120 * s → a' 89 j = a 89 j) → (z = 0 ∨ z = 1) → Q (some (xV z)) (xS a' b')) : pmCs ro d 225 [.ref 87, xV s] (xS a b) Q := by
  have hn0 : 0 ≤ n ∧ n ≤ 5 := hS.1.2.1.2.2.1
  have hrow0 := hrow
  obtain ⟨r1, y1, y2, y3, y4, y5, y6⟩ := hrow
  refine pmCs_deep (d := 9) (xg225 (w225 (u181 (by omega) (by decide) (w225a ?_)))) hd
  have loop : ∀ (w : Nat) (c : Int) (a2 : xA) (b2 : xB), c + (w : Int) = 57 → 0 ≤ c → uPq a a2 b b2 → uSx dr wp pr cnt W T n a2 b2 → a2 88 = R → uShl s R a2 → (∀ j, j < 120 * s → a2 89 j = a 89 j) → pmWp ro 8 12 225 2 7 [some (.ref 87), some (xV s), some (xV c)] [] (xS a2 b2) Q := by
    intro w
    induction w with
    | zero =>
      intro c a2 b2 hc c0 i1 i2 i3 i4 i5
      exact w225c ⟨c0, by omega⟩ (fun _ => hQ a2 b2 0 i1 i2 i3 i5 (by decide)) (fun e => absurd (by omega) e)
    | succ w ih =>
      intro c a2 b2 hc c0 i1 i2 i3 i4 i5
      have nxt : ∀ (a3 : xA) (b3 : xB), uPq a a3 b b3 → uSx dr wp pr cnt W T n a3 b3 → a3 88 = R → uShl s R a3 → (∀ j, j < 120 * s → a3 89 j = a 89 j) → pmWp ro 8 12 225 2 32 [some (.ref 87), some (xV s), some (xV c)] [] (xS a3 b3) Q := fun a3 b3 j1 j2 j3 j4 j5 => w225n (ih (c + 1) a3 b3 (by omega) (by omega) j1 j2 j3 j4 j5)
      refine w225c ⟨c0, by omega⟩ (fun e => absurd e (by omega)) (fun _ => ?_)
      have hr2 : uRv n (a2 88) := by rw [i3]; exact r1
      refine u217 i2.1.1 i2.1.2.1.2.1 hn0 i2.1.2.2.1 hr2 (by rw [i3]; omega) (by rw [i3]; exact y2) ⟨c0, by omega⟩ (by decide) (fun _ => w225z (by decide) (fun e => absurd e (by decide)) (fun _ => ?_)) (fun _ => w225z (by decide) (fun _ => nxt a2 b2 i1 i2 i3 i4 i5) (fun e => absurd rfl e))
      refine u226 hK i2 i3 hrow0 hm ⟨c0, by omega⟩ hs i4 (by decide) (fun a3 b3 z f3 S3 e3 l3 hz => ?_)
      have k4 : uShl s R a3 := uShl_o (x := s + 1) ⟨hs.1, by omega⟩ i4 l3
      have k5 : ∀ j, j < 120 * s → a3 89 j = a 89 j := fun j hj => (l3 j (by omega)).trans (i5 j hj)
      exact w225y hz (fun _ => nxt a3 b3 (uPq_t i1 f3) S3 e3 k4 k5) (fun _ => hQ a3 b3 1 (uPq_t i1 f3) S3 e3 k5 (by decide))
  have e1 : ∀ q j, ¬ q = 89 → q ≠ 88 → (uLa s a) q j = a q j := fun q j e _ => uLa_n e
  have e88 : (uLa s a) 88 = a 88 := funext fun j => uLa_n (by decide)
  refine loop 57 0 (uLa s a) b (by decide) (by decide) (uPq_8 e1) (uSx_8 hS (xAr_la hS.1.1) e1) (by rw [e88]; exact hR) (by rw [← hR]; exact uLa_s) (fun j hj => uLa_lo hj)

/-- actKeeps 229 -/
theorem u229 (hK : uRk pr cnt W T) (hS : uSx dr wp pr cnt W T n a b) (hR : a 88 = R) (hrow : uRow n m R) (hm : 0 ≤ m ∧ m ≤ 18) (hc : 0 ≤ c ∧ c ≤ 56) (hs : 0 ≤ s ∧ s ≤ 3) (hsh : uShl s R a) (hd : 10 ≤ d) (hQ : ∀ a' b' z, uPq a a' b b' → uSx dr wp pr cnt W T n a' b' → a' 88 = R → (∀ j, j < 120 * (s + 1) → a' 89 j = a 89 j) → (z = 0 ∨ z = 1) → Q (some (xV z)) (xS a' b')) : pmCs ro d 229 [.ref 87, xV c, xV s] (xS a b) Q := by
  have hn0 : 0 ≤ n ∧ n ≤ 5 := hS.1.2.1.2.2.1
  have hs7 : 0 ≤ s ∧ s ≤ 7 := ⟨hs.1, by omega⟩
  obtain ⟨r1, y1, y2, y3, y4, y5, y6⟩ := hrow
  have hrow1 : uRow n (m + 1) (uAx n c R) := uRow_x hn0 (by omega) ⟨r1, y1, y2, y3, y4, y5, y6⟩ hc
  have out1 : ∀ j, j < 0 ∨ 120 ≤ j → uAx n c R j = R j := fun j hj => uAx_n hn0 r1 hc hj
  refine pmCs_deep (d := 10) (xg229 (w229 ?_)) hd
  refine u221 hS.1.1 hS.1.2.1.2.1 hn0 (by rw [hR]; exact r1) (by rw [hR]; omega) (by rw [hR]; omega) (by rw [hR]; omega) hc (by decide) (fun a1 x1 A1 R1 => w229a hs7 (u181 (by omega) (by decide) (w229b ?_)))
  rw [hR] at R1
  -- the loop
  obtain ⟨R2, eR2⟩ : ∃ R2, uAx n c R = R2 := ⟨_, rfl⟩
  rw [eR2] at hrow1 out1 R1
  have fin : ∀ (a2 : xA) (b2 : xB) (g k : Int), (g = 0 ∨ g = 1) → (-1 ≤ k ∧ k ≤ 61) → uPq a a2 b b2 → uSx dr wp pr cnt W T n a2 b2 → a2 88 = R2 → (∀ j, j < 120 * (s + 1) → a2 89 j = a 89 j) → pmWp ro 9 12 229 2 90 [some (.ref 87), some (xV c), some (xV s), some (xV g), some (xV k)] [] (xS a2 b2) Q := by
    intro a2 b2 g k hg hk i1 i2 i3 i5
    refine w229e hg hk (u227 (by omega) (by decide) (w229f hg hk ?_))
    refine hQ _ b2 g (uPq_t i1 (uPq_8 (fun q j _ e => uTa_n e))) (uSx_8 i2 (xAr_ta i2.1.1) (fun q j _ e => uTa_n e)) (uTa_row (uShl_o ⟨hs.1, by omega⟩ hsh i5) (fun j hj => by rw [i3]; exact out1 j hj)) (fun j hj => ?_) hg
    rw [uTa_n (by decide)]
    exact i5 j hj
  have loop : ∀ (w : Nat) (k g : Int) (a2 : xA) (b2 : xB), k + (w : Int) = 61 → -1 ≤ k → (g = 0 ∨ g = 1) → uPq a a2 b b2 → uSx dr wp pr cnt W T n a2 b2 → a2 88 = R2 → uShl (s + 1) R2 a2 → (∀ j, j < 120 * (s + 1) → a2 89 j = a 89 j) → pmWp ro 9 12 229 2 17 [some (.ref 87), some (xV c), some (xV s), some (xV g), some (xV k)] [] (xS a2 b2) Q := by
    intro w
    induction w with
    | zero =>
      intro k g a2 b2 hk k0 hg i1 i2 i3 i4 i5
      exact w229k hg ⟨k0, by omega⟩ (fun _ => fin a2 b2 g k hg ⟨k0, by omega⟩ i1 i2 i3 i5) (fun e => absurd (by omega) e) (fun e => absurd (by omega) e) (fun e => absurd (by omega) e)
    | succ w ih =>
      intro k g a2 b2 hk k0 hg i1 i2 i3 i4 i5
      have hkk : -1 ≤ k ∧ k ≤ 61 := ⟨k0, by omega⟩
      have nxt : ∀ (g2 : Int) (a3 : xA) (b3 : xB), (g2 = 0 ∨ g2 = 1) → uPq a a3 b b3 → uSx dr wp pr cnt W T n a3 b3 → a3 88 = R2 → uShl (s + 1) R2 a3 → (∀ j, j < 120 * (s + 1) → a3 89 j = a 89 j) → pmWp ro 9 12 229 2 84 [some (.ref 87), some (xV c), some (xV s), some (xV g2), some (xV k)] [] (xS a3 b3) Q := fun g2 a3 b3 hg2 j1 j2 j3 j4 j5 => w229n hg2 hkk (ih (k + 1) g2 a3 b3 (by omega) (by omega) hg2 j1 j2 j3 j4 j5)
      -- behind a turn: the row is taken up again
      have back : ∀ (g2 : Int) (a3 : xA) (b3 : xB), (g2 = 0 ∨ g2 = 1) → uPq a a3 b b3 → uSx dr wp pr cnt W T n a3 b3 → (∀ j, j < 0 ∨ 120 ≤ j → a3 88 j = R2 j) → uShl (s + 1) R2 a3 → (∀ j, j < 120 * (s + 1) → a3 89 j = a 89 j) → pmWp ro 9 12 229 2 77 [some (.ref 87), some (xV c), some (xV s), some (xV g2), some (xV k)] [] (xS a3 b3) Q := by
        intro g2 a3 b3 hg2 j1 j2 j3 j4 j5
        refine w229t hg2 hkk hs7 (u227 (by omega) (by decide) (nxt g2 _ b3 hg2 (uPq_t j1 (uPq_8 (fun q j _ e => uTa_n e))) (uSx_8 j2 (xAr_ta j2.1.1) (fun q j _ e => uTa_n e)) (uTa_row j4 j3) (fun j j0 j1 => ?_) (fun j hj => ?_)))
        · rw [uTa_n (by decide)]
          exact j4 j j0 j1
        · rw [uTa_n (by decide)]
          exact j5 j hj
      have goes : (k = -1 ∨ ((0 ≤ k ∧ k < 61) ∧ (¬ a2 88 0 = 7 → uCp n 0 k (a2 88)))) → pmWp ro 9 12 229 2 47 [some (.ref 87), some (xV c), some (xV s), some (xV g), some (xV k)] [] (xS a2 b2) Q := by
        intro hcp
        refine w229p hg hkk (u208x (m := m + 1) hK i2 (by rw [i3]; exact hrow1) (by omega) hcp (by decide) (by decide) (fun a3 b3 f3 S3 w3 o3 => ?_))
        have p3 : uPq a a3 b b3 := uPq_t i1 (uPq_m f3)
        have e89 : ∀ j, a3 89 j = a2 89 j := fun j => f3.1 89 j (by decide) (by decide) (by decide) (by decide) (by decide) (by decide) (by decide) (by decide) (by decide) (by decide) (by decide) (by decide) (by omega)
        have j3 : ∀ j, j < 0 ∨ 120 ≤ j → a3 88 j = R2 j := fun j hj => by rw [o3 j hj, i3]
        have j4 : uShl (s + 1) R2 a3 := fun j j0 j1 => by rw [e89]; exact i4 j j0 j1
        have j5 : ∀ j, j < 120 * (s + 1) → a3 89 j = a 89 j := fun j hj => by rw [e89]; exact i5 j hj
        refine w229q hg hkk (u224 S3.1.1 S3.2.2.1 S3.2.2.2 (by decide) (fun z hz => ?_))
        refine w229r hg hkk hz hs7 (fun _ => back 0 a3 b3 (by decide) p3 S3 j3 j4 j5) (fun _ => ?_)
        refine u225 (m := m + 2) hK S3 rfl (by rw [show m + 2 = m + 1 + 1 by omega]; exact w3) (by omega) (by omega) (by decide) (fun a4 b4 z2 f4 S4 e4 l4 hz2 => ?_)
        have k3 : ∀ j, j < 0 ∨ 120 ≤ j → a4 88 j = R2 j := fun j hj => by rw [e4]; exact j3 j hj
        have k4 : uShl (s + 1) R2 a4 := uShl_o (x := s + 2) ⟨by omega, by omega⟩ j4 l4
        have k5 : ∀ j, j < 120 * (s + 1) → a4 89 j = a 89 j := fun j hj => (l4 j (by omega)).trans (j5 j hj)
        exact w229x hg hkk hz2 (fun _ => back 0 a4 b4 (by decide) (uPq_t p3 f4) S4 k3 k4 k5) (fun _ => back 1 a4 b4 (by decide) (uPq_t p3 f4) S4 k3 k4 k5)
      refine w229k hg hkk (fun e => absurd e (by omega)) (fun _ _ => fin a2 b2 g k hg hkk i1 i2 i3 i5) (fun _ _ e => goes (Or.inl e)) (fun _ _ e => ?_)
      have hk60 : 0 ≤ k ∧ k < 61 := ⟨by omega, by omega⟩
      have hr2 : uRv n (a2 88) := by rw [i3]; exact hrow1.1
      refine u206 i2.1.1 i2.1.2.1 i2.1.2.2.1 hr2 (by decide) hk60 (by decide) (fun h => w229z hg hkk (by decide) (fun _ => goes (Or.inr ⟨hk60, fun _ => uCa_p hr2 hk60 h⟩)) (fun e => absurd e (by decide))) (fun h => w229z hg hkk (by decide) (fun e => absurd rfl e) (fun _ => nxt g a2 b2 hg i1 i2 i3 i4 i5))
  have e1 : ∀ q j, ¬ q = 89 → q ≠ 88 → (uLa (s + 1) a1) q j = a q j := fun q j e e2 => (uLa_n e).trans (x1 q j e2)
  have e88 : (uLa (s + 1) a1) 88 = a1 88 := funext fun j => uLa_n (by decide)
  refine loop 62 (-1) 1 (uLa (s + 1) a1) b (by decide) (by decide) (by decide) (uPq_8 e1) (uSx_8 hS (xAr_la A1) e1) (by rw [e88]; exact R1) (by rw [← R1]; exact uLa_s) (fun j hj => (uLa_lo hj).trans (x1 89 j (by decide)))

/-- isKept 228 -/
theorem u228 (hK : uRk pr cnt W T) (hS : uSx dr wp pr cnt W T n a b) (hR : a 88 = R) (hrow : uRow n m R) (hm : 0 ≤ m ∧ m ≤ 18) (hs : 0 ≤ s ∧ s ≤ 3) (hd : 11 ≤ d) (hQ : ∀ a' b' z, uPq a a' b b' → uSx dr wp pr cnt W T n a' b' → a' 88 = R → (∀ j, j < 120 * s → a' 89 j = a 89 j) → (z = 0 ∨ z = 1) → Q (some (xV z)) (xS a' b')) : pmCs ro d 228 [.ref 87, xV s] (xS a b) Q := by
  have hn0 : 0 ≤ n ∧ n ≤ 5 := hS.1.2.1.2.2.1
  have hrow0 := hrow
  obtain ⟨r1, y1, y2, y3, y4, y5, y6⟩ := hrow
  refine pmCs_deep (d := 11) (xg228 (w228 (u181 (by omega) (by decide) (w228a ?_)))) hd
  have loop : ∀ (w : Nat) (c : Int) (a2 : xA) (b2 : xB), c + (w : Int) = 57 → 0 ≤ c → uPq a a2 b b2 → uSx dr wp pr cnt W T n a2 b2 → a2 88 = R → uShl s R a2 → (∀ j, j < 120 * s → a2 89 j = a 89 j) → pmWp ro 10 12 228 2 7 [some (.ref 87), some (xV s), some (xV c)] [] (xS a2 b2) Q := by
    intro w
    induction w with
    | zero =>
      intro c a2 b2 hc c0 i1 i2 i3 i4 i5
      exact w228c ⟨c0, by omega⟩ (fun _ => hQ a2 b2 0 i1 i2 i3 i5 (by decide)) (fun e => absurd (by omega) e)
    | succ w ih =>
      intro c a2 b2 hc c0 i1 i2 i3 i4 i5
      have nxt : ∀ (a3 : xA) (b3 : xB), uPq a a3 b b3 → uSx dr wp pr cnt W T n a3 b3 → a3 88 = R → uShl s R a3 → (∀ j, j < 120 * s → a3 89 j = a 89 j) → pmWp ro 10 12 228 2 32 [some (.ref 87), some (xV s), some (xV c)] [] (xS a3 b3) Q := fun a3 b3 j1 j2 j3 j4 j5 => w228n (ih (c + 1) a3 b3 (by omega) (by omega) j1 j2 j3 j4 j5)
      refine w228c ⟨c0, by omega⟩ (fun e => absurd e (by omega)) (fun _ => ?_)
      have hr2 : uRv n (a2 88) := by rw [i3]; exact r1
      refine u217 i2.1.1 i2.1.2.1.2.1 hn0 i2.1.2.2.1 hr2 (by rw [i3]; omega) (by rw [i3]; exact y2) ⟨c0, by omega⟩ (by decide) (fun _ => w228z (by decide) (fun e => absurd e (by decide)) (fun _ => ?_)) (fun _ => w228z (by decide) (fun _ => nxt a2 b2 i1 i2 i3 i4 i5) (fun e => absurd rfl e))
      refine u229 hK i2 i3 hrow0 hm ⟨c0, by omega⟩ hs i4 (by decide) (fun a3 b3 z f3 S3 e3 l3 hz => ?_)
      have k4 : uShl s R a3 := uShl_o (x := s + 1) ⟨hs.1, by omega⟩ i4 l3
      have k5 : ∀ j, j < 120 * s → a3 89 j = a 89 j := fun j hj => (l3 j (by omega)).trans (i5 j hj)
      exact w228y hz (fun _ => nxt a3 b3 (uPq_t i1 f3) S3 e3 k4 k5) (fun _ => hQ a3 b3 1 (uPq_t i1 f3) S3 e3 k5 (by decide))
  have e1 : ∀ q j, ¬ q = 89 → q ≠ 88 → (uLa s a) q j = a q j := fun q j e _ => uLa_n e
  have e88 : (uLa s a) 88 = a 88 := funext fun j => uLa_n (by decide)
  refine loop 57 0 (uLa s a) b (by decide) (by decide) (uPq_8 e1) (uSx_8 hS (xAr_la hS.1.1) e1) (by rw [e88]; exact hR) (by rw [← hR]; exact uLa_s) (fun j hj => uLa_lo hj)

/-- what a question about keeping leaves -/
def uKq (dr wp pr cnt W : Int → Int) (T : Int → List Int) (n : Int) (a a' : xA) (b b' : xB) : Prop := uPq a a' b b' ∧ uSx dr wp pr cnt W T n a' b' ∧ a' 88 = a 88 ∧ ∀ j, j < 120 → a' 89 j = a 89 j
theorem uKq_r (hS : uSx dr wp pr cnt W T n a b) : uKq dr wp pr cnt W T n a a b b := ⟨uPq_r, hS, rfl, fun _ _ => rfl⟩
theorem u223 (q1 : xR t) (hK : uRk pr cnt W T) (hS : uSx dr wp pr cnt W T n a b) (hrow : uRow n 0 (a 88)) (hb : a 87 4 = bg) (hbg : bg = 0 ∨ bg = 1) (hd : 13 ≤ d) (hQ : ∀ a' b' z, uKq dr wp pr cnt W T n a a' b b' → (-1 ≤ z ∧ z ≤ 1) → Q (some (xV z)) (xS a' b')) : pmCs ro d 223 [.ref 87, xV t] (xS a b) Q := by
  have no := hQ a b (-1) (uKq_r hS) (by decide)
  refine pmCs_deep (d := 13) (xg223 (w223 q1 hb hbg (by decide) (fun _ => no) (fun _ ht => ?_) (fun _ _ => no))) hd
  refine u224 hS.1.1 hS.2.2.1 hS.2.2.2 (by decide) (fun z hz => ?_)
  refine w223a ht hz (fun _ _ _ => ?_) (fun _ _ _ => ?_) (fun _ _ => hQ a b 1 (uKq_r hS) (by decide)) (fun _ => hQ a b 0 (uKq_r hS) (by decide))
  · refine u228 (m := 0) hK hS rfl hrow (by decide) (by decide) (by decide) (fun a2 b2 z2 f2 S2 e2 l2 hz2 => ?_)
    exact w223c hz2 (fun _ => hQ a2 b2 0 ⟨f2, S2, e2, fun j hj => l2 j (by omega)⟩ (by decide)) (fun _ => hQ a2 b2 1 ⟨f2, S2, e2, fun j hj => l2 j (by omega)⟩ (by decide))
  · refine u225 (m := 0) hK hS rfl hrow (by decide) (by decide) (by decide) (fun a2 b2 z2 f2 S2 e2 l2 hz2 => ?_)
    exact w223b hz2 (fun _ => hQ a2 b2 0 ⟨f2, S2, e2, fun j hj => l2 j (by omega)⟩ (by decide)) (fun _ => hQ a2 b2 1 ⟨f2, S2, e2, fun j hj => l2 j (by omega)⟩ (by decide))
theorem u230 (hK : uRk pr cnt W T) (hS : uSx dr wp pr cnt W T n a b) (hrow : uRow n 0 (a 88)) (hb : a 87 4 = bg) (hbg : bg = 0 ∨ bg = 1) (hd : 13 ≤ d) (hQ : ∀ a' b' z, uKq dr wp pr cnt W T n a a' b b' → (-1 ≤ z ∧ z ≤ 3) → Q (some (xV z)) (xS a' b')) : pmCs ro d 230 [.ref 87] (xS a b) Q := by
  refine pmCs_deep (d := 13) (xg230 (w230 hb hbg (by decide) (fun _ => ?_) (fun _ => hQ a b (-1) (uKq_r hS) (by decide)))) hd
  refine u224 hS.1.1 hS.2.2.1 hS.2.2.2 (by decide) (fun z hz => ?_)
  refine w230a hz (fun _ => ?_) (fun _ => hQ a b 0 (uKq_r hS) (by decide))
  refine u225 (m := 0) hK hS rfl hrow (by decide) (by decide) (by decide) (fun a2 b2 z2 f2 S2 e2 l2 hz2 => ?_)
  refine w230b hz2 (fun _ => ?_) (fun _ => hQ a2 b2 1 ⟨f2, S2, e2, fun j hj => l2 j (by omega)⟩ (by decide))
  refine u228 (m := 0) hK S2 e2 hrow (by decide) (by decide) (by decide) (fun a3 b3 z3 f3 S3 e3 l3 hz3 => ?_)
  have g : uKq dr wp pr cnt W T n a a3 b b3 := ⟨uPq_t f2 f3, S3, e3, fun j hj => (l3 j (by omega)).trans (l2 j (by omega))⟩
  exact w230c hz3 (fun _ => hQ a3 b3 2 g (by decide)) (fun _ => hQ a3 b3 3 g (by decide))
theorem u231 (q1 : xR t) (q2 : xR wh) (hK : uRk pr cnt W T) (hS : uSx dr wp pr cnt W T n a b) (hrow : uRow n 0 (a 88)) (hb : a 87 4 = bg) (hbg : bg = 0 ∨ bg = 1) (hd : 13 ≤ d) (hQ : ∀ a' b' z, uKq dr wp pr cnt W T n a a' b b' → (-2 ≤ z ∧ z ≤ 4000) → Q (some (xV z)) (xS a' b')) : pmCs ro d 231 [.ref 87, xV t, xV wh] (xS a b) Q := by
  have no := hQ a b (-1) (uKq_r hS) (by decide)
  have hn0 : 0 ≤ n ∧ n ≤ 5 := hS.1.2.1.2.2.1
  obtain ⟨R, eR⟩ : ∃ R, a 88 = R := ⟨_, rfl⟩
  have hrow0 := hrow
  rw [eR] at hrow
  obtain ⟨r1, y1, y2, y3, y4, y5, y6⟩ := hrow
  refine pmCs_deep (d := 13) (xg231 (wa231 q1 q2 hb hbg (by decide) (fun _ => no) (fun _ ht hw => ?_) (fun _ _ _ => no) (fun _ _ => no))) hd
  refine u224 hS.1.1 hS.2.2.1 hS.2.2.2 (by decide) (fun z hz => wa231a hz ht hw (fun _ => ?_) (fun _ => hQ a b (-2) (uKq_r hS) (by decide)))
  refine u181 (by decide) (by decide) (wa231b ?_)
  have loop : ∀ (w : Nat) (c bs : Int) (a2 : xA) (b2 : xB), c + (w : Int) = 57 → 0 ≤ c → (-1 ≤ bs ∧ bs ≤ 56) → uPq a a2 b b2 → uSx dr wp pr cnt W T n a2 b2 → a2 88 = R → uShl 1 R a2 → (∀ j, j < 120 → a2 89 j = a 89 j) → pmWp ro 12 12 231 1 47 [some (.ref 87), some (xV t), some (xV wh), some (xV bs), some (xV c)] [] (xS a2 b2) Q := by
    intro w
    induction w with
    | zero =>
      intro c bs a2 b2 hc c0 hbs i1 i2 i3 i4 i5
      have g : uKq dr wp pr cnt W T n a a2 b b2 := ⟨i1, i2, i3.trans eR.symm, i5⟩
      have h116 : 0 ≤ a2 88 116 ∧ a2 88 116 ≤ 1000 := by rw [i3]; omega
      have h117 : 0 ≤ a2 88 117 ∧ a2 88 117 ≤ 1000 := by rw [i3]; omega
      have hpb := uPr_b (c := bs) h116 h117
      refine wa231k ht hw hbs ⟨c0, by omega⟩ (fun _ => ?_) (fun e => absurd (by omega) e)
      refine wa231e ht hw hbs ⟨c0, by omega⟩ h116 h117 (by decide) ?_ ?_ ?_ ?_ ?_ ?_ ?_ ?_ ?_ ?_ ?_ <;> intros <;> exact hQ a2 b2 _ g (by omega)
    | succ w ih =>
      intro c bs a2 b2 hc c0 hbs i1 i2 i3 i4 i5
      have hc56 : 0 ≤ c ∧ c ≤ 56 := ⟨c0, by omega⟩
      have nxt : ∀ (bs : Int) (a3 : xA) (b3 : xB), (-1 ≤ bs ∧ bs ≤ 56) → uPq a a3 b b3 → uSx dr wp pr cnt W T n a3 b3 → a3 88 = R → uShl 1 R a3 → (∀ j, j < 120 → a3 89 j = a 89 j) → pmWp ro 12 12 231 1 116 [some (.ref 87), some (xV t), some (xV wh), some (xV bs), some (xV c)] [] (xS a3 b3) Q := fun bs a3 b3 hbs j1 j2 j3 j4 j5 => wa231n (ih (c + 1) bs a3 b3 (by omega) (by omega) hbs j1 j2 j3 j4 j5)
      refine wa231k ht hw hbs ⟨c0, by omega⟩ (fun e => absurd e (by omega)) (fun _ => ?_)
      have hr2 : uRv n (a2 88) := by rw [i3]; exact r1
      have h116 : 0 ≤ a2 88 116 ∧ a2 88 116 ≤ 1000 := by rw [i3]; omega
      have h117 : 0 ≤ a2 88 117 ∧ a2 88 117 ≤ 1000 := by rw [i3]; omega
      have tries : pmWp ro 12 12 231 1 85 [some (.ref 87), some (xV t), some (xV wh), some (xV bs), some (xV c)] [] (xS a2 b2) Q := by
        refine wa231y ht hw hbs hc56 (fun _ => ?_) (fun _ => ?_)
        · refine u229 (m := 0) hK i2 i3 (by rw [← eR]; exact hrow0) (by decide) hc56 (by decide) i4 (by decide) (fun a3 b3 z f3 S3 e3 l3 hz => ?_)
          have k4 : uShl 1 R a3 := uShl_o (x := 2) (by decide) i4 (fun j hj => l3 j (by omega))
          have k5 : ∀ j, j < 120 → a3 89 j = a 89 j := fun j hj => (l3 j (by omega)).trans (i5 j hj)
          exact wa231q ht hw hbs hc56 hz (fun _ => nxt bs a3 b3 hbs (uPq_t i1 f3) S3 e3 k4 k5) (fun _ => nxt c a3 b3 ⟨by omega, by omega⟩ (uPq_t i1 f3) S3 e3 k4 k5)
        · refine u226 (m := 0) hK i2 i3 (by rw [← eR]; exact hrow0) (by decide) hc56 (by decide) i4 (by decide) (fun a3 b3 z f3 S3 e3 l3 hz => ?_)
          have k4 : uShl 1 R a3 := uShl_o (x := 2) (by decide) i4 (fun j hj => l3 j (by omega))
          have k5 : ∀ j, j < 120 → a3 89 j = a 89 j := fun j hj => (l3 j (by omega)).trans (i5 j hj)
          exact wa231p ht hw hbs hc56 hz (fun _ => nxt bs a3 b3 hbs (uPq_t i1 f3) S3 e3 k4 k5) (fun _ => nxt c a3 b3 ⟨by omega, by omega⟩ (uPq_t i1 f3) S3 e3 k4 k5)
      refine u217 i2.1.1 i2.1.2.1.2.1 hn0 i2.1.2.2.1 hr2 (by rw [i3]; omega) (by rw [i3]; exact y2) hc56 (by decide) (fun _ => wa231z ht hw hbs hc56 (by decide) h116 h117 (by decide) (fun e => absurd e (by decide)) (fun _ _ => tries) (fun _ _ _ => tries) (fun _ _ _ => nxt bs a2 b2 hbs i1 i2 i3 i4 i5)) (fun _ => wa231z ht hw hbs hc56 (by decide) h116 h117 (by decide) (fun _ => nxt bs a2 b2 hbs i1 i2 i3 i4 i5) (fun e => absurd rfl e) (fun e => absurd rfl e) (fun e => absurd rfl e))
  have e1 : ∀ q j, ¬ q = 89 → q ≠ 88 → (uLa 1 a) q j = a q j := fun q j e _ => uLa_n e
  have e88 : (uLa 1 a) 88 = a 88 := funext fun j => uLa_n (by decide)
  refine loop 57 0 (-1) (uLa 1 a) b (by decide) (by decide) (by decide) (uPq_8 e1) (uSx_8 hS (xAr_la hS.1.1) e1) (by rw [e88]; exact eR) (by rw [← eR]; exact uLa_s) (fun j hj => uLa_lo (by omega))
end
end
end
section
/-! exact: copying of worlds; more rules -/
section
set_option maxRecDepth 100000
theorem xi113 : pmInf[113]? = some pmI_113 := rfl
theorem xc66_0 : pmCode 66 0 = some (.aload_n 1) ∧ 0 + 1 = 1 := ⟨rfl, rfl⟩
theorem xc66_1 : pmCode 66 1 = some (.getfield 9) ∧ 1 + 3 = 4 := ⟨rfl, rfl⟩
theorem xc66_4 : pmCode 66 4 = some (.iconst 0) ∧ 4 + 1 = 5 := ⟨rfl, rfl⟩
theorem xc66_5 : pmCode 66 5 = some (.aload_n 0) ∧ 5 + 1 = 6 := ⟨rfl, rfl⟩
theorem xc66_6 : pmCode 66 6 = some (.getfield 9) ∧ 6 + 3 = 9 := ⟨rfl, rfl⟩
theorem xc66_9 : pmCode 66 9 = some (.iconst 0) ∧ 9 + 1 = 10 := ⟨rfl, rfl⟩
theorem xc66_10 : pmCode 66 10 = some (.iconst 4) ∧ 10 + 1 = 11 := ⟨rfl, rfl⟩
theorem xc66_11 : pmCode 66 11 = some (.invokestatic 33) ∧ 11 + 3 = 14 := ⟨rfl, rfl⟩
theorem xc66_14 : pmCode 66 14 = some (.aload_n 1) ∧ 14 + 1 = 15 := ⟨rfl, rfl⟩
theorem xc66_15 : pmCode 66 15 = some (.getfield 15) ∧ 15 + 3 = 18 := ⟨rfl, rfl⟩
theorem xc66_18 : pmCode 66 18 = some (.iconst 0) ∧ 18 + 1 = 19 := ⟨rfl, rfl⟩
theorem xc66_19 : pmCode 66 19 = some (.aload_n 0) ∧ 19 + 1 = 20 := ⟨rfl, rfl⟩
theorem xc66_20 : pmCode 66 20 = some (.getfield 15) ∧ 20 + 3 = 23 := ⟨rfl, rfl⟩
theorem xc66_23 : pmCode 66 23 = some (.iconst 0) ∧ 23 + 1 = 24 := ⟨rfl, rfl⟩
theorem xc66_24 : pmCode 66 24 = some (.bipush 24) ∧ 24 + 2 = 26 := ⟨rfl, rfl⟩
theorem xc66_26 : pmCode 66 26 = some (.invokestatic 33) ∧ 26 + 3 = 29 := ⟨rfl, rfl⟩
theorem xc66_29 : pmCode 66 29 = some (.aload_n 1) ∧ 29 + 1 = 30 := ⟨rfl, rfl⟩
theorem xc66_30 : pmCode 66 30 = some (.getfield 19) ∧ 30 + 3 = 33 := ⟨rfl, rfl⟩
theorem xc66_33 : pmCode 66 33 = some (.iconst 0) ∧ 33 + 1 = 34 := ⟨rfl, rfl⟩
theorem xc66_34 : pmCode 66 34 = some (.aload_n 0) ∧ 34 + 1 = 35 := ⟨rfl, rfl⟩
theorem xc66_35 : pmCode 66 35 = some (.getfield 19) ∧ 35 + 3 = 38 := ⟨rfl, rfl⟩
theorem xc66_38 : pmCode 66 38 = some (.iconst 0) ∧ 38 + 1 = 39 := ⟨rfl, rfl⟩
theorem xc66_39 : pmCode 66 39 = some (.bipush 6) ∧ 39 + 2 = 41 := ⟨rfl, rfl⟩
theorem xc66_41 : pmCode 66 41 = some (.invokestatic 33) ∧ 41 + 3 = 44 := ⟨rfl, rfl⟩
theorem xc66_44 : pmCode 66 44 = some (.aload_n 0) ∧ 44 + 1 = 45 := ⟨rfl, rfl⟩
theorem xc66_45 : pmCode 66 45 = some (.invokevirtual 39) ∧ 45 + 3 = 48 := ⟨rfl, rfl⟩
theorem xc66_48 : pmCode 66 48 = some (.aload_n 0) ∧ 48 + 1 = 49 := ⟨rfl, rfl⟩
theorem xc66_49 : pmCode 66 49 = some (.aload_n 1) ∧ 49 + 1 = 50 := ⟨rfl, rfl⟩
theorem xc66_50 : pmCode 66 50 = some (.getfield 29) ∧ 50 + 3 = 53 := ⟨rfl, rfl⟩
theorem xc66_53 : pmCode 66 53 = some (.putfield 29) ∧ 53 + 3 = 56 := ⟨rfl, rfl⟩
theorem xc66_56 : pmCode 66 56 = some (.aload_n 0) ∧ 56 + 1 = 57 := ⟨rfl, rfl⟩
theorem xc66_57 : pmCode 66 57 = some (.aload_n 1) ∧ 57 + 1 = 58 := ⟨rfl, rfl⟩
theorem xc66_58 : pmCode 66 58 = some (.getfield 42) ∧ 58 + 3 = 61 := ⟨rfl, rfl⟩
theorem xc66_61 : pmCode 66 61 = some (.putfield 42) ∧ 61 + 3 = 64 := ⟨rfl, rfl⟩
theorem xc66_64 : pmCode 66 64 = some (.aload_n 0) ∧ 64 + 1 = 65 := ⟨rfl, rfl⟩
theorem xc66_65 : pmCode 66 65 = some (.aload_n 1) ∧ 65 + 1 = 66 := ⟨rfl, rfl⟩
theorem xc66_66 : pmCode 66 66 = some (.getfield 45) ∧ 66 + 3 = 69 := ⟨rfl, rfl⟩
theorem xc66_69 : pmCode 66 69 = some (.putfield 45) ∧ 69 + 3 = 72 := ⟨rfl, rfl⟩
theorem xc66_72 : pmCode 66 72 = some (.aload_n 0) ∧ 72 + 1 = 73 := ⟨rfl, rfl⟩
theorem xc66_73 : pmCode 66 73 = some (.aload_n 1) ∧ 73 + 1 = 74 := ⟨rfl, rfl⟩
theorem xc66_74 : pmCode 66 74 = some (.getfield 49) ∧ 74 + 3 = 77 := ⟨rfl, rfl⟩
theorem xc66_77 : pmCode 66 77 = some (.putfield 49) ∧ 77 + 3 = 80 := ⟨rfl, rfl⟩
theorem xc66_80 : pmCode 66 80 = some (.aload_n 0) ∧ 80 + 1 = 81 := ⟨rfl, rfl⟩
theorem xc66_81 : pmCode 66 81 = some (.aload_n 1) ∧ 81 + 1 = 82 := ⟨rfl, rfl⟩
theorem xc66_82 : pmCode 66 82 = some (.getfield 52) ∧ 82 + 3 = 85 := ⟨rfl, rfl⟩
theorem xc66_85 : pmCode 66 85 = some (.putfield 52) ∧ 85 + 3 = 88 := ⟨rfl, rfl⟩
theorem xc66_88 : pmCode 66 88 = some (.aload_n 0) ∧ 88 + 1 = 89 := ⟨rfl, rfl⟩
theorem xc66_89 : pmCode 66 89 = some (.aload_n 1) ∧ 89 + 1 = 90 := ⟨rfl, rfl⟩
theorem xc66_90 : pmCode 66 90 = some (.getfield 55) ∧ 90 + 3 = 93 := ⟨rfl, rfl⟩
theorem xc66_93 : pmCode 66 93 = some (.putfield 55) ∧ 93 + 3 = 96 := ⟨rfl, rfl⟩
theorem xc66_96 : pmCode 66 96 = some (.aload_n 0) ∧ 96 + 1 = 97 := ⟨rfl, rfl⟩
theorem xc66_97 : pmCode 66 97 = some (.aload_n 1) ∧ 97 + 1 = 98 := ⟨rfl, rfl⟩
theorem xc66_98 : pmCode 66 98 = some (.getfield 58) ∧ 98 + 3 = 101 := ⟨rfl, rfl⟩
theorem xc66_101 : pmCode 66 101 = some (.putfield 58) ∧ 101 + 3 = 104 := ⟨rfl, rfl⟩
theorem xc66_104 : pmCode 66 104 = some (.aload_n 0) ∧ 104 + 1 = 105 := ⟨rfl, rfl⟩
theorem xc66_105 : pmCode 66 105 = some (.aload_n 1) ∧ 105 + 1 = 106 := ⟨rfl, rfl⟩
theorem xc66_106 : pmCode 66 106 = some (.getfield 61) ∧ 106 + 3 = 109 := ⟨rfl, rfl⟩
theorem xc66_109 : pmCode 66 109 = some (.putfield 61) ∧ 109 + 3 = 112 := ⟨rfl, rfl⟩
theorem xc66_112 : pmCode 66 112 = some (.aload_n 0) ∧ 112 + 1 = 113 := ⟨rfl, rfl⟩
theorem xc66_113 : pmCode 66 113 = some (.aload_n 1) ∧ 113 + 1 = 114 := ⟨rfl, rfl⟩
theorem xc66_114 : pmCode 66 114 = some (.getfield 64) ∧ 114 + 3 = 117 := ⟨rfl, rfl⟩
theorem xc66_117 : pmCode 66 117 = some (.putfield 64) ∧ 117 + 3 = 120 := ⟨rfl, rfl⟩
theorem xc66_120 : pmCode 66 120 = some .return_ := rfl
theorem xc113_0 : pmCode 113 0 = some (.aload_n 0) ∧ 0 + 1 = 1 := ⟨rfl, rfl⟩
theorem xc113_1 : pmCode 113 1 = some (.getfield 29) ∧ 1 + 3 = 4 := ⟨rfl, rfl⟩
theorem xc113_4 : pmCode 113 4 = some (.aload_n 1) ∧ 4 + 1 = 5 := ⟨rfl, rfl⟩
theorem xc113_5 : pmCode 113 5 = some (.getfield 29) ∧ 5 + 3 = 8 := ⟨rfl, rfl⟩
theorem xc113_8 : pmCode 113 8 = some .lcmp ∧ 8 + 1 = 9 := ⟨rfl, rfl⟩
theorem xc113_9 : pmCode 113 9 = some (.ifCond .ne 30) ∧ ((9 : Nat) : Int) + 30 = ((39 : Nat) : Int) ∧ 9 + 3 = 12 := ⟨rfl, rfl, rfl⟩
theorem xc113_12 : pmCode 113 12 = some (.aload_n 0) ∧ 12 + 1 = 13 := ⟨rfl, rfl⟩
theorem xc113_13 : pmCode 113 13 = some (.getfield 42) ∧ 13 + 3 = 16 := ⟨rfl, rfl⟩
theorem xc113_16 : pmCode 113 16 = some (.aload_n 1) ∧ 16 + 1 = 17 := ⟨rfl, rfl⟩
theorem xc113_17 : pmCode 113 17 = some (.getfield 42) ∧ 17 + 3 = 20 := ⟨rfl, rfl⟩
theorem xc113_20 : pmCode 113 20 = some .lcmp ∧ 20 + 1 = 21 := ⟨rfl, rfl⟩
theorem xc113_21 : pmCode 113 21 = some (.ifCond .ne 18) ∧ ((21 : Nat) : Int) + 18 = ((39 : Nat) : Int) ∧ 21 + 3 = 24 := ⟨rfl, rfl, rfl⟩
theorem xc113_24 : pmCode 113 24 = some (.aload_n 0) ∧ 24 + 1 = 25 := ⟨rfl, rfl⟩
theorem xc113_25 : pmCode 113 25 = some (.getfield 49) ∧ 25 + 3 = 28 := ⟨rfl, rfl⟩
theorem xc113_28 : pmCode 113 28 = some (.aload_n 1) ∧ 28 + 1 = 29 := ⟨rfl, rfl⟩
theorem xc113_29 : pmCode 113 29 = some (.getfield 49) ∧ 29 + 3 = 32 := ⟨rfl, rfl⟩
theorem xc113_32 : pmCode 113 32 = some (.if_icmp .ne 7) ∧ ((32 : Nat) : Int) + 7 = ((39 : Nat) : Int) ∧ 32 + 3 = 35 := ⟨rfl, rfl, rfl⟩
theorem xc113_35 : pmCode 113 35 = some (.iconst 1) ∧ 35 + 1 = 36 := ⟨rfl, rfl⟩
theorem xc113_36 : pmCode 113 36 = some (.goto 4) ∧ ((36 : Nat) : Int) + 4 = ((40 : Nat) : Int) := ⟨rfl, rfl⟩
theorem xc113_39 : pmCode 113 39 = some (.iconst 0) ∧ 39 + 1 = 40 := ⟨rfl, rfl⟩
theorem xc113_40 : pmCode 113 40 = some (.istore_n 2) ∧ 40 + 1 = 41 := ⟨rfl, rfl⟩
theorem xc113_41 : pmCode 113 41 = some (.iconst 0) ∧ 41 + 1 = 42 := ⟨rfl, rfl⟩
theorem xc113_42 : pmCode 113 42 = some (.istore_n 3) ∧ 42 + 1 = 43 := ⟨rfl, rfl⟩
theorem xc113_43 : pmCode 113 43 = some (.iload_n 3) ∧ 43 + 1 = 44 := ⟨rfl, rfl⟩
theorem xc113_44 : pmCode 113 44 = some (.iconst 4) ∧ 44 + 1 = 45 := ⟨rfl, rfl⟩
theorem xc113_45 : pmCode 113 45 = some (.if_icmp .ge 33) ∧ ((45 : Nat) : Int) + 33 = ((78 : Nat) : Int) ∧ 45 + 3 = 48 := ⟨rfl, rfl, rfl⟩
theorem xc113_48 : pmCode 113 48 = some (.iload_n 2) ∧ 48 + 1 = 49 := ⟨rfl, rfl⟩
theorem xc113_49 : pmCode 113 49 = some (.aload_n 0) ∧ 49 + 1 = 50 := ⟨rfl, rfl⟩
theorem xc113_50 : pmCode 113 50 = some (.getfield 9) ∧ 50 + 3 = 53 := ⟨rfl, rfl⟩
theorem xc113_53 : pmCode 113 53 = some (.iload_n 3) ∧ 53 + 1 = 54 := ⟨rfl, rfl⟩
theorem xc113_54 : pmCode 113 54 = some .laload ∧ 54 + 1 = 55 := ⟨rfl, rfl⟩
theorem xc113_55 : pmCode 113 55 = some (.aload_n 1) ∧ 55 + 1 = 56 := ⟨rfl, rfl⟩
theorem xc113_56 : pmCode 113 56 = some (.getfield 9) ∧ 56 + 3 = 59 := ⟨rfl, rfl⟩
theorem xc113_59 : pmCode 113 59 = some (.iload_n 3) ∧ 59 + 1 = 60 := ⟨rfl, rfl⟩
theorem xc113_60 : pmCode 113 60 = some .laload ∧ 60 + 1 = 61 := ⟨rfl, rfl⟩
theorem xc113_61 : pmCode 113 61 = some .lcmp ∧ 61 + 1 = 62 := ⟨rfl, rfl⟩
theorem xc113_62 : pmCode 113 62 = some (.ifCond .ne 7) ∧ ((62 : Nat) : Int) + 7 = ((69 : Nat) : Int) ∧ 62 + 3 = 65 := ⟨rfl, rfl, rfl⟩
theorem xc113_65 : pmCode 113 65 = some (.iconst 1) ∧ 65 + 1 = 66 := ⟨rfl, rfl⟩
theorem xc113_66 : pmCode 113 66 = some (.goto 4) ∧ ((66 : Nat) : Int) + 4 = ((70 : Nat) : Int) := ⟨rfl, rfl⟩
theorem xc113_69 : pmCode 113 69 = some (.iconst 0) ∧ 69 + 1 = 70 := ⟨rfl, rfl⟩
theorem xc113_70 : pmCode 113 70 = some .iand ∧ 70 + 1 = 71 := ⟨rfl, rfl⟩
theorem xc113_71 : pmCode 113 71 = some (.istore_n 2) ∧ 71 + 1 = 72 := ⟨rfl, rfl⟩
theorem xc113_72 : pmCode 113 72 = some (.iinc 3 1) ∧ 72 + 3 = 75 := ⟨rfl, rfl⟩
theorem xc113_75 : pmCode 113 75 = some (.goto (-32)) ∧ ((75 : Nat) : Int) + (-32) = ((43 : Nat) : Int) := ⟨rfl, rfl⟩
theorem xc113_78 : pmCode 113 78 = some (.iconst 0) ∧ 78 + 1 = 79 := ⟨rfl, rfl⟩
theorem xc113_79 : pmCode 113 79 = some (.istore_n 3) ∧ 79 + 1 = 80 := ⟨rfl, rfl⟩
theorem xc113_80 : pmCode 113 80 = some (.iload_n 3) ∧ 80 + 1 = 81 := ⟨rfl, rfl⟩
theorem xc113_81 : pmCode 113 81 = some (.bipush 24) ∧ 81 + 2 = 83 := ⟨rfl, rfl⟩
theorem xc113_83 : pmCode 113 83 = some (.if_icmp .ge 32) ∧ ((83 : Nat) : Int) + 32 = ((115 : Nat) : Int) ∧ 83 + 3 = 86 := ⟨rfl, rfl, rfl⟩
theorem xc113_86 : pmCode 113 86 = some (.iload_n 2) ∧ 86 + 1 = 87 := ⟨rfl, rfl⟩
theorem xc113_87 : pmCode 113 87 = some (.aload_n 0) ∧ 87 + 1 = 88 := ⟨rfl, rfl⟩
theorem xc113_88 : pmCode 113 88 = some (.getfield 15) ∧ 88 + 3 = 91 := ⟨rfl, rfl⟩
theorem xc113_91 : pmCode 113 91 = some (.iload_n 3) ∧ 91 + 1 = 92 := ⟨rfl, rfl⟩
theorem xc113_92 : pmCode 113 92 = some .iaload ∧ 92 + 1 = 93 := ⟨rfl, rfl⟩
theorem xc113_93 : pmCode 113 93 = some (.aload_n 1) ∧ 93 + 1 = 94 := ⟨rfl, rfl⟩
theorem xc113_94 : pmCode 113 94 = some (.getfield 15) ∧ 94 + 3 = 97 := ⟨rfl, rfl⟩
theorem xc113_97 : pmCode 113 97 = some (.iload_n 3) ∧ 97 + 1 = 98 := ⟨rfl, rfl⟩
theorem xc113_98 : pmCode 113 98 = some .iaload ∧ 98 + 1 = 99 := ⟨rfl, rfl⟩
theorem xc113_99 : pmCode 113 99 = some (.if_icmp .ne 7) ∧ ((99 : Nat) : Int) + 7 = ((106 : Nat) : Int) ∧ 99 + 3 = 102 := ⟨rfl, rfl, rfl⟩
theorem xc113_102 : pmCode 113 102 = some (.iconst 1) ∧ 102 + 1 = 103 := ⟨rfl, rfl⟩
theorem xc113_103 : pmCode 113 103 = some (.goto 4) ∧ ((103 : Nat) : Int) + 4 = ((107 : Nat) : Int) := ⟨rfl, rfl⟩
theorem xc113_106 : pmCode 113 106 = some (.iconst 0) ∧ 106 + 1 = 107 := ⟨rfl, rfl⟩
theorem xc113_107 : pmCode 113 107 = some .iand ∧ 107 + 1 = 108 := ⟨rfl, rfl⟩
theorem xc113_108 : pmCode 113 108 = some (.istore_n 2) ∧ 108 + 1 = 109 := ⟨rfl, rfl⟩
theorem xc113_109 : pmCode 113 109 = some (.iinc 3 1) ∧ 109 + 3 = 112 := ⟨rfl, rfl⟩
theorem xc113_112 : pmCode 113 112 = some (.goto (-32)) ∧ ((112 : Nat) : Int) + (-32) = ((80 : Nat) : Int) := ⟨rfl, rfl⟩
theorem xc113_115 : pmCode 113 115 = some (.iload_n 2) ∧ 115 + 1 = 116 := ⟨rfl, rfl⟩
theorem xc113_116 : pmCode 113 116 = some .ireturn := rfl
/-- arraycopy of longs -/
def xCl (b : xB) (p q : Nat) (sp dp s : Int) : xB := fun r j => if r = q ∧ dp ≤ j ∧ j < dp + s then b p (sp + (j - dp)) else b r j
theorem xClN {b : xB} {p q r : Nat} {sp dp s j : Int} (h : r ≠ q) : xCl b p q sp dp s r j = b r j := if_neg (fun e => h e.1)
theorem pmWp_cpl {ro : Nat → Nat × (Nat → Int32)} {d o m rt pc : Nat} {pl : pmL} {rest : List Value} {σ : pmS} {Q : Option Value → pmS → Prop} {k a b na nb : Nat} {ra rb : List (Option Nat)} {sp dp s : Int32} {X : _} (hi : pmCode m pc = some (.invokestatic k)) (hm : pmM o k = some (9000, X)) (ha : σ.1[a]? = some (51, na, ra)) (hb : σ.1[b]? = some (51, nb, rb)) (hc : ¬ sp < 0 ∧ ¬ dp < 0 ∧ ¬ s < 0 ∧ sp.toNatClampNeg + s.toNatClampNeg ≤ na ∧ dp.toNatClampNeg + s.toNatClampNeg ≤ nb) (hcat : pmCats rest ≤ 8) (hw : pmWp ro d o m rt (pc + 3) pl rest (σ.1, σ.2.1, pmRow σ.2.2 b (va_cpy (σ.2.2 a) (σ.2.2 b) sp.toNatClampNeg dp.toNatClampNeg s.toNatClampNeg)) Q) : pmWp ro d o m rt pc pl (.int s :: .int dp :: .ref b :: .int sp :: .ref a :: rest) σ Q := by
  refine pmWp_1 hi ?_ hw
  obtain ⟨x1, x2⟩ := X
  simp only [pmStep, hm, pmCopy, ha, hb]
  rw [if_pos trivial, if_pos hcat, if_pos hc, if_neg (by decide), if_pos ⟨trivial, trivial⟩]
  rfl
theorem x_cpl {ro : Nat → Nat × (Nat → Int32)} {d o m rt pc t k na nb wd p q : Nat} {ra rb : List (Option Nat)} {nst : Bool} {pl : pmL} {rest : List Value} {Q : Option Value → pmS → Prop} {a : xA} {b : xB} {sp dp s : Int} (hc : pmCode m pc = some (.invokestatic k) ∧ pc + 3 = t) (hm : pmM o k = some (9000, wd, nst)) (ha : xZ[p]? = some (51, na, ra)) (hb : xZ[q]? = some (51, nb, rb)) (h0 : 0 ≤ sp ∧ sp + s ≤ 100000) (h1 : 0 ≤ dp ∧ dp + s ≤ 100000) (h2 : 0 ≤ s) (h3 : sp + s ≤ na) (h4 : dp + s ≤ nb) (hcat : Nat.ble (pmCats rest) 8 = true) (hw : pmWp ro d o m rt t pl rest (xS a (xCl b p q sp dp s)) Q) : pmWp ro d o m rt pc pl (xV s :: xV dp :: .ref q :: xV sp :: .ref p :: rest) (xS a b) Q := by
  obtain ⟨g1, rfl⟩ := hc
  have i0 := xIx (k := sp) h0.1 (by omega)
  have i1 := xIx (k := dp) h1.1 (by omega)
  have i2 := xIx (k := s) h2 (by omega)
  refine pmWp_cpl g1 hm (show (xS a b).1[p]? = _ from ha) (show (xS a b).1[q]? = _ from hb) ⟨xNn h0.1 (by omega), xNn h1.1 (by omega), xNn h2 (by omega), by omega, by omega⟩ (Nat.le_of_ble_eq_true hcat) ?_
  have e : pmRow (fun p (k : Nat) => b p (k : Int)) q (va_cpy ((fun p (k : Nat) => b p (k : Int)) p) ((fun p (k : Nat) => b p (k : Int)) q) (Int32.ofInt sp).toNatClampNeg (Int32.ofInt dp).toNatClampNeg (Int32.ofInt s).toNatClampNeg) = fun r (k : Nat) => xCl b p q sp dp s r (k : Int) := by
    funext r k
    show (if r = q then va_cpy _ _ _ _ _ k else b r (k : Int)) = (if r = q ∧ dp ≤ (k : Int) ∧ (k : Int) < dp + s then b p (sp + ((k : Int) - dp)) else b r (k : Int))
    by_cases hr : r = q
    · rw [if_pos hr]
      unfold va_cpy
      by_cases hk : dp ≤ (k : Int) ∧ (k : Int) < dp + s
      · rw [if_pos (by omega), if_pos ⟨hr, hk⟩]
        show b p _ = _
        congr 1
        omega
      · rw [if_neg (by omega), if_neg (fun e => hk e.2), hr]
    · rw [if_neg hr, if_neg (fun e => hr e.1)]
  rw [show ((xS a b).1, (xS a b).2.1, pmRow (xS a b).2.2 q (va_cpy ((xS a b).2.2 p) ((xS a b).2.2 q) (Int32.ofInt sp).toNatClampNeg (Int32.ofInt dp).toNatClampNeg (Int32.ofInt s).toNatClampNeg)) = xS a (xCl b p q sp dp s) from congrArg (fun z => (xZ, (fun p (k : Nat) => Int32.ofInt (a p (k : Int))), z)) e]
  exact hw
/-- aaload -/
theorem x_aal {ro : Nat → Nat × (Nat → Int32)} {d o m rt pc t p q n k : Nat} {rs : List (Option Nat)} {pl : pmL} {st : List Value} {Q : Option Value → pmS → Prop} {a : xA} {b : xB} (hc : pmCode m pc = some .aaload ∧ pc + 1 = t) (hp : xZ[p]? = some (54, n, rs)) (hk : (Nat.blt k n && decide (va_rf (pmRf rs k) = Value.ref q) && Nat.ble k 1000) = true) (hw : pmWp ro d o m rt t pl (.ref q :: st) (xS a b) Q) : pmWp ro d o m rt pc pl (xV ((k : Nat) : Int) :: .ref p :: st) (xS a b) Q := by
  obtain ⟨g1, rfl⟩ := hc
  simp only [Bool.and_eq_true, decide_eq_true_eq] at hk
  obtain ⟨⟨k1, k2⟩, k3⟩ := hk
  have k1 : k < n := Nat.le_of_ble_eq_true k1
  have k3 := Nat.le_of_ble_eq_true k3
  refine pmWp_1 g1 (st' := .ref q :: st) ?_ hw
  have hp' : (xS a b).1[p]? = some (54, n, rs) := hp
  have ei : (Int32.ofInt ((k : Nat) : Int)).toNatClampNeg = k := by
    have := xIx (k := ((k : Nat) : Int)) (by omega) (by omega)
    omega
  simp only [pmStep, hp', xV, pmNx]
  rw [if_pos ⟨trivial, xIn (by omega) (by omega) (by omega)⟩, ei, k2]

theorem w66 {ro : Nat → Nat × (Nat → Int32)} {d : Nat} {Q : Option Value → pmS → Prop} {w v : Nat} {a : xA} {b : xB} (hz : uWz w) (hy : uWz v) (hne : v ≠ w) (hF : ∀ j, (uFg w (xCp (xCp a (v + 2) (w + 2) 0 0 24) (v + 3) (w + 3) 0 0 6)) v j = a v j) (hG : ∀ j, (xCl b (v + 1) (w + 1) 0 0 4) v j = b v j) (hB12 : 0 ≤ a v 12 ∧ a v 12 ≤ 1) (hd : 1 ≤ d)
    (k1 : Q none (xS (xU (xU (xU (xU (xU (xU (xU (uFg w (xCp (xCp a (v + 2) (w + 2) 0 0 24) (v + 3) (w + 3) 0 0 6)) w 6 (a v 6)) w 7 (a v 7)) w 8 (a v 8)) w 9 (a v 9)) w 10 (a v 10)) w 11 (a v 11)) w 12 (a v 12)) (xU (xU (xCl b (v + 1) (w + 1) 0 0 4) w 4 (b v 4)) w 5 (b v 5)))) :
    pmWp ro d 10 66 0 0 [some (.ref w), some (.ref v)] [] (xS a b) Q := by
  refine x_aloadn xc66_0 rfl ?_
  refine x_gfr xc66_1 rfl rfl hy.1 rfl ?_
  refine x_iconst xc66_4 ?_
  refine x_aloadn xc66_5 rfl ?_
  refine x_gfr xc66_6 rfl rfl hz.1 rfl ?_
  refine x_iconst xc66_9 ?_
  refine x_iconst xc66_10 ?_
  refine x_cpl xc66_11 rfl hy.2.1 hz.2.1 (by omega) (by omega) (by omega) (by omega) (by omega) rfl ?_
  refine x_aloadn xc66_14 rfl ?_
  refine x_gfr xc66_15 rfl rfl hy.1 rfl ?_
  refine x_iconst xc66_18 ?_
  refine x_aloadn xc66_19 rfl ?_
  refine x_gfr xc66_20 rfl rfl hz.1 rfl ?_
  refine x_iconst xc66_23 ?_
  refine x_bipush xc66_24 (by decide) ?_
  refine x_cpy xc66_26 rfl hy.2.2.1 hz.2.2.1 (by omega) (by omega) (by omega) (by omega) (by omega) rfl ?_
  refine x_aloadn xc66_29 rfl ?_
  refine x_gfr xc66_30 rfl rfl hy.1 rfl ?_
  refine x_iconst xc66_33 ?_
  refine x_aloadn xc66_34 rfl ?_
  refine x_gfr xc66_35 rfl rfl hz.1 rfl ?_
  refine x_iconst xc66_38 ?_
  refine x_bipush xc66_39 (by decide) ?_
  refine x_cpy xc66_41 rfl hy.2.2.2.1 hz.2.2.2.1 (by omega) (by omega) (by omega) (by omega) (by omega) rfl ?_
  refine x_aloadn xc66_44 rfl ?_
  refine x_cV (as := []) (rest := []) xc66_45 rfl xi67 hz.1 ⟨rfl, rfl⟩ rfl rfl ?_
  refine rk67 hz (by omega) ?_
  refine x_aloadn xc66_48 rfl ?_
  refine x_aloadn xc66_49 rfl ?_
  refine x_gfl' (k := 4) (v := b v 4) xc66_50 rfl rfl rfl hy.1 (hG 4) ?_
  refine x_pfl (k := 4) xc66_53 rfl ⟨rfl, rfl⟩ rfl hz.1 ?_
  refine x_aloadn xc66_56 rfl ?_
  refine x_aloadn xc66_57 rfl ?_
  refine x_gfl' (k := 5) (v := b v 5) xc66_58 rfl rfl rfl hy.1 (by rw [xUn hne, (hG 5)]) ?_
  refine x_pfl (k := 5) xc66_61 rfl ⟨rfl, rfl⟩ rfl hz.1 ?_
  refine x_aloadn xc66_64 rfl ?_
  refine x_aloadn xc66_65 rfl ?_
  refine x_gfi' (k := 6) (v := a v 6) xc66_66 rfl (Or.inl rfl) rfl hy.1 (hF 6) ?_
  refine x_pfi (k := 6) xc66_69 rfl ⟨rfl, rfl⟩ rfl hz.1 ?_
  refine x_aloadn xc66_72 rfl ?_
  refine x_aloadn xc66_73 rfl ?_
  refine x_gfi' (k := 7) (v := a v 7) xc66_74 rfl (Or.inl rfl) rfl hy.1 (by rw [xUn hne, (hF 7)]) ?_
  refine x_pfi (k := 7) xc66_77 rfl ⟨rfl, rfl⟩ rfl hz.1 ?_
  refine x_aloadn xc66_80 rfl ?_
  refine x_aloadn xc66_81 rfl ?_
  refine x_gfi' (k := 8) (v := a v 8) xc66_82 rfl (Or.inl rfl) rfl hy.1 (by rw [xUn hne, xUn hne, (hF 8)]) ?_
  refine x_pfi (k := 8) xc66_85 rfl ⟨rfl, rfl⟩ rfl hz.1 ?_
  refine x_aloadn xc66_88 rfl ?_
  refine x_aloadn xc66_89 rfl ?_
  refine x_gfi' (k := 9) (v := a v 9) xc66_90 rfl (Or.inl rfl) rfl hy.1 (by rw [xUn hne, xUn hne, xUn hne, (hF 9)]) ?_
  refine x_pfi (k := 9) xc66_93 rfl ⟨rfl, rfl⟩ rfl hz.1 ?_
  refine x_aloadn xc66_96 rfl ?_
  refine x_aloadn xc66_97 rfl ?_
  refine x_gfi' (k := 10) (v := a v 10) xc66_98 rfl (Or.inl rfl) rfl hy.1 (by rw [xUn hne, xUn hne, xUn hne, xUn hne, (hF 10)]) ?_
  refine x_pfi (k := 10) xc66_101 rfl ⟨rfl, rfl⟩ rfl hz.1 ?_
  refine x_aloadn xc66_104 rfl ?_
  refine x_aloadn xc66_105 rfl ?_
  refine x_gfi' (k := 11) (v := a v 11) xc66_106 rfl (Or.inl rfl) rfl hy.1 (by rw [xUn hne, xUn hne, xUn hne, xUn hne, xUn hne, (hF 11)]) ?_
  refine x_pfi (k := 11) xc66_109 rfl ⟨rfl, rfl⟩ rfl hz.1 ?_
  refine x_aloadn xc66_112 rfl ?_
  refine x_aloadn xc66_113 rfl ?_
  refine x_gfi' (k := 12) (v := a v 12) xc66_114 rfl (Or.inr rfl) rfl hy.1 (by rw [xUn hne, xUn hne, xUn hne, xUn hne, xUn hne, xUn hne, (hF 12)]) ?_
  refine x_pfz (k := 12) (by have g0 := hB12; omega) xc66_117 rfl ⟨rfl, rfl⟩ rfl hz.1 ?_
  refine x_ret xc66_120 rfl ?_
  exact k1

theorem xg66 {ro : Nat → Nat × (Nat → Int32)} {d : Nat} {Q : Option Value → pmS → Prop} {a : xA} {b : xB} {w v : Nat} (h : pmWp ro d 10 66 0 0 [some (.ref w), some (.ref v)] [] (xS a b) Q) : pmCs ro (d + 1) 66 [.ref w, .ref v] (xS a b) Q := x_go xi66 rfl rfl rfl rfl rfl h
theorem w113 {ro : Nat → Nat × (Nat → Int32)} {d : Nat} {Q : Option Value → pmS → Prop} {w v : Nat} {a : xA} {b : xB} (hz : uWz w) (hy : uWz v) (hw9 : w ≤ 80) (hv9 : v ≤ 80) (hA : xAr a)
    (k1 : (¬ xCmp (b w 4) (b v 4) = 0) → pmWp ro d 10 113 2 43 [some (.ref w), some (.ref v), some (xV 0), some (xV 0)] [] (xS a b) Q)
    (k2 : (xCmp (b w 4) (b v 4) = 0) → (¬ xCmp (b w 5) (b v 5) = 0) → pmWp ro d 10 113 2 43 [some (.ref w), some (.ref v), some (xV 0), some (xV 0)] [] (xS a b) Q)
    (k3 : (xCmp (b w 4) (b v 4) = 0) → (xCmp (b w 5) (b v 5) = 0) → (¬ a w 7 = a v 7) → pmWp ro d 10 113 2 43 [some (.ref w), some (.ref v), some (xV 0), some (xV 0)] [] (xS a b) Q)
    (k4 : (xCmp (b w 4) (b v 4) = 0) → (xCmp (b w 5) (b v 5) = 0) → (a w 7 = a v 7) → pmWp ro d 10 113 2 43 [some (.ref w), some (.ref v), some (xV 1), some (xV 0)] [] (xS a b) Q) :
    pmWp ro d 10 113 2 0 [some (.ref w), some (.ref v), none, none] [] (xS a b) Q := by
  refine x_aloadn xc113_0 rfl ?_
  refine x_gfl (k := 4) xc113_1 rfl rfl rfl hz.1 ?_
  refine x_aloadn xc113_4 rfl ?_
  refine x_gfl (k := 4) xc113_5 rfl rfl rfl hy.1 ?_
  refine x_lcmp xc113_8 ?_
  refine x_ifne xc113_9 (xRk (by have g0 := xCmpB (b w 4) (b v 4); omega)) (fun h0 => ?_) (fun h0 => ?_)
  · refine x_iconst xc113_39 ?_
    refine x_istoren (pl' := [some (.ref w), some (.ref v), some (xV 0), none]) xc113_40 rfl rfl ?_
    refine x_iconst xc113_41 ?_
    refine x_istoren (pl' := [some (.ref w), some (.ref v), some (xV 0), some (xV 0)]) xc113_42 rfl rfl ?_
    exact k1 h0
  · replace h0 := Classical.not_not.mp h0
    refine x_aloadn xc113_12 rfl ?_
    refine x_gfl (k := 5) xc113_13 rfl rfl rfl hz.1 ?_
    refine x_aloadn xc113_16 rfl ?_
    refine x_gfl (k := 5) xc113_17 rfl rfl rfl hy.1 ?_
    refine x_lcmp xc113_20 ?_
    refine x_ifne xc113_21 (xRk (by have g0 := xCmpB (b w 5) (b v 5); omega)) (fun h1 => ?_) (fun h1 => ?_)
    · refine x_iconst xc113_39 ?_
      refine x_istoren (pl' := [some (.ref w), some (.ref v), some (xV 0), none]) xc113_40 rfl rfl ?_
      refine x_iconst xc113_41 ?_
      refine x_istoren (pl' := [some (.ref w), some (.ref v), some (xV 0), some (xV 0)]) xc113_42 rfl rfl ?_
      exact k2 h0 h1
    · replace h1 := Classical.not_not.mp h1
      refine x_aloadn xc113_24 rfl ?_
      refine x_gfi (k := 7) xc113_25 rfl (Or.inl rfl) rfl hz.1 ?_
      refine x_aloadn xc113_28 rfl ?_
      refine x_gfi (k := 7) xc113_29 rfl (Or.inl rfl) rfl hy.1 ?_
      refine x_icne xc113_32 (xRk (by have g0 := xRb (hA w 7); omega)) (xRk (by have g0 := xRb (hA v 7); omega)) (fun h2 => ?_) (fun h2 => ?_)
      · refine x_iconst xc113_39 ?_
        refine x_istoren (pl' := [some (.ref w), some (.ref v), some (xV 0), none]) xc113_40 rfl rfl ?_
        refine x_iconst xc113_41 ?_
        refine x_istoren (pl' := [some (.ref w), some (.ref v), some (xV 0), some (xV 0)]) xc113_42 rfl rfl ?_
        exact k3 h0 h1 h2
      · replace h2 := Classical.not_not.mp h2
        refine x_iconst xc113_35 ?_
        refine x_goto xc113_36 ?_
        refine x_istoren (pl' := [some (.ref w), some (.ref v), some (xV 1), none]) xc113_40 rfl rfl ?_
        refine x_iconst xc113_41 ?_
        refine x_istoren (pl' := [some (.ref w), some (.ref v), some (xV 1), some (xV 0)]) xc113_42 rfl rfl ?_
        exact k4 h0 h1 h2

theorem xg113 {ro : Nat → Nat × (Nat → Int32)} {d : Nat} {Q : Option Value → pmS → Prop} {a : xA} {b : xB} {w v : Nat} (h : pmWp ro d 10 113 2 0 [some (.ref w), some (.ref v), none, none] [] (xS a b) Q) : pmCs ro (d + 1) 113 [.ref w, .ref v] (xS a b) Q := x_go xi113 rfl rfl rfl rfl rfl h
theorem w113m {ro : Nat → Nat × (Nat → Int32)} {d : Nat} {Q : Option Value → pmS → Prop} {g i : Int} {w v : Nat} {a : xA} {b : xB} (hz : uWz w) (hy : uWz v) (hw9 : w ≤ 80) (hv9 : v ≤ 80) (hA : xAr a) (hg : g = 0 ∨ g = 1) (hi : 0 ≤ i ∧ i ≤ 4)
    (k1 : (4 ≤ i) → pmWp ro d 10 113 2 80 [some (.ref w), some (.ref v), some (xV g), some (xV 0)] [] (xS a b) Q)
    (k2 : (¬ 4 ≤ i) → (¬ xCmp (b (w + 1) i) (b (v + 1) i) = 0) → pmWp ro d 10 113 2 43 [some (.ref w), some (.ref v), some (xV (xAnd g 0)), some (xV (i + 1))] [] (xS a b) Q)
    (k3 : (¬ 4 ≤ i) → (xCmp (b (w + 1) i) (b (v + 1) i) = 0) → pmWp ro d 10 113 2 43 [some (.ref w), some (.ref v), some (xV (g % 2)), some (xV (i + 1))] [] (xS a b) Q) :
    pmWp ro d 10 113 2 43 [some (.ref w), some (.ref v), some (xV g), some (xV i)] [] (xS a b) Q := by
  refine x_iloadn xc113_43 rfl ?_
  refine x_iconst xc113_44 ?_
  refine x_icge xc113_45 (xRk (by have g0 := hi; omega)) (xRk (by decide)) (fun h0 => ?_) (fun h0 => ?_)
  · refine x_iconst xc113_78 ?_
    refine x_istoren (pl' := [some (.ref w), some (.ref v), some (xV g), some (xV 0)]) xc113_79 rfl rfl ?_
    exact k1 h0
  · refine x_iloadn xc113_48 rfl ?_
    refine x_aloadn xc113_49 rfl ?_
    refine x_gfr xc113_50 rfl rfl hz.1 rfl ?_
    refine x_iloadn xc113_53 rfl ?_
    refine x_lal xc113_54 hz.2.1 (by have g0 := hi; omega) (by have g0 := hi; omega) (by have g0 := hi; omega) ?_
    refine x_aloadn xc113_55 rfl ?_
    refine x_gfr xc113_56 rfl rfl hy.1 rfl ?_
    refine x_iloadn xc113_59 rfl ?_
    refine x_lal xc113_60 hy.2.1 (by have g0 := hi; omega) (by have g0 := hi; omega) (by have g0 := hi; omega) ?_
    refine x_lcmp xc113_61 ?_
    refine x_ifne xc113_62 (xRk (by have g0 := xCmpB (b (w + 1) i) (b (v + 1) i); omega)) (fun h1 => ?_) (fun h1 => ?_)
    · refine x_iconst xc113_69 ?_
      refine x_iand xc113_70 ?_
      refine x_istoren (pl' := [some (.ref w), some (.ref v), some (xV (xAnd g 0)), some (xV i)]) xc113_71 rfl rfl ?_
      refine x_iinc (pl' := [some (.ref w), some (.ref v), some (xV (xAnd g 0)), some (xV (i + 1))]) xc113_72 rfl rfl ?_
      refine x_goto xc113_75 ?_
      exact k2 h0 h1
    · replace h1 := Classical.not_not.mp h1
      refine x_iconst xc113_65 ?_
      refine x_goto xc113_66 ?_
      refine x_iandm (M := 2) 1 (by decide) (by decide) (by decide) xc113_70 ?_
      refine x_istoren (pl' := [some (.ref w), some (.ref v), some (xV (g % 2)), some (xV i)]) xc113_71 rfl rfl ?_
      refine x_iinc (pl' := [some (.ref w), some (.ref v), some (xV (g % 2)), some (xV (i + 1))]) xc113_72 rfl rfl ?_
      refine x_goto xc113_75 ?_
      exact k3 h0 h1

theorem w113k {ro : Nat → Nat × (Nat → Int32)} {d : Nat} {Q : Option Value → pmS → Prop} {g i : Int} {w v : Nat} {a : xA} {b : xB} (hz : uWz w) (hy : uWz v) (hw9 : w ≤ 80) (hv9 : v ≤ 80) (hA : xAr a) (hg : g = 0 ∨ g = 1) (hi : 0 ≤ i ∧ i ≤ 24)
    (k1 : (24 ≤ i) → Q (some (xV g)) (xS a b))
    (k2 : (¬ 24 ≤ i) → (¬ a (w + 2) i = a (v + 2) i) → pmWp ro d 10 113 2 80 [some (.ref w), some (.ref v), some (xV (xAnd g 0)), some (xV (i + 1))] [] (xS a b) Q)
    (k3 : (¬ 24 ≤ i) → (a (w + 2) i = a (v + 2) i) → pmWp ro d 10 113 2 80 [some (.ref w), some (.ref v), some (xV (g % 2)), some (xV (i + 1))] [] (xS a b) Q) :
    pmWp ro d 10 113 2 80 [some (.ref w), some (.ref v), some (xV g), some (xV i)] [] (xS a b) Q := by
  refine x_iloadn xc113_80 rfl ?_
  refine x_bipush xc113_81 (by decide) ?_
  refine x_icge xc113_83 (xRk (by have g0 := hi; omega)) (xRk (by decide)) (fun h0 => ?_) (fun h0 => ?_)
  · refine x_iloadn xc113_115 rfl ?_
    refine x_iret xc113_116 (Or.inr ⟨rfl, (by have g0 := hg; omega)⟩) ?_
    exact k1 h0
  · refine x_iloadn xc113_86 rfl ?_
    refine x_aloadn xc113_87 rfl ?_
    refine x_gfr xc113_88 rfl rfl hz.1 rfl ?_
    refine x_iloadn xc113_91 rfl ?_
    refine x_ial xc113_92 hz.2.2.1 (Nat.ble_eq_true_of_le (by omega)) (by have g0 := hi; omega) (by have g0 := hi; omega) (by have g0 := hi; omega) ?_
    refine x_aloadn xc113_93 rfl ?_
    refine x_gfr xc113_94 rfl rfl hy.1 rfl ?_
    refine x_iloadn xc113_97 rfl ?_
    refine x_ial xc113_98 hy.2.2.1 (Nat.ble_eq_true_of_le (by omega)) (by have g0 := hi; omega) (by have g0 := hi; omega) (by have g0 := hi; omega) ?_
    refine x_icne xc113_99 (xRk (by have g0 := hi; have g1 := xRb (hA (w + 2) i); omega)) (xRk (by have g0 := hi; have g1 := xRb (hA (v + 2) i); omega)) (fun h1 => ?_) (fun h1 => ?_)
    · refine x_iconst xc113_106 ?_
      refine x_iand xc113_107 ?_
      refine x_istoren (pl' := [some (.ref w), some (.ref v), some (xV (xAnd g 0)), some (xV i)]) xc113_108 rfl rfl ?_
      refine x_iinc (pl' := [some (.ref w), some (.ref v), some (xV (xAnd g 0)), some (xV (i + 1))]) xc113_109 rfl rfl ?_
      refine x_goto xc113_112 ?_
      exact k2 h0 h1
    · replace h1 := Classical.not_not.mp h1
      refine x_iconst xc113_102 ?_
      refine x_goto xc113_103 ?_
      refine x_iandm (M := 2) 1 (by decide) (by decide) (by decide) xc113_107 ?_
      refine x_istoren (pl' := [some (.ref w), some (.ref v), some (xV (g % 2)), some (xV i)]) xc113_108 rfl rfl ?_
      refine x_iinc (pl' := [some (.ref w), some (.ref v), some (xV (g % 2)), some (xV (i + 1))]) xc113_109 rfl rfl ?_
      refine x_goto xc113_112 ?_
      exact k3 h0 h1

end
end
section
/-! copies of worlds, by rows -/
section
set_option maxRecDepth 100000


section
variable {ro : Nat → Nat × (Nat → Int32)} {d w v : Nat} {Q : Option Value → pmS → Prop} {n m : Int} {r r' : Int → Int} {a a' : xA} {b b' : xB}
/-- world w is world v again -/
def uCopd (w v : Nat) (a a' : xA) (b b' : xB) : Prop := (∀ j, 6 ≤ j → j ≤ 12 → a' w j = a v j) ∧ (∀ j, 0 ≤ j → j < 24 → a' (w + 2) j = a (v + 2) j) ∧ (∀ j, 0 ≤ j → j < 3 → a' (w + 4) j = 0) ∧ (b' w 4 = b v 4 ∧ b' w 5 = b v 5) ∧ (∀ j, 0 ≤ j → j < 4 → b' (w + 1) j = b (v + 1) j) ∧ (∀ q j, ¬ (w ≤ q ∧ q ≤ w + 4) → a' q j = a q j) ∧ ∀ q j, ¬ (w ≤ q ∧ q ≤ w + 4) → b' q j = b q j
theorem u66 (hw : uWo w) (hv : uWo v) (hdj : v + 4 < w ∨ w + 4 < v) (hA : xAr a) (h12 : 0 ≤ a v 12 ∧ a v 12 ≤ 1) (hd : 2 ≤ d) (hQ : ∀ a' b', uCopd w v a a' b b' → xAr a' → Q none (xS a' b')) : pmCs ro d 66 [.ref w, .ref v] (xS a b) Q := by
  have w0 := hw.2
  have v0 := hv.2
  have hF : ∀ j, (uFg w (xCp (xCp a (v + 2) (w + 2) 0 0 24) (v + 3) (w + 3) 0 0 6)) v j = a v j := fun j => by
    unfold uFg
    rw [xUn (by omega), xUn (by omega), xUn (by omega), xCpN (by omega), xCpN (by omega)]
  have hG : ∀ j, (xCl b (v + 1) (w + 1) 0 0 4) v j = b v j := fun j => xClN (by omega)
  refine pmCs_deep (d := 2) (xg66 (w66 hw.1 hv.1 (by omega) hF hG h12 (by decide) (hQ _ _ ⟨fun j j0 j1 => ?_, fun j j0 j1 => ?_, fun j j0 j1 => ?_, ⟨?_, ?_⟩, fun j j0 j1 => ?_, fun q j h => ?_, fun q j h => ?_⟩ ?_))) hd
  · by_cases c : j = 12
    · rw [c, xUa]
    rw [xUk c]
    by_cases c : j = 11
    · rw [c, xUa]
    rw [xUk c]
    by_cases c : j = 10
    · rw [c, xUa]
    rw [xUk c]
    by_cases c : j = 9
    · rw [c, xUa]
    rw [xUk c]
    by_cases c : j = 8
    · rw [c, xUa]
    rw [xUk c]
    by_cases c : j = 7
    · rw [c, xUa]
    rw [xUk c, show j = 6 by omega, xUa]
  · rw [xUn (by omega), xUn (by omega), xUn (by omega), xUn (by omega), xUn (by omega), xUn (by omega), xUn (by omega)]
    unfold uFg
    rw [xUn (by omega), xUn (by omega), xUn (by omega), xCpN (by omega)]
    show (if w + 2 = w + 2 ∧ 0 ≤ j ∧ j < 0 + 24 then a (v + 2) (0 + (j - 0)) else _) = _
    rw [if_pos ⟨rfl, j0, by omega⟩, show 0 + (j - 0) = j by omega]
  · rw [xUn (by omega), xUn (by omega), xUn (by omega), xUn (by omega), xUn (by omega), xUn (by omega), xUn (by omega)]
    unfold uFg
    by_cases j2 : j = 2
    · rw [j2, xUa]
    · rw [xUk j2]
      by_cases j1 : j = 1
      · rw [j1, xUa]
      · rw [xUk j1, show j = 0 by omega, xUa]
  · rw [xUk (by decide), xUa]
  · rw [xUa]
  · rw [xUn (by omega), xUn (by omega)]
    show (if w + 1 = w + 1 ∧ 0 ≤ j ∧ j < 0 + 4 then b (v + 1) (0 + (j - 0)) else _) = _
    rw [if_pos ⟨rfl, j0, by omega⟩, show 0 + (j - 0) = j by omega]
  · rw [xUn (by omega), xUn (by omega), xUn (by omega), xUn (by omega), xUn (by omega), xUn (by omega), xUn (by omega)]
    unfold uFg
    rw [xUn (by omega), xUn (by omega), xUn (by omega), xCpN (by omega), xCpN (by omega)]
  · rw [xUn (by omega), xUn (by omega), xClN (by omega)]
  · have h0 : xAr (uFg w (xCp (xCp a (v + 2) (w + 2) 0 0 24) (v + 3) (w + 3) 0 0 6)) := by
      unfold uFg
      exact xAr_u (xAr_u (xAr_u (xAr_cp (xAr_cp hA)) xR0) xR0) xR0
    exact xAr_u (xAr_u (xAr_u (xAr_u (xAr_u (xAr_u (xAr_u h0 (hA _ _)) (hA _ _)) (hA _ _)) (hA _ _)) (hA _ _)) (hA _ _)) (hA _ _)
theorem uCx_cp (h : uCx n v r a b) (hc : uCopd w v a a' b b') : uCx n w r a' b' := by
  obtain ⟨⟨h1, h2, h3, h4, h5, h6, h7⟩, e6, e12, e8, e9, e10⟩ := h
  obtain ⟨c1, c2, c3, ⟨c4, c5⟩, c6, c7, c8⟩ := hc
  refine ⟨⟨h1, ⟨fun j j0 j1 => by rw [c4]; exact h2.1 j j0 j1, by rw [c4]; exact h2.2.1, fun x x0 xn hx => by rw [c5]; exact h2.2.2 x x0 xn hx⟩, fun f f0 f1 => ?_, fun f f0 f1 hf => by rw [c6 f (by omega) f1]; exact h4 f f0 f1 hf, h5, fun c c0 c1' => by rw [c2 c c0 c1']; exact h6 c c0 c1', by rw [c1 11 (by decide) (by decide)]; exact h7⟩, by rw [c1 6 (by decide) (by decide)]; exact e6, by rw [c1 12 (by decide) (by decide)]; exact e12, by rw [c1 8 (by decide) (by decide)]; exact e8, by rw [c1 9 (by decide) (by decide)]; exact e9, by rw [c1 10 (by decide) (by decide)]; exact e10⟩
  obtain ⟨m1, m2, m3⟩ := h3 f f0 f1
  have e := c6 f (by omega) (by omega)
  exact ⟨by rw [e]; exact m1, fun q q0 q1 hq => by rw [e]; exact m2 q q0 q1 hq, fun x x0 x1 => by rw [e]; exact m3 x x0 x1⟩
/-- goesOnAs -/
theorem u113 (hw : uWo w) (hv : uWo v) (hA : xAr a) (hd : 1 ≤ d) (hQ : ∀ z, (z = 0 ∨ z = 1) → Q (some (xV z)) (xS a b)) : pmCs ro d 113 [.ref w, .ref v] (xS a b) Q := by
  have a0 : ∀ g : Int, (g = 0 ∨ g = 1) → xAnd g 0 = 0 := fun g hg => by rcases hg with h | h <;> rw [h] <;> decide
  have a1 : ∀ g : Int, (g = 0 ∨ g = 1) → g % 2 = g := fun g hg => by omega
  have lk : ∀ (m : Nat) (i g : Int), i + (m : Int) = 24 → 0 ≤ i → (g = 0 ∨ g = 1) → pmWp ro 0 10 113 2 80 [some (.ref w), some (.ref v), some (xV g), some (xV i)] [] (xS a b) Q := by
    intro m
    induction m with
    | zero =>
      intro i g hi i0 hg
      exact w113k hw.1 hv.1 hw.2.1.2 hv.2.1.2 hA hg ⟨i0, by omega⟩ (fun _ => hQ g hg) (fun e => absurd (by omega) e) (fun e => absurd (by omega) e)
    | succ m ih =>
      intro i g hi i0 hg
      refine w113k hw.1 hv.1 hw.2.1.2 hv.2.1.2 hA hg ⟨i0, by omega⟩ (fun e => absurd e (by omega)) (fun _ _ => ?_) (fun _ _ => ?_)
      · rw [a0 g hg]
        exact ih (i + 1) 0 (by omega) (by omega) (by decide)
      · rw [a1 g hg]
        exact ih (i + 1) g (by omega) (by omega) hg
  have lm : ∀ (m : Nat) (i g : Int), i + (m : Int) = 4 → 0 ≤ i → (g = 0 ∨ g = 1) → pmWp ro 0 10 113 2 43 [some (.ref w), some (.ref v), some (xV g), some (xV i)] [] (xS a b) Q := by
    intro m
    induction m with
    | zero =>
      intro i g hi i0 hg
      exact w113m hw.1 hv.1 hw.2.1.2 hv.2.1.2 hA hg ⟨i0, by omega⟩ (fun _ => lk 24 0 g (by decide) (by decide) hg) (fun e => absurd (by omega) e) (fun e => absurd (by omega) e)
    | succ m ih =>
      intro i g hi i0 hg
      refine w113m hw.1 hv.1 hw.2.1.2 hv.2.1.2 hA hg ⟨i0, by omega⟩ (fun e => absurd e (by omega)) (fun _ _ => ?_) (fun _ _ => ?_)
      · rw [a0 g hg]
        exact ih (i + 1) 0 (by omega) (by omega) (by decide)
      · rw [a1 g hg]
        exact ih (i + 1) g (by omega) (by omega) hg
  refine pmCs_deep (d := 1) (xg113 (w113 hw.1 hv.1 hw.2.1.2 hv.2.1.2 hA (fun _ => lm 4 0 0 (by decide) (by decide) (by decide)) (fun _ _ => lm 4 0 0 (by decide) (by decide) (by decide)) (fun _ _ _ => lm 4 0 0 (by decide) (by decide) (by decide)) (fun _ _ _ => lm 4 0 1 (by decide) (by decide) (by decide)))) hd
end
end
end
