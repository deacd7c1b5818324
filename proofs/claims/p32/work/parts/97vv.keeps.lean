/-! keeping of the reference: what is left as it was -/
section
set_option maxRecDepth 100000


section
variable {ro : Nat → Nat × (Nat → Int32)} {d w : Nat} {Q : Option Value → pmS → Prop} {dr wp pr cnt W : Int → Int} {T : Int → List Int} {n f k p x c s m i t wh cd wt : Int} {r r' R R' : Int → Int} {a a' a'' a0 : xA} {b b' b'' : xB}
/-- numbers of a row, after so many turns and acts more -/
def uBqm (m : Int) (r : Int → Int) : Prop := (0 ≤ r 114 ∧ r 114 ≤ 60 + m) ∧ (0 ≤ r 115 ∧ r 115 ≤ 1) ∧ (0 ≤ r 116 ∧ r 116 ≤ 60 + m) ∧ (0 ≤ r 117 ∧ r 117 ≤ 60 + m) ∧ (0 ≤ r 118 ∧ r 118 ≤ 11000 + 400 * m) ∧ 0 ≤ r 119 ∧ r 119 ≤ 240 + 5 * m
theorem uBqm_b (hm : 0 ≤ m ∧ m ≤ 40) (h : uBqm m r) : uBd r := by
  obtain ⟨h1, h2, h3, h4, h5, h6⟩ := h
  exact ⟨by omega, h2, by omega, by omega, by omega, by omega⟩
/-- a row -/
def uRow (n m : Int) (r : Int → Int) : Prop := uRv n r ∧ uBqm m r
/-- the reference but for its row -/
def uLc (a : xA) : Prop := ∀ i, 0 ≤ i → i < 6 → 0 ≤ a 100 i ∧ a 100 i ≤ 4
def uSx (dr wp pr cnt W : Int → Int) (T : Int → List Int) (n : Int) (a : xA) (b : xB) : Prop := uRb dr wp pr cnt W T n a ∧ uMV dr wp pr cnt T n a b ∧ uLw a ∧ uLc a
/-- what keeping leaves alone -/
def uPq (a a' : xA) (b b' : xB) : Prop := (∀ q j, ¬ q = 89 → q ≠ 88 → q ≠ 108 → q ≠ 109 → q ≠ 110 → q ≠ 111 → q ≠ 112 → q ≠ 113 → q ≠ 115 → q ≠ 116 → q ≠ 117 → q ≠ 118 → q ≠ 119 → ¬ (q = 87 ∧ (j = 33 ∨ j = 34 ∨ j = 41 ∨ j = 42 ∨ j = 43)) → a' q j = a q j) ∧ ∀ q j, q ≠ 114 → b' q j = b q j
theorem uPq_r : uPq a a b b := ⟨fun _ _ _ _ _ _ _ _ _ _ _ _ _ _ _ _ => rfl, fun _ _ _ => rfl⟩
theorem uPq_t (h : uPq a a' b b') (h' : uPq a' a'' b' b'') : uPq a a'' b b'' := ⟨fun q j e e0 e1 e2 e3 e4 e5 e6 e7 e8 e9 e10 e11 e12 => (h'.1 q j e e0 e1 e2 e3 e4 e5 e6 e7 e8 e9 e10 e11 e12).trans (h.1 q j e e0 e1 e2 e3 e4 e5 e6 e7 e8 e9 e10 e11 e12), fun q j e => (h'.2 q j e).trans (h.2 q j e)⟩
theorem uPq_m (h : uPm a a' b b') : uPq a a' b b' := ⟨fun q j _ e0 e1 e2 e3 e4 e5 e6 e7 e8 e9 e10 e11 e12 => h.1 q j e0 e1 e2 e3 e4 e5 e6 e7 e8 e9 e10 e11 e12, h.2⟩
theorem uPq_8 (h : ∀ q j, ¬ q = 89 → q ≠ 88 → a' q j = a q j) : uPq a a' b b := ⟨fun q j e e0 _ _ _ _ _ _ _ _ _ _ _ _ => h q j e e0, fun _ _ _ => rfl⟩
theorem uSx_8 (h : uSx dr wp pr cnt W T n a b) (hA : xAr a') (e : ∀ q j, ¬ q = 89 → q ≠ 88 → a' q j = a q j) : uSx dr wp pr cnt W T n a' b := by
  obtain ⟨h1, h2, h3, h4⟩ := h
  exact ⟨uRb_o h1 hA (fun q j g => e q j (by omega) (by omega)) (fun j j0 j1 => by rw [e 109 j (by decide) (by decide)]; exact h1.2.2.2.2.2.2 j j0 j1), uMV_f h2 (e _ _ (by decide) (by decide)) (fun j => e _ _ (by decide) (by decide)) (fun _ => rfl), uLw_o h3 (fun q j g => e q j (by omega) (by omega)), fun i i0 i1 => by rw [e 100 i (by decide) (by decide)]; exact h4 i i0 i1⟩
/-- isAnyBroken -/
theorem u202 (hA : xAr a) (hcl : uLc a) (hi : 0 ≤ i ∧ i ≤ 5) (hd : 1 ≤ d) (hQ : ∀ z, (z = 0 ∨ z = 1) → Q (some (xV z)) (xS a b)) : pmCs ro d 202 [.ref 87, xV i] (xS a b) Q := by
  refine pmCs_deep (d := 1) (xg202 (w202 ?_)) hd
  have hc := hcl i hi.1 (by omega)
  have loop : ∀ (m : Nat) (j : Int), j + (m : Int) = a 100 i → 0 ≤ j → pmWp ro 0 12 202 2 2 [some (.ref 87), some (xV i), some (xV j)] [] (xS a b) Q := by
    intro m
    induction m with
    | zero =>
      intro j hj j0
      exact w202j hA hi hcl ⟨j0, by omega⟩ (fun _ => hQ 0 (by decide)) (fun e => absurd (by omega) e) (fun e => absurd (by omega) e)
    | succ m ih =>
      intro j hj j0
      exact w202j hA hi hcl ⟨j0, by omega⟩ (fun e => absurd e (by omega)) (fun _ _ => ih (j + 1) (by omega) (by omega)) (fun _ _ => hQ 1 (by decide))
  exact loop (a 100 i).toNat 0 (by omega) (by decide)
theorem u224 (hA : xAr a) (hL : uLw a) (hcl : uLc a) (hd : 2 ≤ d) (hQ : ∀ z, (z = 0 ∨ z = 1) → Q (some (xV z)) (xS a b)) : pmCs ro d 224 [.ref 87] (xS a b) Q := by
  refine pmCs_deep (d := 2) (xg224 (w224 ?_)) hd
  have hl := hL.1
  have loop : ∀ (m : Nat) (i : Int), i + (m : Int) = a 87 3 → 0 ≤ i → pmWp ro 1 12 224 2 2 [some (.ref 87), some (xV i)] [] (xS a b) Q := by
    intro m
    induction m with
    | zero =>
      intro i hi i0
      exact w224i ⟨i0, by omega⟩ rfl hl (fun _ => hQ 0 (by decide)) (fun e => absurd (by omega) e)
    | succ m ih =>
      intro i hi i0
      refine w224i ⟨i0, by omega⟩ rfl hl (fun e => absurd e (by omega)) (fun _ => u202 hA hcl ⟨i0, by omega⟩ (by decide) (fun z hz => ?_))
      exact w224z hz (fun _ => ih (i + 1) (by omega) (by omega)) (fun _ => hQ 1 (by decide))
  exact loop (a 87 3).toNat 0 (by omega) (by decide)
/-- a turn leaves a row that may be -/
theorem uTr_n (hn0 : 0 ≤ n ∧ n ≤ 5) (hr : uRv n r) (hcd : cd = -1 ∨ ((0 ≤ cd ∧ cd < 61) ∧ (¬ r 0 = 7 → uCp n 0 cd r))) : ∀ q : Nat, q ≤ 4 → ∀ j, j < 0 → uTr dr wp pr cnt W T n cd wt r q j = r j := by
  intro q
  induction q with
  | zero => exact fun _ _ _ => rfl
  | succ q ih =>
    intro hq j hj
    have hv := (uTr_v (dr := dr) (wp := wp) (pr := pr) (cnt := cnt) (W := W) (T := T) (wt := wt) hn0 hr hcd q (by omega)).1
    have hv2 := (uTr_v (dr := dr) (wp := wp) (pr := pr) (cnt := cnt) (W := W) (T := T) (wt := wt) hn0 hr hcd (q + 1) hq).1
    have e := ih (by omega) j hj
    obtain ⟨rq, erq⟩ : ∃ z, uTr dr wp pr cnt W T n cd wt r q = z := ⟨_, rfl⟩
    show uS1 dr wp pr cnt W T n cd wt q (uTr dr wp pr cnt W T n cd wt r q) j = r j
    rw [erq] at hv e ⊢
    by_cases c : rq q = 7 ∨ uDc dr wp pr cnt W T n cd wt q rq = -1
    · rw [uS1_n c]
      exact e
    · have c1 : ¬ rq q = 7 := fun h => c (Or.inl h)
      have c2 : ¬ uDc dr wp pr cnt W T n cd wt q rq = -1 := fun h => c (Or.inr h)
      rw [uS1_y c1 c2]
      have key : (0 ≤ uDc dr wp pr cnt W T n cd wt q rq ∧ uDc dr wp pr cnt W T n cd wt q rq < 61) ∧ uCp n q (uDc dr wp pr cnt W T n cd wt q rq) rq := by
        unfold uDc at c2 ⊢
        by_cases q0 : q = 0
        · subst q0
          have er : r = rq := erq
          subst er
          rw [if_pos (show ((0 : Nat) : Int) = 0 from rfl)] at c2 ⊢
          exact hcd.elim (fun h => absurd h c2) (fun h => ⟨h.1, h.2 c1⟩)
        · rw [if_neg (by omega)] at c2 ⊢
          by_cases cw : (q : Int) = wt
          · rw [if_pos cw] at c2
            exact absurd rfl c2
          · rw [if_neg cw] at c2 ⊢
            exact uWd_c hv ⟨by omega, by omega⟩ c1 c2
      have h1 := uRv_e hn0.2 (uRv_d hn0.2 hv (by omega) key.1 (uCp_d key.2))
      have hb := uX_b key.1
      have hy := key.2.2.2.1
      unfold uDe
      have h2 := uRv_f hn0.2 h1
      have e3 : uAl n (uEv (uDo n q (uDc dr wp pr cnt W T n cd wt q rq) rq)) j = uEv (uDo n q (uDc dr wp pr cnt W T n cd wt q rq) rq) j := ((uRv_a hn0.2 3 1 _ h2.1 (by decide) (by decide)).2 j (by omega)).trans (h2.2 j (by omega))
      rw [e3]
      show (if j = 119 then _ else uDo n q (uDc dr wp pr cnt W T n cd wt q rq) rq j) = r j
      rw [if_neg (by omega), ← e]
      obtain ⟨kk, ek⟩ : ∃ kk, uDc dr wp pr cnt W T n cd wt q rq = kk := ⟨_, rfl⟩
      rw [ek] at hb hy ⊢
      obtain ⟨b0, b1, b2, b3, b4, b5, b6⟩ := hb
      by_cases k1 : uK kk = 1
      · rw [uDo_1 k1]
        exact if_neg (by omega)
      by_cases k2 : uK kk = 2
      · rw [uDo_2 k2]
        exact if_neg (by omega)
      by_cases k3 : uK kk = 3
      · rw [uDo_3 k3]
        exact if_neg (by omega)
      by_cases k4 : uK kk = 4
      · rw [uDo_4 k4]
        exact if_neg (by omega)
      by_cases k5 : uK kk = 5
      · rw [uDo_5 k5]
        unfold uZt
        rw [if_neg (by omega), if_neg (by omega), if_neg (by omega)]
      · have k6 : uK kk = 6 := by omega
        have := hy k6
        rw [uDo_6 k6]
        exact if_neg (by omega)
theorem uAx_n (hn0 : 0 ≤ n ∧ n ≤ 5) (hr : uRv n r) (hc : 0 ≤ c ∧ c ≤ 56) {j : Int} (hj : j < 0 ∨ 120 ≤ j) : uAx n c r j = r j := by
  unfold uAx
  by_cases c0 : c = 0
  · rw [if_pos c0]
  rw [if_neg c0]
  have h1 := uRv_x hn0 hr (c := c) ⟨by omega, hc.2⟩
  have h2 := uRv_f hn0.2 h1
  have e3 : uAl n (uAa c r) j = uAa c r j := ((uRv_a hn0.2 3 1 _ h2.1 (by decide) (by decide)).2 j (by omega)).trans (h2.2 j (by omega))
  rw [e3]
  unfold uAa
  rw [if_neg (show ¬ j = 118 by omega), if_neg (show ¬ j = 115 by omega)]
  by_cases cs : c < 36
  · rw [if_pos cs, if_neg (show ¬ j = 4 + (c - 1) / 7 by omega), if_neg (show ¬ j = 9 + (c - 1) / 7 by omega), if_neg (show ¬ j = 116 by omega)]
  · rw [if_neg cs, if_neg (show ¬ j = 1 + (c - 36) / 7 by omega), if_neg (show ¬ j = 117 by omega)]
/-- a row behind an act -/
theorem uRow_x (hn0 : 0 ≤ n ∧ n ≤ 5) (hm : 0 ≤ m ∧ m ≤ 30) (h : uRow n m r) (hc : 0 ≤ c ∧ c ≤ 56) : uRow n (m + 1) (uAx n c r) := by
  obtain ⟨h1, b1, b2, b3, b4, b5, b6⟩ := h
  unfold uAx
  by_cases c0 : c = 0
  · rw [if_pos c0]
    exact ⟨h1, ⟨by omega, b2, by omega, by omega, by omega, by omega⟩⟩
  rw [if_neg c0]
  have hc1 : 1 ≤ c ∧ c ≤ 56 := ⟨by omega, hc.2⟩
  have v := uRv_x hn0 h1 hc1
  have hi : ∀ j, 41 ≤ j → uAl n (uAa c r) j = _ := fun j hj => (uAl_hi hn0.2 v hj).trans (uAa_hi hc1 hj)
  have hp : 0 ≤ uPr c r ∧ uPr c r ≤ 300 := by
    unfold uPr
    split
    · omega
    · split <;> omega
  refine ⟨uRv_l hn0.2 v, ?_, ?_, ?_, ?_, ?_, ?_⟩
  · rw [hi 114 (by decide), if_neg (by decide), if_neg (by decide), if_neg (by omega), if_neg (by omega)]
    omega
  · rw [hi 115 (by decide), if_neg (by decide), if_pos rfl]
    decide
  · rw [hi 116 (by decide), if_neg (by decide), if_neg (by decide)]
    split
    · omega
    · rw [if_neg (by omega)]
      omega
  · rw [hi 117 (by decide), if_neg (by decide), if_neg (by decide), if_neg (by omega)]
    split <;> omega
  · rw [hi 118 (by decide), if_pos rfl]
    omega
  · rw [hi 119 (by decide), if_neg (by decide), if_neg (by decide), if_neg (by omega), if_neg (by omega)]
    omega
/-- plays, as a frame -/
theorem u208x (hK : uRk pr cnt W T) (hS : uSx dr wp pr cnt W T n a b) (hR : uRow n m (a 88)) (hm : 0 ≤ m ∧ m ≤ 29) (hc : c = -1 ∨ ((0 ≤ c ∧ c < 61) ∧ (¬ a 88 0 = 7 → uCp n 0 c (a 88)))) (hwt : -1 ≤ wt ∧ wt ≤ 3) (hd : 7 ≤ d) (hQ : ∀ a' b', uPm a a' b b' → uSx dr wp pr cnt W T n a' b' → uRow n (m + 1) (a' 88) → (∀ j, j < 0 ∨ 120 ≤ j → a' 88 j = a 88 j) → Q none (xS a' b')) : pmCs ro d 208 [.ref 87, xV c, xV wt] (xS a b) Q := by
  obtain ⟨h1, h2, h3, h4⟩ := hS
  obtain ⟨r1, b1, b2, b3, b4, b5, b6⟩ := hR
  have hn0 : 0 ≤ n ∧ n ≤ 5 := h1.2.1.2.2.1
  refine u208 hK h1 r1 h2 h3 (by omega) (by omega) (hc.elim Or.inl (fun h => Or.inr ⟨h.1, fun e => uCp_d (h.2 e)⟩)) hwt hd (fun a' b' f1 B1 V1 M1 L1 R1 e114 e115 e119 e119b _ => ?_)
  obtain ⟨R, eR⟩ : ∃ R, a 88 = R := ⟨_, rfl⟩
  rw [eR] at r1 b1 b2 b3 b4 b5 b6 R1 hc e114 e119
  have v := uTr_v (dr := dr) (wp := wp) (pr := pr) (cnt := cnt) (W := W) (T := T) (wt := wt) hn0 r1 hc 4 (by decide)
  have nn := uTr_n (dr := dr) (wp := wp) (pr := pr) (cnt := cnt) (W := W) (T := T) (wt := wt) hn0 r1 hc 4 (by decide)
  have hi : ∀ j, 113 ≤ j → ¬ j = 114 → ¬ j = 115 → ¬ j = 119 → a' 88 j = R j := fun j h1 h2 h3 h4 => (R1 j (Or.inr ⟨h1, h2, h3⟩)).trans (v.2 j (by omega) h4)
  refine hQ a' b' f1 ⟨B1, M1, L1, fun i i0 i1 => by rw [f1.1 100 i (by decide) (by decide) (by decide) (by decide) (by decide) (by decide) (by decide) (by decide) (by decide) (by decide) (by decide) (by decide) (by omega)]; exact h4 i i0 i1⟩ ⟨V1, by omega, by omega, ?_, ?_, ?_, by omega⟩ (fun j hj => ?_)
  · rw [hi 116 (by decide) (by decide) (by decide) (by decide)]
    omega
  · rw [hi 117 (by decide) (by decide) (by decide) (by decide)]
    omega
  · rw [hi 118 (by decide) (by decide) (by decide) (by decide)]
    omega
  · rw [eR]
    rcases hj with hj | hj
    · exact (R1 j (Or.inl (by omega))).trans (nn j hj)
    · exact hi j (by omega) (by omega) (by omega) (by omega)
/-- a shelf holds a row -/
def uShl (s : Int) (R : Int → Int) (a : xA) : Prop := ∀ j, 0 ≤ j → j < 120 → a 89 (120 * s + j) = R j
theorem uShl_o (hs : 0 ≤ s ∧ s < x) (h : uShl s R a) (e : ∀ j, j < 120 * x → a' 89 j = a 89 j) : uShl s R a' := fun j j0 j1 => (e (120 * s + j) (by omega)).trans (h j j0 j1)
theorem uTa_row (h : uShl s R a) (e : ∀ j, j < 0 ∨ 120 ≤ j → a 88 j = R j) : (uTa s a) 88 = R := by
  funext j
  unfold uTa
  by_cases c : 0 ≤ j ∧ j < 120
  · rw [if_pos ⟨rfl, c.1, c.2⟩]
    exact h j c.1 c.2
  · rw [if_neg (fun g => c g.2)]
    exact e j (by omega)
theorem uTa_n {q : Nat} {j : Int} (h : q ≠ 88) : uTa s a q j = a q j := if_neg (fun e => h e.1)
theorem uLa_n {q : Nat} {j : Int} (h : ¬ q = 89) : uLa s a q j = a q j := if_neg (fun e => h e.1)
theorem uLa_lo {j : Int} (h : j < 120 * s) : uLa s a 89 j = a 89 j := if_neg (fun e => by omega)
theorem uLa_s : uShl s (a 88) (uLa s a) := fun j j0 j1 => by
  unfold uLa
  rw [if_pos ⟨rfl, by omega, by omega⟩, show 120 * s + j - 120 * s = j by omega]
theorem xAr_ta (h : xAr a) : xAr (uTa s a) := fun q j => by
  unfold uTa
  split
  · exact h _ _
  · exact h _ _
theorem xAr_la (h : xAr a) : xAr (uLa s a) := fun q j => by
  unfold uLa
  split
  · exact h _ _
  · exact h _ _
end
end
