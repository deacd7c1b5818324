/-! made of the class, as a frame -/
section
set_option maxRecDepth 100000


section
variable {Ln : Nat} {xs : Nat → Int32} {ro : Nat → Nat × (Nat → Int32)} {d w : Nat} {Q : Option Value → pmS → Prop} {dr wp co pr cnt W : Int → Int} {T : Int → List Int} {n m t wh k g lot so sd tn wt : Int} {r r' : Int → Int} {a a' a'' a0 : xA} {b b' b'' : xB} {l : Int64}
theorem uCx_t (hn0 : 0 ≤ n ∧ n ≤ 5) (hX : uCx n w r a b) (hcd : k = -1 ∨ ((0 ≤ k ∧ k < 61) ∧ (¬ r 0 = 7 → uCp n 0 k r))) (hwo : uWo w) (f : uTf w a a' b b') (h : uCw n w (uTr dr wp pr cnt W T n k wt r 4) a' b') (e6 : a' w 6 = a w 6 + 1) (e12 : a' w 12 = 0) : uCx n w (uTu dr wp pr cnt W T n k wt r) a' b' := by
  have hw := hwo.2
  have v4 := (uTr_v (dr := dr) (wp := wp) (pr := pr) (cnt := cnt) (W := W) (T := T) (wt := wt) hn0 hX.1.1 hcd 4 (by decide)).2
  have tu : ∀ j, ¬ j = 114 → ¬ j = 115 → uTu dr wp pr cnt W T n k wt r j = uTr dr wp pr cnt W T n k wt r 4 j := fun j h1 h2 => by
    unfold uTu
    rw [if_neg h1, if_neg h2]
  have ht4 : uTu dr wp pr cnt W T n k wt r 114 = r 114 + 1 := rfl
  have ht5 : uTu dr wp pr cnt W T n k wt r 115 = 0 := rfl
  have k8 : ∀ j, j = 8 ∨ j = 9 ∨ j = 10 → a' w j = a w j := fun j hj => f.1 w j (by omega) (by omega) (by omega) (by omega) (by omega) (by omega)
  exact ⟨uCw_q hn0.2 h (fun j hj => tu j (by omega) (by omega)), by rw [e6, hX.2.1, ht4], by rw [e12, ht5], by rw [k8 8 (by decide), hX.2.2.2.1, tu 116 (by decide) (by decide), v4 116 (by decide) (by decide)], by rw [k8 9 (by decide), hX.2.2.2.2.1, tu 117 (by decide) (by decide), v4 117 (by decide) (by decide)], by rw [k8 10 (by decide), hX.2.2.2.2.2, tu 118 (by decide) (by decide), v4 118 (by decide) (by decide)]⟩
theorem uBqm_u (hn0 : 0 ≤ n ∧ n ≤ 5) (hr : uRv n r) (h : uBqm m r) (hc : k = -1 ∨ ((0 ≤ k ∧ k < 61) ∧ (¬ r 0 = 7 → uCp n 0 k r))) (h9 : 0 ≤ uTr dr wp pr cnt W T n k wt r 4 119 ∧ uTr dr wp pr cnt W T n k wt r 4 119 ≤ r 119 + 5) : uBqm (m + 1) (uTu dr wp pr cnt W T n k wt r) := by
  obtain ⟨h1, h2, h3, h4, h5, h6⟩ := h
  have v := (uTr_v (dr := dr) (wp := wp) (pr := pr) (cnt := cnt) (W := W) (T := T) (wt := wt) hn0 hr hc 4 (by decide)).2
  have e : ∀ j, ¬ j = 114 → ¬ j = 115 → uTu dr wp pr cnt W T n k wt r j = uTr dr wp pr cnt W T n k wt r 4 j := fun j g1 g2 => by
    unfold uTu
    rw [if_neg g1, if_neg g2]
  refine ⟨?_, ?_, ?_, ?_, ?_, ?_⟩
  · show 0 ≤ r 114 + 1 ∧ r 114 + 1 ≤ _
    omega
  · show (0 : Int) ≤ 0 ∧ (0 : Int) ≤ 1
    decide
  · rw [e 116 (by decide) (by decide), v 116 (by decide) (by decide)]
    omega
  · rw [e 117 (by decide) (by decide), v 117 (by decide) (by decide)]
    omega
  · rw [e 118 (by decide) (by decide), v 118 (by decide) (by decide)]
    omega
  · rw [e 119 (by decide) (by decide)]
    omega
/-- madeDeed -/
theorem u122 (hA : xAr a) (hKs : uKs dr wp n a b) (hg : g = 0 ∨ g = 1) (hlot : 0 ≤ lot ∧ lot ≤ 65535) (hd : 2 ≤ d) (hQ : ∀ k, (-1 ≤ k ∧ k < 61) → uCa dr wp n 0 (uSl l) k → Q (some (xV (uD k))) (xS a b)) : pmCs ro d 122 [.ref 43, .long l, xV g, xV lot] (xS a b) Q := by
  have e4 : ∀ i, 0 ≤ i → i < 62 → a 4 i = uD (i - 1) := fun i i0 i1 => by
    have := hKs.2.2.2.2 (i - 1) (by omega) (by omega)
    rw [show i - 1 + 1 = i by omega] at this
    exact this
  refine pmCs_deep (d := 2) (xg122 (w122 ?_)) hd
  have l2 : ∀ (u : Nat) (i ah my : Int), i + (u : Int) = 62 → 0 ≤ i → (-i ≤ ah ∧ ah ≤ 66000) → pmWp ro 1 4 122 1 111 [some (.ref 43), some (.long l), none, some (xV g), some (xV lot), some (xV my), some (xV ah), some (xV i)] [] (xS a b) Q := by
    intro u
    induction u with
    | zero =>
      intro i ah my hi i0 hah
      exact w122j hA hg hlot ⟨by omega, by omega⟩ ⟨i0, by omega⟩ (fun _ => hQ (-1) (by decide) (Or.inl rfl)) (fun e => absurd (by omega) e)
    | succ u ih =>
      intro i ah my hi i0 hah
      have hi2 : 0 ≤ i ∧ i ≤ 61 := ⟨i0, by omega⟩
      have hah2 : -100 ≤ ah ∧ ah ≤ 70000 := ⟨by omega, by omega⟩
      have nxt : ∀ ah2 : Int, (-(i + 1) ≤ ah2 ∧ ah2 ≤ 66000) → pmWp ro 1 4 122 1 159 [some (.ref 43), some (.long l), none, some (xV g), some (xV lot), some (xV my), some (xV ah2), some (xV i)] [] (xS a b) Q := fun ah2 h => w122o hA hg hlot ⟨by omega, by omega⟩ ⟨i0, by omega⟩ (ih (i + 1) ah2 my (by omega) (by omega) h)
      refine w122j hA hg hlot hah2 ⟨i0, by omega⟩ (fun e => absurd e (by omega)) (fun _ => ?_)
      have e := e4 i i0 (by omega)
      rw [e]
      have fin := hQ (i - 1) ⟨by omega, by omega⟩
      refine u80 hA hKs (by decide) ⟨by omega, by omega⟩ (by decide) (fun hc => w122y hA hg hlot hah2 hi2 (by decide) (fun e => absurd e (by decide)) (fun _ _ => nxt (ah + -1) ⟨by omega, by omega⟩) (fun _ _ => ?_)) (fun hc => w122y hA hg hlot hah2 hi2 (by decide) (fun _ => nxt ah ⟨by omega, by omega⟩) (fun e => absurd rfl e) (fun e => absurd rfl e))
      rw [e]
      exact fin hc
  have l1 : ∀ (u : Nat) (i my : Int) (v7 : Option Value), i + (u : Int) = 62 → 0 ≤ i → (0 ≤ my ∧ my ≤ i) → pmWp ro 1 4 122 1 6 [some (.ref 43), some (.long l), none, some (xV g), some (xV lot), some (xV my), some (xV i), v7] [] (xS a b) Q := by
    intro u
    induction u with
    | zero =>
      intro i my v7 hi i0 hmy
      refine w122i hA hg hlot hmy ⟨i0, by omega⟩ (fun _ => ?_) (fun e => absurd (by omega) e)
      refine w122m hA hg hlot hmy ⟨i0, by omega⟩ (fun _ => l2 62 0 0 my (by decide) (by decide) (by decide)) (fun e => l2 62 0 (lot % my) my (by decide) (by decide) ?_)
      have h1 := Int.emod_nonneg lot (show my ≠ 0 by omega)
      have h2 := Int.emod_lt_of_pos lot (show 0 < my by omega)
      omega
    | succ u ih =>
      intro i my v7 hi i0 hmy
      have hi2 : 0 ≤ i ∧ i ≤ 61 := ⟨i0, by omega⟩
      have nxt : ∀ (my2 : Int) (v7 : Option Value), (0 ≤ my2 ∧ my2 ≤ i + 1) → pmWp ro 1 4 122 1 86 [some (.ref 43), some (.long l), none, some (xV g), some (xV lot), some (xV my2), some (xV i), v7] [] (xS a b) Q := fun my2 v7 h => w122n2 hA hg hlot h ⟨i0, by omega⟩ (ih (i + 1) my2 v7 (by omega) (by omega) h)
      refine w122i hA hg hlot hmy ⟨i0, by omega⟩ (fun e => absurd e (by omega)) (fun _ => ?_)
      have e := e4 i i0 (by omega)
      rw [e]
      have hDb := uD_p (k := i - 1) ⟨by omega, by omega⟩
      have fin := hQ (i - 1) ⟨by omega, by omega⟩
      refine u80 hA hKs (by decide) ⟨by omega, by omega⟩ (by decide) (fun hc => w122z hA hg hlot hmy hi2 (by decide) e ⟨hDb.1, hDb.2.1⟩ (fun e => absurd e (by decide)) (fun _ _ => nxt (my + 1) _ ⟨by omega, by omega⟩) (fun _ _ _ => nxt (my + 1) _ ⟨by omega, by omega⟩) (fun _ _ _ => fin hc)) (fun hc => w122z hA hg hlot hmy hi2 (by decide) e ⟨hDb.1, hDb.2.1⟩ (fun _ => nxt (my + 0) _ ⟨by omega, by omega⟩) (fun e => absurd rfl e) (fun e => absurd rfl e) (fun e => absurd rfl e))
  exact l1 62 0 0 _ (by decide) (by decide) (by decide)
/-- what playing on a world leaves alone -/
def uTgw (w : Nat) (a a' : xA) (b b' : xB) : Prop := (∀ q j, ¬ (w ≤ q ∧ q ≤ w + 4) → ¬ q = 44 → ¬ (34 ≤ q ∧ q ≤ 42) → a' q j = a q j) ∧ ∀ q j, ¬ (w ≤ q ∧ q ≤ w + 4) → ¬ (34 ≤ q ∧ q ≤ 36) → b' q j = b q j
theorem uTg_r : uTgw w a a b b := ⟨fun _ _ _ _ _ => rfl, fun _ _ _ _ => rfl⟩
theorem uTg_t (h : uTgw w a a' b b') (h' : uTgw w a' a'' b' b'') : uTgw w a a'' b b'' := ⟨fun q j e1 e2 e3 => (h'.1 q j e1 e2 e3).trans (h.1 q j e1 e2 e3), fun q j e1 e2 => (h'.2 q j e1 e2).trans (h.2 q j e1 e2)⟩
theorem uTg_f (h : uTf w a a' b b') : uTgw w a a' b b' := ⟨fun q j e1 e2 e3 => h.1 q j (by omega) (by omega) (by omega) (by omega) e2 e3, fun q j e1 e2 => h.2 q j (by omega) (by omega) e2⟩
theorem uTg_c {v : Nat} (h : uCopd w v a a' b b') : uTgw w a a' b b' := ⟨fun q j e1 _ _ => h.2.2.2.2.2.1 q j e1, fun q j e1 _ => h.2.2.2.2.2.2 q j e1⟩
theorem uTg_x (h : uXf w a a' b b') : uTgw w a a' b b' := ⟨fun q j e1 _ _ => h.1 q j (by omega) (by omega), fun q j e1 _ => h.2 q j (by omega) (by omega)⟩
/-- tryMade -/
theorem u121 (hK : uRk pr cnt W T) (hn0 : 0 ≤ n ∧ n ≤ 5) (hwo : uWo w) (hC : uCb dr wp co pr cnt W T n a0 a b) (hX : uCx n w r a b) (hB : uBqm 0 r) (hso : 0 ≤ so ∧ so ≤ 2) (hsd : 0 ≤ sd ∧ sd ≤ 65535) (htn : 1 ≤ tn ∧ tn ≤ 20) (hd : 12 ≤ d) (hQ : ∀ a' b' z, uTgw w a a' b b' → uCb dr wp co pr cnt W T n a0 a' b' → (-1 ≤ z ∧ z ≤ 20) → (0 ≤ a' w 11 ∧ a' w 11 ≤ 400) → Q (some (xV z)) (xS a' b')) : pmCs (pmRo Ln xs) d 121 [.ref 43, .ref w, xV so, xV sd, xV tn] (xS a b) Q := by
  have hz := hwo.1
  have hw := hwo.2
  have loop : ∀ (u : Nat) (t fb lot : Int) (r1 : Int → Int) (a2 : xA) (b2 : xB) (v8 : Option Value), t + (u : Int) = tn + 1 → 1 ≤ t → (-1 ≤ fb ∧ fb ≤ 20) → (0 ≤ lot ∧ lot ≤ 65535) → uTgw w a a2 b b2 → uCb dr wp co pr cnt W T n a0 a2 b2 → uCx n w r1 a2 b2 → uBqm (t - 1) r1 → pmWp (pmRo Ln xs) 11 4 121 1 20 [some (.ref 43), some (.ref w), some (xV so), some (xV sd), some (xV tn), some (xV fb), some (xV lot), some (xV t), v8] [] (xS a2 b2) Q := by
    intro u
    induction u with
    | zero =>
      intro t fb lot r1 a2 b2 v8 ht t1 hfb hlot f2 C2 X2 B2
      refine w121t hz C2.1.1 hso htn hfb hlot ⟨t1, by omega⟩ (fun _ => hQ a2 b2 fb f2 C2 hfb ?_) (fun e => absurd (by omega) e) (fun e => absurd (by omega) e) (fun e => absurd (by omega) e)
      rw [X2.1.2.2.2.2.2.2]
      obtain ⟨y1, y2, y3, y4, y5, y6⟩ := B2
      omega
    | succ u ih =>
      intro t fb lot r1 a2 b2 v8 ht t1 hfb hlot f2 C2 X2 B2
      have ht2 : 1 ≤ t ∧ t ≤ 21 := ⟨t1, by omega⟩
      have hl2 : 0 ≤ (25173 * lot + 13849) % 65536 ∧ (25173 * lot + 13849) % 65536 ≤ 65535 := by omega
      have hB0 := B2
      obtain ⟨y1, y2, y3, y4, y5, y6⟩ := B2
      have goes : ∀ k, (-1 ≤ k ∧ k < 61) → uCa dr wp n 0 (uSl (b2 w 4)) k → pmWp (pmRo Ln xs) 11 4 121 1 70 [some (.ref 43), some (.ref w), some (xV so), some (xV sd), some (xV tn), some (xV fb), some (xV ((25173 * lot + 13849) % 65536)), some (xV t), v8] [xV (uD k)] (xS a2 b2) Q := by
        intro k hk hc
        have hcp : k = -1 ∨ ((0 ≤ k ∧ k < 61) ∧ (¬ r1 0 = 7 → uCp n 0 k r1)) := by
          by_cases c : k = -1
          · exact Or.inl c
          · exact Or.inr ⟨⟨by omega, hk.2⟩, fun _ => uCa_p X2.1.1 ⟨by omega, hk.2⟩ ((uCa_q X2.1.2.1.1 (by decide) hk).mp hc)⟩
        refine w121d hz C2.1.1 hso htn hfb hl2 ht2 ?_
        refine u89 (cd := k) (id := 0) (wt := -1) hwo hK hn0 C2 X2.1 (by rw [X2.2.1]; omega) (by omega) hcp (by decide) (fun p p1 p3 => ⟨fun h => by omega, fun h => by omega⟩) (by decide) (fun a3 b3 f3 C3 W3 i6 i12 _ i119 _ => ?_)
        have X3 := uCx_t hn0 X2 hcp hwo f3 W3 i6 i12
        have B3 := uBqm_u (wt := -1) hn0 X2.1.1 hB0 hcp i119
        rw [show t - 1 + 1 = t + 1 - 1 by omega] at B3
        have f4 := uTg_t f2 (uTg_f f3)
        exact w121e hz C3.1.1 hso htn hfb hl2 ⟨t1, by omega⟩ (fun _ => ih (t + 1) fb _ _ a3 b3 _ (by omega) (by omega) hfb hl2 f4 C3 X3 B3) (fun _ _ => ih (t + 1) fb _ _ a3 b3 _ (by omega) (by omega) hfb hl2 f4 C3 X3 B3) (fun _ _ => ih (t + 1) t _ _ a3 b3 _ (by omega) (by omega) ⟨by omega, by omega⟩ hl2 f4 C3 X3 B3)
      exact w121t hz C2.1.1 hso htn hfb hlot ht2 (fun e => absurd e (by omega)) (fun _ _ _ => u122 C2.1.1 C2.1.2.1 (by decide) hl2 (by decide) goes) (fun _ _ _ => u122 C2.1.1 C2.1.2.1 (by decide) hl2 (by decide) goes) (fun _ _ => goes (-1) (by decide) (Or.inl rfl))
  exact pmCs_deep (d := 12) (xg121 (w121 hz hC.1.1 (fun _ => loop tn.toNat 1 (-1) sd r a b _ (by omega) (by decide) (by decide) hsd uTg_r hC hX (by rw [show (1 : Int) - 1 = 0 from rfl]; exact hB)) (fun _ => loop tn.toNat 1 0 sd r a b _ (by omega) (by decide) (by decide) hsd uTg_r hC hX (by rw [show (1 : Int) - 1 = 0 from rfl]; exact hB)))) hd
theorem u123 (hd : 2 ≤ d) (hQ : ∀ z, (0 ≤ z ∧ z ≤ 4) → Q (some (xV z)) (xS a b)) : pmCs ro d 123 [.long l] (xS a b) Q := by
  refine pmCs_deep (d := 2) (xg123 (w123 ?_)) hd
  have loop : ∀ (u : Nat) (q dn : Int), q + (u : Int) = 4 → 0 ≤ q → (0 ≤ dn ∧ dn ≤ q) → pmWp ro 1 11 123 1 4 [some (.long l), none, some (xV dn), some (xV q)] [] (xS a b) Q := by
    intro u
    induction u with
    | zero =>
      intro q dn hq q0 hdn
      exact w123q hdn ⟨q0, by omega⟩ (by decide) (fun _ => hQ dn (by omega)) (fun e => absurd (by omega) e) (fun e => absurd (by omega) e)
    | succ u ih =>
      intro q dn hq q0 hdn
      exact w123q hdn ⟨q0, by omega⟩ (by decide) (fun e => absurd e (by omega)) (fun _ _ => ih (q + 1) (dn + 0) (by omega) (by omega) (by omega)) (fun _ _ => ih (q + 1) (dn + 1) (by omega) (by omega) (by omega))
  exact loop 4 0 0 (by decide) (by decide) (by decide)
theorem uWo26 : uWo 26 := ⟨⟨xz26, xz27, xz28, xz29, xz30⟩, by decide, by decide⟩
/-- made -/
theorem u120n (q1 : xR so) (q2 : xR sd) (q3 : xR tn) (q4 : xR wh) (hb : a 0 12 = 0) (hd : 1 ≤ d) (hN : Q (some (xV (-1))) (xS a b)) : pmCs ro d 120 [.ref 0, xV so, xV sd, xV tn, xV wh] (xS a b) Q := by
  have at38 : ∀ g : Int, (g = 0 ∨ g = 1) → pmWp ro 0 11 120 1 38 [some (.ref 0), some (xV so), some (xV sd), some (xV tn), some (xV wh), some (xV g), none] [] (xS a b) Q := fun g hg => wa120a q1 q2 q3 q4 hb (by decide) hg (fun _ => hN) (fun e => absurd rfl e) (fun e => absurd rfl e) (fun e => absurd rfl e) (fun e => absurd rfl e)
  refine pmCs_deep (d := 1) (xg120 (wa120 q1 q2 q3 q4 hb (by decide) ?_ ?_ ?_ ?_ ?_ ?_ ?_)) hd <;> intros <;> exact at38 _ (by decide)
theorem u120 (q1 : xR so) (q2 : xR sd) (q3 : xR tn) (q4 : xR wh) (hK : uRk pr cnt W T) (hn0 : 0 ≤ n ∧ n ≤ 5) (hC : uCb dr wp co pr cnt W T n a0 a b) (hX : uCx n 21 r a b) (hB : uBqm 0 r) (hb : a 0 12 = 1) (hd : 13 ≤ d) (hQ : ∀ a' b' z, uTgw 26 a a' b b' → uCb dr wp co pr cnt W T n a0 a' b' → (-400 ≤ z ∧ z ≤ 400) → Q (some (xV z)) (xS a' b')) : pmCs (pmRo Ln xs) d 120 [.ref 0, xV so, xV sd, xV tn, xV wh] (xS a b) Q := by
  have no := hQ a b (-1) uTg_r hC (by decide)
  have n0 : pmWp (pmRo Ln xs) 12 11 120 1 38 [some (.ref 0), some (xV so), some (xV sd), some (xV tn), some (xV wh), some (xV 0), none] [] (xS a b) Q := wa120a q1 q2 q3 q4 hb (by decide) (by decide) (fun e => absurd e (by decide)) (fun _ _ => no) (fun _ e => absurd rfl e) (fun _ e => absurd rfl e) (fun _ e => absurd rfl e)
  refine pmCs_deep (d := 13) (xg120 (wa120 q1 q2 q3 q4 hb (by decide) (fun _ => n0) (fun _ _ => n0) (fun _ _ _ => n0) (fun _ _ _ _ => n0) (fun _ _ _ _ _ => n0) (fun _ _ _ _ _ _ => n0) (fun h1 h2 h3 h4 h5 h6 => ?_))) hd
  refine wa120a q1 q2 q3 q4 hb (by decide) (by decide) (fun e => absurd e (by decide)) (fun _ e => absurd e (by decide)) (fun _ _ _ => no) (fun _ _ h7 h8 => ?_) (fun _ _ _ _ => no)
  obtain ⟨y1, y2, y3, y4, y5, y6⟩ := hB
  refine u66 uWo26 uWo21 (by decide) hC.1.1 (by rw [hX.2.2.1]; exact y2) (by decide) (fun a3 b3 c3 A3 => wa120b ⟨by omega, h8⟩ ?_)
  have f3 := uTg_c c3
  have C3 : uCb dr wp co pr cnt W T n a0 a3 b3 := uCb_e hC (fun q j h1 h2 => c3.2.2.2.2.2.1 q j (by omega)) (fun q j e => c3.2.2.2.2.2.2 q j (by omega)) A3
  have X3 := uCx_cp (w := 26) hX c3
  refine u121 hK hn0 uWo26 C3 X3 ⟨y1, y2, y3, y4, y5, y6⟩ ⟨by omega, by omega⟩ ⟨by omega, by omega⟩ ⟨by omega, by omega⟩ (by decide) (fun a4 b4 z f4 C4 hzz hev => ?_)
  have f5 := uTg_t f3 f4
  refine wa120c ⟨by omega, h8⟩ (fun _ => hQ a4 b4 z f5 C4 (by omega)) (fun _ _ => u123 (by decide) (fun v hv => wa120d ⟨by omega, h8⟩ (hQ a4 b4 v f5 C4 (by omega)))) (fun _ _ => hQ a4 b4 _ f5 C4 ?_)
  have e11 : a4 21 11 = a 21 11 := f5.1 21 11 (by omega) (by omega) (by omega)
  rw [e11, hX.1.2.2.2.2.2.2]
  omega
end
end
