section
/-! made of the reference, as a frame -/
section
set_option maxRecDepth 100000


section
variable {ro : Nat → Nat × (Nat → Int32)} {d w : Nat} {Q : Option Value → pmS → Prop} {dr wp co pr cnt W : Int → Int} {T : Int → List Int} {n m t wh k x so sd tn bg : Int} {r r' R : Int → Int} {a a' a'' a0 : xA} {b b' b'' : xB}
/-- madeDeed -/
theorem u238 (hB : uRb dr wp pr cnt W T n a) (hr : uRv n (a 88)) (hso : 0 ≤ so ∧ so ≤ 2) (hx : 0 ≤ x ∧ x ≤ 65535) (hd : 3 ≤ d) (hQ : ∀ k, (k = -1 ∨ ((0 ≤ k ∧ k < 61) ∧ uCa dr wp n 0 (uWs n (a 88)) k)) → Q (some (xV k)) (xS a b)) : pmCs ro d 238 [.ref 87, xV so, xV x] (xS a b) Q := by
  have no := hQ (-1) (Or.inl rfl)
  refine pmCs_deep (d := 3) (xg238 (w238 hso (fun h0 => ?_) (fun _ => no))) hd
  have hso1 : 1 ≤ so ∧ so ≤ 2 := ⟨by omega, hso.2⟩
  have can : ∀ {Q : Option Value → pmS → Prop} (k : Int), (0 ≤ k ∧ k < 61) → (uCa dr wp n 0 (uWs n (a 88)) k → Q (some (xV 1)) (xS a b)) → (¬ uCa dr wp n 0 (uWs n (a 88)) k → Q (some (xV 0)) (xS a b)) → pmCs ro 2 206 [.ref 87, xV 0, xV k] (xS a b) Q := fun k hk h1 h2 => u206 hB.1 hB.2.1 hB.2.2.1 hr (by decide) hk (by decide) h1 h2
  -- the deed that is chosen
  have l3 : ∀ (u : Nat) (i nn my wh : Int), i + (u : Int) = 61 → 0 ≤ i → (0 ≤ nn ∧ nn < wh ∧ nn ≤ i) → (0 ≤ wh ∧ wh ≤ 100) → pmWp ro 2 12 238 1 91 [some (.ref 87), some (xV so), some (xV x), some (xV my), some (xV wh), some (xV nn), some (xV i)] [] (xS a b) Q := by
    intro u
    induction u with
    | zero =>
      intro i nn my wh hi i0 hnn hwh
      exact w238g hso1 hx hwh ⟨by omega, by omega⟩ ⟨i0, by omega⟩ (fun _ => no) (fun e => absurd (by omega) e)
    | succ u ih =>
      intro i nn my wh hi i0 hnn hwh
      have hn2 : 0 ≤ nn ∧ nn ≤ 61 := ⟨by omega, by omega⟩
      have hi2 : 0 ≤ i ∧ i ≤ 61 := ⟨i0, by omega⟩
      refine w238g hso1 hx hwh hn2 hi2 (fun e => absurd e (by omega)) (fun _ => can i ⟨i0, by omega⟩ (fun hc => ?_) (fun hc => ?_))
      · exact w238h hso1 hx hwh hn2 hi2 (by decide) (fun e => absurd e (by decide)) (fun e => absurd e (by decide)) (fun _ e => ih (i + 1) (nn + 1) my wh (by omega) (by omega) (by omega) hwh) (fun _ _ => hQ i (Or.inr ⟨⟨i0, by omega⟩, hc⟩))
      · exact w238h hso1 hx hwh hn2 hi2 (by decide) (fun _ _ => ih (i + 1) (nn + 0) my wh (by omega) (by omega) (by omega) hwh) (fun _ e => absurd e (by omega)) (fun e => absurd rfl e) (fun e => absurd rfl e)
  have l2 : ∀ (u : Nat) (i my : Int), i + (u : Int) = 61 → 0 ≤ i → (1 ≤ my ∧ my ≤ i + 1) → pmWp ro 2 12 238 1 42 [some (.ref 87), some (xV so), some (xV x), some (xV my), some (xV i), none, none] [] (xS a b) Q := by
    intro u
    induction u with
    | zero =>
      intro i my hi i0 hmy
      have hi2 : 0 ≤ i ∧ i ≤ 61 := ⟨i0, by omega⟩
      have h1 := Int.emod_nonneg x (show my ≠ 0 by omega)
      have h2 := Int.emod_lt_of_pos x (show 0 < my by omega)
      exact w238d hso1 hx hmy hi2 (fun _ => w238f hso1 hx hmy hi2 ⟨h1, by omega⟩ (fun e => l3 61 0 0 my _ (by decide) (by decide) (by omega) (by omega)) (fun _ => no)) (fun e => absurd (by omega) e)
    | succ u ih =>
      intro i my hi i0 hmy
      have hi2 : 0 ≤ i ∧ i ≤ 61 := ⟨i0, by omega⟩
      refine w238d hso1 hx hmy hi2 (fun e => absurd e (by omega)) (fun _ => can i ⟨i0, by omega⟩ (fun hc => ?_) (fun hc => ?_))
      · exact w238e hso1 hx hmy hi2 (by decide) (fun e => absurd e (by decide)) (fun _ => ih (i + 1) (my + 1) (by omega) (by omega) (by omega))
      · exact w238e hso1 hx hmy hi2 (by decide) (fun _ => ih (i + 1) (my + 0) (by omega) (by omega) (by omega)) (fun e => absurd rfl e)
  have go2 : ∀ v3 : Option Value, pmWp ro 2 12 238 1 37 [some (.ref 87), some (xV so), some (xV x), v3, none, none, none] [] (xS a b) Q := fun v3 => w238c hso1 hx (l2 61 0 1 (by decide) (by decide) (by decide))
  have l1 : ∀ (u : Nat) (k : Int), k + (u : Int) = 41 → 37 ≤ k → pmWp ro 2 12 238 1 9 [some (.ref 87), some (xV so), some (xV x), some (xV k), none, none, none] [] (xS a b) Q := by
    intro u
    induction u with
    | zero =>
      intro k hk k0
      exact w238a hso1 hx ⟨k0, by omega⟩ (fun _ => go2 _) (fun e => absurd (by omega) e) (fun e => absurd (by omega) e)
    | succ u ih =>
      intro k hk k0
      exact w238a hso1 hx ⟨k0, by omega⟩ (fun e => absurd e (by omega)) (fun _ _ => go2 _) (fun _ _ => can k ⟨by omega, by omega⟩ (fun hc => w238b hso1 hx ⟨k0, by omega⟩ (by decide) (fun e => absurd e (by decide)) (fun _ => hQ k (Or.inr ⟨⟨by omega, by omega⟩, hc⟩))) (fun hc => w238b hso1 hx ⟨k0, by omega⟩ (by decide) (fun _ => ih (k + 1) (by omega) (by omega)) (fun e => absurd rfl e)))
  exact l1 4 37 (by decide) (by decide)
/-- made -/
theorem u237 (q1 : xR so) (q2 : xR sd) (q3 : xR tn) (q4 : xR wh) (hK : uRk pr cnt W T) (hS : uSx dr wp pr cnt W T n a b) (hrow : uRow n 0 (a 88)) (hb : a 87 4 = bg) (hbg : bg = 0 ∨ bg = 1) (hd : 9 ≤ d) (hQ : ∀ a' b' z, uKq dr wp pr cnt W T n a a' b b' → (-1000 ≤ z ∧ z ≤ 1000) → Q (some (xV z)) (xS a' b')) : pmCs ro d 237 [.ref 87, xV so, xV sd, xV tn, xV wh] (xS a b) Q := by
  have no := hQ a b (-1) (uKq_r hS) (by decide)
  obtain ⟨R, eR⟩ : ∃ R, a 88 = R := ⟨_, rfl⟩
  refine pmCs_deep (d := 9) (xg237 (wa237 q1 q2 q3 q4 hb hbg (by decide) (fun _ => no) (fun _ hso hsd htn hwh => ?_) (fun _ _ _ _ _ => no) (fun _ _ _ _ => no) (fun _ _ _ => no) (fun _ _ => no))) hd
  refine u181 (by decide) (by decide) (wa237a hso hsd htn hwh ?_)
  have e1 : ∀ q j, ¬ q = 89 → q ≠ 88 → (uLa 1 a) q j = a q j := fun q j e _ => uLa_n e
  have e88 : (uLa 1 a) 88 = a 88 := funext fun j => uLa_n (by decide)
  have S1 : uSx dr wp pr cnt W T n (uLa 1 a) b := uSx_8 hS (xAr_la hS.1.1) e1
  have hev : 0 ≤ (uLa 1 a) 88 119 ∧ (uLa 1 a) 88 119 ≤ 1000 := by
    rw [e88]
    obtain ⟨r1, y1, y2, y3, y4, y5, y6⟩ := hrow
    omega
  obtain ⟨ev, eev⟩ : ∃ ev, (uLa 1 a) 88 119 = ev := ⟨_, rfl⟩
  rw [eev] at hev ⊢
  -- the end
  have fin : ∀ (t fb x : Int) (a2 : xA) (b2 : xB), (1 ≤ t ∧ t ≤ 21) → (-1 ≤ fb ∧ fb ≤ 20) → (0 ≤ x ∧ x ≤ 65535) → uPq a a2 b b2 → uSx dr wp pr cnt W T n a2 b2 → uRow n (t - 1) (a2 88) → (∀ j, j < 0 ∨ 120 ≤ j → a2 88 j = R j) → uShl 1 R a2 → (∀ j, j < 120 → a2 89 j = a 89 j) → pmWp ro 8 12 237 1 145 [some (.ref 87), some (xV so), some (xV sd), some (xV tn), some (xV wh), some (xV ev), some (xV fb), some (xV x), some (xV t), none] [] (xS a2 b2) Q := by
    intro t fb x a2 b2 ht hfb hx i1 i2 i3 i4 i5 i6
    have dead : ∀ (u : Nat) (q dn : Int), q + (u : Int) = 4 → 0 ≤ q → (0 ≤ dn ∧ dn ≤ q) → pmWp ro 8 12 237 1 151 [some (.ref 87), some (xV so), some (xV sd), some (xV tn), some (xV wh), some (xV ev), some (xV fb), some (xV x), some (xV dn), some (xV q)] [] (xS a2 b2) Q := by
      intro u
      induction u with
      | zero =>
        intro q dn hq q0 hdn
        refine wa237i hso hsd htn hwh i2.1.1 hev hdn ⟨q0, by omega⟩ (by decide) (fun _ => ?_) (fun e => absurd (by omega) e) (fun e => absurd (by omega) e)
        refine wa237j hso hsd htn hwh i2.1.1 hev hdn ⟨q0, by omega⟩ (by decide) (u227 (by decide) (by decide) ?_)
        have g : uKq dr wp pr cnt W T n a (uTa 1 a2) b b2 := ⟨uPq_t i1 (uPq_8 (fun q j _ e => uTa_n e)), uSx_8 i2 (xAr_ta i2.1.1) (fun q j _ e => uTa_n e), (uTa_row i5 i4).trans eR.symm, fun j hj => by
          rw [uTa_n (by decide)]
          exact i6 j hj⟩
        obtain ⟨r1, y1, y2, y3, y4, y5, y6⟩ := i3
        exact wa237k hso hsd htn hwh (fun _ _ => hQ _ b2 _ g (by omega)) (fun _ _ => hQ _ b2 _ g (by omega)) (fun _ => hQ _ b2 _ g (by omega))
      | succ u ih =>
        intro q dn hq q0 hdn
        exact wa237i hso hsd htn hwh i2.1.1 hev hdn ⟨q0, by omega⟩ (by decide) (fun e => absurd e (by omega)) (fun _ _ => ih (q + 1) (dn + 0) (by omega) (by omega) (by omega)) (fun _ _ => ih (q + 1) (dn + 1) (by omega) (by omega) (by omega))
    exact wa237h hso hsd htn hwh hev hfb hx ht (dead 4 0 0 (by decide) (by decide) (by decide))
  have loop : ∀ (u : Nat) (t fb x : Int) (a2 : xA) (b2 : xB), t + (u : Int) = tn + 1 → 1 ≤ t → (-1 ≤ fb ∧ fb ≤ 20) → (0 ≤ x ∧ x ≤ 65535) → uPq a a2 b b2 → uSx dr wp pr cnt W T n a2 b2 → uRow n (t - 1) (a2 88) → (∀ j, j < 0 ∨ 120 ≤ j → a2 88 j = R j) → uShl 1 R a2 → (∀ j, j < 120 → a2 89 j = a 89 j) → pmWp ro 8 12 237 1 83 [some (.ref 87), some (xV so), some (xV sd), some (xV tn), some (xV wh), some (xV ev), some (xV fb), some (xV x), some (xV t), none] [] (xS a2 b2) Q := by
    intro u
    induction u with
    | zero =>
      intro t fb x a2 b2 ht t1 hfb hx i1 i2 i3 i4 i5 i6
      exact wa237c hso hsd htn hwh hev hfb hx ⟨t1, by omega⟩ (fun _ => fin t fb x a2 b2 ⟨t1, by omega⟩ hfb hx i1 i2 i3 i4 i5 i6) (fun e => absurd (by omega) e)
    | succ u ih =>
      intro t fb x a2 b2 ht t1 hfb hx i1 i2 i3 i4 i5 i6
      have ht2 : 1 ≤ t ∧ t ≤ 21 := ⟨t1, by omega⟩
      have ht20 : 1 ≤ t ∧ t ≤ 20 := ⟨t1, by omega⟩
      have hx2 : 0 ≤ (25173 * x + 13849) % 65536 ∧ (25173 * x + 13849) % 65536 ≤ 65535 := by omega
      obtain ⟨x2, ex2⟩ : ∃ x2, (25173 * x + 13849) % 65536 = x2 := ⟨_, rfl⟩
      refine wa237c hso hsd htn hwh hev hfb hx ht2 (fun e => absurd e (by omega)) (fun _ => ?_)
      rw [ex2] at hx2 ⊢
      refine u238 i2.1 i3.1 hso hx2 (by decide) (fun k hk => wa237d hso hsd htn hwh hev hfb hx2 ht2 ?_)
      have hcp : k = -1 ∨ ((0 ≤ k ∧ k < 61) ∧ (¬ a2 88 0 = 7 → uCp n 0 k (a2 88))) := hk.elim Or.inl (fun h => Or.inr ⟨h.1, fun _ => uCa_p i3.1 h.1 h.2⟩)
      refine u208x (m := t - 1) hK i2 i3 (by omega) hcp (by decide) (by decide) (fun a3 b3 f3 S3 w3 o3 => ?_)
      have p3 : uPq a a3 b b3 := uPq_t i1 (uPq_m f3)
      have e89 : ∀ j, a3 89 j = a2 89 j := fun j => f3.1 89 j (by decide) (by decide) (by decide) (by decide) (by decide) (by decide) (by decide) (by decide) (by decide) (by decide) (by decide) (by decide) (by omega)
      rw [show t - 1 + 1 = t + 1 - 1 by omega] at w3
      have nxt : ∀ fb2 : Int, (-1 ≤ fb2 ∧ fb2 ≤ 20) → pmWp ro 8 12 237 1 139 [some (.ref 87), some (xV so), some (xV sd), some (xV tn), some (xV wh), some (xV ev), some (xV fb2), some (xV x2), some (xV t), none] [] (xS a3 b3) Q := fun fb2 h => wa237g hso hsd htn hwh hev h hx2 ht20 (ih (t + 1) fb2 x2 a3 b3 (by omega) (by omega) h hx2 p3 S3 w3 (fun j hj => by rw [o3 j hj]; exact i4 j hj) (fun j j0 j1 => by rw [e89]; exact i5 j j0 j1) (fun j hj => by rw [e89]; exact i6 j hj))
      exact wa237e hso hsd htn hwh hev hfb hx2 ht20 (fun _ => nxt fb hfb) (fun _ => u224 S3.1.1 S3.2.2.1 S3.2.2.2 (by decide) (fun z hz => wa237f hso hsd htn hwh hev hfb hx2 ht20 hz (fun _ => nxt fb hfb) (fun _ => nxt t ⟨by omega, by omega⟩)))
  have start : ∀ fb : Int, (-1 ≤ fb ∧ fb ≤ 20) → pmWp ro 8 12 237 1 83 [some (.ref 87), some (xV so), some (xV sd), some (xV tn), some (xV wh), some (xV ev), some (xV fb), some (xV sd), some (xV 1), none] [] (xS (uLa 1 a) b) Q := fun fb hfb => loop tn.toNat 1 fb sd (uLa 1 a) b (by omega) (by decide) hfb hsd (uPq_8 e1) S1 (by rw [e88]; exact hrow) (fun j _ => by rw [e88, eR]) (by rw [← eR]; exact uLa_s) (fun j hj => uLa_lo (by omega))
  refine u224 S1.1.1 S1.2.2.1 S1.2.2.2 (by decide) (fun z hz => wa237b hso hsd htn hwh hz (fun _ => start (-1) (by decide)) (fun _ => start 0 (by decide)))
end
end
end
section
/-! replays, by rows -/
section
set_option maxRecDepth 100000


section
variable {dr wp co pr cnt W : Int → Int} {T : Int → List Int} {n m t wh k x c cd wt wi p : Int} {r r' R : Int → Int} {D C AC : Int → Int}
/-- the deed of a turn is one that can be done -/
theorem uTr_k (hn0 : 0 ≤ n ∧ n ≤ 5) (hr : uRv n r) (hcd : cd = -1 ∨ ((0 ≤ cd ∧ cd < 61) ∧ (¬ r 0 = 7 → uCp n 0 cd r))) (q : Nat) (hq : q < 4) (c1 : ¬ uTr dr wp pr cnt W T n cd wt r q q = 7) (c2 : ¬ uDc dr wp pr cnt W T n cd wt q (uTr dr wp pr cnt W T n cd wt r q) = -1) : (0 ≤ uDc dr wp pr cnt W T n cd wt q (uTr dr wp pr cnt W T n cd wt r q) ∧ uDc dr wp pr cnt W T n cd wt q (uTr dr wp pr cnt W T n cd wt r q) < 61) ∧ uCp n q (uDc dr wp pr cnt W T n cd wt q (uTr dr wp pr cnt W T n cd wt r q)) (uTr dr wp pr cnt W T n cd wt r q) := by
  have hv := (uTr_v (dr := dr) (wp := wp) (pr := pr) (cnt := cnt) (W := W) (T := T) (wt := wt) hn0 hr hcd q (by omega)).1
  obtain ⟨rq, erq⟩ : ∃ z, uTr dr wp pr cnt W T n cd wt r q = z := ⟨_, rfl⟩
  rw [erq] at hv c1 c2 ⊢
  unfold uDc at c2 ⊢
  by_cases q0 : q = 0
  · subst q0
    have er : r = rq := erq
    subst er
    rw [if_pos (show ((0 : Nat) : Int) = 0 from rfl)] at c2 ⊢
    exact hcd.elim (fun h => absurd h c2) (fun h => ⟨h.1, h.2 c1⟩)
  · rw [if_neg (by omega)] at c2 ⊢
    by_cases cw : (q : Int) = wt
    · rw [if_pos cw] at c2
      exact absurd rfl c2
    · rw [if_neg cw] at c2 ⊢
      exact uWd_c hv ⟨by omega, by omega⟩ c1 c2
theorem uRq_r : uRq r r := fun _ _ => rfl
theorem uTr_q (hn0 : 0 ≤ n ∧ n ≤ 5) (hr : uRv n r) (hcd : cd = -1 ∨ ((0 ≤ cd ∧ cd < 61) ∧ (¬ r 0 = 7 → uCp n 0 cd r))) (e : uRq r r') : ∀ q : Nat, q ≤ 4 → uRq (uTr dr wp pr cnt W T n cd wt r q) (uTr dr wp pr cnt W T n cd wt r' q) := by
  intro q
  induction q with
  | zero => exact fun _ => e
  | succ q ih =>
    intro hq
    have ih := ih (by omega)
    have hv := (uTr_v (dr := dr) (wp := wp) (pr := pr) (cnt := cnt) (W := W) (T := T) (wt := wt) hn0 hr hcd q (by omega)).1
    have hk := uTr_k (dr := dr) (wp := wp) (pr := pr) (cnt := cnt) (W := W) (T := T) (wt := wt) hn0 hr hcd q (by omega)
    show uRq (uS1 dr wp pr cnt W T n cd wt q (uTr dr wp pr cnt W T n cd wt r q)) (uS1 dr wp pr cnt W T n cd wt q (uTr dr wp pr cnt W T n cd wt r' q))
    obtain ⟨rq, erq⟩ : ∃ z, uTr dr wp pr cnt W T n cd wt r q = z := ⟨_, rfl⟩
    obtain ⟨rq', erq'⟩ : ∃ z, uTr dr wp pr cnt W T n cd wt r' q = z := ⟨_, rfl⟩
    rw [erq] at ih hv hk ⊢
    rw [erq'] at ih ⊢
    have e1 : rq' q = rq q := ih q (by omega)
    have e2 : uDc dr wp pr cnt W T n cd wt q rq' = uDc dr wp pr cnt W T n cd wt q rq := uDc_q hn0.2 ih ⟨by omega, by omega⟩
    by_cases c : rq q = 7 ∨ uDc dr wp pr cnt W T n cd wt q rq = -1
    · rw [uS1_n c, uS1_n (by rw [e1, e2]; exact c)]
      exact ih
    · have c1 : ¬ rq q = 7 := fun h => c (Or.inl h)
      have c2 : ¬ uDc dr wp pr cnt W T n cd wt q rq = -1 := fun h => c (Or.inr h)
      rw [uS1_y c1 c2, uS1_y (by rw [e1]; exact c1) (by rw [e2]; exact c2), e2]
      obtain ⟨k1, k2⟩ := hk c1 c2
      exact uDe_q hn0.2 ih hv ⟨by omega, by omega⟩ k1 (uCp_d k2)
theorem uTu_q (hn0 : 0 ≤ n ∧ n ≤ 5) (hr : uRv n r) (hcd : cd = -1 ∨ ((0 ≤ cd ∧ cd < 61) ∧ (¬ r 0 = 7 → uCp n 0 cd r))) (e : uRq r r') : uRq (uTu dr wp pr cnt W T n cd wt r) (uTu dr wp pr cnt W T n cd wt r') := fun j hj => by
  have h := uTr_q (dr := dr) (wp := wp) (pr := pr) (cnt := cnt) (W := W) (T := T) (wt := wt) hn0 hr hcd e 4 (by decide)
  unfold uTu
  by_cases c1 : j = 114
  · rw [if_pos c1, if_pos c1, e 114 (by omega)]
  rw [if_neg c1, if_neg c1]
  by_cases c2 : j = 115
  · rw [if_pos c2, if_pos c2]
  rw [if_neg c2, if_neg c2]
  exact h j hj
theorem uPr_q (e : uRq r r') : uPr c r' = uPr c r := by
  unfold uPr
  rw [e 116 (by omega), e 117 (by omega)]
theorem uAo_q (e : uRq r r') (hr : uRv n r) (hc : 1 ≤ c ∧ c ≤ 56) : uAo dr n c r' ↔ uAo dr n c r := by
  by_cases cs : c < 36
  · rw [uAo_s cs, uAo_s cs, e _ (by omega), e _ (by omega)]
    refine and_congr_right (fun _ => ⟨fun h p p0 p1 => ?_, fun h p p0 p1 => ?_⟩)
    · rw [← e p (by omega)]
      exact h p p0 p1
    · rw [e p (by omega)]
      exact h p p0 p1
  · rw [uAo_h cs, uAo_h cs, e _ (by omega), e 0 (by omega)]
theorem uAc_q (e : uRq r r') (hr : uRv n r) (hc : 0 ≤ c ∧ c ≤ 56) : uAc dr n c r' ↔ uAc dr n c r := by
  unfold uAc
  by_cases c0 : c = 0
  · exact ⟨fun _ => Or.inl c0, fun _ => Or.inl c0⟩
  rw [e 114 (by omega), e 115 (by omega), uAo_q e hr ⟨by omega, hc.2⟩]
theorem uAa_q (e : uRq r r') (hc : 1 ≤ c ∧ c ≤ 56) : uRq (uAa c r) (uAa c r') := fun j hj => by
  unfold uAa
  rw [e 118 (by omega), uPr_q e, e 116 (by omega), e 117 (by omega), e j hj]
theorem uAx_q (hn0 : 0 ≤ n ∧ n ≤ 5) (e : uRq r r') (hr : uRv n r) (hc : 0 ≤ c ∧ c ≤ 56) : uRq (uAx n c r) (uAx n c r') := by
  unfold uAx
  by_cases c0 : c = 0
  · rw [if_pos c0, if_pos c0]
    exact e
  · rw [if_neg c0, if_neg c0]
    exact uAl_c hn0.2 (uAa_q e ⟨by omega, hc.2⟩) (uRv_x hn0 hr ⟨by omega, hc.2⟩)
theorem uWs_q (e : uRq r r') : uQ (uWs n r') (uWs n r) := fun j _ j1 => uWs_c (e j (by omega))
/-- a deed done again where it can be done -/
noncomputable def uKdo (dr wp : Int → Int) (n : Int) (r : Int → Int) (cd : Int) : Int := by
  classical
  exact if uCa dr wp n 0 (uWs n r) cd then cd else -1
theorem uKdo_y (h : uCa dr wp n 0 (uWs n r) cd) : uKdo dr wp n r cd = cd := by
  unfold uKdo
  rw [if_pos h]
theorem uKdo_n (h : ¬ uCa dr wp n 0 (uWs n r) cd) : uKdo dr wp n r cd = -1 := by
  unfold uKdo
  rw [if_neg h]
theorem uKdo_p (hr : uRv n r) (hcd : -1 ≤ cd ∧ cd < 61) : uKdo dr wp n r cd = -1 ∨ ((0 ≤ uKdo dr wp n r cd ∧ uKdo dr wp n r cd < 61) ∧ (¬ r 0 = 7 → uCp n 0 (uKdo dr wp n r cd) r)) := by
  by_cases h : uCa dr wp n 0 (uWs n r) cd
  · rw [uKdo_y h]
    by_cases c : cd = -1
    · exact Or.inl c
    · exact Or.inr ⟨⟨by omega, hcd.2⟩, fun _ => uCa_p hr ⟨by omega, hcd.2⟩ h⟩
  · exact Or.inl (uKdo_n h)
/-- an act done again where it can be done -/
noncomputable def uAy (dr : Int → Int) (n c : Int) (r : Int → Int) : Int → Int := by
  classical
  exact if uAc dr n c r then uAx n c r else r
theorem uAy_y (h : uAc dr n c r) : uAy dr n c r = uAx n c r := by
  unfold uAy
  rw [if_pos h]
theorem uAy_n (h : ¬ uAc dr n c r) : uAy dr n c r = r := by
  unfold uAy
  rw [if_neg h]
/-- numbers of a row after so many turns -/
def uBqr (t : Int) (r : Int → Int) : Prop := (0 ≤ r 114 ∧ r 114 ≤ t) ∧ (0 ≤ r 115 ∧ r 115 ≤ 1) ∧ (0 ≤ r 116 ∧ r 116 ≤ t) ∧ (0 ≤ r 117 ∧ r 117 ≤ t) ∧ (0 ≤ r 118 ∧ r 118 ≤ 400 * t) ∧ 0 ≤ r 119 ∧ r 119 ≤ 5 * t
theorem uBqr_b (ht : 0 ≤ t ∧ t ≤ 61) (h : uBqr t r) : uBd r := by
  obtain ⟨h1, h2, h3, h4, h5, h6⟩ := h
  exact ⟨by omega, h2, by omega, by omega, by omega, by omega⟩
/-- the code of the stranger's deed in a replay; the row behind so many turns of it -/
noncomputable def uRco (dr wp : Int → Int) (n : Int) (C : Int → Int) (wi t : Int) (r : Int → Int) : Int := uKdo dr wp n r (if t = wi then -1 else C (4 * t))
noncomputable def uRpl (dr wp pr cnt W : Int → Int) (T : Int → List Int) (n : Int) (C AC : Int → Int) (wi wt : Int) (R : Int → Int) : Nat → Int → Int
  | 0 => R
  | t + 1 => uAy dr n (AC ((t + 1 : Nat) : Int)) (uTu dr wp pr cnt W T n (uRco dr wp n C wi ((t + 1 : Nat) : Int) (uRpl dr wp pr cnt W T n C AC wi wt R t)) wt (uRpl dr wp pr cnt W T n C AC wi wt R t))
theorem uTu_v (hn0 : 0 ≤ n ∧ n ≤ 5) (hr : uRv n r) (hcd : cd = -1 ∨ ((0 ≤ cd ∧ cd < 61) ∧ (¬ r 0 = 7 → uCp n 0 cd r))) : uRv n (uTu dr wp pr cnt W T n cd wt r) := by
  have v := (uTr_v (dr := dr) (wp := wp) (pr := pr) (cnt := cnt) (W := W) (T := T) (wt := wt) hn0 hr hcd 4 (by decide)).1
  refine uRv_lo hn0.2 v (fun j hj => ?_)
  unfold uTu
  rw [if_neg (by omega), if_neg (by omega)]
theorem uTr_9 (hn0 : 0 ≤ n ∧ n ≤ 5) (hr : uRv n r) (hcd : cd = -1 ∨ ((0 ≤ cd ∧ cd < 61) ∧ (¬ r 0 = 7 → uCp n 0 cd r))) : ∀ q : Nat, q ≤ 4 → r 119 ≤ uTr dr wp pr cnt W T n cd wt r q 119 ∧ uTr dr wp pr cnt W T n cd wt r q 119 ≤ r 119 + (q : Int) := by
  intro q
  induction q with
  | zero => exact fun _ => ⟨Int.le_refl _, by show r 119 ≤ r 119 + ((0 : Nat) : Int); omega⟩
  | succ q ih =>
    intro hq
    have ih := ih (by omega)
    have hv := (uTr_v (dr := dr) (wp := wp) (pr := pr) (cnt := cnt) (W := W) (T := T) (wt := wt) hn0 hr hcd q (by omega)).1
    have hk := uTr_k (dr := dr) (wp := wp) (pr := pr) (cnt := cnt) (W := W) (T := T) (wt := wt) hn0 hr hcd q (by omega)
    show r 119 ≤ uS1 dr wp pr cnt W T n cd wt q (uTr dr wp pr cnt W T n cd wt r q) 119 ∧ uS1 dr wp pr cnt W T n cd wt q (uTr dr wp pr cnt W T n cd wt r q) 119 ≤ r 119 + ((q + 1 : Nat) : Int)
    obtain ⟨rq, erq⟩ : ∃ z, uTr dr wp pr cnt W T n cd wt r q = z := ⟨_, rfl⟩
    rw [erq] at ih hv hk ⊢
    by_cases c : rq q = 7 ∨ uDc dr wp pr cnt W T n cd wt q rq = -1
    · rw [uS1_n c]
      omega
    · have c1 : ¬ rq q = 7 := fun h => c (Or.inl h)
      have c2 : ¬ uDc dr wp pr cnt W T n cd wt q rq = -1 := fun h => c (Or.inr h)
      rw [uS1_y c1 c2]
      obtain ⟨k1, k2⟩ := hk c1 c2
      have := (uDe_v hn0.2 hv ⟨by omega, by omega⟩ k1 (uCp_d k2)).2.2
      omega
/-- rows of a replay may be -/
theorem uRpl_s (hn0 : 0 ≤ n ∧ n ≤ 5) (ht : 0 ≤ t ∧ t ≤ 60) (hr : uRv n r) (hb : uBqr t r) (hcd : cd = -1 ∨ ((0 ≤ cd ∧ cd < 61) ∧ (¬ r 0 = 7 → uCp n 0 cd r))) (hc : 0 ≤ c ∧ c ≤ 56) : (uRv n (uTu dr wp pr cnt W T n cd wt r) ∧ uBqr (t + 1) (uTu dr wp pr cnt W T n cd wt r)) ∧ uRv n (uAy dr n c (uTu dr wp pr cnt W T n cd wt r)) ∧ uBqr (t + 1) (uAy dr n c (uTu dr wp pr cnt W T n cd wt r)) := by
  have v := uTu_v (dr := dr) (wp := wp) (pr := pr) (cnt := cnt) (W := W) (T := T) (wt := wt) hn0 hr hcd
  have hi := (uTr_v (dr := dr) (wp := wp) (pr := pr) (cnt := cnt) (W := W) (T := T) (wt := wt) hn0 hr hcd 4 (by decide)).2
  have h9 := uTr_9 (dr := dr) (wp := wp) (pr := pr) (cnt := cnt) (W := W) (T := T) (wt := wt) hn0 hr hcd 4 (by decide)
  obtain ⟨b1, b2, b3, b4, b5, b6⟩ := hb
  have tu : ∀ j, ¬ j = 114 → ¬ j = 115 → uTu dr wp pr cnt W T n cd wt r j = uTr dr wp pr cnt W T n cd wt r 4 j := fun j h1 h2 => by
    unfold uTu
    rw [if_neg h1, if_neg h2]
  have e116 : uTu dr wp pr cnt W T n cd wt r 116 = r 116 := (tu 116 (by decide) (by decide)).trans (hi 116 (by decide) (by decide))
  have e117 : uTu dr wp pr cnt W T n cd wt r 117 = r 117 := (tu 117 (by decide) (by decide)).trans (hi 117 (by decide) (by decide))
  have e118 : uTu dr wp pr cnt W T n cd wt r 118 = r 118 := (tu 118 (by decide) (by decide)).trans (hi 118 (by decide) (by decide))
  have e119 : uTu dr wp pr cnt W T n cd wt r 119 = uTr dr wp pr cnt W T n cd wt r 4 119 := tu 119 (by decide) (by decide)
  have e114 : uTu dr wp pr cnt W T n cd wt r 114 = r 114 + 1 := rfl
  have e115 : uTu dr wp pr cnt W T n cd wt r 115 = 0 := rfl
  have h94 : ((4 : Nat) : Int) = 4 := rfl
  have B1 : uBqr (t + 1) (uTu dr wp pr cnt W T n cd wt r) := ⟨by omega, by omega, by omega, by omega, by omega, by omega⟩
  refine ⟨⟨v, B1⟩, ?_⟩
  by_cases h : uAc dr n c (uTu dr wp pr cnt W T n cd wt r)
  · rw [uAy_y h]
    unfold uAx
    by_cases c0 : c = 0
    · rw [if_pos c0]
      exact ⟨v, B1⟩
    rw [if_neg c0]
    have hc1 : 1 ≤ c ∧ c ≤ 56 := ⟨by omega, hc.2⟩
    have vx := uRv_x hn0 v hc1
    have hx : ∀ j, 41 ≤ j → uAl n (uAa c (uTu dr wp pr cnt W T n cd wt r)) j = _ := fun j hj => (uAl_hi hn0.2 vx hj).trans (uAa_hi hc1 hj)
    have hp : 0 ≤ uPr c (uTu dr wp pr cnt W T n cd wt r) ∧ uPr c (uTu dr wp pr cnt W T n cd wt r) ≤ 300 := by
      unfold uPr
      rw [e116, e117]
      split
      · omega
      · split <;> omega
    refine ⟨uRv_l hn0.2 vx, ?_, ?_, ?_, ?_, ?_, ?_⟩
    · rw [hx 114 (by decide), if_neg (by decide), if_neg (by decide), if_neg (by omega), if_neg (by omega), e114]
      omega
    · rw [hx 115 (by decide), if_neg (by decide), if_pos rfl]
      decide
    · rw [hx 116 (by decide), if_neg (by decide), if_neg (by decide), e116]
      split
      · omega
      · rw [if_neg (by omega)]
        omega
    · rw [hx 117 (by decide), if_neg (by decide), if_neg (by decide), if_neg (by omega), e117]
      split <;> omega
    · rw [hx 118 (by decide), if_pos rfl, e118]
      omega
    · rw [hx 119 (by decide), if_neg (by decide), if_neg (by decide), if_neg (by omega), if_neg (by omega), e119]
      omega
  · rw [uAy_n h]
    exact ⟨v, B1⟩
theorem uRpl_v (hn0 : 0 ≤ n ∧ n ≤ 5) (hr : uRv n R) (hb : uBqr 0 R) (hC : ∀ t, 1 ≤ t → t ≤ 60 → -1 ≤ C (4 * t) ∧ C (4 * t) < 61) (hA : ∀ t, 1 ≤ t → t ≤ 60 → 0 ≤ AC t ∧ AC t ≤ 56) : ∀ t : Nat, t ≤ 60 → uRv n (uRpl dr wp pr cnt W T n C AC wi wt R t) ∧ uBqr t (uRpl dr wp pr cnt W T n C AC wi wt R t) := by
  intro t
  induction t with
  | zero => exact fun _ => ⟨hr, hb⟩
  | succ t ih =>
    intro ht
    obtain ⟨g1, g2⟩ := ih (by omega)
    have hcd : -1 ≤ (if ((t + 1 : Nat) : Int) = wi then -1 else C (4 * ((t + 1 : Nat) : Int))) ∧ (if ((t + 1 : Nat) : Int) = wi then -1 else C (4 * ((t + 1 : Nat) : Int))) < 61 := by
      split
      · decide
      · exact hC _ (by omega) (by omega)
    have h := uRpl_s (dr := dr) (wp := wp) (pr := pr) (cnt := cnt) (W := W) (T := T) (wt := wt) (c := AC ((t + 1 : Nat) : Int)) hn0 (by omega) g1 g2 (uKdo_p (dr := dr) (wp := wp) g1 hcd) (hA _ (by omega) (by omega))
    exact h.2
end
end
end
