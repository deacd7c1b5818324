section
/-! replays of the class, by rows -/
section
set_option maxRecDepth 100000


section
variable {Ln : Nat} {xs : Nat → Int32} {ro : Nat → Nat × (Nat → Int32)} {d w : Nat} {Q : Option Value → pmS → Prop} {dr wp co pr cnt W : Int → Int} {T : Int → List Int} {n m t wh k x c cd wt wi p id M L sw ws dn z : Int} {r r' R : Int → Int} {D C AC : Int → Int} {O O' : Int → Prop} {a a' a'' a0 : xA} {b b' b'' : xB}
theorem uD_inj {u v : Int} (hu : -1 ≤ u ∧ u < 61) (hv : -1 ≤ v ∧ v < 61) (h : uD u = uD v) : u = v := by
  have key : ∀ x y : Fin 62, uD ((x.val : Int) - 1) = uD ((y.val : Int) - 1) → x = y := by decide +kernel
  have hx : (((⟨(u + 1).toNat, by omega⟩ : Fin 62).val : Nat) : Int) - 1 = u := by show (((u + 1).toNat : Nat) : Int) - 1 = u; omega
  have hy : (((⟨(v + 1).toNat, by omega⟩ : Fin 62).val : Nat) : Int) - 1 = v := by show (((v + 1).toNat : Nat) : Int) - 1 = v; omega
  have := key ⟨(u + 1).toNat, by omega⟩ ⟨(v + 1).toNat, by omega⟩ (by rw [hx, hy]; exact h)
  rw [← hx, ← hy, this]
/-- a recorded entry -/
def uEr (e dn cd : Int) : Prop := (dn = 0 ∧ e = -1 ∧ cd = -1) ∨ (dn = 1 ∧ (-1 ≤ cd ∧ cd < 61) ∧ (0 ≤ e ∧ e ≤ 50000) ∧ e % 512 = uD cd)
theorem uEr_e (hd : dn = 0 ∨ dn = 1) (hc : -1 ≤ cd ∧ cd < 61) (h0 : dn = 0 → cd = -1) (hs : ¬ cd = -1 → 0 ≤ sw ∧ sw ≤ 15) (hw : -1 ≤ ws ∧ ws ≤ 2) : uEr (uEe dn cd sw ws) dn cd := by
  unfold uEe
  rcases hd with h | h
  · rw [if_pos h]
    exact Or.inl ⟨h, rfl, h0 h⟩
  · rw [if_neg (by omega)]
    by_cases c : cd = -1
    · rw [if_pos c]
      exact Or.inr ⟨h, hc, by decide, by rw [c]; rfl⟩
    · rw [if_neg c]
      have h1 := hs c
      have h2 := uD_b cd hc.2
      exact Or.inr ⟨h, hc, by omega, by omega⟩
/-- what a person did now -/
noncomputable def uDn (p : Int) (r : Int → Int) : Int := if r p = 7 then 0 else 1
noncomputable def uCn2 (dr wp pr cnt W : Int → Int) (T : Int → List Int) (n cd wt p : Int) (r : Int → Int) : Int := if r p = 7 then -1 else uDc dr wp pr cnt W T n cd wt p r
theorem uEt_r (hcd : -1 ≤ uDc dr wp pr cnt W T n cd wt p r ∧ uDc dr wp pr cnt W T n cd wt p r < 61) (hk : ¬ p = 0 → -1 ≤ uWk dr wp pr cnt W T n r p ∧ uWk dr wp pr cnt W T n r p ≤ 2) : uEr (uEt dr wp pr cnt W T n cd wt p r) (uDn p r) (uCn2 dr wp pr cnt W T n cd wt p r) := by
  unfold uDn uCn2
  by_cases h : r p = 7
  · rw [uEt_d h, if_pos h, if_pos h]
    exact Or.inl ⟨rfl, rfl, rfl⟩
  · rw [if_neg h, if_neg h]
    by_cases c : uDc dr wp pr cnt W T n cd wt p r = -1
    · rw [uEt_w h c, c]
      exact Or.inr ⟨rfl, by decide, by decide, rfl⟩
    · rw [uEt_y h c]
      have h2 := uD_b _ hcd.2
      have h3 := uSg_b (p := p) (k := uDc dr wp pr cnt W T n cd wt p r) (r := r) 4
      have h16 : ((2 ^ 4 : Nat) : Int) = 16 := rfl
      by_cases p0 : p = 0
      · rw [if_pos p0]
        exact Or.inr ⟨rfl, hcd, by omega, by omega⟩
      · have h4 := hk p0
        rw [if_neg p0]
        exact Or.inr ⟨rfl, hcd, by omega, by omega⟩
theorem uEr_i {e f dn' cd' : Int} (h : uEr e dn cd) (h' : uEr f dn' cd') : e % 512 = f % 512 ↔ dn = dn' ∧ cd = cd' := by
  rcases h with ⟨h1, h2, h3⟩ | ⟨h1, h2, h3, h4⟩ <;> rcases h' with ⟨g1, g2, g3⟩ | ⟨g1, g2, g3, g4⟩
  · constructor <;> intro <;> omega
  · have := uD_b cd' g2.2
    constructor <;> intro <;> omega
  · have := uD_b cd h2.2
    constructor <;> intro <;> omega
  · rw [h4, g4]
    exact ⟨fun e => ⟨by omega, uD_inj h2 g2 e⟩, fun e => by rw [e.2]⟩
/-- how many of those counted did otherwise -/
noncomputable def uOq (M : Int) (O : Int → Prop) : Nat → Int
  | 0 => 0
  | q + 1 => uOq M O q + (by classical exact if ¬ M / ((2 ^ q : Nat) : Int) % 2 = 0 ∧ O (q : Int) then 1 else 0)
theorem uOq_y {q : Nat} (h : ¬ M / ((2 ^ q : Nat) : Int) % 2 = 0 ∧ O (q : Int)) : uOq M O (q + 1) = uOq M O q + 1 := by
  show uOq M O q + _ = _
  rw [if_pos h]
theorem uOq_n {q : Nat} (h : ¬ (¬ M / ((2 ^ q : Nat) : Int) % 2 = 0 ∧ O (q : Int))) : uOq M O (q + 1) = uOq M O q := by
  show uOq M O q + _ = _
  rw [if_neg h, Int.add_zero]
theorem uOq_b : ∀ q : Nat, 0 ≤ uOq M O q ∧ uOq M O q ≤ (q : Int)
  | 0 => ⟨Int.le_refl _, Int.le_refl _⟩
  | q + 1 => by
    have ih := uOq_b q
    by_cases h : ¬ M / ((2 ^ q : Nat) : Int) % 2 = 0 ∧ O (q : Int)
    · rw [uOq_y h]
      omega
    · rw [uOq_n h]
      omega
/-- whether a person does otherwise in turn t of a replay, the row ahead of that turn being r -/
def uOth (dr wp pr cnt W : Int → Int) (T : Int → List Int) (n : Int) (D C : Int → Int) (wi wt t : Int) (r : Int → Int) (p : Int) : Prop := ¬ (D (4 * t + p) = uDn p (uTr dr wp pr cnt W T n (uRco dr wp n C wi t r) wt r p.toNat) ∧ C (4 * t + p) = uCn2 dr wp pr cnt W T n (uRco dr wp n C wi t r) wt p (uTr dr wp pr cnt W T n (uRco dr wp n C wi t r) wt r p.toNat))
noncomputable def uOnn (dr wp pr cnt W : Int → Int) (T : Int → List Int) (n : Int) (D C AC : Int → Int) (wi wt M : Int) (R : Int → Int) : Nat → Int
  | 0 => 0
  | t + 1 => uOnn dr wp pr cnt W T n D C AC wi wt M R t + uOq M (uOth dr wp pr cnt W T n D C wi wt ((t + 1 : Nat) : Int) (uRpl dr wp pr cnt W T n C AC wi wt R t)) 4
theorem uOnn_b : ∀ t : Nat, 0 ≤ uOnn dr wp pr cnt W T n D C AC wi wt M R t ∧ uOnn dr wp pr cnt W T n D C AC wi wt M R t ≤ 4 * (t : Int)
  | 0 => ⟨Int.le_refl _, Int.le_refl _⟩
  | t + 1 => by
    have ih := uOnn_b t
    have h := uOq_b (M := M) (O := uOth dr wp pr cnt W T n D C wi wt ((t + 1 : Nat) : Int) (uRpl dr wp pr cnt W T n C AC wi wt R t)) 4
    show 0 ≤ uOnn dr wp pr cnt W T n D C AC wi wt M R t + _ ∧ uOnn dr wp pr cnt W T n D C AC wi wt M R t + _ ≤ 4 * ((t + 1 : Nat) : Int)
    omega
/-- what is recorded -/
def uRec (L : Int) (D C AC : Int → Int) (a : xA) : Prop := a 79 6 = L ∧ (∀ t p, 1 ≤ t → t ≤ L → 0 ≤ p → p < 4 → uEr (a 85 (t * 4 + p)) (D (4 * t + p)) (C (4 * t + p))) ∧ ∀ t, 1 ≤ t → t ≤ L → (0 ≤ AC t ∧ AC t ≤ 56) ∧ a 86 t = uAn (AC t)
theorem uRec_o (h : uRec L D C AC a) (e : ∀ q j, 79 ≤ q → q ≤ 86 → a' q j = a q j) : uRec L D C AC a' := ⟨(e 79 6 (by decide) (by decide)).trans h.1, fun t p t1 t2 p0 p1 => by rw [e 85 _ (by decide) (by decide)]; exact h.2.1 t p t1 t2 p0 p1, fun t t1 t2 => by rw [e 86 _ (by decide) (by decide)]; exact h.2.2 t t1 t2⟩
theorem uWo80 : uWo 80 := ⟨⟨xz80, xz81, xz82, xz83, xz84⟩, by decide, by decide⟩
theorem uDc_b (hK : uRk pr cnt W T) (hr : uRv n r) (hcd : -1 ≤ cd ∧ cd < 61) (hp : 0 ≤ p ∧ p ≤ 3) (hal : ¬ r p = 7) : (-1 ≤ uDc dr wp pr cnt W T n cd wt p r ∧ uDc dr wp pr cnt W T n cd wt p r < 61) := by
  unfold uDc
  by_cases p0 : p = 0
  · rw [if_pos p0]
    exact hcd
  rw [if_neg p0]
  by_cases pw : p = wt
  · rw [if_pos pw]
    decide
  rw [if_neg pw]
  by_cases h : uWd dr wp pr cnt W T n r p = -1
  · omega
  · have := (uWd_c hr ⟨by omega, hp.2⟩ hal h).1
    omega
theorem uWk_b (hK : uRk pr cnt W T) (hp : 1 ≤ p ∧ p ≤ 3) : -1 ≤ uWk dr wp pr cnt W T n r p ∧ uWk dr wp pr cnt W T n r p ≤ 2 := by
  have hc := hK.1 p hp.1 hp.2
  by_cases h : ∃ k, uChs (cnt p) (fun i => W (p * 3 + i)) (fun i => uFd dr wp pr (T (p * 3 + i)) p (uMn n r p)) k
  · obtain ⟨k, hk⟩ := h
    rw [uWk_e hk]
    rcases hk with g | g
    · omega
    · omega
  · unfold uWk
    rw [dif_neg h]
    decide
/-- replay of the class -/
theorem u117 (hK : uRk pr cnt W T) (hn0 : 0 ≤ n ∧ n ≤ 5) (hwo : uWo w) (hw80 : w ≤ 26) (hC : uCb dr wp co pr cnt W T n a0 a b) (hX : uCx n 80 R a b) (hB : uBqr 0 R) (hR : uRec L D C AC a) (hL : 0 ≤ L ∧ L ≤ 60) (qwi : xR wi) (hid : 0 ≤ id ∧ id ≤ 3) (hiw : ∀ p, 1 ≤ p → p ≤ 3 → (p = id ↔ p = wt)) (hM : 0 ≤ M ∧ M ≤ 15) (hd : 12 ≤ d) (hQ : ∀ a' b', uTgw w a a' b b' → uCb dr wp co pr cnt W T n a0 a' b' → Q (some (xV (uOnn dr wp pr cnt W T n D C AC wi wt M R L.toNat))) (xS a' b')) : pmCs (pmRo Ln xs) d 117 [.ref 79, .ref w, xV wi, xV id, xV M] (xS a b) Q := by
  have hz := hwo.1
  have hw := hwo.2
  have hCc : ∀ t, 1 ≤ t → t ≤ L → -1 ≤ C (4 * t) ∧ C (4 * t) < 61 := fun t t1 t2 => by
    have h := hR.2.1 t 0 t1 t2 (by decide) (by decide)
    rw [show 4 * t + 0 = 4 * t by omega] at h
    rcases h with h | h
    · omega
    · exact h.2.1
  -- rows of the replay
  have rows : ∀ t : Nat, (t : Int) ≤ L → uRv n (uRpl dr wp pr cnt W T n C AC wi wt R t) ∧ uBqr t (uRpl dr wp pr cnt W T n C AC wi wt R t) := by
    intro t
    induction t with
    | zero => exact fun _ => ⟨hX.1.1, hB⟩
    | succ t ih =>
      intro ht
      obtain ⟨g1, g2⟩ := ih (by omega)
      have hcd : -1 ≤ (if ((t + 1 : Nat) : Int) = wi then -1 else C (4 * ((t + 1 : Nat) : Int))) ∧ (if ((t + 1 : Nat) : Int) = wi then -1 else C (4 * ((t + 1 : Nat) : Int))) < 61 := by
        split
        · decide
        · exact hCc _ (by omega) ht
      have h := uRpl_s (dr := dr) (wp := wp) (pr := pr) (cnt := cnt) (W := W) (T := T) (wt := wt) (c := AC ((t + 1 : Nat) : Int)) hn0 (by omega) g1 g2 (uKdo_p (dr := dr) (wp := wp) g1 hcd) (hR.2.2 _ (by omega) ht).1
      exact h.2
  have loop : ∀ (u t : Nat) (a2 : xA) (b2 : xB) (v7 v8 v9 v10 : Option Value), (t : Int) + (u : Int) = L → uTgw w a a2 b b2 → uCb dr wp co pr cnt W T n a0 a2 b2 → uCx n w (uRpl dr wp pr cnt W T n C AC wi wt R t) a2 b2 → pmWp (pmRo Ln xs) 11 0 117 1 14 [some (.ref 79), some (.ref w), some (xV wi), some (xV id), some (xV M), some (xV (uOnn dr wp pr cnt W T n D C AC wi wt M R t)), some (xV ((t + 1 : Nat) : Int)), v7, v8, v9, v10] [] (xS a2 b2) Q := by
    intro u
    induction u with
    | zero =>
      intro t a2 b2 v7 v8 v9 v10 ht f2 C2 X2
      have hb := uOnn_b (dr := dr) (wp := wp) (pr := pr) (cnt := cnt) (W := W) (T := T) (n := n) (D := D) (C := C) (AC := AC) (wi := wi) (wt := wt) (M := M) (R := R) t
      have e79 : a2 79 6 = L := (f2.1 79 6 (by omega) (by omega) (by omega)).trans hR.1
      have fin := hQ a2 b2 f2 C2
      rw [show L.toNat = t by omega] at fin
      exact w117t hz C2.1.1 qwi hM (by decide) (by omega) (by omega) e79 hL (fun _ => fin) (fun e => absurd (by omega) e) (fun e => absurd (by omega) e) (fun e => absurd (by omega) e)
    | succ u ih =>
      intro t a2 b2 v7 v8 v9 v10 ht f2 C2 X2
      have hb := uOnn_b (dr := dr) (wp := wp) (pr := pr) (cnt := cnt) (W := W) (T := T) (n := n) (D := D) (C := C) (AC := AC) (wi := wi) (wt := wt) (M := M) (R := R) t
      obtain ⟨g1, g2⟩ := rows t (by omega)
      have R2 : uRec L D C AC a2 := uRec_o hR (fun q j h1 h2 => f2.1 q j (by omega) (by omega) (by omega))
      have e79 := R2.1
      obtain ⟨ch, ech⟩ : ∃ ch, uOnn dr wp pr cnt W T n D C AC wi wt M R t = ch := ⟨_, rfl⟩
      have hsum : uOnn dr wp pr cnt W T n D C AC wi wt M R (t + 1) = ch + uOq M (uOth dr wp pr cnt W T n D C wi wt ((t + 1 : Nat) : Int) (uRpl dr wp pr cnt W T n C AC wi wt R t)) 4 := by
        rw [← ech]
        rfl
      have hrow : uRpl dr wp pr cnt W T n C AC wi wt R (t + 1) = uAy dr n (AC ((t + 1 : Nat) : Int)) (uTu dr wp pr cnt W T n (uRco dr wp n C wi ((t + 1 : Nat) : Int) (uRpl dr wp pr cnt W T n C AC wi wt R t)) wt (uRpl dr wp pr cnt W T n C AC wi wt R t)) := rfl
      have ih := ih (t + 1)
      rw [hsum, hrow] at ih
      rw [ech] at hb ⊢
      obtain ⟨r, er⟩ : ∃ r, uRpl dr wp pr cnt W T n C AC wi wt R t = r := ⟨_, rfl⟩
      rw [er] at X2 g1 g2 ih
      obtain ⟨t', et⟩ : ∃ t', ((t + 1 : Nat) : Int) = t' := ⟨_, rfl⟩
      have ett : ((t + 1 + 1 : Nat) : Int) = t' + 1 := by omega
      rw [et, ett] at ih
      rw [et]
      have ht1 : 1 ≤ t' ∧ t' ≤ 60 := by omega
      have htL : t' ≤ L := by omega
      have hch : 0 ≤ ch ∧ ch ≤ 1000 := by omega
      -- the code
      obtain ⟨cd, ecd⟩ : ∃ cd, (if t' = wi then -1 else C (4 * t')) = cd := ⟨_, rfl⟩
      have hcd : -1 ≤ cd ∧ cd < 61 := by
        rw [← ecd]
        split
        · decide
        · exact hCc t' ht1.1 htL
      have eco : uRco dr wp n C wi t' r = uKdo dr wp n r cd := by
        unfold uRco
        rw [ecd]
      have hcp := uKdo_p (dr := dr) (wp := wp) g1 hcd
      obtain ⟨ko, eko⟩ : ∃ ko, uKdo dr wp n r cd = ko := ⟨_, rfl⟩
      rw [eko] at hcp eco
      have hko : -1 ≤ ko ∧ ko < 61 := by omega
      -- behind a turn
      have turned : ∀ (v7 v9 v10 : Option Value) (dd : Int), (0 ≤ dd ∧ dd ≤ 511) → pmCs (pmRo Ln xs) 11 89 [.ref 43, .ref w, xV (uD ko), xV id] (xS a2 b2) (fun r' s' => pmWp (pmRo Ln xs) 11 0 117 1 88 [some (.ref 79), some (.ref w), some (xV wi), some (xV id), some (xV M), some (xV ch), some (xV t'), v7, some (xV dd), v9, v10] (r'.toList ++ []) s' Q) := by
        intro v7 v9 v10 dd hdd
        have hBd := uBqr_b (t := t) (by omega) g2
        have hbb := g2
        obtain ⟨y1, y2, y3, y4, y5, y6⟩ := hbb
        refine u89 (cd := ko) (id := id) (wt := wt) hwo hK hn0 C2 X2.1 (by rw [X2.2.1]; omega) (by omega) hcp hid hiw (by decide) (fun a3 b3 f3 C3 W3 i6 i12 _ i119 E3 => w117f hz C3.1.1 qwi hM (by decide) hch ht1 hdd ?_)
        have X3 := uCx_t hn0 X2 hcp hwo f3 W3 i6 i12
        have f4 := uTg_t f2 (uTg_f f3)
        have R3 : uRec L D C AC a3 := uRec_o hR (fun q j h1 h2 => f4.1 q j (by omega) (by omega) (by omega))
        have hs := uRpl_s (dr := dr) (wp := wp) (pr := pr) (cnt := cnt) (W := W) (T := T) (wt := wt) (c := AC t') hn0 (t := t) (by omega) g1 g2 hcp (R3.2.2 t' ht1.1 htL).1
        -- those who did otherwise
        have cnts : ∀ (u2 q : Nat) (v10 : Option Value), q + u2 = 4 → pmWp (pmRo Ln xs) 11 0 117 1 91 [some (.ref 79), some (.ref w), some (xV wi), some (xV id), some (xV M), some (xV (ch + uOq M (uOth dr wp pr cnt W T n D C wi wt t' r) q)), some (xV t'), v7, some (xV dd), some (xV (q : Int)), v10] [] (xS a3 b3) Q := by
          intro u2
          induction u2 with
          | zero =>
            intro q v10 hq
            have e4 : q = 4 := by omega
            subst e4
            have hqb := uOq_b (M := M) (O := uOth dr wp pr cnt W T n D C wi wt t' r) 4
            have h4 : ((4 : Nat) : Int) = 4 := rfl
            have hch2 : 0 ≤ ch + uOq M (uOth dr wp pr cnt W T n D C wi wt t' r) 4 ∧ ch + uOq M (uOth dr wp pr cnt W T n D C wi wt t' r) 4 ≤ 1000 := by omega
            refine w117p hz C3.1.1 qwi hM (by decide) hch2 ht1 hdd (by decide) (fun _ => ?_) (fun e => absurd (by decide) e) (fun e => absurd (by decide) e) (fun e => absurd (by decide) e)
            have e86 := (R3.2.2 t' ht1.1 htL).2
            have hac := (R3.2.2 t' ht1.1 htL).1
            rw [eco] at ih
            have nxt : ∀ (a5 : xA) (b5 : xB) (v10 : Option Value), uTgw w a a5 b b5 → uCb dr wp co pr cnt W T n a0 a5 b5 → uCx n w (uAy dr n (AC t') (uTu dr wp pr cnt W T n ko wt r)) a5 b5 → pmWp (pmRo Ln xs) 11 0 117 1 207 [some (.ref 79), some (.ref w), some (xV wi), some (xV id), some (xV M), some (xV (ch + uOq M (uOth dr wp pr cnt W T n D C wi wt t' r) 4)), some (xV t'), v7, some (xV dd), some (xV ((4 : Nat) : Int)), v10] [] (xS a5 b5) Q := fun a5 b5 v10 h1 h2 h3 => w117i hz h2.1.1 qwi hM (by decide) hch2 ht1 hdd (by decide) (ih a5 b5 _ _ _ _ (by omega) h1 h2 h3)
            refine w117g hz C3.1.1 qwi hM (by decide) hch2 ht1 hdd (by decide) (fun e => ?_) (fun e => ?_)
            · have c0 : AC t' = 0 := by
                rw [e86] at e
                refine Classical.byContradiction (fun hn => ?_)
                by_cases cs : AC t' < 36
                · have := (uAn_s ⟨by omega, cs⟩).2.1
                  omega
                · have := (uAn_h ⟨by omega, hac.2⟩).2.1
                  omega
              refine nxt a3 b3 _ f4 C3 ?_
              rw [uAy_y (Or.inl c0)]
              unfold uAx
              rw [if_pos c0]
              exact X3
            · have c0 : ¬ AC t' = 0 := fun h => e (by rw [e86, h]; rfl)
              have hc1 : 1 ≤ AC t' ∧ AC t' ≤ 56 := ⟨by omega, hac.2⟩
              rw [e86]
              have hBd3 := uBqr_b (t := t + 1) (by omega) hs.1.2
              refine u102 hz C3.1.1 C3.1.2.1 X3 hBd3 hc1 (by decide) (fun h => w117h hz C3.1.1 qwi hM (by decide) hch2 ht1 hdd (by decide) (by decide) (fun e => absurd e (by decide)) (fun _ => ?_)) (fun h => w117h hz C3.1.1 qwi hM (by decide) hch2 ht1 hdd (by decide) (by decide) (fun _ => nxt a3 b3 _ f4 C3 (by rw [uAy_n h]; exact X3)) (fun e => absurd rfl e))
              rw [e86]
              refine u104 hz C3.1.1 hn0 X3 hBd3 hc1 (h.elim (fun g => absurd g c0) (fun g => g.2.2)) (by decide) (fun a5 b5 f5 A5 X5 _ => ?_)
              exact nxt a5 b5 _ (uTg_t f4 (uTg_x f5)) (uCb_e C3 (fun q j h1 h2 => f5.1 q j (by omega) (by omega)) (fun q j e => f5.2 q j (by omega) (by omega)) A5) (by rw [uAy_y h]; exact X5)
          | succ u2 ih2 =>
            intro q v10 hq
            have hqb := uOq_b (M := M) (O := uOth dr wp pr cnt W T n D C wi wt t' r) q
            have hch2 : 0 ≤ ch + uOq M (uOth dr wp pr cnt W T n D C wi wt t' r) q ∧ ch + uOq M (uOth dr wp pr cnt W T n D C wi wt t' r) q ≤ 1000 := by omega
            have hq4 : 0 ≤ (q : Int) ∧ (q : Int) ≤ 4 := by omega
            have hq3 : 0 ≤ (q : Int) ∧ (q : Int) ≤ 3 := by omega
            have e44 := E3 q (by omega)
            have v := uTr_v (dr := dr) (wp := wp) (pr := pr) (cnt := cnt) (W := W) (T := T) (wt := wt) hn0 g1 hcp q (by omega)
            have hEr := R3.2.1 t' q ht1.1 htL hq3.1 (by omega)
            have hEt : uEr (a3 44 q) (uDn q (uTr dr wp pr cnt W T n ko wt r q)) (uCn2 dr wp pr cnt W T n ko wt q (uTr dr wp pr cnt W T n ko wt r q)) := by
              rw [e44]
              by_cases hal : uTr dr wp pr cnt W T n ko wt r q q = 7
              · rw [uEt_d hal]
                unfold uDn uCn2
                rw [if_pos hal, if_pos hal]
                exact Or.inl ⟨rfl, rfl, rfl⟩
              · exact uEt_r (uDc_b hK v.1 hko hq3 hal) (fun h => uWk_b hK ⟨by omega, hq3.2⟩)
            have hi := uEr_i hEr hEt
            have hoth : uOth dr wp pr cnt W T n D C wi wt t' r q ↔ ¬ a3 85 (t' * 4 + q) % 512 = a3 44 q % 512 := by
              unfold uOth
              rw [eco, show (q : Int).toNat = q from rfl]
              exact not_congr hi.symm
            have e2 : ((2 ^ (q : Int).toNat : Nat) : Int) = ((2 ^ q : Nat) : Int) := rfl
            have nx : ∀ (z : Int) (v10 : Option Value), z = ch + uOq M (uOth dr wp pr cnt W T n D C wi wt t' r) (q + 1) → pmWp (pmRo Ln xs) 11 0 117 1 158 [some (.ref 79), some (.ref w), some (xV wi), some (xV id), some (xV M), some (xV z), some (xV t'), v7, some (xV dd), some (xV (q : Int)), v10] [] (xS a3 b3) Q := fun z v10 hz' => by
              have hqb1 := uOq_b (M := M) (O := uOth dr wp pr cnt W T n D C wi wt t' r) (q + 1)
              rw [hz']
              exact w117n hz C3.1.1 qwi hM (by decide) (by omega) ht1 hdd hq3 (ih2 (q + 1) v10 (by omega))
            refine w117p hz C3.1.1 qwi hM (by decide) hch2 ht1 hdd hq4 (fun e => absurd e (by omega)) (fun _ h1 h2 => nx _ _ ?_) (fun _ h1 h2 => nx _ _ ?_) (fun _ h1 => nx _ _ ?_)
            · rw [uOq_n (q := q) (fun g => g.1 h2), Int.add_zero]
            · rw [uOq_y (q := q) ⟨h2, hoth.mpr h1⟩]
              omega
            · rw [uOq_n (q := q) (fun g => hoth.mp g.2 h1), Int.add_zero]
        have := cnts 4 0 v10 (by decide)
        rw [show uOq M (uOth dr wp pr cnt W T n D C wi wt t' r) 0 = 0 from rfl, Int.add_zero] at this
        exact this
      have at56 : ∀ (v7 v9 v10 : Option Value), pmWp (pmRo Ln xs) 11 0 117 1 56 [some (.ref 79), some (.ref w), some (xV wi), some (xV id), some (xV M), some (xV ch), some (xV t'), v7, some (xV (uD cd)), v9, v10] [] (xS a2 b2) Q := by
        intro v7 v9 v10
        have hDp := uD_p hcd
        have hdd : 0 ≤ uD cd ∧ uD cd ≤ 511 := ⟨hDp.1, by omega⟩
        have hdn0 : uD (-1) = 0 := rfl
        refine w117d hz C2.1.1 qwi hM (by decide) hch ht1 hdd (u80 C2.1.1 C2.1.2.1 (by decide) hcd (by decide) (fun hc => ?_) (fun hc => ?_))
        · have hcw := (uCa_q X2.1.2.1.1 (by decide) hcd).mp hc
          have e : ko = cd := by rw [← eko, uKdo_y hcw]
          have tt := turned v7 v9 v10 (uD cd) hdd
          rw [e] at tt
          exact w117e hz C2.1.1 qwi hM (by decide) hch ht1 hdd (by decide) (fun e => absurd e (by decide)) (fun _ => tt)
        · have hcw : ¬ uCa dr wp n 0 (uWs n r) cd := fun h => hc ((uCa_q X2.1.2.1.1 (by decide) hcd).mpr h)
          have e : ko = -1 := by rw [← eko, uKdo_n hcw]
          have tt := turned v7 v9 v10 (uD cd) hdd
          rw [e, hdn0] at tt
          exact w117e hz C2.1.1 qwi hM (by decide) hch ht1 hdd (by decide) (fun _ => tt) (fun e => absurd rfl e)
      have hE0 := R2.2.1 t' 0 ht1.1 htL (by decide) (by decide)
      rw [show 4 * t' + 0 = 4 * t' by omega] at hE0
      refine w117t hz C2.1.1 qwi hM (by decide) hch ⟨ht1.1, by omega⟩ e79 hL (fun e => absurd e (by omega)) (fun _ e => ?_) (fun _ e1 e2 => ?_) (fun _ e1 e2 => ?_)
      · have hc1 : cd = -1 := by
          rw [← ecd]
          rcases hE0 with h | h
          · rw [h.2.2]
            split <;> rfl
          · omega
        have := at56 (some (xV (a2 85 (t' * 4 + 0)))) v9 v10
        rw [hc1] at this
        exact this
      · rw [if_neg e2] at ecd
        rcases hE0 with h | h
        · exact absurd h.2.1 e1
        · have := at56 (some (xV (a2 85 (t' * 4 + 0)))) v9 v10
          rw [← ecd, ← h.2.2.2] at this
          exact this
      · rw [if_pos e2] at ecd
        have := at56 (some (xV (a2 85 (t' * 4 + 0)))) v9 v10
        rw [← ecd] at this
        exact this
  refine pmCs_deep (d := 12) (xg117 (w117 hz ?_)) hd
  refine u66 hwo uWo80 (by omega) hC.1.1 (by rw [hX.2.2.1]; exact hB.2.1) (by decide) (fun a3 b3 c3 A3 => w117a ?_)
  exact loop L.toNat 0 a3 b3 _ _ _ _ (by omega) (uTg_c c3) (uCb_e hC (fun q j h1 h2 => c3.2.2.2.2.2.1 q j (by omega)) (fun q j e => c3.2.2.2.2.2.2 q j (by omega)) A3) (uCx_cp hX c3)
end
end
end
section
/-! exact: replays of the reference -/
section
set_option maxRecDepth 100000

theorem xc232_15 : pmCode 232 15 = some (.iload_n 1) ∧ 15 + 1 = 16 := ⟨rfl, rfl⟩
theorem xc232_16 : pmCode 232 16 = some (.iconst 1) ∧ 16 + 1 = 17 := ⟨rfl, rfl⟩
theorem xc232_17 : pmCode 232 17 = some (.iload_n 2) ∧ 17 + 1 = 18 := ⟨rfl, rfl⟩
theorem xc232_18 : pmCode 232 18 = some (.invokestatic 142) ∧ 18 + 3 = 21 := ⟨rfl, rfl⟩
theorem xc232_21 : pmCode 232 21 = some (.ifCond .ne 5) ∧ ((21 : Nat) : Int) + 5 = ((26 : Nat) : Int) ∧ 21 + 3 = 24 := ⟨rfl, rfl, rfl⟩
theorem xc232_26 : pmCode 232 26 = some (.aload_n 0) ∧ 26 + 1 = 27 := ⟨rfl, rfl⟩
theorem xc232_27 : pmCode 232 27 = some (.iconst 1) ∧ 27 + 1 = 28 := ⟨rfl, rfl⟩
theorem xc232_28 : pmCode 232 28 = some (.invokevirtual 336) ∧ 28 + 3 = 31 := ⟨rfl, rfl⟩
theorem xc232_31 : pmCode 232 31 = some (.aload_n 0) ∧ 31 + 1 = 32 := ⟨rfl, rfl⟩
theorem xc232_32 : pmCode 232 32 = some (.iconst 0) ∧ 32 + 1 = 33 := ⟨rfl, rfl⟩
theorem xc232_33 : pmCode 232 33 = some (.invokevirtual 404) ∧ 33 + 3 = 36 := ⟨rfl, rfl⟩
theorem xc232_36 : pmCode 232 36 = some (.iconst 0) ∧ 36 + 1 = 37 := ⟨rfl, rfl⟩
theorem xc232_37 : pmCode 232 37 = some (.istore_n 3) ∧ 37 + 1 = 38 := ⟨rfl, rfl⟩
theorem xc232_38 : pmCode 232 38 = some (.iconst 1) ∧ 38 + 1 = 39 := ⟨rfl, rfl⟩
theorem xc232_39 : pmCode 232 39 = some (.istore 4) ∧ 39 + 2 = 41 := ⟨rfl, rfl⟩
theorem xc232_41 : pmCode 232 41 = some (.iload 4) ∧ 41 + 2 = 43 := ⟨rfl, rfl⟩
theorem xc232_43 : pmCode 232 43 = some (.iload_n 2) ∧ 43 + 1 = 44 := ⟨rfl, rfl⟩
theorem xc232_44 : pmCode 232 44 = some (.if_icmp .gt 57) ∧ ((44 : Nat) : Int) + 57 = ((101 : Nat) : Int) ∧ 44 + 3 = 47 := ⟨rfl, rfl, rfl⟩
theorem xc232_47 : pmCode 232 47 = some (.aload_n 0) ∧ 47 + 1 = 48 := ⟨rfl, rfl⟩
theorem xc232_48 : pmCode 232 48 = some (.iload 4) ∧ 48 + 2 = 50 := ⟨rfl, rfl⟩
theorem xc232_50 : pmCode 232 50 = some (.iload_n 1) ∧ 50 + 1 = 51 := ⟨rfl, rfl⟩
theorem xc232_51 : pmCode 232 51 = some (.iconst (-1)) ∧ 51 + 1 = 52 := ⟨rfl, rfl⟩
theorem xc232_52 : pmCode 232 52 = some (.invokevirtual 419) ∧ 52 + 3 = 55 := ⟨rfl, rfl⟩
theorem xc232_55 : pmCode 232 55 = some (.iconst 1) ∧ 55 + 1 = 56 := ⟨rfl, rfl⟩
theorem xc232_56 : pmCode 232 56 = some (.istore 5) ∧ 56 + 2 = 58 := ⟨rfl, rfl⟩
theorem xc232_58 : pmCode 232 58 = some (.iload 5) ∧ 58 + 2 = 60 := ⟨rfl, rfl⟩
theorem xc232_60 : pmCode 232 60 = some (.iconst 4) ∧ 60 + 1 = 61 := ⟨rfl, rfl⟩
theorem xc232_61 : pmCode 232 61 = some (.if_icmp .ge 28) ∧ ((61 : Nat) : Int) + 28 = ((89 : Nat) : Int) ∧ 61 + 3 = 64 := ⟨rfl, rfl, rfl⟩
theorem xc232_64 : pmCode 232 64 = some (.iload_n 3) ∧ 64 + 1 = 65 := ⟨rfl, rfl⟩
theorem xc232_65 : pmCode 232 65 = some (.aload_n 0) ∧ 65 + 1 = 66 := ⟨rfl, rfl⟩
theorem xc232_66 : pmCode 232 66 = some (.iload 4) ∧ 66 + 2 = 68 := ⟨rfl, rfl⟩
theorem xc232_68 : pmCode 232 68 = some (.iload 5) ∧ 68 + 2 = 70 := ⟨rfl, rfl⟩
theorem xc232_70 : pmCode 232 70 = some (.invokevirtual 422) ∧ 70 + 3 = 73 := ⟨rfl, rfl⟩
theorem xc232_73 : pmCode 232 73 = some (.ifCond .eq 7) ∧ ((73 : Nat) : Int) + 7 = ((80 : Nat) : Int) ∧ 73 + 3 = 76 := ⟨rfl, rfl, rfl⟩
theorem xc232_76 : pmCode 232 76 = some (.iconst 1) ∧ 76 + 1 = 77 := ⟨rfl, rfl⟩
theorem xc232_77 : pmCode 232 77 = some (.goto 4) ∧ ((77 : Nat) : Int) + 4 = ((81 : Nat) : Int) := ⟨rfl, rfl⟩
theorem xc232_80 : pmCode 232 80 = some (.iconst 0) ∧ 80 + 1 = 81 := ⟨rfl, rfl⟩
theorem xc232_81 : pmCode 232 81 = some .iadd ∧ 81 + 1 = 82 := ⟨rfl, rfl⟩
theorem xc232_82 : pmCode 232 82 = some (.istore_n 3) ∧ 82 + 1 = 83 := ⟨rfl, rfl⟩
theorem xc232_83 : pmCode 232 83 = some (.iinc 5 1) ∧ 83 + 3 = 86 := ⟨rfl, rfl⟩
theorem xc232_86 : pmCode 232 86 = some (.goto (-28)) ∧ ((86 : Nat) : Int) + (-28) = ((58 : Nat) : Int) := ⟨rfl, rfl⟩
theorem xc232_89 : pmCode 232 89 = some (.aload_n 0) ∧ 89 + 1 = 90 := ⟨rfl, rfl⟩
theorem xc232_90 : pmCode 232 90 = some (.iload 4) ∧ 90 + 2 = 92 := ⟨rfl, rfl⟩
theorem xc232_92 : pmCode 232 92 = some (.invokevirtual 425) ∧ 92 + 3 = 95 := ⟨rfl, rfl⟩
theorem xc232_95 : pmCode 232 95 = some (.iinc 4 1) ∧ 95 + 3 = 98 := ⟨rfl, rfl⟩
theorem xc232_98 : pmCode 232 98 = some (.goto (-57)) ∧ ((98 : Nat) : Int) + (-57) = ((41 : Nat) : Int) := ⟨rfl, rfl⟩
theorem xc232_101 : pmCode 232 101 = some (.aload_n 0) ∧ 101 + 1 = 102 := ⟨rfl, rfl⟩
theorem xc232_102 : pmCode 232 102 = some (.iconst 1) ∧ 102 + 1 = 103 := ⟨rfl, rfl⟩
theorem xc232_103 : pmCode 232 103 = some (.invokevirtual 404) ∧ 103 + 3 = 106 := ⟨rfl, rfl⟩
theorem xc232_106 : pmCode 232 106 = some (.iload_n 3) ∧ 106 + 1 = 107 := ⟨rfl, rfl⟩
theorem xc232_107 : pmCode 232 107 = some .ireturn := rfl
theorem xc236_7 : pmCode 236 7 = some (.iload_n 1) ∧ 7 + 1 = 8 := ⟨rfl, rfl⟩
theorem xc236_8 : pmCode 236 8 = some (.invokestatic 150) ∧ 8 + 3 = 11 := ⟨rfl, rfl⟩
theorem xc236_11 : pmCode 236 11 = some (.ifCond .ne 5) ∧ ((11 : Nat) : Int) + 5 = ((16 : Nat) : Int) ∧ 11 + 3 = 14 := ⟨rfl, rfl, rfl⟩
theorem xc236_16 : pmCode 236 16 = some (.aload_n 0) ∧ 16 + 1 = 17 := ⟨rfl, rfl⟩
theorem xc236_17 : pmCode 236 17 = some (.getfield 7) ∧ 17 + 3 = 20 := ⟨rfl, rfl⟩
theorem xc236_20 : pmCode 236 20 = some (.bipush 114) ∧ 20 + 2 = 22 := ⟨rfl, rfl⟩
theorem xc236_22 : pmCode 236 22 = some .iaload ∧ 22 + 1 = 23 := ⟨rfl, rfl⟩
theorem xc236_23 : pmCode 236 23 = some (.istore_n 2) ∧ 23 + 1 = 24 := ⟨rfl, rfl⟩
theorem xc236_24 : pmCode 236 24 = some (.aload_n 0) ∧ 24 + 1 = 25 := ⟨rfl, rfl⟩
theorem xc236_25 : pmCode 236 25 = some (.iconst 1) ∧ 25 + 1 = 26 := ⟨rfl, rfl⟩
theorem xc236_26 : pmCode 236 26 = some (.invokevirtual 336) ∧ 26 + 3 = 29 := ⟨rfl, rfl⟩
theorem xc236_29 : pmCode 236 29 = some (.aload_n 0) ∧ 29 + 1 = 30 := ⟨rfl, rfl⟩
theorem xc236_30 : pmCode 236 30 = some (.iconst 0) ∧ 30 + 1 = 31 := ⟨rfl, rfl⟩
theorem xc236_31 : pmCode 236 31 = some (.invokevirtual 404) ∧ 31 + 3 = 34 := ⟨rfl, rfl⟩
theorem xc236_34 : pmCode 236 34 = some (.iconst 1) ∧ 34 + 1 = 35 := ⟨rfl, rfl⟩
theorem xc236_35 : pmCode 236 35 = some (.istore_n 3) ∧ 35 + 1 = 36 := ⟨rfl, rfl⟩
theorem xc236_36 : pmCode 236 36 = some (.iconst 1) ∧ 36 + 1 = 37 := ⟨rfl, rfl⟩
theorem xc236_37 : pmCode 236 37 = some (.istore 4) ∧ 37 + 2 = 39 := ⟨rfl, rfl⟩
theorem xc236_39 : pmCode 236 39 = some (.iload 4) ∧ 39 + 2 = 41 := ⟨rfl, rfl⟩
theorem xc236_41 : pmCode 236 41 = some (.iload_n 2) ∧ 41 + 1 = 42 := ⟨rfl, rfl⟩
theorem xc236_42 : pmCode 236 42 = some (.if_icmp .gt 69) ∧ ((42 : Nat) : Int) + 69 = ((111 : Nat) : Int) ∧ 42 + 3 = 45 := ⟨rfl, rfl, rfl⟩
theorem xc236_45 : pmCode 236 45 = some (.iload_n 3) ∧ 45 + 1 = 46 := ⟨rfl, rfl⟩
theorem xc236_46 : pmCode 236 46 = some (.ifCond .eq 65) ∧ ((46 : Nat) : Int) + 65 = ((111 : Nat) : Int) ∧ 46 + 3 = 49 := ⟨rfl, rfl, rfl⟩
theorem xc236_49 : pmCode 236 49 = some (.aload_n 0) ∧ 49 + 1 = 50 := ⟨rfl, rfl⟩
theorem xc236_50 : pmCode 236 50 = some (.iload 4) ∧ 50 + 2 = 52 := ⟨rfl, rfl⟩
theorem xc236_52 : pmCode 236 52 = some (.iconst (-1)) ∧ 52 + 1 = 53 := ⟨rfl, rfl⟩
theorem xc236_53 : pmCode 236 53 = some (.iload_n 1) ∧ 53 + 1 = 54 := ⟨rfl, rfl⟩
theorem xc236_54 : pmCode 236 54 = some (.invokevirtual 419) ∧ 54 + 3 = 57 := ⟨rfl, rfl⟩
theorem xc236_57 : pmCode 236 57 = some (.iconst 0) ∧ 57 + 1 = 58 := ⟨rfl, rfl⟩
theorem xc236_58 : pmCode 236 58 = some (.istore 5) ∧ 58 + 2 = 60 := ⟨rfl, rfl⟩
theorem xc236_60 : pmCode 236 60 = some (.iload 5) ∧ 60 + 2 = 62 := ⟨rfl, rfl⟩
theorem xc236_62 : pmCode 236 62 = some (.iconst 4) ∧ 62 + 1 = 63 := ⟨rfl, rfl⟩
theorem xc236_63 : pmCode 236 63 = some (.if_icmp .ge 36) ∧ ((63 : Nat) : Int) + 36 = ((99 : Nat) : Int) ∧ 63 + 3 = 66 := ⟨rfl, rfl, rfl⟩
theorem xc236_66 : pmCode 236 66 = some (.iload_n 3) ∧ 66 + 1 = 67 := ⟨rfl, rfl⟩
theorem xc236_67 : pmCode 236 67 = some (.ifCond .eq 24) ∧ ((67 : Nat) : Int) + 24 = ((91 : Nat) : Int) ∧ 67 + 3 = 70 := ⟨rfl, rfl, rfl⟩
theorem xc236_70 : pmCode 236 70 = some (.iload 5) ∧ 70 + 2 = 72 := ⟨rfl, rfl⟩
theorem xc236_72 : pmCode 236 72 = some (.iload_n 1) ∧ 72 + 1 = 73 := ⟨rfl, rfl⟩
theorem xc236_73 : pmCode 236 73 = some (.if_icmp .eq 14) ∧ ((73 : Nat) : Int) + 14 = ((87 : Nat) : Int) ∧ 73 + 3 = 76 := ⟨rfl, rfl, rfl⟩
theorem xc236_76 : pmCode 236 76 = some (.aload_n 0) ∧ 76 + 1 = 77 := ⟨rfl, rfl⟩
theorem xc236_77 : pmCode 236 77 = some (.iload 4) ∧ 77 + 2 = 79 := ⟨rfl, rfl⟩
theorem xc236_79 : pmCode 236 79 = some (.iload 5) ∧ 79 + 2 = 81 := ⟨rfl, rfl⟩
theorem xc236_81 : pmCode 236 81 = some (.invokevirtual 422) ∧ 81 + 3 = 84 := ⟨rfl, rfl⟩
theorem xc236_84 : pmCode 236 84 = some (.ifCond .ne 7) ∧ ((84 : Nat) : Int) + 7 = ((91 : Nat) : Int) ∧ 84 + 3 = 87 := ⟨rfl, rfl, rfl⟩
theorem xc236_87 : pmCode 236 87 = some (.iconst 1) ∧ 87 + 1 = 88 := ⟨rfl, rfl⟩
theorem xc236_88 : pmCode 236 88 = some (.goto 4) ∧ ((88 : Nat) : Int) + 4 = ((92 : Nat) : Int) := ⟨rfl, rfl⟩
theorem xc236_91 : pmCode 236 91 = some (.iconst 0) ∧ 91 + 1 = 92 := ⟨rfl, rfl⟩
theorem xc236_92 : pmCode 236 92 = some (.istore_n 3) ∧ 92 + 1 = 93 := ⟨rfl, rfl⟩
theorem xc236_93 : pmCode 236 93 = some (.iinc 5 1) ∧ 93 + 3 = 96 := ⟨rfl, rfl⟩
theorem xc236_96 : pmCode 236 96 = some (.goto (-36)) ∧ ((96 : Nat) : Int) + (-36) = ((60 : Nat) : Int) := ⟨rfl, rfl⟩
theorem xc236_99 : pmCode 236 99 = some (.aload_n 0) ∧ 99 + 1 = 100 := ⟨rfl, rfl⟩
theorem xc236_100 : pmCode 236 100 = some (.iload 4) ∧ 100 + 2 = 102 := ⟨rfl, rfl⟩
theorem xc236_102 : pmCode 236 102 = some (.invokevirtual 425) ∧ 102 + 3 = 105 := ⟨rfl, rfl⟩
theorem xc236_105 : pmCode 236 105 = some (.iinc 4 1) ∧ 105 + 3 = 108 := ⟨rfl, rfl⟩
theorem xc236_108 : pmCode 236 108 = some (.goto (-69)) ∧ ((108 : Nat) : Int) + (-69) = ((39 : Nat) : Int) := ⟨rfl, rfl⟩
theorem xc236_111 : pmCode 236 111 = some (.aload_n 0) ∧ 111 + 1 = 112 := ⟨rfl, rfl⟩
theorem xc236_112 : pmCode 236 112 = some (.iconst 1) ∧ 112 + 1 = 113 := ⟨rfl, rfl⟩
theorem xc236_113 : pmCode 236 113 = some (.invokevirtual 404) ∧ 113 + 3 = 116 := ⟨rfl, rfl⟩
theorem xc236_116 : pmCode 236 116 = some (.iload_n 3) ∧ 116 + 1 = 117 := ⟨rfl, rfl⟩
theorem xc236_117 : pmCode 236 117 = some (.ifCond .eq 7) ∧ ((117 : Nat) : Int) + 7 = ((124 : Nat) : Int) ∧ 117 + 3 = 120 := ⟨rfl, rfl, rfl⟩
theorem xc236_120 : pmCode 236 120 = some (.iconst 1) ∧ 120 + 1 = 121 := ⟨rfl, rfl⟩
theorem xc236_121 : pmCode 236 121 = some (.goto 4) ∧ ((121 : Nat) : Int) + 4 = ((125 : Nat) : Int) := ⟨rfl, rfl⟩
theorem xc236_124 : pmCode 236 124 = some (.iconst 0) ∧ 124 + 1 = 125 := ⟨rfl, rfl⟩
theorem xc236_125 : pmCode 236 125 = some .ireturn := rfl
theorem wb232 {ro : Nat → Nat × (Nat → Int32)} {d : Nat} {Q : Option Value → pmS → Prop} {t bg tn : Int} {a : xA} {b : xB} (qr1 : xR t) (hb : a 87 4 = bg) (hbg : bg = 0 ∨ bg = 1) (ht : a 88 114 = tn) (htn : 0 ≤ tn ∧ tn ≤ 60) (hd : 1 ≤ d)
    (k1 : (bg = 0) → Q (some (xV (-1))) (xS a b))
    (k2 : (¬ bg = 0) → (1 ≤ t ∧ t ≤ tn) → pmCs ro d 181 [.ref 87, xV 1] (xS a b) fun r σ' => pmWp ro d 12 232 1 31 [some (.ref 87), some (xV t), some (xV tn), none, none, none] (r.toList ++ []) σ' Q)
    (k3 : (¬ bg = 0) → (¬ (1 ≤ t ∧ t ≤ tn)) → Q (some (xV (-1))) (xS a b)) :
    pmWp ro d 12 232 1 0 [some (.ref 87), some (xV t), none, none, none, none] [] (xS a b) Q := by
  refine x_aloadn xc232_0 rfl ?_
  refine x_gfr xc232_1 rfl rfl xz87 rfl ?_
  refine x_bipush xc232_4 (by decide) ?_
  refine x_ial' (v := tn) xc232_6 xz88 rfl (by omega) (by omega) (by omega) ht ?_
  refine x_istoren (pl' := [some (.ref 87), some (xV t), some (xV tn), none, none, none]) xc232_7 rfl rfl ?_
  refine x_aloadn xc232_8 rfl ?_
  refine x_gfi' (k := 4) (v := bg) xc232_9 rfl (Or.inr rfl) rfl xz87 hb ?_
  refine x_ifeq xc232_12 (xRk (by have g0 := hbg; omega)) (fun h0 => ?_) (fun h0 => ?_)
  · refine x_iconst xc232_24 ?_
    refine x_iret xc232_25 (Or.inl rfl) ?_
    exact k1 h0
  · refine x_iloadn xc232_15 rfl ?_
    refine x_iconst xc232_16 ?_
    refine x_iloadn xc232_17 rfl ?_
    refine x_cS (as := [xV t, xV 1, xV tn]) (rest := []) xc232_18 rfl rfl xi143 ⟨rfl, rfl⟩ rfl rfl ?_
    refine xk143 (xRk (by have g0 := xRb qr1; omega)) (xRk (by decide)) (xRk (by have g0 := htn; omega)) (by omega) (fun h1 => ?_) (fun h2 => ?_)
    · refine x_ifne xc232_21 (xRk (by decide)) (fun _ => ?_) (fun h => absurd h (by omega))
      refine x_aloadn xc232_26 rfl ?_
      refine x_iconst xc232_27 ?_
      refine x_cV (as := [xV 1]) (rest := []) xc232_28 rfl xi181 xz87 ⟨rfl, rfl⟩ rfl rfl ?_
      exact k2 h0 h1
    · refine x_ifne xc232_21 (xRk (by decide)) (fun h => absurd h (by omega)) (fun _ => ?_)
      refine x_iconst xc232_24 ?_
      refine x_iret xc232_25 (Or.inl rfl) ?_
      exact k3 h0 h2

theorem wb232a {ro : Nat → Nat × (Nat → Int32)} {d : Nat} {Q : Option Value → pmS → Prop} {t tn : Int} {a : xA} {b : xB} (htn : 0 ≤ tn ∧ tn ≤ 60)
    (k1 : pmCs ro d 227 [.ref 87, xV 0] (xS a b) fun r σ' => pmWp ro d 12 232 1 36 [some (.ref 87), some (xV t), some (xV tn), none, none, none] (r.toList ++ []) σ' Q) :
    pmWp ro d 12 232 1 31 [some (.ref 87), some (xV t), some (xV tn), none, none, none] [] (xS a b) Q := by
  refine x_aloadn xc232_31 rfl ?_
  refine x_iconst xc232_32 ?_
  refine x_cV (as := [xV 0]) (rest := []) xc232_33 rfl xi227 xz87 ⟨rfl, rfl⟩ rfl rfl ?_
  exact k1

theorem wb232b {ro : Nat → Nat × (Nat → Int32)} {d : Nat} {Q : Option Value → pmS → Prop} {t tn : Int} {a : xA} {b : xB} (htn : 0 ≤ tn ∧ tn ≤ 60)
    (k1 : pmWp ro d 12 232 1 41 [some (.ref 87), some (xV t), some (xV tn), some (xV 0), some (xV 1), none] [] (xS a b) Q) :
    pmWp ro d 12 232 1 36 [some (.ref 87), some (xV t), some (xV tn), none, none, none] [] (xS a b) Q := by
  refine x_iconst xc232_36 ?_
  refine x_istoren (pl' := [some (.ref 87), some (xV t), some (xV tn), some (xV 0), none, none]) xc232_37 rfl rfl ?_
  refine x_iconst xc232_38 ?_
  refine x_istore (pl' := [some (.ref 87), some (xV t), some (xV tn), some (xV 0), some (xV 1), none]) xc232_39 rfl rfl ?_
  exact k1

theorem wb232c {ro : Nat → Nat × (Nat → Int32)} {d : Nat} {Q : Option Value → pmS → Prop} {v5 : Option Value} {t tn ch i : Int} {a : xA} {b : xB} (htn : 0 ≤ tn ∧ tn ≤ 60) (hch : 0 ≤ ch ∧ ch ≤ 1000) (hi : 1 ≤ i ∧ i ≤ 61)
    (k1 : (tn < i) → pmWp ro d 12 232 1 101 [some (.ref 87), some (xV t), some (xV tn), some (xV ch), some (xV i), v5] [] (xS a b) Q)
    (k2 : (¬ tn < i) → pmCs ro d 233 [.ref 87, xV i, xV t, xV (-1)] (xS a b) fun r σ' => pmWp ro d 12 232 1 55 [some (.ref 87), some (xV t), some (xV tn), some (xV ch), some (xV i), v5] (r.toList ++ []) σ' Q) :
    pmWp ro d 12 232 1 41 [some (.ref 87), some (xV t), some (xV tn), some (xV ch), some (xV i), v5] [] (xS a b) Q := by
  refine x_iload xc232_41 rfl ?_
  refine x_iloadn xc232_43 rfl ?_
  refine x_icgt xc232_44 (xRk (by have g0 := hi; omega)) (xRk (by have g0 := htn; omega)) (fun h0 => ?_) (fun h0 => ?_)
  · exact k1 h0
  · refine x_aloadn xc232_47 rfl ?_
    refine x_iload xc232_48 rfl ?_
    refine x_iloadn xc232_50 rfl ?_
    refine x_iconst xc232_51 ?_
    refine x_cV (as := [xV i, xV t, xV (-1)]) (rest := []) xc232_52 rfl xi233 xz87 ⟨rfl, rfl⟩ rfl rfl ?_
    exact k2 h0

theorem wb232d {ro : Nat → Nat × (Nat → Int32)} {d : Nat} {Q : Option Value → pmS → Prop} {v5 : Option Value} {t tn ch i : Int} {a : xA} {b : xB} (htn : 0 ≤ tn ∧ tn ≤ 60) (hch : 0 ≤ ch ∧ ch ≤ 1000) (hi : 1 ≤ i ∧ i ≤ 61)
    (k1 : pmWp ro d 12 232 1 58 [some (.ref 87), some (xV t), some (xV tn), some (xV ch), some (xV i), some (xV 1)] [] (xS a b) Q) :
    pmWp ro d 12 232 1 55 [some (.ref 87), some (xV t), some (xV tn), some (xV ch), some (xV i), v5] [] (xS a b) Q := by
  refine x_iconst xc232_55 ?_
  refine x_istore (pl' := [some (.ref 87), some (xV t), some (xV tn), some (xV ch), some (xV i), some (xV 1)]) xc232_56 rfl rfl ?_
  exact k1

theorem wb232e {ro : Nat → Nat × (Nat → Int32)} {d : Nat} {Q : Option Value → pmS → Prop} {q t tn ch i : Int} {a : xA} {b : xB} (htn : 0 ≤ tn ∧ tn ≤ 60) (hch : 0 ≤ ch ∧ ch ≤ 1000) (hi : 1 ≤ i ∧ i ≤ 61) (hq : 1 ≤ q ∧ q ≤ 4)
    (k1 : (4 ≤ q) → pmWp ro d 12 232 1 89 [some (.ref 87), some (xV t), some (xV tn), some (xV ch), some (xV i), some (xV q)] [] (xS a b) Q)
    (k2 : (¬ 4 ≤ q) → pmCs ro d 234 [.ref 87, xV i, xV q] (xS a b) fun r σ' => pmWp ro d 12 232 1 73 [some (.ref 87), some (xV t), some (xV tn), some (xV ch), some (xV i), some (xV q)] (r.toList ++ [xV ch]) σ' Q) :
    pmWp ro d 12 232 1 58 [some (.ref 87), some (xV t), some (xV tn), some (xV ch), some (xV i), some (xV q)] [] (xS a b) Q := by
  refine x_iload xc232_58 rfl ?_
  refine x_iconst xc232_60 ?_
  refine x_icge xc232_61 (xRk (by have g0 := hq; omega)) (xRk (by decide)) (fun h0 => ?_) (fun h0 => ?_)
  · exact k1 h0
  · refine x_iloadn xc232_64 rfl ?_
    refine x_aloadn xc232_65 rfl ?_
    refine x_iload xc232_66 rfl ?_
    refine x_iload xc232_68 rfl ?_
    refine x_cV (as := [xV i, xV q]) (rest := [xV ch]) xc232_70 rfl xi234 xz87 ⟨rfl, rfl⟩ rfl rfl ?_
    exact k2 h0

theorem wb232f {ro : Nat → Nat × (Nat → Int32)} {d : Nat} {Q : Option Value → pmS → Prop} {z q t tn ch i : Int} {a : xA} {b : xB} (htn : 0 ≤ tn ∧ tn ≤ 60) (hch : 0 ≤ ch ∧ ch ≤ 1000) (hi : 1 ≤ i ∧ i ≤ 61) (hq : 1 ≤ q ∧ q ≤ 4) (hzz : z = 0 ∨ z = 1)
    (k1 : (z = 0) → pmWp ro d 12 232 1 58 [some (.ref 87), some (xV t), some (xV tn), some (xV (ch + 0)), some (xV i), some (xV (q + 1))] [] (xS a b) Q)
    (k2 : (¬ z = 0) → pmWp ro d 12 232 1 58 [some (.ref 87), some (xV t), some (xV tn), some (xV (ch + 1)), some (xV i), some (xV (q + 1))] [] (xS a b) Q) :
    pmWp ro d 12 232 1 73 [some (.ref 87), some (xV t), some (xV tn), some (xV ch), some (xV i), some (xV q)] [xV z, xV ch] (xS a b) Q := by
  refine x_ifeq xc232_73 (xRk (by have g0 := hzz; omega)) (fun h0 => ?_) (fun h0 => ?_)
  · refine x_iconst xc232_80 ?_
    refine x_iadd xc232_81 ?_
    refine x_istoren (pl' := [some (.ref 87), some (xV t), some (xV tn), some (xV (ch + 0)), some (xV i), some (xV q)]) xc232_82 rfl rfl ?_
    refine x_iinc (pl' := [some (.ref 87), some (xV t), some (xV tn), some (xV (ch + 0)), some (xV i), some (xV (q + 1))]) xc232_83 rfl rfl ?_
    refine x_goto xc232_86 ?_
    exact k1 h0
  · refine x_iconst xc232_76 ?_
    refine x_goto xc232_77 ?_
    refine x_iadd xc232_81 ?_
    refine x_istoren (pl' := [some (.ref 87), some (xV t), some (xV tn), some (xV (ch + 1)), some (xV i), some (xV q)]) xc232_82 rfl rfl ?_
    refine x_iinc (pl' := [some (.ref 87), some (xV t), some (xV tn), some (xV (ch + 1)), some (xV i), some (xV (q + 1))]) xc232_83 rfl rfl ?_
    refine x_goto xc232_86 ?_
    exact k2 h0

theorem wb232g {ro : Nat → Nat × (Nat → Int32)} {d : Nat} {Q : Option Value → pmS → Prop} {q t tn ch i : Int} {a : xA} {b : xB} (htn : 0 ≤ tn ∧ tn ≤ 60) (hch : 0 ≤ ch ∧ ch ≤ 1000) (hi : 1 ≤ i ∧ i ≤ 61) (hq : 1 ≤ q ∧ q ≤ 4)
    (k1 : pmCs ro d 235 [.ref 87, xV i] (xS a b) fun r σ' => pmWp ro d 12 232 1 95 [some (.ref 87), some (xV t), some (xV tn), some (xV ch), some (xV i), some (xV q)] (r.toList ++ []) σ' Q) :
    pmWp ro d 12 232 1 89 [some (.ref 87), some (xV t), some (xV tn), some (xV ch), some (xV i), some (xV q)] [] (xS a b) Q := by
  refine x_aloadn xc232_89 rfl ?_
  refine x_iload xc232_90 rfl ?_
  refine x_cV (as := [xV i]) (rest := []) xc232_92 rfl xi235 xz87 ⟨rfl, rfl⟩ rfl rfl ?_
  exact k1

theorem wb232h {ro : Nat → Nat × (Nat → Int32)} {d : Nat} {Q : Option Value → pmS → Prop} {q t tn ch i : Int} {a : xA} {b : xB} (htn : 0 ≤ tn ∧ tn ≤ 60) (hch : 0 ≤ ch ∧ ch ≤ 1000) (hi : 1 ≤ i ∧ i ≤ 61) (hq : 1 ≤ q ∧ q ≤ 4)
    (k1 : pmWp ro d 12 232 1 41 [some (.ref 87), some (xV t), some (xV tn), some (xV ch), some (xV (i + 1)), some (xV q)] [] (xS a b) Q) :
    pmWp ro d 12 232 1 95 [some (.ref 87), some (xV t), some (xV tn), some (xV ch), some (xV i), some (xV q)] [] (xS a b) Q := by
  refine x_iinc (pl' := [some (.ref 87), some (xV t), some (xV tn), some (xV ch), some (xV (i + 1)), some (xV q)]) xc232_95 rfl rfl ?_
  refine x_goto xc232_98 ?_
  exact k1

theorem wb232i {ro : Nat → Nat × (Nat → Int32)} {d : Nat} {Q : Option Value → pmS → Prop} {v5 : Option Value} {t tn ch i : Int} {a : xA} {b : xB} (htn : 0 ≤ tn ∧ tn ≤ 60) (hch : 0 ≤ ch ∧ ch ≤ 1000) (hi : 1 ≤ i ∧ i ≤ 61)
    (k1 : pmCs ro d 227 [.ref 87, xV 1] (xS a b) fun r σ' => pmWp ro d 12 232 1 106 [some (.ref 87), some (xV t), some (xV tn), some (xV ch), some (xV i), v5] (r.toList ++ []) σ' Q) :
    pmWp ro d 12 232 1 101 [some (.ref 87), some (xV t), some (xV tn), some (xV ch), some (xV i), v5] [] (xS a b) Q := by
  refine x_aloadn xc232_101 rfl ?_
  refine x_iconst xc232_102 ?_
  refine x_cV (as := [xV 1]) (rest := []) xc232_103 rfl xi227 xz87 ⟨rfl, rfl⟩ rfl rfl ?_
  exact k1

theorem wb232j {ro : Nat → Nat × (Nat → Int32)} {d : Nat} {Q : Option Value → pmS → Prop} {v5 : Option Value} {t tn ch i : Int} {a : xA} {b : xB} (htn : 0 ≤ tn ∧ tn ≤ 60) (hch : 0 ≤ ch ∧ ch ≤ 1000) (hi : 1 ≤ i ∧ i ≤ 61)
    (k1 : Q (some (xV ch)) (xS a b)) :
    pmWp ro d 12 232 1 106 [some (.ref 87), some (xV t), some (xV tn), some (xV ch), some (xV i), v5] [] (xS a b) Q := by
  refine x_iloadn xc232_106 rfl ?_
  refine x_iret xc232_107 (Or.inl rfl) ?_
  exact k1

theorem wb236 {ro : Nat → Nat × (Nat → Int32)} {d : Nat} {Q : Option Value → pmS → Prop} {p bg tn : Int} {a : xA} {b : xB} (qr1 : xR p) (hb : a 87 4 = bg) (hbg : bg = 0 ∨ bg = 1) (ht : a 88 114 = tn) (htn : 0 ≤ tn ∧ tn ≤ 60) (hd : 1 ≤ d)
    (k1 : (bg = 0) → Q (some (xV (-1))) (xS a b))
    (k2 : (¬ bg = 0) → (1 ≤ p ∧ p < 4) → pmCs ro d 181 [.ref 87, xV 1] (xS a b) fun r σ' => pmWp ro d 12 236 1 29 [some (.ref 87), some (xV p), some (xV tn), none, none, none] (r.toList ++ []) σ' Q)
    (k3 : (¬ bg = 0) → (¬ (1 ≤ p ∧ p < 4)) → Q (some (xV (-1))) (xS a b)) :
    pmWp ro d 12 236 1 0 [some (.ref 87), some (xV p), none, none, none, none] [] (xS a b) Q := by
  refine x_aloadn xc236_0 rfl ?_
  refine x_gfi' (k := 4) (v := bg) xc236_1 rfl (Or.inr rfl) rfl xz87 hb ?_
  refine x_ifeq xc236_4 (xRk (by have g0 := hbg; omega)) (fun h0 => ?_) (fun h0 => ?_)
  · refine x_iconst xc236_14 ?_
    refine x_iret xc236_15 (Or.inl rfl) ?_
    exact k1 h0
  · refine x_iloadn xc236_7 rfl ?_
    refine x_cS (as := [xV p]) (rest := []) xc236_8 rfl rfl xi146 ⟨rfl, rfl⟩ rfl rfl ?_
    refine xk146 (by omega) (xRk (by have g0 := xRb qr1; omega)) (fun h1 => ?_) (fun h2 => ?_)
    · refine x_ifne xc236_11 (xRk (by decide)) (fun _ => ?_) (fun h => absurd h (by omega))
      refine x_aloadn xc236_16 rfl ?_
      refine x_gfr xc236_17 rfl rfl xz87 rfl ?_
      refine x_bipush xc236_20 (by decide) ?_
      refine x_ial' (v := tn) xc236_22 xz88 rfl (by omega) (by omega) (by omega) ht ?_
      refine x_istoren (pl' := [some (.ref 87), some (xV p), some (xV tn), none, none, none]) xc236_23 rfl rfl ?_
      refine x_aloadn xc236_24 rfl ?_
      refine x_iconst xc236_25 ?_
      refine x_cV (as := [xV 1]) (rest := []) xc236_26 rfl xi181 xz87 ⟨rfl, rfl⟩ rfl rfl ?_
      exact k2 h0 h1
    · refine x_ifne xc236_11 (xRk (by decide)) (fun h => absurd h (by omega)) (fun _ => ?_)
      refine x_iconst xc236_14 ?_
      refine x_iret xc236_15 (Or.inl rfl) ?_
      exact k3 h0 h2

theorem wb236a {ro : Nat → Nat × (Nat → Int32)} {d : Nat} {Q : Option Value → pmS → Prop} {p tn : Int} {a : xA} {b : xB} (hp : 1 ≤ p ∧ p ≤ 3) (htn : 0 ≤ tn ∧ tn ≤ 60)
    (k1 : pmCs ro d 227 [.ref 87, xV 0] (xS a b) fun r σ' => pmWp ro d 12 236 1 34 [some (.ref 87), some (xV p), some (xV tn), none, none, none] (r.toList ++ []) σ' Q) :
    pmWp ro d 12 236 1 29 [some (.ref 87), some (xV p), some (xV tn), none, none, none] [] (xS a b) Q := by
  refine x_aloadn xc236_29 rfl ?_
  refine x_iconst xc236_30 ?_
  refine x_cV (as := [xV 0]) (rest := []) xc236_31 rfl xi227 xz87 ⟨rfl, rfl⟩ rfl rfl ?_
  exact k1

theorem wb236b {ro : Nat → Nat × (Nat → Int32)} {d : Nat} {Q : Option Value → pmS → Prop} {p tn : Int} {a : xA} {b : xB} (hp : 1 ≤ p ∧ p ≤ 3) (htn : 0 ≤ tn ∧ tn ≤ 60)
    (k1 : pmWp ro d 12 236 1 39 [some (.ref 87), some (xV p), some (xV tn), some (xV 1), some (xV 1), none] [] (xS a b) Q) :
    pmWp ro d 12 236 1 34 [some (.ref 87), some (xV p), some (xV tn), none, none, none] [] (xS a b) Q := by
  refine x_iconst xc236_34 ?_
  refine x_istoren (pl' := [some (.ref 87), some (xV p), some (xV tn), some (xV 1), none, none]) xc236_35 rfl rfl ?_
  refine x_iconst xc236_36 ?_
  refine x_istore (pl' := [some (.ref 87), some (xV p), some (xV tn), some (xV 1), some (xV 1), none]) xc236_37 rfl rfl ?_
  exact k1

theorem wb236c {ro : Nat → Nat × (Nat → Int32)} {d : Nat} {Q : Option Value → pmS → Prop} {v5 : Option Value} {p tn ok i : Int} {a : xA} {b : xB} (hp : 1 ≤ p ∧ p ≤ 3) (htn : 0 ≤ tn ∧ tn ≤ 60) (hok : ok = 0 ∨ ok = 1) (hi : 1 ≤ i ∧ i ≤ 61)
    (k1 : (tn < i) → pmWp ro d 12 236 1 111 [some (.ref 87), some (xV p), some (xV tn), some (xV ok), some (xV i), v5] [] (xS a b) Q)
    (k2 : (¬ tn < i) → (ok = 0) → pmWp ro d 12 236 1 111 [some (.ref 87), some (xV p), some (xV tn), some (xV ok), some (xV i), v5] [] (xS a b) Q)
    (k3 : (¬ tn < i) → (¬ ok = 0) → pmCs ro d 233 [.ref 87, xV i, xV (-1), xV p] (xS a b) fun r σ' => pmWp ro d 12 236 1 57 [some (.ref 87), some (xV p), some (xV tn), some (xV ok), some (xV i), v5] (r.toList ++ []) σ' Q) :
    pmWp ro d 12 236 1 39 [some (.ref 87), some (xV p), some (xV tn), some (xV ok), some (xV i), v5] [] (xS a b) Q := by
  refine x_iload xc236_39 rfl ?_
  refine x_iloadn xc236_41 rfl ?_
  refine x_icgt xc236_42 (xRk (by have g0 := hi; omega)) (xRk (by have g0 := htn; omega)) (fun h0 => ?_) (fun h0 => ?_)
  · exact k1 h0
  · refine x_iloadn xc236_45 rfl ?_
    refine x_ifeq xc236_46 (xRk (by have g0 := hok; omega)) (fun h1 => ?_) (fun h1 => ?_)
    · exact k2 h0 h1
    · refine x_aloadn xc236_49 rfl ?_
      refine x_iload xc236_50 rfl ?_
      refine x_iconst xc236_52 ?_
      refine x_iloadn xc236_53 rfl ?_
      refine x_cV (as := [xV i, xV (-1), xV p]) (rest := []) xc236_54 rfl xi233 xz87 ⟨rfl, rfl⟩ rfl rfl ?_
      exact k3 h0 h1

theorem wb236d {ro : Nat → Nat × (Nat → Int32)} {d : Nat} {Q : Option Value → pmS → Prop} {v5 : Option Value} {p tn ok i : Int} {a : xA} {b : xB} (hp : 1 ≤ p ∧ p ≤ 3) (htn : 0 ≤ tn ∧ tn ≤ 60) (hok : ok = 0 ∨ ok = 1) (hi : 1 ≤ i ∧ i ≤ 61)
    (k1 : pmWp ro d 12 236 1 60 [some (.ref 87), some (xV p), some (xV tn), some (xV ok), some (xV i), some (xV 0)] [] (xS a b) Q) :
    pmWp ro d 12 236 1 57 [some (.ref 87), some (xV p), some (xV tn), some (xV ok), some (xV i), v5] [] (xS a b) Q := by
  refine x_iconst xc236_57 ?_
  refine x_istore (pl' := [some (.ref 87), some (xV p), some (xV tn), some (xV ok), some (xV i), some (xV 0)]) xc236_58 rfl rfl ?_
  exact k1

theorem wb236e {ro : Nat → Nat × (Nat → Int32)} {d : Nat} {Q : Option Value → pmS → Prop} {q p tn ok i : Int} {a : xA} {b : xB} (hp : 1 ≤ p ∧ p ≤ 3) (htn : 0 ≤ tn ∧ tn ≤ 60) (hok : ok = 0 ∨ ok = 1) (hi : 1 ≤ i ∧ i ≤ 61) (hq : 0 ≤ q ∧ q ≤ 4)
    (k1 : (4 ≤ q) → pmWp ro d 12 236 1 99 [some (.ref 87), some (xV p), some (xV tn), some (xV ok), some (xV i), some (xV q)] [] (xS a b) Q)
    (k2 : (¬ 4 ≤ q) → (ok = 0) → pmWp ro d 12 236 1 93 [some (.ref 87), some (xV p), some (xV tn), some (xV 0), some (xV i), some (xV q)] [] (xS a b) Q)
    (k3 : (¬ 4 ≤ q) → (¬ ok = 0) → (q = p) → pmWp ro d 12 236 1 93 [some (.ref 87), some (xV p), some (xV tn), some (xV 1), some (xV i), some (xV q)] [] (xS a b) Q)
    (k4 : (¬ 4 ≤ q) → (¬ ok = 0) → (¬ q = p) → pmCs ro d 234 [.ref 87, xV i, xV q] (xS a b) fun r σ' => pmWp ro d 12 236 1 84 [some (.ref 87), some (xV p), some (xV tn), some (xV ok), some (xV i), some (xV q)] (r.toList ++ []) σ' Q) :
    pmWp ro d 12 236 1 60 [some (.ref 87), some (xV p), some (xV tn), some (xV ok), some (xV i), some (xV q)] [] (xS a b) Q := by
  refine x_iload xc236_60 rfl ?_
  refine x_iconst xc236_62 ?_
  refine x_icge xc236_63 (xRk (by have g0 := hq; omega)) (xRk (by decide)) (fun h0 => ?_) (fun h0 => ?_)
  · exact k1 h0
  · refine x_iloadn xc236_66 rfl ?_
    refine x_ifeq xc236_67 (xRk (by have g0 := hok; omega)) (fun h1 => ?_) (fun h1 => ?_)
    · refine x_iconst xc236_91 ?_
      refine x_istoren (pl' := [some (.ref 87), some (xV p), some (xV tn), some (xV 0), some (xV i), some (xV q)]) xc236_92 rfl rfl ?_
      exact k2 h0 h1
    · refine x_iload xc236_70 rfl ?_
      refine x_iloadn xc236_72 rfl ?_
      refine x_iceq xc236_73 (xRk (by have g0 := hq; omega)) (xRk (by have g0 := hp; omega)) (fun h2 => ?_) (fun h2 => ?_)
      · refine x_iconst xc236_87 ?_
        refine x_goto xc236_88 ?_
        refine x_istoren (pl' := [some (.ref 87), some (xV p), some (xV tn), some (xV 1), some (xV i), some (xV q)]) xc236_92 rfl rfl ?_
        exact k3 h0 h1 h2
      · refine x_aloadn xc236_76 rfl ?_
        refine x_iload xc236_77 rfl ?_
        refine x_iload xc236_79 rfl ?_
        refine x_cV (as := [xV i, xV q]) (rest := []) xc236_81 rfl xi234 xz87 ⟨rfl, rfl⟩ rfl rfl ?_
        exact k4 h0 h1 h2

theorem wb236f {ro : Nat → Nat × (Nat → Int32)} {d : Nat} {Q : Option Value → pmS → Prop} {z q p tn ok i : Int} {a : xA} {b : xB} (hp : 1 ≤ p ∧ p ≤ 3) (htn : 0 ≤ tn ∧ tn ≤ 60) (hok : ok = 0 ∨ ok = 1) (hi : 1 ≤ i ∧ i ≤ 61) (hq : 0 ≤ q ∧ q ≤ 4) (hzz : z = 0 ∨ z = 1)
    (k1 : (¬ z = 0) → pmWp ro d 12 236 1 93 [some (.ref 87), some (xV p), some (xV tn), some (xV 0), some (xV i), some (xV q)] [] (xS a b) Q)
    (k2 : (z = 0) → pmWp ro d 12 236 1 93 [some (.ref 87), some (xV p), some (xV tn), some (xV 1), some (xV i), some (xV q)] [] (xS a b) Q) :
    pmWp ro d 12 236 1 84 [some (.ref 87), some (xV p), some (xV tn), some (xV ok), some (xV i), some (xV q)] [xV z] (xS a b) Q := by
  refine x_ifne xc236_84 (xRk (by have g0 := hzz; omega)) (fun h0 => ?_) (fun h0 => ?_)
  · refine x_iconst xc236_91 ?_
    refine x_istoren (pl' := [some (.ref 87), some (xV p), some (xV tn), some (xV 0), some (xV i), some (xV q)]) xc236_92 rfl rfl ?_
    exact k1 h0
  · replace h0 := Classical.not_not.mp h0
    refine x_iconst xc236_87 ?_
    refine x_goto xc236_88 ?_
    refine x_istoren (pl' := [some (.ref 87), some (xV p), some (xV tn), some (xV 1), some (xV i), some (xV q)]) xc236_92 rfl rfl ?_
    exact k2 h0

theorem wb236n {ro : Nat → Nat × (Nat → Int32)} {d : Nat} {Q : Option Value → pmS → Prop} {q p tn ok i : Int} {a : xA} {b : xB} (hp : 1 ≤ p ∧ p ≤ 3) (htn : 0 ≤ tn ∧ tn ≤ 60) (hok : ok = 0 ∨ ok = 1) (hi : 1 ≤ i ∧ i ≤ 61) (hq : 0 ≤ q ∧ q ≤ 3)
    (k1 : pmWp ro d 12 236 1 60 [some (.ref 87), some (xV p), some (xV tn), some (xV ok), some (xV i), some (xV (q + 1))] [] (xS a b) Q) :
    pmWp ro d 12 236 1 93 [some (.ref 87), some (xV p), some (xV tn), some (xV ok), some (xV i), some (xV q)] [] (xS a b) Q := by
  refine x_iinc (pl' := [some (.ref 87), some (xV p), some (xV tn), some (xV ok), some (xV i), some (xV (q + 1))]) xc236_93 rfl rfl ?_
  refine x_goto xc236_96 ?_
  exact k1

theorem wb236g {ro : Nat → Nat × (Nat → Int32)} {d : Nat} {Q : Option Value → pmS → Prop} {q p tn ok i : Int} {a : xA} {b : xB} (hp : 1 ≤ p ∧ p ≤ 3) (htn : 0 ≤ tn ∧ tn ≤ 60) (hok : ok = 0 ∨ ok = 1) (hi : 1 ≤ i ∧ i ≤ 61) (hq : 0 ≤ q ∧ q ≤ 4)
    (k1 : pmCs ro d 235 [.ref 87, xV i] (xS a b) fun r σ' => pmWp ro d 12 236 1 105 [some (.ref 87), some (xV p), some (xV tn), some (xV ok), some (xV i), some (xV q)] (r.toList ++ []) σ' Q) :
    pmWp ro d 12 236 1 99 [some (.ref 87), some (xV p), some (xV tn), some (xV ok), some (xV i), some (xV q)] [] (xS a b) Q := by
  refine x_aloadn xc236_99 rfl ?_
  refine x_iload xc236_100 rfl ?_
  refine x_cV (as := [xV i]) (rest := []) xc236_102 rfl xi235 xz87 ⟨rfl, rfl⟩ rfl rfl ?_
  exact k1

theorem wb236h {ro : Nat → Nat × (Nat → Int32)} {d : Nat} {Q : Option Value → pmS → Prop} {q p tn ok i : Int} {a : xA} {b : xB} (hp : 1 ≤ p ∧ p ≤ 3) (htn : 0 ≤ tn ∧ tn ≤ 60) (hok : ok = 0 ∨ ok = 1) (hi : 1 ≤ i ∧ i ≤ 61) (hq : 0 ≤ q ∧ q ≤ 4)
    (k1 : pmWp ro d 12 236 1 39 [some (.ref 87), some (xV p), some (xV tn), some (xV ok), some (xV (i + 1)), some (xV q)] [] (xS a b) Q) :
    pmWp ro d 12 236 1 105 [some (.ref 87), some (xV p), some (xV tn), some (xV ok), some (xV i), some (xV q)] [] (xS a b) Q := by
  refine x_iinc (pl' := [some (.ref 87), some (xV p), some (xV tn), some (xV ok), some (xV (i + 1)), some (xV q)]) xc236_105 rfl rfl ?_
  refine x_goto xc236_108 ?_
  exact k1

theorem wb236i {ro : Nat → Nat × (Nat → Int32)} {d : Nat} {Q : Option Value → pmS → Prop} {v5 : Option Value} {p tn ok i : Int} {a : xA} {b : xB} (hp : 1 ≤ p ∧ p ≤ 3) (htn : 0 ≤ tn ∧ tn ≤ 60) (hok : ok = 0 ∨ ok = 1) (hi : 1 ≤ i ∧ i ≤ 61)
    (k1 : pmCs ro d 227 [.ref 87, xV 1] (xS a b) fun r σ' => pmWp ro d 12 236 1 116 [some (.ref 87), some (xV p), some (xV tn), some (xV ok), some (xV i), v5] (r.toList ++ []) σ' Q) :
    pmWp ro d 12 236 1 111 [some (.ref 87), some (xV p), some (xV tn), some (xV ok), some (xV i), v5] [] (xS a b) Q := by
  refine x_aloadn xc236_111 rfl ?_
  refine x_iconst xc236_112 ?_
  refine x_cV (as := [xV 1]) (rest := []) xc236_113 rfl xi227 xz87 ⟨rfl, rfl⟩ rfl rfl ?_
  exact k1

theorem wb236j {ro : Nat → Nat × (Nat → Int32)} {d : Nat} {Q : Option Value → pmS → Prop} {v5 : Option Value} {p tn ok i : Int} {a : xA} {b : xB} (hp : 1 ≤ p ∧ p ≤ 3) (htn : 0 ≤ tn ∧ tn ≤ 60) (hok : ok = 0 ∨ ok = 1) (hi : 1 ≤ i ∧ i ≤ 61)
    (k1 : (ok = 0) → Q (some (xV 0)) (xS a b))
    (k2 : (¬ ok = 0) → Q (some (xV 1)) (xS a b)) :
    pmWp ro d 12 236 1 116 [some (.ref 87), some (xV p), some (xV tn), some (xV ok), some (xV i), v5] [] (xS a b) Q := by
  refine x_iloadn xc236_116 rfl ?_
  refine x_ifeq xc236_117 (xRk (by have g0 := hok; omega)) (fun h0 => ?_) (fun h0 => ?_)
  · refine x_iconst xc236_124 ?_
    refine x_iret xc236_125 (Or.inl rfl) ?_
    exact k1 h0
  · refine x_iconst xc236_120 ?_
    refine x_goto xc236_121 ?_
    refine x_iret xc236_125 (Or.inl rfl) ?_
    exact k2 h0

end
end
section
/-! replays of the reference, by rows -/
section
set_option maxRecDepth 100000


section
variable {Ln : Nat} {xs : Nat → Int32} {ro : Nat → Nat × (Nat → Int32)} {d w : Nat} {Q : Option Value → pmS → Prop} {dr wp co pr cnt W : Int → Int} {T : Int → List Int} {n m t wh k x c cd wt wi p id M L sw ws dn z tt bg : Int} {r r' R : Int → Int} {D C AC : Int → Int} {O O' : Int → Prop} {a a' a'' a0 : xA} {b b' b'' b0 : xB}
theorem uKdo_q (e : uRq r r') (hcd : -1 ≤ cd ∧ cd < 61) : uKdo dr wp n r' cd = uKdo dr wp n r cd := by
  have h := uCa_q (dr := dr) (wp := wp) (n := n) (p := 0) (uWs_q (n := n) e) (by decide) hcd
  by_cases c : uCa dr wp n 0 (uWs n r) cd
  · rw [uKdo_y c, uKdo_y (h.mpr c)]
  · rw [uKdo_n c, uKdo_n (fun g => c (h.mp g))]
theorem uDn_q (e : uRq r r') (hp : 0 ≤ p ∧ p ≤ 3) : uDn p r' = uDn p r := by
  unfold uDn
  rw [e p (by omega)]
theorem uCn2_q (hn5 : n ≤ 5) (e : uRq r r') (hp : 0 ≤ p ∧ p ≤ 3) : uCn2 dr wp pr cnt W T n cd wt p r' = uCn2 dr wp pr cnt W T n cd wt p r := by
  unfold uCn2
  rw [e p (by omega), uDc_q hn5 e hp]
theorem uBqr_q (e : uRq r r') (h : uBqr t r) : uBqr t r' := by
  unfold uBqr
  rw [e 114 (by decide), e 115 (by decide), e 116 (by decide), e 117 (by decide), e 118 (by decide), e 119 (by decide)]
  exact h
theorem uAy_q (hn0 : 0 ≤ n ∧ n ≤ 5) (e : uRq r r') (hr : uRv n r) (hc : 0 ≤ c ∧ c ≤ 56) : uRq (uAy dr n c r) (uAy dr n c r') := by
  by_cases h : uAc dr n c r
  · rw [uAy_y h, uAy_y ((uAc_q e hr hc).mpr h)]
    exact uAx_q hn0 e hr hc
  · rw [uAy_n h, uAy_n (fun g => h ((uAc_q e hr hc).mp g))]
    exact e
/-- what is recorded by the reference, and what may be recorded -/
def uRef (L : Int) (D C AC : Int → Int) (a : xA) : Prop := (∀ t p, 1 ≤ t → t ≤ L → 0 ≤ p → p < 4 → a 124 (4 * t + p) = D (4 * t + p) ∧ a 120 (4 * t + p) = C (4 * t + p)) ∧ ∀ t, 1 ≤ t → t ≤ L → a 123 t = AC t
def uRgs (L : Int) (C AC : Int → Int) : Prop := (∀ t, 1 ≤ t → t ≤ L → -1 ≤ C (4 * t) ∧ C (4 * t) < 61) ∧ ∀ t, 1 ≤ t → t ≤ L → 0 ≤ AC t ∧ AC t ≤ 56
theorem uRef_o (h : uRef L D C AC a) (f : uPq a a' b b') : uRef L D C AC a' := ⟨fun t p t1 t2 p0 p1 => by
  rw [f.1 124 _ (by decide) (by decide) (by decide) (by decide) (by decide) (by decide) (by decide) (by decide) (by decide) (by decide) (by decide) (by decide) (by decide) (by omega), f.1 120 _ (by decide) (by decide) (by decide) (by decide) (by decide) (by decide) (by decide) (by decide) (by decide) (by decide) (by decide) (by decide) (by decide) (by omega)]
  exact h.1 t p t1 t2 p0 p1, fun t t1 t2 => by
  rw [f.1 123 _ (by decide) (by decide) (by decide) (by decide) (by decide) (by decide) (by decide) (by decide) (by decide) (by decide) (by decide) (by decide) (by decide) (by omega)]
  exact h.2 t t1 t2⟩
/-- a replay of the reference has come to row r -/
def uRst (dr wp pr cnt W : Int → Int) (T : Int → List Int) (n : Int) (R : Int → Int) (a0 a : xA) (b0 b : xB) (r : Int → Int) : Prop := uPq a0 a b0 b ∧ uSx dr wp pr cnt W T n a b ∧ uRq r (a 88) ∧ (∀ j, j < 0 ∨ 120 ≤ j → a 88 j = R j) ∧ uShl 1 R a ∧ ∀ j, j < 120 → a 89 j = a0 89 j
/-- playsAnew -/
theorem u233 (hK : uRk pr cnt W T) (hn0 : 0 ≤ n ∧ n ≤ 5) (hS : uRst dr wp pr cnt W T n R a0 a b0 b r) (hr : uRv n r) (hB : uBqr tt r) (htt : 0 ≤ tt ∧ tt ≤ 60) (hF : uRef L D C AC a0) (hG : uRgs L C AC) (ht : 1 ≤ t ∧ t ≤ 60) (htL : t ≤ L) (qwi : xR wi) (hwt : -1 ≤ wt ∧ wt ≤ 3) (hd : 8 ≤ d) (hQ : ∀ a' b', uRst dr wp pr cnt W T n R a0 a' b0 b' (uTu dr wp pr cnt W T n (uRco dr wp n C wi t r) wt r) → (∀ q : Nat, q < 4 → a' 119 q = uDn q (uTr dr wp pr cnt W T n (uRco dr wp n C wi t r) wt r q) ∧ a' 116 q = uCn2 dr wp pr cnt W T n (uRco dr wp n C wi t r) wt q (uTr dr wp pr cnt W T n (uRco dr wp n C wi t r) wt r q)) → Q none (xS a' b')) : pmCs ro d 233 [.ref 87, xV t, xV wi, xV wt] (xS a b) Q := by
  obtain ⟨s1, s2, s3, s4, s5, s6⟩ := hS
  have hv : uRv n (a 88) := uRv_lo hn0.2 hr (fun j hj => s3 j (Or.inl hj))
  have hB2 := uBqr_q s3 hB
  have hF2 := uRef_o hF s1
  obtain ⟨cd, ecd⟩ : ∃ cd, (if t = wi then -1 else C (4 * t)) = cd := ⟨_, rfl⟩
  have hcd : -1 ≤ cd ∧ cd < 61 := by
    rw [← ecd]
    split
    · decide
    · exact hG.1 t ht.1 htL
  have hcp := uKdo_p (dr := dr) (wp := wp) hr hcd
  have hcp2 := uKdo_p (dr := dr) (wp := wp) hv hcd
  rw [uKdo_q s3 hcd] at hcp2
  obtain ⟨ko, eko⟩ : ∃ ko, uKdo dr wp n r cd = ko := ⟨_, rfl⟩
  have eco : uRco dr wp n C wi t r = ko := by
    unfold uRco
    rw [ecd, eko]
  rw [eco] at hQ
  rw [eko] at hcp hcp2
  have e120 : a 120 (4 * t) = C (4 * t) := by
    have h := (hF2.1 t 0 ht.1 htL (by decide) (by decide)).2
    rw [show 4 * t + 0 = 4 * t by omega] at h
    exact h
  have fin : ∀ c2 : Int, pmCs ro 7 208 [.ref 87, xV ko, xV wt] (xS a b) (fun r' s' => pmWp ro 7 12 233 0 46 [some (.ref 87), some (xV t), some (xV wi), some (xV wt), some (xV c2)] (r'.toList ++ []) s' Q) := by
    intro c2
    obtain ⟨h1, h2, h3, h4⟩ := s2
    obtain ⟨b1, b2, b3, b4, b5, b6⟩ := hB2
    refine u208 hK h1 hv h2 h3 (by omega) (by omega) (hcp2.elim Or.inl (fun h => Or.inr ⟨h.1, fun e => uCp_d (h.2 e)⟩)) hwt (by decide) (fun a' b' f1 B1 V1 M1 L1 R1 e114 e115 e119 e119b E1 => ?_)
    obtain ⟨R88, eR⟩ : ∃ R88, a 88 = R88 := ⟨_, rfl⟩
    rw [eR] at hv R1 e114 e119 E1 hcp2 s3 s4
    have v := uTr_v (dr := dr) (wp := wp) (pr := pr) (cnt := cnt) (W := W) (T := T) (wt := wt) hn0 hv hcp2 4 (by decide)
    have nn := uTr_n (dr := dr) (wp := wp) (pr := pr) (cnt := cnt) (W := W) (T := T) (wt := wt) hn0 hv hcp2 4 (by decide)
    have cg := uTr_q (dr := dr) (wp := wp) (pr := pr) (cnt := cnt) (W := W) (T := T) (wt := wt) hn0 hr hcp s3
    have tq := uTu_q (dr := dr) (wp := wp) (pr := pr) (cnt := cnt) (W := W) (T := T) (wt := wt) hn0 hr hcp s3
    refine w233b (hQ a' b' ⟨uPq_t s1 (uPq_m f1), ⟨B1, M1, L1, fun i i0 i1 => by rw [f1.1 100 i (by decide) (by decide) (by decide) (by decide) (by decide) (by decide) (by decide) (by decide) (by decide) (by decide) (by decide) (by decide) (by omega)]; exact h4 i i0 i1⟩, ?_, fun j hj => ?_, ?_, ?_⟩ (fun q hq => ?_))
    · refine uRq_t tq (fun j hj => ?_)
      unfold uTu
      by_cases c1 : j = 114
      · rw [if_pos c1, c1, e114]
      rw [if_neg c1]
      by_cases c2 : j = 115
      · rw [if_pos c2, c2, e115]
      rw [if_neg c2]
      exact R1 j (by omega)
    · rw [← s4 j hj]
      rcases hj with hj | hj
      · exact (R1 j (Or.inl (by omega))).trans (nn j hj)
      · exact (R1 j (by omega)).trans (v.2 j (by omega) (by omega))
    · exact fun j j0 j1 => by rw [f1.1 89 _ (by decide) (by decide) (by decide) (by decide) (by decide) (by decide) (by decide) (by decide) (by decide) (by decide) (by decide) (by decide) (by omega)]; exact s5 j j0 j1
    · exact fun j hj => by rw [f1.1 89 _ (by decide) (by decide) (by decide) (by decide) (by decide) (by decide) (by decide) (by decide) (by decide) (by decide) (by decide) (by decide) (by omega)]; exact s6 j hj
    · have hE := E1 q hq
      have cq := cg q (by omega)
      have hq3 : 0 ≤ (q : Int) ∧ (q : Int) ≤ 3 := by omega
      have e1 := uDn_q (p := (q : Int)) cq hq3
      have e2 := uCn2_q (dr := dr) (wp := wp) (pr := pr) (cnt := cnt) (W := W) (T := T) (cd := ko) (wt := wt) (p := (q : Int)) hn0.2 cq hq3
      exact ⟨hE.1.trans e1, hE.2.1.trans e2⟩
  refine pmCs_deep (d := 8) (xg233 (w233 ht qwi s2.1.1 (fun h1 h2 => ?_) (fun h1 h2 => ?_) (fun h1 => ?_))) hd
  · rw [if_neg h1, ← e120, h2] at ecd
    have : ko = -1 := by
      rw [← eko, ← ecd]
      by_cases g : uCa dr wp n 0 (uWs n r) (-1)
      · rw [uKdo_y g]
      · rw [uKdo_n g]
    rw [← this]
    exact fin _
  · rw [if_neg h1, ← e120] at ecd
    rw [ecd] at h2 ⊢
    refine pmCs_deep (d := 2) (u206 s2.1.1 s2.1.2.1 s2.1.2.2.1 hv (by decide) (by omega) (by decide) (fun hc => ?_) (fun hc => ?_)) (by decide)
    · have hc' := (uCa_q (dr := dr) (wp := wp) (n := n) (p := 0) (uWs_q (n := n) s3) (by decide) hcd).mp hc
      refine w233a (by decide) (fun e => absurd e (by decide)) (fun _ => ?_)
      have : ko = cd := by rw [← eko, uKdo_y hc']
      rw [← this]
      exact fin _
    · have hc' : ¬ uCa dr wp n 0 (uWs n r) cd := fun g => hc ((uCa_q (dr := dr) (wp := wp) (n := n) (p := 0) (uWs_q (n := n) s3) (by decide) hcd).mpr g)
      refine w233a (by decide) (fun _ => ?_) (fun e => absurd rfl e)
      have : ko = -1 := by rw [← eko, uKdo_n hc']
      have f := fin cd
      rw [this] at f
      exact f
  · rw [if_pos h1] at ecd
    have : ko = -1 := by
      rw [← eko, ← ecd]
      by_cases g : uCa dr wp n 0 (uWs n r) (-1)
      · rw [uKdo_y g]
      · rw [uKdo_n g]
    rw [← this]
    exact fin _
/-- isOther -/
theorem u234 {q : Nat} (hq : q < 4) (hS : uRst dr wp pr cnt W T n R a0 a b0 b r') (hF : uRef L D C AC a0) (ht : 1 ≤ t ∧ t ≤ 60) (htL : t ≤ L) (hE : a 119 q = uDn q (uTr dr wp pr cnt W T n (uRco dr wp n C wi t r) wt r q) ∧ a 116 q = uCn2 dr wp pr cnt W T n (uRco dr wp n C wi t r) wt q (uTr dr wp pr cnt W T n (uRco dr wp n C wi t r) wt r q)) (hd : 1 ≤ d) (hT : uOth dr wp pr cnt W T n D C wi wt t r q → Q (some (xV 1)) (xS a b)) (hN : ¬ uOth dr wp pr cnt W T n D C wi wt t r q → Q (some (xV 0)) (xS a b)) : pmCs ro d 234 [.ref 87, xV t, xV q] (xS a b) Q := by
  have hF2 := uRef_o hF hS.1
  have hq3 : 0 ≤ (q : Int) ∧ (q : Int) ≤ 3 := by omega
  obtain ⟨g1, g2⟩ := hF2.1 t q ht.1 htL hq3.1 (by omega)
  have ho : uOth dr wp pr cnt W T n D C wi wt t r q ↔ ¬ (a 124 (4 * t + q) = a 119 q ∧ a 120 (4 * t + q) = a 116 q) := by
    unfold uOth
    rw [g1, g2, hE.1, hE.2, show (q : Int).toNat = q from rfl]
  refine pmCs_deep (d := 1) (xg234 (w234 ht hq3 hS.2.1.1.1 (fun h => ?_) (fun h1 h2 => ?_) (fun h1 h2 => ?_))) hd
  · exact hT (ho.mpr (fun g => h g.1))
  · exact hN (fun g => ho.mp g ⟨h1, h2⟩)
  · exact hT (ho.mpr (fun g => h2 g.2))
/-- actsAnew -/
theorem u235 (hn0 : 0 ≤ n ∧ n ≤ 5) (hS : uRst dr wp pr cnt W T n R a0 a b0 b r) (hr : uRv n r) (hB : uBqr tt r) (htt : 0 ≤ tt ∧ tt ≤ 61) (hF : uRef L D C AC a0) (hG : uRgs L C AC) (ht : 1 ≤ t ∧ t ≤ 60) (htL : t ≤ L) (hd : 5 ≤ d) (hQ : ∀ a' b', uRst dr wp pr cnt W T n R a0 a' b0 b' (uAy dr n (AC t) r) → Q none (xS a' b')) : pmCs ro d 235 [.ref 87, xV t] (xS a b) Q := by
  obtain ⟨s1, s2, s3, s4, s5, s6⟩ := hS
  have hv : uRv n (a 88) := uRv_lo hn0.2 hr (fun j hj => s3 j (Or.inl hj))
  obtain ⟨b1, b2, b3, b4, b5, b6⟩ := uBqr_q s3 hB
  have e123 := (uRef_o hF s1).2 t ht.1 htL
  have hc := hG.2 t ht.1 htL
  refine pmCs_deep (d := 5) (xg235 (w235 ht s2.1.1 ?_)) hd
  rw [e123]
  refine pmCs_deep (d := 4) (u217 s2.1.1 s2.1.2.1.2.1 hn0 s2.1.2.2.1 hv (by omega) b2 hc (by decide) (fun h => w235a ht (by decide) s2.1.1 (fun e => absurd e (by decide)) (fun _ => ?_)) (fun h => w235a ht (by decide) s2.1.1 (fun _ => ?_) (fun e => absurd rfl e))) (by decide)
  · rw [e123]
    refine u221 s2.1.1 s2.1.2.1.2.1 hn0 hv (by omega) (by omega) (by omega) hc (by decide) (fun a' f1 A1 e88 => w235b ?_)
    refine hQ a' b ⟨uPq_t s1 (uPq_8 (fun q j _ e => f1 q j e)), uSx_8 s2 A1 (fun q j _ e => f1 q j e), ?_, fun j hj => ?_, fun j j0 j1 => by rw [f1 89 _ (by decide)]; exact s5 j j0 j1, fun j hj => by rw [f1 89 _ (by decide)]; exact s6 j hj⟩
    · have := uAy_q (dr := dr) hn0 s3 hr hc
      rw [uAy_y h] at this
      rw [e88]
      exact this
    · rw [e88, uAx_n hn0 hv hc hj]
      exact s4 j hj
  · refine hQ a b ⟨s1, s2, ?_, s4, s5, s6⟩
    have := uAy_q (dr := dr) hn0 s3 hr hc
    rw [uAy_n h] at this
    exact this
end
end
end
section
/-! otherwise and needless -/
section
set_option maxRecDepth 100000


section
variable {Ln : Nat} {xs : Nat → Int32} {ro : Nat → Nat × (Nat → Int32)} {d w : Nat} {Q : Option Value → pmS → Prop} {dr wp co pr cnt W : Int → Int} {T : Int → List Int} {n m t wh k x c cd wt wi p id M L sw ws dn z tt bg : Int} {r r' R : Int → Int} {D C AC : Int → Int} {O O' : Int → Prop} {a a' a'' a0 : xA} {b b' b'' b0 : xB}
theorem uOnn_m : ∀ u t : Nat, uOnn dr wp pr cnt W T n D C AC wi wt M R t ≤ uOnn dr wp pr cnt W T n D C AC wi wt M R (t + u)
  | 0, t => Int.le_refl _
  | u + 1, t => by
    have h := uOnn_m u t
    have g := (uOq_b (M := M) (O := uOth dr wp pr cnt W T n D C wi wt ((t + u + 1 : Nat) : Int) (uRpl dr wp pr cnt W T n C AC wi wt R (t + u))) 4).1
    have e : uOnn dr wp pr cnt W T n D C AC wi wt M R (t + (u + 1)) = uOnn dr wp pr cnt W T n D C AC wi wt M R (t + u) + uOq M (uOth dr wp pr cnt W T n D C wi wt ((t + u + 1 : Nat) : Int) (uRpl dr wp pr cnt W T n C AC wi wt R (t + u))) 4 := rfl
    rw [e]
    omega
theorem uOnn_p {i : Nat} : uOnn dr wp pr cnt W T n D C AC wi wt M R (i + 1) = uOnn dr wp pr cnt W T n D C AC wi wt M R i + uOq M (uOth dr wp pr cnt W T n D C wi wt ((i + 1 : Nat) : Int) (uRpl dr wp pr cnt W T n C AC wi wt R i)) 4 := rfl
theorem uRpl_p {i : Nat} : uRpl dr wp pr cnt W T n C AC wi wt R (i + 1) = uAy dr n (AC ((i + 1 : Nat) : Int)) (uTu dr wp pr cnt W T n (uRco dr wp n C wi ((i + 1 : Nat) : Int) (uRpl dr wp pr cnt W T n C AC wi wt R i)) wt (uRpl dr wp pr cnt W T n C AC wi wt R i)) := rfl
theorem uRco_w (ht : 1 ≤ t) (h1 : wi ≤ 0) (h2 : k ≤ 0) : uRco dr wp n C wi t r = uRco dr wp n C k t r := by
  unfold uRco
  rw [if_neg (show ¬ t = wi by omega), if_neg (show ¬ t = k by omega)]
theorem uRpl_w (h1 : wi ≤ 0) (h2 : k ≤ 0) : ∀ t : Nat, uRpl dr wp pr cnt W T n C AC wi wt R t = uRpl dr wp pr cnt W T n C AC k wt R t
  | 0 => rfl
  | t + 1 => by rw [uRpl_p, uRpl_p, uRpl_w h1 h2 t, uRco_w (show (1 : Int) ≤ ((t + 1 : Nat) : Int) by omega) h1 h2]
theorem uOnn_w (h1 : wi ≤ 0) (h2 : k ≤ 0) : ∀ t : Nat, uOnn dr wp pr cnt W T n D C AC wi wt M R t = uOnn dr wp pr cnt W T n D C AC k wt M R t
  | 0 => rfl
  | t + 1 => by
    rw [uOnn_p, uOnn_p, uRpl_w h1 h2 t, uOnn_w h1 h2 t]
    unfold uOth
    rw [uRco_w (show (1 : Int) ≤ ((t + 1 : Nat) : Int) by omega) h1 h2]
/-- rows of a replay where what may be recorded is -/
theorem uRpl_g (hn0 : 0 ≤ n ∧ n ≤ 5) (hr : uRv n R) (hB : uBqr 0 R) (hL : L ≤ 60) (hG : uRgs L C AC) : ∀ t : Nat, (t : Int) ≤ L → uRv n (uRpl dr wp pr cnt W T n C AC wi wt R t) ∧ uBqr t (uRpl dr wp pr cnt W T n C AC wi wt R t) := by
  intro t
  induction t with
  | zero => exact fun _ => ⟨hr, hB⟩
  | succ t ih =>
    intro ht
    obtain ⟨g1, g2⟩ := ih (by omega)
    have hcd : -1 ≤ (if ((t + 1 : Nat) : Int) = wi then -1 else C (4 * ((t + 1 : Nat) : Int))) ∧ (if ((t + 1 : Nat) : Int) = wi then -1 else C (4 * ((t + 1 : Nat) : Int))) < 61 := by
      split
      · decide
      · exact hG.1 _ (by omega) ht
    have h := uRpl_s (dr := dr) (wp := wp) (pr := pr) (cnt := cnt) (W := W) (T := T) (wt := wt) (c := AC ((t + 1 : Nat) : Int)) hn0 (by omega) g1 g2 (uKdo_p (dr := dr) (wp := wp) g1 hcd) (hG.2 _ (by omega) ht)
    exact h.2
/-- the row behind a turn of a replay -/
theorem uRpl_u (hn0 : 0 ≤ n ∧ n ≤ 5) (hr : uRv n R) (hB : uBqr 0 R) (hL : L ≤ 60) (hG : uRgs L C AC) (i : Nat) (hi : ((i + 1 : Nat) : Int) ≤ L) : uRv n (uTu dr wp pr cnt W T n (uRco dr wp n C wi ((i + 1 : Nat) : Int) (uRpl dr wp pr cnt W T n C AC wi wt R i)) wt (uRpl dr wp pr cnt W T n C AC wi wt R i)) ∧ uBqr ((i + 1 : Nat) : Int) (uTu dr wp pr cnt W T n (uRco dr wp n C wi ((i + 1 : Nat) : Int) (uRpl dr wp pr cnt W T n C AC wi wt R i)) wt (uRpl dr wp pr cnt W T n C AC wi wt R i)) := by
  obtain ⟨g1, g2⟩ := uRpl_g (dr := dr) (wp := wp) (pr := pr) (cnt := cnt) (W := W) (T := T) (wi := wi) (wt := wt) hn0 hr hB hL hG i (by omega)
  have hcd : -1 ≤ (if ((i + 1 : Nat) : Int) = wi then -1 else C (4 * ((i + 1 : Nat) : Int))) ∧ (if ((i + 1 : Nat) : Int) = wi then -1 else C (4 * ((i + 1 : Nat) : Int))) < 61 := by
    split
    · decide
    · exact hG.1 _ (by omega) hi
  have h := uRpl_s (dr := dr) (wp := wp) (pr := pr) (cnt := cnt) (W := W) (T := T) (wt := wt) (c := AC ((i + 1 : Nat) : Int)) hn0 (by omega) g1 g2 (uKdo_p (dr := dr) (wp := wp) g1 hcd) (hG.2 _ (by omega) hi)
  exact h.1
theorem uRst_i (hS : uSx dr wp pr cnt W T n a b) (h0 : uShl 0 R a) (ho : ∀ j, j < 0 ∨ 120 ≤ j → a 88 j = R j) : uRst dr wp pr cnt W T n (a 88) a (uTa 0 (uLa 1 a)) b b R := by
  have e88 : ∀ j, (uLa 1 a) 88 j = a 88 j := fun j => uLa_n (by decide)
  have sh : uShl 0 R (uLa 1 a) := fun j j0 j1 => by
    rw [uLa_lo (by omega)]
    exact h0 j j0 j1
  have er : (uTa 0 (uLa 1 a)) 88 = R := uTa_row sh (fun j hj => by rw [e88]; exact ho j hj)
  have e1 : ∀ q j, ¬ q = 89 → q ≠ 88 → (uTa 0 (uLa 1 a)) q j = a q j := fun q j h1 h2 => (uTa_n h2).trans (uLa_n h1)
  refine ⟨uPq_8 e1, uSx_8 hS (xAr_ta (xAr_la hS.1.1)) e1, by rw [er]; exact uRq_r, fun j hj => ?_, fun j j0 j1 => ?_, fun j hj => ?_⟩
  · rw [er, ho j hj]
  · rw [uTa_n (by decide)]
    exact uLa_s j j0 j1
  · rw [uTa_n (by decide), uLa_lo (by omega)]
theorem uRst_f (h : uRst dr wp pr cnt W T n (a 88) a a' b b' r) : uKq dr wp pr cnt W T n a (uTa 1 a') b b' := ⟨uPq_t h.1 (uPq_8 (fun q j _ e => uTa_n e)), uSx_8 h.2.1 (xAr_ta h.2.1.1.1) (fun q j _ e => uTa_n e), uTa_row h.2.2.2.2.1 h.2.2.2.1, fun j hj => by
  rw [uTa_n (by decide)]
  exact h.2.2.2.2.2 j hj⟩
/-- otherwise of the reference -/
theorem u232 (qr1 : xR t) (hK : uRk pr cnt W T) (hn0 : 0 ≤ n ∧ n ≤ 5) (hS : uSx dr wp pr cnt W T n a b) (h0 : uShl 0 R a) (ho : ∀ j, j < 0 ∨ 120 ≤ j → a 88 j = R j) (hr : uRv n R) (hB : uBqr 0 R) (hb : a 87 4 = bg) (hbg : bg = 0 ∨ bg = 1) (ht : a 88 114 = L) (hL : 0 ≤ L ∧ L ≤ 60) (hF : uRef L D C AC a) (hG : uRgs L C AC) (hd : 9 ≤ d) (hN : bg = 0 ∨ ¬ (1 ≤ t ∧ t ≤ L) → Q (some (xV (-1))) (xS a b)) (hQ : ¬ bg = 0 → 1 ≤ t ∧ t ≤ L → ∀ a' b', uKq dr wp pr cnt W T n a a' b b' → Q (some (xV (uOnn dr wp pr cnt W T n D C AC t (-1) 14 R L.toNat))) (xS a' b')) : pmCs ro d 232 [.ref 87, xV t] (xS a b) Q := by
  refine pmCs_deep (d := 9) (xg232 (wb232 qr1 hb hbg ht hL (by decide) (fun h => hN (Or.inl h)) (fun h1 h2 => ?_) (fun _ h => hN (Or.inr h)))) hd
  have loop : ∀ (u k : Nat) (a2 : xA) (b2 : xB) (v5 : Option Value), (k : Int) + (u : Int) = L → uRst dr wp pr cnt W T n (a 88) a a2 b b2 (uRpl dr wp pr cnt W T n C AC t (-1) R k) → pmWp ro 8 12 232 1 41 [some (.ref 87), some (xV t), some (xV L), some (xV (uOnn dr wp pr cnt W T n D C AC t (-1) 14 R k)), some (xV ((k + 1 : Nat) : Int)), v5] [] (xS a2 b2) Q := by
    intro u
    induction u with
    | zero =>
      intro k a2 b2 v5 hk S2
      have hb := uOnn_b (dr := dr) (wp := wp) (pr := pr) (cnt := cnt) (W := W) (T := T) (n := n) (D := D) (C := C) (AC := AC) (wi := t) (wt := -1) (M := 14) (R := R) k
      have hch : 0 ≤ uOnn dr wp pr cnt W T n D C AC t (-1) 14 R k ∧ uOnn dr wp pr cnt W T n D C AC t (-1) 14 R k ≤ 1000 := by omega
      have hi : 1 ≤ ((k + 1 : Nat) : Int) ∧ ((k + 1 : Nat) : Int) ≤ 61 := by omega
      have f := hQ h1 h2 _ b2 (uRst_f S2)
      rw [show L.toNat = k by omega] at f
      exact wb232c hL hch hi (fun _ => wb232i hL hch hi (u227 (by decide) (by decide) (wb232j hL hch hi f))) (fun e => absurd (by omega) e)
    | succ u ih =>
      intro k a2 b2 v5 hk S2
      have hb := uOnn_b (dr := dr) (wp := wp) (pr := pr) (cnt := cnt) (W := W) (T := T) (n := n) (D := D) (C := C) (AC := AC) (wi := t) (wt := -1) (M := 14) (R := R) k
      obtain ⟨g1, g2⟩ := uRpl_g (dr := dr) (wp := wp) (pr := pr) (cnt := cnt) (W := W) (T := T) (wi := t) (wt := -1) hn0 hr hB hL.2 hG k (by omega)
      obtain ⟨y1, y2⟩ := uRpl_u (dr := dr) (wp := wp) (pr := pr) (cnt := cnt) (W := W) (T := T) (wi := t) (wt := -1) hn0 hr hB hL.2 hG k (by omega)
      have ih := ih (k + 1)
      rw [uOnn_p, uRpl_p] at ih
      obtain ⟨ch, ech⟩ : ∃ ch, uOnn dr wp pr cnt W T n D C AC t (-1) 14 R k = ch := ⟨_, rfl⟩
      obtain ⟨r, er⟩ : ∃ r, uRpl dr wp pr cnt W T n C AC t (-1) R k = r := ⟨_, rfl⟩
      rw [ech] at hb ih ⊢
      rw [er] at S2 g1 g2 y1 y2 ih
      obtain ⟨i, ei⟩ : ∃ i, ((k + 1 : Nat) : Int) = i := ⟨_, rfl⟩
      have eii : ((k + 1 + 1 : Nat) : Int) = i + 1 := by omega
      rw [eii, ei] at ih
      rw [ei] at y1 y2 ⊢
      have hi : 1 ≤ i ∧ i ≤ 60 := by omega
      have hi61 : 1 ≤ i ∧ i ≤ 61 := by omega
      have hiL : i ≤ L := by omega
      have hch : 0 ≤ ch ∧ ch ≤ 1000 := by omega
      refine wb232c hL hch hi61 (fun e => absurd e (by omega)) (fun _ => u233 (tt := k) hK hn0 S2 g1 g2 (by omega) hF hG hi hiL qr1 (by decide) (by decide) (fun a3 b3 S3 E3 => wb232d hL hch hi61 ?_))
      obtain ⟨O, eO⟩ : ∃ O, uOth dr wp pr cnt W T n D C t (-1) i r = O := ⟨_, rfl⟩
      rw [eO] at ih
      have cnts : ∀ (u2 q : Nat), q + u2 = 4 → 1 ≤ q → pmWp ro 8 12 232 1 58 [some (.ref 87), some (xV t), some (xV L), some (xV (ch + uOq 14 O q)), some (xV i), some (xV (q : Int))] [] (xS a3 b3) Q := by
        intro u2
        induction u2 with
        | zero =>
          intro q hq _
          have e4 : q = 4 := by omega
          subst e4
          have hqb := uOq_b (M := 14) (O := O) 4
          have h4 : ((4 : Nat) : Int) = 4 := rfl
          have hch2 : 0 ≤ ch + uOq 14 O 4 ∧ ch + uOq 14 O 4 ≤ 1000 := by omega
          refine wb232e hL hch2 hi61 (by decide) (fun _ => wb232g hL hch2 hi61 (by decide) ?_) (fun e => absurd (by decide) e)
          exact u235 (tt := i) hn0 S3 y1 y2 (by omega) hF hG hi hiL (by decide) (fun a5 b5 S5 => wb232h hL hch2 hi61 (by decide) (ih a5 b5 _ (by omega) S5))
        | succ u2 ih2 =>
          intro q hq q1
          have hqb := uOq_b (M := 14) (O := O) q
          have hch2 : 0 ≤ ch + uOq 14 O q ∧ ch + uOq 14 O q ≤ 1000 := by omega
          have hq4 : 1 ≤ (q : Int) ∧ (q : Int) ≤ 4 := by omega
          have hM : ¬ (14 : Int) / ((2 ^ q : Nat) : Int) % 2 = 0 := by
            have hc : q = 1 ∨ q = 2 ∨ q = 3 := by omega
            rcases hc with h | h | h <;> subst h <;> decide
          refine wb232e hL hch2 hi61 hq4 (fun e => absurd e (by omega)) (fun _ => u234 (by omega) S3 hF hi hiL (E3 q (by omega)) (by decide) (fun ht => ?_) (fun ht => ?_))
          · rw [eO] at ht
            refine wb232f hL hch2 hi61 hq4 (by decide) (fun e => absurd e (by decide)) (fun _ => ?_)
            have := ih2 (q + 1) (by omega) (by omega)
            rw [uOq_y ⟨hM, ht⟩, ← Int.add_assoc] at this
            exact this
          · rw [eO] at ht
            refine wb232f hL hch2 hi61 hq4 (by decide) (fun _ => ?_) (fun e => absurd rfl e)
            have := ih2 (q + 1) (by omega) (by omega)
            rw [uOq_n (fun g => ht g.2)] at this
            rw [Int.add_zero]
            exact this
      have := cnts 3 1 (by decide) (by decide)
      rw [uOq_n (q := 0) (fun g => g.1 (by decide)), show uOq 14 O 0 = 0 from rfl, Int.add_zero] at this
      exact this
  refine u181 (by decide) (by decide) (wb232a hL (u227 (by decide) (by decide) (wb232b hL ?_)))
  exact loop L.toNat 0 _ b _ (by omega) (uRst_i hS h0 ho)
/-- needless of the reference -/
theorem u236 (qr1 : xR p) (hK : uRk pr cnt W T) (hn0 : 0 ≤ n ∧ n ≤ 5) (hS : uSx dr wp pr cnt W T n a b) (h0 : uShl 0 R a) (ho : ∀ j, j < 0 ∨ 120 ≤ j → a 88 j = R j) (hr : uRv n R) (hB : uBqr 0 R) (hb : a 87 4 = bg) (hbg : bg = 0 ∨ bg = 1) (ht : a 88 114 = L) (hL : 0 ≤ L ∧ L ≤ 60) (hF : uRef L D C AC a) (hG : uRgs L C AC) (hM : 1 ≤ p ∧ p ≤ 3 → ∀ q : Nat, q < 4 → (M / ((2 ^ q : Nat) : Int) % 2 = 0 ↔ (q : Int) = p)) (hd : 9 ≤ d) (hN : bg = 0 ∨ ¬ (1 ≤ p ∧ p ≤ 3) → Q (some (xV (-1))) (xS a b)) (hQ : ¬ bg = 0 → 1 ≤ p ∧ p ≤ 3 → ∀ a' b', uKq dr wp pr cnt W T n a a' b b' → Q (some (xV (if uOnn dr wp pr cnt W T n D C AC (-1) p M R L.toNat = 0 then 1 else 0))) (xS a' b')) : pmCs ro d 236 [.ref 87, xV p] (xS a b) Q := by
  refine pmCs_deep (d := 9) (xg236 (wb236 qr1 hb hbg ht hL (by decide) (fun h => hN (Or.inl h)) (fun h1 h2 => ?_) (fun _ h => hN (Or.inr (by omega))))) hd
  have hp : 1 ≤ p ∧ p ≤ 3 := by omega
  have hM := hM hp
  have fin : ∀ (ok : Int) (i : Nat) (a2 : xA) (b2 : xB) (r : Int → Int) (v5 : Option Value), (ok = 0 ∨ ok = 1) → (1 ≤ ((i + 1 : Nat) : Int) ∧ ((i + 1 : Nat) : Int) ≤ 61) → (uOnn dr wp pr cnt W T n D C AC (-1) p M R L.toNat = 0 ↔ ¬ ok = 0) → uRst dr wp pr cnt W T n (a 88) a a2 b b2 r → pmWp ro 8 12 236 1 111 [some (.ref 87), some (xV p), some (xV L), some (xV ok), some (xV ((i + 1 : Nat) : Int)), v5] [] (xS a2 b2) Q := by
    intro ok i a2 b2 r v5 hok hi he S2
    have f := hQ h1 hp _ b2 (uRst_f S2)
    refine wb236i hp hL hok hi (u227 (by decide) (by decide) (wb236j hp hL hok hi (fun e => ?_) (fun e => ?_)))
    · rw [if_neg (fun g => he.mp g e)] at f
      exact f
    · rw [if_pos (he.mpr e)] at f
      exact f
  have loop : ∀ (u k : Nat) (ok : Int) (a2 : xA) (b2 : xB) (v5 : Option Value), (k : Int) + (u : Int) = L → (ok = 0 ∨ ok = 1) → (uOnn dr wp pr cnt W T n D C AC (-1) p M R k = 0 ↔ ¬ ok = 0) → uRst dr wp pr cnt W T n (a 88) a a2 b b2 (uRpl dr wp pr cnt W T n C AC (-1) p R k) → pmWp ro 8 12 236 1 39 [some (.ref 87), some (xV p), some (xV L), some (xV ok), some (xV ((k + 1 : Nat) : Int)), v5] [] (xS a2 b2) Q := by
    intro u
    induction u with
    | zero =>
      intro k ok a2 b2 v5 hk hok he S2
      have hi : 1 ≤ ((k + 1 : Nat) : Int) ∧ ((k + 1 : Nat) : Int) ≤ 61 := by omega
      have he2 : uOnn dr wp pr cnt W T n D C AC (-1) p M R L.toNat = 0 ↔ ¬ ok = 0 := by
        rw [show L.toNat = k by omega]
        exact he
      exact wb236c hp hL hok hi (fun _ => fin ok k a2 b2 _ _ hok hi he2 S2) (fun e => absurd (by omega) e) (fun e => absurd (by omega) e)
    | succ u ih =>
      intro k ok a2 b2 v5 hk hok he S2
      have hb0 := uOnn_b (dr := dr) (wp := wp) (pr := pr) (cnt := cnt) (W := W) (T := T) (n := n) (D := D) (C := C) (AC := AC) (wi := -1) (wt := p) (M := M) (R := R) k
      obtain ⟨g1, g2⟩ := uRpl_g (dr := dr) (wp := wp) (pr := pr) (cnt := cnt) (W := W) (T := T) (wi := -1) (wt := p) hn0 hr hB hL.2 hG k (by omega)
      obtain ⟨y1, y2⟩ := uRpl_u (dr := dr) (wp := wp) (pr := pr) (cnt := cnt) (W := W) (T := T) (wi := -1) (wt := p) hn0 hr hB hL.2 hG k (by omega)
      have hi0 : 1 ≤ ((k + 1 : Nat) : Int) ∧ ((k + 1 : Nat) : Int) ≤ 61 := by omega
      have hm := uOnn_m (dr := dr) (wp := wp) (pr := pr) (cnt := cnt) (W := W) (T := T) (n := n) (D := D) (C := C) (AC := AC) (wi := -1) (wt := p) (M := M) (R := R) (u + 1) k
      rw [show k + (u + 1) = L.toNat by omega] at hm
      refine wb236c hp hL hok hi0 (fun e => absurd e (by omega)) (fun _ e => ?_) (fun _ e => ?_)
      · refine fin ok k a2 b2 _ _ hok hi0 ⟨fun g => ?_, fun g => absurd e g⟩ S2
        exact he.mp (by omega)
      have ok1 : ok = 1 := by omega
      have z0 := he.mpr e
      have ih := ih (k + 1)
      rw [uOnn_p, uRpl_p, z0] at ih
      obtain ⟨r, er⟩ : ∃ r, uRpl dr wp pr cnt W T n C AC (-1) p R k = r := ⟨_, rfl⟩
      rw [er] at S2 g1 g2 y1 y2 ih
      obtain ⟨i, ei⟩ : ∃ i, ((k + 1 : Nat) : Int) = i := ⟨_, rfl⟩
      have eii : ((k + 1 + 1 : Nat) : Int) = i + 1 := by omega
      rw [eii, ei] at ih
      rw [ei] at y1 y2 ⊢
      have hi : 1 ≤ i ∧ i ≤ 60 := by omega
      have hi61 : 1 ≤ i ∧ i ≤ 61 := by omega
      have hiL : i ≤ L := by omega
      refine u233 (tt := k) hK hn0 S2 g1 g2 (by omega) hF hG hi hiL ⟨by decide, by decide⟩ ⟨by omega, hp.2⟩ (by decide) (fun a3 b3 S3 E3 => wb236d hp hL hok hi61 ?_)
      obtain ⟨O, eO⟩ : ∃ O, uOth dr wp pr cnt W T n D C (-1) p i r = O := ⟨_, rfl⟩
      rw [eO] at ih
      have cnts : ∀ (u2 q : Nat) (ok : Int), q + u2 = 4 → (ok = 0 ∨ ok = 1) → (uOq M O q = 0 ↔ ¬ ok = 0) → pmWp ro 8 12 236 1 60 [some (.ref 87), some (xV p), some (xV L), some (xV ok), some (xV i), some (xV (q : Int))] [] (xS a3 b3) Q := by
        intro u2
        induction u2 with
        | zero =>
          intro q ok hq hok he
          have e4 : q = 4 := by omega
          subst e4
          refine wb236e hp hL hok hi61 (by decide) (fun _ => wb236g hp hL hok hi61 (by decide) ?_) (fun e => absurd (by decide) e) (fun e => absurd (by decide) e) (fun e => absurd (by decide) e)
          exact u235 (tt := i) hn0 S3 y1 y2 (by omega) hF hG hi hiL (by decide) (fun a5 b5 S5 => wb236h hp hL hok hi61 (by decide) (ih ok a5 b5 _ (by omega) hok (by rw [Int.zero_add]; exact he) S5))
        | succ u2 ih2 =>
          intro q ok hq hok he
          have hqb := uOq_b (M := M) (O := O) q
          have hq4 : 0 ≤ (q : Int) ∧ (q : Int) ≤ 4 := by omega
          have hq3 : 0 ≤ (q : Int) ∧ (q : Int) ≤ 3 := by omega
          have hMq := hM q (by omega)
          have nxt : ∀ ok2 : Int, (ok2 = 0 ∨ ok2 = 1) → (uOq M O (q + 1) = 0 ↔ ¬ ok2 = 0) → pmWp ro 8 12 236 1 93 [some (.ref 87), some (xV p), some (xV L), some (xV ok2), some (xV i), some (xV (q : Int))] [] (xS a3 b3) Q := fun ok2 h2 he2 => wb236n hp hL h2 hi61 hq3 (ih2 (q + 1) ok2 (by omega) h2 he2)
          refine wb236e hp hL hok hi61 hq4 (fun e => absurd e (by omega)) (fun _ e => nxt 0 (by decide) ⟨fun g => ?_, fun g => absurd rfl g⟩) (fun _ e eq => nxt 1 (by decide) ⟨fun _ => by decide, fun _ => ?_⟩) (fun _ e eq => u234 (by omega) S3 hF hi hiL (E3 q (by omega)) (by decide) (fun ht => ?_) (fun ht => ?_))
          · have hlt : uOq M O q ≤ uOq M O (q + 1) := by
              by_cases g2 : ¬ M / ((2 ^ q : Nat) : Int) % 2 = 0 ∧ O (q : Int)
              · rw [uOq_y g2]
                omega
              · rw [uOq_n g2]
                omega
            exact absurd e (he.mp (by omega))
          · rw [uOq_n (fun g => g.1 (hMq.mpr eq))]
            exact he.mpr e
          · rw [eO] at ht
            refine wb236f hp hL hok hi61 hq4 (by decide) (fun _ => nxt 0 (by decide) ⟨fun g => ?_, fun g => absurd rfl g⟩) (fun e => absurd e (by decide))
            rw [uOq_y ⟨fun g => eq (hMq.mp g), ht⟩] at g
            omega
          · rw [eO] at ht
            refine wb236f hp hL hok hi61 hq4 (by decide) (fun e => absurd rfl e) (fun _ => nxt 1 (by decide) ⟨fun _ => by decide, fun _ => ?_⟩)
            rw [uOq_n (fun g => ht g.2)]
            exact he.mpr e
      exact cnts 4 0 ok (by decide) hok ⟨fun _ => e, fun _ => rfl⟩
  refine u181 (by decide) (by decide) (wb236a hp hL (u227 (by decide) (by decide) (wb236b hp hL ?_)))
  exact loop L.toNat 0 1 _ b _ (by omega) (by decide) ⟨fun _ => by decide, fun _ => rfl⟩ (uRst_i hS h0 ho)
end
end
end
section
/-! otherwise and needless of the class -/
section
set_option maxRecDepth 100000


section
variable {Ln : Nat} {xs : Nat → Int32} {d w : Nat} {Q : Option Value → pmS → Prop} {dr wp co pr cnt W : Int → Int} {T : Int → List Int} {n m t wh k x c cd wt wi p id M L sw ws dn z tt bg : Int} {r r' R : Int → Int} {D C AC : Int → Int} {a a' a'' a0 : xA} {b b' b'' b0 : xB}
/-- all but the one who is without -/
def uMq (p : Int) : Int := if p = 1 then 13 else if p = 2 then 11 else 7
theorem uMq_b : 0 ≤ uMq p ∧ uMq p ≤ 15 := by
  unfold uMq
  split
  · decide
  · split <;> decide
theorem uMq_e (hp : 1 ≤ p ∧ p ≤ 3) : xAnd 15 (xXor (1 * ((2 ^ p.toNat : Nat) : Int)) (-1)) = uMq p := by
  have h : p = 1 ∨ p = 2 ∨ p = 3 := by omega
  rcases h with h | h | h <;> subst h <;> decide
theorem uMq_q (hp : 1 ≤ p ∧ p ≤ 3) : ∀ q : Nat, q < 4 → (uMq p / ((2 ^ q : Nat) : Int) % 2 = 0 ↔ (q : Int) = p) := by
  intro q hq
  have h : p = 1 ∨ p = 2 ∨ p = 3 := by omega
  have g : q = 0 ∨ q = 1 ∨ q = 2 ∨ q = 3 := by omega
  rcases h with h | h | h <;> rcases g with g | g | g | g <;> subst h <;> subst g <;> decide
/-- otherwise of the class -/
theorem u116 (qr1 : xR t) (hK : uRk pr cnt W T) (hn0 : 0 ≤ n ∧ n ≤ 5) (hC : uCb dr wp co pr cnt W T n a0 a b) (hX : uCx n 80 R a b) (hB : uBqr 0 R) (hR : uRec L D C AC a) (hL : 0 ≤ L ∧ L ≤ 60) (h21 : a 21 6 = L) (hd : 13 ≤ d) (hN : ¬ (1 ≤ t ∧ t ≤ L) → Q (some (xV (-1))) (xS a b)) (hQ : 1 ≤ t ∧ t ≤ L → ∀ a' b', uTgw 26 a a' b b' → uCb dr wp co pr cnt W T n a0 a' b' → Q (some (xV (uOnn dr wp pr cnt W T n D C AC t (-1) 14 R L.toNat))) (xS a' b')) : pmCs (pmRo Ln xs) d 116 [.ref 0, xV t] (xS a b) Q := by
  refine pmCs_deep (d := 13) (xg116 (wa116 qr1 (by omega) (fun h => hN (by omega)) (fun h1 h2 => ?_) (fun _ h => hN (by omega)))) hd
  have ht : 1 ≤ t ∧ t ≤ L := by omega
  exact u117 hK hn0 uWo26 (by decide) hC hX hB hR hL qr1 (by decide) (fun p p1 p3 => ⟨fun h => by omega, fun h => by omega⟩) (by decide) (by decide) (fun a' b' f C' => wa116a (hQ ht a' b' f C'))
/-- needless of the class -/
theorem u119 (qr1 : xR p) (hK : uRk pr cnt W T) (hn0 : 0 ≤ n ∧ n ≤ 5) (hC : uCb dr wp co pr cnt W T n a0 a b) (hX : uCx n 80 R a b) (hB : uBqr 0 R) (hR : uRec L D C AC a) (hL : 0 ≤ L ∧ L ≤ 60) (hb : a 0 12 = bg) (hbg : bg = 0 ∨ bg = 1) (hd : 13 ≤ d) (hN : bg = 0 ∨ ¬ (1 ≤ p ∧ p ≤ 3) → Q (some (xV (-1))) (xS a b)) (hQ : ¬ bg = 0 → 1 ≤ p ∧ p ≤ 3 → ∀ a' b', uTgw 26 a a' b b' → uCb dr wp co pr cnt W T n a0 a' b' → Q (some (xV (if uOnn dr wp pr cnt W T n D C AC (-1) p (uMq p) R L.toNat = 0 then 1 else 0))) (xS a' b')) : pmCs (pmRo Ln xs) d 119 [.ref 0, xV p] (xS a b) Q := by
  refine pmCs_deep (d := 13) (xg119 (wa119 qr1 hb hbg (by decide) (fun h => hN (Or.inl h)) (fun h1 h2 => ?_) (fun _ h => hN (Or.inr (by omega))))) hd
  have hp : 1 ≤ p ∧ p ≤ 3 := by omega
  rw [uMq_e hp]
  refine u117 hK hn0 uWo26 (by decide) hC hX hB hR hL (wi := 0) (wt := p) ⟨by decide, by decide⟩ ⟨by omega, hp.2⟩ (fun _ _ _ => Iff.rfl) uMq_b (by decide) (fun a' b' f C' => ?_)
  have e := uOnn_w (dr := dr) (wp := wp) (pr := pr) (cnt := cnt) (W := W) (T := T) (n := n) (D := D) (C := C) (AC := AC) (wi := 0) (wt := p) (M := uMq p) (R := R) (k := -1) (by decide) (by decide) L.toNat
  rw [e]
  have hb := uOnn_b (dr := dr) (wp := wp) (pr := pr) (cnt := cnt) (W := W) (T := T) (n := n) (D := D) (C := C) (AC := AC) (wi := -1) (wt := p) (M := uMq p) (R := R) L.toNat
  have g := hQ h1 hp a' b' f C'
  refine wa119a (by omega) (fun h => ?_) (fun h => ?_)
  · rw [if_neg h] at g
    exact g
  · rw [if_pos h] at g
    exact g
end
end
end
