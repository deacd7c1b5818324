/-! replays of the class, by rows -/
section
set_option maxRecDepth 100000


section
variable {Ln : Nat} {xs : Nat → Int32} {ro : Nat → Nat × (Nat → Int32)} {d w : Nat} {Q : Option Value → pmS → Prop} {dr wp co pr cnt W : Int → Int} {T : Int → List Int} {n m t wh k x c cd wt wi p id M L sw ws dn z : Int} {r r' R : Int → Int} {D C AC : Int → Int} {O O' : Int → Prop} {a a' a'' a0 : xA} {b b' b'' : xB}
theorem uD_inj {u v : Int} (hu : -1 ≤ u ∧ u < 61) (hv : -1 ≤ v ∧ v < 61) (h : uD u = uD v) : u = v := by
  have key : ∀ x y : Fin 62, uD ((x.val : Int) - 1) = uD ((y.val : Int) - 1) → x = y := by decide +kernel
  have hx : (((⟨(u + 1).toNat, by omega⟩ : Fin 62).val : Nat) : Int) - 1 = u := by show (((u + 1).toNat : Nat) : Int) - 1 = u; omega
  have hy : (((⟨(v + 1).toNat, by omega⟩ : Fin 62).val : Nat) : Int) - 1 = v := by show (((v + 1).toNat : Nat) : Int) - 1 = v; omega
  have := key ⟨(u + 1).toNat, by omega⟩ ⟨(v + 1).toNat, by omega⟩ (by rw [hx, hy]; exact h)
  rw [← hx, ← hy, this]
/-- a recorded entry -/
def uEr (e dn cd : Int) : Prop := (dn = 0 ∧ e = -1 ∧ cd = -1) ∨ (dn = 1 ∧ (-1 ≤ cd ∧ cd < 61) ∧ (0 ≤ e ∧ e ≤ 50000) ∧ e % 512 = uD cd)
theorem uEr_e (hd : dn = 0 ∨ dn = 1) (hc : -1 ≤ cd ∧ cd < 61) (h0 : dn = 0 → cd = -1) (hs : ¬ cd = -1 → 0 ≤ sw ∧ sw ≤ 15) (hw : -1 ≤ ws ∧ ws ≤ 2) : uEr (uEe dn cd sw ws) dn cd := by
  unfold uEe
  rcases hd with h | h
  · rw [if_pos h]
    exact Or.inl ⟨h, rfl, h0 h⟩
  · rw [if_neg (by omega)]
    by_cases c : cd = -1
    · rw [if_pos c]
      exact Or.inr ⟨h, hc, by decide, by rw [c]; rfl⟩
    · rw [if_neg c]
      have h1 := hs c
      have h2 := uD_b cd hc.2
      exact Or.inr ⟨h, hc, by omega, by omega⟩
/-- what a person did now -/
noncomputable def uDn (p : Int) (r : Int → Int) : Int := if r p = 7 then 0 else 1
noncomputable def uCn2 (dr wp pr cnt W : Int → Int) (T : Int → List Int) (n cd wt p : Int) (r : Int → Int) : Int := if r p = 7 then -1 else uDc dr wp pr cnt W T n cd wt p r
theorem uEt_r (hcd : -1 ≤ uDc dr wp pr cnt W T n cd wt p r ∧ uDc dr wp pr cnt W T n cd wt p r < 61) (hk : ¬ p = 0 → -1 ≤ uWk dr wp pr cnt W T n r p ∧ uWk dr wp pr cnt W T n r p ≤ 2) : uEr (uEt dr wp pr cnt W T n cd wt p r) (uDn p r) (uCn2 dr wp pr cnt W T n cd wt p r) := by
  unfold uDn uCn2
  by_cases h : r p = 7
  · rw [uEt_d h, if_pos h, if_pos h]
    exact Or.inl ⟨rfl, rfl, rfl⟩
  · rw [if_neg h, if_neg h]
    by_cases c : uDc dr wp pr cnt W T n cd wt p r = -1
    · rw [uEt_w h c, c]
      exact Or.inr ⟨rfl, by decide, by decide, rfl⟩
    · rw [uEt_y h c]
      have h2 := uD_b _ hcd.2
      have h3 := uSg_b (p := p) (k := uDc dr wp pr cnt W T n cd wt p r) (r := r) 4
      have h16 : ((2 ^ 4 : Nat) : Int) = 16 := rfl
      by_cases p0 : p = 0
      · rw [if_pos p0]
        exact Or.inr ⟨rfl, hcd, by omega, by omega⟩
      · have h4 := hk p0
        rw [if_neg p0]
        exact Or.inr ⟨rfl, hcd, by omega, by omega⟩
theorem uEr_i {e f dn' cd' : Int} (h : uEr e dn cd) (h' : uEr f dn' cd') : e % 512 = f % 512 ↔ dn = dn' ∧ cd = cd' := by
  rcases h with ⟨h1, h2, h3⟩ | ⟨h1, h2, h3, h4⟩ <;> rcases h' with ⟨g1, g2, g3⟩ | ⟨g1, g2, g3, g4⟩
  · constructor <;> intro <;> omega
  · have := uD_b cd' g2.2
    constructor <;> intro <;> omega
  · have := uD_b cd h2.2
    constructor <;> intro <;> omega
  · rw [h4, g4]
    exact ⟨fun e => ⟨by omega, uD_inj h2 g2 e⟩, fun e => by rw [e.2]⟩
/-- how many of those counted did otherwise -/
noncomputable def uOq (M : Int) (O : Int → Prop) : Nat → Int
  | 0 => 0
  | q + 1 => uOq M O q + (by classical exact if ¬ M / ((2 ^ q : Nat) : Int) % 2 = 0 ∧ O (q : Int) then 1 else 0)
theorem uOq_y {q : Nat} (h : ¬ M / ((2 ^ q : Nat) : Int) % 2 = 0 ∧ O (q : Int)) : uOq M O (q + 1) = uOq M O q + 1 := by
  show uOq M O q + _ = _
  rw [if_pos h]
theorem uOq_n {q : Nat} (h : ¬ (¬ M / ((2 ^ q : Nat) : Int) % 2 = 0 ∧ O (q : Int))) : uOq M O (q + 1) = uOq M O q := by
  show uOq M O q + _ = _
  rw [if_neg h, Int.add_zero]
theorem uOq_b : ∀ q : Nat, 0 ≤ uOq M O q ∧ uOq M O q ≤ (q : Int)
  | 0 => ⟨Int.le_refl _, Int.le_refl _⟩
  | q + 1 => by
    have ih := uOq_b q
    by_cases h : ¬ M / ((2 ^ q : Nat) : Int) % 2 = 0 ∧ O (q : Int)
    · rw [uOq_y h]
      omega
    · rw [uOq_n h]
      omega
/-- whether a person does otherwise in turn t of a replay, the row ahead of that turn being r -/
def uOth (dr wp pr cnt W : Int → Int) (T : Int → List Int) (n : Int) (D C : Int → Int) (wi wt t : Int) (r : Int → Int) (p : Int) : Prop := ¬ (D (4 * t + p) = uDn p (uTr dr wp pr cnt W T n (uRco dr wp n C wi t r) wt r p.toNat) ∧ C (4 * t + p) = uCn2 dr wp pr cnt W T n (uRco dr wp n C wi t r) wt p (uTr dr wp pr cnt W T n (uRco dr wp n C wi t r) wt r p.toNat))
noncomputable def uOnn (dr wp pr cnt W : Int → Int) (T : Int → List Int) (n : Int) (D C AC : Int → Int) (wi wt M : Int) (R : Int → Int) : Nat → Int
  | 0 => 0
  | t + 1 => uOnn dr wp pr cnt W T n D C AC wi wt M R t + uOq M (uOth dr wp pr cnt W T n D C wi wt ((t + 1 : Nat) : Int) (uRpl dr wp pr cnt W T n C AC wi wt R t)) 4
theorem uOnn_b : ∀ t : Nat, 0 ≤ uOnn dr wp pr cnt W T n D C AC wi wt M R t ∧ uOnn dr wp pr cnt W T n D C AC wi wt M R t ≤ 4 * (t : Int)
  | 0 => ⟨Int.le_refl _, Int.le_refl _⟩
  | t + 1 => by
    have ih := uOnn_b t
    have h := uOq_b (M := M) (O := uOth dr wp pr cnt W T n D C wi wt ((t + 1 : Nat) : Int) (uRpl dr wp pr cnt W T n C AC wi wt R t)) 4
    show 0 ≤ uOnn dr wp pr cnt W T n D C AC wi wt M R t + _ ∧ uOnn dr wp pr cnt W T n D C AC wi wt M R t + _ ≤ 4 * ((t + 1 : Nat) : Int)
    omega
/-- what is recorded -/
def uRec (L : Int) (D C AC : Int → Int) (a : xA) : Prop := a 79 6 = L ∧ (∀ t p, 1 ≤ t → t ≤ L → 0 ≤ p → p < 4 → uEr (a 85 (t * 4 + p)) (D (4 * t + p)) (C (4 * t + p))) ∧ ∀ t, 1 ≤ t → t ≤ L → (0 ≤ AC t ∧ AC t ≤ 56) ∧ a 86 t = uAn (AC t)
theorem uRec_o (h : uRec L D C AC a) (e : ∀ q j, 79 ≤ q → q ≤ 86 → a' q j = a q j) : uRec L D C AC a' := ⟨(e 79 6 (by decide) (by decide)).trans h.1, fun t p t1 t2 p0 p1 => by rw [e 85 _ (by decide) (by decide)]; exact h.2.1 t p t1 t2 p0 p1, fun t t1 t2 => by rw [e 86 _ (by decide) (by decide)]; exact h.2.2 t t1 t2⟩
theorem uWo80 : uWo 80 := ⟨⟨xz80, xz81, xz82, xz83, xz84⟩, by decide, by decide⟩
theorem uDc_b (hK : uRk pr cnt W T) (hr : uRv n r) (hcd : -1 ≤ cd ∧ cd < 61) (hp : 0 ≤ p ∧ p ≤ 3) (hal : ¬ r p = 7) : (-1 ≤ uDc dr wp pr cnt W T n cd wt p r ∧ uDc dr wp pr cnt W T n cd wt p r < 61) := by
  unfold uDc
  by_cases p0 : p = 0
  · rw [if_pos p0]
    exact hcd
  rw [if_neg p0]
  by_cases pw : p = wt
  · rw [if_pos pw]
    decide
  rw [if_neg pw]
  by_cases h : uWd dr wp pr cnt W T n r p = -1
  · omega
  · have := (uWd_c hr ⟨by omega, hp.2⟩ hal h).1
    omega
theorem uWk_b (hK : uRk pr cnt W T) (hp : 1 ≤ p ∧ p ≤ 3) : -1 ≤ uWk dr wp pr cnt W T n r p ∧ uWk dr wp pr cnt W T n r p ≤ 2 := by
  have hc := hK.1 p hp.1 hp.2
  by_cases h : ∃ k, uChs (cnt p) (fun i => W (p * 3 + i)) (fun i => uFd dr wp pr (T (p * 3 + i)) p (uMn n r p)) k
  · obtain ⟨k, hk⟩ := h
    rw [uWk_e hk]
    rcases hk with g | g
    · omega
    · omega
  · unfold uWk
    rw [dif_neg h]
    decide
/-- replay of the class -/
theorem u117 (hK : uRk pr cnt W T) (hn0 : 0 ≤ n ∧ n ≤ 5) (hwo : uWo w) (hw80 : w ≤ 26) (hC : uCb dr wp co pr cnt W T n a0 a b) (hX : uCx n 80 R a b) (hB : uBqr 0 R) (hR : uRec L D C AC a) (hL : 0 ≤ L ∧ L ≤ 60) (qwi : xR wi) (hid : 0 ≤ id ∧ id ≤ 3) (hiw : ∀ p, 1 ≤ p → p ≤ 3 → (p = id ↔ p = wt)) (hM : 0 ≤ M ∧ M ≤ 15) (hd : 12 ≤ d) (hQ : ∀ a' b', uTgw w a a' b b' → uCb dr wp co pr cnt W T n a0 a' b' → Q (some (xV (uOnn dr wp pr cnt W T n D C AC wi wt M R L.toNat))) (xS a' b')) : pmCs (pmRo Ln xs) d 117 [.ref 79, .ref w, xV wi, xV id, xV M] (xS a b) Q := by
  have hz := hwo.1
  have hw := hwo.2
  have hCc : ∀ t, 1 ≤ t → t ≤ L → -1 ≤ C (4 * t) ∧ C (4 * t) < 61 := fun t t1 t2 => by
    have h := hR.2.1 t 0 t1 t2 (by decide) (by decide)
    rw [show 4 * t + 0 = 4 * t by omega] at h
    rcases h with h | h
    · omega
    · exact h.2.1
  -- rows of the replay
  have rows : ∀ t : Nat, (t : Int) ≤ L → uRv n (uRpl dr wp pr cnt W T n C AC wi wt R t) ∧ uBqr t (uRpl dr wp pr cnt W T n C AC wi wt R t) := by
    intro t
    induction t with
    | zero => exact fun _ => ⟨hX.1.1, hB⟩
    | succ t ih =>
      intro ht
      obtain ⟨g1, g2⟩ := ih (by omega)
      have hcd : -1 ≤ (if ((t + 1 : Nat) : Int) = wi then -1 else C (4 * ((t + 1 : Nat) : Int))) ∧ (if ((t + 1 : Nat) : Int) = wi then -1 else C (4 * ((t + 1 : Nat) : Int))) < 61 := by
        split
        · decide
        · exact hCc _ (by omega) ht
      have h := uRpl_s (dr := dr) (wp := wp) (pr := pr) (cnt := cnt) (W := W) (T := T) (wt := wt) (c := AC ((t + 1 : Nat) : Int)) hn0 (by omega) g1 g2 (uKdo_p (dr := dr) (wp := wp) g1 hcd) (hR.2.2 _ (by omega) ht).1
      exact h.2
  have loop : ∀ (u t : Nat) (a2 : xA) (b2 : xB) (v7 v8 v9 v10 : Option Value), (t : Int) + (u : Int) = L → uTgw w a a2 b b2 → uCb dr wp co pr cnt W T n a0 a2 b2 → uCx n w (uRpl dr wp pr cnt W T n C AC wi wt R t) a2 b2 → pmWp (pmRo Ln xs) 11 0 117 1 14 [some (.ref 79), some (.ref w), some (xV wi), some (xV id), some (xV M), some (xV (uOnn dr wp pr cnt W T n D C AC wi wt M R t)), some (xV ((t + 1 : Nat) : Int)), v7, v8, v9, v10] [] (xS a2 b2) Q := by
    intro u
    induction u with
    | zero =>
      intro t a2 b2 v7 v8 v9 v10 ht f2 C2 X2
      have hb := uOnn_b (dr := dr) (wp := wp) (pr := pr) (cnt := cnt) (W := W) (T := T) (n := n) (D := D) (C := C) (AC := AC) (wi := wi) (wt := wt) (M := M) (R := R) t
      have e79 : a2 79 6 = L := (f2.1 79 6 (by omega) (by omega) (by omega)).trans hR.1
      have fin := hQ a2 b2 f2 C2
      rw [show L.toNat = t by omega] at fin
      exact w117t hz C2.1.1 qwi hM (by decide) (by omega) (by omega) e79 hL (fun _ => fin) (fun e => absurd (by omega) e) (fun e => absurd (by omega) e) (fun e => absurd (by omega) e)
    | succ u ih =>
      intro t a2 b2 v7 v8 v9 v10 ht f2 C2 X2
      have hb := uOnn_b (dr := dr) (wp := wp) (pr := pr) (cnt := cnt) (W := W) (T := T) (n := n) (D := D) (C := C) (AC := AC) (wi := wi) (wt := wt) (M := M) (R := R) t
      obtain ⟨g1, g2⟩ := rows t (by omega)
      have R2 : uRec L D C AC a2 := uRec_o hR (fun q j h1 h2 => f2.1 q j (by omega) (by omega) (by omega))
      have e79 := R2.1
      obtain ⟨ch, ech⟩ : ∃ ch, uOnn dr wp pr cnt W T n D C AC wi wt M R t = ch := ⟨_, rfl⟩
      have hsum : uOnn dr wp pr cnt W T n D C AC wi wt M R (t + 1) = ch + uOq M (uOth dr wp pr cnt W T n D C wi wt ((t + 1 : Nat) : Int) (uRpl dr wp pr cnt W T n C AC wi wt R t)) 4 := by
        rw [← ech]
        rfl
      have hrow : uRpl dr wp pr cnt W T n C AC wi wt R (t + 1) = uAy dr n (AC ((t + 1 : Nat) : Int)) (uTu dr wp pr cnt W T n (uRco dr wp n C wi ((t + 1 : Nat) : Int) (uRpl dr wp pr cnt W T n C AC wi wt R t)) wt (uRpl dr wp pr cnt W T n C AC wi wt R t)) := rfl
      have ih := ih (t + 1)
      rw [hsum, hrow] at ih
      rw [ech] at hb ⊢
      obtain ⟨r, er⟩ : ∃ r, uRpl dr wp pr cnt W T n C AC wi wt R t = r := ⟨_, rfl⟩
      rw [er] at X2 g1 g2 ih
      obtain ⟨t', et⟩ : ∃ t', ((t + 1 : Nat) : Int) = t' := ⟨_, rfl⟩
      have ett : ((t + 1 + 1 : Nat) : Int) = t' + 1 := by omega
      rw [et, ett] at ih
      rw [et]
      have ht1 : 1 ≤ t' ∧ t' ≤ 60 := by omega
      have htL : t' ≤ L := by omega
      have hch : 0 ≤ ch ∧ ch ≤ 1000 := by omega
      -- the code
      obtain ⟨cd, ecd⟩ : ∃ cd, (if t' = wi then -1 else C (4 * t')) = cd := ⟨_, rfl⟩
      have hcd : -1 ≤ cd ∧ cd < 61 := by
        rw [← ecd]
        split
        · decide
        · exact hCc t' ht1.1 htL
      have eco : uRco dr wp n C wi t' r = uKdo dr wp n r cd := by
        unfold uRco
        rw [ecd]
      have hcp := uKdo_p (dr := dr) (wp := wp) g1 hcd
      obtain ⟨ko, eko⟩ : ∃ ko, uKdo dr wp n r cd = ko := ⟨_, rfl⟩
      rw [eko] at hcp eco
      have hko : -1 ≤ ko ∧ ko < 61 := by omega
      -- behind a turn
      have turned : ∀ (v7 v9 v10 : Option Value) (dd : Int), (0 ≤ dd ∧ dd ≤ 511) → pmCs (pmRo Ln xs) 11 89 [.ref 43, .ref w, xV (uD ko), xV id] (xS a2 b2) (fun r' s' => pmWp (pmRo Ln xs) 11 0 117 1 88 [some (.ref 79), some (.ref w), some (xV wi), some (xV id), some (xV M), some (xV ch), some (xV t'), v7, some (xV dd), v9, v10] (r'.toList ++ []) s' Q) := by
        intro v7 v9 v10 dd hdd
        have hBd := uBqr_b (t := t) (by omega) g2
        have hbb := g2
        obtain ⟨y1, y2, y3, y4, y5, y6⟩ := hbb
        refine u89 (cd := ko) (id := id) (wt := wt) hwo hK hn0 C2 X2.1 (by rw [X2.2.1]; omega) (by omega) hcp hid hiw (by decide) (fun a3 b3 f3 C3 W3 i6 i12 _ i119 E3 => w117f hz C3.1.1 qwi hM (by decide) hch ht1 hdd ?_)
        have X3 := uCx_t hn0 X2 hcp hwo f3 W3 i6 i12
        have f4 := uTg_t f2 (uTg_f f3)
        have R3 : uRec L D C AC a3 := uRec_o hR (fun q j h1 h2 => f4.1 q j (by omega) (by omega) (by omega))
        have hs := uRpl_s (dr := dr) (wp := wp) (pr := pr) (cnt := cnt) (W := W) (T := T) (wt := wt) (c := AC t') hn0 (t := t) (by omega) g1 g2 hcp (R3.2.2 t' ht1.1 htL).1
        -- those who did otherwise
        have cnts : ∀ (u2 q : Nat) (v10 : Option Value), q + u2 = 4 → pmWp (pmRo Ln xs) 11 0 117 1 91 [some (.ref 79), some (.ref w), some (xV wi), some (xV id), some (xV M), some (xV (ch + uOq M (uOth dr wp pr cnt W T n D C wi wt t' r) q)), some (xV t'), v7, some (xV dd), some (xV (q : Int)), v10] [] (xS a3 b3) Q := by
          intro u2
          induction u2 with
          | zero =>
            intro q v10 hq
            have e4 : q = 4 := by omega
            subst e4
            have hqb := uOq_b (M := M) (O := uOth dr wp pr cnt W T n D C wi wt t' r) 4
            have h4 : ((4 : Nat) : Int) = 4 := rfl
            have hch2 : 0 ≤ ch + uOq M (uOth dr wp pr cnt W T n D C wi wt t' r) 4 ∧ ch + uOq M (uOth dr wp pr cnt W T n D C wi wt t' r) 4 ≤ 1000 := by omega
            refine w117p hz C3.1.1 qwi hM (by decide) hch2 ht1 hdd (by decide) (fun _ => ?_) (fun e => absurd (by decide) e) (fun e => absurd (by decide) e) (fun e => absurd (by decide) e)
            have e86 := (R3.2.2 t' ht1.1 htL).2
            have hac := (R3.2.2 t' ht1.1 htL).1
            rw [eco] at ih
            have nxt : ∀ (a5 : xA) (b5 : xB) (v10 : Option Value), uTgw w a a5 b b5 → uCb dr wp co pr cnt W T n a0 a5 b5 → uCx n w (uAy dr n (AC t') (uTu dr wp pr cnt W T n ko wt r)) a5 b5 → pmWp (pmRo Ln xs) 11 0 117 1 207 [some (.ref 79), some (.ref w), some (xV wi), some (xV id), some (xV M), some (xV (ch + uOq M (uOth dr wp pr cnt W T n D C wi wt t' r) 4)), some (xV t'), v7, some (xV dd), some (xV ((4 : Nat) : Int)), v10] [] (xS a5 b5) Q := fun a5 b5 v10 h1 h2 h3 => w117i hz h2.1.1 qwi hM (by decide) hch2 ht1 hdd (by decide) (ih a5 b5 _ _ _ _ (by omega) h1 h2 h3)
            refine w117g hz C3.1.1 qwi hM (by decide) hch2 ht1 hdd (by decide) (fun e => ?_) (fun e => ?_)
            · have c0 : AC t' = 0 := by
                rw [e86] at e
                refine Classical.byContradiction (fun hn => ?_)
                by_cases cs : AC t' < 36
                · have := (uAn_s ⟨by omega, cs⟩).2.1
                  omega
                · have := (uAn_h ⟨by omega, hac.2⟩).2.1
                  omega
              refine nxt a3 b3 _ f4 C3 ?_
              rw [uAy_y (Or.inl c0)]
              unfold uAx
              rw [if_pos c0]
              exact X3
            · have c0 : ¬ AC t' = 0 := fun h => e (by rw [e86, h]; rfl)
              have hc1 : 1 ≤ AC t' ∧ AC t' ≤ 56 := ⟨by omega, hac.2⟩
              rw [e86]
              have hBd3 := uBqr_b (t := t + 1) (by omega) hs.1.2
              refine u102 hz C3.1.1 C3.1.2.1 X3 hBd3 hc1 (by decide) (fun h => w117h hz C3.1.1 qwi hM (by decide) hch2 ht1 hdd (by decide) (by decide) (fun e => absurd e (by decide)) (fun _ => ?_)) (fun h => w117h hz C3.1.1 qwi hM (by decide) hch2 ht1 hdd (by decide) (by decide) (fun _ => nxt a3 b3 _ f4 C3 (by rw [uAy_n h]; exact X3)) (fun e => absurd rfl e))
              rw [e86]
              refine u104 hz C3.1.1 hn0 X3 hBd3 hc1 (h.elim (fun g => absurd g c0) (fun g => g.2.2)) (by decide) (fun a5 b5 f5 A5 X5 _ => ?_)
              exact nxt a5 b5 _ (uTg_t f4 (uTg_x f5)) (uCb_e C3 (fun q j h1 h2 => f5.1 q j (by omega) (by omega)) (fun q j e => f5.2 q j (by omega) (by omega)) A5) (by rw [uAy_y h]; exact X5)
          | succ u2 ih2 =>
            intro q v10 hq
            have hqb := uOq_b (M := M) (O := uOth dr wp pr cnt W T n D C wi wt t' r) q
            have hch2 : 0 ≤ ch + uOq M (uOth dr wp pr cnt W T n D C wi wt t' r) q ∧ ch + uOq M (uOth dr wp pr cnt W T n D C wi wt t' r) q ≤ 1000 := by omega
            have hq4 : 0 ≤ (q : Int) ∧ (q : Int) ≤ 4 := by omega
            have hq3 : 0 ≤ (q : Int) ∧ (q : Int) ≤ 3 := by omega
            have e44 := E3 q (by omega)
            have v := uTr_v (dr := dr) (wp := wp) (pr := pr) (cnt := cnt) (W := W) (T := T) (wt := wt) hn0 g1 hcp q (by omega)
            have hEr := R3.2.1 t' q ht1.1 htL hq3.1 (by omega)
            have hEt : uEr (a3 44 q) (uDn q (uTr dr wp pr cnt W T n ko wt r q)) (uCn2 dr wp pr cnt W T n ko wt q (uTr dr wp pr cnt W T n ko wt r q)) := by
              rw [e44]
              by_cases hal : uTr dr wp pr cnt W T n ko wt r q q = 7
              · rw [uEt_d hal]
                unfold uDn uCn2
                rw [if_pos hal, if_pos hal]
                exact Or.inl ⟨rfl, rfl, rfl⟩
              · exact uEt_r (uDc_b hK v.1 hko hq3 hal) (fun h => uWk_b hK ⟨by omega, hq3.2⟩)
            have hi := uEr_i hEr hEt
            have hoth : uOth dr wp pr cnt W T n D C wi wt t' r q ↔ ¬ a3 85 (t' * 4 + q) % 512 = a3 44 q % 512 := by
              unfold uOth
              rw [eco, show (q : Int).toNat = q from rfl]
              exact not_congr hi.symm
            have e2 : ((2 ^ (q : Int).toNat : Nat) : Int) = ((2 ^ q : Nat) : Int) := rfl
            have nx : ∀ (z : Int) (v10 : Option Value), z = ch + uOq M (uOth dr wp pr cnt W T n D C wi wt t' r) (q + 1) → pmWp (pmRo Ln xs) 11 0 117 1 158 [some (.ref 79), some (.ref w), some (xV wi), some (xV id), some (xV M), some (xV z), some (xV t'), v7, some (xV dd), some (xV (q : Int)), v10] [] (xS a3 b3) Q := fun z v10 hz' => by
              have hqb1 := uOq_b (M := M) (O := uOth dr wp pr cnt W T n D C wi wt t' r) (q + 1)
              rw [hz']
              exact w117n hz C3.1.1 qwi hM (by decide) (by omega) ht1 hdd hq3 (ih2 (q + 1) v10 (by omega))
            refine w117p hz C3.1.1 qwi hM (by decide) hch2 ht1 hdd hq4 (fun e => absurd e (by omega)) (fun _ h1 h2 => nx _ _ ?_) (fun _ h1 h2 => nx _ _ ?_) (fun _ h1 => nx _ _ ?_)
            · rw [uOq_n (q := q) (fun g => g.1 h2), Int.add_zero]
            · rw [uOq_y (q := q) ⟨h2, hoth.mpr h1⟩]
              omega
            · rw [uOq_n (q := q) (fun g => hoth.mp g.2 h1), Int.add_zero]
        have := cnts 4 0 v10 (by decide)
        rw [show uOq M (uOth dr wp pr cnt W T n D C wi wt t' r) 0 = 0 from rfl, Int.add_zero] at this
        exact this
      have at56 : ∀ (v7 v9 v10 : Option Value), pmWp (pmRo Ln xs) 11 0 117 1 56 [some (.ref 79), some (.ref w), some (xV wi), some (xV id), some (xV M), some (xV ch), some (xV t'), v7, some (xV (uD cd)), v9, v10] [] (xS a2 b2) Q := by
        intro v7 v9 v10
        have hDp := uD_p hcd
        have hdd : 0 ≤ uD cd ∧ uD cd ≤ 511 := ⟨hDp.1, by omega⟩
        have hdn0 : uD (-1) = 0 := rfl
        refine w117d hz C2.1.1 qwi hM (by decide) hch ht1 hdd (u80 C2.1.1 C2.1.2.1 (by decide) hcd (by decide) (fun hc => ?_) (fun hc => ?_))
        · have hcw := (uCa_q X2.1.2.1.1 (by decide) hcd).mp hc
          have e : ko = cd := by rw [← eko, uKdo_y hcw]
          have tt := turned v7 v9 v10 (uD cd) hdd
          rw [e] at tt
          exact w117e hz C2.1.1 qwi hM (by decide) hch ht1 hdd (by decide) (fun e => absurd e (by decide)) (fun _ => tt)
        · have hcw : ¬ uCa dr wp n 0 (uWs n r) cd := fun h => hc ((uCa_q X2.1.2.1.1 (by decide) hcd).mpr h)
          have e : ko = -1 := by rw [← eko, uKdo_n hcw]
          have tt := turned v7 v9 v10 (uD cd) hdd
          rw [e, hdn0] at tt
          exact w117e hz C2.1.1 qwi hM (by decide) hch ht1 hdd (by decide) (fun _ => tt) (fun e => absurd rfl e)
      have hE0 := R2.2.1 t' 0 ht1.1 htL (by decide) (by decide)
      rw [show 4 * t' + 0 = 4 * t' by omega] at hE0
      refine w117t hz C2.1.1 qwi hM (by decide) hch ⟨ht1.1, by omega⟩ e79 hL (fun e => absurd e (by omega)) (fun _ e => ?_) (fun _ e1 e2 => ?_) (fun _ e1 e2 => ?_)
      · have hc1 : cd = -1 := by
          rw [← ecd]
          rcases hE0 with h | h
          · rw [h.2.2]
            split <;> rfl
          · omega
        have := at56 (some (xV (a2 85 (t' * 4 + 0)))) v9 v10
        rw [hc1] at this
        exact this
      · rw [if_neg e2] at ecd
        rcases hE0 with h | h
        · exact absurd h.2.1 e1
        · have := at56 (some (xV (a2 85 (t' * 4 + 0)))) v9 v10
          rw [← ecd, ← h.2.2.2] at this
          exact this
      · rw [if_pos e2] at ecd
        have := at56 (some (xV (a2 85 (t' * 4 + 0)))) v9 v10
        rw [← ecd] at this
        exact this
  refine pmCs_deep (d := 12) (xg117 (w117 hz ?_)) hd
  refine u66 hwo uWo80 (by omega) hC.1.1 (by rw [hX.2.2.1]; exact hB.2.1) (by decide) (fun a3 b3 c3 A3 => w117a ?_)
  exact loop L.toNat 0 a3 b3 _ _ _ _ (by omega) (uTg_c c3) (uCb_e hC (fun q j h1 h2 => c3.2.2.2.2.2.1 q j (by omega)) (fun q j e => c3.2.2.2.2.2.2 q j (by omega)) A3) (uCx_cp hX c3)
end
end
