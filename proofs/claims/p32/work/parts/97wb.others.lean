/-! otherwise and needless -/
section
set_option maxRecDepth 100000


section
variable {Ln : Nat} {xs : Nat → Int32} {ro : Nat → Nat × (Nat → Int32)} {d w : Nat} {Q : Option Value → pmS → Prop} {dr wp co pr cnt W : Int → Int} {T : Int → List Int} {n m t wh k x c cd wt wi p id M L sw ws dn z tt bg : Int} {r r' R : Int → Int} {D C AC : Int → Int} {O O' : Int → Prop} {a a' a'' a0 : xA} {b b' b'' b0 : xB}
theorem uOnn_m : ∀ u t : Nat, uOnn dr wp pr cnt W T n D C AC wi wt M R t ≤ uOnn dr wp pr cnt W T n D C AC wi wt M R (t + u)
  | 0, t => Int.le_refl _
  | u + 1, t => by
    have h := uOnn_m u t
    have g := (uOq_b (M := M) (O := uOth dr wp pr cnt W T n D C wi wt ((t + u + 1 : Nat) : Int) (uRpl dr wp pr cnt W T n C AC wi wt R (t + u))) 4).1
    have e : uOnn dr wp pr cnt W T n D C AC wi wt M R (t + (u + 1)) = uOnn dr wp pr cnt W T n D C AC wi wt M R (t + u) + uOq M (uOth dr wp pr cnt W T n D C wi wt ((t + u + 1 : Nat) : Int) (uRpl dr wp pr cnt W T n C AC wi wt R (t + u))) 4 := rfl
    rw [e]
    omega
theorem uOnn_p {i : Nat} : uOnn dr wp pr cnt W T n D C AC wi wt M R (i + 1) = uOnn dr wp pr cnt W T n D C AC wi wt M R i + uOq M (uOth dr wp pr cnt W T n D C wi wt ((i + 1 : Nat) : Int) (uRpl dr wp pr cnt W T n C AC wi wt R i)) 4 := rfl
theorem uRpl_p {i : Nat} : uRpl dr wp pr cnt W T n C AC wi wt R (i + 1) = uAy dr n (AC ((i + 1 : Nat) : Int)) (uTu dr wp pr cnt W T n (uRco dr wp n C wi ((i + 1 : Nat) : Int) (uRpl dr wp pr cnt W T n C AC wi wt R i)) wt (uRpl dr wp pr cnt W T n C AC wi wt R i)) := rfl
theorem uRco_w (ht : 1 ≤ t) (h1 : wi ≤ 0) (h2 : k ≤ 0) : uRco dr wp n C wi t r = uRco dr wp n C k t r := by
  unfold uRco
  rw [if_neg (show ¬ t = wi by omega), if_neg (show ¬ t = k by omega)]
theorem uRpl_w (h1 : wi ≤ 0) (h2 : k ≤ 0) : ∀ t : Nat, uRpl dr wp pr cnt W T n C AC wi wt R t = uRpl dr wp pr cnt W T n C AC k wt R t
  | 0 => rfl
  | t + 1 => by rw [uRpl_p, uRpl_p, uRpl_w h1 h2 t, uRco_w (show (1 : Int) ≤ ((t + 1 : Nat) : Int) by omega) h1 h2]
theorem uOnn_w (h1 : wi ≤ 0) (h2 : k ≤ 0) : ∀ t : Nat, uOnn dr wp pr cnt W T n D C AC wi wt M R t = uOnn dr wp pr cnt W T n D C AC k wt M R t
  | 0 => rfl
  | t + 1 => by
    rw [uOnn_p, uOnn_p, uRpl_w h1 h2 t, uOnn_w h1 h2 t]
    unfold uOth
    rw [uRco_w (show (1 : Int) ≤ ((t + 1 : Nat) : Int) by omega) h1 h2]
/-- rows of a replay where what may be recorded is -/
theorem uRpl_g (hn0 : 0 ≤ n ∧ n ≤ 5) (hr : uRv n R) (hB : uBqr 0 R) (hL : L ≤ 60) (hG : uRgs L C AC) : ∀ t : Nat, (t : Int) ≤ L → uRv n (uRpl dr wp pr cnt W T n C AC wi wt R t) ∧ uBqr t (uRpl dr wp pr cnt W T n C AC wi wt R t) := by
  intro t
  induction t with
  | zero => exact fun _ => ⟨hr, hB⟩
  | succ t ih =>
    intro ht
    obtain ⟨g1, g2⟩ := ih (by omega)
    have hcd : -1 ≤ (if ((t + 1 : Nat) : Int) = wi then -1 else C (4 * ((t + 1 : Nat) : Int))) ∧ (if ((t + 1 : Nat) : Int) = wi then -1 else C (4 * ((t + 1 : Nat) : Int))) < 61 := by
      split
      · decide
      · exact hG.1 _ (by omega) ht
    have h := uRpl_s (dr := dr) (wp := wp) (pr := pr) (cnt := cnt) (W := W) (T := T) (wt := wt) (c := AC ((t + 1 : Nat) : Int)) hn0 (by omega) g1 g2 (uKdo_p (dr := dr) (wp := wp) g1 hcd) (hG.2 _ (by omega) ht)
    exact h.2
/-- the row behind a turn of a replay -/
theorem uRpl_u (hn0 : 0 ≤ n ∧ n ≤ 5) (hr : uRv n R) (hB : uBqr 0 R) (hL : L ≤ 60) (hG : uRgs L C AC) (i : Nat) (hi : ((i + 1 : Nat) : Int) ≤ L) : uRv n (uTu dr wp pr cnt W T n (uRco dr wp n C wi ((i + 1 : Nat) : Int) (uRpl dr wp pr cnt W T n C AC wi wt R i)) wt (uRpl dr wp pr cnt W T n C AC wi wt R i)) ∧ uBqr ((i + 1 : Nat) : Int) (uTu dr wp pr cnt W T n (uRco dr wp n C wi ((i + 1 : Nat) : Int) (uRpl dr wp pr cnt W T n C AC wi wt R i)) wt (uRpl dr wp pr cnt W T n C AC wi wt R i)) := by
  obtain ⟨g1, g2⟩ := uRpl_g (dr := dr) (wp := wp) (pr := pr) (cnt := cnt) (W := W) (T := T) (wi := wi) (wt := wt) hn0 hr hB hL hG i (by omega)
  have hcd : -1 ≤ (if ((i + 1 : Nat) : Int) = wi then -1 else C (4 * ((i + 1 : Nat) : Int))) ∧ (if ((i + 1 : Nat) : Int) = wi then -1 else C (4 * ((i + 1 : Nat) : Int))) < 61 := by
    split
    · decide
    · exact hG.1 _ (by omega) hi
  have h := uRpl_s (dr := dr) (wp := wp) (pr := pr) (cnt := cnt) (W := W) (T := T) (wt := wt) (c := AC ((i + 1 : Nat) : Int)) hn0 (by omega) g1 g2 (uKdo_p (dr := dr) (wp := wp) g1 hcd) (hG.2 _ (by omega) hi)
  exact h.1
theorem uRst_i (hS : uSx dr wp pr cnt W T n a b) (h0 : uShl 0 R a) (ho : ∀ j, j < 0 ∨ 120 ≤ j → a 88 j = R j) : uRst dr wp pr cnt W T n (a 88) a (uTa 0 (uLa 1 a)) b b R := by
  have e88 : ∀ j, (uLa 1 a) 88 j = a 88 j := fun j => uLa_n (by decide)
  have sh : uShl 0 R (uLa 1 a) := fun j j0 j1 => by
    rw [uLa_lo (by omega)]
    exact h0 j j0 j1
  have er : (uTa 0 (uLa 1 a)) 88 = R := uTa_row sh (fun j hj => by rw [e88]; exact ho j hj)
  have e1 : ∀ q j, ¬ q = 89 → q ≠ 88 → (uTa 0 (uLa 1 a)) q j = a q j := fun q j h1 h2 => (uTa_n h2).trans (uLa_n h1)
  refine ⟨uPq_8 e1, uSx_8 hS (xAr_ta (xAr_la hS.1.1)) e1, by rw [er]; exact uRq_r, fun j hj => ?_, fun j j0 j1 => ?_, fun j hj => ?_⟩
  · rw [er, ho j hj]
  · rw [uTa_n (by decide)]
    exact uLa_s j j0 j1
  · rw [uTa_n (by decide), uLa_lo (by omega)]
theorem uRst_f (h : uRst dr wp pr cnt W T n (a 88) a a' b b' r) : uKq dr wp pr cnt W T n a (uTa 1 a') b b' := ⟨uPq_t h.1 (uPq_8 (fun q j _ e => uTa_n e)), uSx_8 h.2.1 (xAr_ta h.2.1.1.1) (fun q j _ e => uTa_n e), uTa_row h.2.2.2.2.1 h.2.2.2.1, fun j hj => by
  rw [uTa_n (by decide)]
  exact h.2.2.2.2.2 j hj⟩
/-- otherwise of the reference -/
theorem u232 (qr1 : xR t) (hK : uRk pr cnt W T) (hn0 : 0 ≤ n ∧ n ≤ 5) (hS : uSx dr wp pr cnt W T n a b) (h0 : uShl 0 R a) (ho : ∀ j, j < 0 ∨ 120 ≤ j → a 88 j = R j) (hr : uRv n R) (hB : uBqr 0 R) (hb : a 87 4 = bg) (hbg : bg = 0 ∨ bg = 1) (ht : a 88 114 = L) (hL : 0 ≤ L ∧ L ≤ 60) (hF : uRef L D C AC a) (hG : uRgs L C AC) (hd : 9 ≤ d) (hN : bg = 0 ∨ ¬ (1 ≤ t ∧ t ≤ L) → Q (some (xV (-1))) (xS a b)) (hQ : ¬ bg = 0 → 1 ≤ t ∧ t ≤ L → ∀ a' b', uKq dr wp pr cnt W T n a a' b b' → Q (some (xV (uOnn dr wp pr cnt W T n D C AC t (-1) 14 R L.toNat))) (xS a' b')) : pmCs ro d 232 [.ref 87, xV t] (xS a b) Q := by
  refine pmCs_deep (d := 9) (xg232 (wb232 qr1 hb hbg ht hL (by decide) (fun h => hN (Or.inl h)) (fun h1 h2 => ?_) (fun _ h => hN (Or.inr h)))) hd
  have loop : ∀ (u k : Nat) (a2 : xA) (b2 : xB) (v5 : Option Value), (k : Int) + (u : Int) = L → uRst dr wp pr cnt W T n (a 88) a a2 b b2 (uRpl dr wp pr cnt W T n C AC t (-1) R k) → pmWp ro 8 12 232 1 41 [some (.ref 87), some (xV t), some (xV L), some (xV (uOnn dr wp pr cnt W T n D C AC t (-1) 14 R k)), some (xV ((k + 1 : Nat) : Int)), v5] [] (xS a2 b2) Q := by
    intro u
    induction u with
    | zero =>
      intro k a2 b2 v5 hk S2
      have hb := uOnn_b (dr := dr) (wp := wp) (pr := pr) (cnt := cnt) (W := W) (T := T) (n := n) (D := D) (C := C) (AC := AC) (wi := t) (wt := -1) (M := 14) (R := R) k
      have hch : 0 ≤ uOnn dr wp pr cnt W T n D C AC t (-1) 14 R k ∧ uOnn dr wp pr cnt W T n D C AC t (-1) 14 R k ≤ 1000 := by omega
      have hi : 1 ≤ ((k + 1 : Nat) : Int) ∧ ((k + 1 : Nat) : Int) ≤ 61 := by omega
      have f := hQ h1 h2 _ b2 (uRst_f S2)
      rw [show L.toNat = k by omega] at f
      exact wb232c hL hch hi (fun _ => wb232i hL hch hi (u227 (by decide) (by decide) (wb232j hL hch hi f))) (fun e => absurd (by omega) e)
    | succ u ih =>
      intro k a2 b2 v5 hk S2
      have hb := uOnn_b (dr := dr) (wp := wp) (pr := pr) (cnt := cnt) (W := W) (T := T) (n := n) (D := D) (C := C) (AC := AC) (wi := t) (wt := -1) (M := 14) (R := R) k
      obtain ⟨g1, g2⟩ := uRpl_g (dr := dr) (wp := wp) (pr := pr) (cnt := cnt) (W := W) (T := T) (wi := t) (wt := -1) hn0 hr hB hL.2 hG k (by omega)
      obtain ⟨y1, y2⟩ := uRpl_u (dr := dr) (wp := wp) (pr := pr) (cnt := cnt) (W := W) (T := T) (wi := t) (wt := -1) hn0 hr hB hL.2 hG k (by omega)
      have ih := ih (k + 1)
      rw [uOnn_p, uRpl_p] at ih
      obtain ⟨ch, ech⟩ : ∃ ch, uOnn dr wp pr cnt W T n D C AC t (-1) 14 R k = ch := ⟨_, rfl⟩
      obtain ⟨r, er⟩ : ∃ r, uRpl dr wp pr cnt W T n C AC t (-1) R k = r := ⟨_, rfl⟩
      rw [ech] at hb ih ⊢
      rw [er] at S2 g1 g2 y1 y2 ih
      obtain ⟨i, ei⟩ : ∃ i, ((k + 1 : Nat) : Int) = i := ⟨_, rfl⟩
      have eii : ((k + 1 + 1 : Nat) : Int) = i + 1 := by omega
      rw [eii, ei] at ih
      rw [ei] at y1 y2 ⊢
      have hi : 1 ≤ i ∧ i ≤ 60 := by omega
      have hi61 : 1 ≤ i ∧ i ≤ 61 := by omega
      have hiL : i ≤ L := by omega
      have hch : 0 ≤ ch ∧ ch ≤ 1000 := by omega
      refine wb232c hL hch hi61 (fun e => absurd e (by omega)) (fun _ => u233 (tt := k) hK hn0 S2 g1 g2 (by omega) hF hG hi hiL qr1 (by decide) (by decide) (fun a3 b3 S3 E3 => wb232d hL hch hi61 ?_))
      obtain ⟨O, eO⟩ : ∃ O, uOth dr wp pr cnt W T n D C t (-1) i r = O := ⟨_, rfl⟩
      rw [eO] at ih
      have cnts : ∀ (u2 q : Nat), q + u2 = 4 → 1 ≤ q → pmWp ro 8 12 232 1 58 [some (.ref 87), some (xV t), some (xV L), some (xV (ch + uOq 14 O q)), some (xV i), some (xV (q : Int))] [] (xS a3 b3) Q := by
        intro u2
        induction u2 with
        | zero =>
          intro q hq _
          have e4 : q = 4 := by omega
          subst e4
          have hqb := uOq_b (M := 14) (O := O) 4
          have h4 : ((4 : Nat) : Int) = 4 := rfl
          have hch2 : 0 ≤ ch + uOq 14 O 4 ∧ ch + uOq 14 O 4 ≤ 1000 := by omega
          refine wb232e hL hch2 hi61 (by decide) (fun _ => wb232g hL hch2 hi61 (by decide) ?_) (fun e => absurd (by decide) e)
          exact u235 (tt := i) hn0 S3 y1 y2 (by omega) hF hG hi hiL (by decide) (fun a5 b5 S5 => wb232h hL hch2 hi61 (by decide) (ih a5 b5 _ (by omega) S5))
        | succ u2 ih2 =>
          intro q hq q1
          have hqb := uOq_b (M := 14) (O := O) q
          have hch2 : 0 ≤ ch + uOq 14 O q ∧ ch + uOq 14 O q ≤ 1000 := by omega
          have hq4 : 1 ≤ (q : Int) ∧ (q : Int) ≤ 4 := by omega
          have hM : ¬ (14 : Int) / ((2 ^ q : Nat) : Int) % 2 = 0 := by
            have hc : q = 1 ∨ q = 2 ∨ q = 3 := by omega
            rcases hc with h | h | h <;> subst h <;> decide
          refine wb232e hL hch2 hi61 hq4 (fun e => absurd e (by omega)) (fun _ => u234 (by omega) S3 hF hi hiL (E3 q (by omega)) (by decide) (fun ht => ?_) (fun ht => ?_))
          · rw [eO] at ht
            refine wb232f hL hch2 hi61 hq4 (by decide) (fun e => absurd e (by decide)) (fun _ => ?_)
            have := ih2 (q + 1) (by omega) (by omega)
            rw [uOq_y ⟨hM, ht⟩, ← Int.add_assoc] at this
            exact this
          · rw [eO] at ht
            refine wb232f hL hch2 hi61 hq4 (by decide) (fun _ => ?_) (fun e => absurd rfl e)
            have := ih2 (q + 1) (by omega) (by omega)
            rw [uOq_n (fun g => ht g.2)] at this
            rw [Int.add_zero]
            exact this
      have := cnts 3 1 (by decide) (by decide)
      rw [uOq_n (q := 0) (fun g => g.1 (by decide)), show uOq 14 O 0 = 0 from rfl, Int.add_zero] at this
      exact this
  refine u181 (by decide) (by decide) (wb232a hL (u227 (by decide) (by decide) (wb232b hL ?_)))
  exact loop L.toNat 0 _ b _ (by omega) (uRst_i hS h0 ho)
/-- needless of the reference -/
theorem u236 (qr1 : xR p) (hK : uRk pr cnt W T) (hn0 : 0 ≤ n ∧ n ≤ 5) (hS : uSx dr wp pr cnt W T n a b) (h0 : uShl 0 R a) (ho : ∀ j, j < 0 ∨ 120 ≤ j → a 88 j = R j) (hr : uRv n R) (hB : uBqr 0 R) (hb : a 87 4 = bg) (hbg : bg = 0 ∨ bg = 1) (ht : a 88 114 = L) (hL : 0 ≤ L ∧ L ≤ 60) (hF : uRef L D C AC a) (hG : uRgs L C AC) (hM : 1 ≤ p ∧ p ≤ 3 → ∀ q : Nat, q < 4 → (M / ((2 ^ q : Nat) : Int) % 2 = 0 ↔ (q : Int) = p)) (hd : 9 ≤ d) (hN : bg = 0 ∨ ¬ (1 ≤ p ∧ p ≤ 3) → Q (some (xV (-1))) (xS a b)) (hQ : ¬ bg = 0 → 1 ≤ p ∧ p ≤ 3 → ∀ a' b', uKq dr wp pr cnt W T n a a' b b' → Q (some (xV (if uOnn dr wp pr cnt W T n D C AC (-1) p M R L.toNat = 0 then 1 else 0))) (xS a' b')) : pmCs ro d 236 [.ref 87, xV p] (xS a b) Q := by
  refine pmCs_deep (d := 9) (xg236 (wb236 qr1 hb hbg ht hL (by decide) (fun h => hN (Or.inl h)) (fun h1 h2 => ?_) (fun _ h => hN (Or.inr (by omega))))) hd
  have hp : 1 ≤ p ∧ p ≤ 3 := by omega
  have hM := hM hp
  have fin : ∀ (ok : Int) (i : Nat) (a2 : xA) (b2 : xB) (r : Int → Int) (v5 : Option Value), (ok = 0 ∨ ok = 1) → (1 ≤ ((i + 1 : Nat) : Int) ∧ ((i + 1 : Nat) : Int) ≤ 61) → (uOnn dr wp pr cnt W T n D C AC (-1) p M R L.toNat = 0 ↔ ¬ ok = 0) → uRst dr wp pr cnt W T n (a 88) a a2 b b2 r → pmWp ro 8 12 236 1 111 [some (.ref 87), some (xV p), some (xV L), some (xV ok), some (xV ((i + 1 : Nat) : Int)), v5] [] (xS a2 b2) Q := by
    intro ok i a2 b2 r v5 hok hi he S2
    have f := hQ h1 hp _ b2 (uRst_f S2)
    refine wb236i hp hL hok hi (u227 (by decide) (by decide) (wb236j hp hL hok hi (fun e => ?_) (fun e => ?_)))
    · rw [if_neg (fun g => he.mp g e)] at f
      exact f
    · rw [if_pos (he.mpr e)] at f
      exact f
  have loop : ∀ (u k : Nat) (ok : Int) (a2 : xA) (b2 : xB) (v5 : Option Value), (k : Int) + (u : Int) = L → (ok = 0 ∨ ok = 1) → (uOnn dr wp pr cnt W T n D C AC (-1) p M R k = 0 ↔ ¬ ok = 0) → uRst dr wp pr cnt W T n (a 88) a a2 b b2 (uRpl dr wp pr cnt W T n C AC (-1) p R k) → pmWp ro 8 12 236 1 39 [some (.ref 87), some (xV p), some (xV L), some (xV ok), some (xV ((k + 1 : Nat) : Int)), v5] [] (xS a2 b2) Q := by
    intro u
    induction u with
    | zero =>
      intro k ok a2 b2 v5 hk hok he S2
      have hi : 1 ≤ ((k + 1 : Nat) : Int) ∧ ((k + 1 : Nat) : Int) ≤ 61 := by omega
      have he2 : uOnn dr wp pr cnt W T n D C AC (-1) p M R L.toNat = 0 ↔ ¬ ok = 0 := by
        rw [show L.toNat = k by omega]
        exact he
      exact wb236c hp hL hok hi (fun _ => fin ok k a2 b2 _ _ hok hi he2 S2) (fun e => absurd (by omega) e) (fun e => absurd (by omega) e)
    | succ u ih =>
      intro k ok a2 b2 v5 hk hok he S2
      have hb0 := uOnn_b (dr := dr) (wp := wp) (pr := pr) (cnt := cnt) (W := W) (T := T) (n := n) (D := D) (C := C) (AC := AC) (wi := -1) (wt := p) (M := M) (R := R) k
      obtain ⟨g1, g2⟩ := uRpl_g (dr := dr) (wp := wp) (pr := pr) (cnt := cnt) (W := W) (T := T) (wi := -1) (wt := p) hn0 hr hB hL.2 hG k (by omega)
      obtain ⟨y1, y2⟩ := uRpl_u (dr := dr) (wp := wp) (pr := pr) (cnt := cnt) (W := W) (T := T) (wi := -1) (wt := p) hn0 hr hB hL.2 hG k (by omega)
      have hi0 : 1 ≤ ((k + 1 : Nat) : Int) ∧ ((k + 1 : Nat) : Int) ≤ 61 := by omega
      have hm := uOnn_m (dr := dr) (wp := wp) (pr := pr) (cnt := cnt) (W := W) (T := T) (n := n) (D := D) (C := C) (AC := AC) (wi := -1) (wt := p) (M := M) (R := R) (u + 1) k
      rw [show k + (u + 1) = L.toNat by omega] at hm
      refine wb236c hp hL hok hi0 (fun e => absurd e (by omega)) (fun _ e => ?_) (fun _ e => ?_)
      · refine fin ok k a2 b2 _ _ hok hi0 ⟨fun g => ?_, fun g => absurd e g⟩ S2
        exact he.mp (by omega)
      have ok1 : ok = 1 := by omega
      have z0 := he.mpr e
      have ih := ih (k + 1)
      rw [uOnn_p, uRpl_p, z0] at ih
      obtain ⟨r, er⟩ : ∃ r, uRpl dr wp pr cnt W T n C AC (-1) p R k = r := ⟨_, rfl⟩
      rw [er] at S2 g1 g2 y1 y2 ih
      obtain ⟨i, ei⟩ : ∃ i, ((k + 1 : Nat) : Int) = i := ⟨_, rfl⟩
      have eii : ((k + 1 + 1 : Nat) : Int) = i + 1 := by omega
      rw [eii, ei] at ih
      rw [ei] at y1 y2 ⊢
      have hi : 1 ≤ i ∧ i ≤ 60 := by omega
      have hi61 : 1 ≤ i ∧ i ≤ 61 := by omega
      have hiL : i ≤ L := by omega
      refine u233 (tt := k) hK hn0 S2 g1 g2 (by omega) hF hG hi hiL ⟨by decide, by decide⟩ ⟨by omega, hp.2⟩ (by decide) (fun a3 b3 S3 E3 => wb236d hp hL hok hi61 ?_)
      obtain ⟨O, eO⟩ : ∃ O, uOth dr wp pr cnt W T n D C (-1) p i r = O := ⟨_, rfl⟩
      rw [eO] at ih
      have cnts : ∀ (u2 q : Nat) (ok : Int), q + u2 = 4 → (ok = 0 ∨ ok = 1) → (uOq M O q = 0 ↔ ¬ ok = 0) → pmWp ro 8 12 236 1 60 [some (.ref 87), some (xV p), some (xV L), some (xV ok), some (xV i), some (xV (q : Int))] [] (xS a3 b3) Q := by
        intro u2
        induction u2 with
        | zero =>
          intro q ok hq hok he
          have e4 : q = 4 := by omega
          subst e4
          refine wb236e hp hL hok hi61 (by decide) (fun _ => wb236g hp hL hok hi61 (by decide) ?_) (fun e => absurd (by decide) e) (fun e => absurd (by decide) e) (fun e => absurd (by decide) e)
          exact u235 (tt := i) hn0 S3 y1 y2 (by omega) hF hG hi hiL (by decide) (fun a5 b5 S5 => wb236h hp hL hok hi61 (by decide) (ih ok a5 b5 _ (by omega) hok (by rw [Int.zero_add]; exact he) S5))
        | succ u2 ih2 =>
          intro q ok hq hok he
          have hqb := uOq_b (M := M) (O := O) q
          have hq4 : 0 ≤ (q : Int) ∧ (q : Int) ≤ 4 := by omega
          have hq3 : 0 ≤ (q : Int) ∧ (q : Int) ≤ 3 := by omega
          have hMq := hM q (by omega)
          have nxt : ∀ ok2 : Int, (ok2 = 0 ∨ ok2 = 1) → (uOq M O (q + 1) = 0 ↔ ¬ ok2 = 0) → pmWp ro 8 12 236 1 93 [some (.ref 87), some (xV p), some (xV L), some (xV ok2), some (xV i), some (xV (q : Int))] [] (xS a3 b3) Q := fun ok2 h2 he2 => wb236n hp hL h2 hi61 hq3 (ih2 (q + 1) ok2 (by omega) h2 he2)
          refine wb236e hp hL hok hi61 hq4 (fun e => absurd e (by omega)) (fun _ e => nxt 0 (by decide) ⟨fun g => ?_, fun g => absurd rfl g⟩) (fun _ e eq => nxt 1 (by decide) ⟨fun _ => by decide, fun _ => ?_⟩) (fun _ e eq => u234 (by omega) S3 hF hi hiL (E3 q (by omega)) (by decide) (fun ht => ?_) (fun ht => ?_))
          · have hlt : uOq M O q ≤ uOq M O (q + 1) := by
              by_cases g2 : ¬ M / ((2 ^ q : Nat) : Int) % 2 = 0 ∧ O (q : Int)
              · rw [uOq_y g2]
                omega
              · rw [uOq_n g2]
                omega
            exact absurd e (he.mp (by omega))
          · rw [uOq_n (fun g => g.1 (hMq.mpr eq))]
            exact he.mpr e
          · rw [eO] at ht
            refine wb236f hp hL hok hi61 hq4 (by decide) (fun _ => nxt 0 (by decide) ⟨fun g => ?_, fun g => absurd rfl g⟩) (fun e => absurd e (by decide))
            rw [uOq_y ⟨fun g => eq (hMq.mp g), ht⟩] at g
            omega
          · rw [eO] at ht
            refine wb236f hp hL hok hi61 hq4 (by decide) (fun e => absurd rfl e) (fun _ => nxt 1 (by decide) ⟨fun _ => by decide, fun _ => ?_⟩)
            rw [uOq_n (fun g => ht g.2)]
            exact he.mpr e
      exact cnts 4 0 ok (by decide) hok ⟨fun _ => e, fun _ => rfl⟩
  refine u181 (by decide) (by decide) (wb236a hp hL (u227 (by decide) (by decide) (wb236b hp hL ?_)))
  exact loop L.toNat 0 1 _ b _ (by omega) (by decide) ⟨fun _ => by decide, fun _ => rfl⟩ (uRst_i hS h0 ho)
end
end
