/-! acts of the class, by rows -/
section
set_option maxRecDepth 100000


section
variable {ro : Nat → Nat × (Nat → Int32)} {d w : Nat} {Q : Option Value → pmS → Prop} {dr wp co pr cnt W : Int → Int} {T : Int → List Int} {n c p k x v : Int} {r r' : Int → Int} {a a' a0 : xA} {b b' : xB}
/-- a world of the class's by the row, all of it but the laws -/
def uCx (n : Int) (w : Nat) (r : Int → Int) (a : xA) (b : xB) : Prop := uCw n w r a b ∧ a w 6 = r 114 ∧ a w 12 = r 115 ∧ a w 8 = r 116 ∧ a w 9 = r 117 ∧ a w 10 = r 118
/-- numbers of a row -/
def uBd (r : Int → Int) : Prop := (0 ≤ r 114 ∧ r 114 ≤ 200) ∧ (0 ≤ r 115 ∧ r 115 ≤ 1) ∧ (0 ≤ r 116 ∧ r 116 ≤ 400) ∧ (0 ≤ r 117 ∧ r 117 ≤ 400) ∧ (0 ≤ r 118 ∧ r 118 ≤ 800000) ∧ 0 ≤ r 119 ∧ r 119 ≤ 1600
/-- the class's number of an act -/
def uAn (c : Int) : Int := if c = 0 then 0 else if c < 36 then 64 + 8 * ((c - 1) / 7) + (c - 1) % 7 else 128 + 8 * (1 + (c - 36) / 7) + (c - 36) % 7
theorem uAn_s (h : 1 ≤ c ∧ c < 36) : (0 ≤ uAn c ∧ uAn c ≤ 511) ∧ uAn c / 64 = 1 ∧ uAn c / 8 % 8 = (c - 1) / 7 ∧ uAn c % 8 = (c - 1) % 7 := by
  unfold uAn
  rw [if_neg (by omega), if_pos h.2]
  omega
theorem uAn_h (h : 36 ≤ c ∧ c ≤ 56) : (0 ≤ uAn c ∧ uAn c ≤ 511) ∧ uAn c / 64 = 2 ∧ uAn c / 8 % 8 = 1 + (c - 36) / 7 ∧ uAn c % 8 = (c - 36) % 7 := by
  unfold uAn
  rw [if_neg (by omega), if_neg (by omega)]
  omega
theorem uPc_n (hc : 0 ≤ c ∧ c ≤ 56) (h8 : a w 8 = r 116) (h9 : a w 9 = r 117) : uPc (uAn c) (a w 8) (a w 9) = uPr c r := by
  unfold uPc uPr
  rw [h8, h9]
  by_cases c0 : c = 0
  · rw [c0]
    rfl
  rw [if_neg c0]
  by_cases cs : c < 36
  · obtain ⟨g1, g2, g3, g4⟩ := uAn_s ⟨by omega, cs⟩
    rw [if_neg (show ¬ uAn c = 0 by omega), if_pos g2, if_pos cs]
  · obtain ⟨g1, g2, g3, g4⟩ := uAn_h ⟨by omega, hc.2⟩
    rw [if_neg (show ¬ uAn c = 0 by omega), if_neg (show ¬ uAn c / 64 = 1 by omega), if_neg cs]
/-- priceOf of the class -/
theorem u103 (hz : uWz w) (hA : xAr a) (hX : uCx n w r a b) (hB : uBd r) (hc : 0 ≤ c ∧ c ≤ 56) (hd : 1 ≤ d) (hQ : Q (some (xV (uPr c r))) (xS a b)) : pmCs ro d 103 [.ref 45, .ref w, xV (uAn c)] (xS a b) Q := by
  obtain ⟨hW, e6, e12, e8, e9, e10⟩ := hX
  obtain ⟨b1, b2, b3, b4, b5, b6⟩ := hB
  have hn : 0 ≤ uAn c ∧ uAn c ≤ 511 := by
    by_cases c0 : c = 0
    · rw [c0]
      decide
    by_cases cs : c < 36
    · exact (uAn_s ⟨by omega, cs⟩).1
    · exact (uAn_h ⟨by omega, hc.2⟩).1
  refine rk103 hd hz hn hA (by omega) (by omega) (by omega) (by omega) (by omega) ?_
  rw [uPc_n hc e8 e9]
  exact hQ
/-- canAct of the class -/
theorem u102 (hz : uWz w) (hA : xAr a) (hKs : uKs dr wp n a b) (hX : uCx n w r a b) (hB : uBd r) (hc : 1 ≤ c ∧ c ≤ 56) (hd : 3 ≤ d) (hT : uAc dr n c r → Q (some (xV 1)) (xS a b)) (hF : ¬ uAc dr n c r → Q (some (xV 0)) (xS a b)) : pmCs ro d 102 [.ref 45, .ref w, xV (uAn c)] (xS a b) Q := by
  obtain ⟨hW, e6, e12, e8, e9, e10⟩ := hX
  obtain ⟨b1, b2, b3, b4, b5, b6⟩ := hB
  obtain ⟨hr, hTr, hM, hO, hKh, hmk, e11⟩ := hW
  have hn : 0 ≤ uAn c ∧ uAn c ≤ 511 := by
    by_cases cs : c < 36
    · exact (uAn_s ⟨hc.1, cs⟩).1
    · exact (uAn_h ⟨by omega, hc.2⟩).1
  have sl : ∀ p, 0 ≤ p → p < 4 → uSl (b w 4) p = r p + 1 := fun p p0 p1 => (hTr.1 p p0 (by omega)).trans (uWs_p p1)
  refine pmCs_deep (d := 3) (xg102 (w102 hz hn hA (by omega) (by omega) (by omega) (by omega) (by omega) (by decide) (fun h => hF (fun g => ?_)) (fun _ h => hF (fun g => ?_)) (fun h1 h2 h3 => ?_) (fun _ _ h => ?_))) hd
  · exact g.elim (fun g => by omega) (fun g => g.1 (by omega))
  · exact g.elim (fun g => by omega) (fun g => h (by omega))
  · by_cases cs : c < 36
    · obtain ⟨g1, g2, g3, g4⟩ := uAn_s ⟨hc.1, cs⟩
      have yes : uAo dr n c r → Q (some (xV 1)) (xS a b) := fun h => hT (Or.inr ⟨by omega, by omega, h⟩)
      have no : ¬ uAo dr n c r → Q (some (xV 0)) (xS a b) := fun h => hF (fun g => g.elim (fun g => by omega) (fun g => h g.2.2))
      rw [uAo_s cs] at yes no
      have hx : 0 ≤ (c - 1) / 7 ∧ (c - 1) / 7 ≤ 4 := by omega
      have hm : 0 ≤ (c - 1) % 7 ∧ (c - 1) % 7 ≤ 6 := by omega
      rw [g3, g4]
      generalize (c - 1) / 7 = x at yes no hx ⊢
      generalize (c - 1) % 7 = rm at yes no hm ⊢
      have loop : ∀ (m : Nat) (q g : Int), q + (m : Int) = 4 → 0 ≤ q → (g = 0 ∨ g = 1) → (g = 1 → (x < n ∧ r (4 + x) = 20 ∧ ¬ r (9 + x) / ((2 ^ rm.toNat : Nat) : Int) % 2 = 0) ∧ ∀ p, 0 ≤ p → p < q → ¬ r p = rm) → (g = 0 → ¬ ((x < n ∧ r (4 + x) = 20 ∧ ¬ r (9 + x) / ((2 ^ rm.toNat : Nat) : Int) % 2 = 0) ∧ ∀ p, 0 ≤ p → p < 4 → ¬ r p = rm)) → pmWp ro 2 7 102 2 87 [some (.ref 45), some (.ref w), some (xV (uAn c)), some (xV x), some (xV rm), some (xV g), some (xV q)] [] (xS a b) Q := by
        intro m
        induction m with
        | zero =>
          intro q g hq q0 hg f1 f0
          have e4 : q = 4 := by omega
          subst e4
          refine w102q hz hm hg (by decide) (by decide) (fun _ => ?_) (fun e => absurd (by decide) e) (fun e => absurd (by decide) e)
          rcases hg with h | h
          · rw [h]
            exact no (f0 h)
          · rw [h]
            exact yes (f1 h)
        | succ m ih =>
          intro q g hq q0 hg f1 f0
          have eq := sl q q0 (by omega)
          refine w102q hz hm hg ⟨q0, by omega⟩ (by decide) (fun e => absurd e (by omega)) (fun _ e => ?_) (fun _ e => ?_)
          · have ez : xAnd g 0 = 0 := by rcases hg with h | h <;> rw [h] <;> decide
            rw [ez]
            exact ih (q + 1) 0 (by omega) (by omega) (by decide) (fun h => absurd h (by decide)) (fun _ h => h.2 q q0 (by omega) (by omega))
          · have ez : g % 2 = g := by omega
            rw [ez]
            refine ih (q + 1) g (by omega) (by omega) hg (fun h => ⟨(f1 h).1, fun p p0 p1 => ?_⟩) f0
            by_cases cp : p = q
            · rw [cp]
              omega
            · exact (f1 h).2 p p0 (by omega)
      have st0 : ¬ (x < n ∧ r (4 + x) = 20 ∧ ¬ r (9 + x) / ((2 ^ rm.toNat : Nat) : Int) % 2 = 0) → pmWp ro 2 7 102 2 87 [some (.ref 45), some (.ref w), some (xV (uAn c)), some (xV x), some (xV rm), some (xV 0), some (xV 0)] [] (xS a b) Q := fun h => loop 4 0 0 (by decide) (by decide) (by decide) (fun h => absurd h (by decide)) (fun _ g => h g.1)
      have hwx := uWs_x hr hx.1 (by omega)
      have ex := hTr.1 (4 + x) (by omega) (by omega)
      refine w102s hz hn ⟨hx.1, by omega⟩ hm (by decide) (fun e => absurd g2 e) (fun e => absurd g2 e) (fun e => absurd g2 e) (fun e => absurd g2 e) (fun e => absurd g2 e) (fun e => absurd g2 e) (fun e => absurd g2 e) (fun _ e => absurd e (by omega)) (fun _ _ e => st0 (fun h => ?_)) (fun _ _ e1 e2 => st0 (fun h => ?_)) (fun _ _ e1 e2 => ?_)
      · omega
      · rw [hTr.2.2 x hx.1 h.1 h.2.1] at e2
        exact h.2.2 e2
      · have h20 : x < n ∧ r (4 + x) = 20 := by omega
        rw [hTr.2.2 x hx.1 h20.1 h20.2] at e2
        exact loop 4 0 1 (by decide) (by decide) (by decide) (fun _ => ⟨⟨h20.1, h20.2, e2⟩, fun p p0 p1 => absurd p1 (by omega)⟩) (fun h => absurd h (by decide))
    · obtain ⟨g1, g2, g3, g4⟩ := uAn_h ⟨by omega, hc.2⟩
      have yes : uAo dr n c r → Q (some (xV 1)) (xS a b) := fun h => hT (Or.inr ⟨by omega, by omega, h⟩)
      have no : ¬ uAo dr n c r → Q (some (xV 0)) (xS a b) := fun h => hF (fun g => g.elim (fun g => by omega) (fun g => h g.2.2))
      rw [uAo_h cs] at yes no
      have hp : 1 ≤ 1 + (c - 36) / 7 ∧ 1 + (c - 36) / 7 ≤ 3 := by omega
      have hm : 0 ≤ (c - 36) % 7 ∧ (c - 36) % 7 ≤ 6 := by omega
      rw [g3, g4]
      generalize 1 + (c - 36) / 7 = p at yes no hp ⊢
      generalize (c - 36) % 7 = rm at yes no hm ⊢
      have hrp := hr.1 p (by omega) (by omega)
      have ep := sl p (by omega) (by omega)
      have e0 := sl 0 (by decide) (by decide)
      have n1 : ¬ uAn c / 64 = 1 := by omega
      have edr : uSl (b w 4) p - 1 = r p := by omega
      refine w102s hz hn ⟨by omega, by omega⟩ hm (by decide) (fun _ _ e => absurd e (by omega)) (fun _ _ _ e => no (fun h => h.1 (by omega))) (fun _ _ _ e1 e2 e3 => no (fun h => ?_)) (fun _ _ _ e1 e2 e3 e4 => no (fun h => ?_)) (fun _ _ _ e1 e2 e3 e4 => yes ⟨by omega, ?_, ?_⟩) (fun _ _ _ e1 e2 => no (fun h => h.2.1 ?_)) (fun _ e => absurd ⟨hp.1, by omega⟩ e) (fun e => absurd e n1) (fun e => absurd e n1) (fun e => absurd e n1) (fun e => absurd e n1)
      · exact h.2.2.elim (fun g => by omega) (fun g => g.2 (by omega))
      · exact h.2.2.elim (fun g => by omega) (fun g => g.1 (by omega))
      · rw [edr] at e2
        exact (hKs.1 (7 * r p + rm) (by omega) (by omega)).mp e2
      · omega
      · rw [edr] at e2
        refine Classical.byContradiction (fun hn => ?_)
        rw [(hKs.1 (7 * r p + rm) (by omega) (by omega)).mpr hn] at e2
        exact absurd e2 (by decide)
  · exfalso
    by_cases cs : c < 36
    · have := (uAn_s ⟨hc.1, cs⟩).2.2.2
      omega
    · have := (uAn_h ⟨by omega, hc.2⟩).2.2.2
      omega
/-- what an act leaves alone in the class -/
def uXf (w : Nat) (a a' : xA) (b b' : xB) : Prop := (∀ q j, ¬ q = w + 4 → ¬ (q = w ∧ (j = 8 ∨ j = 9 ∨ j = 10 ∨ j = 12)) → a' q j = a q j) ∧ ∀ q j, ¬ (q = w ∧ (j = 4 ∨ j = 5)) → ¬ (q = w + 1 ∧ 1 ≤ j ∧ j ≤ 3) → b' q j = b q j
/-- act of the class -/
theorem u104 (hz : uWz w) (hA : xAr a) (hn0 : 0 ≤ n ∧ n ≤ 5) (hX : uCx n w r a b) (hB : uBd r) (hc : 1 ≤ c ∧ c ≤ 56) (hcan : uAo dr n c r) (hd : 4 ≤ d) (hQ : ∀ a' b', uXf w a a' b b' → xAr a' → uCx n w (uAx n c r) a' b' → (∀ j, 0 ≤ j → j < 3 → a' (w + 4) j = 0) → Q none (xS a' b')) : pmCs ro d 104 [.ref 45, .ref w, xV (uAn c)] (xS a b) Q := by
  obtain ⟨hW, e6, e12, e8, e9, e10⟩ := hX
  obtain ⟨hr, hTr, hM, hO, hKh, hmk, e11⟩ := hW
  have hB0 := hB
  obtain ⟨b1, b2, b3, b4, b5, b6⟩ := hB
  have hn : 0 ≤ uAn c ∧ uAn c ≤ 511 := by
    by_cases cs : c < 36
    · exact (uAn_s ⟨hc.1, cs⟩).1
    · exact (uAn_h ⟨by omega, hc.2⟩).1
  have epc : uPc (uAn c) (a w 8) (a w 9) = uPr c r := uPc_n (by omega) e8 e9
  have hpb := uPr_b (c := c) (r := r) (by omega) (by omega)
  have vx := uRv_x hn0 hr hc
  have hi : ∀ j, 41 ≤ j → uAx n c r j = uAa c r j := fun j hj => by
    unfold uAx
    rw [if_neg (by omega)]
    exact uAl_hi hn0.2 vx hj
  have fin : ∀ (A : xA) (B : xB), (∀ q j, ¬ q = w + 4 → ¬ (q = w ∧ (j = 8 ∨ j = 9 ∨ j = 10 ∨ j = 12)) → A q j = a q j) → xAr A → (A w 8 = uAa c r 116 ∧ A w 9 = uAa c r 117 ∧ A w 10 = uAa c r 118 ∧ A w 12 = 1) → (∀ j, 0 ≤ j → j < 3 → A (w + 4) j = 0) → (∀ q j, ¬ (q = w ∧ j = 4) → B q j = b q j) → uRt n w (uAa c r) B → ∀ pl, pmCs ro 3 59 [.ref 43, .ref w] (xS A B) (fun r' s' => pmWp ro 3 7 104 0 108 [some (.ref 45), some (.ref w), some (xV (uAn c)), some (xV (uAn c / 8 % 8)), some (xV pl)] (r'.toList ++ []) s' Q) := by
    intro A B x1 A1 e1 e2 x2 T1 pl
    have M1 : uRm n w (uAa c r) B := fun f f0 f1 => uRf_c (hM f f0 f1) (fun j j0 j1 => by
      rw [uAa_lo hc (by omega)]
      split
      · rw [if_neg (by omega), if_neg (by omega)]
      · rw [if_neg (by omega)]) (x2 _ _ (by omega))
    refine u59 hz hn0 vx T1 M1 (by decide) (fun B2 y2 T2 M2 O2 => w104r (hQ A B2 ⟨x1, fun q j h1 h2 => (y2 q j h1 h2).trans (x2 q j (fun h => h1 ⟨h.1, Or.inl h.2⟩))⟩ A1 ?_ e2))
    have ex : uAx n c r = uAl n (uAa c r) := by
      unfold uAx
      rw [if_neg (by omega)]
    have q6 : A w 6 = a w 6 := x1 w 6 (by omega) (by omega)
    have q11 : A w 11 = a w 11 := x1 w 11 (by omega) (by omega)
    refine ⟨⟨?_, ?_, ?_, ?_, ?_, fun c c0 c1 => ?_, ?_⟩, ?_, ?_, ?_, ?_, ?_⟩
    · rw [ex]
      exact uRv_l hn0.2 vx
    · rw [ex]
      exact T2
    · rw [ex]
      exact M2
    · rw [ex]
      exact O2
    · rw [ex]
      exact uKh_l hn0.2
    · rw [x1 (w + 2) c (by omega) (by omega)]
      exact hmk c c0 c1
    · rw [q11, hi 119 (by decide), uAa_hi hc (by decide), e11]
      rfl
    · rw [q6, hi 114 (by decide), uAa_hi hc (by decide), e6]
      rfl
    · rw [e1.2.2.2, hi 115 (by decide), uAa_hi hc (by decide)]
      rfl
    · rw [e1.1, hi 116 (by decide)]
    · rw [e1.2.1, hi 117 (by decide)]
    · rw [e1.2.2.1, hi 118 (by decide)]
  have e118 : uAa c r 118 = r 118 + uPr c r := by
    rw [uAa_hi hc (by decide)]
    rfl
  refine pmCs_deep (d := 4) (xg104 (w104 hz hn hA (by omega) (by omega) (by omega) (by omega) (by omega) (by decide) (fun h1 => ?_) (fun h1 => ?_))) hd
  all_goals rw [epc]
  · have cs : ¬ c < 36 := fun cs => h1 (uAn_s ⟨hc.1, cs⟩).2.1
    obtain ⟨g1, g2, g3, g4⟩ := uAn_h ⟨by omega, hc.2⟩
    rw [uAo_h cs] at hcan
    have e116 : uAa c r 116 = r 116 := by
      rw [uAa_hi hc (by decide), if_neg (by decide), if_neg (by decide), if_neg (fun h => cs h.2), if_neg (by omega)]
    have e117 : uAa c r 117 = r 117 + 1 := by
      rw [uAa_hi hc (by decide), if_neg (by decide), if_neg (by decide), if_neg (by omega), if_pos ⟨rfl, cs⟩]
    refine fin _ _ (fun q j f1 f2 => ?_) ?_ ⟨?_, ?_, ?_, ?_⟩ (fun j j0 j1 => ?_) (fun q j f => xUo f) ?_ _
    · unfold uFg
      rw [xUn f1, xUn f1, xUn f1, xUo (fun h => f2 ⟨h.1, by omega⟩), xUo (fun h => f2 ⟨h.1, by omega⟩), xUo (fun h => f2 ⟨h.1, by omega⟩)]
    · unfold uFg
      exact xAr_u (xAr_u (xAr_u (xAr_u (xAr_u (xAr_u hA ⟨by omega, by omega⟩) ⟨by omega, by omega⟩) ⟨by decide, by decide⟩) xR0) xR0) xR0
    · unfold uFg
      rw [xUn (by omega), xUn (by omega), xUn (by omega), xUk (by decide), xUk (by decide), xUk (by decide), e116]
      exact e8
    · unfold uFg
      rw [xUn (by omega), xUn (by omega), xUn (by omega), xUk (by decide), xUa, e117, e9]
    · unfold uFg
      rw [xUn (by omega), xUn (by omega), xUn (by omega), xUk (by decide), xUk (by decide), xUa, e118, e10]
    · unfold uFg
      rw [xUn (by omega), xUn (by omega), xUn (by omega), xUa]
    · unfold uFg
      by_cases j2 : j = 2
      · rw [j2, xUa]
      · rw [xUk j2]
        by_cases j1 : j = 1
        · rw [j1, xUa]
        · rw [xUk j1, show j = 0 by omega, xUa]
    · have lo : ∀ j, j < 41 → uAa c r j = if j = 1 + (c - 36) / 7 then (c - 36) % 7 else r j := fun j hj => (uAa_lo hc hj).trans (if_neg cs)
      have hp : 1 ≤ 1 + (c - 36) / 7 ∧ 1 + (c - 36) / 7 ≤ 3 := by omega
      have hm : 0 ≤ (c - 36) % 7 ∧ (c - 36) % 7 ≤ 6 := by omega
      rw [g3, g4]
      generalize 1 + (c - 36) / 7 = p at lo hp ⊢
      generalize (c - 36) % 7 = rm at lo hm ⊢
      have sl : ∀ j, 0 ≤ j → j < 16 → uSl ((xU b w 4 (xWith (b w 4) p (rm + 1))) w 4) j = if j = p then rm + 1 else uSl (b w 4) j := fun j j0 j1 => by
        rw [xUa]
        exact uWi (by omega) (by omega) (by omega) (by omega) j0 j1
      refine ⟨fun j j0 j1 => ?_, fun j j0 j1 => ?_, fun x x0 xn hx => ?_⟩
      · rw [sl j j0 (by omega)]
        by_cases cj : j = p
        · rw [if_pos cj, uWs_p (by omega), lo j (by omega), if_pos cj]
        · rw [if_neg cj, hTr.1 j j0 j1]
          refine (uWs_c ?_).symm
          rw [lo j (by omega), if_neg cj]
      · rw [sl j (by omega) j1, if_neg (by omega)]
        exact hTr.2.1 j j0 j1
      · rw [lo _ (by omega), if_neg (by omega)] at hx
        dsimp only
        rw [xUk (by decide), lo _ (by omega), if_neg (by omega)]
        exact hTr.2.2 x x0 xn hx
  · have cs : c < 36 := Classical.byContradiction (fun cs => by
      have := (uAn_h ⟨by omega, hc.2⟩).2.1
      omega)
    obtain ⟨g1, g2, g3, g4⟩ := uAn_s ⟨hc.1, cs⟩
    rw [uAo_s cs] at hcan
    have e116 : uAa c r 116 = r 116 + 1 := by
      rw [uAa_hi hc (by decide), if_neg (by decide), if_neg (by decide), if_pos ⟨rfl, cs⟩]
    have e117 : uAa c r 117 = r 117 := by
      rw [uAa_hi hc (by decide), if_neg (by decide), if_neg (by decide), if_neg (by omega), if_neg (fun h => h.2 cs)]
    refine fin _ _ (fun q j f1 f2 => ?_) ?_ ⟨?_, ?_, ?_, ?_⟩ (fun j j0 j1 => ?_) (fun q j f => xUo f) ?_ _
    · unfold uFg
      rw [xUn f1, xUn f1, xUn f1, xUo (fun h => f2 ⟨h.1, by omega⟩), xUo (fun h => f2 ⟨h.1, by omega⟩), xUo (fun h => f2 ⟨h.1, by omega⟩)]
    · unfold uFg
      exact xAr_u (xAr_u (xAr_u (xAr_u (xAr_u (xAr_u hA ⟨by omega, by omega⟩) ⟨by omega, by omega⟩) ⟨by decide, by decide⟩) xR0) xR0) xR0
    · unfold uFg
      rw [xUn (by omega), xUn (by omega), xUn (by omega), xUk (by decide), xUa, e116, e8]
    · unfold uFg
      rw [xUn (by omega), xUn (by omega), xUn (by omega), xUk (by decide), xUk (by decide), xUk (by decide), e117]
      exact e9
    · unfold uFg
      rw [xUn (by omega), xUn (by omega), xUn (by omega), xUk (by decide), xUk (by decide), xUa, e118, e10]
    · unfold uFg
      rw [xUn (by omega), xUn (by omega), xUn (by omega), xUa]
    · unfold uFg
      by_cases j2 : j = 2
      · rw [j2, xUa]
      · rw [xUk j2]
        by_cases j1 : j = 1
        · rw [j1, xUa]
        · rw [xUk j1, show j = 0 by omega, xUa]
    · have lo : ∀ j, j < 41 → uAa c r j = if j = 4 + (c - 1) / 7 then (c - 1) % 7 else if j = 9 + (c - 1) / 7 then 0 else r j := fun j hj => (uAa_lo hc hj).trans (if_pos cs)
      have hp : 0 ≤ (c - 1) / 7 ∧ (c - 1) / 7 ≤ 4 := by omega
      have hm : 0 ≤ (c - 1) % 7 ∧ (c - 1) % 7 ≤ 6 := by omega
      rw [g3, g4]
      generalize (c - 1) / 7 = x at lo hp hcan ⊢
      generalize (c - 1) % 7 = rm at lo hm hcan ⊢
      have hxn := hcan.1.1
      have sl : ∀ j, 0 ≤ j → j < 16 → uSl ((xU b w 4 (xWith (b w 4) (4 + x) (rm + 1))) w 4) j = if j = 4 + x then rm + 1 else uSl (b w 4) j := fun j j0 j1 => by
        rw [xUa]
        exact uWi (by omega) (by omega) (by omega) (by omega) j0 j1
      refine ⟨fun j j0 j1 => ?_, fun j j0 j1 => ?_, fun y y0 yn hy => ?_⟩
      · rw [sl j j0 (by omega)]
        by_cases cj : j = 4 + x
        · have el : uAa c r j = rm := by rw [lo j (by omega), if_pos cj]
          rw [if_pos cj, uWs_v el (by omega) (by omega) (by omega)]
        · rw [if_neg cj, hTr.1 j j0 j1]
          refine (uWs_c ?_).symm
          rw [lo j (by omega), if_neg cj, if_neg (by omega)]
      · rw [sl j (by omega) j1, if_neg (by omega)]
        exact hTr.2.1 j j0 j1
      · rw [lo _ (by omega)] at hy
        by_cases cy : y = x
        · rw [if_pos (by omega)] at hy
          omega
        · rw [if_neg (by omega), if_neg (by omega)] at hy
          dsimp only
          rw [xUk (by decide), lo _ (by omega), if_neg (by omega), if_neg (by omega)]
          exact hTr.2.2 y y0 yn hy
end
end
