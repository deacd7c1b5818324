section
/-! check -/
section
set_option maxRecDepth 100000


section
variable {Ln : Nat} {xs : Nat → Int32} {ro : Nat → Nat × (Nat → Int32)} {d w : Nat} {Q : Option Value → pmS → Prop} {n m t k x c cd p L dn e tn kd l n4 : Int} {D C AC N tp : Int → Int} {a a' : xA} {b : xB}
/-- a number of the tape; the first that is wrong -/
def uNf (tp : Int → Int) (c : Int) : Nat → Int
  | 0 => 0
  | i + 1 => xOr (uNf tp c i * 256) (tp (4 * c + (i : Int)))
theorem uNf_x : ∀ i : Nat, xR (uNf tp c i)
  | 0 => (⟨by decide, by decide⟩ : xR 0)
  | _ + 1 => xRb (xOrB _ _)
def uFwq (D C : Int → Int) (t n4 : Int) (N : Int → Int) : Nat → Int → Int → Int
  | 0, _, c => if n4 ≤ c then -1 else c
  | u + 1, p, c => if D (4 * t + p) = 0 then uFwq D C t n4 N u (p + 1) c else if c = n4 then c else if ¬ N c = p then c else if ¬ N (c + 1) = uK (C (4 * t + p)) then c + 1 else if ¬ N (c + 2) = uX (C (4 * t + p)) then c + 2 else if ¬ N (c + 3) = uY (C (4 * t + p)) then c + 3 else uFwq D C t n4 N u (p + 1) (c + 4)
/-- number -/
theorem u131 (hA : xAr a) (hl : a 1 1 = l) (hl0 : 0 ≤ l ∧ l ≤ 400) (ht : ∀ j, 0 ≤ j → j < l → a 2 j = tp j) (hc : 0 ≤ c ∧ 4 * c + 4 ≤ l) (hd : 1 ≤ d) (hQ : Q (some (xV (uNf tp c 4))) (xS a b)) : pmCs ro d 131 [.ref 1, xV c] (xS a b) Q := by
  refine pmCs_deep (d := 1) (xg131 (wa131 ?_)) hd
  have loop : ∀ (u i : Nat) (v4 : Option Value), i + u = 4 → pmWp ro 0 6 131 1 4 [some (.ref 1), some (xV c), some (xV (uNf tp c i)), some (xV (i : Int)), v4] [] (xS a b) Q := by
    intro u
    induction u with
    | zero =>
      intro i v4 hi
      have e4 : i = 4 := by omega
      subst e4
      exact wa131a hA hc (uNf_x 4) (by decide) hl hl0 (fun _ => hQ) (fun e => absurd (by decide) e) (fun e => absurd (by decide) e) (fun e => absurd (by decide) e)
    | succ u ih =>
      intro i v4 hi
      have nx := ih (i + 1)
      have e : uNf tp c (i + 1) = xOr (uNf tp c i * 256) (a 2 (4 * c + (i : Int))) := by
        rw [ht _ (by omega) (by omega)]
        rfl
      rw [e] at nx
      exact wa131a hA hc (uNf_x i) (by omega) hl hl0 (fun g => absurd g (by omega)) (fun _ g => absurd g (by omega)) (fun _ _ g => absurd g (by omega)) (fun _ _ _ => nx _ (by omega))
  exact loop 4 0 _ (by decide)
/-- tapeNumber -/
theorem u242 (hA : xAr a) (hl0 : 0 ≤ l ∧ l ≤ 400) (ht : ∀ j, 0 ≤ j → j < l → a 93 j % 256 = tp j) (hc : 0 ≤ c ∧ 4 * c + 4 ≤ l) (hd : 1 ≤ d) (hQ : Q (some (xV (uNf tp c 4))) (xS a b)) : pmCs ro d 242 [.ref 87, xV c] (xS a b) Q := by
  have hc2 : 0 ≤ c ∧ c ≤ 99 := by omega
  refine pmCs_deep (d := 1) (xg242 (wa242 hc2 ?_)) hd
  have loop : ∀ (u i : Nat), i + u = 4 → pmWp ro 0 12 242 1 6 [some (.ref 87), some (xV c), some (xV (uNf tp c i)), some (xV (4 * c + (i : Int)))] [] (xS a b) Q := by
    intro u
    induction u with
    | zero =>
      intro i hi
      have e4 : i = 4 := by omega
      subst e4
      have h4 : ((4 : Nat) : Int) = 4 := rfl
      exact wa242a hA hc2 (uNf_x 4) (by omega) (fun _ => hQ) (fun e => absurd (by omega) e)
    | succ u ih =>
      intro i hi
      have nx := ih (i + 1) (by omega)
      have e : uNf tp c (i + 1) = xOr (uNf tp c i * 256) (a 93 (4 * c + (i : Int)) % 256) := by
        rw [ht _ (by omega) (by omega)]
        rfl
      rw [e, show 4 * c + ((i + 1 : Nat) : Int) = 4 * c + (i : Int) + 1 by omega] at nx
      exact wa242a hA hc2 (uNf_x i) (by omega) (fun g => absurd g (by omega)) (fun _ => nx)
  have := loop 4 0 (by decide)
  rw [show 4 * c + ((0 : Nat) : Int) = 4 * c by omega] at this
  exact this
/-- check of the class -/
theorem u129 (qr1 : xR t) (qr2 : xR n) (hA : xAr a) (hR : uRec L D C AC a) (hL : 0 ≤ L ∧ L ≤ 60) (h21 : a 21 6 = L) (hl : a 1 1 = l) (hl0 : 0 ≤ l ∧ l ≤ 400) (htp : ∀ j, 0 ≤ j → j < l → a 2 j = tp j) (hd : 4 ≤ d) (hN : ¬ ((1 ≤ t ∧ t ≤ L) ∧ 0 ≤ n ∧ n ≤ l / 16) → Q (some (xV (-2))) (xS a b)) (hQ : (1 ≤ t ∧ t ≤ L) ∧ 0 ≤ n ∧ n ≤ l / 16 → Q (some (xV (uFwq D C t (4 * n) (fun c => uNf tp c 4) 4 0 0))) (xS (xU a 1 1 0) b)) : pmCs ro d 129 [.ref 0, xV t, xV n] (xS a b) Q := by
  refine pmCs_deep (d := 4) (xg129 (wa129 qr1 qr2 (by omega) hl hl0 (fun h => hN (by omega)) (fun _ h => hN (by omega)) (fun _ _ h => hN (by omega)) (fun h1 h2 h3 h4 => ?_) (fun _ _ _ h => hN (by omega)))) hd
  have ht : 1 ≤ t ∧ t ≤ L := by omega
  have ht2 : 1 ≤ t ∧ t ≤ 60 := by omega
  have hn : 0 ≤ n ∧ n ≤ 25 := by omega
  have hQ := hQ ⟨ht, by omega, h4⟩
  obtain ⟨N, eN⟩ : ∃ N : Int → Int, (fun c => uNf tp c 4) = N := ⟨_, rfl⟩
  have hNe : ∀ c, N c = uNf tp c 4 := fun c => by rw [← eN]
  have hNx : ∀ c, xR (N c) := fun c => by rw [hNe]; exact uNf_x 4
  rw [eN] at hQ
  have fin : ∀ z, uFwq D C t (4 * n) N 4 0 0 = z → pmWp ro 3 11 129 1 50 [some (.ref 0), some (xV t), some (xV n), none] [xV z] (xS a b) Q := fun z ez => by
    rw [ez] at hQ
    exact wa129a (pmCs_deep (d := 1) (xg45 (wa45 (wa129b hQ))) (by decide))
  refine pmCs_deep (d := 3) (xg130 (wa130 ?_)) (by decide)
  obtain ⟨Q2, eQ2⟩ : ∃ Q2 : Option Value → pmS → Prop, (fun r' s' => pmWp ro 3 11 129 1 50 [some (.ref 0), some (xV t), some (xV n), none] (r'.toList ++ []) s' Q) = Q2 := ⟨_, rfl⟩
  have fin2 : ∀ z, uFwq D C t (4 * n) N 4 0 0 = z → Q2 (some (xV z)) (xS a b) := fun z ez => by
    rw [← eQ2]
    exact fin z ez
  rw [eQ2]
  have loop : ∀ (u p : Nat) (c : Int) (v6 v7 v8 : Option Value), p + u = 4 → (0 ≤ c ∧ c ≤ 4 * n ∧ c % 4 = 0) → uFwq D C t (4 * n) N 4 0 0 = uFwq D C t (4 * n) N u p c → pmWp ro 2 0 130 1 6 [some (.ref 79), some (.ref 1), some (xV t), some (xV n), some (xV c), some (xV (p : Int)), v6, v7, v8] [] (xS a b) Q2 := by
    intro u
    induction u with
    | zero =>
      intro p c v6 v7 v8 hp hc he
      refine wa130a hA ht2 hn (by omega) (by omega) (by decide) (fun _ g => fin2 _ (he.trans (if_pos g))) (fun _ g => fin2 _ (he.trans (if_neg g))) (fun g => absurd (by omega) g)
    | succ u ih =>
      intro p c v6 v7 v8 hp hc he
      have hp3 : 0 ≤ (p : Int) ∧ (p : Int) ≤ 3 := by omega
      refine wa130a hA ht2 hn (by omega) (by omega) (by decide) (fun g => absurd g (by omega)) (fun g => absurd g (by omega)) (fun _ => ?_)
      have hE := hR.2.1 t p ht.1 ht.2 hp3.1 (by omega)
      obtain ⟨e, ee⟩ : ∃ e, a 85 (t * 4 + p) = e := ⟨_, rfl⟩
      rw [ee] at hE ⊢
      have heb : -1 ≤ e ∧ e ≤ 50000 := by
        rcases hE with g | g <;> omega
      have ih2 := ih (p + 1)
      rw [show ((p + 1 : Nat) : Int) = (p : Int) + 1 by omega] at ih2
      have e1 : ∀ z, uFwq D C t (4 * n) N (u + 1) p c = z → uFwq D C t (4 * n) N 4 0 0 = z := fun z h => he.trans h
      unfold uFwq at e1
      by_cases d0 : D (4 * t + p) = 0
      · have em : e = -1 := by
          rcases hE with g | g
          · exact g.2.1
          · omega
        rw [if_pos d0] at e1
        exact wa130b hA ht2 hn (by omega) hp3 (by decide) heb (by decide) (fun g => absurd g (by decide)) (fun _ _ => wa130d hA ht2 hn (by omega) hp3 (by decide) heb (by decide) (ih2 c _ _ _ (by omega) hc (e1 _ rfl))) (fun _ g => absurd em g) (fun _ g => absurd em g) (fun _ g => absurd em g) (fun _ g => absurd em g)
      · rw [if_neg d0] at e1
        have en : ¬ e = -1 := by
          rcases hE with g | g
          · exact absurd g.1 d0
          · omega
        have hcd : -1 ≤ C (4 * t + p) ∧ C (4 * t + p) < 61 ∧ e % 512 = uD (C (4 * t + p)) ∧ 0 ≤ e := by
          rcases hE with g | g
          · exact absurd g.1 d0
          · exact ⟨g.2.1.1, g.2.1.2, g.2.2.2, g.2.2.1.1⟩
        obtain ⟨k, ek⟩ : ∃ k, C (4 * t + p) = k := ⟨_, rfl⟩
        rw [ek] at e1 hcd
        have hD := uD_p (k := k) ⟨hcd.1, hcd.2.1⟩
        have p0 : uPrt e 0 = uK k := by
          unfold uPrt
          rw [if_pos rfl]
          omega
        have p12 : uPrt e 1 = uX k ∧ uPrt e 2 = uY k := by
          unfold uPrt
          rw [if_neg (by decide), if_pos rfl, if_neg (by decide), if_neg (by decide)]
          by_cases k0 : k = -1
          · have x1 : uX (-1) = -1 := by decide
            have x2 : uY (-1) = -1 := by decide
            have x0 := hD.2.2.2.2 k0
            rw [k0, x1, x2]
            omega
          · have := hD.2.2.2.1 (by omega)
            omega
        by_cases c4 : c = 4 * n
        · rw [if_pos c4] at e1
          exact wa130b hA ht2 hn (by omega) hp3 (by decide) heb (by decide) (fun g => absurd g (by decide)) (fun _ g => absurd g en) (fun _ _ g => absurd rfl g) (fun _ _ g => absurd rfl g) (fun _ _ _ _ => fin2 _ (e1 _ rfl)) (fun _ _ _ g => absurd (by omega) g)
        rw [if_neg c4] at e1
        -- a number against what it should be
        have step : ∀ (s c' v : Int) (v8 : Option Value), (-1 ≤ s ∧ s ≤ 2) → (0 ≤ c' ∧ c' < 4 * n) → (-1 ≤ v ∧ v ≤ 7) → (v = if s = -1 then (p : Int) else uPrt e s) → (N c' = v → pmWp ro 2 0 130 1 24 [some (.ref 79), some (.ref 1), some (xV t), some (xV n), some (xV (c' + 1)), some (xV (p : Int)), some (xV e), some (xV (s + 1)), some (xV v)] [] (xS a b) Q2) → (¬ N c' = v → Q2 (some (xV c')) (xS a b)) → pmWp ro 2 0 130 1 24 [some (.ref 79), some (.ref 1), some (xV t), some (xV n), some (xV c'), some (xV (p : Int)), some (xV e), some (xV s), v8] [] (xS a b) Q2 := by
          intro s c' v v8 hs hc' hv ev h1 h2
          have num : ∀ {Q : Option Value → pmS → Prop}, Q (some (xV (N c'))) (xS a b) → pmCs ro 2 131 [.ref 1, xV c'] (xS a b) Q := fun h => by
            rw [hNe] at h
            exact u131 hA hl hl0 htp ⟨hc'.1, by omega⟩ (by decide) h
          refine wa130b hA ht2 hn (by omega) hp3 (by decide) heb (by omega) (fun g => absurd g (by omega)) (fun _ g => absurd g en) (fun _ _ _ g => absurd g (by omega)) (fun _ _ g _ => ?_) (fun _ _ _ g => absurd g (by omega)) (fun _ _ g _ => ?_)
          · rw [if_neg g] at ev
            rw [← ev]
            exact num (wa130c hA ht2 hn (by omega) hp3 (by decide) heb (by omega) hv (hNx _) h1 h2)
          · rw [if_pos g] at ev
            subst ev
            exact num (wa130c hA ht2 hn (by omega) hp3 (by decide) heb (by omega) hv (hNx _) h1 h2)
        have kb := uKb ⟨hcd.1, hcd.2.1⟩
        have xb := uXb ⟨hcd.1, hcd.2.1⟩
        have yb := uYb ⟨hcd.1, hcd.2.1⟩
        refine step (-1) c p _ (by decide) (by omega) (by omega) (if_pos rfl).symm (fun g => ?_) (fun g => ?_)
        rotate_left
        · rw [if_pos g] at e1
          exact fin2 _ (e1 _ rfl)
        rw [if_neg (fun h => h g)] at e1
        refine step 0 (c + 1) (uK k) _ (by decide) (by omega) (by omega) (by rw [if_neg (by decide), p0]) (fun g => ?_) (fun g => ?_)
        rotate_left
        · rw [if_pos g] at e1
          exact fin2 _ (e1 _ rfl)
        rw [if_neg (fun h => h g)] at e1
        rw [show c + 1 + 1 = c + 2 by omega]
        refine step 1 (c + 2) (uX k) _ (by decide) (by omega) (by omega) (by rw [if_neg (by decide), p12.1]) (fun g => ?_) (fun g => ?_)
        rotate_left
        · rw [if_pos g] at e1
          exact fin2 _ (e1 _ rfl)
        rw [if_neg (fun h => h g)] at e1
        rw [show c + 2 + 1 = c + 3 by omega]
        refine step 2 (c + 3) (uY k) _ (by decide) (by omega) (by omega) (by rw [if_neg (by decide), p12.2]) (fun g => ?_) (fun g => ?_)
        rotate_left
        · rw [if_pos g] at e1
          exact fin2 _ (e1 _ rfl)
        rw [if_neg (fun h => h g)] at e1
        rw [show c + 3 + 1 = c + 4 by omega]
        exact wa130b hA ht2 hn (by omega) hp3 (by decide) heb (by decide) (fun _ => wa130d hA ht2 hn (by omega) hp3 (by decide) heb (by decide) (ih2 (c + 4) _ _ _ (by omega) (by omega) (e1 _ rfl))) (fun g => absurd (by decide) g) (fun g => absurd (by decide) g) (fun g => absurd (by decide) g) (fun g => absurd (by decide) g) (fun g => absurd (by decide) g)
  exact loop 4 0 0 _ _ _ (by decide) (by omega) rfl
/-- check of the reference -/
theorem u241 (qr1 : xR t) (qr2 : xR n) (hA : xAr a) (hF : uRef L D C AC a) (hG : ∀ t p, 1 ≤ t → t ≤ L → 0 ≤ p → p < 4 → -1 ≤ C (4 * t + p) ∧ C (4 * t + p) < 61) (hL : 0 ≤ L ∧ L ≤ 60) (h88 : a 88 114 = L) (hl : a 87 9 = l) (hl0 : 0 ≤ l ∧ l ≤ 400) (htp : ∀ j, 0 ≤ j → j < l → a 93 j % 256 = tp j) (hd : 3 ≤ d) (hN : ¬ ((1 ≤ t ∧ t ≤ L) ∧ 0 ≤ n ∧ n ≤ l / 16) → Q (some (xV (-2))) (xS a b)) (hQ : (1 ≤ t ∧ t ≤ L) ∧ 0 ≤ n ∧ n ≤ l / 16 → Q (some (xV (uFwq D C t (4 * n) (fun c => uNf tp c 4) 4 0 0))) (xS (xU a 87 9 0) b)) : pmCs ro d 241 [.ref 87, xV t, xV n] (xS a b) Q := by
  refine pmCs_deep (d := 3) (xg241 (wa241 qr1 qr2 h88 hL hl hl0 (by decide) (fun _ h => hN (by omega)) (fun ht h2 h3 => ?_) (fun _ _ h => hN (by omega)) (fun h => hN (by omega)))) hd
  have ht2 : 1 ≤ t ∧ t ≤ 60 := by omega
  have hn : 0 ≤ n ∧ n ≤ 25 := by omega
  have hQ := hQ ⟨ht, by omega, h3⟩
  obtain ⟨a1, ea1⟩ : ∃ a1, xU a 87 9 0 = a1 := ⟨_, rfl⟩
  have A1 : xAr a1 := by
    rw [← ea1]
    exact xAr_u hA ⟨by decide, by decide⟩
  have o1 : ∀ q j, ¬ q = 87 → a1 q j = a q j := fun q j h => by
    rw [← ea1]
    exact xUn h
  rw [ea1] at hQ ⊢
  obtain ⟨N, eN⟩ : ∃ N : Int → Int, (fun c => uNf tp c 4) = N := ⟨_, rfl⟩
  have hNe : ∀ c, N c = uNf tp c 4 := fun c => by rw [← eN]
  have hNx : ∀ c, xR (N c) := fun c => by rw [hNe]; exact uNf_x 4
  rw [eN] at hQ
  have fin2 : ∀ z, uFwq D C t (4 * n) N 4 0 0 = z → Q (some (xV z)) (xS a1 b) := fun z ez => by
    rw [ez] at hQ
    exact hQ
  have loop : ∀ (u p : Nat) (c : Int) (v5 : Option Value), p + u = 4 → (0 ≤ c ∧ c ≤ 4 * n ∧ c % 4 = 0) → uFwq D C t (4 * n) N 4 0 0 = uFwq D C t (4 * n) N u p c → pmWp ro 2 12 241 1 43 [some (.ref 87), some (xV t), some (xV n), some (xV c), some (xV (p : Int)), v5] [] (xS a1 b) Q := by
    intro u
    induction u with
    | zero =>
      intro p c v5 hp hc he
      refine wa241a A1 ht2 hn (by omega) (by omega) (by decide) (fun _ g => fin2 _ (he.trans (if_pos g))) (fun _ g => fin2 _ (he.trans (if_neg g))) (fun g => absurd (by omega) g) (fun g => absurd (by omega) g) (fun g => absurd (by omega) g)
    | succ u ih =>
      intro p c v5 hp hc he
      have hp3 : 0 ≤ (p : Int) ∧ (p : Int) ≤ 3 := by omega
      obtain ⟨f1, f2⟩ := hF.1 t p ht.1 ht.2 hp3.1 (by omega)
      have hcd := hG t p ht.1 ht.2 hp3.1 (by omega)
      have ih2 := ih (p + 1)
      rw [show ((p + 1 : Nat) : Int) = (p : Int) + 1 by omega] at ih2
      have e1 : ∀ z, uFwq D C t (4 * n) N (u + 1) p c = z → uFwq D C t (4 * n) N 4 0 0 = z := fun z h => he.trans h
      unfold uFwq at e1
      have nx : ∀ (c : Int) (v5 : Option Value), (0 ≤ c ∧ c ≤ 4 * n ∧ c % 4 = 0) → uFwq D C t (4 * n) N 4 0 0 = uFwq D C t (4 * n) N u (p + 1) c → pmWp ro 2 12 241 1 159 [some (.ref 87), some (xV t), some (xV n), some (xV c), some (xV (p : Int)), v5] [] (xS a1 b) Q := fun c v5 hc he => wa241f A1 ht2 hn (by omega) hp3 (by decide) (ih2 c v5 (by omega) hc he)
      refine wa241a A1 ht2 hn (by omega) (by omega) (by decide) (fun g => absurd g (by omega)) (fun g => absurd g (by omega)) (fun _ d0 c4 => ?_) (fun _ d0 c4 => ?_) (fun _ d0 => ?_)
      · rw [o1 124 _ (by decide), f1] at d0
        rw [if_neg d0, if_pos c4] at e1
        exact fin2 _ (e1 _ rfl)
      · rw [o1 124 _ (by decide), f1] at d0
        rw [if_neg d0, if_neg c4] at e1
        rw [o1 120 _ (by decide), f2]
        obtain ⟨k, ek⟩ : ∃ k, C (4 * t + p) = k := ⟨_, rfl⟩
        rw [ek] at e1 hcd ⊢
        have num : ∀ {Q : Option Value → pmS → Prop} (c' : Int), (0 ≤ c' ∧ c' < 4 * n) → Q (some (xV (N c'))) (xS a1 b) → pmCs ro 2 242 [.ref 87, xV c'] (xS a1 b) Q := fun c' hc' h => by
          rw [hNe] at h
          exact u242 A1 hl0 (fun j j0 j1 => by rw [o1 93 _ (by decide)]; exact htp j j0 j1) ⟨hc'.1, by omega⟩ (by decide) h
        have hc96 : 0 ≤ c ∧ c ≤ 96 := by omega
        refine num c (by omega) (wa241b A1 ht2 hn hc96 hp3 (hNx _) hcd (by decide) (fun g => ?_) (fun g => ?_))
        rotate_left
        · rw [if_pos g] at e1
          exact fin2 _ (e1 _ rfl)
        rw [if_neg (fun h => h g)] at e1
        refine num (c + 1) (by omega) (wa241c A1 ht2 hn hc96 hp3 (hNx _) hcd (by decide) (fun g => ?_) (fun g => ?_))
        rotate_left
        · rw [if_pos g] at e1
          exact fin2 _ (e1 _ rfl)
        rw [if_neg (fun h => h g)] at e1
        refine num (c + 2) (by omega) (wa241d A1 ht2 hn hc96 hp3 (hNx _) hcd (by decide) (fun g => ?_) (fun g => ?_))
        rotate_left
        · rw [if_pos g] at e1
          exact fin2 _ (e1 _ rfl)
        rw [if_neg (fun h => h g)] at e1
        refine num (c + 3) (by omega) (wa241e A1 ht2 hn hc96 hp3 (hNx _) hcd (by decide) (fun g => ?_) (fun g => ?_))
        rotate_left
        · rw [if_pos g] at e1
          exact fin2 _ (e1 _ rfl)
        rw [if_neg (fun h => h g)] at e1
        exact nx (c + 4) _ (by omega) (e1 _ rfl)
      · rw [o1 124 _ (by decide), f1] at d0
        rw [if_pos d0] at e1
        exact nx c _ hc (e1 _ rfl)
  exact loop 4 0 0 _ (by decide) (by omega) rfl
end
end
end
section
/-! the chronicle -/
section
set_option maxRecDepth 100000


section
variable {dr wp co pr cnt W : Int → Int} {T : Int → List Int} {n m t wh k x c cd wt wi p id M L sw ws dn z tt bg : Int} {r r' R : Int → Int} {D C AC : Int → Int} {a a' a'' a0 a1 a2 a3 a4 : xA} {b b' b'' b0 b1 b2 b3 b4 : xB}
/-- who is dead stays dead -/
theorem uDe_7 (hn5 : n ≤ 5) (hr : uRv n r) (hq : 0 ≤ x ∧ x ≤ 3) (hk : 0 ≤ k ∧ k < 61) (hc : uCp n x k r) (hp : 0 ≤ p ∧ p ≤ 3) (h7 : r p = 7) : uDe n x k r p = 7 := by
  have h1 := uRv_e hn5 (uRv_d hn5 hr hq hk (uCp_d hc))
  have hX := uX_b hk
  have hxp : ¬ p = x := fun h => hc.1 (by rw [← h]; exact h7)
  unfold uDe
  rw [uAl_p hn5 h1 (by omega)]
  show (if p = 119 then _ else uDo n x k r p) = 7
  rw [if_neg (by omega)]
  unfold uDo
  by_cases c1 : uK k = 1
  · rw [if_pos c1]
    show (if p = x then _ else r p) = 7
    rw [if_neg hxp, h7]
  rw [if_neg c1]
  by_cases c2 : uK k = 2
  · rw [if_pos c2]
    show (if p = 4 + uX k then _ else r p) = 7
    rw [if_neg (by omega), h7]
  rw [if_neg c2]
  by_cases c3 : uK k = 3
  · rw [if_pos c3]
    show (if p = 4 + uX k then _ else r p) = 7
    rw [if_neg (by omega), h7]
  rw [if_neg c3]
  by_cases c4 : uK k = 4
  · rw [if_pos c4]
    show (if p = 4 + uX k then _ else r p) = 7
    rw [if_neg (by omega), h7]
  rw [if_neg c4]
  by_cases c5 : uK k = 5
  · rw [if_pos c5]
    unfold uZt
    by_cases px : p = uX k
    · rw [if_pos px]
    · rw [if_neg px, if_neg (by omega), if_neg (by omega), h7]
  · rw [if_neg c5]
    have c6 : uK k = 6 := by omega
    have hy := hc.2.2.1 c6
    show (if p = 14 + 9 * (uY k - 1) + uX k then _ else r p) = 7
    rw [if_neg (by omega), h7]
theorem uTr_7 (hn0 : 0 ≤ n ∧ n ≤ 5) (hr : uRv n r) (hcd : cd = -1 ∨ ((0 ≤ cd ∧ cd < 61) ∧ (¬ r 0 = 7 → uCp n 0 cd r))) (hp : 0 ≤ p ∧ p ≤ 3) (q : Nat) (hq : q < 4) (h7 : uTr dr wp pr cnt W T n cd wt r q p = 7) : uTr dr wp pr cnt W T n cd wt r (q + 1) p = 7 := by
  have hv := (uTr_v (dr := dr) (wp := wp) (pr := pr) (cnt := cnt) (W := W) (T := T) (wt := wt) hn0 hr hcd q (by omega)).1
  have hk := uTr_k (dr := dr) (wp := wp) (pr := pr) (cnt := cnt) (W := W) (T := T) (wt := wt) hn0 hr hcd q hq
  show uS1 dr wp pr cnt W T n cd wt q (uTr dr wp pr cnt W T n cd wt r q) p = 7
  obtain ⟨rq, erq⟩ : ∃ z, uTr dr wp pr cnt W T n cd wt r q = z := ⟨_, rfl⟩
  rw [erq] at hv hk h7 ⊢
  by_cases c : rq q = 7 ∨ uDc dr wp pr cnt W T n cd wt q rq = -1
  · rw [uS1_n c]
    exact h7
  · have c1 : ¬ rq q = 7 := fun h => c (Or.inl h)
    have c2 : ¬ uDc dr wp pr cnt W T n cd wt q rq = -1 := fun h => c (Or.inr h)
    rw [uS1_y c1 c2]
    obtain ⟨k1, k2⟩ := hk c1 c2
    exact uDe_7 hn0.2 hv ⟨by omega, by omega⟩ k1 k2 hp h7
theorem uTr_7l (hn0 : 0 ≤ n ∧ n ≤ 5) (hr : uRv n r) (hcd : cd = -1 ∨ ((0 ≤ cd ∧ cd < 61) ∧ (¬ r 0 = 7 → uCp n 0 cd r))) (hp : 0 ≤ p ∧ p ≤ 3) : ∀ (u q : Nat), q + u ≤ 4 → uTr dr wp pr cnt W T n cd wt r q p = 7 → uTr dr wp pr cnt W T n cd wt r (q + u) p = 7
  | 0, _, _, h => h
  | u + 1, q, hq, h => uTr_7 hn0 hr hcd hp (q + u) (by omega) (uTr_7l hn0 hr hcd hp u q (by omega) h)
theorem uAx_7 (hn0 : 0 ≤ n ∧ n ≤ 5) (hr : uRv n r) (hc : 0 ≤ c ∧ c ≤ 56) (ha : uAc dr n c r) (hp : 0 ≤ p ∧ p ≤ 3) (h7 : r p = 7) : uAx n c r p = 7 := by
  unfold uAx
  by_cases c0 : c = 0
  · rw [if_pos c0, h7]
  rw [if_neg c0]
  have hc1 : 1 ≤ c ∧ c ≤ 56 := ⟨by omega, hc.2⟩
  rw [uAl_p hn0.2 (uRv_x hn0 hr hc1) (by omega)]
  unfold uAa
  rw [if_neg (by omega), if_neg (by omega)]
  by_cases cs : c < 36
  · rw [if_pos cs, if_neg (by omega), if_neg (by omega), if_neg (by omega), h7]
  · rw [if_neg cs]
    have hal : ¬ r (1 + (c - 36) / 7) = 7 := by
      rcases ha with g | g
      · exact absurd g c0
      · exact ((uAo_h cs).mp g.2.2).1
    rw [if_neg (fun e => hal (by rw [← e]; exact h7)), if_neg (by omega), h7]
/-- a wish that is chosen has a deed -/
theorem uWk_n {f : Int} (h : uWd dr wp pr cnt W T n r f = -1) : uWk dr wp pr cnt W T n r f = -1 := by
  refine Classical.byContradiction (fun c => ?_)
  unfold uWd at h
  rw [if_neg c] at h
  by_cases hx : ∃ k, uChs (cnt f) (fun i => W (f * 3 + i)) (fun i => uFd dr wp pr (T (f * 3 + i)) f (uMn n r f)) k
  · obtain ⟨k, hk⟩ := hx
    have e := uWk_e hk
    rw [e] at h c
    rcases hk with g | g
    · exact c g.1
    · exact g.2.1 h
  · refine c ?_
    unfold uWk
    rw [dif_neg hx]
theorem uEk_n (hK : uRk pr cnt W T) (hr : uRv n r) (hcd : -1 ≤ cd ∧ cd < 61) (hp : 0 ≤ p ∧ p ≤ 3) (h : uEn dr wp pr cnt W T n cd (-1) a p r) : uEk (a 119 p) (a 116 p) (a 117 p) (a 118 p) := by
  obtain ⟨h1, h2, h3, h4⟩ := h
  by_cases c7 : r p = 7
  · rw [if_pos c7] at h1 h2
    exact Or.inl ⟨h1, h2⟩
  · rw [if_neg c7] at h1 h2
    have hb := uDc_b (dr := dr) (wp := wp) (wt := -1) hK hr hcd hp c7
    by_cases cm : uDc dr wp pr cnt W T n cd (-1) p r = -1
    · rw [if_pos (Or.inr cm)] at h3
      refine Or.inr (Or.inl ⟨h1, h2.trans cm, h3, ?_⟩)
      rw [h4]
      by_cases p0 : p = 0
      · rw [if_pos (Or.inr (Or.inl p0))]
      · rw [if_neg (fun g => g.elim c7 (fun g => g.elim p0 (fun g => by omega)))]
        unfold uDc at cm
        rw [if_neg p0, if_neg (by omega)] at cm
        exact uWk_n cm
    · rw [if_neg (fun g => g.elim c7 cm)] at h3
      have hs := uSg_b (p := p) (k := uDc dr wp pr cnt W T n cd (-1) p r) (r := r) 4
      have h16 : ((2 ^ 4 : Nat) : Int) = 16 := rfl
      refine Or.inr (Or.inr ⟨h1, by omega, by omega, ?_⟩)
      rw [h4]
      by_cases p0 : p = 0
      · rw [if_pos (Or.inr (Or.inl p0))]
        decide
      · rw [if_neg (fun g => g.elim c7 (fun g => g.elim p0 (fun g => by omega)))]
        exact uWk_b hK ⟨by omega, hp.2⟩
/-- the chronicle of both, the row being r -/
def uChr (L : Int) (r : Int → Int) (a : xA) : Prop := a 79 6 = L ∧ (∀ t p, 1 ≤ t → t ≤ L → 0 ≤ p → p < 4 → a 85 (t * 4 + p) = uEe (a 124 (4 * t + p)) (a 120 (4 * t + p)) (a 121 (4 * t + p)) (a 122 (4 * t + p)) ∧ uEk (a 124 (4 * t + p)) (a 120 (4 * t + p)) (a 121 (4 * t + p)) (a 122 (4 * t + p))) ∧ (∀ t, 1 ≤ t → t ≤ L → (0 ≤ a 123 t ∧ a 123 t ≤ 56) ∧ a 86 t = uAn (a 123 t)) ∧ (∀ t, L < t → t ≤ 60 → a 86 t = 0) ∧ uAlv L (a 124) ∧ ∀ p, 1 ≤ L → 0 ≤ p → p < 4 → a 124 (4 * L + p) = 0 → r p = 7
theorem uChr_r (h : uChr L r a) : uRec L (a 124) (a 120) (a 123) a := ⟨h.1, fun t p t1 t2 p0 p1 => by
  obtain ⟨e1, e2⟩ := h.2.1 t p t1 t2 p0 p1
  rw [e1]
  exact uEk_r e2, h.2.2.1⟩
theorem uChr_f : uRef L (a 124) (a 120) (a 123) a := ⟨fun _ _ _ _ _ _ => ⟨rfl, rfl⟩, fun _ _ _ => rfl⟩
theorem uChr_c (h : uChr L r a) : ∀ t p, 1 ≤ t → t ≤ L → 0 ≤ p → p < 4 → -1 ≤ a 120 (4 * t + p) ∧ a 120 (4 * t + p) < 61 := fun t p t1 t2 p0 p1 => by
  rcases (h.2.1 t p t1 t2 p0 p1).2 with g | g | g <;> omega
theorem uChr_g (h : uChr L r a) : uRgs L (a 120) (a 123) := ⟨fun t t1 t2 => by
  have := uChr_c h t 0 t1 t2 (by decide) (by decide)
  rw [show 4 * t + 0 = 4 * t by omega] at this
  exact this, fun t t1 t2 => (h.2.2.1 t t1 t2).1⟩
/-- nothing of it changed -/
theorem uChr_o (h : uChr L r a) (e79 : a' 79 6 = a 79 6) (e : ∀ q j, q = 85 ∨ q = 86 ∨ (120 ≤ q ∧ q ≤ 124) → a' q j = a q j) (hr : ∀ p, 0 ≤ p → p < 4 → r p = 7 → r' p = 7) : uChr L r' a' := by
  have e124 : a' 124 = a 124 := funext fun j => e 124 j (by decide)
  have e120 : a' 120 = a 120 := funext fun j => e 120 j (by decide)
  have e121 : a' 121 = a 121 := funext fun j => e 121 j (by decide)
  have e122 : a' 122 = a 122 := funext fun j => e 122 j (by decide)
  have e123 : a' 123 = a 123 := funext fun j => e 123 j (by decide)
  have e85 : a' 85 = a 85 := funext fun j => e 85 j (by decide)
  have e86 : a' 86 = a 86 := funext fun j => e 86 j (by decide)
  unfold uChr
  rw [e79, e124, e120, e121, e122, e123, e85, e86]
  exact ⟨h.1, h.2.1, h.2.2.1, h.2.2.2.1, h.2.2.2.2.1, fun p l p0 p1 g => hr p p0 p1 (h.2.2.2.2.2 p l p0 p1 g)⟩
/-- a turn -/
theorem uChr_t (hK : uRk pr cnt W T) (hn0 : 0 ≤ n ∧ n ≤ 5) (hL : 0 ≤ L ∧ L < 60) (h : uChr L r a) (hr : uRv n r) (hcb : -1 ≤ cd ∧ cd < 61) (hcd : cd = -1 ∨ ((0 ≤ cd ∧ cd < 61) ∧ (¬ r 0 = 7 → uCp n 0 cd r))) (f1 : uTf 21 a a1 b b1) (n1 : uNt a1 a2 (L + 1)) (g1 : ∀ p : Nat, p < 4 → a1 44 p = uEt dr wp pr cnt W T n cd (-1) p (uTr dr wp pr cnt W T n cd (-1) r p)) (f2 : uPm a2 a3 b2 b3) (n2 : uCn a3 a4 (L + 1)) (g2 : ∀ p : Nat, p < 4 → uEn dr wp pr cnt W T n cd (-1) a3 p (uTr dr wp pr cnt W T n cd (-1) r p)) (er : uRq (uTu dr wp pr cnt W T n cd (-1) r) r') : uChr (L + 1) r' a4 := by
  obtain ⟨x1, x2, x3, x4⟩ := n1
  obtain ⟨y1, y2, y3, y4, y5⟩ := n2
  obtain ⟨c1, c2, c3, c4, c5, c6⟩ := h
  -- what stays
  have low : ∀ q j, (q = 124 ∨ q = 120 ∨ q = 121 ∨ q = 122 ∨ q = 123) → a3 q j = a q j := fun q j hq => by
    rw [f2.1 q j (by omega) (by omega) (by omega) (by omega) (by omega) (by omega) (by omega) (by omega) (by omega) (by omega) (by omega) (by omega) (by omega), x4 q j (by omega) (by omega), f1.1 q j (by omega) (by omega) (by omega) (by omega) (by omega) (by omega)]
  have hi : ∀ j, a4 85 j = a2 85 j ∧ a4 86 j = a 86 j ∧ a4 79 j = a2 79 j := fun j => by
    refine ⟨?_, ?_, ?_⟩
    · rw [y5 85 j (by decide), f2.1 85 j (by decide) (by decide) (by decide) (by decide) (by decide) (by decide) (by decide) (by decide) (by decide) (by decide) (by decide) (by decide) (by omega)]
    · rw [y5 86 j (by decide), f2.1 86 j (by decide) (by decide) (by decide) (by decide) (by decide) (by decide) (by decide) (by decide) (by decide) (by decide) (by decide) (by decide) (by omega), x4 86 j (by decide) (by omega), f1.1 86 j (by decide) (by decide) (by decide) (by omega) (by decide) (by decide)]
    · rw [y5 79 j (by decide), f2.1 79 j (by decide) (by decide) (by decide) (by decide) (by decide) (by decide) (by decide) (by decide) (by decide) (by decide) (by decide) (by decide) (by omega)]
  have old85 : ∀ j, ¬ (4 * (L + 1) ≤ j ∧ j < 4 * (L + 1) + 4) → a4 85 j = a 85 j := fun j hj => by
    rw [(hi j).1, x3 j hj, f1.1 85 j (by decide) (by decide) (by decide) (by omega) (by decide) (by decide)]
  have old : ∀ q j, q = 124 ∨ q = 120 ∨ q = 121 ∨ q = 122 → ¬ (4 * (L + 1) ≤ j ∧ j < 4 * (L + 1) + 4) → a4 q j = a q j := fun q j hq hj => by
    rw [y2 q j hq hj, low q j (by omega)]
  have v := fun q (hq : q ≤ 4) => (uTr_v (dr := dr) (wp := wp) (pr := pr) (cnt := cnt) (W := W) (T := T) (wt := -1) hn0 hr hcd q hq).1
  -- the new entries
  have new : ∀ p, 0 ≤ p → p < 4 → (a4 85 ((L + 1) * 4 + p) = uEe (a4 124 (4 * (L + 1) + p)) (a4 120 (4 * (L + 1) + p)) (a4 121 (4 * (L + 1) + p)) (a4 122 (4 * (L + 1) + p)) ∧ uEk (a4 124 (4 * (L + 1) + p)) (a4 120 (4 * (L + 1) + p)) (a4 121 (4 * (L + 1) + p)) (a4 122 (4 * (L + 1) + p))) ∧ (a4 124 (4 * (L + 1) + p) = 0 ↔ uTr dr wp pr cnt W T n cd (-1) r p.toNat p = 7) := fun p p0 p1 => by
    obtain ⟨z1, z2, z3, z4⟩ := y1 p p0 p1
    obtain ⟨q, eq⟩ : ∃ q : Nat, p = (q : Int) := ⟨p.toNat, by omega⟩
    subst eq
    have hq : q < 4 := by omega
    have hE := g2 q hq
    rw [z1, z2, z3, z4, (hi _).1, show (L + 1) * 4 + (q : Int) = 4 * (L + 1) + q by omega, x2 q p0 p1, g1 q hq, uEt_e hE, show (q : Int).toNat = q from rfl]
    refine ⟨⟨rfl, uEk_n hK (v q (by omega)) hcb ⟨p0, by omega⟩ hE⟩, ?_⟩
    rw [hE.1]
    constructor
    · intro g
      refine Classical.byContradiction (fun g7 => ?_)
      rw [if_neg g7] at g
      exact absurd g (by decide)
    · exact fun g => if_pos g
  refine ⟨(hi 6).2.2.trans x1, fun t p t1 t2 p0 p1 => ?_, fun t t1 t2 => ?_, fun t t1 t2 => ?_, fun p i j p0 p1 i1 ij j1 hj => ?_, fun p _ p0 p1 hz => ?_⟩
  · by_cases et : t = L + 1
    · subst et
      exact (new p p0 p1).1
    · have hj : ¬ (4 * (L + 1) ≤ 4 * t + p ∧ 4 * t + p < 4 * (L + 1) + 4) := by omega
      rw [old 124 _ (by decide) hj, old 120 _ (by decide) hj, old 121 _ (by decide) hj, old 122 _ (by decide) hj, old85 _ (by omega)]
      exact c2 t p t1 (by omega) p0 p1
  · by_cases et : t = L + 1
    · subst et
      rw [y3, (hi _).2.1, c4 _ (by omega) (by omega)]
      exact ⟨by decide, rfl⟩
    · rw [y4 t et, low 123 t (by decide), (hi _).2.1]
      exact c3 t t1 (by omega)
  · rw [(hi _).2.1]
    exact c4 t (by omega) t2
  · by_cases ej : j = L + 1
    · subst ej
      by_cases ei : i = L + 1
      · rw [ei]
        exact hj
      · rw [old 124 _ (by decide) (by omega)]
        have h7 : ¬ r p = 7 := fun g => hj ((new p p0 p1).2.mpr (by
          have := uTr_7l (dr := dr) (wp := wp) (pr := pr) (cnt := cnt) (W := W) (T := T) (wt := -1) hn0 hr hcd ⟨p0, by omega⟩ p.toNat 0 (by omega) g
          rw [Nat.zero_add] at this
          exact this))
        exact c5 p i L p0 p1 i1 (by omega) (Int.le_refl _) (fun g => h7 (c6 p (by omega) p0 p1 g))
    · rw [old 124 _ (by decide) (by omega)] at hj ⊢
      exact c5 p i j p0 p1 i1 ij (by omega) hj
  · have h7 := (new p p0 p1).2.mp hz
    have := uTr_7l (dr := dr) (wp := wp) (pr := pr) (cnt := cnt) (W := W) (T := T) (wt := -1) hn0 hr hcd ⟨p0, by omega⟩ (4 - p.toNat) p.toNat (by omega) h7
    rw [show p.toNat + (4 - p.toNat) = 4 by omega] at this
    rw [er p (by omega)]
    unfold uTu
    rw [if_neg (by omega), if_neg (by omega)]
    exact this
end
end
end
section
/-! acts in the chronicle; numbers of a row -/
section
set_option maxRecDepth 100000


section
variable {dr wp co pr cnt W : Int → Int} {T : Int → List Int} {n m t k x c cd wt p L : Int} {r r' R : Int → Int} {a a' a1 a2 : xA} {b b' b1 : xB}
/-- an act -/
theorem uChr_a (hn0 : 0 ≤ n ∧ n ≤ 5) (hL : 1 ≤ L ∧ L ≤ 60) (h : uChr L r a) (hr : uRv n r) (hc : 1 ≤ c ∧ c ≤ 56) (hac : uAc dr n c r) (h114 : r 114 = L) (f1 : uPu dr n c r a a1 b b1) (e88 : a1 88 = r) (f2 : uRa n c a1 a2) : uChr L (uAx n c r) a2 := by
  obtain ⟨x1, _, _, _, x5, _⟩ := f1
  obtain ⟨y1, _, _, y4⟩ := f2
  rw [e88, h114] at y1 y4
  rw [h114] at x1 x5
  obtain ⟨c1, c2, c3, c4, c5, c6⟩ := h
  have o : ∀ q, q = 79 ∨ q = 85 ∨ q = 124 ∨ q = 120 ∨ q = 121 ∨ q = 122 → a2 q = a q := fun q hq => funext fun j => by
    rw [y1 q j (by omega) (by omega), x1 q j (by omega) (by omega) (by omega)]
  have o86 : ∀ j, ¬ j = L → a2 86 j = a 86 j := fun j hj => by
    rw [y1 86 j (by decide) (by omega), x1 86 j (by decide) (by omega) (by omega)]
  have o123 : ∀ j, ¬ j = L → a2 123 j = a 123 j := fun j hj => by
    rw [y1 123 j (by decide) (by omega), x1 123 j (by decide) (by omega) (by omega)]
  have e86 : a2 86 L = uAn c := by
    rw [y1 86 L (by decide) (by omega)]
    exact x5
  unfold uChr
  rw [o 79 (by decide), o 85 (by decide), o 124 (by decide), o 120 (by decide), o 121 (by decide), o 122 (by decide)]
  refine ⟨c1, c2, fun t t1 t2 => ?_, fun t t1 t2 => ?_, c5, fun p l p0 p1 g => uAx_7 hn0 hr ⟨by omega, hc.2⟩ hac ⟨p0, by omega⟩ (c6 p l p0 p1 g)⟩
  · by_cases e : t = L
    · rw [e, y4, e86]
      exact ⟨⟨by omega, hc.2⟩, rfl⟩
    · rw [o123 t e, o86 t e]
      exact c3 t t1 t2
  · rw [o86 t (by omega)]
    exact c4 t t1 t2
/-- numbers of a row behind L turns -/
def uBqs (L : Int) (r : Int → Int) : Prop := (0 ≤ L ∧ L ≤ 60) ∧ r 114 = L ∧ (0 ≤ r 115 ∧ r 115 ≤ 1) ∧ 0 ≤ r 116 ∧ 0 ≤ r 117 ∧ 0 ≤ r 118 ∧ r 116 + r 117 ≤ L ∧ r 118 ≤ 180 * L ∧ (r 115 = 0 → 1 ≤ L → r 116 + r 117 ≤ L - 1 ∧ r 118 ≤ 180 * (L - 1)) ∧ 0 ≤ r 119 ∧ r 119 ≤ 4 * L
theorem uBqs_d (h : uBqs L r) : uBd r := by
  obtain ⟨h0, h1, h2, h3, h4, h5, h6, h7, h8, h9, h10⟩ := h
  exact ⟨by omega, h2, by omega, by omega, by omega, by omega⟩
theorem uBqs_r (h : uBqs L r) (hv : uRv n r) : uRow n 0 r := by
  obtain ⟨h0, h1, h2, h3, h4, h5, h6, h7, h8, h9, h10⟩ := h
  exact ⟨hv, by omega, h2, by omega, by omega, by omega, by omega⟩
theorem uBqs_q (e : uRq r r') (h : uBqs L r) : uBqs L r' := by
  unfold uBqs
  rw [e 114 (by decide), e 115 (by decide), e 116 (by decide), e 117 (by decide), e 118 (by decide), e 119 (by decide)]
  exact h
theorem uBqs_t (hn0 : 0 ≤ n ∧ n ≤ 5) (hr : uRv n r) (hcd : cd = -1 ∨ ((0 ≤ cd ∧ cd < 61) ∧ (¬ r 0 = 7 → uCp n 0 cd r))) (hL : L < 60) (h : uBqs L r) : uBqs (L + 1) (uTu dr wp pr cnt W T n cd wt r) := by
  obtain ⟨h0, h1, h2, h3, h4, h5, h6, h7, h8, h9, h10⟩ := h
  have hi := (uTr_v (dr := dr) (wp := wp) (pr := pr) (cnt := cnt) (W := W) (T := T) (wt := wt) hn0 hr hcd 4 (by decide)).2
  have h9' := uTr_9 (dr := dr) (wp := wp) (pr := pr) (cnt := cnt) (W := W) (T := T) (wt := wt) hn0 hr hcd 4 (by decide)
  have tu : ∀ j, ¬ j = 114 → ¬ j = 115 → uTu dr wp pr cnt W T n cd wt r j = uTr dr wp pr cnt W T n cd wt r 4 j := fun j h1 h2 => by
    unfold uTu
    rw [if_neg h1, if_neg h2]
  have e116 : uTu dr wp pr cnt W T n cd wt r 116 = r 116 := (tu 116 (by decide) (by decide)).trans (hi 116 (by decide) (by decide))
  have e117 : uTu dr wp pr cnt W T n cd wt r 117 = r 117 := (tu 117 (by decide) (by decide)).trans (hi 117 (by decide) (by decide))
  have e118 : uTu dr wp pr cnt W T n cd wt r 118 = r 118 := (tu 118 (by decide) (by decide)).trans (hi 118 (by decide) (by decide))
  have e119 : uTu dr wp pr cnt W T n cd wt r 119 = uTr dr wp pr cnt W T n cd wt r 4 119 := tu 119 (by decide) (by decide)
  have e114 : uTu dr wp pr cnt W T n cd wt r 114 = r 114 + 1 := rfl
  have e115 : uTu dr wp pr cnt W T n cd wt r 115 = 0 := rfl
  have h94 : ((4 : Nat) : Int) = 4 := rfl
  exact ⟨by omega, by omega, by omega, by omega, by omega, by omega, by omega, by omega, fun _ _ => ⟨by omega, by omega⟩, by omega, by omega⟩
theorem uBqs_a (hn0 : 0 ≤ n ∧ n ≤ 5) (hr : uRv n r) (hc : 1 ≤ c ∧ c ≤ 56) (hac : uAc dr n c r) (h : uBqs L r) : uBqs L (uAx n c r) := by
  obtain ⟨h0, h1, h2, h3, h4, h5, h6, h7, h8, h9, h10⟩ := h
  have hg : ¬ r 114 = 0 ∧ r 115 = 0 := by
    rcases hac with g | g
    · omega
    · exact ⟨g.1, g.2.1⟩
  have h8 := h8 hg.2 (by omega)
  have vx := uRv_x hn0 hr hc
  have e : uAx n c r = uAl n (uAa c r) := if_neg (by omega)
  have hx : ∀ j, 41 ≤ j → uAl n (uAa c r) j = _ := fun j hj => (uAl_hi hn0.2 vx hj).trans (uAa_hi hc hj)
  have hp : 0 ≤ uPr c r ∧ uPr c r ≤ 180 := by
    unfold uPr
    rw [if_neg (by omega)]
    split <;> omega
  rw [e]
  have e114 : uAl n (uAa c r) 114 = r 114 := by
    rw [hx 114 (by decide), if_neg (by decide), if_neg (by decide), if_neg (by omega), if_neg (by omega)]
  have e115 : uAl n (uAa c r) 115 = 1 := by
    rw [hx 115 (by decide), if_neg (by decide), if_pos rfl]
  have e118 : uAl n (uAa c r) 118 = r 118 + uPr c r := by
    rw [hx 118 (by decide), if_pos rfl]
  have e119 : uAl n (uAa c r) 119 = r 119 := by
    rw [hx 119 (by decide), if_neg (by decide), if_neg (by decide), if_neg (by omega), if_neg (by omega)]
  have e116 : uAl n (uAa c r) 116 = if c < 36 then r 116 + 1 else r 116 := by
    rw [hx 116 (by decide), if_neg (by decide), if_neg (by decide)]
    by_cases cs : c < 36
    · rw [if_pos ⟨rfl, cs⟩, if_pos cs]
    · rw [if_neg (fun g => cs g.2), if_neg (by omega), if_neg cs]
  have e117 : uAl n (uAa c r) 117 = if c < 36 then r 117 else r 117 + 1 := by
    rw [hx 117 (by decide), if_neg (by decide), if_neg (by decide), if_neg (by omega)]
    by_cases cs : c < 36
    · rw [if_neg (fun g => g.2 cs), if_pos cs]
    · rw [if_pos ⟨rfl, cs⟩, if_neg cs]
  by_cases cs : c < 36
  · rw [if_pos cs] at e116 e117
    exact ⟨h0, by omega, by omega, by omega, by omega, by omega, by omega, by omega, fun g => by omega, by omega, by omega⟩
  · rw [if_neg cs] at e116 e117
    exact ⟨h0, by omega, by omega, by omega, by omega, by omega, by omega, by omega, fun g => by omega, by omega, by omega⟩
end
end
end
section
/-! the invariant once the tale has begun -/
section
set_option maxRecDepth 100000


section
variable {dr wp co pr cnt W : Int → Int} {T : Int → List Int} {n m t k x c cd wt p L : Int} {r r' R : Int → Int} {a a' a0 a1 a2 a3 a4 : xA} {b b' b1 b2 b3 b4 : xB}
theorem uSx_o (h : uSx dr wp pr cnt W T n a b) (hA : xAr a') (e : ∀ q j, 87 ≤ q → a' q j = a q j) (eb : ∀ j, b' 114 j = b 114 j) : uSx dr wp pr cnt W T n a' b' := by
  obtain ⟨h1, h2, h3, h4⟩ := h
  exact ⟨uRb_o h1 hA (fun q j g => e q j (by omega)) (fun j j0 j1 => by rw [e 109 j (by decide)]; exact h1.2.2.2.2.2.2 j j0 j1), uMV_f h2 (e _ _ (by decide)) (fun j => e _ _ (by decide)) eb, uLw_o h3 (fun q j g => e q j (by omega)), fun i i0 i1 => by rw [e 100 i (by decide)]; exact h4 i i0 i1⟩
/-- what holds once the tale has begun -/
def uBg (dr wp co pr cnt W : Int → Int) (T : Int → List Int) (n : Int) (a0 : xA) (R : Int → Int) (a : xA) (b : xB) : Prop :=
  ((0 ≤ n ∧ n ≤ 5) ∧ uRk pr cnt W T ∧ uRv n R ∧ uBqr 0 R) ∧ (uCb dr wp co pr cnt W T n a0 a b ∧ uHm a ∧ uFo3 21 a ∧ uCx n 21 (a 88) a b ∧ uCx n 80 R a b ∧ a 0 12 = 1) ∧ (uSx dr wp pr cnt W T n a b ∧ uRv n (a 88) ∧ uBqs (a 88 114) (a 88) ∧ uShl 0 R a ∧ (∀ j, j < 0 ∨ 120 ≤ j → a 88 j = R j) ∧ a 87 4 = 1) ∧ uChr (a 88 114) (a 88) a
/-- the class changed what it may -/
theorem uBg_c (h : uBg dr wp co pr cnt W T n a0 R a b) (hC : uCb dr wp co pr cnt W T n a0 a' b') (hH : uHm a') (hF : uFo3 21 a') (e : ∀ q j, q ≤ 2 ∨ (21 ≤ q ∧ q ≤ 24) ∨ 79 ≤ q → a' q j = a q j) (eb : ∀ q j, q ≤ 2 ∨ (21 ≤ q ∧ q ≤ 24) ∨ 79 ≤ q → b' q j = b q j) : uBg dr wp co pr cnt W T n a0 R a' b' := by
  obtain ⟨g1, ⟨c1, c2, c3, c4, c5, c6⟩, ⟨s1, s2, s3, s4, s5, s6⟩, ch⟩ := h
  have e88 : a' 88 = a 88 := funext fun j => e 88 j (by decide)
  unfold uBg
  rw [e88]
  refine ⟨g1, ⟨hC, hH, hF, uCx_o uWo21 c4 (fun q j q1 q2 => e q j (by omega)) (fun q j q1 q2 => eb q j (by omega)), uCx_o uWo80 c5 (fun q j q1 q2 => e q j (by omega)) (fun q j q1 q2 => eb q j (by omega)), ?_⟩, ⟨uSx_o s1 hC.1.1 (fun q j hq => e q j (by omega)) (fun j => eb 114 j (by decide)), s2, s3, uShl_o (x := 1) (by decide) s4 (fun j _ => e 89 j (by decide)), s5, ?_⟩, uChr_o ch (e 79 6 (by decide)) (fun q j hq => e q j (by omega)) (fun _ _ _ g => g)⟩
  · rw [e 0 12 (by decide)]
    exact c6
  · rw [e 87 4 (by decide)]
    exact s6
theorem uBg_g (h : uBg dr wp co pr cnt W T n a0 R a b) (hC : uCb dr wp co pr cnt W T n a0 a' b') (f : uTgw 26 a a' b b') : uBg dr wp co pr cnt W T n a0 R a' b' :=
  uBg_c h hC (uHm_o h.2.1.2.1 (fun j => f.1 78 j (by decide) (by decide) (by decide))) (fun j j0 j1 => by rw [f.1 (21 + 4) j (by decide) (by decide) (by decide)]; exact h.2.1.2.2.1 j j0 j1) (fun q j hq => f.1 q j (by omega) (by omega) (by omega)) (fun q j hq => f.2 q j (by omega) (by omega))
theorem uBg_k (h : uBg dr wp co pr cnt W T n a0 R a b) (f : uKe dr wp co pr cnt W T n a0 a a' b b') : uBg dr wp co pr cnt W T n a0 R a' b' :=
  uBg_c h f.2.1 f.2.2.1 f.2.2.2 (fun q j hq => f.1.1 q j (by omega) (by omega) (by omega) (by omega)) (fun q j hq => f.1.2 q j (by omega) (by omega))
/-- the reference changed what it may -/
theorem uBg_r (h : uBg dr wp co pr cnt W T n a0 R a b) (f : uKq dr wp pr cnt W T n a a' b b') : uBg dr wp co pr cnt W T n a0 R a' b' := by
  obtain ⟨g1, ⟨c1, c2, c3, c4, c5, c6⟩, ⟨s1, s2, s3, s4, s5, s6⟩, ch⟩ := h
  obtain ⟨⟨fa, fb⟩, fS, f88, f89⟩ := f
  have e : ∀ q j, q ≤ 86 ∨ (120 ≤ q ∧ q ≤ 124) ∨ (q = 87 ∧ j = 4) → a' q j = a q j := fun q j hq => fa q j (by omega) (by omega) (by omega) (by omega) (by omega) (by omega) (by omega) (by omega) (by omega) (by omega) (by omega) (by omega) (by omega) (by omega)
  have eb : ∀ q j, q ≤ 86 → b' q j = b q j := fun q j hq => fb q j (by omega)
  unfold uBg
  rw [f88]
  refine ⟨g1, ⟨uCb_e c1 (fun q j h1 h2 => e q j (by omega)) (fun q j hq => eb q j (by omega)) fS.1.1, uHm_o c2 (fun j => e 78 j (by omega)), (fun j j0 j1 => by rw [e (21 + 4) j (by omega)]; exact c3 j j0 j1), uCx_o uWo21 c4 (fun q j q1 q2 => e q j (by omega)) (fun q j q1 q2 => eb q j (by omega)), uCx_o uWo80 c5 (fun q j q1 q2 => e q j (by omega)) (fun q j q1 q2 => eb q j (by omega)), ?_⟩, ⟨fS, s2, s3, uShl_o (x := 1) (by decide) s4 (fun j hj => f89 j (by omega)), s5, ?_⟩, uChr_o ch (e 79 6 (by decide)) (fun q j hq => e q j (by omega)) (fun _ _ _ g => g)⟩
  · rw [e 0 12 (by decide)]
    exact c6
  · rw [e 87 4 (by decide)]
    exact s6
/-- what the class has left behind a turn: what the reference needs -/
theorem uBg_t0 (h : uBg dr wp co pr cnt W T n a0 R a b) (hC : uCb dr wp co pr cnt W T n a0 a2 b1) (f1 : uTf 21 a a1 b b1) (n1 : uNt a1 a2 L) : uSx dr wp pr cnt W T n a2 b1 ∧ a2 88 = a 88 ∧ a2 87 4 = 1 := by
  have e : ∀ q j, 87 ≤ q → a2 q j = a q j := fun q j hq => by
    rw [n1.2.2.2 q j (by omega) (by omega), f1.1 q j (by omega) (by omega) (by omega) (by omega) (by omega) (by omega)]
  exact ⟨uSx_o h.2.2.1.1 hC.1.1 e (fun j => f1.2 114 j (by omega) (by omega) (by omega)), funext fun j => e 88 j (by decide), (e 87 4 (by decide)).trans h.2.2.1.2.2.2.2.2⟩
/-- a turn of both -/
theorem uBg_t (h : uBg dr wp co pr cnt W T n a0 R a b) (hL : a 88 114 = L) (hL6 : L < 60) (hcb : -1 ≤ cd ∧ cd < 61) (hcd : cd = -1 ∨ ((0 ≤ cd ∧ cd < 61) ∧ (¬ a 88 0 = 7 → uCp n 0 cd (a 88)))) (f1 : uTf 21 a a1 b b1) (n1 : uNt a1 a2 (L + 1)) (hC : uCb dr wp co pr cnt W T n a0 a2 b1) (hX : uCx n 21 (uTu dr wp pr cnt W T n cd (-1) (a 88)) a2 b1) (h25 : ∀ j, 0 ≤ j → j < 3 → a2 25 j = 0) (g1 : ∀ p : Nat, p < 4 → a1 44 p = uEt dr wp pr cnt W T n cd (-1) p (uTr dr wp pr cnt W T n cd (-1) (a 88) p)) (f2 : uPm a2 a3 b1 b4) (n2 : uCn a3 a4 (L + 1)) (hB : uRb dr wp pr cnt W T n a4) (hv : uRv n (a4 88)) (hV : uMV dr wp pr cnt T n a4 b4) (hLw : uLw a4) (er : uRq (uTu dr wp pr cnt W T n cd (-1) (a 88)) (a4 88)) (g2 : ∀ p : Nat, p < 4 → uEn dr wp pr cnt W T n cd (-1) a3 p (uTr dr wp pr cnt W T n cd (-1) (a 88) p)) : uBg dr wp co pr cnt W T n a0 R a4 b4 := by
  obtain ⟨⟨hn0, hK, hvR, hBR⟩, ⟨c1, c2, c3, c4, c5, c6⟩, ⟨s1, s2, s3, s4, s5, s6⟩, ch⟩ := h
  rw [hL] at s3 ch
  have e42 : ∀ q j, q ≤ 86 ∨ q = 89 ∨ q = 100 ∨ (q = 87 ∧ j = 4) → a4 q j = a2 q j := fun q j hq => by
    rw [n2.2.2.2.2 q j (by omega), f2.1 q j (by omega) (by omega) (by omega) (by omega) (by omega) (by omega) (by omega) (by omega) (by omega) (by omega) (by omega) (by omega) (by omega)]
  have e20 : ∀ q j, ¬ (21 ≤ q ∧ q ≤ 25) → ¬ (34 ≤ q ∧ q ≤ 44) → ¬ q = 79 → ¬ q = 85 → a2 q j = a q j := fun q j h1 h2 h3 h4 => by
    rw [n1.2.2.2 q j h4 (by omega), f1.1 q j (by omega) (by omega) (by omega) (by omega) (by omega) (by omega)]
  have eb : ∀ q j, q ≤ 86 → b4 q j = b1 q j := fun q j hq => f2.2 q j (by omega)
  have eb1 : ∀ q j, 80 ≤ q → b1 q j = b q j := fun q j hq => f1.2 q j (by omega) (by omega) (by omega)
  have hq := uBqs_q er (uBqs_t (dr := dr) (wp := wp) (pr := pr) (cnt := cnt) (W := W) (T := T) (wt := -1) hn0 s2 hcd hL6 s3)
  have e114 : a4 88 114 = L + 1 := hq.2.1
  unfold uBg
  rw [e114]
  refine ⟨⟨hn0, hK, hvR, hBR⟩, ⟨uCb_e hC (fun q j h1 h2 => e42 q j (by omega)) (fun q j g => eb q j (by omega)) hB.1, uHm_o c2 (fun j => (e42 78 j (by omega)).trans (e20 78 j (by decide) (by decide) (by decide) (by decide))), fun j j0 j1 => ?_, uCx_q hn0.2 (uCx_o uWo21 hX (fun q j q1 q2 => e42 q j (by omega)) (fun q j q1 q2 => eb q j (by omega))) er, uCx_o uWo80 c5 (fun q j q1 q2 => (e42 q j (by omega)).trans (e20 q j (by omega) (by omega) (by omega) (by omega))) (fun q j q1 q2 => (eb q j (by omega)).trans (eb1 q j (by omega))), ?_⟩, ⟨⟨hB, hV, hLw, fun i i0 i1 => ?_⟩, hv, hq, uShl_o (x := 1) (by decide) s4 (fun j _ => (e42 89 j (by omega)).trans (e20 89 j (by decide) (by decide) (by decide) (by decide))), fun j hj => ?_, ?_⟩, uChr_t hK hn0 ⟨s3.1.1, hL6⟩ ch s2 hcb hcd f1 n1 g1 f2 n2 g2 er⟩
  · show 0 ≤ a4 25 j ∧ a4 25 j ≤ 300
    rw [e42 25 j (by omega), h25 j j0 j1]
    decide
  · rw [e42 0 12 (by decide), e20 0 12 (by decide) (by decide) (by decide) (by decide)]
    exact c6
  · rw [e42 100 i (by omega), e20 100 i (by decide) (by decide) (by decide) (by decide)]
    exact s1.2.2.2 i i0 i1
  · rw [er j (by omega), ← s5 j hj]
    unfold uTu
    rw [if_neg (by omega), if_neg (by omega)]
    rcases hj with hj | hj
    · exact uTr_n (dr := dr) (wp := wp) (pr := pr) (cnt := cnt) (W := W) (T := T) (wt := -1) hn0 s2 hcd 4 (by decide) j hj
    · exact (uTr_v (dr := dr) (wp := wp) (pr := pr) (cnt := cnt) (W := W) (T := T) (wt := -1) hn0 s2 hcd 4 (by decide)).2 j (by omega) (by omega)
  · rw [e42 87 4 (by decide), e20 87 4 (by decide) (by decide) (by decide) (by decide)]
    exact s6
end
end
end
section
/-! acts, replays, check within the invariant -/
section
set_option maxRecDepth 100000


section
variable {Ln : Nat} {xs : Nat → Int32} {d : Nat} {Q : Option Value → pmS → Prop} {dr wp co pr cnt W : Int → Int} {T : Int → List Int} {n m t k x c cd wt p L l : Int} {r r' R tp : Int → Int} {a a' a0 a1 a2 a3 a4 : xA} {b b' b1 b2 b3 b4 : xB}
/-- what the class has left behind an act -/
theorem uBg_a0 (h : uBg dr wp co pr cnt W T n a0 R a b) (f1 : uPu dr n c (a 88) a a1 b b1) : uSx dr wp pr cnt W T n a1 b1 ∧ a1 88 = a 88 ∧ a1 87 4 = 1 := by
  have e : ∀ q j, 87 ≤ q → a1 q j = a q j := fun q j hq => f1.1 q j (by omega) (by omega) (by omega)
  exact ⟨uSx_o h.2.2.1.1 f1.2.2.1 e (fun j => f1.2.1 114 j (by omega) (by omega)), funext fun j => e 88 j (by decide), (e 87 4 (by decide)).trans h.2.2.1.2.2.2.2.2⟩
/-- an act of both -/
theorem uBg_a (h : uBg dr wp co pr cnt W T n a0 R a b) (hc : 1 ≤ c ∧ c ≤ 56) (hac : uAc dr n c (a 88)) (f1 : uPu dr n c (a 88) a a1 b b1) (f2 : uRa n c a1 a2) : uBg dr wp co pr cnt W T n a0 R a2 b1 := by
  obtain ⟨S1, e88, e4⟩ := uBg_a0 h f1
  obtain ⟨⟨hn0, hK, hvR, hBR⟩, ⟨c1, c2, c3, c4, c5, c6⟩, ⟨s1, s2, s3, s4, s5, s6⟩, ch⟩ := h
  obtain ⟨L, hL⟩ : ∃ L, a 88 114 = L := ⟨_, rfl⟩
  rw [hL] at s3 ch
  have hL1 : 1 ≤ L ∧ L ≤ 60 := by
    have := s3.1
    rcases hac with g | g
    · omega
    · omega
  have hch := uChr_a hn0 hL1 ch s2 hc hac hL f1 e88 f2
  obtain ⟨x1, x2, x3, x4, x5, x6⟩ := f1
  obtain ⟨y1, y2, y3, y4⟩ := f2
  rw [e88] at y1 y3 y4
  have e12 : ∀ q j, q ≠ 88 → ¬ q = 123 → a2 q j = a1 q j := fun q j h1 h2 => y1 q j h1 (by omega)
  have e01 : ∀ q j, ¬ q = 21 → ¬ q = 25 → ¬ q = 86 → a1 q j = a q j := fun q j h1 h2 h3 => x1 q j h2 (by omega) (by omega)
  have hq := uBqs_a hn0 s2 hc hac s3
  have hax : uAx n c (a 88) = uAl n (uAa c (a 88)) := if_neg (by omega)
  obtain ⟨t1, t2, t3, t4⟩ := S1
  unfold uBg
  rw [y3, show uAx n c (a 88) 114 = L from hq.2.1]
  refine ⟨⟨hn0, hK, hvR, hBR⟩, ⟨uCb_e c1 (fun q j h1 h2 => (e12 q j (by omega) (by omega)).trans (e01 q j (by omega) (by omega) (by omega))) (fun q j g => x2 q j (by omega) (by omega)) y2, uHm_o c2 (fun j => (e12 78 j (by decide) (by decide)).trans (e01 78 j (by decide) (by decide) (by decide))), fun j j0 j1 => ?_, uCx_o uWo21 x4 (fun q j q1 q2 => e12 q j (by omega) (by omega)) (fun _ _ _ _ => rfl), uCx_o uWo80 c5 (fun q j q1 q2 => (e12 q j (by omega) (by omega)).trans (e01 q j (by omega) (by omega) (by omega))) (fun q j q1 q2 => x2 q j (by omega) (by omega)), ?_⟩, ⟨⟨uRb_o t1 y2 (fun q j g => e12 q j (by omega) (by omega)) (fun j j0 j1 => by rw [e12 109 j (by decide) (by decide)]; exact t1.2.2.2.2.2.2 j j0 j1), uMV_f t2 (e12 _ _ (by decide) (by decide)) (fun j => e12 _ _ (by decide) (by decide)) (fun _ => rfl), uLw_o t3 (fun q j g => e12 q j (by omega) (by omega)), fun i i0 i1 => by rw [e12 100 i (by decide) (by decide)]; exact t4 i i0 i1⟩, ?_, hq, uShl_o (x := 1) (by decide) s4 (fun j _ => (e12 89 j (by decide) (by decide)).trans (e01 89 j (by decide) (by decide) (by decide))), fun j hj => ?_, ?_⟩, hch⟩
  · show 0 ≤ a2 25 j ∧ a2 25 j ≤ 300
    rw [e12 25 j (by decide) (by decide), x6 j j0 j1]
    decide
  · rw [e12 0 12 (by decide) (by decide), e01 0 12 (by decide) (by decide) (by decide)]
    exact c6
  · rw [hax]
    exact uRv_l hn0.2 (uRv_x hn0 s2 hc)
  · rw [uAx_n hn0 s2 ⟨by omega, hc.2⟩ hj]
    exact s5 j hj
  · rw [e12 87 4 (by decide) (by decide)]
    exact e4
end
end
end
section
/-! both sides once begun -/
section
set_option maxRecDepth 100000


section
variable {Ln : Nat} {xs : Nat → Int32} {d : Nat} {dr wp co pr cnt W : Int → Int} {T : Int → List Int} {n n' m t k x c cd wt p L l : Int} {r r' R tp : Int → Int} {a a' a0 a1 a2 : xA} {b b' b1 b2 : xB}
/-- the class answers, then the reference answers the same, and I holds -/
def uBo (Ln : Nat) (xs : Nat → Int32) (I : xA → xB → Prop) (d mC mR : Nat) (as : List Value) (a : xA) (b : xB) : Prop := ∀ Q : Option Value → pmS → Prop, (∀ z a' b', (∀ Q2 : Option Value → pmS → Prop, (∀ a'' b'', I a'' b'' → Q2 (some (xV z)) (xS a'' b'')) → pmCs (pmRo Ln xs) d mR (.ref 87 :: as) (xS a' b') Q2) → Q (some (xV z)) (xS a' b')) → pmCs (pmRo Ln xs) d mC (.ref 0 :: as) (xS a b) Q
theorem uBg_n (f : uTgw 26 a a' b b') : a' 124 = a 124 ∧ a' 120 = a 120 ∧ a' 123 = a 123 ∧ a' 88 = a 88 := ⟨funext fun j => f.1 _ j (by decide) (by decide) (by decide), funext fun j => f.1 _ j (by decide) (by decide) (by decide), funext fun j => f.1 _ j (by decide) (by decide) (by decide), funext fun j => f.1 _ j (by decide) (by decide) (by decide)⟩
theorem uBg_o (h : uBg dr wp co pr cnt W T n a0 R a b) (A : xAr a') (e : ∀ q j, ¬ q = 125 → ¬ q = 1 → ¬ (q = 87 ∧ j = 9) → a' q j = a q j) : uBg dr wp co pr cnt W T n a0 R a' b := by
  obtain ⟨g1, ⟨c1, c2, c3, c4, c5, c6⟩, ⟨s1, s2, s3, s4, s5, s6⟩, ch⟩ := h
  have e2 : ∀ q j, ¬ q = 125 → ¬ q = 1 → ¬ q = 87 → a' q j = a q j := fun q j h1 h2 h3 => e q j h1 h2 (by omega)
  have e88 : a' 88 = a 88 := funext fun j => e2 88 j (by decide) (by decide) (by decide)
  obtain ⟨t1, t2, t3, t4⟩ := s1
  unfold uBg
  rw [e88]
  refine ⟨g1, ⟨uCb_e c1 (fun q j h1 h2 => e2 q j (by omega) (by omega) (by omega)) (fun _ _ _ => rfl) A, uHm_o c2 (fun j => e2 78 j (by decide) (by decide) (by decide)), (fun j j0 j1 => by rw [e2 (21 + 4) j (by decide) (by decide) (by decide)]; exact c3 j j0 j1), uCx_o uWo21 c4 (fun q j q1 q2 => e2 q j (by omega) (by omega) (by omega)) (fun _ _ _ _ => rfl), uCx_o uWo80 c5 (fun q j q1 q2 => e2 q j (by omega) (by omega) (by omega)) (fun _ _ _ _ => rfl), ?_⟩, ⟨⟨uRb_o t1 A (fun q j g => e q j (by omega) (by omega) (by omega)) (fun j j0 j1 => by rw [e2 109 j (by decide) (by decide) (by decide)]; exact t1.2.2.2.2.2.2 j j0 j1), uMV_f t2 (e 87 41 (by decide) (by decide) (by decide)) (fun j => e2 115 j (by decide) (by decide) (by decide)) (fun _ => rfl), uLw_o t3 (fun q j g => e q j (by omega) (by omega) (by omega)), fun i i0 i1 => by rw [e2 100 i (by decide) (by decide) (by decide)]; exact t4 i i0 i1⟩, s2, s3, uShl_o (x := 1) (by decide) s4 (fun j _ => e2 89 j (by decide) (by decide) (by decide)), s5, ?_⟩, uChr_o ch (e2 79 6 (by decide) (by decide) (by decide)) (fun q j hq => e2 q j (by omega) (by omega) (by omega)) (fun _ _ _ g => g)⟩
  · rw [e2 0 12 (by decide) (by decide) (by decide)]
    exact c6
  · rw [e 87 4 (by decide) (by decide) (by decide)]
    exact s6
/-- otherwise -/
theorem uB116 (h : uBg dr wp co pr cnt W T n a0 R a b) (q1 : xR t) (hd : 13 ≤ d) : uBo Ln xs (uBg dr wp co pr cnt W T n a0 R) d 116 232 [xV t] a b := by
  intro Q hQ
  have h0 := h
  obtain ⟨⟨hn0, hK, hvR, hBR⟩, ⟨c1, c2, c3, c4, c5, c6⟩, ⟨s1, s2, s3, s4, s5, s6⟩, ch⟩ := h
  obtain ⟨L, hL⟩ : ∃ L, a 88 114 = L := ⟨_, rfl⟩
  rw [hL] at s3 ch
  refine u116 q1 hK hn0 c1 c5 hBR (uChr_r ch) s3.1 (c4.2.1.trans hL) hd (fun hn => hQ _ _ _ (fun Q2 h2 => ?_)) (fun ht a' b' f C' => hQ _ _ _ (fun Q2 h2 => ?_))
  · exact u232 q1 hK hn0 s1 s4 s5 hvR hBR s6 (Or.inr rfl) hL s3.1 uChr_f (uChr_g ch) (by omega) (fun _ => h2 a b h0) (fun _ g => absurd g hn)
  · have g := uBg_g h0 C' f
    obtain ⟨e1, e2, e3, e4⟩ := uBg_n f
    have g0 := g
    obtain ⟨_, _, ⟨t1, t2, t3, t4, t5, t6⟩, ch'⟩ := g
    rw [e4, hL] at ch'
    rw [← e1, ← e2, ← e3] at h2
    exact u232 q1 hK hn0 t1 t4 t5 hvR hBR t6 (Or.inr rfl) (by rw [e4]; exact hL) s3.1 uChr_f (uChr_g ch') (by omega) (fun g => absurd ht (g.elim (fun e => absurd e (by decide)) id)) (fun _ _ a'' b'' k => h2 a'' b'' (uBg_r g0 k))
/-- needless -/
theorem uB119 (h : uBg dr wp co pr cnt W T n a0 R a b) (q1 : xR p) (hd : 13 ≤ d) : uBo Ln xs (uBg dr wp co pr cnt W T n a0 R) d 119 236 [xV p] a b := by
  intro Q hQ
  have h0 := h
  obtain ⟨⟨hn0, hK, hvR, hBR⟩, ⟨c1, c2, c3, c4, c5, c6⟩, ⟨s1, s2, s3, s4, s5, s6⟩, ch⟩ := h
  obtain ⟨L, hL⟩ : ∃ L, a 88 114 = L := ⟨_, rfl⟩
  rw [hL] at s3 ch
  refine u119 q1 hK hn0 c1 c5 hBR (uChr_r ch) s3.1 c6 (Or.inr rfl) hd (fun hn => hQ _ _ _ (fun Q2 h2 => ?_)) (fun _ hp a' b' f C' => hQ _ _ _ (fun Q2 h2 => ?_))
  · exact u236 (M := uMq p) q1 hK hn0 s1 s4 s5 hvR hBR s6 (Or.inr rfl) hL s3.1 uChr_f (uChr_g ch) uMq_q (by omega) (fun _ => h2 a b h0) (fun _ g => absurd g (hn.elim (fun e => absurd e (by decide)) id))
  · have g := uBg_g h0 C' f
    obtain ⟨e1, e2, e3, e4⟩ := uBg_n f
    have g0 := g
    obtain ⟨_, _, ⟨t1, t2, t3, t4, t5, t6⟩, ch'⟩ := g
    rw [e4, hL] at ch'
    rw [← e1, ← e2, ← e3] at h2
    exact u236 q1 hK hn0 t1 t4 t5 hvR hBR t6 (Or.inr rfl) (by rw [e4]; exact hL) s3.1 uChr_f (uChr_g ch') uMq_q (by omega) (fun g => absurd hp (g.elim (fun e => absurd e (by decide)) id)) (fun _ _ a'' b'' k => h2 a'' b'' (uBg_r g0 k))
/-- did -/
theorem uB127 (h : uBg dr wp co pr cnt W T n a0 R a b) (q1 : xR t) (q2 : xR p) (q3 : xR k) (hd : 4 ≤ d) : uBo Ln xs (uBg dr wp co pr cnt W T n a0 R) d 127 240 [xV t, xV p, xV k] a b := by
  intro Q hQ
  have h0 := h
  obtain ⟨⟨hn0, hK, hvR, hBR⟩, ⟨c1, c2, c3, c4, c5, c6⟩, ⟨s1, s2, s3, s4, s5, s6⟩, ch⟩ := h
  obtain ⟨L, hL⟩ : ∃ L, a 88 114 = L := ⟨_, rfl⟩
  rw [hL] at s3 ch
  exact u127 q1 q2 q3 (c4.2.1.trans hL) s3.1 (fun t1 t2 p0 p1 => ch.2.1 t p t1 t2 p0 p1) hd (hQ _ _ _ (fun Q2 h2 => u240 q1 q2 q3 s1.1.1 hL s3.1 (fun t1 t2 p0 p1 => ⟨⟨rfl, rfl, rfl, rfl⟩, (ch.2.1 t p t1 t2 p0 p1).2⟩) hd (h2 a b h0)))
/-- surprise -/
theorem uB124 (h : uBg dr wp co pr cnt W T n a0 R a b) (q1 : xR t) (hd : 5 ≤ d) : uBo Ln xs (uBg dr wp co pr cnt W T n a0 R) d 124 239 [xV t] a b := by
  intro Q hQ
  have h0 := h
  obtain ⟨⟨hn0, hK, hvR, hBR⟩, ⟨c1, c2, c3, c4, c5, c6⟩, ⟨s1, s2, s3, s4, s5, s6⟩, ch⟩ := h
  obtain ⟨L, hL⟩ : ∃ L, a 88 114 = L := ⟨_, rfl⟩
  have ch0 := ch
  rw [hL] at s3 ch
  exact u124 q1 s1.1.1 (uChr_r ch) s3.1 (c4.2.1.trans hL) ch.2.2.2.2.1 hd (hQ _ _ _ (fun Q2 h2 => u239 q1 s1.1.1 uChr_f (uChr_c ch) s3.1 hL (by omega) (fun a' f A' => h2 a' b (uBg_o h0 A' (fun q j g1 _ _ => f q j g1)))))
/-- check -/
theorem uB129 (h : uBg dr wp co pr cnt W T n a0 R a b) (hl : a 1 1 = l) (hl2 : a 87 9 = l) (hl0 : 0 ≤ l ∧ l ≤ 400) (ht1 : ∀ j, 0 ≤ j → j < l → a 2 j = tp j) (ht2 : ∀ j, 0 ≤ j → j < l → a 93 j % 256 = tp j) (q1 : xR t) (q2 : xR n') (hd : 4 ≤ d) : uBo Ln xs (fun a' b' => uBg dr wp co pr cnt W T n a0 R a' b' ∧ ((a' 1 1 = l ∧ a' 87 9 = l) ∨ (a' 1 1 = 0 ∧ a' 87 9 = 0)) ∧ a' 2 = a 2 ∧ a' 93 = a 93) d 129 241 [xV t, xV n'] a b := by
  intro Q hQ
  have h0 := h
  obtain ⟨⟨hn0, hK, hvR, hBR⟩, ⟨c1, c2, c3, c4, c5, c6⟩, ⟨s1, s2, s3, s4, s5, s6⟩, ch⟩ := h
  obtain ⟨L, hL⟩ : ∃ L, a 88 114 = L := ⟨_, rfl⟩
  rw [hL] at s3 ch
  refine u129 q1 q2 s1.1.1 (uChr_r ch) s3.1 (c4.2.1.trans hL) hl hl0 ht1 hd (fun hn => hQ _ _ _ (fun Q2 h2 => ?_)) (fun hy => hQ _ _ _ (fun Q2 h2 => ?_))
  · exact u241 q1 q2 s1.1.1 uChr_f (uChr_c ch) s3.1 hL hl2 hl0 ht2 (by omega) (fun _ => h2 a b ⟨h0, Or.inl ⟨hl, hl2⟩, rfl, rfl⟩) (fun g => absurd g hn)
  · have A1 : xAr (xU a 1 1 0) := xAr_u s1.1.1 ⟨by decide, by decide⟩
    have o : ∀ q j, ¬ q = 1 → (xU a 1 1 0) q j = a q j := fun q j g => xUn g
    have o120 : (xU a 1 1 0) 120 = a 120 := funext fun j => o 120 j (by decide)
    have o124 : (xU a 1 1 0) 124 = a 124 := funext fun j => o 124 j (by decide)
    have hF : uRef L (a 124) (a 120) (a 123) (xU a 1 1 0) := ⟨fun t p _ _ _ _ => ⟨o 124 _ (by decide), o 120 _ (by decide)⟩, fun t _ _ => o 123 _ (by decide)⟩
    refine u241 (L := L) (D := a 124) (C := a 120) (AC := a 123) q1 q2 A1 hF (uChr_c ch) s3.1 ((o 88 114 (by decide)).trans hL) ((o 87 9 (by decide)).trans hl2) hl0 (fun j j0 j1 => by rw [o 93 j (by decide)]; exact ht2 j j0 j1) (by omega) (fun g => absurd hy g) (fun _ => h2 _ _ ⟨uBg_o h0 (xAr_u A1 ⟨by decide, by decide⟩) (fun q j _ g2 g3 => ?_), Or.inr ⟨?_, xUy⟩, ?_, ?_⟩)
    · rw [xUo g3, o q j g2]
    · rw [xUn (by decide)]
      exact xUy
    · exact funext fun j => (xUn (by decide)).trans (o 2 j (by decide))
    · exact funext fun j => (xUn (by decide)).trans (o 93 j (by decide))
end
end
end
section
/-! both sides once begun: settle, shift -/
section
set_option maxRecDepth 100000


section
variable {Ln : Nat} {xs : Nat → Int32} {d : Nat} {dr wp co pr cnt W : Int → Int} {T : Int → List Int} {n x p rm : Int} {R : Int → Int} {a a' a0 : xA} {b b' : xB}
/-- settle -/
theorem uB100 (h : uBg dr wp co pr cnt W T n a0 R a b) (q1 : xR x) (q2 : xR rm) (hd : 6 ≤ d) : uBo Ln xs (uBg dr wp co pr cnt W T n a0 R) d 100 215 [xV x, xV rm] a b := by
  intro Q hQ
  have h0 := h
  obtain ⟨⟨hn0, hK, hvR, hBR⟩, ⟨c1, c2, c3, c4, c5, c6⟩, ⟨s1, s2, s3, s4, s5, s6⟩, ch⟩ := h
  have hbd := uBqs_d s3
  have hl : a 88 114 ≤ 60 := s3.1.2
  refine u100 q1 q2 s1.1.1 hn0 c1.1.2.1 c4 hbd hl hd (fun hx hm hac a' b' f => hQ _ _ _ (fun Q2 h2 => ?_)) (fun hno => hQ _ _ _ (fun Q2 h2 => ?_))
  · obtain ⟨S1, e88, e4⟩ := uBg_a0 h0 f
    rw [← e88] at s2 hbd hl
    refine u215 q1 q2 S1.1 s2 e4 hbd hl hd (fun _ _ _ a'' f2 => ?_) (fun hno => absurd ⟨hx, hm, by rw [e88]; exact hac⟩ hno)
    rw [e88]
    exact h2 a'' b' (uBg_a h0 (by omega) hac f f2)
  · exact u215 q1 q2 s1.1 s2 s6 hbd hl hd (fun hx hm hac _ _ => absurd ⟨hx, hm, hac⟩ hno) (fun _ => h2 a b h0)
/-- shift -/
theorem uB106 (h : uBg dr wp co pr cnt W T n a0 R a b) (q1 : xR p) (q2 : xR rm) (hd : 6 ≤ d) : uBo Ln xs (uBg dr wp co pr cnt W T n a0 R) d 106 222 [xV p, xV rm] a b := by
  intro Q hQ
  have h0 := h
  obtain ⟨⟨hn0, hK, hvR, hBR⟩, ⟨c1, c2, c3, c4, c5, c6⟩, ⟨s1, s2, s3, s4, s5, s6⟩, ch⟩ := h
  have hbd := uBqs_d s3
  have hl : a 88 114 ≤ 60 := s3.1.2
  refine u106 q1 q2 s1.1.1 hn0 c1.1.2.1 c4 hbd hl hd (fun hx hm hac a' b' f => hQ _ _ _ (fun Q2 h2 => ?_)) (fun hno => hQ _ _ _ (fun Q2 h2 => ?_))
  · obtain ⟨S1, e88, e4⟩ := uBg_a0 h0 f
    rw [← e88] at s2 hbd hl
    refine u222 q1 q2 S1.1 s2 e4 hbd hl hd (fun _ _ _ a'' f2 => ?_) (fun hno => absurd ⟨hx, hm, by rw [e88]; exact hac⟩ hno)
    rw [e88]
    exact h2 a'' b' (uBg_a h0 (by omega) hac f f2)
  · exact u222 q1 q2 s1.1 s2 s6 hbd hl hd (fun hx hm hac _ _ => absurd ⟨hx, hm, hac⟩ hno) (fun _ => h2 a b h0)
end
end
end
section
/-! both sides once begun: turn -/
section
set_option maxRecDepth 100000


section
variable {Ln : Nat} {xs : Nat → Int32} {d : Nat} {dr wp co pr cnt W : Int → Int} {T : Int → List Int} {n x y kk : Int} {R : Int → Int} {a a' a0 : xA} {b b' : xB}
/-- turn -/
theorem uB87 (h : uBg dr wp co pr cnt W T n a0 R a b) (q1 : xR kk) (q2 : xR x) (q3 : xR y) (hd : 13 ≤ d) : uBo Ln xs (uBg dr wp co pr cnt W T n a0 R) d 87 204 [xV kk, xV x, xV y] a b := by
  intro Q hQ
  have h0 := h
  obtain ⟨⟨hn0, hK, hvR, hBR⟩, ⟨c1, c2, c3, c4, c5, c6⟩, ⟨s1, s2, s3, s4, s5, s6⟩, ch⟩ := h
  have hbd := uBqs_d s3
  have htn : 0 ≤ a 88 114 ∧ a 88 114 ≤ 60 := s3.1
  have hev : 0 ≤ a 88 119 ∧ a 88 119 ≤ 900 := by
    obtain ⟨_, _, _, _, _, _, _, _, _, g1, g2⟩ := s3
    omega
  refine u87 q1 q2 q3 hK hn0 c1 c4 hbd c6 hd (fun hge => hQ _ _ _ (fun Q2 h2 => ?_)) (fun hlt hng => hQ _ _ _ (fun Q2 h2 => ?_)) (fun hlt hg a1 a2 b1 f1 n1 C2 X2 h25 g1 => hQ _ _ _ (fun Q2 h2 => ?_))
  · exact u204 q1 q2 q3 hK s1.1 s2 s1.2.1 s1.2.2.1 s6 htn hev (by omega) (fun _ => h2 a b h0) (fun g => absurd g (by omega)) (fun g => absurd g (by omega))
  · exact u204 q1 q2 q3 hK s1.1 s2 s1.2.1 s1.2.2.1 s6 htn hev (by omega) (fun g => absurd g (by omega)) (fun _ _ => h2 a b h0) (fun _ g => absurd g hng)
  · obtain ⟨S2, e88, e4⟩ := uBg_t0 h0 C2 f1 n1
    refine u204 q1 q2 q3 hK S2.1 (by rw [e88]; exact s2) S2.2.1 S2.2.2.1 e4 (by rw [e88]; exact htn) (by rw [e88]; exact hev) (by omega) (fun g => absurd hlt (by rw [e88] at g; omega)) (fun _ g => absurd hg (by rw [e88] at g; exact g)) (fun _ _ a3 a4 b4 f2 n2 hB hv hV hLw er _ _ g2 => ?_)
    rw [e88] at n2 er g2 ⊢
    exact h2 a4 b4 (uBg_t h0 rfl hlt (uQc_f hg.1).1 (uGd_p s2 hg) f1 n1 C2 X2 h25 g1 f2 n2 hB hv hV hLw er g2)
end
end
end
section
/-! both sides once begun: believes, where, lies -/
section
set_option maxRecDepth 100000


section
variable {Ln : Nat} {xs : Nat → Int32} {d : Nat} {dr wp co pr cnt W : Int → Int} {T : Int → List Int} {n x p g i : Int} {R : Int → Int} {a a' a0 : xA} {b b' : xB}
/-- believes -/
theorem uB68 (h : uBg dr wp co pr cnt W T n a0 R a b) (q1 : xR p) (hg : g = 0 ∨ g = 1) (q2 : xR i) (hd : 6 ≤ d) : uBo Ln xs (uBg dr wp co pr cnt W T n a0 R) d 68 182 [xV p, xV g, xV i] a b := by
  intro Q hQ
  have h0 := h
  obtain ⟨⟨hn0, hK, hvR, hBR⟩, ⟨c1, c2, c3, c4, c5, c6⟩, ⟨s1, s2, s3, s4, s5, s6⟩, ch⟩ := h
  have hn : a 3 5 = n := c1.1.2.1.2.2.1
  have hn2 : a 87 2 = n := s1.1.2.1.2.1
  have hT := c4.1.2.1
  have hM := c4.1.2.2.1
  exact u68 q1 hg q2 hn hn0 s2 hT hM hd (hQ _ _ _ (fun Q2 h2 => u182 q1 hg q2 s1.1.1 hn2 hn0 (by omega) (h2 a b h0)))
/-- where -/
theorem uB132 (h : uBg dr wp co pr cnt W T n a0 R a b) (q1 : xR p) (hd : 4 ≤ d) : uBo Ln xs (uBg dr wp co pr cnt W T n a0 R) d 132 243 [xV p] a b := by
  intro Q hQ
  have h0 := h
  obtain ⟨⟨hn0, hK, hvR, hBR⟩, ⟨c1, c2, c3, c4, c5, c6⟩, ⟨s1, s2, s3, s4, s5, s6⟩, ch⟩ := h
  have hn : a 3 5 = n := c1.1.2.1.2.2.1
  have hn2 : a 87 2 = n := s1.1.2.1.2.1
  have hT := c4.1.2.1
  have hM := c4.1.2.2.1
  exact u132 q1 s2 hT hd (hQ _ _ _ (fun Q2 h2 => u243 q1 hd (h2 a b h0)))
/-- lies -/
theorem uB133 (h : uBg dr wp co pr cnt W T n a0 R a b) (q1 : xR x) (hd : 4 ≤ d) : uBo Ln xs (uBg dr wp co pr cnt W T n a0 R) d 133 244 [xV x] a b := by
  intro Q hQ
  have h0 := h
  obtain ⟨⟨hn0, hK, hvR, hBR⟩, ⟨c1, c2, c3, c4, c5, c6⟩, ⟨s1, s2, s3, s4, s5, s6⟩, ch⟩ := h
  have hn : a 3 5 = n := c1.1.2.1.2.2.1
  have hn2 : a 87 2 = n := s1.1.2.1.2.1
  have hT := c4.1.2.1
  have hM := c4.1.2.2.1
  exact u133 q1 hn hn0 s2 hT hd (hQ _ _ _ (fun Q2 h2 => u244 q1 s1.1.1 hn2 hn0 hd (h2 a b h0)))
end
end
end
section
/-! both sides once begun: count, holds, plan, wanted; kept, loses, answer, made -/
section
set_option maxRecDepth 100000


section
variable {Ln : Nat} {xs : Nat → Int32} {d : Nat} {dr wp co pr cnt W : Int → Int} {T : Int → List Int} {n x p k g i t wh so sd tn : Int} {R : Int → Int} {a a' a0 : xA} {b b' : xB}
/-- what a question leaves of the class -/
theorem uBg_x (h : uBg dr wp co pr cnt W T n a0 R a b) (hC : uCb dr wp co pr cnt W T n a0 a' b') (x : uPx a a' b b') : uBg dr wp co pr cnt W T n a0 R a' b' :=
  uBg_c h hC (uHm_o h.2.1.2.1 (fun j => x.1 78 j (by decide) (by decide) (by decide) (by decide) (by decide) (by decide) (by decide))) (fun j j0 j1 => by rw [x.1 (21 + 4) j (by decide) (by decide) (by decide) (by decide) (by decide) (by decide) (by decide)]; exact h.2.1.2.2.1 j j0 j1) (fun q j hq => x.1 q j (by omega) (by omega) (by omega) (by omega) (by omega) (by omega) (by omega)) (fun q j hq => x.2 q j (by omega) (by omega) (by omega))
/-- what a question leaves of the reference -/
theorem uBg_q (h : uBg dr wp co pr cnt W T n a0 R a b) (f : uWq dr wp pr cnt W T n a a' b b') : uBg dr wp co pr cnt W T n a0 R a' b' := by
  obtain ⟨_, _, ⟨s1, _, _, _, _, _⟩, _⟩ := id h
  obtain ⟨f1, f2, f3⟩ := id f
  exact uBg_r h ⟨uPq_m (uPm_w f1), ⟨f2, f3, uLw_o s1.2.2.1 (fun q j hq => f1.1 q j (by omega) (by omega) (by omega) (by omega) (by omega) (by omega) (by omega) (by omega)), fun i i0 i1 => by rw [f1.1 100 i (by decide) (by decide) (by decide) (by decide) (by decide) (by decide) (by decide) (by omega)]; exact s1.2.2.2 i i0 i1⟩, uWq_8 f, fun j _ => f1.1 89 j (by decide) (by decide) (by decide) (by decide) (by decide) (by decide) (by decide) (by omega)⟩
/-- count -/
theorem uB134 (h : uBg dr wp co pr cnt W T n a0 R a b) (q1 : xR k) (hl : a 1 1 = a 87 9) (hlw : a 13 7 = a 87 3) (hsz : ∀ i, 0 ≤ i → i < a 13 7 → a 20 i = a 100 i) (hd : 6 ≤ d) : uBo Ln xs (uBg dr wp co pr cnt W T n a0 R) d 134 245 [xV k] a b := by
  intro Q hQ
  have h0 := h
  obtain ⟨⟨hn0, hK, hvR, hBR⟩, ⟨c1, c2, c3, c4, c5, c6⟩, ⟨s1, s2, s3, s4, s5, s6⟩, ch⟩ := h
  have hn : a 3 5 = n := c1.1.2.1.2.2.1
  have hn2 : a 87 2 = n := s1.1.2.1.2.1
  have hT := c4.1.2.1
  have hM := c4.1.2.2.1
  have hlw0 : 0 ≤ a 13 7 ∧ a 13 7 ≤ 6 := c1.2.2.2.2.1
  refine u134 (cnt := cnt) (sz := a 20) s1.1.1 q1 hn hn0 rfl hlw0 s2 hT c6 (Or.inr rfl) rfl (fun f f0 f1 => (c1.1.2.2.2.2.2.2.1 f f0 f1).1) (fun _ _ _ => rfl) c4.2.1 c4.2.2.2.1 c4.2.2.2.2.1 c4.2.2.2.2.2 c4.1.2.2.2.2.2.2 hd (hQ _ _ _ (fun Q2 h2 => ?_))
  exact u245 (cnt := cnt) (sz := a 20) q1 s1.1.1 hn2 hn0 hlw.symm hlw0 s6 (Or.inr rfl) hl.symm (fun f f0 f1 => s1.1.2.2.2.2.1 f f0 f1) (fun i i0 i1 => (hsz i i0 i1).symm) (by omega) (h2 a b h0)
/-- holds -/
theorem uB70 (h : uBg dr wp co pr cnt W T n a0 R a b) (q1 : xR p) (q2 : xR k) (hd : 7 ≤ d) : uBo Ln xs (uBg dr wp co pr cnt W T n a0 R) d 70 183 [xV p, xV k] a b := by
  intro Q hQ
  have h0 := h
  obtain ⟨⟨hn0, hK, hvR, hBR⟩, ⟨c1, c2, c3, c4, c5, c6⟩, ⟨s1, s2, s3, s4, s5, s6⟩, ch⟩ := h
  refine u70 q1 q2 hK hn0 c1 c4.1 c6 (by omega) (fun hk a' z x C' hz hi => hQ _ _ _ (fun Q2 h2 => ?_)) (fun hn => hQ _ _ _ (fun Q2 h2 => ?_))
  · have g := uBg_x h0 C' x
    have g0 := g
    obtain ⟨_, _, ⟨t1, t2, t3, t4, t5, t6⟩, _⟩ := g
    have e88 : a' 88 = a 88 := funext fun j => x.1 88 j (by decide) (by decide) (by decide) (by decide) (by decide) (by decide) (by decide)
    refine u183 q1 q2 hK t1.1 t2 t1.2.1 t6 (by omega) (fun _ a'' z' w hz' hi' => ?_) (fun hno => absurd (by rw [e88]; exact hk) hno)
    rw [e88] at hi'
    have ez : z' = z := by
      by_cases hh : uHold p (T (p * 3 + k)) (uMn n (a 88) p) = true
      · rw [hi.mpr hh, hi'.mpr hh]
      · have e1 : ¬ z = 1 := fun e => hh (hi.mp e)
        have e2 : ¬ z' = 1 := fun e => hh (hi'.mp e)
        omega
    rw [ez]
    exact h2 a'' b (uBg_q g0 w)
  · exact u183 q1 q2 hK s1.1 s2 s1.2.1 s6 (by omega) (fun hk => absurd hk hn) (fun _ => h2 a b h0)
/-- plan -/
theorem uB76 (h : uBg dr wp co pr cnt W T n a0 R a b) (q1 : xR p) (q2 : xR k) (q3 : xR wh) (hd : 9 ≤ d) : uBo Ln xs (uBg dr wp co pr cnt W T n a0 R) d 76 189 [xV p, xV k, xV wh] a b := by
  intro Q hQ
  have h0 := h
  obtain ⟨⟨hn0, hK, hvR, hBR⟩, ⟨c1, c2, c3, c4, c5, c6⟩, ⟨s1, s2, s3, s4, s5, s6⟩, ch⟩ := h
  refine u76 q1 q2 q3 hK hn0 c1 c4.1 c6 (by omega) (fun hk a' b' x C' => hQ _ _ _ (fun Q2 h2 => ?_)) (fun hn => hQ _ _ _ (fun Q2 h2 => ?_))
  · have g := uBg_x h0 C' x
    have g0 := g
    obtain ⟨_, _, ⟨t1, t2, t3, t4, t5, t6⟩, _⟩ := g
    have e88 : a' 88 = a 88 := funext fun j => x.1 88 j (by decide) (by decide) (by decide) (by decide) (by decide) (by decide) (by decide)
    refine u189 q1 q2 q3 hK t1.1 t2 t1.2.1 t6 (by omega) (fun _ a'' w => ?_) (fun hno => absurd (by rw [e88]; exact hk) hno)
    rw [e88]
    exact h2 a'' b' (uBg_q g0 w)
  · exact u189 q1 q2 q3 hK s1.1 s2 s1.2.1 s6 (by omega) (fun hk => absurd hk hn) (fun _ => h2 a b h0)
/-- wanted -/
theorem uB84 (h : uBg dr wp co pr cnt W T n a0 R a b) (q1 : xR p) (hd : 10 ≤ d) : uBo Ln xs (uBg dr wp co pr cnt W T n a0 R) d 84 197 [xV p] a b := by
  intro Q hQ
  have h0 := h
  obtain ⟨⟨hn0, hK, hvR, hBR⟩, ⟨c1, c2, c3, c4, c5, c6⟩, ⟨s1, s2, s3, s4, s5, s6⟩, ch⟩ := h
  refine u84 q1 hK hn0 c1 c4.1 c6 (by omega) (fun hk a' b' x C' => hQ _ _ _ (fun Q2 h2 => ?_)) (fun hn => hQ _ _ _ (fun Q2 h2 => ?_))
  · have g := uBg_x h0 C' x
    have g0 := g
    obtain ⟨_, _, ⟨t1, t2, t3, t4, t5, t6⟩, _⟩ := g
    have e88 : a' 88 = a 88 := funext fun j => x.1 88 j (by decide) (by decide) (by decide) (by decide) (by decide) (by decide) (by decide)
    refine u197 q1 hK t1.1 t2 t1.2.1 t6 (by omega) (fun _ a'' b'' w => ?_) (fun hno => absurd (by rw [e88]; exact hk) hno)
    rw [e88]
    exact h2 a'' b'' (uBg_q g0 w)
  · exact u197 q1 hK s1.1 s2 s1.2.1 s6 (by omega) (fun hk => absurd hk hn) (fun _ => h2 a b h0)
/-- both answer, and I holds -/
def uBf (Ln : Nat) (xs : Nat → Int32) (I : xA → xB → Prop) (d mC mR : Nat) (as : List Value) (a : xA) (b : xB) : Prop := ∀ Q : Option Value → pmS → Prop, (∀ z a' b', (∀ Q2 : Option Value → pmS → Prop, (∀ z' a'' b'', I a'' b'' → Q2 (some (xV z')) (xS a'' b'')) → pmCs (pmRo Ln xs) d mR (.ref 87 :: as) (xS a' b') Q2) → Q (some (xV z)) (xS a' b')) → pmCs (pmRo Ln xs) d mC (.ref 0 :: as) (xS a b) Q
/-- kept -/
theorem uB110 (h : uBg dr wp co pr cnt W T n a0 R a b) (q1 : xR t) (hd : 15 ≤ d) : uBf Ln xs (uBg dr wp co pr cnt W T n a0 R) d 110 223 [xV t] a b := by
  intro Q hQ
  have h0 := h
  obtain ⟨⟨hn0, hK, hvR, hBR⟩, ⟨c1, c2, c3, c4, c5, c6⟩, ⟨s1, s2, s3, s4, s5, s6⟩, ch⟩ := h
  have hB := (uBqs_r s3 s2).2
  refine u110 q1 hK hn0 c1 c2 c4 hB c3 c6 hd (fun a' b' z f _ => hQ _ _ _ (fun Q2 h2 => ?_))
  have g := uBg_k h0 f
  have g0 := g
  obtain ⟨_, _, ⟨t1, t2, t3, t4, t5, t6⟩, _⟩ := g
  exact u223 q1 hK t1 (uBqs_r t3 t2) t6 (Or.inr rfl) (by omega) (fun a'' b'' z' k _ => h2 z' a'' b'' (uBg_r g0 k))
/-- loses -/
theorem uB114 (h : uBg dr wp co pr cnt W T n a0 R a b) (hd : 15 ≤ d) : uBf Ln xs (uBg dr wp co pr cnt W T n a0 R) d 114 230 [] a b := by
  intro Q hQ
  have h0 := h
  obtain ⟨⟨hn0, hK, hvR, hBR⟩, ⟨c1, c2, c3, c4, c5, c6⟩, ⟨s1, s2, s3, s4, s5, s6⟩, ch⟩ := h
  have hB := (uBqs_r s3 s2).2
  refine u114 hK hn0 c1 c2 c4 hB c3 c6 hd (fun a' b' z f _ => hQ _ _ _ (fun Q2 h2 => ?_))
  have g := uBg_k h0 f
  have g0 := g
  obtain ⟨_, _, ⟨t1, t2, t3, t4, t5, t6⟩, _⟩ := g
  exact u230 hK t1 (uBqs_r t3 t2) t6 (Or.inr rfl) (by omega) (fun a'' b'' z' k _ => h2 z' a'' b'' (uBg_r g0 k))
/-- answer -/
theorem uB115 (h : uBg dr wp co pr cnt W T n a0 R a b) (q1 : xR t) (q2 : xR wh) (hd : 15 ≤ d) : uBf Ln xs (uBg dr wp co pr cnt W T n a0 R) d 115 231 [xV t, xV wh] a b := by
  intro Q hQ
  have h0 := h
  obtain ⟨⟨hn0, hK, hvR, hBR⟩, ⟨c1, c2, c3, c4, c5, c6⟩, ⟨s1, s2, s3, s4, s5, s6⟩, ch⟩ := h
  have hB := (uBqs_r s3 s2).2
  refine u115 q1 q2 hK hn0 c1 c2 c4 hB c3 c6 hd (fun a' b' z f _ => hQ _ _ _ (fun Q2 h2 => ?_))
  have g := uBg_k h0 f
  have g0 := g
  obtain ⟨_, _, ⟨t1, t2, t3, t4, t5, t6⟩, _⟩ := g
  exact u231 q1 q2 hK t1 (uBqs_r t3 t2) t6 (Or.inr rfl) (by omega) (fun a'' b'' z' k _ => h2 z' a'' b'' (uBg_r g0 k))
/-- made -/
theorem uB120 (h : uBg dr wp co pr cnt W T n a0 R a b) (q1 : xR so) (q2 : xR sd) (q3 : xR tn) (q4 : xR wh) (hd : 13 ≤ d) : uBf Ln xs (uBg dr wp co pr cnt W T n a0 R) d 120 237 [xV so, xV sd, xV tn, xV wh] a b := by
  intro Q hQ
  have h0 := h
  obtain ⟨⟨hn0, hK, hvR, hBR⟩, ⟨c1, c2, c3, c4, c5, c6⟩, ⟨s1, s2, s3, s4, s5, s6⟩, ch⟩ := h
  have hB := (uBqs_r s3 s2).2
  refine u120 q1 q2 q3 q4 hK hn0 c1 c4 hB c6 hd (fun a' b' z f C' _ => hQ _ _ _ (fun Q2 h2 => ?_))
  have g := uBg_g h0 C' f
  have g0 := g
  obtain ⟨_, _, ⟨t1, t2, t3, t4, t5, t6⟩, _⟩ := g
  exact u237 q1 q2 q3 q4 hK t1 (uBqs_r t3 t2) t6 (Or.inr rfl) (by omega) (fun a'' b'' z' k _ => h2 z' a'' b'' (uBg_r g0 k))
end
end
end
