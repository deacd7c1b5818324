/-! check -/
section
set_option maxRecDepth 100000


section
variable {Ln : Nat} {xs : Nat → Int32} {ro : Nat → Nat × (Nat → Int32)} {d w : Nat} {Q : Option Value → pmS → Prop} {n m t k x c cd p L dn e tn kd l n4 : Int} {D C AC N tp : Int → Int} {a a' : xA} {b : xB}
/-- a number of the tape; the first that is wrong -/
def uNf (tp : Int → Int) (c : Int) : Nat → Int
  | 0 => 0
  | i + 1 => xOr (uNf tp c i * 256) (tp (4 * c + (i : Int)))
theorem uNf_x : ∀ i : Nat, xR (uNf tp c i)
  | 0 => (⟨by decide, by decide⟩ : xR 0)
  | _ + 1 => xRb (xOrB _ _)
def uFwq (D C : Int → Int) (t n4 : Int) (N : Int → Int) : Nat → Int → Int → Int
  | 0, _, c => if n4 ≤ c then -1 else c
  | u + 1, p, c => if D (4 * t + p) = 0 then uFwq D C t n4 N u (p + 1) c else if c = n4 then c else if ¬ N c = p then c else if ¬ N (c + 1) = uK (C (4 * t + p)) then c + 1 else if ¬ N (c + 2) = uX (C (4 * t + p)) then c + 2 else if ¬ N (c + 3) = uY (C (4 * t + p)) then c + 3 else uFwq D C t n4 N u (p + 1) (c + 4)
/-- number -/
theorem u131 (hA : xAr a) (hl : a 1 1 = l) (hl0 : 0 ≤ l ∧ l ≤ 400) (ht : ∀ j, 0 ≤ j → j < l → a 2 j = tp j) (hc : 0 ≤ c ∧ 4 * c + 4 ≤ l) (hd : 1 ≤ d) (hQ : Q (some (xV (uNf tp c 4))) (xS a b)) : pmCs ro d 131 [.ref 1, xV c] (xS a b) Q := by
  refine pmCs_deep (d := 1) (xg131 (wa131 ?_)) hd
  have loop : ∀ (u i : Nat) (v4 : Option Value), i + u = 4 → pmWp ro 0 6 131 1 4 [some (.ref 1), some (xV c), some (xV (uNf tp c i)), some (xV (i : Int)), v4] [] (xS a b) Q := by
    intro u
    induction u with
    | zero =>
      intro i v4 hi
      have e4 : i = 4 := by omega
      subst e4
      exact wa131a hA hc (uNf_x 4) (by decide) hl hl0 (fun _ => hQ) (fun e => absurd (by decide) e) (fun e => absurd (by decide) e) (fun e => absurd (by decide) e)
    | succ u ih =>
      intro i v4 hi
      have nx := ih (i + 1)
      have e : uNf tp c (i + 1) = xOr (uNf tp c i * 256) (a 2 (4 * c + (i : Int))) := by
        rw [ht _ (by omega) (by omega)]
        rfl
      rw [e] at nx
      exact wa131a hA hc (uNf_x i) (by omega) hl hl0 (fun g => absurd g (by omega)) (fun _ g => absurd g (by omega)) (fun _ _ g => absurd g (by omega)) (fun _ _ _ => nx _ (by omega))
  exact loop 4 0 _ (by decide)
/-- tapeNumber -/
theorem u242 (hA : xAr a) (hl0 : 0 ≤ l ∧ l ≤ 400) (ht : ∀ j, 0 ≤ j → j < l → a 93 j % 256 = tp j) (hc : 0 ≤ c ∧ 4 * c + 4 ≤ l) (hd : 1 ≤ d) (hQ : Q (some (xV (uNf tp c 4))) (xS a b)) : pmCs ro d 242 [.ref 87, xV c] (xS a b) Q := by
  have hc2 : 0 ≤ c ∧ c ≤ 99 := by omega
  refine pmCs_deep (d := 1) (xg242 (wa242 hc2 ?_)) hd
  have loop : ∀ (u i : Nat), i + u = 4 → pmWp ro 0 12 242 1 6 [some (.ref 87), some (xV c), some (xV (uNf tp c i)), some (xV (4 * c + (i : Int)))] [] (xS a b) Q := by
    intro u
    induction u with
    | zero =>
      intro i hi
      have e4 : i = 4 := by omega
      subst e4
      have h4 : ((4 : Nat) : Int) = 4 := rfl
      exact wa242a hA hc2 (uNf_x 4) (by omega) (fun _ => hQ) (fun e => absurd (by omega) e)
    | succ u ih =>
      intro i hi
      have nx := ih (i + 1) (by omega)
      have e : uNf tp c (i + 1) = xOr (uNf tp c i * 256) (a 93 (4 * c + (i : Int)) % 256) := by
        rw [ht _ (by omega) (by omega)]
        rfl
      rw [e, show 4 * c + ((i + 1 : Nat) : Int) = 4 * c + (i : Int) + 1 by omega] at nx
      exact wa242a hA hc2 (uNf_x i) (by omega) (fun g => absurd g (by omega)) (fun _ => nx)
  have := loop 4 0 (by decide)
  rw [show 4 * c + ((0 : Nat) : Int) = 4 * c by omega] at this
  exact this
/-- check of the class -/
theorem u129 (qr1 : xR t) (qr2 : xR n) (hA : xAr a) (hR : uRec L D C AC a) (hL : 0 ≤ L ∧ L ≤ 60) (h21 : a 21 6 = L) (hl : a 1 1 = l) (hl0 : 0 ≤ l ∧ l ≤ 400) (htp : ∀ j, 0 ≤ j → j < l → a 2 j = tp j) (hd : 4 ≤ d) (hN : ¬ ((1 ≤ t ∧ t ≤ L) ∧ 0 ≤ n ∧ n ≤ l / 16) → Q (some (xV (-2))) (xS a b)) (hQ : (1 ≤ t ∧ t ≤ L) ∧ 0 ≤ n ∧ n ≤ l / 16 → Q (some (xV (uFwq D C t (4 * n) (fun c => uNf tp c 4) 4 0 0))) (xS (xU a 1 1 0) b)) : pmCs ro d 129 [.ref 0, xV t, xV n] (xS a b) Q := by
  refine pmCs_deep (d := 4) (xg129 (wa129 qr1 qr2 (by omega) hl hl0 (fun h => hN (by omega)) (fun _ h => hN (by omega)) (fun _ _ h => hN (by omega)) (fun h1 h2 h3 h4 => ?_) (fun _ _ _ h => hN (by omega)))) hd
  have ht : 1 ≤ t ∧ t ≤ L := by omega
  have ht2 : 1 ≤ t ∧ t ≤ 60 := by omega
  have hn : 0 ≤ n ∧ n ≤ 25 := by omega
  have hQ := hQ ⟨ht, by omega, h4⟩
  obtain ⟨N, eN⟩ : ∃ N : Int → Int, (fun c => uNf tp c 4) = N := ⟨_, rfl⟩
  have hNe : ∀ c, N c = uNf tp c 4 := fun c => by rw [← eN]
  have hNx : ∀ c, xR (N c) := fun c => by rw [hNe]; exact uNf_x 4
  rw [eN] at hQ
  have fin : ∀ z, uFwq D C t (4 * n) N 4 0 0 = z → pmWp ro 3 11 129 1 50 [some (.ref 0), some (xV t), some (xV n), none] [xV z] (xS a b) Q := fun z ez => by
    rw [ez] at hQ
    exact wa129a (pmCs_deep (d := 1) (xg45 (wa45 (wa129b hQ))) (by decide))
  refine pmCs_deep (d := 3) (xg130 (wa130 ?_)) (by decide)
  obtain ⟨Q2, eQ2⟩ : ∃ Q2 : Option Value → pmS → Prop, (fun r' s' => pmWp ro 3 11 129 1 50 [some (.ref 0), some (xV t), some (xV n), none] (r'.toList ++ []) s' Q) = Q2 := ⟨_, rfl⟩
  have fin2 : ∀ z, uFwq D C t (4 * n) N 4 0 0 = z → Q2 (some (xV z)) (xS a b) := fun z ez => by
    rw [← eQ2]
    exact fin z ez
  rw [eQ2]
  have loop : ∀ (u p : Nat) (c : Int) (v6 v7 v8 : Option Value), p + u = 4 → (0 ≤ c ∧ c ≤ 4 * n ∧ c % 4 = 0) → uFwq D C t (4 * n) N 4 0 0 = uFwq D C t (4 * n) N u p c → pmWp ro 2 0 130 1 6 [some (.ref 79), some (.ref 1), some (xV t), some (xV n), some (xV c), some (xV (p : Int)), v6, v7, v8] [] (xS a b) Q2 := by
    intro u
    induction u with
    | zero =>
      intro p c v6 v7 v8 hp hc he
      refine wa130a hA ht2 hn (by omega) (by omega) (by decide) (fun _ g => fin2 _ (he.trans (if_pos g))) (fun _ g => fin2 _ (he.trans (if_neg g))) (fun g => absurd (by omega) g)
    | succ u ih =>
      intro p c v6 v7 v8 hp hc he
      have hp3 : 0 ≤ (p : Int) ∧ (p : Int) ≤ 3 := by omega
      refine wa130a hA ht2 hn (by omega) (by omega) (by decide) (fun g => absurd g (by omega)) (fun g => absurd g (by omega)) (fun _ => ?_)
      have hE := hR.2.1 t p ht.1 ht.2 hp3.1 (by omega)
      obtain ⟨e, ee⟩ : ∃ e, a 85 (t * 4 + p) = e := ⟨_, rfl⟩
      rw [ee] at hE ⊢
      have heb : -1 ≤ e ∧ e ≤ 50000 := by
        rcases hE with g | g <;> omega
      have ih2 := ih (p + 1)
      rw [show ((p + 1 : Nat) : Int) = (p : Int) + 1 by omega] at ih2
      have e1 : ∀ z, uFwq D C t (4 * n) N (u + 1) p c = z → uFwq D C t (4 * n) N 4 0 0 = z := fun z h => he.trans h
      unfold uFwq at e1
      by_cases d0 : D (4 * t + p) = 0
      · have em : e = -1 := by
          rcases hE with g | g
          · exact g.2.1
          · omega
        rw [if_pos d0] at e1
        exact wa130b hA ht2 hn (by omega) hp3 (by decide) heb (by decide) (fun g => absurd g (by decide)) (fun _ _ => wa130d hA ht2 hn (by omega) hp3 (by decide) heb (by decide) (ih2 c _ _ _ (by omega) hc (e1 _ rfl))) (fun _ g => absurd em g) (fun _ g => absurd em g) (fun _ g => absurd em g) (fun _ g => absurd em g)
      · rw [if_neg d0] at e1
        have en : ¬ e = -1 := by
          rcases hE with g | g
          · exact absurd g.1 d0
          · omega
        have hcd : -1 ≤ C (4 * t + p) ∧ C (4 * t + p) < 61 ∧ e % 512 = uD (C (4 * t + p)) ∧ 0 ≤ e := by
          rcases hE with g | g
          · exact absurd g.1 d0
          · exact ⟨g.2.1.1, g.2.1.2, g.2.2.2, g.2.2.1.1⟩
        obtain ⟨k, ek⟩ : ∃ k, C (4 * t + p) = k := ⟨_, rfl⟩
        rw [ek] at e1 hcd
        have hD := uD_p (k := k) ⟨hcd.1, hcd.2.1⟩
        have p0 : uPrt e 0 = uK k := by
          unfold uPrt
          rw [if_pos rfl]
          omega
        have p12 : uPrt e 1 = uX k ∧ uPrt e 2 = uY k := by
          unfold uPrt
          rw [if_neg (by decide), if_pos rfl, if_neg (by decide), if_neg (by decide)]
          by_cases k0 : k = -1
          · have x1 : uX (-1) = -1 := by decide
            have x2 : uY (-1) = -1 := by decide
            have x0 := hD.2.2.2.2 k0
            rw [k0, x1, x2]
            omega
          · have := hD.2.2.2.1 (by omega)
            omega
        by_cases c4 : c = 4 * n
        · rw [if_pos c4] at e1
          exact wa130b hA ht2 hn (by omega) hp3 (by decide) heb (by decide) (fun g => absurd g (by decide)) (fun _ g => absurd g en) (fun _ _ g => absurd rfl g) (fun _ _ g => absurd rfl g) (fun _ _ _ _ => fin2 _ (e1 _ rfl)) (fun _ _ _ g => absurd (by omega) g)
        rw [if_neg c4] at e1
        -- a number against what it should be
        have step : ∀ (s c' v : Int) (v8 : Option Value), (-1 ≤ s ∧ s ≤ 2) → (0 ≤ c' ∧ c' < 4 * n) → (-1 ≤ v ∧ v ≤ 7) → (v = if s = -1 then (p : Int) else uPrt e s) → (N c' = v → pmWp ro 2 0 130 1 24 [some (.ref 79), some (.ref 1), some (xV t), some (xV n), some (xV (c' + 1)), some (xV (p : Int)), some (xV e), some (xV (s + 1)), some (xV v)] [] (xS a b) Q2) → (¬ N c' = v → Q2 (some (xV c')) (xS a b)) → pmWp ro 2 0 130 1 24 [some (.ref 79), some (.ref 1), some (xV t), some (xV n), some (xV c'), some (xV (p : Int)), some (xV e), some (xV s), v8] [] (xS a b) Q2 := by
          intro s c' v v8 hs hc' hv ev h1 h2
          have num : ∀ {Q : Option Value → pmS → Prop}, Q (some (xV (N c'))) (xS a b) → pmCs ro 2 131 [.ref 1, xV c'] (xS a b) Q := fun h => by
            rw [hNe] at h
            exact u131 hA hl hl0 htp ⟨hc'.1, by omega⟩ (by decide) h
          refine wa130b hA ht2 hn (by omega) hp3 (by decide) heb (by omega) (fun g => absurd g (by omega)) (fun _ g => absurd g en) (fun _ _ _ g => absurd g (by omega)) (fun _ _ g _ => ?_) (fun _ _ _ g => absurd g (by omega)) (fun _ _ g _ => ?_)
          · rw [if_neg g] at ev
            rw [← ev]
            exact num (wa130c hA ht2 hn (by omega) hp3 (by decide) heb (by omega) hv (hNx _) h1 h2)
          · rw [if_pos g] at ev
            subst ev
            exact num (wa130c hA ht2 hn (by omega) hp3 (by decide) heb (by omega) hv (hNx _) h1 h2)
        have kb := uKb ⟨hcd.1, hcd.2.1⟩
        have xb := uXb ⟨hcd.1, hcd.2.1⟩
        have yb := uYb ⟨hcd.1, hcd.2.1⟩
        refine step (-1) c p _ (by decide) (by omega) (by omega) (if_pos rfl).symm (fun g => ?_) (fun g => ?_)
        rotate_left
        · rw [if_pos g] at e1
          exact fin2 _ (e1 _ rfl)
        rw [if_neg (fun h => h g)] at e1
        refine step 0 (c + 1) (uK k) _ (by decide) (by omega) (by omega) (by rw [if_neg (by decide), p0]) (fun g => ?_) (fun g => ?_)
        rotate_left
        · rw [if_pos g] at e1
          exact fin2 _ (e1 _ rfl)
        rw [if_neg (fun h => h g)] at e1
        rw [show c + 1 + 1 = c + 2 by omega]
        refine step 1 (c + 2) (uX k) _ (by decide) (by omega) (by omega) (by rw [if_neg (by decide), p12.1]) (fun g => ?_) (fun g => ?_)
        rotate_left
        · rw [if_pos g] at e1
          exact fin2 _ (e1 _ rfl)
        rw [if_neg (fun h => h g)] at e1
        rw [show c + 2 + 1 = c + 3 by omega]
        refine step 2 (c + 3) (uY k) _ (by decide) (by omega) (by omega) (by rw [if_neg (by decide), p12.2]) (fun g => ?_) (fun g => ?_)
        rotate_left
        · rw [if_pos g] at e1
          exact fin2 _ (e1 _ rfl)
        rw [if_neg (fun h => h g)] at e1
        rw [show c + 3 + 1 = c + 4 by omega]
        exact wa130b hA ht2 hn (by omega) hp3 (by decide) heb (by decide) (fun _ => wa130d hA ht2 hn (by omega) hp3 (by decide) heb (by decide) (ih2 (c + 4) _ _ _ (by omega) (by omega) (e1 _ rfl))) (fun g => absurd (by decide) g) (fun g => absurd (by decide) g) (fun g => absurd (by decide) g) (fun g => absurd (by decide) g) (fun g => absurd (by decide) g)
  exact loop 4 0 0 _ _ _ (by decide) (by omega) rfl
/-- check of the reference -/
theorem u241 (qr1 : xR t) (qr2 : xR n) (hA : xAr a) (hF : uRef L D C AC a) (hG : ∀ t p, 1 ≤ t → t ≤ L → 0 ≤ p → p < 4 → -1 ≤ C (4 * t + p) ∧ C (4 * t + p) < 61) (hL : 0 ≤ L ∧ L ≤ 60) (h88 : a 88 114 = L) (hl : a 87 9 = l) (hl0 : 0 ≤ l ∧ l ≤ 400) (htp : ∀ j, 0 ≤ j → j < l → a 93 j % 256 = tp j) (hd : 3 ≤ d) (hN : ¬ ((1 ≤ t ∧ t ≤ L) ∧ 0 ≤ n ∧ n ≤ l / 16) → Q (some (xV (-2))) (xS a b)) (hQ : (1 ≤ t ∧ t ≤ L) ∧ 0 ≤ n ∧ n ≤ l / 16 → Q (some (xV (uFwq D C t (4 * n) (fun c => uNf tp c 4) 4 0 0))) (xS (xU a 87 9 0) b)) : pmCs ro d 241 [.ref 87, xV t, xV n] (xS a b) Q := by
  refine pmCs_deep (d := 3) (xg241 (wa241 qr1 qr2 h88 hL hl hl0 (by decide) (fun _ h => hN (by omega)) (fun ht h2 h3 => ?_) (fun _ _ h => hN (by omega)) (fun h => hN (by omega)))) hd
  have ht2 : 1 ≤ t ∧ t ≤ 60 := by omega
  have hn : 0 ≤ n ∧ n ≤ 25 := by omega
  have hQ := hQ ⟨ht, by omega, h3⟩
  obtain ⟨a1, ea1⟩ : ∃ a1, xU a 87 9 0 = a1 := ⟨_, rfl⟩
  have A1 : xAr a1 := by
    rw [← ea1]
    exact xAr_u hA ⟨by decide, by decide⟩
  have o1 : ∀ q j, ¬ q = 87 → a1 q j = a q j := fun q j h => by
    rw [← ea1]
    exact xUn h
  rw [ea1] at hQ ⊢
  obtain ⟨N, eN⟩ : ∃ N : Int → Int, (fun c => uNf tp c 4) = N := ⟨_, rfl⟩
  have hNe : ∀ c, N c = uNf tp c 4 := fun c => by rw [← eN]
  have hNx : ∀ c, xR (N c) := fun c => by rw [hNe]; exact uNf_x 4
  rw [eN] at hQ
  have fin2 : ∀ z, uFwq D C t (4 * n) N 4 0 0 = z → Q (some (xV z)) (xS a1 b) := fun z ez => by
    rw [ez] at hQ
    exact hQ
  have loop : ∀ (u p : Nat) (c : Int) (v5 : Option Value), p + u = 4 → (0 ≤ c ∧ c ≤ 4 * n ∧ c % 4 = 0) → uFwq D C t (4 * n) N 4 0 0 = uFwq D C t (4 * n) N u p c → pmWp ro 2 12 241 1 43 [some (.ref 87), some (xV t), some (xV n), some (xV c), some (xV (p : Int)), v5] [] (xS a1 b) Q := by
    intro u
    induction u with
    | zero =>
      intro p c v5 hp hc he
      refine wa241a A1 ht2 hn (by omega) (by omega) (by decide) (fun _ g => fin2 _ (he.trans (if_pos g))) (fun _ g => fin2 _ (he.trans (if_neg g))) (fun g => absurd (by omega) g) (fun g => absurd (by omega) g) (fun g => absurd (by omega) g)
    | succ u ih =>
      intro p c v5 hp hc he
      have hp3 : 0 ≤ (p : Int) ∧ (p : Int) ≤ 3 := by omega
      obtain ⟨f1, f2⟩ := hF.1 t p ht.1 ht.2 hp3.1 (by omega)
      have hcd := hG t p ht.1 ht.2 hp3.1 (by omega)
      have ih2 := ih (p + 1)
      rw [show ((p + 1 : Nat) : Int) = (p : Int) + 1 by omega] at ih2
      have e1 : ∀ z, uFwq D C t (4 * n) N (u + 1) p c = z → uFwq D C t (4 * n) N 4 0 0 = z := fun z h => he.trans h
      unfold uFwq at e1
      have nx : ∀ (c : Int) (v5 : Option Value), (0 ≤ c ∧ c ≤ 4 * n ∧ c % 4 = 0) → uFwq D C t (4 * n) N 4 0 0 = uFwq D C t (4 * n) N u (p + 1) c → pmWp ro 2 12 241 1 159 [some (.ref 87), some (xV t), some (xV n), some (xV c), some (xV (p : Int)), v5] [] (xS a1 b) Q := fun c v5 hc he => wa241f A1 ht2 hn (by omega) hp3 (by decide) (ih2 c v5 (by omega) hc he)
      refine wa241a A1 ht2 hn (by omega) (by omega) (by decide) (fun g => absurd g (by omega)) (fun g => absurd g (by omega)) (fun _ d0 c4 => ?_) (fun _ d0 c4 => ?_) (fun _ d0 => ?_)
      · rw [o1 124 _ (by decide), f1] at d0
        rw [if_neg d0, if_pos c4] at e1
        exact fin2 _ (e1 _ rfl)
      · rw [o1 124 _ (by decide), f1] at d0
        rw [if_neg d0, if_neg c4] at e1
        rw [o1 120 _ (by decide), f2]
        obtain ⟨k, ek⟩ : ∃ k, C (4 * t + p) = k := ⟨_, rfl⟩
        rw [ek] at e1 hcd ⊢
        have num : ∀ {Q : Option Value → pmS → Prop} (c' : Int), (0 ≤ c' ∧ c' < 4 * n) → Q (some (xV (N c'))) (xS a1 b) → pmCs ro 2 242 [.ref 87, xV c'] (xS a1 b) Q := fun c' hc' h => by
          rw [hNe] at h
          exact u242 A1 hl0 (fun j j0 j1 => by rw [o1 93 _ (by decide)]; exact htp j j0 j1) ⟨hc'.1, by omega⟩ (by decide) h
        have hc96 : 0 ≤ c ∧ c ≤ 96 := by omega
        refine num c (by omega) (wa241b A1 ht2 hn hc96 hp3 (hNx _) hcd (by decide) (fun g => ?_) (fun g => ?_))
        rotate_left
        · rw [if_pos g] at e1
          exact fin2 _ (e1 _ rfl)
        rw [if_neg (fun h => h g)] at e1
        refine num (c + 1) (by omega) (wa241c A1 ht2 hn hc96 hp3 (hNx _) hcd (by decide) (fun g => ?_) (fun g => ?_))
        rotate_left
        · rw [if_pos g] at e1
          exact fin2 _ (e1 _ rfl)
        rw [if_neg (fun h => h g)] at e1
        refine num (c + 2) (by omega) (wa241d A1 ht2 hn hc96 hp3 (hNx _) hcd (by decide) (fun g => ?_) (fun g => ?_))
        rotate_left
        · rw [if_pos g] at e1
          exact fin2 _ (e1 _ rfl)
        rw [if_neg (fun h => h g)] at e1
        refine num (c + 3) (by omega) (wa241e A1 ht2 hn hc96 hp3 (hNx _) hcd (by decide) (fun g => ?_) (fun g => ?_))
        rotate_left
        · rw [if_pos g] at e1
          exact fin2 _ (e1 _ rfl)
        rw [if_neg (fun h => h g)] at e1
        exact nx (c + 4) _ (by omega) (e1 _ rfl)
      · rw [o1 124 _ (by decide), f1] at d0
        rw [if_pos d0] at e1
        exact nx c _ hc (e1 _ rfl)
  exact loop 4 0 0 _ (by decide) (by omega) rfl
end
end
