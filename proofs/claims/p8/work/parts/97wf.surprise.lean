/-! surprise -/
section
set_option maxRecDepth 100000


section
variable {Ln : Nat} {xs : Nat → Int32} {ro : Nat → Nat × (Nat → Int32)} {d w : Nat} {Q : Option Value → pmS → Prop} {n m t k x c cd p L dn e tn kd : Int} {D C AC N : Int → Int} {a a' : xA} {b : xB}
/-- how often a person did a deed of a kind; the kind done most often; who surprises -/
def uNk (C : Int → Int) (p kd : Int) : Nat → Int
  | 0 => 0
  | m + 1 => uNk C p kd m + (if uK (C (4 * ((m + 1 : Nat) : Int) + p)) = kd then 1 else 0)
theorem xUy {q : Nat} {j v : Int} : xU a q j v q j = v := if_pos ⟨rfl, rfl⟩
theorem uNk_b : ∀ m : Nat, 0 ≤ uNk C p kd m ∧ uNk C p kd m ≤ (m : Int)
  | 0 => ⟨Int.le_refl _, Int.le_refl _⟩
  | m + 1 => by
    have ih := uNk_b m
    show 0 ≤ uNk C p kd m + _ ∧ uNk C p kd m + _ ≤ ((m + 1 : Nat) : Int)
    split <;> omega
theorem uNk_y {m : Nat} (h : uK (C (4 * ((m + 1 : Nat) : Int) + p)) = kd) : uNk C p kd (m + 1) = uNk C p kd m + 1 := by
  show uNk C p kd m + _ = _
  rw [if_pos h]
theorem uNk_n {m : Nat} (h : ¬ uK (C (4 * ((m + 1 : Nat) : Int) + p)) = kd) : uNk C p kd (m + 1) = uNk C p kd m := by
  show uNk C p kd m + _ = _
  rw [if_neg h, Int.add_zero]
def uBe (N : Int → Int) : Nat → Int
  | 0 => 0
  | m + 1 => if N (uBe N m) < N ((m + 1 : Nat) : Int) then ((m + 1 : Nat) : Int) else uBe N m
theorem uBe_y {m : Nat} (h : N (uBe N m) < N ((m + 1 : Nat) : Int)) : uBe N (m + 1) = ((m + 1 : Nat) : Int) := if_pos h
theorem uBe_n {m : Nat} (h : ¬ N (uBe N m) < N ((m + 1 : Nat) : Int)) : uBe N (m + 1) = uBe N m := if_neg h
theorem uBe_b : ∀ m : Nat, 0 ≤ uBe N m ∧ uBe N m ≤ (m : Int)
  | 0 => ⟨Int.le_refl _, Int.le_refl _⟩
  | m + 1 => by
    have ih := uBe_b m
    by_cases h : N (uBe N m) < N ((m + 1 : Nat) : Int)
    · rw [uBe_y h]
      omega
    · rw [uBe_n h]
      omega
def uUs (C : Int → Int) (t p : Int) : Int := uBe (fun kd => uNk C p kd (t - 1).toNat) 6
def uSz (D C : Int → Int) (t p : Int) : Int := if t ≤ 1 ∨ D (4 * t + p) = 0 ∨ uK (C (4 * t + p)) = uUs C t p then 0 else 1
def uSv (D C : Int → Int) (t : Int) : Nat → Int
  | 0 => 0
  | m + 1 => uSv D C t m + uSz D C t ((m + 1 : Nat) : Int)
theorem uSv_b : ∀ m : Nat, 0 ≤ uSv D C t m ∧ uSv D C t m ≤ (m : Int)
  | 0 => ⟨Int.le_refl _, Int.le_refl _⟩
  | m + 1 => by
    have ih := uSv_b m
    show 0 ≤ uSv D C t m + uSz D C t _ ∧ uSv D C t m + uSz D C t _ ≤ ((m + 1 : Nat) : Int)
    unfold uSz
    split <;> omega
theorem uSv_y {m : Nat} (h : t ≤ 1 ∨ D (4 * t + ((m + 1 : Nat) : Int)) = 0 ∨ uK (C (4 * t + ((m + 1 : Nat) : Int))) = uUs C t ((m + 1 : Nat) : Int)) : uSv D C t (m + 1) = uSv D C t m := by
  show uSv D C t m + uSz D C t _ = _
  unfold uSz
  rw [if_pos h, Int.add_zero]
theorem uSv_n {m : Nat} (h : ¬ (t ≤ 1 ∨ D (4 * t + ((m + 1 : Nat) : Int)) = 0 ∨ uK (C (4 * t + ((m + 1 : Nat) : Int))) = uUs C t ((m + 1 : Nat) : Int))) : uSv D C t (m + 1) = uSv D C t m + 1 := by
  show uSv D C t m + uSz D C t _ = _
  unfold uSz
  rw [if_neg h]
theorem uSv_0 (h : t ≤ 1) : ∀ m : Nat, uSv D C t m = 0
  | 0 => rfl
  | m + 1 => by rw [uSv_y (Or.inl h), uSv_0 h m]
/-- the dead stay dead in what is recorded -/
def uAlv (L : Int) (D : Int → Int) : Prop := ∀ p i j, 0 ≤ p → p < 4 → 1 ≤ i → i ≤ j → j ≤ L → ¬ D (4 * j + p) = 0 → ¬ D (4 * i + p) = 0
theorem uEr_k (h : uEr e dn cd) (h1 : ¬ dn = 0) : 0 ≤ e ∧ e ≤ 50000 ∧ uPrt e 0 = uK cd := by
  rcases h with g | ⟨g1, g2, g3, g4⟩
  · exact absurd g.1 h1
  · have hD := uD_p g2
    refine ⟨g3.1, g3.2, ?_⟩
    unfold uPrt
    rw [if_pos rfl]
    omega
/-- usualKind -/
theorem u126 (hA : xAr a) (hR : uRec L D C AC a) (hL : 0 ≤ L ∧ L ≤ 60) (ht : 1 ≤ t ∧ t ≤ L) (hp : 1 ≤ p ∧ p ≤ 3) (hal : ∀ i, 1 ≤ i → i < t → ¬ D (4 * i + p) = 0) (hd : 3 ≤ d) (hQ : Q (some (xV (uUs C t p))) (xS a b)) : pmCs ro d 126 [.ref 79, xV t, xV p] (xS a b) Q := by
  have ht2 : 1 ≤ t ∧ t ≤ 60 := by omega
  refine pmCs_deep (d := 3) (xg126 (wa126 ht2 hp ?_)) hd
  obtain ⟨N, eN⟩ : ∃ N : Int → Int, (fun kd => uNk C p kd (t - 1).toNat) = N := ⟨_, rfl⟩
  have hN : ∀ kd, N kd = uNk C p kd (t - 1).toNat := fun kd => by rw [← eN]
  have hNb : ∀ kd, 0 ≤ N kd ∧ N kd ≤ 60 := fun kd => by
    have := uNk_b (C := C) (p := p) (kd := kd) (t - 1).toNat
    rw [hN]
    omega
  have eU : uUs C t p = uBe N 6 := by
    unfold uUs
    rw [eN]
  have loop : ∀ (u m : Nat) (be cn : Int) (v6 v7 : Option Value), m + u = 7 → (m = 0 ∧ be = 0 ∧ cn = 0 ∨ ∃ m' : Nat, m = m' + 1 ∧ be = uBe N m' ∧ cn = N (uBe N m')) → pmWp ro 2 0 126 1 8 [some (.ref 79), some (xV t), some (xV p), some (xV be), some (xV cn), some (xV (m : Int)), v6, v7] [] (xS a b) Q := by
    intro u
    induction u with
    | zero =>
      intro m be cn v6 v7 hm hI
      rcases hI with ⟨h, _⟩ | ⟨m', h1, h2, h3⟩
      · omega
      · have e6 : m' = 6 := by omega
        subst e6
        have hbb := uBe_b (N := N) 6
        have hcn := hNb (uBe N 6)
        rw [eU, ← h2] at hQ
        exact wa126a hA ht2 hp (by omega) (by omega) (by omega) (by decide) (fun _ => hQ) (fun e => absurd (by omega) e)
    | succ u ih =>
      intro m be cn v6 v7 hm hI
      have hbc : (0 ≤ be ∧ be ≤ 6) ∧ 0 ≤ cn ∧ cn ≤ 60 := by
        rcases hI with ⟨_, h, g⟩ | ⟨m', h1, h2, h3⟩
        · omega
        · have hbb := uBe_b (N := N) m'
          have hcn := hNb (uBe N m')
          omega
      have hkd : 0 ≤ (m : Int) ∧ (m : Int) ≤ 7 := by omega
      refine wa126a hA ht2 hp hbc.1 hbc.2 hkd (by decide) (fun e => absurd e (by omega)) (fun _ => ?_)
      have fin : ∀ (v7 : Int), (1 ≤ v7 ∧ v7 ≤ 60) → pmWp ro 2 0 126 1 70 [some (.ref 79), some (xV t), some (xV p), some (xV be), some (xV cn), some (xV (m : Int)), some (xV (N (m : Int))), some (xV v7)] [] (xS a b) Q := by
        intro v7 hv7
        refine wa126d hA ht2 hp hbc.1 hbc.2 hkd (by decide) (hNb _) hv7 (fun h => ih (m + 1) be cn _ _ (by omega) (Or.inr ⟨m, rfl, ?_⟩)) (fun h => ih (m + 1) m (N m) _ _ (by omega) (Or.inr ⟨m, rfl, ?_⟩))
        · have h0 := hNb (m : Int)
          rcases hI with ⟨h1, h2, h3⟩ | ⟨m', h1, h2, h3⟩
          · subst h1
            have e0 : uBe N 0 = 0 := rfl
            rw [e0]
            have h00 : ((0 : Nat) : Int) = 0 := rfl
            rw [h00] at h h0
            exact ⟨h2, by omega⟩
          · subst h1
            rw [uBe_n (by omega)]
            exact ⟨h2, h3⟩
        · rcases hI with ⟨h1, h2, h3⟩ | ⟨m', h1, h2, h3⟩
          · subst h1
            exact ⟨rfl, rfl⟩
          · subst h1
            rw [uBe_y (by omega)]
            exact ⟨rfl, rfl⟩
      have inner : ∀ (u2 i : Nat), (i : Int) + u2 + 1 = t → pmWp ro 2 0 126 1 21 [some (.ref 79), some (xV t), some (xV p), some (xV be), some (xV cn), some (xV (m : Int)), some (xV (uNk C p m i)), some (xV ((i + 1 : Nat) : Int))] [] (xS a b) Q := by
        intro u2
        induction u2 with
        | zero =>
          intro i hi
          have hb := uNk_b (C := C) (p := p) (kd := m) i
          have f := fin ((i + 1 : Nat) : Int) (by omega)
          rw [hN, show (t - 1).toNat = i by omega] at f
          exact wa126b hA ht2 hp hbc.1 hbc.2 hkd (by decide) (by omega) (by omega) (fun _ => f) (fun e => absurd (by omega) e) (fun e => absurd (by omega) e) (fun e => absurd (by omega) e)
        | succ u2 ih2 =>
          intro i hi
          have hb := uNk_b (C := C) (p := p) (kd := m) i
          have hE := hR.2.1 ((i + 1 : Nat) : Int) p (by omega) (by omega) (by omega) (by omega)
          obtain ⟨k1, k2, k3⟩ := uEr_k hE (hal _ (by omega) (by omega))
          have hi1 : 1 ≤ ((i + 1 : Nat) : Int) ∧ ((i + 1 : Nat) : Int) ≤ 60 := by omega
          have e3 : ((i + 1 + 1 : Nat) : Int) = ((i + 1 : Nat) : Int) + 1 := by omega
          have := ih2 (i + 1) (by omega)
          rw [e3] at this
          refine wa126b hA ht2 hp hbc.1 hbc.2 hkd (by decide) (by omega) hi1 (fun e => absurd e (by omega)) (fun _ e => absurd e (by omega)) (fun _ _ e => ?_) (fun _ _ e => ?_)
          · rw [k3] at e
            rw [uNk_n e] at this
            rw [Int.add_zero]
            exact wa126c hA ht2 hp hbc.1 hbc.2 hkd (by decide) (by omega) hi1 this
          · rw [k3] at e
            rw [uNk_y e] at this
            exact wa126c hA ht2 hp hbc.1 hbc.2 hkd (by decide) (by omega) hi1 this
      exact inner (t - 1).toNat 0 (by omega)
  exact loop 7 0 0 0 _ _ (by decide) (Or.inl ⟨rfl, rfl, rfl⟩)
/-- surprise of the class -/
theorem u124 (qr1 : xR t) (hA : xAr a) (hR : uRec L D C AC a) (hL : 0 ≤ L ∧ L ≤ 60) (h21 : a 21 6 = L) (hal : uAlv L D) (hd : 5 ≤ d) (hQ : Q (some (xV (if 1 ≤ t ∧ t ≤ L then uSv D C t 3 else -1))) (xS a b)) : pmCs ro d 124 [.ref 0, xV t] (xS a b) Q := by
  have no : ¬ (1 ≤ t ∧ t ≤ L) → Q (some (xV (-1))) (xS a b) := fun h => by
    rw [if_neg h] at hQ
    exact hQ
  refine pmCs_deep (d := 5) (xg124 (wa124 qr1 (by omega) (fun h => no (by omega)) (fun h1 h2 => ?_) (fun _ h => no (by omega)))) hd
  have ht : 1 ≤ t ∧ t ≤ L := by omega
  rw [if_pos ht] at hQ
  have ht2 : 1 ≤ t ∧ t ≤ 60 := by omega
  refine pmCs_deep (d := 4) (xg125 (wa125 ht2 ?_)) (by decide)
  have loop : ∀ (u m : Nat) (v4 : Option Value), m + u = 3 → pmWp ro 3 0 125 1 4 [some (.ref 79), some (xV t), some (xV (uSv D C t m)), some (xV ((m + 1 : Nat) : Int)), v4] [] (xS a b) (fun r' s' => pmWp ro 4 11 124 1 28 [some (.ref 0), some (xV t)] (r'.toList ++ []) s' Q) := by
    intro u
    induction u with
    | zero =>
      intro m v4 hm
      have e3 : m = 3 := by omega
      subst e3
      have hb := uSv_b (D := D) (C := C) (t := t) 3
      have h3 : ((3 : Nat) : Int) = 3 := rfl
      exact wa125a hA ht2 (by omega) (by decide) (by decide) (fun _ => wa124a hQ) (fun e => absurd (by decide) e) (fun e => absurd (by decide) e) (fun e => absurd (by decide) e)
    | succ u ih =>
      intro m v4 hm
      have hb := uSv_b (D := D) (C := C) (t := t) m
      have hp : 1 ≤ ((m + 1 : Nat) : Int) ∧ ((m + 1 : Nat) : Int) ≤ 3 := by omega
      have e3 : ((m + 1 + 1 : Nat) : Int) = ((m + 1 : Nat) : Int) + 1 := by omega
      have hE := hR.2.1 t ((m + 1 : Nat) : Int) ht.1 ht.2 (by omega) (by omega)
      have hn : 0 ≤ uSv D C t m ∧ uSv D C t m ≤ 4 := by omega
      have nxt : ∀ v4 : Option Value, pmWp ro 3 0 125 1 46 [some (.ref 79), some (xV t), some (xV (uSv D C t (m + 1))), some (xV ((m + 1 : Nat) : Int)), v4] [] (xS a b) (fun r' s' => pmWp ro 4 11 124 1 28 [some (.ref 0), some (xV t)] (r'.toList ++ []) s' Q) := fun v4 => by
        have hb1 := uSv_b (D := D) (C := C) (t := t) (m + 1)
        have := ih (m + 1) v4 (by omega)
        rw [e3] at this
        exact wa125c hA ht2 (by omega) hp (by decide) this
      refine wa125a hA ht2 hn (by omega) (by decide) (fun e => absurd e (by omega)) (fun _ e => ?_) (fun _ _ e => ?_) (fun _ h1 e => ?_)
      · rw [uSv_0 e] at hQ ⊢
        exact wa124a hQ
      · have d0 : D (4 * t + ((m + 1 : Nat) : Int)) = 0 := by
          rcases hE with g | g
          · exact g.1
          · omega
        have := nxt (some (xV (a 85 (t * 4 + ((m + 1 : Nat) : Int)))))
        rw [uSv_y (Or.inr (Or.inl d0))] at this
        exact this
      · have d0 : ¬ D (4 * t + ((m + 1 : Nat) : Int)) = 0 := fun g => by
          rcases hE with g1 | g1
          · exact e g1.2.1
          · omega
        obtain ⟨k1, k2, k3⟩ := uEr_k hE d0
        refine u126 hA hR hL ht hp (fun i i1 i2 => hal _ i t (by omega) (by omega) i1 (by omega) ht.2 d0) (by decide) ?_
        have hbb := uBe_b (N := fun kd => uNk C ((m + 1 : Nat) : Int) kd (t - 1).toNat) 6
        have hz : -1 ≤ uUs C t ((m + 1 : Nat) : Int) ∧ uUs C t ((m + 1 : Nat) : Int) ≤ 7 := by
          unfold uUs
          omega
        have nx := nxt (some (xV (a 85 (t * 4 + ((m + 1 : Nat) : Int)))))
        refine wa125b hA ht2 hn (by omega) (by decide) uPrt_b hz (fun g => ?_) (fun g => ?_)
        · rw [uSv_y (Or.inr (Or.inr (k3.symm.trans g)))] at nx
          exact nx
        · rw [uSv_n (fun h => h.elim (fun h => h1 h) (fun h => h.elim d0 (fun h => g (k3.trans h))))] at nx
          exact nx
  exact loop 3 0 _ (by decide)
/-- surprise of the reference -/
theorem u239 (qr1 : xR t) (hA : xAr a) (hF : uRef L D C AC a) (hG : ∀ t p, 1 ≤ t → t ≤ L → 0 ≤ p → p < 4 → -1 ≤ C (4 * t + p) ∧ C (4 * t + p) < 61) (hL : 0 ≤ L ∧ L ≤ 60) (h88 : a 88 114 = L) (hd : 3 ≤ d) (hQ : ∀ a', (∀ q j, ¬ q = 125 → a' q j = a q j) → xAr a' → Q (some (xV (if 1 ≤ t ∧ t ≤ L then uSv D C t 3 else -1))) (xS a' b)) : pmCs ro d 239 [.ref 87, xV t] (xS a b) Q := by
  refine pmCs_deep (d := 3) (xg239 (wa239 qr1 h88 hL (by decide) (fun ht => ?_) (fun h => ?_))) hd
  rotate_left
  · have := hQ a (fun _ _ _ => rfl) hA
    rw [if_neg h] at this
    exact this
  rw [if_pos ht] at hQ
  have ht2 : 1 ≤ t ∧ t ≤ 60 := by omega
  have loop : ∀ (u m : Nat) (a2 : xA) (v4 v5 : Option Value), m + u = 3 → (∀ q j, ¬ q = 125 → a2 q j = a q j) → xAr a2 → pmWp ro 2 12 239 1 21 [some (.ref 87), some (xV t), some (xV (uSv D C t m)), some (xV ((m + 1 : Nat) : Int)), v4, v5] [] (xS a2 b) Q := by
    intro u
    induction u with
    | zero =>
      intro m a2 v4 v5 hm f2 A2
      have e3 : m = 3 := by omega
      subst e3
      have hb := uSv_b (D := D) (C := C) (t := t) 3
      have h3 : ((3 : Nat) : Int) = 3 := rfl
      exact wa239a A2 ht2 (by omega) (by decide) (by decide) (fun _ => hQ a2 f2 A2) (fun e => absurd (by decide) e) (fun e => absurd (by decide) e) (fun e => absurd (by decide) e)
    | succ u ih =>
      intro m a2 v4 v5 hm f2 A2
      have hb := uSv_b (D := D) (C := C) (t := t) m
      have e3 : ((m + 1 + 1 : Nat) : Int) = ((m + 1 : Nat) : Int) + 1 := by omega
      have nxt : ∀ (a3 : xA) (v4 v5 : Option Value), (∀ q j, ¬ q = 125 → a3 q j = a q j) → xAr a3 → pmWp ro 2 12 239 1 197 [some (.ref 87), some (xV t), some (xV (uSv D C t (m + 1))), some (xV ((m + 1 : Nat) : Int)), v4, v5] [] (xS a3 b) Q := fun a3 v4 v5 f3 A3 => by
        have hb1 := uSv_b (D := D) (C := C) (t := t) (m + 1)
        have := ih (m + 1) a3 v4 v5 (by omega) f3 A3
        rw [e3] at this
        exact wa239g A3 ht2 (by omega) (by omega) (by decide) this
      have s0 : t ≤ 1 → uSv D C t 3 = uSv D C t m := fun h => by rw [uSv_0 h, uSv_0 h]
      have sy := @uSv_y t D C m
      have sn := @uSv_n t D C m
      obtain ⟨p, ep⟩ : ∃ p, ((m + 1 : Nat) : Int) = p := ⟨_, rfl⟩
      rw [ep] at nxt sy sn ⊢
      have hp : 1 ≤ p ∧ p ≤ 3 := by omega
      have hn : 0 ≤ uSv D C t m ∧ uSv D C t m ≤ 4 := by omega
      have e124 : a2 124 (4 * t + p) = D (4 * t + p) := (f2 124 _ (by decide)).trans (hF.1 t p ht.1 ht.2 (by omega) (by omega)).1
      refine wa239a A2 ht2 hn (by omega) (by decide) (fun e => absurd e (by omega)) (fun _ e => ?_) (fun _ h1 e => ?_) (fun _ _ e => ?_)
      · have f := hQ a2 f2 A2
        rw [s0 e] at f
        exact f
      · rw [e124] at e
        obtain ⟨N, eN⟩ : ∃ N : Int → Int, (fun kd => uNk C p kd (t - 1).toNat) = N := ⟨_, rfl⟩
        have hN : ∀ kd, N kd = uNk C p kd (t - 1).toNat := fun kd => by rw [← eN]
        have eU : uUs C t p = uBe N 6 := by
          unfold uUs
          rw [eN]
        have e120 : ∀ a3 : xA, (∀ q j, ¬ q = 125 → a3 q j = a q j) → ∀ i, 1 ≤ i → i ≤ L → a3 120 (4 * i + p) = C (4 * i + p) := fun a3 f3 i i1 i2 => (f3 120 _ (by decide)).trans (hF.1 i p i1 i2 (by omega) (by omega)).2
        -- the kind done most often
        have best : ∀ (u2 k : Nat) (a3 : xA), k + u2 = 6 → (∀ q j, ¬ q = 125 → a3 q j = a q j) → xAr a3 → (∀ kd, 0 ≤ kd → kd < 7 → a3 125 kd = N kd) → pmWp ro 2 12 239 1 132 [some (.ref 87), some (xV t), some (xV (uSv D C t m)), some (xV p), some (xV (uBe N k)), some (xV ((k + 1 : Nat) : Int))] [] (xS a3 b) Q := by
          intro u2
          induction u2 with
          | zero =>
            intro k a3 hk f3 A3 hX
            have e6 : k = 6 := by omega
            subst e6
            have hbb := uBe_b (N := N) 6
            have h6 : ((6 : Nat) : Int) = 6 := rfl
            have hbe : 0 ≤ uBe N 6 ∧ uBe N 6 ≤ 6 := by omega
            have h7 : 1 ≤ ((6 + 1 : Nat) : Int) ∧ ((6 + 1 : Nat) : Int) ≤ 7 := by decide
            refine wa239e A3 ht2 hn hp (by decide) hbe h7 (fun _ => ?_) (fun g => absurd (by decide) g) (fun g => absurd (by decide) g)
            refine wa239f A3 ht2 hn hp (by decide) hbe h7 (e120 a3 f3 t ht.1 ht.2) (hG t p ht.1 ht.2 (by omega) (by omega)) (fun g => ?_) (fun g => ?_)
            · have nx := nxt a3 (some (xV (uBe N 6))) (some (xV ((6 + 1 : Nat) : Int))) f3 A3
              rw [sn (fun h => h.elim (fun h => h1 h) (fun h => h.elim e (fun h => g (h.trans eU))))] at nx
              exact nx
            · have nx := nxt a3 (some (xV (uBe N 6))) (some (xV ((6 + 1 : Nat) : Int))) f3 A3
              rw [sy (Or.inr (Or.inr (g.trans eU.symm)))] at nx
              rw [Int.add_zero]
              exact nx
          | succ u2 ih2 =>
            intro k a3 hk f3 A3 hX
            have hbb := uBe_b (N := N) k
            have hbe : 0 ≤ uBe N k ∧ uBe N k ≤ 6 := by omega
            have e4 : ((k + 1 + 1 : Nat) : Int) = ((k + 1 : Nat) : Int) + 1 := by omega
            have x1 := hX ((k + 1 : Nat) : Int) (by omega) (by omega)
            have x2 := hX (uBe N k) hbe.1 (by omega)
            have nx := ih2 (k + 1) a3 (by omega) f3 A3 hX
            rw [e4] at nx
            refine wa239e A3 ht2 hn hp (by decide) hbe (by omega) (fun g => absurd g (by omega)) (fun _ g => ?_) (fun _ g => ?_)
            · rw [x1, x2] at g
              rw [uBe_n (by omega)] at nx
              exact nx
            · rw [x1, x2] at g
              rw [uBe_y (by omega)] at nx
              exact nx
        have cnts : ∀ (u2 i : Nat) (a3 : xA) (v5 : Option Value), (i : Int) + u2 + 1 = t → (∀ q j, ¬ q = 125 → a3 q j = a q j) → xAr a3 → (∀ kd, 0 ≤ kd → kd < 7 → a3 125 kd = uNk C p kd i) → pmWp ro 2 12 239 1 74 [some (.ref 87), some (xV t), some (xV (uSv D C t m)), some (xV p), some (xV ((i + 1 : Nat) : Int)), v5] [] (xS a3 b) Q := by
          intro u2
          induction u2 with
          | zero =>
            intro i a3 v5 hi f3 A3 hX
            have hi1 : 1 ≤ ((i + 1 : Nat) : Int) ∧ ((i + 1 : Nat) : Int) ≤ 60 := by omega
            have hc : -1 ≤ C (4 * ((i + 1 : Nat) : Int) + p) ∧ C (4 * ((i + 1 : Nat) : Int) + p) < 61 := hG _ p (by omega) (by omega) (by omega) (by omega)
            have kb := uKb hc
            have hb := uNk_b (C := C) (p := p) (kd := uK (C (4 * ((i + 1 : Nat) : Int) + p))) i
            refine wa239c A3 ht2 hn hp (by decide) hi1 (e120 a3 f3 _ (by omega) (by omega)) hc (hX _ kb.1 (by omega)) (by omega) (fun _ => ?_) (fun g => absurd (by omega) g)
            refine wa239d A3 ht2 hn hp (by decide) ?_
            refine best 6 0 a3 (by decide) f3 A3 (fun kd k0 k1 => ?_)
            rw [hX kd k0 k1, hN, show (t - 1).toNat = i by omega]
          | succ u2 ih2 =>
            intro i a3 v5 hi f3 A3 hX
            have hi1 : 1 ≤ ((i + 1 : Nat) : Int) ∧ ((i + 1 : Nat) : Int) ≤ 60 := by omega
            have e4 : ((i + 1 + 1 : Nat) : Int) = ((i + 1 : Nat) : Int) + 1 := by omega
            have hc : -1 ≤ C (4 * ((i + 1 : Nat) : Int) + p) ∧ C (4 * ((i + 1 : Nat) : Int) + p) < 61 := hG _ p (by omega) (by omega) (by omega) (by omega)
            have kb := uKb hc
            have hb := uNk_b (C := C) (p := p) (kd := uK (C (4 * ((i + 1 : Nat) : Int) + p))) i
            refine wa239c A3 ht2 hn hp (by decide) hi1 (e120 a3 f3 _ (by omega) (by omega)) hc (hX _ kb.1 (by omega)) (by omega) (fun g => absurd g (by omega)) (fun _ => ?_)
            rw [← e4]
            refine ih2 (i + 1) _ _ (by omega) (fun q j h => (xUn h).trans (f3 q j h)) (xAr_u A3 ⟨by omega, by omega⟩) (fun kd k0 k1 => ?_)
            by_cases g : uK (C (4 * ((i + 1 : Nat) : Int) + p)) = kd
            · rw [uNk_y g, ← g, xUy]
            · rw [uNk_n g, xUo (fun h => g h.2.symm)]
              exact hX kd k0 k1
        have zeros : ∀ (u2 k : Nat) (a3 : xA) (v5 : Option Value), k + u2 = 7 → (∀ q j, ¬ q = 125 → a3 q j = a q j) → xAr a3 → (∀ kd : Int, 0 ≤ kd → kd < k → a3 125 kd = 0) → pmWp ro 2 12 239 1 50 [some (.ref 87), some (xV t), some (xV (uSv D C t m)), some (xV p), some (xV (k : Int)), v5] [] (xS a3 b) Q := by
          intro u2
          induction u2 with
          | zero =>
            intro k a3 v5 hk f3 A3 hX
            have hk7 : 0 ≤ (k : Int) ∧ (k : Int) ≤ 7 := by omega
            exact wa239b A3 ht2 hn hp (by decide) hk7 (fun _ => cnts (t - 1).toNat 0 a3 _ (by omega) f3 A3 (fun kd k0 k1 => hX kd k0 (by omega))) (fun g => absurd (by omega) g)
          | succ u2 ih2 =>
            intro k a3 v5 hk f3 A3 hX
            have hk7 : 0 ≤ (k : Int) ∧ (k : Int) ≤ 7 := by omega
            refine wa239b A3 ht2 hn hp (by decide) hk7 (fun g => absurd g (by omega)) (fun _ => ih2 (k + 1) _ _ (by omega) (fun q j h => (xUn h).trans (f3 q j h)) (xAr_u A3 ⟨by decide, by decide⟩) (fun kd k0 k1 => ?_))
            by_cases g : kd = k
            · rw [g, xUy]
            · rw [xUo (fun h => g h.2)]
              exact hX kd k0 (by omega)
        exact zeros 7 0 a2 _ (by decide) f2 A2 (fun kd k0 k1 => absurd k1 (by omega))
      · rw [e124] at e
        have nx := nxt a2 v4 v5 f2 A2
        rw [sy (Or.inr (Or.inl e))] at nx
        exact nx
  exact loop 3 0 a _ _ (by decide) (fun _ _ _ => rfl) hA
end
end
