/-! the reference plans -/
section
set_option maxRecDepth 100000


section
variable {ro : Nat → Nat × (Nat → Int32)} {d : Nat} {Q : Option Value → pmS → Prop} {dr wp pr : Int → Int} {n f k lv w : Int} {S : Int → Int} {a a' : xA} {b : xB} {ts : List Int} {sp z : Int} {rl : List Int} {x y B : uR}
/-- a row found, with what stands ahead of it -/
def uSf (sp : Int) (rl : List Int) (x : uR) : uR := x.map fun p => (sp + p.1, rl ++ p.2)
theorem uBet_as : uBet (uBet B x) y = uBet B (uBet x y) := by
  cases y with
  | none => rfl
  | some q =>
    cases x with
    | none => rfl
    | some p =>
      cases B with
      | none =>
        show (if q.1 < p.1 then some q else some p) = uBet none (if q.1 < p.1 then some q else some p)
        split <;> rfl
      | some c =>
        show uBet (if p.1 < c.1 then some p else some c) (some q) = uBet (some c) (if q.1 < p.1 then some q else some p)
        by_cases h1 : p.1 < c.1
        · rw [if_pos h1]
          show (if q.1 < p.1 then some q else some p) = _
          by_cases h2 : q.1 < p.1
          · rw [if_pos h2]
            show _ = if q.1 < c.1 then some q else some c
            rw [if_pos (by omega)]
          · rw [if_neg h2]
            show _ = if p.1 < c.1 then some p else some c
            rw [if_pos h1]
        · rw [if_neg h1]
          by_cases h2 : q.1 < p.1
          · rw [if_pos h2]
          · rw [if_neg h2]
            show (if q.1 < c.1 then some q else some c) = if p.1 < c.1 then some p else some c
            rw [if_neg h1, if_neg (by omega)]
theorem uSf_bet : uSf sp rl (uBet x y) = uBet (uSf sp rl x) (uSf sp rl y) := by
  cases y with
  | none => rfl
  | some q =>
    cases x with
    | none => rfl
    | some p =>
      show uSf sp rl (if q.1 < p.1 then some q else some p) = if sp + q.1 < sp + p.1 then _ else _
      by_cases h : q.1 < p.1
      · rw [if_pos h, if_pos (by omega)]
        rfl
      · rw [if_neg h, if_neg (by omega)]
        rfl
theorem uSf_sh : uSf sp rl (uSh z k x) = uSf (sp + z) (rl ++ [k]) x := by
  cases x with
  | none => rfl
  | some p =>
    show some (sp + (z + p.1), rl ++ k :: p.2) = some (sp + z + p.1, rl ++ [k] ++ p.2)
    rw [show sp + (z + p.1) = sp + z + p.1 by omega, List.append_assoc]
    rfl
theorem uSf_0 : uSf 0 [] x = x := by
  cases x with
  | none => rfl
  | some p =>
    show some (0 + p.1, [] ++ p.2) = some p
    rw [show 0 + p.1 = p.1 by omega]
    rfl
/-- what the reference needs of prices alone -/
def uPp (pr : Int → Int) : Prop := ∀ i, 1 ≤ i → i ≤ 5 → 1 ≤ pr i ∧ pr i ≤ 9
theorem uBet_c {q : Int × List Int} {m : Nat} (hp : uPp pr) (hk : 0 ≤ k ∧ k < 41) (h : q.1 ≤ sp + uCs pr k) : uBet (some q) (uSf sp rl (uOne dr wp pr f ts m S k)) = some q := by
  unfold uOne
  by_cases hc : uCan dr wp f S k
  · rw [uIf_t hc]
    cases hh : uHold f ts (uApp f S k) with
    | true =>
      show (if sp + uCs pr k < q.1 then _ else some q) = some q
      rw [if_neg (by omega)]
    | false =>
      cases ho : uOpt dr wp pr f ts m (uApp f S k) with
      | none => rfl
      | some p =>
        obtain ⟨h1, h2, ⟨zz, h3, h4, h5⟩, h6⟩ := uOpt_len hp m _ p ho
        show (if sp + (uCs pr k + p.1) < q.1 then _ else some q) = some q
        rw [if_neg (by omega)]
  · rw [uIf_f hc]
    rfl
/-- the best row, as the reference keeps it -/
def uBr (a : xA) (x : uR) : Prop := (x = none → a 87 34 = 0) ∧ ∀ p, x = some p → (1 ≤ p.2.length ∧ p.2.length ≤ 4) ∧ a 87 34 = (p.2.length : Int) ∧ 8 * a 87 33 + (p.2.length : Int) = p.1 ∧ (0 ≤ a 87 33 ∧ a 87 33 ≤ 36) ∧ ∀ (j : Nat) c, p.2[j]? = some c → a 111 (j : Int) = c
/-- what stands while the reference plans -/
def uRs (dr wp pr : Int → Int) (n w : Int) (ts : List Int) (a : xA) : Prop := xAr a ∧ uWr wp n a ∧ (∀ k, 0 ≤ k → k < 49 → a 90 k = dr k ∧ (dr k = 0 ∨ dr k = 1)) ∧ (∀ i, 1 ≤ i → i ≤ 5 → a 92 i = pr i) ∧ a 98 w = (ts.length : Int) ∧ (∀ (j : Nat) t, ts[j]? = some t → a 99 (60 * w + (j : Int)) = t) ∧ ∀ j, 0 ≤ j → j < 60 → 0 ≤ a 109 j ∧ a 109 j ≤ 1
/-- and what never changes -/
def uRe (pr : Int → Int) (f : Int) (ts : List Int) : Prop := uPp pr ∧ (1 ≤ f ∧ f ≤ 3) ∧ ts.length ≤ 40 ∧ (∀ t, t ∈ ts → uTv t) ∧ uDl ts 0 ≠ none ∧ ∀ S, ¬ uRun (uAt f S) (fun x => !x) (fun x y => x && y) (fun x y => x || y) ts [] = []
/-- what planning from a level on may change -/
def uFl (lv : Int) (a a' : xA) : Prop := (∀ q j, q ≠ 108 → q ≠ 109 → q ≠ 110 → q ≠ 111 → q ≠ 112 → q ≠ 113 → ¬ (q = 87 ∧ (j = 33 ∨ j = 34)) → a' q j = a q j) ∧ (∀ j, j < 10 * lv + 10 → a' 108 j = a 108 j) ∧ ∀ j, j < lv → a' 110 j = a 110 j ∧ a' 112 j = a 112 j ∧ a' 113 j = a 113 j
theorem uFl_r : uFl lv a a := ⟨fun _ _ _ _ _ _ _ _ _ => rfl, fun _ _ => rfl, fun _ _ => ⟨rfl, rfl, rfl⟩⟩
theorem uFl_t {a'' : xA} (h : uFl lv a a') (h' : uFl lv a' a'') : uFl lv a a'' := ⟨fun q j e1 e2 e3 e4 e5 e6 e7 => (h'.1 q j e1 e2 e3 e4 e5 e6 e7).trans (h.1 q j e1 e2 e3 e4 e5 e6 e7), fun j e => (h'.2.1 j e).trans (h.2.1 j e), fun j e => ⟨(h'.2.2 j e).1.trans (h.2.2 j e).1, (h'.2.2 j e).2.1.trans (h.2.2 j e).2.1, (h'.2.2 j e).2.2.trans (h.2.2 j e).2.2⟩⟩
theorem uFl_up (h : uFl (lv + 1) a a') : uFl lv a a' := ⟨h.1, fun j e => h.2.1 j (by omega), fun j e => h.2.2 j (by omega)⟩
theorem uFl_u {q : Nat} {j v : Int} (h : uFl lv a a') (hq : ((q = 110 ∨ q = 112 ∨ q = 113) ∧ lv ≤ j) ∨ q = 111 ∨ q = 109 ∨ (q = 87 ∧ (j = 33 ∨ j = 34))) : uFl lv a (xU a' q j v) := by
  refine ⟨fun r i e1 e2 e3 e4 e5 e6 e7 => ?_, fun i e => ?_, fun i e => ⟨?_, ?_, ?_⟩⟩
  · have : ¬ (r = q ∧ i = j) := by
      rintro ⟨rfl, rfl⟩
      omega
    exact (if_neg this).trans (h.1 r i e1 e2 e3 e4 e5 e6 e7)
  · rw [xUn (by omega)]
    exact h.2.1 i e
  · have : ¬ ((110 : Nat) = q ∧ i = j) := by
      rintro ⟨rfl, rfl⟩
      omega
    exact (if_neg this).trans (h.2.2 i e).1
  · have : ¬ ((112 : Nat) = q ∧ i = j) := by
      rintro ⟨rfl, rfl⟩
      omega
    exact (if_neg this).trans (h.2.2 i e).2.1
  · have : ¬ ((113 : Nat) = q ∧ i = j) := by
      rintro ⟨rfl, rfl⟩
      omega
    exact (if_neg this).trans (h.2.2 i e).2.2
theorem uRs_f (h : uRs dr wp pr n w ts a) (hf : uFl lv a a') (hA : xAr a') (h9 : ∀ j, 0 ≤ j → j < 60 → 0 ≤ a' 109 j ∧ a' 109 j ≤ 1) : uRs dr wp pr n w ts a' := by
  obtain ⟨r1, ⟨w1, w2, w3, w4⟩, r3, r4, r5, r6, r7⟩ := h
  have e : ∀ q j, q = 90 ∨ q = 91 ∨ q = 92 ∨ q = 98 ∨ q = 99 → a' q j = a q j := fun q j e => hf.1 q j (by omega) (by omega) (by omega) (by omega) (by omega) (by omega) (by omega)
  refine ⟨hA, ⟨fun i i0 i1 => (e 91 i (by decide)).trans (w1 i i0 i1), (hf.1 87 2 (by decide) (by decide) (by decide) (by decide) (by decide) (by decide) (by decide)).trans w2, w3, w4⟩, fun k k0 k1 => ⟨(e 90 k (by decide)).trans (r3 k k0 k1).1, (r3 k k0 k1).2⟩, fun i i0 i1 => (e 92 i (by decide)).trans (r4 i i0 i1), (e 98 w (by decide)).trans r5, fun j t ht => (e 99 _ (by decide)).trans (r6 j t ht), h9⟩
theorem uOn_app (hf : 1 ≤ f ∧ f ≤ 3) (hS : uOk f S) (hN : uOn n S) (hk : 0 ≤ k ∧ k < 41) (hc : uCan dr wp f S k) : uOn n (uApp f S k) := by
  intro x xn x0 x5
  have h0 := hN x xn x0 x5
  have h1 := hS.1
  obtain ⟨c1, c2, c3, c4, c5⟩ := uCan_k (dr := dr) (wp := wp) (f := f) (S := S) hk
  rcases uKd hk with ⟨e1, e2, e3⟩ | ⟨e1, e2, e3⟩ | ⟨e1, e2, e3⟩ | ⟨e1, e2, e3, e4⟩ | ⟨e1, e2, e3⟩
  · rw [uApp_go ⟨hk.1, e1⟩]
    unfold uP
    rw [if_neg (by omega)]
    exact h0
  · rw [c2 e2] at hc
    rw [uApp_ta e1]
    unfold uP
    by_cases c : 4 + x = 4 + uX k
    · rw [← c] at hc
      omega
    · rw [if_neg c]
      exact h0
  · rw [c3 e2] at hc
    rw [uApp_dr e1]
    unfold uP
    by_cases c : 4 + x = 4 + uX k
    · rw [← c] at hc
      omega
    · rw [if_neg c]
      exact h0
  · rw [c4 e2] at hc
    have hc := hc.1
    rw [uApp_gi e1]
    unfold uP
    by_cases c : 4 + x = 4 + uX k
    · rw [← c] at hc
      omega
    · rw [if_neg c]
      exact h0
  · rw [uApp_hi e1]
    show (if 4 + x = uX k then _ else _) = _
    rw [if_neg (by omega), if_neg (by omega)]
    exact h0
/-- a level of the search: what it does -/
def uPlS (ro : Nat → Nat × (Nat → Int32)) (dr wp pr : Int → Int) (n f k : Int) (ts : List Int) (b : xB) (m : Nat) : Prop := ∀ (lv sp : Int) (S : Int → Int) (rl : List Int) (a : xA) (B : uR) (Q : Option Value → pmS → Prop) (v4 v5 v6 v7 : Option Value), lv + ((m + 1 : Nat) : Int) = 4 → lv = (rl.length : Int) → (∀ c, c ∈ rl → 0 ≤ c ∧ c < 41) → uRs dr wp pr n (3 * f + k) ts a → uMd f (10 * lv) a S → uOk f S → uOn n S → a 112 lv = 0 → sp = 8 * a 113 lv + lv → (0 ≤ a 113 lv ∧ a 113 lv ≤ 9 * lv) → (∀ (j : Nat) c, rl[j]? = some c → a 110 (j : Int) = c) → uBr a B →
    (∀ a' v4 v5 v6 v7, uFl lv a a' → uRs dr wp pr n (3 * f + k) ts a' → uBr a' (uBet B (uSf sp rl (uOpt dr wp pr f ts (m + 1) S))) → pmWp ro 3 12 190 2 21 [some (.ref 87), some (xV f), some (xV k), some (xV (lv - 1)), v4, v5, v6, v7] [] (xS a' b) Q) →
    pmWp ro 3 12 190 2 21 [some (.ref 87), some (xV f), some (xV k), some (xV lv), v4, v5, v6, v7] [] (xS a b) Q
theorem u190t (hE : uRe pr f ts) (hk2 : 0 ≤ k ∧ k ≤ 2) (m : Nat) (IH : ∀ m', m = m' + 1 → uPlS ro dr wp pr n f k ts b m') : uPlS ro dr wp pr n f k ts b m := by
  obtain ⟨hpp, hf, hl40, htv, hdl, hne⟩ := id hE
  intro lv sp S rl a B Q v4 v5 v6 v7 hlm hlr hrl hR hM hS hN h12 hsp hco hch hB K
  have hlv : 0 ≤ lv ∧ lv ≤ 3 := by omega
  have loop : ∀ (q kk : Nat) (a1 : xA) (v4 v5 v6 v7 : Option Value), 41 - kk ≤ q → kk ≤ 41 → uFl lv a a1 → uRs dr wp pr n (3 * f + k) ts a1 → a1 112 lv = (kk : Int) → a1 113 lv = a 113 lv → uBr a1 (uBet B (uSf sp rl (uFo (uOne dr wp pr f ts m S) kk))) →
      pmWp ro 3 12 190 2 21 [some (.ref 87), some (xV f), some (xV k), some (xV lv), v4, v5, v6, v7] [] (xS a1 b) Q := by
    intro q
    induction q with
    | zero =>
      intro kk a1 v4 v5 v6 v7 hq hkk g1 g2 g3 g4 g5
      have ek : kk = 41 := by omega
      subst ek
      refine w190a hlv g3 ⟨by decide, by decide⟩ (fun e => absurd e (by decide)) (fun _ => ?_)
      refine K _ _ _ _ _ (uFl_u g1 (Or.inl ⟨by decide, Int.le_refl _⟩)) (uRs_f (lv := lv) g2 (uFl_u uFl_r (Or.inl ⟨by decide, Int.le_refl _⟩)) (xAr_u g2.1 ⟨by decide, by decide⟩) (fun j j0 j1 => by rw [xUn (by decide)]; exact g2.2.2.2.2.2.2 j j0 j1)) ?_
      obtain ⟨b1, b2⟩ := g5
      exact ⟨fun e => by rw [xUn (by decide)]; exact b1 e, fun p e => by
        obtain ⟨q1, q2, q3, q4, q5⟩ := b2 p e
        exact ⟨q1, by rw [xUn (by decide)]; exact q2, by rw [xUn (by decide)]; exact q3, by rw [xUn (by decide)]; exact q4, fun j c hc => by rw [xUn (by decide)]; exact q5 j c hc⟩⟩
    | succ q ih =>
      intro kk a1 v4 v5 v6 v7 hq hkk g1 g2 g3 g4 g5
      by_cases ek : kk = 41
      · subst ek
        refine w190a hlv g3 ⟨by decide, by decide⟩ (fun e => absurd e (by decide)) (fun _ => ?_)
        refine K _ _ _ _ _ (uFl_u g1 (Or.inl ⟨by decide, Int.le_refl _⟩)) (uRs_f (lv := lv) g2 (uFl_u uFl_r (Or.inl ⟨by decide, Int.le_refl _⟩)) (xAr_u g2.1 ⟨by decide, by decide⟩) (fun j j0 j1 => by rw [xUn (by decide)]; exact g2.2.2.2.2.2.2 j j0 j1)) ?_
        obtain ⟨b1, b2⟩ := g5
        exact ⟨fun e => by rw [xUn (by decide)]; exact b1 e, fun p e => by
          obtain ⟨q1, q2, q3, q4, q5⟩ := b2 p e
          exact ⟨q1, by rw [xUn (by decide)]; exact q2, by rw [xUn (by decide)]; exact q3, by rw [xUn (by decide)]; exact q4, fun j c hc => by rw [xUn (by decide)]; exact q5 j c hc⟩⟩
      have hk41 : 0 ≤ (kk : Int) ∧ (kk : Int) < 41 := by omega
      obtain ⟨B1, hB1⟩ : ∃ B1, uBet B (uSf sp rl (uFo (uOne dr wp pr f ts m S) kk)) = B1 := ⟨_, rfl⟩
      rw [hB1] at g5
      -- on with the next code
      have nx : ∀ (a2 : xA) (v4 v5 v6 v7 : Option Value), uFl lv a a2 → uRs dr wp pr n (3 * f + k) ts a2 → a2 112 lv = (kk : Int) + 1 → a2 113 lv = a 113 lv → uBr a2 (uBet B1 (uSf sp rl (uOne dr wp pr f ts m S kk))) → pmWp ro 3 12 190 2 21 [some (.ref 87), some (xV f), some (xV k), some (xV lv), v4, v5, v6, v7] [] (xS a2 b) Q := by
        intro a2 v4 v5 v6 v7 q1 q2 q3 q4 q5
        refine ih (kk + 1) a2 v4 v5 v6 v7 (by omega) (by omega) q1 q2 (by rw [q3]; omega) q4 ?_
        rw [← hB1, uBet_as, ← uSf_bet] at q5
        exact q5
      refine w190a hlv g3 ⟨by omega, by omega⟩ (fun _ => ?_) (fun e => absurd (show (kk : Int) ≤ 40 by omega) e)
      -- the code is taken
      obtain ⟨a2, ha2⟩ : ∃ a2, xU a1 112 lv ((kk : Int) + 1) = a2 := ⟨_, rfl⟩
      have x2 : uFl lv a1 a2 := by
        rw [← ha2]
        exact uFl_u uFl_r (Or.inl ⟨by decide, Int.le_refl _⟩)
      have e2 : ∀ q j, q ≠ 112 → a2 q j = a1 q j := fun q j h => by rw [← ha2, xUn h]
      have A2 : xAr a2 := by
        rw [← ha2]
        exact xAr_u g2.1 ⟨by omega, by omega⟩
      have R2 : uRs dr wp pr n (3 * f + k) ts a2 := uRs_f g2 x2 A2 (fun j j0 j1 => by rw [e2 109 j (by decide)]; exact g2.2.2.2.2.2.2 j j0 j1)
      have y2 : uFl lv a a2 := uFl_t g1 x2
      have c2 : a2 112 lv = (kk : Int) + 1 := by rw [← ha2, xUa]
      have d2 : a2 113 lv = a 113 lv := (e2 113 lv (by decide)).trans g4
      have M2 : uMd f (10 * lv) a2 S := ⟨(y2.2.1 _ (by omega)).trans hM.1, fun x x0 x1 => (y2.2.1 _ (by omega)).trans (hM.2.1 x x0 x1), fun q q0 q1 => (y2.2.1 _ (by omega)).trans (hM.2.2 q q0 q1)⟩
      have hbr : ∀ a3 : xA, (∀ q j, (q = 87 ∧ (j = 33 ∨ j = 34)) ∨ q = 111 → a3 q j = a1 q j) → uBr a3 B1 := fun a3 h => ⟨fun e => (h 87 34 (by decide)).trans (g5.1 e), fun p e => by
        obtain ⟨q1, q2, q3, q4, q5⟩ := g5.2 p e
        exact ⟨q1, (h 87 34 (by decide)).trans q2, by rw [h 87 33 (by decide)]; exact q3, by rw [h 87 33 (by decide)]; exact q4, fun j c hc => (h 111 _ (Or.inr rfl)).trans (q5 j c hc)⟩⟩
      rw [ha2]
      refine u191 (dr := dr) (wp := wp) A2 M2 R2.2.1 R2.2.2.1 ⟨by omega, by omega⟩ hf hS hk41 (by decide) (fun z hz hzc => ?_)
      have hK5 : 1 ≤ uK (kk : Int) ∧ uK (kk : Int) ≤ 5 := by
        rcases uKd hk41 with h | h | h | h | h <;> omega
      have hpr := hpp _ hK5.1 hK5.2
      have hcs : uCs pr (kk : Int) = 8 * pr (uK (kk : Int)) + 1 := rfl
      -- where it isn't cut
      have go : z = 1 → ∀ v7, (∀ q, B1 = some q → sp + uCs pr (kk : Int) < q.1) → pmCs ro 3 196 [.ref 87, xV lv, xV f, xV (kk : Int)] (xS a2 b) fun r σ' => pmWp ro 3 12 190 2 140 [some (.ref 87), some (xV f), some (xV k), some (xV lv), some (xV (kk : Int)), some (xV (a 113 lv + pr (uK (kk : Int)))), some (xV (lv + 1)), v7] (r.toList ++ []) σ' Q := by
        intro hz1 v7 hcut
        have hc := hzc.mp hz1
        refine u196 (dr := dr) (wp := wp) A2 M2 R2.2.1.2.1 R2.2.1.2.2.1 hlv hf hS hN hk41 hc (by decide) (fun a3 l3 A3 M3 => ?_)
        refine w190c hlv ⟨by omega, by omega⟩ ?_
        obtain ⟨a4, ha4⟩ : ∃ a4, xU a3 110 lv (kk : Int) = a4 := ⟨_, rfl⟩
        rw [ha4]
        have e4 : ∀ q j, q ≠ 110 → a4 q j = a3 q j := fun q j h => by rw [← ha4, xUn h]
        have A4 : xAr a4 := by
          rw [← ha4]
          exact xAr_u A3 ⟨by omega, by omega⟩
        have x4 : uFl lv a2 a4 := by
          rw [← ha4]
          refine uFl_u ⟨fun q j n1 _ _ _ _ _ _ => l3.1 q j n1, fun j h => l3.2 j h, fun j h => ⟨l3.1 _ _ (by decide), l3.1 _ _ (by decide), l3.1 _ _ (by decide)⟩⟩ (Or.inl ⟨by decide, Int.le_refl _⟩)
        have y4 : uFl lv a a4 := uFl_t y2 x4
        have R4 : uRs dr wp pr n (3 * f + k) ts a4 := uRs_f R2 x4 A4 (fun j j0 j1 => by rw [e4 109 j (by decide), l3.1 109 j (by decide)]; exact R2.2.2.2.2.2.2 j j0 j1)
        have M4 : uMd f (10 * (lv + 1)) a4 (uApp f S kk) := by
          rw [show 10 * (lv + 1) = 10 * lv + 10 by omega]
          exact ⟨(e4 108 _ (by decide)).trans M3.1, fun x x0 x1 => (e4 108 _ (by decide)).trans (M3.2.1 x x0 x1), fun q q0 q1 => (e4 108 _ (by decide)).trans (M3.2.2 q q0 q1)⟩
        have hS4 := uOk_app hf hS hk41 hc
        have hN4 := uOn_app hf hS hN hk41 hc
        refine u187 A4 M4 ⟨by omega, by omega⟩ hf hk2 hS4 R4.2.2.2.2.1 hl40 R4.2.2.2.2.2.1 htv hdl (hne _) R4.2.2.2.2.2.2 (by decide) (fun a5 z2 f5 A5 h9 hz2 hzh => ?_)
        have e5 : ∀ q j, q ≠ 108 → q ≠ 109 → q ≠ 110 → q ≠ 112 → a5 q j = a1 q j := fun q j n1 n2 n3 n4 => (f5 q j n2).trans ((e4 q j n3).trans ((l3.1 q j n1).trans (e2 q j n4)))
        have x5 : uFl lv a4 a5 := ⟨fun q j _ n2 _ _ _ _ _ => f5 q j n2, fun j _ => f5 108 j (by decide), fun j _ => ⟨f5 _ _ (by decide), f5 _ _ (by decide), f5 _ _ (by decide)⟩⟩
        have y5 : uFl lv a a5 := uFl_t y4 x5
        have R5 : uRs dr wp pr n (3 * f + k) ts a5 := uRs_f R4 x5 A5 h9
        have c5 : a5 112 lv = (kk : Int) + 1 := (f5 112 lv (by decide)).trans ((e4 112 lv (by decide)).trans ((l3.1 112 lv (by decide)).trans c2))
        have d5 : a5 113 lv = a 113 lv := (f5 113 lv (by decide)).trans ((e4 113 lv (by decide)).trans ((l3.1 113 lv (by decide)).trans d2))
        have hch5 : ∀ (j : Nat) c, (rl ++ [(kk : Int)])[j]? = some c → a5 110 (j : Int) = c := fun j c hc => by
          rw [f5 110 _ (by decide), ← ha4]
          rcases uSnoc hc with ⟨q1, q2⟩ | ⟨q1, q2⟩
          · rw [xUk (by omega), l3.1 110 _ (by decide), e2 110 _ (by decide), (g1.2.2 (j : Int) (by omega)).1]
            exact hch j c q1
          · rw [show (j : Int) = lv by omega, xUa, q2]
        have hbr5 : uBr a5 B1 := hbr a5 (fun q j h => e5 q j (by omega) (by omega) (by omega) (by omega))
        have hone : ∀ x, uHold f ts (uApp f S kk) = x → uOne dr wp pr f ts m S kk = bif x then some (uCs pr kk, [(kk : Int)]) else uSh (uCs pr kk) kk (uOpt dr wp pr f ts m (uApp f S kk)) := fun x hx => by
          unfold uOne
          rw [uIf_t hc, hx]
        refine w190d hlv ⟨by omega, by omega⟩ hz2 (fun s1 s2 => ?_) (fun s1 s2 => ?_) (fun s1 => ?_)
        · -- four deeds, and it doesn't hold
          have hh : uHold f ts (uApp f S kk) = false := by
            cases e : uHold f ts (uApp f S kk) with
            | false => rfl
            | true =>
              have := hzh.mpr e
              omega
          have em : m = 0 := by omega
          subst em
          refine nx a5 _ _ _ _ y5 R5 c5 d5 ?_
          rw [hone false hh]
          exact hbr5
        · -- deeper
          have hh : uHold f ts (uApp f S kk) = false := by
            cases e : uHold f ts (uApp f S kk) with
            | false => rfl
            | true =>
              have := hzh.mpr e
              omega
          obtain ⟨m', em⟩ : ∃ m', m = m' + 1 := ⟨m - 1, by omega⟩
          have x6 : uFl lv a5 (xU (xU a5 112 (lv + 1) 0) 113 (lv + 1) (a 113 lv + pr (uK (kk : Int)))) := uFl_u (uFl_u uFl_r (Or.inl ⟨by decide, by omega⟩)) (Or.inl ⟨by decide, by omega⟩)
          refine IH m' em (lv + 1) (sp + uCs pr (kk : Int)) (uApp f S kk) (rl ++ [(kk : Int)]) _ B1 Q _ _ _ _ (by omega) (by rw [List.length_append]; show lv + 1 = ((rl.length + 1 : Nat) : Int); omega) (fun c hc => ?_) ?_ ?_ hS4 hN4 ?_ ?_ ?_ (fun j c hc => ?_) ?_ (fun a7 v4 v5 v6 v7 x7 R7 B7 => ?_)
          · rcases List.mem_append.mp hc with h | h
            · exact hrl c h
            · rw [List.mem_singleton] at h
              omega
          · exact uRs_f R5 x6 (xAr_u (xAr_u A5 xR0) ⟨by omega, by omega⟩) (fun j j0 j1 => by rw [xUn (by decide), xUn (by decide)]; exact h9 j j0 j1)
          · exact ⟨by rw [xUn (by decide), xUn (by decide), f5 108 _ (by decide)]; exact M4.1, fun x x0 x1 => by rw [xUn (by decide), xUn (by decide), f5 108 _ (by decide)]; exact M4.2.1 x x0 x1, fun q q0 q1 => by rw [xUn (by decide), xUn (by decide), f5 108 _ (by decide)]; exact M4.2.2 q q0 q1⟩
          · rw [xUn (by decide), xUa]
          · rw [xUa]
            omega
          · rw [xUa]
            omega
          · rw [xUn (by decide), xUn (by decide)]
            exact hch5 j c hc
          · exact ⟨fun e => by rw [xUn (by decide), xUn (by decide)]; exact hbr5.1 e, fun p e => by
              obtain ⟨q1, q2, q3, q4, q5⟩ := hbr5.2 p e
              exact ⟨q1, by rw [xUn (by decide), xUn (by decide)]; exact q2, by rw [xUn (by decide), xUn (by decide)]; exact q3, by rw [xUn (by decide), xUn (by decide)]; exact q4, fun j c hc => by rw [xUn (by decide), xUn (by decide)]; exact q5 j c hc⟩⟩
          · rw [show lv + 1 - 1 = lv by omega]
            have l7 := x7.2.2 lv (by omega)
            refine nx a7 _ _ _ _ (uFl_t y5 (uFl_t x6 (uFl_up x7))) R7 ?_ ?_ ?_
            · rw [l7.2.1, xUn (by decide), xUk (by omega)]
              exact c5
            · rw [l7.2.2, xUk (by omega), xUn (by decide)]
              exact d5
            · rw [hone false hh]
              show uBr a7 (uBet B1 (uSf sp rl (uSh _ _ _)))
              rw [uSf_sh, em]
              exact B7
        · -- it holds
          have hh : uHold f ts (uApp f S kk) = true := hzh.mp (by omega)
          have hbest : uBet B1 (uSf sp rl (uOne dr wp pr f ts m S kk)) = some (sp + uCs pr kk, rl ++ [(kk : Int)]) := by
            rw [hone true hh]
            show uBet B1 (some (sp + uCs pr kk, rl ++ [(kk : Int)])) = _
            cases hb : B1 with
            | none => rfl
            | some q =>
              have := hcut q hb
              show (if sp + uCs pr kk < q.1 then _ else _) = _
              rw [if_pos this]
          have hlen : (rl ++ [(kk : Int)]).length = rl.length + 1 := by
            rw [List.length_append]
            rfl
          have cp : ∀ (t : Nat) (i : Int) (a6 : xA), lv + 1 - i ≤ (t : Int) → 0 ≤ i ∧ i ≤ lv + 1 → uFl lv a5 a6 → uRs dr wp pr n (3 * f + k) ts a6 → (∀ j, a6 110 j = a5 110 j) → a6 112 lv = (kk : Int) + 1 → a6 113 lv = a 113 lv → a6 87 33 = a 113 lv + pr (uK (kk : Int)) → a6 87 34 = lv + 1 → (∀ j, 0 ≤ j → j < i → a6 111 j = a5 110 j) → pmWp ro 3 12 190 2 174 [some (.ref 87), some (xV f), some (xV k), some (xV lv), some (xV (kk : Int)), some (xV (a 113 lv + pr (uK (kk : Int)))), some (xV (lv + 1)), some (xV i)] [] (xS a6 b) Q := by
            intro t
            have fin : ∀ (i : Int) (a6 : xA), i = lv + 1 → uFl lv a5 a6 → uRs dr wp pr n (3 * f + k) ts a6 → a6 112 lv = (kk : Int) + 1 → a6 113 lv = a 113 lv → a6 87 33 = a 113 lv + pr (uK (kk : Int)) → a6 87 34 = lv + 1 → (∀ j, 0 ≤ j → j < i → a6 111 j = a5 110 j) → ∀ v4 v5 v6 v7, pmWp ro 3 12 190 2 21 [some (.ref 87), some (xV f), some (xV k), some (xV lv), v4, v5, v6, v7] [] (xS a6 b) Q := by
              intro i a6 hi q1 q2 q3 q4 q5 q6 q7 v4 v5 v6 v7
              refine nx a6 _ _ _ _ (uFl_t y5 q1) q2 q3 q4 ?_
              rw [hbest]
              refine ⟨fun e => (by cases e), fun p e => ?_⟩
              cases e
              dsimp only
              rw [hlen]
              refine ⟨⟨by omega, by omega⟩, by rw [q6]; omega, by rw [q5]; omega, by rw [q5]; omega, fun j c hc => ?_⟩
              have hj : j < (rl ++ [(kk : Int)]).length := (List.getElem?_eq_some_iff.mp hc).1
              rw [hlen] at hj
              rw [q7 j (by omega) (by omega)]
              exact hch5 j c hc
            induction t with
            | zero =>
              intro i a6 ht hi q1 q2 q0 q3 q4 q5 q6 q7
              exact w190e hlv ⟨by omega, by omega⟩ hi (fun _ => fin i a6 (by omega) q1 q2 q3 q4 q5 q6 q7 _ _ _ _) (fun e => by omega)
            | succ t iht =>
              intro i a6 ht hi q1 q2 q0 q3 q4 q5 q6 q7
              refine w190e hlv ⟨by omega, by omega⟩ hi (fun _ => fin i a6 (by omega) q1 q2 q3 q4 q5 q6 q7 _ _ _ _) (fun e => ?_)
              have x7 : uFl lv a6 (xU a6 111 i (a6 110 i)) := uFl_u uFl_r (by omega)
              refine iht (i + 1) _ (by omega) (by omega) (uFl_t q1 x7) (uRs_f q2 x7 (xAr_u q2.1 (q2.1 _ _)) (fun j j0 j1 => by rw [xUn (by decide)]; exact q2.2.2.2.2.2.2 j j0 j1)) (fun j => by rw [xUn (by decide)]; exact q0 j) (by rw [xUn (by decide)]; exact q3) (by rw [xUn (by decide)]; exact q4) (by rw [xUn (by decide)]; exact q5) (by rw [xUn (by decide)]; exact q6) (fun j j0 j1 => ?_)
              by_cases c : j = i
              · rw [c, xUa, q0]
              · rw [xUk c]
                exact q7 j j0 (by omega)
          have x6 : uFl lv a5 (xU (xU a5 87 33 (a 113 lv + pr (uK (kk : Int)))) 87 34 (lv + 1)) := uFl_u (uFl_u uFl_r (by omega)) (by omega)
          refine cp 4 0 _ (by omega) ⟨by decide, by omega⟩ x6 (uRs_f R5 x6 (xAr_u (xAr_u A5 ⟨by omega, by omega⟩) ⟨by omega, by omega⟩) (fun j j0 j1 => by rw [xUn (by decide), xUn (by decide)]; exact h9 j j0 j1)) (fun j => by rw [xUn (by decide), xUn (by decide)]) (by rw [xUn (by decide), xUn (by decide)]; exact c5) (by rw [xUn (by decide), xUn (by decide)]; exact d5) (by rw [xUk (by decide), xUa]) xUa (fun j j0 j1 => by omega)
      have hbr2 : uBr a2 B1 := hbr a2 (fun q j h => e2 q j (by omega))
      -- cut
      have cut : ∀ (v4 v5 v6 v7 : Option Value), uBet B1 (uSf sp rl (uOne dr wp pr f ts m S kk)) = B1 → pmWp ro 3 12 190 2 21 [some (.ref 87), some (xV f), some (xV k), some (xV lv), v4, v5, v6, v7] [] (xS a2 b) Q := fun v4 v5 v6 v7 h => nx a2 _ _ _ _ y2 R2 c2 d2 (by rw [h]; exact hbr2)
      have hm34 : 0 ≤ a2 87 34 ∧ a2 87 34 ≤ 4 := by
        cases hb : B1 with
        | none =>
          have := hbr2.1 hb
          omega
        | some q =>
          have := (hbr2.2 q hb)
          omega
      refine w190b (by decide) hz hlv ⟨by omega, by omega⟩ hK5 d2 ⟨by omega, by omega⟩ (R2.2.2.2.1 _ hK5.1 hK5.2) hpr rfl hm34 rfl (A2 87 33) (fun s1 s2 => ?_) (fun s1 s2 s3 => ?_) (fun s1 s2 s3 s4 => ?_) (fun s1 s2 s3 s4 s5 => ?_) (fun s1 s2 s3 s4 s5 => ?_) (fun s1 => ?_)
      · refine go (by omega) _ (fun q hq => ?_)
        have := hbr2.2 q hq
        omega
      · cases hb : B1 with
        | none =>
          have := hbr2.1 hb
          omega
        | some q =>
          have := hbr2.2 q hb
          refine cut _ _ _ _ ?_
          rw [hb]
          exact uBet_c hpp hk41 (by omega)
      · refine go (by omega) _ (fun q hq => ?_)
        have := hbr2.2 q hq
        omega
      · refine go (by omega) _ (fun q hq => ?_)
        have := hbr2.2 q hq
        omega
      · cases hb : B1 with
        | none =>
          have := hbr2.1 hb
          omega
        | some q =>
          have := hbr2.2 q hb
          refine cut _ _ _ _ ?_
          rw [hb]
          exact uBet_c hpp hk41 (by omega)
      · refine cut _ _ _ _ ?_
        have hc : ¬ uCan dr wp f S kk := fun h => by
          have := hzc.mpr h
          omega
        unfold uOne
        rw [uIf_f hc]
        rfl
  refine loop 41 0 a v4 v5 v6 v7 (by decide) (by decide) uFl_r hR h12 rfl ?_
  exact hB
theorem u190s (hE : uRe pr f ts) (hk2 : 0 ≤ k ∧ k ≤ 2) : ∀ m : Nat, uPlS ro dr wp pr n f k ts b m := by
  intro m
  induction m with
  | zero => exact u190t hE hk2 0 (fun m' h => by omega)
  | succ m ih => exact u190t hE hk2 (m + 1) (fun m' h => by
      have : m' = m := by omega
      rw [this]
      exact ih)
/-- plans -/
theorem u190 (hE : uRe pr f ts) (hk2 : 0 ≤ k ∧ k ≤ 2) (hR : uRs dr wp pr n (3 * f + k) ts a) (hM : uMd f 0 a S) (hS : uOk f S) (hN : uOn n S) (hd : 4 ≤ d) (hQ : ∀ a' z, uFl 0 a a' → uRs dr wp pr n (3 * f + k) ts a' → uBr a' (uOpt dr wp pr f ts 4 S) → (z = 0 ∨ z = 1) → (z = 0 ↔ uOpt dr wp pr f ts 4 S = none) → Q (some (xV z)) (xS a' b)) : pmCs ro d 190 [.ref 87, xV f, xV k] (xS a b) Q := by
  refine pmCs_deep (d := 4) (xg190 (w190 ?_)) hd
  have x1 : uFl 0 a (xU (xU (xU a 87 34 0) 112 0 0) 113 0 0) := uFl_u (uFl_u (uFl_u uFl_r (by omega)) (by omega)) (by omega)
  refine u190s (ro := ro) hE hk2 3 0 0 S [] _ none Q _ _ _ _ (by decide) rfl (fun c h => absurd h List.not_mem_nil) (uRs_f hR x1 (xAr_u (xAr_u (xAr_u hR.1 xR0) xR0) xR0) (fun j j0 j1 => by rw [xUn (by decide), xUn (by decide), xUn (by decide)]; exact hR.2.2.2.2.2.2 j j0 j1)) ?_ hS hN ?_ ?_ ?_ (fun j c h => by cases h) ?_ (fun a2 v4 v5 v6 v7 x2 R2 B2 => ?_)
  · exact ⟨by rw [xUn (by decide), xUn (by decide), xUn (by decide)]; exact hM.1, fun x x0 x1 => by rw [xUn (by decide), xUn (by decide), xUn (by decide)]; exact hM.2.1 x x0 x1, fun q q0 q1 => by rw [xUn (by decide), xUn (by decide), xUn (by decide)]; exact hM.2.2 q q0 q1⟩
  · rw [xUn (by decide), xUa]
  · rw [xUa]
    decide
  · rw [xUa]
    decide
  · exact ⟨fun _ => by rw [xUn (by decide), xUn (by decide), xUa], fun p e => by cases e⟩
  · rw [uSf_0] at B2
    have hb0 : uBet none (uOpt dr wp pr f ts (3 + 1) S) = uOpt dr wp pr f ts 4 S := by
      show uBet none (uOpt dr wp pr f ts 4 S) = _
      cases uOpt dr wp pr f ts 4 S <;> rfl
    rw [hb0] at B2
    cases ho : uOpt dr wp pr f ts 4 S with
    | none =>
      have h0 := B2.1 ho
      refine w190x rfl (by omega) (fun _ => ?_) (fun e => by omega)
      exact hQ a2 0 (uFl_t x1 x2) R2 B2 (Or.inl rfl) ⟨fun _ => ho, fun _ => rfl⟩
    | some p =>
      have h0 := B2.2 p ho
      refine w190x rfl (by omega) (fun e => by omega) (fun _ => ?_)
      exact hQ a2 1 (uFl_t x1 x2) R2 B2 (Or.inr rfl) ⟨fun e => by omega, fun e => by rw [ho] at e; cases e⟩
end
end
