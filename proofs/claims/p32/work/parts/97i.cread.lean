/-! the class reads a wish: what is so behind it -/
section
/-- the class's reader: the text, the tokens L so far -/
def wC (a0 a : xA) (t : Int → Int) (n p : Int) (L : List Int) : Prop := tC a t n p ∧ xAr a ∧ a 1 4 = 0 ∧ a 31 2 = (L.length : Int) ∧ (∀ (j : Nat) x, L[j]? = some x → a 32 (j : Int) = cT x) ∧ kWs a0 a
variable {a0 a : xA} {t : Int → Int} {n p v s c : Int} {L : List Int}
theorem gSnoc {L : List Int} {c x : Int} {j : Nat} (h : (L ++ [c])[j]? = some x) : L[j]? = some x ∧ j < L.length ∨ j = L.length ∧ x = c := by
  by_cases hj : j < L.length
  · rw [List.getElem?_append_left hj] at h
    exact Or.inl ⟨h, hj⟩
  · rw [List.getElem?_append_right (by omega)] at h
    obtain ⟨i, hi⟩ : ∃ i, j - L.length = i := ⟨_, rfl⟩
    rw [hi] at h
    cases i with
    | zero =>
      have e : c = x := Option.some.inj h
      exact Or.inr ⟨by omega, e.symm⟩
    | succ i => cases h
theorem kWs.u {q : Nat} {k : Int} (h : kWs a0 a) (hq : q = 1 ∨ q = 31 ∨ q = 32) : kWs a0 (xU a q k v) := fun r j g1 g2 g3 => by
  rw [xUn (by rcases hq with e | e | e <;> (rw [e]; assumption))]
  exact h r j g1 g2 g3
theorem wC.at (h : wC a0 a t n p L) (hv : xR v) : wC a0 (xU a 1 3 v) t n v L := by
  obtain ⟨h1, h2, h3, h4, h5, h6⟩ := h
  refine ⟨tC.at h1, xAr_u h2 hv, ?_, ?_, fun j x g => ?_, h6.u (Or.inl rfl)⟩
  · rw [xUk (by decide)]; exact h3
  · rw [xUn (by decide)]; exact h4
  · rw [xUn (by decide)]; exact h5 j x g
theorem wC.put (h : wC a0 a t n p L) (hs : (L.length : Int) = s) (hv : v = cT c) (r1 : xR v) (r2 : xR (s + 1)) : wC a0 (xU (xU a 32 s v) 31 2 (s + 1)) t n p (L ++ [c]) := by
  obtain ⟨h1, h2, h3, h4, h5, h6⟩ := h
  refine ⟨tC.ot (by decide) (by decide) (tC.ot (by decide) (by decide) h1), xAr_u (xAr_u h2 r1) r2, ?_, ?_, fun j x g => ?_, (h6.u (Or.inr (Or.inr rfl))).u (Or.inr (Or.inl rfl))⟩
  · rw [xUn (by decide), xUn (by decide)]; exact h3
  · rw [xUa, List.length_append, ← hs]; rfl
  · rw [xUn (by decide)]
    rcases gSnoc g with ⟨e, hj⟩ | ⟨e, hx⟩
    · rw [xUk (by omega)]; exact h5 j x e
    · rw [show (j : Int) = s by omega, xUa, hv, hx]
/-- what a reader of the class keeps: kind, method, depth -/
def wCon (ro : Nat → Nat × (Nat → Int32)) (mm kd D : Nat) (t : Int → Int) (n o : Int) : Prop :=
  ∀ ⦃d : Nat⦄ ⦃Q : Option Value → pmS → Prop⦄ ⦃a0 a : xA⦄ ⦃b : xB⦄ ⦃p : Int⦄ ⦃L : List Int⦄, D ≤ d → wC a0 a t n p L → 0 ≤ p ∧ p ≤ n → (L.length : Int) ≤ p →
    (∀ (a1 : xA) (p1 : Int) (ts : List Int), wC a0 a1 t n p1 (L ++ ts) → wY t n kd o p p1 ts → p + (ts.length : Int) ≤ p1 ∧ p < p1 ∧ p1 ≤ n → (kd = 1 → ¬ sG t n p1 = 38) → (kd = 2 → ¬ sG t n p1 = 124) → Q (some (xV 1)) (xS a1 b)) →
    (∀ (a1 : xA) (f : Int), kWs a0 a1 → xAr a1 → a1 1 4 = f → f < 0 ∧ -10000 < f → 0 ≤ a1 31 2 ∧ a1 31 2 ≤ 40 → wN t n kd o p f → Q (some (xV 0)) (xS a1 b)) →
    pmCs ro d mm [.ref 31, xV o] (xS a b) Q
variable {ro : Nat → Nat × (Nat → Int32)} {o : Int} {D : Nat}
theorem gLen (L M : List Int) : ((L ++ M).length : Int) = (L.length : Int) + (M.length : Int) := by
  rw [List.length_append]
  rfl
theorem yk35 (hn : n ≤ 40) (hb : tB t) (hD : 2 ≤ D) (ih : wCon ro 36 0 D t n o) : wCon ro 35 1 (D + 1) t n o := by
  intro d Q a0 a b p L hd h hp hL hT hF
  refine pmCs_deep (d := D + 1) (xg35 (w35 ?_)) hd
  -- the loop
  have loop : ∀ (k : Nat) (i p1 : Int) (a1 : xA) (ts : List Int), 40 - i ≤ (k : Int) → 0 ≤ i ∧ i ≤ p1 → wC a0 a1 t n p1 (L ++ ts) → wY t n 1 o p p1 ts → p + (ts.length : Int) ≤ p1 ∧ p < p1 ∧ p1 ≤ n → pmWp ro D 8 35 2 12 [some (.ref 31), some (xV o), some (xV i)] [] (xS a1 b) Q := by
    intro k
    induction k with
    | zero =>
      intro i p1 a1 ts hk hi g1 g2 g3
      have e1 := gLen L ts
      have hend : ¬ sG t n p1 = 38 := by
        unfold sG
        rw [if_neg (by omega)]
        decide
      refine w35l g1.1 (by omega) hn hb g1.2.1 g1.2.2.1 g1.2.2.2.1 ⟨by omega, by omega⟩ ⟨by omega, by omega⟩ hD ?_ ?_ ?_
      · intro e
        exact hT a1 p1 ts g1 g2 g3 (fun _ => hend) (fun e => absurd e (by decide))
      · intro e
        omega
      · intro e
        omega
    | succ k ihk =>
      intro i p1 a1 ts hk hi g1 g2 g3
      have e1 := gLen L ts
      refine w35l g1.1 (by omega) hn hb g1.2.1 g1.2.2.1 g1.2.2.2.1 ⟨by omega, by omega⟩ ⟨by omega, by omega⟩ hD ?_ ?_ ?_
      · intro e
        refine hT a1 p1 ts g1 g2 g3 (fun _ => ?_) (fun e => absurd e (by decide))
        unfold sG
        rw [if_neg (by omega)]
        decide
      · intro e e2 e3
        refine ih (Nat.le_refl D) (g1.at ⟨by omega, by omega⟩) (by omega) (by omega) (fun a2 p2 us k1 k2 k3 _ _ => ?_) (fun a2 f k1 k2 k3 k4 k5 k6 => w35g (hF a2 f k1 k2 k3 k4 k5 (.a1 g2 e2 k6)))
        have e4 := gLen (L ++ ts) us
        refine w35m k1.1 (by omega) hn hb k1.2.1 k1.2.2.1 k1.2.2.2.1 ⟨by omega, by omega⟩ ⟨by omega, by omega⟩ hD (fun _ => ?_) (fun e => by omega)
        have e5 := gLen (ts ++ us) [1280]
        have e6 := gLen ts us
        have e7 : (([1280] : List Int).length : Int) = 1 := rfl
        refine ihk (i + 1) p2 _ (ts ++ us ++ [1280]) (by omega) ⟨by omega, by omega⟩ ?_ (.a1 g2 e2 k2) ⟨by omega, by omega, by omega⟩
        have k1' := k1.put (s := ((L ++ ts ++ us).length : Int)) (v := xOr (xOr (6 * 64) (0 % 8 * 8)) (0 % 8)) (c := 1280) rfl (by decide) (xRk (by decide)) ⟨by omega, by omega⟩
        rw [show L ++ (ts ++ us ++ [1280]) = L ++ ts ++ us ++ [1280] by simp only [List.append_assoc]]
        exact k1'
      · intro e e2
        exact hT a1 p1 ts g1 g2 g3 (fun _ => e2) (fun e => absurd e (by decide))
  refine ih (Nat.le_refl D) h hp hL (fun a1 p1 ts g1 g2 g3 _ _ => w35a ?_) (fun a1 f g1 g2 g3 g4 g5 g6 => w35f (hF a1 f g1 g2 g3 g4 g5 (.a0 g6)))
  exact loop 40 0 p1 a1 ts (by decide) ⟨by decide, by omega⟩ g1 (.a0 g2) g3
theorem yk34 (hn : n ≤ 40) (hb : tB t) (hD : 2 ≤ D) (ih : wCon ro 35 1 D t n o) : wCon ro 34 2 (D + 1) t n o := by
  intro d Q a0 a b p L hd h hp hL hT hF
  refine pmCs_deep (d := D + 1) (xg34 (w34 ?_)) hd
  -- the loop
  have loop : ∀ (k : Nat) (i p1 : Int) (a1 : xA) (ts : List Int), 40 - i ≤ (k : Int) → 0 ≤ i ∧ i ≤ p1 → wC a0 a1 t n p1 (L ++ ts) → wY t n 2 o p p1 ts → p + (ts.length : Int) ≤ p1 ∧ p < p1 ∧ p1 ≤ n → pmWp ro D 8 34 2 12 [some (.ref 31), some (xV o), some (xV i)] [] (xS a1 b) Q := by
    intro k
    induction k with
    | zero =>
      intro i p1 a1 ts hk hi g1 g2 g3
      have e1 := gLen L ts
      have hend : ¬ sG t n p1 = 124 := by
        unfold sG
        rw [if_neg (by omega)]
        decide
      refine w34l g1.1 (by omega) hn hb g1.2.1 g1.2.2.1 g1.2.2.2.1 ⟨by omega, by omega⟩ ⟨by omega, by omega⟩ hD ?_ ?_ ?_
      · intro e
        exact hT a1 p1 ts g1 g2 g3 (fun e => absurd e (by decide)) (fun _ => hend)
      · intro e
        omega
      · intro e
        omega
    | succ k ihk =>
      intro i p1 a1 ts hk hi g1 g2 g3
      have e1 := gLen L ts
      refine w34l g1.1 (by omega) hn hb g1.2.1 g1.2.2.1 g1.2.2.2.1 ⟨by omega, by omega⟩ ⟨by omega, by omega⟩ hD ?_ ?_ ?_
      · intro e
        refine hT a1 p1 ts g1 g2 g3 (fun e => absurd e (by decide)) (fun _ => ?_)
        unfold sG
        rw [if_neg (by omega)]
        decide
      · intro e e2 e3
        refine ih (Nat.le_refl D) (g1.at ⟨by omega, by omega⟩) (by omega) (by omega) (fun a2 p2 us k1 k2 k3 k4 _ => ?_) (fun a2 f k1 k2 k3 k4 k5 k6 => w34g (hF a2 f k1 k2 k3 k4 k5 (.o1 g2 e2 k6)))
        have e4 := gLen (L ++ ts) us
        refine w34m k1.1 (by omega) hn hb k1.2.1 k1.2.2.1 k1.2.2.2.1 ⟨by omega, by omega⟩ ⟨by omega, by omega⟩ hD (fun _ => ?_) (fun e => by omega)
        have e5 := gLen (ts ++ us) [1536]
        have e6 := gLen ts us
        have e7 : (([1536] : List Int).length : Int) = 1 := rfl
        refine ihk (i + 1) p2 _ (ts ++ us ++ [1536]) (by omega) ⟨by omega, by omega⟩ ?_ (.o1 g2 e2 k2 (k4 rfl)) ⟨by omega, by omega, by omega⟩
        have k1' := k1.put (s := ((L ++ ts ++ us).length : Int)) (v := xOr (xOr (7 * 64) (0 % 8 * 8)) (0 % 8)) (c := 1536) rfl (by decide) (xRk (by decide)) ⟨by omega, by omega⟩
        rw [show L ++ (ts ++ us ++ [1536]) = L ++ ts ++ us ++ [1536] by simp only [List.append_assoc]]
        exact k1'
      · intro e e2
        exact hT a1 p1 ts g1 g2 g3 (fun e => absurd e (by decide)) (fun _ => e2)
  refine ih (Nat.le_refl D) h hp hL (fun a1 p1 ts g1 g2 g3 g4 _ => w34a ?_) (fun a1 f g1 g2 g3 g4 g5 g6 => w34f (hF a1 f g1 g2 g3 g4 g5 (.o0 g6)))
  exact loop 40 0 p1 a1 ts (by decide) ⟨by decide, by omega⟩ g1 (.o0 g2 (g4 rfl)) g3
theorem yk36s (hn : n ≤ 40) (hb : tB t) (ho : 0 ≤ o ∧ o ≤ 6) (hD1 : 1 ≤ D) (ih : o < 6 → 2 ≤ D ∧ wCon ro 36 0 D t n (o + 1)) : wCon ro 36 0 (D + 4) t n o := by
  intro d Q a0 a b p L hd h hp hL hT hF
  refine pmCs_deep (d := D + 4) (xg36 (w36 h.1 hp hn hb h.2.1 h.2.2.1 h.2.2.2.1 ⟨by omega, hL⟩ ⟨by omega, by omega⟩ ho (by omega) ?_ ?_ ?_ ?_ ?_)) hd
  · intro _ e1 e2
    have hpn : p < n := sGn (t := t) (by omega)
    obtain ⟨hD, ih⟩ := ih e2
    refine pmCs_deep (d := D + 1) (xg42 (w42 ?_)) (by omega)
    refine ih (Nat.le_refl D) (h.at ⟨by omega, by omega⟩) (by omega) (by omega) (fun a1 p1 ts g1 g2 g3 _ _ => ?_) (fun a1 f g1 g2 g3 g4 g5 g6 => ?_)
    · have e4 := gLen L ts
      have e5 := gLen ts [1792]
      have e7 : (([1792] : List Int).length : Int) = 1 := rfl
      refine w42b (z := 1) (xRk (by decide)) (Or.inr rfl) g1.2.2.2.1 ⟨by omega, by omega⟩ (by omega) (fun _ => ?_) (fun e => by omega)
      refine w36r67 (z := 1) (xRk (by decide)) (Or.inr rfl) ?_
      refine hT _ p1 (ts ++ [1792]) ?_ (.no e1 e2 g2) ⟨by omega, by omega, by omega⟩ (fun e => absurd e (by decide)) (fun e => absurd e (by decide))
      rw [← List.append_assoc]
      exact g1.put rfl (by decide) (xRk (by decide)) ⟨by omega, by omega⟩
    · refine w42b (z := 0) (xRk (by decide)) (Or.inl rfl) rfl g5 (by omega) (fun e => ?_) (fun e => ?_)
      · refine w36r67 (z := 0) (xRk (by decide)) (Or.inl rfl) ?_
        refine hF _ f ((g1.u (Or.inr (Or.inr rfl))).u (Or.inr (Or.inl rfl))) (xAr_u (xAr_u g2 (xRk (by decide))) ⟨by omega, by omega⟩) ?_ g4 ?_ (.no e1 e2 g6)
        · rw [xUn (by decide), xUn (by decide)]
          exact g3
        · rw [xUa]
          omega
      · refine w36r67 (z := 0) (xRk (by decide)) (Or.inl rfl) ?_
        exact hF _ f g1 g2 g3 g4 g5 (.no e1 e2 g6)
  · intro _ e1 e2
    refine hF _ (-1000 * 5 - p) (h.2.2.2.2.2.u (Or.inl rfl)) (xAr_u h.2.1 ⟨by omega, by omega⟩) xUa ⟨by omega, by omega⟩ ?_ ?_
    · rw [xUn (by decide), h.2.2.2.1]
      omega
    · rw [show (-1000 * 5 - p : Int) = -5000 - p by omega]
      exact .mo (Or.inl e1) e2
  · intro _ e0 e1 e2
    have hpn : p < n := sGn (t := t) (by omega)
    obtain ⟨hD, ih⟩ := ih e2
    refine pmCs_deep (d := D + 3) (xg43 (w43 ?_)) (by omega)
    refine yk34 hn hb (D := D + 1) (by omega) (yk35 hn hb hD ih) (Nat.le_refl _) (h.at ⟨by omega, by omega⟩) (by omega) (by omega) (fun a1 p1 ts g1 g2 g3 _ g4 => ?_) (fun a1 f g1 g2 g3 g4 g5 g6 => ?_)
    · have e4 := gLen L ts
      refine w43b g1.1 (by omega) hn hb g1.2.1 g1.2.2.1 g1.2.2.2.1 ⟨by omega, by omega⟩ (by omega) (fun e5 e6 => ?_) (fun e5 => ?_)
      · refine w36r77 (z := 1) (xRk (by decide)) (Or.inr rfl) ?_
        exact hT _ (p1 + 1) ts (g1.at ⟨by omega, by omega⟩) (.br e1 e2 g2 (g4 rfl) e5) ⟨by omega, by omega, by omega⟩ (fun e => absurd e (by decide)) (fun e => absurd e (by decide))
      · refine w36r77 (z := 0) (xRk (by decide)) (Or.inl rfl) ?_
        refine hF _ (-1000 * 1 - p1) (g1.2.2.2.2.2.u (Or.inl rfl)) (xAr_u g1.2.1 ⟨by omega, by omega⟩) xUa ⟨by omega, by omega⟩ ?_ ?_
        · rw [xUn (by decide), g1.2.2.2.1]
          omega
        · rw [show (-1000 * 1 - p1 : Int) = -1000 - p1 by omega]
          exact .b1 e1 e2 g2 (g4 rfl) e5
    · refine w43f ?_
      refine w36r77 (z := 0) (xRk (by decide)) (Or.inl rfl) ?_
      exact hF _ f g1 g2 g3 g4 g5 (.br e1 e2 g6)
  · intro _ e0 e1 e2
    refine hF _ (-1000 * 5 - p) (h.2.2.2.2.2.u (Or.inl rfl)) (xAr_u h.2.1 ⟨by omega, by omega⟩) xUa ⟨by omega, by omega⟩ ?_ ?_
    · rw [xUn (by decide), h.2.2.2.1]
      omega
    · rw [show (-1000 * 5 - p : Int) = -5000 - p by omega]
      exact .mo (Or.inr e1) e2
  · intro e0 e1 e2
    refine xk38 h.1 hp hn hb h.2.1 h.2.2.1 h.2.2.2.1 ⟨by omega, hL⟩ e0 (by omega) (fun a1 p1 c g1 g2 g3 g4 g5 g6 g7 g8 g9 => ?_) (fun a1 f g1 g2 g3 g4 g5 g6 => ?_)
    · refine w36r25 (z := 1) (xRk (by decide)) (Or.inr rfl) ?_
      have e7 : (([c] : List Int).length : Int) = 1 := rfl
      refine hT a1 p1 [c] ⟨g1, g2, g3, ?_, fun j x g => ?_, ?_⟩ (.ac e1 e2 g7) ⟨by omega, by omega, by omega⟩ (fun e => absurd e (by decide)) (fun e => absurd e (by decide))
      · rw [g4, gLen]
        rfl
      · rcases gSnoc g with ⟨k1, k2⟩ | ⟨k1, k2⟩
        · rw [g5 j (by omega)]
          exact h.2.2.2.2.1 j x k1
        · rw [k1, k2]
          exact g6
      · intro q k k1 k2 k3
        rw [g9 q k k1 k2 k3]
        exact h.2.2.2.2.2 q k k1 k2 k3
    · refine w36r25 (z := 0) (xRk (by decide)) (Or.inl rfl) ?_
      refine hF a1 f (fun q k k1 k2 k3 => ?_) g1 g2 g3 g5 (.ac e1 e2 g4 g3.1)
      rw [g6 q k k1 k2 k3]
      exact h.2.2.2.2.2 q k k1 k2 k3
theorem yk36 (hn : n ≤ 40) (hb : tB t) : ∀ (k : Nat) (o : Int), 0 ≤ o ∧ o ≤ 6 → 6 - o ≤ (k : Int) → wCon ro 36 0 (4 * k + 1 + 4) t n o := by
  intro k
  induction k with
  | zero =>
    intro o ho hk
    exact yk36s hn hb ho (by decide) (fun e => by omega)
  | succ k ih =>
    intro o ho hk
    refine yk36s hn hb ho (by omega) (fun e => ⟨by omega, ?_⟩)
    have h := ih (o + 1) (by omega) (by omega)
    rw [show 4 * (k + 1) + 1 = 4 * k + 1 + 4 by omega]
    exact h
/-- a wish's text read by the class -/
theorem yk32 {d : Nat} {Q : Option Value → pmS → Prop} {a : xA} {b : xB} {l : Int} (hn : 0 ≤ n ∧ n ≤ 40) (hb : tB t) (hl : a 1 1 = l) (hl0 : n ≤ l) (hl1 : l ≤ 400) (ht : ∀ j, 0 ≤ j → j < n → a 2 j = t j) (hA : xAr a) (hd : 32 ≤ d)
    (hT : ∀ (a1 : xA) (ts : List Int) (m : Nat), kWs a a1 → xAr a1 → a1 31 2 = (ts.length : Int) → (ts.length : Int) ≤ n → (∀ (j : Nat) x, ts[j]? = some x → a1 32 (j : Int) = cT x) → wRun t n m true 0 [] [] = some (.inr ts) → Q (some (xV 0)) (xS a1 b))
    (hF : ∀ (a1 : xA) (f : Int) (m : Nat), kWs a a1 → xAr a1 → f < 0 ∧ -10000 < f → wRun t n m true 0 [] [] = some (.inl f) → Q (some (xV f)) (xS a1 b)) : pmCs ro d 32 [.ref 31, xV n] (xS a b) Q := by
  refine pmCs_deep (d := 32) (xg32 (w32 hl ⟨hn.1, hl0⟩ hl1 (by decide) ?_)) hd
  have h0 : wC a (xU (xU (xU (xU a 1 2 n) 1 3 0) 1 4 0) 31 2 0) t n 0 [] := by
    refine ⟨⟨fun j g0 g1 => ?_, ?_, ?_⟩, xAr_u (xAr_u (xAr_u (xAr_u hA ⟨by omega, by omega⟩) xR0) xR0) xR0, ?_, ?_, fun j x g => ?_, (((kWs.u (fun _ _ _ _ _ => rfl) (Or.inl rfl)).u (Or.inl rfl)).u (Or.inl rfl)).u (Or.inr (Or.inl rfl))⟩
    · rw [xUn (by decide), xUn (by decide), xUn (by decide), xUn (by decide)]
      exact ht j g0 g1
    · rw [xUn (by decide), xUk (by decide), xUk (by decide), xUa]
    · rw [xUn (by decide), xUk (by decide), xUa]
    · rw [xUn (by decide), xUa]
    · rw [xUa]
      rfl
    · cases g
  refine yk34 hn.2 hb (D := 30) (by decide) (yk35 hn.2 hb (D := 29) (by decide) (yk36 hn.2 hb 6 0 (by decide) (by decide))) (Nat.le_refl _) h0 ⟨by decide, hn.1⟩ (by decide) (fun a1 p1 ts g1 g2 g3 _ g4 => ?_) (fun a1 f g1 g2 g3 g4 g5 g6 => ?_)
  · have e := gLen [] ts
    have e' : ([] ++ ts : List Int) = ts := rfl
    rw [e'] at e g1
    refine w32t g1.1 (by omega) hn.2 hb g1.2.1 g1.2.2.1 g1.2.2.2.1 ⟨by omega, by omega⟩ (by decide) (fun e1 => ?_) (fun e1 => ?_)
    · obtain ⟨m, hm⟩ := wAll_0 g2 e1
      exact hT a1 ts m g1.2.2.2.2.2 g1.2.1 g1.2.2.2.1 (by omega) g1.2.2.2.2.1 hm
    · have hs : ¬ sG t n p1 = -1 := by
        unfold sG
        rw [if_pos (by omega)]
        have := hb p1 (by omega)
        omega
      obtain ⟨m, hm⟩ := wAll_1 g2 hs (g4 rfl)
      rw [show (-1000 - p1 : Int) = -1000 * 1 - p1 by omega] at hm
      exact hF _ _ m (g1.2.2.2.2.2.u (Or.inl rfl)) (xAr_u g1.2.1 ⟨by omega, by omega⟩) ⟨by omega, by omega⟩ hm
  · obtain ⟨m, hm⟩ := wAll_f g6
    exact w32f g3 (hF a1 f m g1 g2 g4 hm)
end
