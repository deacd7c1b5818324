section
/-! wishes read once more: tokens that can be weighed, the rows (the class) -/
section
set_option maxRecDepth 100000


section
variable {α : Type} {A : Int → α} {nt : α → α} {an ro : α → α → α}
theorem uRun_a : ∀ (ts us : List Int) (st : List α), uRun A nt an ro (ts ++ us) st = uRun A nt an ro us (uRun A nt an ro ts st)
  | [], us, st => rfl
  | c :: cs, us, st => by
    show uRun A nt an ro (c :: (cs ++ us)) st = _
    rw [uRun_cons, uRun_cons (cs := cs)]
    by_cases h1 : c / 256 < 5
    · rw [if_pos h1, if_pos h1]
      exact uRun_a cs us _
    · rw [if_neg h1, if_neg h1]
      by_cases h2 : c / 256 = 7
      · rw [if_pos h2, if_pos h2]
        cases st with
        | nil => exact uRun_a cs us _
        | cons x r => exact uRun_a cs us _
      · rw [if_neg h2, if_neg h2]
        match st with
        | [] => exact uRun_a cs us []
        | [x] => exact uRun_a cs us [x]
        | y :: x :: r => exact uRun_a cs us _
theorem uDl_a : ∀ (ts us : List Int) (d e : Nat), uDl ts d = some e → uDl (ts ++ us) d = uDl us e
  | [], us, d, e, h => by
    have h : some d = some e := h
    cases h
    rfl
  | c :: cs, us, d, e, h => by
    have h : (if c / 256 < 5 then uDl cs (d + 1) else if c / 256 = 7 then (if 1 ≤ d then uDl cs d else none) else (if 2 ≤ d then uDl cs (d - 1) else none)) = some e := h
    show (if c / 256 < 5 then uDl (cs ++ us) (d + 1) else if c / 256 = 7 then (if 1 ≤ d then uDl (cs ++ us) d else none) else (if 2 ≤ d then uDl (cs ++ us) (d - 1) else none)) = uDl us e
    by_cases h1 : c / 256 < 5
    · rw [if_pos h1] at h ⊢
      exact uDl_a cs us _ _ h
    · rw [if_neg h1] at h ⊢
      by_cases h2 : c / 256 = 7
      · rw [if_pos h2] at h ⊢
        by_cases h3 : 1 ≤ d
        · rw [if_pos h3] at h ⊢
          exact uDl_a cs us _ _ h
        · rw [if_neg h3] at h
          cases h
      · rw [if_neg h2] at h ⊢
        by_cases h3 : 2 ≤ d
        · rw [if_pos h3] at h ⊢
          exact uDl_a cs us _ _ h
        · rw [if_neg h3] at h
          cases h
end
section
variable {t : Int → Int} {n p p1 c g q : Int} {ts us : List Int}
/-- tokens that can be weighed, and leave one -/
def vGt (ts : List Int) : Prop := (∀ t, t ∈ ts → uTv t) ∧ (∀ d, uDl ts d = some (d + 1)) ∧ ∀ (A : Int → Bool) (st : List Bool), ∃ x, uRun A (fun x => !x) (fun x y => x && y) (fun x y => x || y) ts st = x :: st
theorem vGt_1 (h : uTv c) (h5 : c / 256 < 5) : vGt [c] := ⟨fun t ht => by
  rw [List.mem_singleton] at ht
  rw [ht]
  exact h, fun d => by
  show (if c / 256 < 5 then uDl [] (d + 1) else _) = _
  rw [if_pos h5]
  rfl, fun A st => ⟨A c, by
  rw [uRun_cons, if_pos h5]
  rfl⟩⟩
theorem uTv_7 : uTv 1792 := ⟨⟨by decide, fun h => absurd h (by decide), fun h => absurd h (by decide), fun h => absurd h (by decide), fun h => absurd h (by decide), fun h => absurd h (by decide)⟩, Or.inr (Or.inr (Or.inr rfl))⟩
theorem uTv_5 : uTv 1280 := ⟨⟨by decide, fun h => absurd h (by decide), fun h => absurd h (by decide), fun h => absurd h (by decide), fun h => absurd h (by decide), fun h => absurd h (by decide)⟩, Or.inr (Or.inl rfl)⟩
theorem uTv_6 : uTv 1536 := ⟨⟨by decide, fun h => absurd h (by decide), fun h => absurd h (by decide), fun h => absurd h (by decide), fun h => absurd h (by decide), fun h => absurd h (by decide)⟩, Or.inr (Or.inr (Or.inl rfl))⟩
theorem vGt_n (h : vGt ts) : vGt (ts ++ [1792]) := ⟨fun t ht => by
  rw [List.mem_append, List.mem_singleton] at ht
  rcases ht with g | g
  · exact h.1 t g
  · rw [g]
    exact uTv_7, fun d => by
  rw [uDl_a ts _ d _ (h.2.1 d)]
  show (if (1792 : Int) / 256 < 5 then _ else if (1792 : Int) / 256 = 7 then (if 1 ≤ d + 1 then uDl [] (d + 1) else none) else _) = _
  rw [if_neg (by decide), if_pos (by decide), if_pos (by omega)]
  rfl, fun A st => by
  obtain ⟨x, hx⟩ := h.2.2 A st
  refine ⟨!x, ?_⟩
  rw [uRun_a, hx, uRun_cons, if_neg (by decide), if_pos (by decide)]
  rfl⟩
theorem vGt_j (h : vGt ts) (h' : vGt us) (hc : c = 1280 ∨ c = 1536) : vGt (ts ++ us ++ [c]) := ⟨fun t ht => by
  rw [List.mem_append, List.mem_append, List.mem_singleton] at ht
  rcases ht with (g | g) | g
  · exact h.1 t g
  · exact h'.1 t g
  · rw [g]
    rcases hc with e | e
    · rw [e]
      exact uTv_5
    · rw [e]
      exact uTv_6, fun d => by
  have e : uDl (ts ++ us) d = some (d + 1 + 1) := (uDl_a ts us d _ (h.2.1 d)).trans (h'.2.1 (d + 1))
  rw [uDl_a _ _ d _ e]
  show (if c / 256 < 5 then _ else if c / 256 = 7 then _ else (if 2 ≤ d + 1 + 1 then uDl [] (d + 1 + 1 - 1) else none)) = _
  rw [if_neg (by omega), if_neg (by omega), if_pos (by omega)]
  rfl, fun A st => by
  obtain ⟨x, hx⟩ := h.2.2 A st
  obtain ⟨y, hy⟩ := h'.2.2 A (x :: st)
  refine ⟨if c / 256 = 5 then (x && y) else (x || y), ?_⟩
  rw [uRun_a, uRun_a, hx, hy, uRun_cons, if_neg (by omega), if_neg (by omega)]
  rfl⟩
theorem vDig (hp : 0 ≤ p) (h : (rDig t n g p).1 = 0) : (48 ≤ sG t n p ∧ sG t n p ≤ 57) ∧ sG t n p - 48 ≤ g := by
  unfold rDig at h
  by_cases c1 : sG t n p < 48 ∨ 57 < sG t n p
  · rw [if_pos c1] at h
    have h : -1000 - p = 0 := h
    omega
  · rw [if_neg c1] at h
    by_cases c2 : g < sG t n p - 48
    · rw [if_pos c2] at h
      have h : -3000 - p = 0 := h
      omega
    · omega
theorem vTk1 {x w : Int} (h : w = 0 ∧ (0 ≤ x ∧ x ≤ 4) ∨ w = 1 ∧ (0 ≤ x ∧ x ≤ 6) ∨ w = 2 ∧ (0 ≤ x ∧ x ≤ 3)) (e : 256 * w + 16 * x + x = c) : uTv c ∧ c / 256 < 5 := by
  subst e
  have hx : x = 0 ∨ x = 1 ∨ x = 2 ∨ x = 3 ∨ x = 4 ∨ x = 5 ∨ x = 6 := by omega
  have hw : w = 0 ∨ w = 1 ∨ w = 2 := by omega
  rcases hw with rfl | rfl | rfl <;> rcases hx with rfl | rfl | rfl | rfl | rfl | rfl | rfl <;> first | (exfalso; omega) | exact ⟨⟨⟨by decide, by decide, by decide, by decide, by decide, by decide⟩, Or.inl (by decide)⟩, by decide⟩
theorem wAt_v (hp : 0 ≤ p) (h : wAt t n p = (0, p1, c)) : p ≤ p1 ∧ uTv c ∧ c / 256 < 5 := by
  unfold wAt at h
  by_cases c1 : ¬ (sG t n p = 104 ∨ sG t n p = 105 ∨ sG t n p = 100 ∨ sG t n p = 108 ∨ sG t n p = 111)
  · rw [if_pos c1] at h
    have h := congrArg Prod.fst h
    have h : -1000 - p = 0 := h
    omega
  rw [if_neg c1] at h
  by_cases c2 : ¬ (rDig t n (wG1 (sG t n p)) (p + 1)).1 = 0
  · rw [if_pos c2] at h
    exact absurd (congrArg Prod.fst h) c2
  rw [if_neg c2] at h
  have d1 := vDig (by omega) (Classical.not_not.mp c2)
  have c1' := Classical.not_not.mp c1
  by_cases c3 : sG t n p = 108 ∨ sG t n p = 111
  · rw [if_pos c3] at h
    by_cases c4 : ¬ (rDig t n (if sG t n p = 108 then 6 else 4) (p + 1 + 1)).1 = 0
    · rw [if_pos c4] at h
      exact absurd (congrArg Prod.fst h) c4
    rw [if_neg c4] at h
    have d2 := vDig (by omega) (Classical.not_not.mp c4)
    have h1 : p + 1 + 1 + 1 = p1 := congrArg (fun q => q.2.1) h
    have h2 : 256 * wWh (sG t n p) + 16 * (sG t n (p + 1) - 48) + (sG t n (p + 1 + 1) - 48) = c := congrArg (fun q => q.2.2) h
    unfold wG1 at d1
    unfold wWh at h2
    rcases c3 with e | e
    · rw [if_pos e] at d2
      rw [if_pos (Or.inr e)] at d1
      rw [if_neg (by omega), if_neg (by omega), if_neg (by omega), if_pos e] at h2
      exact ⟨by omega, ⟨⟨by omega, by omega, by omega, by omega, by omega, by omega⟩, by omega⟩, by omega⟩
    · rw [if_neg (by omega)] at d2
      rw [if_neg (by omega), if_neg (by omega)] at d1
      rw [if_neg (by omega), if_neg (by omega), if_neg (by omega), if_neg (by omega)] at h2
      exact ⟨by omega, ⟨⟨by omega, by omega, by omega, by omega, by omega, by omega⟩, by omega⟩, by omega⟩
  · rw [if_neg c3] at h
    have h1 : p + 1 + 1 = p1 := congrArg (fun q => q.2.1) h
    have h2 : 256 * wWh (sG t n p) + 16 * (sG t n (p + 1) - 48) + (sG t n (p + 1) - 48) = c := congrArg (fun q => q.2.2) h
    unfold wG1 at d1
    unfold wWh at h2
    have : sG t n p = 104 ∨ sG t n p = 105 ∨ sG t n p = 100 := by omega
    rcases this with e | e | e
    · rw [if_pos (Or.inl e)] at d1
      rw [if_pos e] at h2
      exact ⟨by omega, vTk1 (by omega) h2⟩
    · rw [if_neg (by omega), if_pos e] at d1
      rw [if_neg (by omega), if_pos e] at h2
      exact ⟨by omega, vTk1 (by omega) h2⟩
    · rw [if_neg (by omega), if_neg (by omega)] at d1
      rw [if_neg (by omega), if_neg (by omega), if_pos e] at h2
      exact ⟨by omega, vTk1 (by omega) h2⟩
theorem wY_g {k : Nat} {o : Int} (h : wY t n k o p p1 ts) (hp : 0 ≤ p) : p ≤ p1 ∧ vGt ts := by
  refine h (fun _ _ p p1 ts => 0 ≤ p → p ≤ p1 ∧ vGt ts) ⟨?_, ?_, ?_, ?_, ?_, ?_, ?_⟩ hp
  · intro o p p1 c _ _ h hp
    obtain ⟨g1, g2, g3⟩ := wAt_v hp h
    exact ⟨g1, vGt_1 g2 g3⟩
  · intro o p p1 ts _ _ h hp
    obtain ⟨g1, g2⟩ := h (by omega)
    exact ⟨by omega, vGt_n g2⟩
  · intro o p p1 ts _ _ h _ _ hp
    obtain ⟨g1, g2⟩ := h (by omega)
    exact ⟨by omega, g2⟩
  · intro o p p1 ts h hp
    exact h hp
  · intro o p p1 ts p2 us h _ h' hp
    obtain ⟨g1, g2⟩ := h hp
    obtain ⟨g3, g4⟩ := h' (by omega)
    exact ⟨by omega, vGt_j g2 g4 (Or.inl rfl)⟩
  · intro o p p1 ts h _ hp
    exact h hp
  · intro o p p1 ts p2 us h _ h' _ hp
    obtain ⟨g1, g2⟩ := h hp
    obtain ⟨g3, g4⟩ := h' (by omega)
    exact ⟨by omega, vGt_j g2 g4 (Or.inr rfl)⟩
theorem vRe_g {f : Int} (h : vGt ts) (hl : ts.length ≤ 40) : vRe f ts := ⟨hl, h.1, by
  rw [h.2.1 0]
  exact fun e => (by cases e), fun S e => by
  obtain ⟨x, hx⟩ := h.2.2 (uAt f S) []
  rw [hx] at e
  cases e⟩
end
section
/-- a wish's text read by the class -/
theorem ym32 {n : Int} {ro : Nat → Nat × (Nat → Int32)} {t : Int → Int} {d : Nat} {Q : Option Value → pmS → Prop} {a : xA} {b : xB} {l : Int} (hn : 0 ≤ n ∧ n ≤ 40) (hb : tB t) (hl : a 1 1 = l) (hl0 : n ≤ l) (hl1 : l ≤ 400) (ht : ∀ j, 0 ≤ j → j < n → a 2 j = t j) (hA : xAr a) (hd : 32 ≤ d)
    (hT : ∀ (a1 : xA) (ts : List Int) (m : Nat), kWs a a1 → xAr a1 → a1 31 2 = (ts.length : Int) → (ts.length : Int) ≤ n → (∀ (j : Nat) x, ts[j]? = some x → a1 32 (j : Int) = cT x) → (∃ p1, wY t n 2 0 0 p1 ts) → wRun t n m true 0 [] [] = some (.inr ts) → Q (some (xV 0)) (xS a1 b))
    (hF : ∀ (a1 : xA) (f : Int) (m : Nat), kWs a a1 → xAr a1 → f < 0 ∧ -10000 < f → wRun t n m true 0 [] [] = some (.inl f) → Q (some (xV f)) (xS a1 b)) : pmCs ro d 32 [.ref 31, xV n] (xS a b) Q := by
  refine pmCs_deep (d := 32) (xg32 (w32 hl ⟨hn.1, hl0⟩ hl1 (by decide) ?_)) hd
  have h0 : wC a (xU (xU (xU (xU a 1 2 n) 1 3 0) 1 4 0) 31 2 0) t n 0 [] := by
    refine ⟨⟨fun j g0 g1 => ?_, ?_, ?_⟩, xAr_u (xAr_u (xAr_u (xAr_u hA ⟨by omega, by omega⟩) xR0) xR0) xR0, ?_, ?_, fun j x g => ?_, (((kWs.u (fun _ _ _ _ _ => rfl) (Or.inl rfl)).u (Or.inl rfl)).u (Or.inl rfl)).u (Or.inr (Or.inl rfl))⟩
    · rw [xUn (by decide), xUn (by decide), xUn (by decide), xUn (by decide)]
      exact ht j g0 g1
    · rw [xUn (by decide), xUk (by decide), xUk (by decide), xUa]
    · rw [xUn (by decide), xUk (by decide), xUa]
    · rw [xUn (by decide), xUa]
    · rw [xUa]
      rfl
    · cases g
  refine yk34 hn.2 hb (D := 30) (by decide) (yk35 hn.2 hb (D := 29) (by decide) (yk36 hn.2 hb 6 0 (by decide) (by decide))) (Nat.le_refl _) h0 ⟨by decide, hn.1⟩ (by decide) (fun a1 p1 ts g1 g2 g3 _ g4 => ?_) (fun a1 f g1 g2 g3 g4 g5 g6 => ?_)
  · have e := gLen [] ts
    have e' : ([] ++ ts : List Int) = ts := rfl
    rw [e'] at e g1
    refine w32t g1.1 (by omega) hn.2 hb g1.2.1 g1.2.2.1 g1.2.2.2.1 ⟨by omega, by omega⟩ (by decide) (fun e1 => ?_) (fun e1 => ?_)
    · obtain ⟨m, hm⟩ := wAll_0 g2 e1
      exact hT a1 ts m g1.2.2.2.2.2 g1.2.1 g1.2.2.2.1 (by omega) g1.2.2.2.2.1 ⟨p1, g2⟩ hm
    · have hs : ¬ sG t n p1 = -1 := by
        unfold sG
        rw [if_pos (by omega)]
        have := hb p1 (by omega)
        omega
      obtain ⟨m, hm⟩ := wAll_1 g2 hs (g4 rfl)
      rw [show (-1000 - p1 : Int) = -1000 * 1 - p1 by omega] at hm
      exact hF _ _ m (g1.2.2.2.2.2.u (Or.inl rfl)) (xAr_u g1.2.1 ⟨by omega, by omega⟩) ⟨by omega, by omega⟩ hm
  · obtain ⟨m, hm⟩ := wAll_f g6
    exact w32f g3 (hF a1 f m g1 g2 g4 hm)
end
section
variable {ro : Nat → Nat × (Nat → Int32)} {d : Nat} {Q : Option Value → pmS → Prop} {b : xB} {t : Int → Int}
/-- the order, once a wish is put into it -/
theorem vl46 {p g z k r : Int} {a0 : xA} (h_p : xR p) (h_g : xR g) (hp : 1 ≤ p ∧ p ≤ 3) (hk0 : 0 ≤ k ∧ k < 3) (h11 : ∀ i, 0 ≤ i → 0 ≤ a0 11 i ∧ a0 11 i ≤ 2) (hQ : ∀ a1 q, xAr a1 → (p * 3 ≤ q ∧ q ≤ p * 3 + k) → (∀ r j, r ≠ 11 → a1 r j = a0 r j) → (∀ i, (i < q ∨ p * 3 + k < i) → a1 11 i = a0 11 i) → a1 11 q = k → (∀ i, q < i → i ≤ p * 3 + k → a1 11 i = a0 11 (i - 1) ∧ a0 10 (p * 3 + a0 11 (i - 1)) < g) → (q = p * 3 ∨ g ≤ a0 10 (p * 3 + a0 11 (q - 1))) → Q (some (xV k)) (xS a1 b)) : ∀ (m : Nat) (q : Int) (a : xA), q - p * 3 ≤ (m : Int) → p * 3 ≤ q ∧ q ≤ p * 3 + k → xAr a → (∀ r j, r ≠ 11 → a r j = a0 r j) → (∀ i, (i < q ∨ p * 3 + k < i) → a 11 i = a0 11 i) → (∀ i, q < i → i ≤ p * 3 + k → a 11 i = a0 11 (i - 1) ∧ a0 10 (p * 3 + a0 11 (i - 1)) < g) →
    pmWp ro d 9 46 1 84 [some (.ref 7), some (xV p), some (xV g), some (.ref 32), some (xV z), some (xV k), some (xV r), some (xV q)] [] (xS a b) Q := by
  intro m
  induction m with
  | zero =>
    intro q a hm hq hA hF h1 h2
    have hy : a 11 (q - 1) = a0 11 (q - 1) := h1 _ (by omega)
    have hy0 := h11 (q - 1) (by omega)
    refine w46l h_p h_g hp hk0 hq rfl (by rw [hy]; exact hy0) hA (fun _ => ?_) (fun e _ => by omega) (fun e _ => by omega)
    exact hQ _ q (xAr_u hA ⟨by omega, by omega⟩) hq (fun r j h => by rw [xUn h]; exact hF r j h) (fun i hi => by rw [xUk (by omega)]; exact h1 i hi) xUa (fun i i0 i1 => by rw [xUk (by omega)]; exact h2 i i0 i1) (Or.inl (by omega))
  | succ m ih =>
    intro q a hm hq hA hF h1 h2
    have hy : a 11 (q - 1) = a0 11 (q - 1) := h1 _ (by omega)
    have hy0 := h11 (q - 1) (by omega)
    have hend : (q = p * 3 ∨ g ≤ a0 10 (p * 3 + a0 11 (q - 1))) → Q (some (xV k)) (xS (xU a 11 q k) b) := fun h => hQ _ q (xAr_u hA ⟨by omega, by omega⟩) hq (fun r j h => by rw [xUn h]; exact hF r j h) (fun i hi => by rw [xUk (by omega)]; exact h1 i hi) xUa (fun i i0 i1 => by rw [xUk (by omega)]; exact h2 i i0 i1) h
    refine w46l h_p h_g hp hk0 hq hy hy0 hA (fun e => hend (Or.inl (by omega))) (fun _ e => hend (Or.inr (by rw [hF 10 _ (by decide)] at e; exact e))) (fun e e2 => ?_)
    refine ih (q + -1) _ (by omega) (by omega) (xAr_u hA ⟨by omega, by omega⟩) (fun r j h => by rw [xUn h]; exact hF r j h) (fun i hi => ?_) (fun i i0 i1 => ?_)
    · rw [xUk (by omega)]
      exact h1 i (by omega)
    · by_cases hj : i = q
      · rw [hj, xUa]
        rw [hF 10 _ (by decide)] at e2
        exact ⟨rfl, by omega⟩
      · rw [xUk (by omega)]
        exact h2 i (by omega) i1
/-- a wish added: what becomes of the rows -/
def vAd (p k x : Int) (ts : List Int) (a a1 : xA) : Prop := (a1 12 p = k + 1 ∧ ∀ j, ¬ j = p → a1 12 j = a 12 j) ∧ ((∀ (j : Nat) y, ts[j]? = some y → a1 8 ((p * 3 + k) * 40 + (j : Int)) = cT y) ∧ ∀ j, (j < (p * 3 + k) * 40 ∨ (p * 3 + k) * 40 + 40 ≤ j) → a1 8 j = a 8 j) ∧ (a1 9 (p * 3 + k) = (ts.length : Int) ∧ ∀ j, ¬ j = p * 3 + k → a1 9 j = a 9 j) ∧ (a1 10 (p * 3 + k) = x ∧ ∀ j, ¬ j = p * 3 + k → a1 10 j = a 10 j) ∧ ∃ q, (p * 3 ≤ q ∧ q ≤ p * 3 + k) ∧ (∀ i, (i < q ∨ p * 3 + k < i) → a1 11 i = a 11 i) ∧ a1 11 q = k ∧ (∀ i, q < i → i ≤ p * 3 + k → a1 11 i = a 11 (i - 1) ∧ a1 10 (p * 3 + a 11 (i - 1)) < x) ∧ (q = p * 3 ∨ x ≤ a1 10 (p * 3 + a 11 (q - 1)))
theorem ym46 {a : xA} {p g z k : Int} {ts : List Int} (h_g : xR g) (h_z : z = (ts.length : Int)) (hl : ts.length ≤ 40) (h32 : ∀ (j : Nat) y, ts[j]? = some y → a 32 (j : Int) = cT y) (hk : a 12 p = k) (hp : 1 ≤ p ∧ p ≤ 3) (hk0 : 0 ≤ k ∧ k < 3) (hA : xAr a) (h11 : ∀ i, 0 ≤ i → 0 ≤ a 11 i ∧ a 11 i ≤ 2) (hd : 1 ≤ d)
    (hQ : ∀ a1, xAr a1 → vAd p k g ts a a1 → (∀ q j, q ≠ 8 → q ≠ 9 → q ≠ 10 → q ≠ 11 → q ≠ 12 → a1 q j = a q j) → Q (some (xV k)) (xS a1 b)) : pmCs ro d 46 [.ref 7, xV p, xV g, .ref 32, xV z] (xS a b) Q := by
  have h_p : xR p := ⟨by omega, by omega⟩
  have h_z2 : xR z := ⟨by omega, by omega⟩
  refine pmCs_deep (d := 1) (xg46 (w46 h_p h_g h_z2 hk hp hk0 hA (fun e => by omega) (fun _ e => by omega) (fun _ _ _ => ?_) (fun _ _ e => by omega))) hd
  have A3 : xAr (xU (xU (xU (xCp a 32 8 0 ((p * 3 + k) * 40) 40) 9 (p * 3 + k) z) 10 (p * 3 + k) g) 12 p (k + 1)) := xAr_u (xAr_u (xAr_u (xAr_cp hA) h_z2) h_g) ⟨by omega, by omega⟩
  have o11 : ∀ i, (xU (xU (xU (xCp a 32 8 0 ((p * 3 + k) * 40) 40) 9 (p * 3 + k) z) 10 (p * 3 + k) g) 12 p (k + 1)) 11 i = a 11 i := fun i => by rw [xUn (by decide), xUn (by decide), xUn (by decide), xCpN (by decide)]
  have o10 : ∀ i, (xU (xU (xU (xCp a 32 8 0 ((p * 3 + k) * 40) 40) 9 (p * 3 + k) z) 10 (p * 3 + k) g) 12 p (k + 1)) 10 i = if i = p * 3 + k then g else a 10 i := fun i => by
    rw [xUn (by decide)]
    by_cases c : i = p * 3 + k
    · rw [c, xUa, if_pos rfl]
    · rw [xUk c, if_neg c, xUn (by decide), xCpN (by decide)]
  have o9 : ∀ i, (xU (xU (xU (xCp a 32 8 0 ((p * 3 + k) * 40) 40) 9 (p * 3 + k) z) 10 (p * 3 + k) g) 12 p (k + 1)) 9 i = if i = p * 3 + k then z else a 9 i := fun i => by
    rw [xUn (by decide), xUn (by decide)]
    by_cases c : i = p * 3 + k
    · rw [c, xUa, if_pos rfl]
    · rw [xUk c, if_neg c, xCpN (by decide)]
  have o8 : ∀ i, (xU (xU (xU (xCp a 32 8 0 ((p * 3 + k) * 40) 40) 9 (p * 3 + k) z) 10 (p * 3 + k) g) 12 p (k + 1)) 8 i = if (p * 3 + k) * 40 ≤ i ∧ i < (p * 3 + k) * 40 + 40 then a 32 (0 + (i - (p * 3 + k) * 40)) else a 8 i := fun i => by
    rw [xUn (by decide), xUn (by decide), xUn (by decide)]
    unfold xCp
    by_cases c : (p * 3 + k) * 40 ≤ i ∧ i < (p * 3 + k) * 40 + 40
    · rw [if_pos ⟨rfl, c⟩, if_pos c]
    · rw [if_neg (fun e => c e.2), if_neg c]
  have o12 : ∀ i, (xU (xU (xU (xCp a 32 8 0 ((p * 3 + k) * 40) 40) 9 (p * 3 + k) z) 10 (p * 3 + k) g) 12 p (k + 1)) 12 i = if i = p then k + 1 else a 12 i := fun i => by
    by_cases c : i = p
    · rw [c, xUa, if_pos rfl]
    · rw [xUk c, if_neg c, xUn (by decide), xUn (by decide), xCpN (by decide)]
  have oo : ∀ q j, q ≠ 8 → q ≠ 9 → q ≠ 10 → q ≠ 12 → (xU (xU (xU (xCp a 32 8 0 ((p * 3 + k) * 40) 40) 9 (p * 3 + k) z) 10 (p * 3 + k) g) 12 p (k + 1)) q j = a q j := fun q j n8 n9 n10 n12 => by rw [xUn n12, xUn n10, xUn n9, xCpN n8]
  generalize xU (xU (xU (xCp a 32 8 0 ((p * 3 + k) * 40) 40) 9 (p * 3 + k) z) 10 (p * 3 + k) g) 12 p (k + 1) = a3 at *
  refine vl46 (a0 := a3) h_p h_g hp hk0 (fun i hi => by rw [o11]; exact h11 i hi) (fun a1 q g1 g2 g3 g4 g5 g6 g7 => hQ a1 g1 ⟨⟨?_, fun j hj => ?_⟩, ⟨fun j y hy => ?_, fun j hj => ?_⟩, ⟨?_, fun j hj => ?_⟩, ⟨?_, fun j hj => ?_⟩, q, g2, fun i hi => ?_, g5, fun i i0 i1 => ?_, ?_⟩ (fun q j n8 n9 n10 n11 n12 => ?_)) 3 _ _ (by omega) (by omega) A3 (fun _ _ _ => rfl) (fun _ _ => rfl) (fun i i0 i1 => by omega)
  · rw [g3 12 p (by decide), o12, if_pos rfl]
  · rw [g3 12 j (by decide), o12, if_neg hj]
  · have hj : j < ts.length := by
      rcases Nat.lt_or_ge j ts.length with h | h
      · exact h
      · rw [List.getElem?_eq_none h] at hy
        cases hy
    rw [g3 8 _ (by decide), o8, if_pos (by omega), show 0 + ((p * 3 + k) * 40 + (j : Int) - (p * 3 + k) * 40) = (j : Int) by omega]
    exact h32 j y hy
  · rw [g3 8 _ (by decide), o8, if_neg (by omega)]
  · rw [g3 9 _ (by decide), o9, if_pos rfl]
    exact h_z
  · rw [g3 9 _ (by decide), o9, if_neg hj]
  · rw [g3 10 _ (by decide), o10, if_pos rfl]
  · rw [g3 10 _ (by decide), o10, if_neg hj]
  · rw [g4 i hi, o11]
  · obtain ⟨e1, e2⟩ := g6 i i0 i1
    rw [o11] at e1 e2
    rw [g3 10 _ (by decide)]
    exact ⟨e1, e2⟩
  · rcases g7 with e | e
    · exact Or.inl e
    · rw [o11] at e
      rw [g3 10 _ (by decide)]
      exact Or.inr e
  · rw [g3 q j n11, oo q j n8 n9 n10 n12]
/-- wish of the class -/
theorem ym31 {a : xA} {p x n l : Int} (h_p : xR p) (h_x : xR x) (h_n : xR n) (hg : a 0 12 = 0) (hl : a 1 1 = l) (hl0 : 0 ≤ l ∧ l ≤ 400) (ht : ∀ j, 0 ≤ j → j < n → a 2 j = t j) (hb : tB t) (hA : xAr a) (h11 : ∀ i, 0 ≤ i → 0 ≤ a 11 i ∧ a 11 i ≤ 2) (h12 : ∀ i, 0 ≤ i → 0 ≤ a 12 i ∧ a 12 i ≤ 3) (hd : 34 ≤ d)
    (hR : ¬ (1 ≤ p ∧ p ≤ 3 ∧ 1 ≤ x ∧ x ≤ 9 ∧ 1 ≤ n ∧ n ≤ 40 ∧ a 12 p < 3 ∧ n ≤ l) → Q (some (xV (-1))) (xS a b))
    (hB : (1 ≤ p ∧ p ≤ 3 ∧ 1 ≤ x ∧ x ≤ 9 ∧ 1 ≤ n ∧ n ≤ 40 ∧ a 12 p < 3 ∧ n ≤ l) → ∀ (a1 : xA) (f : Int) (m : Nat), wRun t n m true 0 [] [] = some (.inl f) → xAr a1 → a1 1 1 = 0 → (∀ q j, q ≠ 1 → q ≠ 31 → q ≠ 32 → a1 q j = a q j) → Q (some (xV f)) (xS a1 b))
    (hG : (1 ≤ p ∧ p ≤ 3 ∧ 1 ≤ x ∧ x ≤ 9 ∧ 1 ≤ n ∧ n ≤ 40 ∧ a 12 p < 3 ∧ n ≤ l) → ∀ (a1 : xA) (ts : List Int) (m : Nat), wRun t n m true 0 [] [] = some (.inr ts) → vGt ts → ts.length ≤ 40 → xAr a1 → a1 1 1 = 0 → vAd p (a 12 p) x ts a a1 → zWc a a1 → Q (some (xV (a 12 p))) (xS a1 b)) : pmCs ro d 31 [.ref 0, xV p, xV x, xV n] (xS a b) Q := by
  refine pmCs_deep (d := 34) (xg31 (w31 h_p h_x h_n hg hl (by decide) hl0 hA (by decide) ?_ ?_ ?_ ?_ ?_ ?_ ?_ ?_ ?_ ?_ ?_ ?_ ?_ ?_)) hd
  case refine_11 =>
    intro e1 e2 e3 e4 e5 _ e6 e7
    have hG0 : 1 ≤ p ∧ p ≤ 3 ∧ 1 ≤ x ∧ x ≤ 9 ∧ 1 ≤ n ∧ n ≤ 40 ∧ a 12 p < 3 ∧ n ≤ l := by omega
    refine ym32 ⟨by omega, by omega⟩ hb hl e7 hl0.2 ht hA (by decide) (fun a1 ts m g1 g2 g3 g4 g5 gy g6 => ?_) (fun a1 f m g1 g2 g3 g4 => ?_)
    · refine w31b (f := 0) (Or.inr rfl) rfl (by decide) (fun _ => ?_) (fun e => absurd rfl e)
      have h12p := h12 p (by omega)
      have e12 : ∀ j, xU a1 1 1 0 12 j = a 12 j := fun j => by rw [xUn (by decide), g1 12 j (by decide) (by decide) (by decide)]
      have eo : ∀ q j, q ≠ 1 → q ≠ 31 → q ≠ 32 → xU a1 1 1 0 q j = a q j := fun q j q1 q31 q32 => by rw [xUn q1, g1 q j q1 q31 q32]
      obtain ⟨p1, hY⟩ := gy
      refine ym46 (ts := ts) h_x g3 (by omega) (fun j y hy => by rw [xUn (by decide)]; exact g5 j y hy) (e12 p) (by omega) (by omega) (xAr_u g2 xR0) (fun i hi => ?_) (by decide) (fun a2 k1 k2 k4 => ?_)
      · rw [eo 11 i (by decide) (by decide) (by decide)]
        exact h11 i hi
      · refine w31c (hG hG0 a2 ts m g6 (wY_g hY (by decide)).2 (by omega) k1 ?_ ?_ (fun q j q1 q8 q9 q10 q11 q12 q31 q32 => ?_))
        · rw [k4 1 1 (by decide) (by decide) (by decide) (by decide) (by decide), xUa]
        · obtain ⟨⟨c1, c2⟩, ⟨c3, c4⟩, ⟨c5, c6⟩, ⟨c7, c8⟩, q, d1, d2, d3, d4, d5⟩ := k2
          have f8 : ∀ j, xU a1 1 1 0 8 j = a 8 j := fun j => eo 8 j (by decide) (by decide) (by decide)
          have f9 : ∀ j, xU a1 1 1 0 9 j = a 9 j := fun j => eo 9 j (by decide) (by decide) (by decide)
          have f10 : ∀ j, xU a1 1 1 0 10 j = a 10 j := fun j => eo 10 j (by decide) (by decide) (by decide)
          have f11 : ∀ j, xU a1 1 1 0 11 j = a 11 j := fun j => eo 11 j (by decide) (by decide) (by decide)
          refine ⟨⟨c1, fun j hj => (c2 j hj).trans (e12 j)⟩, ⟨c3, fun j hj => (c4 j hj).trans (f8 j)⟩, ⟨c5, fun j hj => (c6 j hj).trans (f9 j)⟩, ⟨c7, fun j hj => (c8 j hj).trans (f10 j)⟩, q, d1, fun i hi => (d2 i hi).trans (f11 i), d3, fun i i0 i1 => ?_, ?_⟩
          · rw [← f11]
            exact d4 i i0 i1
          · rw [← f11]
            exact d5
        · rw [k4 q j q8 q9 q10 q11 q12, eo q j q1 q31 q32]
    · refine w31b (f := f) (Or.inl ⟨g3.2, g3.1⟩) rfl (by decide) (fun e => by omega) (fun _ => ?_)
      exact hB hG0 _ f m g4 (xAr_u g2 xR0) xUa (fun q j q1 q31 q32 => by rw [xUn q1, g1 q j q1 q31 q32])
  all_goals (
    (try unfold xK)
    intros
    first
      | exact hR (by omega)
      | (exfalso; omega))
end
end
end
section
/-! wishes read once more: the rows (the reference) -/
section
set_option maxRecDepth 100000


section
variable {ro : Nat → Nat × (Nat → Int32)} {d : Nat} {Q : Option Value → pmS → Prop} {b : xB} {t : Int → Int}
/-- the codes, put behind those of the wishes that stand -/
theorem vl153 {p x n k o r : Int} {v4 : Option Value} {a0 : xA} (h_p : xR p) (h_x : xR x) (hp : 1 ≤ p ∧ p ≤ 3) (hk0 : 0 ≤ k ∧ k < 3) (ho0 : 0 ≤ o ∧ o ≤ 40) (hr : 3 ≤ r ∧ r < 12) (hk : a0 96 p = k) (ho : a0 87 15 = o) (hQ : ∀ a1, xAr a1 → (∀ q j, q ≠ 99 → a1 q j = a0 q j) → (∀ j, 0 ≤ j → j < o → a1 99 (60 * r + j) = a0 95 j) → (∀ j, (j < 60 * r ∨ 60 * r + o ≤ j) → a1 99 j = a0 99 j) → Q (some (xV k)) (xS (xU a1 96 p (k + 1)) b)) : ∀ (m : Nat) (i : Int) (a : xA), o - i ≤ (m : Int) → 0 ≤ i ∧ i ≤ o → xAr a → (∀ q j, q ≠ 99 → a q j = a0 q j) → (∀ j, 0 ≤ j → j < i → a 99 (60 * r + j) = a0 95 j) → (∀ j, (j < 60 * r ∨ 60 * r + o ≤ j) → a 99 j = a0 99 j) →
    pmWp ro d 12 153 1 114 [some (.ref 87), some (xV p), some (xV x), some (xV n), v4, some (xV r), some (xV i)] [] (xS a b) Q := by
  intro m
  induction m with
  | zero =>
    intro i a hm hi hA hF h1 h2
    refine w153l h_p h_x hp ((hF 96 p (by decide)).trans hk) hk0 ((hF 87 15 (by decide)).trans ho) ho0 hr hi hA (fun _ => ?_) (fun e => by omega)
    rw [show k + 1 - 1 = k by omega]
    exact hQ a hA hF (fun j j0 j1 => h1 j j0 (by omega)) h2
  | succ m ih =>
    intro i a hm hi hA hF h1 h2
    refine w153l h_p h_x hp ((hF 96 p (by decide)).trans hk) hk0 ((hF 87 15 (by decide)).trans ho) ho0 hr hi hA (fun _ => ?_) (fun e => ?_)
    · rw [show k + 1 - 1 = k by omega]
      exact hQ a hA hF (fun j j0 j1 => h1 j j0 (by omega)) h2
    · refine ih (i + 1) _ (by omega) (by omega) (xAr_u hA (hA 95 i)) (fun q j h => by rw [xUn h]; exact hF q j h) (fun j j0 j1 => ?_) (fun j hj => ?_)
      · by_cases c : j = i
        · rw [c, xUa]
          exact hF 95 i (by decide)
        · rw [xUk (by omega)]
          exact h1 j j0 (by omega)
      · rw [xUk (by omega)]
        exact h2 j hj
/-- a wish added: what becomes of the reference's rows -/
def vAr (p k x : Int) (ts : List Int) (a a1 : xA) : Prop := (a1 96 p = k + 1 ∧ ∀ j, ¬ j = p → a1 96 j = a 96 j) ∧ (a1 97 (3 * p + k) = x ∧ ∀ j, ¬ j = 3 * p + k → a1 97 j = a 97 j) ∧ (a1 98 (3 * p + k) = (ts.length : Int) ∧ ∀ j, ¬ j = 3 * p + k → a1 98 j = a 98 j) ∧ (∀ (j : Nat) y, ts[j]? = some y → a1 99 (60 * (3 * p + k) + (j : Int)) = y) ∧ ∀ j, (j < 60 * (3 * p + k) ∨ 60 * (3 * p + k) + 60 ≤ j) → a1 99 j = a 99 j
/-- wish of the reference -/
theorem ym153 {a : xA} {p x n l : Int} {m : Nat} {r : Int ⊕ List Int} (h_p : xR p) (h_x : xR x) (h_n : xR n) (hg : a 87 4 = 0) (hl : a 87 9 = l) (hl0 : 0 ≤ l ∧ l ≤ 400) (ht : ∀ j, 0 ≤ j → j < n → a 93 j % 256 = t j) (hb : tB t) (hA : xAr a) (h96 : ∀ i, 0 ≤ i → 0 ≤ a 96 i ∧ a 96 i ≤ 3) (hd : 8 ≤ d)
    (hr : (1 ≤ p ∧ p ≤ 3 ∧ 1 ≤ x ∧ x ≤ 9 ∧ 1 ≤ n ∧ n ≤ 40 ∧ a 96 p < 3 ∧ n ≤ l) → wRun t n m true 0 [] [] = some r)
    (hR : ¬ (1 ≤ p ∧ p ≤ 3 ∧ 1 ≤ x ∧ x ≤ 9 ∧ 1 ≤ n ∧ n ≤ 40 ∧ a 96 p < 3 ∧ n ≤ l) → Q (some (xV (-1))) (xS a b))
    (hB : (1 ≤ p ∧ p ≤ 3 ∧ 1 ≤ x ∧ x ≤ 9 ∧ 1 ≤ n ∧ n ≤ 40 ∧ a 96 p < 3 ∧ n ≤ l) → ∀ (a1 : xA) (f : Int), r = .inl f → xAr a1 → a1 87 9 = 0 → (∀ q j, q ≠ 87 → q ≠ 94 → q ≠ 95 → a1 q j = a q j) → zWr a a1 → Q (some (xV f)) (xS a1 b))
    (hG : (1 ≤ p ∧ p ≤ 3 ∧ 1 ≤ x ∧ x ≤ 9 ∧ 1 ≤ n ∧ n ≤ 40 ∧ a 96 p < 3 ∧ n ≤ l) → ∀ (a1 : xA) (ts : List Int), r = .inr ts → xAr a1 → a1 87 9 = 0 → vAr p (a 96 p) x ts a a1 → zWr a a1 → Q (some (xV (a 96 p))) (xS a1 b)) : pmCs ro d 153 [.ref 87, xV p, xV x, xV n] (xS a b) Q := by
  refine pmCs_deep (d := 8) (xg153 (w153 h_p h_x h_n hg hl (by decide) hl0 hA (by decide) ?_ ?_ ?_ ?_ ?_ ?_ ?_)) hd
  case refine_3 =>
    intro _ e1 e2 e3 e4 e5
    have h96p := h96 p (by omega)
    have hG0 : 1 ≤ p ∧ p ≤ 3 ∧ 1 ≤ x ∧ x ≤ 9 ∧ 1 ≤ n ∧ n ≤ 40 ∧ a 96 p < 3 ∧ n ≤ l := by omega
    generalize ha0 : xU (xU (xU (xU (xU a 87 10 0) 87 11 n) 87 13 0) 87 14 0) 87 15 0 = a0
    have f1 : ∀ q j, q ≠ 87 → a0 q j = a q j := fun q j h => by rw [← ha0, xUn h, xUn h, xUn h, xUn h, xUn h]
    have f2 : ∀ k, k ≠ 10 → k ≠ 11 → k ≠ 13 → k ≠ 14 → k ≠ 15 → a0 87 k = a 87 k := fun k q10 q11 q13 q14 q15 => by rw [← ha0, xUk q15, xUk q14, xUk q13, xUk q11, xUk q10]
    have hA0 : xAr a0 := by
      rw [← ha0]
      exact xAr_u (xAr_u (xAr_u (xAr_u (xAr_u hA xR0) h_n) xR0) xR0) xR0
    have hW : rW a0 a0 t n 0 [] [] := by
      refine ⟨⟨fun j j0 j1 => ?_, ?_, ?_⟩, hA0, ?_, fun j y g => (by cases g), ?_, fun j y g => (by cases g), ?_, fun y hy => (by cases hy), fun _ _ _ _ _ => rfl, fun _ _ _ _ _ _ _ => rfl⟩
      · rw [f1 93 j (by decide)]
        exact ht j j0 j1
      · rw [← ha0, xUk (by decide), xUk (by decide), xUk (by decide), xUa]
      · rw [← ha0, xUk (by decide), xUk (by decide), xUk (by decide), xUk (by decide), xUa]
      · rw [← ha0, xUk (by decide), xUa]
        rfl
      · rw [← ha0, xUa]
        rfl
      · rw [← ha0, xUk (by decide), xUk (by decide), xUa]
        rfl
    refine yk155 (by omega) (by omega) hb (by decide) (hr hG0) hW (fun a1 f p1 S1 o1 g1 g2 g3 g4 => ?_) (fun a1 ts p1 S1 g1 g2 g3 => ?_)
    · obtain ⟨k1, k2, _, _, _, _, _, _, k9, k10⟩ := g4
      refine w153f ⟨by omega, by omega⟩ g3 ?_
      refine hB hG0 _ f g1 (xAr_u k2 xR0) xUa (fun q j q87 q94 q95 => ?_) ⟨fun q j q87 q94 q95 q96 q97 q98 q99 => ?_, fun k q9 q10 q11 q12 q13 q14 q15 q22 => ?_⟩
      · rw [xUn q87, k9 q j q87 q94 q95, f1 q j q87]
      · rw [xUn q87, k9 q j q87 q94 q95, f1 q j q87]
      · rw [xUk q9, k10 k q10 q12 q13 q14 q15 q22, f2 k q10 q11 q13 q14 q15]
    · obtain ⟨k1, k2, _, _, k5, k6, _, _, k9, k10⟩ := g3
      have eo : ∀ q j, q ≠ 87 → q ≠ 94 → q ≠ 95 → a1 q j = a q j := fun q j q87 q94 q95 => by rw [k9 q j q87 q94 q95, f1 q j q87]
      have e96 : ∀ j, a1 96 j = a 96 j := fun j => eo 96 j (by decide) (by decide) (by decide)
      refine w153g (o := (ts.length : Int)) h_p h_x (by omega) (e96 p) (by omega) k5 ⟨by omega, by omega⟩ ?_
      have A2 : xAr (xU (xU (xU a1 87 9 0) 97 (3 * p + a 96 p) x) 98 (3 * p + a 96 p) (ts.length : Int)) := xAr_u (xAr_u (xAr_u k2 xR0) h_x) ⟨by omega, by omega⟩
      refine vl153 (k := a 96 p) (o := (ts.length : Int)) (a0 := xU (xU (xU a1 87 9 0) 97 (3 * p + a 96 p) x) 98 (3 * p + a 96 p) (ts.length : Int)) h_p h_x (by omega) (by omega) ⟨by omega, by omega⟩ ⟨by omega, by omega⟩ ?_ ?_ (fun a2 h1 h2 h3 h4 => ?_) ts.length 0 _ (by omega) ⟨by decide, by omega⟩ A2 (fun _ _ _ => rfl) (fun j j0 j1 => by omega) (fun _ _ => rfl)
      · rw [xUn (by decide), xUn (by decide), xUn (by decide)]
        exact e96 p
      · rw [xUn (by decide), xUn (by decide), xUk (by decide)]
        exact k5
      · refine hG hG0 _ ts g1 (xAr_u h1 ⟨by omega, by omega⟩) ?_ ⟨⟨xUa, fun j hj => ?_⟩, ⟨?_, fun j hj => ?_⟩, ⟨?_, fun j hj => ?_⟩, fun j y hy => ?_, fun j hj => ?_⟩ ⟨fun q j q87 q94 q95 q96 q97 q98 q99 => ?_, fun k q9 q10 q11 q12 q13 q14 q15 q22 => ?_⟩
        · rw [xUn (by decide), h2 87 9 (by decide), xUn (by decide), xUn (by decide), xUa]
        · rw [xUk hj, h2 96 j (by decide), xUn (by decide), xUn (by decide), xUn (by decide)]
          exact e96 j
        · rw [xUn (by decide), h2 97 _ (by decide), xUn (by decide), xUa]
        · rw [xUn (by decide), h2 97 _ (by decide), xUn (by decide), xUk hj, xUn (by decide)]
          exact eo 97 j (by decide) (by decide) (by decide)
        · rw [xUn (by decide), h2 98 _ (by decide), xUa]
        · rw [xUn (by decide), h2 98 _ (by decide), xUk hj, xUn (by decide), xUn (by decide)]
          exact eo 98 j (by decide) (by decide) (by decide)
        · have hj : j < ts.length := by
            rcases Nat.lt_or_ge j ts.length with h | h
            · exact h
            · rw [List.getElem?_eq_none h] at hy
              cases hy
          rw [xUn (by decide), h3 (j : Int) (by omega) (by omega), xUn (by decide), xUn (by decide), xUn (by decide)]
          exact k6 j y hy
        · rw [xUn (by decide), h4 j (by omega), xUn (by decide), xUn (by decide), xUn (by decide)]
          exact eo 99 j (by decide) (by decide) (by decide)
        · rw [xUn q96, h2 q j q99, xUn q98, xUn q97, xUn q87, k9 q j q87 q94 q95, f1 q j q87]
        · rw [xUn (by decide), h2 87 k (by decide), xUn (by decide), xUn (by decide), xUk q9, k10 k q10 q12 q13 q14 q15 q22, f2 k q10 q11 q13 q14 q15]
  all_goals (
    (try unfold xK)
    intros
    first
      | exact hR (by omega)
      | (exfalso; omega))
end
end
end
