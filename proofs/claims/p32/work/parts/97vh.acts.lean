/-! acts, by rows -/
section
set_option maxRecDepth 100000


section
variable {ro : Nat → Nat × (Nat → Int32)} {d w : Nat} {Q : Option Value → pmS → Prop} {dr wp co pr cnt W : Int → Int} {T : Int → List Int} {n c p k x v : Int} {r r' : Int → Int} {a a' a0 : xA} {b b' : xB}
/-- whether an act can be done; the row behind it -/
def uAo (dr : Int → Int) (n c : Int) (r : Int → Int) : Prop := if c < 36 then ((c - 1) / 7 < n ∧ r (4 + (c - 1) / 7) = 20 ∧ ¬ r (9 + (c - 1) / 7) / ((2 ^ ((c - 1) % 7).toNat : Nat) : Int) % 2 = 0) ∧ ∀ p, 0 ≤ p → p < 4 → ¬ r p = (c - 1) % 7 else ¬ r (1 + (c - 36) / 7) = 7 ∧ ¬ dr (7 * r (1 + (c - 36) / 7) + (c - 36) % 7) = 0 ∧ (r 0 = 7 ∨ (¬ r 0 = (c - 36) % 7 ∧ ¬ r 0 = r (1 + (c - 36) / 7)))
def uAc (dr : Int → Int) (n c : Int) (r : Int → Int) : Prop := c = 0 ∨ (¬ r 114 = 0 ∧ r 115 = 0 ∧ uAo dr n c r)
def uAa (c : Int) (r : Int → Int) : Int → Int := fun j =>
  if j = 118 then r 118 + uPr c r else if j = 115 then 1
  else if c < 36 then (if j = 4 + (c - 1) / 7 then (c - 1) % 7 else if j = 9 + (c - 1) / 7 then 0 else if j = 116 then r 116 + 1 else r j)
  else (if j = 1 + (c - 36) / 7 then (c - 36) % 7 else if j = 117 then r 117 + 1 else r j)
def uAx (n c : Int) (r : Int → Int) : Int → Int := if c = 0 then r else uAl n (uAa c r)
theorem uAo_s (h : c < 36) : uAo dr n c r ↔ ((c - 1) / 7 < n ∧ r (4 + (c - 1) / 7) = 20 ∧ ¬ r (9 + (c - 1) / 7) / ((2 ^ ((c - 1) % 7).toNat : Nat) : Int) % 2 = 0) ∧ ∀ p, 0 ≤ p → p < 4 → ¬ r p = (c - 1) % 7 := by
  unfold uAo
  rw [if_pos h]
theorem uAo_h (h : ¬ c < 36) : uAo dr n c r ↔ ¬ r (1 + (c - 36) / 7) = 7 ∧ ¬ dr (7 * r (1 + (c - 36) / 7) + (c - 36) % 7) = 0 ∧ (r 0 = 7 ∨ (¬ r 0 = (c - 36) % 7 ∧ ¬ r 0 = r (1 + (c - 36) / 7))) := by
  unfold uAo
  rw [if_neg h]
theorem uAl_hi (hn5 : n ≤ 5) (hr : uRv n r) {j : Int} (hj : 41 ≤ j) : uAl n r j = r j := by
  have h1 := uRv_f hn5 hr
  exact ((uRv_a hn5 3 1 _ h1.1 (by decide) (by decide)).2 j (by omega)).trans (h1.2 j (by omega))
theorem uAa_hi (hc : 1 ≤ c ∧ c ≤ 56) {j : Int} (hj : 41 ≤ j) : uAa c r j = if j = 118 then r 118 + uPr c r else if j = 115 then 1 else if j = 116 ∧ c < 36 then r 116 + 1 else if j = 117 ∧ ¬ c < 36 then r 117 + 1 else r j := by
  unfold uAa
  by_cases h1 : j = 118
  · rw [if_pos h1, if_pos h1]
  rw [if_neg h1, if_neg h1]
  by_cases h2 : j = 115
  · rw [if_pos h2, if_pos h2]
  rw [if_neg h2, if_neg h2]
  by_cases h3 : c < 36
  · rw [if_pos h3, if_neg (show ¬ j = 4 + (c - 1) / 7 by omega), if_neg (show ¬ j = 9 + (c - 1) / 7 by omega)]
    by_cases h4 : j = 116
    · rw [if_pos h4, if_pos ⟨h4, h3⟩]
    · rw [if_neg h4, if_neg (fun h => h4 h.1), if_neg (fun h => h.2 h3)]
  · rw [if_neg h3, if_neg (show ¬ j = 1 + (c - 36) / 7 by omega), if_neg (show ¬ (j = 116 ∧ c < 36) from fun h => h3 h.2)]
    by_cases h4 : j = 117
    · rw [if_pos h4, if_pos ⟨h4, h3⟩]
    · rw [if_neg h4, if_neg (fun h => h4 h.1)]
theorem uAa_lo (hc : 1 ≤ c ∧ c ≤ 56) {j : Int} (hj : j < 41) : uAa c r j = if c < 36 then (if j = 4 + (c - 1) / 7 then (c - 1) % 7 else if j = 9 + (c - 1) / 7 then 0 else r j) else (if j = 1 + (c - 36) / 7 then (c - 36) % 7 else r j) := by
  unfold uAa
  rw [if_neg (show ¬ j = 118 by omega), if_neg (show ¬ j = 115 by omega), if_neg (show ¬ j = 116 by omega), if_neg (show ¬ j = 117 by omega)]
/-- a row behind an act may be -/
theorem uRv_x (hn0 : 0 ≤ n ∧ n ≤ 5) (hr : uRv n r) (hc : 1 ≤ c ∧ c ≤ 56) : uRv n (uAa c r) := by
  have lo : ∀ j, j < 41 → uAa c r j = _ := fun j hj => uAa_lo hc hj
  obtain ⟨g1, g2, g3, g4, g5, g6⟩ := hr
  by_cases hs : c < 36
  · have e : ∀ j, j < 41 → uAa c r j = if j = 4 + (c - 1) / 7 then (c - 1) % 7 else if j = 9 + (c - 1) / 7 then 0 else r j := fun j hj => (lo j hj).trans (if_pos hs)
    have hm : 0 ≤ (c - 1) % 7 ∧ (c - 1) % 7 ≤ 6 := by omega
    have hx : 0 ≤ (c - 1) / 7 ∧ (c - 1) / 7 ≤ 4 := by omega
    clear lo
    generalize (c - 1) % 7 = rm at e hm
    generalize (c - 1) / 7 = x at e hx
    refine ⟨fun q q0 q1 => ?_, fun y y0 y1 => ?_, fun y y0 y1 => ?_, fun f y f0 f1 y0 y1 => ?_, fun f q f0 f1 q0 q1 => ?_, fun f y f0 f1 yn y0 y1 => ?_⟩
    · rw [e q (by omega), if_neg (by omega), if_neg (by omega)]
      exact g1 q q0 q1
    · rw [e _ (by omega)]
      have := g2 y y0 y1
      by_cases c1 : 4 + y = 4 + x
      · rw [if_pos c1]
        omega
      · rw [if_neg c1, if_neg (by omega)]
        exact this
    · rw [e _ (by omega), if_neg (by omega)]
      have := g3 y y0 y1
      by_cases c1 : 9 + y = 9 + x
      · rw [if_pos c1]
        omega
      · rw [if_neg c1]
        exact this
    · rw [e _ (by omega), if_neg (by omega), if_neg (by omega)]
      exact g4 f y f0 f1 y0 y1
    · rw [e _ (by omega), if_neg (by omega), if_neg (by omega)]
      exact g5 f q f0 f1 q0 q1
    · rw [e _ (by omega), if_neg (by omega), if_neg (by omega)]
      exact g6 f y f0 f1 yn y0 y1
  · have e : ∀ j, j < 41 → uAa c r j = if j = 1 + (c - 36) / 7 then (c - 36) % 7 else r j := fun j hj => (lo j hj).trans (if_neg hs)
    have hm : 0 ≤ (c - 36) % 7 ∧ (c - 36) % 7 ≤ 6 := by omega
    have hx : 0 ≤ (c - 36) / 7 ∧ (c - 36) / 7 ≤ 2 := by omega
    clear lo
    generalize (c - 36) % 7 = rm at e hm
    generalize (c - 36) / 7 = x at e hx
    refine ⟨fun q q0 q1 => ?_, fun y y0 y1 => ?_, fun y y0 y1 => ?_, fun f y f0 f1 y0 y1 => ?_, fun f q f0 f1 q0 q1 => ?_, fun f y f0 f1 yn y0 y1 => ?_⟩
    · rw [e q (by omega)]
      have := g1 q q0 q1
      split <;> omega
    · rw [e _ (by omega), if_neg (by omega)]
      exact g2 y y0 y1
    · rw [e _ (by omega), if_neg (by omega)]
      exact g3 y y0 y1
    · rw [e _ (by omega), if_neg (by omega)]
      exact g4 f y f0 f1 y0 y1
    · rw [e _ (by omega), if_neg (by omega)]
      exact g5 f q f0 f1 q0 q1
    · rw [e _ (by omega), if_neg (by omega)]
      exact g6 f y f0 f1 yn y0 y1
/-- canAct of the reference -/
theorem u217 (hA : xAr a) (hn : a 87 2 = n) (hn0 : 0 ≤ n ∧ n ≤ 5) (hdr : ∀ k, 0 ≤ k → k < 49 → a 90 k = dr k ∧ (dr k = 0 ∨ dr k = 1)) (hr : uRv n (a 88)) (hB114 : 0 ≤ a 88 114 ∧ a 88 114 ≤ 100) (hB115 : 0 ≤ a 88 115 ∧ a 88 115 ≤ 1) (hc : 0 ≤ c ∧ c ≤ 56) (hd : 3 ≤ d) (hT : uAc dr n c (a 88) → Q (some (xV 1)) (xS a b)) (hF : ¬ uAc dr n c (a 88) → Q (some (xV 0)) (xS a b)) : pmCs ro d 217 [.ref 87, xV c] (xS a b) Q := by
  refine pmCs_deep (d := 3) (xg217 (w217 hA hc hB114 hB115 (fun e1 e2 => hF (fun h => h.elim e1 (fun h => h.1 e2))) (fun e1 e2 e3 e4 => ?_) (fun e1 e2 e3 e4 => ?_) (fun e1 e2 e3 => hF (fun h => h.elim e1 (fun h => e3 h.2.1))) (fun e => hT (Or.inl e)))) hd
  · have yes : uAo dr n c (a 88) → Q (some (xV 1)) (xS a b) := fun h => hT (Or.inr ⟨e2, e3, h⟩)
    have no : ¬ uAo dr n c (a 88) → Q (some (xV 0)) (xS a b) := fun h => hF (fun g => g.elim e1 (fun g => h g.2.2))
    rw [uAo_h (by omega)] at yes no
    have hp : 1 ≤ 1 + (c - 36) / 7 ∧ 1 + (c - 36) / 7 ≤ 3 := by omega
    have hm : 0 ≤ (c - 36) % 7 ∧ (c - 36) % 7 ≤ 6 := by omega
    generalize 1 + (c - 36) / 7 = p at yes no hp ⊢
    generalize (c - 36) % 7 = rm at yes no hm ⊢
    have hrp := hr.1 p (by omega) (by omega)
    obtain ⟨rp, erp⟩ : ∃ z, a 88 p = z := ⟨_, rfl⟩
    rw [erp] at yes no hrp
    have t : ∀ z, (z = 0 ∨ z = 1) → Q (some (xV z)) (xS a b) → pmWp ro 2 12 217 2 73 [some (.ref 87), some (xV c)] [xV z] (xS a b) Q := fun z hz h => w217b hz h
    refine pmCs_deep (d := 2) (xg219 (w219 hA hp hm (by rw [Int.zero_add]; exact erp) erp hrp (by decide) ?_ ?_ ?_ ?_ ?_ ?_ ?_ ?_)) (by decide)
    · intro _ h1 _ h2 h3 h4
      exact t 0 (by decide) (no (fun h => h.2.2.elim h3 (fun h => h.1 h4)))
    · intro _ h1 _ h2 h3 h4 h5
      exact t 0 (by decide) (no (fun h => h.2.2.elim h3 (fun h => h.2 h5)))
    · intro _ h1 _ h2 h3 h4 h5
      refine t 1 (by decide) (yes ⟨by omega, ?_, Or.inr ⟨h4, h5⟩⟩)
      rw [← (hdr (7 * rp + rm) (by omega) (by omega)).1]
      exact h2
    · intro _ h1 _ h2 h3
      refine t 1 (by decide) (yes ⟨by omega, ?_, Or.inl h3⟩)
      rw [← (hdr (7 * rp + rm) (by omega) (by omega)).1]
      exact h2
    · intro _ h1 _ h2
      refine t 0 (by decide) (no (fun h => h.2.1 ?_))
      rw [← (hdr (7 * rp + rm) (by omega) (by omega)).1]
      exact h2
    · intro _ _ h
      exact absurd ⟨hm.1, by omega⟩ h
    · intro _ h1
      exact t 0 (by decide) (no (fun h => h.1 (by omega)))
    · intro h
      exact absurd ⟨hp.1, by omega⟩ h
  · have yes : uAo dr n c (a 88) → Q (some (xV 1)) (xS a b) := fun h => hT (Or.inr ⟨e2, e3, h⟩)
    have no : ¬ uAo dr n c (a 88) → Q (some (xV 0)) (xS a b) := fun h => hF (fun g => g.elim e1 (fun g => h g.2.2))
    rw [uAo_s (by omega)] at yes no
    have hx : 0 ≤ (c - 1) / 7 ∧ (c - 1) / 7 ≤ 4 := by omega
    have hm : 0 ≤ (c - 1) % 7 ∧ (c - 1) % 7 ≤ 6 := by omega
    generalize (c - 1) / 7 = x at yes no hx ⊢
    generalize (c - 1) % 7 = rm at yes no hm ⊢
    have hst := hr.2.2.1 x hx.1 (by omega)
    have t : ∀ z, (z = 0 ∨ z = 1) → Q (some (xV z)) (xS a b) → pmWp ro 2 12 217 2 50 [some (.ref 87), some (xV c)] [xV z] (xS a b) Q := fun z hz h => w217a hz h
    refine pmCs_deep (d := 2) (xg218 (w218 hA hn hn0 hx hm hst (by decide) ?_ ?_ ?_ ?_ ?_)) (by decide)
    · intro _ _ h
      exact t 0 (by decide) (no (fun g => h g.1.2.1))
    · intro h1 _ h2 h3
      have loop : ∀ (m : Nat) (q : Int), q + (m : Int) = 4 → 0 ≤ q → (∀ p, 0 ≤ p → p < q → ¬ a 88 p = rm) → pmWp ro 1 12 218 2 48 [some (.ref 87), some (xV x), some (xV rm), some (xV q)] [] (xS a b) (fun r' s' => pmWp ro 2 12 217 2 50 [some (.ref 87), some (xV c)] (r'.toList ++ []) s' Q) := by
        intro m
        induction m with
        | zero =>
          intro q hq q0 g
          exact w218p hA hm ⟨q0, by omega⟩ (by decide) (fun _ => t 1 (by decide) (yes ⟨⟨h1.2, h2, h3⟩, fun p p0 p1 => g p p0 (by omega)⟩)) (fun e => absurd (by omega) e) (fun e => absurd (by omega) e)
        | succ m ih =>
          intro q hq q0 g
          refine w218p hA hm ⟨q0, by omega⟩ (by decide) (fun e => absurd e (by omega)) (fun _ e => t 0 (by decide) (no (fun h => h.2 q q0 (by omega) e.2))) (fun _ e => ih (q + 1) (by omega) (by omega) (fun p p0 p1 => ?_))
          by_cases cp : p = q
          · rw [cp]
            exact fun h => e ⟨⟨q0, by omega⟩, h⟩
          · exact g p p0 (by omega)
      exact loop 4 0 (by decide) (by decide) (fun p p0 p1 => absurd p1 (by omega))
    · intro _ _ _ h
      exact t 0 (by decide) (no (fun g => g.1.2.2 h))
    · intro _ h
      exact absurd ⟨hm.1, by omega⟩ h
    · intro h
      exact t 0 (by decide) (no (fun g => h ⟨hx.1, g.1.1⟩))
/-- acts of the reference -/
theorem u221 (hA : xAr a) (hn : a 87 2 = n) (hn0 : 0 ≤ n ∧ n ≤ 5) (hr : uRv n (a 88)) (h116 : 0 ≤ a 88 116 ∧ a 88 116 ≤ 1000) (h117 : 0 ≤ a 88 117 ∧ a 88 117 ≤ 1000) (h118 : 0 ≤ a 88 118 ∧ a 88 118 ≤ 1000000) (hc : 0 ≤ c ∧ c ≤ 56) (hd : 4 ≤ d) (hQ : ∀ a', (∀ q j, q ≠ 88 → a' q j = a q j) → xAr a' → a' 88 = uAx n c (a 88) → Q none (xS a' b)) : pmCs ro d 221 [.ref 87, xV c] (xS a b) Q := by
  have fin : ∀ a1, c ≠ 0 → (∀ q j, q ≠ 88 → a1 q j = a q j) → xAr a1 → a1 88 = uAa c (a 88) → pmCs ro 3 174 [.ref 87] (xS a1 b) (fun r' s' => pmWp ro 3 12 221 0 115 [some (.ref 87), some (xV c)] (r'.toList ++ []) s' Q) := by
    intro a1 c0 x1 A1 R1
    refine u174 A1 ((x1 87 2 (by decide)).trans hn) hn0 (by rw [R1]; exact uRv_x hn0 hr ⟨by omega, hc.2⟩) (by decide) (fun a2 x2 A2 R2 => w221r (hQ a2 (fun q j e => (x2 q j e).trans (x1 q j e)) A2 ?_))
    unfold uAx
    rw [if_neg c0, R2, R1]
  refine pmCs_deep (d := 4) (xg221 (w221 hc (by decide) (fun e1 e2 => fin _ e1 (fun q j h => ?_) ?_ ?_) (fun e1 e2 => fin _ e1 (fun q j h => ?_) ?_ ?_) (fun e => hQ a (fun _ _ _ => rfl) hA ?_))) hd
  · rw [xUn h, xUn h, xUn h, xUn h]
  · have hpb := uPr_b (c := c) h116 h117
    exact xAr_u (xAr_u (xAr_u (xAr_u hA ⟨by omega, by omega⟩) ⟨by decide, by decide⟩) ⟨by omega, by omega⟩) ⟨by omega, by omega⟩
  · funext j
    rw [xU_row, xU_row, xU_row, xU_row]
    unfold uAa
    dsimp only
    rw [if_neg (show ¬ c < 36 by omega)]
    by_cases c1 : j = 1 + (c - 36) / 7
    · rw [if_pos c1, if_neg (by omega), if_neg (by omega), if_pos c1]
    · rw [if_neg c1, if_neg c1]
      by_cases c2 : j = 117
      · rw [if_pos c2, if_neg (by omega), if_neg (by omega), if_pos c2]
      · rw [if_neg c2, if_neg c2]
        by_cases c3 : j = 115
        · rw [if_pos c3, if_neg (by omega), if_pos c3]
        · rw [if_neg c3, if_neg c3]
  · rw [xUn h, xUn h, xUn h, xUn h, xUn h]
  · have hpb := uPr_b (c := c) h116 h117
    exact xAr_u (xAr_u (xAr_u (xAr_u (xAr_u hA ⟨by omega, by omega⟩) ⟨by decide, by decide⟩) ⟨by omega, by omega⟩) ⟨by omega, by omega⟩) xR0
  · funext j
    rw [xU_row, xU_row, xU_row, xU_row, xU_row]
    unfold uAa
    dsimp only
    rw [if_pos (show c < 36 by omega)]
    by_cases c1 : j = 9 + (c - 1) / 7
    · rw [if_pos c1, if_neg (by omega), if_neg (by omega), if_neg (by omega), if_pos c1]
    · rw [if_neg c1, if_neg c1]
      by_cases c4 : j = 4 + (c - 1) / 7
      · rw [if_pos c4, if_neg (by omega), if_neg (by omega), if_pos c4]
      · rw [if_neg c4, if_neg c4]
        by_cases c2 : j = 116
        · rw [if_pos c2, if_neg (by omega), if_neg (by omega), if_pos c2]
        · rw [if_neg c2, if_neg c2]
          by_cases c3 : j = 115
          · rw [if_pos c3, if_neg (by omega), if_pos c3]
          · rw [if_neg c3, if_neg c3]
  · unfold uAx
    rw [if_pos e]
/-- lays, takesUp -/
def uLa (s : Int) (a : xA) : xA := fun q j => if q = 89 ∧ 120 * s ≤ j ∧ j < 120 * s + 120 then a 88 (j - 120 * s) else a q j
theorem u181 {s : Int} (hs : 0 ≤ s ∧ s ≤ 9) (hd : 1 ≤ d) (hQ : Q none (xS (uLa s a) b)) : pmCs ro d 181 [.ref 87, xV s] (xS a b) Q := by
  refine pmCs_deep (d := 1) (xg181 (w181 ?_)) hd
  have loop : ∀ (m : Nat) (k : Int) (a1 : xA), k + (m : Int) = 120 → 0 ≤ k → (a1 = fun q j => if q = 89 ∧ 120 * s ≤ j ∧ j < 120 * s + k then a 88 (j - 120 * s) else a q j) → pmWp ro 0 12 181 0 2 [some (.ref 87), some (xV s), some (xV k)] [] (xS a1 b) Q := by
    intro m
    induction m with
    | zero =>
      intro k a1 hk k0 e
      refine w181k hs ⟨k0, by omega⟩ (fun _ => ?_) (fun h => absurd (by omega) h)
      rw [e, show k = 120 by omega]
      exact hQ
    | succ m ih =>
      intro k a1 hk k0 e
      refine w181k hs ⟨k0, by omega⟩ (fun h => absurd h (by omega)) (fun _ => ih (k + 1) _ (by omega) (by omega) ?_)
      funext q j
      have e88 : a1 88 k = a 88 k := by
        rw [e]
        exact if_neg (fun h => absurd h.1 (by decide))
      by_cases c1 : q = 89 ∧ j = 120 * s + k
      · rw [c1.1, c1.2, xUa, e88]
        rw [if_pos ⟨rfl, by omega, by omega⟩, show 120 * s + k - 120 * s = k by omega]
      · rw [xUo c1, e]
        exact uIfP ⟨fun h => ⟨h.1, h.2.1, by omega⟩, fun h => ⟨h.1, h.2.1, by
          have : ¬ j = 120 * s + k := fun g => c1 ⟨h.1, g⟩
          omega⟩⟩ (fun _ => rfl) (fun _ => rfl)
  refine loop 120 0 a (by decide) (by decide) ?_
  funext q j
  exact (if_neg (fun h => by omega)).symm
def uTa (s : Int) (a : xA) : xA := fun q j => if q = 88 ∧ 0 ≤ j ∧ j < 120 then a 89 (120 * s + j) else a q j
theorem u227 {s : Int} (hs : 0 ≤ s ∧ s ≤ 9) (hd : 1 ≤ d) (hQ : Q none (xS (uTa s a) b)) : pmCs ro d 227 [.ref 87, xV s] (xS a b) Q := by
  refine pmCs_deep (d := 1) (xg227 (w227 ?_)) hd
  have loop : ∀ (m : Nat) (k : Int) (a1 : xA), k + (m : Int) = 120 → 0 ≤ k → (a1 = fun q j => if q = 88 ∧ 0 ≤ j ∧ j < k then a 89 (120 * s + j) else a q j) → pmWp ro 0 12 227 0 2 [some (.ref 87), some (xV s), some (xV k)] [] (xS a1 b) Q := by
    intro m
    induction m with
    | zero =>
      intro k a1 hk k0 e
      refine w227k hs ⟨k0, by omega⟩ (fun _ => ?_) (fun h => absurd (by omega) h)
      rw [e, show k = 120 by omega]
      exact hQ
    | succ m ih =>
      intro k a1 hk k0 e
      refine w227k hs ⟨k0, by omega⟩ (fun h => absurd h (by omega)) (fun _ => ih (k + 1) _ (by omega) (by omega) ?_)
      funext q j
      have e89 : a1 89 (120 * s + k) = a 89 (120 * s + k) := by
        rw [e]
        exact if_neg (fun h => absurd h.1 (by decide))
      by_cases c1 : q = 88 ∧ j = k
      · rw [c1.1, c1.2, xUa, e89]
        rw [if_pos ⟨rfl, by omega, by omega⟩]
      · rw [xUo c1, e]
        exact uIfP ⟨fun h => ⟨h.1, h.2.1, by omega⟩, fun h => ⟨h.1, h.2.1, by
          have : ¬ j = k := fun g => c1 ⟨h.1, g⟩
          omega⟩⟩ (fun _ => rfl) (fun _ => rfl)
  refine loop 120 0 a (by decide) (by decide) ?_
  funext q j
  exact (if_neg (fun h => by omega)).symm
end
end
