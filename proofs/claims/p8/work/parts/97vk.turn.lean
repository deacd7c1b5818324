section
/-! turn, by rows: deeds by numbers -/
section
set_option maxRecDepth 100000


section
variable {ro : Nat → Nat × (Nat → Int32)} {d w : Nat} {Q : Option Value → pmS → Prop} {dr wp co pr cnt W : Int → Int} {T : Int → List Int} {n f kk k x y cd wt p : Int} {S S' r r' : Int → Int} {a a' a0 : xA} {b b' : xB}
/-- a deed by kind, x and y -/
abbrev uFt (kk x y : Int) : Prop := (kk = 0 ∧ x = -1 ∧ y = -1) ∨ (kk = 1 ∧ (0 ≤ x ∧ x < 7) ∧ y = -1) ∨ ((kk = 2 ∨ kk = 3) ∧ (0 ≤ x ∧ x < 5) ∧ y = -1) ∨ ((kk = 4 ∨ kk = 6) ∧ (0 ≤ x ∧ x < 5) ∧ 0 ≤ y ∧ y < 4) ∨ (kk = 5 ∧ (0 ≤ x ∧ x < 4) ∧ y = -1)
def uQc (kk x y : Int) : Int := if kk = 0 then -1 else if kk = 1 then x else if kk = 2 then 7 + x else if kk = 3 then 12 + x else if kk = 4 then 17 + 4 * x + y else if kk = 5 then 37 + x else 41 + 4 * x + y
theorem uQc_0 : uQc 0 (-1) (-1) = -1 := rfl
theorem uKd6 (hk : 41 ≤ k ∧ k < 61) : uK k = 6 ∧ uX k = (k - 41) / 4 ∧ uY k = (k - 41) % 4 := by
  unfold uK uX uY
  rw [if_neg (show ¬ k < 0 by omega), if_neg (show ¬ k < 7 by omega), if_neg (show ¬ k < 12 by omega), if_neg (show ¬ k < 17 by omega), if_neg (show ¬ k < 37 by omega), if_neg (show ¬ k < 41 by omega)]
  rw [if_neg (show ¬ k < 0 by omega), if_neg (show ¬ k < 7 by omega), if_neg (show ¬ k < 12 by omega), if_neg (show ¬ k < 17 by omega), if_neg (show ¬ k < 37 by omega), if_neg (show ¬ k < 41 by omega)]
  exact ⟨rfl, rfl, by rw [if_neg (show ¬ k < 17 by omega), if_neg (show ¬ k < 37 by omega), if_neg (show ¬ k < 41 by omega)]⟩
theorem uQc_k : ∀ u : Fin 7, ∀ v : Fin 8, ∀ w : Fin 5, uFt (u.val : Int) ((v.val : Int) - 1) ((w.val : Int) - 1) → (-1 ≤ uQc (u.val : Int) ((v.val : Int) - 1) ((w.val : Int) - 1) ∧ uQc (u.val : Int) ((v.val : Int) - 1) ((w.val : Int) - 1) < 61) ∧ uK (uQc (u.val : Int) ((v.val : Int) - 1) ((w.val : Int) - 1)) = (u.val : Int) ∧ uX (uQc (u.val : Int) ((v.val : Int) - 1) ((w.val : Int) - 1)) = (v.val : Int) - 1 ∧ uY (uQc (u.val : Int) ((v.val : Int) - 1) ((w.val : Int) - 1)) = (w.val : Int) - 1 := by decide +kernel
theorem uFt_b (h : uFt kk x y) : (0 ≤ kk ∧ kk < 7) ∧ (-1 ≤ x ∧ x < 7) ∧ -1 ≤ y ∧ y < 4 := by
  rcases h with h | h | h | h | h <;> omega
theorem uQc_f (h : uFt kk x y) : (-1 ≤ uQc kk x y ∧ uQc kk x y < 61) ∧ uK (uQc kk x y) = kk ∧ uX (uQc kk x y) = x ∧ uY (uQc kk x y) = y := by
  obtain ⟨b1, b2, b3⟩ := uFt_b h
  have e1 : ((kk.toNat : Nat) : Int) = kk := Int.toNat_of_nonneg b1.1
  have e2 : (((x + 1).toNat : Nat) : Int) - 1 = x := by
    rw [Int.toNat_of_nonneg (by omega)]
    omega
  have e3 : (((y + 1).toNat : Nat) : Int) - 1 = y := by
    rw [Int.toNat_of_nonneg (by omega)]
    omega
  have key := uQc_k ⟨kk.toNat, (Int.toNat_lt b1.1).mpr b1.2⟩ ⟨(x + 1).toNat, (Int.toNat_lt (by clear h; omega)).mpr (by clear h; omega)⟩ ⟨(y + 1).toNat, (Int.toNat_lt (by clear h; omega)).mpr (by clear h; omega)⟩
  dsimp only at key
  rw [e1, e2, e3] at key
  exact key h
/-- kept from omega -/
def uFw (kk x y : Int) : Prop := uFt kk x y
theorem uFt_c (hk : 0 ≤ k ∧ k < 61) : uFt (uK k) (uX k) (uY k) ∧ uQc (uK k) (uX k) (uY k) = k := by
  have key : ∀ v : Fin 61, uFt (uK (v.val : Int)) (uX (v.val : Int)) (uY (v.val : Int)) ∧ uQc (uK (v.val : Int)) (uX (v.val : Int)) (uY (v.val : Int)) = (v.val : Int) := by decide +kernel
  have := key ⟨k.toNat, by omega⟩
  have e : ((k.toNat : Nat) : Int) = k := by omega
  rw [e] at this
  exact this
/-- codeOf -/
theorem u205 (q1 : xR kk) (q2 : xR x) (q3 : xR y) (hk0 : ¬ kk = 0) (hd : 2 ≤ d) (hT : uFt kk x y → Q (some (xV (uQc kk x y))) (xS a b)) (hF : ¬ uFt kk x y → Q (some (xV (-1))) (xS a b)) : pmCs ro d 205 [xV kk, xV x, xV y] (xS a b) Q := by
  refine pmCs_deep (d := 2) (xg205 (w205 ?_)) hd
  have loop : ∀ (m : Nat) (k : Int), k + (m : Int) = 61 → 0 ≤ k → (uFw kk x y → k ≤ uQc kk x y) → pmWp ro 1 12 205 1 2 [some (xV kk), some (xV x), some (xV y), some (xV k)] [] (xS a b) Q := by
    intro m
    induction m with
    | zero =>
      intro k hk k0 g
      have e : k = 61 := by omega
      subst e
      refine w205k q1 q2 q3 (by decide) (by decide) (by decide) (by decide) (by decide) (fun _ => hF (fun h => ?_)) (fun e => absurd (by decide) e) (fun e => absurd (by decide) e) (fun e => absurd (by decide) e) (fun e => absurd (by decide) e)
      have := g h
      have := (uQc_f h).1
      omega
    | succ m ih =>
      intro k hk k0 g
      have nx : ¬ (uK k = kk ∧ uX k = x ∧ uY k = y) → pmWp ro 1 12 205 1 2 [some (xV kk), some (xV x), some (xV y), some (xV (k + 1))] [] (xS a b) Q := fun hn => ih (k + 1) (by omega) (by omega) (fun h => by
        have h1 := g h
        have h2 := uQc_f h
        by_cases c : uQc kk x y = k
        · rw [c] at h2
          exact absurd h2.2 hn
        · omega)
      refine w205k q1 q2 q3 ⟨k0, by omega⟩ (uKb ⟨by omega, by omega⟩) (uXb ⟨by omega, by omega⟩) (uYb ⟨by omega, by omega⟩) (by decide) (fun e => absurd e (by omega)) (fun _ e => nx (fun h => e h.1)) (fun _ _ e => nx (fun h => e h.2.1)) (fun _ _ _ e => nx (fun h => e h.2.2)) (fun _ e1 e2 e3 => ?_)
      have hc := uFt_c (k := k) ⟨k0, by omega⟩
      rw [e1, e2, e3] at hc
      have := hT hc.1
      rw [hc.2] at this
      exact this
  exact loop 61 0 (by decide) (by decide) (fun h => by
    have h1 := (uQc_f h)
    by_cases c : uQc kk x y = -1
    · rw [c] at h1
      exact absurd h1.2.1.symm hk0
    · omega)
/-- deedOf -/
theorem u88 (q1 : xR kk) (q2 : xR x) (q3 : xR y) (hd : 2 ≤ d) (hT : uFt kk x y → Q (some (xV (uD (uQc kk x y)))) (xS a b)) (hF : ¬ uFt kk x y → Q (some (xV (-1))) (xS a b)) : pmCs ro d 88 [xV kk, xV x, xV y] (xS a b) Q := by
  have at93 : ∀ g g2 : Int, (0 ≤ kk ∧ kk ≤ 6) → (g = 0 ∨ g = 1) → (g2 = 0 ∨ g2 = 1) → (g = 1 ∧ g2 = 1 ↔ uFt kk x y) → pmWp ro 1 11 88 1 93 [some (xV kk), some (xV x), some (xV y), some (xV g), some (xV g2)] [] (xS a b) Q := by
    intro g g2 hkk hg hg2 hi
    refine w88c hkk q2 q3 hg hg2 (by decide) (fun e => hF (fun h => absurd ((hi.mpr h).1.symm.trans e) (by decide))) (fun _ e => hF (fun h => absurd ((hi.mpr h).2.symm.trans e) (by decide))) (fun e1 e2 => ?_)
    · have hf := hi.mp ⟨hg.resolve_left e1, hg2.resolve_left e2⟩
      have hq := uQc_f hf
      have hTf := hT hf
      clear hf hi hT hF
      obtain ⟨d0, d1, d2, d3, d4⟩ := uD_p (k := uQc kk x y) hq.1
      have e6 : ((2 ^ 6 : Nat) : Int) = 64 := rfl
      have e3 : ((2 ^ 3 : Nat) : Int) = 8 := rfl
      have hx : -1 ≤ x ∧ x ≤ 6 := by
        have := uXb hq.1
        omega
      have hy : -1 ≤ y ∧ y ≤ 3 := by
        have := uYb hq.1
        omega
      have o1 := xOr_dj 6 (by decide) (m := kk) (y := (x + 1) * 8) ⟨hkk.1, by omega⟩ (by rw [e6]; omega)
      have o2 := xOr_dj 3 (by decide) (m := 8 * kk + (x + 1)) (y := y + 1) ⟨by omega, by omega⟩ (by rw [e3]; omega)
      rw [e6] at o1
      rw [e3] at o2
      have e : xOr (xOr (kk * 64) ((x + 1) * 8)) (y + 1) = uD (uQc kk x y) := by
        rw [show kk * 64 = 64 * kk by omega, o1, show 64 * kk + (x + 1) * 8 = 8 * (8 * kk + (x + 1)) by omega, o2]
        by_cases c : uQc kk x y = -1
        · rw [d4 c]
          rw [c] at hq
          have h1 : uK (-1) = 0 := rfl
          have h2 : uX (-1) = -1 := rfl
          have h3 : uY (-1) = -1 := rfl
          omega
        · have := d3 (by omega)
          omega
      rw [e]
      exact hTf
  have at63 : ∀ g : Int, (0 ≤ kk ∧ kk ≤ 6) → (g = 0 ∨ g = 1) → (g = 1 ↔ (kk = 0 ∧ x = -1) ∨ (kk = 1 ∧ 0 ≤ x ∧ x < 7) ∨ ((kk = 2 ∨ kk = 3 ∨ kk = 4 ∨ kk = 6) ∧ 0 ≤ x ∧ x < 5) ∨ (kk = 5 ∧ 0 ≤ x ∧ x < 4)) → pmWp ro 1 11 88 1 63 [some (xV kk), some (xV x), some (xV y), some (xV g), none] [] (xS a b) Q := by
    intro g hkk hg hi
    rcases hg with rfl | rfl
    · have hn : ¬ ((kk = 0 ∧ x = -1) ∨ (kk = 1 ∧ 0 ≤ x ∧ x < 7) ∨ ((kk = 2 ∨ kk = 3 ∨ kk = 4 ∨ kk = 6) ∧ 0 ≤ x ∧ x < 5) ∨ (kk = 5 ∧ 0 ≤ x ∧ x < 4)) := fun h => absurd (hi.mpr h) (by decide)
      have nu : ¬ uFt kk x y := fun h => hn (by
        clear hn hi at93 hT hF
        rcases h with h | h | h | h | h <;> omega)
      clear hi hn
      refine w88b hkk q2 q3 (Or.inl rfl) (by decide) ?_ ?_ ?_ ?_ ?_ ?_ <;> intros <;> exact at93 0 _ hkk (Or.inl rfl) (by decide) ⟨fun h => absurd h.1 (by decide), fun h => absurd h nu⟩
    · have ha := hi.mp rfl
      clear hi
      refine w88b hkk q2 q3 (Or.inr rfl) (by decide) ?_ ?_ ?_ ?_ ?_ ?_ <;> intros <;> refine at93 1 _ hkk (Or.inr rfl) (by decide) ?_ <;> clear at93 hT hF <;> (first | (refine ⟨fun h => absurd h.2 (by decide), fun h => ?_⟩; rcases h with h | h | h | h | h <;> omega) | (refine ⟨fun _ => ?_, fun _ => ⟨rfl, rfl⟩⟩; rcases ha with ha | ha | ha | ha <;> omega))
  refine pmCs_deep (d := 2) (xg88 (w88 q1 q2 q3 (by decide) ?_ ?_ ?_ ?_ ?_ ?_ ?_ ?_ ?_ ?_ ?_)) hd <;> intros
  all_goals first
    | (refine at63 _ (by omega) (by decide) ?_
       clear at63 at93 hT hF
       constructor <;> intro <;> omega)
    | (refine hF (fun h => ?_)
       clear at63 at93 hT hF
       omega)
theorem uCan_q (h : uQ S S') (hf : 0 ≤ f ∧ f ≤ 3) (hk : 0 ≤ k ∧ k < 41) : uCan dr wp f S k ↔ uCan dr wp f S' k := by
  have hx : uX k = if k < 0 then -1 else if k < 7 then k else if k < 12 then k - 7 else if k < 17 then k - 12 else if k < 37 then (k - 17) / 4 else if k < 41 then k - 37 else (k - 41) / 4 := rfl
  have hy : uY k = if k < 17 then -1 else if k < 37 then (k - 17) % 4 else if k < 41 then -1 else (k - 41) % 4 := rfl
  have ef := h f (by omega) (by omega)
  unfold uCan uArm
  rw [ef, h 4 (by decide) (by decide), h 5 (by decide) (by decide), h 6 (by decide) (by decide), h 7 (by decide) (by decide), h 8 (by decide) (by decide)]
  by_cases k7 : k < 7
  · rw [if_pos k7, if_pos k7]
  rw [if_neg k7, if_neg k7]
  by_cases k12 : k < 12
  · rw [if_pos k12, if_pos k12, h (4 + uX k) (by omega) (by omega)]
  rw [if_neg k12, if_neg k12]
  by_cases k17 : k < 17
  · rw [if_pos k17, if_pos k17, h (4 + uX k) (by omega) (by omega)]
  rw [if_neg k17, if_neg k17]
  by_cases k37 : k < 37
  · rw [if_pos k37, if_pos k37, h (4 + uX k) (by omega) (by omega), h (uY k) (by omega) (by omega)]
  rw [if_neg k37, if_neg k37, h (uX k) (by omega) (by omega)]
theorem uCa_q (h : uQ S S') (hp : 0 ≤ p ∧ p ≤ 3) (hk : -1 ≤ k ∧ k < 61) : uCa dr wp n p S k ↔ uCa dr wp n p S' k := by
  unfold uCa
  rw [h p (by omega) (by omega)]
  by_cases c : k = -1
  · exact ⟨fun _ => Or.inl c, fun _ => Or.inl c⟩
  by_cases k41 : k < 41
  · rw [if_pos k41, if_pos k41, uCan_q h hp ⟨by omega, k41⟩]
  · have hy := (uX_b (k := k) ⟨by omega, hk.2⟩).2.2.2.2.1 (Or.inr (uK6 (by omega) hk.2))
    rw [if_neg k41, if_neg k41, h (uY k) (by omega) (by omega)]
/-- what the stranger can do in the truth -/
theorem uCa_p (hr : uRv n r) (hk : 0 ≤ k ∧ k < 61) (h : uCa dr wp n 0 (uWs n r) k) : uCp n 0 k r := by
  rcases h with h | ⟨h1, h2⟩
  · omega
  have h0 := hr.1 0 (by decide) (by decide)
  have e0 := uWs_p (n := n) (r := r) (p := 0) (by decide)
  have mx : ∀ x, 0 ≤ x → ¬ x < n → uWs n r (4 + x) = 0 := fun x x0 xn => by
    unfold uWs
    rw [if_neg (by omega), if_neg (by omega)]
  rw [e0] at h1
  by_cases k41 : k < 41
  · rw [if_pos k41] at h2
    refine ⟨by omega, fun e => Classical.byContradiction (fun hx => ?_), fun e => ?_, fun e => ?_⟩
    all_goals
      unfold uCan at h2
      rcases uKd ⟨hk.1, k41⟩ with g | g | g | g | g
      all_goals first
        | (exfalso; omega)
        | skip
    · rw [if_neg (by omega), if_pos (by omega), mx (uX k) (by omega) hx, e0] at h2
      omega
    · rw [if_neg (by omega), if_neg (by omega), if_pos (by omega), mx (uX k) (by omega) hx] at h2
      omega
    · rw [if_neg (by omega), if_neg (by omega), if_neg (by omega), if_pos (by omega), mx (uX k) (by omega) hx] at h2
      omega
    · rw [if_neg (by omega), if_neg (by omega), if_neg (by omega), if_neg (by omega)] at h2
      exact h2.1
  · rw [if_neg k41] at h2
    have k6 := uK6 (by omega) hk.2
    have hy := (uX_b hk).2.2.2.2.1 (Or.inr k6)
    exact ⟨by omega, fun _ => h2.2.1, fun _ => by omega, fun e => by omega⟩
theorem uDe_hi (hn5 : n ≤ 5) (hr : uRv n r) (hp : 0 ≤ p ∧ p ≤ 3) (hk : 0 ≤ k ∧ k < 61) (hc : uCd n p k r) {j : Int} (hj : 41 ≤ j) (h9 : ¬ j = 119) : uDe n p k r j = r j := by
  have h1 := uRv_e hn5 (uRv_d hn5 hr hp hk hc)
  unfold uDe
  rw [uAl_hi hn5 h1 hj]
  show (if j = 119 then uDo n p k r 119 + 1 else uDo n p k r j) = _
  rw [if_neg h9]
  exact uDo_hi hn5 hp hk (fun e => (hc.2 e).2) hj
/-- rows of a turn -/
theorem uTr_v (hn0 : 0 ≤ n ∧ n ≤ 5) (hr : uRv n r) (hcd : cd = -1 ∨ ((0 ≤ cd ∧ cd < 61) ∧ (¬ r 0 = 7 → uCp n 0 cd r))) : ∀ q : Nat, q ≤ 4 → uRv n (uTr dr wp pr cnt W T n cd wt r q) ∧ ∀ j, 41 ≤ j → ¬ j = 119 → uTr dr wp pr cnt W T n cd wt r q j = r j := by
  intro q
  induction q with
  | zero => exact fun _ => ⟨hr, fun _ _ _ => rfl⟩
  | succ q ih =>
    intro hq
    obtain ⟨v, hi⟩ := ih (by omega)
    have e0 : q = 0 → uTr dr wp pr cnt W T n cd wt r q = r := fun e => by
      subst e
      rfl
    obtain ⟨rq, erq⟩ : ∃ z, uTr dr wp pr cnt W T n cd wt r q = z := ⟨_, rfl⟩
    rw [erq] at v hi e0
    show uRv n (uS1 dr wp pr cnt W T n cd wt q (uTr dr wp pr cnt W T n cd wt r q)) ∧ ∀ j, 41 ≤ j → ¬ j = 119 → uS1 dr wp pr cnt W T n cd wt q (uTr dr wp pr cnt W T n cd wt r q) j = r j
    rw [erq]
    by_cases c : rq q = 7 ∨ uDc dr wp pr cnt W T n cd wt q rq = -1
    · rw [uS1_n c]
      exact ⟨v, hi⟩
    · have c1 : ¬ rq q = 7 := fun h => c (Or.inl h)
      have c2 : ¬ uDc dr wp pr cnt W T n cd wt q rq = -1 := fun h => c (Or.inr h)
      rw [uS1_y c1 c2]
      have key : (0 ≤ uDc dr wp pr cnt W T n cd wt q rq ∧ uDc dr wp pr cnt W T n cd wt q rq < 61) ∧ uCp n q (uDc dr wp pr cnt W T n cd wt q rq) rq := by
        unfold uDc at c2 ⊢
        by_cases q0 : q = 0
        · subst q0
          have er := e0 rfl
          subst er
          rw [if_pos (show ((0 : Nat) : Int) = 0 from rfl)] at c2 ⊢
          exact hcd.elim (fun h => absurd h c2) (fun h => ⟨h.1, h.2 c1⟩)
        · rw [if_neg (by omega)] at c2 ⊢
          by_cases cw : (q : Int) = wt
          · rw [if_pos cw] at c2
            exact absurd rfl c2
          · rw [if_neg cw] at c2 ⊢
            exact uWd_c v ⟨by omega, by omega⟩ c1 c2
      obtain ⟨g1, g2, g3⟩ := uDe_v hn0.2 v (by omega) key.1 (uCp_d key.2)
      exact ⟨g1, fun j hj h9 => (uDe_hi hn0.2 v (by omega) key.1 (uCp_d key.2) hj h9).trans (hi j hj h9)⟩
end
end
end
section
/-! turn, by rows -/
section
set_option maxRecDepth 100000


section
variable {Ln : Nat} {xs : Nat → Int32} {ro : Nat → Nat × (Nat → Int32)} {d w : Nat} {Q : Option Value → pmS → Prop} {dr wp co pr cnt W : Int → Int} {T : Int → List Int} {n f kk k x y cd wt p : Int} {S S' r r' : Int → Int} {a a' a0 : xA} {b b' : xB}
/-- whether the stranger's deed goes -/
def uGd (dr wp : Int → Int) (n : Int) (r : Int → Int) (kk x y : Int) : Prop := uFt kk x y ∧ uCa dr wp n 0 (uWs n r) (uQc kk x y)
/-- the row behind a turn -/
noncomputable def uTu (dr wp pr cnt W : Int → Int) (T : Int → List Int) (n cd wt : Int) (r : Int → Int) : Int → Int := fun j => if j = 114 then r 114 + 1 else if j = 115 then 0 else uTr dr wp pr cnt W T n cd wt r 4 j
theorem uGd_p (hr : uRv n r) (h : uGd dr wp n r kk x y) : uQc kk x y = -1 ∨ ((0 ≤ uQc kk x y ∧ uQc kk x y < 61) ∧ (¬ r 0 = 7 → uCp n 0 (uQc kk x y) r)) := by
  have hq := (uQc_f h.1).1
  by_cases c : uQc kk x y = -1
  · exact Or.inl c
  · exact Or.inr ⟨⟨by omega, hq.2⟩, fun _ => uCa_p hr ⟨by omega, hq.2⟩ h.2⟩
/-- what the reference tells of a turn in its chronicle -/
def uCn (a a' : xA) (t : Int) : Prop := (∀ i, 0 ≤ i → i < 4 → a' 124 (4 * t + i) = a 119 i ∧ a' 120 (4 * t + i) = a 116 i ∧ a' 121 (4 * t + i) = a 117 i ∧ a' 122 (4 * t + i) = a 118 i) ∧ (∀ q j, q = 124 ∨ q = 120 ∨ q = 121 ∨ q = 122 → ¬ (4 * t ≤ j ∧ j < 4 * t + 4) → a' q j = a q j) ∧ a' 123 t = 0 ∧ (∀ j, ¬ j = t → a' 123 j = a 123 j) ∧ ∀ q j, ¬ (120 ≤ q ∧ q ≤ 124) → a' q j = a q j
/-- turn of the reference -/
theorem u204 (q1 : xR kk) (q2 : xR x) (q3 : xR y) (hK : uRk pr cnt W T) (hB : uRb dr wp pr cnt W T n a) (hr : uRv n (a 88)) (hV : uMV dr wp pr cnt T n a b) (hL : uLw a) (hbg : a 87 4 = 1) (htn : 0 ≤ a 88 114 ∧ a 88 114 ≤ 60) (hev : 0 ≤ a 88 119 ∧ a 88 119 ≤ 900) (hd : 8 ≤ d)
    (hA : 60 ≤ a 88 114 → Q (some (xV (-1))) (xS a b)) (hF : a 88 114 < 60 → ¬ uGd dr wp n (a 88) kk x y → Q (some (xV (-2))) (xS a b))
    (hQ : a 88 114 < 60 → uGd dr wp n (a 88) kk x y → ∀ a1 a2 b', uPm a a1 b b' → uCn a1 a2 (a 88 114 + 1) → uRb dr wp pr cnt W T n a2 → uRv n (a2 88) → uMV dr wp pr cnt T n a2 b' → uLw a2 → uRq (uTu dr wp pr cnt W T n (uQc kk x y) (-1) (a 88)) (a2 88) → a2 88 119 ≤ a 88 119 + 4 → 0 ≤ a2 88 119 → (∀ p : Nat, p < 4 → uEn dr wp pr cnt W T n (uQc kk x y) (-1) a1 p (uTr dr wp pr cnt W T n (uQc kk x y) (-1) (a 88) p)) → Q (some (xV (a 88 114 + 1))) (xS a2 b')) : pmCs ro d 204 [.ref 87, xV kk, xV x, xV y] (xS a b) Q := by
  have hA0 := hB.1
  have hn0 : 0 ≤ n ∧ n ≤ 5 := hB.2.1.2.2.1
  have goes : ∀ g, a 88 114 < 60 → uGd dr wp n (a 88) kk x y → pmCs ro 7 208 [.ref 87, xV (uQc kk x y), xV (-1)] (xS a b) (fun r' s' => pmWp ro 7 12 204 1 97 [some (.ref 87), some (xV kk), some (xV x), some (xV y), some (xV (uQc kk x y)), some (xV g), none, none] (r'.toList ++ []) s' Q) := by
    intro g hlt hg
    have hcp := uGd_p hr hg
    have hq := (uQc_f hg.1).1
    obtain ⟨R, hR⟩ : ∃ R, a 88 = R := ⟨_, rfl⟩
    have hv4 := fun j => (uTr_v (dr := dr) (wp := wp) (pr := pr) (cnt := cnt) (W := W) (T := T) (wt := -1) hn0 hr hcp 4 (by decide)).2 j
    refine u208 hK hB hr hV hL (by omega) hev (hcp.elim Or.inl (fun h => Or.inr ⟨h.1, fun e => uCp_d (h.2 e)⟩)) (by decide) (by decide) (fun a1 b1 f1 B1 V1 M1 L1 R1 e114 e115 e119 e119b E1 => ?_)
    obtain ⟨t, et⟩ : ∃ t, a 88 114 + 1 = t := ⟨_, rfl⟩
    rw [et] at e114
    refine w204c e114 (by omega) ?_
    have loop : ∀ (m : Nat) (p : Int) (a2 : xA), p + (m : Int) = 4 → 0 ≤ p → xAr a2 → ((∀ i, 0 ≤ i → i < p → a2 124 (4 * t + i) = a1 119 i ∧ a2 120 (4 * t + i) = a1 116 i ∧ a2 121 (4 * t + i) = a1 117 i ∧ a2 122 (4 * t + i) = a1 118 i) ∧ (∀ q j, q = 124 ∨ q = 120 ∨ q = 121 ∨ q = 122 → ¬ (4 * t ≤ j ∧ j < 4 * t + p) → a2 q j = a1 q j) ∧ a2 123 t = 0 ∧ (∀ j, ¬ j = t → a2 123 j = a1 123 j) ∧ ∀ q j, ¬ (120 ≤ q ∧ q ≤ 124) → a2 q j = a1 q j) → pmWp ro 7 12 204 1 117 [some (.ref 87), some (xV kk), some (xV x), some (xV y), some (xV (uQc kk x y)), some (xV g), some (xV t), some (xV p)] [] (xS a2 b1) Q := by
      intro m
      induction m with
      | zero =>
        intro p a2 hp p0 A2 hI
        have e4 : p = 4 := by omega
        subst e4
        have e119' : a2 119 4 = a1 119 4 := hI.2.2.2.2 119 4 (by omega)
        refine w204d (fun h => absurd h (by decide)) (by omega) (by decide) (fun _ => ?_) (fun e => absurd (by decide) e)
        rw [← et]
        have e8 : a2 88 = a1 88 := funext fun j => hI.2.2.2.2 88 j (by omega)
        have ex : ∀ q j, ¬ (120 ≤ q ∧ q ≤ 124) → a2 q j = a1 q j := hI.2.2.2.2
        refine hQ hlt hg a1 a2 b1 f1 (by rw [et]; exact hI) (uRb_o B1 A2 (fun q j e => ex q j (by omega)) (fun j j0 j1 => by rw [ex 109 j (by omega)]; exact B1.2.2.2.2.2.2 j j0 j1)) (by rw [e8]; exact V1) (uMV_f M1 (ex _ _ (by omega)) (fun j => ex _ _ (by omega)) (fun _ => rfl)) (uLw_o L1 (fun q j e => ex q j (by omega))) ?_ (by rw [e8]; exact e119) (by rw [e8]; exact e119b) E1
        rw [e8]
        intro j hj
        unfold uTu
        by_cases c1 : j = 114
        · rw [if_pos c1, c1, e114, et]
        · rw [if_neg c1]
          by_cases c2 : j = 115
          · rw [if_pos c2, c2, e115]
          · rw [if_neg c2]
            exact R1 j (by omega)
      | succ m ih =>
        intro p a2 hp p0 A2 hI
        obtain ⟨g1, g2, g3, g4, g5⟩ := hI
        have x119 : a2 119 p = a1 119 p := g5 119 p (by omega)
        have x116 : a2 116 p = a1 116 p := g5 116 p (by omega)
        have x117 : a2 117 p = a1 117 p := g5 117 p (by omega)
        have x118 : a2 118 p = a1 118 p := g5 118 p (by omega)
        have hb : 0 ≤ a2 119 p ∧ a2 119 p ≤ 1 := by
          obtain ⟨q, eq⟩ : ∃ q : Nat, p = (q : Int) := ⟨p.toNat, by omega⟩
          have hE := (E1 q (by omega)).1
          rw [x119, eq, hE]
          split <;> decide
        refine w204d (fun _ => hb) (by omega) ⟨p0, by omega⟩ (fun e => absurd e (by omega)) (fun _ => ih (p + 1) _ (by omega) (by omega) (xAr_u (xAr_u (xAr_u (xAr_u A2 (A2 _ _)) (A2 _ _)) (A2 _ _)) (A2 _ _)) ⟨fun i i0 i1 => ?_, fun q j e1 e2 => ?_, ?_, fun j hj => ?_, fun q j e => ?_⟩)
        · by_cases ci : i = p
          · rw [ci]
            refine ⟨?_, ?_, ?_, ?_⟩
            · rw [xUn (by decide), xUn (by decide), xUn (by decide), xUa]
              exact x119
            · rw [xUn (by decide), xUn (by decide), xUa]
              exact x116
            · rw [xUn (by decide), xUa]
              exact x117
            · rw [xUa]
              exact x118
          · obtain ⟨k1, k2, k3, k4⟩ := g1 i i0 (by omega)
            have ne : ¬ 4 * t + i = 4 * t + p := by omega
            refine ⟨?_, ?_, ?_, ?_⟩
            · rw [xUn (by decide), xUn (by decide), xUn (by decide), xUk ne]
              exact k1
            · rw [xUn (by decide), xUn (by decide), xUk ne]
              exact k2
            · rw [xUn (by decide), xUk ne]
              exact k3
            · rw [xUk ne]
              exact k4
        · have ne : ¬ j = 4 * t + p := fun h => e2 ⟨by omega, by omega⟩
          rw [xUk ne, xUk ne, xUk ne, xUk ne]
          exact g2 q j e1 (fun h => e2 ⟨h.1, by omega⟩)
        · rw [xUn (by decide), xUn (by decide), xUn (by decide), xUn (by decide)]
          exact g3
        · rw [xUn (by decide), xUn (by decide), xUn (by decide), xUn (by decide)]
          exact g4 j hj
        · rw [xUn (by omega), xUn (by omega), xUn (by omega), xUn (by omega)]
          exact g5 q j e
    refine loop 4 0 _ (by decide) (by decide) (xAr_u B1.1 xR0) ⟨fun i i0 i1 => absurd i1 (by omega), fun q j e1 e2 => xUn (by omega), xUa, fun j hj => xUk hj, fun q j e => xUn (by omega)⟩
  refine pmCs_deep (d := 8) (xg204 (w204 q1 q2 q3 (by omega) (by omega) (by decide) (fun e => by omega) (fun _ hlt hk0 => ?_) (fun _ hlt hk0 hx => hF hlt (fun h => ?_)) (fun _ hlt hk0 hx hy => hF hlt (fun h => ?_)) (fun _ hlt hk0 hx hy => ?_) (fun _ h => hA (by omega)))) hd
  · refine u205 q1 q2 q3 hk0 (by decide) (fun hf => ?_) (fun hf => ?_)
    · have hq := (uQc_f hf).1
      have hn1 : ¬ uQc kk x y = -1 := fun e => by
        have h2 := (uQc_f hf).2.1
        rw [e] at h2
        exact hk0 h2.symm
      refine w204a q1 hk0 (by omega) (fun _ e => absurd e hn1) (fun _ _ => ?_) (fun e => absurd e hk0) (fun e => absurd e hk0) (fun e => absurd e hk0)
      refine u206 hA0 hB.2.1 hB.2.2.1 hr (by decide) ⟨by omega, hq.2⟩ (by decide) (fun hc => w204b (by omega) (by decide) (fun e => absurd e (by decide)) (fun _ => goes 1 hlt ⟨hf, hc⟩)) (fun hc => w204b (by omega) (by decide) (fun _ => hF hlt (fun h => hc h.2)) (fun e => absurd (by decide) e))
    · exact w204a q1 hk0 (by decide) (fun _ _ => hF hlt (fun h => hf h.1)) (fun _ e => absurd rfl e) (fun e => absurd e hk0) (fun e => absurd e hk0) (fun e => absurd e hk0)
  · have := h.1
    omega
  · have := h.1
    omega
  · subst hk0
    subst hx
    subst hy
    exact goes 1 hlt ⟨Or.inl ⟨rfl, rfl, rfl⟩, Or.inl rfl⟩
end
end
end
section
/-! turn of the class, by rows -/
section
set_option maxRecDepth 100000


section
variable {Ln : Nat} {xs : Nat → Int32} {ro : Nat → Nat × (Nat → Int32)} {d w : Nat} {Q : Option Value → pmS → Prop} {dr wp co pr cnt W : Int → Int} {T : Int → List Int} {n f kk k x y cd wt p : Int} {S S' r r' : Int → Int} {a a' a0 : xA} {b b' : xB}
theorem uWo21 : uWo 21 := ⟨⟨xz21, xz22, xz23, xz24, xz25⟩, by decide, by decide⟩
theorem uRv_lo (hn5 : n ≤ 5) (h : uRv n r) (e : ∀ j, j < 41 → r' j = r j) : uRv n r' := by
  obtain ⟨h1, h2, h3, h4, h5, h6⟩ := h
  exact ⟨fun q q0 q1 => by rw [e q (by omega)]; exact h1 q q0 q1, fun y y0 y1 => by rw [e _ (by omega)]; exact h2 y y0 y1, fun y y0 y1 => by rw [e _ (by omega)]; exact h3 y y0 y1, fun f y f0 f1 y0 y1 => by rw [e _ (by omega)]; exact h4 f y f0 f1 y0 y1, fun f q f0 f1 q0 q1 => by rw [e _ (by omega)]; exact h5 f q f0 f1 q0 q1, fun f y f0 f1 yn y0 y1 => by rw [e _ (by omega)]; exact h6 f y f0 f1 yn y0 y1⟩
theorem uCw_q (hn5 : n ≤ 5) (h : uCw n w r a b) (e : ∀ j, j < 41 ∨ j = 119 → r' j = r j) : uCw n w r' a b := by
  obtain ⟨h1, h2, h3, h4, h5, h6, h7⟩ := h
  refine ⟨uRv_lo hn5 h1 (fun j hj => e j (Or.inl hj)), uRt_c h2 hn5 (fun j hj => e j (by omega)) rfl rfl, fun f f0 f1 => uRf_c (h3 f f0 f1) (fun j j0 j1 => e _ (by omega)) rfl, fun f f0 f1 hf => ?_, fun f x f0 f1 hf x0 xn hx => ?_, h6, by rw [e 119 (by omega)]; exact h7⟩
  · rw [e f (by omega)] at hf ⊢
    exact h4 f f0 f1 hf
  · rw [e f (by omega)] at hf
    rw [e _ (by omega)] at hx
    rw [e _ (by omega)]
    exact h5 f x f0 f1 hf x0 xn hx
theorem uCx_q (hn5 : n ≤ 5) (h : uCx n w r a b) (e : uRq r r') : uCx n w r' a b := by
  obtain ⟨h1, h2, h3, h4, h5, h6⟩ := h
  exact ⟨uCw_q hn5 h1 (fun j hj => e j (by omega)), h2.trans (e 114 (by omega)).symm, h3.trans (e 115 (by omega)).symm, h4.trans (e 116 (by omega)).symm, h5.trans (e 117 (by omega)).symm, h6.trans (e 118 (by omega)).symm⟩
/-- noteTurn -/
def uNt (a a' : xA) (t : Int) : Prop := a' 79 6 = t ∧ (∀ i, 0 ≤ i → i < 4 → a' 85 (4 * t + i) = a 44 i) ∧ (∀ j, ¬ (4 * t ≤ j ∧ j < 4 * t + 4) → a' 85 j = a 85 j) ∧ ∀ q j, ¬ q = 85 → ¬ (q = 79 ∧ j = 6) → a' q j = a q j
theorem u99 {t : Int} (ht : 1 ≤ t ∧ t ≤ 60) (hA : xAr a) (hd : 1 ≤ d) (hQ : ∀ a', uNt a a' t → xAr a' → Q none (xS a' b)) : pmCs ro d 99 [.ref 79, xV t] (xS a b) Q := by
  refine pmCs_deep (d := 1) (xg99 (w99 ht (fun e => by omega) (fun _ e => by omega) (fun _ _ => hQ _ ⟨?_, fun i i0 i1 => ?_, fun j hj => ?_, fun q j e1 e2 => ?_⟩ (xAr_cp (xAr_u hA ⟨by omega, by omega⟩))))) hd
  · rw [xCpN (by decide), xUa]
  · show (if (85 : Nat) = 85 ∧ t * 4 ≤ 4 * t + i ∧ 4 * t + i < t * 4 + 4 then _ else _) = _
    rw [if_pos ⟨rfl, by omega, by omega⟩, xUn (by decide)]
    rw [show 0 + (4 * t + i - t * 4) = i by omega]
  · show (if (85 : Nat) = 85 ∧ t * 4 ≤ j ∧ j < t * 4 + 4 then _ else _) = _
    rw [if_neg (fun h => hj ⟨by omega, by omega⟩), xUn (by decide)]
  · rw [xCpN e1, xUo e2]
/-- turn of the class -/
theorem u87 (q1 : xR kk) (q2 : xR x) (q3 : xR y) (hK : uRk pr cnt W T) (hn0 : 0 ≤ n ∧ n ≤ 5) (hC : uCb dr wp co pr cnt W T n a0 a b) (hX : uCx n 21 r a b) (hB : uBd r) (hbg : a 0 12 = 1) (hd : 13 ≤ d)
    (hA : 60 ≤ r 114 → Q (some (xV (-1))) (xS a b)) (hF : r 114 < 60 → ¬ uGd dr wp n r kk x y → Q (some (xV (-2))) (xS a b))
    (hQ : r 114 < 60 → uGd dr wp n r kk x y → ∀ a1 a2 b', uTf 21 a a1 b b' → uNt a1 a2 (r 114 + 1) → uCb dr wp co pr cnt W T n a0 a2 b' → uCx n 21 (uTu dr wp pr cnt W T n (uQc kk x y) (-1) r) a2 b' → (∀ j, 0 ≤ j → j < 3 → a2 25 j = 0) → (∀ p : Nat, p < 4 → a1 44 p = uEt dr wp pr cnt W T n (uQc kk x y) (-1) p (uTr dr wp pr cnt W T n (uQc kk x y) (-1) r p)) → Q (some (xV (r 114 + 1))) (xS a2 b')) : pmCs (pmRo Ln xs) d 87 [.ref 0, xV kk, xV x, xV y] (xS a b) Q := by
  have hX0 := hX
  obtain ⟨hW, e6, e12, e8, e9, e10⟩ := hX
  obtain ⟨b1, b2, b3, b4, b5, b6⟩ := hB
  have hqs : uQ (uSl (b 21 4)) (uWs n r) := hW.2.1.1
  refine pmCs_deep (d := 13) (xg87 (w87 q1 q2 q3 (by omega) (by omega) (by decide) (fun e => by omega) (fun _ hlt => ?_) (fun _ h => hA (by omega)))) hd
  refine u88 q1 q2 q3 (by decide) (fun hf => ?_) (fun hf => w87a ⟨by decide, by decide⟩ (fun _ => hF (by omega) (fun h => hf h.1)) (fun e => absurd rfl e))
  have hq := (uQc_f hf).1
  have hDb := uD_p hq
  refine w87a ⟨by omega, by omega⟩ (fun e => by omega) (fun _ => ?_)
  refine u80 hC.1.1 hC.1.2.1 (by decide) hq (by decide) (fun hc => w87b ⟨by omega, by omega⟩ (by decide) (fun _ => ?_) (fun e => absurd e (by decide))) (fun hc => w87b ⟨by omega, by omega⟩ (by decide) (fun e => absurd rfl e) (fun _ => hF (by omega) (fun h => hc ((uCa_q hqs (by decide) hq).mpr h.2))))
  have hg : uGd dr wp n r kk x y := ⟨hf, (uCa_q hqs (by decide) hq).mp hc⟩
  have hcp := uGd_p hW.1 hg
  have hlt' : r 114 < 60 := by omega
  refine u89 (cd := uQc kk x y) (id := 0) (wt := -1) uWo21 hK hn0 hC hW (by omega) (by omega) hcp (by decide) (fun p p1 p3 => ⟨fun h => by omega, fun h => by omega⟩) (by decide) (fun a1 b1 f1 C1 W1 i6 i12 i4 i119 E1 => w87c ?_)
  have ht : a1 21 6 = r 114 + 1 := by omega
  rw [ht]
  refine u99 (by omega) C1.1.1 (by decide) (fun a2 hN A2 => w87d ?_)
  have ex := hN.2.2.2
  have x21 : ∀ q j, 21 ≤ q → q ≤ 25 → a2 q j = a1 q j := fun q j h1 h2 => ex q j (by omega) (by omega)
  have hv4 := (uTr_v (dr := dr) (wp := wp) (pr := pr) (cnt := cnt) (W := W) (T := T) (wt := -1) hn0 hW.1 hcp 4 (by decide)).2
  rw [x21 21 6 (by decide) (by decide), ht]
  refine hQ hlt' hg a1 a2 b1 f1 hN (uCb_o C1 (fun q j e1 e2 => ex q j (by omega) (by omega)) (fun _ _ _ => rfl) A2) ?_ (fun j j0 j1 => by rw [x21 25 j (by decide) (by decide)]; exact i4 j j0 j1) E1
  have W2 : uCw n 21 (uTr dr wp pr cnt W T n (uQc kk x y) (-1) r 4) a2 b1 := uCw_o W1 (fun j => x21 _ j (by decide) (by decide)) (x21 21 11 (by decide) (by decide)) rfl rfl (fun _ _ _ => rfl)
  have f8 : ∀ j, j = 8 ∨ j = 9 ∨ j = 10 → a2 21 j = a 21 j := fun j hj => (x21 21 j (by decide) (by decide)).trans (f1.1 21 j (by omega) (by omega) (by omega) (by omega) (by omega) (by omega))
  have tu : ∀ j, ¬ j = 114 → ¬ j = 115 → uTu dr wp pr cnt W T n (uQc kk x y) (-1) r j = uTr dr wp pr cnt W T n (uQc kk x y) (-1) r 4 j := fun j h1 h2 => by
    unfold uTu
    rw [if_neg h1, if_neg h2]
  refine ⟨uCw_q hn0.2 W2 (fun j hj => tu j (by omega) (by omega)), ?_, ?_, ?_, ?_, ?_⟩
  · rw [x21 21 6 (by decide) (by decide), ht]
    rfl
  · rw [x21 21 12 (by decide) (by decide), i12]
    rfl
  · rw [f8 8 (by decide), e8, tu 116 (by decide) (by decide), hv4 116 (by decide) (by decide)]
  · rw [f8 9 (by decide), e9, tu 117 (by decide) (by decide), hv4 117 (by decide) (by decide)]
  · rw [f8 10 (by decide), e10, tu 118 (by decide) (by decide), hv4 118 (by decide) (by decide)]
/-- an entry by what the reference tells -/
def uEe (dn cd sw ws : Int) : Int := if dn = 0 then -1 else if cd = -1 then 0 else uD cd + 512 * sw + (ws + 1) * 8192
theorem uEt_e (h : uEn dr wp pr cnt W T n cd wt a p r) : uEt dr wp pr cnt W T n cd wt p r = uEe (a 119 p) (a 116 p) (a 117 p) (a 118 p) := by
  obtain ⟨h1, h2, h3, h4⟩ := h
  unfold uEt uEe
  rw [h1, h2, h3, h4]
  by_cases c1 : r p = 7
  · rw [if_pos c1, if_pos c1, if_pos rfl]
  rw [if_neg c1, if_neg c1, if_neg c1, if_neg (show ¬ (1 : Int) = 0 by decide)]
  by_cases c2 : uDc dr wp pr cnt W T n cd wt p r = -1
  · rw [if_pos c2, if_pos c2]
  rw [if_neg c2, if_neg c2, if_neg (show ¬ (r p = 7 ∨ uDc dr wp pr cnt W T n cd wt p r = -1) from fun h => h.elim c1 c2)]
  by_cases c3 : p = 0
  · rw [if_pos c3, if_pos (Or.inr (Or.inl c3))]
    rfl
  · have c4 : ¬ p = wt := fun e => c2 (by
      unfold uDc
      rw [if_neg c3, if_pos e])
    rw [if_neg c3, if_neg (fun h => h.elim c1 (fun h => h.elim c3 c4))]
end
end
end
section
/-! exact: settle, shift -/
section
set_option maxRecDepth 100000
theorem xi100 : pmInf[100]? = some pmI_100 := rfl
theorem xi101 : pmInf[101]? = some pmI_101 := rfl
theorem xi105 : pmInf[105]? = some pmI_105 := rfl
theorem xi106 : pmInf[106]? = some pmI_106 := rfl
theorem xi215 : pmInf[215]? = some pmI_215 := rfl
theorem xi216 : pmInf[216]? = some pmI_216 := rfl
theorem xi222 : pmInf[222]? = some pmI_222 := rfl
theorem xc100_0 : pmCode 100 0 = some (.iload_n 1) ∧ 0 + 1 = 1 := ⟨rfl, rfl⟩
theorem xc100_1 : pmCode 100 1 = some (.ifCond .lt 15) ∧ ((1 : Nat) : Int) + 15 = ((16 : Nat) : Int) ∧ 1 + 3 = 4 := ⟨rfl, rfl, rfl⟩
theorem xc100_4 : pmCode 100 4 = some (.iload_n 1) ∧ 4 + 1 = 5 := ⟨rfl, rfl⟩
theorem xc100_5 : pmCode 100 5 = some (.iconst 5) ∧ 5 + 1 = 6 := ⟨rfl, rfl⟩
theorem xc100_6 : pmCode 100 6 = some (.if_icmp .ge 10) ∧ ((6 : Nat) : Int) + 10 = ((16 : Nat) : Int) ∧ 6 + 3 = 9 := ⟨rfl, rfl, rfl⟩
theorem xc100_9 : pmCode 100 9 = some (.iload_n 2) ∧ 9 + 1 = 10 := ⟨rfl, rfl⟩
theorem xc100_10 : pmCode 100 10 = some (.invokestatic 105) ∧ 10 + 3 = 13 := ⟨rfl, rfl⟩
theorem xc100_13 : pmCode 100 13 = some (.ifCond .ne 5) ∧ ((13 : Nat) : Int) + 5 = ((18 : Nat) : Int) ∧ 13 + 3 = 16 := ⟨rfl, rfl, rfl⟩
theorem xc100_16 : pmCode 100 16 = some (.iconst (-1)) ∧ 16 + 1 = 17 := ⟨rfl, rfl⟩
theorem xc100_17 : pmCode 100 17 = some .ireturn := rfl
theorem xc100_18 : pmCode 100 18 = some (.aload_n 0) ∧ 18 + 1 = 19 := ⟨rfl, rfl⟩
theorem xc100_19 : pmCode 100 19 = some (.bipush 64) ∧ 19 + 2 = 21 := ⟨rfl, rfl⟩
theorem xc100_21 : pmCode 100 21 = some (.iload_n 1) ∧ 21 + 1 = 22 := ⟨rfl, rfl⟩
theorem xc100_22 : pmCode 100 22 = some (.iconst 3) ∧ 22 + 1 = 23 := ⟨rfl, rfl⟩
theorem xc100_23 : pmCode 100 23 = some .ishl ∧ 23 + 1 = 24 := ⟨rfl, rfl⟩
theorem xc100_24 : pmCode 100 24 = some .ior ∧ 24 + 1 = 25 := ⟨rfl, rfl⟩
theorem xc100_25 : pmCode 100 25 = some (.iload_n 2) ∧ 25 + 1 = 26 := ⟨rfl, rfl⟩
theorem xc100_26 : pmCode 100 26 = some .ior ∧ 26 + 1 = 27 := ⟨rfl, rfl⟩
theorem xc100_27 : pmCode 100 27 = some (.invokevirtual 251) ∧ 27 + 3 = 30 := ⟨rfl, rfl⟩
theorem xc100_30 : pmCode 100 30 = some .ireturn := rfl
theorem xc101_0 : pmCode 101 0 = some (.aload_n 0) ∧ 0 + 1 = 1 := ⟨rfl, rfl⟩
theorem xc101_1 : pmCode 101 1 = some (.getfield 88) ∧ 1 + 3 = 4 := ⟨rfl, rfl⟩
theorem xc101_4 : pmCode 101 4 = some (.aload_n 0) ∧ 4 + 1 = 5 := ⟨rfl, rfl⟩
theorem xc101_5 : pmCode 101 5 = some (.getfield 40) ∧ 5 + 3 = 8 := ⟨rfl, rfl⟩
theorem xc101_8 : pmCode 101 8 = some (.iload_n 1) ∧ 8 + 1 = 9 := ⟨rfl, rfl⟩
theorem xc101_9 : pmCode 101 9 = some (.invokevirtual 317) ∧ 9 + 3 = 12 := ⟨rfl, rfl⟩
theorem xc101_12 : pmCode 101 12 = some (.ifCond .ne 5) ∧ ((12 : Nat) : Int) + 5 = ((17 : Nat) : Int) ∧ 12 + 3 = 15 := ⟨rfl, rfl, rfl⟩
theorem xc101_15 : pmCode 101 15 = some (.iconst (-1)) ∧ 15 + 1 = 16 := ⟨rfl, rfl⟩
theorem xc101_16 : pmCode 101 16 = some .ireturn := rfl
theorem xc101_17 : pmCode 101 17 = some (.aload_n 0) ∧ 17 + 1 = 18 := ⟨rfl, rfl⟩
theorem xc101_18 : pmCode 101 18 = some (.getfield 88) ∧ 18 + 3 = 21 := ⟨rfl, rfl⟩
theorem xc101_21 : pmCode 101 21 = some (.aload_n 0) ∧ 21 + 1 = 22 := ⟨rfl, rfl⟩
theorem xc101_22 : pmCode 101 22 = some (.getfield 40) ∧ 22 + 3 = 25 := ⟨rfl, rfl⟩
theorem xc101_25 : pmCode 101 25 = some (.iload_n 1) ∧ 25 + 1 = 26 := ⟨rfl, rfl⟩
theorem xc101_26 : pmCode 101 26 = some (.invokevirtual 264) ∧ 26 + 3 = 29 := ⟨rfl, rfl⟩
theorem xc101_29 : pmCode 101 29 = some (.istore_n 2) ∧ 29 + 1 = 30 := ⟨rfl, rfl⟩
theorem xc101_30 : pmCode 101 30 = some (.aload_n 0) ∧ 30 + 1 = 31 := ⟨rfl, rfl⟩
theorem xc101_31 : pmCode 101 31 = some (.getfield 88) ∧ 31 + 3 = 34 := ⟨rfl, rfl⟩
theorem xc101_34 : pmCode 101 34 = some (.aload_n 0) ∧ 34 + 1 = 35 := ⟨rfl, rfl⟩
theorem xc101_35 : pmCode 101 35 = some (.getfield 40) ∧ 35 + 3 = 38 := ⟨rfl, rfl⟩
theorem xc101_38 : pmCode 101 38 = some (.iload_n 1) ∧ 38 + 1 = 39 := ⟨rfl, rfl⟩
theorem xc101_39 : pmCode 101 39 = some (.invokevirtual 321) ∧ 39 + 3 = 42 := ⟨rfl, rfl⟩
theorem xc101_42 : pmCode 101 42 = some (.aload_n 0) ∧ 42 + 1 = 43 := ⟨rfl, rfl⟩
theorem xc101_43 : pmCode 101 43 = some (.getfield 97) ∧ 43 + 3 = 46 := ⟨rfl, rfl⟩
theorem xc101_46 : pmCode 101 46 = some (.aload_n 0) ∧ 46 + 1 = 47 := ⟨rfl, rfl⟩
theorem xc101_47 : pmCode 101 47 = some (.getfield 40) ∧ 47 + 3 = 50 := ⟨rfl, rfl⟩
theorem xc101_50 : pmCode 101 50 = some (.getfield 234) ∧ 50 + 3 = 53 := ⟨rfl, rfl⟩
theorem xc101_53 : pmCode 101 53 = some (.iload_n 1) ∧ 53 + 1 = 54 := ⟨rfl, rfl⟩
theorem xc101_54 : pmCode 101 54 = some (.invokevirtual 325) ∧ 54 + 3 = 57 := ⟨rfl, rfl⟩
theorem xc101_57 : pmCode 101 57 = some (.iload_n 2) ∧ 57 + 1 = 58 := ⟨rfl, rfl⟩
theorem xc101_58 : pmCode 101 58 = some .ireturn := rfl
theorem xc105_0 : pmCode 105 0 = some (.iload_n 1) ∧ 0 + 1 = 1 := ⟨rfl, rfl⟩
theorem xc105_1 : pmCode 105 1 = some (.iconst 1) ∧ 1 + 1 = 2 := ⟨rfl, rfl⟩
theorem xc105_2 : pmCode 105 2 = some (.if_icmp .lt 16) ∧ ((2 : Nat) : Int) + 16 = ((18 : Nat) : Int) ∧ 2 + 3 = 5 := ⟨rfl, rfl, rfl⟩
theorem xc105_5 : pmCode 105 5 = some (.iload_n 1) ∧ 5 + 1 = 6 := ⟨rfl, rfl⟩
theorem xc105_6 : pmCode 105 6 = some (.bipush 60) ∧ 6 + 2 = 8 := ⟨rfl, rfl⟩
theorem xc105_8 : pmCode 105 8 = some (.if_icmp .gt 10) ∧ ((8 : Nat) : Int) + 10 = ((18 : Nat) : Int) ∧ 8 + 3 = 11 := ⟨rfl, rfl, rfl⟩
theorem xc105_11 : pmCode 105 11 = some (.aload_n 0) ∧ 11 + 1 = 12 := ⟨rfl, rfl⟩
theorem xc105_12 : pmCode 105 12 = some (.getfield 22) ∧ 12 + 3 = 15 := ⟨rfl, rfl⟩
theorem xc105_15 : pmCode 105 15 = some (.iload_n 1) ∧ 15 + 1 = 16 := ⟨rfl, rfl⟩
theorem xc105_16 : pmCode 105 16 = some (.iload_n 2) ∧ 16 + 1 = 17 := ⟨rfl, rfl⟩
theorem xc105_17 : pmCode 105 17 = some .iastore ∧ 17 + 1 = 18 := ⟨rfl, rfl⟩
theorem xc105_18 : pmCode 105 18 = some .return_ := rfl
theorem xc106_0 : pmCode 106 0 = some (.iload_n 1) ∧ 0 + 1 = 1 := ⟨rfl, rfl⟩
theorem xc106_1 : pmCode 106 1 = some (.invokestatic 144) ∧ 1 + 3 = 4 := ⟨rfl, rfl⟩
theorem xc106_4 : pmCode 106 4 = some (.ifCond .eq 10) ∧ ((4 : Nat) : Int) + 10 = ((14 : Nat) : Int) ∧ 4 + 3 = 7 := ⟨rfl, rfl, rfl⟩
theorem xc106_7 : pmCode 106 7 = some (.iload_n 2) ∧ 7 + 1 = 8 := ⟨rfl, rfl⟩
theorem xc106_8 : pmCode 106 8 = some (.invokestatic 105) ∧ 8 + 3 = 11 := ⟨rfl, rfl⟩
theorem xc106_11 : pmCode 106 11 = some (.ifCond .ne 5) ∧ ((11 : Nat) : Int) + 5 = ((16 : Nat) : Int) ∧ 11 + 3 = 14 := ⟨rfl, rfl, rfl⟩
theorem xc106_14 : pmCode 106 14 = some (.iconst (-1)) ∧ 14 + 1 = 15 := ⟨rfl, rfl⟩
theorem xc106_15 : pmCode 106 15 = some .ireturn := rfl
theorem xc106_16 : pmCode 106 16 = some (.aload_n 0) ∧ 16 + 1 = 17 := ⟨rfl, rfl⟩
theorem xc106_17 : pmCode 106 17 = some (.sipush 128) ∧ 17 + 3 = 20 := ⟨rfl, rfl⟩
theorem xc106_20 : pmCode 106 20 = some (.iload_n 1) ∧ 20 + 1 = 21 := ⟨rfl, rfl⟩
theorem xc106_21 : pmCode 106 21 = some (.iconst 3) ∧ 21 + 1 = 22 := ⟨rfl, rfl⟩
theorem xc106_22 : pmCode 106 22 = some .ishl ∧ 22 + 1 = 23 := ⟨rfl, rfl⟩
theorem xc106_23 : pmCode 106 23 = some .ior ∧ 23 + 1 = 24 := ⟨rfl, rfl⟩
theorem xc106_24 : pmCode 106 24 = some (.iload_n 2) ∧ 24 + 1 = 25 := ⟨rfl, rfl⟩
theorem xc106_25 : pmCode 106 25 = some .ior ∧ 25 + 1 = 26 := ⟨rfl, rfl⟩
theorem xc106_26 : pmCode 106 26 = some (.invokevirtual 251) ∧ 26 + 3 = 29 := ⟨rfl, rfl⟩
theorem xc106_29 : pmCode 106 29 = some .ireturn := rfl
theorem xc215_0 : pmCode 215 0 = some (.aload_n 0) ∧ 0 + 1 = 1 := ⟨rfl, rfl⟩
theorem xc215_1 : pmCode 215 1 = some (.iload_n 1) ∧ 1 + 1 = 2 := ⟨rfl, rfl⟩
theorem xc215_2 : pmCode 215 2 = some (.invokevirtual 157) ∧ 2 + 3 = 5 := ⟨rfl, rfl⟩
theorem xc215_5 : pmCode 215 5 = some (.ifCond .eq 25) ∧ ((5 : Nat) : Int) + 25 = ((30 : Nat) : Int) ∧ 5 + 3 = 8 := ⟨rfl, rfl, rfl⟩
theorem xc215_8 : pmCode 215 8 = some (.iload_n 2) ∧ 8 + 1 = 9 := ⟨rfl, rfl⟩
theorem xc215_9 : pmCode 215 9 = some (.invokestatic 135) ∧ 9 + 3 = 12 := ⟨rfl, rfl⟩
theorem xc215_12 : pmCode 215 12 = some (.ifCond .eq 18) ∧ ((12 : Nat) : Int) + 18 = ((30 : Nat) : Int) ∧ 12 + 3 = 15 := ⟨rfl, rfl, rfl⟩
theorem xc215_15 : pmCode 215 15 = some (.aload_n 0) ∧ 15 + 1 = 16 := ⟨rfl, rfl⟩
theorem xc215_16 : pmCode 215 16 = some (.iconst 1) ∧ 16 + 1 = 17 := ⟨rfl, rfl⟩
theorem xc215_17 : pmCode 215 17 = some (.bipush 7) ∧ 17 + 2 = 19 := ⟨rfl, rfl⟩
theorem xc215_19 : pmCode 215 19 = some (.iload_n 1) ∧ 19 + 1 = 20 := ⟨rfl, rfl⟩
theorem xc215_20 : pmCode 215 20 = some .imul ∧ 20 + 1 = 21 := ⟨rfl, rfl⟩
theorem xc215_21 : pmCode 215 21 = some .iadd ∧ 21 + 1 = 22 := ⟨rfl, rfl⟩
theorem xc215_22 : pmCode 215 22 = some (.iload_n 2) ∧ 22 + 1 = 23 := ⟨rfl, rfl⟩
theorem xc215_23 : pmCode 215 23 = some .iadd ∧ 23 + 1 = 24 := ⟨rfl, rfl⟩
theorem xc215_24 : pmCode 215 24 = some (.invokevirtual 398) ∧ 24 + 3 = 27 := ⟨rfl, rfl⟩
theorem xc215_27 : pmCode 215 27 = some (.goto 4) ∧ ((27 : Nat) : Int) + 4 = ((31 : Nat) : Int) := ⟨rfl, rfl⟩
theorem xc215_30 : pmCode 215 30 = some (.iconst (-1)) ∧ 30 + 1 = 31 := ⟨rfl, rfl⟩
theorem xc215_31 : pmCode 215 31 = some .ireturn := rfl
theorem xc216_0 : pmCode 216 0 = some (.aload_n 0) ∧ 0 + 1 = 1 := ⟨rfl, rfl⟩
theorem xc216_1 : pmCode 216 1 = some (.getfield 131) ∧ 1 + 3 = 4 := ⟨rfl, rfl⟩
theorem xc216_4 : pmCode 216 4 = some (.ifCond .eq 11) ∧ ((4 : Nat) : Int) + 11 = ((15 : Nat) : Int) ∧ 4 + 3 = 7 := ⟨rfl, rfl, rfl⟩
theorem xc216_7 : pmCode 216 7 = some (.aload_n 0) ∧ 7 + 1 = 8 := ⟨rfl, rfl⟩
theorem xc216_8 : pmCode 216 8 = some (.iload_n 1) ∧ 8 + 1 = 9 := ⟨rfl, rfl⟩
theorem xc216_9 : pmCode 216 9 = some (.invokevirtual 392) ∧ 9 + 3 = 12 := ⟨rfl, rfl⟩
theorem xc216_12 : pmCode 216 12 = some (.ifCond .ne 5) ∧ ((12 : Nat) : Int) + 5 = ((17 : Nat) : Int) ∧ 12 + 3 = 15 := ⟨rfl, rfl, rfl⟩
theorem xc216_15 : pmCode 216 15 = some (.iconst (-1)) ∧ 15 + 1 = 16 := ⟨rfl, rfl⟩
theorem xc216_16 : pmCode 216 16 = some .ireturn := rfl
theorem xc216_17 : pmCode 216 17 = some (.aload_n 0) ∧ 17 + 1 = 18 := ⟨rfl, rfl⟩
theorem xc216_18 : pmCode 216 18 = some (.iload_n 1) ∧ 18 + 1 = 19 := ⟨rfl, rfl⟩
theorem xc216_19 : pmCode 216 19 = some (.invokevirtual 389) ∧ 19 + 3 = 22 := ⟨rfl, rfl⟩
theorem xc216_22 : pmCode 216 22 = some (.istore_n 2) ∧ 22 + 1 = 23 := ⟨rfl, rfl⟩
theorem xc216_23 : pmCode 216 23 = some (.aload_n 0) ∧ 23 + 1 = 24 := ⟨rfl, rfl⟩
theorem xc216_24 : pmCode 216 24 = some (.iload_n 1) ∧ 24 + 1 = 25 := ⟨rfl, rfl⟩
theorem xc216_25 : pmCode 216 25 = some (.invokevirtual 395) ∧ 25 + 3 = 28 := ⟨rfl, rfl⟩
theorem xc216_28 : pmCode 216 28 = some (.aload_n 0) ∧ 28 + 1 = 29 := ⟨rfl, rfl⟩
theorem xc216_29 : pmCode 216 29 = some (.getfield 118) ∧ 29 + 3 = 32 := ⟨rfl, rfl⟩
theorem xc216_32 : pmCode 216 32 = some (.aload_n 0) ∧ 32 + 1 = 33 := ⟨rfl, rfl⟩
theorem xc216_33 : pmCode 216 33 = some (.getfield 7) ∧ 33 + 3 = 36 := ⟨rfl, rfl⟩
theorem xc216_36 : pmCode 216 36 = some (.bipush 114) ∧ 36 + 2 = 38 := ⟨rfl, rfl⟩
theorem xc216_38 : pmCode 216 38 = some .iaload ∧ 38 + 1 = 39 := ⟨rfl, rfl⟩
theorem xc216_39 : pmCode 216 39 = some (.iload_n 1) ∧ 39 + 1 = 40 := ⟨rfl, rfl⟩
theorem xc216_40 : pmCode 216 40 = some .iastore ∧ 40 + 1 = 41 := ⟨rfl, rfl⟩
theorem xc216_41 : pmCode 216 41 = some (.iload_n 2) ∧ 41 + 1 = 42 := ⟨rfl, rfl⟩
theorem xc216_42 : pmCode 216 42 = some .ireturn := rfl
theorem xc222_0 : pmCode 222 0 = some (.iload_n 1) ∧ 0 + 1 = 1 := ⟨rfl, rfl⟩
theorem xc222_1 : pmCode 222 1 = some (.invokestatic 150) ∧ 1 + 3 = 4 := ⟨rfl, rfl⟩
theorem xc222_4 : pmCode 222 4 = some (.ifCond .eq 28) ∧ ((4 : Nat) : Int) + 28 = ((32 : Nat) : Int) ∧ 4 + 3 = 7 := ⟨rfl, rfl, rfl⟩
theorem xc222_7 : pmCode 222 7 = some (.iload_n 2) ∧ 7 + 1 = 8 := ⟨rfl, rfl⟩
theorem xc222_8 : pmCode 222 8 = some (.invokestatic 135) ∧ 8 + 3 = 11 := ⟨rfl, rfl⟩
theorem xc222_11 : pmCode 222 11 = some (.ifCond .eq 21) ∧ ((11 : Nat) : Int) + 21 = ((32 : Nat) : Int) ∧ 11 + 3 = 14 := ⟨rfl, rfl, rfl⟩
theorem xc222_14 : pmCode 222 14 = some (.aload_n 0) ∧ 14 + 1 = 15 := ⟨rfl, rfl⟩
theorem xc222_15 : pmCode 222 15 = some (.bipush 36) ∧ 15 + 2 = 17 := ⟨rfl, rfl⟩
theorem xc222_17 : pmCode 222 17 = some (.bipush 7) ∧ 17 + 2 = 19 := ⟨rfl, rfl⟩
theorem xc222_19 : pmCode 222 19 = some (.iload_n 1) ∧ 19 + 1 = 20 := ⟨rfl, rfl⟩
theorem xc222_20 : pmCode 222 20 = some (.iconst 1) ∧ 20 + 1 = 21 := ⟨rfl, rfl⟩
theorem xc222_21 : pmCode 222 21 = some .isub ∧ 21 + 1 = 22 := ⟨rfl, rfl⟩
theorem xc222_22 : pmCode 222 22 = some .imul ∧ 22 + 1 = 23 := ⟨rfl, rfl⟩
theorem xc222_23 : pmCode 222 23 = some .iadd ∧ 23 + 1 = 24 := ⟨rfl, rfl⟩
theorem xc222_24 : pmCode 222 24 = some (.iload_n 2) ∧ 24 + 1 = 25 := ⟨rfl, rfl⟩
theorem xc222_25 : pmCode 222 25 = some .iadd ∧ 25 + 1 = 26 := ⟨rfl, rfl⟩
theorem xc222_26 : pmCode 222 26 = some (.invokevirtual 398) ∧ 26 + 3 = 29 := ⟨rfl, rfl⟩
theorem xc222_29 : pmCode 222 29 = some (.goto 4) ∧ ((29 : Nat) : Int) + 4 = ((33 : Nat) : Int) := ⟨rfl, rfl⟩
theorem xc222_32 : pmCode 222 32 = some (.iconst (-1)) ∧ 32 + 1 = 33 := ⟨rfl, rfl⟩
theorem xc222_33 : pmCode 222 33 = some .ireturn := rfl
theorem w100 {ro : Nat → Nat × (Nat → Int32)} {d : Nat} {Q : Option Value → pmS → Prop} {x rm : Int} {a : xA} {b : xB} (qr1 : xR x) (qr2 : xR rm) (hd : 1 ≤ d)
    (k1 : (x < 0) → Q (some (xV (-1))) (xS a b))
    (k2 : (¬ x < 0) → (5 ≤ x) → Q (some (xV (-1))) (xS a b))
    (k3 : (¬ x < 0) → (¬ 5 ≤ x) → (0 ≤ rm ∧ rm < 7) → pmCs ro d 101 [.ref 0, xV (xOr (xOr 64 (x * 8)) rm)] (xS a b) fun r σ' => pmWp ro d 11 100 1 30 [some (.ref 0), some (xV x), some (xV rm)] (r.toList ++ []) σ' Q)
    (k4 : (¬ x < 0) → (¬ 5 ≤ x) → (¬ (0 ≤ rm ∧ rm < 7)) → Q (some (xV (-1))) (xS a b)) :
    pmWp ro d 11 100 1 0 [some (.ref 0), some (xV x), some (xV rm)] [] (xS a b) Q := by
  refine x_iloadn xc100_0 rfl ?_
  refine x_iflt xc100_1 (xRk (by have g0 := xRb qr1; omega)) (fun h0 => ?_) (fun h0 => ?_)
  · refine x_iconst xc100_16 ?_
    refine x_iret xc100_17 (Or.inl rfl) ?_
    exact k1 h0
  · refine x_iloadn xc100_4 rfl ?_
    refine x_iconst xc100_5 ?_
    refine x_icge xc100_6 (xRk (by have g0 := xRb qr1; omega)) (xRk (by decide)) (fun h1 => ?_) (fun h1 => ?_)
    · refine x_iconst xc100_16 ?_
      refine x_iret xc100_17 (Or.inl rfl) ?_
      exact k2 h0 h1
    · refine x_iloadn xc100_9 rfl ?_
      refine x_cS (as := [xV rm]) (rest := []) xc100_10 rfl rfl xi14 ⟨rfl, rfl⟩ rfl rfl ?_
      refine xk14 (by omega) (xRk (by have g0 := xRb qr2; omega)) (fun h2 => ?_) (fun h3 => ?_)
      · refine x_ifne xc100_13 (xRk (by decide)) (fun _ => ?_) (fun h => absurd h (by omega))
        refine x_aloadn xc100_18 rfl ?_
        refine x_bipush xc100_19 (by decide) ?_
        refine x_iloadn xc100_21 rfl ?_
        refine x_iconst xc100_22 ?_
        refine x_ishl (M := 8) (by omega) (by omega) (by decide) xc100_23 ?_
        refine x_ior xc100_24 ?_
        refine x_iloadn xc100_25 rfl ?_
        refine x_ior xc100_26 ?_
        refine x_cV (as := [xV (xOr (xOr 64 (x * 8)) rm)]) (rest := []) xc100_27 rfl xi101 xz0 ⟨rfl, rfl⟩ rfl rfl ?_
        exact k3 h0 h1 h2
      · refine x_ifne xc100_13 (xRk (by decide)) (fun h => absurd h (by omega)) (fun _ => ?_)
        refine x_iconst xc100_16 ?_
        refine x_iret xc100_17 (Or.inl rfl) ?_
        exact k4 h0 h1 h3

theorem xg100 {ro : Nat → Nat × (Nat → Int32)} {d : Nat} {Q : Option Value → pmS → Prop} {a : xA} {b : xB} {x rm : Int} (h : pmWp ro d 11 100 1 0 [some (.ref 0), some (xV x), some (xV rm)] [] (xS a b) Q) : pmCs ro (d + 1) 100 [.ref 0, xV x, xV rm] (xS a b) Q := x_go xi100 rfl rfl rfl rfl rfl h
theorem w100a {ro : Nat → Nat × (Nat → Int32)} {d : Nat} {Q : Option Value → pmS → Prop} {x rm z : Int} {a : xA} {b : xB}
    (k1 : Q (some (xV z)) (xS a b)) :
    pmWp ro d 11 100 1 30 [some (.ref 0), some (xV x), some (xV rm)] [xV z] (xS a b) Q := by
  refine x_iret xc100_30 (Or.inl rfl) ?_
  exact k1

theorem w106a {ro : Nat → Nat × (Nat → Int32)} {d : Nat} {Q : Option Value → pmS → Prop} {p rm z : Int} {a : xA} {b : xB}
    (k1 : Q (some (xV z)) (xS a b)) :
    pmWp ro d 11 106 1 29 [some (.ref 0), some (xV p), some (xV rm)] [xV z] (xS a b) Q := by
  refine x_iret xc106_29 (Or.inl rfl) ?_
  exact k1

theorem w106 {ro : Nat → Nat × (Nat → Int32)} {d : Nat} {Q : Option Value → pmS → Prop} {p rm : Int} {a : xA} {b : xB} (qr1 : xR p) (qr2 : xR rm) (hd : 1 ≤ d)
    (k1 : (1 ≤ p ∧ p < 4) → (0 ≤ rm ∧ rm < 7) → pmCs ro d 101 [.ref 0, xV (xOr (xOr 128 (p * 8)) rm)] (xS a b) fun r σ' => pmWp ro d 11 106 1 29 [some (.ref 0), some (xV p), some (xV rm)] (r.toList ++ []) σ' Q)
    (k2 : (1 ≤ p ∧ p < 4) → (¬ (0 ≤ rm ∧ rm < 7)) → Q (some (xV (-1))) (xS a b))
    (k3 : (¬ (1 ≤ p ∧ p < 4)) → Q (some (xV (-1))) (xS a b)) :
    pmWp ro d 11 106 1 0 [some (.ref 0), some (xV p), some (xV rm)] [] (xS a b) Q := by
  refine x_iloadn xc106_0 rfl ?_
  refine x_cS (as := [xV p]) (rest := []) xc106_1 rfl rfl xi26 ⟨rfl, rfl⟩ rfl rfl ?_
  refine xk26 (by omega) (xRk (by have g0 := xRb qr1; omega)) (fun h0 => ?_) (fun h1 => ?_)
  · refine x_ifeq xc106_4 (xRk (by decide)) (fun h => absurd h (by omega)) (fun _ => ?_)
    refine x_iloadn xc106_7 rfl ?_
    refine x_cS (as := [xV rm]) (rest := []) xc106_8 rfl rfl xi14 ⟨rfl, rfl⟩ rfl rfl ?_
    refine xk14 (by omega) (xRk (by have g0 := xRb qr2; omega)) (fun h3 => ?_) (fun h4 => ?_)
    · refine x_ifne xc106_11 (xRk (by decide)) (fun _ => ?_) (fun h => absurd h (by omega))
      refine x_aloadn xc106_16 rfl ?_
      refine x_sipush xc106_17 (by decide) ?_
      refine x_iloadn xc106_20 rfl ?_
      refine x_iconst xc106_21 ?_
      refine x_ishl (M := 8) (by omega) (by omega) (by decide) xc106_22 ?_
      refine x_ior xc106_23 ?_
      refine x_iloadn xc106_24 rfl ?_
      refine x_ior xc106_25 ?_
      refine x_cV (as := [xV (xOr (xOr 128 (p * 8)) rm)]) (rest := []) xc106_26 rfl xi101 xz0 ⟨rfl, rfl⟩ rfl rfl ?_
      exact k1 h0 h3
    · refine x_ifne xc106_11 (xRk (by decide)) (fun h => absurd h (by omega)) (fun _ => ?_)
      refine x_iconst xc106_14 ?_
      refine x_iret xc106_15 (Or.inl rfl) ?_
      exact k2 h0 h4
  · refine x_ifeq xc106_4 (xRk (by decide)) (fun _ => ?_) (fun h => absurd h (by omega))
    refine x_iconst xc106_14 ?_
    refine x_iret xc106_15 (Or.inl rfl) ?_
    exact k3 h1

theorem xg106 {ro : Nat → Nat × (Nat → Int32)} {d : Nat} {Q : Option Value → pmS → Prop} {a : xA} {b : xB} {p rm : Int} (h : pmWp ro d 11 106 1 0 [some (.ref 0), some (xV p), some (xV rm)] [] (xS a b) Q) : pmCs ro (d + 1) 106 [.ref 0, xV p, xV rm] (xS a b) Q := x_go xi106 rfl rfl rfl rfl rfl h
theorem w101 {ro : Nat → Nat × (Nat → Int32)} {d : Nat} {Q : Option Value → pmS → Prop} {c : Int} {a : xA} {b : xB}
    (k1 : pmCs ro d 102 [.ref 45, .ref 21, xV c] (xS a b) fun r σ' => pmWp ro d 11 101 1 12 [some (.ref 0), some (xV c), none] (r.toList ++ []) σ' Q) :
    pmWp ro d 11 101 1 0 [some (.ref 0), some (xV c), none] [] (xS a b) Q := by
  refine x_aloadn xc101_0 rfl ?_
  refine x_gfr xc101_1 rfl rfl xz0 rfl ?_
  refine x_aloadn xc101_4 rfl ?_
  refine x_gfr xc101_5 rfl rfl xz0 rfl ?_
  refine x_iloadn xc101_8 rfl ?_
  refine x_cV (as := [.ref 21, xV c]) (rest := []) xc101_9 rfl xi102 xz45 ⟨rfl, rfl⟩ rfl rfl ?_
  exact k1

theorem xg101 {ro : Nat → Nat × (Nat → Int32)} {d : Nat} {Q : Option Value → pmS → Prop} {a : xA} {b : xB} {c : Int} (h : pmWp ro d 11 101 1 0 [some (.ref 0), some (xV c), none] [] (xS a b) Q) : pmCs ro (d + 1) 101 [.ref 0, xV c] (xS a b) Q := x_go xi101 rfl rfl rfl rfl rfl h
theorem w101a {ro : Nat → Nat × (Nat → Int32)} {d : Nat} {Q : Option Value → pmS → Prop} {c z : Int} {a : xA} {b : xB} (hzz : z = 0 ∨ z = 1)
    (k1 : (¬ z = 0) → pmCs ro d 103 [.ref 45, .ref 21, xV c] (xS a b) fun r σ' => pmWp ro d 11 101 1 29 [some (.ref 0), some (xV c), none] (r.toList ++ []) σ' Q)
    (k2 : (z = 0) → Q (some (xV (-1))) (xS a b)) :
    pmWp ro d 11 101 1 12 [some (.ref 0), some (xV c), none] [xV z] (xS a b) Q := by
  refine x_ifne xc101_12 (xRk (by have g0 := hzz; omega)) (fun h0 => ?_) (fun h0 => ?_)
  · refine x_aloadn xc101_17 rfl ?_
    refine x_gfr xc101_18 rfl rfl xz0 rfl ?_
    refine x_aloadn xc101_21 rfl ?_
    refine x_gfr xc101_22 rfl rfl xz0 rfl ?_
    refine x_iloadn xc101_25 rfl ?_
    refine x_cV (as := [.ref 21, xV c]) (rest := []) xc101_26 rfl xi103 xz45 ⟨rfl, rfl⟩ rfl rfl ?_
    exact k1 h0
  · replace h0 := Classical.not_not.mp h0
    refine x_iconst xc101_15 ?_
    refine x_iret xc101_16 (Or.inl rfl) ?_
    exact k2 h0

theorem w101b {ro : Nat → Nat × (Nat → Int32)} {d : Nat} {Q : Option Value → pmS → Prop} {c v : Int} {a : xA} {b : xB}
    (k1 : pmCs ro d 104 [.ref 45, .ref 21, xV c] (xS a b) fun r σ' => pmWp ro d 11 101 1 42 [some (.ref 0), some (xV c), some (xV v)] (r.toList ++ []) σ' Q) :
    pmWp ro d 11 101 1 29 [some (.ref 0), some (xV c), none] [xV v] (xS a b) Q := by
  refine x_istoren (pl' := [some (.ref 0), some (xV c), some (xV v)]) xc101_29 rfl rfl ?_
  refine x_aloadn xc101_30 rfl ?_
  refine x_gfr xc101_31 rfl rfl xz0 rfl ?_
  refine x_aloadn xc101_34 rfl ?_
  refine x_gfr xc101_35 rfl rfl xz0 rfl ?_
  refine x_iloadn xc101_38 rfl ?_
  refine x_cV (as := [.ref 21, xV c]) (rest := []) xc101_39 rfl xi104 xz45 ⟨rfl, rfl⟩ rfl rfl ?_
  exact k1

theorem w101c {ro : Nat → Nat × (Nat → Int32)} {d : Nat} {Q : Option Value → pmS → Prop} {c v : Int} {a : xA} {b : xB}
    (k1 : pmCs ro d 105 [.ref 79, xV (a 21 6), xV c] (xS a b) fun r σ' => pmWp ro d 11 101 1 57 [some (.ref 0), some (xV c), some (xV v)] (r.toList ++ []) σ' Q) :
    pmWp ro d 11 101 1 42 [some (.ref 0), some (xV c), some (xV v)] [] (xS a b) Q := by
  refine x_aloadn xc101_42 rfl ?_
  refine x_gfr xc101_43 rfl rfl xz0 rfl ?_
  refine x_aloadn xc101_46 rfl ?_
  refine x_gfr xc101_47 rfl rfl xz0 rfl ?_
  refine x_gfi (k := 6) xc101_50 rfl (Or.inl rfl) rfl xz21 ?_
  refine x_iloadn xc101_53 rfl ?_
  refine x_cV (as := [xV (a 21 6), xV c]) (rest := []) xc101_54 rfl xi105 xz79 ⟨rfl, rfl⟩ rfl rfl ?_
  exact k1

theorem w101d {ro : Nat → Nat × (Nat → Int32)} {d : Nat} {Q : Option Value → pmS → Prop} {c v : Int} {a : xA} {b : xB}
    (k1 : Q (some (xV v)) (xS a b)) :
    pmWp ro d 11 101 1 57 [some (.ref 0), some (xV c), some (xV v)] [] (xS a b) Q := by
  refine x_iloadn xc101_57 rfl ?_
  refine x_iret xc101_58 (Or.inl rfl) ?_
  exact k1

theorem w105 {ro : Nat → Nat × (Nat → Int32)} {d : Nat} {Q : Option Value → pmS → Prop} {t c : Int} {a : xA} {b : xB} (ht : 1 ≤ t ∧ t ≤ 60)
    (k1 : (t < 1) → Q none (xS a b))
    (k2 : (¬ t < 1) → (60 < t) → Q none (xS a b))
    (k3 : (¬ t < 1) → (¬ 60 < t) → Q none (xS (xU a 86 t c) b)) :
    pmWp ro d 0 105 0 0 [some (.ref 79), some (xV t), some (xV c)] [] (xS a b) Q := by
  refine x_iloadn xc105_0 rfl ?_
  refine x_iconst xc105_1 ?_
  refine x_iclt xc105_2 (xRk (by have g0 := ht; omega)) (xRk (by decide)) (fun h0 => ?_) (fun h0 => ?_)
  · refine x_ret xc105_18 rfl ?_
    exact k1 h0
  · refine x_iloadn xc105_5 rfl ?_
    refine x_bipush xc105_6 (by decide) ?_
    refine x_icgt xc105_8 (xRk (by have g0 := ht; omega)) (xRk (by decide)) (fun h1 => ?_) (fun h1 => ?_)
    · refine x_ret xc105_18 rfl ?_
      exact k2 h0 h1
    · refine x_aloadn xc105_11 rfl ?_
      refine x_gfr xc105_12 rfl rfl xz79 rfl ?_
      refine x_iloadn xc105_15 rfl ?_
      refine x_iloadn xc105_16 rfl ?_
      refine x_ias xc105_17 xz86 (by have g0 := ht; omega) (by have g0 := ht; omega) (by have g0 := ht; omega) ?_
      refine x_ret xc105_18 rfl ?_
      exact k3 h0 h1

theorem xg105 {ro : Nat → Nat × (Nat → Int32)} {d : Nat} {Q : Option Value → pmS → Prop} {a : xA} {b : xB} {t c : Int} (h : pmWp ro d 0 105 0 0 [some (.ref 79), some (xV t), some (xV c)] [] (xS a b) Q) : pmCs ro (d + 1) 105 [.ref 79, xV t, xV c] (xS a b) Q := x_go xi105 rfl rfl rfl rfl rfl h
theorem w215 {ro : Nat → Nat × (Nat → Int32)} {d : Nat} {Q : Option Value → pmS → Prop} {x rm n : Int} {a : xA} {b : xB} (qr1 : xR x) (qr2 : xR rm) (hn : a 87 2 = n) (hn0 : 0 ≤ n ∧ n ≤ 5) (hd : 2 ≤ d)
    (k1 : (0 ≤ x ∧ x < n) → (0 ≤ rm ∧ rm < 7) → pmCs ro d 216 [.ref 87, xV (1 + (7 * x) + rm)] (xS a b) fun r σ' => pmWp ro d 12 215 1 27 [some (.ref 87), some (xV x), some (xV rm)] (r.toList ++ []) σ' Q)
    (k2 : (0 ≤ x ∧ x < n) → (¬ (0 ≤ rm ∧ rm < 7)) → Q (some (xV (-1))) (xS a b))
    (k3 : (¬ (0 ≤ x ∧ x < n)) → Q (some (xV (-1))) (xS a b)) :
    pmWp ro d 12 215 1 0 [some (.ref 87), some (xV x), some (xV rm)] [] (xS a b) Q := by
  refine x_aloadn xc215_0 rfl ?_
  refine x_iloadn xc215_1 rfl ?_
  refine x_cV (as := [xV x]) (rest := []) xc215_2 rfl xi148 xz87 ⟨rfl, rfl⟩ rfl rfl ?_
  refine rk148 (by omega) (xRk (by have g0 := xRb qr1; omega)) hn hn0 (fun h0 => ?_) (fun h1 => ?_)
  · refine x_ifeq xc215_5 (xRk (by decide)) (fun h => absurd h (by omega)) (fun _ => ?_)
    refine x_iloadn xc215_8 rfl ?_
    refine x_cS (as := [xV rm]) (rest := []) xc215_9 rfl rfl xi138 ⟨rfl, rfl⟩ rfl rfl ?_
    refine xk138 (by omega) (xRk (by have g0 := xRb qr2; omega)) (fun h3 => ?_) (fun h4 => ?_)
    · refine x_ifeq xc215_12 (xRk (by decide)) (fun h => absurd h (by omega)) (fun _ => ?_)
      refine x_aloadn xc215_15 rfl ?_
      refine x_iconst xc215_16 ?_
      refine x_bipush xc215_17 (by decide) ?_
      refine x_iloadn xc215_19 rfl ?_
      refine x_imul xc215_20 ?_
      refine x_iadd xc215_21 ?_
      refine x_iloadn xc215_22 rfl ?_
      refine x_iadd xc215_23 ?_
      refine x_cV (as := [xV (1 + (7 * x) + rm)]) (rest := []) xc215_24 rfl xi216 xz87 ⟨rfl, rfl⟩ rfl rfl ?_
      exact k1 h0 h3
    · refine x_ifeq xc215_12 (xRk (by decide)) (fun _ => ?_) (fun h => absurd h (by omega))
      refine x_iconst xc215_30 ?_
      refine x_iret xc215_31 (Or.inl rfl) ?_
      exact k2 h0 h4
  · refine x_ifeq xc215_5 (xRk (by decide)) (fun _ => ?_) (fun h => absurd h (by omega))
    refine x_iconst xc215_30 ?_
    refine x_iret xc215_31 (Or.inl rfl) ?_
    exact k3 h1

theorem xg215 {ro : Nat → Nat × (Nat → Int32)} {d : Nat} {Q : Option Value → pmS → Prop} {a : xA} {b : xB} {x rm : Int} (h : pmWp ro d 12 215 1 0 [some (.ref 87), some (xV x), some (xV rm)] [] (xS a b) Q) : pmCs ro (d + 1) 215 [.ref 87, xV x, xV rm] (xS a b) Q := x_go xi215 rfl rfl rfl rfl rfl h
theorem w215a {ro : Nat → Nat × (Nat → Int32)} {d : Nat} {Q : Option Value → pmS → Prop} {x rm z : Int} {a : xA} {b : xB}
    (k1 : Q (some (xV z)) (xS a b)) :
    pmWp ro d 12 215 1 27 [some (.ref 87), some (xV x), some (xV rm)] [xV z] (xS a b) Q := by
  refine x_goto xc215_27 ?_
  refine x_iret xc215_31 (Or.inl rfl) ?_
  exact k1

theorem w222 {ro : Nat → Nat × (Nat → Int32)} {d : Nat} {Q : Option Value → pmS → Prop} {p rm : Int} {a : xA} {b : xB} (qr1 : xR p) (qr2 : xR rm) (hd : 2 ≤ d)
    (k1 : (1 ≤ p ∧ p < 4) → (0 ≤ rm ∧ rm < 7) → pmCs ro d 216 [.ref 87, xV (36 + (7 * (p - 1)) + rm)] (xS a b) fun r σ' => pmWp ro d 12 222 1 29 [some (.ref 87), some (xV p), some (xV rm)] (r.toList ++ []) σ' Q)
    (k2 : (1 ≤ p ∧ p < 4) → (¬ (0 ≤ rm ∧ rm < 7)) → Q (some (xV (-1))) (xS a b))
    (k3 : (¬ (1 ≤ p ∧ p < 4)) → Q (some (xV (-1))) (xS a b)) :
    pmWp ro d 12 222 1 0 [some (.ref 87), some (xV p), some (xV rm)] [] (xS a b) Q := by
  refine x_iloadn xc222_0 rfl ?_
  refine x_cS (as := [xV p]) (rest := []) xc222_1 rfl rfl xi146 ⟨rfl, rfl⟩ rfl rfl ?_
  refine xk146 (by omega) (xRk (by have g0 := xRb qr1; omega)) (fun h0 => ?_) (fun h1 => ?_)
  · refine x_ifeq xc222_4 (xRk (by decide)) (fun h => absurd h (by omega)) (fun _ => ?_)
    refine x_iloadn xc222_7 rfl ?_
    refine x_cS (as := [xV rm]) (rest := []) xc222_8 rfl rfl xi138 ⟨rfl, rfl⟩ rfl rfl ?_
    refine xk138 (by omega) (xRk (by have g0 := xRb qr2; omega)) (fun h3 => ?_) (fun h4 => ?_)
    · refine x_ifeq xc222_11 (xRk (by decide)) (fun h => absurd h (by omega)) (fun _ => ?_)
      refine x_aloadn xc222_14 rfl ?_
      refine x_bipush xc222_15 (by decide) ?_
      refine x_bipush xc222_17 (by decide) ?_
      refine x_iloadn xc222_19 rfl ?_
      refine x_iconst xc222_20 ?_
      refine x_isub xc222_21 ?_
      refine x_imul xc222_22 ?_
      refine x_iadd xc222_23 ?_
      refine x_iloadn xc222_24 rfl ?_
      refine x_iadd xc222_25 ?_
      refine x_cV (as := [xV (36 + (7 * (p - 1)) + rm)]) (rest := []) xc222_26 rfl xi216 xz87 ⟨rfl, rfl⟩ rfl rfl ?_
      exact k1 h0 h3
    · refine x_ifeq xc222_11 (xRk (by decide)) (fun _ => ?_) (fun h => absurd h (by omega))
      refine x_iconst xc222_32 ?_
      refine x_iret xc222_33 (Or.inl rfl) ?_
      exact k2 h0 h4
  · refine x_ifeq xc222_4 (xRk (by decide)) (fun _ => ?_) (fun h => absurd h (by omega))
    refine x_iconst xc222_32 ?_
    refine x_iret xc222_33 (Or.inl rfl) ?_
    exact k3 h1

theorem xg222 {ro : Nat → Nat × (Nat → Int32)} {d : Nat} {Q : Option Value → pmS → Prop} {a : xA} {b : xB} {p rm : Int} (h : pmWp ro d 12 222 1 0 [some (.ref 87), some (xV p), some (xV rm)] [] (xS a b) Q) : pmCs ro (d + 1) 222 [.ref 87, xV p, xV rm] (xS a b) Q := x_go xi222 rfl rfl rfl rfl rfl h
theorem w222a {ro : Nat → Nat × (Nat → Int32)} {d : Nat} {Q : Option Value → pmS → Prop} {p rm z : Int} {a : xA} {b : xB}
    (k1 : Q (some (xV z)) (xS a b)) :
    pmWp ro d 12 222 1 29 [some (.ref 87), some (xV p), some (xV rm)] [xV z] (xS a b) Q := by
  refine x_goto xc222_29 ?_
  refine x_iret xc222_33 (Or.inl rfl) ?_
  exact k1

theorem w216 {ro : Nat → Nat × (Nat → Int32)} {d : Nat} {Q : Option Value → pmS → Prop} {c : Int} {a : xA} {b : xB} (hbg : 0 ≤ a 87 4 ∧ a 87 4 ≤ 1)
    (k1 : (a 87 4 = 0) → Q (some (xV (-1))) (xS a b))
    (k2 : (¬ a 87 4 = 0) → pmCs ro d 217 [.ref 87, xV c] (xS a b) fun r σ' => pmWp ro d 12 216 1 12 [some (.ref 87), some (xV c), none] (r.toList ++ []) σ' Q) :
    pmWp ro d 12 216 1 0 [some (.ref 87), some (xV c), none] [] (xS a b) Q := by
  refine x_aloadn xc216_0 rfl ?_
  refine x_gfi (k := 4) xc216_1 rfl (Or.inr rfl) rfl xz87 ?_
  refine x_ifeq xc216_4 (xRk (by have g0 := hbg; omega)) (fun h0 => ?_) (fun h0 => ?_)
  · refine x_iconst xc216_15 ?_
    refine x_iret xc216_16 (Or.inl rfl) ?_
    exact k1 h0
  · refine x_aloadn xc216_7 rfl ?_
    refine x_iloadn xc216_8 rfl ?_
    refine x_cV (as := [xV c]) (rest := []) xc216_9 rfl xi217 xz87 ⟨rfl, rfl⟩ rfl rfl ?_
    exact k2 h0

theorem xg216 {ro : Nat → Nat × (Nat → Int32)} {d : Nat} {Q : Option Value → pmS → Prop} {a : xA} {b : xB} {c : Int} (h : pmWp ro d 12 216 1 0 [some (.ref 87), some (xV c), none] [] (xS a b) Q) : pmCs ro (d + 1) 216 [.ref 87, xV c] (xS a b) Q := x_go xi216 rfl rfl rfl rfl rfl h
theorem w216a {ro : Nat → Nat × (Nat → Int32)} {d : Nat} {Q : Option Value → pmS → Prop} {c z : Int} {a : xA} {b : xB} (hzz : z = 0 ∨ z = 1) (hc : 0 ≤ c ∧ c ≤ 56) (hd : 1 ≤ d)
    (k1 : (¬ z = 0) → pmCs ro d 221 [.ref 87, xV c] (xS a b) fun r σ' => pmWp ro d 12 216 1 28 [some (.ref 87), some (xV c), some (xV (uPr c (a 88)))] (r.toList ++ []) σ' Q)
    (k2 : (z = 0) → Q (some (xV (-1))) (xS a b)) :
    pmWp ro d 12 216 1 12 [some (.ref 87), some (xV c), none] [xV z] (xS a b) Q := by
  refine x_ifne xc216_12 (xRk (by have g0 := hzz; omega)) (fun h0 => ?_) (fun h0 => ?_)
  · refine x_aloadn xc216_17 rfl ?_
    refine x_iloadn xc216_18 rfl ?_
    refine x_cV (as := [xV c]) (rest := []) xc216_19 rfl xi220 xz87 ⟨rfl, rfl⟩ rfl rfl ?_
    refine rk220 (by omega) (by have g0 := hc; omega) ?_
    refine x_istoren (pl' := [some (.ref 87), some (xV c), some (xV (uPr c (a 88)))]) xc216_22 rfl rfl ?_
    refine x_aloadn xc216_23 rfl ?_
    refine x_iloadn xc216_24 rfl ?_
    refine x_cV (as := [xV c]) (rest := []) xc216_25 rfl xi221 xz87 ⟨rfl, rfl⟩ rfl rfl ?_
    exact k1 h0
  · replace h0 := Classical.not_not.mp h0
    refine x_iconst xc216_15 ?_
    refine x_iret xc216_16 (Or.inl rfl) ?_
    exact k2 h0

theorem w216b {ro : Nat → Nat × (Nat → Int32)} {d : Nat} {Q : Option Value → pmS → Prop} {c v t : Int} {a : xA} {b : xB} (htn : a 88 114 = t) (ht : 0 ≤ t ∧ t ≤ 60)
    (k1 : Q (some (xV v)) (xS (xU a 123 t c) b)) :
    pmWp ro d 12 216 1 28 [some (.ref 87), some (xV c), some (xV v)] [] (xS a b) Q := by
  refine x_aloadn xc216_28 rfl ?_
  refine x_gfr xc216_29 rfl rfl xz87 rfl ?_
  refine x_aloadn xc216_32 rfl ?_
  refine x_gfr xc216_33 rfl rfl xz87 rfl ?_
  refine x_bipush xc216_36 (by decide) ?_
  refine x_ial' (v := t) xc216_38 xz88 rfl (by omega) (by omega) (by omega) htn ?_
  refine x_iloadn xc216_39 rfl ?_
  refine x_ias xc216_40 xz123 (by have g0 := ht; omega) (by have g0 := ht; omega) (by have g0 := ht; omega) ?_
  refine x_iloadn xc216_41 rfl ?_
  refine x_iret xc216_42 (Or.inl rfl) ?_
  exact k1

end
end
section
/-! settle, shift by rows -/
section
set_option maxRecDepth 100000


section
variable {ro : Nat → Nat × (Nat → Int32)} {d w : Nat} {Q : Option Value → pmS → Prop} {dr wp co pr cnt W : Int → Int} {T : Int → List Int} {n c x rm p : Int} {r r' : Int → Int} {a a' a0 : xA} {b b' : xB}
theorem uAx_114 (hn0 : 0 ≤ n ∧ n ≤ 5) (hr : uRv n r) (hc : 0 ≤ c ∧ c ≤ 56) : uAx n c r 114 = r 114 := by
  unfold uAx
  by_cases c0 : c = 0
  · rw [if_pos c0]
  · rw [if_neg c0, uAl_hi hn0.2 (uRv_x hn0 hr ⟨by omega, hc.2⟩) (by decide), uAa_hi ⟨by omega, hc.2⟩ (by decide)]
    rfl
/-- what stands behind an act of the class's -/
def uPu (dr : Int → Int) (n c : Int) (r : Int → Int) (a a' : xA) (b b' : xB) : Prop := (∀ q j, ¬ q = 25 → ¬ (q = 21 ∧ (j = 8 ∨ j = 9 ∨ j = 10 ∨ j = 12)) → ¬ (q = 86 ∧ j = r 114) → a' q j = a q j) ∧ (∀ q j, ¬ (q = 21 ∧ (j = 4 ∨ j = 5)) → ¬ (q = 22 ∧ 1 ≤ j ∧ j ≤ 3) → b' q j = b q j) ∧ xAr a' ∧ uCx n 21 (uAx n c r) a' b' ∧ a' 86 (r 114) = uAn c ∧ ∀ j, 0 ≤ j → j < 3 → a' 25 j = 0
/-- push -/
theorem u101 (hA : xAr a) (hn0 : 0 ≤ n ∧ n ≤ 5) (hKs : uKs dr wp n a b) (hX : uCx n 21 r a b) (hB : uBd r) (ht : r 114 ≤ 60) (hc : 1 ≤ c ∧ c ≤ 56) (hd : 5 ≤ d) (hT : uAc dr n c r → ∀ a' b', uPu dr n c r a a' b b' → Q (some (xV (uPr c r))) (xS a' b')) (hF : ¬ uAc dr n c r → Q (some (xV (-1))) (xS a b)) : pmCs ro d 101 [.ref 0, xV (uAn c)] (xS a b) Q := by
  refine pmCs_deep (d := 5) (xg101 (w101 ?_)) hd
  refine u102 uWo21.1 hA hKs hX hB hc (by decide) (fun h => w101a (by decide) (fun _ => ?_) (fun e => absurd e (by decide))) (fun h => w101a (by decide) (fun e => absurd rfl e) (fun _ => hF h))
  refine u103 uWo21.1 hA hX hB (by omega) (by decide) (w101b ?_)
  have h1 : ¬ r 114 = 0 ∧ r 115 = 0 ∧ uAo dr n c r := h.elim (fun e => by omega) id
  refine u104 uWo21.1 hA hn0 hX hB hc h1.2.2 (by decide) (fun a1 b1 f1 A1 X1 z1 => w101c ?_)
  have e6 : a1 21 6 = r 114 := by rw [X1.2.1, uAx_114 hn0 hX.1.1 (by omega)]
  rw [e6]
  have hlo : 1 ≤ r 114 := by
    have := hB.1
    omega
  refine pmCs_deep (d := 1) (xg105 (w105 ⟨hlo, ht⟩ (fun e => by omega) (fun _ e => by omega) (fun _ _ => w101d (hT h _ b1 ⟨fun q j e1 e2 e3 => ?_, f1.2, xAr_u A1 ?_, ?_, xUa, fun j j0 j1 => ?_⟩)))) (by decide)
  · rw [xUo e3]
    exact f1.1 q j e1 e2
  · by_cases cs : c < 36
    · have := (uAn_s ⟨hc.1, cs⟩).1
      exact ⟨by omega, by omega⟩
    · have := (uAn_h ⟨by omega, hc.2⟩).1
      exact ⟨by omega, by omega⟩
  · obtain ⟨k1, k2, k3, k4, k5, k6⟩ := X1
    exact ⟨uCw_o k1 (fun j => xUn (by decide)) (xUn (by decide)) rfl rfl (fun _ _ _ => rfl), (xUn (by decide)).trans k2, (xUn (by decide)).trans k3, (xUn (by decide)).trans k4, (xUn (by decide)).trans k5, (xUn (by decide)).trans k6⟩
  · rw [xUn (by decide)]
    exact z1 j j0 j1
theorem uAn_1 (hx : 0 ≤ x ∧ x < 5) (hm : 0 ≤ rm ∧ rm < 7) : xOr (xOr 64 (x * 8)) rm = uAn (1 + 7 * x + rm) := by
  have e6 : ((2 ^ 6 : Nat) : Int) = 64 := rfl
  have e3 : ((2 ^ 3 : Nat) : Int) = 8 := rfl
  have o1 := xOr_dj 6 (by decide) (m := 1) (y := x * 8) (by decide) (by rw [e6]; omega)
  have o2 := xOr_dj 3 (by decide) (m := 8 + x) (y := rm) (by omega) (by rw [e3]; omega)
  rw [e6] at o1
  rw [e3] at o2
  rw [show (64 : Int) * 1 = 64 from rfl] at o1
  rw [o1, show 64 + x * 8 = 8 * (8 + x) by omega, o2]
  unfold uAn
  rw [if_neg (by omega), if_pos (by omega)]
  omega
theorem uAn_2 (hp : 1 ≤ p ∧ p < 4) (hm : 0 ≤ rm ∧ rm < 7) : xOr (xOr 128 (p * 8)) rm = uAn (36 + 7 * (p - 1) + rm) := by
  have e6 : ((2 ^ 6 : Nat) : Int) = 64 := rfl
  have e3 : ((2 ^ 3 : Nat) : Int) = 8 := rfl
  have o1 := xOr_dj 6 (by decide) (m := 2) (y := p * 8) (by decide) (by rw [e6]; omega)
  have o2 := xOr_dj 3 (by decide) (m := 16 + p) (y := rm) (by omega) (by rw [e3]; omega)
  rw [e6] at o1
  rw [e3] at o2
  rw [show (64 : Int) * 2 = 128 from rfl] at o1
  rw [o1, show 128 + p * 8 = 8 * (16 + p) by omega, o2]
  unfold uAn
  rw [if_neg (by omega), if_neg (by omega)]
  omega
/-- settle of the class -/
theorem u100 (q1 : xR x) (q2 : xR rm) (hA : xAr a) (hn0 : 0 ≤ n ∧ n ≤ 5) (hKs : uKs dr wp n a b) (hX : uCx n 21 r a b) (hB : uBd r) (ht : r 114 ≤ 60) (hd : 6 ≤ d) (hT : (0 ≤ x ∧ x < n) → (0 ≤ rm ∧ rm < 7) → uAc dr n (1 + 7 * x + rm) r → ∀ a' b', uPu dr n (1 + 7 * x + rm) r a a' b b' → Q (some (xV (uPr (1 + 7 * x + rm) r))) (xS a' b')) (hF : ¬ ((0 ≤ x ∧ x < n) ∧ (0 ≤ rm ∧ rm < 7) ∧ uAc dr n (1 + 7 * x + rm) r) → Q (some (xV (-1))) (xS a b)) : pmCs ro d 100 [.ref 0, xV x, xV rm] (xS a b) Q := by
  refine pmCs_deep (d := 6) (xg100 (w100 q1 q2 (by decide) (fun e => hF (fun h => by omega)) (fun _ e => hF (fun h => by omega)) (fun e1 e2 hm => ?_) (fun _ _ e => hF (fun h => e h.2.1)))) hd
  rw [uAn_1 ⟨by omega, by omega⟩ hm]
  refine u101 hA hn0 hKs hX hB ht (by omega) (by decide) (fun h a' b' hp => w100a (hT ?_ hm h a' b' hp)) (fun h => w100a (hF (fun g => h g.2.2)))
  have h1 : uAo dr n (1 + 7 * x + rm) r := h.elim (fun e => by omega) (fun e => e.2.2)
  rw [uAo_s (by omega), show (1 + 7 * x + rm - 1) / 7 = x by omega] at h1
  exact ⟨by omega, h1.1.1⟩
/-- shift of the class -/
theorem u106 (q1 : xR p) (q2 : xR rm) (hA : xAr a) (hn0 : 0 ≤ n ∧ n ≤ 5) (hKs : uKs dr wp n a b) (hX : uCx n 21 r a b) (hB : uBd r) (ht : r 114 ≤ 60) (hd : 6 ≤ d) (hT : (1 ≤ p ∧ p < 4) → (0 ≤ rm ∧ rm < 7) → uAc dr n (36 + 7 * (p - 1) + rm) r → ∀ a' b', uPu dr n (36 + 7 * (p - 1) + rm) r a a' b b' → Q (some (xV (uPr (36 + 7 * (p - 1) + rm) r))) (xS a' b')) (hF : ¬ ((1 ≤ p ∧ p < 4) ∧ (0 ≤ rm ∧ rm < 7) ∧ uAc dr n (36 + 7 * (p - 1) + rm) r) → Q (some (xV (-1))) (xS a b)) : pmCs ro d 106 [.ref 0, xV p, xV rm] (xS a b) Q := by
  refine pmCs_deep (d := 6) (xg106 (w106 q1 q2 (by decide) (fun hp hm => ?_) (fun _ e => hF (fun h => e h.2.1)) (fun e => hF (fun h => e h.1)))) hd
  rw [uAn_2 hp hm]
  exact u101 hA hn0 hKs hX hB ht (by omega) (by decide) (fun h a' b' hp' => w106a (hT hp hm h a' b' hp')) (fun h => w106a (hF (fun g => h g.2.2)))
/-- what stands behind an act of the reference -/
def uRa (n c : Int) (a a' : xA) : Prop := (∀ q j, q ≠ 88 → ¬ (q = 123 ∧ j = a 88 114) → a' q j = a q j) ∧ xAr a' ∧ a' 88 = uAx n c (a 88) ∧ a' 123 (a 88 114) = c
/-- actsNow -/
theorem u216 (hB : uRb dr wp pr cnt W T n a) (hr : uRv n (a 88)) (hbg : a 87 4 = 1) (hb : uBd (a 88)) (ht : a 88 114 ≤ 60) (hc : 1 ≤ c ∧ c ≤ 56) (hd : 5 ≤ d) (hT : uAc dr n c (a 88) → ∀ a', uRa n c a a' → Q (some (xV (uPr c (a 88)))) (xS a' b)) (hF : ¬ uAc dr n c (a 88) → Q (some (xV (-1))) (xS a b)) : pmCs ro d 216 [.ref 87, xV c] (xS a b) Q := by
  obtain ⟨b1, b2, b3, b4, b5, b6⟩ := hb
  have hA := hB.1
  have hn := hB.2.1.2.1
  have hn0 : 0 ≤ n ∧ n ≤ 5 := hB.2.1.2.2.1
  refine pmCs_deep (d := 5) (xg216 (w216 (by omega) (fun e => by omega) (fun _ => ?_))) hd
  refine u217 hA hn hn0 hB.2.2.1 hr (by omega) b2 (by omega) (by decide) (fun h => w216a (by decide) (by omega) (by decide) (fun _ => ?_) (fun e => absurd e (by decide))) (fun h => w216a (by decide) (by omega) (by decide) (fun e => absurd rfl e) (fun _ => hF h))
  refine u221 hA hn hn0 hr (by omega) (by omega) (by omega) (by omega) (by decide) (fun a1 x1 A1 R1 => ?_)
  have e114 : a1 88 114 = a 88 114 := by rw [R1, uAx_114 hn0 hr (by omega)]
  refine w216b e114 (by omega) (hT h _ ⟨fun q j e1 e2 => ?_, xAr_u A1 ⟨by omega, by omega⟩, ?_, xUa⟩)
  · rw [xUo e2]
    exact x1 q j e1
  · rw [← R1]
    exact funext fun j => xUn (by decide)
/-- settle of the reference -/
theorem u215 (q1 : xR x) (q2 : xR rm) (hB : uRb dr wp pr cnt W T n a) (hr : uRv n (a 88)) (hbg : a 87 4 = 1) (hb : uBd (a 88)) (ht : a 88 114 ≤ 60) (hd : 6 ≤ d) (hT : (0 ≤ x ∧ x < n) → (0 ≤ rm ∧ rm < 7) → uAc dr n (1 + 7 * x + rm) (a 88) → ∀ a', uRa n (1 + 7 * x + rm) a a' → Q (some (xV (uPr (1 + 7 * x + rm) (a 88)))) (xS a' b)) (hF : ¬ ((0 ≤ x ∧ x < n) ∧ (0 ≤ rm ∧ rm < 7) ∧ uAc dr n (1 + 7 * x + rm) (a 88)) → Q (some (xV (-1))) (xS a b)) : pmCs ro d 215 [.ref 87, xV x, xV rm] (xS a b) Q := by
  have hn0 : 0 ≤ n ∧ n ≤ 5 := hB.2.1.2.2.1
  refine pmCs_deep (d := 6) (xg215 (w215 q1 q2 hB.2.1.2.1 hn0 (by decide) (fun hx hm => ?_) (fun _ e => hF (fun h => e h.2.1)) (fun e => hF (fun h => e h.1)))) hd
  exact u216 hB hr hbg hb ht (by omega) (by decide) (fun h a' hp => w215a (hT hx hm h a' hp)) (fun h => w215a (hF (fun g => h g.2.2)))
/-- shift of the reference -/
theorem u222 (q1 : xR p) (q2 : xR rm) (hB : uRb dr wp pr cnt W T n a) (hr : uRv n (a 88)) (hbg : a 87 4 = 1) (hb : uBd (a 88)) (ht : a 88 114 ≤ 60) (hd : 6 ≤ d) (hT : (1 ≤ p ∧ p < 4) → (0 ≤ rm ∧ rm < 7) → uAc dr n (36 + 7 * (p - 1) + rm) (a 88) → ∀ a', uRa n (36 + 7 * (p - 1) + rm) a a' → Q (some (xV (uPr (36 + 7 * (p - 1) + rm) (a 88)))) (xS a' b)) (hF : ¬ ((1 ≤ p ∧ p < 4) ∧ (0 ≤ rm ∧ rm < 7) ∧ uAc dr n (36 + 7 * (p - 1) + rm) (a 88)) → Q (some (xV (-1))) (xS a b)) : pmCs ro d 222 [.ref 87, xV p, xV rm] (xS a b) Q := by
  refine pmCs_deep (d := 6) (xg222 (w222 q1 q2 (by decide) (fun hp hm => ?_) (fun _ e => hF (fun h => e h.2.1)) (fun e => hF (fun h => e h.1)))) hd
  exact u216 hB hr hbg hb ht (by omega) (by decide) (fun h a' hp' => w222a (hT hp hm h a' hp')) (fun h => w222a (hF (fun g => h g.2.2)))
end
end
end
