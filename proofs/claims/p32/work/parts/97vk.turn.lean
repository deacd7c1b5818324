/-! turn, by rows: deeds by numbers -/
section
set_option maxRecDepth 100000


section
variable {ro : Nat → Nat × (Nat → Int32)} {d w : Nat} {Q : Option Value → pmS → Prop} {dr wp co pr cnt W : Int → Int} {T : Int → List Int} {n f kk k x y cd wt p : Int} {S S' r r' : Int → Int} {a a' a0 : xA} {b b' : xB}
/-- a deed by kind, x and y -/
abbrev uFt (kk x y : Int) : Prop := (kk = 0 ∧ x = -1 ∧ y = -1) ∨ (kk = 1 ∧ (0 ≤ x ∧ x < 7) ∧ y = -1) ∨ ((kk = 2 ∨ kk = 3) ∧ (0 ≤ x ∧ x < 5) ∧ y = -1) ∨ ((kk = 4 ∨ kk = 6) ∧ (0 ≤ x ∧ x < 5) ∧ 0 ≤ y ∧ y < 4) ∨ (kk = 5 ∧ (0 ≤ x ∧ x < 4) ∧ y = -1)
def uQc (kk x y : Int) : Int := if kk = 0 then -1 else if kk = 1 then x else if kk = 2 then 7 + x else if kk = 3 then 12 + x else if kk = 4 then 17 + 4 * x + y else if kk = 5 then 37 + x else 41 + 4 * x + y
theorem uQc_0 : uQc 0 (-1) (-1) = -1 := rfl
theorem uKd6 (hk : 41 ≤ k ∧ k < 61) : uK k = 6 ∧ uX k = (k - 41) / 4 ∧ uY k = (k - 41) % 4 := by
  unfold uK uX uY
  rw [if_neg (show ¬ k < 0 by omega), if_neg (show ¬ k < 7 by omega), if_neg (show ¬ k < 12 by omega), if_neg (show ¬ k < 17 by omega), if_neg (show ¬ k < 37 by omega), if_neg (show ¬ k < 41 by omega)]
  rw [if_neg (show ¬ k < 0 by omega), if_neg (show ¬ k < 7 by omega), if_neg (show ¬ k < 12 by omega), if_neg (show ¬ k < 17 by omega), if_neg (show ¬ k < 37 by omega), if_neg (show ¬ k < 41 by omega)]
  exact ⟨rfl, rfl, by rw [if_neg (show ¬ k < 17 by omega), if_neg (show ¬ k < 37 by omega), if_neg (show ¬ k < 41 by omega)]⟩
theorem uQc_k : ∀ u : Fin 7, ∀ v : Fin 8, ∀ w : Fin 5, uFt (u.val : Int) ((v.val : Int) - 1) ((w.val : Int) - 1) → (-1 ≤ uQc (u.val : Int) ((v.val : Int) - 1) ((w.val : Int) - 1) ∧ uQc (u.val : Int) ((v.val : Int) - 1) ((w.val : Int) - 1) < 61) ∧ uK (uQc (u.val : Int) ((v.val : Int) - 1) ((w.val : Int) - 1)) = (u.val : Int) ∧ uX (uQc (u.val : Int) ((v.val : Int) - 1) ((w.val : Int) - 1)) = (v.val : Int) - 1 ∧ uY (uQc (u.val : Int) ((v.val : Int) - 1) ((w.val : Int) - 1)) = (w.val : Int) - 1 := by decide +kernel
theorem uFt_b (h : uFt kk x y) : (0 ≤ kk ∧ kk < 7) ∧ (-1 ≤ x ∧ x < 7) ∧ -1 ≤ y ∧ y < 4 := by
  rcases h with h | h | h | h | h <;> omega
theorem uQc_f (h : uFt kk x y) : (-1 ≤ uQc kk x y ∧ uQc kk x y < 61) ∧ uK (uQc kk x y) = kk ∧ uX (uQc kk x y) = x ∧ uY (uQc kk x y) = y := by
  obtain ⟨b1, b2, b3⟩ := uFt_b h
  have e1 : ((kk.toNat : Nat) : Int) = kk := Int.toNat_of_nonneg b1.1
  have e2 : (((x + 1).toNat : Nat) : Int) - 1 = x := by
    rw [Int.toNat_of_nonneg (by omega)]
    omega
  have e3 : (((y + 1).toNat : Nat) : Int) - 1 = y := by
    rw [Int.toNat_of_nonneg (by omega)]
    omega
  have key := uQc_k ⟨kk.toNat, (Int.toNat_lt b1.1).mpr b1.2⟩ ⟨(x + 1).toNat, (Int.toNat_lt (by clear h; omega)).mpr (by clear h; omega)⟩ ⟨(y + 1).toNat, (Int.toNat_lt (by clear h; omega)).mpr (by clear h; omega)⟩
  dsimp only at key
  rw [e1, e2, e3] at key
  exact key h
/-- kept from omega -/
def uFw (kk x y : Int) : Prop := uFt kk x y
theorem uFt_c (hk : 0 ≤ k ∧ k < 61) : uFt (uK k) (uX k) (uY k) ∧ uQc (uK k) (uX k) (uY k) = k := by
  have key : ∀ v : Fin 61, uFt (uK (v.val : Int)) (uX (v.val : Int)) (uY (v.val : Int)) ∧ uQc (uK (v.val : Int)) (uX (v.val : Int)) (uY (v.val : Int)) = (v.val : Int) := by decide +kernel
  have := key ⟨k.toNat, by omega⟩
  have e : ((k.toNat : Nat) : Int) = k := by omega
  rw [e] at this
  exact this
/-- codeOf -/
theorem u205 (q1 : xR kk) (q2 : xR x) (q3 : xR y) (hk0 : ¬ kk = 0) (hd : 2 ≤ d) (hT : uFt kk x y → Q (some (xV (uQc kk x y))) (xS a b)) (hF : ¬ uFt kk x y → Q (some (xV (-1))) (xS a b)) : pmCs ro d 205 [xV kk, xV x, xV y] (xS a b) Q := by
  refine pmCs_deep (d := 2) (xg205 (w205 ?_)) hd
  have loop : ∀ (m : Nat) (k : Int), k + (m : Int) = 61 → 0 ≤ k → (uFw kk x y → k ≤ uQc kk x y) → pmWp ro 1 12 205 1 2 [some (xV kk), some (xV x), some (xV y), some (xV k)] [] (xS a b) Q := by
    intro m
    induction m with
    | zero =>
      intro k hk k0 g
      have e : k = 61 := by omega
      subst e
      refine w205k q1 q2 q3 (by decide) (by decide) (by decide) (by decide) (by decide) (fun _ => hF (fun h => ?_)) (fun e => absurd (by decide) e) (fun e => absurd (by decide) e) (fun e => absurd (by decide) e) (fun e => absurd (by decide) e)
      have := g h
      have := (uQc_f h).1
      omega
    | succ m ih =>
      intro k hk k0 g
      have nx : ¬ (uK k = kk ∧ uX k = x ∧ uY k = y) → pmWp ro 1 12 205 1 2 [some (xV kk), some (xV x), some (xV y), some (xV (k + 1))] [] (xS a b) Q := fun hn => ih (k + 1) (by omega) (by omega) (fun h => by
        have h1 := g h
        have h2 := uQc_f h
        by_cases c : uQc kk x y = k
        · rw [c] at h2
          exact absurd h2.2 hn
        · omega)
      refine w205k q1 q2 q3 ⟨k0, by omega⟩ (uKb ⟨by omega, by omega⟩) (uXb ⟨by omega, by omega⟩) (uYb ⟨by omega, by omega⟩) (by decide) (fun e => absurd e (by omega)) (fun _ e => nx (fun h => e h.1)) (fun _ _ e => nx (fun h => e h.2.1)) (fun _ _ _ e => nx (fun h => e h.2.2)) (fun _ e1 e2 e3 => ?_)
      have hc := uFt_c (k := k) ⟨k0, by omega⟩
      rw [e1, e2, e3] at hc
      have := hT hc.1
      rw [hc.2] at this
      exact this
  exact loop 61 0 (by decide) (by decide) (fun h => by
    have h1 := (uQc_f h)
    by_cases c : uQc kk x y = -1
    · rw [c] at h1
      exact absurd h1.2.1.symm hk0
    · omega)
/-- deedOf -/
theorem u88 (q1 : xR kk) (q2 : xR x) (q3 : xR y) (hd : 2 ≤ d) (hT : uFt kk x y → Q (some (xV (uD (uQc kk x y)))) (xS a b)) (hF : ¬ uFt kk x y → Q (some (xV (-1))) (xS a b)) : pmCs ro d 88 [xV kk, xV x, xV y] (xS a b) Q := by
  have at93 : ∀ g g2 : Int, (0 ≤ kk ∧ kk ≤ 6) → (g = 0 ∨ g = 1) → (g2 = 0 ∨ g2 = 1) → (g = 1 ∧ g2 = 1 ↔ uFt kk x y) → pmWp ro 1 11 88 1 93 [some (xV kk), some (xV x), some (xV y), some (xV g), some (xV g2)] [] (xS a b) Q := by
    intro g g2 hkk hg hg2 hi
    refine w88c hkk q2 q3 hg hg2 (by decide) (fun e => hF (fun h => absurd ((hi.mpr h).1.symm.trans e) (by decide))) (fun _ e => hF (fun h => absurd ((hi.mpr h).2.symm.trans e) (by decide))) (fun e1 e2 => ?_)
    · have hf := hi.mp ⟨hg.resolve_left e1, hg2.resolve_left e2⟩
      have hq := uQc_f hf
      have hTf := hT hf
      clear hf hi hT hF
      obtain ⟨d0, d1, d2, d3, d4⟩ := uD_p (k := uQc kk x y) hq.1
      have e6 : ((2 ^ 6 : Nat) : Int) = 64 := rfl
      have e3 : ((2 ^ 3 : Nat) : Int) = 8 := rfl
      have hx : -1 ≤ x ∧ x ≤ 6 := by
        have := uXb hq.1
        omega
      have hy : -1 ≤ y ∧ y ≤ 3 := by
        have := uYb hq.1
        omega
      have o1 := xOr_dj 6 (by decide) (m := kk) (y := (x + 1) * 8) ⟨hkk.1, by omega⟩ (by rw [e6]; omega)
      have o2 := xOr_dj 3 (by decide) (m := 8 * kk + (x + 1)) (y := y + 1) ⟨by omega, by omega⟩ (by rw [e3]; omega)
      rw [e6] at o1
      rw [e3] at o2
      have e : xOr (xOr (kk * 64) ((x + 1) * 8)) (y + 1) = uD (uQc kk x y) := by
        rw [show kk * 64 = 64 * kk by omega, o1, show 64 * kk + (x + 1) * 8 = 8 * (8 * kk + (x + 1)) by omega, o2]
        by_cases c : uQc kk x y = -1
        · rw [d4 c]
          rw [c] at hq
          have h1 : uK (-1) = 0 := rfl
          have h2 : uX (-1) = -1 := rfl
          have h3 : uY (-1) = -1 := rfl
          omega
        · have := d3 (by omega)
          omega
      rw [e]
      exact hTf
  have at63 : ∀ g : Int, (0 ≤ kk ∧ kk ≤ 6) → (g = 0 ∨ g = 1) → (g = 1 ↔ (kk = 0 ∧ x = -1) ∨ (kk = 1 ∧ 0 ≤ x ∧ x < 7) ∨ ((kk = 2 ∨ kk = 3 ∨ kk = 4 ∨ kk = 6) ∧ 0 ≤ x ∧ x < 5) ∨ (kk = 5 ∧ 0 ≤ x ∧ x < 4)) → pmWp ro 1 11 88 1 63 [some (xV kk), some (xV x), some (xV y), some (xV g), none] [] (xS a b) Q := by
    intro g hkk hg hi
    rcases hg with rfl | rfl
    · have hn : ¬ ((kk = 0 ∧ x = -1) ∨ (kk = 1 ∧ 0 ≤ x ∧ x < 7) ∨ ((kk = 2 ∨ kk = 3 ∨ kk = 4 ∨ kk = 6) ∧ 0 ≤ x ∧ x < 5) ∨ (kk = 5 ∧ 0 ≤ x ∧ x < 4)) := fun h => absurd (hi.mpr h) (by decide)
      have nu : ¬ uFt kk x y := fun h => hn (by
        clear hn hi at93 hT hF
        rcases h with h | h | h | h | h <;> omega)
      clear hi hn
      refine w88b hkk q2 q3 (Or.inl rfl) (by decide) ?_ ?_ ?_ ?_ ?_ ?_ <;> intros <;> exact at93 0 _ hkk (Or.inl rfl) (by decide) ⟨fun h => absurd h.1 (by decide), fun h => absurd h nu⟩
    · have ha := hi.mp rfl
      clear hi
      refine w88b hkk q2 q3 (Or.inr rfl) (by decide) ?_ ?_ ?_ ?_ ?_ ?_ <;> intros <;> refine at93 1 _ hkk (Or.inr rfl) (by decide) ?_ <;> clear at93 hT hF <;> (first | (refine ⟨fun h => absurd h.2 (by decide), fun h => ?_⟩; rcases h with h | h | h | h | h <;> omega) | (refine ⟨fun _ => ?_, fun _ => ⟨rfl, rfl⟩⟩; rcases ha with ha | ha | ha | ha <;> omega))
  refine pmCs_deep (d := 2) (xg88 (w88 q1 q2 q3 (by decide) ?_ ?_ ?_ ?_ ?_ ?_ ?_ ?_ ?_ ?_ ?_)) hd <;> intros
  all_goals first
    | (refine at63 _ (by omega) (by decide) ?_
       clear at63 at93 hT hF
       constructor <;> intro <;> omega)
    | (refine hF (fun h => ?_)
       clear at63 at93 hT hF
       omega)
theorem uCan_q (h : uQ S S') (hf : 0 ≤ f ∧ f ≤ 3) (hk : 0 ≤ k ∧ k < 41) : uCan dr wp f S k ↔ uCan dr wp f S' k := by
  have hx : uX k = if k < 0 then -1 else if k < 7 then k else if k < 12 then k - 7 else if k < 17 then k - 12 else if k < 37 then (k - 17) / 4 else if k < 41 then k - 37 else (k - 41) / 4 := rfl
  have hy : uY k = if k < 17 then -1 else if k < 37 then (k - 17) % 4 else if k < 41 then -1 else (k - 41) % 4 := rfl
  have ef := h f (by omega) (by omega)
  unfold uCan uArm
  rw [ef, h 4 (by decide) (by decide), h 5 (by decide) (by decide), h 6 (by decide) (by decide), h 7 (by decide) (by decide), h 8 (by decide) (by decide)]
  by_cases k7 : k < 7
  · rw [if_pos k7, if_pos k7]
  rw [if_neg k7, if_neg k7]
  by_cases k12 : k < 12
  · rw [if_pos k12, if_pos k12, h (4 + uX k) (by omega) (by omega)]
  rw [if_neg k12, if_neg k12]
  by_cases k17 : k < 17
  · rw [if_pos k17, if_pos k17, h (4 + uX k) (by omega) (by omega)]
  rw [if_neg k17, if_neg k17]
  by_cases k37 : k < 37
  · rw [if_pos k37, if_pos k37, h (4 + uX k) (by omega) (by omega), h (uY k) (by omega) (by omega)]
  rw [if_neg k37, if_neg k37, h (uX k) (by omega) (by omega)]
theorem uCa_q (h : uQ S S') (hp : 0 ≤ p ∧ p ≤ 3) (hk : -1 ≤ k ∧ k < 61) : uCa dr wp n p S k ↔ uCa dr wp n p S' k := by
  unfold uCa
  rw [h p (by omega) (by omega)]
  by_cases c : k = -1
  · exact ⟨fun _ => Or.inl c, fun _ => Or.inl c⟩
  by_cases k41 : k < 41
  · rw [if_pos k41, if_pos k41, uCan_q h hp ⟨by omega, k41⟩]
  · have hy := (uX_b (k := k) ⟨by omega, hk.2⟩).2.2.2.2.1 (Or.inr (uK6 (by omega) hk.2))
    rw [if_neg k41, if_neg k41, h (uY k) (by omega) (by omega)]
/-- what the stranger can do in the truth -/
theorem uCa_p (hr : uRv n r) (hk : 0 ≤ k ∧ k < 61) (h : uCa dr wp n 0 (uWs n r) k) : uCp n 0 k r := by
  rcases h with h | ⟨h1, h2⟩
  · omega
  have h0 := hr.1 0 (by decide) (by decide)
  have e0 := uWs_p (n := n) (r := r) (p := 0) (by decide)
  have mx : ∀ x, 0 ≤ x → ¬ x < n → uWs n r (4 + x) = 0 := fun x x0 xn => by
    unfold uWs
    rw [if_neg (by omega), if_neg (by omega)]
  rw [e0] at h1
  by_cases k41 : k < 41
  · rw [if_pos k41] at h2
    refine ⟨by omega, fun e => Classical.byContradiction (fun hx => ?_), fun e => ?_, fun e => ?_⟩
    all_goals
      unfold uCan at h2
      rcases uKd ⟨hk.1, k41⟩ with g | g | g | g | g
      all_goals first
        | (exfalso; omega)
        | skip
    · rw [if_neg (by omega), if_pos (by omega), mx (uX k) (by omega) hx, e0] at h2
      omega
    · rw [if_neg (by omega), if_neg (by omega), if_pos (by omega), mx (uX k) (by omega) hx] at h2
      omega
    · rw [if_neg (by omega), if_neg (by omega), if_neg (by omega), if_pos (by omega), mx (uX k) (by omega) hx] at h2
      omega
    · rw [if_neg (by omega), if_neg (by omega), if_neg (by omega), if_neg (by omega)] at h2
      exact h2.1
  · rw [if_neg k41] at h2
    have k6 := uK6 (by omega) hk.2
    have hy := (uX_b hk).2.2.2.2.1 (Or.inr k6)
    exact ⟨by omega, fun _ => h2.2.1, fun _ => by omega, fun e => by omega⟩
theorem uDe_hi (hn5 : n ≤ 5) (hr : uRv n r) (hp : 0 ≤ p ∧ p ≤ 3) (hk : 0 ≤ k ∧ k < 61) (hc : uCd n p k r) {j : Int} (hj : 41 ≤ j) (h9 : ¬ j = 119) : uDe n p k r j = r j := by
  have h1 := uRv_e hn5 (uRv_d hn5 hr hp hk hc)
  unfold uDe
  rw [uAl_hi hn5 h1 hj]
  show (if j = 119 then uDo n p k r 119 + 1 else uDo n p k r j) = _
  rw [if_neg h9]
  exact uDo_hi hn5 hp hk (fun e => (hc.2 e).2) hj
/-- rows of a turn -/
theorem uTr_v (hn0 : 0 ≤ n ∧ n ≤ 5) (hr : uRv n r) (hcd : cd = -1 ∨ ((0 ≤ cd ∧ cd < 61) ∧ (¬ r 0 = 7 → uCp n 0 cd r))) : ∀ q : Nat, q ≤ 4 → uRv n (uTr dr wp pr cnt W T n cd wt r q) ∧ ∀ j, 41 ≤ j → ¬ j = 119 → uTr dr wp pr cnt W T n cd wt r q j = r j := by
  intro q
  induction q with
  | zero => exact fun _ => ⟨hr, fun _ _ _ => rfl⟩
  | succ q ih =>
    intro hq
    obtain ⟨v, hi⟩ := ih (by omega)
    have e0 : q = 0 → uTr dr wp pr cnt W T n cd wt r q = r := fun e => by
      subst e
      rfl
    obtain ⟨rq, erq⟩ : ∃ z, uTr dr wp pr cnt W T n cd wt r q = z := ⟨_, rfl⟩
    rw [erq] at v hi e0
    show uRv n (uS1 dr wp pr cnt W T n cd wt q (uTr dr wp pr cnt W T n cd wt r q)) ∧ ∀ j, 41 ≤ j → ¬ j = 119 → uS1 dr wp pr cnt W T n cd wt q (uTr dr wp pr cnt W T n cd wt r q) j = r j
    rw [erq]
    by_cases c : rq q = 7 ∨ uDc dr wp pr cnt W T n cd wt q rq = -1
    · rw [uS1_n c]
      exact ⟨v, hi⟩
    · have c1 : ¬ rq q = 7 := fun h => c (Or.inl h)
      have c2 : ¬ uDc dr wp pr cnt W T n cd wt q rq = -1 := fun h => c (Or.inr h)
      rw [uS1_y c1 c2]
      have key : (0 ≤ uDc dr wp pr cnt W T n cd wt q rq ∧ uDc dr wp pr cnt W T n cd wt q rq < 61) ∧ uCp n q (uDc dr wp pr cnt W T n cd wt q rq) rq := by
        unfold uDc at c2 ⊢
        by_cases q0 : q = 0
        · subst q0
          have er := e0 rfl
          subst er
          rw [if_pos (show ((0 : Nat) : Int) = 0 from rfl)] at c2 ⊢
          exact hcd.elim (fun h => absurd h c2) (fun h => ⟨h.1, h.2 c1⟩)
        · rw [if_neg (by omega)] at c2 ⊢
          by_cases cw : (q : Int) = wt
          · rw [if_pos cw] at c2
            exact absurd rfl c2
          · rw [if_neg cw] at c2 ⊢
            exact uWd_c v ⟨by omega, by omega⟩ c1 c2
      obtain ⟨g1, g2, g3⟩ := uDe_v hn0.2 v (by omega) key.1 (uCp_d key.2)
      exact ⟨g1, fun j hj h9 => (uDe_hi hn0.2 v (by omega) key.1 (uCp_d key.2) hj h9).trans (hi j hj h9)⟩
end
end
