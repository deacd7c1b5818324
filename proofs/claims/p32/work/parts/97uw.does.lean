/-! the reference does a deed -/
section
set_option maxRecDepth 100000


section
variable {ro : Nat → Nat × (Nat → Int32)} {d : Nat} {Q : Option Value → pmS → Prop} {dr wp : Int → Int} {n f p k x : Int} {r r' : Int → Int} {a a' : xA} {b b' : xB}
/-- what a deed changes -/
def uDo (n p k : Int) (r : Int → Int) : Int → Int :=
  if uK k = 1 then fun j => if j = p then uX k else r j
  else if uK k = 2 then fun j => if j = 4 + uX k then 10 + p else r j
  else if uK k = 3 then fun j => if j = 4 + uX k then r p else r j
  else if uK k = 4 then fun j => if j = 4 + uX k then 10 + uY k else r j
  else if uK k = 5 then uZt n p (uX k) r
  else fun j => if j = 14 + 9 * (uY k - 1) + uX k then (if r (4 + uX k) = 20 then -1 else r (4 + uX k)) else r j
/-- and one more event -/
def uEv (r : Int → Int) : Int → Int := fun j => if j = 119 then r 119 + 1 else r j
/-- then all look -/
def uDe (n p k : Int) (r : Int → Int) : Int → Int := uAl n (uEv (uDo n p k r))
theorem uDo_1 (h : uK k = 1) : uDo n p k r = fun j => if j = p then uX k else r j := if_pos h
theorem uDo_2 (h : uK k = 2) : uDo n p k r = fun j => if j = 4 + uX k then 10 + p else r j := by
  unfold uDo
  rw [if_neg (by omega), if_pos h]
theorem uDo_3 (h : uK k = 3) : uDo n p k r = fun j => if j = 4 + uX k then r p else r j := by
  unfold uDo
  rw [if_neg (by omega), if_neg (by omega), if_pos h]
theorem uDo_4 (h : uK k = 4) : uDo n p k r = fun j => if j = 4 + uX k then 10 + uY k else r j := by
  unfold uDo
  rw [if_neg (by omega), if_neg (by omega), if_neg (by omega), if_pos h]
theorem uDo_5 (h : uK k = 5) : uDo n p k r = uZt n p (uX k) r := by
  unfold uDo
  rw [if_neg (by omega), if_neg (by omega), if_neg (by omega), if_neg (by omega), if_pos h]
theorem uDo_6 (h : uK k = 6) : uDo n p k r = fun j => if j = 14 + 9 * (uY k - 1) + uX k then (if r (4 + uX k) = 20 then -1 else r (4 + uX k)) else r j := by
  unfold uDo
  rw [if_neg (by omega), if_neg (by omega), if_neg (by omega), if_neg (by omega), if_neg (by omega)]
theorem uRv_e (hn5 : n ≤ 5) (h : uRv n r) : uRv n (uEv r) := by
  obtain ⟨h1, h2, h3, h4, h5, h6⟩ := h
  have e : ∀ j, j < 41 → uEv r j = r j := fun j hj => if_neg (by omega)
  exact ⟨fun q q0 q1 => by rw [e q (by omega)]; exact h1 q q0 q1, fun y y0 y1 => by rw [e _ (by omega)]; exact h2 y y0 y1, fun y y0 y1 => by rw [e _ (by omega)]; exact h3 y y0 y1, fun f y f0 f1 y0 y1 => by rw [e _ (by omega)]; exact h4 f y f0 f1 y0 y1, fun f q f0 f1 q0 q1 => by rw [e _ (by omega)]; exact h5 f q f0 f1 q0 q1, fun f y f0 f1 yn y0 y1 => by rw [e _ (by omega)]; exact h6 f y f0 f1 yn y0 y1⟩
/-- a row with one cell changed -/
theorem uRv_j {j v : Int} (hn5 : n ≤ 5) (h : uRv n r) (h1 : 0 ≤ j → j < 4 → 0 ≤ v ∧ v ≤ 7) (h2 : 4 ≤ j → j < 9 → (0 ≤ v ∧ v ≤ 6) ∨ (10 ≤ v ∧ v ≤ 13)) (h3 : j < 9 ∨ ∃ f x, (1 ≤ f ∧ f ≤ 3) ∧ (0 ≤ x ∧ x < n) ∧ j = 14 + 9 * (f - 1) + x ∧ ((-1 ≤ v ∧ v ≤ 6) ∨ (10 ≤ v ∧ v ≤ 13))) : uRv n (fun i => if i = j then v else r i) := by
  obtain ⟨g1, g2, g3, g4, g5, g6⟩ := h
  refine ⟨fun q q0 q1 => ?_, fun y y0 y1 => ?_, fun y y0 y1 => ?_, fun f y f0 f1 y0 y1 => ?_, fun f q f0 f1 q0 q1 => ?_, fun f y f0 f1 yn y0 y1 => ?_⟩ <;> dsimp only
  · by_cases c : q = j
    · rw [if_pos c]
      exact h1 (by omega) (by omega)
    · rw [if_neg c]
      exact g1 q q0 q1
  · by_cases c : 4 + y = j
    · rw [if_pos c]
      have := h2 (by omega) (by omega)
      omega
    · rw [if_neg c]
      exact g2 y y0 y1
  · by_cases c : 9 + y = j
    · rcases h3 with h3 | ⟨f, x, hf, hx, e, _⟩ <;> omega
    · rw [if_neg c]
      exact g3 y y0 y1
  · by_cases c : 14 + 9 * (f - 1) + y = j
    · rw [if_pos c]
      rcases h3 with h3 | ⟨f', x, hf, hx, e, e2⟩
      · omega
      · exact e2
    · rw [if_neg c]
      exact g4 f y f0 f1 y0 y1
  · by_cases c : 14 + 9 * (f - 1) + 5 + q = j
    · rcases h3 with h3 | ⟨f', x, hf, hx, e, e2⟩ <;> omega
    · rw [if_neg c]
      exact g5 f q f0 f1 q0 q1
  · by_cases c : 14 + 9 * (f - 1) + y = j
    · rcases h3 with h3 | ⟨f', x, hf, hx, e, e2⟩ <;> omega
    · rw [if_neg c]
      exact g6 f y f0 f1 yn y0 y1
theorem uRv_z (hn5 : n ≤ 5) (h : uRv n r) (hp : 0 ≤ p ∧ p ≤ 3) (hx : 0 ≤ x ∧ x ≤ 3) (hal : ¬ r p = 7) : uRv n (uZt n p x r) := by
  obtain ⟨g1, g2, g3, g4, g5, g6⟩ := h
  have hrm := g1 p hp.1 (by omega)
  refine ⟨fun q q0 q1 => ?_, fun y y0 y1 => ?_, fun y y0 y1 => ?_, fun f y f0 f1 y0 y1 => ?_, fun f q f0 f1 q0 q1 => ?_, fun f y f0 f1 yn y0 y1 => ?_⟩ <;> unfold uZt
  · by_cases c : q = x
    · rw [if_pos c]
      omega
    · rw [if_neg c, if_neg (by omega), if_neg (by omega)]
      exact g1 q q0 q1
  · rw [if_neg (by omega), if_pos (by omega)]
    by_cases c : r (4 + y) = 10 + x
    · rw [if_pos c]
      omega
    · rw [if_neg c]
      exact g2 y y0 y1
  · rw [if_neg (by omega), if_neg (by omega), if_neg (by omega)]
    exact g3 y y0 y1
  · rw [if_neg (by omega), if_neg (by omega), if_neg (by omega)]
    exact g4 f y f0 f1 y0 y1
  · rw [if_neg (by omega), if_neg (by omega)]
    have := g5 f q f0 f1 q0 q1
    by_cases c : (14 ≤ 14 + 9 * (f - 1) + 5 + q ∧ 14 + 9 * (f - 1) + 5 + q < 41) ∧ (14 + 9 * (f - 1) + 5 + q - 14) % 9 = 5 + x ∧ r ((14 + 9 * (f - 1) + 5 + q - 14) / 9 + 1) = r p ∧ ¬ (14 + 9 * (f - 1) + 5 + q - 14) / 9 + 1 = x
    · rw [if_pos c]
      omega
    · rw [if_neg c]
      exact this
  · rw [if_neg (by omega), if_neg (by omega), if_neg (by omega)]
    exact g6 f y f0 f1 yn y0 y1
/-- a deed that can be done leaves a row that may be -/
def uCd (n p k : Int) (r : Int → Int) : Prop := ¬ r p = 7 ∧ (uK k = 6 → uX k < n ∧ 1 ≤ uY k)
theorem uRv_d (hn5 : n ≤ 5) (h : uRv n r) (hp : 0 ≤ p ∧ p ≤ 3) (hk : 0 ≤ k ∧ k < 61) (hc : uCd n p k r) : uRv n (uDo n p k r) := by
  have hb := uX_b hk
  have hrm := h.1 p hp.1 (by omega)
  have hal := hc.1
  by_cases k1 : uK k = 1
  · rw [uDo_1 k1]
    have := hb.2.1 k1
    exact uRv_j hn5 h (fun _ _ => by omega) (fun _ _ => by omega) (Or.inl (by omega))
  by_cases k2 : uK k = 2
  · rw [uDo_2 k2]
    have := hb.2.2.1 (by omega)
    exact uRv_j hn5 h (fun _ _ => by omega) (fun _ _ => by omega) (Or.inl (by omega))
  by_cases k3 : uK k = 3
  · rw [uDo_3 k3]
    have := hb.2.2.1 (by omega)
    exact uRv_j hn5 h (fun _ _ => by omega) (fun _ _ => by omega) (Or.inl (by omega))
  by_cases k4 : uK k = 4
  · rw [uDo_4 k4]
    have := hb.2.2.1 (by omega)
    have := hb.2.2.2.2.1 (by omega)
    exact uRv_j hn5 h (fun _ _ => by omega) (fun _ _ => by omega) (Or.inl (by omega))
  by_cases k5 : uK k = 5
  · rw [uDo_5 k5]
    have := hb.2.2.2.1 k5
    exact uRv_z hn5 h hp ⟨hb.1, by omega⟩ hal
  · have k6 : uK k = 6 := by omega
    rw [uDo_6 k6]
    have hx := hb.2.2.1 (by omega)
    have hy := hb.2.2.2.2.1 (by omega)
    obtain ⟨c1, c2⟩ := hc.2 k6
    have h2 := h.2.1 (uX k) hb.1 c1
    refine uRv_j hn5 h (fun _ _ => by omega) (fun _ _ => by omega) (Or.inr ⟨uY k, uX k, ⟨c2, by omega⟩, ⟨hb.1, c1⟩, rfl, ?_⟩)
    split <;> omega
theorem uDo_hi (hn5 : n ≤ 5) (hp : 0 ≤ p ∧ p ≤ 3) (hk : 0 ≤ k ∧ k < 61) (h6 : uK k = 6 → 1 ≤ uY k) {j : Int} (hj : 41 ≤ j) : uDo n p k r j = r j := by
  have hb := uX_b hk
  by_cases k1 : uK k = 1
  · rw [uDo_1 k1]
    exact if_neg (by omega)
  by_cases k2 : uK k = 2
  · rw [uDo_2 k2]
    have := hb.2.2.1 (by omega)
    exact if_neg (by omega)
  by_cases k3 : uK k = 3
  · rw [uDo_3 k3]
    have := hb.2.2.1 (by omega)
    exact if_neg (by omega)
  by_cases k4 : uK k = 4
  · rw [uDo_4 k4]
    have := hb.2.2.1 (by omega)
    exact if_neg (by omega)
  by_cases k5 : uK k = 5
  · rw [uDo_5 k5]
    have := hb.2.2.2.1 k5
    unfold uZt
    rw [if_neg (by omega), if_neg (by omega), if_neg (by omega)]
  · have k6 : uK k = 6 := by omega
    rw [uDo_6 k6]
    have hx := hb.2.2.1 (by omega)
    have hy := hb.2.2.2.2.1 (by omega)
    exact if_neg (by omega)
/-- does -/
theorem u209 (hA : xAr a) (hn : a 87 2 = n) (hn0 : 0 ≤ n ∧ n ≤ 5) (hL : uLw a) (htn : 0 ≤ a 88 114 ∧ a 88 114 ≤ 99) (hev : 0 ≤ a 88 119 ∧ a 88 119 ≤ 1000) (hr : uRv n (a 88)) (hp : 0 ≤ p ∧ p ≤ 3) (hk : 0 ≤ k ∧ k < 61) (hc : uCd n p k (a 88)) (hd : 4 ≤ d) (hQ : ∀ a', (∀ q j, q ≠ 88 → a' q j = a q j) → xAr a' → uRv n (a' 88) → uRq (uDe n p k (a 88)) (a' 88) → Q (some (xV (uSg p k (a 88) 4))) (xS a' b)) : pmCs ro d 209 [.ref 87, xV p, xV k] (xS a b) Q := by
  have hb := uX_b hk
  have hsn := uSg_b (p := p) (k := k) (r := a 88) 4
  have h16 : ((2 ^ 4 : Nat) : Int) = 16 := rfl
  have hrm := hr.1 p hp.1 (by omega)
  have hal := hc.1
  refine pmCs_deep (d := 4) (xg209 (w209 (u210 hA hp hk (by decide) ?_))) hd
  obtain ⟨sn, esn⟩ : ∃ z, uSg p k (a 88) 4 = z := ⟨_, rfl⟩
  rw [esn] at hsn hQ ⊢
  have after : ∀ (a1 : xA) (v4 v5 : Option Value), (∀ q j, q ≠ 88 → a1 q j = a q j) → xAr a1 → a1 88 = uDo n p k (a 88) → pmWp ro 3 12 209 1 171 [some (.ref 87), some (xV p), some (xV k), some (xV sn), v4, v5] [] (xS a1 b) Q := by
    intro a1 v4 v5 g1 g2 g3
    have hi : ∀ j, 41 ≤ j → a1 88 j = a 88 j := fun j hj => by
      rw [g3]
      exact uDo_hi hn0.2 hp hk (fun e => (hc.2 e).2) hj
    have e119 := hi 119 (by decide)
    have e114 := hi 114 (by decide)
    refine w209a e119 hev ?_
    have hA2 : xAr (xU a1 88 119 (a 88 119 + 1)) := xAr_u g2 ⟨by omega, by omega⟩
    have eR : (xU a1 88 119 (a 88 119 + 1)) 88 = uEv (uDo n p k (a 88)) := by
      rw [xU_row]
      funext j
      show (if j = 119 then a 88 119 + 1 else a1 88 j) = if j = 119 then uDo n p k (a 88) 119 + 1 else uDo n p k (a 88) j
      rw [← g3, e119]
    refine u212 hA2 (uLw_o hL (fun q j e => by rw [xUn (by omega)]; exact g1 q j (by omega))) (by rw [xUk (by decide), e114]; exact htn) hp hk ⟨hsn.1, by omega⟩ (by decide) (fun a3 h3 => ?_)
    have hR3 : uRq (uEv (uDo n p k (a 88))) (a3 88) := fun j hj => by
      rw [h3.1 88 j (by omega), eR]
    have hv2 : uRv n (uEv (uDo n p k (a 88))) := uRv_e hn0.2 (uRv_d hn0.2 hr hp hk hc)
    refine w209b (u174 h3.2 ?_ hn0 (uRv_c hn0.2 hv2 hR3) (by decide) (fun a4 x4 A4 R4 => w209c ?_))
    · rw [h3.1 87 2 (by omega), xUn (by decide)]
      exact (g1 87 2 (by decide)).trans hn
    · have hq := uAl_c hn0.2 hR3 hv2
      refine hQ a4 (fun q j h => ?_) A4 (by rw [R4]; exact uRv_l hn0.2 (uRv_c hn0.2 hv2 hR3)) (by rw [R4]; exact hq)
      rw [x4 q j h, h3.1 q j (fun e => h e.1), xUn h]
      exact g1 q j h
  have hrow : ∀ j v, (xU a 88 j v) 88 = fun i => if i = j then v else a 88 i := fun j v => xU_row
  by_cases k1 : uK k = 1
  · have hx := hb.2.1 k1
    refine w209_1 hA hp hk k1 ⟨hb.1, hx⟩ (hb.2.2.2.2.2.1 (by omega)) (by decide) (after _ _ _ (fun q j h => xUn h) (xAr_u hA ⟨by omega, by omega⟩) ?_)
    rw [uDo_1 k1, hrow, Int.zero_add]
  by_cases k2 : uK k = 2
  · have hx := hb.2.2.1 (by omega)
    refine w209_2 hA hp hk k2 ⟨hb.1, hx⟩ (hb.2.2.2.2.2.1 (by omega)) (by decide) (after _ _ _ (fun q j h => xUn h) (xAr_u hA ⟨by omega, by omega⟩) ?_)
    rw [uDo_2 k2, hrow]
  by_cases k3 : uK k = 3
  · have hx := hb.2.2.1 (by omega)
    refine w209_3 hA hp hk k3 ⟨hb.1, hx⟩ (hb.2.2.2.2.2.1 (by omega)) (by decide) (after _ _ _ (fun q j h => xUn h) (xAr_u hA (hA _ _)) ?_)
    rw [uDo_3 k3, hrow, Int.zero_add]
  by_cases k4 : uK k = 4
  · have hx := hb.2.2.1 (by omega)
    have hy := hb.2.2.2.2.1 (by omega)
    refine w209_4 hA hp hk k4 ⟨hb.1, hx⟩ hy (by decide) (after _ _ _ (fun q j h => xUn h) (xAr_u hA ⟨by omega, by omega⟩) ?_)
    rw [uDo_4 k4, hrow]
  by_cases k5 : uK k = 5
  · have hx := hb.2.2.2.1 k5
    refine w209_5 hA hp hk k5 ⟨hb.1, hx⟩ (hb.2.2.2.2.2.1 (by omega)) (by decide) (u211 hA hn hn0 hr hp ⟨hb.1, by omega⟩ hal (by decide) (fun a1 x1 A1 R1 => w209h (after a1 _ _ x1 A1 ?_)))
    rw [R1, uDo_5 k5]
  · have k6 : uK k = 6 := by omega
    have hx := hb.2.2.1 (by omega)
    have hy := hb.2.2.2.2.1 (by omega)
    obtain ⟨c1, c2⟩ := hc.2 k6
    refine w209_6 hA hp hk k6 ⟨hb.1, hx⟩ ⟨c2, hy.2⟩ (by decide) (fun e => after _ _ _ (fun q j h => xUn h) (xAr_u hA (hA _ _)) ?_) (fun e => after _ _ _ (fun q j h => xUn h) (xAr_u hA ⟨by decide, by decide⟩) ?_)
    · rw [uDo_6 k6, hrow, if_neg e]
    · rw [uDo_6 k6, hrow, if_pos e]
end
end
