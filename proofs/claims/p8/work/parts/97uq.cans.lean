/-! the reference, what can be done -/
section
set_option maxRecDepth 100000


section
variable {ro : Nat → Nat × (Nat → Int32)} {d : Nat} {Q : Option Value → pmS → Prop} {dr wp : Int → Int} {n f p k x : Int} {r : Int → Int} {a a' : xA} {b b' : xB}
/-- the truth's slots, by the row -/
def uWs (n : Int) (r : Int → Int) : Int → Int := fun j => if j < 4 then r j + 1 else if j - 4 < n then (if r j = 20 then 13 else uTc (r j)) else 0
theorem uWs_p (h : p < 4) : uWs n r p = r p + 1 := if_pos h
theorem uWs_x (hr : uRv n r) (x0 : 0 ≤ x) (x1 : x < 5) : (x < n ∧ ((0 ≤ r (4 + x) ∧ r (4 + x) ≤ 6 ∧ uWs n r (4 + x) = r (4 + x) + 1) ∨ (10 ≤ r (4 + x) ∧ r (4 + x) ≤ 13 ∧ uWs n r (4 + x) = r (4 + x) - 1) ∨ (r (4 + x) = 20 ∧ uWs n r (4 + x) = 13))) ∨ (n ≤ x ∧ uWs n r (4 + x) = 0) := by
  have h := hr.2.1 x x0
  unfold uWs
  rw [if_neg (by omega)]
  by_cases c : x < n
  · left
    refine ⟨c, ?_⟩
    have h := h c
    rw [if_pos (by omega)]
    by_cases c2 : r (4 + x) = 20
    · rw [if_pos c2]
      omega
    · rw [if_neg c2]
      unfold uTc
      split <;> omega
  · right
    rw [if_neg (by omega)]
    omega
theorem uArm_w {S : Int → Int} (h : uArm wp S f) : ∃ i, (0 ≤ i ∧ i < 5) ∧ ¬ wp i = 0 ∧ S (4 + i) = 9 + f := by
  unfold uArm at h
  rcases h with h | h | h | h | h
  · exact ⟨0, by decide, h⟩
  · exact ⟨1, by decide, h⟩
  · exact ⟨2, by decide, h⟩
  · exact ⟨3, by decide, h⟩
  · exact ⟨4, by decide, h⟩
theorem uArm_i {S : Int → Int} {i : Int} (h : 0 ≤ i ∧ i < 5) (hw : ¬ wp i = 0) (hs : S (4 + i) = 9 + f) : uArm wp S f := by
  have : i = 0 ∨ i = 1 ∨ i = 2 ∨ i = 3 ∨ i = 4 := by omega
  unfold uArm
  rcases this with e | e | e | e | e <;> subst e
  · exact Or.inl ⟨hw, hs⟩
  · exact Or.inr (Or.inl ⟨hw, hs⟩)
  · exact Or.inr (Or.inr (Or.inl ⟨hw, hs⟩))
  · exact Or.inr (Or.inr (Or.inr (Or.inl ⟨hw, hs⟩)))
  · exact Or.inr (Or.inr (Or.inr (Or.inr ⟨hw, hs⟩)))
/-- holdsWeapon -/
theorem u207 (hA : xAr a) (hW : uWr wp n a) (hr : uRv n (a 88)) (hp : 0 ≤ p ∧ p ≤ 3) (hd : 1 ≤ d) (hT : uArm wp (uWs n (a 88)) p → Q (some (xV 1)) (xS a b)) (hF : ¬ uArm wp (uWs n (a 88)) p → Q (some (xV 0)) (xS a b)) : pmCs ro d 207 [.ref 87, xV p] (xS a b) Q := by
  obtain ⟨w1, w2, w3, w4⟩ := hW
  refine pmCs_deep (d := 1) (xg207 (w207 hp ?_)) hd
  have loop : ∀ (m : Nat) (x : Int), x + (m : Int) = n → 0 ≤ x → (∀ i, 0 ≤ i → i < x → ¬ wp i = 0 → ¬ uWs n (a 88) (4 + i) = 9 + p) → pmWp ro 0 12 207 2 2 [some (.ref 87), some (xV p), some (xV x)] [] (xS a b) Q := by
    intro m
    induction m with
    | zero =>
      intro x hx x0 hi
      refine w207l hA hp w2 w3 ⟨x0, by omega⟩ (fun _ => hF (fun h => ?_)) (fun e => by omega) (fun e => by omega) (fun e => by omega)
      obtain ⟨i, i1, i2, i3⟩ := uArm_w h
      by_cases c : i < x
      · exact hi i i1.1 c i2 i3
      · exact i2 (w4 i (by omega) i1.1 i1.2)
    | succ m ih =>
      intro x hx x0 hi
      have hs := uWs_x hr x0 (by omega)
      have hw := w1 x x0 (by omega)
      refine w207l hA hp w2 w3 ⟨x0, by omega⟩ (fun e => by omega) (fun _ e => ih (x + 1) (by omega) (by omega) (fun i i0 ix g1 g2 => ?_)) (fun _ e1 e2 => ih (x + 1) (by omega) (by omega) (fun i i0 ix g1 g2 => ?_)) (fun _ e1 e2 => hT (uArm_i (i := x) ⟨x0, by omega⟩ (by omega) (by omega)))
      · by_cases c : i = x
        · subst c
          omega
        · exact hi i i0 (by omega) g1 g2
      · by_cases c : i = x
        · subst c
          omega
        · exact hi i i0 (by omega) g1 g2
  exact loop n.toNat 0 (by omega) (by decide) (fun i i0 i1 => by omega)
/-- can -/
theorem u206 (hA : xAr a) (hW : uWr wp n a) (hdr : ∀ k, 0 ≤ k → k < 49 → a 90 k = dr k ∧ (dr k = 0 ∨ dr k = 1)) (hr : uRv n (a 88)) (hp : 0 ≤ p ∧ p ≤ 3) (hk : 0 ≤ k ∧ k < 61) (hd : 2 ≤ d) (hT : uCa dr wp n p (uWs n (a 88)) k → Q (some (xV 1)) (xS a b)) (hF : ¬ uCa dr wp n p (uWs n (a 88)) k → Q (some (xV 0)) (xS a b)) : pmCs ro d 206 [.ref 87, xV p, xV k] (xS a b) Q := by
  have hrp := hr.1 p hp.1 (by omega)
  have hw2 := hW.2.1
  have hw3 := hW.2.2.1
  have hSp := uWs_p (n := n) (r := a 88) (p := p) (by omega)
  unfold uCa at hT hF
  rw [hSp] at hT hF
  refine pmCs_deep (d := 2) (xg206 ?_) hd
  by_cases hal : a 88 p = 7
  · have no : ¬ (k = -1 ∨ (1 ≤ a 88 p + 1 ∧ a 88 p + 1 ≤ 7) ∧ (if k < 41 then uCan dr wp p (uWs n (a 88)) k else p = 0 ∧ uX k < n ∧ ¬ uY k = p ∧ uWs n (a 88) (uY k) = a 88 p + 1)) := fun h => by
      rcases h with h | h
      · omega
      · have := h.1
        omega
    exact w206_0 hA hp hk hal (by decide) (fun e => absurd hal e) (fun _ => hF no)
  have hrm : 0 ≤ a 88 p ∧ a 88 p ≤ 6 := by omega
  have he : a 88 (0 + p) = a 88 p := by rw [Int.zero_add]
  have hb := uX_b hk
  have e0 := uK_r hk
  by_cases c41 : k < 41
  · rw [if_pos c41] at hT hF
    have hT : uCan dr wp p (uWs n (a 88)) k → Q (some (xV 1)) (xS a b) := fun h => hT (Or.inr ⟨by omega, h⟩)
    have hF : ¬ uCan dr wp p (uWs n (a 88)) k → Q (some (xV 0)) (xS a b) := fun h => hF (fun g => g.elim (fun g => by omega) (fun g => h g.2))
    obtain ⟨c1, c2, c3, c4, c5⟩ := uCan_k (dr := dr) (wp := wp) (f := p) (S := uWs n (a 88)) ⟨hk.1, c41⟩
    rw [hSp] at c1 c2 c4 c5
    by_cases k1 : uK k = 1
    · have hx := hb.2.1 k1
      have hy := hb.2.2.2.2.2.1 (by omega)
      have hb1 := hb.1
      clear hb
      have hq := hdr (7 * (a 88 p) + uX k) (by omega) (by omega)
      refine w206_1 hA hp he hrm hw2 hw3 (fun k k0 k9 => by have := hdr k k0 k9; omega) hk k1 ⟨hb1, hx⟩ hy (by decide) (fun _ => ?_) (fun e => absurd e hal)
      rw [hq.1]
      rw [show a 88 p + 1 - 1 = a 88 p by omega] at c1
      rcases hq.2 with e | e
      · rw [e]
        exact hF (fun h => (c1 k1).mp h e)
      · rw [e]
        exact hT ((c1 k1).mpr (by omega))
    by_cases k2 : uK k = 2
    · have hx := hb.2.2.1 (Or.inl k2)
      have hy := hb.2.2.2.2.2.1 (by omega)
      have hb1 := hb.1
      clear hb
      have hs := uWs_x hr hb1 hx
      refine w206_2 hA hp he hrm hw2 hw3 hk k2 ⟨hb1, hx⟩ hy (by decide) (fun _ e => hF (fun h => ?_)) (fun _ e1 e2 => hF (fun h => ?_)) (fun _ e1 e2 => hT ((c2 k2).mpr (by omega))) (fun e => absurd e hal)
      · have := (c2 k2).mp h
        omega
      · have := (c2 k2).mp h
        omega
    by_cases k3 : uK k = 3
    · have hx := hb.2.2.1 (Or.inr (Or.inl k3))
      have hy := hb.2.2.2.2.2.1 (by omega)
      have hb1 := hb.1
      clear hb
      have hs := uWs_x hr hb1 hx
      refine w206_3 hA hp he hrm hw2 hw3 hk k3 ⟨hb1, hx⟩ hy (by decide) (fun _ e => hF (fun h => ?_)) (fun _ e1 e2 => hF (fun h => ?_)) (fun _ e1 e2 => hT ((c3 k3).mpr (by omega))) (fun e => absurd e hal)
      · have := (c3 k3).mp h
        omega
      · have := (c3 k3).mp h
        omega
    by_cases k4 : uK k = 4
    · have hx := hb.2.2.1 (Or.inr (Or.inr (Or.inl k4)))
      have hy := hb.2.2.2.2.1 (Or.inl k4)
      have hb1 := hb.1
      clear hb
      have hs := uWs_x hr hb1 hx
      have hSy := uWs_p (n := n) (r := a 88) (p := uY k) (by omega)
      refine w206_4 hA hp he hrm hw2 hw3 hk k4 ⟨hb1, hx⟩ hy (by decide) (fun _ e => hF (fun h => ?_)) (fun _ e1 e2 => hF (fun h => ?_)) (fun _ e1 e2 e3 => hF (fun h => ?_)) (fun _ e1 e2 e3 e4 => hT ((c4 k4).mpr ⟨by omega, e3, by omega⟩)) (fun _ e1 e2 e3 e4 => hF (fun h => ?_)) (fun e => absurd e hal)
      · have := ((c4 k4).mp h).1
        omega
      · have := ((c4 k4).mp h).1
        omega
      · exact ((c4 k4).mp h).2.1 e3
      · have := ((c4 k4).mp h).2.2
        exact e4 ⟨hy, by omega⟩
    · have k5 : uK k = 5 := by omega
      have hx := hb.2.2.2.1 k5
      have hy := hb.2.2.2.2.2.1 (by omega)
      have hb1 := hb.1
      clear hb
      have hSx := uWs_p (n := n) (r := a 88) (p := uX k) (by omega)
      refine w206_5 hA hp he hrm hw2 hw3 hk k5 ⟨hb1, hx⟩ hy (by decide) (fun _ e => hF (fun h => ?_)) (fun _ e1 e2 => ?_) (fun _ e1 e2 => hF (fun h => ?_)) (fun e => absurd e hal)
      · exact ((c5 k5).mp h).1 e
      · refine u207 hA hW hr hp (by decide) (fun h => ?_) (fun h => ?_)
        · refine w206z (Or.inr rfl) (fun e => by omega) (fun _ => hT ((c5 k5).mpr ⟨e1, by omega, h⟩))
        · refine w206z (Or.inl rfl) (fun _ => hF (fun g => h ((c5 k5).mp g).2.2)) (fun e => by omega)
      · have := ((c5 k5).mp h).2.1
        exact e2 ⟨⟨hb1, hx⟩, by omega⟩
  · rw [if_neg c41] at hT hF
    have k6 : uK k = 6 := by omega
    have hx := hb.2.2.1 (Or.inr (Or.inr (Or.inr k6)))
    have hy := hb.2.2.2.2.1 (Or.inr k6)
    have hSy := uWs_p (n := n) (r := a 88) (p := uY k) (by omega)
    rw [hSy] at hT hF
    refine w206_6 hA hp he hrm hw2 hw3 hk k6 ⟨hb.1, hx⟩ hy (by decide) (fun _ e => hF (fun h => ?_)) (fun _ e1 e2 => hF (fun h => ?_)) (fun _ e1 e2 e3 => hF (fun h => ?_)) (fun _ e1 e2 e3 e4 => hT (Or.inr ⟨by omega, e1, by omega, by omega, by omega⟩)) (fun _ e1 e2 e3 e4 => hF (fun h => ?_)) (fun e => absurd e hal)
    all_goals
      rcases h with h | h
      · omega
      obtain ⟨h1, h2, h3, h4, h5⟩ := h
    · exact e h2
    · omega
    · omega
    · exact e4 ⟨hy, by omega⟩
end
end
