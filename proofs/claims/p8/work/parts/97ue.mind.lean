/-! the reference, deeds in a mind -/
section
set_option maxRecDepth 100000


section
variable {ro : Nat → Nat × (Nat → Int32)} {d : Nat} {Q : Option Value → pmS → Prop} {dr wp : Int → Int} {n f k lv base : Int} {S : Int → Int} {a a' : xA} {b : xB} {ts : List Int}
/-- a slot's value, as the reference has it -/
def uVc (s : Int) : Int := if s ≤ 7 then s - 1 else s + 1
/-- a mind laid out -/
def uMd (f base : Int) (a : xA) (S : Int → Int) : Prop := a 108 base = S f - 1 ∧ (∀ x, 0 ≤ x → x < 5 → a 108 (base + 1 + x) = uVc (S (4 + x))) ∧ ∀ q, 0 ≤ q → q < 4 → a 108 (base + 6 + q) = if q = f then -1 else S q - 1
/-- no thing that isn't there -/
def uOn (n : Int) (S : Int → Int) : Prop := ∀ x, n ≤ x → 0 ≤ x → x < 5 → S (4 + x) = 0
theorem u188 {t : Int} (hA : xAr a) (hM : uMd f base a S) (hb : 0 ≤ base ∧ base ≤ 40) (hf : 1 ≤ f ∧ f ≤ 3) (hS : uOk f S) (ht : uTk t) (h5 : t / 256 < 5) (hd : 1 ≤ d) (hQ : ∀ z, (z = 0 ∨ z = 1) → (z = 1 ↔ uAt f S t = true) → Q (some (xV z)) (xS a b)) : pmCs ro d 188 [.ref 87, xV base, xV f, xV (t / 256), xV (t / 16 % 16), xV (t % 16)] (xS a b) Q := by
  obtain ⟨t0, t1, t2, t3, t4, t5⟩ := ht
  obtain ⟨m1, m2, m3⟩ := hM
  obtain ⟨s1, s2, s3⟩ := hS
  have hT : ∀ {C : Prop} [Decidable C], C → uAt f S t = decide C → Q (some (xV 1)) (xS a b) := fun h e => hQ 1 (Or.inr rfl) ⟨fun _ => by rw [e]; exact decide_eq_true h, fun _ => rfl⟩
  have hF : ∀ {C : Prop} [Decidable C], ¬ C → uAt f S t = decide C → Q (some (xV 0)) (xS a b) := fun h e => hQ 0 (Or.inl rfl) ⟨fun g => by omega, fun g => by rw [e, decide_eq_false h] at g; cases g⟩
  by_cases c0 : t / 256 = 0
  · have e : uAt f S t = decide (S (4 + t / 16 % 16) = 9 + f) := by
      unfold uAt
      rw [if_pos c0]
    have h3 := s3 (t / 16 % 16) (by omega) (t1 c0)
    have hm := m2 (t / 16 % 16) (by omega) (t1 c0)
    unfold uVc at hm
    refine pmCs_deep (d := 1) (xg188 (w188_0 hA hb hf c0 ⟨by omega, t1 c0⟩ ⟨by omega, by omega⟩ (fun e2 => hF ?_ e) (fun e2 => hT ?_ e))) hd
    · split at hm <;> omega
    · split at hm <;> omega
  by_cases c1 : t / 256 = 1
  · have e : uAt f S t = decide (S f = t / 16 % 16 + 1) := by
      unfold uAt
      rw [if_neg c0, if_pos c1]
    refine pmCs_deep (d := 1) (xg188 (w188_1 hA hb hf c1 ⟨by omega, by omega⟩ ⟨by omega, by omega⟩ (fun e2 => hF ?_ e) (fun e2 => hT ?_ e))) hd
    · omega
    · omega
  by_cases c2 : t / 256 = 2
  · have e : uAt f S t = decide (S (t / 16 % 16) = 8) := by
      unfold uAt
      rw [if_neg c0, if_neg c1, if_pos c2]
    have hm := m3 (t / 16 % 16) (by omega) (t3 c2)
    refine pmCs_deep (d := 1) (xg188 (w188_2 hA hb hf c2 ⟨by omega, t3 c2⟩ ⟨by omega, by omega⟩ (fun e2 => hF ?_ e) (fun e2 => hT ?_ e))) hd
    · by_cases g : t / 16 % 16 = f
      · rw [g]
        omega
      · rw [if_neg g] at hm
        omega
    · split at hm <;> omega
  by_cases c3 : t / 256 = 3
  · have e : uAt f S t = decide (S (4 + t / 16 % 16) = t % 16 + 1) := by
      unfold uAt
      rw [if_neg c0, if_neg c1, if_neg c2, if_pos c3]
    have hbb := t4 c3
    have h3 := s3 (t / 16 % 16) (by omega) hbb.1
    have hm := m2 (t / 16 % 16) (by omega) hbb.1
    unfold uVc at hm
    refine pmCs_deep (d := 1) (xg188 (w188_3 hA hb hf c3 ⟨by omega, hbb.1⟩ ⟨by omega, by omega⟩ (fun e2 => hF ?_ e) (fun e2 => hT ?_ e))) hd
    · split at hm <;> omega
    · split at hm <;> omega
  · have c4 : t / 256 = 4 := by omega
    have e : uAt f S t = decide (S (4 + t % 16) = 9 + t / 16 % 16) := by
      unfold uAt
      rw [if_neg c0, if_neg c1, if_neg c2, if_neg c3]
    have hbb := t5 c4
    have h3 := s3 (t % 16) (by omega) hbb.2
    have hm := m2 (t % 16) (by omega) hbb.2
    unfold uVc at hm
    refine pmCs_deep (d := 1) (xg188 (w188_4 hA hb hf c4 ⟨by omega, by omega⟩ ⟨by omega, hbb.2⟩ (fun e2 => hF ?_ e) (fun e2 => hT ?_ e))) hd
    · split at hm <;> omega
    · split at hm <;> omega
/-- weapons, as the reference has them -/
def uWr (wp : Int → Int) (n : Int) (a : xA) : Prop := (∀ i, 0 ≤ i → i < 5 → a 91 i = wp i) ∧ a 87 2 = n ∧ (0 ≤ n ∧ n ≤ 5) ∧ ∀ i, n ≤ i → 0 ≤ i → i < 5 → wp i = 0
theorem u195 (hA : xAr a) (hM : uMd f base a S) (hW : uWr wp n a) (hb : 0 ≤ base ∧ base ≤ 40) (hf : 1 ≤ f ∧ f ≤ 3) (hS : uOk f S) (hd : 1 ≤ d) (hQ : ∀ z, (z = 0 ∨ z = 1) → (z = 1 ↔ uArm wp S f) → Q (some (xV z)) (xS a b)) : pmCs ro d 195 [.ref 87, xV base, xV f] (xS a b) Q := by
  obtain ⟨w1, w2, w3, w4⟩ := hW
  obtain ⟨m1, m2, m3⟩ := hM
  obtain ⟨s1, s2, s3⟩ := hS
  have ar : uArm wp S f ↔ ∃ j, 0 ≤ j ∧ j < n ∧ ¬ wp j = 0 ∧ S (4 + j) = 9 + f := by
    unfold uArm
    constructor
    · have one : ∀ j, 0 ≤ j → j < 5 → ¬ wp j = 0 → S (4 + j) = 9 + f → ∃ j, 0 ≤ j ∧ j < n ∧ ¬ wp j = 0 ∧ S (4 + j) = 9 + f := fun j j0 j5 h1 h2 => ⟨j, j0, by
        by_cases c : j < n
        · exact c
        · exact absurd (w4 j (by omega) j0 j5) h1, h1, h2⟩
      rintro (⟨h1, h2⟩ | ⟨h1, h2⟩ | ⟨h1, h2⟩ | ⟨h1, h2⟩ | ⟨h1, h2⟩)
      · exact one 0 (by decide) (by decide) h1 h2
      · exact one 1 (by decide) (by decide) h1 h2
      · exact one 2 (by decide) (by decide) h1 h2
      · exact one 3 (by decide) (by decide) h1 h2
      · exact one 4 (by decide) (by decide) h1 h2
    · rintro ⟨j, j0, j1, j2, j3⟩
      have : j = 0 ∨ j = 1 ∨ j = 2 ∨ j = 3 ∨ j = 4 := by omega
      rcases this with e | e | e | e | e <;> subst e
      · exact Or.inl ⟨j2, j3⟩
      · exact Or.inr (Or.inl ⟨j2, j3⟩)
      · exact Or.inr (Or.inr (Or.inl ⟨j2, j3⟩))
      · exact Or.inr (Or.inr (Or.inr (Or.inl ⟨j2, j3⟩)))
      · exact Or.inr (Or.inr (Or.inr (Or.inr ⟨j2, j3⟩)))
  refine pmCs_deep (d := 1) (xg195 (w195 hA hb hf w2 w3 ?_)) hd
  have loop : ∀ (m : Nat) (x : Int), n - x ≤ (m : Int) → 0 ≤ x ∧ x ≤ n → (∀ j, 0 ≤ j → j < x → ¬ (¬ wp j = 0 ∧ S (4 + j) = 9 + f)) → pmWp ro 0 12 195 2 2 [some (.ref 87), some (xV base), some (xV f), some (xV x)] [] (xS a b) Q := by
    intro m
    induction m with
    | zero =>
      intro x hm hx h
      refine w195l hA hb hf w2 w3 hx (fun _ => hQ 0 (Or.inl rfl) ⟨fun g => by omega, fun g => ?_⟩) (fun e => by omega) (fun e => by omega) (fun e => by omega)
      obtain ⟨j, j0, j1, j2, j3⟩ := ar.mp g
      exact absurd ⟨j2, j3⟩ (h j j0 (by omega))
    | succ m ih =>
      intro x hm hx h
      refine w195l hA hb hf w2 w3 hx (fun _ => hQ 0 (Or.inl rfl) ⟨fun g => by omega, fun g => ?_⟩) (fun e1 e2 => ?_) (fun e1 e2 e3 => ?_) (fun e1 e2 e3 => ?_)
      · obtain ⟨j, j0, j1, j2, j3⟩ := ar.mp g
        exact absurd ⟨j2, j3⟩ (h j j0 (by omega))
      · rw [w1 x hx.1 (by omega)] at e2
        refine ih (x + 1) (by omega) (by omega) (fun j j0 j1 g => ?_)
        by_cases c : j = x
        · rw [c] at g
          exact g.1 e2
        · exact h j j0 (by omega) g
      · rw [m2 x hx.1 (by omega)] at e3
        have h3 := s3 x hx.1 (by omega)
        refine ih (x + 1) (by omega) (by omega) (fun j j0 j1 g => ?_)
        by_cases c : j = x
        · rw [c] at g
          unfold uVc at e3
          split at e3 <;> omega
        · exact h j j0 (by omega) g
      · rw [w1 x hx.1 (by omega)] at e2
        rw [m2 x hx.1 (by omega)] at e3
        have h3 := s3 x hx.1 (by omega)
        refine hQ 1 (Or.inr rfl) ⟨fun _ => ar.mpr ⟨x, hx.1, by omega, e2, ?_⟩, fun _ => rfl⟩
        unfold uVc at e3
        split at e3 <;> omega
  exact loop 5 0 (by omega) ⟨by decide, w3.1⟩ (fun j j0 j1 => by omega)
theorem uCan_k (hk : 0 ≤ k ∧ k < 41) : (uK k = 1 → (uCan dr wp f S k ↔ ¬ dr (7 * (S f - 1) + uX k) = 0)) ∧ (uK k = 2 → (uCan dr wp f S k ↔ S (4 + uX k) = S f)) ∧ (uK k = 3 → (uCan dr wp f S k ↔ S (4 + uX k) = 9 + f)) ∧ (uK k = 4 → (uCan dr wp f S k ↔ S (4 + uX k) = 9 + f ∧ ¬ uY k = f ∧ S (uY k) = S f)) ∧ (uK k = 5 → (uCan dr wp f S k ↔ ¬ uX k = f ∧ S (uX k) = S f ∧ uArm wp S f)) := by
  have e1 := @uK_e k
  have e2 := @uX_e k
  unfold uCan
  refine ⟨fun h => ?_, fun h => ?_, fun h => ?_, fun h => ?_, fun h => ?_⟩
  · rw [if_pos (by omega), show uX k = k by omega]
  · rw [if_neg (by omega), if_pos (by omega)]
  · rw [if_neg (by omega), if_neg (by omega), if_pos (by omega)]
  · rw [if_neg (by omega), if_neg (by omega), if_neg (by omega), if_pos (by omega)]
  · rw [if_neg (by omega), if_neg (by omega), if_neg (by omega), if_neg (by omega)]
theorem uK_r (hk : 0 ≤ k ∧ k < 61) : 1 ≤ uK k ∧ (k < 41 → uK k ≤ 5) ∧ (41 ≤ k → uK k = 6) := by
  have e0 := @uK_e k
  omega
theorem u191 (hA : xAr a) (hM : uMd f (10 * lv) a S) (hW : uWr wp n a) (hdr : ∀ k, 0 ≤ k → k < 49 → a 90 k = dr k ∧ (dr k = 0 ∨ dr k = 1)) (hlv : 0 ≤ lv ∧ lv ≤ 4) (hf : 1 ≤ f ∧ f ≤ 3) (hS : uOk f S) (hk : 0 ≤ k ∧ k < 41) (hd : 2 ≤ d) (hQ : ∀ z, (z = 0 ∨ z = 1) → (z = 1 ↔ uCan dr wp f S k) → Q (some (xV z)) (xS a b)) : pmCs ro d 191 [.ref 87, xV lv, xV f, xV k] (xS a b) Q := by
  have hM' := id hM
  obtain ⟨m1, m2, m3⟩ := hM'
  have hS' := id hS
  obtain ⟨s1, s2, s3⟩ := hS'
  have hb := uX_b (k := k) ⟨hk.1, by omega⟩
  have e0 := uK_r (k := k) ⟨hk.1, by omega⟩
  obtain ⟨c1, c2, c3, c4, c5⟩ := uCan_k (dr := dr) (wp := wp) (f := f) (S := S) hk
  have hr0 : 0 ≤ S f - 1 ∧ S f - 1 ≤ 6 := by omega
  have hTi : ∀ x, 0 ≤ x → x < 5 → a 108 (10 * lv + 1 + x) = uVc (S (4 + x)) ∧ ((0 ≤ S (4 + x) ∧ S (4 + x) ≤ 7) ∨ (9 ≤ S (4 + x) ∧ S (4 + x) ≤ 12)) := fun x x0 x1 => ⟨m2 x x0 x1, s3 x x0 x1⟩
  refine pmCs_deep (d := 2) (xg191 ?_) hd
  by_cases k1 : uK k = 1
  · have hx := hb.2.1 k1
    have hb1 := hb.1
    clear hb
    have hq := hdr (7 * (S f - 1) + uX k) (by omega) (by omega)
    refine w191_1 hA hlv hf m1 hr0 (fun k k0 k9 => by have := hdr k k0 k9; omega) hk k1 ⟨hb1, hx⟩ (by decide) ?_
    rw [hq.1]
    refine hQ _ hq.2 ?_
    rw [c1 k1]
    omega
  by_cases k2 : uK k = 2
  · have hx := hb.2.2.1 (Or.inl k2)
    have hb1 := hb.1
    clear hb
    have hm := hTi _ hb1 hx
    unfold uVc at hm
    refine w191_2 hA hlv hf m1 hr0 hk k2 ⟨hb1, hx⟩ (by decide) (fun e => hQ 0 (Or.inl rfl) ⟨fun g => by omega, fun g => ?_⟩) (fun e => hQ 1 (Or.inr rfl) ⟨fun _ => ?_, fun _ => rfl⟩)
    · rw [c2 k2] at g
      have hm1 := hm.1
      split at hm1 <;> omega
    · rw [c2 k2]
      have hm1 := hm.1
      split at hm1 <;> omega
  by_cases k3 : uK k = 3
  · have hx := hb.2.2.1 (Or.inr (Or.inl k3))
    have hb1 := hb.1
    clear hb
    have hm := hTi _ hb1 hx
    unfold uVc at hm
    refine w191_3 hA hlv hf m1 hr0 hk k3 ⟨hb1, hx⟩ (by decide) (fun e => hQ 0 (Or.inl rfl) ⟨fun g => by omega, fun g => ?_⟩) (fun e => hQ 1 (Or.inr rfl) ⟨fun _ => ?_, fun _ => rfl⟩)
    · rw [c3 k3] at g
      have hm1 := hm.1
      split at hm1 <;> omega
    · rw [c3 k3]
      have hm1 := hm.1
      split at hm1 <;> omega
  by_cases k4 : uK k = 4
  · have hx := hb.2.2.1 (Or.inr (Or.inr (Or.inl k4)))
    have hy := hb.2.2.2.2.1 (Or.inl k4)
    have hb1 := hb.1
    clear hb
    have hm := hTi _ hb1 hx
    have hp := m3 _ hy.1 hy.2
    unfold uVc at hm
    refine w191_4 hA hlv hf m1 hr0 hk k4 ⟨hb1, hx⟩ hy (by decide) (fun e => hQ 0 (Or.inl rfl) ⟨fun g => by omega, fun g => ?_⟩) (fun e1 e2 => hQ 0 (Or.inl rfl) ⟨fun g => by omega, fun g => ?_⟩) (fun e1 e2 e3 => hQ 0 (Or.inl rfl) ⟨fun g => by omega, fun g => ?_⟩) (fun e1 e2 e3 => hQ 1 (Or.inr rfl) ⟨fun _ => ?_, fun _ => rfl⟩)
    · rw [c4 k4] at g
      have g1 := g.1
      have hm1 := hm.1
      split at hm1 <;> omega
    · rw [c4 k4] at g
      exact absurd e2 g.2.1
    · rw [c4 k4] at g
      have g1 := g.2.2
      rw [if_neg e2] at hp
      omega
    · rw [c4 k4]
      rw [if_neg e2] at hp
      refine ⟨?_, e2, by omega⟩
      have hm1 := hm.1
      split at hm1 <;> omega
  · have k5 : uK k = 5 := by omega
    have hx := hb.2.2.2.1 k5
    have hb1 := hb.1
    clear hb
    have hp := m3 _ hb1 hx
    refine w191_5 hA hlv hf m1 hr0 hk k5 ⟨hb1, hx⟩ (by decide) (fun e => hQ 0 (Or.inl rfl) ⟨fun g => by omega, fun g => ?_⟩) (fun e1 e2 => hQ 0 (Or.inl rfl) ⟨fun g => by omega, fun g => ?_⟩) (fun e1 e2 => ?_)
    · rw [c5 k5] at g
      exact absurd e g.1
    · rw [c5 k5] at g
      have g1 := g.2.1
      rw [if_neg e1] at hp
      omega
    · rw [if_neg e1] at hp
      refine u195 hA hM hW ⟨by omega, by omega⟩ hf hS (by decide) (fun z hz hza => ?_)
      refine w191b hz (fun g => hQ 0 (Or.inl rfl) ⟨fun g => by omega, fun g2 => ?_⟩) (fun g => hQ 1 (Or.inr rfl) ⟨fun _ => ?_, fun _ => rfl⟩)
      · rw [c5 k5] at g2
        have := hza.mpr g2.2.2
        omega
      · rw [c5 k5]
        exact ⟨e1, by omega, hza.mp (by omega)⟩
theorem uKd (hk : 0 ≤ k ∧ k < 41) : (k < 7 ∧ uK k = 1 ∧ uX k = k) ∨ ((7 ≤ k ∧ k < 12) ∧ uK k = 2 ∧ uX k = k - 7) ∨ ((12 ≤ k ∧ k < 17) ∧ uK k = 3 ∧ uX k = k - 12) ∨ ((17 ≤ k ∧ k < 37) ∧ uK k = 4 ∧ uX k = (k - 17) / 4 ∧ uY k = (k - 17) % 4) ∨ ((37 ≤ k ∧ k < 41) ∧ uK k = 5 ∧ uX k = k - 37) := by
  unfold uK uX uY
  have n0 : ¬ k < 0 := by omega
  rw [if_neg n0, if_neg n0]
  by_cases k7 : k < 7
  · rw [if_pos k7, if_pos k7]
    exact Or.inl ⟨k7, rfl, rfl⟩
  rw [if_neg k7, if_neg k7]
  by_cases k12 : k < 12
  · rw [if_pos k12, if_pos k12]
    exact Or.inr (Or.inl ⟨⟨by omega, k12⟩, rfl, rfl⟩)
  rw [if_neg k12, if_neg k12]
  by_cases k17 : k < 17
  · rw [if_pos k17, if_pos k17]
    exact Or.inr (Or.inr (Or.inl ⟨⟨by omega, k17⟩, rfl, rfl⟩))
  rw [if_neg k17, if_neg k17, if_neg k17]
  by_cases k37 : k < 37
  · rw [if_pos k37, if_pos k37, if_pos k37]
    exact Or.inr (Or.inr (Or.inr (Or.inl ⟨⟨by omega, k37⟩, rfl, rfl, rfl⟩)))
  rw [if_neg k37, if_neg k37, if_pos hk.2, if_pos hk.2]
  exact Or.inr (Or.inr (Or.inr (Or.inr ⟨⟨by omega, hk.2⟩, rfl, rfl⟩)))
/-- rows of minds that lie lower stay -/
def uMl (a a' : xA) (base : Int) : Prop := (∀ q j, q ≠ 108 → a' q j = a q j) ∧ ∀ j, j < base → a' 108 j = a 108 j
theorem uMl_u {base j v : Int} (h : uMl a a' base) (hj : base ≤ j) : uMl a (xU a' 108 j v) base := ⟨fun q i e => by rw [xUn e]; exact h.1 q i e, fun i hi => by rw [xUk (by omega)]; exact h.2 i hi⟩
theorem uMd_m {f base base' : Int} (h : uMd f base a S) (hl : uMl a a' base') (hb : base + 10 ≤ base') : uMd f base a' S := ⟨(hl.2 _ (by omega)).trans h.1, fun x x0 x1 => (hl.2 _ (by omega)).trans (h.2.1 x x0 x1), fun q q0 q1 => (hl.2 _ (by omega)).trans (h.2.2 q q0 q1)⟩
theorem u196 (hA : xAr a) (hM : uMd f (10 * lv) a S) (hn : a 87 2 = n) (hn0 : 0 ≤ n ∧ n ≤ 5) (hlv : 0 ≤ lv ∧ lv ≤ 3) (hf : 1 ≤ f ∧ f ≤ 3) (hS : uOk f S) (hN : uOn n S) (hk : 0 ≤ k ∧ k < 41) (hc : uCan dr wp f S k) (hd : 2 ≤ d) (hQ : ∀ a', uMl a a' (10 * lv + 10) → xAr a' → uMd f (10 * lv + 10) a' (uApp f S k) → Q none (xS a' b)) : pmCs ro d 196 [.ref 87, xV lv, xV f, xV k] (xS a b) Q := by
  have kinds : (uK k = 1 ∧ uX k = k ∧ k < 7) ∨ (uK k = 2 ∧ (0 ≤ uX k ∧ uX k < 5) ∧ 7 ≤ k ∧ k < 12) ∨ (uK k = 3 ∧ (0 ≤ uX k ∧ uX k < 5) ∧ 12 ≤ k ∧ k < 17) ∨ (uK k = 4 ∧ (0 ≤ uX k ∧ uX k < 5) ∧ (0 ≤ uY k ∧ uY k < 4) ∧ 17 ≤ k ∧ k < 37) ∨ (uK k = 5 ∧ (0 ≤ uX k ∧ uX k < 4) ∧ 37 ≤ k ∧ k < 41 ∧ ¬ uX k = f ∧ S (uX k) = S f) := by
    rcases uKd hk with ⟨e1, e2, e3⟩ | ⟨e1, e2, e3⟩ | ⟨e1, e2, e3⟩ | ⟨e1, e2, e3, e4⟩ | ⟨e1, e2, e3⟩
    · exact Or.inl ⟨e2, e3, e1⟩
    · exact Or.inr (Or.inl ⟨e2, ⟨by omega, by omega⟩, e1⟩)
    · exact Or.inr (Or.inr (Or.inl ⟨e2, ⟨by omega, by omega⟩, e1⟩))
    · exact Or.inr (Or.inr (Or.inr (Or.inl ⟨e2, ⟨by omega, by omega⟩, ⟨by omega, by omega⟩, e1⟩)))
    · have hcc := ((uCan_k (dr := dr) (wp := wp) (f := f) (S := S) hk).2.2.2.2 e2).mp hc
      exact Or.inr (Or.inr (Or.inr (Or.inr ⟨e2, ⟨by omega, by omega⟩, e1.1, e1.2, hcc.1, hcc.2.1⟩)))
  obtain ⟨s1, s2, s3⟩ := id hS
  refine pmCs_deep (d := 2) (xg196 (w196 hlv hf hk ?_)) hd
  clear hc
  -- behind the copying
  have after : ∀ (a1 : xA) (i : Int) (v : Option Value), uMl a a1 (10 * lv + 10) → xAr a1 → uMd f (10 * lv + 10) a1 S → pmWp ro 1 12 196 0 48 [some (.ref 87), some (xV lv), some (xV f), some (xV k), some (xV (10 * lv + 10)), some (xV i), none] [] (xS a1 b) Q := by
    intro a1 i v g1 g2 g3
    obtain ⟨m1, m2, m3⟩ := g3
    -- one cell of things put to another value
    have one : ∀ (x v w : Int), 0 ≤ x → x < 5 → v = uVc w → xR v → uApp f S k = uP S (4 + x) w → Q none (xS (xU a1 108 (10 * lv + 10 + 1 + x) v) b) := by
      intro x v w x0 x1 hv hr he
      refine hQ _ (uMl_u g1 (by omega)) (xAr_u g2 hr) ⟨?_, fun y y0 y1 => ?_, fun q q0 q1 => ?_⟩
      · rw [xUk (by omega), m1, he]
        unfold uP
        rw [if_neg (by omega)]
      · rw [he]
        unfold uP
        by_cases c : y = x
        · rw [c, xUa, if_pos rfl, hv]
        · rw [xUk (by omega), if_neg (by omega), m2 y y0 y1]
      · rw [xUk (by omega), m3 q q0 q1, he]
        unfold uP
        rw [if_neg (show ¬ q = 4 + x by omega)]
    rcases kinds with ⟨k1, hx, k7⟩ | ⟨k2, hx, k7, k12⟩ | ⟨k3, hx, k12, k17⟩ | ⟨k4, hx, hy, k17, k37⟩ | ⟨k5, hx, k37, k41, n1, n2⟩
    · refine w196_1 hlv hf ⟨by omega, by omega⟩ hk k1 ⟨by omega, by omega⟩ (by decide) ?_
      have he := uApp_go (f := f) (S := S) (k := k) ⟨hk.1, k7⟩
      rw [hx]
      refine hQ _ (uMl_u g1 (by omega)) (xAr_u g2 ⟨by omega, by omega⟩) ⟨?_, fun y y0 y1 => ?_, fun q q0 q1 => ?_⟩
      · rw [xUa, he]
        unfold uP
        rw [if_pos rfl]
        omega
      · rw [xUk (by omega), m2 y y0 y1, he]
        unfold uP
        rw [if_neg (by omega)]
      · rw [xUk (by omega), m3 q q0 q1, he]
        unfold uP
        by_cases c : q = f
        · rw [if_pos c, if_pos c]
        · rw [if_neg c, if_neg c, if_neg c]
    · refine w196_2 hlv hf ⟨by omega, by omega⟩ hk k2 hx (by decide) ?_
      refine one _ _ (9 + f) hx.1 hx.2 ?_ ⟨by omega, by omega⟩ (uApp_ta ⟨k7, k12⟩)
      unfold uVc
      rw [if_neg (by omega)]
      omega
    · refine w196_3 hlv hf ⟨by omega, by omega⟩ hk k3 hx (by decide) ?_
      refine one _ _ (S f) hx.1 hx.2 ?_ (g2 _ _) (uApp_dr ⟨k12, k17⟩)
      rw [m1]
      unfold uVc
      rw [if_pos (by omega)]
    · refine w196_4 hlv hf ⟨by omega, by omega⟩ hk k4 hx hy (by decide) ?_
      refine one _ _ (9 + uY k) hx.1 hx.2 ?_ ⟨by omega, by omega⟩ (uApp_gi ⟨k17, k37⟩)
      unfold uVc
      rw [if_neg (by omega)]
      omega
    · refine w196_5 hlv hf ⟨by omega, by omega⟩ hk k5 hx (by decide) ?_
      have he := uApp_hi (f := f) (S := S) (k := k) ⟨k37, k41⟩
      have ep : ∀ q, 0 ≤ q → q < 4 → uApp f S k q = if q = uX k then 8 else S q := fun q q0 q1 => by
        rw [he]
        show (if q = uX k then _ else _) = _
        by_cases c : q = uX k
        · rw [if_pos c, if_pos c]
        · rw [if_neg c, if_neg c, if_neg (by omega)]
      have et : ∀ y, 0 ≤ y → y < 5 → uApp f S k (4 + y) = if S (4 + y) = 9 + uX k then S f else S (4 + y) := fun y y0 y1 => by
        rw [he]
        show (if 4 + y = uX k then _ else _) = _
        rw [if_neg (by omega)]
        by_cases c : S (4 + y) = 9 + uX k
        · rw [if_pos ⟨by omega, by omega, c⟩, if_pos c]
        · rw [if_neg (fun e => c e.2.2), if_neg c]
      -- the loop over things
      have loop : ∀ (m : Nat) (t : Int) (a2 : xA), n - t ≤ (m : Int) → 0 ≤ t ∧ t ≤ n → uMl a a2 (10 * lv + 10) → xAr a2 → a2 108 (10 * lv + 10) = S f - 1 → (∀ q, 0 ≤ q → q < 4 → a2 108 (10 * lv + 10 + 6 + q) = if q = uX k then 7 else if q = f then -1 else S q - 1) → (∀ y, 0 ≤ y → y < t → a2 108 (10 * lv + 10 + 1 + y) = uVc (uApp f S k (4 + y))) → (∀ y, t ≤ y → y < 5 → a2 108 (10 * lv + 10 + 1 + y) = uVc (S (4 + y))) →
          pmWp ro 1 12 196 0 181 [some (.ref 87), some (xV lv), some (xV f), some (xV k), some (xV (10 * lv + 10)), some (xV (uX k)), some (xV t)] [] (xS a2 b) Q := by
        intro m
        have fin : ∀ (t : Int) (a2 : xA), t = n → uMl a a2 (10 * lv + 10) → xAr a2 → a2 108 (10 * lv + 10) = S f - 1 → (∀ q, 0 ≤ q → q < 4 → a2 108 (10 * lv + 10 + 6 + q) = if q = uX k then 7 else if q = f then -1 else S q - 1) → (∀ y, 0 ≤ y → y < t → a2 108 (10 * lv + 10 + 1 + y) = uVc (uApp f S k (4 + y))) → (∀ y, t ≤ y → y < 5 → a2 108 (10 * lv + 10 + 1 + y) = uVc (S (4 + y))) → Q none (xS a2 b) := by
          intro t a2 ht q1 q2 q3 q4 q5 q6
          refine hQ a2 q1 q2 ⟨?_, fun y y0 y1 => ?_, fun q q0 q9 => ?_⟩
          · rw [q3, ep f (by omega) (by omega), if_neg (by omega)]
          · by_cases c : y < t
            · exact q5 y y0 c
            · rw [q6 y (by omega) y1, et y y0 y1, if_neg]
              have := hN y (by omega) y0 y1
              omega
          · rw [q4 q q0 q9, ep q q0 q9]
            by_cases c : q = uX k
            · rw [if_pos c, if_pos c, if_neg (by omega)]
              rfl
            · rw [if_neg c, if_neg c]
        induction m with
        | zero =>
          intro t a2 hm ht q1 q2 q3 q4 q5 q6
          refine w196h hlv hf hk q2 ⟨by omega, by omega⟩ hx ((q1.1 87 2 (by decide)).trans hn) hn0 ht (fun _ => fin t a2 (by omega) q1 q2 q3 q4 q5 q6) (fun e => by omega) (fun e => by omega)
        | succ m ih =>
          intro t a2 hm ht q1 q2 q3 q4 q5 q6
          have nx : ∀ v, t < n → v = uVc (uApp f S k (4 + t)) → xR v → pmWp ro 1 12 196 0 181 [some (.ref 87), some (xV lv), some (xV f), some (xV k), some (xV (10 * lv + 10)), some (xV (uX k)), some (xV (t + 1))] [] (xS (xU a2 108 (10 * lv + 10 + 1 + t) v) b) Q := by
            intro v tn hv hr
            refine ih (t + 1) _ (by omega) (by omega) (uMl_u q1 (by omega)) (xAr_u q2 hr) (by rw [xUk (by omega)]; exact q3) (fun q q0 q9 => by rw [xUk (by omega)]; exact q4 q q0 q9) (fun y y0 y1 => ?_) (fun y y0 y1 => by rw [xUk (by omega)]; exact q6 y (by omega) y1)
            by_cases c : y = t
            · rw [c, xUa, hv]
            · rw [xUk (by omega)]
              exact q5 y y0 (by omega)
          refine w196h hlv hf hk q2 ⟨by omega, by omega⟩ hx ((q1.1 87 2 (by decide)).trans hn) hn0 ht (fun _ => fin t a2 (by omega) q1 q2 q3 q4 q5 q6) (fun g1 g2 => ?_) (fun g1 g2 => ?_)
          · have h3 := s3 t ht.1 (by omega)
            refine nx _ (by omega) ?_ (q2 _ _)
            rw [q6 t (Int.le_refl _) (by omega)] at g2 ⊢
            rw [et t ht.1 (by omega), if_neg]
            intro h
            unfold uVc at g2
            split at g2 <;> omega
          · have h3 := s3 t ht.1 (by omega)
            refine nx _ (by omega) ?_ (q2 _ _)
            rw [q6 t (Int.le_refl _) (by omega)] at g2
            rw [q3, et t ht.1 (by omega), if_pos (by unfold uVc at g2; split at g2 <;> omega)]
            unfold uVc
            rw [if_pos (by omega)]
      refine loop 5 0 _ (by omega) ⟨by decide, hn0.1⟩ (uMl_u g1 (by omega)) (xAr_u g2 ⟨by decide, by decide⟩) (by rw [xUk (by omega)]; exact m1) (fun q q0 q9 => ?_) (fun y y0 y1 => by omega) (fun y y0 y1 => by rw [xUk (by omega)]; exact m2 y y0 y1)
      by_cases c : q = uX k
      · rw [if_pos c, c, xUa]
      · rw [if_neg c, xUk (by omega)]
        exact m3 q q0 q9
  -- the copying
  have copy : ∀ (m : Nat) (i : Int) (a1 : xA), 10 - i ≤ (m : Int) → 0 ≤ i ∧ i ≤ 10 → uMl a a1 (10 * lv + 10) → xAr a1 → (∀ j, 0 ≤ j → j < i → a1 108 (10 * lv + 10 + j) = a 108 (10 * lv + j)) → pmWp ro 1 12 196 0 12 [some (.ref 87), some (xV lv), some (xV f), some (xV k), some (xV (10 * lv + 10)), some (xV i), none] [] (xS a1 b) Q := by
    intro m
    have fin : ∀ (i : Int) (a1 : xA), i = 10 → uMl a a1 (10 * lv + 10) → xAr a1 → (∀ j, 0 ≤ j → j < i → a1 108 (10 * lv + 10 + j) = a 108 (10 * lv + j)) → pmWp ro 1 12 196 0 48 [some (.ref 87), some (xV lv), some (xV f), some (xV k), some (xV (10 * lv + 10)), some (xV i), none] [] (xS a1 b) Q := by
      intro i a1 hi g1 g2 g3
      refine after a1 i none g1 g2 ⟨?_, fun x x0 x1 => ?_, fun q q0 q1 => ?_⟩
      · have := g3 0 (by decide) (by omega)
        rw [Int.add_zero, Int.add_zero] at this
        rw [this]
        exact hM.1
      · rw [show 10 * lv + 10 + 1 + x = 10 * lv + 10 + (1 + x) by omega, g3 (1 + x) (by omega) (by omega), show 10 * lv + (1 + x) = 10 * lv + 1 + x by omega]
        exact hM.2.1 x x0 x1
      · rw [show 10 * lv + 10 + 6 + q = 10 * lv + 10 + (6 + q) by omega, g3 (6 + q) (by omega) (by omega), show 10 * lv + (6 + q) = 10 * lv + 6 + q by omega]
        exact hM.2.2 q q0 q1
    induction m with
    | zero =>
      intro i a1 hm hi g1 g2 g3
      refine w196l hlv hf hk ⟨by omega, by omega⟩ hi (fun _ => fin i a1 (by omega) g1 g2 g3) (fun e => by omega)
    | succ m ih =>
      intro i a1 hm hi g1 g2 g3
      refine w196l hlv hf hk ⟨by omega, by omega⟩ hi (fun _ => fin i a1 (by omega) g1 g2 g3) (fun e => ?_)
      refine ih (i + 1) _ (by omega) (by omega) (uMl_u g1 (by omega)) (xAr_u g2 (g2 _ _)) (fun j j0 j1 => ?_)
      by_cases c : j = i
      · rw [c, xUa, g1.2 _ (by omega), show 10 * lv + 10 - 10 + i = 10 * lv + i by omega]
      · rw [xUk (by omega)]
        exact g3 j j0 (by omega)
  exact copy 10 0 a (by decide) (by decide) ⟨fun _ _ _ => rfl, fun _ _ => rfl⟩ hA (fun j j0 j1 => by omega)
end
end
