/-! each deed is such a step; the least cost of a wish is one -/
section
variable {dr wp c pr : Int → Int} {V : Int → Int → Int} {f : Int} {S S' : Int → Int} {k ck : Int} {ts : List Int}
theorem uTs_same (hV : uVo dr V c) (hf : 1 ≤ f ∧ f ≤ 3) (hS : uOk f S) (hS' : uOk f S') (hk : 0 ≤ ck) (hv : ∀ b, 0 ≤ b → b < 7 → V (S f - 1) b ≤ ck + V (S' f - 1) b) {x : Int} (x0 : 0 ≤ x) (x1 : x < 5) (e : S' (4 + x) = S (4 + x)) (he : 9 ≤ S (4 + x) → ¬ S (4 + x) = 9 + f → S' (S (4 + x) - 9) = S (S (4 + x) - 9)) : uTs V c wp f ck S S' x := by
  have h1 := hS.1
  have h1' := hS'.1
  by_cases g : S (4 + x) = 9 + f
  · exact Or.inr (Or.inl ⟨e, g⟩)
  have w2 := uHd_c hV hf hS' x0 x1
  rw [e] at w2
  rcases uHd_c hV hf hS x0 x1 with w | ⟨a1, a2, a3, a4, a5, a6, a7⟩ | ⟨a1, a2, a3, a4, a5, a6⟩ | ⟨a1, a2, a3, a4⟩ | ⟨a1, a2, a3⟩
  · omega
  · have he := he a1 a3
    rw [he] at w2
    have := hv (S (S (4 + x) - 9) - 1) (by omega) (by omega)
    exact Or.inl ⟨e, g, by omega, by omega⟩
  · have he := he a1 a3
    rw [he] at w2
    exact Or.inr (Or.inr (Or.inl ⟨e, g, a5, by omega⟩))
  · have := hv (S (4 + x) - 1) (by omega) (by omega)
    exact Or.inl ⟨e, g, by omega, by omega⟩
  · exact Or.inr (Or.inr (Or.inl ⟨e, g, a2, by omega⟩))
theorem uStp_ok (hV : uVo dr V c) (hf : 1 ≤ f ∧ f ≤ 3) (hS : uOk f S) (hk : 0 ≤ k ∧ k < 41) (hc : uCan dr wp f S k) : uStp V c wp f (c (uK k)) S (uApp f S k) := by
  have hS' := uOk_app hf hS hk hc
  have h1 := hS.1
  have h1' := hS'.1
  have hx : uX k = if k < 0 then -1 else if k < 7 then k else if k < 12 then k - 7 else if k < 17 then k - 12 else if k < 37 then (k - 17) / 4 else if k < 41 then k - 37 else (k - 41) / 4 := rfl
  have hy : uY k = if k < 17 then -1 else if k < 37 then (k - 17) % 4 else if k < 41 then -1 else (k - 41) % 4 := rfl
  have c1 := hV.2.2 1 (by decide) (by decide)
  have c2 := hV.2.2 2 (by decide) (by decide)
  have c3 := hV.2.2 3 (by decide) (by decide)
  have c4 := hV.2.2 4 (by decide) (by decide)
  have c5 := hV.2.2 5 (by decide) (by decide)
  unfold uCan at hc
  by_cases k7 : k < 7
  · -- GO
    rw [if_pos k7] at hc
    have eK : uK k = 1 := by
      unfold uK
      rw [if_neg (by omega), if_pos k7]
    have eA : uApp f S k = uP S f (k + 1) := by
      unfold uApp
      rw [if_neg (by omega), if_pos k7]
    rw [eK]
    have ef : uApp f S k f = k + 1 := by
      rw [eA]
      exact if_pos rfl
    have eo : ∀ j, ¬ j = f → uApp f S k j = S j := fun j hj => by
      rw [eA]
      exact if_neg hj
    have hv : ∀ b, 0 ≤ b → b < 7 → V (S f - 1) b ≤ c 1 + V (uApp f S k f - 1) b := by
      intro b b0 b1
      rw [ef, show k + 1 - 1 = k by omega]
      exact hV.2.1 (S f - 1) k b (by omega) (by omega) hk.1 k7 b0 b1 hc
    refine ⟨by omega, hS', hv, fun _ => rfl, fun q q0 q1 hq => Or.inl (eo q hq), fun x x0 x1 => ?_⟩
    refine uTs_same hV hf hS hS' (by omega) hv x0 x1 (eo _ (by omega)) (fun g1 g2 => eo _ (by omega))
  rw [if_neg k7] at hc
  by_cases k12 : k < 12
  · -- TAKE
    rw [if_pos k12] at hc
    have ex : uX k = k - 7 := by
      rw [hx, if_neg (by omega), if_neg k7, if_pos k12]
    have eK : uK k = 2 := by
      unfold uK
      rw [if_neg (by omega), if_neg k7, if_pos k12]
    have eA : uApp f S k = uP S (4 + uX k) (9 + f) := by
      unfold uApp
      rw [if_neg (by omega), if_neg k7, if_pos k12]
    rw [eK]
    have et : uApp f S k (4 + uX k) = 9 + f := by
      rw [eA]
      exact if_pos rfl
    have eo : ∀ j, ¬ j = 4 + uX k → uApp f S k j = S j := fun j hj => by
      rw [eA]
      exact if_neg hj
    have ef : uApp f S k f = S f := eo f (by omega)
    have hv : ∀ b, 0 ≤ b → b < 7 → V (S f - 1) b ≤ c 2 + V (uApp f S k f - 1) b := by
      intro b b0 b1
      rw [ef]
      omega
    refine ⟨by omega, hS', hv, fun g => absurd ef g, fun q q0 q1 hq => Or.inl (eo q (by omega)), fun x x0 x1 => ?_⟩
    by_cases g : x = uX k
    · subst g
      exact Or.inr (Or.inr (Or.inr (Or.inl ⟨hc, et, ef, rfl⟩)))
    · exact uTs_same hV hf hS hS' (by omega) hv x0 x1 (eo _ (by omega)) (fun g1 g2 => eo _ (by have := hS.2.2 x x0 x1; omega))
  rw [if_neg k12] at hc
  by_cases k17 : k < 17
  · -- DROP
    rw [if_pos k17] at hc
    have ex : uX k = k - 12 := by
      rw [hx, if_neg (by omega), if_neg k7, if_neg k12, if_pos k17]
    have eK : uK k = 3 := by
      unfold uK
      rw [if_neg (by omega), if_neg k7, if_neg k12, if_pos k17]
    have eA : uApp f S k = uP S (4 + uX k) (S f) := by
      unfold uApp
      rw [if_neg (by omega), if_neg k7, if_neg k12, if_pos k17]
    rw [eK]
    have et : uApp f S k (4 + uX k) = S f := by
      rw [eA]
      exact if_pos rfl
    have eo : ∀ j, ¬ j = 4 + uX k → uApp f S k j = S j := fun j hj => by
      rw [eA]
      exact if_neg hj
    have ef : uApp f S k f = S f := eo f (by omega)
    have hv : ∀ b, 0 ≤ b → b < 7 → V (S f - 1) b ≤ c 3 + V (uApp f S k f - 1) b := by
      intro b b0 b1
      rw [ef]
      omega
    refine ⟨by omega, hS', hv, fun g => absurd ef g, fun q q0 q1 hq => Or.inl (eo q (by omega)), fun x x0 x1 => ?_⟩
    by_cases g : x = uX k
    · subst g
      exact Or.inr (Or.inr (Or.inr (Or.inr (Or.inl ⟨hc, et, ef, rfl⟩))))
    · exact uTs_same hV hf hS hS' (by omega) hv x0 x1 (eo _ (by omega)) (fun g1 g2 => eo _ (by have := hS.2.2 x x0 x1; omega))
  rw [if_neg k17] at hc
  by_cases k37 : k < 37
  · -- GIVE
    rw [if_pos k37] at hc
    obtain ⟨hc1, hc2, hc3⟩ := hc
    have ex : uX k = (k - 17) / 4 := by
      rw [hx, if_neg (by omega), if_neg k7, if_neg k12, if_neg k17, if_pos k37]
    have ey : uY k = (k - 17) % 4 := by
      rw [hy, if_neg k17, if_pos k37]
    have eK : uK k = 4 := by
      unfold uK
      rw [if_neg (by omega), if_neg k7, if_neg k12, if_neg k17, if_pos k37]
    have eA : uApp f S k = uP S (4 + uX k) (9 + uY k) := by
      unfold uApp
      rw [if_neg (by omega), if_neg k7, if_neg k12, if_neg k17, if_pos k37]
    rw [eK]
    have et : uApp f S k (4 + uX k) = 9 + uY k := by
      rw [eA]
      exact if_pos rfl
    have eo : ∀ j, ¬ j = 4 + uX k → uApp f S k j = S j := fun j hj => by
      rw [eA]
      exact if_neg hj
    have ef : uApp f S k f = S f := eo f (by omega)
    have hv : ∀ b, 0 ≤ b → b < 7 → V (S f - 1) b ≤ c 4 + V (uApp f S k f - 1) b := by
      intro b b0 b1
      rw [ef]
      omega
    refine ⟨by omega, hS', hv, fun g => absurd ef g, fun q q0 q1 hq => Or.inl (eo q (by omega)), fun x x0 x1 => ?_⟩
    by_cases g : x = uX k
    · subst g
      refine Or.inr (Or.inr (Or.inr (Or.inr (Or.inr (Or.inl ⟨hc1, by omega, by omega, by omega, ?_, ?_, ef, rfl⟩)))))
      · rw [et, show 9 + uY k - 9 = uY k by omega]
        exact hc3
      · rw [et, show 9 + uY k - 9 = uY k by omega, eo _ (by omega)]
        exact hc3
    · exact uTs_same hV hf hS hS' (by omega) hv x0 x1 (eo _ (by omega)) (fun g1 g2 => eo _ (by have := hS.2.2 x x0 x1; omega))
  rw [if_neg k37] at hc
  -- HIT
  obtain ⟨hc1, hc2, hc3⟩ := hc
  have ex : uX k = k - 37 := by
    rw [hx, if_neg (by omega), if_neg k7, if_neg k12, if_neg k17, if_neg k37, if_pos hk.2]
  have eK : uK k = 5 := by
    unfold uK
    rw [if_neg (by omega), if_neg k7, if_neg k12, if_neg k17, if_neg k37, if_pos hk.2]
  have eA : uApp f S k = fun j => if j = uX k then 8 else if 4 ≤ j ∧ j < 9 ∧ S j = 9 + uX k then S f else S j := by
    unfold uApp
    rw [if_neg (by omega), if_neg k7, if_neg k12, if_neg k17, if_neg k37, if_pos hk.2]
  rw [eK]
  have ed : uApp f S k (uX k) = 8 := by
    rw [eA]
    exact if_pos rfl
  have ep : ∀ q, 0 ≤ q → q < 4 → ¬ q = uX k → uApp f S k q = S q := fun q q0 q1 hq => by
    rw [eA]
    show (if q = uX k then _ else _) = _
    rw [if_neg hq, if_neg (by omega)]
  have eh : ∀ x, 0 ≤ x → x < 5 → S (4 + x) = 9 + uX k → uApp f S k (4 + x) = S f := fun x x0 x1 hx => by
    rw [eA]
    show (if 4 + x = uX k then _ else _) = _
    rw [if_neg (by omega), if_pos ⟨by omega, by omega, hx⟩]
  have eo : ∀ x, 0 ≤ x → x < 5 → ¬ S (4 + x) = 9 + uX k → uApp f S k (4 + x) = S (4 + x) := fun x x0 x1 hx => by
    rw [eA]
    show (if 4 + x = uX k then _ else _) = _
    rw [if_neg (by omega), if_neg (fun e => hx e.2.2)]
  have ef : uApp f S k f = S f := ep f (by omega) (by omega) (by omega)
  have hv : ∀ b, 0 ≤ b → b < 7 → V (S f - 1) b ≤ c 5 + V (uApp f S k f - 1) b := by
    intro b b0 b1
    rw [ef]
    omega
  have hT : uHt V c wp f S (uX k) ≤ c 5 := by
    unfold uHt
    rw [if_neg hc1]
    have hz : uAm (uHd V c f S) wp ≤ 0 := by
      have hm := (uAm_le (H := uHd V c f S) (wp := wp)).2.1
      have z := fun x (x0 : 0 ≤ x) (x1 : x < 5) (hx : S (4 + x) = 9 + f) => (uHd_b hV hf hS x0 x1).2.2.1.mpr hx
      rcases hc3 with ⟨w, g⟩ | ⟨w, g⟩ | ⟨w, g⟩ | ⟨w, g⟩ | ⟨w, g⟩
      · rw [← z 0 (by decide) (by decide) g]
        exact hm 0 (by decide) (by decide) w
      · rw [← z 1 (by decide) (by decide) g]
        exact hm 1 (by decide) (by decide) w
      · rw [← z 2 (by decide) (by decide) g]
        exact hm 2 (by decide) (by decide) w
      · rw [← z 3 (by decide) (by decide) g]
        exact hm 3 (by decide) (by decide) w
      · rw [← z 4 (by decide) (by decide) g]
        exact hm 4 (by decide) (by decide) w
    have hm : uMt V f S (uX k) = 0 := by
      unfold uMt
      rw [hc2, if_pos h1]
      exact (hV.1 (S f - 1) (S f - 1) (by omega) (by omega) (by omega) (by omega)).2.mpr rfl
    rw [hm]
    unfold uMax
    split <;> omega
  refine ⟨by omega, hS', hv, fun g => absurd ef g, fun q q0 q1 hq => ?_, fun x x0 x1 => ?_⟩
  · by_cases g : q = uX k
    · subst g
      exact Or.inr ⟨ed, hc2, rfl, hT⟩
    · exact Or.inl (ep q q0 q1 g)
  · by_cases g : S (4 + x) = 9 + uX k
    · have e9 : S (4 + x) - 9 = uX k := by omega
      refine Or.inr (Or.inr (Or.inr (Or.inr (Or.inr (Or.inr ⟨by omega, by omega, by omega, ?_, eh x x0 x1 g, ef, rfl, ?_⟩)))))
      · rw [e9]
        exact hc2
      · rw [e9]
        exact hT
    · exact uTs_same hV hf hS hS' (by omega) hv x0 x1 (eo x x0 x1 g) (fun g1 g2 => ep _ (by omega) (by have := hS.2.2 x x0 x1; omega) (by omega))
/-! nothing to be done: it holds -/
theorem uZq {so : Prop} [Decidable so] {make un : Int} (hm : ¬ so → 0 < make) (hu : so → 0 < un) : (0 ≤ (if so then 0 else make, if so then un else 0).1 ∧ 0 ≤ (if so then 0 else make, if so then un else 0).2) ∧ ((if so then 0 else make, if so then un else 0).1 = 0 ↔ decide so = true) ∧ ((if so then 0 else make, if so then un else 0).2 = 0 ↔ decide so = false) := by
  rw [decide_eq_true_iff, decide_eq_false_iff_not]
  dsimp only
  by_cases h : so
  · have := hu h
    rw [if_pos h, if_pos h]
    exact ⟨⟨by decide, by omega⟩, ⟨fun _ => h, fun _ => rfl⟩, ⟨fun e => by omega, fun e => absurd h e⟩⟩
  · have := hm h
    rw [if_neg h, if_neg h]
    exact ⟨⟨by omega, by decide⟩, ⟨fun e => by omega, fun e => absurd e h⟩, ⟨fun _ => h, fun _ => rfl⟩⟩
theorem uYN_z (hV : uVo dr V c) (hf : 1 ≤ f ∧ f ≤ 3) (hS : uOk f S) {t : Int} (ht : uTk t) (h5 : t / 256 < 5) : (0 ≤ (uYN V c wp f S t).1 ∧ 0 ≤ (uYN V c wp f S t).2) ∧ ((uYN V c wp f S t).1 = 0 ↔ uAt f S t = true) ∧ ((uYN V c wp f S t).2 = 0 ↔ uAt f S t = false) := by
  obtain ⟨t0, t1, t2, t3, t4, t5⟩ := ht
  have hS1 := hS.1
  have c1 := hV.2.2 1 (by decide) (by decide)
  have c2 := hV.2.2 2 (by decide) (by decide)
  have c3 := hV.2.2 3 (by decide) (by decide)
  have c4 := hV.2.2 4 (by decide) (by decide)
  have c5 := hV.2.2 5 (by decide) (by decide)
  have hLo : 1 ≤ uLos c := by
    unfold uLos uMin
    split <;> omega
  have hLa : 1 ≤ uLay c := by
    unfold uLay uMin
    split <;> omega
  have hT : ∀ q, 1 ≤ uHt V c wp f S q := by
    intro q
    unfold uHt
    split
    · decide
    · have := uAm_le (H := uHd V c f S) (wp := wp)
      have h0 := this.2.2 (fun y y0 y1 => (uHd_b hV hf hS y0 y1).1)
      unfold uMax
      split <;> omega
  have has : ∀ x, 0 ≤ x → x < 5 → (0 ≤ uHd V c f S x ∧ 0 ≤ (if uHd V c f S x = 0 then uLos c else 0)) ∧ (uHd V c f S x = 0 ↔ decide (S (4 + x) = 9 + f) = true) ∧ ((if uHd V c f S x = 0 then uLos c else 0) = 0 ↔ decide (S (4 + x) = 9 + f) = false) := by
    intro x x0 x1
    have b := uHd_b hV hf hS x0 x1
    rw [decide_eq_true_iff, decide_eq_false_iff_not]
    refine ⟨⟨b.1, ?_⟩, b.2.2.1, ?_⟩
    · split <;> omega
    · rw [← b.2.2.1]
      split <;> omega
  unfold uYN uAt
  by_cases e0 : t / 256 = 0
  · rw [if_pos e0, if_pos e0]
    exact has _ (by omega) (by omega)
  rw [if_neg e0, if_neg e0]
  by_cases e4 : t / 256 = 4 ∧ t / 16 % 16 = f
  · have w1 : ¬ t / 256 = 1 := by omega
    have w2 : ¬ t / 256 = 2 := by omega
    have w3 : ¬ t / 256 = 3 := by omega
    have hb := t5 e4.1
    rw [if_pos e4, if_neg w1, if_neg w2, if_neg w3, e4.2]
    exact has _ (by omega) hb.2
  rw [if_neg e4]
  by_cases e1 : t / 256 = 1
  · rw [if_pos e1, if_pos e1]
    have hb := t2 e1
    have ha0 : 0 ≤ t / 16 % 16 := by omega
    generalize t / 16 % 16 = a at *
    rw [decide_eq_decide.mpr (show S f = a + 1 ↔ S f - 1 = a by omega)]
    refine uZq (fun g => ?_) (fun _ => by omega)
    have := hV.1 (S f - 1) a (by omega) (by omega) ha0 hb
    omega
  rw [if_neg e1, if_neg e1]
  by_cases e2 : t / 256 = 2
  · rw [if_pos e2, if_pos e2]
    have := hT (t / 16 % 16)
    exact uZq (fun _ => by omega) (fun _ => by decide)
  rw [if_neg e2, if_neg e2]
  by_cases e3 : t / 256 = 3
  · rw [if_pos e3, if_pos e3]
    have hb := t4 e3
    have ha : 0 ≤ t / 16 % 16 ∧ 0 ≤ t % 16 := by omega
    generalize t / 16 % 16 = a at *
    generalize t % 16 = b at *
    have b1 := uHd_b hV hf hS ha.1 hb.1
    have v1 := (hV.1 (uSr V f S a) b (by omega) (by omega) ha.2 hb.2).1
    have w1 := uHd_c hV hf hS ha.1 hb.1
    refine uZq (fun g => ?_) (fun g => ?_)
    · unfold uLi
      have hv : 0 ≤ V (S f - 1) (S (S (4 + a) - 9) - 1) ∨ ¬ (1 ≤ S (S (4 + a) - 9) ∧ S (S (4 + a) - 9) ≤ 7) := by
        by_cases q : 1 ≤ S (S (4 + a) - 9) ∧ S (S (4 + a) - 9) ≤ 7
        · exact Or.inl (hV.1 (S f - 1) _ (by omega) (by omega) (by omega) (by omega)).1.1
        · exact Or.inr q
      split <;> omega
    · omega
  rw [if_neg e3, if_neg e3]
  have e5 : t / 256 = 4 := by omega
  have hb := t5 e5
  have ha : 0 ≤ t / 16 % 16 ∧ 0 ≤ t % 16 := by omega
  generalize t / 16 % 16 = a at *
  generalize t % 16 = x at *
  have b1 := uHd_b hV hf hS ha.2 hb.2
  have := hT a
  have way' : 0 ≤ (if 1 ≤ S a ∧ S a ≤ 7 then V (uSr V f S x) (S a - 1) else 100000) := by
    split
    · have := (hV.1 (uSr V f S x) (S a - 1) (by omega) (by omega) (by omega) (by omega)).1
      omega
    · omega
  refine uZq (fun g => ?_) (fun g => by omega)
  unfold uOw
  omega
theorem uF2_bn {α β : Type} {R : α → β → Prop} {d : α} {e : β} : ∀ {r : List α} {s : List β}, uF2 R r s → ¬ s = [] → R (uBot d r) (uBot e s)
  | [], [], _, h => absurd rfl h
  | [_], [_], h, _ => h.1
  | x :: x' :: r, y :: y' :: s, h, _ => by
    rw [uBot_c, uBot_c]
    exact uF2_bn h.2 (fun e => by cases e)
  | [_], _ :: _ :: _, h, _ => h.2.elim
  | _ :: _ :: _, [_], h, _ => h.2.elim
  | [], _ :: _, h, _ => h.elim
  | _ :: _, [], h, _ => h.elim
def uRz (x : Int × Int) (y : Bool) : Prop := (0 ≤ x.1 ∧ 0 ≤ x.2) ∧ (x.1 = 0 ↔ y = true) ∧ (x.2 = 0 ↔ y = false)
def uTks (ts : List Int) : Prop := ∀ t, t ∈ ts → uTk t
theorem uH_z (hV : uVo dr V c) (hf : 1 ≤ f ∧ f ≤ 3) (hS : uOk f S) (ht : uTks ts) (hne : ¬ uRun (uAt f S) (fun x => !x) (fun x y => x && y) (fun x y => x || y) ts [] = []) : 0 ≤ uH V c wp f ts S ∧ (uH V c wp f ts S = 0 ↔ uHold f ts S = true) := by
  have h := uRun_rel (R := uRz) (A1 := uYN V c wp f S) (n1 := uPn) (a1 := uPa) (o1 := uPo) (A2 := uAt f S) (n2 := fun x => !x) (a2 := fun x y => x && y) (o2 := fun x y => x || y) (fun x y h => ⟨⟨h.1.2, h.1.1⟩, by
      show x.2 = 0 ↔ _
      rw [h.2.2]
      simp, by
      show x.1 = 0 ↔ _
      rw [h.2.1]
      simp⟩) (fun x y x' y' h h' => by
      obtain ⟨⟨p1, p2⟩, p3, p4⟩ := h
      obtain ⟨⟨q1, q2⟩, q3, q4⟩ := h'
      unfold uRz uPa uMax uMin
      simp only []
      cases y <;> cases y' <;> simp at p3 p4 q3 q4 ⊢ <;> (split <;> split <;> omega)) (fun x y x' y' h h' => by
      obtain ⟨⟨p1, p2⟩, p3, p4⟩ := h
      obtain ⟨⟨q1, q2⟩, q3, q4⟩ := h'
      unfold uRz uPo uMax uMin
      simp only []
      cases y <;> cases y' <;> simp at p3 p4 q3 q4 ⊢ <;> (split <;> split <;> omega)) ts (fun t h h5 => uYN_z hV hf hS (ht t h) h5) [] [] trivial
  have hb : uRz (uBot (0, 0) (uRun (uYN V c wp f S) uPn uPa uPo ts [])) (uBot false (uRun (uAt f S) (fun x => !x) (fun x y => x && y) (fun x y => x || y) ts [])) := by
    exact uF2_bn h hne
  exact ⟨hb.1.1, hb.2.1⟩
def uRc (ck : Int) (x y : Int × Int) : Prop := uCt x.1 ≤ ck + uCt y.1 ∧ uCt x.2 ≤ ck + uCt y.2
theorem uH_cn (hV : uVo dr V c) (hf : 1 ≤ f ∧ f ≤ 3) (hS : uOk f S) (ht : uTks ts) (hP : uStp V c wp f ck S S') : uCt (uH V c wp f ts S) ≤ ck + uCt (uH V c wp f ts S') := by
  have hk := hP.1
  have h := uRun_rel (R := uRc ck) (A1 := uYN V c wp f S) (n1 := uPn) (a1 := uPa) (o1 := uPo) (A2 := uYN V c wp f S') (n2 := uPn) (a2 := uPa) (o2 := uPo) (fun x y h => ⟨h.2, h.1⟩) (fun x y x' y' h h' => by
      obtain ⟨p1, p2⟩ := h
      obtain ⟨q1, q2⟩ := h'
      unfold uRc uPa
      unfold uCt uMax uMin at *
      simp only []
      constructor
      · split at p1 <;> split at p1 <;> split at q1 <;> split at q1 <;> (repeat' split) <;> omega
      · split at p2 <;> split at p2 <;> split at q2 <;> split at q2 <;> (repeat' split) <;> omega) (fun x y x' y' h h' => by
      obtain ⟨p1, p2⟩ := h
      obtain ⟨q1, q2⟩ := h'
      unfold uRc uPo
      unfold uCt uMax uMin at *
      simp only []
      constructor
      · split at p1 <;> split at p1 <;> split at q1 <;> split at q1 <;> (repeat' split) <;> omega
      · split at p2 <;> split at p2 <;> split at q2 <;> split at q2 <;> (repeat' split) <;> omega) ts (fun t h h5 => uYN_cn hV hf hS hP (ht t h) h5) [] [] trivial
  exact (uF2_bot (d := ((0 : Int), (0 : Int))) (e := ((0 : Int), (0 : Int))) (R := uRc ck) ⟨by omega, by omega⟩ h).1
/-- a row that brings it costs no less than the least -/
theorem uH_le (hV : uVo dr V c) (hf : 1 ≤ f ∧ f ≤ 3) (ht : uTks ts) (hne : ∀ S, ¬ uRun (uAt f S) (fun x => !x) (fun x y => x && y) (fun x y => x || y) ts [] = []) (hcp : ∀ i, 1 ≤ i → i ≤ 5 → c i ≤ 8 * pr i + 1) : ∀ n S, uOk f S → ∀ p, uOpt dr wp pr f ts n S = some p → uCt (uH V c wp f ts S) ≤ p.1 := by
  have hK : ∀ k : Nat, k < 41 → 1 ≤ uK (k : Int) ∧ uK (k : Int) ≤ 5 := by
    intro k hk
    unfold uK
    omega
  refine uOpt_all (Q := fun _ S => uOk f S) (P := fun _ S p => uCt (uH V c wp f ts S) ≤ p.1) (fun n S k hS hk hc => uOk_app hf hS (by omega) hc) (fun n S k hS hk hc hh => ?_) (fun n S k p hS hk hc hh h => ?_)
  · have h1 := uH_cn hV hf hS ht (uStp_ok hV hf hS (by omega) hc)
    have h2 := (uH_z (wp := wp) hV hf (uOk_app hf hS (by omega) hc) ht (hne _)).2.mpr hh
    rw [h2] at h1
    have h3 := hcp _ (hK k hk).1 (hK k hk).2
    have h0 : uCt 0 = 0 := rfl
    show _ ≤ uCs pr k
    unfold uCs
    omega
  · have h1 := uH_cn hV hf hS ht (uStp_ok hV hf hS (by omega) hc)
    have h3 := hcp _ (hK k hk).1 (hK k hk).2
    show _ ≤ uCs pr k + p.1
    unfold uCs
    omega
theorem uH_ln (hV : uVo dr V c) (hf : 1 ≤ f ∧ f ≤ 3) (ht : uTks ts) (hne : ∀ S, ¬ uRun (uAt f S) (fun x => !x) (fun x y => x && y) (fun x y => x || y) ts [] = []) (hc1 : ∀ i, 1 ≤ i → i ≤ 5 → c i = 1) : ∀ n S, uOk f S → ∀ p, uOpt dr wp pr f ts n S = some p → uCt (uH V c wp f ts S) ≤ (p.2.length : Int) := by
  have hK : ∀ k : Nat, k < 41 → 1 ≤ uK (k : Int) ∧ uK (k : Int) ≤ 5 := by
    intro k hk
    unfold uK
    omega
  refine uOpt_all (Q := fun _ S => uOk f S) (P := fun _ S p => uCt (uH V c wp f ts S) ≤ (p.2.length : Int)) (fun n S k hS hk hc => uOk_app hf hS (by omega) hc) (fun n S k hS hk hc hh => ?_) (fun n S k p hS hk hc hh h => ?_)
  · have h1 := uH_cn hV hf hS ht (uStp_ok hV hf hS (by omega) hc)
    have h2 := (uH_z (wp := wp) hV hf (uOk_app hf hS (by omega) hc) ht (hne _)).2.mpr hh
    rw [h2] at h1
    have h3 := hc1 _ (hK k hk).1 (hK k hk).2
    have h0 : uCt 0 = 0 := rfl
    show _ ≤ ((1 : Nat) : Int)
    omega
  · have h1 := uH_cn hV hf hS ht (uStp_ok hV hf hS (by omega) hc)
    have h3 := hc1 _ (hK k hk).1 (hK k hk).2
    show _ ≤ ((p.2.length + 1 : Nat) : Int)
    omega
end
