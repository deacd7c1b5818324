/-! only slots 0 to 8 count; what it costs at least is bounded -/
section
def uQ (S S' : Int → Int) : Prop := ∀ j, 0 ≤ j → j < 9 → S j = S' j
variable {dr wp c pr : Int → Int} {V : Int → Int → Int} {f : Int} {S S' : Int → Int} {k : Int} {ts : List Int}
theorem uQ_mt (h : uQ S S') (hf : 1 ≤ f ∧ f ≤ 3) {q : Int} (q0 : 0 ≤ q) (q1 : q < 4) : uMt V f S q = uMt V f S' q := by
  unfold uMt
  rw [h q q0 (by omega), h f (by omega) (by omega)]
theorem uQ_hd (h : uQ S S') (hf : 1 ≤ f ∧ f ≤ 3) {x : Int} (x0 : 0 ≤ x) (x1 : x < 5) : uHd V c f S x = uHd V c f S' x ∧ uSr V f S x = uSr V f S' x := by
  have e := h (4 + x) (by omega) (by omega)
  have ef := h f (by omega) (by omega)
  unfold uHd uSr
  rw [e, ef]
  by_cases g : 9 ≤ S' (4 + x) ∧ S' (4 + x) < 13
  · rw [uQ_mt (V := V) h hf (q := S' (4 + x) - 9) (by omega) (by omega), h (S' (4 + x) - 9) (by omega) (by omega)]
    exact ⟨rfl, rfl⟩
  · have g1 : ∀ z : Int, ¬ (9 ≤ S' (4 + x) ∧ S' (4 + x) < 13 ∧ z < 100000) := fun z e => g ⟨e.1, e.2.1⟩
    rw [if_neg (g1 _), if_neg (g1 _), if_neg (g1 _), if_neg (g1 _)]
    exact ⟨rfl, rfl⟩
theorem uA1_c {H H' : Int → Int} {t x : Int} (h : H x = H' x) : uA1 H wp t x = uA1 H' wp t x := by
  unfold uA1
  rw [h]
theorem uQ_ht (h : uQ S S') (hf : 1 ≤ f ∧ f ≤ 3) {q : Int} (q0 : 0 ≤ q) (q1 : q < 4) : uHt V c wp f S q = uHt V c wp f S' q := by
  have ea : uAm (uHd V c f S) wp = uAm (uHd V c f S') wp := by
    have e : ∀ x, 0 ≤ x → x < 5 → uHd V c f S x = uHd V c f S' x := fun x x0 x1 => (uQ_hd h hf x0 x1).1
    unfold uAm
    rw [uA1_c (e 0 (by decide) (by decide)), uA1_c (e 1 (by decide) (by decide)), uA1_c (e 2 (by decide) (by decide)), uA1_c (e 3 (by decide) (by decide)), uA1_c (e 4 (by decide) (by decide))]
  unfold uHt
  rw [ea, uQ_mt h hf q0 q1]
theorem uQ_yn (h : uQ S S') (hf : 1 ≤ f ∧ f ≤ 3) {t : Int} (ht : uTk t) (h5 : t / 256 < 5) : uYN V c wp f S t = uYN V c wp f S' t := by
  obtain ⟨t0, t1, t2, t3, t4, t5⟩ := ht
  have ef := h f (by omega) (by omega)
  unfold uYN
  by_cases e0 : t / 256 = 0
  · rw [if_pos e0, if_pos e0, (uQ_hd (V := V) (c := c) h hf (x := t / 16 % 16) (by omega) (by omega)).1]
  rw [if_neg e0, if_neg e0]
  by_cases e4 : t / 256 = 4 ∧ t / 16 % 16 = f
  · rw [if_pos e4, if_pos e4, (uQ_hd (V := V) (c := c) h hf (x := t % 16) (by omega) (by omega)).1]
  rw [if_neg e4, if_neg e4]
  by_cases e1 : t / 256 = 1
  · rw [if_pos e1, if_pos e1, ef]
  rw [if_neg e1, if_neg e1]
  by_cases e2 : t / 256 = 2
  · rw [if_pos e2, if_pos e2, h (t / 16 % 16) (by omega) (by omega), uQ_ht h hf (by omega) (by omega)]
  rw [if_neg e2, if_neg e2]
  by_cases e3 : t / 256 = 3
  · rw [if_pos e3, if_pos e3]
    have g := uQ_hd (V := V) (c := c) h hf (x := t / 16 % 16) (by omega) (by omega)
    unfold uLi
    rw [h (4 + t / 16 % 16) (by omega) (by omega), g.1, g.2]
  rw [if_neg e3, if_neg e3]
  have g := uQ_hd (V := V) (c := c) h hf (x := t % 16) (by omega) (by omega)
  unfold uOw
  rw [h (4 + t % 16) (by omega) (by omega), h (t / 16 % 16) (by omega) (by omega), g.1, g.2, uQ_ht h hf (by omega) (by omega)]
theorem uQ_at (h : uQ S S') (hf : 1 ≤ f ∧ f ≤ 3) {t : Int} (ht : uTk t) (h5 : t / 256 < 5) : uAt f S t = uAt f S' t := by
  obtain ⟨t0, t1, t2, t3, t4, t5⟩ := ht
  unfold uAt
  by_cases e0 : t / 256 = 0
  · rw [if_pos e0, if_pos e0, h (4 + t / 16 % 16) (by omega) (by omega)]
  rw [if_neg e0, if_neg e0]
  by_cases e1 : t / 256 = 1
  · rw [if_pos e1, if_pos e1, h f (by omega) (by omega)]
  rw [if_neg e1, if_neg e1]
  by_cases e2 : t / 256 = 2
  · rw [if_pos e2, if_pos e2, h (t / 16 % 16) (by omega) (by omega)]
  rw [if_neg e2, if_neg e2]
  by_cases e3 : t / 256 = 3
  · rw [if_pos e3, if_pos e3, h (4 + t / 16 % 16) (by omega) (by omega)]
  rw [if_neg e3, if_neg e3, h (4 + t % 16) (by omega) (by omega)]
theorem uF2_eq {α : Type} : ∀ {r s : List α}, uF2 (fun x y => x = y) r s → r = s
  | [], [], _ => rfl
  | x :: r, y :: s, h => by rw [h.1, uF2_eq h.2]
  | [], _ :: _, h => h.elim
  | _ :: _, [], h => h.elim
theorem uRun_c {α : Type} {A B : Int → α} {nt : α → α} {an ro : α → α → α} (h : ∀ t, t ∈ ts → t / 256 < 5 → A t = B t) : uRun A nt an ro ts [] = uRun B nt an ro ts [] :=
  uF2_eq (uRun_rel (R := fun x y => x = y) (fun x y e => by rw [e]) (fun x y x' y' e e' => by rw [e, e']) (fun x y x' y' e e' => by rw [e, e']) ts h [] [] trivial)
theorem uQ_H (h : uQ S S') (hf : 1 ≤ f ∧ f ≤ 3) (ht : uTks ts) : uH V c wp f ts S = uH V c wp f ts S' := by
  unfold uH
  rw [uRun_c fun t h1 h5 => uQ_yn h hf (ht t h1) h5]
theorem uQ_hold (h : uQ S S') (hf : 1 ≤ f ∧ f ≤ 3) (ht : uTks ts) : uHold f ts S = uHold f ts S' := by
  unfold uHold
  rw [uRun_c fun t h1 h5 => uQ_at h hf (ht t h1) h5]
theorem uQ_can (h : uQ S S') (hf : 1 ≤ f ∧ f ≤ 3) (hk : 0 ≤ k ∧ k < 41) : uCan dr wp f S k ↔ uCan dr wp f S' k := by
  have hx : uX k = if k < 0 then -1 else if k < 7 then k else if k < 12 then k - 7 else if k < 17 then k - 12 else if k < 37 then (k - 17) / 4 else if k < 41 then k - 37 else (k - 41) / 4 := rfl
  have hy : uY k = if k < 17 then -1 else if k < 37 then (k - 17) % 4 else if k < 41 then -1 else (k - 41) % 4 := rfl
  have ef := h f (by omega) (by omega)
  unfold uCan uArm
  rw [ef, h 4 (by decide) (by decide), h 5 (by decide) (by decide), h 6 (by decide) (by decide), h 7 (by decide) (by decide), h 8 (by decide) (by decide)]
  by_cases k7 : k < 7
  · rw [if_pos k7, if_pos k7]
  rw [if_neg k7, if_neg k7]
  by_cases k12 : k < 12
  · rw [if_pos k12, if_pos k12, h (4 + uX k) (by omega) (by omega)]
  rw [if_neg k12, if_neg k12]
  by_cases k17 : k < 17
  · rw [if_pos k17, if_pos k17, h (4 + uX k) (by omega) (by omega)]
  rw [if_neg k17, if_neg k17]
  by_cases k37 : k < 37
  · rw [if_pos k37, if_pos k37, h (4 + uX k) (by omega) (by omega), h (uY k) (by omega) (by omega)]
  rw [if_neg k37, if_neg k37, h (uX k) (by omega) (by omega)]
theorem uQ_app (h : uQ S S') (hf : 0 ≤ f ∧ f ≤ 3) : uQ (uApp f S k) (uApp f S' k) := by
  intro j j0 j1
  have ef := h f (by omega) (by omega)
  have ej := h j j0 j1
  unfold uApp uP
  rw [ef]
  split
  · exact ej
  split
  · show (if _ then _ else _) = (if _ then _ else _)
    rw [ej]
  split
  · show (if _ then _ else _) = (if _ then _ else _)
    rw [ej]
  split
  · show (if _ then _ else _) = (if _ then _ else _)
    rw [ej]
  split
  · show (if _ then _ else _) = (if _ then _ else _)
    rw [ej]
  split
  · show (if _ then _ else _) = (if _ then _ else _)
    rw [ej]
  · exact ej
theorem uFo_c {g g' : Int → uR} (N : Nat) (h : ∀ k : Nat, k < N → g k = g' k) : uFo g N = uFo g' N := by
  induction N with
  | zero => rfl
  | succ n ih =>
    unfold uFo
    rw [ih fun k hk => h k (by omega), h n (by omega)]
theorem uQ_opt (hf : 1 ≤ f ∧ f ≤ 3) (ht : uTks ts) : ∀ (n : Nat) (S S' : Int → Int), uQ S S' → uOpt dr wp pr f ts n S = uOpt dr wp pr f ts n S' := by
  intro n
  induction n with
  | zero => exact fun _ _ _ => rfl
  | succ n ih =>
    intro S S' h
    rw [uOpt_s, uOpt_s]
    refine uFo_c 41 fun k hk => ?_
    unfold uOne
    have hc := uQ_can (dr := dr) (wp := wp) h hf (k := (k : Int)) ⟨by omega, by omega⟩
    have ha := uQ_app (k := (k : Int)) h (f := f) ⟨by omega, by omega⟩
    by_cases c : uCan dr wp f S k
    · rw [uIf_t c, uIf_t (hc.mp c), uQ_hold ha hf ht, ih _ _ ha]
    · rw [uIf_f c, uIf_f (fun e => c (hc.mpr e))]
theorem uYN_b (hV : uVo dr V c) (hf : 1 ≤ f ∧ f ≤ 3) (hS : uOk f S) {t : Int} (ht : uTk t) (h5 : t / 256 < 5) : (uYN V c wp f S t).1 ≤ 400000 ∧ (uYN V c wp f S t).2 ≤ 400000 := by
  obtain ⟨t0, t1, t2, t3, t4, t5⟩ := ht
  have hS1 := hS.1
  have c1 := hV.2.2 1 (by decide) (by decide)
  have c2 := hV.2.2 2 (by decide) (by decide)
  have c3 := hV.2.2 3 (by decide) (by decide)
  have c4 := hV.2.2 4 (by decide) (by decide)
  have c5 := hV.2.2 5 (by decide) (by decide)
  have hLo : uLos c ≤ 73 := by
    unfold uLos uMin
    split <;> omega
  have hLa : uLay c ≤ 146 := by
    unfold uLay uMin
    split <;> omega
  have hT : ∀ q, 0 ≤ q → q < 4 → uHt V c wp f S q ≤ 200000 := by
    intro q q0 q1
    unfold uHt
    split
    · decide
    · have h1 := (uAm_le (H := uHd V c f S) (wp := wp)).1
      have h4 : uMt V f S q ≤ 100000 := by
        unfold uMt
        split
        · have := (hV.1 (S f - 1) (S q - 1) (by omega) (by omega) (by omega) (by omega)).1
          omega
        · omega
      unfold uMax
      split <;> omega
  have hH : ∀ x, 0 ≤ x → x < 5 → uHd V c f S x ≤ 100000 ∧ 0 ≤ uSr V f S x ∧ uSr V f S x < 7 := fun x x0 x1 => by
    have := uHd_b hV hf hS x0 x1
    omega
  unfold uYN
  by_cases e0 : t / 256 = 0
  · rw [if_pos e0]
    have := hH (t / 16 % 16) (by omega) (by omega)
    refine ⟨by show uHd V c f S _ ≤ _; omega, ?_⟩
    show (if _ then _ else _) ≤ _
    split <;> omega
  rw [if_neg e0]
  by_cases e4 : t / 256 = 4 ∧ t / 16 % 16 = f
  · rw [if_pos e4]
    have := hH (t % 16) (by omega) (by omega)
    refine ⟨by show uHd V c f S _ ≤ _; omega, ?_⟩
    show (if _ then _ else _) ≤ _
    split <;> omega
  rw [if_neg e4]
  by_cases e1 : t / 256 = 1
  · rw [if_pos e1]
    have := (hV.1 (S f - 1) (t / 16 % 16) (by omega) (by omega) (by omega) (by omega)).1
    constructor
    · show (if _ then _ else _) ≤ _
      split <;> omega
    · show (if _ then _ else _) ≤ _
      split <;> omega
  rw [if_neg e1]
  by_cases e2 : t / 256 = 2
  · rw [if_pos e2]
    have := hT (t / 16 % 16) (by omega) (by omega)
    constructor
    · show (if _ then _ else _) ≤ _
      split <;> omega
    · show (if _ then _ else _) ≤ _
      split <;> omega
  rw [if_neg e2]
  by_cases e3 : t / 256 = 3
  · rw [if_pos e3]
    have g := hH (t / 16 % 16) (by omega) (by omega)
    have v := (hV.1 (uSr V f S (t / 16 % 16)) (t % 16) (by omega) (by omega) (by omega) (by omega)).1
    constructor
    · show (if S (4 + t / 16 % 16) = t % 16 + 1 then 0 else uLi V c f S (t / 16 % 16) (t % 16)) ≤ _
      have hli : uLi V c f S (t / 16 % 16) (t % 16) ≤ 400000 := by
        unfold uLi
        split <;> omega
      split <;> omega
    · show (if _ then _ else _) ≤ _
      split <;> omega
  rw [if_neg e3]
  have g := hH (t % 16) (by omega) (by omega)
  have h := hT (t / 16 % 16) (by omega) (by omega)
  have way : (if 1 ≤ S (t / 16 % 16) ∧ S (t / 16 % 16) ≤ 7 then V (uSr V f S (t % 16)) (S (t / 16 % 16) - 1) else 100000) ≤ 100000 := by
    split
    · have := (hV.1 (uSr V f S (t % 16)) (S (t / 16 % 16) - 1) (by omega) (by omega) (by omega) (by omega)).1
      omega
    · omega
  constructor
  · show (if S (4 + t % 16) = 9 + t / 16 % 16 then 0 else uOw V c f S (t / 16 % 16) (t % 16)) ≤ _
    have how : uOw V c f S (t / 16 % 16) (t % 16) ≤ 400000 := by
      unfold uOw
      omega
    split <;> omega
  · show (if _ then _ else _) ≤ _
    split <;> omega
theorem uH_b (hV : uVo dr V c) (hf : 1 ≤ f ∧ f ≤ 3) (hS : uOk f S) (ht : uTks ts) : uH V c wp f ts S ≤ 400000 := by
  have h := uRun_rel (R := fun (x : Int × Int) (_ : Int × Int) => x.1 ≤ 400000 ∧ x.2 ≤ 400000) (A1 := uYN V c wp f S) (n1 := uPn) (a1 := uPa) (o1 := uPo) (A2 := uYN V c wp f S) (n2 := uPn) (a2 := uPa) (o2 := uPo) (fun x y h => ⟨h.2, h.1⟩) (fun x y x' y' h h' => by
      unfold uPa uMax uMin
      constructor
      · show (if _ then _ else _) ≤ _
        split <;> omega
      · show (if _ then _ else _) ≤ _
        split <;> omega) (fun x y x' y' h h' => by
      unfold uPo uMax uMin
      constructor
      · show (if _ then _ else _) ≤ _
        split <;> omega
      · show (if _ then _ else _) ≤ _
        split <;> omega) ts (fun t h h5 => uYN_b hV hf hS (ht t h) h5) [] [] trivial
  exact (uF2_bot (d := ((0 : Int), (0 : Int))) (e := ((0 : Int), (0 : Int))) (R := fun (x : Int × Int) (_ : Int × Int) => x.1 ≤ 400000 ∧ x.2 ≤ 400000) ⟨by decide, by decide⟩ h).1
end
