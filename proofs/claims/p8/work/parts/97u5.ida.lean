section
/-! the class's search finds the best row -/
section
variable {dr wp c u pr : Int → Int} {V U : Int → Int → Int} {f : Int} {S : Int → Int} {k : Int} {ts : List Int} {n : Nat}
/-- deeds of nine bits each, the first lowest -/
def uRw : List Int → Nat
  | [] => 0
  | k :: r => (uD k).toNat + 512 * uRw r
theorem uD_b (k : Int) (h : k < 61) : 0 ≤ uD k ∧ uD k < 448 := by
  unfold uD uK uX uY
  split
  · omega
  · omega
theorem uRw_s (l : List Int) (k : Int) : uRw (l ++ [k]) = uRw l + (uD k).toNat * 512 ^ l.length := by
  induction l with
  | nil =>
    show (uD k).toNat + 512 * 0 = 0 + _ * 1
    omega
  | cons x r ih =>
    show (uD x).toNat + 512 * uRw (r ++ [k]) = (uD x).toNat + 512 * uRw r + _ * 512 ^ (r.length + 1)
    rw [ih, Nat.mul_add, Nat.pow_succ, ← Nat.mul_assoc, Nat.add_assoc]
    congr 2
    rw [Nat.mul_comm, Nat.mul_comm _ 512, ← Nat.mul_assoc, Nat.mul_comm 512, Nat.mul_comm]
theorem uRw_b (l : List Int) (h : ∀ k, k ∈ l → k < 61) : uRw l < 512 ^ l.length := by
  induction l with
  | nil => decide
  | cons x r ih =>
    have h1 := ih fun k hk => h k (List.mem_cons_of_mem _ hk)
    have h2 := uD_b x (h x List.mem_cons_self)
    show (uD x).toNat + 512 * uRw r < 512 ^ (r.length + 1)
    rw [Nat.pow_succ]
    omega
/-- a plan: deeds, above them the cost -/
def uPl (l : List Int) (z : Int) : Int64 := ⟨⟨BitVec.ofNat 64 (uRw l + z.toNat * 2 ^ 36)⟩⟩
theorem uPl_N {l : List Int} {z : Int} (h : ∀ k, k ∈ l → k < 61) (hl : l.length ≤ 4) (h0 : 0 ≤ z) (h1 : z < 1000) : uN (uPl l z) = uRw l + z.toNat * 2 ^ 36 := by
  have hb := uRw_b l h
  have h4 : 512 ^ l.length ≤ 512 ^ 4 := Nat.pow_le_pow_right (by decide) hl
  have e4 : 512 ^ 4 = 2 ^ 36 := by decide
  show (BitVec.ofNat 64 (uRw l + z.toNat * 2 ^ 36)).toNat = _
  rw [BitVec.toNat_ofNat]
  omega
/-- what is better of what was found and what is found -/
def uMg (sp : Int) (row : List Int) (B : Int × Int64) (x : uR) : Int × Int64 := match x with
  | none => B
  | some p => if sp + p.1 < B.1 then (sp + p.1, uPl (row ++ p.2) (sp + p.1)) else B
variable {sp : Int} {row : List Int} {B : Int × Int64} {a x : uR}
theorem uMg_bet : uMg sp row (uMg sp row B a) x = uMg sp row B (uBet a x) := by
  cases x with
  | none => rfl
  | some p =>
    cases a with
    | none => rfl
    | some q =>
      show (if sp + p.1 < (if sp + q.1 < B.1 then _ else B).1 then _ else (if sp + q.1 < B.1 then _ else B)) = uMg sp row B (if p.1 < q.1 then some p else some q)
      by_cases h1 : sp + q.1 < B.1
      · rw [if_pos h1]
        by_cases h2 : p.1 < q.1
        · rw [if_pos h2]
          show (if sp + p.1 < sp + q.1 then _ else _) = if sp + p.1 < B.1 then _ else _
          rw [if_pos (by omega), if_pos (by omega)]
        · rw [if_neg h2]
          show (if sp + p.1 < sp + q.1 then _ else _) = if sp + q.1 < B.1 then _ else _
          rw [if_neg (by omega), if_pos h1]
      · rw [if_neg h1]
        by_cases h2 : p.1 < q.1
        · rw [if_pos h2]
          rfl
        · rw [if_neg h2]
          show _ = if sp + q.1 < B.1 then _ else _
          rw [if_neg (by omega), if_neg h1]
theorem uMg_sh {z : Int} : uMg sp row B (uSh z k x) = uMg (sp + z) (row ++ [k]) B x := by
  cases x with
  | none => rfl
  | some p =>
    show (if sp + (z + p.1) < B.1 then (sp + (z + p.1), uPl (row ++ k :: p.2) (sp + (z + p.1))) else B) = if sp + z + p.1 < B.1 then (sp + z + p.1, uPl (row ++ [k] ++ p.2) (sp + z + p.1)) else B
    rw [show sp + (z + p.1) = sp + z + p.1 by omega, List.append_assoc]
    rfl
/-- what the search stands on -/
def uSe (dr wp c u pr : Int → Int) (V U : Int → Int → Int) (f : Int) (ts : List Int) : Prop := uVo dr V c ∧ uVo dr U u ∧ (1 ≤ f ∧ f ≤ 3) ∧ uTks ts ∧ (∀ S, ¬ uRun (uAt f S) (fun x => !x) (fun x y => x && y) (fun x y => x || y) ts [] = []) ∧ (∀ i, 1 ≤ i → i ≤ 5 → c i = 8 * pr i + 1) ∧ (∀ i, 1 ≤ i → i ≤ 5 → u i = 1) ∧ ∀ i, 1 ≤ i → i ≤ 5 → 1 ≤ pr i ∧ pr i ≤ 9
theorem uCs_b (hE : uSe dr wp c u pr V U f ts) (hk : 0 ≤ k ∧ k < 41) : 9 ≤ uCs pr k ∧ uCs pr k ≤ 73 := by
  have hK : 1 ≤ uK k ∧ uK k ≤ 5 := by
    unfold uK
    omega
  have := hE.2.2.2.2.2.2.2 _ hK.1 hK.2
  unfold uCs
  omega
theorem uOpt_b (hE : uSe dr wp c u pr V U f ts) {p : Int × List Int} (e : uOpt dr wp pr f ts n S = some p) (hn : n ≤ 4) : 0 ≤ p.1 ∧ p.1 ≤ 292 ∧ p.2.length ≤ n ∧ 1 ≤ p.2.length ∧ p.1 % 8 = (p.2.length : Int) ∧ ∀ k, k ∈ p.2 → 0 ≤ k ∧ k < 41 := by
  obtain ⟨h1, h2, ⟨z, h3, h4, h5⟩, h6⟩ := uOpt_len hE.2.2.2.2.2.2.2 n S p e
  refine ⟨by omega, by omega, h2, h1, by omega, h6⟩
theorem uMg_n (hk : ¬ uCan dr wp f S k) : uMg sp row B (uOne dr wp pr f ts n S k) = B := by
  unfold uOne
  rw [uIf_f hk]
  rfl
theorem uMg_c (hE : uSe dr wp c u pr V U f ts) (hn : n ≤ 4) (h : B.1 ≤ sp + uCs pr k) : uMg sp row B (uOne dr wp pr f ts n S k) = B := by
  unfold uOne
  by_cases hc : uCan dr wp f S k
  · rw [uIf_t hc]
    cases hh : uHold f ts (uApp f S k) with
    | true =>
      show (if sp + uCs pr k < B.1 then _ else B) = B
      rw [if_neg (by omega)]
    | false =>
      show uMg sp row B (uSh _ _ _) = B
      rw [uMg_sh]
      cases ho : uOpt dr wp pr f ts n (uApp f S k) with
      | none => rfl
      | some p =>
        have := uOpt_b hE ho hn
        show (if sp + uCs pr k + p.1 < B.1 then _ else B) = B
        rw [if_neg (by omega)]
  · rw [uIf_f hc]
    rfl
theorem uMg_h (hc : uCan dr wp f S k) (hh : uHold f ts (uApp f S k) = true) (h : sp + uCs pr k < B.1) : uMg sp row B (uOne dr wp pr f ts n S k) = (sp + uCs pr k, uPl (row ++ [k]) (sp + uCs pr k)) := by
  unfold uOne
  rw [uIf_t hc, hh]
  show (if sp + uCs pr k < B.1 then _ else B) = _
  rw [if_pos h]
theorem uMg_u (hE : uSe dr wp c u pr V U f ts) (hS : uOk f S) (hk : 0 ≤ k ∧ k < 41) (hn : n ≤ 4) (hc : uCan dr wp f S k) (hh : uHold f ts (uApp f S k) = false) (h : (n : Int) + 1 ≤ uH U u wp f ts (uApp f S k)) : uMg sp row B (uOne dr wp pr f ts n S k) = B := by
  unfold uOne
  rw [uIf_t hc, hh]
  cases ho : uOpt dr wp pr f ts n (uApp f S k) with
  | none => rfl
  | some p =>
    exfalso
    have h1 := uH_ln hE.2.1 hE.2.2.1 hE.2.2.2.1 hE.2.2.2.2.1 hE.2.2.2.2.2.2.1 n _ (uOk_app hE.2.2.1 hS hk hc) p ho
    have h2 := uOpt_b hE ho hn
    unfold uCt uMin at h1
    split at h1 <;> omega
theorem uMg_p (hE : uSe dr wp c u pr V U f ts) (hS : uOk f S) (hk : 0 ≤ k ∧ k < 41) (hn : n ≤ 4) (hc : uCan dr wp f S k) (hh : uHold f ts (uApp f S k) = false) (h : B.1 ≤ sp + uCs pr k + uH V c wp f ts (uApp f S k)) : uMg sp row B (uOne dr wp pr f ts n S k) = B := by
  unfold uOne
  rw [uIf_t hc, hh]
  show uMg sp row B (uSh _ _ _) = B
  rw [uMg_sh]
  cases ho : uOpt dr wp pr f ts n (uApp f S k) with
  | none => rfl
  | some p =>
    have h1 := uH_le (pr := pr) hE.1 hE.2.2.1 hE.2.2.2.1 hE.2.2.2.2.1 (fun i i0 i1 => by rw [hE.2.2.2.2.2.1 i i0 i1]; exact Int.le_refl _) n _ (uOk_app hE.2.2.1 hS hk hc) p ho
    have h2 := uOpt_b hE ho hn
    show (if sp + uCs pr k + p.1 < B.1 then _ else B) = B
    rw [if_neg]
    unfold uCt uMin at h1
    split at h1 <;> omega
theorem uMg_r (hc : uCan dr wp f S k) (hh : uHold f ts (uApp f S k) = false) : uMg sp row B (uOne dr wp pr f ts n S k) = uMg (sp + uCs pr k) (row ++ [k]) B (uOpt dr wp pr f ts n (uApp f S k)) := by
  unfold uOne
  rw [uIf_t hc, hh]
  exact uMg_sh
/-- one more code -/
theorem uMg_s {m : Nat} : uMg sp row B (uFo (uOne dr wp pr f ts n S) (m + 1)) = uMg sp row (uMg sp row B (uFo (uOne dr wp pr f ts n S) m)) (uOne dr wp pr f ts n S m) := by
  rw [uMg_bet]
  rfl
/-! one deed more, and one more again -/
theorem uBet_opt (hE : uSe dr wp c u pr V U f ts) (hn : n + 1 ≤ 4) : uBet (uOpt dr wp pr f ts n S) (uOpt dr wp pr f ts (n + 1) S) = uOpt dr wp pr f ts (n + 1) S := by
  obtain ⟨j1, j2⟩ := uRl_opt (dr := dr) (wp := wp) (pr := pr) (f := f) (ts := ts) n S
  cases h1 : uOpt dr wp pr f ts (n + 1) S with
  | none =>
    cases h2 : uOpt dr wp pr f ts n S with
    | none => rfl
    | some q =>
      obtain ⟨p, e, _⟩ := j2 q h2
      rw [h1] at e
      cases e
  | some p =>
    cases h2 : uOpt dr wp pr f ts n S with
    | none => rfl
    | some q =>
      obtain ⟨p', e, g⟩ := j2 q h2
      rw [h1] at e
      cases e
      show (if p.1 < q.1 then some p else some q) = some p
      split
      · rfl
      · have b1 := uOpt_b hE h1 hn
        have b2 := uOpt_b hE h2 (by omega)
        have e1 : p.1 = q.1 := by omega
        have h3 := j1 p h1 (by rw [e1] at b1; omega)
        rw [h2] at h3
        exact h3
theorem uOpt_ch (hE : uSe dr wp c u pr V U f ts) {ch : Int} (hch : ∀ i, 1 ≤ i → i ≤ 5 → ch ≤ 8 * pr i + 1) : ∀ p, uOpt dr wp pr f ts n S = some p → ch * (p.2.length : Int) ≤ p.1 := by
  have hK : ∀ k : Nat, k < 41 → 1 ≤ uK (k : Int) ∧ uK (k : Int) ≤ 5 := by
    intro k hk
    unfold uK
    omega
  refine uOpt_all (Q := fun _ _ => True) (P := fun _ _ p => ch * (p.2.length : Int) ≤ p.1) (fun _ _ _ _ _ _ => trivial) (fun n S k _ hk hc hh => ?_) (fun n S k p _ hk hc hh h => ?_) n S trivial
  · have := hch _ (hK k hk).1 (hK k hk).2
    show ch * ((1 : Nat) : Int) ≤ uCs pr k
    unfold uCs
    omega
  · have := hch _ (hK k hk).1 (hK k hk).2
    show ch * ((p.2.length + 1 : Nat) : Int) ≤ uCs pr k + p.1
    unfold uCs
    rw [Int.natCast_add, Int.mul_add]
    omega
theorem uMg_end (hE : uSe dr wp c u pr V U f ts) {ch : Int} (hch : ∀ i, 1 ≤ i → i ≤ 5 → ch ≤ 8 * pr i + 1) (hch2 : ch ≤ 73) (hch0 : 0 ≤ ch) (hn : n ≤ 3) (hB : B.1 = 100000) (h : (uMg 0 [] B (uOpt dr wp pr f ts n S)).1 ≤ ((n : Int) + 1) * ch) : uMg 0 [] B (uOpt dr wp pr f ts n S) = uMg 0 [] B (uOpt dr wp pr f ts 4 S) := by
  obtain ⟨j1, j2⟩ := uOpt_mono (dr := dr) (wp := wp) (pr := pr) (f := f) (ts := ts) (S := S) (show n ≤ 4 by omega)
  cases h4 : uOpt dr wp pr f ts 4 S with
  | none =>
    cases h1 : uOpt dr wp pr f ts n S with
    | none => rfl
    | some q =>
      obtain ⟨p, e, _⟩ := j2 q h1
      rw [h4] at e
      cases e
  | some p =>
    have hp := uOpt_b hE h4 (by decide)
    by_cases hl : p.2.length ≤ n
    · rw [j1 p h4 hl]
    · exfalso
      have hc := uOpt_ch hE hch p h4
      have m1 : ch * ((n : Int) + 1) ≤ ch * (p.2.length : Int) := Int.mul_le_mul_of_nonneg_left (by omega) hch0
      have m2 : ch * ((n : Int) + 1) ≤ 73 * 4 := Int.mul_le_mul hch2 (by omega) (by omega) (by decide)
      rw [Int.mul_comm] at h
      cases h1 : uOpt dr wp pr f ts n S with
      | none =>
        rw [h1] at h
        have h : B.1 ≤ _ := h
        omega
      | some q =>
        have hq := uOpt_b hE h1 (by omega)
        obtain ⟨p', e, g⟩ := j2 q h1
        rw [h4] at e
        cases e
        rw [h1] at h
        have h : (if 0 + q.1 < B.1 then (0 + q.1, uPl ([] ++ q.2) (0 + q.1)) else B).1 ≤ _ := h
        rw [if_pos (by omega)] at h
        have h : 0 + q.1 ≤ _ := h
        have e1 : p.1 = q.1 := by omega
        rw [e1] at hp
        omega
end
end
section
/-! only slots 0 to 8 count; what it costs at least is bounded -/
section
def uQ (S S' : Int → Int) : Prop := ∀ j, 0 ≤ j → j < 9 → S j = S' j
variable {dr wp c pr : Int → Int} {V : Int → Int → Int} {f : Int} {S S' : Int → Int} {k : Int} {ts : List Int}
theorem uQ_mt (h : uQ S S') (hf : 1 ≤ f ∧ f ≤ 3) {q : Int} (q0 : 0 ≤ q) (q1 : q < 4) : uMt V f S q = uMt V f S' q := by
  unfold uMt
  rw [h q q0 (by omega), h f (by omega) (by omega)]
theorem uQ_hd (h : uQ S S') (hf : 1 ≤ f ∧ f ≤ 3) {x : Int} (x0 : 0 ≤ x) (x1 : x < 5) : uHd V c f S x = uHd V c f S' x ∧ uSr V f S x = uSr V f S' x := by
  have e := h (4 + x) (by omega) (by omega)
  have ef := h f (by omega) (by omega)
  unfold uHd uSr
  rw [e, ef]
  by_cases g : 9 ≤ S' (4 + x) ∧ S' (4 + x) < 13
  · rw [uQ_mt (V := V) h hf (q := S' (4 + x) - 9) (by omega) (by omega), h (S' (4 + x) - 9) (by omega) (by omega)]
    exact ⟨rfl, rfl⟩
  · have g1 : ∀ z : Int, ¬ (9 ≤ S' (4 + x) ∧ S' (4 + x) < 13 ∧ z < 100000) := fun z e => g ⟨e.1, e.2.1⟩
    rw [if_neg (g1 _), if_neg (g1 _), if_neg (g1 _), if_neg (g1 _)]
    exact ⟨rfl, rfl⟩
theorem uA1_c {H H' : Int → Int} {t x : Int} (h : H x = H' x) : uA1 H wp t x = uA1 H' wp t x := by
  unfold uA1
  rw [h]
theorem uQ_ht (h : uQ S S') (hf : 1 ≤ f ∧ f ≤ 3) {q : Int} (q0 : 0 ≤ q) (q1 : q < 4) : uHt V c wp f S q = uHt V c wp f S' q := by
  have ea : uAm (uHd V c f S) wp = uAm (uHd V c f S') wp := by
    have e : ∀ x, 0 ≤ x → x < 5 → uHd V c f S x = uHd V c f S' x := fun x x0 x1 => (uQ_hd h hf x0 x1).1
    unfold uAm
    rw [uA1_c (e 0 (by decide) (by decide)), uA1_c (e 1 (by decide) (by decide)), uA1_c (e 2 (by decide) (by decide)), uA1_c (e 3 (by decide) (by decide)), uA1_c (e 4 (by decide) (by decide))]
  unfold uHt
  rw [ea, uQ_mt h hf q0 q1]
theorem uQ_yn (h : uQ S S') (hf : 1 ≤ f ∧ f ≤ 3) {t : Int} (ht : uTk t) (h5 : t / 256 < 5) : uYN V c wp f S t = uYN V c wp f S' t := by
  obtain ⟨t0, t1, t2, t3, t4, t5⟩ := ht
  have ef := h f (by omega) (by omega)
  unfold uYN
  by_cases e0 : t / 256 = 0
  · rw [if_pos e0, if_pos e0, (uQ_hd (V := V) (c := c) h hf (x := t / 16 % 16) (by omega) (by omega)).1]
  rw [if_neg e0, if_neg e0]
  by_cases e4 : t / 256 = 4 ∧ t / 16 % 16 = f
  · rw [if_pos e4, if_pos e4, (uQ_hd (V := V) (c := c) h hf (x := t % 16) (by omega) (by omega)).1]
  rw [if_neg e4, if_neg e4]
  by_cases e1 : t / 256 = 1
  · rw [if_pos e1, if_pos e1, ef]
  rw [if_neg e1, if_neg e1]
  by_cases e2 : t / 256 = 2
  · rw [if_pos e2, if_pos e2, h (t / 16 % 16) (by omega) (by omega), uQ_ht h hf (by omega) (by omega)]
  rw [if_neg e2, if_neg e2]
  by_cases e3 : t / 256 = 3
  · rw [if_pos e3, if_pos e3]
    have g := uQ_hd (V := V) (c := c) h hf (x := t / 16 % 16) (by omega) (by omega)
    unfold uLi
    rw [h (4 + t / 16 % 16) (by omega) (by omega), g.1, g.2]
  rw [if_neg e3, if_neg e3]
  have g := uQ_hd (V := V) (c := c) h hf (x := t % 16) (by omega) (by omega)
  unfold uOw
  rw [h (4 + t % 16) (by omega) (by omega), h (t / 16 % 16) (by omega) (by omega), g.1, g.2, uQ_ht h hf (by omega) (by omega)]
theorem uQ_at (h : uQ S S') (hf : 1 ≤ f ∧ f ≤ 3) {t : Int} (ht : uTk t) (h5 : t / 256 < 5) : uAt f S t = uAt f S' t := by
  obtain ⟨t0, t1, t2, t3, t4, t5⟩ := ht
  unfold uAt
  by_cases e0 : t / 256 = 0
  · rw [if_pos e0, if_pos e0, h (4 + t / 16 % 16) (by omega) (by omega)]
  rw [if_neg e0, if_neg e0]
  by_cases e1 : t / 256 = 1
  · rw [if_pos e1, if_pos e1, h f (by omega) (by omega)]
  rw [if_neg e1, if_neg e1]
  by_cases e2 : t / 256 = 2
  · rw [if_pos e2, if_pos e2, h (t / 16 % 16) (by omega) (by omega)]
  rw [if_neg e2, if_neg e2]
  by_cases e3 : t / 256 = 3
  · rw [if_pos e3, if_pos e3, h (4 + t / 16 % 16) (by omega) (by omega)]
  rw [if_neg e3, if_neg e3, h (4 + t % 16) (by omega) (by omega)]
theorem uF2_eq {α : Type} : ∀ {r s : List α}, uF2 (fun x y => x = y) r s → r = s
  | [], [], _ => rfl
  | x :: r, y :: s, h => by rw [h.1, uF2_eq h.2]
  | [], _ :: _, h => h.elim
  | _ :: _, [], h => h.elim
theorem uRun_c {α : Type} {A B : Int → α} {nt : α → α} {an ro : α → α → α} (h : ∀ t, t ∈ ts → t / 256 < 5 → A t = B t) : uRun A nt an ro ts [] = uRun B nt an ro ts [] :=
  uF2_eq (uRun_rel (R := fun x y => x = y) (fun x y e => by rw [e]) (fun x y x' y' e e' => by rw [e, e']) (fun x y x' y' e e' => by rw [e, e']) ts h [] [] trivial)
theorem uQ_H (h : uQ S S') (hf : 1 ≤ f ∧ f ≤ 3) (ht : uTks ts) : uH V c wp f ts S = uH V c wp f ts S' := by
  unfold uH
  rw [uRun_c fun t h1 h5 => uQ_yn h hf (ht t h1) h5]
theorem uQ_hold (h : uQ S S') (hf : 1 ≤ f ∧ f ≤ 3) (ht : uTks ts) : uHold f ts S = uHold f ts S' := by
  unfold uHold
  rw [uRun_c fun t h1 h5 => uQ_at h hf (ht t h1) h5]
theorem uQ_can (h : uQ S S') (hf : 1 ≤ f ∧ f ≤ 3) (hk : 0 ≤ k ∧ k < 41) : uCan dr wp f S k ↔ uCan dr wp f S' k := by
  have hx : uX k = if k < 0 then -1 else if k < 7 then k else if k < 12 then k - 7 else if k < 17 then k - 12 else if k < 37 then (k - 17) / 4 else if k < 41 then k - 37 else (k - 41) / 4 := rfl
  have hy : uY k = if k < 17 then -1 else if k < 37 then (k - 17) % 4 else if k < 41 then -1 else (k - 41) % 4 := rfl
  have ef := h f (by omega) (by omega)
  unfold uCan uArm
  rw [ef, h 4 (by decide) (by decide), h 5 (by decide) (by decide), h 6 (by decide) (by decide), h 7 (by decide) (by decide), h 8 (by decide) (by decide)]
  by_cases k7 : k < 7
  · rw [if_pos k7, if_pos k7]
  rw [if_neg k7, if_neg k7]
  by_cases k12 : k < 12
  · rw [if_pos k12, if_pos k12, h (4 + uX k) (by omega) (by omega)]
  rw [if_neg k12, if_neg k12]
  by_cases k17 : k < 17
  · rw [if_pos k17, if_pos k17, h (4 + uX k) (by omega) (by omega)]
  rw [if_neg k17, if_neg k17]
  by_cases k37 : k < 37
  · rw [if_pos k37, if_pos k37, h (4 + uX k) (by omega) (by omega), h (uY k) (by omega) (by omega)]
  rw [if_neg k37, if_neg k37, h (uX k) (by omega) (by omega)]
theorem uQ_app (h : uQ S S') (hf : 0 ≤ f ∧ f ≤ 3) : uQ (uApp f S k) (uApp f S' k) := by
  intro j j0 j1
  have ef := h f (by omega) (by omega)
  have ej := h j j0 j1
  unfold uApp uP
  rw [ef]
  split
  · exact ej
  split
  · show (if _ then _ else _) = (if _ then _ else _)
    rw [ej]
  split
  · show (if _ then _ else _) = (if _ then _ else _)
    rw [ej]
  split
  · show (if _ then _ else _) = (if _ then _ else _)
    rw [ej]
  split
  · show (if _ then _ else _) = (if _ then _ else _)
    rw [ej]
  split
  · show (if _ then _ else _) = (if _ then _ else _)
    rw [ej]
  · exact ej
theorem uFo_c {g g' : Int → uR} (N : Nat) (h : ∀ k : Nat, k < N → g k = g' k) : uFo g N = uFo g' N := by
  induction N with
  | zero => rfl
  | succ n ih =>
    unfold uFo
    rw [ih fun k hk => h k (by omega), h n (by omega)]
theorem uQ_opt (hf : 1 ≤ f ∧ f ≤ 3) (ht : uTks ts) : ∀ (n : Nat) (S S' : Int → Int), uQ S S' → uOpt dr wp pr f ts n S = uOpt dr wp pr f ts n S' := by
  intro n
  induction n with
  | zero => exact fun _ _ _ => rfl
  | succ n ih =>
    intro S S' h
    rw [uOpt_s, uOpt_s]
    refine uFo_c 41 fun k hk => ?_
    unfold uOne
    have hc := uQ_can (dr := dr) (wp := wp) h hf (k := (k : Int)) ⟨by omega, by omega⟩
    have ha := uQ_app (k := (k : Int)) h (f := f) ⟨by omega, by omega⟩
    by_cases c : uCan dr wp f S k
    · rw [uIf_t c, uIf_t (hc.mp c), uQ_hold ha hf ht, ih _ _ ha]
    · rw [uIf_f c, uIf_f (fun e => c (hc.mpr e))]
theorem uYN_b (hV : uVo dr V c) (hf : 1 ≤ f ∧ f ≤ 3) (hS : uOk f S) {t : Int} (ht : uTk t) (h5 : t / 256 < 5) : (uYN V c wp f S t).1 ≤ 400000 ∧ (uYN V c wp f S t).2 ≤ 400000 := by
  obtain ⟨t0, t1, t2, t3, t4, t5⟩ := ht
  have hS1 := hS.1
  have c1 := hV.2.2 1 (by decide) (by decide)
  have c2 := hV.2.2 2 (by decide) (by decide)
  have c3 := hV.2.2 3 (by decide) (by decide)
  have c4 := hV.2.2 4 (by decide) (by decide)
  have c5 := hV.2.2 5 (by decide) (by decide)
  have hLo : uLos c ≤ 73 := by
    unfold uLos uMin
    split <;> omega
  have hLa : uLay c ≤ 146 := by
    unfold uLay uMin
    split <;> omega
  have hT : ∀ q, 0 ≤ q → q < 4 → uHt V c wp f S q ≤ 200000 := by
    intro q q0 q1
    unfold uHt
    split
    · decide
    · have h1 := (uAm_le (H := uHd V c f S) (wp := wp)).1
      have h4 : uMt V f S q ≤ 100000 := by
        unfold uMt
        split
        · have := (hV.1 (S f - 1) (S q - 1) (by omega) (by omega) (by omega) (by omega)).1
          omega
        · omega
      unfold uMax
      split <;> omega
  have hH : ∀ x, 0 ≤ x → x < 5 → uHd V c f S x ≤ 100000 ∧ 0 ≤ uSr V f S x ∧ uSr V f S x < 7 := fun x x0 x1 => by
    have := uHd_b hV hf hS x0 x1
    omega
  unfold uYN
  by_cases e0 : t / 256 = 0
  · rw [if_pos e0]
    have := hH (t / 16 % 16) (by omega) (by omega)
    refine ⟨by show uHd V c f S _ ≤ _; omega, ?_⟩
    show (if _ then _ else _) ≤ _
    split <;> omega
  rw [if_neg e0]
  by_cases e4 : t / 256 = 4 ∧ t / 16 % 16 = f
  · rw [if_pos e4]
    have := hH (t % 16) (by omega) (by omega)
    refine ⟨by show uHd V c f S _ ≤ _; omega, ?_⟩
    show (if _ then _ else _) ≤ _
    split <;> omega
  rw [if_neg e4]
  by_cases e1 : t / 256 = 1
  · rw [if_pos e1]
    have := (hV.1 (S f - 1) (t / 16 % 16) (by omega) (by omega) (by omega) (by omega)).1
    constructor
    · show (if _ then _ else _) ≤ _
      split <;> omega
    · show (if _ then _ else _) ≤ _
      split <;> omega
  rw [if_neg e1]
  by_cases e2 : t / 256 = 2
  · rw [if_pos e2]
    have := hT (t / 16 % 16) (by omega) (by omega)
    constructor
    · show (if _ then _ else _) ≤ _
      split <;> omega
    · show (if _ then _ else _) ≤ _
      split <;> omega
  rw [if_neg e2]
  by_cases e3 : t / 256 = 3
  · rw [if_pos e3]
    have g := hH (t / 16 % 16) (by omega) (by omega)
    have v := (hV.1 (uSr V f S (t / 16 % 16)) (t % 16) (by omega) (by omega) (by omega) (by omega)).1
    constructor
    · show (if S (4 + t / 16 % 16) = t % 16 + 1 then 0 else uLi V c f S (t / 16 % 16) (t % 16)) ≤ _
      have hli : uLi V c f S (t / 16 % 16) (t % 16) ≤ 400000 := by
        unfold uLi
        split <;> omega
      split <;> omega
    · show (if _ then _ else _) ≤ _
      split <;> omega
  rw [if_neg e3]
  have g := hH (t % 16) (by omega) (by omega)
  have h := hT (t / 16 % 16) (by omega) (by omega)
  have way : (if 1 ≤ S (t / 16 % 16) ∧ S (t / 16 % 16) ≤ 7 then V (uSr V f S (t % 16)) (S (t / 16 % 16) - 1) else 100000) ≤ 100000 := by
    split
    · have := (hV.1 (uSr V f S (t % 16)) (S (t / 16 % 16) - 1) (by omega) (by omega) (by omega) (by omega)).1
      omega
    · omega
  constructor
  · show (if S (4 + t % 16) = 9 + t / 16 % 16 then 0 else uOw V c f S (t / 16 % 16) (t % 16)) ≤ _
    have how : uOw V c f S (t / 16 % 16) (t % 16) ≤ 400000 := by
      unfold uOw
      omega
    split <;> omega
  · show (if _ then _ else _) ≤ _
    split <;> omega
theorem uH_b (hV : uVo dr V c) (hf : 1 ≤ f ∧ f ≤ 3) (hS : uOk f S) (ht : uTks ts) : uH V c wp f ts S ≤ 400000 := by
  have h := uRun_rel (R := fun (x : Int × Int) (_ : Int × Int) => x.1 ≤ 400000 ∧ x.2 ≤ 400000) (A1 := uYN V c wp f S) (n1 := uPn) (a1 := uPa) (o1 := uPo) (A2 := uYN V c wp f S) (n2 := uPn) (a2 := uPa) (o2 := uPo) (fun x y h => ⟨h.2, h.1⟩) (fun x y x' y' h h' => by
      unfold uPa uMax uMin
      constructor
      · show (if _ then _ else _) ≤ _
        split <;> omega
      · show (if _ then _ else _) ≤ _
        split <;> omega) (fun x y x' y' h h' => by
      unfold uPo uMax uMin
      constructor
      · show (if _ then _ else _) ≤ _
        split <;> omega
      · show (if _ then _ else _) ≤ _
        split <;> omega) ts (fun t h h5 => uYN_b hV hf hS (ht t h) h5) [] [] trivial
  exact (uF2_bot (d := ((0 : Int), (0 : Int))) (e := ((0 : Int), (0 : Int))) (R := fun (x : Int × Int) (_ : Int × Int) => x.1 ≤ 400000 ∧ x.2 ≤ 400000) ⟨by decide, by decide⟩ h).1
end
end
