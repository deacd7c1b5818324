/-! the class's search finds the best row -/
section
variable {dr wp c u pr : Int → Int} {V U : Int → Int → Int} {f : Int} {S : Int → Int} {k : Int} {ts : List Int} {n : Nat}
/-- deeds of nine bits each, the first lowest -/
def uRw : List Int → Nat
  | [] => 0
  | k :: r => (uD k).toNat + 512 * uRw r
theorem uD_b (k : Int) (h : k < 61) : 0 ≤ uD k ∧ uD k < 448 := by
  unfold uD uK uX uY
  split
  · omega
  · omega
theorem uRw_s (l : List Int) (k : Int) : uRw (l ++ [k]) = uRw l + (uD k).toNat * 512 ^ l.length := by
  induction l with
  | nil =>
    show (uD k).toNat + 512 * 0 = 0 + _ * 1
    omega
  | cons x r ih =>
    show (uD x).toNat + 512 * uRw (r ++ [k]) = (uD x).toNat + 512 * uRw r + _ * 512 ^ (r.length + 1)
    rw [ih, Nat.mul_add, Nat.pow_succ, ← Nat.mul_assoc, Nat.add_assoc]
    congr 2
    rw [Nat.mul_comm, Nat.mul_comm _ 512, ← Nat.mul_assoc, Nat.mul_comm 512, Nat.mul_comm]
theorem uRw_b (l : List Int) (h : ∀ k, k ∈ l → k < 61) : uRw l < 512 ^ l.length := by
  induction l with
  | nil => decide
  | cons x r ih =>
    have h1 := ih fun k hk => h k (List.mem_cons_of_mem _ hk)
    have h2 := uD_b x (h x List.mem_cons_self)
    show (uD x).toNat + 512 * uRw r < 512 ^ (r.length + 1)
    rw [Nat.pow_succ]
    omega
/-- a plan: deeds, above them the cost -/
def uPl (l : List Int) (z : Int) : Int64 := ⟨⟨BitVec.ofNat 64 (uRw l + z.toNat * 2 ^ 36)⟩⟩
theorem uPl_N {l : List Int} {z : Int} (h : ∀ k, k ∈ l → k < 61) (hl : l.length ≤ 4) (h0 : 0 ≤ z) (h1 : z < 1000) : uN (uPl l z) = uRw l + z.toNat * 2 ^ 36 := by
  have hb := uRw_b l h
  have h4 : 512 ^ l.length ≤ 512 ^ 4 := Nat.pow_le_pow_right (by decide) hl
  have e4 : 512 ^ 4 = 2 ^ 36 := by decide
  show (BitVec.ofNat 64 (uRw l + z.toNat * 2 ^ 36)).toNat = _
  rw [BitVec.toNat_ofNat]
  omega
/-- what is better of what was found and what is found -/
def uMg (sp : Int) (row : List Int) (B : Int × Int64) (x : uR) : Int × Int64 := match x with
  | none => B
  | some p => if sp + p.1 < B.1 then (sp + p.1, uPl (row ++ p.2) (sp + p.1)) else B
variable {sp : Int} {row : List Int} {B : Int × Int64} {a x : uR}
theorem uMg_bet : uMg sp row (uMg sp row B a) x = uMg sp row B (uBet a x) := by
  cases x with
  | none => rfl
  | some p =>
    cases a with
    | none => rfl
    | some q =>
      show (if sp + p.1 < (if sp + q.1 < B.1 then _ else B).1 then _ else (if sp + q.1 < B.1 then _ else B)) = uMg sp row B (if p.1 < q.1 then some p else some q)
      by_cases h1 : sp + q.1 < B.1
      · rw [if_pos h1]
        by_cases h2 : p.1 < q.1
        · rw [if_pos h2]
          show (if sp + p.1 < sp + q.1 then _ else _) = if sp + p.1 < B.1 then _ else _
          rw [if_pos (by omega), if_pos (by omega)]
        · rw [if_neg h2]
          show (if sp + p.1 < sp + q.1 then _ else _) = if sp + q.1 < B.1 then _ else _
          rw [if_neg (by omega), if_pos h1]
      · rw [if_neg h1]
        by_cases h2 : p.1 < q.1
        · rw [if_pos h2]
          rfl
        · rw [if_neg h2]
          show _ = if sp + q.1 < B.1 then _ else _
          rw [if_neg (by omega), if_neg h1]
theorem uMg_sh {z : Int} : uMg sp row B (uSh z k x) = uMg (sp + z) (row ++ [k]) B x := by
  cases x with
  | none => rfl
  | some p =>
    show (if sp + (z + p.1) < B.1 then (sp + (z + p.1), uPl (row ++ k :: p.2) (sp + (z + p.1))) else B) = if sp + z + p.1 < B.1 then (sp + z + p.1, uPl (row ++ [k] ++ p.2) (sp + z + p.1)) else B
    rw [show sp + (z + p.1) = sp + z + p.1 by omega, List.append_assoc]
    rfl
/-- what the search stands on -/
def uSe (dr wp c u pr : Int → Int) (V U : Int → Int → Int) (f : Int) (ts : List Int) : Prop := uVo dr V c ∧ uVo dr U u ∧ (1 ≤ f ∧ f ≤ 3) ∧ uTks ts ∧ (∀ S, ¬ uRun (uAt f S) (fun x => !x) (fun x y => x && y) (fun x y => x || y) ts [] = []) ∧ (∀ i, 1 ≤ i → i ≤ 5 → c i = 8 * pr i + 1) ∧ (∀ i, 1 ≤ i → i ≤ 5 → u i = 1) ∧ ∀ i, 1 ≤ i → i ≤ 5 → 1 ≤ pr i ∧ pr i ≤ 9
theorem uCs_b (hE : uSe dr wp c u pr V U f ts) (hk : 0 ≤ k ∧ k < 41) : 9 ≤ uCs pr k ∧ uCs pr k ≤ 73 := by
  have hK : 1 ≤ uK k ∧ uK k ≤ 5 := by
    unfold uK
    omega
  have := hE.2.2.2.2.2.2.2 _ hK.1 hK.2
  unfold uCs
  omega
theorem uOpt_b (hE : uSe dr wp c u pr V U f ts) {p : Int × List Int} (e : uOpt dr wp pr f ts n S = some p) (hn : n ≤ 4) : 0 ≤ p.1 ∧ p.1 ≤ 292 ∧ p.2.length ≤ n ∧ 1 ≤ p.2.length ∧ p.1 % 8 = (p.2.length : Int) ∧ ∀ k, k ∈ p.2 → 0 ≤ k ∧ k < 41 := by
  obtain ⟨h1, h2, ⟨z, h3, h4, h5⟩, h6⟩ := uOpt_len hE.2.2.2.2.2.2.2 n S p e
  refine ⟨by omega, by omega, h2, h1, by omega, h6⟩
theorem uMg_n (hk : ¬ uCan dr wp f S k) : uMg sp row B (uOne dr wp pr f ts n S k) = B := by
  unfold uOne
  rw [uIf_f hk]
  rfl
theorem uMg_c (hE : uSe dr wp c u pr V U f ts) (hn : n ≤ 4) (h : B.1 ≤ sp + uCs pr k) : uMg sp row B (uOne dr wp pr f ts n S k) = B := by
  unfold uOne
  by_cases hc : uCan dr wp f S k
  · rw [uIf_t hc]
    cases hh : uHold f ts (uApp f S k) with
    | true =>
      show (if sp + uCs pr k < B.1 then _ else B) = B
      rw [if_neg (by omega)]
    | false =>
      show uMg sp row B (uSh _ _ _) = B
      rw [uMg_sh]
      cases ho : uOpt dr wp pr f ts n (uApp f S k) with
      | none => rfl
      | some p =>
        have := uOpt_b hE ho hn
        show (if sp + uCs pr k + p.1 < B.1 then _ else B) = B
        rw [if_neg (by omega)]
  · rw [uIf_f hc]
    rfl
theorem uMg_h (hc : uCan dr wp f S k) (hh : uHold f ts (uApp f S k) = true) (h : sp + uCs pr k < B.1) : uMg sp row B (uOne dr wp pr f ts n S k) = (sp + uCs pr k, uPl (row ++ [k]) (sp + uCs pr k)) := by
  unfold uOne
  rw [uIf_t hc, hh]
  show (if sp + uCs pr k < B.1 then _ else B) = _
  rw [if_pos h]
theorem uMg_u (hE : uSe dr wp c u pr V U f ts) (hS : uOk f S) (hk : 0 ≤ k ∧ k < 41) (hn : n ≤ 4) (hc : uCan dr wp f S k) (hh : uHold f ts (uApp f S k) = false) (h : (n : Int) + 1 ≤ uH U u wp f ts (uApp f S k)) : uMg sp row B (uOne dr wp pr f ts n S k) = B := by
  unfold uOne
  rw [uIf_t hc, hh]
  cases ho : uOpt dr wp pr f ts n (uApp f S k) with
  | none => rfl
  | some p =>
    exfalso
    have h1 := uH_ln hE.2.1 hE.2.2.1 hE.2.2.2.1 hE.2.2.2.2.1 hE.2.2.2.2.2.2.1 n _ (uOk_app hE.2.2.1 hS hk hc) p ho
    have h2 := uOpt_b hE ho hn
    unfold uCt uMin at h1
    split at h1 <;> omega
theorem uMg_p (hE : uSe dr wp c u pr V U f ts) (hS : uOk f S) (hk : 0 ≤ k ∧ k < 41) (hn : n ≤ 4) (hc : uCan dr wp f S k) (hh : uHold f ts (uApp f S k) = false) (h : B.1 ≤ sp + uCs pr k + uH V c wp f ts (uApp f S k)) : uMg sp row B (uOne dr wp pr f ts n S k) = B := by
  unfold uOne
  rw [uIf_t hc, hh]
  show uMg sp row B (uSh _ _ _) = B
  rw [uMg_sh]
  cases ho : uOpt dr wp pr f ts n (uApp f S k) with
  | none => rfl
  | some p =>
    have h1 := uH_le (pr := pr) hE.1 hE.2.2.1 hE.2.2.2.1 hE.2.2.2.2.1 (fun i i0 i1 => by rw [hE.2.2.2.2.2.1 i i0 i1]; exact Int.le_refl _) n _ (uOk_app hE.2.2.1 hS hk hc) p ho
    have h2 := uOpt_b hE ho hn
    show (if sp + uCs pr k + p.1 < B.1 then _ else B) = B
    rw [if_neg]
    unfold uCt uMin at h1
    split at h1 <;> omega
theorem uMg_r (hc : uCan dr wp f S k) (hh : uHold f ts (uApp f S k) = false) : uMg sp row B (uOne dr wp pr f ts n S k) = uMg (sp + uCs pr k) (row ++ [k]) B (uOpt dr wp pr f ts n (uApp f S k)) := by
  unfold uOne
  rw [uIf_t hc, hh]
  exact uMg_sh
/-- one more code -/
theorem uMg_s {m : Nat} : uMg sp row B (uFo (uOne dr wp pr f ts n S) (m + 1)) = uMg sp row (uMg sp row B (uFo (uOne dr wp pr f ts n S) m)) (uOne dr wp pr f ts n S m) := by
  rw [uMg_bet]
  rfl
/-! one deed more, and one more again -/
theorem uBet_opt (hE : uSe dr wp c u pr V U f ts) (hn : n + 1 ≤ 4) : uBet (uOpt dr wp pr f ts n S) (uOpt dr wp pr f ts (n + 1) S) = uOpt dr wp pr f ts (n + 1) S := by
  obtain ⟨j1, j2⟩ := uRl_opt (dr := dr) (wp := wp) (pr := pr) (f := f) (ts := ts) n S
  cases h1 : uOpt dr wp pr f ts (n + 1) S with
  | none =>
    cases h2 : uOpt dr wp pr f ts n S with
    | none => rfl
    | some q =>
      obtain ⟨p, e, _⟩ := j2 q h2
      rw [h1] at e
      cases e
  | some p =>
    cases h2 : uOpt dr wp pr f ts n S with
    | none => rfl
    | some q =>
      obtain ⟨p', e, g⟩ := j2 q h2
      rw [h1] at e
      cases e
      show (if p.1 < q.1 then some p else some q) = some p
      split
      · rfl
      · have b1 := uOpt_b hE h1 hn
        have b2 := uOpt_b hE h2 (by omega)
        have e1 : p.1 = q.1 := by omega
        have h3 := j1 p h1 (by rw [e1] at b1; omega)
        rw [h2] at h3
        exact h3
theorem uOpt_ch (hE : uSe dr wp c u pr V U f ts) {ch : Int} (hch : ∀ i, 1 ≤ i → i ≤ 5 → ch ≤ 8 * pr i + 1) : ∀ p, uOpt dr wp pr f ts n S = some p → ch * (p.2.length : Int) ≤ p.1 := by
  have hK : ∀ k : Nat, k < 41 → 1 ≤ uK (k : Int) ∧ uK (k : Int) ≤ 5 := by
    intro k hk
    unfold uK
    omega
  refine uOpt_all (Q := fun _ _ => True) (P := fun _ _ p => ch * (p.2.length : Int) ≤ p.1) (fun _ _ _ _ _ _ => trivial) (fun n S k _ hk hc hh => ?_) (fun n S k p _ hk hc hh h => ?_) n S trivial
  · have := hch _ (hK k hk).1 (hK k hk).2
    show ch * ((1 : Nat) : Int) ≤ uCs pr k
    unfold uCs
    omega
  · have := hch _ (hK k hk).1 (hK k hk).2
    show ch * ((p.2.length + 1 : Nat) : Int) ≤ uCs pr k + p.1
    unfold uCs
    rw [Int.natCast_add, Int.mul_add]
    omega
theorem uMg_end (hE : uSe dr wp c u pr V U f ts) {ch : Int} (hch : ∀ i, 1 ≤ i → i ≤ 5 → ch ≤ 8 * pr i + 1) (hch2 : ch ≤ 73) (hch0 : 0 ≤ ch) (hn : n ≤ 3) (hB : B.1 = 100000) (h : (uMg 0 [] B (uOpt dr wp pr f ts n S)).1 ≤ ((n : Int) + 1) * ch) : uMg 0 [] B (uOpt dr wp pr f ts n S) = uMg 0 [] B (uOpt dr wp pr f ts 4 S) := by
  obtain ⟨j1, j2⟩ := uOpt_mono (dr := dr) (wp := wp) (pr := pr) (f := f) (ts := ts) (S := S) (show n ≤ 4 by omega)
  cases h4 : uOpt dr wp pr f ts 4 S with
  | none =>
    cases h1 : uOpt dr wp pr f ts n S with
    | none => rfl
    | some q =>
      obtain ⟨p, e, _⟩ := j2 q h1
      rw [h4] at e
      cases e
  | some p =>
    have hp := uOpt_b hE h4 (by decide)
    by_cases hl : p.2.length ≤ n
    · rw [j1 p h4 hl]
    · exfalso
      have hc := uOpt_ch hE hch p h4
      have m1 : ch * ((n : Int) + 1) ≤ ch * (p.2.length : Int) := Int.mul_le_mul_of_nonneg_left (by omega) hch0
      have m2 : ch * ((n : Int) + 1) ≤ 73 * 4 := Int.mul_le_mul hch2 (by omega) (by omega) (by decide)
      rw [Int.mul_comm] at h
      cases h1 : uOpt dr wp pr f ts n S with
      | none =>
        rw [h1] at h
        have h : B.1 ≤ _ := h
        omega
      | some q =>
        have hq := uOpt_b hE h1 (by omega)
        obtain ⟨p', e, g⟩ := j2 q h1
        rw [h4] at e
        cases e
        rw [h1] at h
        have h : (if 0 + q.1 < B.1 then (0 + q.1, uPl ([] ++ q.2) (0 + q.1)) else B).1 ≤ _ := h
        rw [if_pos (by omega)] at h
        have h : 0 + q.1 ≤ _ := h
        have e1 : p.1 = q.1 := by omega
        rw [e1] at hp
        omega
end
