/-! the reference, the memo of first deeds -/
section
set_option maxRecDepth 100000


section
variable {ro : Nat → Nat × (Nat → Int32)} {d : Nat} {Q : Option Value → pmS → Prop} {dr wp pr cnt W : Int → Int} {T : Int → List Int} {n f k : Int} {S r : Int → Int} {a a' : xA} {b b' : xB} {ts : List Int}
/-- the first deed of the best row -/
noncomputable def uF1 (dr wp pr : Int → Int) (ts : List Int) (f : Int) (S : Int → Int) : Int := match uOpt dr wp pr f ts 4 S with
  | none => -1
  | some q => q.2.headD (-1)
theorem uFd_1 (h : uHold f ts S = false) : uFd dr wp pr ts f S = uF1 dr wp pr ts f S := by
  unfold uFd
  rw [h]
  rfl
theorem uFd_h (h : uHold f ts S = true) : uFd dr wp pr ts f S = -1 := by
  unfold uFd
  rw [h]
  rfl
theorem uF1_b (hp : uPp pr) : -1 ≤ uF1 dr wp pr ts f S ∧ uF1 dr wp pr ts f S ≤ 40 := by
  unfold uF1
  cases ho : uOpt dr wp pr f ts 4 S with
  | none => exact ⟨by decide, by decide⟩
  | some q =>
    obtain ⟨h1, h2, h3, h4⟩ := uOpt_len hp 4 S q ho
    obtain ⟨z, l⟩ := q
    match l, h1, h4 with
    | x :: l', h1, h4 =>
      have := h4 x List.mem_cons_self
      show -1 ≤ x ∧ x ≤ 40
      omega
/-- the memo of first deeds: not full, and true -/
def uMo (a : xA) (b : xB) : Prop := (0 ≤ a 87 41 ∧ a 87 41 ≤ 3000) ∧ (((List.range 4096).countP (fun j : Nat => !(b 114 (j : Int) == 0)) : Nat) : Int) ≤ a 87 41
def uMV (dr wp pr cnt : Int → Int) (T : Int → List Int) (n : Int) (a : xA) (b : xB) : Prop := uMo a b ∧ (∀ j, 0 ≤ j → j < 4096 → 0 ≤ a 115 j ∧ a 115 j ≤ 41) ∧ ∀ j, 0 ≤ j → j < 4096 → b 114 j = 0 ∨ ∀ f k S, 1 ≤ f → f ≤ 3 → 0 ≤ k → k < cnt f → uOk f S → uOn n S → Int64.ofInt (uKn f k S) = b 114 j → a 115 j = uF1 dr wp pr (T (f * 3 + k)) f S + 1
theorem uMo_z (h : uMo a b) : ∃ z : Nat, z < 4096 ∧ b 114 (z : Int) = 0 := by
  apply Classical.byContradiction
  intro hn
  have hall : ∀ j ∈ List.range 4096, (!(b 114 (j : Int) == 0)) = true := fun j hj => by
    have hj := List.mem_range.mp hj
    cases hc : b 114 (j : Int) == 0 with
    | false => rfl
    | true => exact absurd ⟨j, hj, eq_of_beq hc⟩ hn
  have := List.countP_eq_length.mpr hall
  obtain ⟨h1, h2⟩ := h
  rw [this, List.length_range] at h2
  omega
theorem uRem {K : Int} (h0 : 0 ≤ K) (h1 : K < 4611686018427387904) : 0 ≤ xL2 (Int64.ofInt K - Int64.ofInt K / (4093 : Int64) * (4093 : Int64)) ∧ xL2 (Int64.ofInt K - Int64.ofInt K / (4093 : Int64) * (4093 : Int64)) ≤ 4092 := by
  have e0 : (4093 : Int64) = Int64.ofInt 4093 := rfl
  have m1 : Int64.minValue.toInt = -9223372036854775808 := rfl
  have m2 : Int64.maxValue.toInt = 9223372036854775807 := rfl
  have e1 : Int64.ofInt K / Int64.ofInt 4093 = Int64.ofInt (K.tdiv 4093) := (Int64.ofInt_tdiv (by omega) (by omega) (by decide) (by decide)).symm
  rw [e0, e1, ← Int64.ofInt_mul, ← Int64.ofInt_sub]
  have e2 : K - K.tdiv 4093 * 4093 = K % 4093 := by
    rw [Int.tdiv_eq_ediv_of_nonneg h0]
    omega
  rw [e2]
  unfold xL2
  rw [Int64.toInt32_ofInt, Int32.toInt_ofInt_of_le (by omega) (by omega)]
  omega
theorem uKn_b (hf : 1 ≤ f ∧ f ≤ 3) (hk : 0 ≤ k ∧ k ≤ 2) (hS : uOk f S) : 0 < uKn f k S ∧ uKn f k S < 4611686018427387904 := uK8_b hf hk (fun i i0 i1 => uMc_b hf hS i0 i1)
theorem uKn_z (hf : 1 ≤ f ∧ f ≤ 3) (hk : 0 ≤ k ∧ k ≤ 2) (hS : uOk f S) : ¬ Int64.ofInt (uKn f k S) = 0 := by
  intro h
  have hb := uKn_b hf hk hS
  have h2 := congrArg Int64.toInt h
  rw [Int64.toInt_ofInt_of_le (by omega) (by omega)] at h2
  have h2 : uKn f k S = 0 := h2
  omega
/-- what finding a first deed may change -/
def uFm (a a' : xA) (b b' : xB) : Prop := (∀ q j, q ≠ 108 → q ≠ 109 → q ≠ 110 → q ≠ 111 → q ≠ 112 → q ≠ 113 → q ≠ 115 → ¬ (q = 87 ∧ (j = 33 ∨ j = 34 ∨ j = 41)) → a' q j = a q j) ∧ (∀ j, j < 10 → a' 108 j = a 108 j) ∧ ∀ q j, q ≠ 114 → b' q j = b q j
theorem uFm_r : uFm a a b b := ⟨fun _ _ _ _ _ _ _ _ _ _ => rfl, fun _ _ => rfl, fun _ _ _ => rfl⟩
theorem uFm_t {a'' : xA} {b'' : xB} (h : uFm a a' b b') (h' : uFm a' a'' b' b'') : uFm a a'' b b'' := ⟨fun q j e1 e2 e3 e4 e5 e6 e7 e8 => (h'.1 q j e1 e2 e3 e4 e5 e6 e7 e8).trans (h.1 q j e1 e2 e3 e4 e5 e6 e7 e8), fun j e => (h'.2.1 j e).trans (h.2.1 j e), fun q j e => (h'.2.2 q j e).trans (h.2.2 q j e)⟩
theorem uFm_l (h : uFl 0 a a') : uFm a a' b b := ⟨fun q j e1 e2 e3 e4 e5 e6 e7 e8 => h.1 q j e1 e2 e3 e4 e5 e6 (fun e => e8 ⟨e.1, by omega⟩), fun j e => h.2.1 j (by omega), fun _ _ _ => rfl⟩
theorem uMV_f (h : uMV dr wp pr cnt T n a b) (h1 : a' 87 41 = a 87 41) (h2 : ∀ j, a' 115 j = a 115 j) (h3 : ∀ j, b' 114 j = b 114 j) : uMV dr wp pr cnt T n a' b' := by
  obtain ⟨⟨m1, m2⟩, m3, m4⟩ := h
  refine ⟨⟨by rw [h1]; exact m1, ?_⟩, fun j j0 j1 => by rw [h2]; exact m3 j j0 j1, fun j j0 j1 => by rw [h2, h3]; exact m4 j j0 j1⟩
  have e : (fun j : Nat => !(b' 114 (j : Int) == 0)) = (fun j : Nat => !(b 114 (j : Int) == 0)) := funext fun j => by rw [h3]
  rw [h1, e]
  exact m2
theorem xUo {β : Type} {f : Nat → Int → β} {w : β} {q p : Nat} {j k : Int} (h : ¬ (q = p ∧ j = k)) : xU f p k w q j = f q j := if_neg h
theorem uRs_o {w : Int} (h : uRs dr wp pr n w ts a) (hA : xAr a') (e : ∀ q j, (q = 90 ∨ q = 91 ∨ q = 92 ∨ q = 98 ∨ q = 99 ∨ q = 109 ∨ (q = 87 ∧ j = 2)) → a' q j = a q j) : uRs dr wp pr n w ts a' := by
  obtain ⟨r1, ⟨w1, w2, w3, w4⟩, r3, r4, r5, r6, r7⟩ := h
  refine ⟨hA, ⟨fun i i0 i1 => (e 91 i (by omega)).trans (w1 i i0 i1), (e 87 2 (by omega)).trans w2, w3, w4⟩, fun k k0 k1 => ⟨(e 90 k (by omega)).trans (r3 k k0 k1).1, (r3 k k0 k1).2⟩, fun i i0 i1 => (e 92 i (by omega)).trans (r4 i i0 i1), (e 98 w (by omega)).trans r5, fun j t ht => (e 99 _ (by omega)).trans (r6 j t ht), fun j j0 j1 => by rw [e 109 j (by omega)]; exact r7 j j0 j1⟩
/-- firstDeed -/
theorem u199 (hE : uRe pr f (T (f * 3 + k))) (hc3 : ∀ p, 1 ≤ p → p ≤ 3 → cnt p ≤ 3) (hk : 0 ≤ k ∧ k < cnt f) (hR : uRs dr wp pr n (3 * f + k) (T (f * 3 + k)) a) (hM : uMd f 0 a S) (hS : uOk f S) (hN : uOn n S) (hV : uMV dr wp pr cnt T n a b) (hd : 5 ≤ d) (hQ : ∀ a' b', uFm a a' b b' → uRs dr wp pr n (3 * f + k) (T (f * 3 + k)) a' → uMV dr wp pr cnt T n a' b' → Q (some (xV (uF1 dr wp pr (T (f * 3 + k)) f S))) (xS a' b')) : pmCs ro d 199 [.ref 87, xV f, xV k] (xS a b) Q := by
  have hf : 1 ≤ f ∧ f ≤ 3 := hE.2.1
  have hpp := hE.1
  have hk2 : k ≤ 2 := by
    have := hc3 f hf.1 hf.2
    omega
  have htk : uTks (T (f * 3 + k)) := fun t ht => (hE.2.2.2.1 t ht).1
  have hF := uF1_b (dr := dr) (wp := wp) (ts := T (f * 3 + k)) (f := f) (S := S) hpp
  have hb := uKn_b hf ⟨hk.1, hk2⟩ hS
  have hz := uKn_z hf ⟨hk.1, hk2⟩ hS
  have hrem := uRem (K := uKn f k S) (by omega) hb.2
  refine pmCs_deep (d := 5) (xg199 (w199 (u200 hR.1 hM hf ⟨hk.1, hk2⟩ (by decide) (w199a ?_)))) hd
  obtain ⟨key, hkey⟩ : ∃ z, Int64.ofInt (uKn f k S) = z := ⟨_, rfl⟩
  rw [hkey] at hrem hz ⊢
  -- after the search
  have after : ∀ at0 : Int, 0 ≤ at0 ∧ at0 ≤ 4095 → (b 114 at0 = 0 ∨ b 114 at0 = key) → pmWp ro 4 12 199 1 60 [some (.ref 87), some (xV f), some (xV k), some (.long key), none, some (xV at0), none] [] (xS a b) Q := by
    intro at0 hat hat2
    have h115 := hV.2.1 at0 hat.1 (by omega)
    refine w199c hat rfl (by omega) (fun e => ?_) (fun e => ?_)
    · have hb0 : b 114 at0 = 0 := by
        rcases hat2 with h | h
        · exact h
        · exact absurd ((xCmp0 _ _).mpr h) e
      refine u190 hE ⟨hk.1, hk2⟩ hR hM hS hN (by decide) (fun a2 z x2 R2 B2 hz2 hzn => ?_)
      have e41 : a2 87 41 = a 87 41 := x2.1 87 41 (by decide) (by decide) (by decide) (by decide) (by decide) (by decide) (by decide)
      have e115 : ∀ j, a2 115 j = a 115 j := fun j => x2.1 115 j (by decide) (by decide) (by decide) (by decide) (by decide) (by decide) (by omega)
      have hV2 : uMV dr wp pr cnt T n a2 b := uMV_f hV e41 e115 (fun _ => rfl)
      have fin : ∀ v, v = uF1 dr wp pr (T (f * 3 + k)) f S → pmWp ro 4 12 199 1 101 [some (.ref 87), some (xV f), some (xV k), some (.long key), none, some (xV at0), none] [xV v] (xS a2 b) Q := by
        intro v hv
        refine w199e hat (by omega) e41 hV.1.1 (fun e1 => ?_) (fun e1 => ?_)
        · rw [hv]
          exact hQ a2 b (uFm_l x2) R2 hV2
        · rw [hv]
          refine hQ _ _ (uFm_t (uFm_l x2) ⟨fun q j e1 e2 e3 e4 e5 e6 e7 e8 => ?_, fun j e => ?_, fun q j e => xUn e⟩) ?_ ?_
          · rw [xUo (by omega), xUn e7]
          · rw [xUn (by decide), xUn (by decide)]
          · exact uRs_o R2 (xAr_u (xAr_u R2.1 ⟨by omega, by omega⟩) ⟨by have := hV.1.1; omega, by have := hV.1.1; omega⟩) (fun q j e => by rw [xUo (by omega), xUn (by omega)])
          · refine ⟨⟨?_, ?_⟩, fun j j0 j1 => ?_, fun j j0 j1 => ?_⟩
            · rw [xUa]
              have := hV.1.1
              omega
            · rw [xUa]
              have hc := kCnt (f := fun j : Nat => !(xU b 114 at0 key 114 (j : Int) == 0)) (g := fun j : Nat => !(b 114 (j : Int) == 0)) (a := at0.toNat) (fun j hj => by rw [xUk (by omega)]) 4096
              have h2 := hV.1.2
              split at hc <;> omega
            · rw [xUn (by decide)]
              by_cases c : j = at0
              · rw [c, xUa]
                omega
              · rw [xUk c, e115]
                exact hV.2.1 j j0 j1
            · by_cases c : j = at0
              · right
                intro f' k' S' p0 p1 k0 k1 hS' hN' hk'
                rw [c, xUa, ← hkey] at hk'
                rw [xUn (by decide), c, xUa]
                obtain ⟨q1, q2, q3⟩ := uKn_i ⟨p0, p1⟩ ⟨k0, by have := hc3 f' p0 p1; omega⟩ hS' hf ⟨hk.1, hk2⟩ hS hk'
                subst q1 q2
                unfold uF1
                rw [uQ_opt hf htk 4 _ _ q3]
              · rw [xUk c, xUn (by decide), xUk c, e115]
                exact hV.2.2 j j0 j1
      refine w199d hat hz2 (fun ez => fin _ ?_) (fun ez => fin _ ?_)
      · unfold uF1
        rw [hzn.mp ez]
      · unfold uF1
        cases ho : uOpt dr wp pr f (T (f * 3 + k)) 4 S with
        | none => exact absurd (hzn.mpr ho) ez
        | some q =>
          obtain ⟨h1, h2, h3, h4, h5⟩ := B2.2 q ho
          obtain ⟨zz, l⟩ := q
          match l, h1, h5 with
          | x :: l', h1, h5 => exact h5 0 x rfl
    · have e := (xCmp0 _ _).mp e
      have hv := hV.2.2 at0 hat.1 (by omega)
      rcases hv with hv | hv
      · rw [hv] at e
        exact absurd e.symm hz
      · have := hv f k S hf.1 hf.2 hk.1 hk.2 hS hN (hkey.trans e.symm)
        rw [this, show uF1 dr wp pr (T (f * 3 + k)) f S + 1 - 1 = uF1 dr wp pr (T (f * 3 + k)) f S by omega]
        exact hQ a b uFm_r hR hV
  obtain ⟨z, hz1, hz2⟩ := uMo_z hV.1
  have loop : ∀ (m : Nat) (at0 : Int), 0 ≤ at0 ∧ at0 ≤ 4095 → (if at0 ≤ (z : Int) then (z : Int) - at0 else (z : Int) + 4096 - at0) ≤ (m : Int) → pmWp ro 4 12 199 1 15 [some (.ref 87), some (xV f), some (xV k), some (.long key), none, some (xV at0), none] [] (xS a b) Q := by
    intro m
    induction m with
    | zero =>
      intro at0 hat hm
      have e : at0 = (z : Int) := by
        split at hm <;> omega
      refine w199b hat (fun e1 => after at0 hat (Or.inl ((xCmp0 _ _).mp e1))) (fun _ e1 => after at0 hat (Or.inr ((xCmp0 _ _).mp e1))) (fun e1 => ?_) (fun e1 => ?_)
      · exact absurd ((xCmp0 _ _).mpr (by rw [e]; exact hz2)) e1
      · exact absurd ((xCmp0 _ _).mpr (by rw [e]; exact hz2)) e1
    | succ m ih =>
      intro at0 hat hm
      refine w199b hat (fun e1 => after at0 hat (Or.inl ((xCmp0 _ _).mp e1))) (fun _ e1 => after at0 hat (Or.inr ((xCmp0 _ _).mp e1))) (fun e1 e2 e3 => ?_) (fun e1 e2 e3 => ?_)
      · have ne : ¬ at0 = (z : Int) := fun e => e1 ((xCmp0 _ _).mpr (by rw [e]; exact hz2))
        refine ih (at0 + 1) (by omega) ?_
        split at hm <;> split <;> omega
      · have ne : ¬ at0 = (z : Int) := fun e => e1 ((xCmp0 _ _).mpr (by rw [e]; exact hz2))
        refine ih 0 (by decide) ?_
        split at hm <;> split <;> omega
  exact loop 4096 _ ⟨by omega, by omega⟩ (by split <;> omega)
end
end
