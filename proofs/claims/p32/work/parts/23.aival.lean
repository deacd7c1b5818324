/-! the abstract machine is sound: values -/
section
def aExt (n : Nat) (ρ ρ' : Nat → Int) : Prop := ∀ v, v < n → ρ' v = ρ v
/-- the script's length, the script -/
abbrev aLa : Type := Int × (Nat → Int32)
def aEok (L : aLa) (ρ : Nat → Int) (E : aE) : Prop := (ρ 0 = 0 ∧ ρ 1 = L.1 ∧ 1 < E.length) ∧ ∀ v i, E[v]? = some i → i.1 ≤ ρ v ∧ ρ v ≤ i.2
def aFok (n : Nat) (ρ : Nat → Int) (f : aF) (z : Int) : Prop := f.1 < n ∧ z = ρ f.1 + f.2
def aDok (n : Nat) (ρ : Nat → Int) (C : aC) : Prop := ∀ q ∈ C, q.1 < n ∧ q.2.1 < n ∧ ρ q.1 - ρ q.2.1 ≤ q.2.2
def aSk (L : aLa) (n : Nat) (ρ : Nat → Int) (S : aS) : Prop := ∀ q ∈ S, q.1.1 < n ∧ aFok n ρ q.2 (L.2 (ρ q.1.1 + q.1.2).toNat).toInt
def aCok (L : aLa) (n : Nat) (ρ : Nat → Int) (D : aC × aS) : Prop := aDok n ρ D.1 ∧ aSk L n ρ D.2
def aXok (L : aLa) (ρ : Nat → Int) (X : aX) : Prop := aEok L ρ X.1 ∧ aCok L X.1.length ρ X.2
def aGv (L : aLa) (E : aE) (ρ : Nat → Int) (z : Int) (K : aE → aF → Bool) : Prop := ∃ E' ρ' f, E.length ≤ E'.length ∧ aExt E.length ρ ρ' ∧ aEok L ρ' E' ∧ aFok E'.length ρ' f z ∧ K E' f = true
def aGx (L : aLa) (X : aX) (ρ : Nat → Int) (K : aX → Bool) : Prop := ∃ X', X'.1.length = X.1.length ∧ aXok L ρ X' ∧ K X' = true
variable {L : aLa} {x y z d : Int} {ρ ρ' : Nat → Int} {E E' : aE} {X : aX} {f g : aF} {i j : aI} {n n' : Nat}
theorem aExt.rf : aExt n ρ ρ := fun _ _ => rfl
theorem aExt.tr {ρ'' : Nat → Int} (h : aExt n ρ ρ') (hn : n ≤ n') (h' : aExt n' ρ' ρ'') : aExt n ρ ρ'' := fun v hv => (h' v (Nat.lt_of_lt_of_le hv hn)).trans (h v hv)
theorem aFok.ext (h : aFok n ρ f z) (hn : n ≤ n') (he : aExt n ρ ρ') : aFok n' ρ' f z := ⟨Nat.lt_of_lt_of_le h.1 hn, by rw [he _ h.1]; exact h.2⟩
theorem aCok.ext {D : aC × aS} (h : aCok L n ρ D) (hn : n ≤ n') (he : aExt n ρ ρ') : aCok L n' ρ' D := ⟨fun q hq => by
  obtain ⟨h1, h2, h3⟩ := h.1 q hq
  exact ⟨Nat.lt_of_lt_of_le h1 hn, Nat.lt_of_lt_of_le h2 hn, by rw [he _ h1, he _ h2]; exact h3⟩, fun q hq => by
  obtain ⟨h1, h2⟩ := h.2 q hq
  exact ⟨Nat.lt_of_lt_of_le h1 hn, by rw [he _ h1]; exact h2.ext hn he⟩⟩
theorem aSf_ok : ∀ (S : aS), aSk L n ρ S → aFok n ρ f x → aSf f S = some g → aFok n ρ g (L.2 x.toNat).toInt
  | [], _, _, h => by cases h
  | q :: t, hS, hf, h => by
    unfold aSf at h
    rw [zEq_eq] at h
    cases hc : (Nat.beq q.1.1 f.1 && decide (q.1.2 = f.2)) with
    | true =>
      rw [hc] at h
      cases h
      simp only [Bool.and_eq_true, decide_eq_true_eq] at hc
      have e1 := Nat.eq_of_beq_eq_true hc.1
      obtain ⟨-, h2⟩ := hS q List.mem_cons_self
      rw [e1, hc.2, ← hf.2] at h2
      exact h2
    | false =>
      rw [hc] at h
      exact aSf_ok t (fun r hr => hS r (List.mem_cons_of_mem _ hr)) hf h
theorem aSk_cons {S : aS} (hS : aSk L n ρ S) (hf : aFok n ρ f x) (hg : aFok n ρ g (L.2 x.toNat).toInt) : aSk L n ρ ((f, g) :: S) := fun q hq => by
  rcases List.mem_cons.mp hq with rfl | hq
  · refine ⟨hf.1, ?_⟩
    show aFok n ρ g (L.2 (ρ f.1 + f.2).toNat).toInt
    rw [← hf.2]
    exact hg
  · exact hS q hq
theorem aFok.c0 (hE : aEok L ρ E) : aFok E.length ρ (0, z) z := ⟨Nat.lt_trans Nat.zero_lt_one hE.1.2.2, by show z = ρ 0 + z; rw [hE.1.1]; omega⟩
theorem aItv_ok (hE : aEok L ρ E) (hf : aFok n ρ f z) (hi : aItv E f = some i) : i.1 ≤ z ∧ z ≤ i.2 := by
  unfold aItv at hi
  simp only [fGet_eq, fLk_eq, fG2_eq, zLe_eq, zEq_eq, zAdd_eq, zSub_eq, zNeg_eq, zAnd, zIf] at hi
  split at hi
  · rename_i j hj
    cases hi
    have h := hE.2 _ _ hj
    have h2 := hf.2
    constructor
    · show j.1 + f.2 ≤ z; omega
    · show z ≤ j.2 + f.2; omega
  · cases hi
theorem aGv.same {K : aE → aF → Bool} (hE : aEok L ρ E) (hf : aFok E.length ρ f z) (hK : K E f = true) : aGv L E ρ z K := ⟨E, ρ, f, Nat.le_refl _, aExt.rf, hE, hf, hK⟩
theorem aNew_ok {K : aE → aF → Bool} (hE : aEok L ρ E) (h1 : i.1 ≤ z) (h2 : z ≤ i.2) (hK : aNew E i K = true) : aGv L E ρ z K := by
  unfold aNew at hK
  simp only [aFz_eq, fSnoc_eq, fLen_eq, aFn_eq, zEq_eq, zIf] at hK
  split at hK
  · rename_i e
    have hz : z = i.1 := by omega
    subst hz
    exact aGv.same hE (aFok.c0 hE) hK
  · have h0 := hE.1.2.2
    refine ⟨E ++ [(i.1, i.2)], fun v => if v = E.length then z else ρ v, (E.length, 0), by simp, fun v hv => if_neg (by omega), ⟨⟨?_, ?_, by simp; omega⟩, fun v q hq => ?_⟩, ⟨by simp, by simp⟩, hK⟩
    · show (if 0 = E.length then z else ρ 0) = 0
      rw [if_neg (by omega)]; exact hE.1.1
    · show (if 1 = E.length then z else ρ 1) = L.1
      rw [if_neg (by omega)]; exact hE.1.2.1
    · show q.1 ≤ (if v = E.length then z else ρ v) ∧ (if v = E.length then z else ρ v) ≤ q.2
      by_cases hv : v = E.length
      · subst hv
        rw [if_pos rfl]
        simp at hq
        subst hq
        exact ⟨h1, h2⟩
      · rw [if_neg hv]
        by_cases hlt : v < E.length
        · rw [List.getElem?_append_left hlt] at hq
          exact hE.2 _ _ hq
        · rw [List.getElem?_eq_none (by simp; omega)] at hq
          cases hq
theorem aRf_ok {K : aE → Bool} (hE : aEok L ρ E) (hf : aFok E.length ρ f z) (h1 : i.1 ≤ z) (h2 : z ≤ i.2) (hK : aRf E f i K = true) : ∃ E', E'.length = E.length ∧ aEok L ρ E' ∧ K E' = true := by
  unfold aRf at hK
  simp only [fGet_eq, aFz_eq, zSub_eq, zLe_eq, zIf] at hK
  split at hK
  · rename_i j hj
    have hz := hf.2
    have hjj := hE.2 _ _ hj
    have ha : (if j.1 ≤ i.1 - f.2 then i.1 - f.2 else j.1) ≤ ρ f.1 := by split <;> omega
    have hb : ρ f.1 ≤ (if i.2 - f.2 ≤ j.2 then i.2 - f.2 else j.2) := by split <;> omega
    rw [if_pos (by omega)] at hK
    obtain ⟨hlt, hK⟩ := fSet_ok E hK
    refine ⟨_, by simp, ⟨⟨hE.1.1, hE.1.2.1, by simp; exact hE.1.2.2⟩, fun v q hq => ?_⟩, hK⟩
    by_cases hv : f.1 = v
    · subst hv
      rw [List.getElem?_set_self hf.1] at hq
      cases hq
      exact ⟨ha, hb⟩
    · rw [List.getElem?_set_ne hv] at hq
      exact hE.2 _ _ hq
  · cases hK
theorem aCm_ok (hf : aFok n ρ f x) (hg : aFok n ρ g y) : ∀ (C : aC) (b : Int), aDok n ρ C → x - y ≤ b → x - y ≤ aCm f g C b
  | [], b, _, h => h
  | q :: t, b, hC, h => by
    have ht : aDok n ρ t := fun r hr => hC r (List.mem_cons_of_mem _ hr)
    unfold aCm
    cases hc : (Nat.beq q.1 f.1 && Nat.beq q.2.1 g.1) with
    | false => exact aCm_ok hf hg t b ht h
    | true =>
      rw [Bool.and_eq_true] at hc
      obtain ⟨h1, h2⟩ := hc
      have e1 := Nat.eq_of_beq_eq_true h1
      have e2 := Nat.eq_of_beq_eq_true h2
      obtain ⟨-, -, h3⟩ := hC q List.mem_cons_self
      rw [e1, e2] at h3
      have hx := hf.2
      have hy := hg.2
      simp only [cond_true, zLe_eq, zIf]
      split
      · exact aCm_ok hf hg t _ ht (by omega)
      · exact aCm_ok hf hg t _ ht h
theorem aUb_ok {u : Int} (hX : aXok L ρ X) (hf : aFok X.1.length ρ f x) (hg : aFok X.1.length ρ g y) (h : aUb X f g = some u) : x - y ≤ u := by
  unfold aUb at h
  simp only [zSub_eq] at h
  cases hc : Nat.beq f.1 g.1 with
  | true =>
    rw [hc] at h
    cases h
    have e := Nat.eq_of_beq_eq_true hc
    have hx := hf.2
    have hy := hg.2
    rw [e] at hx
    show x - y ≤ f.2 - g.2
    omega
  | false =>
    rw [hc] at h
    change (match aItv X.1 f, aItv X.1 g with | some i, some j => some (aCm f g X.2.1 (i.2 - j.1)) | _, _ => none) = some u at h
    split at h
    · rename_i i j hi hj
      cases h
      have a := aItv_ok hX.1 hf hi
      have b := aItv_ok hX.1 hg hj
      exact aCm_ok hf hg _ _ hX.2.1 (by omega)
    · cases h
theorem aAC_ok {K : aX → Bool} (hX : aXok L ρ X) (hf : aFok X.1.length ρ f x) (hg : aFok X.1.length ρ g y) (h : x + d ≤ y) (hK : aAC X f g d K = true) : aGx L X ρ K := by
  unfold aAC at hK
  cases hc : (Nat.beq f.1 0 || (Nat.beq g.1 0 || Nat.beq f.1 g.1)) with
  | true =>
    rw [hc] at hK
    exact ⟨X, rfl, hX, hK⟩
  | false =>
    rw [hc] at hK
    obtain ⟨v, a⟩ := f
    obtain ⟨w, b⟩ := g
    simp only [cond_false, aFz_eq, zSub_eq] at hK
    refine ⟨(X.1, (v, w, b - a - d) :: X.2.1, X.2.2), rfl, ⟨hX.1, fun q hq => ?_, hX.2.2⟩, hK⟩
    rcases List.mem_cons.mp hq with rfl | hq
    · refine ⟨hf.1, hg.1, ?_⟩
      have hx : x = ρ v + a := hf.2
      have hy : y = ρ w + b := hg.2
      show ρ v - ρ w ≤ b - a - d
      omega
    · exact hX.2.1 q hq
theorem aGx.tr {X' : aX} {K : aX → Bool} (hl : X'.1.length = X.1.length) (h : aGx L X' ρ K) : aGx L X ρ K := by
  obtain ⟨Y, a, b, c⟩ := h
  exact ⟨Y, a.trans hl, b, c⟩
theorem aLe_ok {K : aX → Bool} (hX : aXok L ρ X) (hf : aFok X.1.length ρ f x) (hg : aFok X.1.length ρ g y) (h : x + d ≤ y) (hK : aLe X f g d K = true) : aGx L X ρ K := by
  unfold aLe at hK
  simp only [fGet_eq, fLk_eq, fG2_eq, zLe_eq, zEq_eq, zAdd_eq, zSub_eq, zNeg_eq, zAnd, zIf] at hK
  split at hK
  · rename_i u hu
    have hle := aUb_ok hX hg hf hu
    rw [if_pos (by omega)] at hK
    split at hK
    · rename_i i j hi hj
      have a := aItv_ok hX.1 hf hi
      have b := aItv_ok hX.1 hg hj
      obtain ⟨E1, l1, o1, k1⟩ := aRf_ok hX.1 hf (i := (i.1, j.2 - d)) a.1 (by show x ≤ j.2 - d; omega) hK
      obtain ⟨E2, l2, o2, k2⟩ := aRf_ok o1 (f := g) (z := y) (by rw [l1]; exact hg) (i := (i.1 + d, j.2)) (by show i.1 + d ≤ y; omega) b.2 k1
      have hl : E2.length = X.1.length := l2.trans l1
      exact (aAC_ok (X := (E2, X.2)) ⟨o2, by show aCok L E2.length ρ X.2; rw [hl]; exact hX.2⟩ (x := x) (y := y) (by show aFok E2.length ρ f x; rw [hl]; exact hf) (by show aFok E2.length ρ g y; rw [hl]; exact hg) h k2).tr hl
    · cases hK
  · cases hK
theorem aEq_ok {K : aX → Bool} (hX : aXok L ρ X) (hf : aFok X.1.length ρ f x) (hg : aFok X.1.length ρ g y) (h : x = y) (hK : aEq X f g K = true) : aGx L X ρ K := by
  unfold aEq at hK
  obtain ⟨X1, l1, o1, k1⟩ := aLe_ok hX hf hg (d := 0) (by omega) hK
  exact (aLe_ok o1 (by rw [l1]; exact hg) (by rw [l1]; exact hf) (d := 0) (x := y) (y := x) (by omega) k1).tr l1
theorem aGx.same {K : aX → Bool} (hX : aXok L ρ X) (h : K X = true) : aGx L X ρ K := ⟨X, rfl, hX, h⟩
theorem aGx.rf {K : aX → Bool} (hX : aXok L ρ X) (hf : aFok X.1.length ρ f z) (h1 : i.1 ≤ z) (h2 : z ≤ i.2) (hK : (aRf X.1 f i fun E1 => K (E1, X.2)) = true) : aGx L X ρ K := by
  obtain ⟨E1, l1, o1, k1⟩ := aRf_ok hX.1 hf h1 h2 hK
  exact ⟨(E1, X.2), l1, ⟨o1, by show aCok L E1.length ρ X.2; rw [l1]; exact hX.2⟩, k1⟩
theorem aNe2_ok {K : aX → Bool} (hX : aXok L ρ X) (hf : aFok X.1.length ρ f x) (hg : aFok X.1.length ρ g y) (h : x ≠ y) (hK : (aLe X f g 1 K && aLe X g f 1 K) = true) : aGx L X ρ K := by
  rw [Bool.and_eq_true] at hK
  by_cases e : x < y
  · exact aLe_ok hX hf hg (d := 1) (by omega) hK.1
  · exact aLe_ok hX hg hf (d := 1) (by omega) hK.2
theorem aNe_ok {K : aX → Bool} (hX : aXok L ρ X) (hf : aFok X.1.length ρ f x) (hg : aFok X.1.length ρ g y) (h : x ≠ y) (hK : aNe X f g K = true) : aGx L X ρ K := by
  unfold aNe at hK
  simp only [fGet_eq, fLk_eq, fG2_eq, zLe_eq, zEq_eq, zAdd_eq, zSub_eq, zNeg_eq, zAnd, zIf] at hK
  split at hK
  · rename_i u w hu hw
    have a1 := aUb_ok hX hf hg hu
    have a2 := aUb_ok hX hg hf hw
    rw [if_neg (by omega)] at hK
    split at hK
    · rename_i i j hi hj
      have a := aItv_ok hX.1 hf hi
      have b := aItv_ok hX.1 hg hj
      split at hK
      · split at hK
        · exact aGx.rf (i := (j.1 + 1, i.2)) hX hf (by show j.1 + 1 ≤ x; omega) a.2 hK
        · split at hK
          · exact aGx.rf (i := (i.1, j.1 - 1)) hX hf a.1 (by show x ≤ j.1 - 1; omega) hK
          · exact aNe2_ok hX hf hg h hK
      · split at hK
        · split at hK
          · exact aGx.rf (i := (i.1 + 1, j.2)) hX hg (by show i.1 + 1 ≤ y; omega) b.2 hK
          · split at hK
            · exact aGx.rf (i := (j.1, i.1 - 1)) hX hg b.1 (by show y ≤ i.1 - 1; omega) hK
            · exact aNe2_ok hX hf hg h hK
        · split at hK
          · exact aLe_ok hX hf hg (d := 1) (by omega) hK
          · split at hK
            · exact aLe_ok hX hg hf (d := 1) (by omega) hK
            · exact aGx.same hX hK
    · cases hK
  · cases hK
/-- what a comparison says -/
def aCd (c : Nat) (x y : Int) : Prop := match c with
  | 0 => x = y
  | 1 => x ≠ y
  | 2 => x < y
  | 3 => y ≤ x
  | 4 => y < x
  | 5 => x ≤ y
  | _ => False
theorem aIf_ok {c : Nat} {Kt Kf : aX → Bool} (hX : aXok L ρ X) (hf : aFok X.1.length ρ f x) (hg : aFok X.1.length ρ g y) (hK : aIf c X f g Kt Kf = true) : (aCd c x y → aGx L X ρ Kt) ∧ (¬ aCd c x y → aGx L X ρ Kf) := by
  unfold aIf at hK
  split at hK <;> (try rw [Bool.and_eq_true] at hK)
  · exact ⟨fun h => aEq_ok hX hf hg h hK.1, fun h => aNe_ok hX hf hg h hK.2⟩
  · exact ⟨fun h => aNe_ok hX hf hg h hK.1, fun h => aEq_ok hX hf hg (Decidable.not_not.mp h) hK.2⟩
  · exact ⟨fun h => aLe_ok hX hf hg (d := 1) (by have : x < y := h; omega) hK.1, fun h => aLe_ok hX hg hf (d := 0) (by have : ¬ x < y := h; omega) hK.2⟩
  · exact ⟨fun h => aLe_ok hX hg hf (d := 0) (by have : y ≤ x := h; omega) hK.1, fun h => aLe_ok hX hf hg (d := 1) (by have : ¬ y ≤ x := h; omega) hK.2⟩
  · exact ⟨fun h => aLe_ok hX hg hf (d := 1) (by have : y < x := h; omega) hK.1, fun h => aLe_ok hX hf hg (d := 0) (by have : ¬ y < x := h; omega) hK.2⟩
  · exact ⟨fun h => aLe_ok hX hf hg (d := 0) (by have : x ≤ y := h; omega) hK.1, fun h => aLe_ok hX hg hf (d := 1) (by have : ¬ x ≤ y := h; omega) hK.2⟩
  · cases hK
/-! arithmetic -/
theorem aB32 (a : Int32) : -2147483648 ≤ a.toInt ∧ a.toInt ≤ 2147483647 := by
  have h1 := a.le_toInt
  have h2 := a.toInt_lt
  omega
theorem aB64 (a : Int64) : -9223372036854775808 ≤ a.toInt ∧ a.toInt ≤ 9223372036854775807 := by
  have h1 := a.le_toInt
  have h2 := a.toInt_lt
  omega
theorem aR32_ok (h : aR32 i = true) : -2147483648 ≤ i.1 ∧ i.2 ≤ 2147483647 := by
  unfold aR32 at h
  rw [zLe_eq, zLe_eq, Bool.and_eq_true] at h
  exact ⟨of_decide_eq_true h.1, of_decide_eq_true h.2⟩
theorem aR64_ok (h : aR64 i = true) : -9223372036854775808 ≤ i.1 ∧ i.2 ≤ 9223372036854775807 := by
  unfold aR64 at h
  rw [zLe_eq, zLe_eq, Bool.and_eq_true] at h
  exact ⟨of_decide_eq_true h.1, of_decide_eq_true h.2⟩
theorem aLin_ok {K : aE → aF → Bool} (hE : aEok L ρ E) (hf : aFok E.length ρ f x) (hz : z = x + d) (hK : aLin E f d K = true) : aGv L E ρ z K := by
  unfold aLin at hK
  obtain ⟨v, c0⟩ := f
  simp only [aFz_eq, zAdd_eq] at hK
  refine aGv.same (f := (v, c0 + d)) hE ⟨hf.1, ?_⟩ hK
  have : x = ρ v + c0 := hf.2
  show z = ρ v + (c0 + d)
  omega
/-- s is a, or a turn less or more, whichever is an int -/
def aWr (r : aI → Bool) (top : aI) (a s : Int) : Prop := (top.1 ≤ s ∧ s ≤ top.2) ∧ ∀ (e : Int) (i : aI), (e = 0 ∨ e = top.2 - top.1 + 1 ∨ e = -(top.2 - top.1 + 1)) → r i = true → i.1 ≤ a + e → a + e ≤ i.2 → s = a + e
theorem aShf_ok {r : aI → Bool} {top : aI} {s : Int} {K : aE → aF → Bool} (hE : aEok L ρ E) (hw : aWr r top z s) (h1 : i.1 ≤ z) (h2 : z ≤ i.2) (hK : aShf r top E i K = true) : aGv L E ρ s K := by
  unfold aShf at hK
  cases hc : r (i.1 + (top.2 - top.1 + 1), i.2 + (top.2 - top.1 + 1)) with
  | true =>
    rw [hc] at hK
    have hs := hw.2 (top.2 - top.1 + 1) _ (Or.inr (Or.inl rfl)) hc (by show i.1 + (top.2 - top.1 + 1) ≤ _; omega) (by show _ ≤ i.2 + (top.2 - top.1 + 1); omega)
    exact aNew_ok hE (by show i.1 + (top.2 - top.1 + 1) ≤ s; omega) (by show s ≤ i.2 + (top.2 - top.1 + 1); omega) hK
  | false =>
    rw [hc] at hK
    simp only [cond_false] at hK
    cases hc2 : r (i.1 - (top.2 - top.1 + 1), i.2 - (top.2 - top.1 + 1)) with
    | true =>
      rw [hc2] at hK
      have hs := hw.2 (-(top.2 - top.1 + 1)) _ (Or.inr (Or.inr rfl)) hc2 (by show i.1 - (top.2 - top.1 + 1) ≤ _; omega) (by show _ ≤ i.2 - (top.2 - top.1 + 1); omega)
      exact aNew_ok hE (by show i.1 - (top.2 - top.1 + 1) ≤ s; omega) (by show s ≤ i.2 - (top.2 - top.1 + 1); omega) hK
    | false =>
      rw [hc2] at hK
      exact aNew_ok hE hw.1.1 hw.1.2 hK
theorem aAdd_ok {r : aI → Bool} {top : aI} {s : Int} {K : aE → aF → Bool} (hE : aEok L ρ E) (hf : aFok E.length ρ f x) (hg : aFok E.length ρ g y) (hw : aWr r top (x + y) s) (hK : aAdd r top E f g K = true) : aGv L E ρ s K := by
  unfold aAdd at hK
  simp only [fGet_eq, fLk_eq, fG2_eq, zLe_eq, zEq_eq, zAdd_eq, zSub_eq, zNeg_eq, zAnd, zIf] at hK
  split at hK
  · rename_i i j hi hj
    have a := aItv_ok hE hf hi
    have b := aItv_ok hE hg hj
    cases hc : r (i.1 + j.1, i.2 + j.2) with
    | true =>
      rw [hc] at hK
      have hs := hw.2 0 _ (Or.inl rfl) hc (by show i.1 + j.1 ≤ x + y + 0; omega) (by show x + y + 0 ≤ i.2 + j.2; omega)
      simp only [cond_true] at hK
      split at hK
      · exact aLin_ok hE hf (by omega) hK
      · split at hK
        · exact aLin_ok hE hg (by omega) hK
        · exact aNew_ok hE (by show i.1 + j.1 ≤ s; omega) (by show s ≤ i.2 + j.2; omega) hK
    | false =>
      rw [hc] at hK
      exact aShf_ok (i := (i.1 + j.1, i.2 + j.2)) hE hw (by show i.1 + j.1 ≤ x + y; omega) (by show x + y ≤ i.2 + j.2; omega) hK
  · cases hK
theorem aSub_ok {r : aI → Bool} {top : aI} {s : Int} {K : aE → aF → Bool} (hE : aEok L ρ E) (hf : aFok E.length ρ f x) (hg : aFok E.length ρ g y) (hw : aWr r top (x - y) s) (hK : aSub r top E f g K = true) : aGv L E ρ s K := by
  unfold aSub at hK
  simp only [fGet_eq, fLk_eq, fG2_eq, zLe_eq, zEq_eq, zAdd_eq, zSub_eq, zNeg_eq, zAnd, zIf] at hK
  split at hK
  · rename_i i j hi hj
    have a := aItv_ok hE hf hi
    have b := aItv_ok hE hg hj
    cases hc : r (i.1 - j.2, i.2 - j.1) with
    | true =>
      rw [hc] at hK
      have hs := hw.2 0 _ (Or.inl rfl) hc (by show i.1 - j.2 ≤ x - y + 0; omega) (by show x - y + 0 ≤ i.2 - j.1; omega)
      simp only [cond_true] at hK
      split at hK
      · exact aLin_ok hE hf (d := - j.1) (by omega) hK
      · exact aNew_ok hE (by show i.1 - j.2 ≤ s; omega) (by show s ≤ i.2 - j.1; omega) hK
    | false =>
      rw [hc] at hK
      exact aShf_ok (i := (i.1 - j.2, i.2 - j.1)) hE hw (by show i.1 - j.2 ≤ x - y; omega) (by show x - y ≤ i.2 - j.1; omega) hK
  · cases hK
theorem aBm32 {a : Int} (h1 : -2147483648 ≤ a) (h2 : a ≤ 2147483647) : a.bmod (2 ^ 32) = a := Int.bmod_eq_of_le (by omega) (by omega)
theorem aBm64 {a : Int} (h1 : -9223372036854775808 ≤ a) (h2 : a ≤ 9223372036854775807) : a.bmod (2 ^ 64) = a := Int.bmod_eq_of_le (by omega) (by omega)
theorem aWr32 {a : Int} : aWr aR32 aT32 a (a.bmod (2 ^ 32)) := ⟨by
  have h1 := Int.le_bmod (x := a) (m := 2 ^ 32) (by omega)
  have h2 := Int.bmod_lt (x := a) (m := 2 ^ 32) (by omega)
  show (-2147483648 : Int) ≤ _ ∧ _ ≤ (2147483647 : Int)
  omega, fun e i he hi h1 h2 => by
  have hb := aR32_ok hi
  have e1 : (a + e).bmod (2 ^ 32) = a.bmod (2 ^ 32) := by
    rcases he with rfl | rfl | rfl
    · rw [Int.add_zero]
    · exact Int.add_bmod_right a (2 ^ 32)
    · exact Int.sub_bmod_right a (2 ^ 32)
  rw [← e1]
  exact aBm32 (by omega) (by omega)⟩
theorem aWr64 {a : Int} : aWr aR64 aT64 a (a.bmod (2 ^ 64)) := ⟨by
  have h1 := Int.le_bmod (x := a) (m := 2 ^ 64) (by omega)
  have h2 := Int.bmod_lt (x := a) (m := 2 ^ 64) (by omega)
  show (-9223372036854775808 : Int) ≤ _ ∧ _ ≤ (9223372036854775807 : Int)
  omega, fun e i he hi h1 h2 => by
  have hb := aR64_ok hi
  have e1 : (a + e).bmod (2 ^ 64) = a.bmod (2 ^ 64) := by
    rcases he with rfl | rfl | rfl
    · rw [Int.add_zero]
    · exact Int.add_bmod_right a (2 ^ 64)
    · exact Int.sub_bmod_right a (2 ^ 64)
  rw [← e1]
  exact aBm64 (by omega) (by omega)⟩
theorem aAdd32_ok {a b : Int32} {K : aE → aF → Bool} (hE : aEok L ρ E) (hf : aFok E.length ρ f a.toInt) (hg : aFok E.length ρ g b.toInt) (hK : aAdd aR32 aT32 E f g K = true) : aGv L E ρ (a + b).toInt K :=
  aAdd_ok hE hf hg (by rw [Int32.toInt_add]; exact aWr32) hK
theorem aSub32_ok {a b : Int32} {K : aE → aF → Bool} (hE : aEok L ρ E) (hf : aFok E.length ρ f a.toInt) (hg : aFok E.length ρ g b.toInt) (hK : aSub aR32 aT32 E f g K = true) : aGv L E ρ (a - b).toInt K :=
  aSub_ok hE hf hg (by rw [Int32.toInt_sub]; exact aWr32) hK
theorem aAdd64_ok {a b : Int64} {K : aE → aF → Bool} (hE : aEok L ρ E) (hf : aFok E.length ρ f a.toInt) (hg : aFok E.length ρ g b.toInt) (hK : aAdd aR64 aT64 E f g K = true) : aGv L E ρ (a + b).toInt K :=
  aAdd_ok hE hf hg (by rw [Int64.toInt_add]; exact aWr64) hK
def aRu32 (op : Int32 → Int32 → Int32) (rule : aI → aI → aI) : Prop := ∀ (a b : Int32) (i j : aI), i.1 ≤ a.toInt → a.toInt ≤ i.2 → j.1 ≤ b.toInt → b.toInt ≤ j.2 → (rule i j).1 ≤ (op a b).toInt ∧ (op a b).toInt ≤ (rule i j).2
theorem aOp_ok {op : Int32 → Int32 → Int32} {rule : aI → aI → aI} {a b : Int32} {K : aE → aF → Bool} (hr : aRu32 op rule) (hE : aEok L ρ E) (hf : aFok E.length ρ f a.toInt) (hg : aFok E.length ρ g b.toInt) (hK : aOp op rule E f g K = true) : aGv L E ρ (op a b).toInt K := by
  unfold aOp at hK
  simp only [fGet_eq, fLk_eq, fG2_eq, zLe_eq, zEq_eq, zAdd_eq, zSub_eq, zNeg_eq, zAnd, zIf] at hK
  split at hK
  · rename_i i j hi hj
    have p := aItv_ok hE hf hi
    have q := aItv_ok hE hg hj
    split at hK
    · rename_i hc
      have e1 : a = Int32.ofInt i.1 := by rw [show i.1 = a.toInt by omega, Int32.ofInt_toInt]
      have e2 : b = Int32.ofInt j.1 := by rw [show j.1 = b.toInt by omega, Int32.ofInt_toInt]
      rw [aFz_eq, ← e1, ← e2] at hK
      exact aGv.same hE (aFok.c0 hE) hK
    · obtain ⟨h1, h2⟩ := hr a b i j p.1 p.2 q.1 q.2
      exact aNew_ok hE h1 h2 hK
  · cases hK
def aRu64 (op : Int64 → Int64 → Int64) (rule : aI → aI → aI) : Prop := ∀ (a b : Int64) (i j : aI), i.1 ≤ a.toInt → a.toInt ≤ i.2 → j.1 ≤ b.toInt → b.toInt ≤ j.2 → (rule i j).1 ≤ (op a b).toInt ∧ (op a b).toInt ≤ (rule i j).2
theorem aOq_ok {op : Int64 → Int64 → Int64} {rule : aI → aI → aI} {a b : Int64} {K : aE → aF → Bool} (hr : aRu64 op rule) (hE : aEok L ρ E) (hf : aFok E.length ρ f a.toInt) (hg : aFok E.length ρ g b.toInt) (hK : aOq op rule E f g K = true) : aGv L E ρ (op a b).toInt K := by
  unfold aOq at hK
  simp only [fGet_eq, fLk_eq, fG2_eq, zLe_eq, zEq_eq, zAdd_eq, zSub_eq, zNeg_eq, zAnd, zIf] at hK
  split at hK
  · rename_i i j hi hj
    have p := aItv_ok hE hf hi
    have q := aItv_ok hE hg hj
    split at hK
    · rename_i hc
      have e1 : a = Int64.ofInt i.1 := by rw [show i.1 = a.toInt by omega, Int64.ofInt_toInt]
      have e2 : b = Int64.ofInt j.1 := by rw [show j.1 = b.toInt by omega, Int64.ofInt_toInt]
      rw [aFz_eq, ← e1, ← e2] at hK
      exact aGv.same hE (aFok.c0 hE) hK
    · obtain ⟨h1, h2⟩ := hr a b i j p.1 p.2 q.1 q.2
      exact aNew_ok hE h1 h2 hK
  · cases hK
def aRuS (op : Int64 → Int32 → Int64) (rule : aI → aI → aI) : Prop := ∀ (a : Int64) (b : Int32) (i j : aI), i.1 ≤ a.toInt → a.toInt ≤ i.2 → j.1 ≤ b.toInt → b.toInt ≤ j.2 → (rule i j).1 ≤ (op a b).toInt ∧ (op a b).toInt ≤ (rule i j).2
theorem aOs_ok {op : Int64 → Int32 → Int64} {rule : aI → aI → aI} {a : Int64} {b : Int32} {K : aE → aF → Bool} (hr : aRuS op rule) (hE : aEok L ρ E) (hf : aFok E.length ρ f a.toInt) (hg : aFok E.length ρ g b.toInt) (hK : aOs op rule E f g K = true) : aGv L E ρ (op a b).toInt K := by
  unfold aOs at hK
  simp only [fGet_eq, fLk_eq, fG2_eq, zLe_eq, zEq_eq, zAdd_eq, zSub_eq, zNeg_eq, zAnd, zIf] at hK
  split at hK
  · rename_i i j hi hj
    have p := aItv_ok hE hf hi
    have q := aItv_ok hE hg hj
    split at hK
    · rename_i hc
      have e1 : a = Int64.ofInt i.1 := by rw [show i.1 = a.toInt by omega, Int64.ofInt_toInt]
      have e2 : b = Int32.ofInt j.1 := by rw [show j.1 = b.toInt by omega, Int32.ofInt_toInt]
      rw [aFz_eq, ← e1, ← e2] at hK
      exact aGv.same hE (aFok.c0 hE) hK
    · obtain ⟨h1, h2⟩ := hr a b i j p.1 p.2 q.1 q.2
      exact aNew_ok hE h1 h2 hK
  · cases hK
theorem aKeep_ok {lo hi s : Int} {K : aE → aF → Bool} (hE : aEok L ρ E) (hf : aFok E.length ρ f x) (h1 : lo ≤ x → x ≤ hi → s = x) (h2 : lo ≤ s ∧ s ≤ hi) (hK : aKeep lo hi E f K = true) : aGv L E ρ s K := by
  unfold aKeep at hK
  simp only [fGet_eq, fLk_eq, fG2_eq, zLe_eq, zEq_eq, zAdd_eq, zSub_eq, zNeg_eq, zAnd, zIf] at hK
  split at hK
  · rename_i i hi
    have p := aItv_ok hE hf hi
    split at hK
    · rw [h1 (by omega) (by omega)]
      exact aGv.same hE hf hK
    · exact aNew_ok hE h2.1 h2.2 hK
  · cases hK
theorem aRu32_top (op : Int32 → Int32 → Int32) : aRu32 op fun _ _ => aT32 := fun a b _ _ _ _ _ _ => aB32 (op a b)
theorem aRu64_top (op : Int64 → Int64 → Int64) : aRu64 op fun _ _ => aT64 := fun a b _ _ _ _ _ _ => aB64 (op a b)
theorem aRuS_top (op : Int64 → Int32 → Int64) : aRuS op fun _ _ => aT64 := fun a b _ _ _ _ _ _ => aB64 (op a b)
theorem aMin_le (a b : Int) : aMin a b ≤ a ∧ aMin a b ≤ b := by unfold aMin; simp only [zLe_eq, zIf]; split <;> omega
theorem aMax_le (a b : Int) : a ≤ aMax a b ∧ b ≤ aMax a b := by unfold aMax; simp only [zLe_eq, zIf]; split <;> omega
theorem aLt32 {a b : Int32} : a < b ↔ a.toInt < b.toInt := Int32.lt_iff_toInt_lt
theorem aRu_max : aRu32 (fun x y => if x < y then y else x) aMaxR := fun a b i j h1 h2 h3 h4 => by
  have e : (if a < b then b else a).toInt = aMax a.toInt b.toInt := by
    unfold aMax
    simp only [zLe_eq, zIf]
    by_cases h : a < b
    · rw [if_pos h, if_pos (by have := aLt32.mp h; omega)]
    · rw [if_neg h]
      have := mt aLt32.mpr h
      split
      · omega
      · rfl
  show aMax i.1 j.1 ≤ (if a < b then b else a).toInt ∧ (if a < b then b else a).toInt ≤ aMax i.2 j.2
  rw [e]
  unfold aMax
  simp only [zLe_eq, zIf]
  constructor <;> (repeat' split) <;> omega
theorem aRu_min : aRu32 (fun x y => if y < x then y else x) aMinR := fun a b i j h1 h2 h3 h4 => by
  have e : (if b < a then b else a).toInt = aMin a.toInt b.toInt := by
    unfold aMin
    simp only [zLe_eq, zIf]
    by_cases h : b < a
    · rw [if_pos h]
      have := aLt32.mp h
      split
      · omega
      · rfl
    · rw [if_neg h, if_pos (by have := mt aLt32.mpr h; omega)]
  show aMin i.1 j.1 ≤ (if b < a then b else a).toInt ∧ (if b < a then b else a).toInt ≤ aMin i.2 j.2
  rw [e]
  unfold aMin
  simp only [zLe_eq, zIf]
  constructor <;> (repeat' split) <;> omega
/-! masks -/
theorem aBvAnd {w : Nat} (a b : BitVec w) (h : 0 ≤ b.toInt) : 0 ≤ (a &&& b).toInt ∧ (a &&& b).toInt ≤ b.toInt := by
  have hb : 2 * b.toNat < 2 ^ w := by
    rw [BitVec.toInt_eq_toNat_cond] at h
    split at h
    · assumption
    · have := b.isLt; omega
  have hle : (a &&& b).toNat ≤ b.toNat := by rw [BitVec.toNat_and]; exact Nat.and_le_right
  rw [BitVec.toInt_eq_toNat_cond, BitVec.toInt_eq_toNat_cond, if_pos hb, if_pos (by omega)]
  omega
theorem aAnd32 (a b : Int32) (h : 0 ≤ b.toInt) : 0 ≤ (a &&& b).toInt ∧ (a &&& b).toInt ≤ b.toInt := aBvAnd a.toBitVec b.toBitVec h
theorem aAnd64 (a b : Int64) (h : 0 ≤ b.toInt) : 0 ≤ (a &&& b).toInt ∧ (a &&& b).toInt ≤ b.toInt := aBvAnd a.toBitVec b.toBitVec h
theorem aRu_and32 : aRu32 (· &&& ·) (aAndR aT32) := fun a b i j h1 h2 h3 h4 => by
  show (aAndR aT32 i j).1 ≤ (a &&& b).toInt ∧ (a &&& b).toInt ≤ (aAndR aT32 i j).2
  unfold aAndR
  simp only [zLe_eq, zIf]
  split
  · have p := aAnd32 a b (by omega)
    split
    · have q := aAnd32 b a (by omega)
      rw [Int32.and_comm] at q
      show 0 ≤ _ ∧ _ ≤ aMin i.2 j.2
      unfold aMin
      simp only [zLe_eq, zIf]
      split <;> omega
    · show 0 ≤ _ ∧ _ ≤ j.2
      omega
  · split
    · have q := aAnd32 b a (by omega)
      rw [Int32.and_comm] at q
      show 0 ≤ _ ∧ _ ≤ i.2
      omega
    · exact aB32 _
theorem aRu_and64 : aRu64 (· &&& ·) (aAndR aT64) := fun a b i j h1 h2 h3 h4 => by
  show (aAndR aT64 i j).1 ≤ (a &&& b).toInt ∧ (a &&& b).toInt ≤ (aAndR aT64 i j).2
  unfold aAndR
  simp only [zLe_eq, zIf]
  split
  · have p := aAnd64 a b (by omega)
    split
    · have q := aAnd64 b a (by omega)
      rw [Int64.and_comm] at q
      show 0 ≤ _ ∧ _ ≤ aMin i.2 j.2
      unfold aMin
      simp only [zLe_eq, zIf]
      split <;> omega
    · show 0 ≤ _ ∧ _ ≤ j.2
      omega
  · split
    · have q := aAnd64 b a (by omega)
      rw [Int64.and_comm] at q
      show 0 ≤ _ ∧ _ ≤ i.2
      omega
    · exact aB64 _
end
