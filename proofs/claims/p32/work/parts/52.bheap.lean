/-! the second make is sound: the heap -/
section
def bEk (n : Nat) (ρ : Nat → Int) (e : bN) (z : Int) : Prop := match e with
  | .inl g => aFok n ρ g z
  | .inr l => bIn l z
def bHok (n : Nat) (ρ : Nat → Int) (H : bH) (φ : Nat → Nat → Int) : Prop := ∀ p k, bEk n ρ (bEn H p k) (φ p k)
def bSk (n : Nat) (ρ : Nat → Int) (S : bS) (φ : Nat → Nat → Int) : Prop := ∀ q ∈ S, q.2.1.1 < n ∧ (0 ≤ ρ q.2.1.1 + q.2.1.2 → aFok n ρ q.2.2 (φ q.1 (ρ q.2.1.1 + q.2.1.2).toNat))
variable {L : aLa} {x y z d : Int} {ρ ρ' : Nat → Int} {E E' : aE} {X : aX} {f g : aF} {i j : aI} {n n' p k : Nat} {H : bH} {S : bS} {φ φ' : Nat → Nat → Int} {e : bN}
theorem bEk.ext (h : bEk n ρ e z) (hn : n ≤ n') (he : aExt n ρ ρ') : bEk n' ρ' e z := by
  cases e with
  | inl g => exact aFok.ext h hn he
  | inr l => exact h
theorem bHok.ext (h : bHok n ρ H φ) (hn : n ≤ n') (he : aExt n ρ ρ') : bHok n' ρ' H φ := fun p k => (h p k).ext hn he
theorem bSk.ext (h : bSk n ρ S φ) (hn : n ≤ n') (he : aExt n ρ ρ') : bSk n' ρ' S φ := fun q hq => by
  obtain ⟨h1, h2⟩ := h q hq
  refine ⟨Nat.lt_of_lt_of_le h1 hn, ?_⟩
  rw [he _ h1]
  exact fun h0 => (h2 h0).ext hn he
theorem bHok.set {e : bN} {K : bH → Bool} (h : bHok n ρ H φ) (he : bEk n ρ e (φ' p k)) (ho : ∀ q j, ¬ (q = p ∧ j = k) → φ' q j = φ q j) (hK : bSetO p k e H K = true) : ∃ H', bHok n ρ H' φ' ∧ K H' = true := by
  obtain ⟨H', h1, h2⟩ := bSetO_ok hK
  refine ⟨H', fun q j => ?_, h2⟩
  rw [h1]
  by_cases c : q = p ∧ j = k
  · rw [if_pos c, c.1, c.2]
    exact he
  · rw [if_neg c, ho q j c]
    exact h q j
theorem bFk_ok {K : aE → aF → Bool} (hE : aEok L ρ E) : ∀ {l : List aI}, bIn l z → bFk E K l = true → aGv L E ρ z K := fun {l} => by
  induction l with
  | nil => intro h; obtain ⟨i, hi, -⟩ := h; cases hi
  | cons i t ih =>
    intro h hK
    have hK : (aNew E i K && bFk E K t) = true := hK
    rw [Bool.and_eq_true] at hK
    obtain ⟨q, hq, h1, h2⟩ := h
    rcases List.mem_cons.mp hq with rfl | hq
    · exact aNew_ok hE h1 h2 hK.1
    · exact ih ⟨q, hq, h1, h2⟩ hK.2
theorem bLh_ok : ∀ {l : List aI} {j : aI}, bLh l = some j → bIn l z → j.1 ≤ z ∧ z ≤ j.2 := fun {l} => by
  induction l with
  | nil => intro j h; cases h
  | cons i t ih =>
    intro j h hz
    have h : (match bLh t with | some j => some (aMin i.1 j.1, aMax i.2 j.2) | none => some i) = some j := h
    obtain ⟨q, hq, h1, h2⟩ := hz
    cases ht : bLh t with
    | some w =>
      rw [ht] at h
      cases h
      have m1 := aMin_le i.1 w.1
      have m2 := aMax_le i.2 w.2
      show aMin i.1 w.1 ≤ z ∧ z ≤ aMax i.2 w.2
      rcases List.mem_cons.mp hq with rfl | hq
      · omega
      · have := ih ht ⟨q, hq, h1, h2⟩
        omega
    | none =>
      rw [ht] at h
      cases h
      rcases List.mem_cons.mp hq with rfl | hq
      · exact ⟨h1, h2⟩
      · exfalso
        cases t with
        | nil => cases hq
        | cons a t =>
          have ht : (match bLh t with | some j => some (aMin a.1 j.1, aMax a.2 j.2) | none => some a) = none := ht
          cases h3 : bLh t with
          | some _ => rw [h3] at ht; cases ht
          | none => rw [h3] at ht; cases ht
theorem bEi_ok (hE : aEok L ρ E) (h : bEi E e = some j) (hz : bEk n ρ e z) : j.1 ≤ z ∧ z ≤ j.2 := by
  unfold bEi at h
  split at h
  · exact aItv_ok hE hz h
  · exact bLh_ok h hz
theorem bHu_ok (hE : aEok L ρ E) (hH : bHok n ρ H φ) (a : Nat) : ∀ (m : Nat) (j : aI), bHu E H p a m = some j → ∀ k, a ≤ k → k ≤ a + m → j.1 ≤ φ p k ∧ φ p k ≤ j.2
  | 0, j, h, k, h1, h2 => by
    have : k = a := by omega
    subst this
    exact bEi_ok hE h (hH p k)
  | m + 1, j, h, k, h1, h2 => by
    unfold bHu at h
    split at h
    · rename_i u w hu hw
      cases h
      have m1 := aMin_le u.1 w.1
      have m2 := aMax_le u.2 w.2
      show aMin u.1 w.1 ≤ φ p k ∧ φ p k ≤ aMax u.2 w.2
      by_cases c : k ≤ a + m
      · have := bHu_ok hE hH a m u hu k h1 c
        omega
      · have : k = a + m + 1 := by omega
        subst this
        have := bEi_ok hE hw (hH p (a + m + 1))
        omega
    · cases h
def bGh (L : aLa) (E : aE) (ρ : Nat → Int) (S : bS) (φ : Nat → Nat → Int) (z : Int) (K : aE → bH → bS → aF → Bool) : Prop :=
  ∃ E' ρ' H' S' g, E.length ≤ E'.length ∧ aExt E.length ρ ρ' ∧ aEok L ρ' E' ∧ bHok E'.length ρ' H' φ ∧ bSk E'.length ρ' S' φ ∧ aFok E'.length ρ' g z ∧ K E' H' S' g = true
theorem bGetK_ok {K : aE → bH → aF → Bool} (hE : aEok L ρ E) (hH : bHok E.length ρ H φ) (hS : bSk E.length ρ S φ) (hK : bGetK E H p k K = true) : bGh L E ρ S φ (φ p k) (fun E H _ g => K E H g) := by
  have hk := hH p k
  unfold bGetK at hK
  have key : ∀ l : List aI, bEn H p k = .inr l → bFk E (fun E' g => bSetO p k (.inl g) H fun H' => K E' H' g) l = true → bGh L E ρ S φ (φ p k) (fun E H _ g => K E H g) := fun l he h => by
    rw [he] at hk
    obtain ⟨E', ρ', g, h1, h2, h3, h4, h5⟩ := bFk_ok hE hk h
    obtain ⟨H', g1, g2⟩ := (hH.ext h1 h2).set (e := .inl g) (p := p) (k := k) (φ' := φ) h4 (fun _ _ _ => rfl) h5
    exact ⟨E', ρ', H', S, g, h1, h2, h3, g1, hS.ext h1 h2, h4, g2⟩
  split at hK
  · rename_i g hg
    rw [hg] at hk
    exact ⟨E, ρ, H, S, g, Nat.le_refl _, aExt.rf, hE, hH, hS, hk, hK⟩
  · rename_i l hl
    split at hK
    · rename_i i
      rw [zEq_eq, zIf] at hK
      split at hK
      · rename_i hi
        rw [aFz_eq] at hK
        rw [hl] at hk
        obtain ⟨q, hq, q1, q2⟩ := hk
        rw [List.mem_singleton] at hq
        subst hq
        have hz : φ p k = q.1 := by omega
        rw [hz]
        exact ⟨E, ρ, H, S, _, Nat.le_refl _, aExt.rf, hE, hH, hS, aFok.c0 hE, hK⟩
      · exact key [i] hl (by
          show (aNew E i _ && true) = true
          rw [Bool.and_true]
          exact hK)
    · exact key _ hl hK
theorem bSf_ok : ∀ (S : bS), bSk n ρ S φ → aFok n ρ f x → 0 ≤ x → bSf p f S = some g → aFok n ρ g (φ p x.toNat)
  | [], _, _, _, h => by cases h
  | q :: t, hS, hf, h0, h => by
    unfold bSf at h
    rw [zEq_eq] at h
    cases hc : (Nat.beq q.1 p && (Nat.beq q.2.1.1 f.1 && decide (q.2.1.2 = f.2))) with
    | true =>
      rw [hc] at h
      cases h
      simp only [Bool.and_eq_true, decide_eq_true_eq] at hc
      have e0 := Nat.eq_of_beq_eq_true hc.1
      have e1 := Nat.eq_of_beq_eq_true hc.2.1
      obtain ⟨-, h2⟩ := hS q List.mem_cons_self
      rw [e0, e1, hc.2.2, ← hf.2] at h2
      exact h2 h0
    | false =>
      rw [hc] at h
      exact bSf_ok t (fun r hr => hS r (List.mem_cons_of_mem _ hr)) hf h0 h
theorem bSk_cons (hS : bSk n ρ S φ) (hf : aFok n ρ f x) (hg : aFok n ρ g (φ p x.toNat)) : bSk n ρ ((p, f, g) :: S) φ := fun q hq => by
  rcases List.mem_cons.mp hq with rfl | hq
  · refine ⟨hf.1, fun _ => ?_⟩
    show aFok n ρ g (φ p (ρ f.1 + f.2).toNat)
    rw [← hf.2]
    exact hg
  · exact hS q hq
theorem bGetA_ok {K : aE → bH → bS → aF → Bool} (hE : aEok L ρ E) (hH : bHok E.length ρ H φ) (hS : bSk E.length ρ S φ) (hf : aFok E.length ρ f x) (hx : x.toNat = k) (hK : bGetA E H S p f K = true) : bGh L E ρ S φ (φ p k) K := by
  subst hx
  unfold bGetA at hK
  simp only [zEq_eq, zLe_eq, zAnd, zIf, aFn_eq, fLk_eq] at hK
  split at hK
  · rename_i i hi
    have a := aItv_ok hE hf hi
    split at hK
    · have e : i.1.toNat = x.toNat := by congr 1; omega
      rw [e] at hK
      obtain ⟨E', ρ', H', S', g, h1, h2, h3, h4, h5, h6, h7⟩ := bGetK_ok (S := S) hE hH hS hK
      exact ⟨E', ρ', H', S, g, h1, h2, h3, h4, hS.ext h1 h2, h6, h7⟩
    · split at hK
      · rename_i h0
        have hx0 : 0 ≤ x := by omega
        split at hK
        · rename_i g hg
          exact ⟨E, ρ, H, S, g, Nat.le_refl _, aExt.rf, hE, hH, hS, bSf_ok S hS hf hx0 hg, hK⟩
        · split at hK
          · rename_i dd hd hn
            have hz : bIn dd (φ p x.toNat) := by
              have := hH p x.toNat
              unfold bEn at this
              rw [fLk_eq, hn, bGu_ok hd] at this
              exact this
            obtain ⟨E', ρ', g, h1, h2, h3, h4, h5⟩ := bFk_ok hE hz hK
            exact ⟨E', ρ', H, (p, f, g) :: S, g, h1, h2, h3, hH.ext h1 h2, bSk_cons (hS.ext h1 h2) (hf.ext h1 h2) h4, h4, h5⟩
          · cases hb : Nat.ble (i.2 - i.1).toNat 200 with
            | false => rw [hb] at hK; cases hK
            | true =>
              rw [hb] at hK
              simp only [cond_true] at hK
              split at hK
              · rename_i j hj
                have hin := bHu_ok hE hH _ _ j hj x.toNat (by omega) (by omega)
                obtain ⟨E', ρ', g, h1, h2, h3, h4, h5⟩ := aNew_ok hE hin.1 hin.2 hK
                exact ⟨E', ρ', H, (p, f, g) :: S, g, h1, h2, h3, hH.ext h1 h2, bSk_cons (hS.ext h1 h2) (hf.ext h1 h2) h4, h4, h5⟩
              · cases hK
      · cases hK
  · cases hK
/-- one entry of a row that may be written: the new and the old are both in it -/
theorem bW1_ok {K : bH → Bool} (hE : aEok L ρ E) (h1 : j.1 ≤ z) (h2 : z ≤ j.2) {ψ : Nat → Nat → Int} (hψ : ∀ q m, bEk n ρ (bEn H q m) (ψ q m)) (hK : bW1 E p k j H K = true) : ∃ H', (∀ q m, bEk n ρ (bEn H' q m) (ψ q m)) ∧ bEk n ρ (bEn H' p k) z ∧ (∀ q m w, ¬ (q = p ∧ m = k) → bEk n ρ (bEn H q m) w → bEk n ρ (bEn H' q m) w) ∧ K H' = true := by
  have ho := hψ p k
  unfold bW1 at hK
  split at hK
  · rename_i g hg
    rw [hg] at ho
    split at hK
    · rename_i i hi
      rw [aFz_eq, aFz_eq] at hK
      have a := aItv_ok hE ho hi
      have m1 := aMin_le i.1 j.1
      have m2 := aMax_le i.2 j.2
      obtain ⟨H', e1, e2⟩ := bSetO_ok hK
      refine ⟨H', fun q m => ?_, ?_, fun q m w hq hw => ?_, e2⟩
      · rw [e1]
        by_cases c : q = p ∧ m = k
        · rw [if_pos c, c.1, c.2]
          exact ⟨_, List.mem_cons_self, by show aMin i.1 j.1 ≤ _; omega, by show _ ≤ aMax i.2 j.2; omega⟩
        · rw [if_neg c]
          exact hψ q m
      · rw [e1, if_pos ⟨rfl, rfl⟩]
        exact ⟨_, List.mem_cons_self, by show aMin i.1 j.1 ≤ _; omega, by show _ ≤ aMax i.2 j.2; omega⟩
      · rw [e1, if_neg hq]
        exact hw
    · cases hK
  · rename_i l hl
    rw [hl] at ho
    cases hc : bCov j l with
    | true =>
      rw [hc] at hK
      refine ⟨H, hψ, ?_, fun _ _ _ _ hw => hw, hK⟩
      rw [hl]
      exact bCov_ok hc h1 h2
    | false =>
      rw [hc] at hK
      obtain ⟨H', e1, e2⟩ := bSetO_ok hK
      refine ⟨H', fun q m => ?_, ?_, fun q m w hq hw => ?_, e2⟩
      · rw [e1]
        by_cases c : q = p ∧ m = k
        · rw [if_pos c, c.1, c.2]
          obtain ⟨q, hq, g1, g2⟩ := ho
          exact ⟨q, List.mem_cons_of_mem _ hq, g1, g2⟩
        · rw [if_neg c]
          exact hψ q m
      · rw [e1, if_pos ⟨rfl, rfl⟩]
        exact ⟨j, List.mem_cons_self, h1, h2⟩
      · rw [e1, if_neg hq]
        exact hw
theorem bWp_ok (hE : aEok L ρ E) (a : Nat) (h1 : j.1 ≤ z) (h2 : z ≤ j.2) {ψ : Nat → Nat → Int} : ∀ (m : Nat) (H : bH) (K : bH → Bool), (∀ q m, bEk n ρ (bEn H q m) (ψ q m)) → bWp E p a j m H K = true → ∃ H', (∀ q m, bEk n ρ (bEn H' q m) (ψ q m)) ∧ (∀ k, a ≤ k → k ≤ a + m → bEk n ρ (bEn H' p k) z) ∧ (∀ q k w, ¬ (q = p ∧ a ≤ k ∧ k ≤ a + m) → bEk n ρ (bEn H q k) w → bEk n ρ (bEn H' q k) w) ∧ K H' = true
  | 0, H, K, hψ, hK => by
    obtain ⟨H', g1, g2, g3, g4⟩ := bW1_ok hE h1 h2 hψ hK
    refine ⟨H', g1, fun k k1 k2 => ?_, fun q k w hq hw => g3 q k w (fun e => hq ⟨e.1, by omega⟩) hw, g4⟩
    have : k = a := by omega
    subst this
    exact g2
  | m + 1, H, K, hψ, hK => by
    obtain ⟨H1, a1, a2, a3, a4⟩ := bWp_ok hE a h1 h2 m H _ hψ hK
    obtain ⟨H', g1, g2, g3, g4⟩ := bW1_ok hE h1 h2 a1 a4
    refine ⟨H', g1, fun k k1 k2 => ?_, fun q k w hq hw => g3 q k w (fun e => hq ⟨e.1, by omega⟩) (a3 q k w (fun e => hq ⟨e.1, by omega⟩) hw), g4⟩
    by_cases c : k = a + m + 1
    · subst c
      exact g2
    · exact g3 p k z (fun e => c e.2) (a2 k k1 (by omega))
theorem bSk_del (hS : bSk n ρ S φ) (ho : ∀ q j, q ≠ p → φ' q j = φ q j) : bSk n ρ (S.filter fun q => !(Nat.beq q.1 p)) φ' := fun q hq => by
  obtain ⟨q1, q2⟩ := List.mem_filter.mp hq
  have hne : q.1 ≠ p := fun e => by rw [e] at q2; simp at q2
  obtain ⟨h1, h2⟩ := hS q q1
  exact ⟨h1, fun h0 => by rw [ho _ _ hne]; exact h2 h0⟩
theorem bPutA_ok {K : bH → bS → Nat → Bool} (hE : aEok L ρ E) (hH : bHok E.length ρ H φ) (hS : bSk E.length ρ S φ) (hf : aFok E.length ρ f x) (hg : aFok E.length ρ g z) (h0 : 0 ≤ x) (hx : x.toNat = k) (hK : bPutA E H S p f g K = true) : ∃ H' S' m, bHok E.length ρ H' (aUp φ p k z) ∧ bSk E.length ρ S' (aUp φ p k z) ∧ m.testBit (bRg p k) = true ∧ K H' S' m = true := by
  subst hx
  have hup : ∀ q j, ¬ (q = p ∧ j = x.toNat) → aUp φ p x.toNat z q j = φ q j := fun q j h => if_neg h
  have hup2 : ∀ q j, q ≠ p → aUp φ p x.toNat z q j = φ q j := fun q j h => if_neg (fun e => h e.1)
  have hat : aUp φ p x.toNat z p x.toNat = z := if_pos ⟨rfl, rfl⟩
  unfold bPutA at hK
  simp only [zEq_eq, zLe_eq, zAnd, zIf, aFn_eq, fLk_eq, fDel_eq] at hK
  split at hK
  · rename_i i j hi hj
    have a := aItv_ok hE hf hi
    have b := aItv_ok hE hg hj
    split at hK
    · have e : i.1.toNat = x.toNat := by congr 1; omega
      rw [e] at hK
      obtain ⟨H', g1, g2⟩ := hH.set (e := .inl g) (p := p) (k := x.toNat) (φ' := aUp φ p x.toNat z) (by rw [hat]; exact hg) hup hK
      exact ⟨H', _, _, g1, bSk_del hS hup2, bRm_ok p _ 0 _ (Nat.le_refl _) (Nat.le_refl _), g2⟩
    · split at hK
      · rename_i hpos
        have hm := bRm_ok p i.1.toNat (i.2 - i.1).toNat x.toNat (by omega) (by omega)
        have hS' : bSk E.length ρ ((p, f, g) :: S.filter fun q => !(Nat.beq q.1 p)) (aUp φ p x.toNat z) := bSk_cons (bSk_del hS hup2) hf (by rw [hat]; exact hg)
        split at hK
        · rename_i dd hd hn
          cases hc : bCov j dd with
          | false => rw [hc] at hK; cases hK
          | true =>
            rw [hc] at hK
            refine ⟨H, _, _, fun q m => ?_, hS', hm, hK⟩
            by_cases c : q = p ∧ m = x.toNat
            · rw [c.1, c.2, hat]
              unfold bEn
              rw [fLk_eq, hn, bGu_ok hd]
              exact bCov_ok hc b.1 b.2
            · rw [hup q m c]
              exact hH q m
        · cases hb : Nat.ble (i.2 - i.1).toNat 200 with
          | false => rw [hb] at hK; cases hK
          | true =>
            rw [hb] at hK
            obtain ⟨H', w1, w2, w3, w4⟩ := bWp_ok hE i.1.toNat b.1 b.2 _ H _ hH hK
            refine ⟨H', _, _, fun q m => ?_, hS', hm, w4⟩
            by_cases c : q = p ∧ m = x.toNat
            · rw [c.1, c.2, hat]
              exact w2 x.toNat (by omega) (by omega)
            · rw [hup q m c]
              exact w1 q m
      · cases hK
  · cases hK
end
