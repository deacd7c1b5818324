/-! contracts of methods -/
section
/-- method, arguments, environment, heap at the call; what may come of it (result, environment behind it: more variables, the first ones narrower, heap); regions written; depth -/
abbrev bAl : Type := Option bV × aE × bH
abbrev bCt : Type := Nat × List bV × aE × bH × List bAl × Nat × Nat
/-- one outcome -/
def bAlOk (L : aLa) (ρ : Nat → Int) (E0 : aE) (Kp : pmS → Prop) (σ : pmS) (W : Nat) (al : bAl) (v : Option Value) (σ' : pmS) : Prop := ∃ ρ', aExt E0.length ρ ρ' ∧ E0.length ≤ al.2.1.length ∧ aEok L ρ' al.2.1 ∧ bRok al.2.1.length ρ' al.1 v ∧ bMok al.2.1.length ρ' Kp σ (al.2.2, [], W) σ'
def bCok (ro : Nat → Nat × (Nat → Int32)) (L : aLa) (Kp : pmS → Prop) (c : bCt) : Prop := match c with
  | (mm, aB, E0, H0, alts, W, D) => ∀ ρ vs σ, aEok L ρ E0 → bMok E0.length ρ Kp σ (H0, [], 0) σ → bSok E0.length ρ aB vs → pmCs ro D mm vs σ fun v σ' => ∃ al ∈ alts, bAlOk L ρ E0 Kp σ W al v σ'
/-- a form of the contract, at the call -/
noncomputable def bSt (nB nE : Nat) (S : bSu) (f : aF) : aF := bif Nat.blt f.1 nB then (match bSb 2 S f with
  | some h => h
  | none => (0, 0)) else (Nat.add nE (Nat.sub f.1 nB), f.2)
noncomputable def bSv (nB nE : Nat) (S : bSu) (a : bV) : bV := match a with
  | .inl (t, f) => .inl (t, bSt nB nE S f)
  | .inr ps => .inr ps
noncomputable def bSn (nB nE : Nat) (S : bSu) (e : bN) : bN := match e with
  | .inl f => .inl (bSt nB nE S f)
  | .inr l => .inr l
/-- what is written is forgotten -/
noncomputable def bFl (W : Nat) (H : bH) : bH := H.map fun q => (q.1, q.2.filter fun r => !(W.testBit (bRg q.1 r.1)))
noncomputable def bFs (E : aE) (W : Nat) (R : bS) : bS := R.filter fun q => (bSing q.1 && !(W.testBit (bRg q.1 0))) || (match aItv E q.2.1 with
  | some i => zLe 0 i.1 && (zLe i.1 i.2 && Nat.beq (Nat.land W (bRm q.1 i.1.toNat (i.2 - i.1).toNat)) 0)
  | none => false)
noncomputable def bPu (H1 : bH) (nB nE : Nat) (S : bSu) (p : Nat) : bO → bH → (bH → Bool) → Bool
  | [], H, K => K H
  | q :: t, H, K => bPu H1 nB nE S p t H fun H => bSetO p q.1 (bSn nB nE S (bEn H1 p q.1)) H K
noncomputable def bPh (H1 : bH) (nB nE : Nat) (S : bSu) : bH → bH → (bH → Bool) → Bool
  | [], H, K => K H
  | q :: t, H, K => bPh H1 nB nE S t H fun H => bPu H1 nB nE S q.1 q.2 H K
noncomputable def bCm (S : bSu) (aB : List bV) (EB : aE) (HB : bH) (nB : Nat) (args : List bV) (X : aX) (M : bM) : Bool := Nat.ble 2 nB && (bMs X.1 2 nB S aB args && (bMe X.1 2 S 0 EB && (bMh X.1 2 nB S HB M.1 && bFg M.2.2)))
/-- what is known of the arguments behind the call -/
noncomputable def bNw (nB : Nat) (S : bSu) : Nat → aE → aX → (aX → Bool) → Bool
  | _, [], X, k => k X
  | w, i :: t, X, k => bif Nat.blt w nB then (bif Nat.blt w 2 then bNw nB S (Nat.succ w) t X k else (match fLk S w with
    | some h => aLe X (0, i.1) h 0 fun X => aLe X h (0, i.2) 0 fun X => bNw nB S (Nat.succ w) t X k
    | none => false)) else k X
noncomputable def bAp (S : bSu) (nB : Nat) (alts : List bAl) (W : Nat) (X : aX) (M : bM) (k : Option bV → aX → bM → Bool) : Bool := aFn (fLen X.1) fun nE => aFw (bFl W M.1) fun Hf => aFw (bFs X.1 W M.2.1) fun R => aFn (Nat.lor M.2.2 W) fun W => alts.all fun al => bNw nB S 0 al.2.1 X fun X => bPh al.2.2 nB nE S al.2.2 Hf fun H => k (al.1.map (bSv nB nE S)) (X.1 ++ al.2.1.drop nB, X.2) (H, R, W)
noncomputable def bCq (d mm : Nat) (args : List bV) (X : aX) (M : bM) (k : Option bV → aX → bM → Bool) : List bCt → Option Bool → Option Bool
  | [], r => r
  | (m, aB, EB, HB, alts, W, D) :: t, r => bif Nat.beq m mm then aFw (bCh 2 M.1 HB (bCs 2 aB args [])) fun S => aFn (fLen EB) fun nB =>
      (bif Nat.ble D d && bTi X.2.1 X (fun X => bCm S aB EB HB nB args X M) then some (bAp S nB alts W X M k) else bCq d mm args X M k t (some false))
    else bCq d mm args X M k t r
noncomputable def bCc (cons : List bCt) : bCon := fun d mm args X M k => bCq d mm args X M k cons none
variable {L : aLa} {ρ ρ' ρ0 ρe : Nat → Int} {E : aE} {X : aX} {M : bM} {nC nB nE m n0 : Nat} {S : bSu} {f g : aF} {x z : Int} {Kp : pmS → Prop} {σ0 σ σ' : pmS} {ro : Nat → Nat × (Nat → Int32)} {H H1 : bH}
theorem bMe_some : ∀ (t : aE) (w : Nat), bMe E nC S w t = true → ∀ j, j < t.length → ∃ h, bSb nC S (w + j, 0) = some h ∧ h.1 < E.length
  | [], _, _, j, hj => absurd hj (Nat.not_lt_zero _)
  | i0 :: t, w, h, j, hj => by
    unfold bMe at h
    rw [Bool.and_eq_true] at h
    cases j with
    | zero =>
      have h1 := h.1
      split at h1
      · rename_i u hu
        refine ⟨u, hu, ?_⟩
        split at h1
        · rename_i q hq
          exact aItv_lt (by rw [hq]; exact fun e => by cases e)
        · cases h1
      · cases h1
    | succ j =>
      have := bMe_some t (w + 1) h.2 j (by simpa using hj)
      rw [show w + (j + 1) = w + 1 + j by omega]
      exact this
theorem bSb_sh {h : aF} (hs : bSb nC S (f.1, 0) = some h) : ∃ g, bSb nC S f = some g ∧ g.1 = h.1 := by
  unfold bSb at hs ⊢
  cases hb : Nat.blt f.1 nC with
  | true =>
    rw [hb] at hs
    cases hs
    exact ⟨f, rfl, rfl⟩
  | false =>
    rw [hb] at hs
    simp only [cond_false] at hs ⊢
    split at hs
    · rename_i g hg
      cases hs
      exact ⟨_, rfl, rfl⟩
    · cases hs
/-- what the variables at the call are worth behind it -/
def bRx (nB nE : Nat) (ρ ρ' : Nat → Int) (w : Nat) : Int := if w < nE then ρ w else ρ' (nB + (w - nE))
theorem bSt_ok (hm : ∀ w, w < nB → ∃ h, bSb 2 S (w, 0) = some h ∧ h.1 < nE) (hr : aExt nB (bRo 2 S ρ) ρ') (hf : aFok (nB + m) ρ' f z) : aFok (nE + m) (bRx nB nE ρ ρ') (bSt nB nE S f) z := by
  obtain ⟨h1, h2⟩ := hf
  unfold bSt
  cases hb : Nat.blt f.1 nB with
  | true =>
    have hlt := bBlt hb
    obtain ⟨h, e1, e2⟩ := hm _ hlt
    obtain ⟨g, e3, e4⟩ := bSb_sh e1
    simp only [cond_true, e3]
    refine ⟨by omega, ?_⟩
    have e5 := bSb_ok (ρ := ρ) e3
    unfold bRx
    rw [if_pos (by omega), e5, h2, hr _ hlt]
  | false =>
    have hge : ¬ f.1 < nB := fun h => by
      have : Nat.blt f.1 nB = true := Nat.ble_eq_true_of_le h
      rw [this] at hb
      cases hb
    simp only [cond_false]
    refine ⟨?_, ?_⟩
    · show nE + (f.1 - nB) < nE + m
      omega
    · unfold bRx
      show z = (if nE + (f.1 - nB) < nE then ρ (nE + (f.1 - nB)) else ρ' (nB + (nE + (f.1 - nB) - nE))) + f.2
      rw [if_neg (by omega), show nB + (nE + (f.1 - nB) - nE) = f.1 by omega]
      exact h2
theorem bSv_ok {a : bV} {v : Value} (hm : ∀ w, w < nB → ∃ h, bSb 2 S (w, 0) = some h ∧ h.1 < nE) (hr : aExt nB (bRo 2 S ρ) ρ') (h : bVok (nB + m) ρ' a v) : bVok (nE + m) (bRx nB nE ρ ρ') (bSv nB nE S a) v := by
  match a, h with
  | .inl (false, f), h =>
    obtain ⟨x, rfl, hx⟩ := bVok_int h
    exact bSt_ok hm hr hx
  | .inl (true, f), h =>
    obtain ⟨x, rfl, hx⟩ := bVok_long h
    exact bSt_ok hm hr hx
  | .inr ps, h =>
    obtain ⟨q, rfl, hq⟩ := bVok_ref h
    exact hq
theorem bSn_ok {e : bN} (hm : ∀ w, w < nB → ∃ h, bSb 2 S (w, 0) = some h ∧ h.1 < nE) (hr : aExt nB (bRo 2 S ρ) ρ') (h : bEk (nB + m) ρ' e z) : bEk (nE + m) (bRx nB nE ρ ρ') (bSn nB nE S e) z := by
  match e, h with
  | .inl f, h => exact bSt_ok hm hr h
  | .inr l, h => exact h
theorem bFl_lk {β : Type} (P : Nat → Bool) (k : Nat) (l : List (Nat × β)) : fLk (l.filter fun r => P r.1) k = if P k = true then fLk l k else none := by
  rw [fLk_eq, fLk_eq]
  induction l with
  | nil => simp [pmLk]
  | cons a t ih =>
    rw [pmLk_cons]
    by_cases h : P a.1 = true
    · rw [List.filter_cons_of_pos (by exact h), pmLk_cons, ih]
      split
      · rename_i e
        rw [← e, if_pos h]
      · rfl
    · rw [List.filter_cons_of_neg (by exact h), ih]
      by_cases hk : P k = true
      · rw [if_pos hk, if_pos hk, if_neg (fun e => h (by rw [e]; exact hk))]
      · rw [if_neg hk, if_neg hk]
theorem bFl_ok (W : Nat) (H : bH) (p k : Nat) : bEn (bFl W H) p k = if W.testBit (bRg p k) = true then .inr (bGe p k) else bEn H p k := by
  have e : fLk (bFl W H) p = (fLk H p).map fun o => o.filter fun r => !(W.testBit (bRg p r.1)) := by
    unfold bFl
    rw [fLk_eq, fLk_eq]
    induction H with
    | nil => rfl
    | cons a t ih =>
      rw [List.map_cons, pmLk_cons, pmLk_cons, ih]
      split
      · rename_i e
        rw [← e]
        rfl
      · rfl
  unfold bEn
  rw [e]
  cases hp : fLk H p with
  | none => simp
  | some o =>
    simp only [Option.map_some]
    rw [bFl_lk (fun j => !(W.testBit (bRg p j))) k o]
    cases hw : W.testBit (bRg p k) with
    | true => simp
    | false => simp
theorem bPu_ok {p : Nat} : ∀ {o : bO} {H : bH} {K : bH → Bool}, bPu H1 nB nE S p o H K = true → ∃ H', (∀ q j, bEn H' q j = if q = p ∧ (fLk o j).isSome = true then bSn nB nE S (bEn H1 p j) else bEn H q j) ∧ K H' = true
  | [], H, K, h => ⟨H, fun q j => by rw [if_neg (fun c => by cases c.2)], h⟩
  | q0 :: t, H, K, h => by
    unfold bPu at h
    obtain ⟨H', h1, h2⟩ := bPu_ok (o := t) h
    obtain ⟨H'', h3, h4⟩ := bSetO_ok h2
    refine ⟨H'', fun q j => ?_, h4⟩
    rw [h3, h1, fLk_eq, fLk_eq, pmLk_cons]
    by_cases c : q = p
    · subst c
      by_cases cj : q0.1 = j
      · subst cj
        simp
      · rw [if_neg (fun e => cj e.2.symm), if_neg cj]
    · rw [if_neg (fun e => c e.1), if_neg (fun e => c e.1), if_neg (fun e => c e.1)]
theorem bPh_ok : ∀ {T : bH} {H : bH} {K : bH → Bool}, bPh H1 nB nE S T H K = true → ∃ H', (∀ q j, bEn H' q j = bEn H q j ∨ bEn H' q j = bSn nB nE S (bEn H1 q j)) ∧ (∀ q j o, fLk T q = some o → (fLk o j).isSome = true → bEn H' q j = bSn nB nE S (bEn H1 q j)) ∧ K H' = true
  | [], H, K, h => ⟨H, fun q j => Or.inl rfl, fun q j o e => (by cases e), h⟩
  | q0 :: t, H, K, h => by
    unfold bPh at h
    obtain ⟨H', h1, h2, h3⟩ := bPh_ok (T := t) h
    obtain ⟨H'', h4, h5⟩ := bPu_ok h3
    refine ⟨H'', fun q j => ?_, fun q j o ho hj => ?_, h5⟩
    · rw [h4]
      split
      · rename_i c
        rw [c.1]
        exact Or.inr rfl
      · exact h1 q j
    · rw [h4]
      rw [fLk_eq, pmLk_cons] at ho
      split at ho
      · rename_i e
        cases ho
        rw [← e, if_pos ⟨rfl, hj⟩]
      · rename_i e
        rw [if_neg (fun c => e c.1.symm)]
        exact h2 q j o (by rw [fLk_eq]; exact ho) hj
theorem bEn_def (H : bH) (p k : Nat) : (∃ o, fLk H p = some o ∧ (fLk o k).isSome = true) ∨ bEn H p k = .inr (bGe p k) := by
  unfold bEn
  cases hp : fLk H p with
  | none => exact Or.inr rfl
  | some o =>
    cases hk : fLk o k with
    | none => right; simp only [hk]
    | some e => exact Or.inl ⟨o, rfl, by rw [hk]; rfl⟩
theorem bSame.zz {p k : Nat} (h : bSame σ σ' p k) : bZ σ p k = bZ σ' p k := by
  unfold bZ
  rw [h.1, h.2]
theorem bFs_ok {W : Nat} {R : bS} (hE : aEok L ρ E) (h : bSk E.length ρ R (bZ σ)) (hs : ∀ p k, W.testBit (bRg p k) = false → bSame σ' σ p k) : bSk E.length ρ (bFs E W R) (bZ σ') := by
  intro q hq
  unfold bFs at hq
  rw [List.mem_filter, Bool.or_eq_true, Bool.and_eq_true] at hq
  obtain ⟨h1, h2⟩ := hq
  obtain ⟨h4, h5⟩ := h q h1
  refine ⟨h4, fun h0 => ?_⟩
  rcases h2 with ⟨h2, h3⟩ | h2
  · rw [(hs q.1 _ (by rw [bRg_sing h2 _ 0]; simpa using h3)).zz]
    exact h5 h0
  · split at h2
    · rename_i i hi
      rw [zLe_eq, zLe_eq, Bool.and_eq_true, Bool.and_eq_true, decide_eq_true_eq, decide_eq_true_eq] at h2
      obtain ⟨g1, g2, g3⟩ := h2
      have a := aItv_ok (z := ρ q.2.1.1 + q.2.1.2) hE ⟨h4, rfl⟩ hi
      have hb := bRm_ok q.1 i.1.toNat (i.2 - i.1).toNat (ρ q.2.1.1 + q.2.1.2).toNat (by omega) (by omega)
      have e : W &&& bRm q.1 i.1.toNat (i.2 - i.1).toNat = 0 := Nat.eq_of_beq_eq_true g3
      have hw : W.testBit (bRg q.1 (ρ q.2.1.1 + q.2.1.2).toNat) = false := by
        have : (W &&& bRm q.1 i.1.toNat (i.2 - i.1).toNat).testBit (bRg q.1 (ρ q.2.1.1 + q.2.1.2).toNat) = false := by rw [e]; exact Nat.zero_testBit _
        rw [Nat.testBit_and, hb, Bool.and_true] at this
        exact this
      rw [(hs q.1 _ hw).zz]
      exact h5 h0
    · cases h2
theorem bRok_map {r : Option bV} {v : Option Value} (hm : ∀ w, w < nB → ∃ h, bSb 2 S (w, 0) = some h ∧ h.1 < nE) (hr : aExt nB (bRo 2 S ρ) ρ') (h : bRok (nB + m) ρ' r v) : bRok (nE + m) (bRx nB nE ρ ρ') (r.map (bSv nB nE S)) v := by
  match r, v, h with
  | none, none, _ => trivial
  | some a, some v, h => exact bSv_ok hm hr h
theorem bNw_ok {k : aX → Bool} (hr : ∀ w, w < nB → ρ' w = bRo 2 S ρ w) : ∀ (t : aE) (w : Nat) (X : aX), (∀ w, w < nB → ∃ h, bSb 2 S (w, 0) = some h ∧ h.1 < X.1.length) → aXok L ρ X → (∀ j i, t[j]? = some i → i.1 ≤ ρ' (w + j) ∧ ρ' (w + j) ≤ i.2) → bNw nB S w t X k = true → aGx L X ρ k
  | [], w, X, _, hX, _, h => aGx.same hX h
  | i :: t, w, X, hm, hX, ht, h => by
    unfold bNw at h
    have ht' : ∀ j i, t[j]? = some i → i.1 ≤ ρ' (w + 1 + j) ∧ ρ' (w + 1 + j) ≤ i.2 := fun j i hj => by
      have := ht (j + 1) i hj
      rwa [show w + (j + 1) = w + 1 + j by omega] at this
    have h0 := ht 0 i rfl
    rw [Nat.add_zero] at h0
    cases hb : Nat.blt w nB with
    | false =>
      rw [hb] at h
      exact aGx.same hX h
    | true =>
      rw [hb] at h
      have hwn := bBlt hb
      simp only [cond_true] at h
      cases hb2 : Nat.blt w 2 with
      | true =>
        rw [hb2] at h
        exact bNw_ok hr t (w + 1) X hm hX ht' h
      | false =>
        rw [hb2] at h
        simp only [cond_false] at h
        split at h
        · rename_i g hg
          obtain ⟨u, e1, e2⟩ := hm w hwn
          have e3 := bSb_ok (ρ := ρ) e1
          unfold bSb at e1
          rw [hb2] at e1
          simp only [cond_false, hg, Option.some.injEq] at e1
          rw [zAdd_eq, Int.add_zero] at e1
          have e1 : g = u := e1
          subst e1
          have e4 := hr w hwn
          have e3 : ρ g.1 + g.2 = bRo 2 S ρ w + 0 := e3
          have hf : aFok X.1.length ρ g (ρ g.1 + g.2) := ⟨e2, rfl⟩
          obtain ⟨Y, y1, y2, y3⟩ := aLe_ok hX (aFok.c0 hX.1) hf (d := 0) (x := i.1) (by omega) h
          have hf2 : aFok Y.1.length ρ g (ρ g.1 + g.2) := by rw [y1]; exact hf
          obtain ⟨Z, z1, z2, z3⟩ := aLe_ok y2 hf2 (aFok.c0 y2.1) (d := 0) (y := i.2) (by omega) y3
          exact ((bNw_ok hr t (w + 1) Z (by rw [z1, y1]; exact hm) z2 ht' z3).tr z1).tr y1
        · cases h
theorem bCc_ok {cons : List bCt} (hc : ∀ c ∈ cons, bCok ro L Kp c) : bConOk ro L Kp σ0 (bCc cons) := by
  intro d mm args X M k ρ vs σ Q hh hX hM hs hk
  unfold bCc at hh
  have key : ∀ (l : List bCt) (r : Option Bool), (∀ c ∈ l, bCok ro L Kp c) → r ≠ some true → bCq d mm args X M k l r = some true → pmCs ro d mm vs σ Q := by
    intro l
    induction l with
    | nil =>
      intro r _ hr h
      exact absurd h hr
    | cons c t ih =>
      intro r hc hr h
      obtain ⟨m0, aB, EB, HB, alts, W, D⟩ := c
      unfold bCq at h
      cases hb : Nat.beq m0 mm with
      | false =>
        rw [hb] at h
        exact ih r (fun c hc' => hc c (List.mem_cons_of_mem _ hc')) hr h
      | true =>
        rw [hb] at h
        simp only [cond_true, aFw_eq, aFn_eq, fLen_eq] at h
        cases hq : (Nat.ble D d && bTi X.2.1 X (fun X => bCm (bCh 2 M.1 HB (bCs 2 aB args [])) aB EB HB EB.length args X M)) with
        | false =>
          rw [hq] at h
          exact ih (some false) (fun c hc' => hc c (List.mem_cons_of_mem _ hc')) (fun e => by cases e) h
        | true =>
          rw [hq] at h
          simp only [cond_true, Option.some.injEq] at h
          generalize bCh 2 M.1 HB (bCs 2 aB args []) = S at h hq
          rw [Bool.and_eq_true] at hq
          obtain ⟨hD, hq⟩ := hq
          obtain ⟨X0, x1, hX0, hq⟩ := bTi_ok X.2.1 X hX hX.2.1 hq
          unfold bCm at hq
          simp only [Bool.and_eq_true] at hq
          obtain ⟨q1, q2, q3, q4, q5⟩ := hq
          have q1 := Nat.le_of_ble_eq_true q1
          have hmm := Nat.eq_of_beq_eq_true hb
          subst hmm
          have hE := hX.1
          have hE0 := hX0.1
          have hme := bMe_some EB 0 q3
          rw [x1] at hme
          have hme : ∀ w, w < EB.length → ∃ h, bSb 2 S (w, 0) = some h ∧ h.1 < X.1.length := fun w hw => by
            have := hme w hw
            rwa [Nat.zero_add] at this
          have hok := hc _ List.mem_cons_self (bRo 2 S ρ) vs σ (bMe_env hE0 (Nat.le_refl 2) (by omega) q3) ⟨hM.1, bMh_ok hE0 q4 (by rw [x1]; exact hM.2.1), fun q hq => absurd hq List.not_mem_nil, fun p k _ => ⟨rfl, rfl⟩, fun _ => hM.2.2.2.2 q5⟩ (bMs_ok hE0 q2 (by rw [x1]; exact hs))
          refine pmCs_deep (pmCs_mono hok ?_) (Nat.le_of_ble_eq_true hD)
          rintro v σ' ⟨al, ham, ρ', a1, a0, a2, a3, a4⟩
          unfold bAp at h
          simp only [aFw_eq, aFn_eq, fLen_eq] at h
          have h := List.all_eq_true.mp h al ham
          obtain ⟨Y, y1, hY, h⟩ := bNw_ok (L := L) (ρ := ρ) (ρ' := ρ') a1 al.2.1 0 X hme hX (fun j i hj => by rw [Nat.zero_add]; exact a2.2 j i hj) h
          obtain ⟨H', b1, b2, b3⟩ := bPh_ok h
          have hsm : ∀ p k, W.testBit (bRg p k) = false → bSame σ' σ p k := a4.2.2.2.1
          have hext : aExt X.1.length ρ (bRx EB.length X.1.length ρ ρ') := fun v hv => by unfold bRx; rw [if_pos hv]
          have hlen : (Y.1 ++ al.2.1.drop EB.length).length = X.1.length + (al.2.1.length - EB.length) := by rw [List.length_append, List.length_drop, y1]
          have hal : al.2.1.length = EB.length + (al.2.1.length - EB.length) := by omega
          rw [hal] at a3 a4
          have hXl : 1 < X.1.length := hE.1.2.2
          refine hk _ _ _ (bRx EB.length X.1.length ρ ρ') v σ' (by rw [hlen]; omega) hext (hY.ext (by rw [hlen, y1]; omega) (by rw [y1]; exact hext) ⟨⟨?_, ?_, by rw [hlen]; omega⟩, fun w i hw => ?_⟩) ⟨a4.1, fun p k => ?_, ?_, fun p k hp => ?_, fun hw => ?_⟩ ?_ b3
          · rw [hext 0 (by omega)]; exact hE.1.1
          · rw [hext 1 (by omega)]; exact hE.1.2.1
          · rcases Nat.lt_or_ge w X.1.length with hl | hl
            · rw [List.getElem?_append_left (by rw [y1]; exact hl)] at hw
              rw [hext w hl]
              exact hY.1.2 w i hw
            · rw [List.getElem?_append_right (by rw [y1]; exact hl), y1, List.getElem?_drop] at hw
              have := a2.2 _ i hw
              unfold bRx
              rw [if_neg (by omega)]
              exact this
          · rw [hlen]
            have hz := a4.2.1 p k
            have hsub : bEk (X.1.length + (al.2.1.length - EB.length)) (bRx EB.length X.1.length ρ ρ') (bSn EB.length X.1.length S (bEn al.2.2 p k)) (bZ σ' p k) := bSn_ok hme a1 hz
            rcases bEn_def al.2.2 p k with ⟨o, ho, hj⟩ | hdef
            · rw [b2 p k o ho hj]
              exact hsub
            · rcases b1 p k with e | e
              · rw [e, bFl_ok]
                split
                · rw [hdef] at hz
                  exact hz
                · rename_i hw
                  rw [(hsm p k (by simpa using hw)).zz]
                  exact (hM.2.1 p k).ext (by omega) hext
              · rw [e]
                exact hsub
          · rw [hlen]
            exact (bFs_ok hX.1 hM.2.2.1 hsm).ext (by omega) hext
          · have hp : (M.2.2 ||| W).testBit (bRg p k) = false := hp
            rw [Nat.testBit_or, Bool.or_eq_false_iff] at hp
            obtain ⟨s1, s2⟩ := hsm p k hp.2
            obtain ⟨s3, s4⟩ := hM.2.2.2.1 p k hp.1
            exact ⟨s1.trans s3, s2.trans s4⟩
          · exact a4.2.2.2.2 (bFg_lor (w := M.2.2) (m := W) hw).2
          · rw [hlen]
            exact bRok_map hme a1 a3
  exact key cons none hc (fun e => by cases e) hh
end
