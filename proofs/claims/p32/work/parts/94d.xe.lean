/-! the engine's contracts, told simply: how a state is one of ints and longs, what a contract gives -/
section
set_option maxRecDepth 100000
theorem xZok : (List.range 126).all (fun p => decide (aG2 bZT p = xZ[p]?)) = true := by decide +kernel
variable {ro : Nat → Nat × (Nat → Int32)} {L : aLa} {Kp : pmS → Prop} {d mm D W n p : Nat} {a a' : xA} {b b' : xB} {Q Q' : Option Value → pmS → Prop} {vs : List Value} {σ : pmS} {ρ ρ' : Nat → Int} {lo hi z k : Int} {v : Option Value}
theorem xEx (h : kOk σ) : ∃ a b, σ = xS a b ∧ xAr a := by
  refine ⟨fun p k => (σ.2.1 p k.toNat).toInt, fun p k => σ.2.2 p k.toNat, ?_, fun p k => aB32 _⟩
  have e1 : σ.1 = xZ := by
    apply List.ext_getElem?
    intro p
    rw [h.1 p]
    by_cases c : p < 126
    · exact of_decide_eq_true (List.all_eq_true.mp xZok p (List.mem_range.mpr c))
    · have h2 := h.1 126
      rw [show aG2 bZT 126 = none from rfl, List.getElem?_eq_none_iff] at h2
      rw [← h.1 p, List.getElem?_eq_none (by omega), List.getElem?_eq_none (by show 126 ≤ p; omega)]
  obtain ⟨σ1, σ2, σ3⟩ := σ
  have e1 : σ1 = xZ := e1
  subst e1
  show (xZ, σ2, σ3) = (xZ, (fun p (k : Nat) => Int32.ofInt ((σ2 p ((k : Int)).toNat).toInt)), fun p (k : Nat) => σ3 p ((k : Int)).toNat)
  simp only [Int32.ofInt_toInt, Int.toNat_natCast]
/-- what isn't written stays -/
theorem xFr (h : kSm W (xS a' b') (xS a b)) (hA' : xAr a') (hA : xAr a) (h0 : 0 ≤ k) (hb : W.testBit (bRg p k.toNat) = false) : a' p k = a p k ∧ b' p k = b p k := by
  obtain ⟨h1, h2⟩ := h p k.toNat hb
  have h1 : Int32.ofInt (a' p ((k.toNat : Nat) : Int)) = Int32.ofInt (a p ((k.toNat : Nat) : Int)) := h1
  have h2 : b' p ((k.toNat : Nat) : Int) = b p ((k.toNat : Nat) : Int) := h2
  rw [Int.toNat_of_nonneg h0] at h1 h2
  exact ⟨(xEq (hA' p k) (hA p k)).mp h1, h2⟩
/-- of a row that is one region -/
theorem xFrr (h : kSm W (xS a' b') (xS a b)) (hA' : xAr a') (hA : xAr a) (hs : bSing p = true) (hb : W.testBit (bRg p 0) = false) (h0 : 0 ≤ k) : a' p k = a p k ∧ b' p k = b p k := xFr h hA' hA h0 (by rw [bRg_sing hs k.toNat 0]; exact hb)
def xRo (l : List Int) (w : Nat) : Int := l.getD w 0
def xEl : aE → List Int → Prop
  | [], [] => True
  | i :: E, z :: l => (i.1 ≤ z ∧ z ≤ i.2) ∧ xEl E l
  | _, _ => False
theorem xEl_at : ∀ {E : aE} {l : List Int} {w : Nat} {i : aI}, xEl E l → E[w]? = some i → i.1 ≤ xRo l w ∧ xRo l w ≤ i.2
  | [], _, w, _, _, h => by cases h
  | j :: E, [], _, _, h, _ => h.elim
  | j :: E, z :: l, 0, i, h, hi => by cases hi; exact h.1
  | j :: E, z :: l, w + 1, i, h, hi => xEl_at (w := w) h.2 hi
theorem xEl_ok {E : aE} {l : List Int} (h : xEl E (0 :: L.1 :: l)) (hn : Nat.ble 2 E.length = true) : aEok L (xRo (0 :: L.1 :: l)) E := ⟨⟨rfl, rfl, by have := Nat.le_of_ble_eq_true hn; omega⟩, fun _ _ hi => xEl_at h hi⟩
theorem xVk {x : Int} {v : Nat} (h : xR x) (hn : v < n) (hr : ρ v = x) : bVok n ρ (.inl (false, (v, 0))) (xV x) := ⟨hn, by
  show (Int32.ofInt x).toInt = ρ v + 0
  rw [xI h, hr]
  omega⟩
theorem xVl {x : Int64} {v : Nat} (hn : v < n) (hr : ρ v = x.toInt) : bVok n ρ (.inl (true, (v, 0))) (.long x) := ⟨hn, by
  show x.toInt = ρ v + 0
  rw [hr]
  omega⟩
theorem xVr {q : Nat} {ps : List Nat} (h : q ∈ ps) : bVok n ρ (.inr ps) (.ref q) := h
theorem xRi {E : aE} {w : Nat} (h : bRok n ρ (some (.inl (false, (w, 0)))) v) (hE : aEok L ρ E) (hj : E[w]? = some (lo, hi)) : ∃ z, v = some (xV z) ∧ lo ≤ z ∧ z ≤ hi ∧ z = ρ w := by
  cases v with
  | none => exact h.elim
  | some v =>
    obtain ⟨x, rfl, hx⟩ := bVok_int h
    have hx : x.toInt = ρ w + 0 := hx.2
    have hb := hE.2 _ _ hj
    refine ⟨x.toInt, ?_, ?_, ?_, ?_⟩
    · unfold xV
      rw [Int32.ofInt_toInt]
    · have : lo ≤ ρ w := hb.1
      omega
    · have : ρ w ≤ hi := hb.2
      omega
    · omega
theorem xRl {E : aE} {w : Nat} (h : bRok n ρ (some (.inl (true, (w, 0)))) v) (hE : aEok L ρ E) (hj : E[w]? = some (lo, hi)) : ∃ x : Int64, v = some (.long x) ∧ lo ≤ x.toInt ∧ x.toInt ≤ hi := by
  cases v with
  | none => exact h.elim
  | some v =>
    obtain ⟨x, rfl, hx⟩ := bVok_long h
    have hx : x.toInt = ρ w + 0 := hx.2
    have hb := hE.2 _ _ hj
    refine ⟨x, rfl, ?_, ?_⟩
    · have : lo ≤ ρ w := hb.1
      omega
    · have : ρ w ≤ hi := hb.2
      omega
theorem xRn (h : bRok n ρ none v) : v = none := by
  cases v with
  | none => rfl
  | some v => exact h.elim
/-- a contract with one outcome -/
theorem xEng {aB : List bV} {E0 E1 : aE} {H0 H1 : bH} {rB : Option bV} (hc : bCok ro L Kp (mm, aB, E0, H0, [(rB, E1, H1)], W, D)) (hd : D ≤ d) (hE : aEok L ρ E0) (hM : bMok E0.length ρ Kp (xS a b) (H0, [], 0) (xS a b)) (hs : bSok E0.length ρ aB vs) (hm : bMh E1 E1.length E1.length [] [] H1 = true) (hf : bFg W = true)
    (hQ : ∀ v a' b' ρ', kOk (xS a' b') → Kp (xS a' b') → xAr a' → kSm W (xS a' b') (xS a b) → aEok L ρ' E1 → bRok E1.length ρ' rB v → aExt E0.length ρ ρ' → bMok E1.length ρ' Kp (xS a b) (H1, [], W) (xS a' b') → Q v (xS a' b')) : pmCs ro d mm vs (xS a b) Q := by
  refine pmCs_deep (d := D) (pmCs_mono (hc ρ vs (xS a b) hE hM hs) ?_) hd
  rintro v σ' ⟨al, hal, ρ', a1, a2, a3, a4, a5⟩
  rw [List.mem_singleton] at hal
  subst hal
  have hok : kOk σ' := kOk_m (E := E1) a3 hm a5
  obtain ⟨a', b', rfl, hA⟩ := xEx hok
  exact hQ v a' b' ρ' hok (a5.2.2.2.2 hf) hA a5.2.2.2.1 a3 a4 a1 a5
/-- two truths of one call -/
theorem pmCs_and {as : List Value} {d d' : Nat} (h1 : pmCs ro d mm as σ Q) (h2 : pmCs ro d' mm as σ Q') : pmCs ro (max d d') mm as σ fun v σ' => Q v σ' ∧ Q' v σ' := by
  obtain ⟨M, r, τ, e1, q1⟩ := h1
  obtain ⟨M', r', τ', e2, q2⟩ := h2
  have f1 := pmCall_le pmRoLe.rf (Nat.le_max_left M M') d (max d d') (Nat.le_max_left d d') _ _ _ _ e1
  have f2 := pmCall_le pmRoLe.rf (Nat.le_max_right M M') d' (max d d') (Nat.le_max_right d d') _ _ _ _ e2
  rw [f1] at f2
  cases f2
  exact ⟨max M M', r, τ, f1, q1, q2⟩
end
/-! writes keep the table and what is under guard -/
section
variable {a a' : xA} {b b' : xB} {p q : Nat} {k z lo hi : Int} {l : Int64}
theorem xOk_i (h : kOk (xS a b)) (h0 : 0 ≤ k) (hz : xR z) (hb : bLo p k.toNat = false) (hin : bIn (bGe p k.toNat) z) : kOk (xS (xU a p k z) b) := by
  have h2 := kOk_upi (σ := xS a b) (p := p) (k := k.toNat) (x := Int32.ofInt z) h hb (by rw [xI hz]; exact hin)
  rw [xSi (Int.toNat_of_nonneg h0)] at h2
  exact h2
theorem xOk_l (h : kOk (xS a b)) (h0 : 0 ≤ k) (hb : bLo p k.toNat = true) (hin : bIn (bGe p k.toNat) l.toInt) : kOk (xS a (xU b p k l)) := by
  have h2 := kOk_upl (σ := xS a b) (p := p) (k := k.toNat) (x := l) h hb hin
  rw [xSl (Int.toNat_of_nonneg h0)] at h2
  exact h2
theorem xIn1 {l : List aI} (hl : l = [(lo, hi)]) (h : lo ≤ z ∧ z ≤ hi) : bIn l z := by
  rw [hl]
  exact ⟨_, List.mem_singleton.mpr rfl, h⟩
theorem bInL {l : List aI} (hl : l = [(-9223372036854775808, 9223372036854775807)]) (x : Int64) : bIn l x.toInt := xIn1 hl (aB64 x)
theorem xP_i {Kp : pmS → Prop} (hK : bKfr Kp) (h : Kp (xS a b)) (hb : bPM.testBit (bRg p k.toNat) = false) (h0 : 0 ≤ k) : Kp (xS (xU a p k z) b) := by
  refine hK (xS a b) (xS (xU a p k z) b) rfl (fun q j hq => ?_) h
  refine ⟨?_, rfl⟩
  show Int32.ofInt (xU a p k z q (j : Int)) = Int32.ofInt (a q (j : Int))
  unfold xU
  rw [if_neg]
  rintro ⟨rfl, e⟩
  have : j = k.toNat := by omega
  rw [this, hb] at hq
  cases hq
theorem xP_l {Kp : pmS → Prop} (hK : bKfr Kp) (h : Kp (xS a b)) (hb : bPM.testBit (bRg p k.toNat) = false) (h0 : 0 ≤ k) : Kp (xS a (xU b p k l)) := by
  refine hK (xS a b) (xS a (xU b p k l)) rfl (fun q j hq => ?_) h
  refine ⟨rfl, ?_⟩
  show xU b p k l q (j : Int) = b q (j : Int)
  unfold xU
  rw [if_neg]
  rintro ⟨rfl, e⟩
  have : j = k.toNat := by omega
  rw [this, hb] at hq
  cases hq
end
