/-! the second make is sound: what holds at a place -/
section
def bVok (n : Nat) (ρ : Nat → Int) : bV → Value → Prop
  | .inl (false, f), .int x => aFok n ρ f x.toInt
  | .inl (true, f), .long x => aFok n ρ f x.toInt
  | .inr ps, .ref q => q ∈ ps
  | _, _ => False
def bSok (n : Nat) (ρ : Nat → Int) : List bV → List Value → Prop
  | [], [] => True
  | a :: r, v :: cr => bVok n ρ a v ∧ bSok n ρ r cr
  | _, _ => False
def bLok (n : Nat) (ρ : Nat → Int) (pl : bL) (cl : pmL) : Prop := pl.length = cl.length ∧ ∀ (i : Nat) (a : bV), pl[i]? = some (some a) → ∃ v, cl[i]? = some (some v) ∧ bVok n ρ a v
/-- a long stands here -/
noncomputable def bLo (p k : Nat) : Bool := match aG2 bZT p with
  | some s => bif Nat.ble 50 s.1 then Nat.beq s.1 51 else Nat.beq (pmKd s.1 k) 1
  | none => false
noncomputable def bZ (σ : pmS) : Nat → Nat → Int := fun p k => bif bLo p k then (σ.2.2 p k).toInt else (σ.2.1 p k).toInt
def bSame (σ σ' : pmS) (p k : Nat) : Prop := σ.2.1 p k = σ'.2.1 p k ∧ σ.2.2 p k = σ'.2.2 p k
/-- what depends on cells under guard alone -/
def bKfr (Kp : pmS → Prop) : Prop := ∀ σ σ' : pmS, σ.1 = σ'.1 → (∀ p k, bPM.testBit (bRg p k) = true → bSame σ' σ p k) → Kp σ → Kp σ'
def bMok (n : Nat) (ρ : Nat → Int) (Kp : pmS → Prop) (σ0 : pmS) (M : bM) (σ : pmS) : Prop := (∀ p : Nat, σ.1[p]? = aG2 bZT p) ∧ bHok n ρ M.1 (bZ σ) ∧ bSk n ρ M.2.1 (bZ σ) ∧ (∀ p k, M.2.2.testBit (bRg p k) = false → bSame σ σ0 p k) ∧ (bFg M.2.2 = true → Kp σ)
def bNx (ro : Nat → Nat × (Nat → Int32)) (L : aLa) (Kp : pmS → Prop) (σ0 : pmS) (o m rt pc : Nat) (i : Instr) (cl : pmL) (cs : List Value) (σ : pmS) (n : Nat) (ρ : Nat → Int) (k : bKk) : Prop :=
  ∃ pc' cl' cs' σ' X' M' pl' st' ρ', pmStep ro (fun _ _ _ => none) o m rt pc i cl cs σ = some (.inr (pc', cl', cs', σ')) ∧ n ≤ X'.1.length ∧ aExt n ρ ρ' ∧ aXok L ρ' X' ∧ bMok X'.1.length ρ' Kp σ0 M' σ' ∧ bLok X'.1.length ρ' pl' cl' ∧ bSok X'.1.length ρ' st' cs' ∧ k X' M' pc' pl' st' = true
variable {L : aLa} {ro : Nat → Nat × (Nat → Int32)} {Kp : pmS → Prop} {σ0 σ σ' : pmS} {o m rt pc pc' : Nat} {i : Instr} {cl cl' : pmL} {cs cr : List Value} {n n' : Nat} {ρ ρ' : Nat → Int} {k : bKk} {X X' : aX} {M M' : bM} {pl pl' : bL} {st r : List bV} {f g : aF} {p q : Nat} {ps qs : List Nat} {a b : bV} {v w : Value}
theorem bVok.ext (h : bVok n ρ a v) (hn : n ≤ n') (he : aExt n ρ ρ') : bVok n' ρ' a v := by
  unfold bVok at h ⊢
  split at h
  · exact h.ext hn he
  · exact h.ext hn he
  · exact h
  · cases h
theorem bSok.ext : ∀ {st : List bV} {cs : List Value}, bSok n ρ st cs → n ≤ n' → aExt n ρ ρ' → bSok n' ρ' st cs
  | [], [], _, _, _ => trivial
  | _ :: _, _ :: _, h, hn, he => ⟨h.1.ext hn he, bSok.ext h.2 hn he⟩
theorem bLok.ext (h : bLok n ρ pl cl) (hn : n ≤ n') (he : aExt n ρ ρ') : bLok n' ρ' pl cl := ⟨h.1, fun i a hi => by
  obtain ⟨v, h1, h2⟩ := h.2 i a hi
  exact ⟨v, h1, h2.ext hn he⟩⟩
theorem bMok.ext (h : bMok n ρ Kp σ0 M σ) (hn : n ≤ n') (he : aExt n ρ ρ') : bMok n' ρ' Kp σ0 M σ := ⟨h.1, h.2.1.ext hn he, h.2.2.1.ext hn he, h.2.2.2⟩
theorem bSok_cons (h : bSok n ρ (a :: r) cs) : ∃ v cr, cs = v :: cr ∧ bVok n ρ a v ∧ bSok n ρ r cr := by
  cases cs with
  | nil => exact h.elim
  | cons v cr => exact ⟨v, cr, rfl, h.1, h.2⟩
theorem bVok_int (h : bVok n ρ (.inl (false, f)) v) : ∃ x, v = .int x ∧ aFok n ρ f x.toInt := by
  cases v with
  | int x => exact ⟨x, rfl, h⟩
  | _ => exact h.elim
theorem bVok_long (h : bVok n ρ (.inl (true, f)) v) : ∃ x, v = .long x ∧ aFok n ρ f x.toInt := by
  cases v with
  | long x => exact ⟨x, rfl, h⟩
  | _ => exact h.elim
theorem bVok_ref (h : bVok n ρ (.inr ps) v) : ∃ q, v = .ref q ∧ q ∈ ps := by
  cases v with
  | ref q => exact ⟨q, rfl, h⟩
  | _ => exact h.elim
theorem bVok_one (h : bVok n ρ (.inr [p]) v) : v = .ref p := by
  obtain ⟨q, rfl, hq⟩ := bVok_ref h
  rw [List.mem_singleton] at hq
  rw [hq]
theorem bVok_cat (h : bVok n ρ a v) : v.category = bCat a := by
  unfold bVok at h
  split at h
  · rfl
  · rfl
  · rfl
  · cases h
theorem bSok_cats : ∀ {st : List bV} {cs : List Value}, bSok n ρ st cs → pmCats cs = bCats st
  | [], [], _ => rfl
  | a :: r, v :: cr, h => by
    have e := bSok_cats h.2
    have c := bVok_cat h.1
    unfold pmCats bCats at e ⊢
    simp only [List.map_cons, List.sum_cons, e, c]
theorem bNx.go (hs : pmStep ro (fun _ _ _ => none) o m rt pc i cl cs σ = some (.inr (pc', cl', cr, σ'))) (hX : aXok L ρ X) (hM : bMok X.1.length ρ Kp σ0 M' σ') (hl : bLok X.1.length ρ pl' cl') (hr : bSok X.1.length ρ r cr) (hn : n = X.1.length) (hk : k X M' pc' pl' r = true) : bNx ro L Kp σ0 o m rt pc i cl cs σ n ρ k :=
  ⟨pc', cl', cr, σ', X, M', pl', r, ρ, hs, by omega, aExt.rf, hX, hM, hl, hr, hk⟩
theorem bNx.gx {Kx : aX → Bool} (hs : pmStep ro (fun _ _ _ => none) o m rt pc i cl cs σ = some (.inr (pc', cl', cr, σ'))) (h : aGx L X ρ Kx) (hK : ∀ Y, Kx Y = true → k Y M' pc' pl' r = true) (hM : bMok X.1.length ρ Kp σ0 M' σ') (hl : bLok X.1.length ρ pl' cl') (hr : bSok X.1.length ρ r cr) : bNx ro L Kp σ0 o m rt pc i cl cs σ X.1.length ρ k := by
  obtain ⟨Y, h1, h2, h3⟩ := h
  exact ⟨pc', cl', cr, σ', Y, M', pl', r, ρ, hs, by omega, aExt.rf, h2, by rw [h1]; exact hM, by rw [h1]; exact hl, by rw [h1]; exact hr, hK Y h3⟩
/-- a value upon the stack, the heap as it was -/
theorem bNx.gv {tg : Bool} {w : Value} {z : Int} (hs : pmStep ro (fun _ _ _ => none) o m rt pc i cl cs σ = some (.inr (pc', cl, w :: cr, σ))) (hX : aXok L ρ X) (hM : bMok X.1.length ρ Kp σ0 M σ) (hl : bLok X.1.length ρ pl cl) (hr : bSok X.1.length ρ r cr) (hw : ∀ n ρ f, aFok n ρ f z → bVok n ρ (.inl (tg, f)) w) (h : aGv L X.1 ρ z fun E h => k (E, X.2) M pc' pl (.inl (tg, h) :: r)) : bNx ro L Kp σ0 o m rt pc i cl cs σ X.1.length ρ k := by
  obtain ⟨E', ρ', g, h1, h2, h3, h4, h5⟩ := h
  exact ⟨pc', cl, _, σ, (E', X.2), M, pl, .inl (tg, g) :: r, ρ', hs, h1, h2, hX.ext h1 h2 h3, hM.ext h1 h2, hl.ext h1 h2, ⟨hw _ _ _ h4, hr.ext h1 h2⟩, h5⟩
theorem bNx.gi {w : Int32} {z : Int} (hs : pmStep ro (fun _ _ _ => none) o m rt pc i cl cs σ = some (.inr (pc', cl, .int w :: cr, σ))) (hX : aXok L ρ X) (hM : bMok X.1.length ρ Kp σ0 M σ) (hl : bLok X.1.length ρ pl cl) (hr : bSok X.1.length ρ r cr) (hz : z = w.toInt) (h : aGv L X.1 ρ z fun E h => k (E, X.2) M pc' pl (.inl (false, h) :: r)) : bNx ro L Kp σ0 o m rt pc i cl cs σ X.1.length ρ k :=
  bNx.gv hs hX hM hl hr (fun _ _ _ hf => by rw [hz] at hf; exact hf) h
theorem bNx.gl {w : Int64} {z : Int} (hs : pmStep ro (fun _ _ _ => none) o m rt pc i cl cs σ = some (.inr (pc', cl, .long w :: cr, σ))) (hX : aXok L ρ X) (hM : bMok X.1.length ρ Kp σ0 M σ) (hl : bLok X.1.length ρ pl cl) (hr : bSok X.1.length ρ r cr) (hz : z = w.toInt) (h : aGv L X.1 ρ z fun E h => k (E, X.2) M pc' pl (.inl (true, h) :: r)) : bNx ro L Kp σ0 o m rt pc i cl cs σ X.1.length ρ k :=
  bNx.gv hs hX hM hl hr (fun _ _ _ hf => by rw [hz] at hf; exact hf) h
/-- a value read of the heap -/
theorem bNx.gh {tg : Bool} {w : Value} {z : Int} (hs : pmStep ro (fun _ _ _ => none) o m rt pc i cl cs σ = some (.inr (pc', cl, w :: cr, σ))) (hX : aXok L ρ X) (hM : bMok X.1.length ρ Kp σ0 M σ) (hl : bLok X.1.length ρ pl cl) (hr : bSok X.1.length ρ r cr) (hw : ∀ n ρ f, aFok n ρ f z → bVok n ρ (.inl (tg, f)) w) (h : bGh L X.1 ρ M.2.1 (bZ σ) z fun E H S g => k (E, X.2) (H, S, M.2.2) pc' pl (.inl (tg, g) :: r)) : bNx ro L Kp σ0 o m rt pc i cl cs σ X.1.length ρ k := by
  obtain ⟨E', ρ', H', S', g, h1, h2, h3, h4, h5, h6, h7⟩ := h
  exact ⟨pc', cl, _, σ, (E', X.2), (H', S', M.2.2), pl, .inl (tg, g) :: r, ρ', hs, h1, h2, hX.ext h1 h2 h3, ⟨hM.1, h4, h5, hM.2.2.2⟩, hl.ext h1 h2, ⟨hw _ _ _ h6, hr.ext h1 h2⟩, h7⟩
theorem bFree_ok {H : bH} (h : bFree H p = true) (j : Nat) : bEn H p j = .inr (bGe p j) := by
  unfold bFree at h
  unfold bEn
  split at h
  · rename_i hn
    rw [hn]
  · cases h
theorem bLor_ok (t : Nat → Nat) : ∀ {ps : List Nat} {w r : Nat}, (List.rec w (fun p _ ih => Nat.lor ih (t p)) ps : Nat).testBit r = false → w.testBit r = false ∧ ∀ p ∈ ps, (t p).testBit r = false := fun {ps} => by
  induction ps with
  | nil => intro w r h; exact ⟨h, fun p hp => by cases hp⟩
  | cons a l ih =>
    intro w r h
    have h : ((List.rec w (fun p _ ih => Nat.lor ih (t p)) l : Nat) ||| t a).testBit r = false := h
    rw [Nat.testBit_or, Bool.or_eq_false_iff] at h
    obtain ⟨h1, h2⟩ := ih h.1
    refine ⟨h1, fun p hp => ?_⟩
    rcases List.mem_cons.mp hp with rfl | hp
    · exact h.2
    · exact h2 p hp
theorem bFg_eq {w : Nat} : bFg w = true ↔ ∀ i, w.testBit (3000 + i) = false := by
  constructor
  · intro h i
    have e : w >>> 3000 = 0 := Nat.eq_of_beq_eq_true h
    rw [← Nat.testBit_shiftRight, e]
    exact Nat.zero_testBit i
  · intro h
    have e : w >>> 3000 = 0 := Nat.eq_of_testBit_eq fun i => by rw [Nat.testBit_shiftRight, h i, Nat.zero_testBit]
    show Nat.beq (w >>> 3000) 0 = true
    rw [e]
    rfl
theorem bFg_lor {w m : Nat} (h : bFg (Nat.lor w m) = true) : bFg w = true ∧ bFg m = true := by
  have h := bFg_eq.mp h
  have h2 : ∀ i, (w ||| m).testBit (3000 + i) = false := h
  refine ⟨bFg_eq.mpr fun i => ?_, bFg_eq.mpr fun i => ?_⟩
  · have := h2 i
    rw [Nat.testBit_or, Bool.or_eq_false_iff] at this
    exact this.1
  · have := h2 i
    rw [Nat.testBit_or, Bool.or_eq_false_iff] at this
    exact this.2
theorem bFg_rec {w : Nat} (t : Nat → Nat) : ∀ {l : List Nat}, bFg (List.rec w (fun p _ ih => Nat.lor ih (t p)) l) = true → bFg w = true := fun {l} => by
  induction l with
  | nil => exact fun h => h
  | cons a l ih => exact fun h => ih (bFg_lor h).1
theorem bPr_ok {W mk r : Nat} (h : bPr W mk = true) (hf : bFg W = true) (hr : bPM.testBit r = true) : mk.testBit r = false := by
  unfold bPr at h
  rw [hf] at h
  have e : bPM &&& mk = 0 := Nat.eq_of_beq_eq_true h
  have : (bPM &&& mk).testBit r = false := by rw [e]; exact Nat.zero_testBit r
  rw [Nat.testBit_and, hr, Bool.true_and] at this
  exact this
/-- the heap written -/
theorem bMok.wrg {H : bH} {S : bS} {W' : Nat} (hK : bKfr Kp) (hM : bMok n ρ Kp σ0 M σ) (hZ : σ'.1 = σ.1) (hH : bHok n ρ H (bZ σ')) (hS : bSk n ρ S (bZ σ')) (hW : ∀ q j, W'.testBit (bRg q j) = false → M.2.2.testBit (bRg q j) = false ∧ bSame σ' σ q j) (hp : bFg W' = true → bFg M.2.2 = true ∧ ∀ q j, bPM.testBit (bRg q j) = true → bSame σ' σ q j) : bMok n ρ Kp σ0 (H, S, W') σ' := by
  refine ⟨fun q => by rw [hZ]; exact hM.1 q, hH, hS, fun q j hq => ?_, fun hw => hK σ σ' hZ.symm (hp hw).2 (hM.2.2.2.2 (hp hw).1)⟩
  obtain ⟨h1, a1, a2⟩ := hW q j hq
  obtain ⟨b1, b2⟩ := hM.2.2.2.1 q j h1
  exact ⟨a1.trans b1, a2.trans b2⟩
/-- within the regions of mk -/
theorem bMok.wr {H : bH} {S : bS} {mk : Nat} (hK : bKfr Kp) (hM : bMok n ρ Kp σ0 M σ) (hZ : σ'.1 = σ.1) (hH : bHok n ρ H (bZ σ')) (hS : bSk n ρ S (bZ σ')) (ho : ∀ q j, mk.testBit (bRg q j) = false → bSame σ' σ q j) (hp : bPr M.2.2 mk = true) : bMok n ρ Kp σ0 (H, S, Nat.lor M.2.2 mk) σ' :=
  hM.wrg hK hZ hH hS (fun q j hq => by
    have hq : (M.2.2 ||| mk).testBit (bRg q j) = false := hq
    rw [Nat.testBit_or, Bool.or_eq_false_iff] at hq
    exact ⟨hq.1, ho q j hq.2⟩) (fun hw => ⟨(bFg_lor hw).1, fun q j hq => ho q j (bPr_ok hp (bFg_lor hw).1 hq)⟩)
/-- one of some places, whose cells the table alone tells, and the new value is within it -/
theorem bMok.wrs {ps : List Nat} {W' : Nat} {kk : Nat} {z : Int} (hK : bKfr Kp) (hM : bMok n ρ Kp σ0 M σ) (hZ : σ'.1 = σ.1) (hpp : p ∈ ps) (hup : bZ σ' = aUp (bZ σ) p kk z) (hsm : ∀ mk q j : Nat, mk.testBit (bRg p kk) = true → mk.testBit (bRg q j) = false → bSame σ' σ q j) (hin : bIn (bGe p kk) z) (hfr : bFree M.1 p = true) (t : Nat → Nat) (ht : (t p).testBit (bRg p kk) = true) (hpr : bPr M.2.2 (t p) = true) (hW : W' = List.rec M.2.2 (fun p _ ih => Nat.lor ih (t p)) ps) : bMok n ρ Kp σ0 (M.1, [], W') σ' := by
  refine hM.wrg hK hZ (fun q j => ?_) (fun q hq => absurd hq List.not_mem_nil) (fun q j hq => ?_) (fun hw => by
    rw [hW] at hw
    exact ⟨bFg_rec t hw, fun q j hq => hsm (t p) q j ht (bPr_ok hpr (bFg_rec t hw) hq)⟩)
  · rw [hup]
    by_cases c : q = p ∧ j = kk
    · rw [c.1, c.2, show aUp (bZ σ) p kk z p kk = z from if_pos ⟨rfl, rfl⟩, bFree_ok hfr]
      exact hin
    · rw [show aUp (bZ σ) p kk z q j = bZ σ q j from if_neg c]
      exact hM.2.1 q j
  · rw [hW] at hq
    obtain ⟨h1, h2⟩ := bLor_ok t hq
    exact ⟨h1, hsm (t p) q j ht (h2 p hpp)⟩
theorem bZ_upi {x : Int32} {kk : Nat} (h : bLo p kk = false) : bZ (σ.1, pmUp σ.2.1 p kk x, σ.2.2) = aUp (bZ σ) p kk x.toInt := by
  funext q j
  show (bif bLo q j then (σ.2.2 q j).toInt else (if q = p ∧ j = kk then x else σ.2.1 q j).toInt) = if q = p ∧ j = kk then x.toInt else bif bLo q j then (σ.2.2 q j).toInt else (σ.2.1 q j).toInt
  by_cases c : q = p ∧ j = kk
  · rw [if_pos c, if_pos c, c.1, c.2, h]
    rfl
  · rw [if_neg c, if_neg c]
theorem bZ_upl {x : Int64} {kk : Nat} (h : bLo p kk = true) : bZ (σ.1, σ.2.1, pmUp σ.2.2 p kk x) = aUp (bZ σ) p kk x.toInt := by
  funext q j
  show (bif bLo q j then (if q = p ∧ j = kk then x else σ.2.2 q j).toInt else (σ.2.1 q j).toInt) = if q = p ∧ j = kk then x.toInt else bif bLo q j then (σ.2.2 q j).toInt else (σ.2.1 q j).toInt
  by_cases c : q = p ∧ j = kk
  · rw [if_pos c, if_pos c, c.1, c.2, h]
    rfl
  · rw [if_neg c, if_neg c]
theorem bUp_i {x : Int32} {kk mk : Nat} (h : mk.testBit (bRg p kk) = true) (q j : Nat) (hq : mk.testBit (bRg q j) = false) : bSame (σ.1, pmUp σ.2.1 p kk x, σ.2.2) σ q j := by
  refine ⟨?_, rfl⟩
  show (if q = p ∧ j = kk then x else σ.2.1 q j) = σ.2.1 q j
  rw [if_neg (fun c => by rw [c.1, c.2, h] at hq; cases hq)]
theorem bUp_l {x : Int64} {kk mk : Nat} (h : mk.testBit (bRg p kk) = true) (q j : Nat) (hq : mk.testBit (bRg q j) = false) : bSame (σ.1, σ.2.1, pmUp σ.2.2 p kk x) σ q j := by
  refine ⟨rfl, ?_⟩
  show (if q = p ∧ j = kk then x else σ.2.2 q j) = σ.2.2 q j
  rw [if_neg (fun c => by rw [c.1, c.2, h] at hq; cases hq)]
/-- locals -/
theorem bLok.set (h : bLok n ρ pl cl) (i : Nat) (hv : bVok n ρ a v) : bLok n ρ (pl.set i (some a)) (cl.set i (some v)) := by
  refine ⟨by simp [h.1], fun j b hj => ?_⟩
  by_cases e : i = j
  · subst e
    by_cases hl : i < pl.length
    · rw [List.getElem?_set_self hl] at hj
      cases hj
      exact ⟨v, by rw [List.getElem?_set_self (by rw [← h.1]; exact hl)], hv⟩
    · rw [List.getElem?_eq_none (by simp; omega)] at hj
      cases hj
  · rw [List.getElem?_set_ne e] at hj ⊢
    exact h.2 j b hj
theorem bLok.cut0 (h : bLok n ρ pl cl) (i : Nat) : bLok n ρ (pl.set i none) (cl.set i none) := by
  refine ⟨by simp [h.1], fun j b hj => ?_⟩
  by_cases e : i = j
  · subst e
    by_cases hl : i < pl.length
    · rw [List.getElem?_set_self hl] at hj
      cases hj
    · rw [List.getElem?_eq_none (by simp; omega)] at hj
      cases hj
  · rw [List.getElem?_set_ne e] at hj ⊢
    exact h.2 j b hj
theorem bLok.cutR (h : bLok n ρ pl cl) (i : Nat) (hu : ∀ a, pl[i]? ≠ some (some a)) : bLok n ρ pl (cl.set i none) := by
  refine ⟨by simp [h.1], fun j b hj => ?_⟩
  by_cases e : i = j
  · subst e
    exact absurd hj (hu b)
  · rw [List.getElem?_set_ne e]
    exact h.2 j b hj
theorem bCut_ok (h : bLok n ρ pl cl) (i : Nat) : bLok n ρ (bCutA m pl i) (pmCut m cl i) := by
  cases i with
  | zero => exact h
  | succ j =>
    show bLok n ρ (bif pmLg m j then (match fGet pl j with | some (some (.inl (true, _))) => pl.set j none | _ => pl) else pl) (bif pmLg m j then (match cl[j]? with | some (some v) => if v.category = 2 then cl.set j none else cl | _ => cl) else cl)
    cases pmLg m j with
    | false => exact h
    | true =>
      simp only [cond_true, fGet_eq]
      split
      · rename_i f hj
        obtain ⟨v, h1, h2⟩ := h.2 j _ hj
        obtain ⟨x, rfl, -⟩ := bVok_long h2
        rw [h1]
        simp only [Value.category, if_true]
        exact h.cut0 j
      · rename_i hne
        split
        · rename_i v hv
          split
          · rename_i hc
            refine h.cutR j fun a ha => ?_
            obtain ⟨v', h1, h2⟩ := h.2 j a ha
            rw [hv] at h1
            cases h1
            have e := bVok_cat h2
            rw [hc] at e
            match a, e, ha with
            | .inl (true, g), _, ha => exact hne g ha
            | .inl (false, g), e, _ => cases e
            | .inr q, e, _ => cases e
          · exact h
        · exact h
theorem bCutA_len (m : Nat) (pl : bL) (i : Nat) : (bCutA m pl i).length = pl.length := by
  cases i with
  | zero => rfl
  | succ j =>
    show (bif pmLg m j then (match fGet pl j with | some (some (.inl (true, _))) => pl.set j none | _ => pl) else pl).length = pl.length
    cases pmLg m j with
    | false => rfl
    | true =>
      simp only [cond_true]
      split
      · exact List.length_set
      · rfl
theorem bSt1_ok {K : bL → Bool} (h : bLok n ρ pl cl) (i : Nat) (hv : bVok n ρ a v) (hK : bSt1 m pl i a K = true) : i < cl.length ∧ ∃ pl', bLok n ρ pl' (pmS1 m cl i v) ∧ K pl' = true := by
  unfold bSt1 at hK
  obtain ⟨h1, h2⟩ := fSet_ok _ hK
  exact ⟨by rw [← h.1, ← bCutA_len m pl i]; exact h1, _, (bCut_ok h i).set i hv, h2⟩
theorem bSt2_ok {K : bL → Bool} (h : bLok n ρ pl cl) (i : Nat) (hv : bVok n ρ a v) (hK : bSt2 m pl i a K = true) : i + 1 < cl.length ∧ ∃ pl', bLok n ρ pl' (pmS2 m cl i v) ∧ K pl' = true := by
  unfold bSt2 at hK
  obtain ⟨h1, h2⟩ := fSet_ok _ hK
  obtain ⟨h3, h4⟩ := fSet_ok _ h2
  rw [List.length_set, bCutA_len] at h3
  exact ⟨by rw [← h.1]; exact h3, _, ((bCut_ok h i).set i hv).cut0 (i + 1), h4⟩
theorem bLd1_ok {K : bV → Bool} (h : bLok n ρ pl cl) {j : Nat} (hK : bLd1 pl j K = true) : ∃ a v, cl[j]? = some (some v) ∧ bVok n ρ a v ∧ K a = true := by
  unfold bLd1 at hK
  rw [fGet_eq] at hK
  split at hK
  · rename_i a ha
    obtain ⟨v, h1, h2⟩ := h.2 _ _ ha
    exact ⟨a, v, h1, h2, hK⟩
  · cases hK
theorem bNx.br {c : Nat} {off : Int} {C : Prop} [Decidable C] {x y : Int} (hs : pmStep ro (fun _ _ _ => none) o m rt pc i cl cs σ = pmBr pc off C cl cr σ) (hc : C ↔ aCd c x y) (hX : aXok L ρ X) (hM : bMok X.1.length ρ Kp σ0 M σ) (hl : bLok X.1.length ρ pl cl) (hr : bSok X.1.length ρ r cr) (hf : aFok X.1.length ρ f x) (hg : aFok X.1.length ρ g y) (hK : bBrs c pc off X M f g pl r k = true) : bNx ro L Kp σ0 o m rt pc i cl cs σ X.1.length ρ k := by
  unfold bBrs at hK
  obtain ⟨t, ht, hK⟩ := aJp_ok hK
  obtain ⟨h1, h2⟩ := aIf_ok hX hf hg hK
  rw [pmBr_eq ht] at hs
  by_cases h : C
  · rw [if_pos h] at hs
    exact bNx.gx hs (h1 (hc.mp h)) (fun _ hy => hy) hM hl hr
  · rw [if_neg h] at hs
    exact bNx.gx hs (h2 (fun q => h (hc.mpr q))) (fun _ hy => hy) hM hl hr
/-! some places -/
theorem bAll_ok {t : Nat → Bool} : ∀ {ps : List Nat}, bAll ps t = true → ∀ p ∈ ps, t p = true := fun {ps} => by
  induction ps with
  | nil => intro _ p hp; cases hp
  | cons a r ih =>
    intro h p hp
    have h : (t a && bAll r t) = true := h
    rw [Bool.and_eq_true] at h
    rcases List.mem_cons.mp hp with rfl | hp
    · exact h.1
    · exact ih h.2 p hp
theorem bJn_ok {t : Nat → Option aI} : ∀ {ps : List Nat} {j : aI}, bJn ps t = some j → ∀ p ∈ ps, ∃ i, t p = some i ∧ j.1 ≤ i.1 ∧ i.2 ≤ j.2 := fun {ps} => by
  induction ps with
  | nil => intro j _ p hp; cases hp
  | cons a r ih =>
    intro j h p hp
    cases r with
    | nil =>
      have h : (match t a with | some i => some i | none => none) = some j := h
      cases ha : t a with
      | none => rw [ha] at h; cases h
      | some i =>
        rw [ha] at h
        cases h
        rw [List.mem_singleton] at hp
        subst hp
        exact ⟨_, ha, Int.le_refl _, Int.le_refl _⟩
    | cons b r =>
      have h : (match t a with
        | some i => (match bJn (b :: r) t with
          | some j => some (aMin i.1 j.1, aMax i.2 j.2)
          | none => none)
        | none => none) = some j := h
      cases ha : t a with
      | none => rw [ha] at h; cases h
      | some i =>
        rw [ha] at h
        have h : (match bJn (b :: r) t with | some j => some (aMin i.1 j.1, aMax i.2 j.2) | none => none) = some j := h
        cases hj : bJn (b :: r) t with
        | none => rw [hj] at h; cases h
        | some w =>
          rw [hj] at h
          cases h
          have m1 := aMin_le i.1 w.1
          have m2 := aMax_le i.2 w.2
          rcases List.mem_cons.mp hp with rfl | hp
          · exact ⟨i, ha, m1.1, m2.1⟩
          · obtain ⟨u, h1, h2, h3⟩ := ih hj p hp
            exact ⟨u, h1, Int.le_trans m1.2 h2, Int.le_trans h3 m2.2⟩
theorem bMp_ok {t : Nat → Option Nat} : ∀ {ps qs : List Nat}, bMp ps t = some qs → ∀ p ∈ ps, ∃ q, t p = some q ∧ q ∈ qs := fun {ps} => by
  induction ps with
  | nil => intro qs _ p hp; cases hp
  | cons a r ih =>
    intro qs h p hp
    have h : (match t a, bMp r t with | some q, some l => some (q :: l) | _, _ => none) = some qs := h
    split at h
    · rename_i q l hq hl
      cases h
      rcases List.mem_cons.mp hp with rfl | hp
      · exact ⟨q, hq, List.mem_cons_self⟩
      · obtain ⟨u, h1, h2⟩ := ih hl p hp
        exact ⟨u, h1, List.mem_cons_of_mem _ h2⟩
    · cases h
theorem bKc_ok {c : Nat} (hM : ∀ p : Nat, σ.1[p]? = aG2 bZT p) (h : bKc p c = true) : ∃ s, σ.1[p]? = some (c, s) ∧ aG2 bZT p = some (c, s) := by
  unfold bKc at h
  rw [fG2_eq] at h
  split at h
  · rename_i s hs
    have e := Nat.eq_of_beq_eq_true h
    obtain ⟨a, b⟩ := s
    change a = c at e
    subst e
    exact ⟨b, by rw [hM, hs], hs⟩
  · cases h
theorem bRow_ok {c : Nat} {x : Int32} (hM : ∀ p : Nat, σ.1[p]? = aG2 bZT p) (hX : aXok L ρ X) (hf : aFok X.1.length ρ f x.toInt) (h : bRow c X f p = true) : ∃ s rs, σ.1[p]? = some (c, s, rs) ∧ aG2 bZT p = some (c, s, rs) ∧ pmIn x s ∧ 0 ≤ x.toInt := by
  unfold bRow at h
  rw [fG2_eq] at h
  split at h
  · rename_i s hs
    rw [Bool.and_eq_true] at h
    have e := Nat.eq_of_beq_eq_true h.1
    obtain ⟨a, b, d⟩ := s
    change a = c at e
    subst e
    obtain ⟨h1, h2⟩ := aAt_ok hX hf h.2
    exact ⟨b, d, by rw [hM, hs], hs, h1, h2⟩
  · cases h
theorem bRg_sing (h : bSing p = true) (j j' : Nat) : bRg p j = bRg p j' := by
  unfold bSing at h
  unfold bRg
  cases hb : fG2 bRT p with
  | none => rfl
  | some b =>
    rw [hb] at h
    obtain ⟨b1, b2⟩ := b
    cases b2 with
    | true => cases h
    | false => rfl
end
