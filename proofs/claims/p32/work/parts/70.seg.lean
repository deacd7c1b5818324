/-! a stretch of a run, from a picture to pictures; single instructions -/
section
/-- a picture -/
def bPc (d m pc : Nat) (pl : bL) (st : List bV) (E : aE) (C : aC) (H : bH) (W : Nat) : bNq := (d, m, pc, pl, st, [], (E, C), (H, W), (0, []))
noncomputable def bSeg (con : bCon) (fin : Option bV → aX → bM → Bool) (Bs : List bNq) (A : bNq) (R : bS) : Bool := match A with
  | (d, m, pc, pl, st, _, (E, C), (H, W), _) => bIs m && aFn (fLen E) fun n => Nat.blt 1 n && (Bs.all (fun B => bIs B.2.1 && (B.2.2.2.2.2.1.all (fun f => bIs f.1) && aFn (fLen B.2.2.2.2.2.2.1.1) fun n => Nat.blt 1 n)) && bGo bSp (bNg bSp n none Bs) con fin 20000 d true (bMk bSp m) pc pl st [] (E, C, []) (H, R, W))
/-- a picture holds -/
def bAt (L : aLa) (nC : Nat) (ρ0 : Nat → Int) (Kp : pmS → Prop) (σ0 : pmS) (A : bNq) (ρ : Nat → Int) (cl : pmL) (cs : List Value) (σ : pmS) : Prop :=
  bAllK L nC ρ0 ρ Kp σ0 (A.2.2.2.2.2.2.1.1, A.2.2.2.2.2.2.1.2, []) (A.2.2.2.2.2.2.2.1.1, [], A.2.2.2.2.2.2.2.1.2) σ ∧ bLok A.2.2.2.2.2.2.1.1.length ρ A.2.2.2.1 cl ∧ bSok A.2.2.2.2.2.2.1.1.length ρ A.2.2.2.2.1 cs
/-- the goal at a picture's place -/
def bWa (ro : Nat → Nat × (Nat → Int32)) (A : bNq) (cl : pmL) (cs : List Value) (σ : pmS) (Q : Option Value → pmS → Prop) : Prop := pmWp ro A.1 (bMk bSp A.2.1).1 A.2.1 (bMk bSp A.2.1).2.2.1 A.2.2.1 cl cs σ Q
variable {ro : Nat → Nat × (Nat → Int32)} {L : aLa} {Kp : pmS → Prop} {σ0 σ : pmS} {ρ : Nat → Int} {cl : pmL} {cs : List Value} {con : bCon} {fin : Option bV → aX → bM → Bool} {Q : Option Value → pmS → Prop}
theorem bMk_m {spl : Nat → aSs} {m : Nat} : (bMk spl m).2.1 = m := by
  unfold bMk
  split <;> rfl
theorem bSeg_ok {d m pc : Nat} {pl : bL} {st : List bV} {E : aE} {C : aC} {H : bH} {W : Nat} {R : bS} {Bs : List bNq} (h : bHyp ro L Kp) (hcon : ∀ σ0, bConOk ro L Kp σ0 con) (hc : bSeg con fin Bs (bPc d m pc pl st E C H W) R = true) (hBf : ∀ B ∈ Bs, B.2.2.2.2.2.1 = []) (hX : aXok L ρ (E, C, [])) (hM : bMok E.length ρ Kp σ0 (H, R, W) σ) (hl : bLok E.length ρ pl cl) (hs : bSok E.length ρ st cs) (hfin : bFinOk L E.length ρ Kp σ0 fin Q)
    (hB : ∀ B ∈ Bs, ∀ ρ' cl' cs' σ', bAt L E.length ρ Kp σ0 B ρ' cl' cs' σ' → bWa ro B cl' cs' σ' Q) : pmWp ro d (bMk bSp m).1 m (bMk bSp m).2.2.1 pc cl cs σ Q := by
  obtain ⟨hk, Ln, xs, h1, h2, h3⟩ := h
  unfold bSeg bPc at hc
  simp only [aFn_eq, fLen_eq, Bool.and_eq_true] at hc
  obtain ⟨c1, c2, c3, c4⟩ := hc
  have c2 := bBlt c2
  have hE := hX.1
  have hgo : pmWp ro d (bMk bSp m).1 (bMk bSp m).2.1 (bMk bSp m).2.2.1 pc cl cs σ (aRtQ ro d [] Q) := ?_
  · rw [bMk_m] at hgo
    exact hgo
  refine bGo_ok (n0 := E.length) (ρ0 := ρ) (Q0 := Q) hk h1 h2 h3 hfin (bNg_ok (bNh_ok (nC := E.length) (ρe := ρ) (b := 0) (by omega) ?_ (Nat.le_refl _) aExt.rf (rk := none) (fun rA ρ2 e => by cases e) ?_)) (hcon σ0) 20000 d true (bMk bSp m) pc pl st [] (E, C, []) (H, R, W) ρ cl cs [] σ c4 (bIs_ok c1) ⟨hX, hM, Nat.le_refl _, aExt.rf⟩ hl hs trivial
  · intro nd hnd
    obtain ⟨B, hm, rfl⟩ := List.mem_map.mp hnd
    have hb := List.all_eq_true.mp c3 B hm
    simp only [aFn_eq, fLen_eq, Bool.and_eq_true] at hb
    obtain ⟨b1, b2, b3⟩ := hb
    refine ⟨bIs_ok b1, fun f hf => ?_, bBlt b3⟩
    obtain ⟨f0, hf0, rfl⟩ := List.mem_map.mp hf
    exact bIs_ok (List.all_eq_true.mp b2 f0 hf0)
  · intro nd hnd
    obtain ⟨B, hm, rfl⟩ := List.mem_map.mp hnd
    have key : ∀ b : Int, bNdP ro L E.length ρ Kp σ0 Q b (bMd bSp B) := by
      intro b ρ' cl' cs' cfs σ' a1 a2 a3 a4 a5
      have e0 := hBf B hm
      have e : (bMd bSp B).2.2.2.2.2.1 = [] := by
        show B.2.2.2.2.2.1.map (bMq bSp) = []
        rw [e0]
        rfl
      rw [e] at a4
      cases cfs with
      | cons _ _ => exact a4.elim
      | nil =>
        have hw := hB B hm ρ' cl' cs' σ' ⟨a1, a2, a3⟩
        unfold bWa at hw
        show pmWp ro B.1 (bMk bSp B.2.1).1 (bMk bSp B.2.1).2.1 (bMk bSp B.2.1).2.2.1 B.2.2.1 cl' cs' σ' Q
        rw [bMk_m]
        exact hw
    exact ⟨fun _ b => key b, key 0⟩
/-- nothing ends here -/
noncomputable def bNo : Option bV → aX → bM → Bool := fun _ _ _ => false
theorem bNo_ok {n0 : Nat} {ρ0 : Nat → Int} : bFinOk L n0 ρ0 Kp σ0 bNo Q := fun r X M ρ v σ h => by cases h
theorem bCn_ok : ∀ σ0, bConOk ro L Kp σ0 (bCc []) := fun σ0 => bCc_ok bAn
/-- the table holds -/
def kOk (σ : pmS) : Prop := (∀ p : Nat, σ.1[p]? = aG2 bZT p) ∧ ∀ p k, bIn (bGe p k) (bZ σ p k)
theorem kOk_of {n : Nat} {W : Nat} (h : bMok n ρ Kp σ0 ([], [], W) σ) : kOk σ := ⟨h.1, fun p k => h.2.1 p k⟩
theorem kOk_mok {n : Nat} (h : kOk σ) (hK : Kp σ) : bMok n ρ Kp σ ([], [], 0) σ := ⟨h.1, fun p k => h.2 p k, fun q hq => absurd hq List.not_mem_nil, fun p k _ => ⟨rfl, rfl⟩, fun _ => hK⟩
/-- with one cell told -/
theorem kOk_hok {n : Nat} (h : kOk σ) : bHok n ρ [] (bZ σ) := fun p k => h.2 p k
theorem bHok_c {n p k : Nat} {H : bH} {φ : Nat → Nat → Int} {f : aF} (h : bHok n ρ H φ) (hp : pmLk H p = none) (hf : f.1 < n) (hz : φ p k = ρ f.1 + f.2) : bHok n ρ ((p, [(k, .inl f)]) :: H) φ := by
  intro q j
  unfold bEn
  simp only [fLk_eq, pmLk_cons]
  by_cases c : p = q
  · subst c
    rw [if_pos rfl]
    simp only [fLk_eq, pmLk_cons]
    by_cases cj : k = j
    · subst cj
      rw [if_pos rfl]
      exact ⟨hf, hz⟩
    · rw [if_neg cj]
      have := h p j
      unfold bEn at this
      simp only [fLk_eq, hp] at this
      exact this
  · rw [if_neg c]
    have := h q j
    unfold bEn at this
    simp only [fLk_eq] at this
    exact this
theorem kOk_upi {p k : Nat} {x : Int32} (h : kOk σ) (hb : bLo p k = false) (hx : bIn (bGe p k) x.toInt) : kOk (σ.1, pmUp σ.2.1 p k x, σ.2.2) := by
  refine ⟨h.1, fun q j => ?_⟩
  rw [bZ_upi hb]
  by_cases c : q = p ∧ j = k
  · rw [c.1, c.2, show aUp (bZ σ) p k x.toInt p k = x.toInt from if_pos ⟨rfl, rfl⟩]
    exact hx
  · rw [show aUp (bZ σ) p k x.toInt q j = bZ σ q j from if_neg c]
    exact h.2 q j
theorem kOk_upl {p k : Nat} {x : Int64} (h : kOk σ) (hb : bLo p k = true) (hx : bIn (bGe p k) x.toInt) : kOk (σ.1, σ.2.1, pmUp σ.2.2 p k x) := by
  refine ⟨h.1, fun q j => ?_⟩
  rw [bZ_upl hb]
  by_cases c : q = p ∧ j = k
  · rw [c.1, c.2, show aUp (bZ σ) p k x.toInt p k = x.toInt from if_pos ⟨rfl, rfl⟩]
    exact hx
  · rw [show aUp (bZ σ) p k x.toInt q j = bZ σ q j from if_neg c]
    exact h.2 q j
theorem bIn_any {z : Int} {l : List aI} (hl : l = [(-2147483648, 2147483647)]) (h1 : -2147483648 ≤ z) (h2 : z ≤ 2147483647) : bIn l z := by
  rw [hl]
  exact ⟨_, List.mem_singleton.mpr rfl, h1, h2⟩
theorem bIn_i {x : Int32} {l : List aI} (hl : l = [(-2147483648, 2147483647)]) : bIn l x.toInt := by
  have a := Int32.le_toInt x
  have b := Int32.toInt_lt x
  exact bIn_any hl (by omega) (by omega)
variable {d o m rt pc : Nat} {pl : pmL} {st : List Value}
/-- one instruction -/
theorem pmWp_1 {i : Instr} {pc' : Nat} {pl' : pmL} {st' : List Value} {σ' : pmS} (hi : pmCode m pc = some i) (h : pmStep ro (fun _ _ _ => none) o m rt pc i pl st σ = some (.inr (pc', pl', st', σ'))) (hw : pmWp ro d o m rt pc' pl' st' σ' Q) : pmWp ro d o m rt pc pl st σ Q := by
  refine (pmWp_blk (n := 1) ?_).mpr hw
  unfold pmBlk
  rw [hi]
  simp only [h]
  rfl
theorem pmWp_ias {p n : Nat} {rs : List (Option Nat)} {x i : Int32} (hi : pmCode m pc = some .iastore) (hp : σ.1[p]? = some (50, n, rs)) (hn : pmIn i n) (hw : pmWp ro d o m rt (pc + 1) pl st (σ.1, pmUp σ.2.1 p i.toNatClampNeg x, σ.2.2) Q) : pmWp ro d o m rt pc pl (.int x :: .int i :: .ref p :: st) σ Q := by
  refine pmWp_1 hi ?_ hw
  simp only [pmStep, hp]
  rw [if_pos ⟨trivial, hn⟩]
  rfl
theorem pmWp_las {p n : Nat} {rs : List (Option Nat)} {x : Int64} {i : Int32} (hi : pmCode m pc = some .lastore) (hp : σ.1[p]? = some (51, n, rs)) (hn : pmIn i n) (hw : pmWp ro d o m rt (pc + 1) pl st (σ.1, σ.2.1, pmUp σ.2.2 p i.toNatClampNeg x) Q) : pmWp ro d o m rt pc pl (.long x :: .int i :: .ref p :: st) σ Q := by
  refine pmWp_1 hi ?_ hw
  simp only [pmStep, hp]
  rw [if_pos ⟨trivial, hn⟩]
  rfl
theorem pmWp_ial {p n : Nat} {rs : List (Option Nat)} {i : Int32} (hi : pmCode m pc = some .iaload) (hpp : p < 1000) (hp : σ.1[p]? = some (50, n, rs)) (hn : pmIn i n) (hw : pmWp ro d o m rt (pc + 1) pl (.int (σ.2.1 p i.toNatClampNeg) :: st) σ Q) : pmWp ro d o m rt pc pl (.int i :: .ref p :: st) σ Q := by
  refine pmWp_1 hi ?_ hw
  simp only [pmStep, hp]
  rw [if_neg (show ¬ 1000 ≤ p by omega), if_pos ⟨trivial, hn⟩]
  rfl
/-- a field of an int -/
theorem pmWp_pfi {p k ci j n : Nat} {a b : Bool} {x : Int32} {t : Nat} {rs : List (Option Nat)} {c1 : Bool} (hi : pmCode m pc = some (.putfield k)) (hf : pmF o k = some (ci, j, t, b)) (hk : pmKd ci j = 0) (hfn : pmFn ci j = false) (hp : σ.1[p]? = some (ci, n, rs)) (hw : pmWp ro d o m rt (pc + 3) pl st (σ.1, pmUp σ.2.1 p j x, σ.2.2) Q) : pmWp ro d o m rt pc pl (.int x :: .ref p :: st) σ Q := by
  refine pmWp_1 hi ?_ hw
  simp only [pmStep, hf, hp, pmWr, hk]
  rw [if_pos ⟨trivial, fun e => by rw [hfn] at e; cases e⟩]
  rfl
/-- an int as a place -/
theorem kNat {i : Int32} {n : Nat} (h0 : 0 ≤ i.toInt) (h1 : i.toInt < n) : pmIn i n ∧ (i.toNatClampNeg : Int) = i.toInt := by
  have e : (i.toNatClampNeg : Int) = i.toInt := by
    show ((i.toInt.toNat : Nat) : Int) = i.toInt
    omega
  refine ⟨fun hh => ?_, e⟩
  rcases hh with hlt | hge
  · rw [Int32.lt_iff_toInt_lt] at hlt
    have : (0 : Int32).toInt = 0 := rfl
    omega
  · omega
end
