/-! by hand: the tape's fault -/
section
set_option maxRecDepth 100000
/-- the same outside of these regions -/
def kSm (W : Nat) (σ' σ : pmS) : Prop := ∀ p k, W.testBit (bRg p k) = false → bSame σ' σ p k
theorem kSm.rf {W : Nat} {σ : pmS} : kSm W σ σ := fun _ _ _ => ⟨rfl, rfl⟩
theorem kSm.le {W W2 : Nat} {σ' σ : pmS} (h : kSm W σ' σ) (hW : Nat.lor W W2 = W2) : kSm W2 σ' σ := fun p k hp => h p k (by
  have e : W ||| W2 = W2 := hW
  rw [← e, Nat.testBit_or, Bool.or_eq_false_iff] at hp
  exact hp.1)
theorem kSm.tr {W : Nat} {σ2 σ1 σ : pmS} (h1 : kSm W σ2 σ1) (h2 : kSm W σ1 σ) : kSm W σ2 σ := fun p k hp => ⟨(h1 p k hp).1.trans (h2 p k hp).1, (h1 p k hp).2.trans (h2 p k hp).2⟩
theorem kSm.upi {W p k : Nat} {x : Int32} {σ : pmS} (hb : W.testBit (bRg p k) = true) : kSm W (σ.1, pmUp σ.2.1 p k x, σ.2.2) σ := fun q j hq => by
  refine ⟨?_, rfl⟩
  show (if q = p ∧ j = k then x else σ.2.1 q j) = σ.2.1 q j
  rw [if_neg]
  rintro ⟨rfl, rfl⟩
  rw [hb] at hq
  cases hq
theorem kSm.upl {W p k : Nat} {x : Int64} {σ : pmS} (hb : W.testBit (bRg p k) = true) : kSm W (σ.1, σ.2.1, pmUp σ.2.2 p k x) σ := fun q j hq => by
  refine ⟨rfl, ?_⟩
  show (if q = p ∧ j = k then x else σ.2.2 q j) = σ.2.2 q j
  rw [if_neg]
  rintro ⟨rfl, rfl⟩
  rw [hb] at hq
  cases hq
/-- going in: the first locals -/
noncomputable def bEc (mm : Nat) (aB : List bV) (pl : bL) : Bool := match pmAll[mm]? with
  | some q => decide ((bPl aB).length ≤ q.1.2.2.1.2.2.1) && (decide (q.1.2.2.1.2.2.1 ≤ 40) && (decide (q.1.2.2.2.1 < 3) && (bEl mm (bPl aB) && decide (bPl aB ++ List.replicate (q.1.2.2.1.2.2.1 - (bPl aB).length) none = pl))))
  | none => false
variable {ro : Nat → Nat × (Nat → Int32)} {L : aLa} {Kp : pmS → Prop} {σ0 σ σ' : pmS} {ρ ρ' ρ0 : Nat → Int} {cl : pmL} {cs vs : List Value} {Q : Option Value → pmS → Prop} {d mm n nC : Nat} {aB : List bV} {pl : bL} {A : bNq}
theorem bEc_ok (hc : bEc mm aB pl = true) (hs : bSok n ρ aB vs) (hw : ∀ cl, bLok n ρ pl cl → pmWp ro d (bMk bSp mm).1 mm (bMk bSp mm).2.2.1 0 cl [] σ Q) : pmCs ro (d + 1) mm vs σ Q := by
  unfold bEc at hc
  unfold bMk at hw
  split at hc
  · rename_i q hq
    rw [hq] at hw
    obtain ⟨⟨y, bb, ⟨oo, nn, mx, rr⟩, ⟨kind, ev⟩⟩, code⟩ := q
    simp only [Bool.and_eq_true, decide_eq_true_eq] at hc
    obtain ⟨z1, z2, z3, z4, z6⟩ := hc
    rw [bPl_len hs] at z1
    have z5 : pmEl mm (pmPl vs) = true := (bEl_ok (mm := mm) (bPl aB) (pmPl vs) 0 (bPl_cat hs)).symm.trans z4
    refine (pmCs_go (aInf_ok hq) ⟨z1, z2, z3, z5⟩).mpr ?_
    refine hw _ ?_
    rw [← z6, bPl_len hs]
    exact bLok_app (bPl_ok hs) (bLok_rep _)
  · cases hc
theorem bAt.sm (h : bAt L nC ρ0 Kp σ0 A ρ cl cs σ) : kSm A.2.2.2.2.2.2.2.1.2 σ σ0 := h.1.2.1.2.2.2.1
theorem bAt.kp (h : bAt L nC ρ0 Kp σ0 A ρ cl cs σ) (hf : bFg A.2.2.2.2.2.2.2.1.2 = true) : Kp σ := h.1.2.1.2.2.2.2 hf
theorem bAt.ok (h : bAt L nC ρ0 Kp σ0 A ρ cl cs σ) (hH : A.2.2.2.2.2.2.2.1.1 = []) : kOk σ := ⟨h.1.2.1.1, fun p k => by
  have := h.1.2.1.2.1 p k
  rw [hH] at this
  exact this⟩
theorem bAt.ext (h : bAt L nC ρ0 Kp σ0 A ρ cl cs σ) : aExt nC ρ0 ρ := h.1.2.2.2
theorem bAt.env (h : bAt L nC ρ0 Kp σ0 A ρ cl cs σ) : aEok L ρ A.2.2.2.2.2.2.1.1 := h.1.1.1
theorem bSok_c {a : bV} {r : List bV} (h : bSok n ρ (a :: r) cs) : ∃ v cr, cs = v :: cr ∧ bVok n ρ a v ∧ bSok n ρ r cr := by
  cases cs with
  | nil => exact h.elim
  | cons v cr => exact ⟨v, cr, rfl, h.1, h.2⟩
theorem bSok_n (h : bSok n ρ [] cs) : cs = [] := by
  cases cs with
  | nil => rfl
  | cons v cr => exact h.elim
theorem aXok0 {E : aE} (hE : aEok L ρ E) : aXok L ρ (E, [], []) := ⟨hE, fun q hq => absurd hq List.not_mem_nil, fun q hq => absurd hq List.not_mem_nil⟩
/-! fail -/
def kE39 : aE := [(.ofNat 0, .ofNat 0), (.ofNat 0, .ofNat 3072), (.ofNat 1, .ofNat 5)]
def kB39 : bNq := bPc 0 39 11 [none, none] [.inl (false, 3, .ofNat 0), .inr [1]] [(.ofNat 0, .ofNat 0), (.ofNat 0, .ofNat 3072), (.ofNat 1, .ofNat 5), (.negSucc 5399, .negSucc 999)] [] [] 0
def kE39z (z : Int) : aE := [(.ofNat 0, .ofNat 0), (.ofNat 0, .ofNat 3072), (z, z)]
theorem kS39 : (([1, 2, 3, 4, 5] : List Int).all fun z => bSeg (bCc []) bNo [kB39] (bPc 0 39 0 [some (.inr [1]), some (.inl (false, 2, .ofNat 0))] [] (kE39z z) [] [] 0) []) = true := by decide +kernel
/-- an interval narrowed to what there is -/
theorem aEok_z {E1 E2 : aE} {i : aI} {z : Int} (hE : aEok L ρ (E1 ++ i :: E2)) (h1 : 1 < E1.length) (hz : ρ E1.length = z) : aEok L ρ (E1 ++ (z, z) :: E2) := by
  refine ⟨⟨hE.1.1, hE.1.2.1, by rw [List.length_append]; omega⟩, fun v j hj => ?_⟩
  rcases Nat.lt_trichotomy v E1.length with c | c | c
  · rw [List.getElem?_append_left c] at hj
    exact hE.2 v j (by rw [List.getElem?_append_left c]; exact hj)
  · subst c
    rw [List.getElem?_append_right (Nat.le_refl _), Nat.sub_self] at hj
    cases hj
    show z ≤ ρ E1.length ∧ ρ E1.length ≤ z
    omega
  · rw [List.getElem?_append_right (by omega)] at hj
    refine hE.2 v j ?_
    rw [List.getElem?_append_right (by omega)]
    obtain ⟨t, ht⟩ : ∃ t, v - E1.length = t + 1 := ⟨v - E1.length - 1, by omega⟩
    rw [ht] at hj ⊢
    exact hj
theorem kM39 : (bMk bSp 39).1 = 6 ∧ (bMk bSp 39).2.2.1 = 2 := by decide +kernel
theorem kFail (h : bHyp ro L Kp) (hst : ∀ (σ : pmS) (x : Int32), Kp σ → x.toInt < 0 → Kp (σ.1, pmUp σ.2.1 1 4 x, σ.2.2)) : bCok ro L Kp bC39 := by
  intro ρ vs σ hE hM hs
  have hE : aEok L ρ kE39 := hE
  have hM : bMok 3 ρ Kp σ ([], [], 0) σ := hM
  have hs : bSok 3 ρ [.inr [1], .inl (false, 2, .ofNat 0)] vs := hs
  refine bEc_ok (pl := [some (.inr [1]), some (.inl (false, 2, .ofNat 0))]) (by decide +kernel) hs fun cl hl => ?_
  have hz : ρ 2 ∈ ([1, 2, 3, 4, 5] : List Int) := by
    have := hE.2 2 _ rfl
    have h1 : (1 : Int) ≤ ρ 2 := this.1
    have h2 : ρ 2 ≤ (5 : Int) := this.2
    simp only [List.mem_cons, List.not_mem_nil, or_false]
    omega
  have hE2 : aEok L ρ (kE39z (ρ 2)) := aEok_z (E1 := [(.ofNat 0, .ofNat 0), (.ofNat 0, .ofNat 3072)]) (E2 := []) hE (by decide) rfl
  refine bSeg_ok h bCn_ok (List.all_eq_true.mp kS39 _ hz) (fun B hB => by rw [List.mem_singleton.mp hB]; rfl) (aXok0 hE2) hM hl trivial bNo_ok ?_
  intro B hB ρ' cl' cs' σ' hA
  rw [List.mem_singleton] at hB
  subst hB
  obtain ⟨v1, r1, rfl, hv1, hs1⟩ := bSok_c (show bSok 4 ρ' [.inl (false, 3, .ofNat 0), .inr [1]] cs' from hA.2.2)
  obtain ⟨v2, r2, rfl, hv2, hs2⟩ := bSok_c hs1
  obtain ⟨x, rfl, hx⟩ := bVok_int hv1
  have := bVok_one hv2
  subst this
  have := bSok_n hs2
  subst this
  have hx : x.toInt = ρ' 3 + 0 := hx.2
  have h3 : (-5400 : Int) ≤ ρ' 3 ∧ ρ' 3 ≤ (-1000 : Int) := hA.env.2 3 _ rfl
  have hok := hA.ok rfl
  have hK := hA.kp (by decide +kernel)
  have hsm := hA.sm
  unfold bWa
  rw [show kB39.2.1 = 39 from rfl, kM39.1, kM39.2]
  refine pmWp_pfi (k := 31) (ci := 6) (j := 4) (c1 := true) (a := true) rfl rfl rfl rfl (by rw [hok.1]; rfl) ?_
  refine (pmWp_blk (n := 1) (pc' := 15) (pl' := cl') (st' := [.int 0]) (σ' := (σ'.1, pmUp σ'.2.1 1 4 x, σ'.2.2)) rfl).mpr ((pmWp_ret (i := .ireturn) (r := some (.int 0)) rfl rfl).mpr ?_)
  have hx2 : x.toInt < 0 := by omega
  have hb : bLo 1 4 = false := by decide +kernel
  have hg : bGe 1 4 = [(-5400, 0)] := by decide +kernel
  have hok2 := kOk_upi (x := x) hok hb (by rw [hg]; exact ⟨_, List.mem_singleton.mpr rfl, by show (-5400 : Int) ≤ x.toInt; omega, by show x.toInt ≤ (0 : Int); omega⟩)
  refine ⟨_, List.mem_singleton.mpr rfl, ρ', hA.ext, by decide, hA.env, ⟨by decide, ?_⟩, hok2.1, ?_, fun q hq => absurd hq List.not_mem_nil, ?_, fun _ => hst _ _ hK hx2⟩
  · show (0 : Int) = ρ' 0 + 0
    rw [hA.env.1.1]
    rfl
  · refine bHok_c (kOk_hok hok2) rfl (by decide) ?_
    rw [bZ_upi hb]
    show aUp (bZ σ') 1 4 x.toInt 1 4 = ρ' 3 + 0
    rw [show aUp (bZ σ') 1 4 x.toInt 1 4 = x.toInt from if_pos ⟨rfl, rfl⟩]
    exact hx
  · exact kSm.tr (kSm.upi (by decide +kernel)) (kSm.le hsm (by decide +kernel))
end
