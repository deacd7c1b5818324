/-! by hand: how the class takes a wish: openText, emit -/
section
set_option maxRecDepth 100000
variable {ro : Nat → Nat × (Nat → Int32)} {L : aLa} {Kp : pmS → Prop} {σ0 σ σ' : pmS} {ρ ρ' ρ0 : Nat → Int} {cl : pmL} {cs vs : List Value} {Q : Option Value → pmS → Prop} {d mm n nC p k : Nat} {x : Int32}
theorem kUp_ne {β : Type} {f : Nat → Nat → β} {q p k : Nat} {x : β} (h : q ≠ p) : pmUp f p k x q = f q := by
  funext j
  show (if q = p ∧ j = k then x else f q j) = f q j
  rw [if_neg (fun e => h e.1)]
theorem kUp_at {β : Type} {f : Nat → Nat → β} {p k : Nat} {x : β} : pmUp f p k x p k = x := if_pos ⟨rfl, rfl⟩
theorem kUp_nk {β : Type} {f : Nat → Nat → β} {q p j k : Nat} {x : β} (h : ¬ (q = p ∧ j = k)) : pmUp f p k x q j = f q j := if_neg h
theorem kP_eq (e1 : σ'.2.1 99 = σ.2.1 99) (e2 : σ'.2.1 98 = σ.2.1 98) (e3 : σ'.2.1 9 = σ.2.1 9) (e4 : σ'.2.1 8 = σ.2.1 8) (e5 : σ'.2.2 114 = σ.2.2 114) (e6 : σ'.2.1 87 41 = σ.2.1 87 41) (h : kP σ) : kP σ' := by
  obtain ⟨h1, h2, h3⟩ := h
  refine ⟨?_, ?_, ?_⟩
  · unfold kMemo kI at h1 ⊢
    rw [e5, e6]
    exact h1
  · unfold kCodes kI at h2 ⊢
    rw [e1, e2]
    exact h2
  · unfold kToks kI at h3 ⊢
    rw [e3, e4]
    exact h3
theorem kP_upi (h : kP σ) (h1 : p ≠ 99) (h2 : p ≠ 98) (h3 : p ≠ 9) (h4 : p ≠ 8) (h5 : p ≠ 87) : kP (σ.1, pmUp σ.2.1 p k x, σ.2.2) :=
  kP_eq (kUp_ne (Ne.symm h1)) (kUp_ne (Ne.symm h2)) (kUp_ne (Ne.symm h3)) (kUp_ne (Ne.symm h4)) rfl (congrFun (kUp_ne (Ne.symm h5)) 41) h
theorem kOk_m {E : aE} {H : bH} {R : bS} {W : Nat} (hE : aEok L ρ E) (hm : bMh E E.length E.length [] [] H = true) (hM : bMok E.length ρ Kp σ0 (H, R, W) σ) : kOk σ := ⟨hM.1, fun p k => bMh_ok hE hm hM.2.1 p k⟩
theorem bHok_o {o : bO} {φ : Nat → Nat → Int} (h : bHok n ρ [] φ) (ho : ∀ k e, (k, e) ∈ o → bEk n ρ e (φ p k)) : bHok n ρ [(p, o)] φ := by
  intro q j
  unfold bEn
  simp only [fLk_eq, pmLk_cons]
  by_cases c : p = q
  · subst c
    rw [if_pos rfl]
    simp only [fLk_eq]
    cases hk : pmLk o j with
    | some e => exact ho j e (kLk_mem hk)
    | none => exact h p j
  · rw [if_neg c]
    exact h q j
theorem kAll (h : kSm 0 σ' σ) (p k : Nat) : σ'.2.1 p k = σ.2.1 p k ∧ σ'.2.2 p k = σ.2.2 p k := h p k (Nat.zero_testBit _)
/-! openText -/
def kE33 : aE := [(.ofNat 0, .ofNat 0), (.ofNat 0, .ofNat 3072), (.ofNat 0, .ofNat 400)]
def kB33 : bNq := bPc 0 33 19 [none, none] [.inl (false, 0, .ofNat 0), .inr [1]] kE33 [] [(1, [(3, .inl (0, .ofNat 0))])] 98304
theorem kS33 : bSeg (bCc []) bNo [kB33] (bPc 0 33 0 [some (.inr [1]), some (.inl (false, 2, .ofNat 0))] [] kE33 [] [] 0) [] = true := by decide +kernel
theorem kM33 : (bMk bSp 33).1 = 6 ∧ (bMk bSp 33).2.2.1 = 0 := by decide +kernel
theorem kOpen (h : bHyp ro L Kp) (hst : ∀ (σ : pmS) (x : Int32), Kp σ → Kp (σ.1, pmUp σ.2.1 1 4 x, σ.2.2)) : bCok ro L Kp bC33 := by
  intro ρ vs σ hE hM hs
  have hE : aEok L ρ kE33 := hE
  have hM : bMok 3 ρ Kp σ ([], [], 0) σ := hM
  have hs : bSok 3 ρ [.inr [1], .inl (false, 2, .ofNat 0)] vs := hs
  refine bEc_ok (pl := [some (.inr [1]), some (.inl (false, 2, .ofNat 0))]) (by decide +kernel) hs fun cl hl => ?_
  refine bSeg_ok h bCn_ok kS33 (fun B hB => by rw [List.mem_singleton.mp hB]; rfl) (aXok0 hE) hM hl trivial bNo_ok ?_
  intro B hB ρ' cl' cs' σ' hA
  rw [List.mem_singleton] at hB
  subst hB
  obtain ⟨v1, r1, rfl, hv1, hs1⟩ := bSok_c (show bSok 3 ρ' [.inl (false, 0, .ofNat 0), .inr [1]] cs' from hA.2.2)
  obtain ⟨v2, r2, rfl, hv2, hs2⟩ := bSok_c hs1
  obtain ⟨x, rfl, hx⟩ := bVok_int hv1
  have := bVok_one hv2
  subst this
  have := bSok_n hs2
  subst this
  have hx : x.toInt = ρ' 0 + 0 := hx.2
  have h00 : ρ' 0 = 0 := hA.env.1.1
  have hok : kOk σ' := kOk_m (E := kE33) hA.env (by decide +kernel) hA.1.2.1
  have hK := hA.kp (by decide +kernel)
  have hsm := hA.sm
  have h3 : bZ σ' 1 3 = ρ' 0 + 0 := (hA.1.2.1.2.1 1 3).2
  unfold bWa
  rw [show kB33.2.1 = 33 from rfl, kM33.1, kM33.2]
  refine pmWp_pfi (k := 31) (ci := 6) (j := 4) (c1 := true) (a := true) rfl rfl rfl rfl (by rw [hok.1]; rfl) ?_
  refine (pmWp_ret (i := .return_) (r := none) rfl rfl).mpr ?_
  have hb : bLo 1 4 = false := by decide +kernel
  have hg : bGe 1 4 = [(-5400, 0)] := by decide +kernel
  have hok2 := kOk_upi (x := x) hok hb (by rw [hg]; exact ⟨_, List.mem_singleton.mpr rfl, by show (-5400 : Int) ≤ x.toInt; omega, by show x.toInt ≤ (0 : Int); omega⟩)
  refine ⟨_, List.mem_singleton.mpr rfl, ρ', hA.ext, by decide, hA.env, trivial, hok2.1, ?_, fun q hq => absurd hq List.not_mem_nil, ?_, fun _ => hst _ _ hK⟩
  · refine bHok_o (kOk_hok hok2) fun k e he => ?_
    rw [bZ_upi hb]
    simp only [List.mem_cons, List.not_mem_nil, or_false, Prod.mk.injEq] at he
    rcases he with ⟨rfl, rfl⟩ | ⟨rfl, rfl⟩
    · refine ⟨(by decide : 0 < 3), ?_⟩
      rw [show aUp (bZ σ') 1 4 x.toInt 1 3 = bZ σ' 1 3 from if_neg (by decide)]
      exact h3
    · refine ⟨(by decide : 0 < 3), ?_⟩
      rw [show aUp (bZ σ') 1 4 x.toInt 1 4 = x.toInt from if_pos ⟨rfl, rfl⟩]
      exact hx
  · exact kSm.tr (kSm.upi (by decide +kernel)) (kSm.le hsm (by decide +kernel))
/-! emit -/
def kW41 : Nat := 1856910058928070412348686336
def kCmb : List (Nat × Nat × Nat) := [(0, 5, 1), (1, 7, 1), (2, 4, 1), (3, 5, 7), (4, 4, 5), (5, 1, 1), (6, 1, 1), (7, 1, 1)]
def kE41 (s a b : Nat) : aE := [(.ofNat 0, .ofNat 0), (.ofNat 0, .ofNat 3072), (.ofNat s, .ofNat s), (.ofNat a, .ofNat a), (.ofNat b, .ofNat b)]
def kF41 : aE := [(.ofNat 0, .ofNat 0), (.ofNat 0, .ofNat 3072), (.ofNat 0, .ofNat 7), (.negSucc 0, .ofNat 6), (.negSucc 0, .ofNat 6)]
def kA41 (E : aE) : bNq := bPc 0 41 0 [some (.inr [31]), some (.inl (false, 2, .ofNat 0)), some (.inl (false, 3, .ofNat 0)), some (.inl (false, 4, .ofNat 0))] [] E [] [] 0
def kB41 (E : aE) (t : aI) : bNq := bPc 0 41 33 [some (.inr [31]), none, none, none] [.inl (false, 6, .ofNat 0), .inl (false, 5, .ofNat 0), .inr [32]] (E ++ [(.ofNat 0, .ofNat 39), t]) [] [(31, [(2, .inl (5, .ofNat 0))])] 0
def kT41 (s a b : Nat) : aI := (.ofNat (64 * s + 8 * a + b), .ofNat (64 * s + 8 * a + b))
theorem kS41v : (kCmb.all fun q => (List.range q.2.1).all fun a => (List.range q.2.2).all fun b => bSeg (bCc []) (bFi 5 [(none, kE41 q.1 a b, [])] 0) [kB41 (kE41 q.1 a b) (kT41 q.1 a b)] (kA41 (kE41 q.1 a b)) [] && bCov (kT41 q.1 a b) kTok) = true := by decide +kernel
theorem kS41f : bSeg (bCc []) (bFi 5 [(none, kF41, [])] 0) [kB41 kF41 (.negSucc 2147483647, .ofNat 2147483647)] (kA41 kF41) [] = true := by decide +kernel
def kA34 : bNq := bPc 0 41 34 [some (.inr [31]), none, none, none] [] [(.ofNat 0, .ofNat 0), (.ofNat 0, .ofNat 3072), (.ofNat 0, .ofNat 39)] [] [(31, [(2, .inl (2, .ofNat 0))])] 0
def kB34 : bNq := bPc 0 41 41 [none, none, none, none] [.inl (false, 2, .ofNat 1), .inr [31]] [(.ofNat 0, .ofNat 0), (.ofNat 0, .ofNat 3072), (.ofNat 0, .ofNat 39)] [] [] 0
theorem kS41e : bSeg (bCc []) bNo [kB34] kA34 [] = true := by decide +kernel
theorem kM41 : (bMk bSp 41).1 = 8 ∧ (bMk bSp 41).2.2.1 = 0 := by decide +kernel
def kQ41 (σ : pmS) : Option Value → pmS → Prop := fun v σ' => v = none ∧ kOk σ' ∧ kQ σ' ∧ kSm kW41 σ' σ
theorem kEm2 (h : bHyp ro L kQ) {x i : Int32} (hok : kOk σ) (hq : kQ σ) (hE : aEok L ρ [(.ofNat 0, .ofNat 0), (.ofNat 0, .ofNat 3072)]) (hl : bLok 2 ρ [some (.inr [31]), none, none, none] cl) (hi : kI σ 31 2 = i.toInt) (h0 : 0 ≤ i.toInt) (h1 : i.toInt ≤ 39) (hx : kI σ 1 4 ≠ 0 ∨ bIn kTok x.toInt) : pmWp ro 0 8 41 0 33 cl [.int x, .int i, .ref 32] σ (kQ41 σ) := by
  obtain ⟨hn, hni⟩ := kNat (i := i) (n := 40) h0 (by omega)
  refine pmWp_ias (n := 40) (rs := []) rfl (by rw [hok.1]; rfl) hn ?_
  generalize hσ1 : (σ.1, pmUp σ.2.1 32 i.toNatClampNeg x, σ.2.2) = σ1
  have hb32 : ∀ k, bLo 32 k = false := fun k => rfl
  have hg32 : ∀ k, bGe 32 k = [(-2147483648, 2147483647)] := fun k => bGu_ok (by decide +kernel) k
  have hok1 : kOk σ1 := by
    rw [← hσ1]
    exact kOk_upi hok (hb32 _) (bIn_i (hg32 _))
  have e1 : ∀ p j, ¬ (p = 32 ∧ j = i.toNatClampNeg) → kI σ1 p j = kI σ p j := fun p j hne => by
    rw [← hσ1]
    show (pmUp σ.2.1 32 i.toNatClampNeg x p j).toInt = (σ.2.1 p j).toInt
    rw [kUp_nk hne]
  have e2 : kI σ1 32 i.toNatClampNeg = x.toInt := by
    rw [← hσ1]
    show (pmUp σ.2.1 32 i.toNatClampNeg x 32 i.toNatClampNeg).toInt = x.toInt
    rw [kUp_at]
  have hq1 : kQ σ1 := by
    refine ⟨by rw [← hσ1]; exact kP_upi hq.1 (by decide) (by decide) (by decide) (by decide) (by decide), ?_⟩
    rcases hq.2 with hf | hv
    · exact Or.inl (by rw [e1 1 4 (fun e => absurd e.1 (by decide))]; exact hf)
    · refine Or.inr fun j hj => ?_
      rw [e1 31 2 (fun e => absurd e.1 (by decide)), hi] at hj
      rw [e1 32 j (fun e => by omega)]
      exact hv j (by rw [hi]; exact hj)
  have hw1 : kSm kW41 σ1 σ := by
    rw [← hσ1]
    refine kSm.upi ?_
    rw [bRg_sing (by decide +kernel) _ 0]
    decide +kernel
  have hE1 : aEok L (fun v => if v = 2 then i.toInt else ρ v) [(.ofNat 0, .ofNat 0), (.ofNat 0, .ofNat 3072), (.ofNat 0, .ofNat 39)] := by
    refine ⟨⟨hE.1.1, hE.1.2.1, by decide⟩, fun v j hj => ?_⟩
    match v, hj with
    | 0, hj => cases hj; exact hE.2 0 _ rfl
    | 1, hj => cases hj; exact hE.2 1 _ rfl
    | 2, hj => cases hj; exact ⟨by show (0 : Int) ≤ i.toInt; omega, by show i.toInt ≤ (39 : Int); omega⟩
    | v + 3, hj => cases hj
  have hl1 : bLok 3 (fun v => if v = 2 then i.toInt else ρ v) [some (.inr [31]), none, none, none] cl := ⟨hl.1, fun j a hj => by
    match j, hj with
    | 0, hj =>
      cases hj
      obtain ⟨v, g1, g2⟩ := hl.2 0 _ rfl
      have := bVok_one g2
      subst this
      exact ⟨_, g1, List.mem_singleton.mpr rfl⟩
    | 1, hj => cases hj
    | 2, hj => cases hj
    | 3, hj => cases hj
    | j + 4, hj => cases hj⟩
  have hgo := bSeg_ok (σ := σ1) (σ0 := σ1) (Kp := kQ) (Q := kQ41 σ) (ρ := fun v => if v = 2 then i.toInt else ρ v) (cl := cl) (cs := []) h bCn_ok kS41e (fun B hB => by rw [List.mem_singleton.mp hB]; rfl) (aXok0 hE1) ⟨hok1.1, bHok_c (kOk_hok hok1) rfl (by decide) (by
      show bZ σ1 31 2 = i.toInt + 0
      unfold bZ
      rw [show bLo 31 2 = false by decide +kernel]
      show kI σ1 31 2 = _
      rw [e1 31 2 (fun e => absurd e.1 (by decide)), hi]
      omega), fun q hq => absurd hq List.not_mem_nil, fun p k _ => ⟨rfl, rfl⟩, fun _ => hq1⟩ hl1 trivial bNo_ok ?_
  · rw [kM41.1, kM41.2] at hgo
    exact hgo
  intro B hB ρ' cl' cs' σ' hA
  rw [List.mem_singleton] at hB
  subst hB
  obtain ⟨v1, r1, rfl, hv1, hs1⟩ := bSok_c (show bSok 3 ρ' [.inl (false, 2, .ofNat 1), .inr [31]] cs' from hA.2.2)
  obtain ⟨v2, r2, rfl, hv2, hs2⟩ := bSok_c hs1
  obtain ⟨y, rfl, hy⟩ := bVok_int hv1
  have := bVok_one hv2
  subst this
  have := bSok_n hs2
  subst this
  have hy : y.toInt = ρ' 2 + 1 := hy.2
  have hy2 : ρ' 2 = i.toInt := hA.ext 2 (by decide)
  have hok' := hA.ok rfl
  have hq' := hA.kp (by decide +kernel)
  have hall := kAll hA.sm
  unfold bWa
  rw [show kB34.2.1 = 41 from rfl, kM41.1, kM41.2]
  refine pmWp_pfi (k := 25) (ci := 8) (j := 2) (c1 := true) (a := true) rfl rfl rfl rfl (by rw [hok'.1]; rfl) ?_
  refine (pmWp_ret (i := .return_) (r := none) rfl rfl).mpr ?_
  have hg31 : bGe 31 2 = [(0, 40)] := by decide +kernel
  refine ⟨rfl, kOk_upi hok' (by decide +kernel) (by rw [hg31]; exact ⟨_, List.mem_singleton.mpr rfl, by show (0 : Int) ≤ y.toInt; omega, by show y.toInt ≤ (40 : Int); omega⟩), ⟨kP_upi hq'.1 (by decide) (by decide) (by decide) (by decide) (by decide), ?_⟩, ?_⟩
  · have u1 : ∀ p j, ¬ (p = 31 ∧ j = 2) → kI (σ'.1, pmUp σ'.2.1 31 2 y, σ'.2.2) p j = kI σ1 p j := fun p j hne => by
      show (pmUp σ'.2.1 31 2 y p j).toInt = (σ1.2.1 p j).toInt
      rw [kUp_nk hne, (hall p j).1]
    have u2 : kI (σ'.1, pmUp σ'.2.1 31 2 y, σ'.2.2) 31 2 = y.toInt := by
      show (pmUp σ'.2.1 31 2 y 31 2).toInt = y.toInt
      rw [kUp_at]
    rcases hq.2 with hf | hv
    · exact Or.inl (by rw [u1 1 4 (by decide), e1 1 4 (fun e => absurd e.1 (by decide))]; exact hf)
    · rcases hx with hf | hx
      · exact Or.inl (by rw [u1 1 4 (by decide), e1 1 4 (fun e => absurd e.1 (by decide))]; exact hf)
      · refine Or.inr fun j hj => ?_
        rw [u2] at hj
        rw [u1 32 j (by omega)]
        by_cases c : j = i.toNatClampNeg
        · rw [c, e2]
          exact hx
        · rw [e1 32 j (fun e => c e.2)]
          exact hv j (by rw [hi]; omega)
  · refine kSm.tr (kSm.upi (by decide +kernel)) (kSm.tr (kSm.le hA.sm (by decide +kernel)) hw1)
end
