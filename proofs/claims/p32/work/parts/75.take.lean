/-! by hand: how the class takes a wish: read, wish -/
section
set_option maxRecDepth 100000
variable {ro : Nat → Nat × (Nat → Int32)} {L : aLa} {Kp : pmS → Prop} {σ0 σ σ' : pmS} {ρ ρ' ρ0 : Nat → Int} {cl : pmL} {cs vs : List Value} {Q Q' : Option Value → pmS → Prop} {d o m rt pc mm n nC p k : Nat} {x : Int32} {pl : pmL} {st rest : List Value}
def kE32 : aE := [(.ofNat 0, .ofNat 0), (.ofNat 0, .ofNat 3072), (.ofNat 1, .ofNat 40)]
def kL32 : bL := [some (.inr [31]), some (.inl (false, 2, .ofNat 0))]
def kA32 : bNq := bPc 30 32 0 kL32 [] kE32 [] [] 0
def kB10 : bNq := bPc 30 32 10 kL32 [.inl (false, 0, .ofNat 0), .inr [31]] kE32 [] [] 229376
def kA13 : bNq := bPc 30 32 13 kL32 [] kE32 [] [] 0
theorem kS32 : (bSeg (bCc [bC33]) bNo [kB10] kA32 [] && bSeg (bCc [bC34f, bC39]) (bFi 3 [(some (.inl (false, 3, .ofNat 0)), kE32 ++ [(.negSucc 5399, .ofNat 0)], [(1, [(4, .inl (3, .ofNat 0))])])] kW31) [] kA13 []) = true := by decide +kernel
theorem kM32 : (bMk bSp 32).1 = 8 ∧ (bMk bSp 32).2.2.1 = 1 := by decide +kernel
def kPost32 (σ : pmS) : Option Value → pmS → Prop := fun v σ' => ∃ x : Int32, v = some (.int x) ∧ -5400 ≤ x.toInt ∧ x.toInt ≤ 0 ∧ kOk σ' ∧ kP σ' ∧ (x.toInt = 0 → ∀ i : Nat, (i : Int) < kI σ' 31 2 → bIn kTok (kI σ' 32 i)) ∧ kSm kW31 σ' σ
theorem kRead (h : bHyp ro L kP) (hq : bHyp ro L kQ) (h33 : bCok ro L kP bC33) (h34 : bCok ro L kQ bC34f) (h39 : bCok ro L kQ bC39) {nv : Int32} (hE : aEok L ρ [(.ofNat 0, .ofNat 0), (.ofNat 0, .ofNat 3072)]) (hok : kOk σ) (hP : kP σ) (hn : 1 ≤ nv.toInt ∧ nv.toInt ≤ 40) : pmCs ro 31 32 [.ref 31, .int nv] σ (kPost32 σ) := by
  have hE0 : aEok L (fun v => if v = 2 then nv.toInt else ρ v) kE32 := by
    refine ⟨⟨hE.1.1, hE.1.2.1, by decide⟩, fun v j hj => ?_⟩
    match v, hj with
    | 0, hj => cases hj; exact hE.2 0 _ rfl
    | 1, hj => cases hj; exact hE.2 1 _ rfl
    | 2, hj => cases hj; exact hn
    | v + 3, hj => cases hj
  have hk := kS32
  rw [Bool.and_eq_true] at hk
  refine bEc_ok (n := 3) (ρ := fun v => if v = 2 then nv.toInt else ρ v) (aB := [.inr [31], .inl (false, 2, .ofNat 0)]) (pl := kL32) (by decide +kernel) ⟨List.mem_singleton.mpr rfl, ⟨(by decide : 2 < 3), (Int.add_zero _).symm⟩, trivial⟩ fun cl hl => ?_
  refine bSeg_ok (E := kE32) h (fun σ0 => bCc_ok (bAc h33 bAn)) hk.1 (fun B hB => by rw [List.mem_singleton.mp hB]; rfl) (aXok0 hE0) (kOk_mok hok hP) hl trivial bNo_ok ?_
  intro B hB ρ1 cl1 cs1 σ1 hA
  rw [List.mem_singleton] at hB
  subst hB
  obtain ⟨v1, r1, rfl, hv1, hs1⟩ := bSok_c (show bSok 3 ρ1 [.inl (false, 0, .ofNat 0), .inr [31]] cs1 from hA.2.2)
  obtain ⟨v2, r2, rfl, hv2, hs2⟩ := bSok_c hs1
  obtain ⟨y, rfl, hy⟩ := bVok_int hv1
  have := bVok_one hv2
  subst this
  have := bSok_n hs2
  subst this
  have hy : y.toInt = ρ1 0 + 0 := hy.2
  have h0 : ρ1 0 = 0 := hA.env.1.1
  have hok1 := hA.ok rfl
  have hP1 := hA.kp (by decide +kernel)
  unfold bWa
  rw [show kB10.2.1 = 32 from rfl, kM32.1, kM32.2]
  refine pmWp_pfi (k := 25) (ci := 8) (j := 2) (c1 := true) (a := true) rfl rfl rfl rfl (by rw [hok1.1]; rfl) ?_
  generalize hσ2 : (σ1.1, pmUp σ1.2.1 31 2 y, σ1.2.2) = σ2
  have hg31 : bGe 31 2 = [(0, 40)] := by decide +kernel
  have hok2 : kOk σ2 := by
    rw [← hσ2]
    exact kOk_upi hok1 (by decide +kernel) (by rw [hg31]; exact ⟨_, List.mem_singleton.mpr rfl, by show (0 : Int) ≤ y.toInt; omega, by show y.toInt ≤ (40 : Int); omega⟩)
  have hq2 : kQ σ2 := by
    refine ⟨by rw [← hσ2]; exact kP_upi hP1 (by decide) (by decide) (by decide) (by decide) (by decide), Or.inr fun i hi => ?_⟩
    exfalso
    rw [← hσ2] at hi
    have hi : (i : Int) < (pmUp σ1.2.1 31 2 y 31 2).toInt := hi
    rw [kUp_at] at hi
    omega
  have hsm2 : kSm kW31 σ2 σ1 := by
    rw [← hσ2]
    exact kSm.upi (by decide +kernel)
  have hsm1 : kSm kW31 σ1 σ := kSm.le (show kSm 229376 σ1 σ from hA.sm) (by decide +kernel)
  have hend : bFinOk L 3 ρ1 kQ σ2 (bFi 3 [(some (.inl (false, 3, .ofNat 0)), kE32 ++ [(.negSucc 5399, .ofNat 0)], [(1, [(4, .inl (3, .ofNat 0))])])] kW31) (kPost32 σ) := bFin_mono (bFi_ok (E0 := kE32) (by decide) rfl (Nat.le_refl _) aExt.rf) fun v σ' hh => by
    obtain ⟨al, hm, ρ', a1, a2, a3, a4, a5⟩ := hh
    rw [List.mem_singleton] at hm
    subst hm
    cases v with
    | none => exact a4.elim
    | some v =>
      obtain ⟨x, rfl, hx⟩ := bVok_int a4
      have hx : x.toInt = ρ' 3 + 0 := hx.2
      have b3 : (-5400 : Int) ≤ ρ' 3 ∧ ρ' 3 ≤ (0 : Int) := a3.2 3 _ rfl
      have hok' : kOk σ' := kOk_m (E := kE32 ++ [(.negSucc 5399, .ofNat 0)]) a3 (by decide +kernel) a5
      have hq' := a5.2.2.2.2 (by decide +kernel)
      have hz : bZ σ' 1 4 = ρ' 3 + 0 := (a5.2.1 1 4).2
      rw [kI_z (by decide +kernel)] at hz
      refine ⟨x, rfl, by omega, by omega, hok', hq'.1, fun hx0 => ?_, kSm.tr a5.2.2.2.1 (kSm.tr hsm2 hsm1)⟩
      rcases hq'.2 with hf | hv
      · exfalso
        exact hf (by omega)
      · exact hv
  have hgo := bSeg_ok (Kp := kQ) (σ := σ2) (σ0 := σ2) (ρ := ρ1) (E := kE32) (cl := cl1) (cs := []) (Q := kPost32 σ) hq (fun σ0 => bCc_ok (bAc h34 (bAc h39 bAn))) hk.2 (fun B hB => absurd hB List.not_mem_nil) (aXok0 hA.env) (kOk_mok hok2 hq2) hA.2.1 trivial hend (fun B hB => absurd hB List.not_mem_nil)
  rw [kM32.1, kM32.2] at hgo
  exact hgo
/-! wish -/
def kE31 : aE := [(.ofNat 0, .ofNat 0), (.ofNat 0, .ofNat 3072), (.negSucc 2147483647, .ofNat 2147483647), (.negSucc 2147483647, .ofNat 2147483647), (.negSucc 2147483647, .ofNat 2147483647)]
def kF31 : aE := [(.ofNat 0, .ofNat 0), (.ofNat 0, .ofNat 3072), (.ofNat 1, .ofNat 3), (.ofNat 1, .ofNat 9), (.ofNat 1, .ofNat 40)]
def kL31 : bL := [some (.inr [0]), some (.inl (false, 2, .ofNat 0)), some (.inl (false, 3, .ofNat 0)), some (.inl (false, 4, .ofNat 0)), none, none]
def kA31 : bNq := bPc 39 31 0 kL31 [] kE31 [] [] 0
def kB79 : bNq := bPc 39 31 79 kL31 [.inl (false, 4, .ofNat 0), .inr [31]] kF31 [] [] 0
def kA82 : bNq := bPc 39 31 82 kL31 [.inl (false, 5, .ofNat 0)] (kF31 ++ [(.negSucc 5399, .ofNat 0)]) [] [] 0
def kB121 : bNq := bPc 39 31 121 kL31 [.inl (false, 6, .ofNat 0), .inr [32], .inl (false, 3, .ofNat 0), .inl (false, 2, .ofNat 0), .inr [7]] (kF31 ++ [(.ofNat 0, .ofNat 0), (.ofNat 0, .ofNat 40)]) [] [(31, [(2, .inl (6, .ofNat 0))])] 16384
theorem kS31 : (bSeg (bCc []) (bFi 5 [(some (.inl (false, 0, .negSucc 0)), kE31, [])] 0) [kB79] kA31 [] && bSeg (bCc []) (bFi 6 [(some (.inl (false, 5, .ofNat 0)), kF31 ++ [(.negSucc 5399, .ofNat 0)], [])] 16384) [kB121] kA82 []) = true := by decide +kernel
theorem kM31 : (bMk bSp 31).1 = 11 ∧ (bMk bSp 31).2.2.1 = 1 := by decide +kernel
theorem kWish (h : bHyp ro L kP) (hq : bHyp ro L kQ) (h33 : bCok ro L kP bC33) (h34 : bCok ro L kQ bC34f) (h39 : bCok ro L kQ bC39) : bCok ro L kP bC31 := by
  intro ρ vs σ hE hM hs
  have hE : aEok L ρ kE31 := hE
  have hM : bMok 5 ρ kP σ ([], [], 0) σ := hM
  have hs : bSok 5 ρ [.inr [0], .inl (false, 2, .ofNat 0), .inl (false, 3, .ofNat 0), .inl (false, 4, .ofNat 0)] vs := hs
  have hok := kOk_of hM
  have hN : 0 ≤ L.1 ∧ L.1 ≤ 3072 := by
    obtain ⟨_, Ln, xs, _, e2, e3⟩ := h
    rw [e2]
    exact ⟨by show (0 : Int) ≤ (Ln : Int); omega, by show (Ln : Int) ≤ 3072; omega⟩
  have hk := kS31
  rw [Bool.and_eq_true] at hk
  suffices hg : pmCs ro 40 31 vs σ (kPostI (-5400) 2 σ) by
    refine pmCs_mono hg ?_
    rintro v σ' ⟨x, rfl, x1, x2, x3, x4, x5⟩
    refine ⟨_, List.mem_singleton.mpr rfl, fun v => if v = 5 then x.toInt else ρ v, fun v hv => if_neg (by have hv : v < 5 := hv; omega), by decide, ⟨⟨hE.1.1, hE.1.2.1, by decide⟩, fun v j hj => ?_⟩, ⟨(by decide : 5 < 6), (Int.add_zero _).symm⟩, x3.1, fun p k => x3.2 p k, fun q hq => absurd hq List.not_mem_nil, x5, fun _ => x4⟩
    match v, hj with
    | 0, hj => cases hj; exact hE.2 0 _ rfl
    | 1, hj => cases hj; exact hE.2 1 _ rfl
    | 2, hj => cases hj; exact hE.2 2 _ rfl
    | 3, hj => cases hj; exact hE.2 3 _ rfl
    | 4, hj => cases hj; exact hE.2 4 _ rfl
    | 5, hj => cases hj; exact ⟨x1, x2⟩
    | v + 6, hj => cases hj
  refine bEc_ok (pl := kL31) (by decide +kernel) hs fun cl hl => ?_
  have hend : bFinOk L 5 ρ kP σ (bFi 5 [(some (.inl (false, 0, .negSucc 0)), kE31, [])] 0) (kPostI (-5400) 2 σ) := bFin_mono (bFi_int (by decide) rfl (by decide)) fun v σ' hh => by
    obtain ⟨x, rfl, g1, g2, g3, g4, g5⟩ := hh
    have g1 : x.toInt = ρ 0 + (-1) := g1
    have h0 := hE.1.1
    exact ⟨x, rfl, by omega, by omega, g3, g4 (by decide +kernel), kSm.le g5 (by decide +kernel)⟩
  refine bSeg_ok (E := kE31) h bCn_ok hk.1 (fun B hB => by rw [List.mem_singleton.mp hB]; rfl) (aXok0 hE) hM hl trivial hend ?_
  intro B hB ρ1 cl1 cs1 σ1 hA
  rw [List.mem_singleton] at hB
  subst hB
  obtain ⟨v1, r1, rfl, hv1, hs1⟩ := bSok_c (show bSok 5 ρ1 [.inl (false, 4, .ofNat 0), .inr [31]] cs1 from hA.2.2)
  obtain ⟨v2, r2, rfl, hv2, hs2⟩ := bSok_c hs1
  obtain ⟨y, rfl, hy⟩ := bVok_int hv1
  have := bVok_one hv2
  subst this
  have := bSok_n hs2
  subst this
  have hy : y.toInt = ρ1 4 + 0 := hy.2
  have b4 : (1 : Int) ≤ ρ1 4 ∧ ρ1 4 ≤ (40 : Int) := hA.env.2 4 _ rfl
  have hok1 := hA.ok rfl
  have hP1 := hA.kp (by decide +kernel)
  have hE1 : aEok L ρ1 kF31 := hA.env
  have l1 : kSm kW31 σ1 σ := kSm.le (show kSm 0 σ1 σ from hA.sm) (by decide +kernel)
  unfold bWa
  rw [show kB79.2.1 = 31 from rfl, kM31.1, kM31.2, show kB79.2.2.1 = 79 from rfl, show kB79.1 = 39 from rfl]
  refine pmWp_iv (k := 170) (mm := 32) (nn := 1) (oo := 8) (p := 31) (rest := []) (as := [.int y]) (u := (0, true)) (a := 0) (b := 0) (c := true) rfl rfl rfl rfl rfl (by rw [hok1.1]; rfl) (by decide) ?_
  refine pmCs_mono (pmCs_deep (kRead (ρ := ρ1) h hq h33 h34 h39 ⟨⟨hE1.1.1, hE1.1.2.1, by decide⟩, fun v j hj => ?_⟩ hok1 hP1 (by omega)) (by decide)) ?_
  · match v, hj with
    | 0, hj => cases hj; exact hE1.2 0 _ rfl
    | 1, hj => cases hj; exact hE1.2 1 _ rfl
    | v + 2, hj => cases hj
  rintro v σ2 ⟨x, rfl, x1, x2, hok2, hP2, hv2, hsm2⟩
  have hE2 : aEok L (fun v => if v = 5 then x.toInt else ρ1 v) (kF31 ++ [(.negSucc 5399, .ofNat 0)]) := by
    refine ⟨⟨hE1.1.1, hE1.1.2.1, by decide⟩, fun v j hj => ?_⟩
    match v, hj with
    | 0, hj => cases hj; exact hE1.2 0 _ rfl
    | 1, hj => cases hj; exact hE1.2 1 _ rfl
    | 2, hj => cases hj; exact hE1.2 2 _ rfl
    | 3, hj => cases hj; exact hE1.2 3 _ rfl
    | 4, hj => cases hj; exact hE1.2 4 _ rfl
    | 5, hj => cases hj; exact ⟨x1, x2⟩
    | v + 6, hj => cases hj
  have hl2 : bLok 6 (fun v => if v = 5 then x.toInt else ρ1 v) kL31 cl1 := (show bLok 5 ρ1 kL31 cl1 from hA.2.1).ext (by decide) fun v hv => if_neg (by omega)
  have hend2 : bFinOk L 6 (fun v => if v = 5 then x.toInt else ρ1 v) kP σ2 (bFi 6 [(some (.inl (false, 5, .ofNat 0)), kF31 ++ [(.negSucc 5399, .ofNat 0)], [])] 16384) (kPostI (-5400) 2 σ) := bFin_mono (bFi_int (by decide) rfl (by decide)) fun v σ' hh => by
    obtain ⟨z, rfl, g1, g2, g3, g4, g5⟩ := hh
    have g1 : z.toInt = x.toInt + 0 := g1
    exact ⟨z, rfl, by omega, by omega, g3, g4 (by decide +kernel), kSm.tr (kSm.le g5 (by decide +kernel)) (kSm.tr hsm2 l1)⟩
  have hgo := bSeg_ok (Kp := kP) (σ := σ2) (σ0 := σ2) (ρ := fun v => if v = 5 then x.toInt else ρ1 v) (pl := kL31) (st := [.inl (false, 5, .ofNat 0)]) (E := kF31 ++ [((.negSucc 5399, .ofNat 0) : aI)]) (cl := cl1) (cs := [.int x]) (Q := kPostI (-5400) 2 σ) h bCn_ok hk.2 (fun B hB => by rw [List.mem_singleton.mp hB]; rfl) (aXok0 hE2) (kOk_mok hok2 hP2) hl2 ⟨⟨(by decide : 5 < 6), (Int.add_zero _).symm⟩, trivial⟩ hend2 ?_
  · rw [kM31.1, kM31.2] at hgo
    exact hgo
  intro B hB ρ3 cl3 cs3 σ3 hA3
  rw [List.mem_singleton] at hB
  subst hB
  obtain ⟨v1, r1, rfl, hv1, hs1⟩ := bSok_c (show bSok 7 ρ3 [.inl (false, 6, .ofNat 0), .inr [32], .inl (false, 3, .ofNat 0), .inl (false, 2, .ofNat 0), .inr [7]] cs3 from hA3.2.2)
  obtain ⟨w2, r2, rfl, hw2, hs2⟩ := bSok_c hs1
  obtain ⟨w3, r3, rfl, hw3, hs3⟩ := bSok_c hs2
  obtain ⟨w4, r4, rfl, hw4, hs4⟩ := bSok_c hs3
  obtain ⟨w5, r5, rfl, hw5, hs5⟩ := bSok_c hs4
  obtain ⟨s, rfl, hss⟩ := bVok_int hv1
  have := bVok_one hw2
  subst this
  obtain ⟨wt, rfl, hwt⟩ := bVok_int hw3
  obtain ⟨pv, rfl, hpv⟩ := bVok_int hw4
  have := bVok_one hw5
  subst this
  have := bSok_n hs5
  subst this
  have hss : s.toInt = ρ3 6 + 0 := hss.2
  have hwt : wt.toInt = ρ3 3 + 0 := hwt.2
  have hpv : pv.toInt = ρ3 2 + 0 := hpv.2
  have hE3 : aEok L ρ3 (kF31 ++ [(.ofNat 0, .ofNat 0), (.ofNat 0, .ofNat 40)]) := hA3.env
  have c2 : (1 : Int) ≤ ρ3 2 ∧ ρ3 2 ≤ (3 : Int) := hE3.2 2 _ rfl
  have c3 : (1 : Int) ≤ ρ3 3 ∧ ρ3 3 ≤ (9 : Int) := hE3.2 3 _ rfl
  have c5 : (0 : Int) ≤ ρ3 5 ∧ ρ3 5 ≤ (0 : Int) := hE3.2 5 _ rfl
  have c6 : (0 : Int) ≤ ρ3 6 ∧ ρ3 6 ≤ (40 : Int) := hE3.2 6 _ rfl
  have e5 : ρ3 5 = x.toInt := hA3.ext 5 (by decide)
  have hok3 : kOk σ3 := kOk_m (E := kF31 ++ [(.ofNat 0, .ofNat 0), (.ofNat 0, .ofNat 40)]) hE3 (by decide +kernel) hA3.1.2.1
  have hP3 := hA3.kp (by decide +kernel)
  have hz : bZ σ3 31 2 = ρ3 6 + 0 := (hA3.1.2.1.2.1 31 2).2
  rw [kI_z (by decide +kernel)] at hz
  have hsm3 : kSm 16384 σ3 σ2 := hA3.sm
  have q1 : kI σ3 31 2 = kI σ2 31 2 := by
    unfold kI
    rw [(hsm3 31 2 (by decide +kernel)).1]
  have q2 : ∀ j, kI σ3 32 j = kI σ2 32 j := fun j => by
    unfold kI
    rw [(hsm3 32 j (by rw [bRg_sing (by decide +kernel) j 0]; decide +kernel)).1]
  unfold bWa
  rw [show kB121.2.1 = 31 from rfl, kM31.1, kM31.2, show kB121.2.2.1 = 121 from rfl, show kB121.1 = 39 from rfl]
  refine pmWp_iv (k := 182) (mm := 46) (nn := 4) (oo := 9) (p := 7) (rest := []) (as := [.int pv, .int wt, .ref 32, .int s]) (u := (0, true)) (a := 0) (b := 0) (c := true) rfl rfl rfl rfl rfl (by rw [hok3.1]; rfl) (by decide) ?_
  refine pmCs_mono (pmCs_deep (kAdd h hN hok3 hP3 (pv := pv) (w := wt) (s := s) (by omega) (by omega) (by omega) (fun i hi => ?_)) (by decide)) ?_
  · rw [q2]
    exact hv2 (by omega) i (by rw [← q1, hz]; omega)
  rintro v σ4 ⟨z, rfl, z1, z2, z3, z4, z5⟩
  refine (pmWp_ret (i := .ireturn) (r := some (.int z)) rfl rfl).mpr ?_
  exact ⟨z, rfl, by omega, z2, z3, z4, kSm.tr z5 (kSm.tr (kSm.le hsm3 (by decide +kernel)) (kSm.tr hsm2 l1))⟩
end
