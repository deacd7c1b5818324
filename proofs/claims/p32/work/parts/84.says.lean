/-! by hand: the reference reads a wish: says, endsPiece, joinsEnd, hasOpen, opens -/
section
set_option maxRecDepth 100000
variable {ro : Nat → Nat × (Nat → Int32)} {L : aLa} {Kp : pmS → Prop} {σ0 σ σ' σs : pmS} {ρ ρ' : Nat → Int} {cl : pmL} {cs vs : List Value} {Q : Option Value → pmS → Prop} {n W p k : Nat}
theorem kSm.i (h : kSm W σ' σ) (hb : W.testBit (bRg p k) = false) : kI σ' p k = kI σ p k := by
  unfold kI
  rw [(h p k hb).1]
theorem kSm.r (h : kSm W σ' σ) (hs : bSing p = true) (hb : W.testBit (bRg p 0) = false) (j : Nat) : kI σ' p j = kI σ p j := h.i (by rw [bRg_sing hs j 0]; exact hb)
def kBe (I : aE) : aE := (.ofNat 0, .ofNat 0) :: (.ofNat 0, .ofNat 3072) :: I
def kFit : aE → List Int → Prop
  | [], [] => True
  | i :: I, z :: l => (i.1 ≤ z ∧ z ≤ i.2) ∧ kFit I l
  | _, _ => False
def kRv (L : aLa) (l : List Int) : Nat → Int := fun v => match v with
  | 0 => 0
  | 1 => L.1
  | v + 2 => l.getD v 0
theorem kFit_get : ∀ {I : aE} {l : List Int}, kFit I l → ∀ (v : Nat) (j : aI), I[v]? = some j → j.1 ≤ l.getD v 0 ∧ l.getD v 0 ≤ j.2
  | [], [], _, v, j, hj => by cases hj
  | i :: I, z :: l, h, 0, j, hj => by cases hj; exact h.1
  | i :: I, z :: l, h, v + 1, j, hj => kFit_get h.2 v j hj
theorem kEnv {I : aE} {l : List Int} (hL : 0 ≤ L.1 ∧ L.1 ≤ 3072) (h : kFit I l) : aEok L (kRv L l) (kBe I) := by
  refine ⟨⟨rfl, rfl, by show 1 < I.length + 2; omega⟩, fun v j hj => ?_⟩
  match v, hj with
  | 0, hj => cases hj; exact ⟨Int.le_refl _, Int.le_refl _⟩
  | 1, hj => cases hj; exact hL
  | v + 2, hj => exact kFit_get h v j hj
def kHv (l : List (Nat × aF)) : bH := [(87, l.map fun q => (q.1, .inl q.2))]
def kHs (n : Nat) (ρ : Nat → Int) (σ : pmS) : List (Nat × aF) → Prop
  | [] => True
  | q :: t => (q.2.1 < n ∧ kI σ 87 q.1 = ρ q.2.1 + q.2.2) ∧ kHs n ρ σ t
theorem kHs_mem : ∀ {l : List (Nat × aF)}, kHs n ρ σ l → ∀ q ∈ l, q.2.1 < n ∧ kI σ 87 q.1 = ρ q.2.1 + q.2.2
  | [], _, q, hq => absurd hq List.not_mem_nil
  | a :: t, h, q, hq => by
    rcases List.mem_cons.mp hq with rfl | hq
    · exact h.1
    · exact kHs_mem h.2 q hq
theorem kHv_ok {l : List (Nat × aF)} (hok : kOk σ) (hb : (l.all fun q => !(bLo 87 q.1)) = true) (h : kHs n ρ σ l) : bHok n ρ (kHv l) (bZ σ) := by
  refine bHok_o (kOk_hok hok) fun k e he => ?_
  obtain ⟨q, hq, e1⟩ := List.mem_map.mp he
  injection e1 with e1 e2
  subst e1
  subst e2
  have h1 := kHs_mem h q hq
  have h2 : bLo 87 q.1 = false := by simpa using List.all_eq_true.mp hb q hq
  rw [kI_z h2]
  exact h1
theorem kMok {l : List (Nat × aF)} {R : bS} (hok : kOk σ) (hP : kP σ) (hb : (l.all fun q => !(bLo 87 q.1)) = true) (h : kHs n ρ σ l) (hR : bSk n ρ R (bZ σ)) : bMok n ρ kP σ (kHv l, R, 0) σ := ⟨hok.1, kHv_ok hok hb h, hR, fun p k _ => ⟨rfl, rfl⟩, fun _ => hP⟩
theorem kNoR : bSk n ρ [] (bZ σ) := fun q hq => absurd hq List.not_mem_nil
theorem kOneR {p v w : Nat} {c : Int} (h1 : v < n) (h2 : w < n) (hb : bLo p (ρ v + c).toNat = false) (h : kI σ p (ρ v + c).toNat = ρ w) : bSk n ρ [(p, (v, c), (w, .ofNat 0))] (bZ σ) := fun q hq => by
  rw [List.mem_singleton] at hq
  subst hq
  refine ⟨h1, fun _ => ⟨h2, ?_⟩⟩
  show bZ σ p (ρ v + c).toNat = ρ w + 0
  rw [kI_z hb, h, Int.add_zero]
theorem kOk_at {lo hi : Int} (hok : kOk σ) (hb : bLo p k = false) (hg : bGe p k = [(lo, hi)]) : lo ≤ kI σ p k ∧ kI σ p k ≤ hi := by
  have := hok.2 p k
  rw [hg, kI_z hb] at this
  obtain ⟨i, hi, g1, g2⟩ := this
  rw [List.mem_singleton] at hi
  subst hi
  exact ⟨g1, g2⟩
/-- a cell of the reference behind a stretch -/
theorem kCell {A : bNq} {nC : Nat} {ρ0 : Nat → Int} {f : aF} (h : bAt L nC ρ0 Kp σ0 A ρ cl cs σ) (hb : bLo 87 k = false) (he : bEn A.2.2.2.2.2.2.2.1.1 87 k = .inl f) : kI σ 87 k = ρ f.1 + f.2 := by
  have := h.1.2.1.2.1 87 k
  rw [he, kI_z hb] at this
  exact this.2
/-! says -/
def kWsay : Nat := 24443471957792058209195131312833264775239811542705476469888533239565313365018546577418856628011241914189611636822637018407192167359266608327246602710763623669526931550450211253500707580594302739831398142540399142113719058851373738547498379686644090812175125073065329460450003504136433885719903390776090707888546980236068309975338414366252186622385946379213894827478168079710522635123473317871436361648090189367337223503153561944318791506167295445425718511052142188721464414809016248264038547456
def kWc : Nat := 60708402882054033466233184588234965832575213720379360039119137804340758912662765568
def kCs : List (Nat × Nat × Nat) := [(0, 5, 7), (1, 7, 7), (2, 4, 7), (3, 5, 7), (4, 4, 5), (5, 1, 1), (6, 1, 1), (7, 1, 1)]
def kE161 (w a b : Nat) : aE := kBe [(.ofNat w, .ofNat w), (.ofNat a, .ofNat a), (.ofNat b, .ofNat b), (.ofNat 0, .ofNat 59)]
def kL161 : bL := [some (.inr [87]), some (.inl (false, 2, .ofNat 0)), some (.inl (false, 3, .ofNat 0)), some (.inl (false, 4, .ofNat 0))]
def kA161 (w a b : Nat) : bNq := bPc 0 161 0 kL161 [] (kE161 w a b) [] (kHv [(15, (5, .ofNat 0))]) 0
def kB161 (w a b : Nat) : bNq := bPc 0 161 20 [some (.inr [87]), none, none, none] [.inl (false, 0, .ofNat (256 * w + 16 * a + b)), .inl (false, 5, .ofNat 0), .inr [95]] (kE161 w a b) [] [] 0
def kE21 : aE := kBe [(.ofNat 0, .ofNat 59)]
def kA21 : bNq := bPc 0 161 21 [some (.inr [87]), none, none, none] [] kE21 [] (kHv [(15, (2, .ofNat 0))]) 0
theorem kS161 : (kCs.all fun q => (List.range q.2.1).all fun a => (List.range q.2.2).all fun b => bSeg (bCc []) bNo [kB161 q.1 a b] (kA161 q.1 a b) [] && (bCov (.ofNat (256 * q.1 + 16 * a + b), .ofNat (256 * q.1 + 16 * a + b)) kV99 && decide (((256 * q.1 + 16 * a + b : Nat) : Int) / 256 = q.1))) = true := by decide +kernel
theorem kS161b : bSeg (bCc []) (bFi 3 [(none, kE21, kHv [(15, (2, .ofNat 1))])] kWc) [] kA21 [] = true := by decide +kernel
theorem kM161 : (bMk bSp 161).1 = 12 ∧ (bMk bSp 161).2.2.1 = 0 := by decide +kernel
theorem kV95_eq : bGu 95 = some kV99 := by decide +kernel
/-- behind says -/
def kQsay (σ : pmS) (w : Nat) : Option Value → pmS → Prop := fun v σ' => v = none ∧ kOk σ' ∧ kP σ' ∧ kSm kWsay σ' σ ∧ kI σ' 87 15 = kI σ 87 15 + 1 ∧ ∃ z : Int, z / 256 = w ∧ ∀ j : Nat, kI σ' 95 j = if (j : Int) = kI σ 87 15 then z else kI σ 95 j
theorem kSays (h : bHyp ro L kP) (hL : 0 ≤ L.1 ∧ L.1 ≤ 3072) {wv av bv : Int32} {w A B : Nat} (hq : (w, A, B) ∈ kCs) (hw : wv.toInt = w) (ha : 0 ≤ av.toInt ∧ av.toInt < A) (hb : 0 ≤ bv.toInt ∧ bv.toInt < B) (hok : kOk σ) (hP : kP σ) (hc : 0 ≤ kI σ 87 15 ∧ kI σ 87 15 ≤ 59) : pmCs ro 1 161 [.ref 87, .int wv, .int av, .int bv] σ (kQsay σ w) := by
  obtain ⟨a, haa⟩ : ∃ a : Nat, av.toInt = a := ⟨av.toInt.toNat, by omega⟩
  obtain ⟨b, hbb⟩ : ∃ b : Nat, bv.toInt = b := ⟨bv.toInt.toNat, by omega⟩
  have hk := List.all_eq_true.mp (List.all_eq_true.mp (List.all_eq_true.mp kS161 _ hq) a (List.mem_range.mpr (by show a < A; omega))) b (List.mem_range.mpr (by show b < B; omega))
  simp only [Bool.and_eq_true, decide_eq_true_eq] at hk
  obtain ⟨k1, k2, k3⟩ := hk
  have hE : aEok L (kRv L [(w : Int), a, b, kI σ 87 15]) (kE161 w a b) := kEnv hL ⟨⟨Int.le_refl _, Int.le_refl _⟩, ⟨Int.le_refl _, Int.le_refl _⟩, ⟨Int.le_refl _, Int.le_refl _⟩, hc, trivial⟩
  refine bEc_ok (n := 6) (ρ := kRv L [(w : Int), a, b, kI σ 87 15]) (aB := [.inr [87], .inl (false, 2, .ofNat 0), .inl (false, 3, .ofNat 0), .inl (false, 4, .ofNat 0)]) (pl := kL161) (by decide +kernel) ⟨List.mem_singleton.mpr rfl, ⟨(by decide : 2 < 6), by rw [hw]; exact (Int.add_zero _).symm⟩, ⟨(by decide : 3 < 6), by rw [haa]; exact (Int.add_zero _).symm⟩, ⟨(by decide : 4 < 6), by rw [hbb]; exact (Int.add_zero _).symm⟩, trivial⟩ fun cl hl => ?_
  refine bSeg_ok (Q := kQsay σ w) (E := kE161 w a b) h bCn_ok k1 (fun B hB => by rw [List.mem_singleton.mp hB]; rfl) (aXok0 hE) (kMok hok hP (by decide +kernel) ⟨⟨(show 5 < 6 by decide), (Int.add_zero _).symm⟩, trivial⟩ kNoR) hl trivial bNo_ok ?_
  intro B hB ρ1 cl1 cs1 σ1 hA
  rw [List.mem_singleton] at hB
  subst hB
  obtain ⟨v1, r1, rfl, hv1, hs1⟩ := bSok_c (show bSok 6 ρ1 [.inl (false, 0, .ofNat (256 * w + 16 * a + b)), .inl (false, 5, .ofNat 0), .inr [95]] cs1 from hA.2.2)
  obtain ⟨v2, r2, rfl, hv2, hs2⟩ := bSok_c hs1
  obtain ⟨v3, r3, rfl, hv3, hs3⟩ := bSok_c hs2
  obtain ⟨x, rfl, hx⟩ := bVok_int hv1
  obtain ⟨i, rfl, hi⟩ := bVok_int hv2
  have := bVok_one hv3
  subst this
  have := bSok_n hs3
  subst this
  have h0 : ρ1 0 = 0 := hA.env.1.1
  have e5 : ρ1 5 = kI σ 87 15 := hA.ext 5 (show 5 < 6 by decide)
  have hx : x.toInt = ρ1 0 + ((256 * w + 16 * a + b : Nat) : Int) := hx.2
  have hi : i.toInt = ρ1 5 + 0 := hi.2
  have hok1 := hA.ok rfl
  have hP1 := hA.kp (show bFg 0 = true by decide +kernel)
  have s1 : kSm 0 σ1 σ := hA.sm
  obtain ⟨hin, hni⟩ := kNat (i := i) (n := 60) (by omega) (by omega)
  unfold bWa
  rw [show (kB161 w a b).2.1 = 161 from rfl, kM161.1, kM161.2, show (kB161 w a b).2.2.1 = 20 from rfl, show (kB161 w a b).1 = 0 from rfl]
  refine pmWp_ias (n := 60) (rs := []) rfl (by rw [hok1.1]; rfl) hin ?_
  generalize hσ2 : (σ1.1, pmUp σ1.2.1 95 i.toNatClampNeg x, σ1.2.2) = σ2
  have hok2 : kOk σ2 := by
    rw [← hσ2]
    refine kOk_upi hok1 rfl ?_
    rw [show bGe 95 i.toNatClampNeg = kV99 from bGu_ok kV95_eq _]
    exact bCov_ok k2 (by show ((256 * w + 16 * a + b : Nat) : Int) ≤ x.toInt; omega) (by show x.toInt ≤ ((256 * w + 16 * a + b : Nat) : Int); omega)
  have hP2 : kP σ2 := by
    rw [← hσ2]
    exact kP_upi hP1 (by decide) (by decide) (by decide) (by decide) (by decide)
  have s2 : kSm kWsay σ2 σ1 := by
    rw [← hσ2]
    refine kSm.upi ?_
    rw [bRg_sing (by decide +kernel) _ 0]
    decide +kernel
  have row2 : ∀ j : Nat, kI σ2 95 j = if (j : Int) = kI σ 87 15 then x.toInt else kI σ 95 j := fun j => by
    rw [← hσ2]
    show (if 95 = 95 ∧ j = i.toNatClampNeg then x else σ1.2.1 95 j).toInt = _
    by_cases c : (j : Int) = kI σ 87 15
    · rw [if_pos ⟨rfl, by omega⟩, if_pos c]
    · rw [if_neg (fun e => c (by have := e.2; omega)), if_neg c]
      exact s1.i (Nat.zero_testBit _)
  have c2 : kI σ2 87 15 = kI σ 87 15 := by
    rw [← hσ2]
    show (pmUp σ1.2.1 95 i.toNatClampNeg x 87 15).toInt = _
    rw [kUp_ne (by decide)]
    exact s1.i (Nat.zero_testBit _)
  have hE2 : aEok L (kRv L [kI σ 87 15]) kE21 := kEnv hL ⟨hc, trivial⟩
  have hl2 : bLok 3 (kRv L [kI σ 87 15]) [some (.inr [87]), none, none, none] cl1 := by
    refine bLok_re (show bLok 6 ρ1 [some (.inr [87]), none, none, none] cl1 from hA.2.1) rfl fun j y hy => ?_
    match j, hy with
    | 0, hy => cases hy; exact ⟨_, rfl, fun v hv => by rw [bVok_one hv]; exact List.mem_singleton.mpr rfl⟩
    | 1, hy => cases hy
    | 2, hy => cases hy
    | 3, hy => cases hy
    | j + 4, hy => cases hy
  have hend : bFinOk L 3 (kRv L [kI σ 87 15]) kP σ2 (bFi 3 [(none, kE21, kHv [(15, (2, .ofNat 1))])] kWc) (kQsay σ w) := bFin_mono (bFi_ok (E0 := kE21) (by decide) rfl (Nat.le_refl _) aExt.rf) fun v σ' hh => by
    obtain ⟨al, hal, ρ', a1, a2, a3, a4, a5⟩ := hh
    rw [List.mem_singleton] at hal
    subst hal
    have hok' : kOk σ' := kOk_m (E := kE21) a3 (by decide +kernel) a5
    have s' : kSm kWc σ' σ2 := a5.2.2.2.1
    have e2 : ρ' 2 = kI σ 87 15 := a1 2 (show 2 < 3 by decide)
    have hc' : kI σ' 87 15 = ρ' 2 + 1 := by
      have := (a5.2.1 87 15).2
      rw [kI_z (by decide +kernel)] at this
      exact this
    refine ⟨?_, hok', a5.2.2.2.2 (show bFg kWc = true by decide +kernel), kSm.tr (kSm.le s' (by decide +kernel)) (kSm.tr s2 (kSm.le s1 (by decide +kernel))), by omega, x.toInt, by rw [hx, h0, Int.zero_add]; exact k3, fun j => ?_⟩
    · cases v with
      | none => rfl
      | some v => exact a4.elim
    · rw [s'.r (by decide +kernel) (by decide +kernel)]
      exact row2 j
  have hgo := bSeg_ok (Kp := kP) (σ := σ2) (σ0 := σ2) (ρ := kRv L [kI σ 87 15]) (E := kE21) (cl := cl1) (cs := []) (Q := kQsay σ w) h bCn_ok kS161b (fun B hB => absurd hB List.not_mem_nil) (aXok0 hE2) (kMok hok2 hP2 (by decide +kernel) ⟨⟨by decide, by rw [c2]; exact (Int.add_zero _).symm⟩, trivial⟩ kNoR) hl2 trivial hend (fun B hB => absurd hB List.not_mem_nil)
  rw [kM161.1, kM161.2] at hgo
  exact hgo
end
