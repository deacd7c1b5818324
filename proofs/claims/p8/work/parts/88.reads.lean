/-! by hand: the reference reads a wish: readsWish -/
section
set_option maxRecDepth 100000
variable {ro : Nat → Nat × (Nat → Int32)} {L : aLa} {Kp : pmS → Prop} {σ0 σ σ' σs : pmS} {ρ ρ' : Nat → Int} {cl : pmL} {cs vs : List Value} {Q : Option Value → pmS → Prop} {n n2 W p k : Nat}
def kWrw : Nat := 36665207936688087313792696969249897162859717314058214704832799859347970047527819866128284942016862871284417455233955527610788251038899912490869904066145435504290397325675316880251061370891454109747097213810598713170578588277060607821247569529966136218262687609597994190675005256204650828579855086164136061832820470354102464963007621549378279933578919568820842241217252119565783952685209976807154542472135284058801173612304093651251692117783989249577688803360675483105338410902154946525161062400
def kWf : Nat := 7588550360256754183279148073529370729071901715047420004889892225542594864082845696
def kW7 : Nat := 47428439751604713645494675459558567056699385719046375030561826409641217900517785600
def kM2 : bL := [some (.inr [87]), none]
def kS2 : aE := kBe [(.ofNat 0, .ofNat 40), (.ofNat 0, .ofNat 40)]
def kHpl : bH := kHv [(10, (2, .ofNat 0)), (11, (3, .ofNat 0))]
def kPq (pc : Nat) (pl : bL) (st : List bV) (E : aE) (C : aC) (H : bH) (W : Nat) : bNq := bPc 3 155 pc pl st E C H W
def kIn (z : Int) : bV := .inl (false, 0, z)
def kLt : aC := [(2, 3, .negSucc 0)]
def kB35 : bNq := kPq 35 kM2 [.inl (false, 4, .ofNat 0), .inr [87]] (kBe [(.ofNat 0, .ofNat 40), (.ofNat 0, .ofNat 40), (.ofNat 7, .ofNat 8)]) kLt [] 0
def kB44 : bNq := kPq 44 kM2 [.inr [87]] kS2 [] [] 0
def kB0r : bNq := kPq 0 kM2 [] (kBe []) [] [] 0
def kB52r : bNq := kPq 52 kM2 [] (kBe []) [] [] 0
def kB62 : bNq := kPq 62 kM2 [.inr [87]] kS2 kLt [] 0
def kTa : bNq := kPq 115 (kL165 (4, .ofNat 0)) [] (kBe [(.ofNat 0, .ofNat 40), (.ofNat 0, .ofNat 40), (.ofNat 0, .ofNat 255)]) kLt [] 0
def kTb : bNq := kPq 115 (kL165 (0, .negSucc 0)) [] kS2 [] [] 0
def kB70 : bNq := kPq 70 kM2 [kIn (.ofNat 1), .inr [87]] (kBe []) [] [] 0
def kE73r : aE := kBe [(.ofNat 1, .ofNat 40), (.ofNat 0, .ofNat 39)]
def kB104 : bNq := kPq 104 kM2 [.inr [87]] kE73r [] (kHv [(14, (2, .negSucc 0)), (10, (3, .ofNat 1))]) kW7
def kB168 : bNq := kPq 168 (kL165 (2, .ofNat 0)) [.inl (false, 3, .ofNat 0), .inr [87]] (kBe [(.ofNat 0, .ofNat 255), (.ofNat 0, .ofNat 1)]) [] [] 0
def kB133 : bNq := kPq 133 (kL165 (0, .negSucc 0)) [.inr [87]] (kBe []) [] [] 0
def kB151 : bNq := kPq 151 (kL165 (0, .negSucc 0)) [kIn (.ofNat 1), .inr [87]] (kBe []) [] [] 0
def kB191 : bNq := kPq 191 kM2 [.inl (false, 4, .ofNat 0), .inl (false, 3, .ofNat 0), .inr [94]] (kBe [(.ofNat 0, .ofNat 255), (.ofNat 0, .ofNat 40), (.ofNat 5, .ofNat 6)]) [] [] 0
def kE192 : aE := kBe [(.ofNat 0, .ofNat 40), (.ofNat 0, .ofNat 39)]
def kB192 : bNq := kPq 0 kM2 [] kE192 [] (kHv [(14, (2, .ofNat 1)), (10, (3, .ofNat 1))]) kWwp
noncomputable def kEr (r : Int) (W : Nat) (pc : Nat) (pl : bL) (st : List bV) : Bool := bSeg (bCc []) (bFi 2 [(some (.inl (false, 0, r)), kBe [], [])] W) [] (kPq pc pl st (kBe []) [] [] 0) []
theorem kS155a : kSg [kB35, kB44] (kPq 0 kM2 [] kS2 [] kHpl 0) = true ∧ kSg [kB62, kTa, kTb] (kPq 52 kM2 [] kS2 [] kHpl 0) = true ∧ kSg [kTa, kTb] (kPq 65 kM2 [kIn (.ofNat 0)] kS2 [] kHpl 0) = true := by decide +kernel
theorem kS155b : kSg [kB0r] (kPq 38 kM2 [kIn (.ofNat 1)] (kBe []) [] [] 0) = true ∧ kSg [kB52r] (kPq 47 kM2 [kIn (.ofNat 1)] (kBe []) [] [] 0) = true ∧ kSg [kB70] (kPq 65 kM2 [kIn (.ofNat 1)] (kBe []) [] [] 0) = true ∧ kSg [kB52r] (kPq 107 kM2 [] (kBe []) [] [] 0) = true ∧ kSg [kB133] (kPq 115 (kL165 (0, .negSucc 0)) [] (kBe []) [] [] 0) = true ∧ kSg [kB151] (kPq 136 (kL165 (0, .negSucc 0)) [kIn (.ofNat 0)] (kBe []) [] [] 0) = true := by decide +kernel
theorem kS155c : kEr (.ofNat 0) 0 38 kM2 [kIn (.ofNat 0)] = true ∧ kEr (.ofNat 0) 0 47 kM2 [kIn (.ofNat 0)] = true ∧ kEr (.ofNat 0) kWf 136 (kL165 (0, .negSucc 0)) [kIn (.ofNat 1)] = true ∧ kEr (.ofNat 1) 0 154 (kL165 (0, .negSucc 0)) [] = true := by decide +kernel
theorem kS155d : kSg [kB104] (kPq 73 kM2 [] kE73r [] (kHv [(14, (2, .ofNat 0)), (10, (3, .ofNat 0))]) 0) = true ∧ bSeg (bCc []) (bFi 3 [(some (.inl (false, 0, .ofNat 0)), kBe [(.ofNat 0, .ofNat 255)], [])] kWf) [kB168] (kPq 115 (kL165 (2, .ofNat 0)) [] (kBe [(.ofNat 0, .ofNat 255)]) [] [] 0) [] = true ∧ kSg [kB191] (kPq 171 (kL165 (2, .ofNat 0)) [] (kBe [(.ofNat 0, .ofNat 255), (.ofNat 0, .ofNat 40)]) [] (kHv [(14, (3, .ofNat 0))]) 0) = true ∧ kSg [kB192] (kPq 192 kM2 [] kE192 [] (kHv [(14, (2, .ofNat 0)), (10, (3, .ofNat 0))]) 0) = true := by decide +kernel
theorem kM155 : (bMk bSp 155).1 = 12 ∧ (bMk bSp 155).2.2.1 = 2 := by decide +kernel
def kQrw (σs : pmS) : Option Value → pmS → Prop := fun v σ' => ∃ x : Int32, v = some (.int x) ∧ kOk σ' ∧ kP σ' ∧ kSm kWrw σ' σs ∧ (x.toInt = 0 ∨ (x.toInt = 1 ∧ kIv 1 σ'))
theorem kM2_ok {a : Option bV} (h : bLok n ρ [some (.inr [87]), a] cl) : bLok n2 ρ' kM2 cl := by
  refine bLok_re h rfl fun j y hy => ?_
  match j, hy with
  | 0, hy => cases hy; exact ⟨_, rfl, fun v hv => by rw [bVok_one hv]; exact List.mem_singleton.mpr rfl⟩
  | 1, hy => cases hy
  | j + 2, hy => cases hy
/-- an end with r -/
theorem kErw {r : Int} {W : Nat} (hsm : kSm kWrw σ σs) (hlor : Nat.lor W kWrw = kWrw) (hf : bFg W = true) (hr : r = 0) : bFinOk L 2 (kRv L []) kP σ (bFi 2 [(some (.inl (false, 0, r)), kBe [], [])] W) (kQrw σs) := bFin_mono (bFi_int (by decide) rfl (by show 0 < 2; decide)) fun v σ' hh => by
  obtain ⟨x, rfl, g1, g2, g3, g4, g5⟩ := hh
  refine ⟨x, rfl, g3, g4 hf, kSm.tr (kSm.le g5 hlor) hsm, Or.inl ?_⟩
  rw [g1, hr]
  rfl
/-- a segment of no knowledge, from here -/
theorem kGo {Bs : List bNq} {pc : Nat} {pl : bL} {st : List bV} {fin : Option bV → aX → bM → Bool} (h : bHyp ro L kP) (hL : 0 ≤ L.1 ∧ L.1 ≤ 3072) (hc : bSeg (bCc []) fin Bs (kPq pc pl st (kBe []) [] [] 0) [] = true) (hBf : ∀ B ∈ Bs, B.2.2.2.2.2.1 = []) (hok : kOk σ) (hP : kP σ) (hl : bLok 2 (kRv L []) pl cl) (hs : bSok 2 (kRv L []) st cs) (hfin : bFinOk L 2 (kRv L []) kP σ fin Q) (hB : ∀ B ∈ Bs, ∀ ρ' cl' cs' σ', bAt L 2 (kRv L []) kP σ B ρ' cl' cs' σ' → bWa ro B cl' cs' σ' Q) : pmWp ro 3 12 155 2 pc cl cs σ Q := by
  have hgo := bSeg_ok (Kp := kP) (σ := σ) (σ0 := σ) (ρ := kRv L []) (E := kBe []) (cl := cl) (cs := cs) (Q := Q) h bCn_ok hc hBf (aXok0 (kEnv hL trivial)) (kOk_mok hok hP) hl hs hfin hB
  rw [kM155.1, kM155.2] at hgo
  exact hgo
theorem kInt {z : Int} {x : Int32} (hx : x.toInt = z) : bSok 2 (kRv L []) [kIn z] [.int x] := ⟨⟨(show 0 < 2 by decide), by show x.toInt = 0 + z; omega⟩, trivial⟩
theorem kIv_0 {e : Nat} (h : kIv e σ) (hok : kOk σ') (hP : kP σ') (s : kSm 0 σ' σ) : kIv e σ' := kIv_sm h hok hP s (Nat.zero_testBit _) (Nat.zero_testBit _) (Nat.zero_testBit _) (Nat.zero_testBit _) (Nat.zero_testBit _) (Nat.zero_testBit _)
theorem kRwL (h : bHyp ro L kP) (hL : 0 ≤ L.1 ∧ L.1 ≤ 3072) : ∀ (n : Nat) (σ : pmS) (cl : pmL) (m : Nat) (ρ : Nat → Int), (kI σ 87 11 - kI σ 87 10).toNat = n → kSm kWrw σ σs → bLok m ρ kM2 cl → (kIv 0 σ → pmWp ro 3 12 155 2 0 cl [] σ (kQrw σs)) ∧ (kIv 1 σ → pmWp ro 3 12 155 2 52 cl [] σ (kQrw σs)) := by
  obtain ⟨a1, a2, a3⟩ := kS155a
  obtain ⟨b1, b2, b3, b4, b5, b6⟩ := kS155b
  obtain ⟨c1, c2, c3, c4⟩ := kS155c
  obtain ⟨d1, d2, d3, d4⟩ := kS155d
  have hf0 : bFg 0 = true := by decide +kernel
  have hl0 : Nat.lor 0 kWrw = kWrw := by decide +kernel
  have hlf : Nat.lor kWf kWrw = kWrw := by decide +kernel
  have hff : bFg kWf = true := by decide +kernel
  intro n
  induction n using Nat.strongRecOn with
  | ind n ih =>
  intro σ cl m ρ hn hsm hl
  -- one target
  have one : ∀ {B : bNq}, B.2.2.2.2.2.1 = [] → ∀ B' ∈ [B], B'.2.2.2.2.2.1 = [] := fun hB B' hB' => by rw [List.mem_singleton.mp hB']; exact hB
  -- behind a join's sign, and at the end
  have h115a : ∀ (σ1 : pmS) (cl1 : pmL) (m1 : Nat) (ρ1 : Nat → Int) (f : aF), kIv 1 σ1 → kSm kWrw σ1 σs → (kI σ1 87 11 - kI σ1 87 10).toNat = n → kI σ1 87 10 < kI σ1 87 11 → 0 ≤ ρ1 f.1 + f.2 ∧ ρ1 f.1 + f.2 ≤ 255 → bLok m1 ρ1 (kL165 f) cl1 → pmWp ro 3 12 155 2 115 cl1 [] σ1 (kQrw σs) := by
    intro σ1 cl1 m1 ρ1 f hI1 hsm1 hn1 hlt hch hl1
    have hE : aEok L (kRv L [ρ1 f.1 + f.2]) (kBe [(.ofNat 0, .ofNat 255)]) := kEnv hL ⟨hch, trivial⟩
    have hend : bFinOk L 3 (kRv L [ρ1 f.1 + f.2]) kP σ1 (bFi 3 [(some (.inl (false, 0, .ofNat 0)), kBe [(.ofNat 0, .ofNat 255)], [])] kWf) (kQrw σs) := bFin_mono (bFi_int (by decide) rfl (by decide)) fun v σ' hh => by
      obtain ⟨x, rfl, g1, g2, g3, g4, g5⟩ := hh
      exact ⟨x, rfl, g3, g4 hff, kSm.tr (kSm.le g5 hlf) hsm1, Or.inl g1⟩
    have hgo := bSeg_ok (Kp := kP) (σ := σ1) (σ0 := σ1) (ρ := kRv L [ρ1 f.1 + f.2]) (E := kBe [(.ofNat 0, .ofNat 255)]) (cl := cl1) (cs := []) (Q := kQrw σs) h bCn_ok d2 (one rfl) (aXok0 hE) (kOk_mok hI1.1 hI1.2.1) (kL165_ok hl1 (by decide) (by show ρ1 f.1 + f.2 = (ρ1 f.1 + f.2) + 0; omega)) trivial hend ?_
    · rw [kM155.1, kM155.2] at hgo
      exact hgo
    intro B hB ρ2 cl2 cs2 σ2 hA
    rw [List.mem_singleton] at hB
    subst hB
    obtain ⟨v1, r1, rfl, hv1, hs1⟩ := bSok_c (show bSok 4 ρ2 [.inl (false, 3, .ofNat 0), .inr [87]] cs2 from hA.2.2)
    obtain ⟨v2, r2, rfl, hv2, hs2⟩ := bSok_c hs1
    obtain ⟨av, rfl, hav⟩ := bVok_int hv1
    have := bVok_one hv2
    subst this
    have := bSok_n hs2
    subst this
    have hav : av.toInt = ρ2 3 + 0 := hav.2
    have e22 : ρ2 2 = ρ1 f.1 + f.2 := hA.ext 2 (show 2 < 3 by decide)
    have g3 : (0 : Int) ≤ ρ2 3 ∧ ρ2 3 ≤ (1 : Int) := hA.env.2 3 _ rfl
    obtain ⟨al, hal⟩ : ∃ al : Nat, ρ2 3 = al := ⟨(ρ2 3).toNat, by omega⟩
    have s2 : kSm 0 σ2 σ1 := hA.sm
    have hI2 := kIv_0 hI1 (hA.ok rfl) (hA.kp hf0) s2
    show pmWp ro 3 (bMk bSp 155).1 155 (bMk bSp 155).2.2.1 168 cl2 _ σ2 (kQrw σs)
    rw [kM155.1, kM155.2]
    refine pmWp_iv (k := 222) (mm := 165) (nn := 1) (oo := 12) (p := 87) (rest := []) (as := [.int av]) (u := (0, true)) (a := 0) (b := 0) (c := true) rfl rfl rfl rfl rfl (by rw [hI2.1.1]; rfl) (by decide) ?_
    refine pmCs_mono (pmCs_deep (kJoins h hL (al := al) (by omega) (by omega) hI2) (by decide)) ?_
    rintro v σ3 ⟨rfl, hI3, s3, _, _⟩
    obtain ⟨hok3, hP3, f1, f2, f3, f4, f5, f6⟩ := id hI3
    have t10 : kI σ3 87 10 = kI σ1 87 10 := (s3.i (by decide +kernel)).trans (s2.i (Nat.zero_testBit _))
    have t11 : kI σ3 87 11 = kI σ1 87 11 := (s3.i (by decide +kernel)).trans (s2.i (Nat.zero_testBit _))
    have sm3 : kSm kWrw σ3 σs := kSm.tr (kSm.le s3 (by decide +kernel)) (kSm.tr (kSm.le s2 hl0) hsm1)
    have hE3 : aEok L (kRv L [ρ1 f.1 + f.2, kI σ3 87 14]) (kBe [(.ofNat 0, .ofNat 255), (.ofNat 0, .ofNat 40)]) := kEnv hL ⟨hch, ⟨f2, by show kI σ3 87 14 ≤ (40 : Int); omega⟩, trivial⟩
    have hgo := bSeg_ok (Kp := kP) (σ := σ3) (σ0 := σ3) (ρ := kRv L [ρ1 f.1 + f.2, kI σ3 87 14]) (E := kBe [(.ofNat 0, .ofNat 255), (.ofNat 0, .ofNat 40)]) (cl := cl2) (cs := []) (Q := kQrw σs) h bCn_ok d3 (one rfl) (aXok0 hE3) (kMok hok3 hP3 (by decide +kernel) ⟨⟨(show 3 < 4 by decide), (Int.add_zero _).symm⟩, trivial⟩ kNoR) (kL165_ok (show bLok 4 ρ2 (kL165 (2, .ofNat 0)) cl2 from hA.2.1) (by decide) (by show ρ2 2 + 0 = (ρ1 f.1 + f.2) + 0; omega)) trivial bNo_ok ?_
    · rw [kM155.1, kM155.2] at hgo
      exact hgo
    intro B hB ρ4 cl4 cs4 σ4 hA4
    rw [List.mem_singleton] at hB
    subst hB
    obtain ⟨v1, r1, rfl, hv1, hs1⟩ := bSok_c (show bSok 5 ρ4 [.inl (false, 4, .ofNat 0), .inl (false, 3, .ofNat 0), .inr [94]] cs4 from hA4.2.2)
    obtain ⟨v2, r2, rfl, hv2, hs2⟩ := bSok_c hs1
    obtain ⟨v3, r3, rfl, hv3, hs3⟩ := bSok_c hs2
    obtain ⟨x, rfl, hx⟩ := bVok_int hv1
    obtain ⟨i, rfl, hi⟩ := bVok_int hv2
    have := bVok_one hv3
    subst this
    have := bSok_n hs3
    subst this
    have hx : x.toInt = ρ4 4 + 0 := hx.2
    have hi : i.toInt = ρ4 3 + 0 := hi.2
    have e43 : ρ4 3 = kI σ3 87 14 := hA4.ext 3 (show 3 < 4 by decide)
    have g4 : (5 : Int) ≤ ρ4 4 ∧ ρ4 4 ≤ (6 : Int) := hA4.env.2 4 _ rfl
    have s4 : kSm 0 σ4 σ3 := hA4.sm
    have hI4 := kIv_0 hI3 (hA4.ok rfl) (hA4.kp hf0) s4
    obtain ⟨hok4, hP4, u1, u2, u3, u4, u5, u6⟩ := id hI4
    have i14 : kI σ4 87 14 = kI σ3 87 14 := s4.i (Nat.zero_testBit _)
    have i10 : kI σ4 87 10 = kI σ3 87 10 := s4.i (Nat.zero_testBit _)
    have i11 : kI σ4 87 11 = kI σ3 87 11 := s4.i (Nat.zero_testBit _)
    obtain ⟨hin, hni⟩ := kNat (i := i) (n := 60) (by omega) (by omega)
    have hn14 : i.toNatClampNeg = (kI σ4 87 14).toNat := by omega
    show pmWp ro 3 (bMk bSp 155).1 155 (bMk bSp 155).2.2.1 191 cl4 _ σ4 (kQrw σs)
    rw [kM155.1, kM155.2]
    refine pmWp_ias (n := 60) (rs := []) rfl (by rw [hok4.1]; rfl) hin ?_
    rw [hn14]
    generalize hσ5 : (σ4.1, pmUp σ4.2.1 94 (kI σ4 87 14).toNat x, σ4.2.2) = σ5
    have hok5 : kOk σ5 := by
      rw [← hσ5]
      refine kOk_upi hok4 rfl ?_
      rw [show bGe 94 (kI σ4 87 14).toNat = [(0, 8)] from bGu_ok (by decide +kernel) _]
      exact ⟨_, List.mem_singleton.mpr rfl, by show (0 : Int) ≤ x.toInt; omega, by show x.toInt ≤ (8 : Int); omega⟩
    have hP5 : kP σ5 := by
      rw [← hσ5]
      exact kP_upi hP4 (by decide) (by decide) (by decide) (by decide) (by decide)
    have s5 : kSm kWrw σ5 σ4 := by
      rw [← hσ5]
      refine kSm.upi ?_
      rw [bRg_sing (by decide +kernel) _ 0]
      decide +kernel
    have fl5 : ∀ k, kI σ5 87 k = kI σ4 87 k := fun k => by
      rw [← hσ5]
      show (pmUp σ4.2.1 94 (kI σ4 87 14).toNat x 87 k).toInt = _
      rw [kUp_ne (by decide)]
      rfl
    have q5 : kSaid σ5 = kSaid σ4 := funext fun j => by
      rw [← hσ5]
      show (pmUp σ4.2.1 94 (kI σ4 87 14).toNat x 95 j).toInt = _
      rw [kUp_ne (by decide)]
      rfl
    have w5 : ∀ j : Nat, kWts σ5 j = if j = (kI σ4 87 14).toNat then x.toInt else kWts σ4 j := fun j => by
      rw [← hσ5]
      show (if 94 = 94 ∧ j = (kI σ4 87 14).toNat then x else σ4.2.1 94 j).toInt = _
      by_cases c : j = (kI σ4 87 14).toNat
      · rw [if_pos ⟨rfl, c⟩, if_pos c]
      · rw [if_neg (fun e => c e.2), if_neg c]
        rfl
    have hE5 : aEok L (kRv L [kI σ4 87 14, kI σ4 87 10]) kE192 := kEnv hL ⟨⟨u2, by show kI σ4 87 14 ≤ (40 : Int); omega⟩, ⟨by show (0 : Int) ≤ kI σ4 87 10; omega, by show kI σ4 87 10 ≤ (39 : Int); omega⟩, trivial⟩
    have hgo := bSeg_ok (Kp := kP) (σ := σ5) (σ0 := σ5) (ρ := kRv L [kI σ4 87 14, kI σ4 87 10]) (E := kE192) (cl := cl4) (cs := []) (Q := kQrw σs) h bCn_ok d4 (one rfl) (aXok0 hE5) (kMok hok5 hP5 (by decide +kernel) ⟨⟨(show 2 < 4 by decide), by rw [fl5]; exact (Int.add_zero _).symm⟩, ⟨(show 3 < 4 by decide), by rw [fl5]; exact (Int.add_zero _).symm⟩, trivial⟩ kNoR) (kM2_ok (show bLok 5 ρ4 kM2 cl4 from hA4.2.1)) trivial bNo_ok ?_
    · rw [kM155.1, kM155.2] at hgo
      exact hgo
    intro B hB ρ6 cl6 cs6 σ6 hA6
    rw [List.mem_singleton] at hB
    subst hB
    have := bSok_n (show bSok 4 ρ6 [] cs6 from hA6.2.2)
    subst this
    have s6 : kSm kWwp σ6 σ5 := hA6.sm
    have hok6 : kOk σ6 := kOk_m (E := kE192) hA6.env (by decide +kernel) hA6.1.2.1
    have hP6 := hA6.kp (show bFg kWwp = true by decide +kernel)
    have e62 : ρ6 2 = kI σ4 87 14 := hA6.ext 2 (show 2 < 4 by decide)
    have e63 : ρ6 3 = kI σ4 87 10 := hA6.ext 3 (show 3 < 4 by decide)
    have l14 : kI σ6 87 14 = ρ6 2 + 1 := kCell (f := (2, .ofNat 1)) hA6 (by decide +kernel) rfl
    have l10 : kI σ6 87 10 = ρ6 3 + 1 := kCell (f := (3, .ofNat 1)) hA6 (by decide +kernel) rfl
    have l15 : kI σ6 87 15 = kI σ4 87 15 := (s6.i (by decide +kernel)).trans (fl5 15)
    have l11 : kI σ6 87 11 = kI σ4 87 11 := (s6.i (by decide +kernel)).trans (fl5 11)
    have q6 : kSaid σ6 = kSaid σ4 := (funext fun j => s6.r (by decide +kernel) (by decide +kernel) j : kSaid σ6 = kSaid σ5).trans q5
    have w6 : kWts σ6 = kWts σ5 := funext fun j => s6.r (by decide +kernel) (by decide +kernel) j
    have hI6 : kIv 0 σ6 := by
      refine ⟨hok6, hP6, by omega, by omega, by omega, by omega, by omega, ?_⟩
      rw [q6, l15, u6, w6, show (kI σ6 87 14).toNat = (kI σ4 87 14).toNat + 1 by omega]
      congr 1
      show _ = kBn (kWts σ5) (kI σ4 87 14).toNat + _ + 0
      rw [kBn_cg (s := kWts σ4) (s' := kWts σ5) (fun j hj => by rw [w5, if_neg (by omega)]), w5, if_pos rfl, if_pos (by omega)]
    show pmWp ro 3 (bMk bSp 155).1 155 (bMk bSp 155).2.2.1 0 cl6 [] σ6 (kQrw σs)
    rw [kM155.1, kM155.2]
    exact (ih (kI σ6 87 11 - kI σ6 87 10).toNat (by omega) σ6 cl6 4 ρ6 rfl (kSm.tr (kSm.le s6 (by decide +kernel)) (kSm.tr s5 (kSm.tr (kSm.le s4 hl0) sm3))) hA6.2.1).1 hI6
  have h115b : ∀ (σ1 : pmS) (cl1 : pmL) (m1 : Nat) (ρ1 : Nat → Int), kIv 1 σ1 → kSm kWrw σ1 σs → ρ1 0 = 0 → bLok m1 ρ1 (kL165 (0, .negSucc 0)) cl1 → pmWp ro 3 12 155 2 115 cl1 [] σ1 (kQrw σs) := by
    intro σ1 cl1 m1 ρ1 hI1 hsm1 h0 hl1
    have hlk : ∀ {m ρ cl}, ρ 0 = 0 → bLok m ρ (kL165 (0, .negSucc 0)) cl → bLok 2 (kRv L []) (kL165 (0, .negSucc 0)) cl := fun h0 hl => kL165_ok hl (by decide) (by show _ + -1 = (0 : Int) + -1; rw [h0])
    refine kGo h hL b5 (one rfl) hI1.1 hI1.2.1 (hlk h0 hl1) trivial bNo_ok ?_
    intro B hB ρ2 cl2 cs2 σ2 hA
    rw [List.mem_singleton] at hB
    subst hB
    obtain ⟨v1, r1, rfl, hv1, hs1⟩ := bSok_c (show bSok 2 ρ2 [.inr [87]] cs2 from hA.2.2)
    have := bVok_one hv1
    subst this
    have := bSok_n hs1
    subst this
    have s2 : kSm 0 σ2 σ1 := hA.sm
    have hI2 := kIv_0 hI1 (hA.ok rfl) (hA.kp hf0) s2
    have hl2 := hlk hA.env.1.1 (show bLok 2 ρ2 (kL165 (0, .negSucc 0)) cl2 from hA.2.1)
    show pmWp ro 3 (bMk bSp 155).1 155 (bMk bSp 155).2.2.1 133 cl2 _ σ2 (kQrw σs)
    rw [kM155.1, kM155.2]
    refine pmWp_iv (k := 219) (mm := 164) (nn := 0) (oo := 12) (p := 87) (rest := []) (as := []) (u := (0, true)) (a := 0) (b := 0) (c := true) rfl rfl rfl rfl rfl (by rw [hI2.1.1]; rfl) (by decide) ?_
    refine pmCs_mono (pmCs_deep (kHas h hL hI2.1 hI2.2.1) (by decide)) ?_
    rintro v σ3 ⟨x, rfl, hx, hok3, hP3, s3⟩
    have hI3 := kIv_0 hI2 hok3 hP3 s3
    have sm3 : kSm kWrw σ3 σs := kSm.tr (kSm.le s3 hl0) (kSm.tr (kSm.le s2 hl0) hsm1)
    rcases hx with hx | ⟨hx, _⟩
    · refine kGo h hL b6 (one rfl) hok3 hP3 hl2 (kInt hx) bNo_ok ?_
      intro B hB ρ4 cl4 cs4 σ4 hA4
      rw [List.mem_singleton] at hB
      subst hB
      obtain ⟨v1, r1, rfl, hv1, hs1⟩ := bSok_c (show bSok 2 ρ4 [kIn (.ofNat 1), .inr [87]] cs4 from hA4.2.2)
      obtain ⟨v2, r2, rfl, hv2, hs2⟩ := bSok_c hs1
      obtain ⟨av, rfl, hav⟩ := bVok_int hv1
      have := bVok_one hv2
      subst this
      have := bSok_n hs2
      subst this
      have h04 : ρ4 0 = 0 := hA4.env.1.1
      have hav : av.toInt = ρ4 0 + 1 := hav.2
      have s4 : kSm 0 σ4 σ3 := hA4.sm
      have hI4 := kIv_0 hI3 (hA4.ok rfl) (hA4.kp hf0) s4
      have hl4 := hlk h04 (show bLok 2 ρ4 (kL165 (0, .negSucc 0)) cl4 from hA4.2.1)
      show pmWp ro 3 (bMk bSp 155).1 155 (bMk bSp 155).2.2.1 151 cl4 _ σ4 (kQrw σs)
      rw [kM155.1, kM155.2]
      refine pmWp_iv (k := 222) (mm := 165) (nn := 1) (oo := 12) (p := 87) (rest := []) (as := [.int av]) (u := (0, true)) (a := 0) (b := 0) (c := true) rfl rfl rfl rfl rfl (by rw [hI4.1.1]; rfl) (by decide) ?_
      refine pmCs_mono (pmCs_deep (kJoins h hL (al := 1) (by decide) (by show av.toInt = ((1 : Nat) : Int); omega) hI4) (by decide)) ?_
      rintro v σ5 ⟨rfl, hI5, s5, _, _⟩
      have sm5 : kSm kWrw σ5 σs := kSm.tr (kSm.le s5 (by decide +kernel)) (kSm.tr (kSm.le s4 hl0) sm3)
      refine kGo h hL c4 (fun B hB => absurd hB List.not_mem_nil) hI5.1 hI5.2.1 hl4 trivial (bFin_mono (bFi_int (by decide) rfl (by decide)) fun v σ' hh => ?_) (fun B hB => absurd hB List.not_mem_nil)
      obtain ⟨y, rfl, g1, g2, g3, g4, g5⟩ := hh
      exact ⟨y, rfl, g3, g4 hf0, kSm.tr (kSm.le g5 hl0) sm5, Or.inr ⟨g1, kIv_0 hI5 g3 (g4 hf0) g5⟩⟩
    · exact kGo h hL c3 (fun B hB => absurd hB List.not_mem_nil) hok3 hP3 hl2 (kInt hx) (kErw sm3 hlf hff rfl) (fun B hB => absurd hB List.not_mem_nil)
  -- the two ways to 115
  have hto115 : ∀ {σ1 σ2 : pmS} {B : bNq} {ρ2 : Nat → Int} {cl2 : pmL} {cs2 : List Value}, kIv 1 σ1 → kSm kWrw σ1 σs → (kI σ1 87 11 - kI σ1 87 10).toNat = n → B = kTa ∨ B = kTb → bAt L 4 (kRv L [kI σ1 87 10, kI σ1 87 11]) kP σ1 B ρ2 cl2 cs2 σ2 → bWa ro B cl2 cs2 σ2 (kQrw σs) := by
    intro σ1 σ2 B ρ2 cl2 cs2 hI1 hsm1 hn1 hB hA
    rcases hB with rfl | rfl
    · have := bSok_n (show bSok 5 ρ2 [] cs2 from hA.2.2)
      subst this
      have s2 : kSm 0 σ2 σ1 := hA.sm
      have hI2 := kIv_0 hI1 (hA.ok rfl) (hA.kp hf0) s2
      have e2 : ρ2 2 = kI σ1 87 10 := hA.ext 2 (show 2 < 4 by decide)
      have e3 : ρ2 3 = kI σ1 87 11 := hA.ext 3 (show 3 < 4 by decide)
      have hd : ρ2 2 - ρ2 3 ≤ -1 := (hA.1.1.2.1 (2, 3, .negSucc 0) (List.mem_singleton.mpr rfl)).2.2
      have g4 : (0 : Int) ≤ ρ2 4 ∧ ρ2 4 ≤ (255 : Int) := hA.env.2 4 _ rfl
      have i10 : kI σ2 87 10 = kI σ1 87 10 := s2.i (Nat.zero_testBit _)
      have i11 : kI σ2 87 11 = kI σ1 87 11 := s2.i (Nat.zero_testBit _)
      show pmWp ro 3 (bMk bSp 155).1 155 (bMk bSp 155).2.2.1 115 cl2 [] σ2 (kQrw σs)
      rw [kM155.1, kM155.2]
      exact h115a σ2 cl2 5 ρ2 (4, .ofNat 0) hI2 (kSm.tr (kSm.le s2 hl0) hsm1) (by rw [i10, i11]; exact hn1) (by omega) (by show 0 ≤ ρ2 4 + 0 ∧ ρ2 4 + 0 ≤ 255; omega) hA.2.1
    · have := bSok_n (show bSok 4 ρ2 [] cs2 from hA.2.2)
      subst this
      have s2 : kSm 0 σ2 σ1 := hA.sm
      show pmWp ro 3 (bMk bSp 155).1 155 (bMk bSp 155).2.2.1 115 cl2 [] σ2 (kQrw σs)
      rw [kM155.1, kM155.2]
      exact h115b σ2 cl2 4 ρ2 (kIv_0 hI1 (hA.ok rfl) (hA.kp hf0) s2) (kSm.tr (kSm.le s2 hl0) hsm1) hA.env.1.1 hA.2.1
  have hEpl : ∀ {σ1 : pmS} {e : Nat}, kIv e σ1 → aEok L (kRv L [kI σ1 87 10, kI σ1 87 11]) kS2 := fun hI1 => by
    obtain ⟨_, _, u1, u2, u3, u4, u5, _⟩ := hI1
    exact kEnv hL ⟨⟨by show (0 : Int) ≤ kI _ 87 10; omega, by show kI _ 87 10 ≤ (40 : Int); omega⟩, ⟨by show (0 : Int) ≤ kI _ 87 11; omega, by show kI _ 87 11 ≤ (40 : Int); omega⟩, trivial⟩
  have hMpl : ∀ {σ1 : pmS} {e : Nat}, kIv e σ1 → bMok 4 (kRv L [kI σ1 87 10, kI σ1 87 11]) kP σ1 (kHpl, [], 0) σ1 := fun hI1 => kMok hI1.1 hI1.2.1 (by decide +kernel) ⟨⟨(show 2 < 4 by decide), (Int.add_zero _).symm⟩, ⟨(show 3 < 4 by decide), (Int.add_zero _).symm⟩, trivial⟩ kNoR
  refine ⟨fun hI => ?_, fun hI => ?_⟩
  · -- where a piece is due
    have hgo := bSeg_ok (Kp := kP) (σ := σ) (σ0 := σ) (ρ := kRv L [kI σ 87 10, kI σ 87 11]) (E := kS2) (cl := cl) (cs := []) (Q := kQrw σs) h bCn_ok a1 (fun B hB => by
      rcases List.mem_cons.mp hB with rfl | hB
      · rfl
      · rw [List.mem_singleton.mp hB]; rfl) (aXok0 (hEpl hI)) (hMpl hI) (kM2_ok hl) trivial bNo_ok ?_
    · rw [kM155.1, kM155.2] at hgo
      exact hgo
    intro B hB ρ1 cl1 cs1 σ1 hA
    rcases List.mem_cons.mp hB with rfl | hB
    · obtain ⟨v1, r1, rfl, hv1, hs1⟩ := bSok_c (show bSok 5 ρ1 [.inl (false, 4, .ofNat 0), .inr [87]] cs1 from hA.2.2)
      obtain ⟨v2, r2, rfl, hv2, hs2⟩ := bSok_c hs1
      obtain ⟨wv, rfl, hwv⟩ := bVok_int hv1
      have := bVok_one hv2
      subst this
      have := bSok_n hs2
      subst this
      have hwv : wv.toInt = ρ1 4 + 0 := hwv.2
      have s1 : kSm 0 σ1 σ := hA.sm
      have hI1 := kIv_0 hI (hA.ok rfl) (hA.kp hf0) s1
      have e2 : ρ1 2 = kI σ 87 10 := hA.ext 2 (show 2 < 4 by decide)
      have e3 : ρ1 3 = kI σ 87 11 := hA.ext 3 (show 3 < 4 by decide)
      have hd : ρ1 2 - ρ1 3 ≤ -1 := (hA.1.1.2.1 (2, 3, .negSucc 0) (List.mem_singleton.mpr rfl)).2.2
      have g4 : (7 : Int) ≤ ρ1 4 ∧ ρ1 4 ≤ (8 : Int) := hA.env.2 4 _ rfl
      have i10 : kI σ1 87 10 = kI σ 87 10 := s1.i (Nat.zero_testBit _)
      have i11 : kI σ1 87 11 = kI σ 87 11 := s1.i (Nat.zero_testBit _)
      show pmWp ro 3 (bMk bSp 155).1 155 (bMk bSp 155).2.2.1 35 cl1 _ σ1 (kQrw σs)
      rw [kM155.1, kM155.2]
      refine pmWp_iv (k := 212) (mm := 157) (nn := 1) (oo := 12) (p := 87) (rest := []) (as := [.int wv]) (u := (0, true)) (a := 0) (b := 0) (c := true) rfl rfl rfl rfl rfl (by rw [hI1.1.1]; rfl) (by decide) ?_
      refine pmCs_mono (pmCs_deep (kOpens h hL (by omega) hI1 (by omega)) (by decide)) ?_
      rintro v σ2 ⟨x, rfl, hok2, hP2, s2, hx⟩
      have sm2 : kSm kWrw σ2 σs := kSm.tr (kSm.le s2 (by decide +kernel)) (kSm.tr (kSm.le s1 hl0) hsm)
      have hl1 : bLok 2 (kRv L []) kM2 cl1 := kM2_ok (show bLok 5 ρ1 kM2 cl1 from hA.2.1)
      rcases hx with hx | ⟨hx, hI2, p2⟩
      · exact kGo h hL c1 (fun B hB => absurd hB List.not_mem_nil) hok2 hP2 hl1 (kInt hx) (kErw sm2 hl0 hf0 rfl) (fun B hB => absurd hB List.not_mem_nil)
      · refine kGo h hL b1 (one rfl) hok2 hP2 hl1 (kInt hx) bNo_ok ?_
        intro B hB ρ3 cl3 cs3 σ3 hA3
        rw [List.mem_singleton] at hB
        subst hB
        have := bSok_n (show bSok 2 ρ3 [] cs3 from hA3.2.2)
        subst this
        have s3 : kSm 0 σ3 σ2 := hA3.sm
        have hI3 := kIv_0 hI2 (hA3.ok rfl) (hA3.kp hf0) s3
        have j10 : kI σ3 87 10 = kI σ2 87 10 := s3.i (Nat.zero_testBit _)
        have j11 : kI σ3 87 11 = kI σ1 87 11 := (s3.i (Nat.zero_testBit _)).trans (s2.i (by decide +kernel))
        show pmWp ro 3 (bMk bSp 155).1 155 (bMk bSp 155).2.2.1 0 cl3 [] σ3 (kQrw σs)
        rw [kM155.1, kM155.2]
        exact (ih (kI σ3 87 11 - kI σ3 87 10).toNat (by omega) σ3 cl3 2 ρ3 rfl (kSm.tr (kSm.le s3 hl0) sm2) hA3.2.1).1 hI3
    · rw [List.mem_singleton] at hB
      subst hB
      obtain ⟨v1, r1, rfl, hv1, hs1⟩ := bSok_c (show bSok 4 ρ1 [.inr [87]] cs1 from hA.2.2)
      have := bVok_one hv1
      subst this
      have := bSok_n hs1
      subst this
      have s1 : kSm 0 σ1 σ := hA.sm
      have hI1 := kIv_0 hI (hA.ok rfl) (hA.kp hf0) s1
      have i10 : kI σ1 87 10 = kI σ 87 10 := s1.i (Nat.zero_testBit _)
      have i11 : kI σ1 87 11 = kI σ 87 11 := s1.i (Nat.zero_testBit _)
      show pmWp ro 3 (bMk bSp 155).1 155 (bMk bSp 155).2.2.1 44 cl1 _ σ1 (kQrw σs)
      rw [kM155.1, kM155.2]
      refine pmWp_iv (k := 215) (mm := 159) (nn := 0) (oo := 12) (p := 87) (rest := []) (as := []) (u := (0, true)) (a := 0) (b := 0) (c := true) rfl rfl rfl rfl rfl (by rw [hI1.1.1]; rfl) (by decide) ?_
      refine pmCs_mono (kAtom h hL hI1) ?_
      rintro v σ2 ⟨x, rfl, hok2, hP2, s2, hx⟩
      have sm2 : kSm kWrw σ2 σs := kSm.tr (kSm.le s2 (by decide +kernel)) (kSm.tr (kSm.le s1 hl0) hsm)
      have hl1 : bLok 2 (kRv L []) kM2 cl1 := kM2_ok (show bLok 4 ρ1 kM2 cl1 from hA.2.1)
      rcases hx with hx | ⟨hx, hI2, p2⟩
      · exact kGo h hL c2 (fun B hB => absurd hB List.not_mem_nil) hok2 hP2 hl1 (kInt hx) (kErw sm2 hl0 hf0 rfl) (fun B hB => absurd hB List.not_mem_nil)
      · refine kGo h hL b2 (one rfl) hok2 hP2 hl1 (kInt hx) bNo_ok ?_
        intro B hB ρ3 cl3 cs3 σ3 hA3
        rw [List.mem_singleton] at hB
        subst hB
        have := bSok_n (show bSok 2 ρ3 [] cs3 from hA3.2.2)
        subst this
        have s3 : kSm 0 σ3 σ2 := hA3.sm
        have hI3 := kIv_0 hI2 (hA3.ok rfl) (hA3.kp hf0) s3
        have j10 : kI σ3 87 10 = kI σ2 87 10 := s3.i (Nat.zero_testBit _)
        have j11 : kI σ3 87 11 = kI σ1 87 11 := (s3.i (Nat.zero_testBit _)).trans (s2.i (by decide +kernel))
        have hle := hI3.2.2.2.2.2.1
        show pmWp ro 3 (bMk bSp 155).1 155 (bMk bSp 155).2.2.1 52 cl3 [] σ3 (kQrw σs)
        rw [kM155.1, kM155.2]
        exact (ih (kI σ3 87 11 - kI σ3 87 10).toNat (by omega) σ3 cl3 2 ρ3 rfl (kSm.tr (kSm.le s3 hl0) sm2) hA3.2.1).2 hI3
  · -- behind a piece
    have hgo := bSeg_ok (Kp := kP) (σ := σ) (σ0 := σ) (ρ := kRv L [kI σ 87 10, kI σ 87 11]) (E := kS2) (cl := cl) (cs := []) (Q := kQrw σs) h bCn_ok a2 (fun B hB => by
      rcases List.mem_cons.mp hB with rfl | hB
      · rfl
      · rcases List.mem_cons.mp hB with rfl | hB
        · rfl
        · rw [List.mem_singleton.mp hB]; rfl) (aXok0 (hEpl hI)) (hMpl hI) (kM2_ok hl) trivial bNo_ok ?_
    · rw [kM155.1, kM155.2] at hgo
      exact hgo
    intro B hB ρ1 cl1 cs1 σ1 hA
    rcases List.mem_cons.mp hB with rfl | hB
    · obtain ⟨v1, r1, rfl, hv1, hs1⟩ := bSok_c (show bSok 4 ρ1 [.inr [87]] cs1 from hA.2.2)
      have := bVok_one hv1
      subst this
      have := bSok_n hs1
      subst this
      have s1 : kSm 0 σ1 σ := hA.sm
      have hI1 := kIv_0 hI (hA.ok rfl) (hA.kp hf0) s1
      have e2 : ρ1 2 = kI σ 87 10 := hA.ext 2 (show 2 < 4 by decide)
      have e3 : ρ1 3 = kI σ 87 11 := hA.ext 3 (show 3 < 4 by decide)
      have hd : ρ1 2 - ρ1 3 ≤ -1 := (hA.1.1.2.1 (2, 3, .negSucc 0) (List.mem_singleton.mpr rfl)).2.2
      have i10 : kI σ1 87 10 = kI σ 87 10 := s1.i (Nat.zero_testBit _)
      have i11 : kI σ1 87 11 = kI σ 87 11 := s1.i (Nat.zero_testBit _)
      have hl1 : ∀ {m : Nat} {ρ : Nat → Int}, bLok m ρ kM2 cl1 := kM2_ok (show bLok 4 ρ1 kM2 cl1 from hA.2.1)
      show pmWp ro 3 (bMk bSp 155).1 155 (bMk bSp 155).2.2.1 62 cl1 _ σ1 (kQrw σs)
      rw [kM155.1, kM155.2]
      refine pmWp_iv (k := 219) (mm := 164) (nn := 0) (oo := 12) (p := 87) (rest := []) (as := []) (u := (0, true)) (a := 0) (b := 0) (c := true) rfl rfl rfl rfl rfl (by rw [hI1.1.1]; rfl) (by decide) ?_
      refine pmCs_mono (pmCs_deep (kHas h hL hI1.1 hI1.2.1) (by decide)) ?_
      rintro v σ2 ⟨x, rfl, hx, hok2, hP2, s2⟩
      have hI2 := kIv_0 hI1 hok2 hP2 s2
      have sm2 : kSm kWrw σ2 σs := kSm.tr (kSm.le s2 hl0) (kSm.tr (kSm.le s1 hl0) hsm)
      have t10 : kI σ2 87 10 = kI σ1 87 10 := s2.i (Nat.zero_testBit _)
      have t11 : kI σ2 87 11 = kI σ1 87 11 := s2.i (Nat.zero_testBit _)
      have t14 : kI σ2 87 14 = kI σ1 87 14 := s2.i (Nat.zero_testBit _)
      rcases hx with hx | ⟨hx, jo, hjo, hjo8⟩
      · have hgo := bSeg_ok (Kp := kP) (σ := σ2) (σ0 := σ2) (ρ := kRv L [kI σ2 87 10, kI σ2 87 11]) (E := kS2) (cl := cl1) (cs := [.int x]) (Q := kQrw σs) h bCn_ok a3 (fun B hB => by
          rcases List.mem_cons.mp hB with rfl | hB
          · rfl
          · rw [List.mem_singleton.mp hB]; rfl) (aXok0 (hEpl hI2)) (hMpl hI2) hl1 ⟨⟨(show 0 < 4 by decide), by show x.toInt = 0 + 0; omega⟩, trivial⟩ bNo_ok ?_
        · rw [kM155.1, kM155.2] at hgo
          exact hgo
        intro B hB ρ3 cl3 cs3 σ3 hA3
        exact hto115 hI2 sm2 (by omega) (by
          rcases List.mem_cons.mp hB with rfl | hB
          · exact Or.inl rfl
          · exact Or.inr (List.mem_singleton.mp hB)) hA3
      · refine kGo h hL b3 (one rfl) hok2 hP2 hl1 (kInt hx) bNo_ok ?_
        intro B hB ρ3 cl3 cs3 σ3 hA3
        rw [List.mem_singleton] at hB
        subst hB
        obtain ⟨v1, r1, rfl, hv1, hs1⟩ := bSok_c (show bSok 2 ρ3 [kIn (.ofNat 1), .inr [87]] cs3 from hA3.2.2)
        obtain ⟨v2, r2, rfl, hv2, hs2⟩ := bSok_c hs1
        obtain ⟨av, rfl, hav⟩ := bVok_int hv1
        have := bVok_one hv2
        subst this
        have := bSok_n hs2
        subst this
        have h03 : ρ3 0 = 0 := hA3.env.1.1
        have hav : av.toInt = ρ3 0 + 1 := hav.2
        have s3 : kSm 0 σ3 σ2 := hA3.sm
        have hI3 := kIv_0 hI2 (hA3.ok rfl) (hA3.kp hf0) s3
        have hl3 : ∀ {m : Nat} {ρ : Nat → Int}, bLok m ρ kM2 cl3 := kM2_ok (show bLok 2 ρ3 kM2 cl3 from hA3.2.1)
        show pmWp ro 3 (bMk bSp 155).1 155 (bMk bSp 155).2.2.1 70 cl3 _ σ3 (kQrw σs)
        rw [kM155.1, kM155.2]
        refine pmWp_iv (k := 222) (mm := 165) (nn := 1) (oo := 12) (p := 87) (rest := []) (as := [.int av]) (u := (0, true)) (a := 0) (b := 0) (c := true) rfl rfl rfl rfl rfl (by rw [hI3.1.1]; rfl) (by decide) ?_
        refine pmCs_mono (pmCs_deep (kJoins h hL (al := 1) (by decide) (by show av.toInt = ((1 : Nat) : Int); omega) hI3) (by decide)) ?_
        rintro v σ4 ⟨rfl, hI4, s4, hop, htop⟩
        obtain ⟨hok4, hP4, u1, u2, u3, u4, u5, u6⟩ := id hI4
        have v10 : kI σ4 87 10 = kI σ 87 10 := (s4.i (by decide +kernel)).trans ((s3.i (Nat.zero_testBit _)).trans (t10.trans i10))
        have v11 : kI σ4 87 11 = kI σ 87 11 := (s4.i (by decide +kernel)).trans ((s3.i (Nat.zero_testBit _)).trans (t11.trans i11))
        have hw1 : (jo : Int) < kI σ4 87 14 := by
          refine hop jo ?_ ?_
          · rw [show kI σ3 87 14 = kI σ2 87 14 from s3.i (Nat.zero_testBit _), t14]
            exact hjo
          · rw [show kI σ3 94 jo = kI σ2 94 jo from s3.i (Nat.zero_testBit _), show kI σ2 94 jo = kI σ1 94 jo from s2.i (Nat.zero_testBit _)]
            exact hjo8
        have sm4 : kSm kWrw σ4 σs := kSm.tr (kSm.le s4 (by decide +kernel)) (kSm.tr (kSm.le s3 hl0) sm2)
        have hE4 : aEok L (kRv L [kI σ4 87 14, kI σ4 87 10]) kE73r := kEnv hL ⟨⟨by show (1 : Int) ≤ kI σ4 87 14; omega, by show kI σ4 87 14 ≤ (40 : Int); omega⟩, ⟨by show (0 : Int) ≤ kI σ4 87 10; omega, by show kI σ4 87 10 ≤ (39 : Int); omega⟩, trivial⟩
        have hgo := bSeg_ok (Kp := kP) (σ := σ4) (σ0 := σ4) (ρ := kRv L [kI σ4 87 14, kI σ4 87 10]) (E := kE73r) (cl := cl3) (cs := []) (Q := kQrw σs) h bCn_ok d1 (one rfl) (aXok0 hE4) (kMok hok4 hP4 (by decide +kernel) ⟨⟨(show 2 < 4 by decide), (Int.add_zero _).symm⟩, ⟨(show 3 < 4 by decide), (Int.add_zero _).symm⟩, trivial⟩ kNoR) hl3 trivial bNo_ok ?_
        · rw [kM155.1, kM155.2] at hgo
          exact hgo
        intro B hB ρ5 cl5 cs5 σ5 hA5
        rw [List.mem_singleton] at hB
        subst hB
        obtain ⟨v1, r1, rfl, hv1, hs1⟩ := bSok_c (show bSok 4 ρ5 [.inr [87]] cs5 from hA5.2.2)
        have := bVok_one hv1
        subst this
        have := bSok_n hs1
        subst this
        have s5 : kSm kW7 σ5 σ4 := hA5.sm
        have hok5 : kOk σ5 := kOk_m (E := kE73r) hA5.env (by decide +kernel) hA5.1.2.1
        have hP5 := hA5.kp (show bFg kW7 = true by decide +kernel)
        have e52 : ρ5 2 = kI σ4 87 14 := hA5.ext 2 (show 2 < 4 by decide)
        have e53 : ρ5 3 = kI σ4 87 10 := hA5.ext 3 (show 3 < 4 by decide)
        have l14 : kI σ5 87 14 = ρ5 2 + -1 := kCell (f := (2, .negSucc 0)) hA5 (by decide +kernel) rfl
        have l10 : kI σ5 87 10 = ρ5 3 + 1 := kCell (f := (3, .ofNat 1)) hA5 (by decide +kernel) rfl
        have l15 : kI σ5 87 15 = kI σ4 87 15 := s5.i (by decide +kernel)
        have l11 : kI σ5 87 11 = kI σ4 87 11 := s5.i (by decide +kernel)
        have q5 : kSaid σ5 = kSaid σ4 := funext fun j => s5.r (by decide +kernel) (by decide +kernel) j
        have w5 : kWts σ5 = kWts σ4 := funext fun j => s5.r (by decide +kernel) (by decide +kernel) j
        have hI5 : kIv 1 σ5 := by
          refine ⟨hok5, hP5, by omega, by omega, by omega, by omega, by omega, ?_⟩
          rw [q5, l15, u6, w5, show (kI σ4 87 14).toNat = (kI σ5 87 14).toNat + 1 by omega]
          congr 1
          show kBn (kWts σ4) (kI σ5 87 14).toNat + _ + 1 = _
          rw [if_neg (show ¬ (kWts σ4 (kI σ5 87 14).toNat = 5 ∨ kWts σ4 (kI σ5 87 14).toNat = 6) from htop rfl (kI σ5 87 14).toNat (by omega))]
        show pmWp ro 3 (bMk bSp 155).1 155 (bMk bSp 155).2.2.1 104 cl5 _ σ5 (kQrw σs)
        rw [kM155.1, kM155.2]
        refine pmWp_iv (k := 206) (mm := 162) (nn := 0) (oo := 12) (p := 87) (rest := []) (as := []) (u := (0, true)) (a := 0) (b := 0) (c := true) rfl rfl rfl rfl rfl (by rw [hI5.1.1]; rfl) (by decide) ?_
        refine pmCs_mono (pmCs_deep (kEnds h hL hI5) (by decide)) ?_
        rintro v σ6 ⟨rfl, hI6, s6⟩
        have sm6 : kSm kWrw σ6 σs := kSm.tr (kSm.le s6 (by decide +kernel)) (kSm.tr (kSm.le s5 (by decide +kernel)) sm4)
        refine kGo h hL b4 (one rfl) hI6.1 hI6.2.1 (kM2_ok (show bLok 4 ρ5 kM2 cl5 from hA5.2.1)) trivial bNo_ok ?_
        intro B hB ρ7 cl7 cs7 σ7 hA7
        rw [List.mem_singleton] at hB
        subst hB
        have := bSok_n (show bSok 2 ρ7 [] cs7 from hA7.2.2)
        subst this
        have s7 : kSm 0 σ7 σ6 := hA7.sm
        have hI7 := kIv_0 hI6 (hA7.ok rfl) (hA7.kp hf0) s7
        have j10 : kI σ7 87 10 = kI σ5 87 10 := (s7.i (Nat.zero_testBit _)).trans (s6.i (by decide +kernel))
        have j11 : kI σ7 87 11 = kI σ5 87 11 := (s7.i (Nat.zero_testBit _)).trans (s6.i (by decide +kernel))
        show pmWp ro 3 (bMk bSp 155).1 155 (bMk bSp 155).2.2.1 52 cl7 [] σ7 (kQrw σs)
        rw [kM155.1, kM155.2]
        exact (ih (kI σ7 87 11 - kI σ7 87 10).toNat (by omega) σ7 cl7 2 ρ7 rfl (kSm.tr (kSm.le s7 hl0) sm6) hA7.2.1).2 hI7
    · exact hto115 hI hsm hn (by
        rcases List.mem_cons.mp hB with rfl | hB
        · exact Or.inl rfl
        · exact Or.inr (List.mem_singleton.mp hB)) hA
theorem kReads (h : bHyp ro L kP) (hL : 0 ≤ L.1 ∧ L.1 ≤ 3072) (hI : kIv 0 σ) : pmCs ro 4 155 [.ref 87] σ (kQrw σ) := by
  refine bEc_ok (n := 2) (ρ := kRv L []) (aB := [.inr [87]]) (pl := kM2) (by decide +kernel) ⟨List.mem_singleton.mpr rfl, trivial⟩ fun cl hl => ?_
  rw [kM155.1, kM155.2]
  exact (kRwL h hL _ σ cl 2 (kRv L []) rfl kSm.rf hl).1 hI
end
