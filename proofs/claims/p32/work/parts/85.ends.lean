/-! by hand: the reference reads a wish: endsPiece, joinsEnd, hasOpen, opens -/
section
set_option maxRecDepth 100000
variable {ro : Nat → Nat × (Nat → Int32)} {L : aLa} {Kp : pmS → Prop} {σ0 σ σ' σs : pmS} {ρ ρ' : Nat → Int} {cl : pmL} {cs vs : List Value} {Q : Option Value → pmS → Prop} {n W p k : Nat}
/-- how many of the waiting join two -/
def kBn (s : Nat → Int) : Nat → Nat
  | 0 => 0
  | n + 1 => kBn s n + (if s n = 5 ∨ s n = 6 then 1 else 0)
theorem kBn_cg {s s' : Nat → Int} : ∀ {n : Nat}, (∀ j, j < n → s' j = s j) → kBn s' n = kBn s n
  | 0, _ => rfl
  | n + 1, h => by
    unfold kBn
    rw [kBn_cg fun j hj => h j (by omega), h n (by omega)]
theorem kD_cg {s s' : Nat → Int} : ∀ {n : Nat}, (∀ j, j < n → s' j = s j) → kD s' n = kD s n
  | 0, _ => rfl
  | n + 1, h => by
    unfold kD
    rw [kD_cg fun j hj => h j (by omega), h n (by omega)]
theorem kD_say {s s' : Nat → Int} {c d : Nat} (h : kD s c = some d) (hs : ∀ j, j < c → s' j = s j) : kD s' (c + 1) = if s' c / 256 < 5 then some (d + 1) else if s' c / 256 = 7 then (if 1 ≤ d then some d else none) else (if 2 ≤ d then some (d - 1) else none) := by
  rw [show kD s' (c + 1) = (match kD s' c with
    | some d => if s' c / 256 < 5 then some (d + 1) else if s' c / 256 = 7 then (if 1 ≤ d then some d else none) else (if 2 ≤ d then some (d - 1) else none)
    | none => none) from rfl, kD_cg hs, h]
def kSaid (σ : pmS) : Nat → Int := fun j => kI σ 95 j
def kWts (σ : pmS) : Nat → Int := fun j => kI σ 94 j
/-- what holds while the reference reads a wish: e is 1 behind a piece -/
def kIv (e : Nat) (σ : pmS) : Prop := kOk σ ∧ kP σ ∧ 0 ≤ kI σ 87 15 ∧ 0 ≤ kI σ 87 14 ∧ kI σ 87 15 + kI σ 87 14 ≤ kI σ 87 10 ∧ kI σ 87 10 ≤ kI σ 87 11 ∧ kI σ 87 11 ≤ 40 ∧ kD (kSaid σ) (kI σ 87 15).toNat = some (kBn (kWts σ) (kI σ 87 14).toNat + e)
def kWend : Nat := 24443471957792058209195131312833264775239811542705476469888533239565313365018546577418856628011241914189611636822637018407192167359266608327246602710763623669526931550450211253500707580594302739831398142540399142113719058851373738547498379686644090812175125073065329460450003504136433885719903390776090707888546980236068309975338414366252186622385946379213894827478168079710522635123473317871436361648090189367382754805315102469418466394608471669800149921342426708750803768162271817448535621632
def kWep : Nat := 45531302161540525099674888441176224374431410290284520029339353353255569184497074176
def kL162 : bL := [some (.inr [87])]
/-! endsPiece -/
def kA162 (I : aE) (f : aF) : bNq := bPc 1 162 0 kL162 [] (kBe I) [] (kHv [(14, f)]) 0
def kB162 : bNq := bPc 1 162 14 kL162 [.inl (false, 0, .ofNat 0), .inl (false, 0, .ofNat 0), .inl (false, 0, .ofNat 7), .inr [87]] (kBe [(.ofNat 1, .ofNat 40), (.ofNat 7, .ofNat 7)]) [] [] 0
def kA17 : bNq := bPc 1 162 17 kL162 [] (kBe [(.ofNat 1, .ofNat 40)]) [] (kHv [(14, (2, .ofNat 0))]) 0
def kB17 : bNq := bPc 1 162 0 kL162 [] (kBe [(.ofNat 1, .ofNat 40)]) [] (kHv [(14, (2, .negSucc 0))]) kWep
def kRw : bS := [(94, (2, .negSucc 0), (3, .ofNat 0))]
theorem kS162 : (bSeg (bCc []) (bFi 2 [(none, kBe [], [])] 0) [] (kA162 [] (0, .ofNat 0)) [] && (bSeg (bCc []) (bFi 4 [(none, kBe [(.ofNat 1, .ofNat 40), (.ofNat 0, .ofNat 6)], [])] 0) [] (kA162 [(.ofNat 1, .ofNat 40), (.ofNat 0, .ofNat 6)] (2, .ofNat 0)) kRw && (bSeg (bCc []) (bFi 4 [(none, kBe [(.ofNat 1, .ofNat 40), (.ofNat 8, .ofNat 8)], [])] 0) [] (kA162 [(.ofNat 1, .ofNat 40), (.ofNat 8, .ofNat 8)] (2, .ofNat 0)) kRw && (bSeg (bCc []) bNo [kB162] (kA162 [(.ofNat 1, .ofNat 40), (.ofNat 7, .ofNat 7)] (2, .ofNat 0)) kRw && bSeg (bCc []) bNo [kB17] kA17 [])))) = true := by decide +kernel
theorem kM162 : (bMk bSp 162).1 = 12 ∧ (bMk bSp 162).2.2.1 = 0 := by decide +kernel
def kQend (σs : pmS) : Option Value → pmS → Prop := fun v σ' => v = none ∧ kIv 1 σ' ∧ kSm kWend σ' σs
theorem kL162_ok {n2 : Nat} (h : bLok n ρ kL162 cl) : bLok n2 ρ' kL162 cl := by
  refine bLok_re h rfl fun j y hy => ?_
  match j, hy with
  | 0, hy => cases hy; exact ⟨_, rfl, fun v hv => by rw [bVok_one hv]; exact List.mem_singleton.mpr rfl⟩
  | j + 1, hy => cases hy
/-- nothing is changed -/
theorem kIv_sm {e : Nat} (h : kIv e σ) (hok : kOk σ') (hP : kP σ') (s : kSm W σ' σ) (h1 : W.testBit (bRg 87 15) = false) (h2 : W.testBit (bRg 87 14) = false) (h3 : W.testBit (bRg 87 10) = false) (h4 : W.testBit (bRg 87 11) = false) (h5 : W.testBit (bRg 95 0) = false) (h6 : W.testBit (bRg 94 0) = false) : kIv e σ' := by
  obtain ⟨_, _, b1, b2, b3, b4, b5, b6⟩ := h
  have e1 : kSaid σ' = kSaid σ := funext fun j => s.r (by decide +kernel) h5 j
  have e2 : kWts σ' = kWts σ := funext fun j => s.r (by decide +kernel) h6 j
  unfold kIv
  rw [s.i h1, s.i h2, s.i h3, s.i h4, e1, e2]
  exact ⟨hok, hP, b1, b2, b3, b4, b5, b6⟩
theorem kEndsL (h : bHyp ro L kP) (hL : 0 ≤ L.1 ∧ L.1 ≤ 3072) : ∀ (n : Nat) (σ : pmS) (cl : pmL) (ρ : Nat → Int), (kI σ 87 14).toNat = n → kIv 1 σ → kSm kWend σ σs → bLok 2 ρ kL162 cl → pmWp ro 1 12 162 0 0 cl [] σ (kQend σs) := by
  have hk := kS162
  simp only [Bool.and_eq_true] at hk
  obtain ⟨k1, k2, k3, k4, k5⟩ := hk
  have hfin : ∀ {I : aE} {ρ : Nat → Int} {σ : pmS} {m : Nat}, kIv 1 σ → kSm kWend σ σs → 2 ≤ m → (kBe I).length = m → bFinOk L m ρ kP σ (bFi m [(none, kBe I, [])] 0) (kQend σs) := fun hI hsm hm hl => bFin_mono (bFi_end hm hl) fun v σ' hh => by
    obtain ⟨g1, g2, g3, g4⟩ := hh
    exact ⟨g1, kIv_sm hI g2 (g3 (by decide +kernel)) g4 (Nat.zero_testBit _) (Nat.zero_testBit _) (Nat.zero_testBit _) (Nat.zero_testBit _) (Nat.zero_testBit _) (Nat.zero_testBit _), kSm.tr (kSm.le g4 (by decide +kernel)) hsm⟩
  intro n
  induction n with
  | zero =>
    intro σ cl ρ hn hI hsm hl
    have h14 : kI σ 87 14 = 0 := by have := hI.2.2.2.1; omega
    have hgo := bSeg_ok (Kp := kP) (σ := σ) (σ0 := σ) (ρ := kRv L []) (E := kBe []) (cl := cl) (cs := []) (Q := kQend σs) h bCn_ok k1 (fun B hB => absurd hB List.not_mem_nil) (aXok0 (kEnv hL trivial)) (kMok hI.1 hI.2.1 (by decide +kernel) ⟨⟨by decide, by rw [h14]; rfl⟩, trivial⟩ kNoR) (kL162_ok hl) trivial (hfin hI hsm (by decide) rfl) (fun B hB => absurd hB List.not_mem_nil)
    rw [kM162.1, kM162.2] at hgo
    exact hgo
  | succ n ih =>
    intro σ cl ρ hn hI hsm hl
    obtain ⟨hok, hP, b1, b2, b3, b4, b5, b6⟩ := id hI
    have ht := kOk_at (k := n) hok (by exact rfl) (show bGe 94 n = [(0, 8)] from bGu_ok (by decide +kernel) n)
    have hwn : kI σ 87 14 = (n : Int) + 1 := by omega
    have hE : ∀ {lo hi : Int}, lo ≤ kI σ 94 n ∧ kI σ 94 n ≤ hi → aEok L (kRv L [kI σ 87 14, kI σ 94 n]) (kBe [(.ofNat 1, .ofNat 40), (lo, hi)]) := fun hh => kEnv hL ⟨⟨by show (1 : Int) ≤ kI σ 87 14; omega, by show kI σ 87 14 ≤ (40 : Int); omega⟩, hh, trivial⟩
    have hM : bMok 4 (kRv L [kI σ 87 14, kI σ 94 n]) kP σ (kHv [(14, (2, .ofNat 0))], kRw, 0) σ := kMok hok hP (by decide +kernel) ⟨⟨by decide, (Int.add_zero _).symm⟩, trivial⟩ (kOneR (by decide) (by decide) rfl (by
      show kI σ 94 (kI σ 87 14 + -1).toNat = kI σ 94 n
      rw [show (kI σ 87 14 + -1).toNat = n by omega]))
    by_cases c7 : kI σ 94 n = 7
    · have hgo := bSeg_ok (Kp := kP) (σ := σ) (σ0 := σ) (ρ := kRv L [kI σ 87 14, kI σ 94 n]) (E := kBe [(.ofNat 1, .ofNat 40), (.ofNat 7, .ofNat 7)]) (cl := cl) (cs := []) (Q := kQend σs) h bCn_ok k4 (fun B hB => by rw [List.mem_singleton.mp hB]; rfl) (aXok0 (hE ⟨by show (7 : Int) ≤ kI σ 94 n; omega, by show kI σ 94 n ≤ (7 : Int); omega⟩)) hM (kL162_ok hl) trivial bNo_ok ?_
      · rw [kM162.1, kM162.2] at hgo
        exact hgo
      intro B hB ρ1 cl1 cs1 σ1 hA
      rw [List.mem_singleton] at hB
      subst hB
      obtain ⟨v1, r1, rfl, hv1, hs1⟩ := bSok_c (show bSok 4 ρ1 [.inl (false, 0, .ofNat 0), .inl (false, 0, .ofNat 0), .inl (false, 0, .ofNat 7), .inr [87]] cs1 from hA.2.2)
      obtain ⟨v2, r2, rfl, hv2, hs2⟩ := bSok_c hs1
      obtain ⟨v3, r3, rfl, hv3, hs3⟩ := bSok_c hs2
      obtain ⟨v4, r4, rfl, hv4, hs4⟩ := bSok_c hs3
      obtain ⟨x1, rfl, hx1⟩ := bVok_int hv1
      obtain ⟨x2, rfl, hx2⟩ := bVok_int hv2
      obtain ⟨x3, rfl, hx3⟩ := bVok_int hv3
      have := bVok_one hv4
      subst this
      have := bSok_n hs4
      subst this
      have h0 : ρ1 0 = 0 := hA.env.1.1
      have hx1 : x1.toInt = ρ1 0 + 0 := hx1.2
      have hx2 : x2.toInt = ρ1 0 + 0 := hx2.2
      have hx3 : x3.toInt = ρ1 0 + 7 := hx3.2
      have s1 : kSm 0 σ1 σ := hA.sm
      have hI1 := kIv_sm hI (hA.ok rfl) (hA.kp (show bFg 0 = true by decide +kernel)) s1 (Nat.zero_testBit _) (Nat.zero_testBit _) (Nat.zero_testBit _) (Nat.zero_testBit _) (Nat.zero_testBit _) (Nat.zero_testBit _)
      have i14 : kI σ1 87 14 = kI σ 87 14 := s1.i (Nat.zero_testBit _)
      have i94 : kI σ1 94 n = kI σ 94 n := s1.i (Nat.zero_testBit _)
      obtain ⟨hok1, hP1, d1, d2, d3, d4, d5, d6⟩ := id hI1
      unfold bWa
      rw [show kB162.2.1 = 162 from rfl, kM162.1, kM162.2, show kB162.2.2.1 = 14 from rfl, show kB162.1 = 1 from rfl]
      refine pmWp_iv (k := 202) (mm := 161) (nn := 3) (oo := 12) (p := 87) (rest := []) (as := [.int x3, .int x2, .int x1]) (u := (0, true)) (a := 0) (b := 0) (c := true) rfl rfl rfl rfl rfl (by rw [hok1.1]; rfl) (by decide) ?_
      refine pmCs_mono (kSays h hL (w := 7) (A := 1) (B := 1) (by decide) (by omega) (by omega) (by omega) hok1 hP1 (by omega)) ?_
      rintro v σ2 ⟨rfl, hok2, hP2, s2, c2, z, hz, row2⟩
      have j14 : kI σ2 87 14 = kI σ1 87 14 := s2.i (by decide +kernel)
      have j10 : kI σ2 87 10 = kI σ1 87 10 := s2.i (by decide +kernel)
      have j11 : kI σ2 87 11 = kI σ1 87 11 := s2.i (by decide +kernel)
      have hE2 : aEok L (kRv L [kI σ2 87 14]) (kBe [(.ofNat 1, .ofNat 40)]) := kEnv hL ⟨⟨by show (1 : Int) ≤ kI σ2 87 14; omega, by show kI σ2 87 14 ≤ (40 : Int); omega⟩, trivial⟩
      have hgo := bSeg_ok (Kp := kP) (σ := σ2) (σ0 := σ2) (ρ := kRv L [kI σ2 87 14]) (E := kBe [(.ofNat 1, .ofNat 40)]) (cl := cl1) (cs := []) (Q := kQend σs) h bCn_ok k5 (fun B hB => by rw [List.mem_singleton.mp hB]; rfl) (aXok0 hE2) (kMok hok2 hP2 (by decide +kernel) ⟨⟨by decide, (Int.add_zero _).symm⟩, trivial⟩ kNoR) (kL162_ok hA.2.1) trivial bNo_ok ?_
      · rw [kM162.1, kM162.2] at hgo
        exact hgo
      intro B hB ρ3 cl3 cs3 σ3 hA3
      rw [List.mem_singleton] at hB
      subst hB
      have := bSok_n (show bSok 3 ρ3 [] cs3 from hA3.2.2)
      subst this
      have s3 : kSm kWep σ3 σ2 := hA3.sm
      have hok3 : kOk σ3 := kOk_m (E := kBe [(.ofNat 1, .ofNat 40)]) hA3.env (by decide +kernel) hA3.1.2.1
      have hP3 := hA3.kp (show bFg kWep = true by decide +kernel)
      have e2 : ρ3 2 = kI σ2 87 14 := hA3.ext 2 (by decide)
      have l14 : kI σ3 87 14 = ρ3 2 + -1 := kCell (f := (2, .negSucc 0)) hA3 (by decide +kernel) rfl
      have l15 : kI σ3 87 15 = kI σ2 87 15 := s3.i (by decide +kernel)
      have l10 : kI σ3 87 10 = kI σ2 87 10 := s3.i (by decide +kernel)
      have l11 : kI σ3 87 11 = kI σ2 87 11 := s3.i (by decide +kernel)
      have w3 : kWts σ3 = kWts σ1 := funext fun j => (s3.r (by decide +kernel) (by decide +kernel) j).trans (s2.r (by decide +kernel) (by decide +kernel) j)
      have q3 : ∀ j : Nat, kSaid σ3 j = if (j : Int) = kI σ1 87 15 then z else kSaid σ1 j := fun j => (s3.r (by decide +kernel) (by decide +kernel) j).trans (row2 j)
      unfold bWa
      rw [show kB17.2.1 = 162 from rfl, kM162.1, kM162.2, show kB17.2.2.1 = 0 from rfl, show kB17.1 = 1 from rfl]
      refine ih σ3 cl3 (kRv L []) (by omega) ⟨hok3, hP3, by omega, by omega, by omega, by omega, by omega, ?_⟩ ?_ (kL162_ok hA3.2.1)
      · have h15 : (kI σ3 87 15).toNat = (kI σ1 87 15).toNat + 1 := by omega
        have hq0 : kSaid σ3 (kI σ1 87 15).toNat = z := by
          rw [q3]
          exact if_pos (by omega)
        rw [h15, kD_say d6 (fun j hj => by rw [q3, if_neg (by omega)]), hq0, hz]
        have hb : kBn (kWts σ1) (kI σ1 87 14).toNat = kBn (kWts σ3) (kI σ3 87 14).toNat := by
          rw [w3, show (kI σ1 87 14).toNat = (kI σ3 87 14).toNat + 1 by omega]
          show kBn (kWts σ1) (kI σ3 87 14).toNat + _ = _
          have : kWts σ1 (kI σ3 87 14).toNat = 7 := by
            rw [show (kI σ3 87 14).toNat = n by omega]
            exact i94.trans c7
          rw [this]
          rfl
        rw [← hb]
        show (if ((7 : Nat) : Int) < 5 then _ else _) = _
        rw [if_neg (by decide), if_pos (show ((7 : Nat) : Int) = 7 from rfl), if_pos (show 1 ≤ kBn (kWts σ1) (kI σ1 87 14).toNat + 1 by omega)]
      · exact kSm.tr (kSm.le s3 (by decide +kernel)) (kSm.tr (kSm.le s2 (by decide +kernel)) (kSm.tr (kSm.le s1 (by decide +kernel)) hsm))
    · by_cases c8 : kI σ 94 n = 8
      · have hgo := bSeg_ok (Kp := kP) (σ := σ) (σ0 := σ) (ρ := kRv L [kI σ 87 14, kI σ 94 n]) (E := kBe [(.ofNat 1, .ofNat 40), (.ofNat 8, .ofNat 8)]) (cl := cl) (cs := []) (Q := kQend σs) h bCn_ok k3 (fun B hB => absurd hB List.not_mem_nil) (aXok0 (hE ⟨by show (8 : Int) ≤ kI σ 94 n; omega, by show kI σ 94 n ≤ (8 : Int); omega⟩)) hM (kL162_ok hl) trivial (hfin hI hsm (by decide) rfl) (fun B hB => absurd hB List.not_mem_nil)
        rw [kM162.1, kM162.2] at hgo
        exact hgo
      · have hgo := bSeg_ok (Kp := kP) (σ := σ) (σ0 := σ) (ρ := kRv L [kI σ 87 14, kI σ 94 n]) (E := kBe [(.ofNat 1, .ofNat 40), (.ofNat 0, .ofNat 6)]) (cl := cl) (cs := []) (Q := kQend σs) h bCn_ok k2 (fun B hB => absurd hB List.not_mem_nil) (aXok0 (hE ⟨by show (0 : Int) ≤ kI σ 94 n; omega, by show kI σ 94 n ≤ (6 : Int); omega⟩)) hM (kL162_ok hl) trivial (hfin hI hsm (by decide) rfl) (fun B hB => absurd hB List.not_mem_nil)
        rw [kM162.1, kM162.2] at hgo
        exact hgo
theorem kEnds (h : bHyp ro L kP) (hL : 0 ≤ L.1 ∧ L.1 ≤ 3072) (hI : kIv 1 σ) : pmCs ro 2 162 [.ref 87] σ (kQend σ) := by
  refine bEc_ok (n := 2) (ρ := kRv L []) (aB := [.inr [87]]) (pl := kL162) (by decide +kernel) ⟨List.mem_singleton.mpr rfl, trivial⟩ fun cl hl => ?_
  rw [kM162.1, kM162.2]
  exact kEndsL h hL _ σ cl (kRv L []) rfl hI kSm.rf hl
end
