/-! by hand: measure holds its contract -/
section
set_option maxRecDepth 100000
variable {ro : Nat → Nat × (Nat → Int32)} {L : aLa} {Kp : pmS → Prop} {σ0 σ σ' σs : pmS} {ρ ρ' : Nat → Int} {cl : pmL} {cs vs : List Value} {Q : Option Value → pmS → Prop} {n n2 d o m rt pc : Nat} {pl : pmL} {st : List Value}
def kQ73 (σs : pmS) : Option Value → pmS → Prop := fun v σ' => v = none ∧ kOk σ' ∧ kP σ' ∧ kSm kW73 σ' σs
def kPm (σ : pmS) (view : Int64) (n : Int) : Prop := ∀ q : Int32, 0 ≤ q.toInt → q.toInt < n → kI σ 39 q.toNatClampNeg < 100000 → 1 ≤ (kDg view q).toInt ∧ (kDg view q).toInt ≤ 7
def kLg (pr : Nat) (a b c : Option bV) : bL := [some (.inr [34]), some (.inl (true, 2, .ofNat 0)), none, some (.inr [pr]), some (.inl (false, 3, .ofNat 0)), a, b, c]
def kRe (n : Nat) (ρ : Nat → Int) (n2 : Nat) (ρ' : Nat → Int) (a b : Option bV) : Prop := ∀ y, b = some y → ∃ x, a = some x ∧ ∀ v, bVok n ρ x v → bVok n2 ρ' y v
theorem kRe_n {a : Option bV} : kRe n ρ n2 ρ' a none := fun y h => by cases h
theorem kRe_i {f g : aF} (hg : g.1 < n2) (he : ρ f.1 + f.2 = ρ' g.1 + g.2) : kRe n ρ n2 ρ' (some (.inl (false, f))) (some (.inl (false, g))) := fun y h => by
  cases h
  exact ⟨_, rfl, bVok_re hg he⟩
theorem kLg_re {pr : Nat} {a b c a' b' c' : Option bV} (h : bLok n ρ (kLg pr a b c) cl) (hn : 4 ≤ n2) (he : ∀ v, v < 4 → ρ' v = ρ v) (h5 : kRe n ρ n2 ρ' a a') (h6 : kRe n ρ n2 ρ' b b') (h7 : kRe n ρ n2 ρ' c c') : bLok n2 ρ' (kLg pr a' b' c') cl := by
  refine bLok_re h rfl fun i y hy => ?_
  match i, hy with
  | 0, hy => cases hy; exact ⟨_, rfl, fun v hv => by rw [bVok_one hv]; exact List.mem_singleton.mpr rfl⟩
  | 1, hy => cases hy; exact ⟨_, rfl, bVol_re (by show 2 < n2; omega) (by show ρ 2 + 0 = ρ' 2 + 0; rw [he 2 (by decide)])⟩
  | 2, hy => cases hy
  | 3, hy => cases hy; exact ⟨_, rfl, fun v hv => by rw [bVok_one hv]; exact List.mem_singleton.mpr rfl⟩
  | 4, hy => cases hy; exact ⟨_, rfl, bVok_re (by show 3 < n2; omega) (by show ρ 3 + 0 = ρ' 3 + 0; rw [he 3 (by decide)])⟩
  | 5, hy =>
    obtain ⟨x, h1, h2⟩ := h5 y (Option.some.inj hy)
    exact ⟨x, by rw [h1]; rfl, h2⟩
  | 6, hy =>
    obtain ⟨x, h1, h2⟩ := h6 y (Option.some.inj hy)
    exact ⟨x, by rw [h1]; rfl, h2⟩
  | 7, hy =>
    obtain ⟨x, h1, h2⟩ := h7 y (Option.some.inj hy)
    exact ⟨x, by rw [h1]; rfl, h2⟩
  | i + 8, hy => cases hy
theorem kView {pr : Nat} {a b c : Option bV} {view : Int64} (h : bLok n ρ (kLg pr a b c) cl) (hv : view.toInt = ρ 2) : cl[1]? = some (some (.long view)) := by
  obtain ⟨v, h1, h2⟩ := h.2 1 _ rfl
  obtain ⟨x, rfl, hx⟩ := bVok_long h2
  have hx : x.toInt = ρ 2 + 0 := hx.2
  have : x = view := Int64.toInt_inj.mp (by omega)
  rw [h1, this]
def kR4 (ρ : Nat → Int) (q : Int) : Nat → Int := fun v => if v = 4 then q else ρ v
def kR5 (ρ : Nat → Int) (a x : Int) : Nat → Int := fun v => if v = 4 then a else if v = 5 then x else ρ v
theorem kR4_lo {q : Int} {v : Nat} (h : v < 4) : kR4 ρ q v = ρ v := if_neg (by omega)
theorem kR5_lo {a x : Int} {v : Nat} (h : v < 4) : kR5 ρ a x v = ρ v := by
  unfold kR5
  rw [if_neg (by omega), if_neg (by omega)]
theorem kE4_ok {lo hi q : Int} (hE : aEok L ρ kE3) (h : lo ≤ q ∧ q ≤ hi) : aEok L (kR4 ρ q) (kE4 lo hi) := by
  refine ⟨⟨hE.1.1, hE.1.2.1, (by decide : 1 < 5)⟩, fun v j hj => ?_⟩
  match v, hj with
  | 0, hj => cases hj; exact hE.2 0 _ rfl
  | 1, hj => cases hj; exact hE.2 1 _ rfl
  | 2, hj => cases hj; exact hE.2 2 _ rfl
  | 3, hj => cases hj; exact hE.2 3 _ rfl
  | 4, hj => cases hj; exact h
  | v + 5, hj => cases hj
theorem kD5_ok {lo hi a x : Int} (hE : aEok L ρ kE3) (ha : -2147483648 ≤ a ∧ a ≤ 2147483647) (h : lo ≤ x ∧ x ≤ hi) : aEok L (kR5 ρ a x) (kD5 lo hi) := by
  refine ⟨⟨hE.1.1, hE.1.2.1, (by decide : 1 < 6)⟩, fun v j hj => ?_⟩
  match v, hj with
  | 0, hj => cases hj; exact hE.2 0 _ rfl
  | 1, hj => cases hj; exact hE.2 1 _ rfl
  | 2, hj => cases hj; exact hE.2 2 _ rfl
  | 3, hj => cases hj; exact hE.2 3 _ rfl
  | 4, hj => cases hj; exact ha
  | 5, hj => cases hj; exact h
  | v + 6, hj => cases hj
theorem kPm_sm {W : Nat} {view : Int64} {n : Int} (h : kPm σ view n) (hs : kSm W σ' σ) (hW : W.testBit (bRg 39 0) = false) : kPm σ' view n := fun q h0 h1 h2 => by
  refine h q h0 h1 ?_
  have e : kI σ' 39 q.toNatClampNeg = kI σ 39 q.toNatClampNeg := by
    unfold kI
    rw [(hs 39 _ (by rw [bRg_sing (by decide +kernel) _ 0]; exact hW)).1]
  rw [← e]
  exact h2
theorem kS73_at {pr : Nat} (hpr : pr ∈ ([1000, 5] : List Nat)) : kSg [kB28 pr] (bPc 1 73 0 (kP73 pr) [] kE74 [] [] 0) = true ∧ kSg [kB34m pr] (kA28 pr (.ofNat 0) (.ofNat 3)) = true ∧ kSg [kB105a pr] (kA28 pr (.ofNat 4) (.ofNat 4)) = true ∧ (∀ c, 9 ≤ c → c ≤ 73 → kSg [kB91a pr, kB91b pr] (kA44 pr c) = true) ∧ kSg [kB28n pr] (kA92 pr) = true ∧ kSg [kB190 pr, kB105b pr] (kA105 pr (.ofNat 0) (.ofNat 4)) = true ∧ kSg [kB203 pr] (kA191 pr (.ofNat 0) (.ofNat 99999)) = true ∧ kSg [kB105c pr (.ofNat 100000, .ofNat 100000)] (kA191 pr (.ofNat 100000) (.ofNat 100000)) = true ∧ kSg [kB105c pr (.ofNat 1, .ofNat 7)] (kA216 pr) = true ∧ bSeg (bCc []) (bFi 6 [(none, kD5 (.ofNat 5) (.ofNat 5), [])] kW73) [] (kA105 pr (.ofNat 5) (.ofNat 5)) [] = true := by
  have hk := List.all_eq_true.mp kS73 pr hpr
  simp only [Bool.and_eq_true] at hk
  obtain ⟨k1, k2, k3, k4, k5, k6, k7, k8, k9, k10⟩ := hk
  refine ⟨k1, k2, k3, fun c h1 h2 => ?_, k5, k6, k7, k8, k9, k10⟩
  have := List.all_eq_true.mp k4 (c - 9) (List.mem_range.mpr (by omega))
  rwa [show c - 9 + 9 = c by omega] at this
/-- the second loop, and what comes behind it -/
theorem kLoop2 (h : bHyp ro L kP) {pr : Nat} (hpr : pr ∈ ([1000, 5] : List Nat)) (hE : aEok L ρ kE3) {view : Int64} (hv : view.toInt = ρ 2) : ∀ (t x : Nat) (a : Int) (σ : pmS) (cl : pmL), x + t = 5 → -2147483648 ≤ a ∧ a ≤ 2147483647 → kOk σ → kP σ → kSm kW73 σ σs → kPm σ view 4 → bLok 6 (kR5 ρ a x) (kLg pr (some (.inl (false, kv4))) (some (.inl (false, kv5))) none) cl → pmWp ro 1 3 73 0 105 cl [] σ (kQ73 σs) := by
  obtain ⟨k1, k2, k3, k4, k5, k6, k7, k8, k9, k10⟩ := kS73_at hpr
  have hlh : Nat.lor kWh kW73 = kW73 := by decide +kernel
  have hfh : bFg kWh = true := by decide +kernel
  have h39 : kWh.testBit (bRg 39 0) = false := by decide +kernel
  intro t
  induction t with
  | zero =>
    intro x a σ cl hx ha hok hP hsm hpm hl
    have hx5 : x = 5 := by omega
    subst hx5
    have hend : bFinOk L 6 (kR5 ρ a (5 : Nat)) kP σ (bFi 6 [(none, kD5 (.ofNat 5) (.ofNat 5), [])] kW73) (kQ73 σs) := bFin_mono (bFi_end (by decide) rfl) fun v σ' hh => ⟨hh.1, hh.2.1, hh.2.2.1 (by decide +kernel), kSm.tr hh.2.2.2 hsm⟩
    have hgo := bSeg_ok (Kp := kP) (σ := σ) (σ0 := σ) (ρ := kR5 ρ a (5 : Nat)) (E := kD5 (.ofNat 5) (.ofNat 5)) (cl := cl) (cs := []) (Q := kQ73 σs) h bCn_ok k10 (fun B hB => absurd hB List.not_mem_nil) (aXok0 (kD5_ok hE ha ⟨Int.le_refl _, Int.le_refl _⟩)) (kOk_mok hok hP) hl trivial hend (fun B hB => absurd hB List.not_mem_nil)
    rw [kM73.1, kM73.2] at hgo
    exact hgo
  | succ t ih =>
    intro x a σ cl hx ha hok hP hsm hpm hl
    have hgo := bSeg_ok (Kp := kP) (σ := σ) (σ0 := σ) (ρ := kR5 ρ a x) (E := kD5 (.ofNat 0) (.ofNat 4)) (cl := cl) (cs := []) (Q := kQ73 σs) h bCn_ok k6 (fun B hB => by
      rcases List.mem_cons.mp hB with rfl | hB
      · rfl
      · rw [List.mem_singleton.mp hB]; rfl) (aXok0 (kD5_ok hE ha ⟨by show (0 : Int) ≤ x; omega, by show (x : Int) ≤ 4; omega⟩)) (kOk_mok hok hP) hl trivial bNo_ok ?_
    · rw [kM73.1, kM73.2] at hgo
      exact hgo
    intro B hB ρ1 cl1 cs1 σ1 hA
    rcases List.mem_cons.mp hB with rfl | hB
    · obtain ⟨v1, r1, rfl, hv1, hs1⟩ := bSok_c (show bSok 7 ρ1 [.inl (false, 6, .negSucc 8), .inr [39]] cs1 from hA.2.2)
      obtain ⟨v2, r2, rfl, hv2, hs2⟩ := bSok_c hs1
      obtain ⟨ix, rfl, hix⟩ := bVok_int hv1
      have := bVok_one hv2
      subst this
      have := bSok_n hs2
      subst this
      have hix : ix.toInt = ρ1 6 + (-9) := hix.2
      have hE1 : aEok L ρ1 (kD6 (.ofNat 0, .ofNat 4) (.ofNat 9, .ofNat 12)) := hA.env
      have c6 : (9 : Int) ≤ ρ1 6 ∧ ρ1 6 ≤ (12 : Int) := hE1.2 6 _ rfl
      have e1 : ∀ v, v < 6 → ρ1 v = kR5 ρ a x v := fun v hv => hA.ext v hv
      have hok1 := hA.ok rfl
      have hP1 := hA.kp hfh
      have s1 : kSm kWh σ1 σ := hA.sm
      have pm1 := kPm_sm hpm s1 h39
      have hsm1 : kSm kW73 σ1 σs := kSm.tr (kSm.le s1 hlh) hsm
      have hl1 : bLok 7 ρ1 (kLg pr (some (.inl (false, kv4))) (some (.inl (false, kv5))) (some (.inl (false, kv6)))) cl1 := hA.2.1
      obtain ⟨hin, hni⟩ := kNat (i := ix) (n := 4) (by omega) (by omega)
      unfold bWa
      rw [show (kB190 pr).2.1 = 73 from rfl, kM73.1, kM73.2, show (kB190 pr).2.2.1 = 190 from rfl]
      refine pmWp_ial (n := 4) (rs := []) rfl (by decide) (by rw [hok1.1]; rfl) hin ?_
      have ht := hok1.2 39 ix.toNatClampNeg
      rw [show bGe 39 ix.toNatClampNeg = [(0, 100000)] from bGu_ok (by decide +kernel) _, kI_z rfl] at ht
      obtain ⟨j, hj, g1, g2⟩ := ht
      rw [List.mem_singleton] at hj
      subst hj
      have g1 : (0 : Int) ≤ kI σ1 39 ix.toNatClampNeg := g1
      have g2 : kI σ1 39 ix.toNatClampNeg ≤ (100000 : Int) := g2
      generalize hT : kI σ1 39 ix.toNatClampNeg = T at g1 g2
      have hE8 : ∀ {lo hi y : Int}, lo ≤ y ∧ y ≤ hi → aEok L (fun v => if v = 7 then y else ρ1 v) (kD7 (lo, hi)) := fun {lo hi y} hy => by
        refine ⟨⟨hE1.1.1, hE1.1.2.1, (by decide : 1 < 8)⟩, fun v j hj => ?_⟩
        match v, hj with
        | 0, hj => cases hj; exact hE1.2 0 _ rfl
        | 1, hj => cases hj; exact hE1.2 1 _ rfl
        | 2, hj => cases hj; exact hE1.2 2 _ rfl
        | 3, hj => cases hj; exact hE1.2 3 _ rfl
        | 4, hj => cases hj; exact hE1.2 4 _ rfl
        | 5, hj => cases hj; exact hE1.2 5 _ rfl
        | 6, hj => cases hj; exact hE1.2 6 _ rfl
        | 7, hj => cases hj; exact hy
        | v + 8, hj => cases hj
      have hl8 : ∀ {y : Int} {cl}, bLok 7 ρ1 (kLg pr (some (.inl (false, kv4))) (some (.inl (false, kv5))) (some (.inl (false, kv6)))) cl → bLok 8 (fun v => if v = 7 then y else ρ1 v) (kLg pr (some (.inl (false, kv4))) (some (.inl (false, kv5))) (some (.inl (false, kv6)))) cl := fun hl => hl.ext (by decide) fun v hv => if_neg (by omega)
      have hst : bSok 8 (fun v => if v = 7 then T else ρ1 v) [.inl (false, 7, .ofNat 0)] [.int (σ1.2.1 39 ix.toNatClampNeg)] := ⟨⟨by decide, by
        show kI σ1 39 ix.toNatClampNeg = T + 0
        omega⟩, trivial⟩
      -- to the loop's head again
      have hback : ∀ {y : Int} {b : aI} {σ2 σ3 : pmS} {ρ3 cl3 cs3}, kPm σ2 view 4 → kSm kW73 σ2 σs → bAt L 8 (fun v => if v = 7 then y else ρ1 v) kP σ2 (kB105c pr b) ρ3 cl3 cs3 σ3 → bWa ro (kB105c pr b) cl3 cs3 σ3 (kQ73 σs) := by
        intro y b σ2 σ3 ρ3 cl3 cs3 hpm2 hsm2 hA3
        have := bSok_n (show bSok 9 ρ3 [] cs3 from hA3.2.2)
        subst this
        have e3 : ∀ v, v < 7 → ρ3 v = ρ1 v := fun v hv => (hA3.ext v (by show v < 8; omega)).trans (if_neg (by omega))
        have s3 : kSm kWh σ3 σ2 := hA3.sm
        have b8 : (-2147483648 : Int) ≤ ρ3 8 ∧ ρ3 8 ≤ (2147483647 : Int) := (show aEok L ρ3 (kD8 b) from hA3.env).2 8 _ rfl
        unfold bWa
        rw [show (kB105c pr b).2.1 = 73 from rfl, kM73.1, kM73.2, show (kB105c pr b).2.2.1 = 105 from rfl, show (kB105c pr b).1 = 1 from rfl]
        refine ih (x + 1) (ρ3 8) σ3 cl3 (by omega) b8 (hA3.ok rfl) (hA3.kp hfh) (kSm.tr (kSm.le s3 hlh) hsm2) (kPm_sm hpm2 s3 h39) ?_
        refine kLg_re (show bLok 9 ρ3 (kLg pr (some (.inl (false, 8, .ofNat 0))) (some (.inl (false, 5, .ofNat 1))) none) cl3 from hA3.2.1) (by decide) (fun v hv => ?_) (kRe_i (by decide) ?_) (kRe_i (by decide) ?_) kRe_n
        · rw [kR5_lo hv, e3 v (by omega), e1 v (by omega), kR5_lo hv]
        · rfl
        · show ρ3 5 + 1 = ((x + 1 : Nat) : Int) + 0
          rw [e3 5 (by decide), e1 5 (by decide)]
          show (x : Int) + 1 = ((x + 1 : Nat) : Int) + 0
          omega
      by_cases hTc : T < 100000
      · have hgo := bSeg_ok (Kp := kP) (σ := σ1) (σ0 := σ1) (ρ := fun v => if v = 7 then T else ρ1 v) (E := kD7 (.ofNat 0, .ofNat 99999)) (cl := cl1) (cs := [.int (σ1.2.1 39 ix.toNatClampNeg)]) (Q := kQ73 σs) h bCn_ok k7 (fun B hB => by rw [List.mem_singleton.mp hB]; rfl) (aXok0 (hE8 ⟨by show (0 : Int) ≤ T; omega, by show T ≤ (99999 : Int); omega⟩)) (kOk_mok hok1 hP1) (hl8 hl1) hst bNo_ok ?_
        · rw [kM73.1, kM73.2] at hgo
          exact hgo
        intro B hB ρ2 cl2 cs2 σ2 hA2
        rw [List.mem_singleton] at hB
        subst hB
        obtain ⟨v1, r1, rfl, hv1, hs1⟩ := bSok_c (show bSok 8 ρ2 [.inl (false, 0, .ofNat 0), .inl (false, kv5), .inr [42]] cs2 from hA2.2.2)
        obtain ⟨v2, r2, rfl, hv2, hs2⟩ := bSok_c hs1
        obtain ⟨v3, r3, rfl, hv3, hs3⟩ := bSok_c hs2
        obtain ⟨z0, rfl, hz0⟩ := bVok_int hv1
        obtain ⟨xx, rfl, hxx⟩ := bVok_int hv2
        have := bVok_one hv3
        subst this
        have := bSok_n hs3
        subst this
        have e2 : ∀ v, v < 7 → ρ2 v = ρ1 v := fun v hv => (hA2.ext v (by show v < 8; omega)).trans (if_neg (by omega))
        have hl2 : bLok 8 ρ2 (kLg pr (some (.inl (false, kv4))) (some (.inl (false, kv5))) (some (.inl (false, kv6)))) cl2 := hA2.2.1
        have hcl1 := kView hl2 (view := view) (by rw [hv, e2 2 (by decide), e1 2 (by decide), kR5_lo (by decide)])
        obtain ⟨pv, hcl7, hpv⟩ := hl2.2 7 _ rfl
        obtain ⟨pq, rfl, hpq⟩ := bVok_int hpv
        have hpq : pq.toInt = ρ2 6 + 0 := hpq.2
        rw [e2 6 (by decide)] at hpq
        have hok2 := hA2.ok rfl
        have hP2 := hA2.kp (show bFg 0 = true by decide +kernel)
        have s2 : kSm 0 σ2 σ1 := hA2.sm
        have pm2 := kPm_sm pm1 s2 (by decide +kernel)
        unfold bWa
        rw [show (kB203 pr).2.1 = 73 from rfl, kM73.1, kM73.2, show (kB203 pr).2.2.1 = 203 from rfl, show (kB203 pr).1 = 1 from rfl]
        refine pmWp_ll (j := 1) rfl hcl1 ?_
        refine pmWp_1 (i := .iconst 4) rfl rfl ?_
        refine pmWp_il (j := 7) rfl hcl7 ?_
        refine pmWp_1 (i := .bipush 9) rfl rfl ?_
        refine pmWp_1 (i := .isub) rfl rfl ?_
        refine pmWp_1 (i := .imul) rfl rfl ?_
        refine pmWp_1 (i := .lushr) rfl rfl ?_
        refine pmWp_1 (i := .l2i) rfl rfl ?_
        refine pmWp_1 (i := .bipush 15) rfl rfl ?_
        refine pmWp_1 (i := .iand) rfl rfl ?_
        have hq0 : (pq - (Int8.ofInt 9).toInt32).toInt = pq.toInt - 9 := by
          rw [Int32.toInt_sub, show (Int8.ofInt 9).toInt32.toInt = 9 from rfl]
          exact Int.bmod_eq_of_le (by omega) (by omega)
        have hqx : pq - (Int8.ofInt 9).toInt32 = ix := Int32.toInt_inj.mp (by omega)
        have hd := pm2 (pq - (Int8.ofInt 9).toInt32) (by omega) (by omega) (by
          rw [hqx]
          have : kI σ2 39 ix.toNatClampNeg = kI σ1 39 ix.toNatClampNeg := by
            unfold kI
            rw [(kAll s2 39 ix.toNatClampNeg).1]
          rw [this, hT]
          exact hTc)
        show pmWp ro 1 3 73 0 216 cl2 [.int (kDg view (pq - (Int8.ofInt 9).toInt32)), .int z0, .int xx, .ref 42] σ2 (kQ73 σs)
        generalize kDg view (pq - (Int8.ofInt 9).toInt32) = dd at hd
        have hE2 : aEok L (fun v => if v = 7 then dd.toInt else ρ1 v) (kD7 (.ofNat 1, .ofNat 7)) := hE8 ⟨hd.1, hd.2⟩
        have hl2b : bLok 8 (fun v => if v = 7 then dd.toInt else ρ1 v) (kLg pr (some (.inl (false, kv4))) (some (.inl (false, kv5))) (some (.inl (false, kv6)))) cl2 := kLg_re hl2 (by decide) (fun v hv => by rw [e2 v (by omega)]; exact if_neg (by omega)) (kRe_i (by decide) (by show ρ2 4 + 0 = ρ1 4 + 0; rw [e2 4 (by decide)])) (kRe_i (by decide) (by show ρ2 5 + 0 = ρ1 5 + 0; rw [e2 5 (by decide)])) (kRe_i (by decide) (by show ρ2 6 + 0 = ρ1 6 + 0; rw [e2 6 (by decide)]))
        have hz0 : z0.toInt = ρ2 0 + 0 := hz0.2
        have hxx : xx.toInt = ρ2 5 + 0 := hxx.2
        have hgo := bSeg_ok (Kp := kP) (σ := σ2) (σ0 := σ2) (ρ := fun v => if v = 7 then dd.toInt else ρ1 v) (E := kD7 (.ofNat 1, .ofNat 7)) (cl := cl2) (cs := [.int dd, .int z0, .int xx, .ref 42]) (Q := kQ73 σs) h bCn_ok k9 (fun B hB => by rw [List.mem_singleton.mp hB]; rfl) (aXok0 hE2) (kOk_mok hok2 hP2) hl2b ⟨⟨(show 7 < 8 by decide), (Int.add_zero _).symm⟩, ⟨(show 0 < 8 by decide), by
          show z0.toInt = ρ1 0 + 0
          rw [hz0, e2 0 (by decide)]⟩, ⟨(show 5 < 8 by decide), by
          show xx.toInt = ρ1 5 + 0
          rw [hxx, e2 5 (by decide)]⟩, List.mem_singleton.mpr rfl, trivial⟩ bNo_ok ?_
        · rw [kM73.1, kM73.2] at hgo
          exact hgo
        intro B hB ρ3 cl3 cs3 σ3 hA3
        rw [List.mem_singleton] at hB
        subst hB
        exact hback pm2 (kSm.tr (kSm.le s2 (by decide +kernel)) hsm1) hA3
      · have hgo := bSeg_ok (Kp := kP) (σ := σ1) (σ0 := σ1) (ρ := fun v => if v = 7 then T else ρ1 v) (E := kD7 (.ofNat 100000, .ofNat 100000)) (cl := cl1) (cs := [.int (σ1.2.1 39 ix.toNatClampNeg)]) (Q := kQ73 σs) h bCn_ok k8 (fun B hB => by rw [List.mem_singleton.mp hB]; rfl) (aXok0 (hE8 ⟨by show (100000 : Int) ≤ T; omega, by show T ≤ (100000 : Int); omega⟩)) (kOk_mok hok1 hP1) (hl8 hl1) hst bNo_ok ?_
        · rw [kM73.1, kM73.2] at hgo
          exact hgo
        intro B hB ρ3 cl3 cs3 σ3 hA3
        rw [List.mem_singleton] at hB
        subst hB
        exact hback pm1 hsm1 hA3
    · rw [List.mem_singleton] at hB
      subst hB
      have := bSok_n (show bSok 7 ρ1 [] cs1 from hA.2.2)
      subst this
      have e1 : ∀ v, v < 6 → ρ1 v = kR5 ρ a x v := fun v hv => hA.ext v hv
      have s1 : kSm kWh σ1 σ := hA.sm
      have b6 : (-2147483648 : Int) ≤ ρ1 6 ∧ ρ1 6 ≤ (2147483647 : Int) := (show aEok L ρ1 (kD6 (.ofNat 0, .ofNat 4) kT32) from hA.env).2 6 _ rfl
      unfold bWa
      rw [show (kB105b pr).2.1 = 73 from rfl, kM73.1, kM73.2, show (kB105b pr).2.2.1 = 105 from rfl, show (kB105b pr).1 = 1 from rfl]
      refine ih (x + 1) (ρ1 6) σ1 cl1 (by omega) b6 (hA.ok rfl) (hA.kp hfh) (kSm.tr (kSm.le s1 hlh) hsm) (kPm_sm hpm s1 h39) ?_
      refine kLg_re (show bLok 7 ρ1 (kLg pr (some (.inl (false, kv6))) (some (.inl (false, 5, .ofNat 1))) none) cl1 from hA.2.1) (by decide) (fun v hv => ?_) (kRe_i (by decide) ?_) (kRe_i (by decide) ?_) kRe_n
      · rw [kR5_lo hv, e1 v (by omega), kR5_lo hv]
      · rfl
      · show ρ1 5 + 1 = ((x + 1 : Nat) : Int) + 0
        rw [e1 5 (by decide)]
        show (x : Int) + 1 = ((x + 1 : Nat) : Int) + 0
        omega
/-- the first loop -/
theorem kLoop1 (h : bHyp ro L kP) {pr : Nat} (hpr : pr ∈ ([1000, 5] : List Nat)) (hE : aEok L ρ kE3) {view : Int64} (hv : view.toInt = ρ 2) : ∀ (t q : Nat) (σ : pmS) (cl : pmL), q + t = 4 → kOk σ → kP σ → kSm kW73 σ σs → kPm σ view q → bLok 5 (kR4 ρ q) (kLg pr (some (.inl (false, kv4))) none none) cl → pmWp ro 1 3 73 0 28 cl [] σ (kQ73 σs) := by
  obtain ⟨k1, k2, k3, k4, k5, k6, k7, k8, k9, k10⟩ := kS73_at hpr
  have hl0 : Nat.lor 0 kW73 = kW73 := by decide +kernel
  have hf0 : bFg 0 = true := by decide +kernel
  intro t
  induction t with
  | zero =>
    intro q σ cl hq hok hP hsm hpm hl
    have hq4 : q = 4 := by omega
    subst hq4
    have hgo := bSeg_ok (Kp := kP) (σ := σ) (σ0 := σ) (ρ := kR4 ρ (4 : Nat)) (E := kE4 (.ofNat 4) (.ofNat 4)) (cl := cl) (cs := []) (Q := kQ73 σs) h bCn_ok k3 (fun B hB => by rw [List.mem_singleton.mp hB]; rfl) (aXok0 (kE4_ok hE ⟨Int.le_refl _, Int.le_refl _⟩)) (kOk_mok hok hP) hl trivial bNo_ok ?_
    · rw [kM73.1, kM73.2] at hgo
      exact hgo
    intro B hB ρ1 cl1 cs1 σ1 hA
    rw [List.mem_singleton] at hB
    subst hB
    have := bSok_n (show bSok 5 ρ1 [] cs1 from hA.2.2)
    subst this
    have e1 : ∀ v, v < 5 → ρ1 v = kR4 ρ (4 : Nat) v := fun v hv => hA.ext v hv
    have s1 : kSm 0 σ1 σ := hA.sm
    have h0 : ρ1 0 = 0 := hA.env.1.1
    unfold bWa
    rw [show (kB105a pr).2.1 = 73 from rfl, kM73.1, kM73.2, show (kB105a pr).2.2.1 = 105 from rfl, show (kB105a pr).1 = 1 from rfl]
    refine kLoop2 (σs := σs) h hpr hE hv 5 0 100000 σ1 cl1 rfl (by omega) (hA.ok rfl) (hA.kp hf0) (kSm.tr (kSm.le s1 hl0) hsm) (kPm_sm hpm s1 (by decide +kernel)) ?_
    refine kLg_re (show bLok 5 ρ1 (kLg pr (some (.inl (false, 0, .ofNat 100000))) (some (.inl (false, 0, .ofNat 0))) none) cl1 from hA.2.1) (by decide) (fun v hv => ?_) (kRe_i (by decide) ?_) (kRe_i (by decide) ?_) kRe_n
    · rw [kR5_lo hv, e1 v (by omega), kR4_lo hv]
    · show ρ1 0 + 100000 = 100000 + 0
      omega
    · show ρ1 0 + 0 = ((0 : Nat) : Int) + 0
      omega
  | succ t ih =>
    intro q σ cl hq hok hP hsm hpm hl
    have hE4 : aEok L (kR4 ρ q) (kE4 (.ofNat 0) (.ofNat 3)) := kE4_ok hE ⟨by show (0 : Int) ≤ q; omega, by show (q : Int) ≤ 3; omega⟩
    have hgo := bSeg_ok (Kp := kP) (σ := σ) (σ0 := σ) (ρ := kR4 ρ q) (E := kE4 (.ofNat 0) (.ofNat 3)) (cl := cl) (cs := []) (Q := kQ73 σs) h bCn_ok k2 (fun B hB => by rw [List.mem_singleton.mp hB]; rfl) (aXok0 hE4) (kOk_mok hok hP) hl trivial bNo_ok ?_
    · rw [kM73.1, kM73.2] at hgo
      exact hgo
    intro B hB ρ1 cl1 cs1 σ1 hA
    rw [List.mem_singleton] at hB
    subst hB
    have := bSok_n (show bSok 5 ρ1 [] cs1 from hA.2.2)
    subst this
    have e1 : ∀ v, v < 5 → ρ1 v = kR4 ρ q v := fun v hv => hA.ext v hv
    have s1 : kSm 0 σ1 σ := hA.sm
    have hok1 := hA.ok rfl
    have hP1 := hA.kp hf0
    have pm1 := kPm_sm hpm s1 (by decide +kernel)
    have hl1 : bLok 5 (kR4 ρ q) (kLg pr (some (.inl (false, kv4))) none none) cl1 := kLg_re (show bLok 5 ρ1 (kLg pr (some (.inl (false, kv4))) none none) cl1 from hA.2.1) (by decide) (fun v hv => (e1 v (by omega)).symm) (kRe_i (by decide) (by show ρ1 4 + 0 = kR4 ρ q 4 + 0; rw [e1 4 (by decide)])) kRe_n kRe_n
    have hcl1 := kView hl1 (view := view) (by rw [hv, kR4_lo (by decide)])
    obtain ⟨pv, hcl5, hpv⟩ := hl1.2 5 _ rfl
    obtain ⟨qx, rfl, hqx⟩ := bVok_int hpv
    have hqx : qx.toInt = (q : Int) + 0 := hqx.2
    unfold bWa
    rw [show (kB34m pr).2.1 = 73 from rfl, kM73.1, kM73.2, show (kB34m pr).2.2.1 = 34 from rfl, show (kB34m pr).1 = 1 from rfl]
    refine pmWp_ll (j := 1) rfl hcl1 ?_
    refine pmWp_1 (i := .iconst 4) rfl rfl ?_
    refine pmWp_il (j := 5) rfl hcl5 ?_
    refine pmWp_1 (i := .imul) rfl rfl ?_
    refine pmWp_1 (i := .lushr) rfl rfl ?_
    refine pmWp_1 (i := .l2i) rfl rfl ?_
    refine pmWp_1 (i := .bipush 15) rfl rfl ?_
    refine pmWp_1 (i := .iand) rfl rfl ?_
    have hdl := kDg_le view qx
    show pmWp ro 1 3 73 0 44 cl1 [.int (kDg view qx)] σ1 (kQ73 σs)
    generalize hdd : kDg view qx = dd at hdl
    -- the price
    have hc := hok1.2 5 1
    rw [show bGe 5 1 = [(9, 73)] by decide +kernel, kI_z rfl] at hc
    obtain ⟨j, hj, g1, g2⟩ := hc
    rw [List.mem_singleton] at hj
    subst hj
    have g1 : (9 : Int) ≤ kI σ1 5 1 := g1
    have g2 : kI σ1 5 1 ≤ (73 : Int) := g2
    obtain ⟨c, hc⟩ : ∃ c : Nat, kI σ1 5 1 = c := ⟨(kI σ1 5 1).toNat, by omega⟩
    have hE5 : aEok L (fun v => if v = 5 then dd.toInt else kR4 ρ q v) (kE5 (.ofNat 0) (.ofNat 15)) := by
      refine ⟨⟨hE4.1.1, hE4.1.2.1, (by decide : 1 < 6)⟩, fun v j hj => ?_⟩
      match v, hj with
      | 0, hj => cases hj; exact hE4.2 0 _ rfl
      | 1, hj => cases hj; exact hE4.2 1 _ rfl
      | 2, hj => cases hj; exact hE4.2 2 _ rfl
      | 3, hj => cases hj; exact hE4.2 3 _ rfl
      | 4, hj => cases hj; exact hE4.2 4 _ rfl
      | 5, hj => cases hj; exact hdl
      | v + 6, hj => cases hj
    have hl5 : bLok 6 (fun v => if v = 5 then dd.toInt else kR4 ρ q v) (kLg pr (some (.inl (false, kv4))) none none) cl1 := hl1.ext (by decide) fun v hv => if_neg (by omega)
    -- behind the store
    have hback : ∀ {n5 : Nat} {ρ2 : Nat → Int} {σ2 : pmS} {cl2 : pmL} {x1 x2 : Int32}, kOk σ2 → kP σ2 → kSm 0 σ2 σ1 → (∀ v, v < 5 → ρ2 v = kR4 ρ q v) → bLok n5 ρ2 (kLg pr (some (.inl (false, kv4))) none none) cl2 → x2.toInt = q → 0 ≤ x1.toInt → x1.toInt ≤ 100000 → (x1.toInt < 100000 → 1 ≤ dd.toInt ∧ dd.toInt ≤ 7) → pmWp ro 1 3 73 0 91 cl2 [.int x1, .int x2, .ref 39] σ2 (kQ73 σs) := by
      intro n5 ρ2 σ2 cl2 x1 x2 hok2 hP2 s2 e2 hl2 hx2 hx1 hx1b hdg
      obtain ⟨hin, hni⟩ := kNat (i := x2) (n := 4) (by omega) (by omega)
      have hqn : x2.toNatClampNeg = q := by omega
      refine pmWp_ias (n := 4) (rs := []) rfl (by rw [hok2.1]; rfl) hin ?_
      rw [hqn]
      generalize hσ3 : (σ2.1, pmUp σ2.2.1 39 q x1, σ2.2.2) = σ3
      have hok3 : kOk σ3 := by
        rw [← hσ3]
        exact kOk_upi hok2 rfl (by rw [show bGe 39 q = [(0, 100000)] from bGu_ok (by decide +kernel) _]; exact ⟨_, List.mem_singleton.mpr rfl, hx1, hx1b⟩)
      have hP3 : kP σ3 := by
        rw [← hσ3]
        exact kP_upi hP2 (by decide) (by decide) (by decide) (by decide) (by decide)
      have s3 : kSm kW73 σ3 σ2 := by
        rw [← hσ3]
        refine kSm.upi ?_
        rw [bRg_sing (by decide +kernel) _ 0]
        decide +kernel
      have pm3 : kPm σ3 view ((q + 1 : Nat) : Int) := fun z z0 z1 z2 => by
        by_cases c : z.toInt = q
        · have hz : z = qx := Int32.toInt_inj.mp (by omega)
          subst hz
          have : z.toNatClampNeg = q := by show z.toInt.toNat = q; omega
          rw [this] at z2
          have e : kI σ3 39 q = x1.toInt := by
            rw [← hσ3]
            show (pmUp σ2.2.1 39 q x1 39 q).toInt = x1.toInt
            rw [kUp_at]
          rw [e] at z2
          rw [hdd]
          exact hdg z2
        · refine pm1 z z0 (by omega) ?_
          have e : kI σ3 39 z.toNatClampNeg = kI σ1 39 z.toNatClampNeg := by
            rw [← hσ3]
            show (pmUp σ2.2.1 39 q x1 39 z.toNatClampNeg).toInt = _
            rw [kUp_nk (fun hh => c (by have : z.toInt.toNat = q := hh.2; omega)), (kAll s2 39 z.toNatClampNeg).1]
            rfl
          rw [← e]
          exact z2
      have hl3 : bLok 5 (kR4 ρ q) (kLg pr (some (.inl (false, kv4))) none none) cl2 := kLg_re hl2 (by decide) (fun v hv => (e2 v (by omega)).symm) (kRe_i (by decide) (by show ρ2 4 + 0 = kR4 ρ q 4 + 0; rw [e2 4 (by decide)])) kRe_n kRe_n
      have hgo := bSeg_ok (Kp := kP) (σ := σ3) (σ0 := σ3) (ρ := kR4 ρ q) (E := kE4 (.ofNat 0) (.ofNat 3)) (cl := cl2) (cs := []) (Q := kQ73 σs) h bCn_ok k5 (fun B hB => by rw [List.mem_singleton.mp hB]; rfl) (aXok0 hE4) (kOk_mok hok3 hP3) hl3 trivial bNo_ok ?_
      · rw [kM73.1, kM73.2] at hgo
        exact hgo
      intro B hB ρ4 cl4 cs4 σ4 hA4
      rw [List.mem_singleton] at hB
      subst hB
      have := bSok_n (show bSok 5 ρ4 [] cs4 from hA4.2.2)
      subst this
      have e4 : ∀ v, v < 5 → ρ4 v = kR4 ρ q v := fun v hv => hA4.ext v hv
      have s4 : kSm 0 σ4 σ3 := hA4.sm
      unfold bWa
      rw [show (kB28n pr).2.1 = 73 from rfl, kM73.1, kM73.2, show (kB28n pr).2.2.1 = 28 from rfl, show (kB28n pr).1 = 1 from rfl]
      refine ih (q + 1) σ4 cl4 (by omega) (hA4.ok rfl) (hA4.kp hf0) (kSm.tr (kSm.le s4 hl0) (kSm.tr s3 (kSm.tr (kSm.le s2 hl0) (kSm.tr (kSm.le s1 hl0) hsm)))) (kPm_sm pm3 s4 (by decide +kernel)) ?_
      refine kLg_re (show bLok 5 ρ4 (kLg pr (some (.inl (false, 4, .ofNat 1))) none none) cl4 from hA4.2.1) (by decide) (fun v hv => ?_) (kRe_i (by decide) ?_) kRe_n kRe_n
      · rw [kR4_lo hv, e4 v (by omega), kR4_lo hv]
      · show ρ4 4 + 1 = ((q + 1 : Nat) : Int) + 0
        rw [e4 4 (by decide)]
        show (q : Int) + 1 = ((q + 1 : Nat) : Int) + 0
        omega
    have hgo := bSeg_ok (Kp := kP) (σ := σ1) (σ0 := σ1) (ρ := fun v => if v = 5 then dd.toInt else kR4 ρ q v) (E := kE5 (.ofNat 0) (.ofNat 15)) (cl := cl1) (cs := [.int dd]) (Q := kQ73 σs) h bCn_ok (k4 c (by omega) (by omega)) (fun B hB => by
      rcases List.mem_cons.mp hB with rfl | hB
      · rfl
      · rw [List.mem_singleton.mp hB]; rfl) (aXok0 hE5) ⟨hok1.1, bHok_c (kOk_hok hok1) rfl (show 0 < 6 by decide) (by
      rw [kI_z rfl, hc]
      show (c : Int) = kR4 ρ q 0 + (c : Int)
      rw [kR4_lo (by decide), hE.1.1, Int.zero_add]), fun q hq => absurd hq List.not_mem_nil, fun p k _ => ⟨rfl, rfl⟩, fun _ => hP1⟩ hl5 ⟨⟨(show 5 < 6 by decide), (Int.add_zero _).symm⟩, trivial⟩ bNo_ok ?_
    · rw [kM73.1, kM73.2] at hgo
      exact hgo
    intro B hB ρ2 cl2 cs2 σ2 hA2
    have e2 : ∀ v, v < 6 → ρ2 v = (fun v => if v = 5 then dd.toInt else kR4 ρ q v) v := fun v hv => hA2.ext v hv
    have e2' : ∀ v, v < 5 → ρ2 v = kR4 ρ q v := fun v hv => (e2 v (by omega)).trans (if_neg (by omega))
    have e25 : ρ2 5 = dd.toInt := e2 5 (by decide)
    rcases List.mem_cons.mp hB with rfl | hB
    · obtain ⟨v1, r1, rfl, hv1, hs1⟩ := bSok_c (show bSok 7 ρ2 [.inl (false, kv6), .inl (false, kv4), .inr [39]] cs2 from hA2.2.2)
      obtain ⟨v2, r2, rfl, hv2, hs2⟩ := bSok_c hs1
      obtain ⟨v3, r3, rfl, hv3, hs3⟩ := bSok_c hs2
      obtain ⟨x1, rfl, hx1⟩ := bVok_int hv1
      obtain ⟨x2, rfl, hx2⟩ := bVok_int hv2
      have := bVok_one hv3
      subst this
      have := bSok_n hs3
      subst this
      have hx1 : x1.toInt = ρ2 6 + 0 := hx1.2
      have hx2 : x2.toInt = ρ2 4 + 0 := hx2.2
      have hEb : aEok L ρ2 kE6 := hA2.env
      have b5 : (1 : Int) ≤ ρ2 5 ∧ ρ2 5 ≤ (7 : Int) := hEb.2 5 _ rfl
      have b6 : (0 : Int) ≤ ρ2 6 ∧ ρ2 6 ≤ (99999 : Int) := hEb.2 6 _ rfl
      have e24 : ρ2 4 = (q : Int) := e2' 4 (by decide)
      unfold bWa
      rw [show (kB91a pr).2.1 = 73 from rfl, kM73.1, kM73.2, show (kB91a pr).2.2.1 = 91 from rfl, show (kB91a pr).1 = 1 from rfl]
      exact hback (n5 := 7) (ρ2 := ρ2) (hA2.ok rfl) (hA2.kp hf0) hA2.sm e2' hA2.2.1 (by omega) (by omega) (by omega) (fun _ => by omega)
    · rw [List.mem_singleton] at hB
      subst hB
      obtain ⟨v1, r1, rfl, hv1, hs1⟩ := bSok_c (show bSok 6 ρ2 [.inl (false, 0, .ofNat 100000), .inl (false, kv4), .inr [39]] cs2 from hA2.2.2)
      obtain ⟨v2, r2, rfl, hv2, hs2⟩ := bSok_c hs1
      obtain ⟨v3, r3, rfl, hv3, hs3⟩ := bSok_c hs2
      obtain ⟨x1, rfl, hx1⟩ := bVok_int hv1
      obtain ⟨x2, rfl, hx2⟩ := bVok_int hv2
      have := bVok_one hv3
      subst this
      have := bSok_n hs3
      subst this
      have hx1 : x1.toInt = ρ2 0 + 100000 := hx1.2
      have hx2 : x2.toInt = ρ2 4 + 0 := hx2.2
      have h0 : ρ2 0 = 0 := hA2.env.1.1
      have e24 : ρ2 4 = (q : Int) := e2' 4 (by decide)
      unfold bWa
      rw [show (kB91b pr).2.1 = 73 from rfl, kM73.1, kM73.2, show (kB91b pr).2.2.1 = 91 from rfl, show (kB91b pr).1 = 1 from rfl]
      exact hback (n5 := 6) (ρ2 := ρ2) (hA2.ok rfl) (hA2.kp hf0) hA2.sm e2' hA2.2.1 (by omega) (by omega) (by omega) (fun hh => by omega)
theorem kMeasure (h : bHyp ro L kP) {pr : Nat} (hpr : pr ∈ ([1000, 5] : List Nat)) (hec : bEc 73 [.inr [34], .inl (true, 2, .ofNat 0), .inr [pr]] (kP73 pr) = true) : bCok ro L kP (73, [.inr [34], .inl (true, 2, .ofNat 0), .inr [pr]], kE74, [], [(none, kE74, [])], kW73, 2) := by
  intro ρ vs σ hE hM hs
  have hM : bMok 3 ρ kP σ ([], [], 0) σ := hM
  have hk := kS73_at hpr
  suffices hg : pmCs ro 2 73 vs σ (kQ73 σ) by
    refine pmCs_mono hg ?_
    rintro v σ' ⟨rfl, b2, b3, b4⟩
    exact ⟨_, List.mem_singleton.mpr rfl, ρ, aExt.rf, Nat.le_refl _, hE, trivial, b2.1, fun p k => b2.2 p k, fun q hq => absurd hq List.not_mem_nil, b4, fun _ => b3⟩
  -- the view
  obtain ⟨v1, r1, rfl, hv1, hs1⟩ := bSok_c (show bSok 3 ρ [.inr [34], .inl (true, 2, .ofNat 0), .inr [pr]] vs from hs)
  obtain ⟨v2, r2, rfl, hv2, hs2⟩ := bSok_c hs1
  obtain ⟨view, rfl, hview⟩ := bVok_long hv2
  have hview : view.toInt = ρ 2 + 0 := hview.2
  refine bEc_ok (pl := kP73 pr) hec hs fun cl hl => ?_
  have hgo := bSeg_ok (Kp := kP) (σ := σ) (σ0 := σ) (ρ := ρ) (E := kE74) (cl := cl) (cs := []) (Q := kQ73 σ) h bCn_ok hk.1 (fun B hB => by rw [List.mem_singleton.mp hB]; rfl) (aXok0 hE) hM hl trivial bNo_ok ?_
  · exact hgo
  intro B hB ρ1 cl1 cs1 σ1 hA
  rw [List.mem_singleton] at hB
  subst hB
  have := bSok_n (show bSok 4 ρ1 [] cs1 from hA.2.2)
  subst this
  have e2 : ρ1 2 = ρ 2 := hA.ext 2 (by decide)
  have h0 : ρ1 0 = 0 := hA.env.1.1
  unfold bWa
  rw [show (kB28 pr).2.1 = 73 from rfl, kM73.1, kM73.2, show (kB28 pr).2.2.1 = 28 from rfl, show (kB28 pr).1 = 1 from rfl]
  refine kLoop1 (σs := σ) (ρ := ρ1) h hpr hA.env (view := view) (by omega) 4 0 σ1 cl1 rfl (hA.ok rfl) (hA.kp (show bFg 0 = true by decide +kernel)) (kSm.le (show kSm 0 σ1 σ from hA.sm) (by decide +kernel)) (fun q q0 q1 => by omega) ?_
  refine kLg_re (show bLok 4 ρ1 (kLg pr (some (.inl (false, 0, .ofNat 0))) none none) cl1 from hA.2.1) (by decide) (fun v hv => kR4_lo hv) (kRe_i (by decide) ?_) kRe_n kRe_n
  show ρ1 0 + 0 = ((0 : Nat) : Int) + 0
  omega
theorem kMeas1 (h : bHyp ro L kP) : bCok ro L kP bC73 := kMeasure h (by decide) (by decide +kernel)
theorem kMeas2 (h : bHyp ro L kP) : bCok ro L kP bC73a := kMeasure h (by decide) (by decide +kernel)
end
