/-! by hand: weigh holds its contract -/
section
set_option maxRecDepth 100000
variable {ro : Nat → Nat × (Nat → Int32)} {L : aLa} {σ σs σ' : pmS} {ρ ρ' : Nat → Int} {cl : pmL} {n n2 : Nat}
def kQ74 (σs : pmS) : Option Value → pmS → Prop := fun v σ' => v = none ∧ kOk σ' ∧ kP σ' ∧ kSm kW74 σ' σs
theorem kL74_re {pr : Nat} {f g : aF} (h : bLok n ρ (kL74 pr (.inl (false, f))) cl) (hn : 6 ≤ n2) (hg : g.1 < n2) (he : ∀ v, v < 6 → ρ' v = ρ v) (h6 : ρ f.1 + f.2 = ρ' g.1 + g.2) : bLok n2 ρ' (kL74 pr (.inl (false, g))) cl := by
  refine bLok_re h rfl fun i b hb => ?_
  match i, hb with
  | 0, hb => cases hb; exact ⟨_, rfl, fun v hv => by rw [bVok_one hv]; exact List.mem_singleton.mpr rfl⟩
  | 1, hb => cases hb; exact ⟨_, rfl, bVol_re (by show 2 < n2; omega) (by show ρ 2 + 0 = ρ' 2 + 0; rw [he 2 (by decide)])⟩
  | 2, hb => cases hb
  | 3, hb => cases hb; exact ⟨_, rfl, fun v hv => by rw [bVok_one hv]; exact List.mem_singleton.mpr rfl⟩
  | 4, hb => cases hb; exact ⟨_, rfl, bVok_re (by show 3 < n2; omega) (by show ρ 3 + 0 = ρ' 3 + 0; rw [he 3 (by decide)])⟩
  | 5, hb => cases hb; exact ⟨_, rfl, bVok_re (by show 4 < n2; omega) (by show ρ 4 + 0 = ρ' 4 + 0; rw [he 4 (by decide)])⟩
  | 6, hb => cases hb; exact ⟨_, rfl, bVok_re (by show 5 < n2; omega) (by show ρ 5 + 0 = ρ' 5 + 0; rw [he 5 (by decide)])⟩
  | 7, hb => cases hb; exact ⟨_, rfl, bVok_re hg h6⟩
  | 8, hb => cases hb
  | 9, hb => cases hb
  | 10, hb => cases hb
  | 11, hb => cases hb
  | 12, hb => cases hb
  | 13, hb => cases hb
  | 14, hb => cases hb
  | 15, hb => cases hb
  | 16, hb => cases hb
  | 17, hb => cases hb
  | i + 18, hb => cases hb
def kRi (ρ : Nat → Int) (i m : Int) : Nat → Int := fun v => if v = 6 then i else if v = 7 then m else ρ v
theorem kRi_lo {i m : Int} {v : Nat} (h : v < 6) : kRi ρ i m v = ρ v := by
  unfold kRi
  rw [if_neg (by omega), if_neg (by omega)]
theorem kEi {lo6 hi6 lo7 hi7 i m : Int} (hE : aEok L ρ kF74) (h1 : lo6 ≤ i ∧ i ≤ hi6) (h2 : lo7 ≤ m ∧ m ≤ hi7) : aEok L (kRi ρ i m) [(.ofNat 0, .ofNat 0), (.ofNat 0, .ofNat 3072), (.negSucc 9223372036854775807, .ofNat 9223372036854775807), (.ofNat 0, .ofNat 6), kT32, kT32, (lo6, hi6), (lo7, hi7)] := by
  refine ⟨⟨hE.1.1, hE.1.2.1, (by decide : 1 < 8)⟩, fun v j hj => ?_⟩
  match v, hj with
  | 0, hj => cases hj; exact hE.2 0 _ rfl
  | 1, hj => cases hj; exact hE.2 1 _ rfl
  | 2, hj => cases hj; exact hE.2 2 _ rfl
  | 3, hj => cases hj; exact hE.2 3 _ rfl
  | 4, hj => cases hj; exact hE.2 4 _ rfl
  | 5, hj => cases hj; exact hE.2 5 _ rfl
  | 6, hj => cases hj; exact h1
  | 7, hj => cases hj; exact h2
  | v + 8, hj => cases hj
theorem kWeighL (h : bHyp ro L kP) {pr : Nat} (hpr : pr ∈ ([1000, 5] : List Nat)) (hb : ∀ t ∈ kTl, bSeg (bCc []) bNo [kB54n pr] (kA89 pr t) [] = true) (hE : aEok L ρ kF74) {w m : Nat} (hw : w < 12) (hm : m ≤ 40) : ∀ (t i : Nat) (σ : pmS) (cl : pmL), i + t = m → kOk σ → kP σ → kSm kW74 σ σs → kI σ 34 11 = w → kI σ 9 w = m → bLok 8 (kRi ρ i m) (kL74 pr kI60) cl → pmWp ro 1 3 74 0 54 cl [] σ (kQ74 σs) := by
  have hk := List.all_eq_true.mp kS74a pr hpr
  rw [Bool.and_eq_true] at hk
  have hk2 := List.all_eq_true.mp hk.2 w (List.mem_range.mpr hw)
  rw [Bool.and_eq_true] at hk2
  obtain ⟨k1, k2⟩ := hk2
  have hH : ∀ {σ : pmS} {i : Nat}, kOk σ → kI σ 34 11 = w → kI σ 9 w = m → bHok 8 (kRi ρ i m) [(34, [(11, .inl (0, .ofNat w))]), (9, [(w, .inl (7, .ofNat 0))])] (bZ σ) := by
    intro σ i hok h1 h2
    refine bHok_c (bHok_c (kOk_hok hok) rfl (show 7 < 8 by decide) ?_) rfl (show 0 < 8 by decide) ?_
    · rw [kI_z rfl, h2]
      exact (Int.add_zero _).symm
    · rw [kI_z (by decide +kernel), h1]
      show (w : Int) = kRi ρ i m 0 + (w : Int)
      rw [kRi_lo (by decide), hE.1.1, Int.zero_add]
  intro t
  induction t with
  | zero =>
    intro i σ cl hit hok hP hsm h34 h9 hl
    have him : i = m := by omega
    subst him
    have hend : bFinOk L 8 (kRi ρ i i) kP σ (bFi 8 [(none, kX74, [])] 0) (kQ74 σs) := bFin_mono (bFi_end (by decide) rfl) fun v σ' hh => ⟨hh.1, hh.2.1, hh.2.2.1 (by decide +kernel), kSm.tr (kSm.le hh.2.2.2 (by decide +kernel)) hsm⟩
    have hgo := bSeg_ok (Kp := kP) (σ := σ) (σ0 := σ) (ρ := kRi ρ i i) (E := kX74) (cl := cl) (cs := []) (Q := kQ74 σs) h bCn_ok k2 (fun B hB => absurd hB List.not_mem_nil) ⟨kEi hE ⟨by show (0 : Int) ≤ i; omega, by show (i : Int) ≤ 40; omega⟩ ⟨by show (0 : Int) ≤ i; omega, by show (i : Int) ≤ 40; omega⟩, ⟨fun q hq => ?_, fun q hq => absurd hq List.not_mem_nil⟩⟩ ⟨hok.1, hH hok h34 h9, fun q hq => absurd hq List.not_mem_nil, fun p k _ => ⟨rfl, rfl⟩, fun _ => hP⟩ hl trivial hend (fun B hB => absurd hB List.not_mem_nil)
    · rw [kM74.1, kM74.2] at hgo
      exact hgo
    · rw [List.mem_singleton] at hq
      subst hq
      refine ⟨(show 7 < 8 by decide), (show 6 < 8 by decide), ?_⟩
      show (i : Int) - (i : Int) ≤ 0
      omega
  | succ t ih =>
    intro i σ cl hit hok hP hsm h34 h9 hl
    have hEi : aEok L (kRi ρ i m) kG74 := kEi hE ⟨by show (0 : Int) ≤ i; omega, by show (i : Int) ≤ 39; omega⟩ ⟨by show (1 : Int) ≤ m; omega, by show (m : Int) ≤ 40; omega⟩
    have hgo := bSeg_ok (Kp := kP) (σ := σ) (σ0 := σ) (ρ := kRi ρ i m) (E := kG74) (cl := cl) (cs := []) (Q := kQ74 σs) h bCn_ok k1 (fun B hB => by rw [List.mem_singleton.mp hB]; rfl) ⟨hEi, ⟨fun q hq => ?_, fun q hq => absurd hq List.not_mem_nil⟩⟩ ⟨hok.1, hH hok h34 h9, fun q hq => absurd hq List.not_mem_nil, fun p k _ => ⟨rfl, rfl⟩, fun _ => hP⟩ hl trivial bNo_ok ?_
    · rw [kM74.1, kM74.2] at hgo
      exact hgo
    · rw [List.mem_singleton] at hq
      subst hq
      refine ⟨(show 6 < 8 by decide), (show 7 < 8 by decide), ?_⟩
      show (i : Int) - (m : Int) ≤ -1
      omega
    intro B hB ρ1 cl1 cs1 σ1 hA
    rw [List.mem_singleton] at hB
    subst hB
    obtain ⟨v1, r1, rfl, hv1, hs1⟩ := bSok_c (show bSok 8 ρ1 [.inl (false, 6, .ofNat (40 * w)), .inr [8]] cs1 from hA.2.2)
    obtain ⟨v2, r2, rfl, hv2, hs2⟩ := bSok_c hs1
    obtain ⟨x, rfl, hx⟩ := bVok_int hv1
    have := bVok_one hv2
    subst this
    have := bSok_n hs2
    subst this
    have e : ∀ v, v < 8 → ρ1 v = kRi ρ i m v := fun v hv => hA.ext v hv
    have hx : x.toInt = ρ1 6 + ((40 * w : Nat) : Int) := hx.2
    have e6 : ρ1 6 = (i : Int) := e 6 (by decide)
    have hall := kAll (show kSm 0 σ1 σ from hA.sm)
    have hok1 := hA.ok rfl
    have hP1 := hA.kp (show bFg 0 = true by decide +kernel)
    have sI : ∀ p j, kI σ1 p j = kI σ p j := fun p j => by
      unfold kI
      rw [(hall p j).1]
    obtain ⟨hin, hni⟩ := kNat (i := x) (n := 480) (by omega) (by omega)
    have hxn : x.toNatClampNeg = 40 * w + i := by omega
    unfold bWa
    rw [show (kB88 pr w).2.1 = 74 from rfl, kM74.1, kM74.2, show (kB88 pr w).2.2.1 = 88 from rfl]
    refine pmWp_ial (n := 480) (rs := []) rfl (by decide) (by rw [hok1.1]; rfl) hin ?_
    rw [hxn]
    have htok := kTl_mem (hP1.2.2 w hw i (by rw [sI, h9]; omega))
    have hgo := bSeg_ok (Kp := kP) (σ := σ1) (σ0 := σ1) (ρ := ρ1) (E := kG74) (cl := cl1) (cs := [.int (σ1.2.1 8 (40 * w + i))]) (Q := kQ74 σs) h bCn_ok (hb _ htok.2) (fun B hB => by rw [List.mem_singleton.mp hB]; rfl) (aXok0 hA.env) (kOk_mok hok1 hP1) hA.2.1 ⟨⟨(show 0 < 8 by decide), by
      show kI σ1 8 (40 * w + i) = ρ1 0 + (((kI σ1 8 (40 * w + i)).toNat : Nat) : Int)
      have h0 : ρ1 0 = 0 := hA.env.1.1
      have h1 := htok.1
      omega⟩, trivial⟩ bNo_ok ?_
    · rw [kM74.1, kM74.2] at hgo
      exact hgo
    intro B hB ρ2 cl2 cs2 σ2 hA2
    rw [List.mem_singleton] at hB
    subst hB
    have := bSok_n (show bSok 8 ρ2 [] cs2 from hA2.2.2)
    subst this
    have e2 : ∀ v, v < 8 → ρ2 v = ρ1 v := fun v hv => hA2.ext v hv
    have s2 : kSm kW74 σ2 σ1 := hA2.sm
    unfold bWa
    rw [show (kB54n pr).2.1 = 74 from rfl, kM74.1, kM74.2]
    refine ih (i + 1) σ2 cl2 (by omega) (hA2.ok rfl) (hA2.kp (show bFg kW74 = true by decide +kernel)) (kSm.tr s2 (kSm.tr (kSm.le (show kSm 0 σ1 σ from hA.sm) (by decide +kernel)) hsm)) ?_ ?_ ?_
    · have : kI σ2 34 11 = kI σ1 34 11 := by
        unfold kI
        rw [(s2 34 11 (by decide +kernel)).1]
      rw [this, sI, h34]
    · have : kI σ2 9 w = kI σ1 9 w := by
        unfold kI
        rw [(s2 9 w (by rw [bRg_sing (by decide +kernel) w 0]; decide +kernel)).1]
      rw [this, sI, h9]
    · refine kL74_re (f := (6, .ofNat 1)) (g := (6, .ofNat 0)) (show bLok 8 ρ2 (kL74 pr (.inl (false, 6, .ofNat 1))) cl2 from hA2.2.1) (by decide) (by decide) (fun v hv => ?_) ?_
      · rw [e2 v (by omega), e v (by omega), kRi_lo hv, kRi_lo hv]
      · show ρ2 6 + 1 = ((i + 1 : Nat) : Int) + 0
        rw [e2 6 (by decide), e6]
        omega
theorem kWeigh (h : bHyp ro L kP) {pr : Nat} (hpr : pr ∈ ([1000, 5] : List Nat)) (hb : ∀ t ∈ kTl, bSeg (bCc []) bNo [kB54n pr] (kA89 pr t) [] = true) (hec : bEc 74 [.inr [34], .inl (true, 2, .ofNat 0), .inr [pr]] (kP74 pr) = true) : bCok ro L kP (74, [.inr [34], .inl (true, 2, .ofNat 0), .inr [pr]], kE74, [], [(none, kE74, [])], kW74, 2) := by
  intro ρ vs σ hE hM hs
  have hM : bMok 3 ρ kP σ ([], [], 0) σ := hM
  have hk := List.all_eq_true.mp kS74a pr hpr
  rw [Bool.and_eq_true] at hk
  suffices hg : pmCs ro 2 74 vs σ (kQ74 σ) by
    refine pmCs_mono hg ?_
    rintro v σ' ⟨rfl, b2, b3, b4⟩
    exact ⟨_, List.mem_singleton.mpr rfl, ρ, aExt.rf, Nat.le_refl _, hE, trivial, b2.1, fun p k => b2.2 p k, fun q hq => absurd hq List.not_mem_nil, b4, fun _ => b3⟩
  refine bEc_ok (pl := kP74 pr) hec hs fun cl hl => ?_
  have hgo := bSeg_ok (Kp := kP) (σ := σ) (σ0 := σ) (ρ := ρ) (E := kE74) (cl := cl) (cs := []) (Q := kQ74 σ) h bCn_ok hk.1 (fun B hB => by rw [List.mem_singleton.mp hB]; rfl) (aXok0 hE) hM hl trivial bNo_ok ?_
  · exact hgo
  intro B hB ρ1 cl1 cs1 σ1 hA
  rw [List.mem_singleton] at hB
  subst hB
  have := bSok_n (show bSok 6 ρ1 [] cs1 from hA.2.2)
  subst this
  have hok1 := hA.ok rfl
  have hE1 : aEok L ρ1 kF74 := hA.env
  have h0 : ρ1 0 = 0 := hE1.1.1
  have h34 := hok1.2 34 11
  rw [show bGe 34 11 = [(0, 11)] by decide +kernel, kI_z (by decide +kernel)] at h34
  obtain ⟨j, hj, g1, g2⟩ := h34
  rw [List.mem_singleton] at hj
  subst hj
  have g1 : (0 : Int) ≤ kI σ1 34 11 := g1
  have g2 : kI σ1 34 11 ≤ (11 : Int) := g2
  obtain ⟨w, hw⟩ : ∃ w : Nat, kI σ1 34 11 = w := ⟨(kI σ1 34 11).toNat, by omega⟩
  have h9 := hok1.2 9 w
  rw [show bGe 9 w = [(0, 40)] from bGu_ok (by decide +kernel) w, kI_z rfl] at h9
  obtain ⟨j, hj, g3, g4⟩ := h9
  rw [List.mem_singleton] at hj
  subst hj
  have g3 : (0 : Int) ≤ kI σ1 9 w := g3
  have g4 : kI σ1 9 w ≤ (40 : Int) := g4
  obtain ⟨m, hm⟩ : ∃ m : Nat, kI σ1 9 w = m := ⟨(kI σ1 9 w).toNat, by omega⟩
  unfold bWa
  rw [show (kB54 pr).2.1 = 74 from rfl, kM74.1, kM74.2]
  refine kWeighL (σs := σ) h hpr hb hE1 (w := w) (m := m) (by omega) (by omega) m 0 σ1 cl1 (by omega) hok1 (hA.kp (show bFg 0 = true by decide +kernel)) (kSm.le (show kSm 0 σ1 σ from hA.sm) (by decide +kernel)) hw hm ?_
  refine kL74_re (f := (0, .ofNat 0)) (g := (6, .ofNat 0)) (show bLok 6 ρ1 (kL74 pr (.inl (false, 0, .ofNat 0))) cl1 from hA.2.1) (by decide) (by decide) (fun v hv => kRi_lo hv) ?_
  show ρ1 0 + 0 = ((0 : Nat) : Int) + 0
  rw [h0]
  rfl
theorem kWeigh1 (h : bHyp ro L kP) : bCok ro L kP bC74 := kWeigh h (by decide) (List.all_eq_true.mp kS74b) (by decide +kernel)
theorem kWeigh2 (h : bHyp ro L kP) : bCok ro L kP bC74a := kWeigh h (by decide) (List.all_eq_true.mp kS74c) (by decide +kernel)
end
