section
/-! by hand: weigh holds its contract -/
section
set_option maxRecDepth 100000
variable {ro : Nat → Nat × (Nat → Int32)} {L : aLa} {σ σs σ' : pmS} {ρ ρ' : Nat → Int} {cl : pmL} {n n2 : Nat}
def kQ74 (σs : pmS) : Option Value → pmS → Prop := fun v σ' => v = none ∧ kOk σ' ∧ kP σ' ∧ kSm kW74 σ' σs
theorem kL74_re {pr : Nat} {f g : aF} (h : bLok n ρ (kL74 pr (.inl (false, f))) cl) (hn : 6 ≤ n2) (hg : g.1 < n2) (he : ∀ v, v < 6 → ρ' v = ρ v) (h6 : ρ f.1 + f.2 = ρ' g.1 + g.2) : bLok n2 ρ' (kL74 pr (.inl (false, g))) cl := by
  refine bLok_re h rfl fun i b hb => ?_
  match i, hb with
  | 0, hb => cases hb; exact ⟨_, rfl, fun v hv => by rw [bVok_one hv]; exact List.mem_singleton.mpr rfl⟩
  | 1, hb => cases hb; exact ⟨_, rfl, bVol_re (by show 2 < n2; omega) (by show ρ 2 + 0 = ρ' 2 + 0; rw [he 2 (by decide)])⟩
  | 2, hb => cases hb
  | 3, hb => cases hb; exact ⟨_, rfl, fun v hv => by rw [bVok_one hv]; exact List.mem_singleton.mpr rfl⟩
  | 4, hb => cases hb; exact ⟨_, rfl, bVok_re (by show 3 < n2; omega) (by show ρ 3 + 0 = ρ' 3 + 0; rw [he 3 (by decide)])⟩
  | 5, hb => cases hb; exact ⟨_, rfl, bVok_re (by show 4 < n2; omega) (by show ρ 4 + 0 = ρ' 4 + 0; rw [he 4 (by decide)])⟩
  | 6, hb => cases hb; exact ⟨_, rfl, bVok_re (by show 5 < n2; omega) (by show ρ 5 + 0 = ρ' 5 + 0; rw [he 5 (by decide)])⟩
  | 7, hb => cases hb; exact ⟨_, rfl, bVok_re hg h6⟩
  | 8, hb => cases hb
  | 9, hb => cases hb
  | 10, hb => cases hb
  | 11, hb => cases hb
  | 12, hb => cases hb
  | 13, hb => cases hb
  | 14, hb => cases hb
  | 15, hb => cases hb
  | 16, hb => cases hb
  | 17, hb => cases hb
  | i + 18, hb => cases hb
def kRi (ρ : Nat → Int) (i m : Int) : Nat → Int := fun v => if v = 6 then i else if v = 7 then m else ρ v
theorem kRi_lo {i m : Int} {v : Nat} (h : v < 6) : kRi ρ i m v = ρ v := by
  unfold kRi
  rw [if_neg (by omega), if_neg (by omega)]
theorem kEi {lo6 hi6 lo7 hi7 i m : Int} (hE : aEok L ρ kF74) (h1 : lo6 ≤ i ∧ i ≤ hi6) (h2 : lo7 ≤ m ∧ m ≤ hi7) : aEok L (kRi ρ i m) [(.ofNat 0, .ofNat 0), (.ofNat 0, .ofNat 3072), (.negSucc 9223372036854775807, .ofNat 9223372036854775807), (.ofNat 0, .ofNat 6), kT32, kT32, (lo6, hi6), (lo7, hi7)] := by
  refine ⟨⟨hE.1.1, hE.1.2.1, (by decide : 1 < 8)⟩, fun v j hj => ?_⟩
  match v, hj with
  | 0, hj => cases hj; exact hE.2 0 _ rfl
  | 1, hj => cases hj; exact hE.2 1 _ rfl
  | 2, hj => cases hj; exact hE.2 2 _ rfl
  | 3, hj => cases hj; exact hE.2 3 _ rfl
  | 4, hj => cases hj; exact hE.2 4 _ rfl
  | 5, hj => cases hj; exact hE.2 5 _ rfl
  | 6, hj => cases hj; exact h1
  | 7, hj => cases hj; exact h2
  | v + 8, hj => cases hj
theorem kWeighL (h : bHyp ro L kP) {pr : Nat} (hpr : pr ∈ ([1000, 5] : List Nat)) (hb : ∀ t ∈ kTl, bSeg (bCc []) bNo [kB54n pr] (kA89 pr t) [] = true) (hE : aEok L ρ kF74) {w m : Nat} (hw : w < 12) (hm : m ≤ 40) : ∀ (t i : Nat) (σ : pmS) (cl : pmL), i + t = m → kOk σ → kP σ → kSm kW74 σ σs → kI σ 34 11 = w → kI σ 9 w = m → bLok 8 (kRi ρ i m) (kL74 pr kI60) cl → pmWp ro 1 3 74 0 54 cl [] σ (kQ74 σs) := by
  have hk := List.all_eq_true.mp kS74a pr hpr
  rw [Bool.and_eq_true] at hk
  have hk2 := List.all_eq_true.mp hk.2 w (List.mem_range.mpr hw)
  rw [Bool.and_eq_true] at hk2
  obtain ⟨k1, k2⟩ := hk2
  have hH : ∀ {σ : pmS} {i : Nat}, kOk σ → kI σ 34 11 = w → kI σ 9 w = m → bHok 8 (kRi ρ i m) [(34, [(11, .inl (0, .ofNat w))]), (9, [(w, .inl (7, .ofNat 0))])] (bZ σ) := by
    intro σ i hok h1 h2
    refine bHok_c (bHok_c (kOk_hok hok) rfl (show 7 < 8 by decide) ?_) rfl (show 0 < 8 by decide) ?_
    · rw [kI_z rfl, h2]
      exact (Int.add_zero _).symm
    · rw [kI_z (by decide +kernel), h1]
      show (w : Int) = kRi ρ i m 0 + (w : Int)
      rw [kRi_lo (by decide), hE.1.1, Int.zero_add]
  intro t
  induction t with
  | zero =>
    intro i σ cl hit hok hP hsm h34 h9 hl
    have him : i = m := by omega
    subst him
    have hend : bFinOk L 8 (kRi ρ i i) kP σ (bFi 8 [(none, kX74, [])] 0) (kQ74 σs) := bFin_mono (bFi_end (by decide) rfl) fun v σ' hh => ⟨hh.1, hh.2.1, hh.2.2.1 (by decide +kernel), kSm.tr (kSm.le hh.2.2.2 (by decide +kernel)) hsm⟩
    have hgo := bSeg_ok (Kp := kP) (σ := σ) (σ0 := σ) (ρ := kRi ρ i i) (E := kX74) (cl := cl) (cs := []) (Q := kQ74 σs) h bCn_ok k2 (fun B hB => absurd hB List.not_mem_nil) ⟨kEi hE ⟨by show (0 : Int) ≤ i; omega, by show (i : Int) ≤ 40; omega⟩ ⟨by show (0 : Int) ≤ i; omega, by show (i : Int) ≤ 40; omega⟩, ⟨fun q hq => ?_, fun q hq => absurd hq List.not_mem_nil⟩⟩ ⟨hok.1, hH hok h34 h9, fun q hq => absurd hq List.not_mem_nil, fun p k _ => ⟨rfl, rfl⟩, fun _ => hP⟩ hl trivial hend (fun B hB => absurd hB List.not_mem_nil)
    · rw [kM74.1, kM74.2] at hgo
      exact hgo
    · rw [List.mem_singleton] at hq
      subst hq
      refine ⟨(show 7 < 8 by decide), (show 6 < 8 by decide), ?_⟩
      show (i : Int) - (i : Int) ≤ 0
      omega
  | succ t ih =>
    intro i σ cl hit hok hP hsm h34 h9 hl
    have hEi : aEok L (kRi ρ i m) kG74 := kEi hE ⟨by show (0 : Int) ≤ i; omega, by show (i : Int) ≤ 39; omega⟩ ⟨by show (1 : Int) ≤ m; omega, by show (m : Int) ≤ 40; omega⟩
    have hgo := bSeg_ok (Kp := kP) (σ := σ) (σ0 := σ) (ρ := kRi ρ i m) (E := kG74) (cl := cl) (cs := []) (Q := kQ74 σs) h bCn_ok k1 (fun B hB => by rw [List.mem_singleton.mp hB]; rfl) ⟨hEi, ⟨fun q hq => ?_, fun q hq => absurd hq List.not_mem_nil⟩⟩ ⟨hok.1, hH hok h34 h9, fun q hq => absurd hq List.not_mem_nil, fun p k _ => ⟨rfl, rfl⟩, fun _ => hP⟩ hl trivial bNo_ok ?_
    · rw [kM74.1, kM74.2] at hgo
      exact hgo
    · rw [List.mem_singleton] at hq
      subst hq
      refine ⟨(show 6 < 8 by decide), (show 7 < 8 by decide), ?_⟩
      show (i : Int) - (m : Int) ≤ -1
      omega
    intro B hB ρ1 cl1 cs1 σ1 hA
    rw [List.mem_singleton] at hB
    subst hB
    obtain ⟨v1, r1, rfl, hv1, hs1⟩ := bSok_c (show bSok 8 ρ1 [.inl (false, 6, .ofNat (40 * w)), .inr [8]] cs1 from hA.2.2)
    obtain ⟨v2, r2, rfl, hv2, hs2⟩ := bSok_c hs1
    obtain ⟨x, rfl, hx⟩ := bVok_int hv1
    have := bVok_one hv2
    subst this
    have := bSok_n hs2
    subst this
    have e : ∀ v, v < 8 → ρ1 v = kRi ρ i m v := fun v hv => hA.ext v hv
    have hx : x.toInt = ρ1 6 + ((40 * w : Nat) : Int) := hx.2
    have e6 : ρ1 6 = (i : Int) := e 6 (by decide)
    have hall := kAll (show kSm 0 σ1 σ from hA.sm)
    have hok1 := hA.ok rfl
    have hP1 := hA.kp (show bFg 0 = true by decide +kernel)
    have sI : ∀ p j, kI σ1 p j = kI σ p j := fun p j => by
      unfold kI
      rw [(hall p j).1]
    obtain ⟨hin, hni⟩ := kNat (i := x) (n := 480) (by omega) (by omega)
    have hxn : x.toNatClampNeg = 40 * w + i := by omega
    unfold bWa
    rw [show (kB88 pr w).2.1 = 74 from rfl, kM74.1, kM74.2, show (kB88 pr w).2.2.1 = 88 from rfl]
    refine pmWp_ial (n := 480) (rs := []) rfl (by decide) (by rw [hok1.1]; rfl) hin ?_
    rw [hxn]
    have htok := kTl_mem (hP1.2.2 w hw i (by rw [sI, h9]; omega))
    have hgo := bSeg_ok (Kp := kP) (σ := σ1) (σ0 := σ1) (ρ := ρ1) (E := kG74) (cl := cl1) (cs := [.int (σ1.2.1 8 (40 * w + i))]) (Q := kQ74 σs) h bCn_ok (hb _ htok.2) (fun B hB => by rw [List.mem_singleton.mp hB]; rfl) (aXok0 hA.env) (kOk_mok hok1 hP1) hA.2.1 ⟨⟨(show 0 < 8 by decide), by
      show kI σ1 8 (40 * w + i) = ρ1 0 + (((kI σ1 8 (40 * w + i)).toNat : Nat) : Int)
      have h0 : ρ1 0 = 0 := hA.env.1.1
      have h1 := htok.1
      omega⟩, trivial⟩ bNo_ok ?_
    · rw [kM74.1, kM74.2] at hgo
      exact hgo
    intro B hB ρ2 cl2 cs2 σ2 hA2
    rw [List.mem_singleton] at hB
    subst hB
    have := bSok_n (show bSok 8 ρ2 [] cs2 from hA2.2.2)
    subst this
    have e2 : ∀ v, v < 8 → ρ2 v = ρ1 v := fun v hv => hA2.ext v hv
    have s2 : kSm kW74 σ2 σ1 := hA2.sm
    unfold bWa
    rw [show (kB54n pr).2.1 = 74 from rfl, kM74.1, kM74.2]
    refine ih (i + 1) σ2 cl2 (by omega) (hA2.ok rfl) (hA2.kp (show bFg kW74 = true by decide +kernel)) (kSm.tr s2 (kSm.tr (kSm.le (show kSm 0 σ1 σ from hA.sm) (by decide +kernel)) hsm)) ?_ ?_ ?_
    · have : kI σ2 34 11 = kI σ1 34 11 := by
        unfold kI
        rw [(s2 34 11 (by decide +kernel)).1]
      rw [this, sI, h34]
    · have : kI σ2 9 w = kI σ1 9 w := by
        unfold kI
        rw [(s2 9 w (by rw [bRg_sing (by decide +kernel) w 0]; decide +kernel)).1]
      rw [this, sI, h9]
    · refine kL74_re (f := (6, .ofNat 1)) (g := (6, .ofNat 0)) (show bLok 8 ρ2 (kL74 pr (.inl (false, 6, .ofNat 1))) cl2 from hA2.2.1) (by decide) (by decide) (fun v hv => ?_) ?_
      · rw [e2 v (by omega), e v (by omega), kRi_lo hv, kRi_lo hv]
      · show ρ2 6 + 1 = ((i + 1 : Nat) : Int) + 0
        rw [e2 6 (by decide), e6]
        omega
theorem kWeigh (h : bHyp ro L kP) {pr : Nat} (hpr : pr ∈ ([1000, 5] : List Nat)) (hb : ∀ t ∈ kTl, bSeg (bCc []) bNo [kB54n pr] (kA89 pr t) [] = true) (hec : bEc 74 [.inr [34], .inl (true, 2, .ofNat 0), .inr [pr]] (kP74 pr) = true) : bCok ro L kP (74, [.inr [34], .inl (true, 2, .ofNat 0), .inr [pr]], kE74, [], [(none, kE74, [])], kW74, 2) := by
  intro ρ vs σ hE hM hs
  have hM : bMok 3 ρ kP σ ([], [], 0) σ := hM
  have hk := List.all_eq_true.mp kS74a pr hpr
  rw [Bool.and_eq_true] at hk
  suffices hg : pmCs ro 2 74 vs σ (kQ74 σ) by
    refine pmCs_mono hg ?_
    rintro v σ' ⟨rfl, b2, b3, b4⟩
    exact ⟨_, List.mem_singleton.mpr rfl, ρ, aExt.rf, Nat.le_refl _, hE, trivial, b2.1, fun p k => b2.2 p k, fun q hq => absurd hq List.not_mem_nil, b4, fun _ => b3⟩
  refine bEc_ok (pl := kP74 pr) hec hs fun cl hl => ?_
  have hgo := bSeg_ok (Kp := kP) (σ := σ) (σ0 := σ) (ρ := ρ) (E := kE74) (cl := cl) (cs := []) (Q := kQ74 σ) h bCn_ok hk.1 (fun B hB => by rw [List.mem_singleton.mp hB]; rfl) (aXok0 hE) hM hl trivial bNo_ok ?_
  · exact hgo
  intro B hB ρ1 cl1 cs1 σ1 hA
  rw [List.mem_singleton] at hB
  subst hB
  have := bSok_n (show bSok 6 ρ1 [] cs1 from hA.2.2)
  subst this
  have hok1 := hA.ok rfl
  have hE1 : aEok L ρ1 kF74 := hA.env
  have h0 : ρ1 0 = 0 := hE1.1.1
  have h34 := hok1.2 34 11
  rw [show bGe 34 11 = [(0, 11)] by decide +kernel, kI_z (by decide +kernel)] at h34
  obtain ⟨j, hj, g1, g2⟩ := h34
  rw [List.mem_singleton] at hj
  subst hj
  have g1 : (0 : Int) ≤ kI σ1 34 11 := g1
  have g2 : kI σ1 34 11 ≤ (11 : Int) := g2
  obtain ⟨w, hw⟩ : ∃ w : Nat, kI σ1 34 11 = w := ⟨(kI σ1 34 11).toNat, by omega⟩
  have h9 := hok1.2 9 w
  rw [show bGe 9 w = [(0, 40)] from bGu_ok (by decide +kernel) w, kI_z rfl] at h9
  obtain ⟨j, hj, g3, g4⟩ := h9
  rw [List.mem_singleton] at hj
  subst hj
  have g3 : (0 : Int) ≤ kI σ1 9 w := g3
  have g4 : kI σ1 9 w ≤ (40 : Int) := g4
  obtain ⟨m, hm⟩ : ∃ m : Nat, kI σ1 9 w = m := ⟨(kI σ1 9 w).toNat, by omega⟩
  unfold bWa
  rw [show (kB54 pr).2.1 = 74 from rfl, kM74.1, kM74.2]
  refine kWeighL (σs := σ) h hpr hb hE1 (w := w) (m := m) (by omega) (by omega) m 0 σ1 cl1 (by omega) hok1 (hA.kp (show bFg 0 = true by decide +kernel)) (kSm.le (show kSm 0 σ1 σ from hA.sm) (by decide +kernel)) hw hm ?_
  refine kL74_re (f := (0, .ofNat 0)) (g := (6, .ofNat 0)) (show bLok 6 ρ1 (kL74 pr (.inl (false, 0, .ofNat 0))) cl1 from hA.2.1) (by decide) (by decide) (fun v hv => kRi_lo hv) ?_
  show ρ1 0 + 0 = ((0 : Nat) : Int) + 0
  rw [h0]
  rfl
theorem kWeigh1 (h : bHyp ro L kP) : bCok ro L kP bC74 := kWeigh h (by decide) (List.all_eq_true.mp kS74b) (by decide +kernel)
theorem kWeigh2 (h : bHyp ro L kP) : bCok ro L kP bC74a := kWeigh h (by decide) (List.all_eq_true.mp kS74c) (by decide +kernel)
end
end
section
/-! by hand: measure -/
section
set_option maxRecDepth 100000
variable {ro : Nat → Nat × (Nat → Int32)} {L : aLa} {Kp : pmS → Prop} {σ0 σ σ' σs : pmS} {ρ ρ' : Nat → Int} {cl : pmL} {cs vs : List Value} {Q : Option Value → pmS → Prop} {n n2 d o m rt pc : Nat} {pl : pmL} {st : List Value}
theorem pmWp_ll {j : Fin 4} {x : Int64} (hi : pmCode m pc = some (.lload_n j)) (hl : pl[j.val]? = some (some (.long x))) (hw : pmWp ro d o m rt (pc + 1) pl (.long x :: st) σ Q) : pmWp ro d o m rt pc pl st σ Q := by
  refine pmWp_1 hi ?_ hw
  simp only [pmStep, hl]
  rfl
theorem pmWp_il {j : Nat} {x : Int32} (hi : pmCode m pc = some (.iload j)) (hl : pl[j]? = some (some (.int x))) (hw : pmWp ro d o m rt (pc + 2) pl (.int x :: st) σ Q) : pmWp ro d o m rt pc pl st σ Q := by
  refine pmWp_1 hi ?_ hw
  simp only [pmStep, hl]
  rfl
def kW73 : Nat := 623075623024179315423659559506411520
def kWh : Nat := 498460498419343452338927647605129216
/-- a person's digit of a view -/
def kDg (v : Int64) (q : Int32) : Int32 := (v.toUInt64 >>> ((Int32.ofInt 4 * q).toInt64.toUInt64 &&& Int64.toUInt64 63)).toInt64.toInt32 &&& (Int8.ofInt 15).toInt32
theorem kDg_le (v : Int64) (q : Int32) : 0 ≤ (kDg v q).toInt ∧ (kDg v q).toInt ≤ 15 := aAnd32 _ (Int8.ofInt 15).toInt32 (by decide)
def kE3 : aE := [(.ofNat 0, .ofNat 0), (.ofNat 0, .ofNat 3072), (.negSucc 9223372036854775807, .ofNat 9223372036854775807), (.ofNat 0, .ofNat 6)]
def kE4 (lo hi : Int) : aE := [(.ofNat 0, .ofNat 0), (.ofNat 0, .ofNat 3072), (.negSucc 9223372036854775807, .ofNat 9223372036854775807), (.ofNat 0, .ofNat 6), (lo, hi)]
def kE5 (lo hi : Int) : aE := [(.ofNat 0, .ofNat 0), (.ofNat 0, .ofNat 3072), (.negSucc 9223372036854775807, .ofNat 9223372036854775807), (.ofNat 0, .ofNat 6), (.ofNat 0, .ofNat 3), (lo, hi)]
def kE6 : aE := [(.ofNat 0, .ofNat 0), (.ofNat 0, .ofNat 3072), (.negSucc 9223372036854775807, .ofNat 9223372036854775807), (.ofNat 0, .ofNat 6), (.ofNat 0, .ofNat 3), (.ofNat 1, .ofNat 7), (.ofNat 0, .ofNat 99999)]
def kD5 (lo hi : Int) : aE := [(.ofNat 0, .ofNat 0), (.ofNat 0, .ofNat 3072), (.negSucc 9223372036854775807, .ofNat 9223372036854775807), (.ofNat 0, .ofNat 6), kT32, (lo, hi)]
def kD6 (a b : aI) : aE := [(.ofNat 0, .ofNat 0), (.ofNat 0, .ofNat 3072), (.negSucc 9223372036854775807, .ofNat 9223372036854775807), (.ofNat 0, .ofNat 6), kT32, a, b]
def kD7 (b : aI) : aE := [(.ofNat 0, .ofNat 0), (.ofNat 0, .ofNat 3072), (.negSucc 9223372036854775807, .ofNat 9223372036854775807), (.ofNat 0, .ofNat 6), kT32, (.ofNat 0, .ofNat 4), (.ofNat 9, .ofNat 12), b]
def kD8 (b : aI) : aE := [(.ofNat 0, .ofNat 0), (.ofNat 0, .ofNat 3072), (.negSucc 9223372036854775807, .ofNat 9223372036854775807), (.ofNat 0, .ofNat 6), kT32, (.ofNat 0, .ofNat 4), (.ofNat 9, .ofNat 12), b, kT32]
def kP73 (pr : Nat) : bL := [some (.inr [34]), some (.inl (true, 2, .ofNat 0)), none, some (.inr [pr]), none, none, none, none]
def kL1 (pr : Nat) (q : aF) : bL := [some (.inr [34]), some (.inl (true, 2, .ofNat 0)), none, some (.inr [pr]), some (.inl (false, 3, .ofNat 0)), some (.inl (false, q)), none, none]
def kL2 (pr : Nat) (a x : aF) : bL := [some (.inr [34]), some (.inl (true, 2, .ofNat 0)), none, some (.inr [pr]), some (.inl (false, 3, .ofNat 0)), some (.inl (false, a)), some (.inl (false, x)), none]
def kL3 (pr : Nat) (a x p : aF) : bL := [some (.inr [34]), some (.inl (true, 2, .ofNat 0)), none, some (.inr [pr]), some (.inl (false, 3, .ofNat 0)), some (.inl (false, a)), some (.inl (false, x)), some (.inl (false, p))]
def kv4 : aF := (4, .ofNat 0)
def kv5 : aF := (5, .ofNat 0)
def kv6 : aF := (6, .ofNat 0)
def kB28 (pr : Nat) : bNq := bPc 1 73 28 (kL1 pr (0, .ofNat 0)) [] kE3 [] [] 0
def kA28 (pr : Nat) (lo hi : Int) : bNq := bPc 1 73 28 (kL1 pr kv4) [] (kE4 lo hi) [] [] 0
def kB34m (pr : Nat) : bNq := bPc 1 73 34 (kL1 pr kv4) [] (kE4 (.ofNat 0) (.ofNat 3)) [] [] 0
def kB105a (pr : Nat) : bNq := bPc 1 73 105 (kL2 pr (0, .ofNat 100000) (0, .ofNat 0)) [] (kE4 (.ofNat 4) (.ofNat 4)) [] [] 0
def kA44 (pr c : Nat) : bNq := bPc 1 73 44 (kL1 pr kv4) [.inl (false, kv5)] (kE5 (.ofNat 0) (.ofNat 15)) [] [(5, [(1, .inl (0, .ofNat c))])] 0
def kB91a (pr : Nat) : bNq := bPc 1 73 91 (kL1 pr kv4) [.inl (false, kv6), .inl (false, kv4), .inr [39]] kE6 [] [] 0
def kB91b (pr : Nat) : bNq := bPc 1 73 91 (kL1 pr kv4) [.inl (false, 0, .ofNat 100000), .inl (false, kv4), .inr [39]] (kE5 (.ofNat 0) (.ofNat 15)) [] [] 0
def kA92 (pr : Nat) : bNq := bPc 1 73 92 (kL1 pr kv4) [] (kE4 (.ofNat 0) (.ofNat 3)) [] [] 0
def kB28n (pr : Nat) : bNq := bPc 1 73 28 (kL1 pr (4, .ofNat 1)) [] (kE4 (.ofNat 0) (.ofNat 3)) [] [] 0
def kA105 (pr : Nat) (lo hi : Int) : bNq := bPc 1 73 105 (kL2 pr kv4 kv5) [] (kD5 lo hi) [] [] 0
def kB190 (pr : Nat) : bNq := bPc 1 73 190 (kL3 pr kv4 kv5 kv6) [.inl (false, 6, .negSucc 8), .inr [39]] (kD6 (.ofNat 0, .ofNat 4) (.ofNat 9, .ofNat 12)) [] [] kWh
def kB105b (pr : Nat) : bNq := bPc 1 73 105 (kL2 pr kv6 (5, .ofNat 1)) [] (kD6 (.ofNat 0, .ofNat 4) kT32) [] [] kWh
def kA191 (pr : Nat) (lo hi : Int) : bNq := bPc 1 73 191 (kL3 pr kv4 kv5 kv6) [.inl (false, 7, .ofNat 0)] (kD7 (lo, hi)) [] [] 0
def kB203 (pr : Nat) : bNq := bPc 1 73 203 (kL3 pr kv4 kv5 kv6) [.inl (false, 0, .ofNat 0), .inl (false, kv5), .inr [42]] (kD7 (.ofNat 0, .ofNat 99999)) [] [] 0
def kB105c (pr : Nat) (b : aI) : bNq := bPc 1 73 105 (kL2 pr (8, .ofNat 0) (5, .ofNat 1)) [] (kD8 b) [] [] kWh
def kA216 (pr : Nat) : bNq := bPc 1 73 216 (kL3 pr kv4 kv5 kv6) [.inl (false, 7, .ofNat 0), .inl (false, 0, .ofNat 0), .inl (false, kv5), .inr [42]] (kD7 (.ofNat 1, .ofNat 7)) [] [] 0
noncomputable def kSg (Bs : List bNq) (A : bNq) : Bool := bSeg (bCc []) bNo Bs A []
theorem kS73 : (([1000, 5] : List Nat).all fun pr => kSg [kB28 pr] (bPc 1 73 0 (kP73 pr) [] kE74 [] [] 0) && (kSg [kB34m pr] (kA28 pr (.ofNat 0) (.ofNat 3)) && (kSg [kB105a pr] (kA28 pr (.ofNat 4) (.ofNat 4)) && (((List.range 65).all fun c => kSg [kB91a pr, kB91b pr] (kA44 pr (c + 9))) && (kSg [kB28n pr] (kA92 pr) && (kSg [kB190 pr, kB105b pr] (kA105 pr (.ofNat 0) (.ofNat 4)) && (kSg [kB203 pr] (kA191 pr (.ofNat 0) (.ofNat 99999)) && (kSg [kB105c pr (.ofNat 100000, .ofNat 100000)] (kA191 pr (.ofNat 100000) (.ofNat 100000)) && (kSg [kB105c pr (.ofNat 1, .ofNat 7)] (kA216 pr) && bSeg (bCc []) (bFi 6 [(none, kD5 (.ofNat 5) (.ofNat 5), [])] kW73) [] (kA105 pr (.ofNat 5) (.ofNat 5)) []))))))))) = true := by decide +kernel
theorem kM73 : (bMk bSp 73).1 = 3 ∧ (bMk bSp 73).2.2.1 = 0 := by decide +kernel
end
end
section
/-! by hand: measure holds its contract -/
section
set_option maxRecDepth 100000
variable {ro : Nat → Nat × (Nat → Int32)} {L : aLa} {Kp : pmS → Prop} {σ0 σ σ' σs : pmS} {ρ ρ' : Nat → Int} {cl : pmL} {cs vs : List Value} {Q : Option Value → pmS → Prop} {n n2 d o m rt pc : Nat} {pl : pmL} {st : List Value}
def kQ73 (σs : pmS) : Option Value → pmS → Prop := fun v σ' => v = none ∧ kOk σ' ∧ kP σ' ∧ kSm kW73 σ' σs
def kPm (σ : pmS) (view : Int64) (n : Int) : Prop := ∀ q : Int32, 0 ≤ q.toInt → q.toInt < n → kI σ 39 q.toNatClampNeg < 100000 → 1 ≤ (kDg view q).toInt ∧ (kDg view q).toInt ≤ 7
def kLg (pr : Nat) (a b c : Option bV) : bL := [some (.inr [34]), some (.inl (true, 2, .ofNat 0)), none, some (.inr [pr]), some (.inl (false, 3, .ofNat 0)), a, b, c]
def kRe (n : Nat) (ρ : Nat → Int) (n2 : Nat) (ρ' : Nat → Int) (a b : Option bV) : Prop := ∀ y, b = some y → ∃ x, a = some x ∧ ∀ v, bVok n ρ x v → bVok n2 ρ' y v
theorem kRe_n {a : Option bV} : kRe n ρ n2 ρ' a none := fun y h => by cases h
theorem kRe_i {f g : aF} (hg : g.1 < n2) (he : ρ f.1 + f.2 = ρ' g.1 + g.2) : kRe n ρ n2 ρ' (some (.inl (false, f))) (some (.inl (false, g))) := fun y h => by
  cases h
  exact ⟨_, rfl, bVok_re hg he⟩
theorem kLg_re {pr : Nat} {a b c a' b' c' : Option bV} (h : bLok n ρ (kLg pr a b c) cl) (hn : 4 ≤ n2) (he : ∀ v, v < 4 → ρ' v = ρ v) (h5 : kRe n ρ n2 ρ' a a') (h6 : kRe n ρ n2 ρ' b b') (h7 : kRe n ρ n2 ρ' c c') : bLok n2 ρ' (kLg pr a' b' c') cl := by
  refine bLok_re h rfl fun i y hy => ?_
  match i, hy with
  | 0, hy => cases hy; exact ⟨_, rfl, fun v hv => by rw [bVok_one hv]; exact List.mem_singleton.mpr rfl⟩
  | 1, hy => cases hy; exact ⟨_, rfl, bVol_re (by show 2 < n2; omega) (by show ρ 2 + 0 = ρ' 2 + 0; rw [he 2 (by decide)])⟩
  | 2, hy => cases hy
  | 3, hy => cases hy; exact ⟨_, rfl, fun v hv => by rw [bVok_one hv]; exact List.mem_singleton.mpr rfl⟩
  | 4, hy => cases hy; exact ⟨_, rfl, bVok_re (by show 3 < n2; omega) (by show ρ 3 + 0 = ρ' 3 + 0; rw [he 3 (by decide)])⟩
  | 5, hy =>
    obtain ⟨x, h1, h2⟩ := h5 y (Option.some.inj hy)
    exact ⟨x, by rw [h1]; rfl, h2⟩
  | 6, hy =>
    obtain ⟨x, h1, h2⟩ := h6 y (Option.some.inj hy)
    exact ⟨x, by rw [h1]; rfl, h2⟩
  | 7, hy =>
    obtain ⟨x, h1, h2⟩ := h7 y (Option.some.inj hy)
    exact ⟨x, by rw [h1]; rfl, h2⟩
  | i + 8, hy => cases hy
theorem kView {pr : Nat} {a b c : Option bV} {view : Int64} (h : bLok n ρ (kLg pr a b c) cl) (hv : view.toInt = ρ 2) : cl[1]? = some (some (.long view)) := by
  obtain ⟨v, h1, h2⟩ := h.2 1 _ rfl
  obtain ⟨x, rfl, hx⟩ := bVok_long h2
  have hx : x.toInt = ρ 2 + 0 := hx.2
  have : x = view := Int64.toInt_inj.mp (by omega)
  rw [h1, this]
def kR4 (ρ : Nat → Int) (q : Int) : Nat → Int := fun v => if v = 4 then q else ρ v
def kR5 (ρ : Nat → Int) (a x : Int) : Nat → Int := fun v => if v = 4 then a else if v = 5 then x else ρ v
theorem kR4_lo {q : Int} {v : Nat} (h : v < 4) : kR4 ρ q v = ρ v := if_neg (by omega)
theorem kR5_lo {a x : Int} {v : Nat} (h : v < 4) : kR5 ρ a x v = ρ v := by
  unfold kR5
  rw [if_neg (by omega), if_neg (by omega)]
theorem kE4_ok {lo hi q : Int} (hE : aEok L ρ kE3) (h : lo ≤ q ∧ q ≤ hi) : aEok L (kR4 ρ q) (kE4 lo hi) := by
  refine ⟨⟨hE.1.1, hE.1.2.1, (by decide : 1 < 5)⟩, fun v j hj => ?_⟩
  match v, hj with
  | 0, hj => cases hj; exact hE.2 0 _ rfl
  | 1, hj => cases hj; exact hE.2 1 _ rfl
  | 2, hj => cases hj; exact hE.2 2 _ rfl
  | 3, hj => cases hj; exact hE.2 3 _ rfl
  | 4, hj => cases hj; exact h
  | v + 5, hj => cases hj
theorem kD5_ok {lo hi a x : Int} (hE : aEok L ρ kE3) (ha : -2147483648 ≤ a ∧ a ≤ 2147483647) (h : lo ≤ x ∧ x ≤ hi) : aEok L (kR5 ρ a x) (kD5 lo hi) := by
  refine ⟨⟨hE.1.1, hE.1.2.1, (by decide : 1 < 6)⟩, fun v j hj => ?_⟩
  match v, hj with
  | 0, hj => cases hj; exact hE.2 0 _ rfl
  | 1, hj => cases hj; exact hE.2 1 _ rfl
  | 2, hj => cases hj; exact hE.2 2 _ rfl
  | 3, hj => cases hj; exact hE.2 3 _ rfl
  | 4, hj => cases hj; exact ha
  | 5, hj => cases hj; exact h
  | v + 6, hj => cases hj
theorem kPm_sm {W : Nat} {view : Int64} {n : Int} (h : kPm σ view n) (hs : kSm W σ' σ) (hW : W.testBit (bRg 39 0) = false) : kPm σ' view n := fun q h0 h1 h2 => by
  refine h q h0 h1 ?_
  have e : kI σ' 39 q.toNatClampNeg = kI σ 39 q.toNatClampNeg := by
    unfold kI
    rw [(hs 39 _ (by rw [bRg_sing (by decide +kernel) _ 0]; exact hW)).1]
  rw [← e]
  exact h2
theorem kS73_at {pr : Nat} (hpr : pr ∈ ([1000, 5] : List Nat)) : kSg [kB28 pr] (bPc 1 73 0 (kP73 pr) [] kE74 [] [] 0) = true ∧ kSg [kB34m pr] (kA28 pr (.ofNat 0) (.ofNat 3)) = true ∧ kSg [kB105a pr] (kA28 pr (.ofNat 4) (.ofNat 4)) = true ∧ (∀ c, 9 ≤ c → c ≤ 73 → kSg [kB91a pr, kB91b pr] (kA44 pr c) = true) ∧ kSg [kB28n pr] (kA92 pr) = true ∧ kSg [kB190 pr, kB105b pr] (kA105 pr (.ofNat 0) (.ofNat 4)) = true ∧ kSg [kB203 pr] (kA191 pr (.ofNat 0) (.ofNat 99999)) = true ∧ kSg [kB105c pr (.ofNat 100000, .ofNat 100000)] (kA191 pr (.ofNat 100000) (.ofNat 100000)) = true ∧ kSg [kB105c pr (.ofNat 1, .ofNat 7)] (kA216 pr) = true ∧ bSeg (bCc []) (bFi 6 [(none, kD5 (.ofNat 5) (.ofNat 5), [])] kW73) [] (kA105 pr (.ofNat 5) (.ofNat 5)) [] = true := by
  have hk := List.all_eq_true.mp kS73 pr hpr
  simp only [Bool.and_eq_true] at hk
  obtain ⟨k1, k2, k3, k4, k5, k6, k7, k8, k9, k10⟩ := hk
  refine ⟨k1, k2, k3, fun c h1 h2 => ?_, k5, k6, k7, k8, k9, k10⟩
  have := List.all_eq_true.mp k4 (c - 9) (List.mem_range.mpr (by omega))
  rwa [show c - 9 + 9 = c by omega] at this
/-- the second loop, and what comes behind it -/
theorem kLoop2 (h : bHyp ro L kP) {pr : Nat} (hpr : pr ∈ ([1000, 5] : List Nat)) (hE : aEok L ρ kE3) {view : Int64} (hv : view.toInt = ρ 2) : ∀ (t x : Nat) (a : Int) (σ : pmS) (cl : pmL), x + t = 5 → -2147483648 ≤ a ∧ a ≤ 2147483647 → kOk σ → kP σ → kSm kW73 σ σs → kPm σ view 4 → bLok 6 (kR5 ρ a x) (kLg pr (some (.inl (false, kv4))) (some (.inl (false, kv5))) none) cl → pmWp ro 1 3 73 0 105 cl [] σ (kQ73 σs) := by
  obtain ⟨k1, k2, k3, k4, k5, k6, k7, k8, k9, k10⟩ := kS73_at hpr
  have hlh : Nat.lor kWh kW73 = kW73 := by decide +kernel
  have hfh : bFg kWh = true := by decide +kernel
  have h39 : kWh.testBit (bRg 39 0) = false := by decide +kernel
  intro t
  induction t with
  | zero =>
    intro x a σ cl hx ha hok hP hsm hpm hl
    have hx5 : x = 5 := by omega
    subst hx5
    have hend : bFinOk L 6 (kR5 ρ a (5 : Nat)) kP σ (bFi 6 [(none, kD5 (.ofNat 5) (.ofNat 5), [])] kW73) (kQ73 σs) := bFin_mono (bFi_end (by decide) rfl) fun v σ' hh => ⟨hh.1, hh.2.1, hh.2.2.1 (by decide +kernel), kSm.tr hh.2.2.2 hsm⟩
    have hgo := bSeg_ok (Kp := kP) (σ := σ) (σ0 := σ) (ρ := kR5 ρ a (5 : Nat)) (E := kD5 (.ofNat 5) (.ofNat 5)) (cl := cl) (cs := []) (Q := kQ73 σs) h bCn_ok k10 (fun B hB => absurd hB List.not_mem_nil) (aXok0 (kD5_ok hE ha ⟨Int.le_refl _, Int.le_refl _⟩)) (kOk_mok hok hP) hl trivial hend (fun B hB => absurd hB List.not_mem_nil)
    rw [kM73.1, kM73.2] at hgo
    exact hgo
  | succ t ih =>
    intro x a σ cl hx ha hok hP hsm hpm hl
    have hgo := bSeg_ok (Kp := kP) (σ := σ) (σ0 := σ) (ρ := kR5 ρ a x) (E := kD5 (.ofNat 0) (.ofNat 4)) (cl := cl) (cs := []) (Q := kQ73 σs) h bCn_ok k6 (fun B hB => by
      rcases List.mem_cons.mp hB with rfl | hB
      · rfl
      · rw [List.mem_singleton.mp hB]; rfl) (aXok0 (kD5_ok hE ha ⟨by show (0 : Int) ≤ x; omega, by show (x : Int) ≤ 4; omega⟩)) (kOk_mok hok hP) hl trivial bNo_ok ?_
    · rw [kM73.1, kM73.2] at hgo
      exact hgo
    intro B hB ρ1 cl1 cs1 σ1 hA
    rcases List.mem_cons.mp hB with rfl | hB
    · obtain ⟨v1, r1, rfl, hv1, hs1⟩ := bSok_c (show bSok 7 ρ1 [.inl (false, 6, .negSucc 8), .inr [39]] cs1 from hA.2.2)
      obtain ⟨v2, r2, rfl, hv2, hs2⟩ := bSok_c hs1
      obtain ⟨ix, rfl, hix⟩ := bVok_int hv1
      have := bVok_one hv2
      subst this
      have := bSok_n hs2
      subst this
      have hix : ix.toInt = ρ1 6 + (-9) := hix.2
      have hE1 : aEok L ρ1 (kD6 (.ofNat 0, .ofNat 4) (.ofNat 9, .ofNat 12)) := hA.env
      have c6 : (9 : Int) ≤ ρ1 6 ∧ ρ1 6 ≤ (12 : Int) := hE1.2 6 _ rfl
      have e1 : ∀ v, v < 6 → ρ1 v = kR5 ρ a x v := fun v hv => hA.ext v hv
      have hok1 := hA.ok rfl
      have hP1 := hA.kp hfh
      have s1 : kSm kWh σ1 σ := hA.sm
      have pm1 := kPm_sm hpm s1 h39
      have hsm1 : kSm kW73 σ1 σs := kSm.tr (kSm.le s1 hlh) hsm
      have hl1 : bLok 7 ρ1 (kLg pr (some (.inl (false, kv4))) (some (.inl (false, kv5))) (some (.inl (false, kv6)))) cl1 := hA.2.1
      obtain ⟨hin, hni⟩ := kNat (i := ix) (n := 4) (by omega) (by omega)
      unfold bWa
      rw [show (kB190 pr).2.1 = 73 from rfl, kM73.1, kM73.2, show (kB190 pr).2.2.1 = 190 from rfl]
      refine pmWp_ial (n := 4) (rs := []) rfl (by decide) (by rw [hok1.1]; rfl) hin ?_
      have ht := hok1.2 39 ix.toNatClampNeg
      rw [show bGe 39 ix.toNatClampNeg = [(0, 100000)] from bGu_ok (by decide +kernel) _, kI_z rfl] at ht
      obtain ⟨j, hj, g1, g2⟩ := ht
      rw [List.mem_singleton] at hj
      subst hj
      have g1 : (0 : Int) ≤ kI σ1 39 ix.toNatClampNeg := g1
      have g2 : kI σ1 39 ix.toNatClampNeg ≤ (100000 : Int) := g2
      generalize hT : kI σ1 39 ix.toNatClampNeg = T at g1 g2
      have hE8 : ∀ {lo hi y : Int}, lo ≤ y ∧ y ≤ hi → aEok L (fun v => if v = 7 then y else ρ1 v) (kD7 (lo, hi)) := fun {lo hi y} hy => by
        refine ⟨⟨hE1.1.1, hE1.1.2.1, (by decide : 1 < 8)⟩, fun v j hj => ?_⟩
        match v, hj with
        | 0, hj => cases hj; exact hE1.2 0 _ rfl
        | 1, hj => cases hj; exact hE1.2 1 _ rfl
        | 2, hj => cases hj; exact hE1.2 2 _ rfl
        | 3, hj => cases hj; exact hE1.2 3 _ rfl
        | 4, hj => cases hj; exact hE1.2 4 _ rfl
        | 5, hj => cases hj; exact hE1.2 5 _ rfl
        | 6, hj => cases hj; exact hE1.2 6 _ rfl
        | 7, hj => cases hj; exact hy
        | v + 8, hj => cases hj
      have hl8 : ∀ {y : Int} {cl}, bLok 7 ρ1 (kLg pr (some (.inl (false, kv4))) (some (.inl (false, kv5))) (some (.inl (false, kv6)))) cl → bLok 8 (fun v => if v = 7 then y else ρ1 v) (kLg pr (some (.inl (false, kv4))) (some (.inl (false, kv5))) (some (.inl (false, kv6)))) cl := fun hl => hl.ext (by decide) fun v hv => if_neg (by omega)
      have hst : bSok 8 (fun v => if v = 7 then T else ρ1 v) [.inl (false, 7, .ofNat 0)] [.int (σ1.2.1 39 ix.toNatClampNeg)] := ⟨⟨by decide, by
        show kI σ1 39 ix.toNatClampNeg = T + 0
        omega⟩, trivial⟩
      -- to the loop's head again
      have hback : ∀ {y : Int} {b : aI} {σ2 σ3 : pmS} {ρ3 cl3 cs3}, kPm σ2 view 4 → kSm kW73 σ2 σs → bAt L 8 (fun v => if v = 7 then y else ρ1 v) kP σ2 (kB105c pr b) ρ3 cl3 cs3 σ3 → bWa ro (kB105c pr b) cl3 cs3 σ3 (kQ73 σs) := by
        intro y b σ2 σ3 ρ3 cl3 cs3 hpm2 hsm2 hA3
        have := bSok_n (show bSok 9 ρ3 [] cs3 from hA3.2.2)
        subst this
        have e3 : ∀ v, v < 7 → ρ3 v = ρ1 v := fun v hv => (hA3.ext v (by show v < 8; omega)).trans (if_neg (by omega))
        have s3 : kSm kWh σ3 σ2 := hA3.sm
        have b8 : (-2147483648 : Int) ≤ ρ3 8 ∧ ρ3 8 ≤ (2147483647 : Int) := (show aEok L ρ3 (kD8 b) from hA3.env).2 8 _ rfl
        unfold bWa
        rw [show (kB105c pr b).2.1 = 73 from rfl, kM73.1, kM73.2, show (kB105c pr b).2.2.1 = 105 from rfl, show (kB105c pr b).1 = 1 from rfl]
        refine ih (x + 1) (ρ3 8) σ3 cl3 (by omega) b8 (hA3.ok rfl) (hA3.kp hfh) (kSm.tr (kSm.le s3 hlh) hsm2) (kPm_sm hpm2 s3 h39) ?_
        refine kLg_re (show bLok 9 ρ3 (kLg pr (some (.inl (false, 8, .ofNat 0))) (some (.inl (false, 5, .ofNat 1))) none) cl3 from hA3.2.1) (by decide) (fun v hv => ?_) (kRe_i (by decide) ?_) (kRe_i (by decide) ?_) kRe_n
        · rw [kR5_lo hv, e3 v (by omega), e1 v (by omega), kR5_lo hv]
        · rfl
        · show ρ3 5 + 1 = ((x + 1 : Nat) : Int) + 0
          rw [e3 5 (by decide), e1 5 (by decide)]
          show (x : Int) + 1 = ((x + 1 : Nat) : Int) + 0
          omega
      by_cases hTc : T < 100000
      · have hgo := bSeg_ok (Kp := kP) (σ := σ1) (σ0 := σ1) (ρ := fun v => if v = 7 then T else ρ1 v) (E := kD7 (.ofNat 0, .ofNat 99999)) (cl := cl1) (cs := [.int (σ1.2.1 39 ix.toNatClampNeg)]) (Q := kQ73 σs) h bCn_ok k7 (fun B hB => by rw [List.mem_singleton.mp hB]; rfl) (aXok0 (hE8 ⟨by show (0 : Int) ≤ T; omega, by show T ≤ (99999 : Int); omega⟩)) (kOk_mok hok1 hP1) (hl8 hl1) hst bNo_ok ?_
        · rw [kM73.1, kM73.2] at hgo
          exact hgo
        intro B hB ρ2 cl2 cs2 σ2 hA2
        rw [List.mem_singleton] at hB
        subst hB
        obtain ⟨v1, r1, rfl, hv1, hs1⟩ := bSok_c (show bSok 8 ρ2 [.inl (false, 0, .ofNat 0), .inl (false, kv5), .inr [42]] cs2 from hA2.2.2)
        obtain ⟨v2, r2, rfl, hv2, hs2⟩ := bSok_c hs1
        obtain ⟨v3, r3, rfl, hv3, hs3⟩ := bSok_c hs2
        obtain ⟨z0, rfl, hz0⟩ := bVok_int hv1
        obtain ⟨xx, rfl, hxx⟩ := bVok_int hv2
        have := bVok_one hv3
        subst this
        have := bSok_n hs3
        subst this
        have e2 : ∀ v, v < 7 → ρ2 v = ρ1 v := fun v hv => (hA2.ext v (by show v < 8; omega)).trans (if_neg (by omega))
        have hl2 : bLok 8 ρ2 (kLg pr (some (.inl (false, kv4))) (some (.inl (false, kv5))) (some (.inl (false, kv6)))) cl2 := hA2.2.1
        have hcl1 := kView hl2 (view := view) (by rw [hv, e2 2 (by decide), e1 2 (by decide), kR5_lo (by decide)])
        obtain ⟨pv, hcl7, hpv⟩ := hl2.2 7 _ rfl
        obtain ⟨pq, rfl, hpq⟩ := bVok_int hpv
        have hpq : pq.toInt = ρ2 6 + 0 := hpq.2
        rw [e2 6 (by decide)] at hpq
        have hok2 := hA2.ok rfl
        have hP2 := hA2.kp (show bFg 0 = true by decide +kernel)
        have s2 : kSm 0 σ2 σ1 := hA2.sm
        have pm2 := kPm_sm pm1 s2 (by decide +kernel)
        unfold bWa
        rw [show (kB203 pr).2.1 = 73 from rfl, kM73.1, kM73.2, show (kB203 pr).2.2.1 = 203 from rfl, show (kB203 pr).1 = 1 from rfl]
        refine pmWp_ll (j := 1) rfl hcl1 ?_
        refine pmWp_1 (i := .iconst 4) rfl rfl ?_
        refine pmWp_il (j := 7) rfl hcl7 ?_
        refine pmWp_1 (i := .bipush 9) rfl rfl ?_
        refine pmWp_1 (i := .isub) rfl rfl ?_
        refine pmWp_1 (i := .imul) rfl rfl ?_
        refine pmWp_1 (i := .lushr) rfl rfl ?_
        refine pmWp_1 (i := .l2i) rfl rfl ?_
        refine pmWp_1 (i := .bipush 15) rfl rfl ?_
        refine pmWp_1 (i := .iand) rfl rfl ?_
        have hq0 : (pq - (Int8.ofInt 9).toInt32).toInt = pq.toInt - 9 := by
          rw [Int32.toInt_sub, show (Int8.ofInt 9).toInt32.toInt = 9 from rfl]
          exact Int.bmod_eq_of_le (by omega) (by omega)
        have hqx : pq - (Int8.ofInt 9).toInt32 = ix := Int32.toInt_inj.mp (by omega)
        have hd := pm2 (pq - (Int8.ofInt 9).toInt32) (by omega) (by omega) (by
          rw [hqx]
          have : kI σ2 39 ix.toNatClampNeg = kI σ1 39 ix.toNatClampNeg := by
            unfold kI
            rw [(kAll s2 39 ix.toNatClampNeg).1]
          rw [this, hT]
          exact hTc)
        show pmWp ro 1 3 73 0 216 cl2 [.int (kDg view (pq - (Int8.ofInt 9).toInt32)), .int z0, .int xx, .ref 42] σ2 (kQ73 σs)
        generalize kDg view (pq - (Int8.ofInt 9).toInt32) = dd at hd
        have hE2 : aEok L (fun v => if v = 7 then dd.toInt else ρ1 v) (kD7 (.ofNat 1, .ofNat 7)) := hE8 ⟨hd.1, hd.2⟩
        have hl2b : bLok 8 (fun v => if v = 7 then dd.toInt else ρ1 v) (kLg pr (some (.inl (false, kv4))) (some (.inl (false, kv5))) (some (.inl (false, kv6)))) cl2 := kLg_re hl2 (by decide) (fun v hv => by rw [e2 v (by omega)]; exact if_neg (by omega)) (kRe_i (by decide) (by show ρ2 4 + 0 = ρ1 4 + 0; rw [e2 4 (by decide)])) (kRe_i (by decide) (by show ρ2 5 + 0 = ρ1 5 + 0; rw [e2 5 (by decide)])) (kRe_i (by decide) (by show ρ2 6 + 0 = ρ1 6 + 0; rw [e2 6 (by decide)]))
        have hz0 : z0.toInt = ρ2 0 + 0 := hz0.2
        have hxx : xx.toInt = ρ2 5 + 0 := hxx.2
        have hgo := bSeg_ok (Kp := kP) (σ := σ2) (σ0 := σ2) (ρ := fun v => if v = 7 then dd.toInt else ρ1 v) (E := kD7 (.ofNat 1, .ofNat 7)) (cl := cl2) (cs := [.int dd, .int z0, .int xx, .ref 42]) (Q := kQ73 σs) h bCn_ok k9 (fun B hB => by rw [List.mem_singleton.mp hB]; rfl) (aXok0 hE2) (kOk_mok hok2 hP2) hl2b ⟨⟨(show 7 < 8 by decide), (Int.add_zero _).symm⟩, ⟨(show 0 < 8 by decide), by
          show z0.toInt = ρ1 0 + 0
          rw [hz0, e2 0 (by decide)]⟩, ⟨(show 5 < 8 by decide), by
          show xx.toInt = ρ1 5 + 0
          rw [hxx, e2 5 (by decide)]⟩, List.mem_singleton.mpr rfl, trivial⟩ bNo_ok ?_
        · rw [kM73.1, kM73.2] at hgo
          exact hgo
        intro B hB ρ3 cl3 cs3 σ3 hA3
        rw [List.mem_singleton] at hB
        subst hB
        exact hback pm2 (kSm.tr (kSm.le s2 (by decide +kernel)) hsm1) hA3
      · have hgo := bSeg_ok (Kp := kP) (σ := σ1) (σ0 := σ1) (ρ := fun v => if v = 7 then T else ρ1 v) (E := kD7 (.ofNat 100000, .ofNat 100000)) (cl := cl1) (cs := [.int (σ1.2.1 39 ix.toNatClampNeg)]) (Q := kQ73 σs) h bCn_ok k8 (fun B hB => by rw [List.mem_singleton.mp hB]; rfl) (aXok0 (hE8 ⟨by show (100000 : Int) ≤ T; omega, by show T ≤ (100000 : Int); omega⟩)) (kOk_mok hok1 hP1) (hl8 hl1) hst bNo_ok ?_
        · rw [kM73.1, kM73.2] at hgo
          exact hgo
        intro B hB ρ3 cl3 cs3 σ3 hA3
        rw [List.mem_singleton] at hB
        subst hB
        exact hback pm1 hsm1 hA3
    · rw [List.mem_singleton] at hB
      subst hB
      have := bSok_n (show bSok 7 ρ1 [] cs1 from hA.2.2)
      subst this
      have e1 : ∀ v, v < 6 → ρ1 v = kR5 ρ a x v := fun v hv => hA.ext v hv
      have s1 : kSm kWh σ1 σ := hA.sm
      have b6 : (-2147483648 : Int) ≤ ρ1 6 ∧ ρ1 6 ≤ (2147483647 : Int) := (show aEok L ρ1 (kD6 (.ofNat 0, .ofNat 4) kT32) from hA.env).2 6 _ rfl
      unfold bWa
      rw [show (kB105b pr).2.1 = 73 from rfl, kM73.1, kM73.2, show (kB105b pr).2.2.1 = 105 from rfl, show (kB105b pr).1 = 1 from rfl]
      refine ih (x + 1) (ρ1 6) σ1 cl1 (by omega) b6 (hA.ok rfl) (hA.kp hfh) (kSm.tr (kSm.le s1 hlh) hsm) (kPm_sm hpm s1 h39) ?_
      refine kLg_re (show bLok 7 ρ1 (kLg pr (some (.inl (false, kv6))) (some (.inl (false, 5, .ofNat 1))) none) cl1 from hA.2.1) (by decide) (fun v hv => ?_) (kRe_i (by decide) ?_) (kRe_i (by decide) ?_) kRe_n
      · rw [kR5_lo hv, e1 v (by omega), kR5_lo hv]
      · rfl
      · show ρ1 5 + 1 = ((x + 1 : Nat) : Int) + 0
        rw [e1 5 (by decide)]
        show (x : Int) + 1 = ((x + 1 : Nat) : Int) + 0
        omega
/-- the first loop -/
theorem kLoop1 (h : bHyp ro L kP) {pr : Nat} (hpr : pr ∈ ([1000, 5] : List Nat)) (hE : aEok L ρ kE3) {view : Int64} (hv : view.toInt = ρ 2) : ∀ (t q : Nat) (σ : pmS) (cl : pmL), q + t = 4 → kOk σ → kP σ → kSm kW73 σ σs → kPm σ view q → bLok 5 (kR4 ρ q) (kLg pr (some (.inl (false, kv4))) none none) cl → pmWp ro 1 3 73 0 28 cl [] σ (kQ73 σs) := by
  obtain ⟨k1, k2, k3, k4, k5, k6, k7, k8, k9, k10⟩ := kS73_at hpr
  have hl0 : Nat.lor 0 kW73 = kW73 := by decide +kernel
  have hf0 : bFg 0 = true := by decide +kernel
  intro t
  induction t with
  | zero =>
    intro q σ cl hq hok hP hsm hpm hl
    have hq4 : q = 4 := by omega
    subst hq4
    have hgo := bSeg_ok (Kp := kP) (σ := σ) (σ0 := σ) (ρ := kR4 ρ (4 : Nat)) (E := kE4 (.ofNat 4) (.ofNat 4)) (cl := cl) (cs := []) (Q := kQ73 σs) h bCn_ok k3 (fun B hB => by rw [List.mem_singleton.mp hB]; rfl) (aXok0 (kE4_ok hE ⟨Int.le_refl _, Int.le_refl _⟩)) (kOk_mok hok hP) hl trivial bNo_ok ?_
    · rw [kM73.1, kM73.2] at hgo
      exact hgo
    intro B hB ρ1 cl1 cs1 σ1 hA
    rw [List.mem_singleton] at hB
    subst hB
    have := bSok_n (show bSok 5 ρ1 [] cs1 from hA.2.2)
    subst this
    have e1 : ∀ v, v < 5 → ρ1 v = kR4 ρ (4 : Nat) v := fun v hv => hA.ext v hv
    have s1 : kSm 0 σ1 σ := hA.sm
    have h0 : ρ1 0 = 0 := hA.env.1.1
    unfold bWa
    rw [show (kB105a pr).2.1 = 73 from rfl, kM73.1, kM73.2, show (kB105a pr).2.2.1 = 105 from rfl, show (kB105a pr).1 = 1 from rfl]
    refine kLoop2 (σs := σs) h hpr hE hv 5 0 100000 σ1 cl1 rfl (by omega) (hA.ok rfl) (hA.kp hf0) (kSm.tr (kSm.le s1 hl0) hsm) (kPm_sm hpm s1 (by decide +kernel)) ?_
    refine kLg_re (show bLok 5 ρ1 (kLg pr (some (.inl (false, 0, .ofNat 100000))) (some (.inl (false, 0, .ofNat 0))) none) cl1 from hA.2.1) (by decide) (fun v hv => ?_) (kRe_i (by decide) ?_) (kRe_i (by decide) ?_) kRe_n
    · rw [kR5_lo hv, e1 v (by omega), kR4_lo hv]
    · show ρ1 0 + 100000 = 100000 + 0
      omega
    · show ρ1 0 + 0 = ((0 : Nat) : Int) + 0
      omega
  | succ t ih =>
    intro q σ cl hq hok hP hsm hpm hl
    have hE4 : aEok L (kR4 ρ q) (kE4 (.ofNat 0) (.ofNat 3)) := kE4_ok hE ⟨by show (0 : Int) ≤ q; omega, by show (q : Int) ≤ 3; omega⟩
    have hgo := bSeg_ok (Kp := kP) (σ := σ) (σ0 := σ) (ρ := kR4 ρ q) (E := kE4 (.ofNat 0) (.ofNat 3)) (cl := cl) (cs := []) (Q := kQ73 σs) h bCn_ok k2 (fun B hB => by rw [List.mem_singleton.mp hB]; rfl) (aXok0 hE4) (kOk_mok hok hP) hl trivial bNo_ok ?_
    · rw [kM73.1, kM73.2] at hgo
      exact hgo
    intro B hB ρ1 cl1 cs1 σ1 hA
    rw [List.mem_singleton] at hB
    subst hB
    have := bSok_n (show bSok 5 ρ1 [] cs1 from hA.2.2)
    subst this
    have e1 : ∀ v, v < 5 → ρ1 v = kR4 ρ q v := fun v hv => hA.ext v hv
    have s1 : kSm 0 σ1 σ := hA.sm
    have hok1 := hA.ok rfl
    have hP1 := hA.kp hf0
    have pm1 := kPm_sm hpm s1 (by decide +kernel)
    have hl1 : bLok 5 (kR4 ρ q) (kLg pr (some (.inl (false, kv4))) none none) cl1 := kLg_re (show bLok 5 ρ1 (kLg pr (some (.inl (false, kv4))) none none) cl1 from hA.2.1) (by decide) (fun v hv => (e1 v (by omega)).symm) (kRe_i (by decide) (by show ρ1 4 + 0 = kR4 ρ q 4 + 0; rw [e1 4 (by decide)])) kRe_n kRe_n
    have hcl1 := kView hl1 (view := view) (by rw [hv, kR4_lo (by decide)])
    obtain ⟨pv, hcl5, hpv⟩ := hl1.2 5 _ rfl
    obtain ⟨qx, rfl, hqx⟩ := bVok_int hpv
    have hqx : qx.toInt = (q : Int) + 0 := hqx.2
    unfold bWa
    rw [show (kB34m pr).2.1 = 73 from rfl, kM73.1, kM73.2, show (kB34m pr).2.2.1 = 34 from rfl, show (kB34m pr).1 = 1 from rfl]
    refine pmWp_ll (j := 1) rfl hcl1 ?_
    refine pmWp_1 (i := .iconst 4) rfl rfl ?_
    refine pmWp_il (j := 5) rfl hcl5 ?_
    refine pmWp_1 (i := .imul) rfl rfl ?_
    refine pmWp_1 (i := .lushr) rfl rfl ?_
    refine pmWp_1 (i := .l2i) rfl rfl ?_
    refine pmWp_1 (i := .bipush 15) rfl rfl ?_
    refine pmWp_1 (i := .iand) rfl rfl ?_
    have hdl := kDg_le view qx
    show pmWp ro 1 3 73 0 44 cl1 [.int (kDg view qx)] σ1 (kQ73 σs)
    generalize hdd : kDg view qx = dd at hdl
    -- the price
    have hc := hok1.2 5 1
    rw [show bGe 5 1 = [(9, 73)] by decide +kernel, kI_z rfl] at hc
    obtain ⟨j, hj, g1, g2⟩ := hc
    rw [List.mem_singleton] at hj
    subst hj
    have g1 : (9 : Int) ≤ kI σ1 5 1 := g1
    have g2 : kI σ1 5 1 ≤ (73 : Int) := g2
    obtain ⟨c, hc⟩ : ∃ c : Nat, kI σ1 5 1 = c := ⟨(kI σ1 5 1).toNat, by omega⟩
    have hE5 : aEok L (fun v => if v = 5 then dd.toInt else kR4 ρ q v) (kE5 (.ofNat 0) (.ofNat 15)) := by
      refine ⟨⟨hE4.1.1, hE4.1.2.1, (by decide : 1 < 6)⟩, fun v j hj => ?_⟩
      match v, hj with
      | 0, hj => cases hj; exact hE4.2 0 _ rfl
      | 1, hj => cases hj; exact hE4.2 1 _ rfl
      | 2, hj => cases hj; exact hE4.2 2 _ rfl
      | 3, hj => cases hj; exact hE4.2 3 _ rfl
      | 4, hj => cases hj; exact hE4.2 4 _ rfl
      | 5, hj => cases hj; exact hdl
      | v + 6, hj => cases hj
    have hl5 : bLok 6 (fun v => if v = 5 then dd.toInt else kR4 ρ q v) (kLg pr (some (.inl (false, kv4))) none none) cl1 := hl1.ext (by decide) fun v hv => if_neg (by omega)
    -- behind the store
    have hback : ∀ {n5 : Nat} {ρ2 : Nat → Int} {σ2 : pmS} {cl2 : pmL} {x1 x2 : Int32}, kOk σ2 → kP σ2 → kSm 0 σ2 σ1 → (∀ v, v < 5 → ρ2 v = kR4 ρ q v) → bLok n5 ρ2 (kLg pr (some (.inl (false, kv4))) none none) cl2 → x2.toInt = q → 0 ≤ x1.toInt → x1.toInt ≤ 100000 → (x1.toInt < 100000 → 1 ≤ dd.toInt ∧ dd.toInt ≤ 7) → pmWp ro 1 3 73 0 91 cl2 [.int x1, .int x2, .ref 39] σ2 (kQ73 σs) := by
      intro n5 ρ2 σ2 cl2 x1 x2 hok2 hP2 s2 e2 hl2 hx2 hx1 hx1b hdg
      obtain ⟨hin, hni⟩ := kNat (i := x2) (n := 4) (by omega) (by omega)
      have hqn : x2.toNatClampNeg = q := by omega
      refine pmWp_ias (n := 4) (rs := []) rfl (by rw [hok2.1]; rfl) hin ?_
      rw [hqn]
      generalize hσ3 : (σ2.1, pmUp σ2.2.1 39 q x1, σ2.2.2) = σ3
      have hok3 : kOk σ3 := by
        rw [← hσ3]
        exact kOk_upi hok2 rfl (by rw [show bGe 39 q = [(0, 100000)] from bGu_ok (by decide +kernel) _]; exact ⟨_, List.mem_singleton.mpr rfl, hx1, hx1b⟩)
      have hP3 : kP σ3 := by
        rw [← hσ3]
        exact kP_upi hP2 (by decide) (by decide) (by decide) (by decide) (by decide)
      have s3 : kSm kW73 σ3 σ2 := by
        rw [← hσ3]
        refine kSm.upi ?_
        rw [bRg_sing (by decide +kernel) _ 0]
        decide +kernel
      have pm3 : kPm σ3 view ((q + 1 : Nat) : Int) := fun z z0 z1 z2 => by
        by_cases c : z.toInt = q
        · have hz : z = qx := Int32.toInt_inj.mp (by omega)
          subst hz
          have : z.toNatClampNeg = q := by show z.toInt.toNat = q; omega
          rw [this] at z2
          have e : kI σ3 39 q = x1.toInt := by
            rw [← hσ3]
            show (pmUp σ2.2.1 39 q x1 39 q).toInt = x1.toInt
            rw [kUp_at]
          rw [e] at z2
          rw [hdd]
          exact hdg z2
        · refine pm1 z z0 (by omega) ?_
          have e : kI σ3 39 z.toNatClampNeg = kI σ1 39 z.toNatClampNeg := by
            rw [← hσ3]
            show (pmUp σ2.2.1 39 q x1 39 z.toNatClampNeg).toInt = _
            rw [kUp_nk (fun hh => c (by have : z.toInt.toNat = q := hh.2; omega)), (kAll s2 39 z.toNatClampNeg).1]
            rfl
          rw [← e]
          exact z2
      have hl3 : bLok 5 (kR4 ρ q) (kLg pr (some (.inl (false, kv4))) none none) cl2 := kLg_re hl2 (by decide) (fun v hv => (e2 v (by omega)).symm) (kRe_i (by decide) (by show ρ2 4 + 0 = kR4 ρ q 4 + 0; rw [e2 4 (by decide)])) kRe_n kRe_n
      have hgo := bSeg_ok (Kp := kP) (σ := σ3) (σ0 := σ3) (ρ := kR4 ρ q) (E := kE4 (.ofNat 0) (.ofNat 3)) (cl := cl2) (cs := []) (Q := kQ73 σs) h bCn_ok k5 (fun B hB => by rw [List.mem_singleton.mp hB]; rfl) (aXok0 hE4) (kOk_mok hok3 hP3) hl3 trivial bNo_ok ?_
      · rw [kM73.1, kM73.2] at hgo
        exact hgo
      intro B hB ρ4 cl4 cs4 σ4 hA4
      rw [List.mem_singleton] at hB
      subst hB
      have := bSok_n (show bSok 5 ρ4 [] cs4 from hA4.2.2)
      subst this
      have e4 : ∀ v, v < 5 → ρ4 v = kR4 ρ q v := fun v hv => hA4.ext v hv
      have s4 : kSm 0 σ4 σ3 := hA4.sm
      unfold bWa
      rw [show (kB28n pr).2.1 = 73 from rfl, kM73.1, kM73.2, show (kB28n pr).2.2.1 = 28 from rfl, show (kB28n pr).1 = 1 from rfl]
      refine ih (q + 1) σ4 cl4 (by omega) (hA4.ok rfl) (hA4.kp hf0) (kSm.tr (kSm.le s4 hl0) (kSm.tr s3 (kSm.tr (kSm.le s2 hl0) (kSm.tr (kSm.le s1 hl0) hsm)))) (kPm_sm pm3 s4 (by decide +kernel)) ?_
      refine kLg_re (show bLok 5 ρ4 (kLg pr (some (.inl (false, 4, .ofNat 1))) none none) cl4 from hA4.2.1) (by decide) (fun v hv => ?_) (kRe_i (by decide) ?_) kRe_n kRe_n
      · rw [kR4_lo hv, e4 v (by omega), kR4_lo hv]
      · show ρ4 4 + 1 = ((q + 1 : Nat) : Int) + 0
        rw [e4 4 (by decide)]
        show (q : Int) + 1 = ((q + 1 : Nat) : Int) + 0
        omega
    have hgo := bSeg_ok (Kp := kP) (σ := σ1) (σ0 := σ1) (ρ := fun v => if v = 5 then dd.toInt else kR4 ρ q v) (E := kE5 (.ofNat 0) (.ofNat 15)) (cl := cl1) (cs := [.int dd]) (Q := kQ73 σs) h bCn_ok (k4 c (by omega) (by omega)) (fun B hB => by
      rcases List.mem_cons.mp hB with rfl | hB
      · rfl
      · rw [List.mem_singleton.mp hB]; rfl) (aXok0 hE5) ⟨hok1.1, bHok_c (kOk_hok hok1) rfl (show 0 < 6 by decide) (by
      rw [kI_z rfl, hc]
      show (c : Int) = kR4 ρ q 0 + (c : Int)
      rw [kR4_lo (by decide), hE.1.1, Int.zero_add]), fun q hq => absurd hq List.not_mem_nil, fun p k _ => ⟨rfl, rfl⟩, fun _ => hP1⟩ hl5 ⟨⟨(show 5 < 6 by decide), (Int.add_zero _).symm⟩, trivial⟩ bNo_ok ?_
    · rw [kM73.1, kM73.2] at hgo
      exact hgo
    intro B hB ρ2 cl2 cs2 σ2 hA2
    have e2 : ∀ v, v < 6 → ρ2 v = (fun v => if v = 5 then dd.toInt else kR4 ρ q v) v := fun v hv => hA2.ext v hv
    have e2' : ∀ v, v < 5 → ρ2 v = kR4 ρ q v := fun v hv => (e2 v (by omega)).trans (if_neg (by omega))
    have e25 : ρ2 5 = dd.toInt := e2 5 (by decide)
    rcases List.mem_cons.mp hB with rfl | hB
    · obtain ⟨v1, r1, rfl, hv1, hs1⟩ := bSok_c (show bSok 7 ρ2 [.inl (false, kv6), .inl (false, kv4), .inr [39]] cs2 from hA2.2.2)
      obtain ⟨v2, r2, rfl, hv2, hs2⟩ := bSok_c hs1
      obtain ⟨v3, r3, rfl, hv3, hs3⟩ := bSok_c hs2
      obtain ⟨x1, rfl, hx1⟩ := bVok_int hv1
      obtain ⟨x2, rfl, hx2⟩ := bVok_int hv2
      have := bVok_one hv3
      subst this
      have := bSok_n hs3
      subst this
      have hx1 : x1.toInt = ρ2 6 + 0 := hx1.2
      have hx2 : x2.toInt = ρ2 4 + 0 := hx2.2
      have hEb : aEok L ρ2 kE6 := hA2.env
      have b5 : (1 : Int) ≤ ρ2 5 ∧ ρ2 5 ≤ (7 : Int) := hEb.2 5 _ rfl
      have b6 : (0 : Int) ≤ ρ2 6 ∧ ρ2 6 ≤ (99999 : Int) := hEb.2 6 _ rfl
      have e24 : ρ2 4 = (q : Int) := e2' 4 (by decide)
      unfold bWa
      rw [show (kB91a pr).2.1 = 73 from rfl, kM73.1, kM73.2, show (kB91a pr).2.2.1 = 91 from rfl, show (kB91a pr).1 = 1 from rfl]
      exact hback (n5 := 7) (ρ2 := ρ2) (hA2.ok rfl) (hA2.kp hf0) hA2.sm e2' hA2.2.1 (by omega) (by omega) (by omega) (fun _ => by omega)
    · rw [List.mem_singleton] at hB
      subst hB
      obtain ⟨v1, r1, rfl, hv1, hs1⟩ := bSok_c (show bSok 6 ρ2 [.inl (false, 0, .ofNat 100000), .inl (false, kv4), .inr [39]] cs2 from hA2.2.2)
      obtain ⟨v2, r2, rfl, hv2, hs2⟩ := bSok_c hs1
      obtain ⟨v3, r3, rfl, hv3, hs3⟩ := bSok_c hs2
      obtain ⟨x1, rfl, hx1⟩ := bVok_int hv1
      obtain ⟨x2, rfl, hx2⟩ := bVok_int hv2
      have := bVok_one hv3
      subst this
      have := bSok_n hs3
      subst this
      have hx1 : x1.toInt = ρ2 0 + 100000 := hx1.2
      have hx2 : x2.toInt = ρ2 4 + 0 := hx2.2
      have h0 : ρ2 0 = 0 := hA2.env.1.1
      have e24 : ρ2 4 = (q : Int) := e2' 4 (by decide)
      unfold bWa
      rw [show (kB91b pr).2.1 = 73 from rfl, kM73.1, kM73.2, show (kB91b pr).2.2.1 = 91 from rfl, show (kB91b pr).1 = 1 from rfl]
      exact hback (n5 := 6) (ρ2 := ρ2) (hA2.ok rfl) (hA2.kp hf0) hA2.sm e2' hA2.2.1 (by omega) (by omega) (by omega) (fun hh => by omega)
theorem kMeasure (h : bHyp ro L kP) {pr : Nat} (hpr : pr ∈ ([1000, 5] : List Nat)) (hec : bEc 73 [.inr [34], .inl (true, 2, .ofNat 0), .inr [pr]] (kP73 pr) = true) : bCok ro L kP (73, [.inr [34], .inl (true, 2, .ofNat 0), .inr [pr]], kE74, [], [(none, kE74, [])], kW73, 2) := by
  intro ρ vs σ hE hM hs
  have hM : bMok 3 ρ kP σ ([], [], 0) σ := hM
  have hk := kS73_at hpr
  suffices hg : pmCs ro 2 73 vs σ (kQ73 σ) by
    refine pmCs_mono hg ?_
    rintro v σ' ⟨rfl, b2, b3, b4⟩
    exact ⟨_, List.mem_singleton.mpr rfl, ρ, aExt.rf, Nat.le_refl _, hE, trivial, b2.1, fun p k => b2.2 p k, fun q hq => absurd hq List.not_mem_nil, b4, fun _ => b3⟩
  -- the view
  obtain ⟨v1, r1, rfl, hv1, hs1⟩ := bSok_c (show bSok 3 ρ [.inr [34], .inl (true, 2, .ofNat 0), .inr [pr]] vs from hs)
  obtain ⟨v2, r2, rfl, hv2, hs2⟩ := bSok_c hs1
  obtain ⟨view, rfl, hview⟩ := bVok_long hv2
  have hview : view.toInt = ρ 2 + 0 := hview.2
  refine bEc_ok (pl := kP73 pr) hec hs fun cl hl => ?_
  have hgo := bSeg_ok (Kp := kP) (σ := σ) (σ0 := σ) (ρ := ρ) (E := kE74) (cl := cl) (cs := []) (Q := kQ73 σ) h bCn_ok hk.1 (fun B hB => by rw [List.mem_singleton.mp hB]; rfl) (aXok0 hE) hM hl trivial bNo_ok ?_
  · exact hgo
  intro B hB ρ1 cl1 cs1 σ1 hA
  rw [List.mem_singleton] at hB
  subst hB
  have := bSok_n (show bSok 4 ρ1 [] cs1 from hA.2.2)
  subst this
  have e2 : ρ1 2 = ρ 2 := hA.ext 2 (by decide)
  have h0 : ρ1 0 = 0 := hA.env.1.1
  unfold bWa
  rw [show (kB28 pr).2.1 = 73 from rfl, kM73.1, kM73.2, show (kB28 pr).2.2.1 = 28 from rfl, show (kB28 pr).1 = 1 from rfl]
  refine kLoop1 (σs := σ) (ρ := ρ1) h hpr hA.env (view := view) (by omega) 4 0 σ1 cl1 rfl (hA.ok rfl) (hA.kp (show bFg 0 = true by decide +kernel)) (kSm.le (show kSm 0 σ1 σ from hA.sm) (by decide +kernel)) (fun q q0 q1 => by omega) ?_
  refine kLg_re (show bLok 4 ρ1 (kLg pr (some (.inl (false, 0, .ofNat 0))) none none) cl1 from hA.2.1) (by decide) (fun v hv => kR4_lo hv) (kRe_i (by decide) ?_) kRe_n kRe_n
  show ρ1 0 + 0 = ((0 : Nat) : Int) + 0
  omega
theorem kMeas1 (h : bHyp ro L kP) : bCok ro L kP bC73 := kMeasure h (by decide) (by decide +kernel)
theorem kMeas2 (h : bHyp ro L kP) : bCok ro L kP bC73a := kMeasure h (by decide) (by decide +kernel)
end
end
section
/-! all but the reference's wish -/
section
variable {Ln : Nat} {xs : Nat → Int32}
theorem kHypP (hLn : Ln ≤ 3072) : bHyp (pmRo Ln xs) ((Ln : Int), xs) kP := ⟨kP_fr, Ln, xs, rfl, rfl, hLn⟩
theorem kHypQ (hLn : Ln ≤ 3072) : bHyp (pmRo Ln xs) ((Ln : Int), xs) kQ := ⟨kQ_fr, Ln, xs, rfl, rfl, hLn⟩
end
end
section
/-! by hand: the reference reads a wish: says, endsPiece, joinsEnd, hasOpen, opens -/
section
set_option maxRecDepth 100000
variable {ro : Nat → Nat × (Nat → Int32)} {L : aLa} {Kp : pmS → Prop} {σ0 σ σ' σs : pmS} {ρ ρ' : Nat → Int} {cl : pmL} {cs vs : List Value} {Q : Option Value → pmS → Prop} {n W p k : Nat}
theorem kSm.i (h : kSm W σ' σ) (hb : W.testBit (bRg p k) = false) : kI σ' p k = kI σ p k := by
  unfold kI
  rw [(h p k hb).1]
theorem kSm.r (h : kSm W σ' σ) (hs : bSing p = true) (hb : W.testBit (bRg p 0) = false) (j : Nat) : kI σ' p j = kI σ p j := h.i (by rw [bRg_sing hs j 0]; exact hb)
def kBe (I : aE) : aE := (.ofNat 0, .ofNat 0) :: (.ofNat 0, .ofNat 3072) :: I
def kFit : aE → List Int → Prop
  | [], [] => True
  | i :: I, z :: l => (i.1 ≤ z ∧ z ≤ i.2) ∧ kFit I l
  | _, _ => False
def kRv (L : aLa) (l : List Int) : Nat → Int := fun v => match v with
  | 0 => 0
  | 1 => L.1
  | v + 2 => l.getD v 0
theorem kFit_get : ∀ {I : aE} {l : List Int}, kFit I l → ∀ (v : Nat) (j : aI), I[v]? = some j → j.1 ≤ l.getD v 0 ∧ l.getD v 0 ≤ j.2
  | [], [], _, v, j, hj => by cases hj
  | i :: I, z :: l, h, 0, j, hj => by cases hj; exact h.1
  | i :: I, z :: l, h, v + 1, j, hj => kFit_get h.2 v j hj
theorem kEnv {I : aE} {l : List Int} (hL : 0 ≤ L.1 ∧ L.1 ≤ 3072) (h : kFit I l) : aEok L (kRv L l) (kBe I) := by
  refine ⟨⟨rfl, rfl, by show 1 < I.length + 2; omega⟩, fun v j hj => ?_⟩
  match v, hj with
  | 0, hj => cases hj; exact ⟨Int.le_refl _, Int.le_refl _⟩
  | 1, hj => cases hj; exact hL
  | v + 2, hj => exact kFit_get h v j hj
def kHv (l : List (Nat × aF)) : bH := [(87, l.map fun q => (q.1, .inl q.2))]
def kHs (n : Nat) (ρ : Nat → Int) (σ : pmS) : List (Nat × aF) → Prop
  | [] => True
  | q :: t => (q.2.1 < n ∧ kI σ 87 q.1 = ρ q.2.1 + q.2.2) ∧ kHs n ρ σ t
theorem kHs_mem : ∀ {l : List (Nat × aF)}, kHs n ρ σ l → ∀ q ∈ l, q.2.1 < n ∧ kI σ 87 q.1 = ρ q.2.1 + q.2.2
  | [], _, q, hq => absurd hq List.not_mem_nil
  | a :: t, h, q, hq => by
    rcases List.mem_cons.mp hq with rfl | hq
    · exact h.1
    · exact kHs_mem h.2 q hq
theorem kHv_ok {l : List (Nat × aF)} (hok : kOk σ) (hb : (l.all fun q => !(bLo 87 q.1)) = true) (h : kHs n ρ σ l) : bHok n ρ (kHv l) (bZ σ) := by
  refine bHok_o (kOk_hok hok) fun k e he => ?_
  obtain ⟨q, hq, e1⟩ := List.mem_map.mp he
  injection e1 with e1 e2
  subst e1
  subst e2
  have h1 := kHs_mem h q hq
  have h2 : bLo 87 q.1 = false := by simpa using List.all_eq_true.mp hb q hq
  rw [kI_z h2]
  exact h1
theorem kMok {l : List (Nat × aF)} {R : bS} (hok : kOk σ) (hP : kP σ) (hb : (l.all fun q => !(bLo 87 q.1)) = true) (h : kHs n ρ σ l) (hR : bSk n ρ R (bZ σ)) : bMok n ρ kP σ (kHv l, R, 0) σ := ⟨hok.1, kHv_ok hok hb h, hR, fun p k _ => ⟨rfl, rfl⟩, fun _ => hP⟩
theorem kNoR : bSk n ρ [] (bZ σ) := fun q hq => absurd hq List.not_mem_nil
theorem kOneR {p v w : Nat} {c : Int} (h1 : v < n) (h2 : w < n) (hb : bLo p (ρ v + c).toNat = false) (h : kI σ p (ρ v + c).toNat = ρ w) : bSk n ρ [(p, (v, c), (w, .ofNat 0))] (bZ σ) := fun q hq => by
  rw [List.mem_singleton] at hq
  subst hq
  refine ⟨h1, fun _ => ⟨h2, ?_⟩⟩
  show bZ σ p (ρ v + c).toNat = ρ w + 0
  rw [kI_z hb, h, Int.add_zero]
theorem kOk_at {lo hi : Int} (hok : kOk σ) (hb : bLo p k = false) (hg : bGe p k = [(lo, hi)]) : lo ≤ kI σ p k ∧ kI σ p k ≤ hi := by
  have := hok.2 p k
  rw [hg, kI_z hb] at this
  obtain ⟨i, hi, g1, g2⟩ := this
  rw [List.mem_singleton] at hi
  subst hi
  exact ⟨g1, g2⟩
/-- a cell of the reference behind a stretch -/
theorem kCell {A : bNq} {nC : Nat} {ρ0 : Nat → Int} {f : aF} (h : bAt L nC ρ0 Kp σ0 A ρ cl cs σ) (hb : bLo 87 k = false) (he : bEn A.2.2.2.2.2.2.2.1.1 87 k = .inl f) : kI σ 87 k = ρ f.1 + f.2 := by
  have := h.1.2.1.2.1 87 k
  rw [he, kI_z hb] at this
  exact this.2
/-! says -/
def kWsay : Nat := 24443471957792058209195131312833264775239811542705476469888533239565313365018546577418856628011241914189611636822637018407192167359266608327246602710763623669526931550450211253500707580594302739831398142540399142113719058851373738547498379686644090812175125073065329460450003504136433885719903390776090707888546980236068309975338414366252186622385946379213894827478168079710522635123473317871436361648090189367337223503153561944318791506167295445425718511052142188721464414809016248264038547456
def kWc : Nat := 60708402882054033466233184588234965832575213720379360039119137804340758912662765568
def kCs : List (Nat × Nat × Nat) := [(0, 5, 7), (1, 7, 7), (2, 4, 7), (3, 5, 7), (4, 4, 5), (5, 1, 1), (6, 1, 1), (7, 1, 1)]
def kE161 (w a b : Nat) : aE := kBe [(.ofNat w, .ofNat w), (.ofNat a, .ofNat a), (.ofNat b, .ofNat b), (.ofNat 0, .ofNat 59)]
def kL161 : bL := [some (.inr [87]), some (.inl (false, 2, .ofNat 0)), some (.inl (false, 3, .ofNat 0)), some (.inl (false, 4, .ofNat 0))]
def kA161 (w a b : Nat) : bNq := bPc 0 161 0 kL161 [] (kE161 w a b) [] (kHv [(15, (5, .ofNat 0))]) 0
def kB161 (w a b : Nat) : bNq := bPc 0 161 20 [some (.inr [87]), none, none, none] [.inl (false, 0, .ofNat (256 * w + 16 * a + b)), .inl (false, 5, .ofNat 0), .inr [95]] (kE161 w a b) [] [] 0
def kE21 : aE := kBe [(.ofNat 0, .ofNat 59)]
def kA21 : bNq := bPc 0 161 21 [some (.inr [87]), none, none, none] [] kE21 [] (kHv [(15, (2, .ofNat 0))]) 0
theorem kS161 : (kCs.all fun q => (List.range q.2.1).all fun a => (List.range q.2.2).all fun b => bSeg (bCc []) bNo [kB161 q.1 a b] (kA161 q.1 a b) [] && (bCov (.ofNat (256 * q.1 + 16 * a + b), .ofNat (256 * q.1 + 16 * a + b)) kV99 && decide (((256 * q.1 + 16 * a + b : Nat) : Int) / 256 = q.1))) = true := by decide +kernel
theorem kS161b : bSeg (bCc []) (bFi 3 [(none, kE21, kHv [(15, (2, .ofNat 1))])] kWc) [] kA21 [] = true := by decide +kernel
theorem kM161 : (bMk bSp 161).1 = 12 ∧ (bMk bSp 161).2.2.1 = 0 := by decide +kernel
theorem kV95_eq : bGu 95 = some kV99 := by decide +kernel
/-- behind says -/
def kQsay (σ : pmS) (w : Nat) : Option Value → pmS → Prop := fun v σ' => v = none ∧ kOk σ' ∧ kP σ' ∧ kSm kWsay σ' σ ∧ kI σ' 87 15 = kI σ 87 15 + 1 ∧ ∃ z : Int, z / 256 = w ∧ ∀ j : Nat, kI σ' 95 j = if (j : Int) = kI σ 87 15 then z else kI σ 95 j
theorem kSays (h : bHyp ro L kP) (hL : 0 ≤ L.1 ∧ L.1 ≤ 3072) {wv av bv : Int32} {w A B : Nat} (hq : (w, A, B) ∈ kCs) (hw : wv.toInt = w) (ha : 0 ≤ av.toInt ∧ av.toInt < A) (hb : 0 ≤ bv.toInt ∧ bv.toInt < B) (hok : kOk σ) (hP : kP σ) (hc : 0 ≤ kI σ 87 15 ∧ kI σ 87 15 ≤ 59) : pmCs ro 1 161 [.ref 87, .int wv, .int av, .int bv] σ (kQsay σ w) := by
  obtain ⟨a, haa⟩ : ∃ a : Nat, av.toInt = a := ⟨av.toInt.toNat, by omega⟩
  obtain ⟨b, hbb⟩ : ∃ b : Nat, bv.toInt = b := ⟨bv.toInt.toNat, by omega⟩
  have hk := List.all_eq_true.mp (List.all_eq_true.mp (List.all_eq_true.mp kS161 _ hq) a (List.mem_range.mpr (by show a < A; omega))) b (List.mem_range.mpr (by show b < B; omega))
  simp only [Bool.and_eq_true, decide_eq_true_eq] at hk
  obtain ⟨k1, k2, k3⟩ := hk
  have hE : aEok L (kRv L [(w : Int), a, b, kI σ 87 15]) (kE161 w a b) := kEnv hL ⟨⟨Int.le_refl _, Int.le_refl _⟩, ⟨Int.le_refl _, Int.le_refl _⟩, ⟨Int.le_refl _, Int.le_refl _⟩, hc, trivial⟩
  refine bEc_ok (n := 6) (ρ := kRv L [(w : Int), a, b, kI σ 87 15]) (aB := [.inr [87], .inl (false, 2, .ofNat 0), .inl (false, 3, .ofNat 0), .inl (false, 4, .ofNat 0)]) (pl := kL161) (by decide +kernel) ⟨List.mem_singleton.mpr rfl, ⟨(by decide : 2 < 6), by rw [hw]; exact (Int.add_zero _).symm⟩, ⟨(by decide : 3 < 6), by rw [haa]; exact (Int.add_zero _).symm⟩, ⟨(by decide : 4 < 6), by rw [hbb]; exact (Int.add_zero _).symm⟩, trivial⟩ fun cl hl => ?_
  refine bSeg_ok (Q := kQsay σ w) (E := kE161 w a b) h bCn_ok k1 (fun B hB => by rw [List.mem_singleton.mp hB]; rfl) (aXok0 hE) (kMok hok hP (by decide +kernel) ⟨⟨(show 5 < 6 by decide), (Int.add_zero _).symm⟩, trivial⟩ kNoR) hl trivial bNo_ok ?_
  intro B hB ρ1 cl1 cs1 σ1 hA
  rw [List.mem_singleton] at hB
  subst hB
  obtain ⟨v1, r1, rfl, hv1, hs1⟩ := bSok_c (show bSok 6 ρ1 [.inl (false, 0, .ofNat (256 * w + 16 * a + b)), .inl (false, 5, .ofNat 0), .inr [95]] cs1 from hA.2.2)
  obtain ⟨v2, r2, rfl, hv2, hs2⟩ := bSok_c hs1
  obtain ⟨v3, r3, rfl, hv3, hs3⟩ := bSok_c hs2
  obtain ⟨x, rfl, hx⟩ := bVok_int hv1
  obtain ⟨i, rfl, hi⟩ := bVok_int hv2
  have := bVok_one hv3
  subst this
  have := bSok_n hs3
  subst this
  have h0 : ρ1 0 = 0 := hA.env.1.1
  have e5 : ρ1 5 = kI σ 87 15 := hA.ext 5 (show 5 < 6 by decide)
  have hx : x.toInt = ρ1 0 + ((256 * w + 16 * a + b : Nat) : Int) := hx.2
  have hi : i.toInt = ρ1 5 + 0 := hi.2
  have hok1 := hA.ok rfl
  have hP1 := hA.kp (show bFg 0 = true by decide +kernel)
  have s1 : kSm 0 σ1 σ := hA.sm
  obtain ⟨hin, hni⟩ := kNat (i := i) (n := 60) (by omega) (by omega)
  unfold bWa
  rw [show (kB161 w a b).2.1 = 161 from rfl, kM161.1, kM161.2, show (kB161 w a b).2.2.1 = 20 from rfl, show (kB161 w a b).1 = 0 from rfl]
  refine pmWp_ias (n := 60) (rs := []) rfl (by rw [hok1.1]; rfl) hin ?_
  generalize hσ2 : (σ1.1, pmUp σ1.2.1 95 i.toNatClampNeg x, σ1.2.2) = σ2
  have hok2 : kOk σ2 := by
    rw [← hσ2]
    refine kOk_upi hok1 rfl ?_
    rw [show bGe 95 i.toNatClampNeg = kV99 from bGu_ok kV95_eq _]
    exact bCov_ok k2 (by show ((256 * w + 16 * a + b : Nat) : Int) ≤ x.toInt; omega) (by show x.toInt ≤ ((256 * w + 16 * a + b : Nat) : Int); omega)
  have hP2 : kP σ2 := by
    rw [← hσ2]
    exact kP_upi hP1 (by decide) (by decide) (by decide) (by decide) (by decide)
  have s2 : kSm kWsay σ2 σ1 := by
    rw [← hσ2]
    refine kSm.upi ?_
    rw [bRg_sing (by decide +kernel) _ 0]
    decide +kernel
  have row2 : ∀ j : Nat, kI σ2 95 j = if (j : Int) = kI σ 87 15 then x.toInt else kI σ 95 j := fun j => by
    rw [← hσ2]
    show (if 95 = 95 ∧ j = i.toNatClampNeg then x else σ1.2.1 95 j).toInt = _
    by_cases c : (j : Int) = kI σ 87 15
    · rw [if_pos ⟨rfl, by omega⟩, if_pos c]
    · rw [if_neg (fun e => c (by have := e.2; omega)), if_neg c]
      exact s1.i (Nat.zero_testBit _)
  have c2 : kI σ2 87 15 = kI σ 87 15 := by
    rw [← hσ2]
    show (pmUp σ1.2.1 95 i.toNatClampNeg x 87 15).toInt = _
    rw [kUp_ne (by decide)]
    exact s1.i (Nat.zero_testBit _)
  have hE2 : aEok L (kRv L [kI σ 87 15]) kE21 := kEnv hL ⟨hc, trivial⟩
  have hl2 : bLok 3 (kRv L [kI σ 87 15]) [some (.inr [87]), none, none, none] cl1 := by
    refine bLok_re (show bLok 6 ρ1 [some (.inr [87]), none, none, none] cl1 from hA.2.1) rfl fun j y hy => ?_
    match j, hy with
    | 0, hy => cases hy; exact ⟨_, rfl, fun v hv => by rw [bVok_one hv]; exact List.mem_singleton.mpr rfl⟩
    | 1, hy => cases hy
    | 2, hy => cases hy
    | 3, hy => cases hy
    | j + 4, hy => cases hy
  have hend : bFinOk L 3 (kRv L [kI σ 87 15]) kP σ2 (bFi 3 [(none, kE21, kHv [(15, (2, .ofNat 1))])] kWc) (kQsay σ w) := bFin_mono (bFi_ok (E0 := kE21) (by decide) rfl (Nat.le_refl _) aExt.rf) fun v σ' hh => by
    obtain ⟨al, hal, ρ', a1, a2, a3, a4, a5⟩ := hh
    rw [List.mem_singleton] at hal
    subst hal
    have hok' : kOk σ' := kOk_m (E := kE21) a3 (by decide +kernel) a5
    have s' : kSm kWc σ' σ2 := a5.2.2.2.1
    have e2 : ρ' 2 = kI σ 87 15 := a1 2 (show 2 < 3 by decide)
    have hc' : kI σ' 87 15 = ρ' 2 + 1 := by
      have := (a5.2.1 87 15).2
      rw [kI_z (by decide +kernel)] at this
      exact this
    refine ⟨?_, hok', a5.2.2.2.2 (show bFg kWc = true by decide +kernel), kSm.tr (kSm.le s' (by decide +kernel)) (kSm.tr s2 (kSm.le s1 (by decide +kernel))), by omega, x.toInt, by rw [hx, h0, Int.zero_add]; exact k3, fun j => ?_⟩
    · cases v with
      | none => rfl
      | some v => exact a4.elim
    · rw [s'.r (by decide +kernel) (by decide +kernel)]
      exact row2 j
  have hgo := bSeg_ok (Kp := kP) (σ := σ2) (σ0 := σ2) (ρ := kRv L [kI σ 87 15]) (E := kE21) (cl := cl1) (cs := []) (Q := kQsay σ w) h bCn_ok kS161b (fun B hB => absurd hB List.not_mem_nil) (aXok0 hE2) (kMok hok2 hP2 (by decide +kernel) ⟨⟨by decide, by rw [c2]; exact (Int.add_zero _).symm⟩, trivial⟩ kNoR) hl2 trivial hend (fun B hB => absurd hB List.not_mem_nil)
  rw [kM161.1, kM161.2] at hgo
  exact hgo
end
end
section
/-! by hand: the reference reads a wish: endsPiece, joinsEnd, hasOpen, opens -/
section
set_option maxRecDepth 100000
variable {ro : Nat → Nat × (Nat → Int32)} {L : aLa} {Kp : pmS → Prop} {σ0 σ σ' σs : pmS} {ρ ρ' : Nat → Int} {cl : pmL} {cs vs : List Value} {Q : Option Value → pmS → Prop} {n W p k : Nat}
/-- how many of the waiting join two -/
def kBn (s : Nat → Int) : Nat → Nat
  | 0 => 0
  | n + 1 => kBn s n + (if s n = 5 ∨ s n = 6 then 1 else 0)
theorem kBn_cg {s s' : Nat → Int} : ∀ {n : Nat}, (∀ j, j < n → s' j = s j) → kBn s' n = kBn s n
  | 0, _ => rfl
  | n + 1, h => by
    unfold kBn
    rw [kBn_cg fun j hj => h j (by omega), h n (by omega)]
theorem kD_cg {s s' : Nat → Int} : ∀ {n : Nat}, (∀ j, j < n → s' j = s j) → kD s' n = kD s n
  | 0, _ => rfl
  | n + 1, h => by
    unfold kD
    rw [kD_cg fun j hj => h j (by omega), h n (by omega)]
theorem kD_say {s s' : Nat → Int} {c d : Nat} (h : kD s c = some d) (hs : ∀ j, j < c → s' j = s j) : kD s' (c + 1) = if s' c / 256 < 5 then some (d + 1) else if s' c / 256 = 7 then (if 1 ≤ d then some d else none) else (if 2 ≤ d then some (d - 1) else none) := by
  rw [show kD s' (c + 1) = (match kD s' c with
    | some d => if s' c / 256 < 5 then some (d + 1) else if s' c / 256 = 7 then (if 1 ≤ d then some d else none) else (if 2 ≤ d then some (d - 1) else none)
    | none => none) from rfl, kD_cg hs, h]
def kSaid (σ : pmS) : Nat → Int := fun j => kI σ 95 j
def kWts (σ : pmS) : Nat → Int := fun j => kI σ 94 j
/-- what holds while the reference reads a wish: e is 1 behind a piece -/
def kIv (e : Nat) (σ : pmS) : Prop := kOk σ ∧ kP σ ∧ 0 ≤ kI σ 87 15 ∧ 0 ≤ kI σ 87 14 ∧ kI σ 87 15 + kI σ 87 14 ≤ kI σ 87 10 ∧ kI σ 87 10 ≤ kI σ 87 11 ∧ kI σ 87 11 ≤ 40 ∧ kD (kSaid σ) (kI σ 87 15).toNat = some (kBn (kWts σ) (kI σ 87 14).toNat + e)
def kWend : Nat := 24443471957792058209195131312833264775239811542705476469888533239565313365018546577418856628011241914189611636822637018407192167359266608327246602710763623669526931550450211253500707580594302739831398142540399142113719058851373738547498379686644090812175125073065329460450003504136433885719903390776090707888546980236068309975338414366252186622385946379213894827478168079710522635123473317871436361648090189367382754805315102469418466394608471669800149921342426708750803768162271817448535621632
def kWep : Nat := 45531302161540525099674888441176224374431410290284520029339353353255569184497074176
def kL162 : bL := [some (.inr [87])]
/-! endsPiece -/
def kA162 (I : aE) (f : aF) : bNq := bPc 1 162 0 kL162 [] (kBe I) [] (kHv [(14, f)]) 0
def kB162 : bNq := bPc 1 162 14 kL162 [.inl (false, 0, .ofNat 0), .inl (false, 0, .ofNat 0), .inl (false, 0, .ofNat 7), .inr [87]] (kBe [(.ofNat 1, .ofNat 40), (.ofNat 7, .ofNat 7)]) [] [] 0
def kA17 : bNq := bPc 1 162 17 kL162 [] (kBe [(.ofNat 1, .ofNat 40)]) [] (kHv [(14, (2, .ofNat 0))]) 0
def kB17 : bNq := bPc 1 162 0 kL162 [] (kBe [(.ofNat 1, .ofNat 40)]) [] (kHv [(14, (2, .negSucc 0))]) kWep
def kRw : bS := [(94, (2, .negSucc 0), (3, .ofNat 0))]
theorem kS162 : (bSeg (bCc []) (bFi 2 [(none, kBe [], [])] 0) [] (kA162 [] (0, .ofNat 0)) [] && (bSeg (bCc []) (bFi 4 [(none, kBe [(.ofNat 1, .ofNat 40), (.ofNat 0, .ofNat 6)], [])] 0) [] (kA162 [(.ofNat 1, .ofNat 40), (.ofNat 0, .ofNat 6)] (2, .ofNat 0)) kRw && (bSeg (bCc []) (bFi 4 [(none, kBe [(.ofNat 1, .ofNat 40), (.ofNat 8, .ofNat 8)], [])] 0) [] (kA162 [(.ofNat 1, .ofNat 40), (.ofNat 8, .ofNat 8)] (2, .ofNat 0)) kRw && (bSeg (bCc []) bNo [kB162] (kA162 [(.ofNat 1, .ofNat 40), (.ofNat 7, .ofNat 7)] (2, .ofNat 0)) kRw && bSeg (bCc []) bNo [kB17] kA17 [])))) = true := by decide +kernel
theorem kM162 : (bMk bSp 162).1 = 12 ∧ (bMk bSp 162).2.2.1 = 0 := by decide +kernel
def kQend (σs : pmS) : Option Value → pmS → Prop := fun v σ' => v = none ∧ kIv 1 σ' ∧ kSm kWend σ' σs
theorem kL162_ok {n2 : Nat} (h : bLok n ρ kL162 cl) : bLok n2 ρ' kL162 cl := by
  refine bLok_re h rfl fun j y hy => ?_
  match j, hy with
  | 0, hy => cases hy; exact ⟨_, rfl, fun v hv => by rw [bVok_one hv]; exact List.mem_singleton.mpr rfl⟩
  | j + 1, hy => cases hy
/-- nothing is changed -/
theorem kIv_sm {e : Nat} (h : kIv e σ) (hok : kOk σ') (hP : kP σ') (s : kSm W σ' σ) (h1 : W.testBit (bRg 87 15) = false) (h2 : W.testBit (bRg 87 14) = false) (h3 : W.testBit (bRg 87 10) = false) (h4 : W.testBit (bRg 87 11) = false) (h5 : W.testBit (bRg 95 0) = false) (h6 : W.testBit (bRg 94 0) = false) : kIv e σ' := by
  obtain ⟨_, _, b1, b2, b3, b4, b5, b6⟩ := h
  have e1 : kSaid σ' = kSaid σ := funext fun j => s.r (by decide +kernel) h5 j
  have e2 : kWts σ' = kWts σ := funext fun j => s.r (by decide +kernel) h6 j
  unfold kIv
  rw [s.i h1, s.i h2, s.i h3, s.i h4, e1, e2]
  exact ⟨hok, hP, b1, b2, b3, b4, b5, b6⟩
theorem kEndsL (h : bHyp ro L kP) (hL : 0 ≤ L.1 ∧ L.1 ≤ 3072) : ∀ (n : Nat) (σ : pmS) (cl : pmL) (ρ : Nat → Int), (kI σ 87 14).toNat = n → kIv 1 σ → kSm kWend σ σs → bLok 2 ρ kL162 cl → pmWp ro 1 12 162 0 0 cl [] σ (kQend σs) := by
  have hk := kS162
  simp only [Bool.and_eq_true] at hk
  obtain ⟨k1, k2, k3, k4, k5⟩ := hk
  have hfin : ∀ {I : aE} {ρ : Nat → Int} {σ : pmS} {m : Nat}, kIv 1 σ → kSm kWend σ σs → 2 ≤ m → (kBe I).length = m → bFinOk L m ρ kP σ (bFi m [(none, kBe I, [])] 0) (kQend σs) := fun hI hsm hm hl => bFin_mono (bFi_end hm hl) fun v σ' hh => by
    obtain ⟨g1, g2, g3, g4⟩ := hh
    exact ⟨g1, kIv_sm hI g2 (g3 (by decide +kernel)) g4 (Nat.zero_testBit _) (Nat.zero_testBit _) (Nat.zero_testBit _) (Nat.zero_testBit _) (Nat.zero_testBit _) (Nat.zero_testBit _), kSm.tr (kSm.le g4 (by decide +kernel)) hsm⟩
  intro n
  induction n with
  | zero =>
    intro σ cl ρ hn hI hsm hl
    have h14 : kI σ 87 14 = 0 := by have := hI.2.2.2.1; omega
    have hgo := bSeg_ok (Kp := kP) (σ := σ) (σ0 := σ) (ρ := kRv L []) (E := kBe []) (cl := cl) (cs := []) (Q := kQend σs) h bCn_ok k1 (fun B hB => absurd hB List.not_mem_nil) (aXok0 (kEnv hL trivial)) (kMok hI.1 hI.2.1 (by decide +kernel) ⟨⟨by decide, by rw [h14]; rfl⟩, trivial⟩ kNoR) (kL162_ok hl) trivial (hfin hI hsm (by decide) rfl) (fun B hB => absurd hB List.not_mem_nil)
    rw [kM162.1, kM162.2] at hgo
    exact hgo
  | succ n ih =>
    intro σ cl ρ hn hI hsm hl
    obtain ⟨hok, hP, b1, b2, b3, b4, b5, b6⟩ := id hI
    have ht := kOk_at (k := n) hok (by exact rfl) (show bGe 94 n = [(0, 8)] from bGu_ok (by decide +kernel) n)
    have hwn : kI σ 87 14 = (n : Int) + 1 := by omega
    have hE : ∀ {lo hi : Int}, lo ≤ kI σ 94 n ∧ kI σ 94 n ≤ hi → aEok L (kRv L [kI σ 87 14, kI σ 94 n]) (kBe [(.ofNat 1, .ofNat 40), (lo, hi)]) := fun hh => kEnv hL ⟨⟨by show (1 : Int) ≤ kI σ 87 14; omega, by show kI σ 87 14 ≤ (40 : Int); omega⟩, hh, trivial⟩
    have hM : bMok 4 (kRv L [kI σ 87 14, kI σ 94 n]) kP σ (kHv [(14, (2, .ofNat 0))], kRw, 0) σ := kMok hok hP (by decide +kernel) ⟨⟨by decide, (Int.add_zero _).symm⟩, trivial⟩ (kOneR (by decide) (by decide) rfl (by
      show kI σ 94 (kI σ 87 14 + -1).toNat = kI σ 94 n
      rw [show (kI σ 87 14 + -1).toNat = n by omega]))
    by_cases c7 : kI σ 94 n = 7
    · have hgo := bSeg_ok (Kp := kP) (σ := σ) (σ0 := σ) (ρ := kRv L [kI σ 87 14, kI σ 94 n]) (E := kBe [(.ofNat 1, .ofNat 40), (.ofNat 7, .ofNat 7)]) (cl := cl) (cs := []) (Q := kQend σs) h bCn_ok k4 (fun B hB => by rw [List.mem_singleton.mp hB]; rfl) (aXok0 (hE ⟨by show (7 : Int) ≤ kI σ 94 n; omega, by show kI σ 94 n ≤ (7 : Int); omega⟩)) hM (kL162_ok hl) trivial bNo_ok ?_
      · rw [kM162.1, kM162.2] at hgo
        exact hgo
      intro B hB ρ1 cl1 cs1 σ1 hA
      rw [List.mem_singleton] at hB
      subst hB
      obtain ⟨v1, r1, rfl, hv1, hs1⟩ := bSok_c (show bSok 4 ρ1 [.inl (false, 0, .ofNat 0), .inl (false, 0, .ofNat 0), .inl (false, 0, .ofNat 7), .inr [87]] cs1 from hA.2.2)
      obtain ⟨v2, r2, rfl, hv2, hs2⟩ := bSok_c hs1
      obtain ⟨v3, r3, rfl, hv3, hs3⟩ := bSok_c hs2
      obtain ⟨v4, r4, rfl, hv4, hs4⟩ := bSok_c hs3
      obtain ⟨x1, rfl, hx1⟩ := bVok_int hv1
      obtain ⟨x2, rfl, hx2⟩ := bVok_int hv2
      obtain ⟨x3, rfl, hx3⟩ := bVok_int hv3
      have := bVok_one hv4
      subst this
      have := bSok_n hs4
      subst this
      have h0 : ρ1 0 = 0 := hA.env.1.1
      have hx1 : x1.toInt = ρ1 0 + 0 := hx1.2
      have hx2 : x2.toInt = ρ1 0 + 0 := hx2.2
      have hx3 : x3.toInt = ρ1 0 + 7 := hx3.2
      have s1 : kSm 0 σ1 σ := hA.sm
      have hI1 := kIv_sm hI (hA.ok rfl) (hA.kp (show bFg 0 = true by decide +kernel)) s1 (Nat.zero_testBit _) (Nat.zero_testBit _) (Nat.zero_testBit _) (Nat.zero_testBit _) (Nat.zero_testBit _) (Nat.zero_testBit _)
      have i14 : kI σ1 87 14 = kI σ 87 14 := s1.i (Nat.zero_testBit _)
      have i94 : kI σ1 94 n = kI σ 94 n := s1.i (Nat.zero_testBit _)
      obtain ⟨hok1, hP1, d1, d2, d3, d4, d5, d6⟩ := id hI1
      unfold bWa
      rw [show kB162.2.1 = 162 from rfl, kM162.1, kM162.2, show kB162.2.2.1 = 14 from rfl, show kB162.1 = 1 from rfl]
      refine pmWp_iv (k := 202) (mm := 161) (nn := 3) (oo := 12) (p := 87) (rest := []) (as := [.int x3, .int x2, .int x1]) (u := (0, true)) (a := 0) (b := 0) (c := true) rfl rfl rfl rfl rfl (by rw [hok1.1]; rfl) (by decide) ?_
      refine pmCs_mono (kSays h hL (w := 7) (A := 1) (B := 1) (by decide) (by omega) (by omega) (by omega) hok1 hP1 (by omega)) ?_
      rintro v σ2 ⟨rfl, hok2, hP2, s2, c2, z, hz, row2⟩
      have j14 : kI σ2 87 14 = kI σ1 87 14 := s2.i (by decide +kernel)
      have j10 : kI σ2 87 10 = kI σ1 87 10 := s2.i (by decide +kernel)
      have j11 : kI σ2 87 11 = kI σ1 87 11 := s2.i (by decide +kernel)
      have hE2 : aEok L (kRv L [kI σ2 87 14]) (kBe [(.ofNat 1, .ofNat 40)]) := kEnv hL ⟨⟨by show (1 : Int) ≤ kI σ2 87 14; omega, by show kI σ2 87 14 ≤ (40 : Int); omega⟩, trivial⟩
      have hgo := bSeg_ok (Kp := kP) (σ := σ2) (σ0 := σ2) (ρ := kRv L [kI σ2 87 14]) (E := kBe [(.ofNat 1, .ofNat 40)]) (cl := cl1) (cs := []) (Q := kQend σs) h bCn_ok k5 (fun B hB => by rw [List.mem_singleton.mp hB]; rfl) (aXok0 hE2) (kMok hok2 hP2 (by decide +kernel) ⟨⟨by decide, (Int.add_zero _).symm⟩, trivial⟩ kNoR) (kL162_ok hA.2.1) trivial bNo_ok ?_
      · rw [kM162.1, kM162.2] at hgo
        exact hgo
      intro B hB ρ3 cl3 cs3 σ3 hA3
      rw [List.mem_singleton] at hB
      subst hB
      have := bSok_n (show bSok 3 ρ3 [] cs3 from hA3.2.2)
      subst this
      have s3 : kSm kWep σ3 σ2 := hA3.sm
      have hok3 : kOk σ3 := kOk_m (E := kBe [(.ofNat 1, .ofNat 40)]) hA3.env (by decide +kernel) hA3.1.2.1
      have hP3 := hA3.kp (show bFg kWep = true by decide +kernel)
      have e2 : ρ3 2 = kI σ2 87 14 := hA3.ext 2 (by decide)
      have l14 : kI σ3 87 14 = ρ3 2 + -1 := kCell (f := (2, .negSucc 0)) hA3 (by decide +kernel) rfl
      have l15 : kI σ3 87 15 = kI σ2 87 15 := s3.i (by decide +kernel)
      have l10 : kI σ3 87 10 = kI σ2 87 10 := s3.i (by decide +kernel)
      have l11 : kI σ3 87 11 = kI σ2 87 11 := s3.i (by decide +kernel)
      have w3 : kWts σ3 = kWts σ1 := funext fun j => (s3.r (by decide +kernel) (by decide +kernel) j).trans (s2.r (by decide +kernel) (by decide +kernel) j)
      have q3 : ∀ j : Nat, kSaid σ3 j = if (j : Int) = kI σ1 87 15 then z else kSaid σ1 j := fun j => (s3.r (by decide +kernel) (by decide +kernel) j).trans (row2 j)
      unfold bWa
      rw [show kB17.2.1 = 162 from rfl, kM162.1, kM162.2, show kB17.2.2.1 = 0 from rfl, show kB17.1 = 1 from rfl]
      refine ih σ3 cl3 (kRv L []) (by omega) ⟨hok3, hP3, by omega, by omega, by omega, by omega, by omega, ?_⟩ ?_ (kL162_ok hA3.2.1)
      · have h15 : (kI σ3 87 15).toNat = (kI σ1 87 15).toNat + 1 := by omega
        have hq0 : kSaid σ3 (kI σ1 87 15).toNat = z := by
          rw [q3]
          exact if_pos (by omega)
        rw [h15, kD_say d6 (fun j hj => by rw [q3, if_neg (by omega)]), hq0, hz]
        have hb : kBn (kWts σ1) (kI σ1 87 14).toNat = kBn (kWts σ3) (kI σ3 87 14).toNat := by
          rw [w3, show (kI σ1 87 14).toNat = (kI σ3 87 14).toNat + 1 by omega]
          show kBn (kWts σ1) (kI σ3 87 14).toNat + _ = _
          have : kWts σ1 (kI σ3 87 14).toNat = 7 := by
            rw [show (kI σ3 87 14).toNat = n by omega]
            exact i94.trans c7
          rw [this]
          rfl
        rw [← hb]
        show (if ((7 : Nat) : Int) < 5 then _ else _) = _
        rw [if_neg (by decide), if_pos (show ((7 : Nat) : Int) = 7 from rfl), if_pos (show 1 ≤ kBn (kWts σ1) (kI σ1 87 14).toNat + 1 by omega)]
      · exact kSm.tr (kSm.le s3 (by decide +kernel)) (kSm.tr (kSm.le s2 (by decide +kernel)) (kSm.tr (kSm.le s1 (by decide +kernel)) hsm))
    · by_cases c8 : kI σ 94 n = 8
      · have hgo := bSeg_ok (Kp := kP) (σ := σ) (σ0 := σ) (ρ := kRv L [kI σ 87 14, kI σ 94 n]) (E := kBe [(.ofNat 1, .ofNat 40), (.ofNat 8, .ofNat 8)]) (cl := cl) (cs := []) (Q := kQend σs) h bCn_ok k3 (fun B hB => absurd hB List.not_mem_nil) (aXok0 (hE ⟨by show (8 : Int) ≤ kI σ 94 n; omega, by show kI σ 94 n ≤ (8 : Int); omega⟩)) hM (kL162_ok hl) trivial (hfin hI hsm (by decide) rfl) (fun B hB => absurd hB List.not_mem_nil)
        rw [kM162.1, kM162.2] at hgo
        exact hgo
      · have hgo := bSeg_ok (Kp := kP) (σ := σ) (σ0 := σ) (ρ := kRv L [kI σ 87 14, kI σ 94 n]) (E := kBe [(.ofNat 1, .ofNat 40), (.ofNat 0, .ofNat 6)]) (cl := cl) (cs := []) (Q := kQend σs) h bCn_ok k2 (fun B hB => absurd hB List.not_mem_nil) (aXok0 (hE ⟨by show (0 : Int) ≤ kI σ 94 n; omega, by show kI σ 94 n ≤ (6 : Int); omega⟩)) hM (kL162_ok hl) trivial (hfin hI hsm (by decide) rfl) (fun B hB => absurd hB List.not_mem_nil)
        rw [kM162.1, kM162.2] at hgo
        exact hgo
theorem kEnds (h : bHyp ro L kP) (hL : 0 ≤ L.1 ∧ L.1 ≤ 3072) (hI : kIv 1 σ) : pmCs ro 2 162 [.ref 87] σ (kQend σ) := by
  refine bEc_ok (n := 2) (ρ := kRv L []) (aB := [.inr [87]]) (pl := kL162) (by decide +kernel) ⟨List.mem_singleton.mpr rfl, trivial⟩ fun cl hl => ?_
  rw [kM162.1, kM162.2]
  exact kEndsL h hL _ σ cl (kRv L []) rfl hI kSm.rf hl
end
end
