section
/-! by hand: isHeld holds its contract -/
section
set_option maxRecDepth 100000
variable {ro : Nat → Nat × (Nat → Int32)} {L : aLa} {σ σs : pmS} {cl : pmL}
def kR187 (L : aLa) (lv f k n i m v : Int) : Nat → Int := fun w => match w with
  | 0 => 0
  | 1 => L.1
  | 2 => lv
  | 3 => f
  | 4 => k
  | 5 => n
  | 6 => i
  | 7 => m
  | 8 => v
  | _ => 0
def kQ187 (σs : pmS) : Option Value → pmS → Prop := fun v σ' => ∃ x : Int32, v = some (.int x) ∧ 0 ≤ x.toInt ∧ x.toInt ≤ 1 ∧ kOk σ' ∧ kP σ' ∧ kSm kW187 σ' σs
theorem kV99_eq : bGu 99 = some kV99 := by decide +kernel
theorem kC187_mem {f k : Nat} (hf : 1 ≤ f ∧ f ≤ 3) (hk : k ≤ 2) : (f, k) ∈ kC187 := by
  have : (f = 1 ∨ f = 2 ∨ f = 3) ∧ (k = 0 ∨ k = 1 ∨ k = 2) := by omega
  obtain ⟨rfl | rfl | rfl, rfl | rfl | rfl⟩ := this <;> decide
theorem kP_re {n n2 : Nat} {ρ ρ2 : Nat → Int} {f k : Nat} {dn dc en ec : Int} (h : bLok n ρ (kP187 f k dn dc) cl) (hn : 7 ≤ n2) (h0 : ρ 0 = ρ2 0) (h2 : ρ 2 = ρ2 2) (h3 : ρ 3 = ρ2 3) (h4 : ρ 4 = ρ2 4) (h5 : ρ 5 + dn = ρ2 5 + en) (h6 : ρ 6 + dc = ρ2 6 + ec) : bLok n2 ρ2 (kP187 f k en ec) cl := by
  refine bLok_re h rfl fun i b hb => ?_
  match i, hb with
  | 0, hb => cases hb; exact ⟨_, rfl, fun v hv => by rw [bVok_one hv]; exact List.mem_singleton.mpr rfl⟩
  | 1, hb => cases hb; exact ⟨_, rfl, bVok_re (by show 2 < n2; omega) (by show ρ 2 + 0 = ρ2 2 + 0; omega)⟩
  | 2, hb => cases hb; exact ⟨_, rfl, bVok_re (by show 3 < n2; omega) (by show ρ 3 + 0 = ρ2 3 + 0; omega)⟩
  | 3, hb => cases hb; exact ⟨_, rfl, bVok_re (by show 4 < n2; omega) (by show ρ 4 + 0 = ρ2 4 + 0; omega)⟩
  | 4, hb => cases hb; exact ⟨_, rfl, bVok_re (by show 0 < n2; omega) (by show ρ 0 + ((3 * f + k : Nat) : Int) = ρ2 0 + ((3 * f + k : Nat) : Int); omega)⟩
  | 5, hb => cases hb; exact ⟨_, rfl, bVok_re (by show 5 < n2; omega) (by show ρ 5 + dn = ρ2 5 + en; omega)⟩
  | 6, hb => cases hb; exact ⟨_, rfl, bVok_re (by show 6 < n2; omega) (by show ρ 6 + (((60 * (3 * f + k) : Nat) : Int) + dc) = ρ2 6 + (((60 * (3 * f + k) : Nat) : Int) + ec); omega)⟩
  | 7, hb => cases hb
  | i + 8, hb => cases hb
theorem kTurn (h : bHyp ro L kP) (hL : 0 ≤ L.1 ∧ L.1 ≤ 3072) {f k : Nat} (hf : 1 ≤ f ∧ f ≤ 3) (hk : k ≤ 2) {lv : Int} (hlv : 0 ≤ lv ∧ lv ≤ 4) : ∀ (t n i : Nat) (σ : pmS) (cl : pmL), kOk σ → kP σ → kSm kW187 σ σs → (i : Int) + t = kI σ 98 (3 * f + k) → kD (fun j => kI σ 99 (60 * (3 * f + k) + j)) i = some n → bLok 7 (kR187 L lv f k n i 0 0) (kP187 f k 0 0) cl → pmWp ro 2 12 187 2 17 cl [] σ (kQ187 σs) := by
  have hg98 : ∀ j, bGe 98 j = [(0, 60)] := fun j => bGu_ok (by decide +kernel) j
  have hg99 : ∀ j, bGe 99 j = kV99 := fun j => bGu_ok kV99_eq j
  have hcm := kC187_mem hf hk
  have ha := List.all_eq_true.mp kS187a _ hcm
  rw [Bool.and_eq_true] at ha
  have hb := List.all_eq_true.mp kS187b _ hcm
  intro t
  induction t with
  | zero =>
    intro n i σ cl hok hP hsm hm hd hl
    have hni := kD_le hd
    have hm60 : kI σ 98 (3 * f + k) ≤ 60 := by
      have := hok.2 98 (3 * f + k)
      rw [hg98, kI_z rfl] at this
      obtain ⟨j, hj, g1, g2⟩ := this
      rw [List.mem_singleton] at hj
      subst hj
      exact g2
    have hE : aEok L (kR187 L lv f k n i 0 0) (kX187 f k) := by
      refine ⟨⟨rfl, rfl, (by decide : 1 < 7)⟩, fun v j hj => ?_⟩
      match v, hj with
      | 0, hj => cases hj; exact ⟨Int.le_refl _, Int.le_refl _⟩
      | 1, hj => cases hj; exact hL
      | 2, hj => cases hj; exact hlv
      | 3, hj => cases hj; exact ⟨Int.le_refl _, Int.le_refl _⟩
      | 4, hj => cases hj; exact ⟨Int.le_refl _, Int.le_refl _⟩
      | 5, hj => cases hj; exact ⟨by show (0 : Int) ≤ (n : Int); omega, by show (n : Int) ≤ 60; omega⟩
      | 6, hj => cases hj; exact ⟨by show (0 : Int) ≤ (i : Int); omega, by show (i : Int) ≤ 60; omega⟩
      | v + 7, hj => cases hj
    have hend : bFinOk L 7 (kR187 L lv f k n i 0 0) kP σ (bFi 7 [(some (.inl (false, 7, .ofNat 0)), kY187 f k, [])] kW187) (kQ187 σs) := bFin_mono (bFi_ok (E0 := kX187 f k) (by decide) rfl (Nat.le_refl _) aExt.rf) fun v σ' hh => by
      obtain ⟨al, hal, ρ', a1, a2, a3, a4, a5⟩ := hh
      rw [List.mem_singleton] at hal
      subst hal
      cases v with
      | none => exact a4.elim
      | some v =>
        obtain ⟨x, rfl, hx⟩ := bVok_int a4
        have hx : x.toInt = ρ' 7 + 0 := hx.2
        have b7 : (0 : Int) ≤ ρ' 7 ∧ ρ' 7 ≤ (1 : Int) := a3.2 7 _ rfl
        exact ⟨x, rfl, by omega, by omega, ⟨a5.1, fun p k => a5.2.1 p k⟩, a5.2.2.2.2 (show bFg kW187 = true by decide +kernel), kSm.tr a5.2.2.2.1 hsm⟩
    have hgo := bSeg_ok (Kp := kP) (σ := σ) (σ0 := σ) (ρ := kR187 L lv f k n i 0 0) (E := kX187 f k) (cl := cl) (cs := []) (Q := kQ187 σs) h bCn_ok ha.2 (fun B hB => absurd hB List.not_mem_nil) (aXok0 hE) ⟨hok.1, bHok_c (kOk_hok hok) rfl (show 6 < 7 by decide) (by
      rw [kI_z rfl]
      show kI σ 98 (3 * f + k) = (i : Int) + 0
      omega), fun q hq => absurd hq List.not_mem_nil, fun p k _ => ⟨rfl, rfl⟩, fun _ => hP⟩ hl trivial hend (fun B hB => absurd hB List.not_mem_nil)
    rw [kM187.1, kM187.2] at hgo
    exact hgo
  | succ t ih =>
    intro n i σ cl hok hP hsm hm hd hl
    have hni := kD_le hd
    have hm60 : kI σ 98 (3 * f + k) ≤ 60 := by
      have := hok.2 98 (3 * f + k)
      rw [hg98, kI_z rfl] at this
      obtain ⟨j, hj, g1, g2⟩ := this
      rw [List.mem_singleton] at hj
      subst hj
      exact g2
    -- the code that stands here
    have hv := hok.2 99 (60 * (3 * f + k) + i)
    rw [hg99, kI_z rfl] at hv
    obtain ⟨iv0, hiv0, hv1, hv2⟩ := hv
    have hb0 := List.all_eq_true.mp hb iv0 hiv0
    simp only [Bool.and_eq_true, decide_eq_true_eq] at hb0
    obtain ⟨hb1, hb2, hb3⟩ := hb0
    obtain ⟨iv, hivm, hw1, hw2, hdv⟩ : ∃ iv ∈ kSp iv0, iv.1 ≤ kI σ 99 (60 * (3 * f + k) + i) ∧ kI σ 99 (60 * (3 * f + k) + i) ≤ iv.2 ∧ iv.1 / 256 = kI σ 99 (60 * (3 * f + k) + i) / 256 := by
      unfold kSp
      by_cases c : (1024 ≤ iv0.1 ∧ iv0.2 < 1280)
      · have e : (decide (1024 ≤ iv0.1) && decide (iv0.2 < 1280)) = true := by rw [Bool.and_eq_true, decide_eq_true_eq, decide_eq_true_eq]; exact c
        rw [e, cond_true]
        refine ⟨_, List.mem_map.mpr ⟨(kI σ 99 (60 * (3 * f + k) + i) - iv0.1).toNat, List.mem_range.mpr (by omega), rfl⟩, ?_, ?_, ?_⟩
        · show iv0.1 + (((kI σ 99 (60 * (3 * f + k) + i) - iv0.1).toNat : Nat) : Int) ≤ _
          omega
        · show _ ≤ iv0.1 + (((kI σ 99 (60 * (3 * f + k) + i) - iv0.1).toNat : Nat) : Int)
          omega
        · show (iv0.1 + (((kI σ 99 (60 * (3 * f + k) + i) - iv0.1).toNat : Nat) : Int)) / 256 = _
          congr 1
          omega
      · have e : (decide (1024 ≤ iv0.1) && decide (iv0.2 < 1280)) = false := by
          rw [← Bool.not_eq_true, Bool.and_eq_true, decide_eq_true_eq, decide_eq_true_eq]
          exact c
        rw [e, cond_false]
        refine ⟨_, List.mem_singleton.mpr rfl, hv1, hv2, ?_⟩
        omega
    have hchk := List.all_eq_true.mp hb3 iv hivm
    -- one code further
    have hnx : kD (fun j => kI σ 99 (60 * (3 * f + k) + j)) (i + 1) ≠ none := by
      refine kD_pre (m := (kI σ 98 (3 * f + k)).toNat) (by omega) ?_
      exact hP.2.1 (3 * f + k) (by omega)
    obtain ⟨n2, hn2⟩ : ∃ n2, kD (fun j => kI σ 99 (60 * (3 * f + k) + j)) (i + 1) = some n2 := by
      cases hc : kD (fun j => kI σ 99 (60 * (3 * f + k) + j)) (i + 1) with
      | none => exact absurd hc hnx
      | some n2 => exact ⟨n2, rfl⟩
    have hstep : (n2 : Int) = n + kDl iv.1 ∧ kLo iv.1 ≤ n := by
      have h1 := hn2
      unfold kD at h1
      rw [hd] at h1
      simp only at h1
      unfold kDl kLo
      rw [hdv]
      split at h1
      · rename_i c
        rw [if_pos c, if_pos c]
        cases h1
        omega
      · rename_i c
        rw [if_neg c, if_neg c]
        split at h1
        · rename_i c2
          rw [if_pos c2, if_pos c2]
          split at h1
          · cases h1; omega
          · cases h1
        · rename_i c2
          rw [if_neg c2, if_neg c2]
          split at h1
          · cases h1; omega
          · cases h1
    have hE : aEok L (kR187 L lv f k n i (kI σ 98 (3 * f + k)) (kI σ 99 (60 * (3 * f + k) + i))) (kT187 f k iv) := by
      refine ⟨⟨rfl, rfl, (by decide : 1 < 9)⟩, fun v j hj => ?_⟩
      match v, hj with
      | 0, hj => cases hj; exact ⟨Int.le_refl _, Int.le_refl _⟩
      | 1, hj => cases hj; exact hL
      | 2, hj => cases hj; exact hlv
      | 3, hj => cases hj; exact ⟨Int.le_refl _, Int.le_refl _⟩
      | 4, hj => cases hj; exact ⟨Int.le_refl _, Int.le_refl _⟩
      | 5, hj => cases hj; exact ⟨hstep.2, by show (n : Int) ≤ 59; omega⟩
      | 6, hj => cases hj; exact ⟨by show (0 : Int) ≤ (i : Int); omega, by show (i : Int) ≤ 59; omega⟩
      | 7, hj => cases hj; exact ⟨by show (1 : Int) ≤ kI σ 98 (3 * f + k); omega, by show kI σ 98 (3 * f + k) ≤ 60; omega⟩
      | 8, hj => cases hj; exact ⟨hw1, hw2⟩
      | v + 9, hj => cases hj
    have hl9 : bLok 9 (kR187 L lv f k n i (kI σ 98 (3 * f + k)) (kI σ 99 (60 * (3 * f + k) + i))) (kP187 f k 0 0) cl := kP_re hl (by decide) rfl rfl rfl rfl rfl rfl
    have hgo := bSeg_ok (Kp := kP) (σ := σ) (σ0 := σ) (ρ := kR187 L lv f k n i (kI σ 98 (3 * f + k)) (kI σ 99 (60 * (3 * f + k) + i))) (E := kT187 f k iv) (cl := cl) (cs := []) (Q := kQ187 σs) h bCn_ok hchk (fun B hB => by rw [List.mem_singleton.mp hB]; rfl) ⟨hE, ⟨fun q hq => ?_, fun q hq => absurd hq List.not_mem_nil⟩⟩ ⟨hok.1, bHok_c (kOk_hok hok) rfl (show 7 < 9 by decide) (by
      rw [kI_z rfl]
      exact (Int.add_zero _).symm), fun q hq => ?_, fun p k _ => ⟨rfl, rfl⟩, fun _ => hP⟩ hl9 trivial bNo_ok ?_
    · rw [kM187.1, kM187.2] at hgo
      exact hgo
    · rw [List.mem_singleton] at hq
      subst hq
      refine ⟨(show 6 < 9 by decide), (show 7 < 9 by decide), ?_⟩
      show (i : Int) - kI σ 98 (3 * f + k) ≤ -1
      omega
    · rw [List.mem_singleton] at hq
      subst hq
      refine ⟨(show 6 < 9 by decide), fun _ => ⟨(show 8 < 9 by decide), ?_⟩⟩
      show bZ σ 99 ((i : Int) + ((60 * (3 * f + k) : Nat) : Int)).toNat = kI σ 99 (60 * (3 * f + k) + i) + 0
      rw [kI_z rfl, show ((i : Int) + ((60 * (3 * f + k) : Nat) : Int)).toNat = 60 * (3 * f + k) + i by omega, Int.add_zero]
    · intro B hB ρ' cl' cs' σ' hA
      rw [List.mem_singleton] at hB
      subst hB
      have := bSok_n (show bSok 9 ρ' [] cs' from hA.2.2)
      subst this
      have hok' := hA.ok rfl
      have hP' := hA.kp (show bFg kW187 = true by decide +kernel)
      have hsm' : kSm kW187 σ' σ := hA.sm
      have q1 : ∀ j, kI σ' 98 j = kI σ 98 j := fun j => by
        unfold kI
        rw [(hsm' 98 j (by rw [bRg_sing (by decide +kernel) j 0]; decide +kernel)).1]
      have q2 : ∀ j, kI σ' 99 j = kI σ 99 j := fun j => by
        unfold kI
        rw [(hsm' 99 j (by rw [bRg_sing (by decide +kernel) j 0]; decide +kernel)).1]
      have e : ∀ v, v < 9 → ρ' v = kR187 L lv f k n i (kI σ 98 (3 * f + k)) (kI σ 99 (60 * (3 * f + k) + i)) v := fun v hv => hA.ext v hv
      unfold bWa
      rw [show (kBt187 f k iv).2.1 = 187 from rfl, kM187.1, kM187.2]
      refine ih n2 (i + 1) σ' cl' hok' hP' (kSm.tr hsm' hsm) (by rw [q1]; omega) ?_ ?_
      · have : (fun j => kI σ' 99 (60 * (3 * f + k) + j)) = fun j => kI σ 99 (60 * (3 * f + k) + j) := funext fun j => q2 _
        rw [this]
        exact hn2
      · refine kP_re (show bLok 9 ρ' (kP187 f k (kDl iv.1) 1) cl' from hA.2.1) (by decide) (e 0 (by decide)) (e 2 (by decide)) (e 3 (by decide)) (e 4 (by decide)) ?_ ?_
        · rw [e 5 (by decide)]
          show (n : Int) + kDl iv.1 = (n2 : Int) + 0
          omega
        · rw [e 6 (by decide)]
          show (i : Int) + 1 = ((i + 1 : Nat) : Int) + 0
          omega
theorem kHeld (h : bHyp ro L kP) : bCok ro L kP bC187 := by
  intro ρ vs σ hE hM hs
  have hE : aEok L ρ [(.ofNat 0, .ofNat 0), (.ofNat 0, .ofNat 3072), (.ofNat 0, .ofNat 4), (.ofNat 1, .ofNat 3), (.ofNat 0, .ofNat 2)] := hE
  have hM : bMok 5 ρ kP σ ([], [], 0) σ := hM
  have hs : bSok 5 ρ [.inr [87], .inl (false, 2, .ofNat 0), .inl (false, 3, .ofNat 0), .inl (false, 4, .ofNat 0)] vs := hs
  have hok := kOk_of hM
  have hP : kP σ := hM.2.2.2.2 (show bFg 0 = true by decide +kernel)
  have hN : 0 ≤ L.1 ∧ L.1 ≤ 3072 := by
    obtain ⟨_, Ln, xs, _, e2, e3⟩ := h
    rw [e2]
    exact ⟨by show (0 : Int) ≤ (Ln : Int); omega, by show (Ln : Int) ≤ 3072; omega⟩
  have c2 : (0 : Int) ≤ ρ 2 ∧ ρ 2 ≤ (4 : Int) := hE.2 2 _ rfl
  have c3 : (1 : Int) ≤ ρ 3 ∧ ρ 3 ≤ (3 : Int) := hE.2 3 _ rfl
  have c4 : (0 : Int) ≤ ρ 4 ∧ ρ 4 ≤ (2 : Int) := hE.2 4 _ rfl
  obtain ⟨f, hf⟩ : ∃ f : Nat, ρ 3 = f := ⟨(ρ 3).toNat, by omega⟩
  obtain ⟨k, hk⟩ : ∃ k : Nat, ρ 4 = k := ⟨(ρ 4).toNat, by omega⟩
  suffices hg : pmCs ro 3 187 vs σ (kQ187 σ) by
    refine pmCs_mono hg ?_
    rintro v σ' ⟨x, rfl, x1, x2, x3, x4, x5⟩
    refine ⟨_, List.mem_singleton.mpr rfl, fun v => if v = 5 then x.toInt else ρ v, fun v hv => if_neg (by have hv : v < 5 := hv; omega), by decide, ⟨⟨hE.1.1, hE.1.2.1, by decide⟩, fun v j hj => ?_⟩, ⟨(by decide : 5 < 6), (Int.add_zero _).symm⟩, x3.1, fun p k => x3.2 p k, fun q hq => absurd hq List.not_mem_nil, x5, fun _ => x4⟩
    match v, hj with
    | 0, hj => cases hj; exact hE.2 0 _ rfl
    | 1, hj => cases hj; exact hE.2 1 _ rfl
    | 2, hj => cases hj; exact hE.2 2 _ rfl
    | 3, hj => cases hj; exact hE.2 3 _ rfl
    | 4, hj => cases hj; exact hE.2 4 _ rfl
    | 5, hj => cases hj; exact ⟨x1, x2⟩
    | v + 6, hj => cases hj
  have hE5 : aEok L ρ (kE187 f k) := by
    refine ⟨⟨hE.1.1, hE.1.2.1, (by decide : 1 < 5)⟩, fun v j hj => ?_⟩
    match v, hj with
    | 0, hj => cases hj; exact hE.2 0 _ rfl
    | 1, hj => cases hj; exact hE.2 1 _ rfl
    | 2, hj => cases hj; exact hE.2 2 _ rfl
    | 3, hj => cases hj; exact ⟨by show (f : Int) ≤ ρ 3; omega, by show ρ 3 ≤ (f : Int); omega⟩
    | 4, hj => cases hj; exact ⟨by show (k : Int) ≤ ρ 4; omega, by show ρ 4 ≤ (k : Int); omega⟩
    | v + 5, hj => cases hj
  have ha := List.all_eq_true.mp kS187a _ (kC187_mem (f := f) (k := k) (by omega) (by omega))
  rw [Bool.and_eq_true] at ha
  refine bEc_ok (pl := kP0) (by decide +kernel) hs fun cl hl => ?_
  refine bSeg_ok (E := kE187 f k) h bCn_ok ha.1 (fun B hB => by rw [List.mem_singleton.mp hB]; rfl) (aXok0 hE5) hM hl trivial bNo_ok ?_
  intro B hB ρ' cl' cs' σ' hA
  rw [List.mem_singleton] at hB
  subst hB
  have := bSok_n (show bSok 5 ρ' [] cs' from hA.2.2)
  subst this
  have hok' := hA.ok rfl
  have hP' := hA.kp (show bFg 0 = true by decide +kernel)
  have h98 : 0 ≤ kI σ' 98 (3 * f + k) := by
    have := hok'.2 98 (3 * f + k)
    rw [show bGe 98 (3 * f + k) = [(0, 60)] from bGu_ok (by decide +kernel) _, kI_z rfl] at this
    obtain ⟨j, hj, g1, g2⟩ := this
    rw [List.mem_singleton] at hj
    subst hj
    exact g1
  have e0 : ρ' 0 = 0 := hA.env.1.1
  have e2 : ρ' 2 = ρ 2 := hA.ext 2 (show 2 < 5 by decide)
  have e3 : ρ' 3 = ρ 3 := hA.ext 3 (show 3 < 5 by decide)
  have e4 : ρ' 4 = ρ 4 := hA.ext 4 (show 4 < 5 by decide)
  unfold bWa
  rw [show (kB187 f k).2.1 = 187 from rfl, kM187.1, kM187.2]
  refine kTurn (σs := σ) h hN (f := f) (k := k) (by omega) (by omega) (lv := ρ 2) c2 (kI σ' 98 (3 * f + k)).toNat 0 0 σ' cl' hok' hP' (kSm.le (show kSm 0 σ' σ from hA.sm) (by decide +kernel)) (by omega) rfl ?_
  refine bLok_re (show bLok 5 ρ' (kP1 f k) cl' from hA.2.1) rfl fun i b hb => ?_
  match i, hb with
  | 0, hb => cases hb; exact ⟨_, rfl, fun v hv => by rw [bVok_one hv]; exact List.mem_singleton.mpr rfl⟩
  | 1, hb => cases hb; exact ⟨_, rfl, bVok_re (show 2 < 7 by decide) (by show ρ' 2 + 0 = ρ 2 + 0; omega)⟩
  | 2, hb => cases hb; exact ⟨_, rfl, bVok_re (show 3 < 7 by decide) (by show ρ' 3 + 0 = (f : Int) + 0; omega)⟩
  | 3, hb => cases hb; exact ⟨_, rfl, bVok_re (show 4 < 7 by decide) (by show ρ' 4 + 0 = (k : Int) + 0; omega)⟩
  | 4, hb => cases hb; exact ⟨_, rfl, bVok_re (show 0 < 7 by decide) (by show ρ' 0 + ((3 * f + k : Nat) : Int) = 0 + ((3 * f + k : Nat) : Int); omega)⟩
  | 5, hb => cases hb; exact ⟨_, rfl, bVok_re (show 5 < 7 by decide) (by show ρ' 0 + 0 = ((0 : Nat) : Int) + 0; omega)⟩
  | 6, hb => cases hb; exact ⟨_, rfl, bVok_re (show 6 < 7 by decide) (by show ρ' 0 + ((60 * (3 * f + k) : Nat) : Int) = ((0 : Nat) : Int) + (((60 * (3 * f + k) : Nat) : Int) + 0); omega)⟩
  | 7, hb => cases hb
  | i + 8, hb => cases hb
end
end
section
/-! by hand: firstDeed, which needs a free place in the memo -/
section
set_option maxRecDepth 100000
variable {ro : Nat → Nat × (Nat → Int32)} {L : aLa} {Kp : pmS → Prop} {σ0 σ σ' σ1 : pmS} {ρ ρ' ρ0 : Nat → Int} {cl : pmL} {cs vs : List Value} {Q Q' : Option Value → pmS → Prop} {n n2 p k : Nat}
def kW199 : Nat := 51061435180949297916680261507256176784884956720250032126538350396122357006989143058364894741650363909065531124857015825971888149926813574131285063198676779300694978931628473300112838107558274651398197463841192191909874565178165684876182215230212039943001349272630550629701639320000844929913449387195622445150859099833937256806082934074526167766699346548322657738808793991792093363867530822100715702028394481984787763967227480855638368304086645302203473200202577160750837430342192821475326569750724608
def kW190 : Nat := 12615178103528650073532770490027996617442165777944125584203592450806699966432611814419562230290089906945601807317615674651878248805448059491258662672614263121348171265461152227086701179514397266816025255772529835648321951396958580969409723762758268691800333349708724273220405008470796982684499260365977309978447542311913910505032254300765288507066897382526774264882172633266281889896684085460176820501132754371741683367885063664406278635355761597925746673656278849705928209862748313065490839580442624
def kW115 : Nat := 25630838051613765228764994011485453444961860628203937694889838630210438027037687495963555007573516001413286211692933434213339934080910343093350933684041677452897871777444880715350757952029251589721448138712441570841035075854138069271181660978302514167467343948614550904320822874353365298152633417886430090114941038348015564200700453182507252839754966110530588982617747572350540982647231157760359254351507818405981339097782296679130132194608084921449859826142950539848418881180454605922108211868991488
def kE199 : aE := [(.ofNat 0, .ofNat 0), (.ofNat 0, .ofNat 3072), (.ofNat 1, .ofNat 3), (.ofNat 0, .ofNat 2)]
def kG199 (lo hi : Int) : aE := [(.ofNat 0, .ofNat 0), (.ofNat 0, .ofNat 3072), (.ofNat 1, .ofNat 3), (.ofNat 0, .ofNat 2), (.ofNat 16561393893376, .ofNat 25861429692552), (lo, hi)]
def kH199 : aE := [(.ofNat 0, .ofNat 0), (.ofNat 0, .ofNat 3072), (.ofNat 1, .ofNat 3), (.ofNat 0, .ofNat 2), (.ofNat 16561393893376, .ofNat 25861429692552), (.ofNat 0, .ofNat 4095), (.negSucc 0, .ofNat 40)]
def kJ199 : aE := [(.ofNat 0, .ofNat 0), (.ofNat 0, .ofNat 3072), (.ofNat 1, .ofNat 3), (.ofNat 0, .ofNat 2), (.ofNat 16561393893376, .ofNat 25861429692552), (.ofNat 0, .ofNat 4095), (.negSucc 0, .ofNat 40), (.ofNat 0, .ofNat 2999)]
def kL199 (a x : Option bV) : bL := [some (.inr [87]), some (.inl (false, 2, .ofNat 0)), some (.inl (false, 3, .ofNat 0)), some (.inl (true, 4, .ofNat 0)), none, a, x]
def kI5 : Option bV := some (.inl (false, 5, .ofNat 0))
def kI6 : Option bV := some (.inl (false, 6, .ofNat 0))
def kP199 : bL := [some (.inr [87]), some (.inl (false, 2, .ofNat 0)), some (.inl (false, 3, .ofNat 0)), none, none, none, none]
def kB15 : bNq := bPc 11 199 15 (kL199 kI5 none) [] (kG199 (.ofNat 0) (.ofNat 4095)) [] [] 0
def kB60 (lo hi : Int) : bNq := bPc 11 199 60 (kL199 kI5 none) [] (kG199 lo hi) [] [] 0
def kB15n (f : aF) (lo hi : Int) : bNq := bPc 11 199 15 (kL199 (some (.inl (false, f))) none) [] (kG199 lo hi) [] [] 0
def kA15 (lo hi : Int) : bNq := bPc 11 199 15 (kL199 kI5 none) [] (kG199 lo hi) [] [] 0
def kB120 : bNq := bPc 11 199 120 (kL199 kI5 kI6) [.inl (true, 4, .ofNat 0), .inl (false, 5, .ofNat 0), .inr [114]] kJ199 [] [(87, [(41, .inl (7, .ofNat 0))])] kW190
def kB139 : bNq := bPc 11 199 139 (kL199 kI5 kI6) [.inl (false, 7, .ofNat 1), .inr [87]] kJ199 [] [] kW115
theorem kS199 : (bSeg (bCc []) bNo [kB15] (bPc 11 199 0 kP199 [] kE199 [] [] 0) [] && (bSeg (bCc []) bNo [kB60 (.ofNat 0) (.ofNat 4095)] (kA15 (.ofNat 0) (.ofNat 4095)) [(114, (5, .ofNat 0), (0, .ofNat 0))] && (bSeg (bCc []) bNo [kB15n (5, .ofNat 1) (.ofNat 0) (.ofNat 4094), kB60 (.ofNat 0) (.ofNat 4094)] (kA15 (.ofNat 0) (.ofNat 4094)) [] && bSeg (bCc []) bNo [kB15n (0, .ofNat 0) (.ofNat 4095) (.ofNat 4095), kB60 (.ofNat 4095) (.ofNat 4095)] (kA15 (.ofNat 4095) (.ofNat 4095)) []))) = true := by decide +kernel
theorem kS199b : (bSeg (bCc [bC190]) (bFi 6 [(some (.inl (false, 6, .ofNat 0)), kH199, [])] kW190) [kB120] (kB60 (.ofNat 0) (.ofNat 4095)) [] && (bSeg (bCc []) bNo [kB139] (bPc 11 199 121 (kL199 kI5 kI6) [] kJ199 [] [(87, [(41, .inl (7, .ofNat 0))])] 0) [] && bSeg (bCc []) (bFi 8 [(some (.inl (false, 6, .ofNat 0)), kJ199, [])] 0) [] (bPc 11 199 142 (kL199 kI5 kI6) [] kJ199 [] [] 0) [])) = true := by decide +kernel
theorem kM199 : (bMk bSp 199).1 = 12 ∧ (bMk bSp 199).2.2.1 = 1 := by decide +kernel
/-- one place changed: one more at most -/
theorem kCnt {f g : Nat → Bool} {a : Nat} (h : ∀ j, j ≠ a → f j = g j) : ∀ n, (List.range n).countP f ≤ (List.range n).countP g + (if a < n then 1 else 0)
  | 0 => Nat.zero_le _
  | n + 1 => by
    have ih := kCnt h n
    rw [List.range_succ, List.countP_append, List.countP_append, List.countP_singleton, List.countP_singleton]
    by_cases c : n = a
    · subst c
      rw [if_neg (Nat.lt_irrefl _)] at ih
      rw [if_pos (Nat.lt_succ_self _)]
      have : (if f n = true then 1 else 0) ≤ 1 := by split <;> omega
      omega
    · rw [h n c]
      by_cases c2 : a < n
      · rw [if_pos c2] at ih
        rw [if_pos (show a < n + 1 by omega)]
        omega
      · rw [if_neg c2] at ih
        rw [if_neg (show ¬ a < n + 1 by omega)]
        omega
def kRa (ρ : Nat → Int) (a : Int) : Nat → Int := fun v => if v = 5 then a else ρ v
def kQ199 (σ1 : pmS) : Option Value → pmS → Prop := fun v σ' => ∃ x : Int32, v = some (.int x) ∧ -1 ≤ x.toInt ∧ x.toInt ≤ 40 ∧ kOk σ' ∧ kP σ' ∧ kSm kW199 σ' σ1
theorem kG_ok {lo hi a : Int} {lo0 hi0 : Int} (hE : aEok L ρ (kG199 lo0 hi0)) (h1 : lo ≤ a) (h2 : a ≤ hi) : aEok L (kRa ρ a) (kG199 lo hi) := by
  refine ⟨⟨hE.1.1, hE.1.2.1, (by decide : 1 < 6)⟩, fun v j hj => ?_⟩
  match v, hj with
  | 0, hj => cases hj; exact hE.2 0 _ rfl
  | 1, hj => cases hj; exact hE.2 1 _ rfl
  | 2, hj => cases hj; exact hE.2 2 _ rfl
  | 3, hj => cases hj; exact hE.2 3 _ rfl
  | 4, hj => cases hj; exact hE.2 4 _ rfl
  | 5, hj => cases hj; exact ⟨h1, h2⟩
  | v + 6, hj => cases hj
theorem bVol_re {f g : aF} (hg : g.1 < n2) (he : ρ f.1 + f.2 = ρ' g.1 + g.2) (v : Value) (h : bVok n ρ (.inl (true, f)) v) : bVok n2 ρ' (.inl (true, g)) v := by
  obtain ⟨x, rfl, hx⟩ := bVok_long h
  exact ⟨hg, hx.2.trans he⟩
theorem kL_re {f g : aF} (h : bLok n ρ (kL199 (some (.inl (false, f))) none) cl) (hn : 6 ≤ n2) (hg : g.1 < n2) (h2 : ρ 2 = ρ' 2) (h3 : ρ 3 = ρ' 3) (h4 : ρ 4 = ρ' 4) (h5 : ρ f.1 + f.2 = ρ' g.1 + g.2) : bLok n2 ρ' (kL199 (some (.inl (false, g))) none) cl := by
  refine bLok_re h rfl fun i b hb => ?_
  match i, hb with
  | 0, hb => cases hb; exact ⟨_, rfl, fun v hv => by rw [bVok_one hv]; exact List.mem_singleton.mpr rfl⟩
  | 1, hb => cases hb; exact ⟨_, rfl, bVok_re (by show 2 < n2; omega) (by show ρ 2 + 0 = ρ' 2 + 0; omega)⟩
  | 2, hb => cases hb; exact ⟨_, rfl, bVok_re (by show 3 < n2; omega) (by show ρ 3 + 0 = ρ' 3 + 0; omega)⟩
  | 3, hb => cases hb; exact ⟨_, rfl, bVol_re (by show 4 < n2; omega) (by show ρ 4 + 0 = ρ' 4 + 0; omega)⟩
  | 4, hb => cases hb
  | 5, hb => cases hb; exact ⟨_, rfl, bVok_re hg h5⟩
  | 6, hb => cases hb
  | i + 7, hb => cases hb
theorem kRa_ext {a : Int} {v : Nat} (h : v ≠ 5) : kRa ρ a v = ρ v := if_neg h
theorem kFree (h : kMemo σ) : ∃ z, z < 4096 ∧ σ.2.2 114 z = 0 := by
  apply Classical.byContradiction
  intro hn
  have hall : ∀ j ∈ List.range 4096, (!(σ.2.2 114 j == 0)) = true := fun j hj => by
    have hj := List.mem_range.mp hj
    cases hc : σ.2.2 114 j == 0 with
    | false => rfl
    | true => exact absurd ⟨j, hj, eq_of_beq hc⟩ hn
  have := List.countP_eq_length.mpr hall
  obtain ⟨h1, h2, h3⟩ := h
  rw [this, List.length_range] at h3
  omega
theorem kLoop (h : bHyp ro L kP) {lo0 hi0 : Int} (hE : aEok L ρ (kG199 lo0 hi0)) {z : Nat} (hz : z < 4096) (hB60 : ∀ (a : Nat) (σ' : pmS) (cl' : pmL), a ≤ 4095 → kOk σ' → kP σ' → kSm 0 σ' σ1 → bLok 6 (kRa ρ a) (kL199 kI5 none) cl' → pmWp ro 11 12 199 1 60 cl' [] σ' Q) : ∀ (t a : Nat) (σ : pmS) (cl : pmL), a ≤ 4095 → (a + t = z ∨ a + t = z + 4096) → t ≤ 4095 → kOk σ → kP σ → σ.2.2 114 z = 0 → kSm 0 σ σ1 → bLok 6 (kRa ρ a) (kL199 kI5 none) cl → pmWp ro 11 12 199 1 15 cl [] σ Q := by
  have hk := kS199
  simp only [Bool.and_eq_true] at hk
  obtain ⟨_, k1, k2, k3⟩ := hk
  have h60 : ∀ {a : Nat} {lo hi : Int} {σ σ' : pmS} {ρ' cl' cs'}, a ≤ 4095 → kSm 0 σ σ1 → bAt L 6 (kRa ρ a) kP σ (kB60 lo hi) ρ' cl' cs' σ' → bWa ro (kB60 lo hi) cl' cs' σ' Q := by
    intro a lo hi σ σ' ρ' cl' cs' ha hsm hA
    have := bSok_n (show bSok 6 ρ' [] cs' from hA.2.2)
    subst this
    have e : ∀ v, v < 6 → ρ' v = kRa ρ a v := fun v hv => hA.ext v hv
    unfold bWa
    rw [show (kB60 lo hi).2.1 = 199 from rfl, kM199.1, kM199.2]
    exact hB60 a σ' cl' ha (hA.ok rfl) (hA.kp (show bFg 0 = true by decide +kernel)) (kSm.tr (show kSm 0 σ' σ from hA.sm) hsm) (kL_re (show bLok 6 ρ' (kL199 kI5 none) cl' from hA.2.1) (Nat.le_refl 6) (by decide) (e 2 (by decide)) (e 3 (by decide)) (e 4 (by decide)) (by rw [e 5 (by decide)]))
  intro t
  induction t with
  | zero =>
    intro a σ cl ha hat ht hok hP hzz hsm hl
    have haz : a = z := by omega
    subst haz
    have hgo := bSeg_ok (Kp := kP) (σ := σ) (σ0 := σ) (ρ := kRa ρ a) (E := kG199 (.ofNat 0) (.ofNat 4095)) (cl := cl) (cs := []) (Q := Q) h bCn_ok k1 (fun B hB => by rw [List.mem_singleton.mp hB]; rfl) (aXok0 (kG_ok (a := a) hE (by show (0 : Int) ≤ a; omega) (by show (a : Int) ≤ 4095; omega))) ⟨hok.1, kOk_hok hok, fun q hq => ?_, fun p k _ => ⟨rfl, rfl⟩, fun _ => hP⟩ hl trivial bNo_ok ?_
    · rw [kM199.1, kM199.2] at hgo
      exact hgo
    · rw [List.mem_singleton] at hq
      subst hq
      refine ⟨(show 5 < 6 by decide), fun _ => ⟨(show 0 < 6 by decide), ?_⟩⟩
      show bZ σ 114 ((a : Int) + 0).toNat = kRa ρ a 0 + 0
      rw [kRa_ext (by decide), hE.1.1, Int.add_zero, show ((a : Int)).toNat = a from rfl]
      unfold bZ
      rw [show bLo 114 a = true from rfl]
      show (σ.2.2 114 a).toInt = 0
      rw [hzz]
      rfl
    · intro B hB ρ' cl' cs' σ' hA
      rw [List.mem_singleton] at hB
      subst hB
      exact h60 ha hsm hA
  | succ t ih =>
    intro a σ cl ha hat ht hok hP hzz hsm hl
    by_cases c : a = 4095
    · subst c
      have hgo := bSeg_ok (Kp := kP) (σ := σ) (σ0 := σ) (ρ := kRa ρ (4095 : Nat)) (E := kG199 (.ofNat 4095) (.ofNat 4095)) (cl := cl) (cs := []) (Q := Q) h bCn_ok k3 (fun B hB => by
        rcases List.mem_cons.mp hB with rfl | hB
        · rfl
        · rw [List.mem_singleton.mp hB]; rfl) (aXok0 (kG_ok (a := (4095 : Nat)) hE (Int.le_refl _) (Int.le_refl _))) (kOk_mok hok hP) hl trivial bNo_ok ?_
      · rw [kM199.1, kM199.2] at hgo
        exact hgo
      · intro B hB ρ' cl' cs' σ' hA
        rcases List.mem_cons.mp hB with rfl | hB
        · have := bSok_n (show bSok 6 ρ' [] cs' from hA.2.2)
          subst this
          have e : ∀ v, v < 6 → ρ' v = kRa ρ (4095 : Nat) v := fun v hv => hA.ext v hv
          have hall := kAll (show kSm 0 σ' σ from hA.sm)
          unfold bWa
          rw [show (kB15n (0, .ofNat 0) (.ofNat 4095) (.ofNat 4095)).2.1 = 199 from rfl, kM199.1, kM199.2]
          refine ih 0 σ' cl' (by omega) (by omega) (by omega) (hA.ok rfl) (hA.kp (show bFg 0 = true by decide +kernel)) (by rw [(hall 114 z).2]; exact hzz) (kSm.tr (show kSm 0 σ' σ from hA.sm) hsm) ?_
          exact kL_re (f := (0, .ofNat 0)) (g := (5, .ofNat 0)) (show bLok 6 ρ' (kL199 (some (.inl (false, 0, .ofNat 0))) none) cl' from hA.2.1) (Nat.le_refl 6) (by decide) (e 2 (by decide)) (e 3 (by decide)) (e 4 (by decide)) (by
            show ρ' 0 + 0 = ((0 : Nat) : Int) + 0
            rw [e 0 (by decide), kRa_ext (by decide), hE.1.1]
            rfl)
        · rw [List.mem_singleton] at hB
          subst hB
          exact h60 ha hsm hA
    · have hgo := bSeg_ok (Kp := kP) (σ := σ) (σ0 := σ) (ρ := kRa ρ a) (E := kG199 (.ofNat 0) (.ofNat 4094)) (cl := cl) (cs := []) (Q := Q) h bCn_ok k2 (fun B hB => by
        rcases List.mem_cons.mp hB with rfl | hB
        · rfl
        · rw [List.mem_singleton.mp hB]; rfl) (aXok0 (kG_ok (a := a) hE (by show (0 : Int) ≤ a; omega) (by show (a : Int) ≤ 4094; omega))) (kOk_mok hok hP) hl trivial bNo_ok ?_
      · rw [kM199.1, kM199.2] at hgo
        exact hgo
      · intro B hB ρ' cl' cs' σ' hA
        rcases List.mem_cons.mp hB with rfl | hB
        · have := bSok_n (show bSok 6 ρ' [] cs' from hA.2.2)
          subst this
          have e : ∀ v, v < 6 → ρ' v = kRa ρ a v := fun v hv => hA.ext v hv
          have hall := kAll (show kSm 0 σ' σ from hA.sm)
          unfold bWa
          rw [show (kB15n (5, .ofNat 1) (.ofNat 0) (.ofNat 4094)).2.1 = 199 from rfl, kM199.1, kM199.2]
          refine ih (a + 1) σ' cl' (by omega) (by omega) (by omega) (hA.ok rfl) (hA.kp (show bFg 0 = true by decide +kernel)) (by rw [(hall 114 z).2]; exact hzz) (kSm.tr (show kSm 0 σ' σ from hA.sm) hsm) ?_
          exact kL_re (f := (5, .ofNat 1)) (g := (5, .ofNat 0)) (show bLok 6 ρ' (kL199 (some (.inl (false, 5, .ofNat 1))) none) cl' from hA.2.1) (Nat.le_refl 6) (by decide) (e 2 (by decide)) (e 3 (by decide)) (e 4 (by decide)) (by
            show ρ' 5 + 1 = ((a + 1 : Nat) : Int) + 0
            rw [e 5 (by decide)]
            show (a : Int) + 1 = ((a + 1 : Nat) : Int) + 0
            omega)
        · rw [List.mem_singleton] at hB
          subst hB
          exact h60 ha hsm hA
/-- behind the search -/
theorem kTail (h : bHyp ro L kP) (h190 : bCok ro L kP bC190) {lo0 hi0 : Int} (hE : aEok L ρ (kG199 lo0 hi0)) (a : Nat) (σ : pmS) (cl : pmL) (ha : a ≤ 4095) (hok : kOk σ) (hP : kP σ) (hsm : kSm 0 σ σ1) (hl : bLok 6 (kRa ρ a) (kL199 kI5 none) cl) : pmWp ro 11 12 199 1 60 cl [] σ (kQ199 σ1) := by
  have hk := kS199b
  simp only [Bool.and_eq_true] at hk
  obtain ⟨k1, k2, k3⟩ := hk
  have l0 : kSm kW199 σ σ1 := kSm.le hsm (by decide +kernel)
  have hend : bFinOk L 6 (kRa ρ a) kP σ (bFi 6 [(some (.inl (false, 6, .ofNat 0)), kH199, [])] kW190) (kQ199 σ1) := bFin_mono (bFi_ok (E0 := kG199 (.ofNat 0) (.ofNat 4095)) (by decide) rfl (Nat.le_refl _) aExt.rf) fun v σ' hh => by
    obtain ⟨al, hal, ρ', a1, a2, a3, a4, a5⟩ := hh
    rw [List.mem_singleton] at hal
    subst hal
    cases v with
    | none => exact a4.elim
    | some v =>
      obtain ⟨x, rfl, hx⟩ := bVok_int a4
      have hx : x.toInt = ρ' 6 + 0 := hx.2
      have b6 : (-1 : Int) ≤ ρ' 6 ∧ ρ' 6 ≤ (40 : Int) := a3.2 6 _ rfl
      exact ⟨x, rfl, by omega, by omega, ⟨a5.1, fun p k => a5.2.1 p k⟩, a5.2.2.2.2 (show bFg kW190 = true by decide +kernel), kSm.tr (kSm.le a5.2.2.2.1 (by decide +kernel)) l0⟩
  have hgo := bSeg_ok (Kp := kP) (σ := σ) (σ0 := σ) (ρ := kRa ρ a) (E := kG199 (.ofNat 0) (.ofNat 4095)) (cl := cl) (cs := []) (Q := kQ199 σ1) h (fun σ0 => bCc_ok (bAc h190 bAn)) k1 (fun B hB => by rw [List.mem_singleton.mp hB]; rfl) (aXok0 (kG_ok (a := a) hE (by show (0 : Int) ≤ a; omega) (by show (a : Int) ≤ 4095; omega))) (kOk_mok hok hP) hl trivial hend ?_
  · rw [kM199.1, kM199.2] at hgo
    exact hgo
  intro B hB ρ2 cl2 cs2 σ2 hA
  rw [List.mem_singleton] at hB
  subst hB
  obtain ⟨v1, r1, rfl, hv1, hs1⟩ := bSok_c (show bSok 8 ρ2 [.inl (true, 4, .ofNat 0), .inl (false, 5, .ofNat 0), .inr [114]] cs2 from hA.2.2)
  obtain ⟨v2, r2, rfl, hv2, hs2⟩ := bSok_c hs1
  obtain ⟨v3, r3, rfl, hv3, hs3⟩ := bSok_c hs2
  obtain ⟨key, rfl, hkey⟩ := bVok_long hv1
  obtain ⟨ai, rfl, hai⟩ := bVok_int hv2
  have := bVok_one hv3
  subst this
  have := bSok_n hs3
  subst this
  have hai : ai.toInt = ρ2 5 + 0 := hai.2
  have hE2 : aEok L ρ2 kJ199 := hA.env
  have c5 : (0 : Int) ≤ ρ2 5 ∧ ρ2 5 ≤ (4095 : Int) := hE2.2 5 _ rfl
  have c7 : (0 : Int) ≤ ρ2 7 ∧ ρ2 7 ≤ (2999 : Int) := hE2.2 7 _ rfl
  have hok2 : kOk σ2 := kOk_m (E := kJ199) hE2 (by decide +kernel) hA.1.2.1
  have hP2 := hA.kp (show bFg kW190 = true by decide +kernel)
  have hm2 : kI σ2 87 41 = ρ2 7 := by
    have : bZ σ2 87 41 = ρ2 7 + 0 := (hA.1.2.1.2.1 87 41).2
    rw [kI_z (by decide +kernel)] at this
    omega
  have l2 : kSm kW199 σ2 σ := kSm.le (show kSm kW190 σ2 σ from hA.sm) (by decide +kernel)
  obtain ⟨hin, hni⟩ := kNat (i := ai) (n := 4096) (by omega) (by omega)
  unfold bWa
  rw [show kB120.2.1 = 199 from rfl, kM199.1, kM199.2]
  refine pmWp_las (n := 4096) (rs := []) rfl (by rw [hok2.1]; rfl) hin ?_
  generalize hσ3 : (σ2.1, σ2.2.1, pmUp σ2.2.2 114 ai.toNatClampNeg key) = σ3
  have hg114 : ∀ j, bGe 114 j = [(-9223372036854775808, 9223372036854775807)] := fun j => bGu_ok (by decide +kernel) j
  have hok3 : kOk σ3 := by
    rw [← hσ3]
    refine kOk_upl hok2 rfl ?_
    rw [hg114]
    have a := Int64.le_toInt key
    have b := Int64.toInt_lt key
    exact ⟨_, List.mem_singleton.mpr rfl, by show (-9223372036854775808 : Int) ≤ key.toInt; omega, by show key.toInt ≤ (9223372036854775807 : Int); omega⟩
  have l3 : kSm kW199 σ3 σ2 := by
    rw [← hσ3]
    refine kSm.upl ?_
    rw [bRg_sing (by decide +kernel) _ 0]
    decide +kernel
  have t3 : ∀ p j, σ3.2.1 p j = σ2.2.1 p j := fun p j => by rw [← hσ3]
  have t3l : ∀ j, j ≠ ai.toNatClampNeg → σ3.2.2 114 j = σ2.2.2 114 j := fun j hj => by
    rw [← hσ3]
    exact kUp_nk (fun e => hj e.2)
  have hgo := bSeg_ok (Kp := fun _ => True) (σ := σ3) (σ0 := σ3) (ρ := ρ2) (E := kJ199) (cl := cl2) (cs := []) (Q := kQ199 σ1) (kTrue h) bCn_ok k2 (fun B hB => by rw [List.mem_singleton.mp hB]; rfl) (aXok0 hE2) ⟨hok3.1, bHok_c (kOk_hok hok3) rfl (show 7 < 8 by decide) (by
    rw [kI_z (by decide +kernel)]
    show (σ3.2.1 87 41).toInt = ρ2 7 + 0
    rw [t3, Int.add_zero]
    exact hm2), fun q hq => absurd hq List.not_mem_nil, fun p k _ => ⟨rfl, rfl⟩, fun _ => trivial⟩ hA.2.1 trivial bNo_ok ?_
  · rw [kM199.1, kM199.2] at hgo
    exact hgo
  intro B hB ρ4 cl4 cs4 σ4 hA4
  rw [List.mem_singleton] at hB
  subst hB
  obtain ⟨v1, r1, rfl, hv1, hs1⟩ := bSok_c (show bSok 8 ρ4 [.inl (false, 7, .ofNat 1), .inr [87]] cs4 from hA4.2.2)
  obtain ⟨v2, r2, rfl, hv2, hs2⟩ := bSok_c hs1
  obtain ⟨y, rfl, hy⟩ := bVok_int hv1
  have := bVok_one hv2
  subst this
  have := bSok_n hs2
  subst this
  have hy : y.toInt = ρ4 7 + 1 := hy.2
  have e7 : ρ4 7 = ρ2 7 := hA4.ext 7 (by decide)
  have hok4 := hA4.ok rfl
  have s4 : kSm kW115 σ4 σ3 := hA4.sm
  have l4 : kSm kW199 σ4 σ3 := kSm.le s4 (by decide +kernel)
  unfold bWa
  rw [show kB139.2.1 = 199 from rfl, kM199.1, kM199.2]
  refine pmWp_pfi (k := 318) (ci := 12) (j := 41) (c1 := true) (a := true) rfl rfl rfl rfl (by rw [hok4.1]; rfl) ?_
  generalize hσ5 : (σ4.1, pmUp σ4.2.1 87 41 y, σ4.2.2) = σ5
  have hok5 : kOk σ5 := by
    rw [← hσ5]
    exact kOk_upi hok4 (by decide +kernel) (by
      rw [show bGe 87 41 = [(0, 3000)] by decide +kernel]
      exact ⟨_, List.mem_singleton.mpr rfl, by show (0 : Int) ≤ y.toInt; omega, by show y.toInt ≤ (3000 : Int); omega⟩)
  have l5 : kSm kW199 σ5 σ4 := by
    rw [← hσ5]
    exact kSm.upi (by decide +kernel)
  have row : ∀ q, q ≠ 87 → kW115.testBit (bRg q 0) = false → bSing q = true → σ5.2.1 q = σ2.2.1 q := fun q hq hb hs => by
    funext j
    rw [← hσ5]
    show pmUp σ4.2.1 87 41 y q j = _
    rw [kUp_ne hq, (s4 q j (by rw [bRg_sing hs j 0]; exact hb)).1, t3]
  have rowl : ∀ j, σ5.2.2 114 j = σ3.2.2 114 j := fun j => by
    rw [← hσ5]
    show σ4.2.2 114 j = _
    rw [(s4 114 j (by rw [bRg_sing (by decide +kernel) j 0]; decide +kernel)).2]
  have hP5 : kP σ5 := by
    obtain ⟨g1, g2, g3⟩ := hP2
    refine ⟨?_, ?_, ?_⟩
    · have e : kI σ5 87 41 = ρ2 7 + 1 := by
        rw [← hσ5]
        show (pmUp σ4.2.1 87 41 y 87 41).toInt = _
        rw [kUp_at]
        omega
      unfold kMemo at g1 ⊢
      rw [e]
      rw [hm2] at g1
      refine ⟨by omega, by omega, ?_⟩
      have hc := kCnt (f := fun j => !(σ5.2.2 114 j == 0)) (g := fun j => !(σ2.2.2 114 j == 0)) (a := ai.toNatClampNeg) (fun j hj => by simp only [rowl, t3l j hj]) 4096
      have h1 : (if ai.toNatClampNeg < 4096 then 1 else 0) ≤ 1 := by split <;> omega
      have g3 := g1.2.2
      omega
    · unfold kCodes kI at g2 ⊢
      rw [row 99 (by decide) (by decide +kernel) (by decide +kernel), row 98 (by decide) (by decide +kernel) (by decide +kernel)]
      exact g2
    · unfold kToks kI at g3 ⊢
      rw [row 9 (by decide) (by decide +kernel) (by decide +kernel), row 8 (by decide) (by decide +kernel) (by decide +kernel)]
      exact g3
  have hend5 : bFinOk L 8 ρ4 kP σ5 (bFi 8 [(some (.inl (false, 6, .ofNat 0)), kJ199, [])] 0) (kQ199 σ1) := bFin_mono (bFi_int (by decide) rfl (by decide)) fun v σ' hh => by
    obtain ⟨x, rfl, g1, g2, g3, g4, g5⟩ := hh
    have g1 : x.toInt = ρ4 6 + 0 := g1
    have g2 : (-1 : Int) ≤ ρ4 6 ∧ ρ4 6 ≤ (40 : Int) := g2 _ rfl
    exact ⟨x, rfl, by omega, by omega, g3, g4 (by decide +kernel), kSm.tr (kSm.le g5 (by decide +kernel)) (kSm.tr l5 (kSm.tr l4 (kSm.tr l3 (kSm.tr l2 l0))))⟩
  have hgo := bSeg_ok (Kp := kP) (σ := σ5) (σ0 := σ5) (ρ := ρ4) (E := kJ199) (cl := cl4) (cs := []) (Q := kQ199 σ1) h bCn_ok k3 (fun B hB => absurd hB List.not_mem_nil) (aXok0 hA4.env) (kOk_mok hok5 hP5) hA4.2.1 trivial hend5 (fun B hB => absurd hB List.not_mem_nil)
  rw [kM199.1, kM199.2] at hgo
  exact hgo
theorem kFirst (h : bHyp ro L kP) (h190 : bCok ro L kP bC190) : bCok ro L kP bC199 := by
  intro ρ vs σ hE hM hs
  have hE : aEok L ρ kE199 := hE
  have hM : bMok 4 ρ kP σ ([], [], 0) σ := hM
  have hs : bSok 4 ρ [.inr [87], .inl (false, 2, .ofNat 0), .inl (false, 3, .ofNat 0)] vs := hs
  suffices hg : pmCs ro 12 199 vs σ (kQ199 σ) by
    refine pmCs_mono hg ?_
    rintro v σ' ⟨x, rfl, x1, x2, x3, x4, x5⟩
    refine ⟨_, List.mem_singleton.mpr rfl, fun v => if v = 4 then x.toInt else ρ v, fun v hv => if_neg (by have hv : v < 4 := hv; omega), by decide, ⟨⟨hE.1.1, hE.1.2.1, by decide⟩, fun v j hj => ?_⟩, ⟨(by decide : 4 < 5), (Int.add_zero _).symm⟩, x3.1, fun p k => x3.2 p k, fun q hq => absurd hq List.not_mem_nil, x5, fun _ => x4⟩
    match v, hj with
    | 0, hj => cases hj; exact hE.2 0 _ rfl
    | 1, hj => cases hj; exact hE.2 1 _ rfl
    | 2, hj => cases hj; exact hE.2 2 _ rfl
    | 3, hj => cases hj; exact hE.2 3 _ rfl
    | 4, hj => cases hj; exact ⟨x1, x2⟩
    | v + 5, hj => cases hj
  have hk := kS199
  simp only [Bool.and_eq_true] at hk
  refine bEc_ok (pl := kP199) (by decide +kernel) hs fun cl hl => ?_
  have hgo := bSeg_ok (Kp := kP) (σ := σ) (σ0 := σ) (ρ := ρ) (E := kE199) (cl := cl) (cs := []) (Q := kQ199 σ) h bCn_ok hk.1 (fun B hB => by rw [List.mem_singleton.mp hB]; rfl) (aXok0 hE) hM hl trivial bNo_ok ?_
  · exact hgo
  intro B hB ρ1 cl1 cs1 σ1 hA
  rw [List.mem_singleton] at hB
  subst hB
  have := bSok_n (show bSok 6 ρ1 [] cs1 from hA.2.2)
  subst this
  have hE1 : aEok L ρ1 (kG199 (.ofNat 0) (.ofNat 4095)) := hA.env
  have c5 : (0 : Int) ≤ ρ1 5 ∧ ρ1 5 ≤ (4095 : Int) := hE1.2 5 _ rfl
  have hP1 := hA.kp (show bFg 0 = true by decide +kernel)
  obtain ⟨z, hz, hzz⟩ := kFree hP1.1
  obtain ⟨a, hae⟩ : ∃ a : Nat, ρ1 5 = a := ⟨(ρ1 5).toNat, by omega⟩
  unfold bWa
  rw [show kB15.2.1 = 199 from rfl, kM199.1, kM199.2]
  have hsm : kSm 0 σ1 σ := hA.sm
  have ht : ∃ t, t ≤ 4095 ∧ (a + t = z ∨ a + t = z + 4096) := by
    by_cases c : a ≤ z
    · exact ⟨z - a, by omega, Or.inl (by omega)⟩
    · exact ⟨z + 4096 - a, by omega, Or.inr (by omega)⟩
  obtain ⟨t, ht1, ht2⟩ := ht
  refine kLoop (σ1 := σ) (ρ := ρ1) h hE1 hz (fun a' σ' cl' g1 g2 g3 g4 g5 => kTail h h190 hE1 a' σ' cl' g1 g2 g3 g4 g5) t a σ1 cl1 (by omega) ht2 ht1 (hA.ok rfl) hP1 hzz hsm ?_
  exact kL_re (f := (5, .ofNat 0)) (g := (5, .ofNat 0)) (show bLok 6 ρ1 (kL199 kI5 none) cl1 from hA.2.1) (Nat.le_refl 6) (by decide) rfl rfl rfl (by
    show ρ1 5 + 0 = (a : Int) + 0
    omega)
end
end
