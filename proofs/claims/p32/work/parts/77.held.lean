/-! by hand: isHeld holds its contract -/
section
set_option maxRecDepth 100000
variable {ro : Nat → Nat × (Nat → Int32)} {L : aLa} {σ σs : pmS} {cl : pmL}
def kR187 (L : aLa) (lv f k n i m v : Int) : Nat → Int := fun w => match w with
  | 0 => 0
  | 1 => L.1
  | 2 => lv
  | 3 => f
  | 4 => k
  | 5 => n
  | 6 => i
  | 7 => m
  | 8 => v
  | _ => 0
def kQ187 (σs : pmS) : Option Value → pmS → Prop := fun v σ' => ∃ x : Int32, v = some (.int x) ∧ 0 ≤ x.toInt ∧ x.toInt ≤ 1 ∧ kOk σ' ∧ kP σ' ∧ kSm kW187 σ' σs
theorem kV99_eq : bGu 99 = some kV99 := by decide +kernel
theorem kC187_mem {f k : Nat} (hf : 1 ≤ f ∧ f ≤ 3) (hk : k ≤ 2) : (f, k) ∈ kC187 := by
  have : (f = 1 ∨ f = 2 ∨ f = 3) ∧ (k = 0 ∨ k = 1 ∨ k = 2) := by omega
  obtain ⟨rfl | rfl | rfl, rfl | rfl | rfl⟩ := this <;> decide
theorem kP_re {n n2 : Nat} {ρ ρ2 : Nat → Int} {f k : Nat} {dn dc en ec : Int} (h : bLok n ρ (kP187 f k dn dc) cl) (hn : 7 ≤ n2) (h0 : ρ 0 = ρ2 0) (h2 : ρ 2 = ρ2 2) (h3 : ρ 3 = ρ2 3) (h4 : ρ 4 = ρ2 4) (h5 : ρ 5 + dn = ρ2 5 + en) (h6 : ρ 6 + dc = ρ2 6 + ec) : bLok n2 ρ2 (kP187 f k en ec) cl := by
  refine bLok_re h rfl fun i b hb => ?_
  match i, hb with
  | 0, hb => cases hb; exact ⟨_, rfl, fun v hv => by rw [bVok_one hv]; exact List.mem_singleton.mpr rfl⟩
  | 1, hb => cases hb; exact ⟨_, rfl, bVok_re (by show 2 < n2; omega) (by show ρ 2 + 0 = ρ2 2 + 0; omega)⟩
  | 2, hb => cases hb; exact ⟨_, rfl, bVok_re (by show 3 < n2; omega) (by show ρ 3 + 0 = ρ2 3 + 0; omega)⟩
  | 3, hb => cases hb; exact ⟨_, rfl, bVok_re (by show 4 < n2; omega) (by show ρ 4 + 0 = ρ2 4 + 0; omega)⟩
  | 4, hb => cases hb; exact ⟨_, rfl, bVok_re (by show 0 < n2; omega) (by show ρ 0 + ((3 * f + k : Nat) : Int) = ρ2 0 + ((3 * f + k : Nat) : Int); omega)⟩
  | 5, hb => cases hb; exact ⟨_, rfl, bVok_re (by show 5 < n2; omega) (by show ρ 5 + dn = ρ2 5 + en; omega)⟩
  | 6, hb => cases hb; exact ⟨_, rfl, bVok_re (by show 6 < n2; omega) (by show ρ 6 + (((60 * (3 * f + k) : Nat) : Int) + dc) = ρ2 6 + (((60 * (3 * f + k) : Nat) : Int) + ec); omega)⟩
  | 7, hb => cases hb
  | i + 8, hb => cases hb
theorem kTurn (h : bHyp ro L kP) (hL : 0 ≤ L.1 ∧ L.1 ≤ 3072) {f k : Nat} (hf : 1 ≤ f ∧ f ≤ 3) (hk : k ≤ 2) {lv : Int} (hlv : 0 ≤ lv ∧ lv ≤ 4) : ∀ (t n i : Nat) (σ : pmS) (cl : pmL), kOk σ → kP σ → kSm kW187 σ σs → (i : Int) + t = kI σ 98 (3 * f + k) → kD (fun j => kI σ 99 (60 * (3 * f + k) + j)) i = some n → bLok 7 (kR187 L lv f k n i 0 0) (kP187 f k 0 0) cl → pmWp ro 2 12 187 2 17 cl [] σ (kQ187 σs) := by
  have hg98 : ∀ j, bGe 98 j = [(0, 60)] := fun j => bGu_ok (by decide +kernel) j
  have hg99 : ∀ j, bGe 99 j = kV99 := fun j => bGu_ok kV99_eq j
  have hcm := kC187_mem hf hk
  have ha := List.all_eq_true.mp kS187a _ hcm
  rw [Bool.and_eq_true] at ha
  have hb := List.all_eq_true.mp kS187b _ hcm
  intro t
  induction t with
  | zero =>
    intro n i σ cl hok hP hsm hm hd hl
    have hni := kD_le hd
    have hm60 : kI σ 98 (3 * f + k) ≤ 60 := by
      have := hok.2 98 (3 * f + k)
      rw [hg98, kI_z rfl] at this
      obtain ⟨j, hj, g1, g2⟩ := this
      rw [List.mem_singleton] at hj
      subst hj
      exact g2
    have hE : aEok L (kR187 L lv f k n i 0 0) (kX187 f k) := by
      refine ⟨⟨rfl, rfl, (by decide : 1 < 7)⟩, fun v j hj => ?_⟩
      match v, hj with
      | 0, hj => cases hj; exact ⟨Int.le_refl _, Int.le_refl _⟩
      | 1, hj => cases hj; exact hL
      | 2, hj => cases hj; exact hlv
      | 3, hj => cases hj; exact ⟨Int.le_refl _, Int.le_refl _⟩
      | 4, hj => cases hj; exact ⟨Int.le_refl _, Int.le_refl _⟩
      | 5, hj => cases hj; exact ⟨by show (0 : Int) ≤ (n : Int); omega, by show (n : Int) ≤ 60; omega⟩
      | 6, hj => cases hj; exact ⟨by show (0 : Int) ≤ (i : Int); omega, by show (i : Int) ≤ 60; omega⟩
      | v + 7, hj => cases hj
    have hend : bFinOk L 7 (kR187 L lv f k n i 0 0) kP σ (bFi 7 [(some (.inl (false, 7, .ofNat 0)), kY187 f k, [])] kW187) (kQ187 σs) := bFin_mono (bFi_ok (E0 := kX187 f k) (by decide) rfl (Nat.le_refl _) aExt.rf) fun v σ' hh => by
      obtain ⟨al, hal, ρ', a1, a2, a3, a4, a5⟩ := hh
      rw [List.mem_singleton] at hal
      subst hal
      cases v with
      | none => exact a4.elim
      | some v =>
        obtain ⟨x, rfl, hx⟩ := bVok_int a4
        have hx : x.toInt = ρ' 7 + 0 := hx.2
        have b7 : (0 : Int) ≤ ρ' 7 ∧ ρ' 7 ≤ (1 : Int) := a3.2 7 _ rfl
        exact ⟨x, rfl, by omega, by omega, ⟨a5.1, fun p k => a5.2.1 p k⟩, a5.2.2.2.2 (show bFg kW187 = true by decide +kernel), kSm.tr a5.2.2.2.1 hsm⟩
    have hgo := bSeg_ok (Kp := kP) (σ := σ) (σ0 := σ) (ρ := kR187 L lv f k n i 0 0) (E := kX187 f k) (cl := cl) (cs := []) (Q := kQ187 σs) h bCn_ok ha.2 (fun B hB => absurd hB List.not_mem_nil) (aXok0 hE) ⟨hok.1, bHok_c (kOk_hok hok) rfl (show 6 < 7 by decide) (by
      rw [kI_z rfl]
      show kI σ 98 (3 * f + k) = (i : Int) + 0
      omega), fun q hq => absurd hq List.not_mem_nil, fun p k _ => ⟨rfl, rfl⟩, fun _ => hP⟩ hl trivial hend (fun B hB => absurd hB List.not_mem_nil)
    rw [kM187.1, kM187.2] at hgo
    exact hgo
  | succ t ih =>
    intro n i σ cl hok hP hsm hm hd hl
    have hni := kD_le hd
    have hm60 : kI σ 98 (3 * f + k) ≤ 60 := by
      have := hok.2 98 (3 * f + k)
      rw [hg98, kI_z rfl] at this
      obtain ⟨j, hj, g1, g2⟩ := this
      rw [List.mem_singleton] at hj
      subst hj
      exact g2
    -- the code that stands here
    have hv := hok.2 99 (60 * (3 * f + k) + i)
    rw [hg99, kI_z rfl] at hv
    obtain ⟨iv0, hiv0, hv1, hv2⟩ := hv
    have hb0 := List.all_eq_true.mp hb iv0 hiv0
    simp only [Bool.and_eq_true, decide_eq_true_eq] at hb0
    obtain ⟨hb1, hb2, hb3⟩ := hb0
    obtain ⟨iv, hivm, hw1, hw2, hdv⟩ : ∃ iv ∈ kSp iv0, iv.1 ≤ kI σ 99 (60 * (3 * f + k) + i) ∧ kI σ 99 (60 * (3 * f + k) + i) ≤ iv.2 ∧ iv.1 / 256 = kI σ 99 (60 * (3 * f + k) + i) / 256 := by
      unfold kSp
      by_cases c : (1024 ≤ iv0.1 ∧ iv0.2 < 1280)
      · have e : (decide (1024 ≤ iv0.1) && decide (iv0.2 < 1280)) = true := by rw [Bool.and_eq_true, decide_eq_true_eq, decide_eq_true_eq]; exact c
        rw [e, cond_true]
        refine ⟨_, List.mem_map.mpr ⟨(kI σ 99 (60 * (3 * f + k) + i) - iv0.1).toNat, List.mem_range.mpr (by omega), rfl⟩, ?_, ?_, ?_⟩
        · show iv0.1 + (((kI σ 99 (60 * (3 * f + k) + i) - iv0.1).toNat : Nat) : Int) ≤ _
          omega
        · show _ ≤ iv0.1 + (((kI σ 99 (60 * (3 * f + k) + i) - iv0.1).toNat : Nat) : Int)
          omega
        · show (iv0.1 + (((kI σ 99 (60 * (3 * f + k) + i) - iv0.1).toNat : Nat) : Int)) / 256 = _
          congr 1
          omega
      · have e : (decide (1024 ≤ iv0.1) && decide (iv0.2 < 1280)) = false := by
          rw [← Bool.not_eq_true, Bool.and_eq_true, decide_eq_true_eq, decide_eq_true_eq]
          exact c
        rw [e, cond_false]
        refine ⟨_, List.mem_singleton.mpr rfl, hv1, hv2, ?_⟩
        omega
    have hchk := List.all_eq_true.mp hb3 iv hivm
    -- one code further
    have hnx : kD (fun j => kI σ 99 (60 * (3 * f + k) + j)) (i + 1) ≠ none := by
      refine kD_pre (m := (kI σ 98 (3 * f + k)).toNat) (by omega) ?_
      exact hP.2.1 (3 * f + k) (by omega)
    obtain ⟨n2, hn2⟩ : ∃ n2, kD (fun j => kI σ 99 (60 * (3 * f + k) + j)) (i + 1) = some n2 := by
      cases hc : kD (fun j => kI σ 99 (60 * (3 * f + k) + j)) (i + 1) with
      | none => exact absurd hc hnx
      | some n2 => exact ⟨n2, rfl⟩
    have hstep : (n2 : Int) = n + kDl iv.1 ∧ kLo iv.1 ≤ n := by
      have h1 := hn2
      unfold kD at h1
      rw [hd] at h1
      simp only at h1
      unfold kDl kLo
      rw [hdv]
      split at h1
      · rename_i c
        rw [if_pos c, if_pos c]
        cases h1
        omega
      · rename_i c
        rw [if_neg c, if_neg c]
        split at h1
        · rename_i c2
          rw [if_pos c2, if_pos c2]
          split at h1
          · cases h1; omega
          · cases h1
        · rename_i c2
          rw [if_neg c2, if_neg c2]
          split at h1
          · cases h1; omega
          · cases h1
    have hE : aEok L (kR187 L lv f k n i (kI σ 98 (3 * f + k)) (kI σ 99 (60 * (3 * f + k) + i))) (kT187 f k iv) := by
      refine ⟨⟨rfl, rfl, (by decide : 1 < 9)⟩, fun v j hj => ?_⟩
      match v, hj with
      | 0, hj => cases hj; exact ⟨Int.le_refl _, Int.le_refl _⟩
      | 1, hj => cases hj; exact hL
      | 2, hj => cases hj; exact hlv
      | 3, hj => cases hj; exact ⟨Int.le_refl _, Int.le_refl _⟩
      | 4, hj => cases hj; exact ⟨Int.le_refl _, Int.le_refl _⟩
      | 5, hj => cases hj; exact ⟨hstep.2, by show (n : Int) ≤ 59; omega⟩
      | 6, hj => cases hj; exact ⟨by show (0 : Int) ≤ (i : Int); omega, by show (i : Int) ≤ 59; omega⟩
      | 7, hj => cases hj; exact ⟨by show (1 : Int) ≤ kI σ 98 (3 * f + k); omega, by show kI σ 98 (3 * f + k) ≤ 60; omega⟩
      | 8, hj => cases hj; exact ⟨hw1, hw2⟩
      | v + 9, hj => cases hj
    have hl9 : bLok 9 (kR187 L lv f k n i (kI σ 98 (3 * f + k)) (kI σ 99 (60 * (3 * f + k) + i))) (kP187 f k 0 0) cl := kP_re hl (by decide) rfl rfl rfl rfl rfl rfl
    have hgo := bSeg_ok (Kp := kP) (σ := σ) (σ0 := σ) (ρ := kR187 L lv f k n i (kI σ 98 (3 * f + k)) (kI σ 99 (60 * (3 * f + k) + i))) (E := kT187 f k iv) (cl := cl) (cs := []) (Q := kQ187 σs) h bCn_ok hchk (fun B hB => by rw [List.mem_singleton.mp hB]; rfl) ⟨hE, ⟨fun q hq => ?_, fun q hq => absurd hq List.not_mem_nil⟩⟩ ⟨hok.1, bHok_c (kOk_hok hok) rfl (show 7 < 9 by decide) (by
      rw [kI_z rfl]
      exact (Int.add_zero _).symm), fun q hq => ?_, fun p k _ => ⟨rfl, rfl⟩, fun _ => hP⟩ hl9 trivial bNo_ok ?_
    · rw [kM187.1, kM187.2] at hgo
      exact hgo
    · rw [List.mem_singleton] at hq
      subst hq
      refine ⟨(show 6 < 9 by decide), (show 7 < 9 by decide), ?_⟩
      show (i : Int) - kI σ 98 (3 * f + k) ≤ -1
      omega
    · rw [List.mem_singleton] at hq
      subst hq
      refine ⟨(show 6 < 9 by decide), fun _ => ⟨(show 8 < 9 by decide), ?_⟩⟩
      show bZ σ 99 ((i : Int) + ((60 * (3 * f + k) : Nat) : Int)).toNat = kI σ 99 (60 * (3 * f + k) + i) + 0
      rw [kI_z rfl, show ((i : Int) + ((60 * (3 * f + k) : Nat) : Int)).toNat = 60 * (3 * f + k) + i by omega, Int.add_zero]
    · intro B hB ρ' cl' cs' σ' hA
      rw [List.mem_singleton] at hB
      subst hB
      have := bSok_n (show bSok 9 ρ' [] cs' from hA.2.2)
      subst this
      have hok' := hA.ok rfl
      have hP' := hA.kp (show bFg kW187 = true by decide +kernel)
      have hsm' : kSm kW187 σ' σ := hA.sm
      have q1 : ∀ j, kI σ' 98 j = kI σ 98 j := fun j => by
        unfold kI
        rw [(hsm' 98 j (by rw [bRg_sing (by decide +kernel) j 0]; decide +kernel)).1]
      have q2 : ∀ j, kI σ' 99 j = kI σ 99 j := fun j => by
        unfold kI
        rw [(hsm' 99 j (by rw [bRg_sing (by decide +kernel) j 0]; decide +kernel)).1]
      have e : ∀ v, v < 9 → ρ' v = kR187 L lv f k n i (kI σ 98 (3 * f + k)) (kI σ 99 (60 * (3 * f + k) + i)) v := fun v hv => hA.ext v hv
      unfold bWa
      rw [show (kBt187 f k iv).2.1 = 187 from rfl, kM187.1, kM187.2]
      refine ih n2 (i + 1) σ' cl' hok' hP' (kSm.tr hsm' hsm) (by rw [q1]; omega) ?_ ?_
      · have : (fun j => kI σ' 99 (60 * (3 * f + k) + j)) = fun j => kI σ 99 (60 * (3 * f + k) + j) := funext fun j => q2 _
        rw [this]
        exact hn2
      · refine kP_re (show bLok 9 ρ' (kP187 f k (kDl iv.1) 1) cl' from hA.2.1) (by decide) (e 0 (by decide)) (e 2 (by decide)) (e 3 (by decide)) (e 4 (by decide)) ?_ ?_
        · rw [e 5 (by decide)]
          show (n : Int) + kDl iv.1 = (n2 : Int) + 0
          omega
        · rw [e 6 (by decide)]
          show (i : Int) + 1 = ((i + 1 : Nat) : Int) + 0
          omega
theorem kHeld (h : bHyp ro L kP) : bCok ro L kP bC187 := by
  intro ρ vs σ hE hM hs
  have hE : aEok L ρ [(.ofNat 0, .ofNat 0), (.ofNat 0, .ofNat 3072), (.ofNat 0, .ofNat 4), (.ofNat 1, .ofNat 3), (.ofNat 0, .ofNat 2)] := hE
  have hM : bMok 5 ρ kP σ ([], [], 0) σ := hM
  have hs : bSok 5 ρ [.inr [87], .inl (false, 2, .ofNat 0), .inl (false, 3, .ofNat 0), .inl (false, 4, .ofNat 0)] vs := hs
  have hok := kOk_of hM
  have hP : kP σ := hM.2.2.2.2 (show bFg 0 = true by decide +kernel)
  have hN : 0 ≤ L.1 ∧ L.1 ≤ 3072 := by
    obtain ⟨_, Ln, xs, _, e2, e3⟩ := h
    rw [e2]
    exact ⟨by show (0 : Int) ≤ (Ln : Int); omega, by show (Ln : Int) ≤ 3072; omega⟩
  have c2 : (0 : Int) ≤ ρ 2 ∧ ρ 2 ≤ (4 : Int) := hE.2 2 _ rfl
  have c3 : (1 : Int) ≤ ρ 3 ∧ ρ 3 ≤ (3 : Int) := hE.2 3 _ rfl
  have c4 : (0 : Int) ≤ ρ 4 ∧ ρ 4 ≤ (2 : Int) := hE.2 4 _ rfl
  obtain ⟨f, hf⟩ : ∃ f : Nat, ρ 3 = f := ⟨(ρ 3).toNat, by omega⟩
  obtain ⟨k, hk⟩ : ∃ k : Nat, ρ 4 = k := ⟨(ρ 4).toNat, by omega⟩
  suffices hg : pmCs ro 3 187 vs σ (kQ187 σ) by
    refine pmCs_mono hg ?_
    rintro v σ' ⟨x, rfl, x1, x2, x3, x4, x5⟩
    refine ⟨_, List.mem_singleton.mpr rfl, fun v => if v = 5 then x.toInt else ρ v, fun v hv => if_neg (by have hv : v < 5 := hv; omega), by decide, ⟨⟨hE.1.1, hE.1.2.1, by decide⟩, fun v j hj => ?_⟩, ⟨(by decide : 5 < 6), (Int.add_zero _).symm⟩, x3.1, fun p k => x3.2 p k, fun q hq => absurd hq List.not_mem_nil, x5, fun _ => x4⟩
    match v, hj with
    | 0, hj => cases hj; exact hE.2 0 _ rfl
    | 1, hj => cases hj; exact hE.2 1 _ rfl
    | 2, hj => cases hj; exact hE.2 2 _ rfl
    | 3, hj => cases hj; exact hE.2 3 _ rfl
    | 4, hj => cases hj; exact hE.2 4 _ rfl
    | 5, hj => cases hj; exact ⟨x1, x2⟩
    | v + 6, hj => cases hj
  have hE5 : aEok L ρ (kE187 f k) := by
    refine ⟨⟨hE.1.1, hE.1.2.1, (by decide : 1 < 5)⟩, fun v j hj => ?_⟩
    match v, hj with
    | 0, hj => cases hj; exact hE.2 0 _ rfl
    | 1, hj => cases hj; exact hE.2 1 _ rfl
    | 2, hj => cases hj; exact hE.2 2 _ rfl
    | 3, hj => cases hj; exact ⟨by show (f : Int) ≤ ρ 3; omega, by show ρ 3 ≤ (f : Int); omega⟩
    | 4, hj => cases hj; exact ⟨by show (k : Int) ≤ ρ 4; omega, by show ρ 4 ≤ (k : Int); omega⟩
    | v + 5, hj => cases hj
  have ha := List.all_eq_true.mp kS187a _ (kC187_mem (f := f) (k := k) (by omega) (by omega))
  rw [Bool.and_eq_true] at ha
  refine bEc_ok (pl := kP0) (by decide +kernel) hs fun cl hl => ?_
  refine bSeg_ok (E := kE187 f k) h bCn_ok ha.1 (fun B hB => by rw [List.mem_singleton.mp hB]; rfl) (aXok0 hE5) hM hl trivial bNo_ok ?_
  intro B hB ρ' cl' cs' σ' hA
  rw [List.mem_singleton] at hB
  subst hB
  have := bSok_n (show bSok 5 ρ' [] cs' from hA.2.2)
  subst this
  have hok' := hA.ok rfl
  have hP' := hA.kp (show bFg 0 = true by decide +kernel)
  have h98 : 0 ≤ kI σ' 98 (3 * f + k) := by
    have := hok'.2 98 (3 * f + k)
    rw [show bGe 98 (3 * f + k) = [(0, 60)] from bGu_ok (by decide +kernel) _, kI_z rfl] at this
    obtain ⟨j, hj, g1, g2⟩ := this
    rw [List.mem_singleton] at hj
    subst hj
    exact g1
  have e0 : ρ' 0 = 0 := hA.env.1.1
  have e2 : ρ' 2 = ρ 2 := hA.ext 2 (show 2 < 5 by decide)
  have e3 : ρ' 3 = ρ 3 := hA.ext 3 (show 3 < 5 by decide)
  have e4 : ρ' 4 = ρ 4 := hA.ext 4 (show 4 < 5 by decide)
  unfold bWa
  rw [show (kB187 f k).2.1 = 187 from rfl, kM187.1, kM187.2]
  refine kTurn (σs := σ) h hN (f := f) (k := k) (by omega) (by omega) (lv := ρ 2) c2 (kI σ' 98 (3 * f + k)).toNat 0 0 σ' cl' hok' hP' (kSm.le (show kSm 0 σ' σ from hA.sm) (by decide +kernel)) (by omega) rfl ?_
  refine bLok_re (show bLok 5 ρ' (kP1 f k) cl' from hA.2.1) rfl fun i b hb => ?_
  match i, hb with
  | 0, hb => cases hb; exact ⟨_, rfl, fun v hv => by rw [bVok_one hv]; exact List.mem_singleton.mpr rfl⟩
  | 1, hb => cases hb; exact ⟨_, rfl, bVok_re (show 2 < 7 by decide) (by show ρ' 2 + 0 = ρ 2 + 0; omega)⟩
  | 2, hb => cases hb; exact ⟨_, rfl, bVok_re (show 3 < 7 by decide) (by show ρ' 3 + 0 = (f : Int) + 0; omega)⟩
  | 3, hb => cases hb; exact ⟨_, rfl, bVok_re (show 4 < 7 by decide) (by show ρ' 4 + 0 = (k : Int) + 0; omega)⟩
  | 4, hb => cases hb; exact ⟨_, rfl, bVok_re (show 0 < 7 by decide) (by show ρ' 0 + ((3 * f + k : Nat) : Int) = 0 + ((3 * f + k : Nat) : Int); omega)⟩
  | 5, hb => cases hb; exact ⟨_, rfl, bVok_re (show 5 < 7 by decide) (by show ρ' 0 + 0 = ((0 : Nat) : Int) + 0; omega)⟩
  | 6, hb => cases hb; exact ⟨_, rfl, bVok_re (show 6 < 7 by decide) (by show ρ' 0 + ((60 * (3 * f + k) : Nat) : Int) = ((0 : Nat) : Int) + (((60 * (3 * f + k) : Nat) : Int) + 0); omega)⟩
  | 7, hb => cases hb
  | i + 8, hb => cases hb
end
