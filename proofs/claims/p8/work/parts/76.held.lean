/-! by hand: isHeld, which needs that a row of codes runs safely -/
section
set_option maxRecDepth 100000
variable {ro : Nat → Nat × (Nat → Int32)} {L : aLa} {Kp : pmS → Prop} {σ0 σ σ' σs : pmS} {ρ ρ' ρ0 ρ2 : Nat → Int} {cl : pmL} {cs vs : List Value} {Q Q' : Option Value → pmS → Prop} {d o m rt pc mm n n2 nC p k : Nat} {x : Int32} {st rest : List Value}
theorem bLok_re {plA plB : bL} (h : bLok n ρ plA cl) (hl : plA.length = plB.length) (hc : ∀ (i : Nat) (b : bV), plB[i]? = some (some b) → ∃ a, plA[i]? = some (some a) ∧ ∀ v, bVok n ρ a v → bVok n2 ρ2 b v) : bLok n2 ρ2 plB cl := ⟨hl.symm.trans h.1, fun i b hb => by
  obtain ⟨a, h1, h2⟩ := hc i b hb
  obtain ⟨v, h3, h4⟩ := h.2 i a h1
  exact ⟨v, h3, h2 v h4⟩⟩
theorem bVok_re {f g : aF} (hg : g.1 < n2) (he : ρ f.1 + f.2 = ρ2 g.1 + g.2) (v : Value) (h : bVok n ρ (.inl (false, f)) v) : bVok n2 ρ2 (.inl (false, g)) v := by
  obtain ⟨x, rfl, hx⟩ := bVok_int h
  exact ⟨hg, hx.2.trans he⟩
theorem kD_le {s : Nat → Int} : ∀ {i n : Nat}, kD s i = some n → n ≤ i
  | 0, n, h => by cases h; exact Nat.le_refl 0
  | i + 1, n, h => by
    unfold kD at h
    cases hd : kD s i with
    | none => rw [hd] at h; cases h
    | some d =>
      rw [hd] at h
      have := kD_le hd
      simp only at h
      split at h
      · cases h; omega
      · split at h
        · split at h
          · cases h; omega
          · cases h
        · split at h
          · cases h; omega
          · cases h
theorem kD_pre {s : Nat → Int} {i : Nat} : ∀ {m : Nat}, i ≤ m → kD s m ≠ none → kD s i ≠ none
  | 0, hi, h => by
    have : i = 0 := by omega
    rw [this]
    exact h
  | m + 1, hi, h => by
    by_cases c : i = m + 1
    · rw [c]
      exact h
    · refine kD_pre (m := m) (by omega) fun e => h ?_
      unfold kD
      rw [e]
def kW187 : Nat := 400481844556465081699453031429460210077529072315686526482653728597038094172463867124430546993336187522082597057702084909583436470014224110833608338813151210201529246522576261177355593000457056089397627167381899544391173060220907332362213452785976783866677249197102357880012857411771332783634897154475470158045953724187743190635944580976675825621171345477040452853402305817977202853862986840005613349242309662593458423402848385611408315540751326897654059783483602185131545018444603217532940810452992
def kV99 : List aI := [(.ofNat 0, .ofNat 9), (.ofNat 16, .ofNat 25), (.ofNat 32, .ofNat 41), (.ofNat 48, .ofNat 57), (.ofNat 64, .ofNat 73), (.ofNat 256, .ofNat 265), (.ofNat 272, .ofNat 281), (.ofNat 288, .ofNat 297), (.ofNat 304, .ofNat 313), (.ofNat 320, .ofNat 329), (.ofNat 336, .ofNat 345), (.ofNat 352, .ofNat 361), (.ofNat 512, .ofNat 521), (.ofNat 528, .ofNat 537), (.ofNat 544, .ofNat 553), (.ofNat 560, .ofNat 569), (.ofNat 768, .ofNat 774), (.ofNat 784, .ofNat 790), (.ofNat 800, .ofNat 806), (.ofNat 816, .ofNat 822), (.ofNat 832, .ofNat 838), (.ofNat 1024, .ofNat 1028), (.ofNat 1040, .ofNat 1044), (.ofNat 1056, .ofNat 1060), (.ofNat 1072, .ofNat 1076), (.ofNat 1280, .ofNat 1280), (.ofNat 1536, .ofNat 1536), (.ofNat 1792, .ofNat 1792)]
def kSp (i : aI) : List aI := bif decide (1024 ≤ i.1) && decide (i.2 < 1280) then (List.range 5).map fun t : Nat => ((i.1 + (t : Int), i.1 + (t : Int)) : aI) else [i]
def kDl (z : Int) : Int := if z / 256 < 5 then 1 else if z / 256 = 7 then 0 else -1
def kLo (z : Int) : Int := if z / 256 < 5 then 0 else if z / 256 = 7 then 1 else 2
def kE187 (f k : Nat) : aE := [(.ofNat 0, .ofNat 0), (.ofNat 0, .ofNat 3072), (.ofNat 0, .ofNat 4), (.ofNat f, .ofNat f), (.ofNat k, .ofNat k)]
def kX187 (f k : Nat) : aE := [(.ofNat 0, .ofNat 0), (.ofNat 0, .ofNat 3072), (.ofNat 0, .ofNat 4), (.ofNat f, .ofNat f), (.ofNat k, .ofNat k), (.ofNat 0, .ofNat 60), (.ofNat 0, .ofNat 60)]
def kY187 (f k : Nat) : aE := [(.ofNat 0, .ofNat 0), (.ofNat 0, .ofNat 3072), (.ofNat 0, .ofNat 4), (.ofNat f, .ofNat f), (.ofNat k, .ofNat k), (.ofNat 0, .ofNat 60), (.ofNat 0, .ofNat 60), (.ofNat 0, .ofNat 1)]
def kT187 (f k : Nat) (iv : aI) : aE := [(.ofNat 0, .ofNat 0), (.ofNat 0, .ofNat 3072), (.ofNat 0, .ofNat 4), (.ofNat f, .ofNat f), (.ofNat k, .ofNat k), (kLo iv.1, .ofNat 59), (.ofNat 0, .ofNat 59), (.ofNat 1, .ofNat 60), iv]
def kP187 (f k : Nat) (dn dc : Int) : bL := [some (.inr [87]), some (.inl (false, 2, .ofNat 0)), some (.inl (false, 3, .ofNat 0)), some (.inl (false, 4, .ofNat 0)), some (.inl (false, 0, .ofNat (3 * f + k))), some (.inl (false, 5, dn)), some (.inl (false, 6, .ofNat (60 * (3 * f + k)) + dc)), none]
def kP0 : bL := [some (.inr [87]), some (.inl (false, 2, .ofNat 0)), some (.inl (false, 3, .ofNat 0)), some (.inl (false, 4, .ofNat 0)), none, none, none, none]
def kP1 (f k : Nat) : bL := [some (.inr [87]), some (.inl (false, 2, .ofNat 0)), some (.inl (false, 3, .ofNat 0)), some (.inl (false, 4, .ofNat 0)), some (.inl (false, 0, .ofNat (3 * f + k))), some (.inl (false, 0, .ofNat 0)), some (.inl (false, 0, .ofNat (60 * (3 * f + k)))), none]
def kC187 : List (Nat × Nat) := [(1, 0), (1, 1), (1, 2), (2, 0), (2, 1), (2, 2), (3, 0), (3, 1), (3, 2)]
def kB187 (f k : Nat) : bNq := bPc 2 187 17 (kP1 f k) [] (kE187 f k) [] [] 0
def kBt187 (f k : Nat) (iv : aI) : bNq := bPc 2 187 17 (kP187 f k (kDl iv.1) 1) [] (kT187 f k iv) [] [] kW187
theorem kS187a : (kC187.all fun q => bSeg (bCc []) bNo [kB187 q.1 q.2] (bPc 2 187 0 kP0 [] (kE187 q.1 q.2) [] [] 0) [] && bSeg (bCc []) (bFi 7 [(some (.inl (false, 7, .ofNat 0)), kY187 q.1 q.2, [])] kW187) [] (bPc 2 187 17 (kP187 q.1 q.2 0 0) [] (kX187 q.1 q.2) [] [(98, [(3 * q.1 + q.2, .inl (6, .ofNat 0))])] 0) []) = true := by decide +kernel
theorem kS187b : (kC187.all fun q => kV99.all fun i => decide (i.2 ≤ i.1 + 4 ∨ ¬ 1024 ≤ i.1 ∨ ¬ i.2 < 1280) && (decide (i.1 / 256 = i.2 / 256) && (kSp i).all fun iv => bSeg (bCc []) bNo [kBt187 q.1 q.2 iv] (bPc 2 187 17 (kP187 q.1 q.2 0 0) [] (kT187 q.1 q.2 iv) [(6, 7, .negSucc 0)] [(98, [(3 * q.1 + q.2, .inl (7, .ofNat 0))])] 0) [(99, (6, .ofNat (60 * (3 * q.1 + q.2))), (8, .ofNat 0))])) = true := by decide +kernel
theorem kM187 : (bMk bSp 187).1 = 12 ∧ (bMk bSp 187).2.2.1 = 2 := by decide +kernel
end
