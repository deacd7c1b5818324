/-! what holds of the rows under guard -/
section
/-- how deep a row of the reference's codes lies behind n of them, where it runs safely -/
def kD (s : Nat → Int) : Nat → Option Nat
  | 0 => some 0
  | n + 1 => match kD s n with
    | some d => if s n / 256 < 5 then some (d + 1) else if s n / 256 = 7 then (if 1 ≤ d then some d else none) else (if 2 ≤ d then some (d - 1) else none)
    | none => none
/-- the tokens that there are -/
def kTok : List aI := [(0, 0), (8, 8), (16, 16), (24, 24), (32, 32), (64, 64), (72, 72), (80, 80), (88, 88), (96, 96), (104, 104), (112, 112), (128, 128), (136, 136), (144, 144), (152, 152), (192, 198), (200, 206), (208, 214), (216, 222), (224, 230), (256, 260), (264, 268), (272, 276), (280, 284), (320, 320), (384, 384), (448, 448)]
def kI (σ : pmS) (p k : Nat) : Int := (σ.2.1 p k).toInt
def kMemo (σ : pmS) : Prop := 0 ≤ kI σ 87 41 ∧ kI σ 87 41 ≤ 3000 ∧ ((List.range 4096).countP fun j => !(σ.2.2 114 j == 0)) ≤ (kI σ 87 41).toNat
def kCodes (σ : pmS) : Prop := ∀ w, w < 12 → kD (fun i => kI σ 99 (60 * w + i)) (kI σ 98 w).toNat ≠ none
def kToks (σ : pmS) : Prop := ∀ w, w < 12 → ∀ i : Nat, (i : Int) < kI σ 9 w → bIn kTok (kI σ 8 (40 * w + i))
def kP (σ : pmS) : Prop := kMemo σ ∧ kCodes σ ∧ kToks σ
/-- the same, while the class reads a wish -/
def kR (σ : pmS) : Prop := kI σ 1 4 ≠ 0 ∨ ∀ i : Nat, (i : Int) < kI σ 31 2 → bIn kTok (kI σ 32 i)
def kQ (σ : pmS) : Prop := kP σ ∧ kR σ
theorem kG {p : Nat} (hs : bSing p = true) (h : bPM.testBit (bRg p 0) = true) (k : Nat) : bPM.testBit (bRg p k) = true := by
  rw [bRg_sing hs k 0]
  exact h
theorem kP_fr : bKfr kP := by
  intro σ σ' _ h hK
  have e1 : σ'.2.1 99 = σ.2.1 99 := funext fun k => (h 99 k (kG (by decide +kernel) (by decide +kernel) k)).1
  have e2 : σ'.2.1 98 = σ.2.1 98 := funext fun k => (h 98 k (kG (by decide +kernel) (by decide +kernel) k)).1
  have e3 : σ'.2.1 9 = σ.2.1 9 := funext fun k => (h 9 k (kG (by decide +kernel) (by decide +kernel) k)).1
  have e4 : σ'.2.1 8 = σ.2.1 8 := funext fun k => (h 8 k (kG (by decide +kernel) (by decide +kernel) k)).1
  have e5 : σ'.2.2 114 = σ.2.2 114 := funext fun k => (h 114 k (kG (by decide +kernel) (by decide +kernel) k)).2
  have e6 : σ'.2.1 87 41 = σ.2.1 87 41 := (h 87 41 (by decide +kernel)).1
  obtain ⟨h1, h2, h3⟩ := hK
  refine ⟨?_, ?_, ?_⟩
  · unfold kMemo kI at h1 ⊢
    rw [e5, e6]
    exact h1
  · unfold kCodes kI at h2 ⊢
    rw [e1, e2]
    exact h2
  · unfold kToks kI at h3 ⊢
    rw [e3, e4]
    exact h3
theorem kQ_fr : bKfr kQ := by
  intro σ σ' h1 h hK
  refine ⟨kP_fr σ σ' h1 h hK.1, ?_⟩
  have e1 : σ'.2.1 32 = σ.2.1 32 := funext fun k => (h 32 k (kG (by decide +kernel) (by decide +kernel) k)).1
  have e2 : σ'.2.1 31 2 = σ.2.1 31 2 := (h 31 2 (by decide +kernel)).1
  have e3 : σ'.2.1 1 4 = σ.2.1 1 4 := (h 1 4 (by decide +kernel)).1
  have h2 := hK.2
  unfold kR kI at h2 ⊢
  rw [e1, e2, e3]
  exact h2
end
