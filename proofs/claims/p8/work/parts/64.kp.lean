section
/-! what holds of the rows under guard -/
section
/-- how deep a row of the reference's codes lies behind n of them, where it runs safely -/
def kD (s : Nat → Int) : Nat → Option Nat
  | 0 => some 0
  | n + 1 => match kD s n with
    | some d => if s n / 256 < 5 then some (d + 1) else if s n / 256 = 7 then (if 1 ≤ d then some d else none) else (if 2 ≤ d then some (d - 1) else none)
    | none => none
/-- the tokens that there are -/
def kTok : List aI := [(0, 0), (8, 8), (16, 16), (24, 24), (32, 32), (64, 64), (72, 72), (80, 80), (88, 88), (96, 96), (104, 104), (112, 112), (128, 128), (136, 136), (144, 144), (152, 152), (192, 198), (200, 206), (208, 214), (216, 222), (224, 230), (256, 260), (264, 268), (272, 276), (280, 284), (320, 320), (384, 384), (448, 448)]
def kI (σ : pmS) (p k : Nat) : Int := (σ.2.1 p k).toInt
def kMemo (σ : pmS) : Prop := 0 ≤ kI σ 87 41 ∧ kI σ 87 41 ≤ 3000 ∧ ((List.range 4096).countP fun j => !(σ.2.2 114 j == 0)) ≤ (kI σ 87 41).toNat
def kCodes (σ : pmS) : Prop := ∀ w, w < 12 → kD (fun i => kI σ 99 (60 * w + i)) (kI σ 98 w).toNat ≠ none
def kToks (σ : pmS) : Prop := ∀ w, w < 12 → ∀ i : Nat, (i : Int) < kI σ 9 w → bIn kTok (kI σ 8 (40 * w + i))
def kP (σ : pmS) : Prop := kMemo σ ∧ kCodes σ ∧ kToks σ
/-- the same, while the class reads a wish -/
def kR (σ : pmS) : Prop := kI σ 1 4 ≠ 0 ∨ ∀ i : Nat, (i : Int) < kI σ 31 2 → bIn kTok (kI σ 32 i)
def kQ (σ : pmS) : Prop := kP σ ∧ kR σ
theorem kG {p : Nat} (hs : bSing p = true) (h : bPM.testBit (bRg p 0) = true) (k : Nat) : bPM.testBit (bRg p k) = true := by
  rw [bRg_sing hs k 0]
  exact h
theorem kP_fr : bKfr kP := by
  intro σ σ' _ h hK
  have e1 : σ'.2.1 99 = σ.2.1 99 := funext fun k => (h 99 k (kG (by decide +kernel) (by decide +kernel) k)).1
  have e2 : σ'.2.1 98 = σ.2.1 98 := funext fun k => (h 98 k (kG (by decide +kernel) (by decide +kernel) k)).1
  have e3 : σ'.2.1 9 = σ.2.1 9 := funext fun k => (h 9 k (kG (by decide +kernel) (by decide +kernel) k)).1
  have e4 : σ'.2.1 8 = σ.2.1 8 := funext fun k => (h 8 k (kG (by decide +kernel) (by decide +kernel) k)).1
  have e5 : σ'.2.2 114 = σ.2.2 114 := funext fun k => (h 114 k (kG (by decide +kernel) (by decide +kernel) k)).2
  have e6 : σ'.2.1 87 41 = σ.2.1 87 41 := (h 87 41 (by decide +kernel)).1
  obtain ⟨h1, h2, h3⟩ := hK
  refine ⟨?_, ?_, ?_⟩
  · unfold kMemo kI at h1 ⊢
    rw [e5, e6]
    exact h1
  · unfold kCodes kI at h2 ⊢
    rw [e1, e2]
    exact h2
  · unfold kToks kI at h3 ⊢
    rw [e3, e4]
    exact h3
theorem kQ_fr : bKfr kQ := by
  intro σ σ' h1 h hK
  refine ⟨kP_fr σ σ' h1 h hK.1, ?_⟩
  have e1 : σ'.2.1 32 = σ.2.1 32 := funext fun k => (h 32 k (kG (by decide +kernel) (by decide +kernel) k)).1
  have e2 : σ'.2.1 31 2 = σ.2.1 31 2 := (h 31 2 (by decide +kernel)).1
  have e3 : σ'.2.1 1 4 = σ.2.1 1 4 := (h 1 4 (by decide +kernel)).1
  have h2 := hK.2
  unfold kR kI at h2 ⊢
  rw [e1, e2, e3]
  exact h2
end
end
section
/-! the contracts hold, as far as those told by hand do (printed by go4.py) -/
section
/-- what all of them need -/
def bHyp (ro : Nat → Nat × (Nat → Int32)) (L : aLa) (Kp : pmS → Prop) : Prop := bKfr Kp ∧ ∃ (Ln : Nat) (xs : Nat → Int32), ro = pmRo Ln xs ∧ L = ((Ln : Int), xs) ∧ Ln ≤ 3072
theorem bAn {P : bCt → Prop} : ∀ c ∈ ([] : List bCt), P c := fun _ h => absurd h List.not_mem_nil
theorem bAc {P : bCt → Prop} {a : bCt} {l : List bCt} (h : P a) (h2 : ∀ c ∈ l, P c) : ∀ c ∈ a :: l, P c := fun c hc => by
  rcases List.mem_cons.mp hc with rfl | hc
  · exact h
  · exact h2 c hc
variable {ro : Nat → Nat × (Nat → Int32)} {L : aLa} {Kp : pmS → Prop}
theorem bOg {cons : List bCt} {raws : List bNq} {c : bCt} (h : bHyp ro L Kp) (hc : ∀ c ∈ cons, bCok ro L Kp c) (hch : bCk bSp (bCc cons) 20000 raws c = true) : bCok ro L Kp c := by
  obtain ⟨hk, Ln, xs, h1, h2, h3⟩ := h
  exact bCk_ok hk h1 h2 h3 (fun σ0 => bCc_ok hc) hch
theorem bO134 (h : bHyp ro L Kp) : bCok ro L Kp bC134 := bOg h (bAn) bK134
theorem bO245 (h : bHyp ro L Kp) : bCok ro L Kp bC245 := bOg h (bAn) bK245
theorem bO133 (h : bHyp ro L Kp) : bCok ro L Kp bC133 := bOg h (bAn) bK133
theorem bO244 (h : bHyp ro L Kp) : bCok ro L Kp bC244 := bOg h (bAn) bK244
theorem bO132 (h : bHyp ro L Kp) : bCok ro L Kp bC132 := bOg h (bAn) bK132
theorem bO243 (h : bHyp ro L Kp) : bCok ro L Kp bC243 := bOg h (bAn) bK243
theorem bO131 (h : bHyp ro L Kp) : bCok ro L Kp bC131 := bOg h (bAn) bK131
theorem bO130 (h : bHyp ro L Kp) : bCok ro L Kp bC130 := bOg h (bAc (bO131 h) bAn) bK130
theorem bO129 (h : bHyp ro L Kp) : bCok ro L Kp bC129 := bOg h (bAc (bO130 h) bAn) bK129
theorem bO242 (h : bHyp ro L Kp) : bCok ro L Kp bC242 := bOg h (bAn) bK242
theorem bO241 (h : bHyp ro L Kp) : bCok ro L Kp bC241 := bOg h (bAc (bO242 h) bAn) bK241
theorem bO127 (h : bHyp ro L Kp) : bCok ro L Kp bC127 := bOg h (bAn) bK127
theorem bO240 (h : bHyp ro L Kp) : bCok ro L Kp bC240 := bOg h (bAn) bK240
theorem bO126 (h : bHyp ro L Kp) : bCok ro L Kp bC126 := bOg h (bAn) bK126
theorem bO125 (h : bHyp ro L Kp) : bCok ro L Kp bC125 := bOg h (bAc (bO126 h) bAn) bK125
theorem bO124 (h : bHyp ro L Kp) : bCok ro L Kp bC124 := bOg h (bAc (bO125 h) bAn) bK124
theorem bO239 (h : bHyp ro L Kp) : bCok ro L Kp bC239 := bOg h (bAn) bK239
theorem bO66 (h : bHyp ro L Kp) : bCok ro L Kp bC66 := bOg h (bAn) bK66
theorem bO60 (h : bHyp ro L Kp) : bCok ro L Kp bC60 := bOg h (bAn) bK60
theorem bO63 (h : bHyp ro L Kp) : bCok ro L Kp bC63 := bOg h (bAn) bK63
theorem bO59 (h : bHyp ro L Kp) : bCok ro L Kp bC59 := bOg h (bAc (bO60 h) (bAc (bO63 h) bAn)) bK59
theorem bO81 (h : bHyp ro L Kp) : bCok ro L Kp bC81 := bOg h (bAn) bK81
theorem bO94 (h : bHyp ro L Kp) : bCok ro L Kp bC94 := bOg h (bAn) bK94
theorem bO91 (h : bHyp ro L Kp) : bCok ro L Kp bC91 := bOg h (bAc (bO59 h) (bAc (bO81 h) (bAc (bO94 h) bAn))) bK91
theorem bO90 (h : bHyp ro L Kp) : bCok ro L Kp bC90 := bOg h (bAc (bO91 h) bAn) bK90
theorem bO75 (h : bHyp ro L Kp) : bCok ro L Kp bC75 := bOg h (bAn) bK75
theorem bO72 (h : bHyp ro L Kp) (h73 : bCok ro L Kp bC73) (h74 : bCok ro L Kp bC74) : bCok ro L Kp bC72 := bOg h (bAc h73 (bAc h74 (bAc (bO75 h) bAn))) bK72
theorem bO78 (h : bHyp ro L Kp) : bCok ro L Kp bC78 := bOg h (bAn) bK78
theorem bO79 (h : bHyp ro L Kp) : bCok ro L Kp bC79 := bOg h (bAn) bK79
theorem bO80 (h : bHyp ro L Kp) : bCok ro L Kp bC80 := bOg h (bAn) bK80
theorem bO79a (h : bHyp ro L Kp) (h73 : bCok ro L Kp bC73) (h73a : bCok ro L Kp bC73a) (h74 : bCok ro L Kp bC74) (h74a : bCok ro L Kp bC74a) : bCok ro L Kp bC79a := bOg h (bAc h73 (bAc h73a (bAc h74 (bAc h74a (bAc (bO75 h) (bAc (bO79 h) (bAc (bO80 h) (bAc (bO81 h) bAn)))))))) bK79a
theorem bO79b (h : bHyp ro L Kp) (h73 : bCok ro L Kp bC73) (h73a : bCok ro L Kp bC73a) (h74 : bCok ro L Kp bC74) (h74a : bCok ro L Kp bC74a) : bCok ro L Kp bC79b := bOg h (bAc h73 (bAc h73a (bAc h74 (bAc h74a (bAc (bO75 h) (bAc (bO79a h h73 h73a h74 h74a) (bAc (bO80 h) (bAc (bO81 h) bAn)))))))) bK79b
theorem bO79c (h : bHyp ro L Kp) (h73 : bCok ro L Kp bC73) (h73a : bCok ro L Kp bC73a) (h74 : bCok ro L Kp bC74) (h74a : bCok ro L Kp bC74a) : bCok ro L Kp bC79c := bOg h (bAc h73 (bAc h73a (bAc h74 (bAc h74a (bAc (bO75 h) (bAc (bO79b h h73 h73a h74 h74a) (bAc (bO80 h) (bAc (bO81 h) bAn)))))))) bK79c
theorem bO79d (h : bHyp ro L Kp) (h73 : bCok ro L Kp bC73) (h73a : bCok ro L Kp bC73a) (h74 : bCok ro L Kp bC74) (h74a : bCok ro L Kp bC74a) : bCok ro L Kp bC79d := bOg h (bAc h73 (bAc h73a (bAc h74 (bAc h74a (bAc (bO75 h) (bAc (bO79c h h73 h73a h74 h74a) (bAc (bO80 h) (bAc (bO81 h) bAn)))))))) bK79d
theorem bO77 (h : bHyp ro L Kp) (h73 : bCok ro L Kp bC73) (h73a : bCok ro L Kp bC73a) (h74 : bCok ro L Kp bC74) (h74a : bCok ro L Kp bC74a) : bCok ro L Kp bC77 := bOg h (bAc (bO72 h h73 h74) (bAc (bO78 h) (bAc (bO79d h h73 h73a h74 h74a) bAn))) bK77
theorem bO85 (h : bHyp ro L Kp) (h73 : bCok ro L Kp bC73) (h73a : bCok ro L Kp bC73a) (h74 : bCok ro L Kp bC74) (h74a : bCok ro L Kp bC74a) : bCok ro L Kp bC85 := bOg h (bAc (bO77 h h73 h73a h74 h74a) bAn) bK85
theorem bO98 (h : bHyp ro L Kp) : bCok ro L Kp bC98 := bOg h (bAn) bK98
theorem bO97 (h : bHyp ro L Kp) (h73 : bCok ro L Kp bC73) (h73a : bCok ro L Kp bC73a) (h74 : bCok ro L Kp bC74) (h74a : bCok ro L Kp bC74a) : bCok ro L Kp bC97 := bOg h (bAc (bO85 h h73 h73a h74 h74a) (bAc (bO91 h) (bAc (bO98 h) bAn))) bK97
theorem bO122 (h : bHyp ro L Kp) : bCok ro L Kp bC122 := bOg h (bAc (bO80 h) bAn) bK122
theorem bO121 (h : bHyp ro L Kp) (h73 : bCok ro L Kp bC73) (h73a : bCok ro L Kp bC73a) (h74 : bCok ro L Kp bC74) (h74a : bCok ro L Kp bC74a) : bCok ro L Kp bC121 := bOg h (bAc (bO90 h) (bAc (bO97 h h73 h73a h74 h74a) (bAc (bO122 h) bAn))) bK121
theorem bO120 (h : bHyp ro L Kp) (h73 : bCok ro L Kp bC73) (h73a : bCok ro L Kp bC73a) (h74 : bCok ro L Kp bC74) (h74a : bCok ro L Kp bC74a) : bCok ro L Kp bC120 := bOg h (bAc (bO66 h) (bAc (bO121 h h73 h73a h74 h74a) bAn)) bK120
theorem bO181 (h : bHyp ro L Kp) : bCok ro L Kp bC181 := bOg h (bAn) bK181
theorem bO186 (h : bHyp ro L Kp) : bCok ro L Kp bC186 := bOg h (bAn) bK186
theorem bO198 (h : bHyp ro L Kp) (h187 : bCok ro L Kp bC187) (h199 : bCok ro L Kp bC199) : bCok ro L Kp bC198 := bOg h (bAc (bO186 h) (bAc h187 (bAc h199 bAn))) bK198
theorem bO186a (h : bHyp ro L Kp) : bCok ro L Kp bC186a := bOg h (bAn) bK186a
theorem bO198a (h : bHyp ro L Kp) (h187 : bCok ro L Kp bC187) (h199 : bCok ro L Kp bC199) : bCok ro L Kp bC198a := bOg h (bAc (bO186a h) (bAc h187 (bAc h199 bAn))) bK198a
theorem bO186b (h : bHyp ro L Kp) : bCok ro L Kp bC186b := bOg h (bAn) bK186b
theorem bO198b (h : bHyp ro L Kp) (h187 : bCok ro L Kp bC187) (h199 : bCok ro L Kp bC199) : bCok ro L Kp bC198b := bOg h (bAc (bO186b h) (bAc h187 (bAc h199 bAn))) bK198b
theorem bO144 (h : bHyp ro L Kp) : bCok ro L Kp bC144 := bOg h (bAn) bK144
theorem bO177 (h : bHyp ro L Kp) : bCok ro L Kp bC177 := bOg h (bAn) bK177
theorem bO175 (h : bHyp ro L Kp) : bCok ro L Kp bC175 := bOg h (bAc (bO144 h) (bAc (bO177 h) bAn)) bK175
theorem bO179 (h : bHyp ro L Kp) : bCok ro L Kp bC179 := bOg h (bAn) bK179
theorem bO174 (h : bHyp ro L Kp) : bCok ro L Kp bC174 := bOg h (bAc (bO175 h) (bAc (bO179 h) bAn)) bK174
theorem bO210 (h : bHyp ro L Kp) : bCok ro L Kp bC210 := bOg h (bAn) bK210
theorem bO213 (h : bHyp ro L Kp) : bCok ro L Kp bC213 := bOg h (bAn) bK213
theorem bO212 (h : bHyp ro L Kp) : bCok ro L Kp bC212 := bOg h (bAc (bO213 h) bAn) bK212
theorem bO209 (h : bHyp ro L Kp) : bCok ro L Kp bC209 := bOg h (bAc (bO174 h) (bAc (bO210 h) (bAc (bO212 h) bAn))) bK209
theorem bO211 (h : bHyp ro L Kp) : bCok ro L Kp bC211 := bOg h (bAn) bK211
theorem bO209a (h : bHyp ro L Kp) : bCok ro L Kp bC209a := bOg h (bAc (bO174 h) (bAc (bO210 h) (bAc (bO211 h) (bAc (bO212 h) bAn)))) bK209a
theorem bO214 (h : bHyp ro L Kp) : bCok ro L Kp bC214 := bOg h (bAn) bK214
theorem bO208 (h : bHyp ro L Kp) (h187 : bCok ro L Kp bC187) (h199 : bCok ro L Kp bC199) : bCok ro L Kp bC208 := bOg h (bAc (bO198 h h187 h199) (bAc (bO198a h h187 h199) (bAc (bO198b h h187 h199) (bAc (bO209 h) (bAc (bO209a h) (bAc (bO214 h) bAn)))))) bK208
theorem bO209b (h : bHyp ro L Kp) : bCok ro L Kp bC209b := bOg h (bAc (bO174 h) (bAc (bO210 h) (bAc (bO212 h) bAn))) bK209b
theorem bO208a (h : bHyp ro L Kp) (h187 : bCok ro L Kp bC187) (h199 : bCok ro L Kp bC199) : bCok ro L Kp bC208a := bOg h (bAc (bO198 h h187 h199) (bAc (bO198a h h187 h199) (bAc (bO198b h h187 h199) (bAc (bO209b h) (bAc (bO209a h) (bAc (bO214 h) bAn)))))) bK208a
theorem bO209c (h : bHyp ro L Kp) : bCok ro L Kp bC209c := bOg h (bAc (bO174 h) (bAc (bO210 h) (bAc (bO212 h) bAn))) bK209c
theorem bO208b (h : bHyp ro L Kp) (h187 : bCok ro L Kp bC187) (h199 : bCok ro L Kp bC199) : bCok ro L Kp bC208b := bOg h (bAc (bO198 h h187 h199) (bAc (bO198a h h187 h199) (bAc (bO198b h h187 h199) (bAc (bO209c h) (bAc (bO209a h) (bAc (bO214 h) bAn)))))) bK208b
theorem bO209d (h : bHyp ro L Kp) : bCok ro L Kp bC209d := bOg h (bAc (bO174 h) (bAc (bO210 h) (bAc (bO212 h) bAn))) bK209d
theorem bO208c (h : bHyp ro L Kp) (h187 : bCok ro L Kp bC187) (h199 : bCok ro L Kp bC199) : bCok ro L Kp bC208c := bOg h (bAc (bO198 h h187 h199) (bAc (bO198a h h187 h199) (bAc (bO198b h h187 h199) (bAc (bO209d h) (bAc (bO209a h) (bAc (bO214 h) bAn)))))) bK208c
theorem bO209e (h : bHyp ro L Kp) : bCok ro L Kp bC209e := bOg h (bAc (bO174 h) (bAc (bO210 h) (bAc (bO212 h) bAn))) bK209e
theorem bO208d (h : bHyp ro L Kp) (h187 : bCok ro L Kp bC187) (h199 : bCok ro L Kp bC199) : bCok ro L Kp bC208d := bOg h (bAc (bO198 h h187 h199) (bAc (bO198a h h187 h199) (bAc (bO198b h h187 h199) (bAc (bO209e h) (bAc (bO209a h) (bAc (bO214 h) bAn)))))) bK208d
theorem bO208e (h : bHyp ro L Kp) (h187 : bCok ro L Kp bC187) (h199 : bCok ro L Kp bC199) : bCok ro L Kp bC208e := bOg h (bAc (bO198 h h187 h199) (bAc (bO198a h h187 h199) (bAc (bO198b h h187 h199) (bAc (bO209a h) (bAc (bO214 h) bAn))))) bK208e
theorem bO214a (h : bHyp ro L Kp) : bCok ro L Kp bC214a := bOg h (bAn) bK214a
theorem bO208f (h : bHyp ro L Kp) (h187 : bCok ro L Kp bC187) (h199 : bCok ro L Kp bC199) : bCok ro L Kp bC208f := bOg h (bAc (bO198 h h187 h199) (bAc (bO198a h h187 h199) (bAc (bO198b h h187 h199) (bAc (bO209 h) (bAc (bO209a h) (bAc (bO214a h) bAn)))))) bK208f
theorem bO208g (h : bHyp ro L Kp) (h187 : bCok ro L Kp bC187) (h199 : bCok ro L Kp bC199) : bCok ro L Kp bC208g := bOg h (bAc (bO198 h h187 h199) (bAc (bO198a h h187 h199) (bAc (bO198b h h187 h199) (bAc (bO209b h) (bAc (bO209a h) (bAc (bO214a h) bAn)))))) bK208g
theorem bO208h (h : bHyp ro L Kp) (h187 : bCok ro L Kp bC187) (h199 : bCok ro L Kp bC199) : bCok ro L Kp bC208h := bOg h (bAc (bO198 h h187 h199) (bAc (bO198a h h187 h199) (bAc (bO198b h h187 h199) (bAc (bO209c h) (bAc (bO209a h) (bAc (bO214a h) bAn)))))) bK208h
theorem bO208i (h : bHyp ro L Kp) (h187 : bCok ro L Kp bC187) (h199 : bCok ro L Kp bC199) : bCok ro L Kp bC208i := bOg h (bAc (bO198 h h187 h199) (bAc (bO198a h h187 h199) (bAc (bO198b h h187 h199) (bAc (bO209d h) (bAc (bO209a h) (bAc (bO214a h) bAn)))))) bK208i
theorem bO208j (h : bHyp ro L Kp) (h187 : bCok ro L Kp bC187) (h199 : bCok ro L Kp bC199) : bCok ro L Kp bC208j := bOg h (bAc (bO198 h h187 h199) (bAc (bO198a h h187 h199) (bAc (bO198b h h187 h199) (bAc (bO209e h) (bAc (bO209a h) (bAc (bO214a h) bAn)))))) bK208j
theorem bO208k (h : bHyp ro L Kp) (h187 : bCok ro L Kp bC187) (h199 : bCok ro L Kp bC199) : bCok ro L Kp bC208k := bOg h (bAc (bO198 h h187 h199) (bAc (bO198a h h187 h199) (bAc (bO198b h h187 h199) (bAc (bO209a h) (bAc (bO214a h) bAn))))) bK208k
theorem bO202 (h : bHyp ro L Kp) : bCok ro L Kp bC202 := bOg h (bAn) bK202
theorem bO224 (h : bHyp ro L Kp) : bCok ro L Kp bC224 := bOg h (bAc (bO202 h) bAn) bK224
theorem bO227 (h : bHyp ro L Kp) : bCok ro L Kp bC227 := bOg h (bAn) bK227
theorem bO207 (h : bHyp ro L Kp) : bCok ro L Kp bC207 := bOg h (bAn) bK207
theorem bO206 (h : bHyp ro L Kp) : bCok ro L Kp bC206 := bOg h (bAc (bO207 h) bAn) bK206
theorem bO238 (h : bHyp ro L Kp) : bCok ro L Kp bC238 := bOg h (bAc (bO206 h) bAn) bK238
theorem bO237 (h : bHyp ro L Kp) (h187 : bCok ro L Kp bC187) (h199 : bCok ro L Kp bC199) : bCok ro L Kp bC237 := bOg h (bAc (bO181 h) (bAc (bO208 h h187 h199) (bAc (bO208a h h187 h199) (bAc (bO208b h h187 h199) (bAc (bO208c h h187 h199) (bAc (bO208d h h187 h199) (bAc (bO208e h h187 h199) (bAc (bO208f h h187 h199) (bAc (bO208g h h187 h199) (bAc (bO208h h h187 h199) (bAc (bO208i h h187 h199) (bAc (bO208j h h187 h199) (bAc (bO208k h h187 h199) (bAc (bO224 h) (bAc (bO227 h) (bAc (bO238 h) bAn)))))))))))))))) bK237
theorem bO102 (h : bHyp ro L Kp) : bCok ro L Kp bC102 := bOg h (bAn) bK102
theorem bO104 (h : bHyp ro L Kp) : bCok ro L Kp bC104 := bOg h (bAc (bO59 h) bAn) bK104
theorem bO117 (h : bHyp ro L Kp) (h73 : bCok ro L Kp bC73) (h73a : bCok ro L Kp bC73a) (h74 : bCok ro L Kp bC74) (h74a : bCok ro L Kp bC74a) : bCok ro L Kp bC117 := bOg h (bAc (bO66 h) (bAc (bO80 h) (bAc (bO90 h) (bAc (bO97 h h73 h73a h74 h74a) (bAc (bO102 h) (bAc (bO104 h) bAn)))))) bK117
theorem bO119 (h : bHyp ro L Kp) (h73 : bCok ro L Kp bC73) (h73a : bCok ro L Kp bC73a) (h74 : bCok ro L Kp bC74) (h74a : bCok ro L Kp bC74a) : bCok ro L Kp bC119 := bOg h (bAc (bO117 h h73 h73a h74 h74a) bAn) bK119
theorem bO227a (h : bHyp ro L Kp) : bCok ro L Kp bC227a := bOg h (bAn) bK227a
theorem bO233 (h : bHyp ro L Kp) (h187 : bCok ro L Kp bC187) (h199 : bCok ro L Kp bC199) : bCok ro L Kp bC233 := bOg h (bAc (bO206 h) (bAc (bO208f h h187 h199) (bAc (bO208g h h187 h199) (bAc (bO208h h h187 h199) (bAc (bO208i h h187 h199) (bAc (bO208j h h187 h199) (bAc (bO208k h h187 h199) bAn))))))) bK233
theorem bO217 (h : bHyp ro L Kp) : bCok ro L Kp bC217 := bOg h (bAn) bK217
theorem bO221 (h : bHyp ro L Kp) : bCok ro L Kp bC221 := bOg h (bAc (bO174 h) bAn) bK221
theorem bO235 (h : bHyp ro L Kp) : bCok ro L Kp bC235 := bOg h (bAc (bO217 h) (bAc (bO221 h) bAn)) bK235
theorem bO236 (h : bHyp ro L Kp) (h187 : bCok ro L Kp bC187) (h199 : bCok ro L Kp bC199) : bCok ro L Kp bC236 := bOg h (bAc (bO181 h) (bAc (bO227 h) (bAc (bO227a h) (bAc (bO233 h h187 h199) (bAc (bO235 h) bAn))))) bK236
theorem bO116 (h : bHyp ro L Kp) (h73 : bCok ro L Kp bC73) (h73a : bCok ro L Kp bC73a) (h74 : bCok ro L Kp bC74) (h74a : bCok ro L Kp bC74a) : bCok ro L Kp bC116 := bOg h (bAc (bO117 h h73 h73a h74 h74a) bAn) bK116
theorem bO232 (h : bHyp ro L Kp) (h187 : bCok ro L Kp bC187) (h199 : bCok ro L Kp bC199) : bCok ro L Kp bC232 := bOg h (bAc (bO181 h) (bAc (bO227 h) (bAc (bO227a h) (bAc (bO233 h h187 h199) (bAc (bO235 h) bAn))))) bK232
theorem bO111 (h : bHyp ro L Kp) : bCok ro L Kp bC111 := bOg h (bAn) bK111
theorem bO113 (h : bHyp ro L Kp) : bCok ro L Kp bC113 := bOg h (bAn) bK113
theorem bO112 (h : bHyp ro L Kp) (h73 : bCok ro L Kp bC73) (h73a : bCok ro L Kp bC73a) (h74 : bCok ro L Kp bC74) (h74a : bCok ro L Kp bC74a) : bCok ro L Kp bC112 := bOg h (bAc (bO66 h) (bAc (bO80 h) (bAc (bO90 h) (bAc (bO97 h h73 h73a h74 h74a) (bAc (bO111 h) (bAc (bO113 h) bAn)))))) bK112
theorem bO111a (h : bHyp ro L Kp) (h73 : bCok ro L Kp bC73) (h73a : bCok ro L Kp bC73a) (h74 : bCok ro L Kp bC74) (h74a : bCok ro L Kp bC74a) : bCok ro L Kp bC111a := bOg h (bAc (bO66 h) (bAc (bO102 h) (bAc (bO104 h) (bAc (bO112 h h73 h73a h74 h74a) bAn)))) bK111a
theorem bO112a (h : bHyp ro L Kp) (h73 : bCok ro L Kp bC73) (h73a : bCok ro L Kp bC73a) (h74 : bCok ro L Kp bC74) (h74a : bCok ro L Kp bC74a) : bCok ro L Kp bC112a := bOg h (bAc (bO66 h) (bAc (bO80 h) (bAc (bO90 h) (bAc (bO97 h h73 h73a h74 h74a) (bAc (bO111a h h73 h73a h74 h74a) (bAc (bO113 h) bAn)))))) bK112a
theorem bO111b (h : bHyp ro L Kp) (h73 : bCok ro L Kp bC73) (h73a : bCok ro L Kp bC73a) (h74 : bCok ro L Kp bC74) (h74a : bCok ro L Kp bC74a) : bCok ro L Kp bC111b := bOg h (bAc (bO66 h) (bAc (bO102 h) (bAc (bO104 h) (bAc (bO112a h h73 h73a h74 h74a) bAn)))) bK111b
theorem bO115 (h : bHyp ro L Kp) (h73 : bCok ro L Kp bC73) (h73a : bCok ro L Kp bC73a) (h74 : bCok ro L Kp bC74) (h74a : bCok ro L Kp bC74a) : bCok ro L Kp bC115 := bOg h (bAc (bO111a h h73 h73a h74 h74a) (bAc (bO111b h h73 h73a h74 h74a) bAn)) bK115
theorem bO181a (h : bHyp ro L Kp) : bCok ro L Kp bC181a := bOg h (bAn) bK181a
theorem bO227b (h : bHyp ro L Kp) : bCok ro L Kp bC227b := bOg h (bAn) bK227b
theorem bO226 (h : bHyp ro L Kp) (h187 : bCok ro L Kp bC187) (h199 : bCok ro L Kp bC199) : bCok ro L Kp bC226 := bOg h (bAc (bO181a h) (bAc (bO206 h) (bAc (bO208f h h187 h199) (bAc (bO208g h h187 h199) (bAc (bO208h h h187 h199) (bAc (bO208i h h187 h199) (bAc (bO208j h h187 h199) (bAc (bO208k h h187 h199) (bAc (bO221 h) (bAc (bO224 h) (bAc (bO227 h) (bAc (bO227b h) bAn)))))))))))) bK226
theorem bO181b (h : bHyp ro L Kp) : bCok ro L Kp bC181b := bOg h (bAn) bK181b
theorem bO181c (h : bHyp ro L Kp) : bCok ro L Kp bC181c := bOg h (bAn) bK181c
theorem bO227c (h : bHyp ro L Kp) : bCok ro L Kp bC227c := bOg h (bAn) bK227c
theorem bO227d (h : bHyp ro L Kp) : bCok ro L Kp bC227d := bOg h (bAn) bK227d
theorem bO226a (h : bHyp ro L Kp) (h187 : bCok ro L Kp bC187) (h199 : bCok ro L Kp bC199) : bCok ro L Kp bC226a := bOg h (bAc (bO181c h) (bAc (bO206 h) (bAc (bO208f h h187 h199) (bAc (bO208g h h187 h199) (bAc (bO208h h h187 h199) (bAc (bO208i h h187 h199) (bAc (bO208j h h187 h199) (bAc (bO208k h h187 h199) (bAc (bO221 h) (bAc (bO224 h) (bAc (bO227c h) (bAc (bO227d h) bAn)))))))))))) bK226a
theorem bO225 (h : bHyp ro L Kp) (h187 : bCok ro L Kp bC187) (h199 : bCok ro L Kp bC199) : bCok ro L Kp bC225 := bOg h (bAc (bO181b h) (bAc (bO217 h) (bAc (bO226a h h187 h199) bAn))) bK225
theorem bO229 (h : bHyp ro L Kp) (h187 : bCok ro L Kp bC187) (h199 : bCok ro L Kp bC199) : bCok ro L Kp bC229 := bOg h (bAc (bO181a h) (bAc (bO206 h) (bAc (bO208f h h187 h199) (bAc (bO208g h h187 h199) (bAc (bO208h h h187 h199) (bAc (bO208i h h187 h199) (bAc (bO208j h h187 h199) (bAc (bO208k h h187 h199) (bAc (bO221 h) (bAc (bO224 h) (bAc (bO225 h h187 h199) (bAc (bO227 h) (bAc (bO227b h) bAn))))))))))))) bK229
theorem bO231 (h : bHyp ro L Kp) (h187 : bCok ro L Kp bC187) (h199 : bCok ro L Kp bC199) : bCok ro L Kp bC231 := bOg h (bAc (bO181 h) (bAc (bO217 h) (bAc (bO224 h) (bAc (bO226 h h187 h199) (bAc (bO229 h h187 h199) bAn))))) bK231
theorem bO114 (h : bHyp ro L Kp) (h73 : bCok ro L Kp bC73) (h73a : bCok ro L Kp bC73a) (h74 : bCok ro L Kp bC74) (h74a : bCok ro L Kp bC74a) : bCok ro L Kp bC114 := bOg h (bAc (bO111 h) (bAc (bO111a h h73 h73a h74 h74a) (bAc (bO111b h h73 h73a h74 h74a) bAn))) bK114
theorem bO225a (h : bHyp ro L Kp) (h187 : bCok ro L Kp bC187) (h199 : bCok ro L Kp bC199) : bCok ro L Kp bC225a := bOg h (bAc (bO181 h) (bAc (bO217 h) (bAc (bO226 h h187 h199) bAn))) bK225a
theorem bO228 (h : bHyp ro L Kp) (h187 : bCok ro L Kp bC187) (h199 : bCok ro L Kp bC199) : bCok ro L Kp bC228 := bOg h (bAc (bO181 h) (bAc (bO217 h) (bAc (bO229 h h187 h199) bAn))) bK228
theorem bO230 (h : bHyp ro L Kp) (h187 : bCok ro L Kp bC187) (h199 : bCok ro L Kp bC199) : bCok ro L Kp bC230 := bOg h (bAc (bO224 h) (bAc (bO225a h h187 h199) (bAc (bO228 h h187 h199) bAn))) bK230
theorem bO110 (h : bHyp ro L Kp) (h73 : bCok ro L Kp bC73) (h73a : bCok ro L Kp bC73a) (h74 : bCok ro L Kp bC74) (h74a : bCok ro L Kp bC74a) : bCok ro L Kp bC110 := bOg h (bAc (bO111 h) (bAc (bO111a h h73 h73a h74 h74a) (bAc (bO111b h h73 h73a h74 h74a) bAn))) bK110
theorem bO223 (h : bHyp ro L Kp) (h187 : bCok ro L Kp bC187) (h199 : bCok ro L Kp bC199) : bCok ro L Kp bC223 := bOg h (bAc (bO224 h) (bAc (bO225a h h187 h199) (bAc (bO228 h h187 h199) bAn))) bK223
theorem bO109 (h : bHyp ro L Kp) : bCok ro L Kp bC109 := bOg h (bAn) bK109
theorem bO203 (h : bHyp ro L Kp) : bCok ro L Kp bC203 := bOg h (bAc (bO202 h) bAn) bK203
theorem bO107 (h : bHyp ro L Kp) : bCok ro L Kp bC107 := bOg h (bAn) bK107
theorem bO201 (h : bHyp ro L Kp) : bCok ro L Kp bC201 := bOg h (bAc (bO202 h) bAn) bK201
theorem bO106 (h : bHyp ro L Kp) : bCok ro L Kp bC106 := bOg h (bAc (bO102 h) (bAc (bO104 h) bAn)) bK106
theorem bO222 (h : bHyp ro L Kp) : bCok ro L Kp bC222 := bOg h (bAc (bO217 h) (bAc (bO221 h) bAn)) bK222
theorem bO100 (h : bHyp ro L Kp) : bCok ro L Kp bC100 := bOg h (bAc (bO102 h) (bAc (bO104 h) bAn)) bK100
theorem bO215 (h : bHyp ro L Kp) : bCok ro L Kp bC215 := bOg h (bAc (bO217 h) (bAc (bO221 h) bAn)) bK215
theorem bO87 (h : bHyp ro L Kp) (h73 : bCok ro L Kp bC73) (h73a : bCok ro L Kp bC73a) (h74 : bCok ro L Kp bC74) (h74a : bCok ro L Kp bC74a) : bCok ro L Kp bC87 := bOg h (bAc (bO80 h) (bAc (bO90 h) (bAc (bO97 h h73 h73a h74 h74a) bAn))) bK87
theorem bO205 (h : bHyp ro L Kp) : bCok ro L Kp bC205 := bOg h (bAn) bK205
theorem bO204 (h : bHyp ro L Kp) (h187 : bCok ro L Kp bC187) (h199 : bCok ro L Kp bC199) : bCok ro L Kp bC204 := bOg h (bAc (bO205 h) (bAc (bO206 h) (bAc (bO208 h h187 h199) (bAc (bO208a h h187 h199) (bAc (bO208b h h187 h199) (bAc (bO208c h h187 h199) (bAc (bO208d h h187 h199) (bAc (bO208e h h187 h199) bAn)))))))) bK204
theorem bO84 (h : bHyp ro L Kp) (h73 : bCok ro L Kp bC73) (h73a : bCok ro L Kp bC73a) (h74 : bCok ro L Kp bC74) (h74a : bCok ro L Kp bC74a) : bCok ro L Kp bC84 := bOg h (bAc (bO85 h h73 h73a h74 h74a) bAn) bK84
theorem bO197 (h : bHyp ro L Kp) (h187 : bCok ro L Kp bC187) (h199 : bCok ro L Kp bC199) : bCok ro L Kp bC197 := bOg h (bAc (bO198 h h187 h199) (bAc (bO198a h h187 h199) (bAc (bO198b h h187 h199) bAn))) bK197
theorem bO76 (h : bHyp ro L Kp) (h73 : bCok ro L Kp bC73) (h73a : bCok ro L Kp bC73a) (h74 : bCok ro L Kp bC74) (h74a : bCok ro L Kp bC74a) : bCok ro L Kp bC76 := bOg h (bAc (bO77 h h73 h73a h74 h74a) bAn) bK76
theorem bO195 (h : bHyp ro L Kp) : bCok ro L Kp bC195 := bOg h (bAn) bK195
theorem bO191 (h : bHyp ro L Kp) : bCok ro L Kp bC191 := bOg h (bAc (bO195 h) bAn) bK191
theorem bO191a (h : bHyp ro L Kp) : bCok ro L Kp bC191a := bOg h (bAc (bO195 h) bAn) bK191a
theorem bO191b (h : bHyp ro L Kp) : bCok ro L Kp bC191b := bOg h (bAc (bO195 h) bAn) bK191b
theorem bO191c (h : bHyp ro L Kp) : bCok ro L Kp bC191c := bOg h (bAc (bO195 h) bAn) bK191c
theorem bO196 (h : bHyp ro L Kp) : bCok ro L Kp bC196 := bOg h (bAn) bK196
theorem bO196a (h : bHyp ro L Kp) : bCok ro L Kp bC196a := bOg h (bAn) bK196a
theorem bO196b (h : bHyp ro L Kp) : bCok ro L Kp bC196b := bOg h (bAn) bK196b
theorem bO196c (h : bHyp ro L Kp) : bCok ro L Kp bC196c := bOg h (bAn) bK196c
theorem bO190 (h : bHyp ro L Kp) (h187 : bCok ro L Kp bC187) : bCok ro L Kp bC190 := bOg h (bAc h187 (bAc (bO191 h) (bAc (bO191a h) (bAc (bO191b h) (bAc (bO191c h) (bAc (bO196 h) (bAc (bO196a h) (bAc (bO196b h) (bAc (bO196c h) bAn))))))))) bK190
theorem bO189 (h : bHyp ro L Kp) (h187 : bCok ro L Kp bC187) : bCok ro L Kp bC189 := bOg h (bAc (bO186 h) (bAc (bO186a h) (bAc (bO186b h) (bAc h187 (bAc (bO190 h h187) bAn))))) bK189
theorem bO70 (h : bHyp ro L Kp) (h73 : bCok ro L Kp bC73) (h74 : bCok ro L Kp bC74) : bCok ro L Kp bC70 := bOg h (bAc (bO72 h h73 h74) bAn) bK70
theorem bO183 (h : bHyp ro L Kp) (h187 : bCok ro L Kp bC187) : bCok ro L Kp bC183 := bOg h (bAc (bO186 h) (bAc (bO186a h) (bAc (bO186b h) (bAc h187 bAn)))) bK183
theorem bO68 (h : bHyp ro L Kp) : bCok ro L Kp bC68 := bOg h (bAn) bK68
theorem bO182 (h : bHyp ro L Kp) : bCok ro L Kp bC182 := bOg h (bAn) bK182
theorem bO58 (h : bHyp ro L Kp) : bCok ro L Kp bC58 := bOg h (bAn) bK58
theorem bO181d (h : bHyp ro L Kp) : bCok ro L Kp bC181d := bOg h (bAn) bK181d
theorem bO40 (h : bHyp ro L Kp) (h39 : bCok ro L Kp bC39) : bCok ro L Kp bC40 := bOg h (bAc h39 bAn) bK40
theorem bO52 (h : bHyp ro L Kp) (h39 : bCok ro L Kp bC39) : bCok ro L Kp bC52 := bOg h (bAc (bO40 h h39) bAn) bK52
theorem bO50 (h : bHyp ro L Kp) (h39 : bCok ro L Kp bC39) : bCok ro L Kp bC50 := bOg h (bAc h39 (bAc (bO52 h h39) bAn)) bK50
theorem bO40a (h : bHyp ro L Kp) (h39 : bCok ro L Kp bC39) : bCok ro L Kp bC40a := bOg h (bAc h39 bAn) bK40a
theorem bO54 (h : bHyp ro L Kp) (h39 : bCok ro L Kp bC39) : bCok ro L Kp bC54 := bOg h (bAc h39 (bAc (bO40a h h39) bAn)) bK54
theorem bO49 (h : bHyp ro L Kp) (h39 : bCok ro L Kp bC39) : bCok ro L Kp bC49 := bOg h (bAc h39 (bAc (bO50 h h39) (bAc (bO54 h h39) bAn))) bK49
theorem bO48 (h : bHyp ro L Kp) (h33 : bCok ro L Kp bC33) (h39 : bCok ro L Kp bC39) : bCok ro L Kp bC48 := bOg h (bAc h33 (bAc h39 (bAc (bO49 h h39) bAn))) bK48
theorem bO47 (h : bHyp ro L Kp) (h33 : bCok ro L Kp bC33) (h39 : bCok ro L Kp bC39) : bCok ro L Kp bC47 := bOg h (bAc (bO48 h h33 h39) bAn) bK47
theorem bO169 (h : bHyp ro L Kp) : bCok ro L Kp bC169 := bOg h (bAn) bK169
theorem bO170 (h : bHyp ro L Kp) : bCok ro L Kp bC170 := bOg h (bAn) bK170
theorem bO168 (h : bHyp ro L Kp) : bCok ro L Kp bC168 := bOg h (bAc (bO169 h) (bAc (bO170 h) bAn)) bK168
theorem bO172 (h : bHyp ro L Kp) : bCok ro L Kp bC172 := bOg h (bAn) bK172
theorem bO167 (h : bHyp ro L Kp) : bCok ro L Kp bC167 := bOg h (bAc (bO168 h) (bAc (bO172 h) bAn)) bK167
theorem bO166 (h : bHyp ro L Kp) : bCok ro L Kp bC166 := bOg h (bAc (bO167 h) bAn) bK166
theorem bO29 (h : bHyp ro L Kp) : bCok ro L Kp bC29 := bOg h (bAn) bK29
theorem bO151 (h : bHyp ro L Kp) : bCok ro L Kp bC151 := bOg h (bAn) bK151
theorem bO28 (h : bHyp ro L Kp) : bCok ro L Kp bC28 := bOg h (bAn) bK28
theorem bO150 (h : bHyp ro L Kp) : bCok ro L Kp bC150 := bOg h (bAn) bK150
theorem bO25 (h : bHyp ro L Kp) : bCok ro L Kp bC25 := bOg h (bAn) bK25
theorem bO145 (h : bHyp ro L Kp) : bCok ro L Kp bC145 := bOg h (bAn) bK145
theorem bO23 (h : bHyp ro L Kp) : bCok ro L Kp bC23 := bOg h (bAn) bK23
theorem bO142 (h : bHyp ro L Kp) : bCok ro L Kp bC142 := bOg h (bAc (bO144 h) bAn) bK142
theorem bO20 (h : bHyp ro L Kp) : bCok ro L Kp bC20 := bOg h (bAn) bK20
theorem bO141 (h : bHyp ro L Kp) : bCok ro L Kp bC141 := bOg h (bAn) bK141
theorem bO40b (h : bHyp ro L Kp) (h39 : bCok ro L Kp bC39) : bCok ro L Kp bC40b := bOg h (bAc h39 bAn) bK40b
theorem bO40c (h : bHyp ro L Kp) (h39 : bCok ro L Kp bC39) : bCok ro L Kp bC40c := bOg h (bAc h39 bAn) bK40c
theorem bO38 (h : bHyp ro L Kp) (h39 : bCok ro L Kp bC39) (h41 : bCok ro L Kp bC41) (h41a : bCok ro L Kp bC41a) (h41b : bCok ro L Kp bC41b) (h41c : bCok ro L Kp bC41c) (h41d : bCok ro L Kp bC41d) (h41e : bCok ro L Kp bC41e) (h41f : bCok ro L Kp bC41f) (h41g : bCok ro L Kp bC41g) (h41h : bCok ro L Kp bC41h) (h41i : bCok ro L Kp bC41i) : bCok ro L Kp bC38 := bOg h (bAc h39 (bAc (bO40b h h39) (bAc (bO40c h h39) (bAc (bO40 h h39) (bAc h41 (bAc h41a (bAc h41b (bAc h41c (bAc h41d (bAc h41e (bAc h41f (bAc h41g (bAc h41h (bAc h41i bAn)))))))))))))) bK38
theorem bO38a (h : bHyp ro L Kp) (h39 : bCok ro L Kp bC39) : bCok ro L Kp bC38a := bOg h (bAc h39 bAn) bK38a
theorem bO36 (h : bHyp ro L Kp) (h39 : bCok ro L Kp bC39) (h41 : bCok ro L Kp bC41) (h41a : bCok ro L Kp bC41a) (h41b : bCok ro L Kp bC41b) (h41c : bCok ro L Kp bC41c) (h41d : bCok ro L Kp bC41d) (h41e : bCok ro L Kp bC41e) (h41f : bCok ro L Kp bC41f) (h41g : bCok ro L Kp bC41g) (h41h : bCok ro L Kp bC41h) (h41i : bCok ro L Kp bC41i) : bCok ro L Kp bC36 := bOg h (bAc (bO38 h h39 h41 h41a h41b h41c h41d h41e h41f h41g h41h h41i) (bAc (bO38a h h39) (bAc h39 bAn))) bK36
theorem bO35 (h : bHyp ro L Kp) (h39 : bCok ro L Kp bC39) (h41 : bCok ro L Kp bC41) (h41a : bCok ro L Kp bC41a) (h41b : bCok ro L Kp bC41b) (h41c : bCok ro L Kp bC41c) (h41d : bCok ro L Kp bC41d) (h41e : bCok ro L Kp bC41e) (h41f : bCok ro L Kp bC41f) (h41g : bCok ro L Kp bC41g) (h41h : bCok ro L Kp bC41h) (h41i : bCok ro L Kp bC41i) (h41j : bCok ro L Kp bC41j) : bCok ro L Kp bC35 := bOg h (bAc (bO36 h h39 h41 h41a h41b h41c h41d h41e h41f h41g h41h h41i) (bAc h41j bAn)) bK35
theorem bO34 (h : bHyp ro L Kp) (h39 : bCok ro L Kp bC39) (h41 : bCok ro L Kp bC41) (h41a : bCok ro L Kp bC41a) (h41b : bCok ro L Kp bC41b) (h41c : bCok ro L Kp bC41c) (h41d : bCok ro L Kp bC41d) (h41e : bCok ro L Kp bC41e) (h41f : bCok ro L Kp bC41f) (h41g : bCok ro L Kp bC41g) (h41h : bCok ro L Kp bC41h) (h41i : bCok ro L Kp bC41i) (h41j : bCok ro L Kp bC41j) (h41k : bCok ro L Kp bC41k) : bCok ro L Kp bC34 := bOg h (bAc (bO35 h h39 h41 h41a h41b h41c h41d h41e h41f h41g h41h h41i h41j) (bAc h41k bAn)) bK34
theorem bO36a (h : bHyp ro L Kp) (h39 : bCok ro L Kp bC39) (h41 : bCok ro L Kp bC41) (h41a : bCok ro L Kp bC41a) (h41b : bCok ro L Kp bC41b) (h41c : bCok ro L Kp bC41c) (h41d : bCok ro L Kp bC41d) (h41e : bCok ro L Kp bC41e) (h41f : bCok ro L Kp bC41f) (h41g : bCok ro L Kp bC41g) (h41h : bCok ro L Kp bC41h) (h41i : bCok ro L Kp bC41i) (h41j : bCok ro L Kp bC41j) (h41k : bCok ro L Kp bC41k) (h41l : bCok ro L Kp bC41l) : bCok ro L Kp bC36a := bOg h (bAc (bO34 h h39 h41 h41a h41b h41c h41d h41e h41f h41g h41h h41i h41j h41k) (bAc (bO36 h h39 h41 h41a h41b h41c h41d h41e h41f h41g h41h h41i) (bAc (bO38 h h39 h41 h41a h41b h41c h41d h41e h41f h41g h41h h41i) (bAc (bO38a h h39) (bAc h39 (bAc h41l bAn)))))) bK36a
theorem bO35a (h : bHyp ro L Kp) (h39 : bCok ro L Kp bC39) (h41 : bCok ro L Kp bC41) (h41a : bCok ro L Kp bC41a) (h41b : bCok ro L Kp bC41b) (h41c : bCok ro L Kp bC41c) (h41d : bCok ro L Kp bC41d) (h41e : bCok ro L Kp bC41e) (h41f : bCok ro L Kp bC41f) (h41g : bCok ro L Kp bC41g) (h41h : bCok ro L Kp bC41h) (h41i : bCok ro L Kp bC41i) (h41j : bCok ro L Kp bC41j) (h41k : bCok ro L Kp bC41k) (h41l : bCok ro L Kp bC41l) : bCok ro L Kp bC35a := bOg h (bAc (bO36a h h39 h41 h41a h41b h41c h41d h41e h41f h41g h41h h41i h41j h41k h41l) (bAc h41j bAn)) bK35a
theorem bO34a (h : bHyp ro L Kp) (h39 : bCok ro L Kp bC39) (h41 : bCok ro L Kp bC41) (h41a : bCok ro L Kp bC41a) (h41b : bCok ro L Kp bC41b) (h41c : bCok ro L Kp bC41c) (h41d : bCok ro L Kp bC41d) (h41e : bCok ro L Kp bC41e) (h41f : bCok ro L Kp bC41f) (h41g : bCok ro L Kp bC41g) (h41h : bCok ro L Kp bC41h) (h41i : bCok ro L Kp bC41i) (h41j : bCok ro L Kp bC41j) (h41k : bCok ro L Kp bC41k) (h41l : bCok ro L Kp bC41l) : bCok ro L Kp bC34a := bOg h (bAc (bO35a h h39 h41 h41a h41b h41c h41d h41e h41f h41g h41h h41i h41j h41k h41l) (bAc h41k bAn)) bK34a
theorem bO36b (h : bHyp ro L Kp) (h39 : bCok ro L Kp bC39) (h41 : bCok ro L Kp bC41) (h41a : bCok ro L Kp bC41a) (h41b : bCok ro L Kp bC41b) (h41c : bCok ro L Kp bC41c) (h41d : bCok ro L Kp bC41d) (h41e : bCok ro L Kp bC41e) (h41f : bCok ro L Kp bC41f) (h41g : bCok ro L Kp bC41g) (h41h : bCok ro L Kp bC41h) (h41i : bCok ro L Kp bC41i) (h41j : bCok ro L Kp bC41j) (h41k : bCok ro L Kp bC41k) (h41l : bCok ro L Kp bC41l) : bCok ro L Kp bC36b := bOg h (bAc (bO34a h h39 h41 h41a h41b h41c h41d h41e h41f h41g h41h h41i h41j h41k h41l) (bAc (bO36a h h39 h41 h41a h41b h41c h41d h41e h41f h41g h41h h41i h41j h41k h41l) (bAc (bO38 h h39 h41 h41a h41b h41c h41d h41e h41f h41g h41h h41i) (bAc (bO38a h h39) (bAc h39 (bAc h41l bAn)))))) bK36b
theorem bO35b (h : bHyp ro L Kp) (h39 : bCok ro L Kp bC39) (h41 : bCok ro L Kp bC41) (h41a : bCok ro L Kp bC41a) (h41b : bCok ro L Kp bC41b) (h41c : bCok ro L Kp bC41c) (h41d : bCok ro L Kp bC41d) (h41e : bCok ro L Kp bC41e) (h41f : bCok ro L Kp bC41f) (h41g : bCok ro L Kp bC41g) (h41h : bCok ro L Kp bC41h) (h41i : bCok ro L Kp bC41i) (h41j : bCok ro L Kp bC41j) (h41k : bCok ro L Kp bC41k) (h41l : bCok ro L Kp bC41l) : bCok ro L Kp bC35b := bOg h (bAc (bO36b h h39 h41 h41a h41b h41c h41d h41e h41f h41g h41h h41i h41j h41k h41l) (bAc h41j bAn)) bK35b
theorem bO34b (h : bHyp ro L Kp) (h39 : bCok ro L Kp bC39) (h41 : bCok ro L Kp bC41) (h41a : bCok ro L Kp bC41a) (h41b : bCok ro L Kp bC41b) (h41c : bCok ro L Kp bC41c) (h41d : bCok ro L Kp bC41d) (h41e : bCok ro L Kp bC41e) (h41f : bCok ro L Kp bC41f) (h41g : bCok ro L Kp bC41g) (h41h : bCok ro L Kp bC41h) (h41i : bCok ro L Kp bC41i) (h41j : bCok ro L Kp bC41j) (h41k : bCok ro L Kp bC41k) (h41l : bCok ro L Kp bC41l) : bCok ro L Kp bC34b := bOg h (bAc (bO35b h h39 h41 h41a h41b h41c h41d h41e h41f h41g h41h h41i h41j h41k h41l) (bAc h41k bAn)) bK34b
theorem bO36c (h : bHyp ro L Kp) (h39 : bCok ro L Kp bC39) (h41 : bCok ro L Kp bC41) (h41a : bCok ro L Kp bC41a) (h41b : bCok ro L Kp bC41b) (h41c : bCok ro L Kp bC41c) (h41d : bCok ro L Kp bC41d) (h41e : bCok ro L Kp bC41e) (h41f : bCok ro L Kp bC41f) (h41g : bCok ro L Kp bC41g) (h41h : bCok ro L Kp bC41h) (h41i : bCok ro L Kp bC41i) (h41j : bCok ro L Kp bC41j) (h41k : bCok ro L Kp bC41k) (h41l : bCok ro L Kp bC41l) : bCok ro L Kp bC36c := bOg h (bAc (bO34b h h39 h41 h41a h41b h41c h41d h41e h41f h41g h41h h41i h41j h41k h41l) (bAc (bO36b h h39 h41 h41a h41b h41c h41d h41e h41f h41g h41h h41i h41j h41k h41l) (bAc (bO38 h h39 h41 h41a h41b h41c h41d h41e h41f h41g h41h h41i) (bAc (bO38a h h39) (bAc h39 (bAc h41l bAn)))))) bK36c
theorem bO35c (h : bHyp ro L Kp) (h39 : bCok ro L Kp bC39) (h41 : bCok ro L Kp bC41) (h41a : bCok ro L Kp bC41a) (h41b : bCok ro L Kp bC41b) (h41c : bCok ro L Kp bC41c) (h41d : bCok ro L Kp bC41d) (h41e : bCok ro L Kp bC41e) (h41f : bCok ro L Kp bC41f) (h41g : bCok ro L Kp bC41g) (h41h : bCok ro L Kp bC41h) (h41i : bCok ro L Kp bC41i) (h41j : bCok ro L Kp bC41j) (h41k : bCok ro L Kp bC41k) (h41l : bCok ro L Kp bC41l) : bCok ro L Kp bC35c := bOg h (bAc (bO36c h h39 h41 h41a h41b h41c h41d h41e h41f h41g h41h h41i h41j h41k h41l) (bAc h41j bAn)) bK35c
theorem bO34c (h : bHyp ro L Kp) (h39 : bCok ro L Kp bC39) (h41 : bCok ro L Kp bC41) (h41a : bCok ro L Kp bC41a) (h41b : bCok ro L Kp bC41b) (h41c : bCok ro L Kp bC41c) (h41d : bCok ro L Kp bC41d) (h41e : bCok ro L Kp bC41e) (h41f : bCok ro L Kp bC41f) (h41g : bCok ro L Kp bC41g) (h41h : bCok ro L Kp bC41h) (h41i : bCok ro L Kp bC41i) (h41j : bCok ro L Kp bC41j) (h41k : bCok ro L Kp bC41k) (h41l : bCok ro L Kp bC41l) : bCok ro L Kp bC34c := bOg h (bAc (bO35c h h39 h41 h41a h41b h41c h41d h41e h41f h41g h41h h41i h41j h41k h41l) (bAc h41k bAn)) bK34c
theorem bO36d (h : bHyp ro L Kp) (h39 : bCok ro L Kp bC39) (h41 : bCok ro L Kp bC41) (h41a : bCok ro L Kp bC41a) (h41b : bCok ro L Kp bC41b) (h41c : bCok ro L Kp bC41c) (h41d : bCok ro L Kp bC41d) (h41e : bCok ro L Kp bC41e) (h41f : bCok ro L Kp bC41f) (h41g : bCok ro L Kp bC41g) (h41h : bCok ro L Kp bC41h) (h41i : bCok ro L Kp bC41i) (h41j : bCok ro L Kp bC41j) (h41k : bCok ro L Kp bC41k) (h41l : bCok ro L Kp bC41l) : bCok ro L Kp bC36d := bOg h (bAc (bO34c h h39 h41 h41a h41b h41c h41d h41e h41f h41g h41h h41i h41j h41k h41l) (bAc (bO36c h h39 h41 h41a h41b h41c h41d h41e h41f h41g h41h h41i h41j h41k h41l) (bAc (bO38 h h39 h41 h41a h41b h41c h41d h41e h41f h41g h41h h41i) (bAc (bO38a h h39) (bAc h39 (bAc h41l bAn)))))) bK36d
theorem bO35d (h : bHyp ro L Kp) (h39 : bCok ro L Kp bC39) (h41 : bCok ro L Kp bC41) (h41a : bCok ro L Kp bC41a) (h41b : bCok ro L Kp bC41b) (h41c : bCok ro L Kp bC41c) (h41d : bCok ro L Kp bC41d) (h41e : bCok ro L Kp bC41e) (h41f : bCok ro L Kp bC41f) (h41g : bCok ro L Kp bC41g) (h41h : bCok ro L Kp bC41h) (h41i : bCok ro L Kp bC41i) (h41j : bCok ro L Kp bC41j) (h41k : bCok ro L Kp bC41k) (h41l : bCok ro L Kp bC41l) : bCok ro L Kp bC35d := bOg h (bAc (bO36d h h39 h41 h41a h41b h41c h41d h41e h41f h41g h41h h41i h41j h41k h41l) (bAc h41j bAn)) bK35d
theorem bO34d (h : bHyp ro L Kp) (h39 : bCok ro L Kp bC39) (h41 : bCok ro L Kp bC41) (h41a : bCok ro L Kp bC41a) (h41b : bCok ro L Kp bC41b) (h41c : bCok ro L Kp bC41c) (h41d : bCok ro L Kp bC41d) (h41e : bCok ro L Kp bC41e) (h41f : bCok ro L Kp bC41f) (h41g : bCok ro L Kp bC41g) (h41h : bCok ro L Kp bC41h) (h41i : bCok ro L Kp bC41i) (h41j : bCok ro L Kp bC41j) (h41k : bCok ro L Kp bC41k) (h41l : bCok ro L Kp bC41l) : bCok ro L Kp bC34d := bOg h (bAc (bO35d h h39 h41 h41a h41b h41c h41d h41e h41f h41g h41h h41i h41j h41k h41l) (bAc h41k bAn)) bK34d
theorem bO36e (h : bHyp ro L Kp) (h39 : bCok ro L Kp bC39) (h41 : bCok ro L Kp bC41) (h41a : bCok ro L Kp bC41a) (h41b : bCok ro L Kp bC41b) (h41c : bCok ro L Kp bC41c) (h41d : bCok ro L Kp bC41d) (h41e : bCok ro L Kp bC41e) (h41f : bCok ro L Kp bC41f) (h41g : bCok ro L Kp bC41g) (h41h : bCok ro L Kp bC41h) (h41i : bCok ro L Kp bC41i) (h41j : bCok ro L Kp bC41j) (h41k : bCok ro L Kp bC41k) (h41l : bCok ro L Kp bC41l) : bCok ro L Kp bC36e := bOg h (bAc (bO34d h h39 h41 h41a h41b h41c h41d h41e h41f h41g h41h h41i h41j h41k h41l) (bAc (bO36d h h39 h41 h41a h41b h41c h41d h41e h41f h41g h41h h41i h41j h41k h41l) (bAc (bO38 h h39 h41 h41a h41b h41c h41d h41e h41f h41g h41h h41i) (bAc (bO38a h h39) (bAc h39 (bAc h41l bAn)))))) bK36e
theorem bO35e (h : bHyp ro L Kp) (h39 : bCok ro L Kp bC39) (h41 : bCok ro L Kp bC41) (h41a : bCok ro L Kp bC41a) (h41b : bCok ro L Kp bC41b) (h41c : bCok ro L Kp bC41c) (h41d : bCok ro L Kp bC41d) (h41e : bCok ro L Kp bC41e) (h41f : bCok ro L Kp bC41f) (h41g : bCok ro L Kp bC41g) (h41h : bCok ro L Kp bC41h) (h41i : bCok ro L Kp bC41i) (h41j : bCok ro L Kp bC41j) (h41k : bCok ro L Kp bC41k) (h41l : bCok ro L Kp bC41l) : bCok ro L Kp bC35e := bOg h (bAc (bO36e h h39 h41 h41a h41b h41c h41d h41e h41f h41g h41h h41i h41j h41k h41l) (bAc h41j bAn)) bK35e
theorem bO34e (h : bHyp ro L Kp) (h39 : bCok ro L Kp bC39) (h41 : bCok ro L Kp bC41) (h41a : bCok ro L Kp bC41a) (h41b : bCok ro L Kp bC41b) (h41c : bCok ro L Kp bC41c) (h41d : bCok ro L Kp bC41d) (h41e : bCok ro L Kp bC41e) (h41f : bCok ro L Kp bC41f) (h41g : bCok ro L Kp bC41g) (h41h : bCok ro L Kp bC41h) (h41i : bCok ro L Kp bC41i) (h41j : bCok ro L Kp bC41j) (h41k : bCok ro L Kp bC41k) (h41l : bCok ro L Kp bC41l) : bCok ro L Kp bC34e := bOg h (bAc (bO35e h h39 h41 h41a h41b h41c h41d h41e h41f h41g h41h h41i h41j h41k h41l) (bAc h41k bAn)) bK34e
theorem bO36f (h : bHyp ro L Kp) (h39 : bCok ro L Kp bC39) (h41 : bCok ro L Kp bC41) (h41a : bCok ro L Kp bC41a) (h41b : bCok ro L Kp bC41b) (h41c : bCok ro L Kp bC41c) (h41d : bCok ro L Kp bC41d) (h41e : bCok ro L Kp bC41e) (h41f : bCok ro L Kp bC41f) (h41g : bCok ro L Kp bC41g) (h41h : bCok ro L Kp bC41h) (h41i : bCok ro L Kp bC41i) (h41j : bCok ro L Kp bC41j) (h41k : bCok ro L Kp bC41k) (h41l : bCok ro L Kp bC41l) : bCok ro L Kp bC36f := bOg h (bAc (bO34e h h39 h41 h41a h41b h41c h41d h41e h41f h41g h41h h41i h41j h41k h41l) (bAc (bO36e h h39 h41 h41a h41b h41c h41d h41e h41f h41g h41h h41i h41j h41k h41l) (bAc (bO38 h h39 h41 h41a h41b h41c h41d h41e h41f h41g h41h h41i) (bAc (bO38a h h39) (bAc h39 (bAc h41l bAn)))))) bK36f
theorem bO35f (h : bHyp ro L Kp) (h39 : bCok ro L Kp bC39) (h41 : bCok ro L Kp bC41) (h41a : bCok ro L Kp bC41a) (h41b : bCok ro L Kp bC41b) (h41c : bCok ro L Kp bC41c) (h41d : bCok ro L Kp bC41d) (h41e : bCok ro L Kp bC41e) (h41f : bCok ro L Kp bC41f) (h41g : bCok ro L Kp bC41g) (h41h : bCok ro L Kp bC41h) (h41i : bCok ro L Kp bC41i) (h41j : bCok ro L Kp bC41j) (h41k : bCok ro L Kp bC41k) (h41l : bCok ro L Kp bC41l) : bCok ro L Kp bC35f := bOg h (bAc (bO36f h h39 h41 h41a h41b h41c h41d h41e h41f h41g h41h h41i h41j h41k h41l) (bAc h41j bAn)) bK35f
theorem bO34f (h : bHyp ro L Kp) (h39 : bCok ro L Kp bC39) (h41 : bCok ro L Kp bC41) (h41a : bCok ro L Kp bC41a) (h41b : bCok ro L Kp bC41b) (h41c : bCok ro L Kp bC41c) (h41d : bCok ro L Kp bC41d) (h41e : bCok ro L Kp bC41e) (h41f : bCok ro L Kp bC41f) (h41g : bCok ro L Kp bC41g) (h41h : bCok ro L Kp bC41h) (h41i : bCok ro L Kp bC41i) (h41j : bCok ro L Kp bC41j) (h41k : bCok ro L Kp bC41k) (h41l : bCok ro L Kp bC41l) : bCok ro L Kp bC34f := bOg h (bAc (bO35f h h39 h41 h41a h41b h41c h41d h41e h41f h41g h41h h41i h41j h41k h41l) (bAc h41k bAn)) bK34f
end
end
section
/-! the law: how it begins, its loop (tables as p1gen.py prints them) -/
section
set_option maxRecDepth 100000
noncomputable def p1Mz0 : List pmZ := [(11, 13, [some 1, some 3, some 7, some 13, some 21, some 26, some 31, some 33, some 34, some 43, some 45, some 79, none]), (6, 5, [some 2, none, none, none, none]), (50, 400, []), (5, 6, [some 4, some 5, some 6, none, none, none]), (50, 62, []), (50, 7, []), (50, 49, []), (9, 5, [some 8, some 9, some 10, some 11, some 12]), (50, 480, []), (50, 12, []), (50, 12, []), (50, 12, []), (50, 4, []), (2, 8, [some 14, some 15, some 16, some 17, some 18, some 19, some 20, none]), (50, 24, []), (50, 24, [])]
noncomputable def p1Mz1 : List pmZ := [(50, 24, []), (50, 24, []), (50, 24, []), (50, 24, []), (50, 6, []), (10, 13, [some 22, some 23, some 24, some 25, none, none, none, none, none, none, none, none, none]), (51, 4, []), (50, 24, []), (50, 6, []), (50, 3, []), (10, 13, [some 27, some 28, some 29, some 30, none, none, none, none, none, none, none, none, none]), (51, 4, []), (50, 24, []), (50, 6, []), (50, 3, []), (8, 3, [some 1, some 32, none])]
noncomputable def p1Mz2 : List pmZ := [(50, 40, []), (1, 5, [some 1, some 13, none, none, none]), (3, 15, [some 3, some 7, some 35, some 36, some 37, some 38, some 39, some 40, some 41, some 42, none, none, none, none, none]), (51, 512, []), (51, 512, []), (50, 40, []), (50, 40, []), (50, 4, []), (50, 4, []), (50, 5, []), (50, 5, []), (4, 4, [some 3, some 13, some 34, some 44]), (50, 4, []), (7, 5, [some 3, some 43, some 46, some 62, some 78]), (54, 3, [some 47, some 52, some 57]), (10, 13, [some 48, some 49, some 50, some 51, none, none, none, none, none, none, none, none, none])]
noncomputable def p1Mz3 : List pmZ := [(51, 4, []), (50, 24, []), (50, 6, []), (50, 3, []), (10, 13, [some 53, some 54, some 55, some 56, none, none, none, none, none, none, none, none, none]), (51, 4, []), (50, 24, []), (50, 6, []), (50, 3, []), (10, 13, [some 58, some 59, some 60, some 61, none, none, none, none, none, none, none, none, none]), (51, 4, []), (50, 24, []), (50, 6, []), (50, 3, []), (54, 3, [some 63, some 68, some 73]), (10, 13, [some 64, some 65, some 66, some 67, none, none, none, none, none, none, none, none, none])]
noncomputable def p1Mz4 : List pmZ := [(51, 4, []), (50, 24, []), (50, 6, []), (50, 3, []), (10, 13, [some 69, some 70, some 71, some 72, none, none, none, none, none, none, none, none, none]), (51, 4, []), (50, 24, []), (50, 6, []), (50, 3, []), (10, 13, [some 74, some 75, some 76, some 77, none, none, none, none, none, none, none, none, none]), (51, 4, []), (50, 24, []), (50, 6, []), (50, 3, []), (50, 3, []), (0, 7, [some 3, some 43, some 45, some 80, some 85, some 86, none])]
noncomputable def p1Mz5 : List pmZ := [(10, 13, [some 81, some 82, some 83, some 84, none, none, none, none, none, none, none, none, none]), (51, 4, []), (50, 24, []), (50, 6, []), (50, 3, []), (50, 244, []), (50, 61, []), (12, 54, [some 88, some 89, none, none, none, some 90, some 91, some 92, some 93, none, none, none, none, none, none, none, some 94, some 95, some 96, some 97, some 98, some 99, none, some 100, some 101, some 102, some 103, some 104, some 105, some 106, some 107, some 108, some 109, none, none, some 110, some 111, some 112, some 113, some 114, some 115, none, none, none, some 116, some 117, some 118, some 119, some 120, some 121, some 122, some 123, some 124, some 125]), (50, 120, []), (50, 1200, []), (52, 49, []), (52, 5, []), (50, 7, []), (53, 400, []), (50, 60, []), (50, 60, [])]
noncomputable def p1Mz6 : List pmZ := [(50, 4, []), (50, 12, []), (50, 12, []), (50, 720, []), (50, 6, []), (50, 24, []), (50, 48, []), (50, 48, []), (50, 48, []), (50, 48, []), (50, 24, []), (52, 48, []), (50, 50, []), (52, 60, []), (50, 4, []), (50, 4, [])]
noncomputable def p1Mz7 : List pmZ := [(50, 5, []), (50, 5, []), (51, 4096, []), (50, 4096, []), (50, 4, []), (50, 4, []), (50, 4, []), (52, 4, []), (50, 244, []), (50, 244, []), (50, 244, []), (50, 61, []), (52, 244, []), (50, 7, [])]
noncomputable def p1Mi0 : List (aI × aO) := [((0, 0), []), ((0, 0), []), ((0, 0), []), ((0, 0), []), ((0, 0), [(61, (0, 428)), (60, (0, 427)), (59, (0, 426)), (58, (0, 425)), (57, (0, 420)), (56, (0, 419)), (55, (0, 418)), (54, (0, 417)), (53, (0, 412)), (52, (0, 411)), (51, (0, 410)), (50, (0, 409)), (49, (0, 404)), (48, (0, 403)), (47, (0, 402)), (46, (0, 401)), (45, (0, 396)), (44, (0, 395)), (43, (0, 394)), (42, (0, 393)), (41, (0, 352)), (40, (0, 344)), (39, (0, 336)), (38, (0, 328)), (37, (0, 300)), (36, (0, 299)), (35, (0, 298)), (34, (0, 297)), (33, (0, 292)), (32, (0, 291)), (31, (0, 290)), (30, (0, 289)), (29, (0, 284)), (28, (0, 283)), (27, (0, 282)), (26, (0, 281)), (25, (0, 276)), (24, (0, 275)), (23, (0, 274)), (22, (0, 273)), (21, (0, 268)), (20, (0, 267)), (19, (0, 266)), (18, (0, 265)), (17, (0, 232)), (16, (0, 224)), (15, (0, 216)), (14, (0, 208)), (13, (0, 200)), (12, (0, 168)), (11, (0, 160)), (10, (0, 152)), (9, (0, 144)), (8, (0, 136)), (7, (0, 120)), (6, (0, 112)), (5, (0, 104)), (4, (0, 96)), (3, (0, 88)), (2, (0, 80)), (1, (0, 72))]), ((0, 0), [(6, (0, 9)), (5, (0, 9)), (4, (0, 9)), (3, (0, 9)), (2, (0, 9)), (1, (0, 9))]), ((0, 0), []), ((0, 0), []), ((0, 0), []), ((0, 0), []), ((0, 0), []), ((0, 0), []), ((0, 0), []), ((0, 0), []), ((0, 0), []), ((0, 0), [])]
noncomputable def p1Mi1 : List (aI × aO) := [((0, 0), []), ((0, 0), []), ((0, 0), []), ((0, 0), []), ((0, 0), []), ((0, 0), []), ((0, 0), []), ((0, 0), []), ((0, 0), []), ((0, 0), []), ((0, 0), []), ((0, 0), []), ((0, 0), []), ((0, 0), []), ((0, 0), []), ((0, 0), [])]
noncomputable def p1Mi2 : List (aI × aO) := [((0, 0), []), ((0, 0), []), ((0, 0), []), ((0, 0), []), ((0, 0), []), ((0, 0), []), ((0, 0), []), ((0, 0), []), ((0, 0), []), ((0, 0), []), ((0, 0), []), ((0, 0), []), ((0, 0), []), ((0, 0), []), ((0, 0), []), ((0, 0), [])]
noncomputable def p1Mi3 : List (aI × aO) := [((0, 0), []), ((0, 0), []), ((0, 0), []), ((0, 0), []), ((0, 0), []), ((0, 0), []), ((0, 0), []), ((0, 0), []), ((0, 0), []), ((0, 0), []), ((0, 0), []), ((0, 0), []), ((0, 0), []), ((0, 0), []), ((0, 0), []), ((0, 0), [])]
noncomputable def p1Mi4 : List (aI × aO) := [((0, 0), []), ((0, 0), []), ((0, 0), []), ((0, 0), []), ((0, 0), []), ((0, 0), []), ((0, 0), []), ((0, 0), []), ((0, 0), []), ((0, 0), []), ((0, 0), []), ((0, 0), []), ((0, 0), []), ((0, 0), []), ((0, 0), []), ((0, 0), [])]
noncomputable def p1Mi5 : List (aI × aO) := [((0, 0), []), ((0, 0), []), ((0, 0), []), ((0, 0), []), ((0, 0), []), ((0, 0), []), ((0, 0), []), ((0, 0), []), ((0, 0), [(40, (0, -1)), (39, (0, -1)), (38, (0, -1)), (37, (0, -1)), (36, (0, -1)), (35, (0, -1)), (34, (0, -1)), (33, (0, -1)), (32, (0, -1)), (31, (0, -1)), (30, (0, -1)), (29, (0, -1)), (28, (0, -1)), (27, (0, -1)), (26, (0, -1)), (25, (0, -1)), (24, (0, -1)), (23, (0, -1)), (22, (0, -1)), (21, (0, -1)), (20, (0, -1)), (19, (0, -1)), (18, (0, -1)), (17, (0, -1)), (16, (0, -1)), (15, (0, -1)), (14, (0, -1))]), ((0, 0), []), ((0, 0), []), ((0, 0), []), ((0, 0), [(5, (0, 1)), (4, (0, 1)), (3, (0, 1)), (2, (0, 1)), (1, (0, 1))]), ((0, 0), []), ((0, 0), []), ((0, 0), [])]
noncomputable def p1Mi6 : List (aI × aO) := [((0, 0), []), ((0, 0), []), ((0, 0), []), ((0, 0), []), ((0, 0), []), ((0, 0), []), ((0, 0), []), ((0, 0), []), ((0, 0), []), ((0, 0), []), ((0, 0), []), ((0, 0), []), ((0, 0), []), ((0, 0), []), ((0, 0), []), ((0, 0), [])]
noncomputable def p1Mi7 : List (aI × aO) := [((0, 0), []), ((0, 0), []), ((0, 0), []), ((0, 0), []), ((0, 0), []), ((0, 0), []), ((0, 0), []), ((0, 0), []), ((0, 0), []), ((0, 0), []), ((0, 0), []), ((0, 0), []), ((0, 0), []), ((0, 0), [])]
noncomputable def p1Ml0 : List (aI × aO) := [((0, 0), []), ((0, 0), []), ((0, 0), []), ((0, 0), []), ((0, 0), []), ((0, 0), []), ((0, 0), []), ((0, 0), []), ((0, 0), []), ((0, 0), []), ((0, 0), []), ((0, 0), []), ((0, 0), []), ((0, 0), []), ((0, 0), []), ((0, 0), [])]
noncomputable def p1Ml1 : List (aI × aO) := [((0, 0), []), ((0, 0), []), ((0, 0), []), ((0, 0), []), ((0, 0), []), ((0, 0), [(4, (0, 4369))]), ((0, 0), []), ((0, 0), []), ((0, 0), []), ((0, 0), []), ((0, 0), [(4, (0, 4369))]), ((0, 0), []), ((0, 0), []), ((0, 0), []), ((0, 0), []), ((0, 0), [])]
noncomputable def p1Ml2 : List (aI × aO) := [((0, 0), []), ((0, 0), []), ((0, 0), []), ((0, 0), []), ((0, 0), []), ((0, 0), []), ((0, 0), []), ((0, 0), []), ((0, 0), []), ((0, 0), []), ((0, 0), []), ((0, 0), []), ((0, 0), []), ((0, 0), []), ((0, 0), []), ((0, 0), [(4, (0, 4369))])]
noncomputable def p1Ml3 : List (aI × aO) := [((0, 0), []), ((0, 0), []), ((0, 0), []), ((0, 0), []), ((0, 0), [(4, (0, 4369))]), ((0, 0), []), ((0, 0), []), ((0, 0), []), ((0, 0), []), ((0, 0), [(4, (0, 4369))]), ((0, 0), []), ((0, 0), []), ((0, 0), []), ((0, 0), []), ((0, 0), []), ((0, 0), [(4, (0, 4369))])]
noncomputable def p1Ml4 : List (aI × aO) := [((0, 0), []), ((0, 0), []), ((0, 0), []), ((0, 0), []), ((0, 0), [(4, (0, 4369))]), ((0, 0), []), ((0, 0), []), ((0, 0), []), ((0, 0), []), ((0, 0), [(4, (0, 4369))]), ((0, 0), []), ((0, 0), []), ((0, 0), []), ((0, 0), []), ((0, 0), []), ((0, 0), [])]
noncomputable def p1Ml5 : List (aI × aO) := [((0, 0), [(4, (0, 4369))]), ((0, 0), []), ((0, 0), []), ((0, 0), []), ((0, 0), []), ((0, 0), []), ((0, 0), []), ((0, 0), []), ((0, 0), []), ((0, 0), []), ((0, 0), []), ((0, 0), []), ((0, 0), []), ((0, 0), []), ((0, 0), []), ((0, 0), [])]
noncomputable def p1Ml6 : List (aI × aO) := [((0, 0), []), ((0, 0), []), ((0, 0), []), ((0, 0), []), ((0, 0), []), ((0, 0), []), ((0, 0), []), ((0, 0), []), ((0, 0), []), ((0, 0), []), ((0, 0), []), ((0, 0), []), ((0, 0), []), ((0, 0), []), ((0, 0), []), ((0, 0), [])]
noncomputable def p1Ml7 : List (aI × aO) := [((0, 0), []), ((0, 0), []), ((0, 0), []), ((0, 0), []), ((0, 0), []), ((0, 0), []), ((0, 0), []), ((0, 0), []), ((0, 0), []), ((0, 0), []), ((0, 0), []), ((0, 0), []), ((0, 0), []), ((0, 0), [])]
noncomputable def p1M : aM := ((126, [p1Mz0, p1Mz1, p1Mz2, p1Mz3, p1Mz4, p1Mz5, p1Mz6, p1Mz7]), [p1Mi0, p1Mi1, p1Mi2, p1Mi3, p1Mi4, p1Mi5, p1Mi6, p1Mi7], [p1Ml0, p1Ml1, p1Ml2, p1Ml3, p1Ml4, p1Ml5, p1Ml6, p1Ml7], 85070591730234615865843651857942052863)
noncomputable def pLX : aX := ([(0, 0), (0, 3072)], [], [])
noncomputable def pLl : aL := [some (.inr 1001), some (.inr 0), some (.inr 87), some (.inl (false, (0, 0)))]
noncomputable def pLK : aK := (13, 246, 2, pmT_246, [])
noncomputable def pLnod : aNod := fun d K pc pl st fs X M => bif Nat.beq K.2.1 246 && Nat.beq pc 18 then
    some ((Nat.beq d 59 && (Nat.beq K.1 13 && Nat.beq K.2.2.1 2)) && ((match fs with | [] => true | _ => false) && (eqM M p1M && eqT (pLl, [], pLX) (pl, st, X)))) else none
noncomputable def pLcon : aCon := fun _ _ _ _ _ _ => none
noncomputable def pLfin : Option aV → aX → aM → Bool := fun _ _ _ => false
theorem pLe : aGo (fun _ => []) pLnod pLcon pLfin 30000 59 true pLK 0 [some (.inr 1001), none, none, none] [] [] pLX ((0, []), [], [], 0) = true := by decide +kernel
def pLQ : Option Value → pmS → Prop := fun v σ => v = some (.int 1) ∧ pmTot σ.1 ≤ 7302250
variable {Ln : Nat} {xs : Nat → Int32}
/-- the law at its loop's head for the first time -/
def pLH (Ln : Nat) (xs : Nat → Int32) : Prop := ∀ ρ cl cs σ, aAll ((Ln : Int), xs) 0 (fun _ => 0) ρ pmσ0 pLX p1M σ → aLok 2 ρ pLl cl → aSok 2 ρ [] cs → pmWp (pmRo Ln xs) 59 13 246 2 18 cl cs σ (aRtQ (pmRo Ln xs) 59 [] pLQ)
theorem pL_con {L : aLa} : aConOk (pmRo Ln xs) L pmσ0 pLcon := fun d mm args X M k ρ vs σ Q h => by cases h
theorem pL_fin : aFinOk ((Ln : Int), xs) 0 (fun _ => 0) pmσ0 pLfin pLQ := fun r X M ρ v σ h => by cases h
theorem pL_nod (hH : pLH Ln xs) : aNodOk (pmRo Ln xs) ((Ln : Int), xs) 0 (fun _ => 0) pmσ0 pLnod pLQ := fun d K pc pl st fs X M ρ cl cs cfs σ h hK hA hl hs hfs => by
  unfold pLnod at h
  cases hb : (Nat.beq K.2.1 246 && Nat.beq pc 18) with
  | false => rw [hb] at h; cases h
  | true =>
    rw [hb] at h
    simp only [cond_true, Option.some.injEq, Bool.and_eq_true] at h
    rw [Bool.and_eq_true] at hb
    obtain ⟨⟨h1, h2, h3⟩, h4, h5, h6⟩ := h
    have h5 := eqM_ok _ _ h5
    have h6 := eqT_ok _ _ h6
    have e1 := Nat.eq_of_beq_eq_true hb.1
    have e2 := Nat.eq_of_beq_eq_true hb.2
    have h1 := Nat.eq_of_beq_eq_true h1
    have h2 := Nat.eq_of_beq_eq_true h2
    have h3 := Nat.eq_of_beq_eq_true h3
    injection h6 with g1 g2
    injection g2 with g2 g3
    subst h5
    subst g1
    subst g2
    subst g3
    cases fs with
    | cons _ _ => cases h4
    | nil =>
      cases cfs with
      | cons _ _ => exact hfs.elim
      | nil =>
        rw [h1, h2, h3, e1, e2]
        exact hH ρ cl cs σ hA hl hs
theorem pL_all (hLn : Ln ≤ 3072) (hH : pLH Ln xs) : ∃ N d σf, d ≤ 1000 ∧ pmRun (pmRo Ln xs) (pmCall (pmRo Ln xs) N d) 13 246 2 N 0 [some (.ref 1001), none, none, none] [] pmσ0 = some (some (.int 1), σf) ∧ pmTot σf.1 ≤ 7302250 := by
  have h := aGo_ok (ρ0 := fun _ => 0) (n0 := 0) (σ0 := pmσ0) (xs := xs) rfl rfl hLn pL_fin (pL_nod hH) pL_con 30000 59 true pLK 0 [some (.inr 1001), none, none, none] [] [] pLX ((0, []), [], [], 0) (fun v => if v = 1 then (Ln : Int) else 0) [some (.ref 1001), none, none, none] [] [] pmσ0 pLe ⟨pmI_246, rfl⟩ ⟨⟨⟨⟨rfl, rfl, by decide⟩, fun v i hi => ?_⟩, fun q hq => absurd hq List.not_mem_nil, fun q hq => absurd hq List.not_mem_nil⟩, ⟨⟨rfl, fun p => rfl⟩, fun p c hp => ?_, fun p c hp => ?_, fun p _ => ⟨rfl, rfl⟩⟩, Nat.zero_le _, fun v hv => absurd hv (Nat.not_lt_zero v)⟩ ⟨rfl, fun i a hi => ?_⟩ trivial trivial
  · obtain ⟨M, N, r, σf, h1, h2, h3⟩ := h
    subst h2
    refine ⟨max M N, 59, σf, by decide, ?_, h3⟩
    exact pmRun_le pmRoLe.rf (pmCall_le pmRoLe.rf (Nat.le_max_left M N) 59 59 (Nat.le_refl 59)) N (max M N) _ _ _ _ _ (Nat.le_max_right M N) h1
  · match v, hi with
    | 0, hi => cases hi; exact ⟨Int.le_refl _, Int.le_refl _⟩
    | 1, hi => cases hi; exact ⟨by show (0 : Int) ≤ (Ln : Int); omega, by show (Ln : Int) ≤ 3072; omega⟩
    | v + 2, hi => cases hi
  · cases hp
  · cases hp
  · match i, hi with
    | 0, hi => cases hi; exact ⟨.ref 1001, rfl, rfl⟩
    | 1, hi => cases hi
    | 2, hi => cases hi
    | 3, hi => cases hi
    | i + 4, hi => cases hi
/-! the heap at the loop's head is within the table -/
theorem kLk_mem {β : Type} {k : Nat} {e : β} : ∀ {l : List (Nat × β)}, pmLk l k = some e → (k, e) ∈ l
  | [], h => by cases h
  | q :: t, h => by
    rw [pmLk_cons] at h
    split at h
    · rename_i hq
      cases h
      rw [← hq]
      exact List.mem_cons_self
    · exact List.mem_cons_of_mem _ (kLk_mem h)
noncomputable def bIz1 (d : aI) (O : aO) (cL : Bool) (p : Nat) (g : List aI × Nat × List (Nat × List aI)) : Bool :=
  bCov d g.1 && (g.2.2.all (fun q => bCov d q.2 || (Nat.beq g.2.1 0 && (match fLk O q.1 with | some _ => true | none => false) || (Nat.beq g.2.1 0 && (bif cL then !(bLo p q.1) else bLo p q.1)))) &&
    O.all fun q => (bif cL then !(bLo p q.1) else bLo p q.1) || (match aItv [(0, 0), (0, 3072)] q.2 with | some j => bCov j (bGe p q.1) | none => false))
noncomputable def bIni (p : Nat) : Bool := match fG2 p1M.2.1 p, fG2 p1M.2.2.1 p, fG2 bGT p with
  | some ci, some cl, some g => bIz1 ci.1 ci.2 false p g && bIz1 cl.1 cl.2 true p g
  | _, _, _ => false
theorem bIni_all : (List.range 126).all bIni = true := by decide +kernel
theorem bIz1_ok {d : aI} {O : aO} {cL : Bool} {p k : Nat} {g : List aI × Nat × List (Nat × List aI)} {ρ : Nat → Int} {z : Int} (hg : fG2 bGT p = some g) (h : bIz1 d O cL p g = true) (hE : aEok ((Ln : Int), xs) ρ [(0, 0), (0, 3072)]) (hk : bLo p k = cL) (hz : match pmLk O k with | some f => aFok 2 ρ f z | none => d.1 ≤ z ∧ z ≤ d.2) : bIn (bGe p k) z := by
  unfold bIz1 at h
  simp only [Bool.and_eq_true] at h
  obtain ⟨h1, h2, h3⟩ := h
  cases ho : pmLk O k with
  | some f =>
    rw [ho] at hz
    have h4 := List.all_eq_true.mp h3 _ (kLk_mem ho)
    have h5 : (bif cL then !(bLo p k) else bLo p k) = false := by
      rw [hk]
      cases cL <;> rfl
    rw [show ((k, f) : Nat × aF).1 = k from rfl, h5, Bool.false_or] at h4
    split at h4
    · rename_i j hj
      have := aItv_ok hE (show aFok [((0 : Int), (0 : Int)), (0, 3072)].length ρ f z from hz) hj
      exact bCov_ok h4 this.1 this.2
    · cases h4
  | none =>
    rw [ho] at hz
    unfold bGe
    rw [hg]
    simp only
    cases hl : fLk g.2.2 (bif Nat.beq g.2.1 0 then k else Nat.mod k g.2.1) with
    | none => exact bCov_ok h1 hz.1 hz.2
    | some e =>
      rw [fLk_eq] at hl
      have h4 := List.all_eq_true.mp h2 _ (kLk_mem hl)
      rw [Bool.or_eq_true] at h4
      rcases h4 with h4 | h4
      · exact bCov_ok h4 hz.1 hz.2
      · exfalso
        cases hm : Nat.beq g.2.1 0 with
        | false => rw [hm] at h4; simp at h4
        | true =>
          rw [hm] at h4
          simp only [cond_true, Bool.true_and, fLk_eq, ho, hk] at h4
          cases cL <;> simp at h4
theorem bIni_ok {ρ : Nat → Int} {σ : pmS} (hE : aEok ((Ln : Int), xs) ρ [(0, 0), (0, 3072)]) (h : aMok 2 ρ pmσ0 p1M σ) (p k : Nat) : bIn (bGe p k) (bZ σ p k) := by
  by_cases hp : p < 126
  · have hc := List.all_eq_true.mp bIni_all p (List.mem_range.mpr hp)
    unfold bIni at hc
    split at hc
    · rename_i ci cl g e1 e2 e3
      rw [Bool.and_eq_true] at hc
      rw [fG2_eq] at e1 e2
      have a1 := h.2.1 p ci e1 k
      have a2 := h.2.2.1 p cl e2 k
      cases hb : bLo p k with
      | false =>
        have := bIz1_ok e3 hc.1 hE hb a1
        unfold bZ
        rw [hb]
        exact this
      | true =>
        have := bIz1_ok e3 hc.2 hE hb a2
        unfold bZ
        rw [hb]
        exact this
    · cases hc
  · have hg : bGe p k = [(.negSucc 9223372036854775807, .ofNat 9223372036854775807)] := by
      unfold bGe
      have : fG2 bGT p = none := by
        rw [fG2_eq]
        unfold aG2
        by_cases h8 : p / 16 = 7
        · have e : bGT[p / 16]? = some bG7 := by rw [h8]; rfl
          rw [e]
          simp only
          exact List.getElem?_eq_none (by show bG7.length ≤ p % 16; have : bG7.length = 14 := rfl; omega)
        · rw [List.getElem?_eq_none (by show bGT.length ≤ p / 16; have : bGT.length = 8 := rfl; omega)]
      rw [this]
    rw [hg]
    refine ⟨_, List.mem_singleton.mpr rfl, ?_⟩
    show (-9223372036854775808 : Int) ≤ bZ σ p k ∧ bZ σ p k ≤ (9223372036854775807 : Int)
    unfold bZ
    cases bLo p k with
    | true =>
      have a := Int64.le_toInt (σ.2.2 p k)
      have b := Int64.toInt_lt (σ.2.2 p k)
      simp only [cond_true]
      omega
    | false =>
      have a := Int32.le_toInt (σ.2.1 p k)
      have b := Int32.toInt_lt (σ.2.1 p k)
      simp only [cond_false]
      omega
theorem kZ_int {ρ : Nat → Int} {σ : pmS} {p k : Nat} {O : aO} (h : aMok 2 ρ pmσ0 p1M σ) (hp : aG2 p1M.2.1 p = some ((0, 0), O)) (hk : pmLk O k = none) : kI σ p k = 0 := by
  have := h.2.1 p _ hp k
  simp only [hk] at this
  show aZi σ p k = 0
  omega
theorem kZ_long {ρ : Nat → Int} {σ : pmS} {p k : Nat} {O : aO} (h : aMok 2 ρ pmσ0 p1M σ) (hp : aG2 p1M.2.2.1 p = some ((0, 0), O)) (hk : pmLk O k = none) : σ.2.2 p k = 0 := by
  have := h.2.2.1 p _ hp k
  simp only [hk] at this
  have e : (σ.2.2 p k).toInt = 0 := by
    have : (0 : Int) ≤ (σ.2.2 p k).toInt ∧ (σ.2.2 p k).toInt ≤ 0 := this
    omega
  exact Int64.toInt_inj.mp (e.trans rfl)
theorem kP_ini {ρ : Nat → Int} {σ : pmS} (h : aMok 2 ρ pmσ0 p1M σ) : kP σ := by
  refine ⟨⟨?_, ?_, ?_⟩, fun w _ => ?_, fun w _ i hi => ?_⟩
  · rw [kZ_int h (p := 87) (k := 41) rfl rfl]
    decide
  · rw [kZ_int h (p := 87) (k := 41) rfl rfl]
    decide
  · have : ((List.range 4096).countP fun j => !(σ.2.2 114 j == 0)) = 0 := List.countP_eq_zero.mpr fun j _ => by
      rw [kZ_long h (p := 114) (k := j) rfl rfl]
      decide
    rw [this]
    exact Nat.zero_le _
  · rw [kZ_int h (p := 98) (k := w) rfl rfl]
    exact fun e => by cases e
  · rw [kZ_int h (p := 9) (k := w) rfl rfl] at hi
    omega
theorem pL_tot {σ : pmS} (h : ∀ p : Nat, σ.1[p]? = aG2 bZT p) : pmTot σ.1 ≤ 7302250 := by
  have hl : σ.1.length ≤ 126 := by
    by_cases c : σ.1.length ≤ 126
    · exact c
    · exfalso
      have h2 := h 126
      have e : aG2 bZT 126 = none := rfl
      rw [e] at h2
      rw [List.getElem?_eq_none_iff] at h2
      omega
  have hb : ∀ s ∈ σ.1, s.2.1 ≤ 5000 := by
    intro s hs
    obtain ⟨p, hp⟩ := List.getElem?_of_mem hs
    rw [h p] at hp
    have hc : (bZT.all fun c => c.all fun s => Nat.ble s.2.1 5000) = true := by decide +kernel
    unfold aG2 at hp
    split at hp
    · rename_i c e
      have h4 := List.all_eq_true.mp hc c (List.mem_of_getElem? e)
      exact Nat.le_of_ble_eq_true (List.all_eq_true.mp h4 s (List.mem_of_getElem? hp))
    · cases hp
  have h3 : ∀ l : List pmZ, (∀ s ∈ l, s.2.1 ≤ 5000) → pmTot l ≤ l.length * 5000 := by
    intro l
    induction l with
    | nil => intro _; exact Nat.zero_le _
    | cons s l ih =>
      intro hh
      have h1 := hh s List.mem_cons_self
      have h2 := ih fun t ht => hh t (List.mem_cons_of_mem _ ht)
      show s.2.1 + pmTot l ≤ (l.length + 1) * 5000
      rw [Nat.succ_mul]
      omega
  have := h3 σ.1 hb
  omega
theorem pL_shape : p1M.1.2 = bZT := by decide +kernel
end
end
section
/-! a stretch of a run, from a picture to pictures; single instructions -/
section
/-- a picture -/
def bPc (d m pc : Nat) (pl : bL) (st : List bV) (E : aE) (C : aC) (H : bH) (W : Nat) : bNq := (d, m, pc, pl, st, [], (E, C), (H, W), (0, []))
noncomputable def bSeg (con : bCon) (fin : Option bV → aX → bM → Bool) (Bs : List bNq) (A : bNq) (R : bS) : Bool := match A with
  | (d, m, pc, pl, st, _, (E, C), (H, W), _) => bIs m && aFn (fLen E) fun n => Nat.blt 1 n && (Bs.all (fun B => bIs B.2.1 && (B.2.2.2.2.2.1.all (fun f => bIs f.1) && aFn (fLen B.2.2.2.2.2.2.1.1) fun n => Nat.blt 1 n)) && bGo bSp (bNg bSp n none Bs) con fin 20000 d true (bMk bSp m) pc pl st [] (E, C, []) (H, R, W))
/-- a picture holds -/
def bAt (L : aLa) (nC : Nat) (ρ0 : Nat → Int) (Kp : pmS → Prop) (σ0 : pmS) (A : bNq) (ρ : Nat → Int) (cl : pmL) (cs : List Value) (σ : pmS) : Prop :=
  bAllK L nC ρ0 ρ Kp σ0 (A.2.2.2.2.2.2.1.1, A.2.2.2.2.2.2.1.2, []) (A.2.2.2.2.2.2.2.1.1, [], A.2.2.2.2.2.2.2.1.2) σ ∧ bLok A.2.2.2.2.2.2.1.1.length ρ A.2.2.2.1 cl ∧ bSok A.2.2.2.2.2.2.1.1.length ρ A.2.2.2.2.1 cs
/-- the goal at a picture's place -/
def bWa (ro : Nat → Nat × (Nat → Int32)) (A : bNq) (cl : pmL) (cs : List Value) (σ : pmS) (Q : Option Value → pmS → Prop) : Prop := pmWp ro A.1 (bMk bSp A.2.1).1 A.2.1 (bMk bSp A.2.1).2.2.1 A.2.2.1 cl cs σ Q
variable {ro : Nat → Nat × (Nat → Int32)} {L : aLa} {Kp : pmS → Prop} {σ0 σ : pmS} {ρ : Nat → Int} {cl : pmL} {cs : List Value} {con : bCon} {fin : Option bV → aX → bM → Bool} {Q : Option Value → pmS → Prop}
theorem bMk_m {spl : Nat → aSs} {m : Nat} : (bMk spl m).2.1 = m := by
  unfold bMk
  split <;> rfl
theorem bSeg_ok {d m pc : Nat} {pl : bL} {st : List bV} {E : aE} {C : aC} {H : bH} {W : Nat} {R : bS} {Bs : List bNq} (h : bHyp ro L Kp) (hcon : ∀ σ0, bConOk ro L Kp σ0 con) (hc : bSeg con fin Bs (bPc d m pc pl st E C H W) R = true) (hBf : ∀ B ∈ Bs, B.2.2.2.2.2.1 = []) (hX : aXok L ρ (E, C, [])) (hM : bMok E.length ρ Kp σ0 (H, R, W) σ) (hl : bLok E.length ρ pl cl) (hs : bSok E.length ρ st cs) (hfin : bFinOk L E.length ρ Kp σ0 fin Q)
    (hB : ∀ B ∈ Bs, ∀ ρ' cl' cs' σ', bAt L E.length ρ Kp σ0 B ρ' cl' cs' σ' → bWa ro B cl' cs' σ' Q) : pmWp ro d (bMk bSp m).1 m (bMk bSp m).2.2.1 pc cl cs σ Q := by
  obtain ⟨hk, Ln, xs, h1, h2, h3⟩ := h
  unfold bSeg bPc at hc
  simp only [aFn_eq, fLen_eq, Bool.and_eq_true] at hc
  obtain ⟨c1, c2, c3, c4⟩ := hc
  have c2 := bBlt c2
  have hE := hX.1
  have hgo : pmWp ro d (bMk bSp m).1 (bMk bSp m).2.1 (bMk bSp m).2.2.1 pc cl cs σ (aRtQ ro d [] Q) := ?_
  · rw [bMk_m] at hgo
    exact hgo
  refine bGo_ok (n0 := E.length) (ρ0 := ρ) (Q0 := Q) hk h1 h2 h3 hfin (bNg_ok (bNh_ok (nC := E.length) (ρe := ρ) (b := 0) (by omega) ?_ (Nat.le_refl _) aExt.rf (rk := none) (fun rA ρ2 e => by cases e) ?_)) (hcon σ0) 20000 d true (bMk bSp m) pc pl st [] (E, C, []) (H, R, W) ρ cl cs [] σ c4 (bIs_ok c1) ⟨hX, hM, Nat.le_refl _, aExt.rf⟩ hl hs trivial
  · intro nd hnd
    obtain ⟨B, hm, rfl⟩ := List.mem_map.mp hnd
    have hb := List.all_eq_true.mp c3 B hm
    simp only [aFn_eq, fLen_eq, Bool.and_eq_true] at hb
    obtain ⟨b1, b2, b3⟩ := hb
    refine ⟨bIs_ok b1, fun f hf => ?_, bBlt b3⟩
    obtain ⟨f0, hf0, rfl⟩ := List.mem_map.mp hf
    exact bIs_ok (List.all_eq_true.mp b2 f0 hf0)
  · intro nd hnd
    obtain ⟨B, hm, rfl⟩ := List.mem_map.mp hnd
    have key : ∀ b : Int, bNdP ro L E.length ρ Kp σ0 Q b (bMd bSp B) := by
      intro b ρ' cl' cs' cfs σ' a1 a2 a3 a4 a5
      have e0 := hBf B hm
      have e : (bMd bSp B).2.2.2.2.2.1 = [] := by
        show B.2.2.2.2.2.1.map (bMq bSp) = []
        rw [e0]
        rfl
      rw [e] at a4
      cases cfs with
      | cons _ _ => exact a4.elim
      | nil =>
        have hw := hB B hm ρ' cl' cs' σ' ⟨a1, a2, a3⟩
        unfold bWa at hw
        show pmWp ro B.1 (bMk bSp B.2.1).1 (bMk bSp B.2.1).2.1 (bMk bSp B.2.1).2.2.1 B.2.2.1 cl' cs' σ' Q
        rw [bMk_m]
        exact hw
    exact ⟨fun _ b => key b, key 0⟩
/-- nothing ends here -/
noncomputable def bNo : Option bV → aX → bM → Bool := fun _ _ _ => false
theorem bNo_ok {n0 : Nat} {ρ0 : Nat → Int} : bFinOk L n0 ρ0 Kp σ0 bNo Q := fun r X M ρ v σ h => by cases h
theorem bCn_ok : ∀ σ0, bConOk ro L Kp σ0 (bCc []) := fun σ0 => bCc_ok bAn
/-- the table holds -/
def kOk (σ : pmS) : Prop := (∀ p : Nat, σ.1[p]? = aG2 bZT p) ∧ ∀ p k, bIn (bGe p k) (bZ σ p k)
theorem kOk_of {n : Nat} {W : Nat} (h : bMok n ρ Kp σ0 ([], [], W) σ) : kOk σ := ⟨h.1, fun p k => h.2.1 p k⟩
theorem kOk_mok {n : Nat} (h : kOk σ) (hK : Kp σ) : bMok n ρ Kp σ ([], [], 0) σ := ⟨h.1, fun p k => h.2 p k, fun q hq => absurd hq List.not_mem_nil, fun p k _ => ⟨rfl, rfl⟩, fun _ => hK⟩
/-- with one cell told -/
theorem kOk_hok {n : Nat} (h : kOk σ) : bHok n ρ [] (bZ σ) := fun p k => h.2 p k
theorem bHok_c {n p k : Nat} {H : bH} {φ : Nat → Nat → Int} {f : aF} (h : bHok n ρ H φ) (hp : pmLk H p = none) (hf : f.1 < n) (hz : φ p k = ρ f.1 + f.2) : bHok n ρ ((p, [(k, .inl f)]) :: H) φ := by
  intro q j
  unfold bEn
  simp only [fLk_eq, pmLk_cons]
  by_cases c : p = q
  · subst c
    rw [if_pos rfl]
    simp only [fLk_eq, pmLk_cons]
    by_cases cj : k = j
    · subst cj
      rw [if_pos rfl]
      exact ⟨hf, hz⟩
    · rw [if_neg cj]
      have := h p j
      unfold bEn at this
      simp only [fLk_eq, hp] at this
      exact this
  · rw [if_neg c]
    have := h q j
    unfold bEn at this
    simp only [fLk_eq] at this
    exact this
theorem kOk_upi {p k : Nat} {x : Int32} (h : kOk σ) (hb : bLo p k = false) (hx : bIn (bGe p k) x.toInt) : kOk (σ.1, pmUp σ.2.1 p k x, σ.2.2) := by
  refine ⟨h.1, fun q j => ?_⟩
  rw [bZ_upi hb]
  by_cases c : q = p ∧ j = k
  · rw [c.1, c.2, show aUp (bZ σ) p k x.toInt p k = x.toInt from if_pos ⟨rfl, rfl⟩]
    exact hx
  · rw [show aUp (bZ σ) p k x.toInt q j = bZ σ q j from if_neg c]
    exact h.2 q j
theorem kOk_upl {p k : Nat} {x : Int64} (h : kOk σ) (hb : bLo p k = true) (hx : bIn (bGe p k) x.toInt) : kOk (σ.1, σ.2.1, pmUp σ.2.2 p k x) := by
  refine ⟨h.1, fun q j => ?_⟩
  rw [bZ_upl hb]
  by_cases c : q = p ∧ j = k
  · rw [c.1, c.2, show aUp (bZ σ) p k x.toInt p k = x.toInt from if_pos ⟨rfl, rfl⟩]
    exact hx
  · rw [show aUp (bZ σ) p k x.toInt q j = bZ σ q j from if_neg c]
    exact h.2 q j
theorem bIn_any {z : Int} {l : List aI} (hl : l = [(-2147483648, 2147483647)]) (h1 : -2147483648 ≤ z) (h2 : z ≤ 2147483647) : bIn l z := by
  rw [hl]
  exact ⟨_, List.mem_singleton.mpr rfl, h1, h2⟩
theorem bIn_i {x : Int32} {l : List aI} (hl : l = [(-2147483648, 2147483647)]) : bIn l x.toInt := by
  have a := Int32.le_toInt x
  have b := Int32.toInt_lt x
  exact bIn_any hl (by omega) (by omega)
variable {d o m rt pc : Nat} {pl : pmL} {st : List Value}
/-- one instruction -/
theorem pmWp_1 {i : Instr} {pc' : Nat} {pl' : pmL} {st' : List Value} {σ' : pmS} (hi : pmCode m pc = some i) (h : pmStep ro (fun _ _ _ => none) o m rt pc i pl st σ = some (.inr (pc', pl', st', σ'))) (hw : pmWp ro d o m rt pc' pl' st' σ' Q) : pmWp ro d o m rt pc pl st σ Q := by
  refine (pmWp_blk (n := 1) ?_).mpr hw
  unfold pmBlk
  rw [hi]
  simp only [h]
  rfl
theorem pmWp_ias {p n : Nat} {rs : List (Option Nat)} {x i : Int32} (hi : pmCode m pc = some .iastore) (hp : σ.1[p]? = some (50, n, rs)) (hn : pmIn i n) (hw : pmWp ro d o m rt (pc + 1) pl st (σ.1, pmUp σ.2.1 p i.toNatClampNeg x, σ.2.2) Q) : pmWp ro d o m rt pc pl (.int x :: .int i :: .ref p :: st) σ Q := by
  refine pmWp_1 hi ?_ hw
  simp only [pmStep, hp]
  rw [if_pos ⟨trivial, hn⟩]
  rfl
theorem pmWp_las {p n : Nat} {rs : List (Option Nat)} {x : Int64} {i : Int32} (hi : pmCode m pc = some .lastore) (hp : σ.1[p]? = some (51, n, rs)) (hn : pmIn i n) (hw : pmWp ro d o m rt (pc + 1) pl st (σ.1, σ.2.1, pmUp σ.2.2 p i.toNatClampNeg x) Q) : pmWp ro d o m rt pc pl (.long x :: .int i :: .ref p :: st) σ Q := by
  refine pmWp_1 hi ?_ hw
  simp only [pmStep, hp]
  rw [if_pos ⟨trivial, hn⟩]
  rfl
theorem pmWp_ial {p n : Nat} {rs : List (Option Nat)} {i : Int32} (hi : pmCode m pc = some .iaload) (hpp : p < 1000) (hp : σ.1[p]? = some (50, n, rs)) (hn : pmIn i n) (hw : pmWp ro d o m rt (pc + 1) pl (.int (σ.2.1 p i.toNatClampNeg) :: st) σ Q) : pmWp ro d o m rt pc pl (.int i :: .ref p :: st) σ Q := by
  refine pmWp_1 hi ?_ hw
  simp only [pmStep, hp]
  rw [if_neg (show ¬ 1000 ≤ p by omega), if_pos ⟨trivial, hn⟩]
  rfl
/-- a field of an int -/
theorem pmWp_pfi {p k ci j n : Nat} {a b : Bool} {x : Int32} {t : Nat} {rs : List (Option Nat)} {c1 : Bool} (hi : pmCode m pc = some (.putfield k)) (hf : pmF o k = some (ci, j, t, b)) (hk : pmKd ci j = 0) (hfn : pmFn ci j = false) (hp : σ.1[p]? = some (ci, n, rs)) (hw : pmWp ro d o m rt (pc + 3) pl st (σ.1, pmUp σ.2.1 p j x, σ.2.2) Q) : pmWp ro d o m rt pc pl (.int x :: .ref p :: st) σ Q := by
  refine pmWp_1 hi ?_ hw
  simp only [pmStep, hf, hp, pmWr, hk]
  rw [if_pos ⟨trivial, fun e => by rw [hfn] at e; cases e⟩]
  rfl
/-- an int as a place -/
theorem kNat {i : Int32} {n : Nat} (h0 : 0 ≤ i.toInt) (h1 : i.toInt < n) : pmIn i n ∧ (i.toNatClampNeg : Int) = i.toInt := by
  have e : (i.toNatClampNeg : Int) = i.toInt := by
    show ((i.toInt.toNat : Nat) : Int) = i.toInt
    omega
  refine ⟨fun hh => ?_, e⟩
  rcases hh with hlt | hge
  · rw [Int32.lt_iff_toInt_lt] at hlt
    have : (0 : Int32).toInt = 0 := rfl
    omega
  · omega
end
end
section
/-! by hand: the tape's fault -/
section
set_option maxRecDepth 100000
/-- the same outside of these regions -/
def kSm (W : Nat) (σ' σ : pmS) : Prop := ∀ p k, W.testBit (bRg p k) = false → bSame σ' σ p k
theorem kSm.rf {W : Nat} {σ : pmS} : kSm W σ σ := fun _ _ _ => ⟨rfl, rfl⟩
theorem kSm.le {W W2 : Nat} {σ' σ : pmS} (h : kSm W σ' σ) (hW : Nat.lor W W2 = W2) : kSm W2 σ' σ := fun p k hp => h p k (by
  have e : W ||| W2 = W2 := hW
  rw [← e, Nat.testBit_or, Bool.or_eq_false_iff] at hp
  exact hp.1)
theorem kSm.tr {W : Nat} {σ2 σ1 σ : pmS} (h1 : kSm W σ2 σ1) (h2 : kSm W σ1 σ) : kSm W σ2 σ := fun p k hp => ⟨(h1 p k hp).1.trans (h2 p k hp).1, (h1 p k hp).2.trans (h2 p k hp).2⟩
theorem kSm.upi {W p k : Nat} {x : Int32} {σ : pmS} (hb : W.testBit (bRg p k) = true) : kSm W (σ.1, pmUp σ.2.1 p k x, σ.2.2) σ := fun q j hq => by
  refine ⟨?_, rfl⟩
  show (if q = p ∧ j = k then x else σ.2.1 q j) = σ.2.1 q j
  rw [if_neg]
  rintro ⟨rfl, rfl⟩
  rw [hb] at hq
  cases hq
theorem kSm.upl {W p k : Nat} {x : Int64} {σ : pmS} (hb : W.testBit (bRg p k) = true) : kSm W (σ.1, σ.2.1, pmUp σ.2.2 p k x) σ := fun q j hq => by
  refine ⟨rfl, ?_⟩
  show (if q = p ∧ j = k then x else σ.2.2 q j) = σ.2.2 q j
  rw [if_neg]
  rintro ⟨rfl, rfl⟩
  rw [hb] at hq
  cases hq
/-- going in: the first locals -/
noncomputable def bEc (mm : Nat) (aB : List bV) (pl : bL) : Bool := match pmAll[mm]? with
  | some q => decide ((bPl aB).length ≤ q.1.2.2.1.2.2.1) && (decide (q.1.2.2.1.2.2.1 ≤ 40) && (decide (q.1.2.2.2.1 < 3) && (bEl mm (bPl aB) && decide (bPl aB ++ List.replicate (q.1.2.2.1.2.2.1 - (bPl aB).length) none = pl))))
  | none => false
variable {ro : Nat → Nat × (Nat → Int32)} {L : aLa} {Kp : pmS → Prop} {σ0 σ σ' : pmS} {ρ ρ' ρ0 : Nat → Int} {cl : pmL} {cs vs : List Value} {Q : Option Value → pmS → Prop} {d mm n nC : Nat} {aB : List bV} {pl : bL} {A : bNq}
theorem bEc_ok (hc : bEc mm aB pl = true) (hs : bSok n ρ aB vs) (hw : ∀ cl, bLok n ρ pl cl → pmWp ro d (bMk bSp mm).1 mm (bMk bSp mm).2.2.1 0 cl [] σ Q) : pmCs ro (d + 1) mm vs σ Q := by
  unfold bEc at hc
  unfold bMk at hw
  split at hc
  · rename_i q hq
    rw [hq] at hw
    obtain ⟨⟨y, bb, ⟨oo, nn, mx, rr⟩, ⟨kind, ev⟩⟩, code⟩ := q
    simp only [Bool.and_eq_true, decide_eq_true_eq] at hc
    obtain ⟨z1, z2, z3, z4, z6⟩ := hc
    rw [bPl_len hs] at z1
    have z5 : pmEl mm (pmPl vs) = true := (bEl_ok (mm := mm) (bPl aB) (pmPl vs) 0 (bPl_cat hs)).symm.trans z4
    refine (pmCs_go (aInf_ok hq) ⟨z1, z2, z3, z5⟩).mpr ?_
    refine hw _ ?_
    rw [← z6, bPl_len hs]
    exact bLok_app (bPl_ok hs) (bLok_rep _)
  · cases hc
theorem bAt.sm (h : bAt L nC ρ0 Kp σ0 A ρ cl cs σ) : kSm A.2.2.2.2.2.2.2.1.2 σ σ0 := h.1.2.1.2.2.2.1
theorem bAt.kp (h : bAt L nC ρ0 Kp σ0 A ρ cl cs σ) (hf : bFg A.2.2.2.2.2.2.2.1.2 = true) : Kp σ := h.1.2.1.2.2.2.2 hf
theorem bAt.ok (h : bAt L nC ρ0 Kp σ0 A ρ cl cs σ) (hH : A.2.2.2.2.2.2.2.1.1 = []) : kOk σ := ⟨h.1.2.1.1, fun p k => by
  have := h.1.2.1.2.1 p k
  rw [hH] at this
  exact this⟩
theorem bAt.ext (h : bAt L nC ρ0 Kp σ0 A ρ cl cs σ) : aExt nC ρ0 ρ := h.1.2.2.2
theorem bAt.env (h : bAt L nC ρ0 Kp σ0 A ρ cl cs σ) : aEok L ρ A.2.2.2.2.2.2.1.1 := h.1.1.1
theorem bSok_c {a : bV} {r : List bV} (h : bSok n ρ (a :: r) cs) : ∃ v cr, cs = v :: cr ∧ bVok n ρ a v ∧ bSok n ρ r cr := by
  cases cs with
  | nil => exact h.elim
  | cons v cr => exact ⟨v, cr, rfl, h.1, h.2⟩
theorem bSok_n (h : bSok n ρ [] cs) : cs = [] := by
  cases cs with
  | nil => rfl
  | cons v cr => exact h.elim
theorem aXok0 {E : aE} (hE : aEok L ρ E) : aXok L ρ (E, [], []) := ⟨hE, fun q hq => absurd hq List.not_mem_nil, fun q hq => absurd hq List.not_mem_nil⟩
/-! fail -/
def kE39 : aE := [(.ofNat 0, .ofNat 0), (.ofNat 0, .ofNat 3072), (.ofNat 1, .ofNat 5)]
def kB39 : bNq := bPc 0 39 11 [none, none] [.inl (false, 3, .ofNat 0), .inr [1]] [(.ofNat 0, .ofNat 0), (.ofNat 0, .ofNat 3072), (.ofNat 1, .ofNat 5), (.negSucc 5399, .negSucc 999)] [] [] 0
def kE39z (z : Int) : aE := [(.ofNat 0, .ofNat 0), (.ofNat 0, .ofNat 3072), (z, z)]
theorem kS39 : (([1, 2, 3, 4, 5] : List Int).all fun z => bSeg (bCc []) bNo [kB39] (bPc 0 39 0 [some (.inr [1]), some (.inl (false, 2, .ofNat 0))] [] (kE39z z) [] [] 0) []) = true := by decide +kernel
/-- an interval narrowed to what there is -/
theorem aEok_z {E1 E2 : aE} {i : aI} {z : Int} (hE : aEok L ρ (E1 ++ i :: E2)) (h1 : 1 < E1.length) (hz : ρ E1.length = z) : aEok L ρ (E1 ++ (z, z) :: E2) := by
  refine ⟨⟨hE.1.1, hE.1.2.1, by rw [List.length_append]; omega⟩, fun v j hj => ?_⟩
  rcases Nat.lt_trichotomy v E1.length with c | c | c
  · rw [List.getElem?_append_left c] at hj
    exact hE.2 v j (by rw [List.getElem?_append_left c]; exact hj)
  · subst c
    rw [List.getElem?_append_right (Nat.le_refl _), Nat.sub_self] at hj
    cases hj
    show z ≤ ρ E1.length ∧ ρ E1.length ≤ z
    omega
  · rw [List.getElem?_append_right (by omega)] at hj
    refine hE.2 v j ?_
    rw [List.getElem?_append_right (by omega)]
    obtain ⟨t, ht⟩ : ∃ t, v - E1.length = t + 1 := ⟨v - E1.length - 1, by omega⟩
    rw [ht] at hj ⊢
    exact hj
theorem kM39 : (bMk bSp 39).1 = 6 ∧ (bMk bSp 39).2.2.1 = 2 := by decide +kernel
theorem kFail (h : bHyp ro L Kp) (hst : ∀ (σ : pmS) (x : Int32), Kp σ → x.toInt < 0 → Kp (σ.1, pmUp σ.2.1 1 4 x, σ.2.2)) : bCok ro L Kp bC39 := by
  intro ρ vs σ hE hM hs
  have hE : aEok L ρ kE39 := hE
  have hM : bMok 3 ρ Kp σ ([], [], 0) σ := hM
  have hs : bSok 3 ρ [.inr [1], .inl (false, 2, .ofNat 0)] vs := hs
  refine bEc_ok (pl := [some (.inr [1]), some (.inl (false, 2, .ofNat 0))]) (by decide +kernel) hs fun cl hl => ?_
  have hz : ρ 2 ∈ ([1, 2, 3, 4, 5] : List Int) := by
    have := hE.2 2 _ rfl
    have h1 : (1 : Int) ≤ ρ 2 := this.1
    have h2 : ρ 2 ≤ (5 : Int) := this.2
    simp only [List.mem_cons, List.not_mem_nil, or_false]
    omega
  have hE2 : aEok L ρ (kE39z (ρ 2)) := aEok_z (E1 := [(.ofNat 0, .ofNat 0), (.ofNat 0, .ofNat 3072)]) (E2 := []) hE (by decide) rfl
  refine bSeg_ok h bCn_ok (List.all_eq_true.mp kS39 _ hz) (fun B hB => by rw [List.mem_singleton.mp hB]; rfl) (aXok0 hE2) hM hl trivial bNo_ok ?_
  intro B hB ρ' cl' cs' σ' hA
  rw [List.mem_singleton] at hB
  subst hB
  obtain ⟨v1, r1, rfl, hv1, hs1⟩ := bSok_c (show bSok 4 ρ' [.inl (false, 3, .ofNat 0), .inr [1]] cs' from hA.2.2)
  obtain ⟨v2, r2, rfl, hv2, hs2⟩ := bSok_c hs1
  obtain ⟨x, rfl, hx⟩ := bVok_int hv1
  have := bVok_one hv2
  subst this
  have := bSok_n hs2
  subst this
  have hx : x.toInt = ρ' 3 + 0 := hx.2
  have h3 : (-5400 : Int) ≤ ρ' 3 ∧ ρ' 3 ≤ (-1000 : Int) := hA.env.2 3 _ rfl
  have hok := hA.ok rfl
  have hK := hA.kp (by decide +kernel)
  have hsm := hA.sm
  unfold bWa
  rw [show kB39.2.1 = 39 from rfl, kM39.1, kM39.2]
  refine pmWp_pfi (k := 31) (ci := 6) (j := 4) (c1 := true) (a := true) rfl rfl rfl rfl (by rw [hok.1]; rfl) ?_
  refine (pmWp_blk (n := 1) (pc' := 15) (pl' := cl') (st' := [.int 0]) (σ' := (σ'.1, pmUp σ'.2.1 1 4 x, σ'.2.2)) rfl).mpr ((pmWp_ret (i := .ireturn) (r := some (.int 0)) rfl rfl).mpr ?_)
  have hx2 : x.toInt < 0 := by omega
  have hb : bLo 1 4 = false := by decide +kernel
  have hg : bGe 1 4 = [(-5400, 0)] := by decide +kernel
  have hok2 := kOk_upi (x := x) hok hb (by rw [hg]; exact ⟨_, List.mem_singleton.mpr rfl, by show (-5400 : Int) ≤ x.toInt; omega, by show x.toInt ≤ (0 : Int); omega⟩)
  refine ⟨_, List.mem_singleton.mpr rfl, ρ', hA.ext, by decide, hA.env, ⟨by decide, ?_⟩, hok2.1, ?_, fun q hq => absurd hq List.not_mem_nil, ?_, fun _ => hst _ _ hK hx2⟩
  · show (0 : Int) = ρ' 0 + 0
    rw [hA.env.1.1]
    rfl
  · refine bHok_c (kOk_hok hok2) rfl (by decide) ?_
    rw [bZ_upi hb]
    show aUp (bZ σ') 1 4 x.toInt 1 4 = ρ' 3 + 0
    rw [show aUp (bZ σ') 1 4 x.toInt 1 4 = x.toInt from if_pos ⟨rfl, rfl⟩]
    exact hx
  · exact kSm.tr (kSm.upi (by decide +kernel)) (kSm.le hsm (by decide +kernel))
end
end
section
/-! by hand: how the class takes a wish: openText, emit -/
section
set_option maxRecDepth 100000
variable {ro : Nat → Nat × (Nat → Int32)} {L : aLa} {Kp : pmS → Prop} {σ0 σ σ' : pmS} {ρ ρ' ρ0 : Nat → Int} {cl : pmL} {cs vs : List Value} {Q : Option Value → pmS → Prop} {d mm n nC p k : Nat} {x : Int32}
theorem kUp_ne {β : Type} {f : Nat → Nat → β} {q p k : Nat} {x : β} (h : q ≠ p) : pmUp f p k x q = f q := by
  funext j
  show (if q = p ∧ j = k then x else f q j) = f q j
  rw [if_neg (fun e => h e.1)]
theorem kUp_at {β : Type} {f : Nat → Nat → β} {p k : Nat} {x : β} : pmUp f p k x p k = x := if_pos ⟨rfl, rfl⟩
theorem kUp_nk {β : Type} {f : Nat → Nat → β} {q p j k : Nat} {x : β} (h : ¬ (q = p ∧ j = k)) : pmUp f p k x q j = f q j := if_neg h
theorem kP_eq (e1 : σ'.2.1 99 = σ.2.1 99) (e2 : σ'.2.1 98 = σ.2.1 98) (e3 : σ'.2.1 9 = σ.2.1 9) (e4 : σ'.2.1 8 = σ.2.1 8) (e5 : σ'.2.2 114 = σ.2.2 114) (e6 : σ'.2.1 87 41 = σ.2.1 87 41) (h : kP σ) : kP σ' := by
  obtain ⟨h1, h2, h3⟩ := h
  refine ⟨?_, ?_, ?_⟩
  · unfold kMemo kI at h1 ⊢
    rw [e5, e6]
    exact h1
  · unfold kCodes kI at h2 ⊢
    rw [e1, e2]
    exact h2
  · unfold kToks kI at h3 ⊢
    rw [e3, e4]
    exact h3
theorem kP_upi (h : kP σ) (h1 : p ≠ 99) (h2 : p ≠ 98) (h3 : p ≠ 9) (h4 : p ≠ 8) (h5 : p ≠ 87) : kP (σ.1, pmUp σ.2.1 p k x, σ.2.2) :=
  kP_eq (kUp_ne (Ne.symm h1)) (kUp_ne (Ne.symm h2)) (kUp_ne (Ne.symm h3)) (kUp_ne (Ne.symm h4)) rfl (congrFun (kUp_ne (Ne.symm h5)) 41) h
theorem kOk_m {E : aE} {H : bH} {R : bS} {W : Nat} (hE : aEok L ρ E) (hm : bMh E E.length E.length [] [] H = true) (hM : bMok E.length ρ Kp σ0 (H, R, W) σ) : kOk σ := ⟨hM.1, fun p k => bMh_ok hE hm hM.2.1 p k⟩
theorem bHok_o {o : bO} {φ : Nat → Nat → Int} (h : bHok n ρ [] φ) (ho : ∀ k e, (k, e) ∈ o → bEk n ρ e (φ p k)) : bHok n ρ [(p, o)] φ := by
  intro q j
  unfold bEn
  simp only [fLk_eq, pmLk_cons]
  by_cases c : p = q
  · subst c
    rw [if_pos rfl]
    simp only [fLk_eq]
    cases hk : pmLk o j with
    | some e => exact ho j e (kLk_mem hk)
    | none => exact h p j
  · rw [if_neg c]
    exact h q j
theorem kAll (h : kSm 0 σ' σ) (p k : Nat) : σ'.2.1 p k = σ.2.1 p k ∧ σ'.2.2 p k = σ.2.2 p k := h p k (Nat.zero_testBit _)
/-! openText -/
def kE33 : aE := [(.ofNat 0, .ofNat 0), (.ofNat 0, .ofNat 3072), (.ofNat 0, .ofNat 400)]
def kB33 : bNq := bPc 0 33 19 [none, none] [.inl (false, 0, .ofNat 0), .inr [1]] kE33 [] [(1, [(3, .inl (0, .ofNat 0))])] 98304
theorem kS33 : bSeg (bCc []) bNo [kB33] (bPc 0 33 0 [some (.inr [1]), some (.inl (false, 2, .ofNat 0))] [] kE33 [] [] 0) [] = true := by decide +kernel
theorem kM33 : (bMk bSp 33).1 = 6 ∧ (bMk bSp 33).2.2.1 = 0 := by decide +kernel
theorem kOpen (h : bHyp ro L Kp) (hst : ∀ (σ : pmS) (x : Int32), Kp σ → Kp (σ.1, pmUp σ.2.1 1 4 x, σ.2.2)) : bCok ro L Kp bC33 := by
  intro ρ vs σ hE hM hs
  have hE : aEok L ρ kE33 := hE
  have hM : bMok 3 ρ Kp σ ([], [], 0) σ := hM
  have hs : bSok 3 ρ [.inr [1], .inl (false, 2, .ofNat 0)] vs := hs
  refine bEc_ok (pl := [some (.inr [1]), some (.inl (false, 2, .ofNat 0))]) (by decide +kernel) hs fun cl hl => ?_
  refine bSeg_ok h bCn_ok kS33 (fun B hB => by rw [List.mem_singleton.mp hB]; rfl) (aXok0 hE) hM hl trivial bNo_ok ?_
  intro B hB ρ' cl' cs' σ' hA
  rw [List.mem_singleton] at hB
  subst hB
  obtain ⟨v1, r1, rfl, hv1, hs1⟩ := bSok_c (show bSok 3 ρ' [.inl (false, 0, .ofNat 0), .inr [1]] cs' from hA.2.2)
  obtain ⟨v2, r2, rfl, hv2, hs2⟩ := bSok_c hs1
  obtain ⟨x, rfl, hx⟩ := bVok_int hv1
  have := bVok_one hv2
  subst this
  have := bSok_n hs2
  subst this
  have hx : x.toInt = ρ' 0 + 0 := hx.2
  have h00 : ρ' 0 = 0 := hA.env.1.1
  have hok : kOk σ' := kOk_m (E := kE33) hA.env (by decide +kernel) hA.1.2.1
  have hK := hA.kp (by decide +kernel)
  have hsm := hA.sm
  have h3 : bZ σ' 1 3 = ρ' 0 + 0 := (hA.1.2.1.2.1 1 3).2
  unfold bWa
  rw [show kB33.2.1 = 33 from rfl, kM33.1, kM33.2]
  refine pmWp_pfi (k := 31) (ci := 6) (j := 4) (c1 := true) (a := true) rfl rfl rfl rfl (by rw [hok.1]; rfl) ?_
  refine (pmWp_ret (i := .return_) (r := none) rfl rfl).mpr ?_
  have hb : bLo 1 4 = false := by decide +kernel
  have hg : bGe 1 4 = [(-5400, 0)] := by decide +kernel
  have hok2 := kOk_upi (x := x) hok hb (by rw [hg]; exact ⟨_, List.mem_singleton.mpr rfl, by show (-5400 : Int) ≤ x.toInt; omega, by show x.toInt ≤ (0 : Int); omega⟩)
  refine ⟨_, List.mem_singleton.mpr rfl, ρ', hA.ext, by decide, hA.env, trivial, hok2.1, ?_, fun q hq => absurd hq List.not_mem_nil, ?_, fun _ => hst _ _ hK⟩
  · refine bHok_o (kOk_hok hok2) fun k e he => ?_
    rw [bZ_upi hb]
    simp only [List.mem_cons, List.not_mem_nil, or_false, Prod.mk.injEq] at he
    rcases he with ⟨rfl, rfl⟩ | ⟨rfl, rfl⟩
    · refine ⟨(by decide : 0 < 3), ?_⟩
      rw [show aUp (bZ σ') 1 4 x.toInt 1 3 = bZ σ' 1 3 from if_neg (by decide)]
      exact h3
    · refine ⟨(by decide : 0 < 3), ?_⟩
      rw [show aUp (bZ σ') 1 4 x.toInt 1 4 = x.toInt from if_pos ⟨rfl, rfl⟩]
      exact hx
  · exact kSm.tr (kSm.upi (by decide +kernel)) (kSm.le hsm (by decide +kernel))
/-! emit -/
def kW41 : Nat := 1856910058928070412348686336
def kCmb : List (Nat × Nat × Nat) := [(0, 5, 1), (1, 7, 1), (2, 4, 1), (3, 5, 7), (4, 4, 5), (5, 1, 1), (6, 1, 1), (7, 1, 1)]
def kE41 (s a b : Nat) : aE := [(.ofNat 0, .ofNat 0), (.ofNat 0, .ofNat 3072), (.ofNat s, .ofNat s), (.ofNat a, .ofNat a), (.ofNat b, .ofNat b)]
def kF41 : aE := [(.ofNat 0, .ofNat 0), (.ofNat 0, .ofNat 3072), (.ofNat 0, .ofNat 7), (.negSucc 0, .ofNat 6), (.negSucc 0, .ofNat 6)]
def kA41 (E : aE) : bNq := bPc 0 41 0 [some (.inr [31]), some (.inl (false, 2, .ofNat 0)), some (.inl (false, 3, .ofNat 0)), some (.inl (false, 4, .ofNat 0))] [] E [] [] 0
def kB41 (E : aE) (t : aI) : bNq := bPc 0 41 33 [some (.inr [31]), none, none, none] [.inl (false, 6, .ofNat 0), .inl (false, 5, .ofNat 0), .inr [32]] (E ++ [(.ofNat 0, .ofNat 39), t]) [] [(31, [(2, .inl (5, .ofNat 0))])] 0
def kT41 (s a b : Nat) : aI := (.ofNat (64 * s + 8 * a + b), .ofNat (64 * s + 8 * a + b))
theorem kS41v : (kCmb.all fun q => (List.range q.2.1).all fun a => (List.range q.2.2).all fun b => bSeg (bCc []) (bFi 5 [(none, kE41 q.1 a b, [])] 0) [kB41 (kE41 q.1 a b) (kT41 q.1 a b)] (kA41 (kE41 q.1 a b)) [] && bCov (kT41 q.1 a b) kTok) = true := by decide +kernel
theorem kS41f : bSeg (bCc []) (bFi 5 [(none, kF41, [])] 0) [kB41 kF41 (.negSucc 2147483647, .ofNat 2147483647)] (kA41 kF41) [] = true := by decide +kernel
def kA34 : bNq := bPc 0 41 34 [some (.inr [31]), none, none, none] [] [(.ofNat 0, .ofNat 0), (.ofNat 0, .ofNat 3072), (.ofNat 0, .ofNat 39)] [] [(31, [(2, .inl (2, .ofNat 0))])] 0
def kB34 : bNq := bPc 0 41 41 [none, none, none, none] [.inl (false, 2, .ofNat 1), .inr [31]] [(.ofNat 0, .ofNat 0), (.ofNat 0, .ofNat 3072), (.ofNat 0, .ofNat 39)] [] [] 0
theorem kS41e : bSeg (bCc []) bNo [kB34] kA34 [] = true := by decide +kernel
theorem kM41 : (bMk bSp 41).1 = 8 ∧ (bMk bSp 41).2.2.1 = 0 := by decide +kernel
def kQ41 (σ : pmS) : Option Value → pmS → Prop := fun v σ' => v = none ∧ kOk σ' ∧ kQ σ' ∧ kSm kW41 σ' σ
theorem kEm2 (h : bHyp ro L kQ) {x i : Int32} (hok : kOk σ) (hq : kQ σ) (hE : aEok L ρ [(.ofNat 0, .ofNat 0), (.ofNat 0, .ofNat 3072)]) (hl : bLok 2 ρ [some (.inr [31]), none, none, none] cl) (hi : kI σ 31 2 = i.toInt) (h0 : 0 ≤ i.toInt) (h1 : i.toInt ≤ 39) (hx : kI σ 1 4 ≠ 0 ∨ bIn kTok x.toInt) : pmWp ro 0 8 41 0 33 cl [.int x, .int i, .ref 32] σ (kQ41 σ) := by
  obtain ⟨hn, hni⟩ := kNat (i := i) (n := 40) h0 (by omega)
  refine pmWp_ias (n := 40) (rs := []) rfl (by rw [hok.1]; rfl) hn ?_
  generalize hσ1 : (σ.1, pmUp σ.2.1 32 i.toNatClampNeg x, σ.2.2) = σ1
  have hb32 : ∀ k, bLo 32 k = false := fun k => rfl
  have hg32 : ∀ k, bGe 32 k = [(-2147483648, 2147483647)] := fun k => bGu_ok (by decide +kernel) k
  have hok1 : kOk σ1 := by
    rw [← hσ1]
    exact kOk_upi hok (hb32 _) (bIn_i (hg32 _))
  have e1 : ∀ p j, ¬ (p = 32 ∧ j = i.toNatClampNeg) → kI σ1 p j = kI σ p j := fun p j hne => by
    rw [← hσ1]
    show (pmUp σ.2.1 32 i.toNatClampNeg x p j).toInt = (σ.2.1 p j).toInt
    rw [kUp_nk hne]
  have e2 : kI σ1 32 i.toNatClampNeg = x.toInt := by
    rw [← hσ1]
    show (pmUp σ.2.1 32 i.toNatClampNeg x 32 i.toNatClampNeg).toInt = x.toInt
    rw [kUp_at]
  have hq1 : kQ σ1 := by
    refine ⟨by rw [← hσ1]; exact kP_upi hq.1 (by decide) (by decide) (by decide) (by decide) (by decide), ?_⟩
    rcases hq.2 with hf | hv
    · exact Or.inl (by rw [e1 1 4 (fun e => absurd e.1 (by decide))]; exact hf)
    · refine Or.inr fun j hj => ?_
      rw [e1 31 2 (fun e => absurd e.1 (by decide)), hi] at hj
      rw [e1 32 j (fun e => by omega)]
      exact hv j (by rw [hi]; exact hj)
  have hw1 : kSm kW41 σ1 σ := by
    rw [← hσ1]
    refine kSm.upi ?_
    rw [bRg_sing (by decide +kernel) _ 0]
    decide +kernel
  have hE1 : aEok L (fun v => if v = 2 then i.toInt else ρ v) [(.ofNat 0, .ofNat 0), (.ofNat 0, .ofNat 3072), (.ofNat 0, .ofNat 39)] := by
    refine ⟨⟨hE.1.1, hE.1.2.1, by decide⟩, fun v j hj => ?_⟩
    match v, hj with
    | 0, hj => cases hj; exact hE.2 0 _ rfl
    | 1, hj => cases hj; exact hE.2 1 _ rfl
    | 2, hj => cases hj; exact ⟨by show (0 : Int) ≤ i.toInt; omega, by show i.toInt ≤ (39 : Int); omega⟩
    | v + 3, hj => cases hj
  have hl1 : bLok 3 (fun v => if v = 2 then i.toInt else ρ v) [some (.inr [31]), none, none, none] cl := ⟨hl.1, fun j a hj => by
    match j, hj with
    | 0, hj =>
      cases hj
      obtain ⟨v, g1, g2⟩ := hl.2 0 _ rfl
      have := bVok_one g2
      subst this
      exact ⟨_, g1, List.mem_singleton.mpr rfl⟩
    | 1, hj => cases hj
    | 2, hj => cases hj
    | 3, hj => cases hj
    | j + 4, hj => cases hj⟩
  have hgo := bSeg_ok (σ := σ1) (σ0 := σ1) (Kp := kQ) (Q := kQ41 σ) (ρ := fun v => if v = 2 then i.toInt else ρ v) (cl := cl) (cs := []) h bCn_ok kS41e (fun B hB => by rw [List.mem_singleton.mp hB]; rfl) (aXok0 hE1) ⟨hok1.1, bHok_c (kOk_hok hok1) rfl (by decide) (by
      show bZ σ1 31 2 = i.toInt + 0
      unfold bZ
      rw [show bLo 31 2 = false by decide +kernel]
      show kI σ1 31 2 = _
      rw [e1 31 2 (fun e => absurd e.1 (by decide)), hi]
      omega), fun q hq => absurd hq List.not_mem_nil, fun p k _ => ⟨rfl, rfl⟩, fun _ => hq1⟩ hl1 trivial bNo_ok ?_
  · rw [kM41.1, kM41.2] at hgo
    exact hgo
  intro B hB ρ' cl' cs' σ' hA
  rw [List.mem_singleton] at hB
  subst hB
  obtain ⟨v1, r1, rfl, hv1, hs1⟩ := bSok_c (show bSok 3 ρ' [.inl (false, 2, .ofNat 1), .inr [31]] cs' from hA.2.2)
  obtain ⟨v2, r2, rfl, hv2, hs2⟩ := bSok_c hs1
  obtain ⟨y, rfl, hy⟩ := bVok_int hv1
  have := bVok_one hv2
  subst this
  have := bSok_n hs2
  subst this
  have hy : y.toInt = ρ' 2 + 1 := hy.2
  have hy2 : ρ' 2 = i.toInt := hA.ext 2 (by decide)
  have hok' := hA.ok rfl
  have hq' := hA.kp (by decide +kernel)
  have hall := kAll hA.sm
  unfold bWa
  rw [show kB34.2.1 = 41 from rfl, kM41.1, kM41.2]
  refine pmWp_pfi (k := 25) (ci := 8) (j := 2) (c1 := true) (a := true) rfl rfl rfl rfl (by rw [hok'.1]; rfl) ?_
  refine (pmWp_ret (i := .return_) (r := none) rfl rfl).mpr ?_
  have hg31 : bGe 31 2 = [(0, 40)] := by decide +kernel
  refine ⟨rfl, kOk_upi hok' (by decide +kernel) (by rw [hg31]; exact ⟨_, List.mem_singleton.mpr rfl, by show (0 : Int) ≤ y.toInt; omega, by show y.toInt ≤ (40 : Int); omega⟩), ⟨kP_upi hq'.1 (by decide) (by decide) (by decide) (by decide) (by decide), ?_⟩, ?_⟩
  · have u1 : ∀ p j, ¬ (p = 31 ∧ j = 2) → kI (σ'.1, pmUp σ'.2.1 31 2 y, σ'.2.2) p j = kI σ1 p j := fun p j hne => by
      show (pmUp σ'.2.1 31 2 y p j).toInt = (σ1.2.1 p j).toInt
      rw [kUp_nk hne, (hall p j).1]
    have u2 : kI (σ'.1, pmUp σ'.2.1 31 2 y, σ'.2.2) 31 2 = y.toInt := by
      show (pmUp σ'.2.1 31 2 y 31 2).toInt = y.toInt
      rw [kUp_at]
    rcases hq.2 with hf | hv
    · exact Or.inl (by rw [u1 1 4 (by decide), e1 1 4 (fun e => absurd e.1 (by decide))]; exact hf)
    · rcases hx with hf | hx
      · exact Or.inl (by rw [u1 1 4 (by decide), e1 1 4 (fun e => absurd e.1 (by decide))]; exact hf)
      · refine Or.inr fun j hj => ?_
        rw [u2] at hj
        rw [u1 32 j (by omega)]
        by_cases c : j = i.toNatClampNeg
        · rw [c, e2]
          exact hx
        · rw [e1 32 j (fun e => c e.2)]
          exact hv j (by rw [hi]; omega)
  · refine kSm.tr (kSm.upi (by decide +kernel)) (kSm.tr (kSm.le hA.sm (by decide +kernel)) hw1)
end
end
section
/-! by hand: emit, as its callers call it -/
section
set_option maxRecDepth 100000
variable {ro : Nat → Nat × (Nat → Int32)} {L : aLa} {Kp : pmS → Prop} {σ0 σ σ' : pmS} {ρ ρ' ρ0 : Nat → Int} {cl : pmL} {cs vs : List Value} {Q Q' : Option Value → pmS → Prop} {d mm n nC p k : Nat} {x : Int32}
theorem bFin_mono {fin : Option bV → aX → bM → Bool} {n0 : Nat} (h : bFinOk L n0 ρ0 Kp σ0 fin Q') (hQ : ∀ v σ, Q' v σ → Q v σ) : bFinOk L n0 ρ0 Kp σ0 fin Q := fun r X M ρ v σ a b c => hQ _ _ (h r X M ρ v σ a b c)
/-- an end that tells nothing but the table and the regions -/
theorem bFi_end {n : Nat} {E : aE} {W : Nat} (hC : 2 ≤ n) (hE : E.length = n) : bFinOk L n ρ Kp σ (bFi n [(none, E, [])] W) fun v σ' => v = none ∧ kOk σ' ∧ (bFg W = true → Kp σ') ∧ kSm W σ' σ := bFin_mono (bFi_ok (E0 := E) hC hE (Nat.le_refl _) aExt.rf) fun v σ' hh => by
  obtain ⟨al, hm, ρ', a1, a2, a3, a4, a5⟩ := hh
  rw [List.mem_singleton] at hm
  subst hm
  refine ⟨?_, ⟨a5.1, fun p k => a5.2.1 p k⟩, a5.2.2.2.2, a5.2.2.2.1⟩
  cases v with
  | none => rfl
  | some v => exact a4.elim
def kR41 (L : aLa) (s a b : Int) : Nat → Int := fun v => match v with
  | 0 => 0
  | 1 => L.1
  | 2 => s
  | 3 => a
  | 4 => b
  | _ => 0
def kOkArg (σ : pmS) (s a b : Int) : Prop := (∃ q ∈ kCmb, s = q.1 ∧ 0 ≤ a ∧ a < q.2.1 ∧ 0 ≤ b ∧ b < q.2.2) ∨ (kI σ 1 4 ≠ 0 ∧ (0 ≤ s ∧ s ≤ 7) ∧ (-1 ≤ a ∧ a ≤ 6) ∧ -1 ≤ b ∧ b ≤ 6)
theorem kEm_at {E : aE} {t : aI} {nE : E.length = 5} {cl' : pmL} {cs' : List Value} (h : bHyp ro L kQ) (hA : bAt L 5 ρ kQ σ (kB41 E t) ρ' cl' cs' σ') (hm : bMh (E ++ [(.ofNat 0, .ofNat 39), t]) 7 7 [] [] [(31, [(2, .inl (5, .ofNat 0))])] = true) (hE : ρ 0 = 0 ∧ ρ 1 = L.1 ∧ 0 ≤ L.1 ∧ L.1 ≤ 3072) (hx : kI σ 1 4 ≠ 0 ∨ bCov t kTok = true) : bWa ro (kB41 E t) cl' cs' σ' (kQ41 σ) := by
  have hlen : (E ++ [((.ofNat 0, .ofNat 39) : aI), t]).length = 7 := by rw [List.length_append, nE]; rfl
  obtain ⟨v1, r1, rfl, hv1, hs1⟩ := bSok_c (show bSok (E ++ [((.ofNat 0, .ofNat 39) : aI), t]).length ρ' [.inl (false, 6, .ofNat 0), .inl (false, 5, .ofNat 0), .inr [32]] cs' from hA.2.2)
  obtain ⟨v2, r2, rfl, hv2, hs2⟩ := bSok_c hs1
  obtain ⟨v3, r3, rfl, hv3, hs3⟩ := bSok_c hs2
  obtain ⟨x, rfl, hx1⟩ := bVok_int hv1
  obtain ⟨i, rfl, hi1⟩ := bVok_int hv2
  have := bVok_one hv3
  subst this
  have := bSok_n hs3
  subst this
  have hx2 : x.toInt = ρ' 6 + 0 := hx1.2
  have hi2 : i.toInt = ρ' 5 + 0 := hi1.2
  have henv : aEok L ρ' (E ++ [((.ofNat 0, .ofNat 39) : aI), t]) := hA.env
  have h5 : (0 : Int) ≤ ρ' 5 ∧ ρ' 5 ≤ (39 : Int) := henv.2 5 _ (by rw [List.getElem?_append_right (by omega), nE]; rfl)
  have h6 : t.1 ≤ ρ' 6 ∧ ρ' 6 ≤ t.2 := henv.2 6 _ (by rw [List.getElem?_append_right (by omega), nE]; rfl)
  have hok : kOk σ' := kOk_m (E := E ++ [(.ofNat 0, .ofNat 39), t]) henv (by rw [hlen]; exact hm) hA.1.2.1
  have hq := hA.kp (show bFg 0 = true by decide +kernel)
  have hz : bZ σ' 31 2 = ρ' 5 + 0 := (hA.1.2.1.2.1 31 2).2
  have hsz : kI σ' 31 2 = i.toInt := by
    rw [hi2, ← hz]
    unfold bZ
    rw [show bLo 31 2 = false by decide +kernel]
    rfl
  have hall := kAll hA.sm
  have hf : kI σ' 1 4 = kI σ 1 4 := by
    unfold kI
    rw [(hall 1 4).1]
  have e0 : ρ' 0 = ρ 0 := hA.ext 0 (by decide)
  have e1 : ρ' 1 = ρ 1 := hA.ext 1 (by decide)
  have hl : bLok 2 ρ' [some (.inr [31]), none, none, none] cl' := by
    have := hA.2.1
    refine ⟨this.1, fun j a hj => ?_⟩
    match j, hj with
    | 0, hj =>
      cases hj
      obtain ⟨v, g1, g2⟩ := this.2 0 _ rfl
      have := bVok_one g2
      subst this
      exact ⟨_, g1, List.mem_singleton.mpr rfl⟩
    | 1, hj => cases hj
    | 2, hj => cases hj
    | 3, hj => cases hj
    | j + 4, hj => cases hj
  have hE2 : aEok L ρ' [(.ofNat 0, .ofNat 0), (.ofNat 0, .ofNat 3072)] := by
    refine ⟨⟨by rw [e0]; exact hE.1, by rw [e1]; exact hE.2.1, by decide⟩, fun v j hj => ?_⟩
    match v, hj with
    | 0, hj => cases hj; exact ⟨by show (0 : Int) ≤ ρ' 0; omega, by show ρ' 0 ≤ (0 : Int); omega⟩
    | 1, hj => cases hj; exact ⟨by show (0 : Int) ≤ ρ' 1; omega, by show ρ' 1 ≤ (3072 : Int); omega⟩
    | v + 2, hj => cases hj
  have hgo := kEm2 (σ := σ') (x := x) (i := i) h hok hq hE2 hl hsz (by omega) (by omega) (by
    rcases hx with hx | hx
    · exact Or.inl (by rw [hf]; exact hx)
    · exact Or.inr (bCov_ok hx (by omega) (by omega)))
  unfold bWa
  rw [show (kB41 E t).2.1 = 41 from rfl, kM41.1, kM41.2]
  refine pmWp_mono hgo ?_
  rintro v σ2 ⟨b1, b2, b3, b4⟩
  exact ⟨b1, b2, b3, kSm.tr b4 (kSm.le (show kSm 0 σ' σ from hA.sm) (by decide +kernel))⟩
theorem kEm (h : bHyp ro L kQ) {s a b : Int32} (hL : 0 ≤ L.1 ∧ L.1 ≤ 3072) (hok : kOk σ) (hq : kQ σ) (hx : kOkArg σ s.toInt a.toInt b.toInt) : pmCs ro 1 41 [.ref 31, .int s, .int a, .int b] σ (kQ41 σ) := by
  refine bEc_ok (n := 5) (ρ := kR41 L s.toInt a.toInt b.toInt) (aB := [.inr [31], .inl (false, 2, .ofNat 0), .inl (false, 3, .ofNat 0), .inl (false, 4, .ofNat 0)]) (pl := [some (.inr [31]), some (.inl (false, 2, .ofNat 0)), some (.inl (false, 3, .ofNat 0)), some (.inl (false, 4, .ofNat 0))]) (by decide +kernel) ⟨List.mem_singleton.mpr rfl, ⟨(by decide : 2 < 5), (Int.add_zero _).symm⟩, ⟨(by decide : 3 < 5), (Int.add_zero _).symm⟩, ⟨(by decide : 4 < 5), (Int.add_zero _).symm⟩, trivial⟩ fun cl hl => ?_
  have hend : ∀ E : aE, E.length = 5 → bFinOk L 5 (kR41 L s.toInt a.toInt b.toInt) kQ σ (bFi 5 [(none, E, [])] 0) (kQ41 σ) := fun E hE => bFin_mono (bFi_end (by decide) hE) fun v σ' hh => ⟨hh.1, hh.2.1, hh.2.2.1 rfl, kSm.le hh.2.2.2 (by decide +kernel)⟩
  rcases hx with ⟨q, hqm, e1, e2, e3, e4, e5⟩ | ⟨f1, f2, f3, f4⟩
  · have hk := List.all_eq_true.mp (List.all_eq_true.mp (List.all_eq_true.mp kS41v q hqm) a.toInt.toNat (List.mem_range.mpr (by omega))) b.toInt.toNat (List.mem_range.mpr (by omega))
    rw [Bool.and_eq_true] at hk
    have hm : bMh (kE41 q.1 a.toInt.toNat b.toInt.toNat ++ [(.ofNat 0, .ofNat 39), kT41 q.1 a.toInt.toNat b.toInt.toNat]) 7 7 [] [] [(31, [(2, .inl (5, .ofNat 0))])] = true := rfl
    refine bSeg_ok (ρ := kR41 L s.toInt a.toInt b.toInt) (E := kE41 q.1 a.toInt.toNat b.toInt.toNat) h bCn_ok hk.1 (fun B hB => by rw [List.mem_singleton.mp hB]; rfl) (aXok0 ⟨⟨rfl, rfl, (by decide : 1 < 5)⟩, fun v j hj => ?_⟩) (kOk_mok hok hq) hl trivial (hend (kE41 q.1 a.toInt.toNat b.toInt.toNat) rfl) ?_
    · match v, hj with
      | 0, hj => cases hj; exact ⟨Int.le_refl _, Int.le_refl _⟩
      | 1, hj => cases hj; exact ⟨hL.1, hL.2⟩
      | 2, hj => cases hj; exact ⟨by show (q.1 : Int) ≤ s.toInt; omega, by show s.toInt ≤ (q.1 : Int); omega⟩
      | 3, hj => cases hj; exact ⟨by show ((a.toInt.toNat : Nat) : Int) ≤ a.toInt; omega, by show a.toInt ≤ ((a.toInt.toNat : Nat) : Int); omega⟩
      | 4, hj => cases hj; exact ⟨by show ((b.toInt.toNat : Nat) : Int) ≤ b.toInt; omega, by show b.toInt ≤ ((b.toInt.toNat : Nat) : Int); omega⟩
      | v + 5, hj => cases hj
    · intro B hB ρ' cl' cs' σ' hA
      rw [List.mem_singleton] at hB
      subst hB
      exact kEm_at (nE := rfl) h hA hm ⟨rfl, rfl, hL⟩ (Or.inr hk.2)
  · have hm : bMh (kF41 ++ [(.ofNat 0, .ofNat 39), (.negSucc 2147483647, .ofNat 2147483647)]) 7 7 [] [] [(31, [(2, .inl (5, .ofNat 0))])] = true := by decide +kernel
    refine bSeg_ok (ρ := kR41 L s.toInt a.toInt b.toInt) (E := kF41) h bCn_ok kS41f (fun B hB => by rw [List.mem_singleton.mp hB]; rfl) (aXok0 ⟨⟨rfl, rfl, (by decide : 1 < 5)⟩, fun v j hj => ?_⟩) (kOk_mok hok hq) hl trivial (hend kF41 rfl) ?_
    · match v, hj with
      | 0, hj => cases hj; exact ⟨Int.le_refl _, Int.le_refl _⟩
      | 1, hj => cases hj; exact ⟨hL.1, hL.2⟩
      | 2, hj => cases hj; exact f2
      | 3, hj => cases hj; exact f3
      | 4, hj => cases hj; exact f4
      | v + 5, hj => cases hj
    · intro B hB ρ' cl' cs' σ' hA
      rw [List.mem_singleton] at hB
      subst hB
      exact kEm_at (nE := rfl) h hA hm ⟨rfl, rfl, hL⟩ (Or.inl f1)
/-- as a contract -/
theorem kEmC (h : bHyp ro L kQ) {aB : List bV} {E0 : aE} {H0 : bH} (hm : bMh E0 E0.length E0.length [] [] H0 = true) (hv : ∀ ρ vs σ, aEok L ρ E0 → bHok E0.length ρ H0 (bZ σ) → bSok E0.length ρ aB vs → ∃ s a b : Int32, vs = [.ref 31, .int s, .int a, .int b] ∧ kOkArg σ s.toInt a.toInt b.toInt) : bCok ro L kQ (41, aB, E0, H0, [(none, E0, [])], kW41, 1) := by
  intro ρ vs σ hE hM hs
  obtain ⟨s, a, b, rfl, hx⟩ := hv ρ vs σ hE hM.2.1 hs
  have h1 := hE.2 1
  have hN : 0 ≤ L.1 ∧ L.1 ≤ 3072 := by
    obtain ⟨_, Ln, xs, _, e2, e3⟩ := h
    rw [e2]
    exact ⟨by show (0 : Int) ≤ (Ln : Int); omega, by show (Ln : Int) ≤ 3072; omega⟩
  refine pmCs_mono (kEm h hN (kOk_m hE hm hM) (hM.2.2.2.2 (show bFg 0 = true by decide +kernel)) hx) ?_
  rintro v σ' ⟨rfl, b2, b3, b4⟩
  exact ⟨_, List.mem_singleton.mpr rfl, ρ, aExt.rf, Nat.le_refl _, hE, trivial, b2.1, fun p k => b2.2 p k, fun q hq => absurd hq List.not_mem_nil, b4, fun _ => b3⟩
/-- the arguments as values -/
theorem kArg {fs fa fb : aF} (hs : bSok n ρ [.inr [31], .inl (false, fs), .inl (false, fa), .inl (false, fb)] vs) : ∃ s a b : Int32, vs = [.ref 31, .int s, .int a, .int b] ∧ s.toInt = ρ fs.1 + fs.2 ∧ a.toInt = ρ fa.1 + fa.2 ∧ b.toInt = ρ fb.1 + fb.2 := by
  obtain ⟨v0, r0, rfl, hv0, hs0⟩ := bSok_c hs
  obtain ⟨v1, r1, rfl, hv1, hs1⟩ := bSok_c hs0
  obtain ⟨v2, r2, rfl, hv2, hs2⟩ := bSok_c hs1
  obtain ⟨v3, r3, rfl, hv3, hs3⟩ := bSok_c hs2
  have := bVok_one hv0
  subst this
  obtain ⟨s, rfl, h1⟩ := bVok_int hv1
  obtain ⟨a, rfl, h2⟩ := bVok_int hv2
  obtain ⟨b, rfl, h3⟩ := bVok_int hv3
  have := bSok_n hs3
  subst this
  exact ⟨s, a, b, rfl, h1.2, h2.2, h3.2⟩
theorem kEf {s : Nat} (h : bHyp ro L kQ) (hs7 : s ≤ 7) : bCok ro L kQ (41, [.inr [31], .inl (false, 0, .ofNat s), .inl (false, 2, .ofNat 0), .inl (false, 3, .ofNat 0)], [(.ofNat 0, .ofNat 0), (.ofNat 0, .ofNat 3072), (.negSucc 0, .ofNat 6), (.negSucc 0, .ofNat 6), (.negSucc 5399, .negSucc 0)], [(1, [(4, .inl (4, .ofNat 0))])], [(none, [(.ofNat 0, .ofNat 0), (.ofNat 0, .ofNat 3072), (.negSucc 0, .ofNat 6), (.negSucc 0, .ofNat 6), (.negSucc 5399, .negSucc 0)], [])], kW41, 1) :=
  kEmC h (by decide +kernel) fun ρ vs σ hE hH hs => by
    obtain ⟨sx, a, b, rfl, h1, h2, h3⟩ := kArg hs
    refine ⟨sx, a, b, rfl, Or.inr ⟨?_, ?_, ?_⟩⟩
    · have hz : bZ σ 1 4 = ρ 4 + 0 := (hH 1 4).2
      have h4 : (-5400 : Int) ≤ ρ 4 ∧ ρ 4 ≤ (-1 : Int) := hE.2 4 _ rfl
      have e : kI σ 1 4 = bZ σ 1 4 := by
        unfold bZ
        rw [show bLo 1 4 = false by decide +kernel]
        rfl
      rw [e, hz]
      omega
    · have h0 := hE.1.1
      have h1 : sx.toInt = ρ 0 + (s : Int) := h1
      omega
    · have a2 : (-1 : Int) ≤ ρ 2 ∧ ρ 2 ≤ (6 : Int) := hE.2 2 _ rfl
      have a3 : (-1 : Int) ≤ ρ 3 ∧ ρ 3 ≤ (6 : Int) := hE.2 3 _ rfl
      have h2 : a.toInt = ρ 2 + 0 := h2
      have h3 : b.toInt = ρ 3 + 0 := h3
      omega
theorem kEv1 {s u : Nat} (h : bHyp ro L kQ) (hq : (s, u + 1, 1) ∈ kCmb) : bCok ro L kQ (41, [.inr [31], .inl (false, 0, .ofNat s), .inl (false, 2, .ofNat 0), .inl (false, 0, .ofNat 0)], [(.ofNat 0, .ofNat 0), (.ofNat 0, .ofNat 3072), (.ofNat 0, .ofNat u)], [], [(none, [(.ofNat 0, .ofNat 0), (.ofNat 0, .ofNat 3072), (.ofNat 0, .ofNat u)], [])], kW41, 1) :=
  kEmC h rfl fun ρ vs σ hE hH hs => by
    obtain ⟨sx, a, b, rfl, h1, h2, h3⟩ := kArg hs
    have h0 := hE.1.1
    have a2 : (0 : Int) ≤ ρ 2 ∧ ρ 2 ≤ (u : Int) := hE.2 2 _ rfl
    have h1 : sx.toInt = ρ 0 + (s : Int) := h1
    have h2 : a.toInt = ρ 2 + 0 := h2
    have h3 : b.toInt = ρ 0 + 0 := h3
    exact ⟨sx, a, b, rfl, Or.inl ⟨_, hq, by show sx.toInt = (s : Int); omega, by omega, by show a.toInt < ((u + 1 : Nat) : Int); omega, by omega, by show b.toInt < ((1 : Nat) : Int); omega⟩⟩
theorem kEv2 {s u w : Nat} (h : bHyp ro L kQ) (hq : (s, u + 1, w + 1) ∈ kCmb) : bCok ro L kQ (41, [.inr [31], .inl (false, 0, .ofNat s), .inl (false, 2, .ofNat 0), .inl (false, 3, .ofNat 0)], [(.ofNat 0, .ofNat 0), (.ofNat 0, .ofNat 3072), (.ofNat 0, .ofNat u), (.ofNat 0, .ofNat w)], [], [(none, [(.ofNat 0, .ofNat 0), (.ofNat 0, .ofNat 3072), (.ofNat 0, .ofNat u), (.ofNat 0, .ofNat w)], [])], kW41, 1) :=
  kEmC h rfl fun ρ vs σ hE hH hs => by
    obtain ⟨sx, a, b, rfl, h1, h2, h3⟩ := kArg hs
    have h0 := hE.1.1
    have a2 : (0 : Int) ≤ ρ 2 ∧ ρ 2 ≤ (u : Int) := hE.2 2 _ rfl
    have a3 : (0 : Int) ≤ ρ 3 ∧ ρ 3 ≤ (w : Int) := hE.2 3 _ rfl
    have h1 : sx.toInt = ρ 0 + (s : Int) := h1
    have h2 : a.toInt = ρ 2 + 0 := h2
    have h3 : b.toInt = ρ 3 + 0 := h3
    exact ⟨sx, a, b, rfl, Or.inl ⟨_, hq, by show sx.toInt = (s : Int); omega, by omega, by show a.toInt < ((u + 1 : Nat) : Int); omega, by omega, by show b.toInt < ((w + 1 : Nat) : Int); omega⟩⟩
theorem kEv0 {s : Nat} (h : bHyp ro L kQ) (hq : (s, 1, 1) ∈ kCmb) : bCok ro L kQ (41, [.inr [31], .inl (false, 0, .ofNat s), .inl (false, 0, .ofNat 0), .inl (false, 0, .ofNat 0)], [(.ofNat 0, .ofNat 0), (.ofNat 0, .ofNat 3072)], [], [(none, [(.ofNat 0, .ofNat 0), (.ofNat 0, .ofNat 3072)], [])], kW41, 1) :=
  kEmC h rfl fun ρ vs σ hE hH hs => by
    obtain ⟨sx, a, b, rfl, h1, h2, h3⟩ := kArg hs
    have h0 := hE.1.1
    have h1 : sx.toInt = ρ 0 + (s : Int) := h1
    have h2 : a.toInt = ρ 0 + 0 := h2
    have h3 : b.toInt = ρ 0 + 0 := h3
    exact ⟨sx, a, b, rfl, Or.inl ⟨_, hq, by show sx.toInt = (s : Int); omega, by omega, by show a.toInt < ((1 : Nat) : Int); omega, by omega, by show b.toInt < ((1 : Nat) : Int); omega⟩⟩
/-- the class's reading of a wish, from its first text place -/
theorem kOne (h : bHyp ro L kQ) (h39 : bCok ro L kQ bC39) : bCok ro L kQ bC34f :=
  bO34f h h39 (kEf (s := 0) h (by decide)) (kEf (s := 1) h (by decide)) (kEf (s := 2) h (by decide)) (kEf (s := 3) h (by decide)) (kEf (s := 4) h (by decide)) (kEv1 (s := 2) (u := 3) h (by decide)) (kEv1 (s := 0) (u := 4) h (by decide)) (kEv1 (s := 1) (u := 6) h (by decide)) (kEv2 (s := 4) (u := 3) (w := 4) h (by decide)) (kEv2 (s := 3) (u := 4) (w := 6) h (by decide)) (kEv0 (s := 6) h (by decide)) (kEv0 (s := 7) h (by decide)) (kEv0 (s := 5) h (by decide))
end
end
