/-! by hand: measure -/
section
set_option maxRecDepth 100000
variable {ro : Nat → Nat × (Nat → Int32)} {L : aLa} {Kp : pmS → Prop} {σ0 σ σ' σs : pmS} {ρ ρ' : Nat → Int} {cl : pmL} {cs vs : List Value} {Q : Option Value → pmS → Prop} {n n2 d o m rt pc : Nat} {pl : pmL} {st : List Value}
theorem pmWp_ll {j : Fin 4} {x : Int64} (hi : pmCode m pc = some (.lload_n j)) (hl : pl[j.val]? = some (some (.long x))) (hw : pmWp ro d o m rt (pc + 1) pl (.long x :: st) σ Q) : pmWp ro d o m rt pc pl st σ Q := by
  refine pmWp_1 hi ?_ hw
  simp only [pmStep, hl]
  rfl
theorem pmWp_il {j : Nat} {x : Int32} (hi : pmCode m pc = some (.iload j)) (hl : pl[j]? = some (some (.int x))) (hw : pmWp ro d o m rt (pc + 2) pl (.int x :: st) σ Q) : pmWp ro d o m rt pc pl st σ Q := by
  refine pmWp_1 hi ?_ hw
  simp only [pmStep, hl]
  rfl
def kW73 : Nat := 623075623024179315423659559506411520
def kWh : Nat := 498460498419343452338927647605129216
/-- a person's digit of a view -/
def kDg (v : Int64) (q : Int32) : Int32 := (v.toUInt64 >>> ((Int32.ofInt 4 * q).toInt64.toUInt64 &&& Int64.toUInt64 63)).toInt64.toInt32 &&& (Int8.ofInt 15).toInt32
theorem kDg_le (v : Int64) (q : Int32) : 0 ≤ (kDg v q).toInt ∧ (kDg v q).toInt ≤ 15 := aAnd32 _ (Int8.ofInt 15).toInt32 (by decide)
def kE3 : aE := [(.ofNat 0, .ofNat 0), (.ofNat 0, .ofNat 3072), (.negSucc 9223372036854775807, .ofNat 9223372036854775807), (.ofNat 0, .ofNat 6)]
def kE4 (lo hi : Int) : aE := [(.ofNat 0, .ofNat 0), (.ofNat 0, .ofNat 3072), (.negSucc 9223372036854775807, .ofNat 9223372036854775807), (.ofNat 0, .ofNat 6), (lo, hi)]
def kE5 (lo hi : Int) : aE := [(.ofNat 0, .ofNat 0), (.ofNat 0, .ofNat 3072), (.negSucc 9223372036854775807, .ofNat 9223372036854775807), (.ofNat 0, .ofNat 6), (.ofNat 0, .ofNat 3), (lo, hi)]
def kE6 : aE := [(.ofNat 0, .ofNat 0), (.ofNat 0, .ofNat 3072), (.negSucc 9223372036854775807, .ofNat 9223372036854775807), (.ofNat 0, .ofNat 6), (.ofNat 0, .ofNat 3), (.ofNat 1, .ofNat 7), (.ofNat 0, .ofNat 99999)]
def kD5 (lo hi : Int) : aE := [(.ofNat 0, .ofNat 0), (.ofNat 0, .ofNat 3072), (.negSucc 9223372036854775807, .ofNat 9223372036854775807), (.ofNat 0, .ofNat 6), kT32, (lo, hi)]
def kD6 (a b : aI) : aE := [(.ofNat 0, .ofNat 0), (.ofNat 0, .ofNat 3072), (.negSucc 9223372036854775807, .ofNat 9223372036854775807), (.ofNat 0, .ofNat 6), kT32, a, b]
def kD7 (b : aI) : aE := [(.ofNat 0, .ofNat 0), (.ofNat 0, .ofNat 3072), (.negSucc 9223372036854775807, .ofNat 9223372036854775807), (.ofNat 0, .ofNat 6), kT32, (.ofNat 0, .ofNat 4), (.ofNat 9, .ofNat 12), b]
def kD8 (b : aI) : aE := [(.ofNat 0, .ofNat 0), (.ofNat 0, .ofNat 3072), (.negSucc 9223372036854775807, .ofNat 9223372036854775807), (.ofNat 0, .ofNat 6), kT32, (.ofNat 0, .ofNat 4), (.ofNat 9, .ofNat 12), b, kT32]
def kP73 (pr : Nat) : bL := [some (.inr [34]), some (.inl (true, 2, .ofNat 0)), none, some (.inr [pr]), none, none, none, none]
def kL1 (pr : Nat) (q : aF) : bL := [some (.inr [34]), some (.inl (true, 2, .ofNat 0)), none, some (.inr [pr]), some (.inl (false, 3, .ofNat 0)), some (.inl (false, q)), none, none]
def kL2 (pr : Nat) (a x : aF) : bL := [some (.inr [34]), some (.inl (true, 2, .ofNat 0)), none, some (.inr [pr]), some (.inl (false, 3, .ofNat 0)), some (.inl (false, a)), some (.inl (false, x)), none]
def kL3 (pr : Nat) (a x p : aF) : bL := [some (.inr [34]), some (.inl (true, 2, .ofNat 0)), none, some (.inr [pr]), some (.inl (false, 3, .ofNat 0)), some (.inl (false, a)), some (.inl (false, x)), some (.inl (false, p))]
def kv4 : aF := (4, .ofNat 0)
def kv5 : aF := (5, .ofNat 0)
def kv6 : aF := (6, .ofNat 0)
def kB28 (pr : Nat) : bNq := bPc 1 73 28 (kL1 pr (0, .ofNat 0)) [] kE3 [] [] 0
def kA28 (pr : Nat) (lo hi : Int) : bNq := bPc 1 73 28 (kL1 pr kv4) [] (kE4 lo hi) [] [] 0
def kB34m (pr : Nat) : bNq := bPc 1 73 34 (kL1 pr kv4) [] (kE4 (.ofNat 0) (.ofNat 3)) [] [] 0
def kB105a (pr : Nat) : bNq := bPc 1 73 105 (kL2 pr (0, .ofNat 100000) (0, .ofNat 0)) [] (kE4 (.ofNat 4) (.ofNat 4)) [] [] 0
def kA44 (pr c : Nat) : bNq := bPc 1 73 44 (kL1 pr kv4) [.inl (false, kv5)] (kE5 (.ofNat 0) (.ofNat 15)) [] [(5, [(1, .inl (0, .ofNat c))])] 0
def kB91a (pr : Nat) : bNq := bPc 1 73 91 (kL1 pr kv4) [.inl (false, kv6), .inl (false, kv4), .inr [39]] kE6 [] [] 0
def kB91b (pr : Nat) : bNq := bPc 1 73 91 (kL1 pr kv4) [.inl (false, 0, .ofNat 100000), .inl (false, kv4), .inr [39]] (kE5 (.ofNat 0) (.ofNat 15)) [] [] 0
def kA92 (pr : Nat) : bNq := bPc 1 73 92 (kL1 pr kv4) [] (kE4 (.ofNat 0) (.ofNat 3)) [] [] 0
def kB28n (pr : Nat) : bNq := bPc 1 73 28 (kL1 pr (4, .ofNat 1)) [] (kE4 (.ofNat 0) (.ofNat 3)) [] [] 0
def kA105 (pr : Nat) (lo hi : Int) : bNq := bPc 1 73 105 (kL2 pr kv4 kv5) [] (kD5 lo hi) [] [] 0
def kB190 (pr : Nat) : bNq := bPc 1 73 190 (kL3 pr kv4 kv5 kv6) [.inl (false, 6, .negSucc 8), .inr [39]] (kD6 (.ofNat 0, .ofNat 4) (.ofNat 9, .ofNat 12)) [] [] kWh
def kB105b (pr : Nat) : bNq := bPc 1 73 105 (kL2 pr kv6 (5, .ofNat 1)) [] (kD6 (.ofNat 0, .ofNat 4) kT32) [] [] kWh
def kA191 (pr : Nat) (lo hi : Int) : bNq := bPc 1 73 191 (kL3 pr kv4 kv5 kv6) [.inl (false, 7, .ofNat 0)] (kD7 (lo, hi)) [] [] 0
def kB203 (pr : Nat) : bNq := bPc 1 73 203 (kL3 pr kv4 kv5 kv6) [.inl (false, 0, .ofNat 0), .inl (false, kv5), .inr [42]] (kD7 (.ofNat 0, .ofNat 99999)) [] [] 0
def kB105c (pr : Nat) (b : aI) : bNq := bPc 1 73 105 (kL2 pr (8, .ofNat 0) (5, .ofNat 1)) [] (kD8 b) [] [] kWh
def kA216 (pr : Nat) : bNq := bPc 1 73 216 (kL3 pr kv4 kv5 kv6) [.inl (false, 7, .ofNat 0), .inl (false, 0, .ofNat 0), .inl (false, kv5), .inr [42]] (kD7 (.ofNat 1, .ofNat 7)) [] [] 0
noncomputable def kSg (Bs : List bNq) (A : bNq) : Bool := bSeg (bCc []) bNo Bs A []
theorem kS73 : (([1000, 5] : List Nat).all fun pr => kSg [kB28 pr] (bPc 1 73 0 (kP73 pr) [] kE74 [] [] 0) && (kSg [kB34m pr] (kA28 pr (.ofNat 0) (.ofNat 3)) && (kSg [kB105a pr] (kA28 pr (.ofNat 4) (.ofNat 4)) && (((List.range 65).all fun c => kSg [kB91a pr, kB91b pr] (kA44 pr (c + 9))) && (kSg [kB28n pr] (kA92 pr) && (kSg [kB190 pr, kB105b pr] (kA105 pr (.ofNat 0) (.ofNat 4)) && (kSg [kB203 pr] (kA191 pr (.ofNat 0) (.ofNat 99999)) && (kSg [kB105c pr (.ofNat 100000, .ofNat 100000)] (kA191 pr (.ofNat 100000) (.ofNat 100000)) && (kSg [kB105c pr (.ofNat 1, .ofNat 7)] (kA216 pr) && bSeg (bCc []) (bFi 6 [(none, kD5 (.ofNat 5) (.ofNat 5), [])] kW73) [] (kA105 pr (.ofNat 5) (.ofNat 5)) []))))))))) = true := by decide +kernel
theorem kM73 : (bMk bSp 73).1 = 3 ∧ (bMk bSp 73).2.2.1 = 0 := by decide +kernel
end
