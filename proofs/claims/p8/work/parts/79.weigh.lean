/-! by hand: weigh's stretches -/
section
set_option maxRecDepth 100000
def kW74 : Nat := 31153781151208965771182977975320576
def kT32 : aI := (.negSucc 2147483647, .ofNat 2147483647)
def kE74 : aE := [(.ofNat 0, .ofNat 0), (.ofNat 0, .ofNat 3072), (.negSucc 9223372036854775807, .ofNat 9223372036854775807)]
def kF74 : aE := [(.ofNat 0, .ofNat 0), (.ofNat 0, .ofNat 3072), (.negSucc 9223372036854775807, .ofNat 9223372036854775807), (.ofNat 0, .ofNat 6), kT32, kT32]
def kG74 : aE := [(.ofNat 0, .ofNat 0), (.ofNat 0, .ofNat 3072), (.negSucc 9223372036854775807, .ofNat 9223372036854775807), (.ofNat 0, .ofNat 6), kT32, kT32, (.ofNat 0, .ofNat 39), (.ofNat 1, .ofNat 40)]
def kX74 : aE := [(.ofNat 0, .ofNat 0), (.ofNat 0, .ofNat 3072), (.negSucc 9223372036854775807, .ofNat 9223372036854775807), (.ofNat 0, .ofNat 6), kT32, kT32, (.ofNat 0, .ofNat 40), (.ofNat 0, .ofNat 40)]
def kL74 (pr : Nat) (i : bV) : bL := [some (.inr [34]), some (.inl (true, 2, .ofNat 0)), none, some (.inr [pr]), some (.inl (false, 3, .ofNat 0)), some (.inl (false, 4, .ofNat 0)), some (.inl (false, 5, .ofNat 0)), some i, none, none, none, none, none, none, none, none, none, none]
def kP74 (pr : Nat) : bL := [some (.inr [34]), some (.inl (true, 2, .ofNat 0)), none, some (.inr [pr]), none, none, none, none, none, none, none, none, none, none, none, none, none, none]
def kI60 : bV := .inl (false, 6, .ofNat 0)
def kB54 (pr : Nat) : bNq := bPc 1 74 54 (kL74 pr (.inl (false, 0, .ofNat 0))) [] kF74 [] [] 0
def kA54 (pr w : Nat) (E : aE) (C : aC) : bNq := bPc 1 74 54 (kL74 pr kI60) [] E C [(34, [(11, .inl (0, .ofNat w))]), (9, [(w, .inl (7, .ofNat 0))])] 0
def kB88 (pr w : Nat) : bNq := bPc 1 74 88 (kL74 pr kI60) [.inl (false, 6, .ofNat (40 * w)), .inr [8]] kG74 [] [] 0
def kA89 (pr t : Nat) : bNq := bPc 1 74 89 (kL74 pr kI60) [.inl (false, 0, .ofNat t)] kG74 [] [] 0
def kB54n (pr : Nat) : bNq := bPc 1 74 54 (kL74 pr (.inl (false, 6, .ofNat 1))) [] kG74 [] [] kW74
def kTl : List Nat := kCmb.flatMap fun q => (List.range q.2.1).flatMap fun a => (List.range q.2.2).map fun b => 64 * q.1 + 8 * a + b
theorem kTl_chk : (kTok.all fun i => decide (0 ≤ i.1) && (decide (i.2 ≤ i.1 + 6) && (List.range 7).all fun d => decide (i.2 < i.1 + (d : Int)) || decide ((i.1 + (d : Int)).toNat ∈ kTl))) = true := by decide +kernel
theorem kTl_mem {z : Int} (h : bIn kTok z) : 0 ≤ z ∧ z.toNat ∈ kTl := by
  obtain ⟨i, hi, h1, h2⟩ := h
  have hc := List.all_eq_true.mp kTl_chk i hi
  simp only [Bool.and_eq_true, decide_eq_true_eq] at hc
  obtain ⟨c1, c2, c3⟩ := hc
  have c4 := List.all_eq_true.mp c3 (z - i.1).toNat (List.mem_range.mpr (by omega))
  rw [Bool.or_eq_true, decide_eq_true_eq, decide_eq_true_eq] at c4
  have e : i.1 + (((z - i.1).toNat : Nat) : Int) = z := by omega
  rw [e] at c4
  refine ⟨by omega, ?_⟩
  rcases c4 with c4 | c4
  · omega
  · exact c4
theorem kS74a : (([1000, 5] : List Nat).all fun pr => bSeg (bCc []) bNo [kB54 pr] (bPc 1 74 0 (kP74 pr) [] kE74 [] [] 0) [] && (List.range 12).all fun w => bSeg (bCc []) bNo [kB88 pr w] (kA54 pr w kG74 [(6, 7, .negSucc 0)]) [] && bSeg (bCc []) (bFi 8 [(none, kX74, [])] 0) [] (kA54 pr w kX74 [(7, 6, .ofNat 0)]) []) = true := by decide +kernel
theorem kM74 : (bMk bSp 74).1 = 3 ∧ (bMk bSp 74).2.2.1 = 0 := by decide +kernel
theorem kS74b : (kTl.all fun t => bSeg (bCc []) bNo [kB54n 1000] (kA89 1000 t) []) = true := by decide +kernel
theorem kS74c : (kTl.all fun t => bSeg (bCc []) bNo [kB54n 5] (kA89 5 t) []) = true := by decide +kernel
end
