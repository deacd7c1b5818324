/-! by hand: the reference reads a wish: readsDigit's stretches -/
section
set_option maxRecDepth 100000
def kWd : Nat := 7780161256853237226406946562385987339980967233352367360013362004237545384400937549824
def kG160 (t : Int) : Bool := decide (48 ≤ t ∧ t ≤ 57)
def kE160 (m : Nat) (t : aI) : aE := kBe [(.ofNat m, .ofNat m), (.ofNat 0, .ofNat 39), (.ofNat 1, .ofNat 40), t]
def kX160 (m : Nat) : aE := kBe [(.ofNat m, .ofNat m), (.ofNat 0, .ofNat 40), (.ofNat 0, .ofNat 40)]
def kR160 : bS := [(93, (3, .ofNat 0), (5, .ofNat 0))]
def kA160 (E : aE) (C : aC) : bNq := bPc 1 160 0 (kL165 (2, .ofNat 0)) [] E C (kHv [(10, (3, .ofNat 0)), (11, (4, .ofNat 0))]) 0
noncomputable def kF160 (m t : Nat) : Bool := bif Nat.ble 48 t && (Nat.ble t 57 && Nat.ble t (48 + m)) then bSeg (bCc []) (bFi 6 [(some (.inl (false, 0, .ofNat 1)), kE160 m (.ofNat t, .ofNat t), kHv [(22, (0, .ofNat (t - 48))), (10, (3, .ofNat 1))])] kWd) [] (kA160 (kE160 m (.ofNat t, .ofNat t)) [(3, 4, .negSucc 0)]) kR160 else bSeg (bCc []) (bFi 6 [(some (.inl (false, 0, .ofNat 0)), kE160 m (.ofNat t, .ofNat t), [])] kWd) [] (kA160 (kE160 m (.ofNat t, .ofNat t)) [(3, 4, .negSucc 0)]) kR160
noncomputable def kG1 (m t : Nat) : Bool := bSeg (bCc []) (bFi 6 [(some (.inl (false, 0, .ofNat 0)), kE160 m (.negSucc t, .negSucc t), [])] kWd) [] (kA160 (kE160 m (.negSucc t, .negSucc t)) [(3, 4, .negSucc 0)]) kR160
theorem kS160 : (([3, 4, 6] : List Nat).all fun m => bSeg (bCc []) (bFi 5 [(some (.inl (false, 0, .ofNat 0)), kX160 m, [])] kWd) [] (kA160 (kX160 m) [(4, 3, .ofNat 0)]) [] && ((List.range 128).all (kF160 m) && (List.range 128).all (kG1 m))) = true := by decide +kernel
theorem kM160 : (bMk bSp 160).1 = 12 ∧ (bMk bSp 160).2.2.1 = 2 := by decide +kernel
end
