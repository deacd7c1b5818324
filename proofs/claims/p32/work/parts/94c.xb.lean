/-! exact runs: bits of longs -/
section
variable {x y l : Int64} {k j : Int}
theorem xCmpB (x y : Int64) : -2147483648 ≤ xCmp x y ∧ xCmp x y ≤ 2147483647 := aB32 _
theorem xShrB (h0 : 0 ≤ k) (h1 : k < 64) : (xShr l k).toBitVec = l.toBitVec >>> k.toNat := by
  have hy : (Int32.ofInt k).toInt = k := xI ⟨by omega, by omega⟩
  show l.toBitVec >>> (UInt64.mod ((Int32.ofInt k).toInt64.toUInt64 &&& Int64.toUInt64 63) 64).toBitVec = _
  rw [BitVec.ushiftRight_eq', bSm64 _ (by omega) (by omega), hy]
theorem xSm64 (y : Int32) (h0 : 0 ≤ y.toInt) (h1 : y.toInt < 64) : ((y.toInt64 &&& 63).toBitVec.smod 64).toNat = y.toInt.toNat := by
  have key : ∀ k : Fin 64, (((Int32.ofNat k.val).toInt64 &&& 63).toBitVec.smod 64).toNat = k.val := by decide
  have e : y = Int32.ofNat y.toInt.toNat := by
    apply Int32.toInt.inj
    rw [Int32.toInt_ofNat_of_lt (by omega)]
    omega
  have := key ⟨y.toInt.toNat, by omega⟩
  rw [← e] at this
  exact this
theorem xShLB (h0 : 0 ≤ k) (h1 : k < 64) : (xShL l k).toBitVec = l.toBitVec <<< k.toNat := by
  have hy : (Int32.ofInt k).toInt = k := xI ⟨by omega, by omega⟩
  show l.toBitVec <<< (((Int32.ofInt k).toInt64 &&& 63).toBitVec.smod 64) = _
  rw [BitVec.shiftLeft_eq', xSm64 _ (by omega) (by omega), hy]
/-- a bit -/
def xBit (l : Int64) (k : Int) : Bool := l.toBitVec.getLsbD k.toNat
theorem xBit_or : xBit (x ||| y) k = (xBit x k || xBit y k) := BitVec.getLsbD_or
theorem xBit_one (h0 : 0 ≤ k) (h1 : k < 64) (h2 : 0 ≤ j) (h3 : j < 64) : xBit (xShL 1 k) j = decide (j = k) := by
  unfold xBit
  rw [xShLB h0 h1, BitVec.getLsbD_shiftLeft, show (1 : Int64).toBitVec = 1#64 from rfl, BitVec.getLsbD_one]
  by_cases c : j = k
  · subst c
    simp
    omega
  · simp [c]
    omega
theorem xBit_shr (h0 : 0 ≤ k) (h1 : k < 64) : xShr l k &&& 1 = 0 ↔ xBit l k = false := by
  have e : (xShr l k &&& 1).toBitVec = (l.toBitVec >>> k.toNat) &&& 1#64 := by
    show (xShr l k).toBitVec &&& 1#64 = _
    rw [xShrB h0 h1]
  constructor
  · intro h
    have h2 := congrArg Int64.toBitVec h
    rw [e] at h2
    have h3 := congrArg (fun q : BitVec 64 => q.getLsbD 0) h2
    simp only [BitVec.getLsbD_and, BitVec.getLsbD_ushiftRight, BitVec.getLsbD_one] at h3
    unfold xBit
    simpa using h3
  · intro h
    apply Int64.toBitVec.inj
    rw [e]
    apply BitVec.eq_of_getLsbD_eq
    intro i hi
    simp only [BitVec.getLsbD_and, BitVec.getLsbD_ushiftRight, BitVec.getLsbD_one]
    unfold xBit at h
    by_cases c : i = 0
    · subst c
      simpa using h
    · simp [c]
end
