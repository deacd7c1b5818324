/-! rules of intervals: shifts, products by a number, quotients, rests, masks -/
section
theorem bSm32 (y : Int32) (h0 : 0 ≤ y.toInt) (h1 : y.toInt < 32) : ((y &&& 31).toBitVec.smod 32).toNat = y.toInt.toNat := by
  have key : ∀ k : Fin 32, ((Int32.ofNat k.val &&& 31).toBitVec.smod 32).toNat = k.val := by decide
  have e : y = Int32.ofNat y.toInt.toNat := by
    apply Int32.toInt.inj
    rw [Int32.toInt_ofNat_of_lt (by omega)]
    omega
  have := key ⟨y.toInt.toNat, by omega⟩
  rw [← e] at this
  exact this
theorem bShr32 (x y : Int32) (h0 : 0 ≤ y.toInt) (h1 : y.toInt < 32) : (x >>> (y &&& 31)).toInt = x.toInt / ((2 ^ y.toInt.toNat : Nat) : Int) := by
  show (BitVec.sshiftRight' x.toBitVec ((y &&& 31).toBitVec.smod 32)).toInt = _
  rw [BitVec.sshiftRight_eq', BitVec.toInt_sshiftRight, bSm32 y h0 h1, Int.shiftRight_eq_div_pow]
  rfl
/-- down by a told number of places -/
noncomputable def bShrR (i j : aI) : aI := bif zEq j.1 j.2 && (zLe 0 j.1 && zLe j.1 31) then (i.1 / ((2 ^ j.1.toNat : Nat) : Int), i.2 / ((2 ^ j.1.toNat : Nat) : Int)) else bif zLe 0 i.1 && (zLe 0 j.1 && zLe j.2 31) then (0, i.2) else aT32
theorem bDivM {a b : Int} (c : Nat) (h : a ≤ b) : a / ((2 ^ c : Nat) : Int) ≤ b / ((2 ^ c : Nat) : Int) := Int.ediv_le_ediv (by exact_mod_cast Nat.two_pow_pos c) h
theorem bRu_shr : aRu32 (fun x y => x >>> (y &&& 31)) bShrR := fun a b i j h1 h2 h3 h4 => by
  show (bShrR i j).1 ≤ (a >>> (b &&& 31)).toInt ∧ (a >>> (b &&& 31)).toInt ≤ (bShrR i j).2
  unfold bShrR
  simp only [zEq_eq, zLe_eq, zAnd, zIf]
  split
  · rename_i hc
    have e : b.toInt = j.1 := by omega
    rw [bShr32 a b (by omega) (by omega), e]
    exact ⟨bDivM _ h1, bDivM _ h2⟩
  · split
    · rename_i hc
      rw [bShr32 a b (by omega) (by omega)]
      have hp : (0 : Int) < ((2 ^ b.toInt.toNat : Nat) : Int) := by exact_mod_cast Nat.two_pow_pos _
      refine ⟨Int.ediv_nonneg (by omega) (Int.le_of_lt hp), ?_⟩
      show _ ≤ i.2
      exact Int.le_trans (Int.ediv_le_self _ (by omega)) h2
    · exact aB32 _
/-- times a told number -/
noncomputable def bMulR (r : aI → Bool) (top i j : aI) : aI :=
  bif zEq j.1 j.2 && zLe 0 j.1 then (bif r (i.1 * j.1, i.2 * j.1) then (i.1 * j.1, i.2 * j.1) else top)
  else bif zEq i.1 i.2 && zLe 0 i.1 then (bif r (j.1 * i.1, j.2 * i.1) then (j.1 * i.1, j.2 * i.1) else top) else top
theorem bRu_mul : aRu32 (· * ·) (bMulR aR32 aT32) := fun a b i j h1 h2 h3 h4 => by
  show (bMulR aR32 aT32 i j).1 ≤ (a * b).toInt ∧ (a * b).toInt ≤ (bMulR aR32 aT32 i j).2
  unfold bMulR
  simp only [zEq_eq, zLe_eq, zAnd, zIf]
  split
  · rename_i hc
    cases hr : aR32 (i.1 * j.1, i.2 * j.1) with
    | true =>
      have hb := aR32_ok hr
      have e : b.toInt = j.1 := by omega
      have m1 : i.1 * j.1 ≤ a.toInt * j.1 := Int.mul_le_mul_of_nonneg_right h1 hc.2
      have m2 : a.toInt * j.1 ≤ i.2 * j.1 := Int.mul_le_mul_of_nonneg_right h2 hc.2
      rw [Int32.toInt_mul, e, aBm32 (Int.le_trans hb.1 m1) (Int.le_trans m2 hb.2)]
      exact ⟨m1, m2⟩
    | false => exact aB32 _
  · split
    · rename_i hc
      cases hr : aR32 (j.1 * i.1, j.2 * i.1) with
      | true =>
        have hb := aR32_ok hr
        have e : a.toInt = i.1 := by omega
        have m1 : j.1 * i.1 ≤ b.toInt * i.1 := Int.mul_le_mul_of_nonneg_right h3 hc.2
        have m2 : b.toInt * i.1 ≤ j.2 * i.1 := Int.mul_le_mul_of_nonneg_right h4 hc.2
        rw [Int32.toInt_mul, e, Int.mul_comm i.1 b.toInt, aBm32 (Int.le_trans hb.1 m1) (Int.le_trans m2 hb.2)]
        exact ⟨m1, m2⟩
      | false => exact aB32 _
    · exact aB32 _
theorem bRu_mul64 : aRu64 (· * ·) (bMulR aR64 aT64) := fun a b i j h1 h2 h3 h4 => by
  show (bMulR aR64 aT64 i j).1 ≤ (a * b).toInt ∧ (a * b).toInt ≤ (bMulR aR64 aT64 i j).2
  unfold bMulR
  simp only [zEq_eq, zLe_eq, zAnd, zIf]
  split
  · rename_i hc
    cases hr : aR64 (i.1 * j.1, i.2 * j.1) with
    | true =>
      have hb := aR64_ok hr
      have e : b.toInt = j.1 := by omega
      have m1 : i.1 * j.1 ≤ a.toInt * j.1 := Int.mul_le_mul_of_nonneg_right h1 hc.2
      have m2 : a.toInt * j.1 ≤ i.2 * j.1 := Int.mul_le_mul_of_nonneg_right h2 hc.2
      rw [Int64.toInt_mul, e, aBm64 (Int.le_trans hb.1 m1) (Int.le_trans m2 hb.2)]
      exact ⟨m1, m2⟩
    | false => exact aB64 _
  · split
    · rename_i hc
      cases hr : aR64 (j.1 * i.1, j.2 * i.1) with
      | true =>
        have hb := aR64_ok hr
        have e : a.toInt = i.1 := by omega
        have m1 : j.1 * i.1 ≤ b.toInt * i.1 := Int.mul_le_mul_of_nonneg_right h3 hc.2
        have m2 : b.toInt * i.1 ≤ j.2 * i.1 := Int.mul_le_mul_of_nonneg_right h4 hc.2
        rw [Int64.toInt_mul, e, Int.mul_comm i.1 b.toInt, aBm64 (Int.le_trans hb.1 m1) (Int.le_trans m2 hb.2)]
        exact ⟨m1, m2⟩
      | false => exact aB64 _
    · exact aB64 _
/-- by a told number that is above 0 -/
noncomputable def bDivR (top i j : aI) : aI := bif zEq j.1 j.2 && zLe 1 j.1 then (i.1.tdiv j.1, i.2.tdiv j.1) else top
theorem bTdiv {a c : Int} (hc : 1 ≤ c) (m : Int) (h1 : -m ≤ a) (h2 : a ≤ m) : -m ≤ a.tdiv c ∧ a.tdiv c ≤ m := by
  have hm : 0 ≤ m := by omega
  rcases Int.le_total 0 a with h | h
  · have g1 := Int.tdiv_nonneg h (by omega : 0 ≤ c)
    have g2 := Int.tdiv_le_self c h
    omega
  · have g1 := Int.tdiv_nonneg (a := -a) (by omega) (by omega : 0 ≤ c)
    have g2 := Int.tdiv_le_self (a := -a) c (by omega)
    rw [Int.neg_tdiv] at g1 g2
    omega
theorem bRu_div : aRu32 (· / ·) (bDivR aT32) := fun a b i j h1 h2 h3 h4 => by
  show (bDivR aT32 i j).1 ≤ (a / b).toInt ∧ (a / b).toInt ≤ (bDivR aT32 i j).2
  unfold bDivR
  simp only [zEq_eq, zLe_eq, zAnd, zIf]
  split
  · rename_i hc
    have e : b.toInt = j.1 := by omega
    have hb := aB32 a
    have ht : -2147483648 ≤ a.toInt.tdiv j.1 ∧ a.toInt.tdiv j.1 ≤ 2147483647 := by
      rcases Int.le_total 0 a.toInt with h | h
      · have := bTdiv hc.2 2147483647 (a := a.toInt) (by omega) (by omega)
        omega
      · have g0 := Int.tdiv_le_tdiv (a := a.toInt) (b := 0) (c := j.1) (by omega) h
        rw [Int.zero_tdiv] at g0
        have := bTdiv hc.2 2147483648 (a := a.toInt) (by omega) (by omega)
        omega
    rw [Int32.toInt_div, e, aBm32 ht.1 ht.2]
    exact ⟨Int.tdiv_le_tdiv (by omega) h1, Int.tdiv_le_tdiv (by omega) h2⟩
  · exact aB32 _
/-- a rest by a number above 0 -/
noncomputable def bRemR (top i j : aI) : aI := bif zLe 1 j.1 then (bif zLe 0 i.1 then (0, aMin i.2 (j.2 - 1)) else (1 - j.2, j.2 - 1)) else top
theorem bRest {a c : Int} (hc : 1 ≤ c) : (0 ≤ a → 0 ≤ a - a.tdiv c * c ∧ a - a.tdiv c * c ≤ a) ∧ -c < a - a.tdiv c * c ∧ a - a.tdiv c * c < c := by
  have e : a - a.tdiv c * c = a.tmod c := by rw [Int.tmod_def, Int.mul_comm]
  have h1 := Int.tmod_lt_of_pos a (b := c) (by omega)
  have h2 := Int.lt_tmod_of_pos a (b := c) (by omega)
  refine ⟨fun h => ⟨by rw [e]; exact Int.tmod_nonneg c h, ?_⟩, by omega, by omega⟩
  have g1 := Int.tdiv_nonneg h (by omega : 0 ≤ c)
  have g2 : 0 ≤ a.tdiv c * c := Int.mul_nonneg g1 (by omega)
  omega
theorem bRu_rem : aRu32 (fun x y => x - x / y * y) (bRemR aT32) := fun a b i j h1 h2 h3 h4 => by
  show (bRemR aT32 i j).1 ≤ (a - a / b * b).toInt ∧ (a - a / b * b).toInt ≤ (bRemR aT32 i j).2
  unfold bRemR
  simp only [zLe_eq, zIf]
  split
  · rename_i hc
    have hb1 : 1 ≤ b.toInt := by omega
    have hr := bRest (a := a.toInt) hb1
    have hba := aB32 a
    have hbb := aB32 b
    have e : (a - a / b * b).toInt = a.toInt - a.toInt.tdiv b.toInt * b.toInt := by
      rw [Int32.toInt_sub, Int32.toInt_mul, Int32.toInt_div]
      rw [Int.bmod_mul_bmod, Int.sub_bmod_bmod]
      exact aBm32 (by omega) (by omega)
    rw [e]
    have m1 := aMin_le i.2 (j.2 - 1)
    split
    · have := hr.1 (by omega)
      show 0 ≤ _ ∧ _ ≤ aMin i.2 (j.2 - 1)
      unfold aMin
      simp only [zLe_eq, zIf]
      split <;> omega
    · show 1 - j.2 ≤ _ ∧ _ ≤ j.2 - 1
      omega
  · exact aB32 _
theorem bRu_rem64 : aRu64 (fun x y => x - x / y * y) (bRemR aT64) := fun a b i j h1 h2 h3 h4 => by
  show (bRemR aT64 i j).1 ≤ (a - a / b * b).toInt ∧ (a - a / b * b).toInt ≤ (bRemR aT64 i j).2
  unfold bRemR
  simp only [zLe_eq, zIf]
  split
  · rename_i hc
    have hb1 : 1 ≤ b.toInt := by omega
    have hr := bRest (a := a.toInt) hb1
    have hba := aB64 a
    have hbb := aB64 b
    have e : (a - a / b * b).toInt = a.toInt - a.toInt.tdiv b.toInt * b.toInt := by
      rw [Int64.toInt_sub, Int64.toInt_mul, Int64.toInt_div]
      rw [Int.bmod_mul_bmod, Int.sub_bmod_bmod]
      exact aBm64 (by omega) (by omega)
    rw [e]
    have m1 := aMin_le i.2 (j.2 - 1)
    split
    · have := hr.1 (by omega)
      show 0 ≤ _ ∧ _ ≤ aMin i.2 (j.2 - 1)
      unfold aMin
      simp only [zLe_eq, zIf]
      split <;> omega
    · show 1 - j.2 ≤ _ ∧ _ ≤ j.2 - 1
      omega
  · exact aB64 _
/-- a long's high places, as a number that isn't below 0 -/
theorem bSm64 (y : Int32) (h0 : 0 ≤ y.toInt) (h1 : y.toInt < 64) : (UInt64.mod (y.toInt64.toUInt64 &&& Int64.toUInt64 63) 64).toBitVec.toNat = y.toInt.toNat := by
  have key : ∀ k : Fin 64, (UInt64.mod ((Int32.ofNat k.val).toInt64.toUInt64 &&& Int64.toUInt64 63) 64).toBitVec.toNat = k.val := by decide
  have e : y = Int32.ofNat y.toInt.toNat := by
    apply Int32.toInt.inj
    rw [Int32.toInt_ofNat_of_lt (by omega)]
    omega
  have := key ⟨y.toInt.toNat, by omega⟩
  rw [← e] at this
  exact this
noncomputable def bUshR (i j : aI) : aI := bif zEq j.1 j.2 && (zLe 1 j.1 && zLe j.1 63) then (0, ((2 ^ (64 - j.1.toNat) : Nat) : Int) - 1) else aT64
theorem bRu_ush : aRuS (fun x y => (x.toUInt64 >>> (y.toInt64.toUInt64 &&& Int64.toUInt64 63)).toInt64) bUshR := fun a b i j h1 h2 h3 h4 => by
  show (bUshR i j).1 ≤ ((a.toUInt64 >>> (b.toInt64.toUInt64 &&& Int64.toUInt64 63)).toInt64).toInt ∧ ((a.toUInt64 >>> (b.toInt64.toUInt64 &&& Int64.toUInt64 63)).toInt64).toInt ≤ (bUshR i j).2
  unfold bUshR
  simp only [zEq_eq, zLe_eq, zAnd, zIf]
  split
  · rename_i hc
    have e : b.toInt = j.1 := by omega
    have e2 : ((a.toUInt64 >>> (b.toInt64.toUInt64 &&& Int64.toUInt64 63)).toInt64).toInt = ((a.toBitVec >>> j.1.toNat).toInt) := by
      show (a.toBitVec >>> (UInt64.mod (b.toInt64.toUInt64 &&& Int64.toUInt64 63) 64).toBitVec).toInt = _
      rw [BitVec.ushiftRight_eq', bSm64 b (by omega) (by omega), e]
    rw [e2, BitVec.toInt_ushiftRight_of_lt (by omega)]
    have hlt := BitVec.toNat_ushiftRight_lt a.toBitVec j.1.toNat (by omega)
    rw [BitVec.toNat_ushiftRight] at hlt
    generalize a.toBitVec.toNat >>> j.1.toNat = u at hlt ⊢
    generalize 2 ^ (64 - j.1.toNat) = w at hlt ⊢
    refine ⟨by show (0 : Int) ≤ (u : Int); omega, ?_⟩
    show (u : Int) ≤ (w : Int) - 1
    omega
  · exact aB64 _
end
