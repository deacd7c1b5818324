/-! exact runs: one instruction, told in Int -/
section
variable {ro : Nat → Nat × (Nat → Int32)} {d o m rt pc t f : Nat} {pl pl' : pmL} {st st' : List Value} {a a' : xA} {b b' : xB} {Q : Option Value → pmS → Prop} {z y k : Int} {i : Instr} {v w : Value}
theorem xI (h : xR z) : (Int32.ofInt z).toInt = z := Int32.toInt_ofInt_of_le (by have := h.1; omega) (by have := h.2; omega)
theorem xIx (h0 : 0 ≤ k) (h1 : k < 2147483648) : (((Int32.ofInt k).toNatClampNeg : Nat) : Int) = k := by
  show (((Int32.ofInt k).toInt.toNat : Nat) : Int) = k
  rw [xI ⟨by omega, by omega⟩]
  omega
theorem xIn {n : Nat} (h0 : 0 ≤ k) (h1 : k < n) (hn : k < 2147483648) : pmIn (Int32.ofInt k) n := by
  intro hh
  rcases hh with h | h
  · rw [Int32.lt_iff_toInt_lt, xI ⟨by omega, by omega⟩] at h
    have : (0 : Int32).toInt = 0 := rfl
    omega
  · have := xIx h0 hn
    omega
theorem xEq (hz : xR z) (hy : xR y) : Int32.ofInt z = Int32.ofInt y ↔ z = y := by
  constructor
  · intro h
    have := congrArg Int32.toInt h
    rw [xI hz, xI hy] at this
    exact this
  · intro h
    rw [h]
theorem xLt (hz : xR z) (hy : xR y) : Int32.ofInt z < Int32.ofInt y ↔ z < y := by rw [Int32.lt_iff_toInt_lt, xI hz, xI hy]
theorem xLe (hz : xR z) (hy : xR y) : Int32.ofInt z ≤ Int32.ofInt y ↔ z ≤ y := by rw [Int32.le_iff_toInt_le, xI hz, xI hy]
theorem xRk (h : -2147483648 ≤ z ∧ z ≤ 2147483647) : xR z := h
theorem xR0 : xR 0 := ⟨by decide, by decide⟩
/-- any instruction that leaves the heap -/
theorem x_s (hc : pmCode m pc = some i) (hs : pmStep ro (fun _ _ _ => none) o m rt pc i pl st (xS a b) = some (.inr (t, pl', st', xS a b))) (hw : pmWp ro d o m rt t pl' st' (xS a b) Q) : pmWp ro d o m rt pc pl st (xS a b) Q := pmWp_1 hc hs hw
theorem x_iconst {n : Int} (hc : pmCode m pc = some (.iconst n) ∧ pc + 1 = t) (hw : pmWp ro d o m rt t pl (xV n :: st) (xS a b) Q) : pmWp ro d o m rt pc pl st (xS a b) Q := by
  obtain ⟨h1, rfl⟩ := hc
  exact pmWp_1 h1 rfl hw
theorem x_bipush {n : Int} (hc : pmCode m pc = some (.bipush n) ∧ pc + 2 = t) (hn : -128 ≤ n ∧ n ≤ 127) (hw : pmWp ro d o m rt t pl (xV n :: st) (xS a b) Q) : pmWp ro d o m rt pc pl st (xS a b) Q := by
  obtain ⟨h1, rfl⟩ := hc
  refine pmWp_1 h1 (st' := xV n :: st) ?_ hw
  have e : (Int8.ofInt n).toInt32 = Int32.ofInt n := by
    apply Int32.toInt.inj
    rw [Int8.toInt_toInt32, Int8.toInt_ofInt_of_le (by omega) (by omega), xI ⟨by omega, by omega⟩]
  simp only [pmStep, pmNx, e, xV]
theorem x_sipush {n : Int} (hc : pmCode m pc = some (.sipush n) ∧ pc + 3 = t) (hn : -32768 ≤ n ∧ n ≤ 32767) (hw : pmWp ro d o m rt t pl (xV n :: st) (xS a b) Q) : pmWp ro d o m rt pc pl st (xS a b) Q := by
  obtain ⟨h1, rfl⟩ := hc
  refine pmWp_1 h1 (st' := xV n :: st) ?_ hw
  have e : (Int16.ofInt n).toInt32 = Int32.ofInt n := by
    apply Int32.toInt.inj
    rw [Int16.toInt_toInt32, Int16.toInt_ofInt_of_le (by omega) (by omega), xI ⟨by omega, by omega⟩]
  simp only [pmStep, pmNx, e, xV]
theorem x_ldc {n : Nat} {wd : Nat} (hc : pmCode m pc = some (.ldc n) ∧ pc + 2 = t) (hn : pmC o n = some (Int32.ofInt z, wd)) (hw : pmWp ro d o m rt t pl (xV z :: st) (xS a b) Q) : pmWp ro d o m rt pc pl st (xS a b) Q := by
  obtain ⟨h1, rfl⟩ := hc
  refine pmWp_1 h1 (st' := xV z :: st) ?_ hw
  simp only [pmStep, hn, pmNx, xV]
/-! locals -/
theorem x_iload {n : Nat} (hc : pmCode m pc = some (.iload n) ∧ pc + 2 = t) (hl : pl[n]? = some (some (xV z))) (hw : pmWp ro d o m rt t pl (xV z :: st) (xS a b) Q) : pmWp ro d o m rt pc pl st (xS a b) Q := by
  obtain ⟨h1, rfl⟩ := hc
  refine pmWp_1 h1 (st' := xV z :: st) ?_ hw
  simp only [pmStep, hl, pmNx, xV]
theorem x_iloadn {n : Fin 4} (hc : pmCode m pc = some (.iload_n n) ∧ pc + 1 = t) (hl : pl[n.val]? = some (some (xV z))) (hw : pmWp ro d o m rt t pl (xV z :: st) (xS a b) Q) : pmWp ro d o m rt pc pl st (xS a b) Q := by
  obtain ⟨h1, rfl⟩ := hc
  refine pmWp_1 h1 (st' := xV z :: st) ?_ hw
  simp only [pmStep, hl, pmNx, xV]
theorem x_aload {n q : Nat} (hc : pmCode m pc = some (.aload n) ∧ pc + 2 = t) (hl : pl[n]? = some (some (.ref q))) (hw : pmWp ro d o m rt t pl (.ref q :: st) (xS a b) Q) : pmWp ro d o m rt pc pl st (xS a b) Q := by
  obtain ⟨h1, rfl⟩ := hc
  refine pmWp_1 h1 (st' := .ref q :: st) ?_ hw
  simp only [pmStep, hl, pmNx]
theorem x_aloadn {n : Fin 4} {q : Nat} (hc : pmCode m pc = some (.aload_n n) ∧ pc + 1 = t) (hl : pl[n.val]? = some (some (.ref q))) (hw : pmWp ro d o m rt t pl (.ref q :: st) (xS a b) Q) : pmWp ro d o m rt pc pl st (xS a b) Q := by
  obtain ⟨h1, rfl⟩ := hc
  refine pmWp_1 h1 (st' := .ref q :: st) ?_ hw
  simp only [pmStep, hl, pmNx]
theorem x_lload {n : Nat} {l : Int64} (hc : pmCode m pc = some (.lload n) ∧ pc + 2 = t) (hl : pl[n]? = some (some (.long l))) (hw : pmWp ro d o m rt t pl (.long l :: st) (xS a b) Q) : pmWp ro d o m rt pc pl st (xS a b) Q := by
  obtain ⟨h1, rfl⟩ := hc
  refine pmWp_1 h1 (st' := .long l :: st) ?_ hw
  simp only [pmStep, hl, pmNx]
theorem x_lloadn {n : Fin 4} {l : Int64} (hc : pmCode m pc = some (.lload_n n) ∧ pc + 1 = t) (hl : pl[n.val]? = some (some (.long l))) (hw : pmWp ro d o m rt t pl (.long l :: st) (xS a b) Q) : pmWp ro d o m rt pc pl st (xS a b) Q := by
  obtain ⟨h1, rfl⟩ := hc
  refine pmWp_1 h1 (st' := .long l :: st) ?_ hw
  simp only [pmStep, hl, pmNx]
theorem x_istore {n : Nat} (hc : pmCode m pc = some (.istore n) ∧ pc + 2 = t) (hn : Nat.ble (n + 1) pl.length = true) (hl : pmS1 m pl n (xV z) = pl') (hw : pmWp ro d o m rt t pl' st (xS a b) Q) : pmWp ro d o m rt pc pl (xV z :: st) (xS a b) Q := by
  obtain ⟨h1, rfl⟩ := hc
  refine pmWp_1 h1 (pl' := pl') (st' := st) ?_ hw
  simp only [pmStep, pmNx, xV]
  rw [if_pos (Nat.lt_of_succ_le (Nat.le_of_ble_eq_true hn)), ← hl]
  rfl
theorem x_istoren {n : Fin 4} (hc : pmCode m pc = some (.istore_n n) ∧ pc + 1 = t) (hn : Nat.ble (n.val + 1) pl.length = true) (hl : pmS1 m pl n.val (xV z) = pl') (hw : pmWp ro d o m rt t pl' st (xS a b) Q) : pmWp ro d o m rt pc pl (xV z :: st) (xS a b) Q := by
  obtain ⟨h1, rfl⟩ := hc
  refine pmWp_1 h1 (pl' := pl') (st' := st) ?_ hw
  simp only [pmStep, pmNx, xV]
  rw [if_pos (Nat.lt_of_succ_le (Nat.le_of_ble_eq_true hn)), ← hl]
  rfl
theorem x_astore {n q : Nat} (hc : pmCode m pc = some (.astore n) ∧ pc + 2 = t) (hn : Nat.ble (n + 1) pl.length = true) (hl : pmS1 m pl n (.ref q) = pl') (hw : pmWp ro d o m rt t pl' st (xS a b) Q) : pmWp ro d o m rt pc pl (.ref q :: st) (xS a b) Q := by
  obtain ⟨h1, rfl⟩ := hc
  refine pmWp_1 h1 (pl' := pl') (st' := st) ?_ hw
  simp only [pmStep, pmNx]
  rw [if_pos (Nat.lt_of_succ_le (Nat.le_of_ble_eq_true hn)), hl]
theorem x_astoren {n : Fin 4} {q : Nat} (hc : pmCode m pc = some (.astore_n n) ∧ pc + 1 = t) (hn : Nat.ble (n.val + 1) pl.length = true) (hl : pmS1 m pl n.val (.ref q) = pl') (hw : pmWp ro d o m rt t pl' st (xS a b) Q) : pmWp ro d o m rt pc pl (.ref q :: st) (xS a b) Q := by
  obtain ⟨h1, rfl⟩ := hc
  refine pmWp_1 h1 (pl' := pl') (st' := st) ?_ hw
  simp only [pmStep, pmNx]
  rw [if_pos (Nat.lt_of_succ_le (Nat.le_of_ble_eq_true hn)), hl]
theorem x_lstore {n : Nat} {l : Int64} (hc : pmCode m pc = some (.lstore n) ∧ pc + 2 = t) (hn : Nat.ble (n + 2) pl.length = true) (hg : pmLg m n = true) (hl : pmS2 m pl n (.long l) = pl') (hw : pmWp ro d o m rt t pl' st (xS a b) Q) : pmWp ro d o m rt pc pl (.long l :: st) (xS a b) Q := by
  obtain ⟨h1, rfl⟩ := hc
  refine pmWp_1 h1 (pl' := pl') (st' := st) ?_ hw
  simp only [pmStep, pmNx]
  rw [if_pos ⟨Nat.le_of_ble_eq_true hn, hg⟩, hl]
theorem x_lstoren {n : Fin 4} {l : Int64} (hc : pmCode m pc = some (.lstore_n n) ∧ pc + 1 = t) (hn : Nat.ble (n.val + 2) pl.length = true) (hg : pmLg m n.val = true) (hl : pmS2 m pl n.val (.long l) = pl') (hw : pmWp ro d o m rt t pl' st (xS a b) Q) : pmWp ro d o m rt pc pl (.long l :: st) (xS a b) Q := by
  obtain ⟨h1, rfl⟩ := hc
  refine pmWp_1 h1 (pl' := pl') (st' := st) ?_ hw
  simp only [pmStep, pmNx]
  rw [if_pos ⟨Nat.le_of_ble_eq_true hn, hg⟩, hl]
theorem x_iinc {n : Nat} {c : Int} (hc : pmCode m pc = some (.iinc n c) ∧ pc + 3 = t) (h0 : pl[n]? = some (some (xV z))) (hl : pmS1 m pl n (xV (z + c)) = pl') (hw : pmWp ro d o m rt t pl' st (xS a b) Q) : pmWp ro d o m rt pc pl st (xS a b) Q := by
  obtain ⟨h1, rfl⟩ := hc
  refine pmWp_1 h1 (pl' := pl') (st' := st) ?_ hw
  simp only [pmStep, h0, pmNx, xV]
  rw [← hl]
  simp only [xV, Int32.ofInt_add]
/-! sums and the like -/
theorem x_iadd (hc : pmCode m pc = some .iadd ∧ pc + 1 = t) (hw : pmWp ro d o m rt t pl (xV (z + y) :: st) (xS a b) Q) : pmWp ro d o m rt pc pl (xV y :: xV z :: st) (xS a b) Q := by
  obtain ⟨h1, rfl⟩ := hc
  refine pmWp_1 h1 (st' := xV (z + y) :: st) ?_ hw
  simp only [pmStep, pmNx, xV, Int32.ofInt_add]
theorem x_isub (hc : pmCode m pc = some .isub ∧ pc + 1 = t) (hw : pmWp ro d o m rt t pl (xV (z - y) :: st) (xS a b) Q) : pmWp ro d o m rt pc pl (xV y :: xV z :: st) (xS a b) Q := by
  obtain ⟨h1, rfl⟩ := hc
  refine pmWp_1 h1 (st' := xV (z - y) :: st) ?_ hw
  simp only [pmStep, pmNx, xV, Int32.ofInt_sub]
theorem x_imul (hc : pmCode m pc = some .imul ∧ pc + 1 = t) (hw : pmWp ro d o m rt t pl (xV (z * y) :: st) (xS a b) Q) : pmWp ro d o m rt pc pl (xV y :: xV z :: st) (xS a b) Q := by
  obtain ⟨h1, rfl⟩ := hc
  refine pmWp_1 h1 (st' := xV (z * y) :: st) ?_ hw
  simp only [pmStep, pmNx, xV, Int32.ofInt_mul]
/-- the bits of two, one by one -/
def xAnd (z y : Int) : Int := (Int32.ofInt z &&& Int32.ofInt y).toInt
def xOr (z y : Int) : Int := (Int32.ofInt z ||| Int32.ofInt y).toInt
def xXor (z y : Int) : Int := (Int32.ofInt z ^^^ Int32.ofInt y).toInt
theorem x_iand (hc : pmCode m pc = some .iand ∧ pc + 1 = t) (hw : pmWp ro d o m rt t pl (xV (xAnd z y) :: st) (xS a b) Q) : pmWp ro d o m rt pc pl (xV y :: xV z :: st) (xS a b) Q := by
  obtain ⟨h1, rfl⟩ := hc
  refine pmWp_1 h1 (st' := xV (xAnd z y) :: st) ?_ hw
  simp only [pmStep, pmNx, xV, xAnd, Int32.ofInt_toInt]
theorem x_ior (hc : pmCode m pc = some .ior ∧ pc + 1 = t) (hw : pmWp ro d o m rt t pl (xV (xOr z y) :: st) (xS a b) Q) : pmWp ro d o m rt pc pl (xV y :: xV z :: st) (xS a b) Q := by
  obtain ⟨h1, rfl⟩ := hc
  refine pmWp_1 h1 (st' := xV (xOr z y) :: st) ?_ hw
  simp only [pmStep, pmNx, xV, xOr, Int32.ofInt_toInt]
theorem x_ixor (hc : pmCode m pc = some .ixor ∧ pc + 1 = t) (hw : pmWp ro d o m rt t pl (xV (xXor z y) :: st) (xS a b) Q) : pmWp ro d o m rt pc pl (xV y :: xV z :: st) (xS a b) Q := by
  obtain ⟨h1, rfl⟩ := hc
  refine pmWp_1 h1 (st' := xV (xXor z y) :: st) ?_ hw
  simp only [pmStep, pmNx, xV, xXor, Int32.ofInt_toInt]
/-- a mask of the lowest n bits -/
theorem xAnd_m (n : Nat) (hn : n ≤ 31) (z : Int) : xAnd z (((2 ^ n : Nat) : Int) - 1) = z % ((2 ^ n : Nat) : Int) := by
  have hp : 0 < 2 ^ n := Nat.two_pow_pos n
  have hle : 2 ^ n ≤ 2 ^ 31 := Nat.pow_le_pow_right (by decide) hn
  have hd : (2 ^ n : Nat) ∣ 2 ^ 32 := Nat.pow_dvd_pow 2 (by omega)
  have e1 : (((2 ^ n : Nat) : Int) - 1) = ((2 ^ n - 1 : Nat) : Int) := by omega
  unfold xAnd
  rw [e1]
  show (BitVec.ofInt 32 z &&& BitVec.ofInt 32 ((2 ^ n - 1 : Nat) : Int)).toInt = _
  have e2 : (BitVec.ofInt 32 z &&& BitVec.ofInt 32 ((2 ^ n - 1 : Nat) : Int)).toNat = (z % ((2 ^ n : Nat) : Int)).toNat := by
    rw [BitVec.toNat_and, BitVec.toNat_ofInt, BitVec.toNat_ofInt]
    have e3 : (((2 ^ n - 1 : Nat) : Int) % ((2 ^ 32 : Nat) : Int)).toNat = 2 ^ n - 1 := by
      rw [Int.emod_eq_of_lt (by omega) (by have : (2 : Nat) ^ 31 < 2 ^ 32 := by decide
                                           omega)]
      omega
    rw [e3, Nat.and_two_pow_sub_one_eq_mod]
    have h0 : 0 ≤ z % ((2 ^ 32 : Nat) : Int) := Int.emod_nonneg _ (by decide)
    have e4 : (((z % ((2 ^ 32 : Nat) : Int)).toNat % 2 ^ n : Nat) : Int) = z % ((2 ^ n : Nat) : Int) := by
      rw [Int.natCast_emod, Int.toNat_of_nonneg h0]
      exact Int.emod_emod_of_dvd z (by exact_mod_cast hd)
    omega
  have h1 : 0 ≤ z % ((2 ^ n : Nat) : Int) := Int.emod_nonneg _ (by omega)
  have h2 : z % ((2 ^ n : Nat) : Int) < ((2 ^ n : Nat) : Int) := Int.emod_lt_of_pos _ (by omega)
  rw [BitVec.toInt_eq_toNat_cond, e2, if_pos (by have : (2 : Nat) ^ 31 * 2 = 2 ^ 32 := by decide
                                                 omega)]
  omega
theorem x_iandm {M : Int} (n : Nat) (hn : n ≤ 31) (hM : ((2 ^ n : Nat) : Int) = M) (hy : y = M - 1) (hc : pmCode m pc = some .iand ∧ pc + 1 = t) (hw : pmWp ro d o m rt t pl (xV (z % M) :: st) (xS a b) Q) : pmWp ro d o m rt pc pl (xV y :: xV z :: st) (xS a b) Q := by
  subst hM
  subst hy
  refine x_iand hc ?_
  rw [xAnd_m n hn]
  exact hw
theorem x_ishr {M : Int} (h0 : 0 ≤ y) (h1 : y < 32) (hM : ((2 ^ y.toNat : Nat) : Int) = M) (hz : xR z) (hc : pmCode m pc = some .ishr ∧ pc + 1 = t) (hw : pmWp ro d o m rt t pl (xV (z / M) :: st) (xS a b) Q) : pmWp ro d o m rt pc pl (xV y :: xV z :: st) (xS a b) Q := by
  subst hM
  obtain ⟨h2, rfl⟩ := hc
  refine pmWp_1 h2 (st' := xV (z / ((2 ^ y.toNat : Nat) : Int)) :: st) ?_ hw
  have hy : (Int32.ofInt y).toInt = y := xI ⟨by omega, by omega⟩
  have e : Int32.ofInt z >>> (Int32.ofInt y &&& 31) = Int32.ofInt (z / ((2 ^ y.toNat : Nat) : Int)) := by
    rw [← Int32.ofInt_toInt (Int32.ofInt z >>> (Int32.ofInt y &&& 31)), bShr32 _ _ (by omega) (by omega), hy, xI hz]
  simp only [pmStep, pmNx, xV, e]
theorem xShl (z y : Int) (h0 : 0 ≤ y) (h1 : y < 32) : Int32.ofInt z <<< (Int32.ofInt y &&& 31) = Int32.ofInt (z * ((2 ^ y.toNat : Nat) : Int)) := by
  have hy : (Int32.ofInt y).toInt = y := xI ⟨by omega, by omega⟩
  have hs := bSm32 (Int32.ofInt y) (by omega) (by omega)
  rw [hy] at hs
  apply Int32.toBitVec.inj
  show BitVec.shiftLeft (BitVec.ofInt 32 z) ((Int32.ofInt y &&& 31).toBitVec.smod 32).toNat = BitVec.ofInt 32 (z * ((2 ^ y.toNat : Nat) : Int))
  rw [hs]
  apply BitVec.eq_of_toNat_eq
  show (BitVec.ofInt 32 z <<< y.toNat).toNat = _
  rw [BitVec.toNat_shiftLeft, BitVec.toNat_ofInt, BitVec.toNat_ofInt, Nat.shiftLeft_eq]
  have h2 : 0 ≤ z % ((2 ^ 32 : Nat) : Int) := Int.emod_nonneg _ (by decide)
  have h3 : 0 ≤ z * ((2 ^ y.toNat : Nat) : Int) % ((2 ^ 32 : Nat) : Int) := Int.emod_nonneg _ (by decide)
  have e : ((((z % ((2 ^ 32 : Nat) : Int)).toNat * 2 ^ y.toNat % 2 ^ 32 : Nat)) : Int) = z * ((2 ^ y.toNat : Nat) : Int) % ((2 ^ 32 : Nat) : Int) := by
    rw [Int.natCast_emod, Int.natCast_mul, Int.toNat_of_nonneg h2, Int.mul_emod, Int.emod_emod_of_dvd _ (Int.dvd_refl _), ← Int.mul_emod]
  omega
theorem x_ishl {M : Int} (h0 : 0 ≤ y) (h1 : y < 32) (hM : ((2 ^ y.toNat : Nat) : Int) = M) (hc : pmCode m pc = some .ishl ∧ pc + 1 = t) (hw : pmWp ro d o m rt t pl (xV (z * M) :: st) (xS a b) Q) : pmWp ro d o m rt pc pl (xV y :: xV z :: st) (xS a b) Q := by
  subst hM
  obtain ⟨h2, rfl⟩ := hc
  refine pmWp_1 h2 (st' := xV (z * ((2 ^ y.toNat : Nat) : Int)) :: st) ?_ hw
  simp only [pmStep, pmNx, xV, xShl z y h0 h1]
theorem xTd (h0 : 0 ≤ z) (hz : xR z) (h1 : 0 < y) (hy : xR y) : Int32.ofInt z / Int32.ofInt y = Int32.ofInt (z / y) := by
  apply Int32.toInt.inj
  have hq : xR (z / y) := ⟨by have := Int.ediv_nonneg h0 (Int.le_of_lt h1); omega, by have := Int.ediv_le_self y h0; have := hz.2; omega⟩
  rw [Int32.toInt_div, xI hz, xI hy, xI hq, Int.tdiv_eq_ediv_of_nonneg h0]
  exact aBm32 hq.1 hq.2
theorem xNz (h1 : 0 < y) (hy : xR y) : ¬ Int32.ofInt y = 0 := by
  intro h
  have := congrArg Int32.toInt h
  rw [xI hy, show (0 : Int32).toInt = 0 from rfl] at this
  omega
theorem x_idiv (h0 : 0 ≤ z) (hz : xR z) (h1 : 0 < y) (hy : xR y) (hc : pmCode m pc = some .idiv ∧ pc + 1 = t) (hw : pmWp ro d o m rt t pl (xV (z / y) :: st) (xS a b) Q) : pmWp ro d o m rt pc pl (xV y :: xV z :: st) (xS a b) Q := by
  obtain ⟨h2, rfl⟩ := hc
  refine pmWp_1 h2 (st' := xV (z / y) :: st) ?_ hw
  simp only [pmStep, xV]
  rw [if_neg (xNz h1 hy), xTd h0 hz h1 hy]
  rfl
theorem x_irem (h0 : 0 ≤ z) (hz : xR z) (h1 : 0 < y) (hy : xR y) (hc : pmCode m pc = some .irem ∧ pc + 1 = t) (hw : pmWp ro d o m rt t pl (xV (z % y) :: st) (xS a b) Q) : pmWp ro d o m rt pc pl (xV y :: xV z :: st) (xS a b) Q := by
  obtain ⟨h2, rfl⟩ := hc
  refine pmWp_1 h2 (st' := xV (z % y) :: st) ?_ hw
  simp only [pmStep, xV]
  rw [if_neg (xNz h1 hy), xTd h0 hz h1 hy, ← Int32.ofInt_mul, ← Int32.ofInt_sub]
  have e : z - z / y * y = z % y := by
    have := Int.emod_add_mul_ediv z y
    rw [Int.mul_comm] at this
    omega
  rw [e]
  rfl
/-! the stack -/
theorem x_dup {v : Value} (hc : pmCode m pc = some .dup ∧ pc + 1 = t) (hv : v.category = 1) (hw : pmWp ro d o m rt t pl (v :: v :: st) (xS a b) Q) : pmWp ro d o m rt pc pl (v :: st) (xS a b) Q := by
  obtain ⟨h1, rfl⟩ := hc
  refine pmWp_1 h1 (st' := v :: v :: st) ?_ hw
  simp only [pmStep, pmNx]
  rw [if_pos hv]
theorem x_dup2 {v w : Value} (hc : pmCode m pc = some .dup2 ∧ pc + 1 = t) (hv : v.category = 1 ∧ w.category = 1) (hw : pmWp ro d o m rt t pl (v :: w :: v :: w :: st) (xS a b) Q) : pmWp ro d o m rt pc pl (v :: w :: st) (xS a b) Q := by
  obtain ⟨h1, rfl⟩ := hc
  refine pmWp_1 h1 (st' := v :: w :: v :: w :: st) ?_ hw
  simp only [pmStep, pmNx]
  rw [if_pos hv]
theorem x_pop {v : Value} (hc : pmCode m pc = some .pop ∧ pc + 1 = t) (hv : v.category = 1) (hw : pmWp ro d o m rt t pl st (xS a b) Q) : pmWp ro d o m rt pc pl (v :: st) (xS a b) Q := by
  obtain ⟨h1, rfl⟩ := hc
  refine pmWp_1 h1 (st' := st) ?_ hw
  simp only [pmStep, pmNx]
  rw [if_pos hv]
/-! branches -/
theorem x_goto {off : Int} (hc : pmCode m pc = some (.goto off) ∧ (pc : Int) + off = (t : Int)) (hw : pmWp ro d o m rt t pl st (xS a b) Q) : pmWp ro d o m rt pc pl st (xS a b) Q := by
  obtain ⟨h1, h2⟩ := hc
  refine pmWp_1 h1 (pc' := t) (pl' := pl) (st' := st) ?_ hw
  simp only [pmStep, pmJp]
  rw [h2]
  rfl
theorem xBr {off : Int} {C : Prop} [Decidable C] (h : (pc : Int) + off = (t : Int)) : pmBr pc off C pl st (xS a b) = if C then pmNx t pl st (xS a b) else pmNx (pc + 3) pl st (xS a b) := by
  unfold pmBr
  rw [h]
theorem xBrT {C D : Prop} [Decidable C] {off : Int} {st0 : List Value} (h1 : pmCode m pc = some i) (hs : pmStep ro (fun _ _ _ => none) o m rt pc i pl st0 (xS a b) = pmBr pc off C pl st (xS a b)) (hj : (pc : Int) + off = (t : Int)) (hf : pc + 3 = f) (hD : C ↔ D) (hT : D → pmWp ro d o m rt t pl st (xS a b) Q) (hF : ¬ D → pmWp ro d o m rt f pl st (xS a b) Q) : pmWp ro d o m rt pc pl st0 (xS a b) Q := by
  subst hf
  rw [xBr hj] at hs
  by_cases c : C
  · rw [if_pos c] at hs
    exact pmWp_1 h1 hs (hT (hD.mp c))
  · rw [if_neg c] at hs
    exact pmWp_1 h1 hs (hF fun q => c (hD.mpr q))
theorem x_ifeq {off : Int} (hc : pmCode m pc = some (.ifCond .eq off) ∧ (pc : Int) + off = (t : Int) ∧ pc + 3 = f) (hz : xR z) (hT : z = 0 → pmWp ro d o m rt t pl st (xS a b) Q) (hF : ¬ z = 0 → pmWp ro d o m rt f pl st (xS a b) Q) : pmWp ro d o m rt pc pl (xV z :: st) (xS a b) Q := xBrT hc.1 rfl hc.2.1 hc.2.2 (xEq hz xR0) hT hF
theorem x_ifne {off : Int} (hc : pmCode m pc = some (.ifCond .ne off) ∧ (pc : Int) + off = (t : Int) ∧ pc + 3 = f) (hz : xR z) (hT : ¬ z = 0 → pmWp ro d o m rt t pl st (xS a b) Q) (hF : ¬ ¬ z = 0 → pmWp ro d o m rt f pl st (xS a b) Q) : pmWp ro d o m rt pc pl (xV z :: st) (xS a b) Q := xBrT hc.1 rfl hc.2.1 hc.2.2 (not_congr (xEq hz xR0)) hT hF
theorem x_iflt {off : Int} (hc : pmCode m pc = some (.ifCond .lt off) ∧ (pc : Int) + off = (t : Int) ∧ pc + 3 = f) (hz : xR z) (hT : z < 0 → pmWp ro d o m rt t pl st (xS a b) Q) (hF : ¬ z < 0 → pmWp ro d o m rt f pl st (xS a b) Q) : pmWp ro d o m rt pc pl (xV z :: st) (xS a b) Q := xBrT hc.1 rfl hc.2.1 hc.2.2 (xLt hz xR0) hT hF
theorem x_ifge {off : Int} (hc : pmCode m pc = some (.ifCond .ge off) ∧ (pc : Int) + off = (t : Int) ∧ pc + 3 = f) (hz : xR z) (hT : 0 ≤ z → pmWp ro d o m rt t pl st (xS a b) Q) (hF : ¬ 0 ≤ z → pmWp ro d o m rt f pl st (xS a b) Q) : pmWp ro d o m rt pc pl (xV z :: st) (xS a b) Q := xBrT hc.1 rfl hc.2.1 hc.2.2 (xLe xR0 hz) hT hF
theorem x_ifgt {off : Int} (hc : pmCode m pc = some (.ifCond .gt off) ∧ (pc : Int) + off = (t : Int) ∧ pc + 3 = f) (hz : xR z) (hT : 0 < z → pmWp ro d o m rt t pl st (xS a b) Q) (hF : ¬ 0 < z → pmWp ro d o m rt f pl st (xS a b) Q) : pmWp ro d o m rt pc pl (xV z :: st) (xS a b) Q := xBrT hc.1 rfl hc.2.1 hc.2.2 (xLt xR0 hz) hT hF
theorem x_ifle {off : Int} (hc : pmCode m pc = some (.ifCond .le off) ∧ (pc : Int) + off = (t : Int) ∧ pc + 3 = f) (hz : xR z) (hT : z ≤ 0 → pmWp ro d o m rt t pl st (xS a b) Q) (hF : ¬ z ≤ 0 → pmWp ro d o m rt f pl st (xS a b) Q) : pmWp ro d o m rt pc pl (xV z :: st) (xS a b) Q := xBrT hc.1 rfl hc.2.1 hc.2.2 (xLe hz xR0) hT hF
theorem x_iceq {off : Int} (hc : pmCode m pc = some (.if_icmp .eq off) ∧ (pc : Int) + off = (t : Int) ∧ pc + 3 = f) (hz : xR z) (hy : xR y) (hT : z = y → pmWp ro d o m rt t pl st (xS a b) Q) (hF : ¬ z = y → pmWp ro d o m rt f pl st (xS a b) Q) : pmWp ro d o m rt pc pl (xV y :: xV z :: st) (xS a b) Q := xBrT hc.1 rfl hc.2.1 hc.2.2 (xEq hz hy) hT hF
theorem x_icne {off : Int} (hc : pmCode m pc = some (.if_icmp .ne off) ∧ (pc : Int) + off = (t : Int) ∧ pc + 3 = f) (hz : xR z) (hy : xR y) (hT : ¬ z = y → pmWp ro d o m rt t pl st (xS a b) Q) (hF : ¬ ¬ z = y → pmWp ro d o m rt f pl st (xS a b) Q) : pmWp ro d o m rt pc pl (xV y :: xV z :: st) (xS a b) Q := xBrT hc.1 rfl hc.2.1 hc.2.2 (not_congr (xEq hz hy)) hT hF
theorem x_iclt {off : Int} (hc : pmCode m pc = some (.if_icmp .lt off) ∧ (pc : Int) + off = (t : Int) ∧ pc + 3 = f) (hz : xR z) (hy : xR y) (hT : z < y → pmWp ro d o m rt t pl st (xS a b) Q) (hF : ¬ z < y → pmWp ro d o m rt f pl st (xS a b) Q) : pmWp ro d o m rt pc pl (xV y :: xV z :: st) (xS a b) Q := xBrT hc.1 rfl hc.2.1 hc.2.2 (xLt hz hy) hT hF
theorem x_icge {off : Int} (hc : pmCode m pc = some (.if_icmp .ge off) ∧ (pc : Int) + off = (t : Int) ∧ pc + 3 = f) (hz : xR z) (hy : xR y) (hT : y ≤ z → pmWp ro d o m rt t pl st (xS a b) Q) (hF : ¬ y ≤ z → pmWp ro d o m rt f pl st (xS a b) Q) : pmWp ro d o m rt pc pl (xV y :: xV z :: st) (xS a b) Q := xBrT hc.1 rfl hc.2.1 hc.2.2 (xLe hy hz) hT hF
theorem x_icgt {off : Int} (hc : pmCode m pc = some (.if_icmp .gt off) ∧ (pc : Int) + off = (t : Int) ∧ pc + 3 = f) (hz : xR z) (hy : xR y) (hT : y < z → pmWp ro d o m rt t pl st (xS a b) Q) (hF : ¬ y < z → pmWp ro d o m rt f pl st (xS a b) Q) : pmWp ro d o m rt pc pl (xV y :: xV z :: st) (xS a b) Q := xBrT hc.1 rfl hc.2.1 hc.2.2 (xLt hy hz) hT hF
theorem x_icle {off : Int} (hc : pmCode m pc = some (.if_icmp .le off) ∧ (pc : Int) + off = (t : Int) ∧ pc + 3 = f) (hz : xR z) (hy : xR y) (hT : z ≤ y → pmWp ro d o m rt t pl st (xS a b) Q) (hF : ¬ z ≤ y → pmWp ro d o m rt f pl st (xS a b) Q) : pmWp ro d o m rt pc pl (xV y :: xV z :: st) (xS a b) Q := xBrT hc.1 rfl hc.2.1 hc.2.2 (xLe hz hy) hT hF
/-- a switch, at a told number -/
theorem x_sw {c : Int} (e : z = c) (hc : pmCode m pc = some i) (hs : pmStep ro (fun _ _ _ => none) o m rt pc i pl (xV c :: st) (xS a b) = some (.inr (t, pl, st, xS a b))) (hw : pmWp ro d o m rt t pl st (xS a b) Q) : pmWp ro d o m rt pc pl (xV z :: st) (xS a b) Q := by
  subst e
  exact pmWp_1 hc hs hw
theorem x_tsd {dd lo hi : Int} {offs : Array Int} (hc : pmCode m pc = some (.tableswitch dd lo hi offs) ∧ (pc : Int) + dd = (t : Int)) (hz : xR z) (hd : z < lo ∨ hi < z) (hw : pmWp ro d o m rt t pl st (xS a b) Q) : pmWp ro d o m rt pc pl (xV z :: st) (xS a b) Q := by
  refine pmWp_1 hc.1 (pc' := t) (pl' := pl) (st' := st) ?_ hw
  simp only [pmStep, xV]
  rw [xI hz, if_pos hd]
  unfold pmJp
  rw [hc.2]
  rfl
/-! ends -/
theorem x_iret (hc : pmCode m pc = some .ireturn) (hr : rt = 1 ∨ (rt = 2 ∧ (z = 0 ∨ z = 1))) (hQ : Q (some (xV z)) (xS a b)) : pmWp ro d o m rt pc pl [xV z] (xS a b) Q := by
  refine (pmWp_ret hc (r := some (xV z)) ?_).mpr hQ
  simp only [pmStep, xV]
  rw [if_pos]
  rcases hr with h | ⟨h1, h | h⟩
  · exact Or.inl h
  · subst h
    exact Or.inr ⟨h1, Or.inl rfl⟩
  · subst h
    exact Or.inr ⟨h1, Or.inr rfl⟩
theorem x_lret {l : Int64} (hc : pmCode m pc = some .lreturn) (hr : rt = 3) (hQ : Q (some (.long l)) (xS a b)) : pmWp ro d o m rt pc pl [.long l] (xS a b) Q := by
  refine (pmWp_ret hc (r := some (.long l)) ?_).mpr hQ
  simp only [pmStep]
  rw [if_pos hr]
theorem x_ret (hc : pmCode m pc = some .return_) (hr : rt = 0) (hQ : Q none (xS a b)) : pmWp ro d o m rt pc pl [] (xS a b) Q := by
  refine (pmWp_ret hc (r := none) ?_).mpr hQ
  simp only [pmStep]
  rw [if_pos (Or.inl hr)]
end
