/-! slots of four bits in a long, sets of seven, numbers of nine: told in Int -/
section
variable {l m : Int64} {i j k c z : Int}
theorem uL2_mod (n : Nat) (hn : n ≤ 32) (l : Int64) : xL2 l % ((2 ^ n : Nat) : Int) = ((l.toBitVec.toNat % 2 ^ n : Nat) : Int) := by
  have hd : ((2 ^ n : Nat) : Int) ∣ ((2 ^ 32 : Nat) : Int) := by exact_mod_cast Nat.pow_dvd_pow 2 hn
  have e1 : xL2 l = (l.toBitVec.setWidth 32).toInt := by
    unfold xL2
    show l.toInt32.toBitVec.toInt = _
    rw [Int64.toBitVec_toInt32, BitVec.signExtend_eq_setWidth_of_le _ (by decide)]
  rw [e1, BitVec.toInt_eq_toNat_bmod, ← Int.emod_emod_of_dvd _ hd, Int.bmod_emod, Int.emod_emod_of_dvd _ hd, BitVec.toNat_setWidth, Int.natCast_emod, Int.natCast_emod, Int.emod_emod_of_dvd _ hd]
/-- a slot -/
def uSl (l : Int64) (j : Int) : Int := xL2 (xShr l (4 * j)) % 16
def uV4 (l : Int64) (j : Int) : BitVec 4 := l.toBitVec.extractLsb' (4 * j.toNat) 4
theorem uSl_V (h0 : 0 ≤ j) (h1 : j < 16) : uSl l j = ((uV4 l j).toNat : Int) := by
  unfold uSl uV4
  have e := uL2_mod 4 (by decide) (xShr l (4 * j))
  rw [show ((2 ^ 4 : Nat) : Int) = 16 from rfl] at e
  rw [e, xShrB (by omega) (by omega), BitVec.extractLsb'_toNat, BitVec.toNat_ushiftRight, show (4 * j).toNat = 4 * j.toNat by omega]
theorem uSl_b (h0 : 0 ≤ j) (h1 : j < 16) : 0 ≤ uSl l j ∧ uSl l j ≤ 15 := by
  unfold uSl
  omega
theorem uSl_at (h : k = 4 * j) : xL2 (xShr l k) % 16 = uSl l j := by rw [h]; rfl
theorem uV4_bit {t : Nat} (ht : t < 4) : (uV4 l j).getLsbD t = l.toBitVec.getLsbD (4 * j.toNat + t) := by
  unfold uV4
  rw [BitVec.getLsbD_extractLsb']
  simp [ht]
theorem uSl_eq (h0 : 0 ≤ j) (h1 : j < 16) (h : ∀ t : Nat, t < 4 → l.toBitVec.getLsbD (4 * j.toNat + t) = m.toBitVec.getLsbD (4 * j.toNat + t)) : uSl l j = uSl m j := by
  rw [uSl_V h0 h1, uSl_V h0 h1]
  congr 2
  apply BitVec.eq_of_getLsbD_eq
  intro t ht
  rw [uV4_bit ht, uV4_bit ht]
  exact h t ht
theorem uSl_ext (h : ∀ j : Int, 0 ≤ j → j < 16 → uSl l j = uSl m j) : l = m := by
  apply Int64.toBitVec.inj
  apply BitVec.eq_of_getLsbD_eq
  intro n hn
  have e := h ((n / 4 : Nat) : Int) (by omega) (by omega)
  rw [uSl_V (by omega) (by omega), uSl_V (by omega) (by omega)] at e
  have e2 : uV4 l ((n / 4 : Nat) : Int) = uV4 m ((n / 4 : Nat) : Int) := BitVec.eq_of_toNat_eq (by omega)
  have e3 := congrArg (fun v : BitVec 4 => v.getLsbD (n % 4)) e2
  rw [uV4_bit (Nat.mod_lt _ (by decide)), uV4_bit (Nat.mod_lt _ (by decide))] at e3
  rw [show 4 * ((n / 4 : Nat) : Int).toNat + n % 4 = n by omega] at e3
  exact e3
theorem uB15 (t : Nat) : (15 : Int64).toBitVec.getLsbD t = decide (t < 4) := by
  by_cases h : t < 64
  · have key : ∀ t : Fin 64, (15 : Int64).toBitVec.getLsbD t.val = decide (t.val < 4) := by decide
    exact key ⟨t, h⟩
  · rw [BitVec.getLsbD_of_ge _ _ (by omega)]
    simp
    omega
theorem uBm1 {t : Nat} (h : t < 64) : (-1 : Int64).toBitVec.getLsbD t = true := by
  have key : ∀ t : Fin 64, (-1 : Int64).toBitVec.getLsbD t.val = true := by decide
  exact key ⟨t, h⟩
theorem uBc (h0 : 0 ≤ c) (t : Nat) : (Int64.ofInt c).toBitVec.getLsbD t = (decide (t < 64) && c.toNat.testBit t) := by
  show (BitVec.ofInt 64 c).getLsbD t = _
  rw [show c = ((c.toNat : Nat) : Int) by omega, BitVec.ofInt_natCast, BitVec.getLsbD_ofNat]
  rfl
theorem uShL_bit (h0 : 0 ≤ k) (h1 : k < 64) {t : Nat} (ht : t < 64) : (xShL l k).toBitVec.getLsbD t = (decide (k.toNat ≤ t) && l.toBitVec.getLsbD (t - k.toNat)) := by
  rw [xShLB h0 h1, BitVec.getLsbD_shiftLeft]
  by_cases c : t < k.toNat
  · simp [c]
    omega
  · simp [c, ht]
    omega
/-- what a slot is put to -/
theorem uWith (i0 : 0 ≤ i) (i1 : i < 16) (c0 : 0 ≤ c) (c1 : c < 16) (j0 : 0 ≤ j) (j1 : j < 16) (hk : k = 4 * i) : uSl ((l &&& (xShL 15 k ^^^ (-1))) ||| xShL (Int64.ofInt c) k) j = if j = i then c else uSl l j := by
  have hb : ∀ t : Nat, t < 4 → ((l &&& (xShL 15 k ^^^ (-1))) ||| xShL (Int64.ofInt c) k).toBitVec.getLsbD (4 * j.toNat + t) = if j = i then c.toNat.testBit t else l.toBitVec.getLsbD (4 * j.toNat + t) := by
    intro t ht
    have hn : 4 * j.toNat + t < 64 := by omega
    rw [Int64.toBitVec_or, Int64.toBitVec_and, Int64.toBitVec_xor, BitVec.getLsbD_or, BitVec.getLsbD_and, BitVec.getLsbD_xor, uShL_bit (by omega) (by omega) hn, uShL_bit (by omega) (by omega) hn, uB15, uBm1 hn, uBc c0]
    by_cases e : j = i
    · rw [if_pos e]
      subst e
      rw [show 4 * j.toNat + t - k.toNat = t by omega]
      have d1 : decide (k.toNat ≤ 4 * j.toNat + t) = true := decide_eq_true (by omega)
      have d2 : decide (t < 4) = true := decide_eq_true ht
      have d3 : decide (t < 64) = true := decide_eq_true (by omega)
      rw [d1, d2, d3]
      simp
    · rw [if_neg e]
      by_cases g : k.toNat ≤ 4 * j.toNat + t
      · have d1 : decide (k.toNat ≤ 4 * j.toNat + t) = true := decide_eq_true g
        have d2 : decide (4 * j.toNat + t - k.toNat < 4) = false := decide_eq_false (by omega)
        have d3 : c.toNat.testBit (4 * j.toNat + t - k.toNat) = false := by
          refine Nat.testBit_lt_two_pow (Nat.lt_of_lt_of_le (show c.toNat < 2 ^ 4 by omega) (Nat.pow_le_pow_right (by decide) (by omega)))
        rw [d1, d2, d3]
        simp
      · have d1 : decide (k.toNat ≤ 4 * j.toNat + t) = false := decide_eq_false g
        rw [d1]
        simp
  by_cases e : j = i
  · rw [if_pos e, uSl_V j0 j1]
    have e2 : uV4 ((l &&& (xShL 15 k ^^^ (-1))) ||| xShL (Int64.ofInt c) k) j = BitVec.ofNat 4 c.toNat := by
      apply BitVec.eq_of_getLsbD_eq
      intro t ht
      rw [uV4_bit ht, hb t ht, if_pos e, BitVec.getLsbD_ofNat]
      simp [ht]
    rw [e2, BitVec.toNat_ofNat, Nat.mod_eq_of_lt (by omega)]
    omega
  · rw [if_neg e]
    refine uSl_eq j0 j1 fun t ht => ?_
    rw [hb t ht, if_neg e]
/-- a bit put into a slot that is none of ours -/
theorem uOr9 (h0 : 0 ≤ c) (hk : 36 ≤ k) (hk2 : k < 64) (j0 : 0 ≤ j) (j1 : j < 9) : uSl (l ||| xShL (Int64.ofInt c) k) j = uSl l j := by
  refine uSl_eq j0 (by omega) fun t ht => ?_
  rw [Int64.toBitVec_or, BitVec.getLsbD_or, uShL_bit (by omega) (by omega) (by omega)]
  have d1 : decide (k.toNat ≤ 4 * j.toNat + t) = false := decide_eq_false (by omega)
  rw [d1]
  simp
/-! sets: seven bits each -/
def uSt (l : Int64) (x : Int) : Int := xL2 (xShr l (7 * x)) % 128
def uV7 (l : Int64) (x : Int) : BitVec 7 := l.toBitVec.extractLsb' (7 * x.toNat) 7
theorem uSt_V {x : Int} (h0 : 0 ≤ x) (h1 : x < 9) : uSt l x = ((uV7 l x).toNat : Int) := by
  unfold uSt uV7
  have e := uL2_mod 7 (by decide) (xShr l (7 * x))
  rw [show ((2 ^ 7 : Nat) : Int) = 128 from rfl] at e
  rw [e, xShrB (by omega) (by omega), BitVec.extractLsb'_toNat, BitVec.toNat_ushiftRight, show (7 * x).toNat = 7 * x.toNat by omega]
theorem uSt_b {x : Int} : 0 ≤ uSt l x ∧ uSt l x ≤ 127 := by
  unfold uSt
  omega
theorem uV7_bit {x : Int} {t : Nat} (ht : t < 7) : (uV7 l x).getLsbD t = l.toBitVec.getLsbD (7 * x.toNat + t) := by
  unfold uV7
  rw [BitVec.getLsbD_extractLsb']
  simp [ht]
/-- a set without a room -/
def uCl (v r : Int) : Int := if v / ((2 ^ r.toNat : Nat) : Int) % 2 = 0 then v else v - ((2 ^ r.toNat : Nat) : Int)
theorem uCl_V (v : BitVec 7) (r : Nat) (hr : r < 7) : ((v &&& ~~~(1#7 <<< r)).toNat : Int) = uCl (v.toNat : Int) (r : Int) := by
  have key : ∀ v : BitVec 7, ∀ r : Fin 7, ((v &&& ~~~(1#7 <<< r.val)).toNat : Int) = uCl (v.toNat : Int) (r.val : Int) := by decide +kernel
  exact key v ⟨r, hr⟩
theorem uB1 (t : Nat) : (1 : Int64).toBitVec.getLsbD t = decide (t = 0) := by
  show (1#64).getLsbD t = _
  rw [BitVec.getLsbD_one]
  simp
theorem uSt_clr {x y r : Int} (x0 : 0 ≤ x) (x1 : x < 9) (y0 : 0 ≤ y) (y1 : y < 9) (r0 : 0 ≤ r) (r1 : r < 7) (hk : k = 7 * x + r) : uSt (l &&& (xShL 1 k ^^^ (-1))) y = if y = x then uCl (uSt l x) r else uSt l y := by
  have hb : ∀ t : Nat, t < 7 → (l &&& (xShL 1 k ^^^ (-1))).toBitVec.getLsbD (7 * y.toNat + t) = (l.toBitVec.getLsbD (7 * y.toNat + t) && !decide (7 * y.toNat + t = k.toNat)) := by
    intro t ht
    have hn : 7 * y.toNat + t < 64 := by omega
    rw [Int64.toBitVec_and, Int64.toBitVec_xor, BitVec.getLsbD_and, BitVec.getLsbD_xor, uShL_bit (by omega) (by omega) hn, uB1, uBm1 hn]
    congr 1
    by_cases e : 7 * y.toNat + t = k.toNat
    · rw [e]
      simp
    · have d3 : (decide (k.toNat ≤ 7 * y.toNat + t) && decide (7 * y.toNat + t - k.toNat = 0)) = false := by
        by_cases g : k.toNat ≤ 7 * y.toNat + t
        · have : decide (7 * y.toNat + t - k.toNat = 0) = false := decide_eq_false (by omega)
          rw [this]
          simp
        · rw [decide_eq_false g]
          simp
      rw [d3, decide_eq_false e]
      rfl
  by_cases e : y = x
  · rw [if_pos e, uSt_V y0 y1, uSt_V x0 x1]
    have e2 : uV7 (l &&& (xShL 1 k ^^^ (-1))) y = uV7 l x &&& ~~~(1#7 <<< r.toNat) := by
      apply BitVec.eq_of_getLsbD_eq
      intro t ht
      rw [uV7_bit ht, hb t ht, BitVec.getLsbD_and, uV7_bit ht, BitVec.getLsbD_not, BitVec.getLsbD_shiftLeft, BitVec.getLsbD_one, e]
      congr 1
      by_cases g : t = r.toNat
      · have : 7 * x.toNat + t = k.toNat := by omega
        rw [decide_eq_true this]
        subst g
        simp
      · have : ¬ 7 * x.toNat + t = k.toNat := by omega
        rw [decide_eq_false this]
        simp [ht]
        omega
    rw [e2]
    have := uCl_V (uV7 l x) r.toNat (by omega)
    rw [show ((r.toNat : Nat) : Int) = r by omega] at this
    exact this
  · rw [if_neg e, uSt_V y0 y1, uSt_V y0 y1]
    congr 2
    apply BitVec.eq_of_getLsbD_eq
    intro t ht
    rw [uV7_bit ht, hb t ht, uV7_bit ht]
    have : ¬ 7 * y.toNat + t = k.toNat := by omega
    rw [decide_eq_false this]
    simp
theorem uSt_put {x y v : Int} (x0 : 0 ≤ x) (x1 : x < 9) (y0 : 0 ≤ y) (y1 : y < 9) (v0 : 0 ≤ v) (v1 : v < 128) (hz : uSt l x = 0) (hk : k = 7 * x) : uSt (l ||| xShL (Int64.ofInt v) k) y = if y = x then v else uSt l y := by
  have hb : ∀ t : Nat, t < 7 → (l ||| xShL (Int64.ofInt v) k).toBitVec.getLsbD (7 * y.toNat + t) = (l.toBitVec.getLsbD (7 * y.toNat + t) || (decide (y = x) && v.toNat.testBit t)) := by
    intro t ht
    have hn : 7 * y.toNat + t < 64 := by omega
    rw [Int64.toBitVec_or, BitVec.getLsbD_or, uShL_bit (by omega) (by omega) hn, uBc v0]
    congr 1
    by_cases e : y = x
    · rw [e, show 7 * x.toNat + t - k.toNat = t by omega, decide_eq_true (show k.toNat ≤ 7 * x.toNat + t by omega), decide_eq_true (show t < 64 by omega)]
      simp
    · rw [decide_eq_false e]
      by_cases g : k.toNat ≤ 7 * y.toNat + t
      · have d3 : v.toNat.testBit (7 * y.toNat + t - k.toNat) = false := by
          refine Nat.testBit_lt_two_pow (Nat.lt_of_lt_of_le (show v.toNat < 2 ^ 7 by omega) (Nat.pow_le_pow_right (by decide) (by omega)))
        rw [d3]
        simp
      · rw [decide_eq_false g]
        simp
  by_cases e : y = x
  · rw [if_pos e, uSt_V y0 y1]
    have hz2 : uV7 l x = 0#7 := by
      apply BitVec.eq_of_toNat_eq
      rw [uSt_V x0 x1] at hz
      have : (0#7).toNat = 0 := rfl
      omega
    have e2 : uV7 (l ||| xShL (Int64.ofInt v) k) y = BitVec.ofNat 7 v.toNat := by
      apply BitVec.eq_of_getLsbD_eq
      intro t ht
      have h3 := congrArg (fun q : BitVec 7 => q.getLsbD t) hz2
      simp only [uV7_bit ht, BitVec.getLsbD_zero] at h3
      rw [uV7_bit ht, hb t ht, BitVec.getLsbD_ofNat, e, h3]
      simp [ht]
    rw [e2, BitVec.toNat_ofNat, Nat.mod_eq_of_lt (by omega)]
    omega
  · rw [if_neg e, uSt_V y0 y1, uSt_V y0 y1]
    congr 2
    apply BitVec.eq_of_getLsbD_eq
    intro t ht
    rw [uV7_bit ht, hb t ht, uV7_bit ht, decide_eq_false e]
    simp
/-- how many rooms a set has -/
def uBs (v : Int) : Int := v % 2 + v / 2 % 2 + v / 4 % 2 + v / 8 % 2 + v / 16 % 2 + v / 32 % 2 + v / 64 % 2
/-- its lowest -/
def uLo (v : Int) : Int := if v % 2 = 1 then 0 else if v / 2 % 2 = 1 then 1 else if v / 4 % 2 = 1 then 2 else if v / 8 % 2 = 1 then 3 else if v / 16 % 2 = 1 then 4 else if v / 32 % 2 = 1 then 5 else 6
theorem uF128 {P : Int → Prop} (h : ∀ v : Fin 128, P (v.val : Int)) (h0 : 0 ≤ z) (h1 : z < 128) : P z := by
  have := h ⟨z.toNat, by omega⟩
  rw [show ((z.toNat : Nat) : Int) = z by omega] at this
  exact this
theorem uLo_one (h0 : 0 ≤ z) (h1 : z < 128) (h : uBs z = 1) : uBs (z - 1) = uLo z ∧ uLo z < 7 ∧ 0 ≤ uLo z := by
  revert h
  exact uF128 (P := fun z => uBs z = 1 → uBs (z - 1) = uLo z ∧ uLo z < 7 ∧ 0 ≤ uLo z) (by decide +kernel) h0 h1
theorem uCl_b {r : Int} (h0 : 0 ≤ z) (h1 : z < 128) (r0 : 0 ≤ r) (r1 : r < 7) : 0 ≤ uCl z r ∧ uCl z r < 128 := by
  have key : ∀ r : Fin 7, ∀ v : Fin 128, 0 ≤ uCl (v.val : Int) (r.val : Int) ∧ uCl (v.val : Int) (r.val : Int) < 128 := by decide +kernel
  have := key ⟨r.toNat, by omega⟩ ⟨z.toNat, by omega⟩
  rw [show ((z.toNat : Nat) : Int) = z by omega, show ((r.toNat : Nat) : Int) = r by omega] at this
  exact this
/-! numbers in a long -/
def uN (l : Int64) : Nat := l.toBitVec.toNat
theorem uN_eq (h : uN l = uN m) : l = m := Int64.toBitVec.inj (BitVec.eq_of_toNat_eq h)
theorem uN_lt : uN l < 2 ^ 64 := l.toBitVec.isLt
theorem uN_of (h0 : 0 ≤ c) (h1 : c < 2147483648) : uN (Int64.ofInt c) = c.toNat := by
  show (BitVec.ofInt 64 c).toNat = _
  rw [BitVec.toNat_ofInt]
  omega
theorem uN_shl (h0 : 0 ≤ k) (h1 : k < 64) (h : uN l * 2 ^ k.toNat < 2 ^ 64) : uN (xShL l k) = uN l * 2 ^ k.toNat := by
  show (xShL l k).toBitVec.toNat = _
  rw [xShLB h0 h1, BitVec.toNat_shiftLeft, Nat.shiftLeft_eq]
  exact Nat.mod_eq_of_lt h
theorem uN_shr (h0 : 0 ≤ k) (h1 : k < 64) : uN (xShr l k) = uN l / 2 ^ k.toNat := by
  show (xShr l k).toBitVec.toNat = _
  rw [xShrB h0 h1, BitVec.toNat_ushiftRight, Nat.shiftRight_eq_div_pow]
  rfl
theorem uN_or {n q : Nat} (h1 : uN l < 2 ^ n) (h2 : uN m = q * 2 ^ n) : uN (l ||| m) = uN l + q * 2 ^ n := by
  show (l ||| m).toBitVec.toNat = _
  rw [Int64.toBitVec_or, BitVec.toNat_or]
  have e : m.toBitVec.toNat = q * 2 ^ n := h2
  have h1 : l.toBitVec.toNat < 2 ^ n := h1
  rw [e, Nat.or_comm, Nat.mul_comm, ← Nat.two_pow_add_eq_or_of_lt h1]
  show _ = l.toBitVec.toNat + _
  exact Nat.add_comm _ _
theorem uN_l2 (h : uN l < 2147483648) : xL2 l = (uN l : Int) := by
  have e1 : xL2 l = (l.toBitVec.setWidth 32).toInt := by
    unfold xL2
    show l.toInt32.toBitVec.toInt = _
    rw [Int64.toBitVec_toInt32, BitVec.signExtend_eq_setWidth_of_le _ (by decide)]
  have h' : l.toBitVec.toNat < 2147483648 := h
  rw [e1, BitVec.toInt_eq_toNat_of_lt, BitVec.toNat_setWidth, Nat.mod_eq_of_lt (by omega)]
  · rfl
  · rw [BitVec.toNat_setWidth, Nat.mod_eq_of_lt (by omega)]
    omega
end
