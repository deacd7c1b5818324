section
/-! slots of four bits in a long, sets of seven, numbers of nine: told in Int -/
section
variable {l m : Int64} {i j k c z : Int}
theorem uL2_mod (n : Nat) (hn : n ≤ 32) (l : Int64) : xL2 l % ((2 ^ n : Nat) : Int) = ((l.toBitVec.toNat % 2 ^ n : Nat) : Int) := by
  have hd : ((2 ^ n : Nat) : Int) ∣ ((2 ^ 32 : Nat) : Int) := by exact_mod_cast Nat.pow_dvd_pow 2 hn
  have e1 : xL2 l = (l.toBitVec.setWidth 32).toInt := by
    unfold xL2
    show l.toInt32.toBitVec.toInt = _
    rw [Int64.toBitVec_toInt32, BitVec.signExtend_eq_setWidth_of_le _ (by decide)]
  rw [e1, BitVec.toInt_eq_toNat_bmod, ← Int.emod_emod_of_dvd _ hd, Int.bmod_emod, Int.emod_emod_of_dvd _ hd, BitVec.toNat_setWidth, Int.natCast_emod, Int.natCast_emod, Int.emod_emod_of_dvd _ hd]
/-- a slot -/
def uSl (l : Int64) (j : Int) : Int := xL2 (xShr l (4 * j)) % 16
def uV4 (l : Int64) (j : Int) : BitVec 4 := l.toBitVec.extractLsb' (4 * j.toNat) 4
theorem uSl_V (h0 : 0 ≤ j) (h1 : j < 16) : uSl l j = ((uV4 l j).toNat : Int) := by
  unfold uSl uV4
  have e := uL2_mod 4 (by decide) (xShr l (4 * j))
  rw [show ((2 ^ 4 : Nat) : Int) = 16 from rfl] at e
  rw [e, xShrB (by omega) (by omega), BitVec.extractLsb'_toNat, BitVec.toNat_ushiftRight, show (4 * j).toNat = 4 * j.toNat by omega]
theorem uSl_b (h0 : 0 ≤ j) (h1 : j < 16) : 0 ≤ uSl l j ∧ uSl l j ≤ 15 := by
  unfold uSl
  omega
theorem uSl_at (h : k = 4 * j) : xL2 (xShr l k) % 16 = uSl l j := by rw [h]; rfl
theorem uV4_bit {t : Nat} (ht : t < 4) : (uV4 l j).getLsbD t = l.toBitVec.getLsbD (4 * j.toNat + t) := by
  unfold uV4
  rw [BitVec.getLsbD_extractLsb']
  simp [ht]
theorem uSl_eq (h0 : 0 ≤ j) (h1 : j < 16) (h : ∀ t : Nat, t < 4 → l.toBitVec.getLsbD (4 * j.toNat + t) = m.toBitVec.getLsbD (4 * j.toNat + t)) : uSl l j = uSl m j := by
  rw [uSl_V h0 h1, uSl_V h0 h1]
  congr 2
  apply BitVec.eq_of_getLsbD_eq
  intro t ht
  rw [uV4_bit ht, uV4_bit ht]
  exact h t ht
theorem uSl_ext (h : ∀ j : Int, 0 ≤ j → j < 16 → uSl l j = uSl m j) : l = m := by
  apply Int64.toBitVec.inj
  apply BitVec.eq_of_getLsbD_eq
  intro n hn
  have e := h ((n / 4 : Nat) : Int) (by omega) (by omega)
  rw [uSl_V (by omega) (by omega), uSl_V (by omega) (by omega)] at e
  have e2 : uV4 l ((n / 4 : Nat) : Int) = uV4 m ((n / 4 : Nat) : Int) := BitVec.eq_of_toNat_eq (by omega)
  have e3 := congrArg (fun v : BitVec 4 => v.getLsbD (n % 4)) e2
  rw [uV4_bit (Nat.mod_lt _ (by decide)), uV4_bit (Nat.mod_lt _ (by decide))] at e3
  rw [show 4 * ((n / 4 : Nat) : Int).toNat + n % 4 = n by omega] at e3
  exact e3
theorem uB15 (t : Nat) : (15 : Int64).toBitVec.getLsbD t = decide (t < 4) := by
  by_cases h : t < 64
  · have key : ∀ t : Fin 64, (15 : Int64).toBitVec.getLsbD t.val = decide (t.val < 4) := by decide
    exact key ⟨t, h⟩
  · rw [BitVec.getLsbD_of_ge _ _ (by omega)]
    simp
    omega
theorem uBm1 {t : Nat} (h : t < 64) : (-1 : Int64).toBitVec.getLsbD t = true := by
  have key : ∀ t : Fin 64, (-1 : Int64).toBitVec.getLsbD t.val = true := by decide
  exact key ⟨t, h⟩
theorem uBc (h0 : 0 ≤ c) (t : Nat) : (Int64.ofInt c).toBitVec.getLsbD t = (decide (t < 64) && c.toNat.testBit t) := by
  show (BitVec.ofInt 64 c).getLsbD t = _
  rw [show c = ((c.toNat : Nat) : Int) by omega, BitVec.ofInt_natCast, BitVec.getLsbD_ofNat]
  rfl
theorem uShL_bit (h0 : 0 ≤ k) (h1 : k < 64) {t : Nat} (ht : t < 64) : (xShL l k).toBitVec.getLsbD t = (decide (k.toNat ≤ t) && l.toBitVec.getLsbD (t - k.toNat)) := by
  rw [xShLB h0 h1, BitVec.getLsbD_shiftLeft]
  by_cases c : t < k.toNat
  · simp [c]
    omega
  · simp [c, ht]
    omega
/-- what a slot is put to -/
theorem uWith (i0 : 0 ≤ i) (i1 : i < 16) (c0 : 0 ≤ c) (c1 : c < 16) (j0 : 0 ≤ j) (j1 : j < 16) (hk : k = 4 * i) : uSl ((l &&& (xShL 15 k ^^^ (-1))) ||| xShL (Int64.ofInt c) k) j = if j = i then c else uSl l j := by
  have hb : ∀ t : Nat, t < 4 → ((l &&& (xShL 15 k ^^^ (-1))) ||| xShL (Int64.ofInt c) k).toBitVec.getLsbD (4 * j.toNat + t) = if j = i then c.toNat.testBit t else l.toBitVec.getLsbD (4 * j.toNat + t) := by
    intro t ht
    have hn : 4 * j.toNat + t < 64 := by omega
    rw [Int64.toBitVec_or, Int64.toBitVec_and, Int64.toBitVec_xor, BitVec.getLsbD_or, BitVec.getLsbD_and, BitVec.getLsbD_xor, uShL_bit (by omega) (by omega) hn, uShL_bit (by omega) (by omega) hn, uB15, uBm1 hn, uBc c0]
    by_cases e : j = i
    · rw [if_pos e]
      subst e
      rw [show 4 * j.toNat + t - k.toNat = t by omega]
      have d1 : decide (k.toNat ≤ 4 * j.toNat + t) = true := decide_eq_true (by omega)
      have d2 : decide (t < 4) = true := decide_eq_true ht
      have d3 : decide (t < 64) = true := decide_eq_true (by omega)
      rw [d1, d2, d3]
      simp
    · rw [if_neg e]
      by_cases g : k.toNat ≤ 4 * j.toNat + t
      · have d1 : decide (k.toNat ≤ 4 * j.toNat + t) = true := decide_eq_true g
        have d2 : decide (4 * j.toNat + t - k.toNat < 4) = false := decide_eq_false (by omega)
        have d3 : c.toNat.testBit (4 * j.toNat + t - k.toNat) = false := by
          refine Nat.testBit_lt_two_pow (Nat.lt_of_lt_of_le (show c.toNat < 2 ^ 4 by omega) (Nat.pow_le_pow_right (by decide) (by omega)))
        rw [d1, d2, d3]
        simp
      · have d1 : decide (k.toNat ≤ 4 * j.toNat + t) = false := decide_eq_false g
        rw [d1]
        simp
  by_cases e : j = i
  · rw [if_pos e, uSl_V j0 j1]
    have e2 : uV4 ((l &&& (xShL 15 k ^^^ (-1))) ||| xShL (Int64.ofInt c) k) j = BitVec.ofNat 4 c.toNat := by
      apply BitVec.eq_of_getLsbD_eq
      intro t ht
      rw [uV4_bit ht, hb t ht, if_pos e, BitVec.getLsbD_ofNat]
      simp [ht]
    rw [e2, BitVec.toNat_ofNat, Nat.mod_eq_of_lt (by omega)]
    omega
  · rw [if_neg e]
    refine uSl_eq j0 j1 fun t ht => ?_
    rw [hb t ht, if_neg e]
/-- a bit put into a slot that is none of ours -/
theorem uOr9 (h0 : 0 ≤ c) (hk : 36 ≤ k) (hk2 : k < 64) (j0 : 0 ≤ j) (j1 : j < 9) : uSl (l ||| xShL (Int64.ofInt c) k) j = uSl l j := by
  refine uSl_eq j0 (by omega) fun t ht => ?_
  rw [Int64.toBitVec_or, BitVec.getLsbD_or, uShL_bit (by omega) (by omega) (by omega)]
  have d1 : decide (k.toNat ≤ 4 * j.toNat + t) = false := decide_eq_false (by omega)
  rw [d1]
  simp
/-! sets: seven bits each -/
def uSt (l : Int64) (x : Int) : Int := xL2 (xShr l (7 * x)) % 128
def uV7 (l : Int64) (x : Int) : BitVec 7 := l.toBitVec.extractLsb' (7 * x.toNat) 7
theorem uSt_V {x : Int} (h0 : 0 ≤ x) (h1 : x < 9) : uSt l x = ((uV7 l x).toNat : Int) := by
  unfold uSt uV7
  have e := uL2_mod 7 (by decide) (xShr l (7 * x))
  rw [show ((2 ^ 7 : Nat) : Int) = 128 from rfl] at e
  rw [e, xShrB (by omega) (by omega), BitVec.extractLsb'_toNat, BitVec.toNat_ushiftRight, show (7 * x).toNat = 7 * x.toNat by omega]
theorem uSt_b {x : Int} : 0 ≤ uSt l x ∧ uSt l x ≤ 127 := by
  unfold uSt
  omega
theorem uV7_bit {x : Int} {t : Nat} (ht : t < 7) : (uV7 l x).getLsbD t = l.toBitVec.getLsbD (7 * x.toNat + t) := by
  unfold uV7
  rw [BitVec.getLsbD_extractLsb']
  simp [ht]
/-- a set without a room -/
def uCl (v r : Int) : Int := if v / ((2 ^ r.toNat : Nat) : Int) % 2 = 0 then v else v - ((2 ^ r.toNat : Nat) : Int)
theorem uCl_V (v : BitVec 7) (r : Nat) (hr : r < 7) : ((v &&& ~~~(1#7 <<< r)).toNat : Int) = uCl (v.toNat : Int) (r : Int) := by
  have key : ∀ v : BitVec 7, ∀ r : Fin 7, ((v &&& ~~~(1#7 <<< r.val)).toNat : Int) = uCl (v.toNat : Int) (r.val : Int) := by decide +kernel
  exact key v ⟨r, hr⟩
theorem uB1 (t : Nat) : (1 : Int64).toBitVec.getLsbD t = decide (t = 0) := by
  show (1#64).getLsbD t = _
  rw [BitVec.getLsbD_one]
  simp
theorem uSt_clr {x y r : Int} (x0 : 0 ≤ x) (x1 : x < 9) (y0 : 0 ≤ y) (y1 : y < 9) (r0 : 0 ≤ r) (r1 : r < 7) (hk : k = 7 * x + r) : uSt (l &&& (xShL 1 k ^^^ (-1))) y = if y = x then uCl (uSt l x) r else uSt l y := by
  have hb : ∀ t : Nat, t < 7 → (l &&& (xShL 1 k ^^^ (-1))).toBitVec.getLsbD (7 * y.toNat + t) = (l.toBitVec.getLsbD (7 * y.toNat + t) && !decide (7 * y.toNat + t = k.toNat)) := by
    intro t ht
    have hn : 7 * y.toNat + t < 64 := by omega
    rw [Int64.toBitVec_and, Int64.toBitVec_xor, BitVec.getLsbD_and, BitVec.getLsbD_xor, uShL_bit (by omega) (by omega) hn, uB1, uBm1 hn]
    congr 1
    by_cases e : 7 * y.toNat + t = k.toNat
    · rw [e]
      simp
    · have d3 : (decide (k.toNat ≤ 7 * y.toNat + t) && decide (7 * y.toNat + t - k.toNat = 0)) = false := by
        by_cases g : k.toNat ≤ 7 * y.toNat + t
        · have : decide (7 * y.toNat + t - k.toNat = 0) = false := decide_eq_false (by omega)
          rw [this]
          simp
        · rw [decide_eq_false g]
          simp
      rw [d3, decide_eq_false e]
      rfl
  by_cases e : y = x
  · rw [if_pos e, uSt_V y0 y1, uSt_V x0 x1]
    have e2 : uV7 (l &&& (xShL 1 k ^^^ (-1))) y = uV7 l x &&& ~~~(1#7 <<< r.toNat) := by
      apply BitVec.eq_of_getLsbD_eq
      intro t ht
      rw [uV7_bit ht, hb t ht, BitVec.getLsbD_and, uV7_bit ht, BitVec.getLsbD_not, BitVec.getLsbD_shiftLeft, BitVec.getLsbD_one, e]
      congr 1
      by_cases g : t = r.toNat
      · have : 7 * x.toNat + t = k.toNat := by omega
        rw [decide_eq_true this]
        subst g
        simp
      · have : ¬ 7 * x.toNat + t = k.toNat := by omega
        rw [decide_eq_false this]
        simp [ht]
        omega
    rw [e2]
    have := uCl_V (uV7 l x) r.toNat (by omega)
    rw [show ((r.toNat : Nat) : Int) = r by omega] at this
    exact this
  · rw [if_neg e, uSt_V y0 y1, uSt_V y0 y1]
    congr 2
    apply BitVec.eq_of_getLsbD_eq
    intro t ht
    rw [uV7_bit ht, hb t ht, uV7_bit ht]
    have : ¬ 7 * y.toNat + t = k.toNat := by omega
    rw [decide_eq_false this]
    simp
theorem uSt_put {x y v : Int} (x0 : 0 ≤ x) (x1 : x < 9) (y0 : 0 ≤ y) (y1 : y < 9) (v0 : 0 ≤ v) (v1 : v < 128) (hz : uSt l x = 0) (hk : k = 7 * x) : uSt (l ||| xShL (Int64.ofInt v) k) y = if y = x then v else uSt l y := by
  have hb : ∀ t : Nat, t < 7 → (l ||| xShL (Int64.ofInt v) k).toBitVec.getLsbD (7 * y.toNat + t) = (l.toBitVec.getLsbD (7 * y.toNat + t) || (decide (y = x) && v.toNat.testBit t)) := by
    intro t ht
    have hn : 7 * y.toNat + t < 64 := by omega
    rw [Int64.toBitVec_or, BitVec.getLsbD_or, uShL_bit (by omega) (by omega) hn, uBc v0]
    congr 1
    by_cases e : y = x
    · rw [e, show 7 * x.toNat + t - k.toNat = t by omega, decide_eq_true (show k.toNat ≤ 7 * x.toNat + t by omega), decide_eq_true (show t < 64 by omega)]
      simp
    · rw [decide_eq_false e]
      by_cases g : k.toNat ≤ 7 * y.toNat + t
      · have d3 : v.toNat.testBit (7 * y.toNat + t - k.toNat) = false := by
          refine Nat.testBit_lt_two_pow (Nat.lt_of_lt_of_le (show v.toNat < 2 ^ 7 by omega) (Nat.pow_le_pow_right (by decide) (by omega)))
        rw [d3]
        simp
      · rw [decide_eq_false g]
        simp
  by_cases e : y = x
  · rw [if_pos e, uSt_V y0 y1]
    have hz2 : uV7 l x = 0#7 := by
      apply BitVec.eq_of_toNat_eq
      rw [uSt_V x0 x1] at hz
      have : (0#7).toNat = 0 := rfl
      omega
    have e2 : uV7 (l ||| xShL (Int64.ofInt v) k) y = BitVec.ofNat 7 v.toNat := by
      apply BitVec.eq_of_getLsbD_eq
      intro t ht
      have h3 := congrArg (fun q : BitVec 7 => q.getLsbD t) hz2
      simp only [uV7_bit ht, BitVec.getLsbD_zero] at h3
      rw [uV7_bit ht, hb t ht, BitVec.getLsbD_ofNat, e, h3]
      simp [ht]
    rw [e2, BitVec.toNat_ofNat, Nat.mod_eq_of_lt (by omega)]
    omega
  · rw [if_neg e, uSt_V y0 y1, uSt_V y0 y1]
    congr 2
    apply BitVec.eq_of_getLsbD_eq
    intro t ht
    rw [uV7_bit ht, hb t ht, uV7_bit ht, decide_eq_false e]
    simp
/-- how many rooms a set has -/
def uBs (v : Int) : Int := v % 2 + v / 2 % 2 + v / 4 % 2 + v / 8 % 2 + v / 16 % 2 + v / 32 % 2 + v / 64 % 2
/-- its lowest -/
def uLo (v : Int) : Int := if v % 2 = 1 then 0 else if v / 2 % 2 = 1 then 1 else if v / 4 % 2 = 1 then 2 else if v / 8 % 2 = 1 then 3 else if v / 16 % 2 = 1 then 4 else if v / 32 % 2 = 1 then 5 else 6
theorem uF128 {P : Int → Prop} (h : ∀ v : Fin 128, P (v.val : Int)) (h0 : 0 ≤ z) (h1 : z < 128) : P z := by
  have := h ⟨z.toNat, by omega⟩
  rw [show ((z.toNat : Nat) : Int) = z by omega] at this
  exact this
theorem uLo_one (h0 : 0 ≤ z) (h1 : z < 128) (h : uBs z = 1) : uBs (z - 1) = uLo z ∧ uLo z < 7 ∧ 0 ≤ uLo z := by
  revert h
  exact uF128 (P := fun z => uBs z = 1 → uBs (z - 1) = uLo z ∧ uLo z < 7 ∧ 0 ≤ uLo z) (by decide +kernel) h0 h1
theorem uCl_b {r : Int} (h0 : 0 ≤ z) (h1 : z < 128) (r0 : 0 ≤ r) (r1 : r < 7) : 0 ≤ uCl z r ∧ uCl z r < 128 := by
  have key : ∀ r : Fin 7, ∀ v : Fin 128, 0 ≤ uCl (v.val : Int) (r.val : Int) ∧ uCl (v.val : Int) (r.val : Int) < 128 := by decide +kernel
  have := key ⟨r.toNat, by omega⟩ ⟨z.toNat, by omega⟩
  rw [show ((z.toNat : Nat) : Int) = z by omega, show ((r.toNat : Nat) : Int) = r by omega] at this
  exact this
/-! numbers in a long -/
def uN (l : Int64) : Nat := l.toBitVec.toNat
theorem uN_eq (h : uN l = uN m) : l = m := Int64.toBitVec.inj (BitVec.eq_of_toNat_eq h)
theorem uN_lt : uN l < 2 ^ 64 := l.toBitVec.isLt
theorem uN_of (h0 : 0 ≤ c) (h1 : c < 2147483648) : uN (Int64.ofInt c) = c.toNat := by
  show (BitVec.ofInt 64 c).toNat = _
  rw [BitVec.toNat_ofInt]
  omega
theorem uN_shl (h0 : 0 ≤ k) (h1 : k < 64) (h : uN l * 2 ^ k.toNat < 2 ^ 64) : uN (xShL l k) = uN l * 2 ^ k.toNat := by
  show (xShL l k).toBitVec.toNat = _
  rw [xShLB h0 h1, BitVec.toNat_shiftLeft, Nat.shiftLeft_eq]
  exact Nat.mod_eq_of_lt h
theorem uN_shr (h0 : 0 ≤ k) (h1 : k < 64) : uN (xShr l k) = uN l / 2 ^ k.toNat := by
  show (xShr l k).toBitVec.toNat = _
  rw [xShrB h0 h1, BitVec.toNat_ushiftRight, Nat.shiftRight_eq_div_pow]
  rfl
theorem uN_or {n q : Nat} (h1 : uN l < 2 ^ n) (h2 : uN m = q * 2 ^ n) : uN (l ||| m) = uN l + q * 2 ^ n := by
  show (l ||| m).toBitVec.toNat = _
  rw [Int64.toBitVec_or, BitVec.toNat_or]
  have e : m.toBitVec.toNat = q * 2 ^ n := h2
  have h1 : l.toBitVec.toNat < 2 ^ n := h1
  rw [e, Nat.or_comm, Nat.mul_comm, ← Nat.two_pow_add_eq_or_of_lt h1]
  show _ = l.toBitVec.toNat + _
  exact Nat.add_comm _ _
theorem uN_l2 (h : uN l < 2147483648) : xL2 l = (uN l : Int) := by
  have e1 : xL2 l = (l.toBitVec.setWidth 32).toInt := by
    unfold xL2
    show l.toInt32.toBitVec.toInt = _
    rw [Int64.toBitVec_toInt32, BitVec.signExtend_eq_setWidth_of_le _ (by decide)]
  have h' : l.toBitVec.toNat < 2147483648 := h
  rw [e1, BitVec.toInt_eq_toNat_of_lt, BitVec.toNat_setWidth, Nat.mod_eq_of_lt (by omega)]
  · rfl
  · rw [BitVec.toNat_setWidth, Nat.mod_eq_of_lt (by omega)]
    omega
end
end
section
/-! planning, in the abstract: deeds, what they change, wishes, the best row of deeds -/
section
/-- if, of any proposition -/
noncomputable def uIf {α : Type} (p : Prop) (x y : α) : α := @ite α p (Classical.propDecidable p) x y
theorem uIf_t {α : Type} {p : Prop} {x y : α} (h : p) : uIf p x y = x := by
  unfold uIf
  exact if_pos h
theorem uIf_f {α : Type} {p : Prop} {x y : α} (h : ¬ p) : uIf p x y = y := by
  unfold uIf
  exact if_neg h
def uK (k : Int) : Int := if k < 0 then 0 else if k < 7 then 1 else if k < 12 then 2 else if k < 17 then 3 else if k < 37 then 4 else if k < 41 then 5 else 6
def uX (k : Int) : Int := if k < 0 then -1 else if k < 7 then k else if k < 12 then k - 7 else if k < 17 then k - 12 else if k < 37 then (k - 17) / 4 else if k < 41 then k - 37 else (k - 41) / 4
def uY (k : Int) : Int := if k < 17 then -1 else if k < 37 then (k - 17) % 4 else if k < 41 then -1 else (k - 41) % 4
/-- a deed's number in the class -/
def uD (k : Int) : Int := if k < 0 then 0 else 64 * uK k + 8 * (uX k + 1) + (uY k + 1)
/-- a function put to another value at a place -/
def uP (S : Int → Int) (i v : Int) : Int → Int := fun j => if j = i then v else S j
def uArm (wp : Int → Int) (S : Int → Int) (f : Int) : Prop := (¬ wp 0 = 0 ∧ S 4 = 9 + f) ∨ (¬ wp 1 = 0 ∧ S 5 = 9 + f) ∨ (¬ wp 2 = 0 ∧ S 6 = 9 + f) ∨ (¬ wp 3 = 0 ∧ S 7 = 9 + f) ∨ (¬ wp 4 = 0 ∧ S 8 = 9 + f)
/-- a deed can be done, as slots tell (codes 0 to 40) -/
def uCan (dr wp : Int → Int) (f : Int) (S : Int → Int) (k : Int) : Prop :=
  if k < 7 then ¬ dr (7 * (S f - 1) + k) = 0
  else if k < 12 then S (4 + uX k) = S f
  else if k < 17 then S (4 + uX k) = 9 + f
  else if k < 37 then S (4 + uX k) = 9 + f ∧ ¬ uY k = f ∧ S (uY k) = S f
  else ¬ uX k = f ∧ S (uX k) = S f ∧ uArm wp S f
/-- what a deed changes -/
def uApp (f : Int) (S : Int → Int) (k : Int) : Int → Int :=
  if k < 0 then S
  else if k < 7 then uP S f (k + 1)
  else if k < 12 then uP S (4 + uX k) (9 + f)
  else if k < 17 then uP S (4 + uX k) (S f)
  else if k < 37 then uP S (4 + uX k) (9 + uY k)
  else if k < 41 then fun j => if j = uX k then 8 else if 4 ≤ j ∧ j < 9 ∧ S j = 9 + uX k then S f else S j
  else S
/-- slots of a mind: what may stand there -/
def uOk (f : Int) (S : Int → Int) : Prop := (1 ≤ S f ∧ S f ≤ 7) ∧ (∀ q, 0 ≤ q → q < 4 → 0 ≤ S q ∧ S q ≤ 8) ∧ ∀ x, 0 ≤ x → x < 5 → (0 ≤ S (4 + x) ∧ S (4 + x) ≤ 7) ∨ (9 ≤ S (4 + x) ∧ S (4 + x) ≤ 12)
theorem uOk_app {dr wp : Int → Int} {f : Int} {S : Int → Int} {k : Int} (hf : 1 ≤ f ∧ f ≤ 3) (h : uOk f S) (hk : 0 ≤ k ∧ k < 41) (hc : uCan dr wp f S k) : uOk f (uApp f S k) := by
  obtain ⟨h1, h2, h3⟩ := h
  have hx : uX k = if k < 0 then -1 else if k < 7 then k else if k < 12 then k - 7 else if k < 17 then k - 12 else if k < 37 then (k - 17) / 4 else if k < 41 then k - 37 else (k - 41) / 4 := rfl
  have hy : uY k = if k < 17 then -1 else if k < 37 then (k - 17) % 4 else if k < 41 then -1 else (k - 41) % 4 := rfl
  unfold uApp
  rw [if_neg (by omega)]
  split
  · refine ⟨?_, fun q q0 q1 => ?_, fun x x0 x1 => ?_⟩
    · unfold uP
      rw [if_pos rfl]
      omega
    · unfold uP
      have := h2 q q0 q1
      split <;> omega
    · unfold uP
      rw [if_neg (by omega)]
      exact h3 x x0 x1
  split
  · have e : 0 ≤ uX k ∧ uX k < 5 := by
      rw [hx]
      omega
    refine ⟨?_, fun q q0 q1 => ?_, fun x x0 x1 => ?_⟩
    · unfold uP
      rw [if_neg (by omega)]
      exact h1
    · unfold uP
      rw [if_neg (by omega)]
      exact h2 q q0 q1
    · unfold uP
      have := h3 x x0 x1
      split <;> omega
  split
  · have e : 0 ≤ uX k ∧ uX k < 5 := by
      rw [hx]
      omega
    refine ⟨?_, fun q q0 q1 => ?_, fun x x0 x1 => ?_⟩
    · unfold uP
      rw [if_neg (by omega)]
      exact h1
    · unfold uP
      rw [if_neg (by omega)]
      exact h2 q q0 q1
    · unfold uP
      have := h3 x x0 x1
      split <;> omega
  split
  · have e : 0 ≤ uX k ∧ uX k < 5 := by
      rw [hx]
      omega
    have e2 : 0 ≤ uY k ∧ uY k < 4 := by
      rw [hy]
      omega
    refine ⟨?_, fun q q0 q1 => ?_, fun x x0 x1 => ?_⟩
    · unfold uP
      rw [if_neg (by omega)]
      exact h1
    · unfold uP
      rw [if_neg (by omega)]
      exact h2 q q0 q1
    · unfold uP
      have := h3 x x0 x1
      split <;> omega
  rw [if_pos hk.2]
  have e : 0 ≤ uX k ∧ uX k < 4 := by
    rw [hx]
    omega
  unfold uCan at hc
  rw [if_neg (by omega), if_neg (by omega), if_neg (by omega), if_neg (by omega)] at hc
  refine ⟨?_, fun q q0 q1 => ?_, fun x x0 x1 => ?_⟩
  · show 1 ≤ (if f = uX k then _ else _) ∧ (if f = uX k then _ else _) ≤ 7
    rw [if_neg (by omega), if_neg (by omega)]
    exact h1
  · show 0 ≤ (if q = uX k then _ else _) ∧ (if q = uX k then _ else _) ≤ 8
    have := h2 q q0 q1
    split
    · omega
    · rw [if_neg (by omega)]
      exact this
  · have := h3 x x0 x1
    dsimp only
    have e5 : (if 4 + x = uX k then (8 : Int) else if 4 ≤ 4 + x ∧ 4 + x < 9 ∧ S (4 + x) = 9 + uX k then S f else S (4 + x)) = if S (4 + x) = 9 + uX k then S f else S (4 + x) := by
      rw [if_neg (by omega)]
      by_cases c : S (4 + x) = 9 + uX k
      · rw [if_pos ⟨by omega, by omega, c⟩, if_pos c]
      · rw [if_neg (fun e => c e.2.2), if_neg c]
    rw [e5]
    split <;> omega
/-! rows of tokens, evaluated: a stack of whatever -/
def uRun {α : Type} (A : Int → α) (nt : α → α) (an ro : α → α → α) : List Int → List α → List α
  | [], st => st
  | c :: cs, st => if c / 256 < 5 then uRun A nt an ro cs (A c :: st)
    else if c / 256 = 7 then (match st with
      | [] => uRun A nt an ro cs []
      | x :: r => uRun A nt an ro cs (nt x :: r))
    else (match st with
      | y :: x :: r => uRun A nt an ro cs ((if c / 256 = 5 then an x y else ro x y) :: r)
      | r => uRun A nt an ro cs r)
/-- two stacks alike -/
def uF2 {α β : Type} (R : α → β → Prop) : List α → List β → Prop
  | [], [] => True
  | x :: r, y :: s => R x y ∧ uF2 R r s
  | _, _ => False
theorem uF2_len {α β : Type} {R : α → β → Prop} : ∀ {r : List α} {s : List β}, uF2 R r s → r.length = s.length
  | [], [], _ => rfl
  | _ :: _, _ :: _, h => by
    show _ + 1 = _ + 1
    rw [uF2_len h.2]
  | [], _ :: _, h => h.elim
  | _ :: _, [], h => h.elim
def uBot {α : Type} (d : α) (st : List α) : α := st.getLastD d
theorem uBot_c {α : Type} {d x y : α} {r : List α} : uBot d (x :: y :: r) = uBot d (y :: r) := by
  unfold uBot
  simp [List.getLastD]
theorem uF2_bot {α β : Type} {R : α → β → Prop} {d : α} {e : β} (hd : R d e) : ∀ {r : List α} {s : List β}, uF2 R r s → R (uBot d r) (uBot e s)
  | [], [], _ => hd
  | [x], [y], h => h.1
  | x :: x' :: r, y :: y' :: s, h => by
    rw [uBot_c, uBot_c]
    exact uF2_bot hd h.2
  | [_], _ :: _ :: _, h => h.2.elim
  | _ :: _ :: _, [_], h => h.2.elim
  | [], _ :: _, h => h.elim
  | _ :: _, [], h => h.elim
theorem uRun_rel {α β : Type} {R : α → β → Prop} {A1 : Int → α} {n1 : α → α} {a1 o1 : α → α → α} {A2 : Int → β} {n2 : β → β} {a2 o2 : β → β → β} (hn : ∀ x y, R x y → R (n1 x) (n2 y)) (ha : ∀ x y x' y', R x y → R x' y' → R (a1 x x') (a2 y y')) (ho : ∀ x y x' y', R x y → R x' y' → R (o1 x x') (o2 y y')) : ∀ (cs : List Int), (∀ c, c ∈ cs → c / 256 < 5 → R (A1 c) (A2 c)) → ∀ (s1 : List α) (s2 : List β), uF2 R s1 s2 → uF2 R (uRun A1 n1 a1 o1 cs s1) (uRun A2 n2 a2 o2 cs s2) := by
  intro cs
  induction cs with
  | nil =>
    intro _ s1 s2 h
    exact h
  | cons c cs ih =>
    intro hA s1 s2 h
    have ih := ih fun c hc => hA c (List.mem_cons_of_mem _ hc)
    unfold uRun
    split
    · rename_i h5
      exact ih _ _ ⟨hA c List.mem_cons_self h5, h⟩
    split
    · match s1, s2, h with
      | [], [], _ => exact ih _ _ trivial
      | x :: r, y :: s, h => exact ih _ _ ⟨hn x y h.1, h.2⟩
    · match s1, s2, h with
      | [], [], _ => exact ih _ _ trivial
      | [x], [y], h => exact ih _ _ h
      | x :: x' :: r, y :: y' :: s, h =>
        refine ih _ _ ⟨?_, h.2.2⟩
        split
        · exact ha _ _ _ _ h.2.1 h.1
        · exact ho _ _ _ _ h.2.1 h.1
/-- an atom, as slots tell -/
def uAt (f : Int) (S : Int → Int) (c : Int) : Bool :=
  if c / 256 = 0 then decide (S (4 + c / 16 % 16) = 9 + f)
  else if c / 256 = 1 then decide (S f = c / 16 % 16 + 1)
  else if c / 256 = 2 then decide (S (c / 16 % 16) = 8)
  else if c / 256 = 3 then decide (S (4 + c / 16 % 16) = c % 16 + 1)
  else decide (S (4 + c % 16) = 9 + c / 16 % 16)
/-- the wish holds -/
def uHold (f : Int) (ts : List Int) (S : Int → Int) : Bool := uBot false (uRun (uAt f S) (fun x => !x) (fun x y => x && y) (fun x y => x || y) ts [])
/-! the best row of deeds -/
/-- a row's cost: eight times the prices, and one for each deed -/
def uCs (pr : Int → Int) (k : Int) : Int := 8 * pr (uK k) + 1
abbrev uR : Type := Option (Int × List Int)
def uBet (a x : uR) : uR := match x with
  | none => a
  | some p => match a with
    | none => some p
    | some q => if p.1 < q.1 then some p else some q
def uSh (c k : Int) (x : uR) : uR := x.map fun p => (c + p.1, k :: p.2)
/-- of codes 0 to n - 1 -/
noncomputable def uFo (g : Int → uR) : Nat → uR
  | 0 => none
  | n + 1 => uBet (uFo g n) (g n)
/-- the best row of n deeds at most -/
noncomputable def uOpt (dr wp pr : Int → Int) (f : Int) (ts : List Int) : Nat → (Int → Int) → uR
  | 0, _ => none
  | n + 1, S => uFo (fun k => uIf (uCan dr wp f S k) (bif uHold f ts (uApp f S k) then some (uCs pr k, [k]) else uSh (uCs pr k) k (uOpt dr wp pr f ts n (uApp f S k))) none) 41
noncomputable def uOne (dr wp pr : Int → Int) (f : Int) (ts : List Int) (n : Nat) (S : Int → Int) (k : Int) : uR := uIf (uCan dr wp f S k) (bif uHold f ts (uApp f S k) then some (uCs pr k, [k]) else uSh (uCs pr k) k (uOpt dr wp pr f ts n (uApp f S k))) none
section
variable {dr wp pr : Int → Int} {f : Int} {ts : List Int} {n : Nat} {S : Int → Int} {k : Int} {x a : uR}
theorem uOpt_s : uOpt dr wp pr f ts (n + 1) S = uFo (uOne dr wp pr f ts n S) 41 := rfl
/-- what every row has of a property of costs and lengths -/
theorem uFo_all {g : Int → uR} {P : Int × List Int → Prop} (N : Nat) (h : ∀ k : Nat, k < N → ∀ p, g k = some p → P p) : ∀ p, uFo g N = some p → P p := by
  induction N with
  | zero =>
    intro p e
    cases e
  | succ n ih =>
    intro p e
    have ih := ih fun k hk => h k (by omega)
    have hg := h n (by omega)
    unfold uFo uBet at e
    cases hx : g n with
    | none =>
      rw [hx] at e
      exact ih p e
    | some y =>
      rw [hx] at e
      cases ha : uFo g n with
      | none =>
        rw [ha] at e
        exact hg p (hx.trans e)
      | some z =>
        rw [ha] at e
        simp only [] at e
        split at e
        · exact hg p (hx.trans e)
        · exact ih p (ha.trans e)
theorem uOpt_all {Q : Nat → (Int → Int) → Prop} {P : Nat → (Int → Int) → Int × List Int → Prop}
    (hQ : ∀ n S (k : Nat), Q (n + 1) S → k < 41 → uCan dr wp f S k → Q n (uApp f S k))
    (h1 : ∀ n S (k : Nat), Q (n + 1) S → k < 41 → uCan dr wp f S k → uHold f ts (uApp f S k) = true → P (n + 1) S (uCs pr k, [(k : Int)]))
    (h2 : ∀ n S (k : Nat) p, Q (n + 1) S → k < 41 → uCan dr wp f S k → uHold f ts (uApp f S k) = false → P n (uApp f S k) p → P (n + 1) S (uCs pr k + p.1, (k : Int) :: p.2)) : ∀ n S, Q n S → ∀ p, uOpt dr wp pr f ts n S = some p → P n S p := by
  intro n
  induction n with
  | zero =>
    intro S _ p e
    cases e
  | succ n ih =>
    intro S hS
    rw [uOpt_s]
    refine uFo_all 41 fun k hk p e => ?_
    unfold uOne at e
    by_cases hc : uCan dr wp f S k
    · rw [uIf_t hc] at e
      cases hh : uHold f ts (uApp f S k) with
      | true =>
        rw [hh] at e
        have e : some (uCs pr k, [(k : Int)]) = some p := e
        cases e
        exact h1 n S k hS hk hc hh
      | false =>
        rw [hh] at e
        have e : uSh (uCs pr k) k (uOpt dr wp pr f ts n (uApp f S k)) = some p := e
        unfold uSh at e
        cases ho : uOpt dr wp pr f ts n (uApp f S k) with
        | none =>
          rw [ho] at e
          cases e
        | some q =>
          rw [ho] at e
          cases e
          exact h2 n S k q hS hk hc hh (ih _ (hQ n S k hS hk hc) q ho)
    · rw [uIf_f hc] at e
      cases e
/-- lengths, costs -/
theorem uOpt_len (hp : ∀ i, 1 ≤ i → i ≤ 5 → 1 ≤ pr i ∧ pr i ≤ 9) : ∀ n S p, uOpt dr wp pr f ts n S = some p → 1 ≤ p.2.length ∧ p.2.length ≤ n ∧ (∃ c, p.1 = 8 * c + (p.2.length : Int) ∧ (p.2.length : Int) ≤ c ∧ c ≤ 9 * (p.2.length : Int)) ∧ ∀ k, k ∈ p.2 → 0 ≤ k ∧ k < 41 := by
  intro n S p e
  have hK : ∀ k : Nat, k < 41 → 1 ≤ uK (k : Int) ∧ uK (k : Int) ≤ 5 := by
    intro k hk
    unfold uK
    omega
  refine uOpt_all (Q := fun _ _ => True) (P := fun n _ p => 1 ≤ p.2.length ∧ p.2.length ≤ n ∧ (∃ c, p.1 = 8 * c + (p.2.length : Int) ∧ (p.2.length : Int) ≤ c ∧ c ≤ 9 * (p.2.length : Int)) ∧ ∀ k, k ∈ p.2 → 0 ≤ k ∧ k < 41) (fun _ _ _ _ _ _ => trivial) (fun n S k _ hk _ _ => ?_) (fun n S k q _ hk _ _ h => ?_) n S trivial p e
  · have := hp _ (hK k hk).1 (hK k hk).2
    refine ⟨Nat.le_refl _, by show 1 ≤ n + 1; omega, ⟨pr (uK k), rfl, this.1, this.2⟩, fun j hj => ?_⟩
    rw [List.mem_singleton] at hj
    omega
  · have := hp _ (hK k hk).1 (hK k hk).2
    obtain ⟨g1, g2, ⟨c, g3, g4, g5⟩, g6⟩ := h
    refine ⟨by show 1 ≤ q.2.length + 1; omega, by show q.2.length + 1 ≤ n + 1; omega, ⟨pr (uK k) + c, ?_, ?_, ?_⟩, fun j hj => ?_⟩
    · show uCs pr k + q.1 = _ + ((q.2.length + 1 : Nat) : Int)
      unfold uCs
      omega
    · show ((q.2.length + 1 : Nat) : Int) ≤ _
      omega
    · show _ ≤ 9 * ((q.2.length + 1 : Nat) : Int)
      omega
    · rcases List.mem_cons.mp hj with h | h
      · omega
      · exact g6 j h
/-- the best of n and of n + 1 deeds -/
def uRl (n : Nat) (x y : uR) : Prop := (∀ p, y = some p → p.2.length ≤ n → x = some p) ∧ (∀ p, x = some p → ∃ q, y = some q ∧ q.1 ≤ p.1)
theorem uRl_bet {a x b y : uR} (h1 : uRl n a b) (h2 : uRl n x y) : uRl n (uBet a x) (uBet b y) := by
  obtain ⟨a1, a2⟩ := h1
  obtain ⟨x1, x2⟩ := h2
  constructor
  · intro p e hl
    cases hy : y with
    | none =>
      rw [hy] at e
      have e : b = some p := e
      have ea := a1 p e hl
      cases hx : x with
      | none => exact ea
      | some q =>
        obtain ⟨q', e', _⟩ := x2 q hx
        rw [hy] at e'
        cases e'
    | some y0 =>
      rw [hy] at e
      cases hb : b with
      | none =>
        rw [hb] at e
        have e : some y0 = some p := e
        cases e
        have ex := x1 _ hy hl
        rw [ex]
        cases ha : a with
        | none => rfl
        | some q =>
          obtain ⟨q', e', _⟩ := a2 q ha
          rw [hb] at e'
          cases e'
      | some b0 =>
        rw [hb] at e
        have e : (if y0.1 < b0.1 then some y0 else some b0) = some p := e
        split at e
        · rename_i hlt
          cases e
          have ex := x1 _ hy hl
          rw [ex]
          cases ha : a with
          | none => rfl
          | some q =>
            obtain ⟨q', e', g⟩ := a2 q ha
            rw [hb] at e'
            cases e'
            show (if _ then _ else _) = _
            rw [if_pos (by omega)]
        · rename_i hlt
          cases e
          have ea := a1 _ hb hl
          rw [ea]
          cases hx : x with
          | none => rfl
          | some q =>
            obtain ⟨q', e', g⟩ := x2 q hx
            rw [hy] at e'
            cases e'
            show (if _ then _ else _) = _
            rw [if_neg (by omega)]
  · intro p e
    cases hx : x with
    | none =>
      rw [hx] at e
      have e : a = some p := e
      obtain ⟨q, hq, g⟩ := a2 p e
      rw [hq]
      cases hy : y with
      | none => exact ⟨q, rfl, g⟩
      | some y0 =>
        show ∃ q', (if y0.1 < q.1 then some y0 else some q) = some q' ∧ _
        split
        · exact ⟨_, rfl, by omega⟩
        · exact ⟨_, rfl, g⟩
    | some x0 =>
      obtain ⟨y0, hy, gy⟩ := x2 x0 hx
      rw [hx] at e
      rw [hy]
      cases ha : a with
      | none =>
        rw [ha] at e
        have e : some x0 = some p := e
        cases e
        cases hb : b with
        | none => exact ⟨y0, rfl, gy⟩
        | some b0 =>
          show ∃ q', (if y0.1 < b0.1 then some y0 else some b0) = some q' ∧ _
          split
          · exact ⟨_, rfl, by omega⟩
          · exact ⟨_, rfl, by omega⟩
      | some a0 =>
        obtain ⟨b0, hb, gb⟩ := a2 a0 ha
        rw [ha] at e
        have e : (if x0.1 < a0.1 then some x0 else some a0) = some p := e
        rw [hb]
        show ∃ q', (if y0.1 < b0.1 then some y0 else some b0) = some q' ∧ _
        split at e <;> (cases e; split <;> exact ⟨_, rfl, by omega⟩)
theorem uRl_fo {g h : Int → uR} (N : Nat) (hh : ∀ k : Nat, k < N → uRl n (g k) (h k)) : uRl n (uFo g N) (uFo h N) := by
  induction N with
  | zero => exact ⟨fun p e => (by cases e), fun p e => (by cases e)⟩
  | succ m ih => exact uRl_bet (ih fun k hk => hh k (by omega)) (hh m (by omega))
theorem uRl_opt : ∀ (n : Nat) (S : Int → Int), uRl n (uOpt dr wp pr f ts n S) (uOpt dr wp pr f ts (n + 1) S) := by
  intro n
  induction n with
  | zero =>
    intro S
    constructor
    · intro p e hl
      exfalso
      rw [uOpt_s] at e
      have : ¬ p.2.length ≤ 0 := by
        refine uFo_all (P := fun p => ¬ p.2.length ≤ 0) 41 (fun k hk q eq => ?_) p e
        unfold uOne at eq
        by_cases hc : uCan dr wp f S k
        · rw [uIf_t hc] at eq
          cases hh : uHold f ts (uApp f S k) with
          | true =>
            rw [hh] at eq
            have eq : some (uCs pr k, [(k : Int)]) = some q := eq
            cases eq
            exact Nat.not_succ_le_zero 0
          | false =>
            rw [hh] at eq
            cases eq
        · rw [uIf_f hc] at eq
          cases eq
      exact this hl
    · intro p e
      cases e
  | succ n ih =>
    intro S
    rw [uOpt_s (n := n), uOpt_s (n := n + 1)]
    refine uRl_fo 41 fun k hk => ?_
    unfold uOne
    by_cases hc : uCan dr wp f S k
    · rw [uIf_t hc, uIf_t hc]
      cases hh : uHold f ts (uApp f S k) with
      | true => exact ⟨fun p e _ => e, fun p e => ⟨p, e, Int.le_refl _⟩⟩
      | false =>
        obtain ⟨i1, i2⟩ := ih (uApp f S k)
        show uRl (n + 1) (uSh (uCs pr k) k (uOpt dr wp pr f ts n (uApp f S k))) (uSh (uCs pr k) k (uOpt dr wp pr f ts (n + 1) (uApp f S k)))
        unfold uSh
        constructor
        · intro p e hl
          cases ho : uOpt dr wp pr f ts (n + 1) (uApp f S k) with
          | none =>
            rw [ho] at e
            cases e
          | some q =>
            rw [ho] at e
            cases e
            have hl : q.2.length + 1 ≤ n + 1 := hl
            rw [i1 q ho (by omega)]
            rfl
        · intro p e
          cases ho : uOpt dr wp pr f ts n (uApp f S k) with
          | none =>
            rw [ho] at e
            cases e
          | some q =>
            rw [ho] at e
            cases e
            obtain ⟨q', e', g⟩ := i2 q ho
            rw [e']
            exact ⟨_, rfl, by show uCs pr k + q'.1 ≤ uCs pr k + q.1; omega⟩
    · rw [uIf_f hc, uIf_f hc]
      exact ⟨fun p e _ => (by cases e), fun p e => (by cases e)⟩
/-- of more deeds: the same, or cheaper -/
theorem uOpt_mono {m : Nat} (h : n ≤ m) : (∀ p, uOpt dr wp pr f ts m S = some p → p.2.length ≤ n → uOpt dr wp pr f ts n S = some p) ∧ (∀ p, uOpt dr wp pr f ts n S = some p → ∃ q, uOpt dr wp pr f ts m S = some q ∧ q.1 ≤ p.1) := by
  obtain ⟨d, rfl⟩ : ∃ d, m = n + d := ⟨m - n, by omega⟩
  clear h
  induction d with
  | zero => exact ⟨fun p e _ => e, fun p e => ⟨p, e, Int.le_refl _⟩⟩
  | succ d ih =>
    obtain ⟨j1, j2⟩ := uRl_opt (dr := dr) (wp := wp) (pr := pr) (f := f) (ts := ts) (n + d) S
    refine ⟨fun p e hl => ih.1 p (j1 p e (by omega)) hl, fun p e => ?_⟩
    obtain ⟨q, hq, g⟩ := ih.2 p e
    obtain ⟨q', hq', g'⟩ := j2 q hq
    exact ⟨q', hq', by omega⟩
end
end
end
