/-! exact: feed -/
section
set_option maxRecDepth 100000
theorem xi29 : pmInf[29]? = some pmI_29 := rfl
theorem xi30 : pmInf[30]? = some pmI_30 := rfl
theorem xi151 : pmInf[151]? = some pmI_151 := rfl
theorem xi152 : pmInf[152]? = some pmI_152 := rfl
theorem xc29_0 : pmCode 29 0 = some (.aload_n 0) ∧ 0 + 1 = 1 := ⟨rfl, rfl⟩
theorem xc29_1 : pmCode 29 1 = some (.getfield 10) ∧ 1 + 3 = 4 := ⟨rfl, rfl⟩
theorem xc29_4 : pmCode 29 4 = some (.getfield 159) ∧ 4 + 3 = 7 := ⟨rfl, rfl⟩
theorem xc29_7 : pmCode 29 7 = some (.bipush 20) ∧ 7 + 2 = 9 := ⟨rfl, rfl⟩
theorem xc29_9 : pmCode 29 9 = some .iadd ∧ 9 + 1 = 10 := ⟨rfl, rfl⟩
theorem xc29_10 : pmCode 29 10 = some (.sipush 400) ∧ 10 + 3 = 13 := ⟨rfl, rfl⟩
theorem xc29_13 : pmCode 29 13 = some (.if_icmp .le 5) ∧ ((13 : Nat) : Int) + 5 = ((18 : Nat) : Int) ∧ 13 + 3 = 16 := ⟨rfl, rfl, rfl⟩
theorem xc29_16 : pmCode 29 16 = some (.iconst (-1)) ∧ 16 + 1 = 17 := ⟨rfl, rfl⟩
theorem xc29_17 : pmCode 29 17 = some .ireturn := rfl
theorem xc29_18 : pmCode 29 18 = some (.aload_n 0) ∧ 18 + 1 = 19 := ⟨rfl, rfl⟩
theorem xc29_19 : pmCode 29 19 = some (.getfield 10) ∧ 19 + 3 = 22 := ⟨rfl, rfl⟩
theorem xc29_22 : pmCode 29 22 = some (.iload_n 1) ∧ 22 + 1 = 23 := ⟨rfl, rfl⟩
theorem xc29_23 : pmCode 29 23 = some (.invokevirtual 162) ∧ 23 + 3 = 26 := ⟨rfl, rfl⟩
theorem xc29_26 : pmCode 29 26 = some (.aload_n 0) ∧ 26 + 1 = 27 := ⟨rfl, rfl⟩
theorem xc29_27 : pmCode 29 27 = some (.getfield 10) ∧ 27 + 3 = 30 := ⟨rfl, rfl⟩
theorem xc29_30 : pmCode 29 30 = some (.iload_n 2) ∧ 30 + 1 = 31 := ⟨rfl, rfl⟩
theorem xc29_31 : pmCode 29 31 = some (.invokevirtual 162) ∧ 31 + 3 = 34 := ⟨rfl, rfl⟩
theorem xc29_34 : pmCode 29 34 = some (.aload_n 0) ∧ 34 + 1 = 35 := ⟨rfl, rfl⟩
theorem xc29_35 : pmCode 29 35 = some (.getfield 10) ∧ 35 + 3 = 38 := ⟨rfl, rfl⟩
theorem xc29_38 : pmCode 29 38 = some (.iload_n 3) ∧ 38 + 1 = 39 := ⟨rfl, rfl⟩
theorem xc29_39 : pmCode 29 39 = some (.invokevirtual 162) ∧ 39 + 3 = 42 := ⟨rfl, rfl⟩
theorem xc29_42 : pmCode 29 42 = some (.aload_n 0) ∧ 42 + 1 = 43 := ⟨rfl, rfl⟩
theorem xc29_43 : pmCode 29 43 = some (.getfield 10) ∧ 43 + 3 = 46 := ⟨rfl, rfl⟩
theorem xc29_46 : pmCode 29 46 = some (.iload 4) ∧ 46 + 2 = 48 := ⟨rfl, rfl⟩
theorem xc29_48 : pmCode 29 48 = some (.invokevirtual 162) ∧ 48 + 3 = 51 := ⟨rfl, rfl⟩
theorem xc29_51 : pmCode 29 51 = some (.aload_n 0) ∧ 51 + 1 = 52 := ⟨rfl, rfl⟩
theorem xc29_52 : pmCode 29 52 = some (.getfield 10) ∧ 52 + 3 = 55 := ⟨rfl, rfl⟩
theorem xc29_55 : pmCode 29 55 = some (.iload 5) ∧ 55 + 2 = 57 := ⟨rfl, rfl⟩
theorem xc29_57 : pmCode 29 57 = some (.invokevirtual 162) ∧ 57 + 3 = 60 := ⟨rfl, rfl⟩
theorem xc29_60 : pmCode 29 60 = some (.aload_n 0) ∧ 60 + 1 = 61 := ⟨rfl, rfl⟩
theorem xc29_61 : pmCode 29 61 = some (.getfield 10) ∧ 61 + 3 = 64 := ⟨rfl, rfl⟩
theorem xc29_64 : pmCode 29 64 = some (.getfield 159) ∧ 64 + 3 = 67 := ⟨rfl, rfl⟩
theorem xc29_67 : pmCode 29 67 = some .ireturn := rfl
theorem xc30_0 : pmCode 30 0 = some (.bipush 24) ∧ 0 + 2 = 2 := ⟨rfl, rfl⟩
theorem xc30_2 : pmCode 30 2 = some (.istore_n 2) ∧ 2 + 1 = 3 := ⟨rfl, rfl⟩
theorem xc30_3 : pmCode 30 3 = some (.iload_n 2) ∧ 3 + 1 = 4 := ⟨rfl, rfl⟩
theorem xc30_4 : pmCode 30 4 = some (.ifCond .lt 45) ∧ ((4 : Nat) : Int) + 45 = ((49 : Nat) : Int) ∧ 4 + 3 = 7 := ⟨rfl, rfl, rfl⟩
theorem xc30_7 : pmCode 30 7 = some (.aload_n 0) ∧ 7 + 1 = 8 := ⟨rfl, rfl⟩
theorem xc30_8 : pmCode 30 8 = some (.getfield 15) ∧ 8 + 3 = 11 := ⟨rfl, rfl⟩
theorem xc30_11 : pmCode 30 11 = some (.sipush 400) ∧ 11 + 3 = 14 := ⟨rfl, rfl⟩
theorem xc30_14 : pmCode 30 14 = some (.if_icmp .ge 29) ∧ ((14 : Nat) : Int) + 29 = ((43 : Nat) : Int) ∧ 14 + 3 = 17 := ⟨rfl, rfl, rfl⟩
theorem xc30_17 : pmCode 30 17 = some (.aload_n 0) ∧ 17 + 1 = 18 := ⟨rfl, rfl⟩
theorem xc30_18 : pmCode 30 18 = some (.getfield 9) ∧ 18 + 3 = 21 := ⟨rfl, rfl⟩
theorem xc30_21 : pmCode 30 21 = some (.aload_n 0) ∧ 21 + 1 = 22 := ⟨rfl, rfl⟩
theorem xc30_22 : pmCode 30 22 = some (.getfield 15) ∧ 22 + 3 = 25 := ⟨rfl, rfl⟩
theorem xc30_25 : pmCode 30 25 = some (.iload_n 1) ∧ 25 + 1 = 26 := ⟨rfl, rfl⟩
theorem xc30_26 : pmCode 30 26 = some (.iload_n 2) ∧ 26 + 1 = 27 := ⟨rfl, rfl⟩
theorem xc30_27 : pmCode 30 27 = some .iushr ∧ 27 + 1 = 28 := ⟨rfl, rfl⟩
theorem xc30_28 : pmCode 30 28 = some (.sipush 255) ∧ 28 + 3 = 31 := ⟨rfl, rfl⟩
theorem xc30_31 : pmCode 30 31 = some .iand ∧ 31 + 1 = 32 := ⟨rfl, rfl⟩
theorem xc30_32 : pmCode 30 32 = some .iastore ∧ 32 + 1 = 33 := ⟨rfl, rfl⟩
theorem xc30_33 : pmCode 30 33 = some (.aload_n 0) ∧ 33 + 1 = 34 := ⟨rfl, rfl⟩
theorem xc30_34 : pmCode 30 34 = some .dup ∧ 34 + 1 = 35 := ⟨rfl, rfl⟩
theorem xc30_35 : pmCode 30 35 = some (.getfield 15) ∧ 35 + 3 = 38 := ⟨rfl, rfl⟩
theorem xc30_38 : pmCode 30 38 = some (.iconst 1) ∧ 38 + 1 = 39 := ⟨rfl, rfl⟩
theorem xc30_39 : pmCode 30 39 = some .iadd ∧ 39 + 1 = 40 := ⟨rfl, rfl⟩
theorem xc30_40 : pmCode 30 40 = some (.putfield 15) ∧ 40 + 3 = 43 := ⟨rfl, rfl⟩
theorem xc30_43 : pmCode 30 43 = some (.iinc 2 (-8)) ∧ 43 + 3 = 46 := ⟨rfl, rfl⟩
theorem xc30_46 : pmCode 30 46 = some (.goto (-43)) ∧ ((46 : Nat) : Int) + (-43) = ((3 : Nat) : Int) := ⟨rfl, rfl⟩
theorem xc30_49 : pmCode 30 49 = some .return_ := rfl
theorem xc151_0 : pmCode 151 0 = some (.aload_n 0) ∧ 0 + 1 = 1 := ⟨rfl, rfl⟩
theorem xc151_1 : pmCode 151 1 = some (.getfield 163) ∧ 1 + 3 = 4 := ⟨rfl, rfl⟩
theorem xc151_4 : pmCode 151 4 = some (.bipush 20) ∧ 4 + 2 = 6 := ⟨rfl, rfl⟩
theorem xc151_6 : pmCode 151 6 = some .iadd ∧ 6 + 1 = 7 := ⟨rfl, rfl⟩
theorem xc151_7 : pmCode 151 7 = some (.sipush 400) ∧ 7 + 3 = 10 := ⟨rfl, rfl⟩
theorem xc151_10 : pmCode 151 10 = some (.if_icmp .le 5) ∧ ((10 : Nat) : Int) + 5 = ((15 : Nat) : Int) ∧ 10 + 3 = 13 := ⟨rfl, rfl, rfl⟩
theorem xc151_13 : pmCode 151 13 = some (.iconst (-1)) ∧ 13 + 1 = 14 := ⟨rfl, rfl⟩
theorem xc151_14 : pmCode 151 14 = some .ireturn := rfl
theorem xc151_15 : pmCode 151 15 = some (.aload_n 0) ∧ 15 + 1 = 16 := ⟨rfl, rfl⟩
theorem xc151_16 : pmCode 151 16 = some (.iload_n 1) ∧ 16 + 1 = 17 := ⟨rfl, rfl⟩
theorem xc151_17 : pmCode 151 17 = some (.invokevirtual 166) ∧ 17 + 3 = 20 := ⟨rfl, rfl⟩
theorem xc151_20 : pmCode 151 20 = some (.aload_n 0) ∧ 20 + 1 = 21 := ⟨rfl, rfl⟩
theorem xc151_21 : pmCode 151 21 = some (.iload_n 2) ∧ 21 + 1 = 22 := ⟨rfl, rfl⟩
theorem xc151_22 : pmCode 151 22 = some (.invokevirtual 166) ∧ 22 + 3 = 25 := ⟨rfl, rfl⟩
theorem xc151_25 : pmCode 151 25 = some (.aload_n 0) ∧ 25 + 1 = 26 := ⟨rfl, rfl⟩
theorem xc151_26 : pmCode 151 26 = some (.iload_n 3) ∧ 26 + 1 = 27 := ⟨rfl, rfl⟩
theorem xc151_27 : pmCode 151 27 = some (.invokevirtual 166) ∧ 27 + 3 = 30 := ⟨rfl, rfl⟩
theorem xc151_30 : pmCode 151 30 = some (.aload_n 0) ∧ 30 + 1 = 31 := ⟨rfl, rfl⟩
theorem xc151_31 : pmCode 151 31 = some (.iload 4) ∧ 31 + 2 = 33 := ⟨rfl, rfl⟩
theorem xc151_33 : pmCode 151 33 = some (.invokevirtual 166) ∧ 33 + 3 = 36 := ⟨rfl, rfl⟩
theorem xc151_36 : pmCode 151 36 = some (.aload_n 0) ∧ 36 + 1 = 37 := ⟨rfl, rfl⟩
theorem xc151_37 : pmCode 151 37 = some (.iload 5) ∧ 37 + 2 = 39 := ⟨rfl, rfl⟩
theorem xc151_39 : pmCode 151 39 = some (.invokevirtual 166) ∧ 39 + 3 = 42 := ⟨rfl, rfl⟩
theorem xc151_42 : pmCode 151 42 = some (.aload_n 0) ∧ 42 + 1 = 43 := ⟨rfl, rfl⟩
theorem xc151_43 : pmCode 151 43 = some (.getfield 163) ∧ 43 + 3 = 46 := ⟨rfl, rfl⟩
theorem xc151_46 : pmCode 151 46 = some .ireturn := rfl
theorem xc152_0 : pmCode 152 0 = some (.iconst 3) ∧ 0 + 1 = 1 := ⟨rfl, rfl⟩
theorem xc152_1 : pmCode 152 1 = some (.istore_n 2) ∧ 1 + 1 = 2 := ⟨rfl, rfl⟩
theorem xc152_2 : pmCode 152 2 = some (.iload_n 2) ∧ 2 + 1 = 3 := ⟨rfl, rfl⟩
theorem xc152_3 : pmCode 152 3 = some (.ifCond .lt 35) ∧ ((3 : Nat) : Int) + 35 = ((38 : Nat) : Int) ∧ 3 + 3 = 6 := ⟨rfl, rfl, rfl⟩
theorem xc152_6 : pmCode 152 6 = some (.aload_n 0) ∧ 6 + 1 = 7 := ⟨rfl, rfl⟩
theorem xc152_7 : pmCode 152 7 = some (.getfield 26) ∧ 7 + 3 = 10 := ⟨rfl, rfl⟩
theorem xc152_10 : pmCode 152 10 = some (.aload_n 0) ∧ 10 + 1 = 11 := ⟨rfl, rfl⟩
theorem xc152_11 : pmCode 152 11 = some (.getfield 163) ∧ 11 + 3 = 14 := ⟨rfl, rfl⟩
theorem xc152_14 : pmCode 152 14 = some (.iload_n 1) ∧ 14 + 1 = 15 := ⟨rfl, rfl⟩
theorem xc152_15 : pmCode 152 15 = some (.bipush 8) ∧ 15 + 2 = 17 := ⟨rfl, rfl⟩
theorem xc152_17 : pmCode 152 17 = some (.iload_n 2) ∧ 17 + 1 = 18 := ⟨rfl, rfl⟩
theorem xc152_18 : pmCode 152 18 = some .imul ∧ 18 + 1 = 19 := ⟨rfl, rfl⟩
theorem xc152_19 : pmCode 152 19 = some .ishr ∧ 19 + 1 = 20 := ⟨rfl, rfl⟩
theorem xc152_20 : pmCode 152 20 = some .i2b ∧ 20 + 1 = 21 := ⟨rfl, rfl⟩
theorem xc152_21 : pmCode 152 21 = some .bastore ∧ 21 + 1 = 22 := ⟨rfl, rfl⟩
theorem xc152_22 : pmCode 152 22 = some (.aload_n 0) ∧ 22 + 1 = 23 := ⟨rfl, rfl⟩
theorem xc152_23 : pmCode 152 23 = some (.aload_n 0) ∧ 23 + 1 = 24 := ⟨rfl, rfl⟩
theorem xc152_24 : pmCode 152 24 = some (.getfield 163) ∧ 24 + 3 = 27 := ⟨rfl, rfl⟩
theorem xc152_27 : pmCode 152 27 = some (.iconst 1) ∧ 27 + 1 = 28 := ⟨rfl, rfl⟩
theorem xc152_28 : pmCode 152 28 = some .iadd ∧ 28 + 1 = 29 := ⟨rfl, rfl⟩
theorem xc152_29 : pmCode 152 29 = some (.putfield 163) ∧ 29 + 3 = 32 := ⟨rfl, rfl⟩
theorem xc152_32 : pmCode 152 32 = some (.iinc 2 (-1)) ∧ 32 + 3 = 35 := ⟨rfl, rfl⟩
theorem xc152_35 : pmCode 152 35 = some (.goto (-33)) ∧ ((35 : Nat) : Int) + (-33) = ((2 : Nat) : Int) := ⟨rfl, rfl⟩
theorem xc152_38 : pmCode 152 38 = some .return_ := rfl
/-- a byte of four; a tape with four more -/
def fB (x i : Int) : Int := if i = 0 then x / 16777216 % 256 else if i = 1 then x / 65536 % 256 else if i = 2 then x / 256 % 256 else x / 1 % 256
def fT (t : Int → Int) (l x j : Int) : Int := if j < l then t j else fB x (j - l)
theorem fUn {x : Int} (h : xR x) (s : Nat) (hs : s < 32) : xUs x (s : Int) = Int.bmod (x % 4294967296 / ((2 ^ s : Nat) : Int)) 4294967296 := by
  have h5 : (UInt32.mod ((Int32.ofInt (s : Int)).toUInt32 &&& Int32.toUInt32 31) 32).toBitVec.toNat = s := by
    have key : ∀ k : Fin 32, (UInt32.mod ((Int32.ofInt ((k.val : Nat) : Int)).toUInt32 &&& Int32.toUInt32 31) 32).toBitVec.toNat = k.val := by decide
    exact key ⟨s, hs⟩
  have e1 : xUs x (s : Int) = ((Int32.ofInt x).toBitVec >>> s).toInt := by
    show ((Int32.ofInt x).toBitVec >>> (UInt32.mod ((Int32.ofInt (s : Int)).toUInt32 &&& Int32.toUInt32 31) 32).toBitVec).toInt = _
    rw [BitVec.ushiftRight_eq', h5]
  have e2 : ((Int32.ofInt x).toBitVec.toNat : Int) = x % 4294967296 := by
    show ((BitVec.ofInt 32 x).toNat : Int) = _
    rw [BitVec.toNat_ofInt, Int.toNat_of_nonneg (Int.emod_nonneg _ (by decide))]
    rfl
  rw [e1, BitVec.toInt_eq_toNat_bmod, BitVec.toNat_ushiftRight, Nat.shiftRight_eq_div_pow, Int.natCast_ediv, e2]
theorem fBm {z : Int} : (Int.bmod z 4294967296) % 256 = z % 256 := by
  have h := Int.bmod_emod (x := z) (m := 4294967296)
  have h1 : (Int.bmod z 4294967296) % ((4294967296 : Nat) : Int) % 256 = z % ((4294967296 : Nat) : Int) % 256 := by rw [h]
  have d : ((256 : Int)) ∣ ((4294967296 : Nat) : Int) := by decide
  rw [Int.emod_emod_of_dvd _ d, Int.emod_emod_of_dvd _ d] at h1
  exact h1
theorem fU24 {x : Int} (h : xR x) : xUs x 24 % 256 = x / 16777216 % 256 := by
  rw [show xUs x 24 = _ from fUn h 24 (by decide), fBm, show ((2 ^ 24 : Nat) : Int) = 16777216 from rfl]
  omega
theorem fU16 {x : Int} (h : xR x) : xUs x 16 % 256 = x / 65536 % 256 := by
  rw [show xUs x 16 = _ from fUn h 16 (by decide), fBm, show ((2 ^ 16 : Nat) : Int) = 65536 from rfl]
  omega
theorem fU8 {x : Int} (h : xR x) : xUs x 8 % 256 = x / 256 % 256 := by
  rw [show xUs x 8 = _ from fUn h 8 (by decide), fBm, show ((2 ^ 8 : Nat) : Int) = 256 from rfl]
  omega
theorem fU0 {x : Int} (h : xR x) : xUs x 0 % 256 = x / 1 % 256 := by
  rw [show xUs x 0 = _ from fUn h 0 (by decide), fBm, show ((2 ^ 0 : Nat) : Int) = 1 from rfl]
  omega
theorem fBy {z : Int} : xByte z % 256 = z % 256 := by
  unfold xByte
  rw [Int8.toInt_toInt32, Int32.toInt_toInt8]
  have h := Int.bmod_emod (x := (Int32.ofInt z).toInt) (m := 2 ^ 8)
  have e : (2 ^ 8 : Nat) = 256 := rfl
  rw [e] at h ⊢
  have h' : ((Int32.ofInt z).toInt.bmod 256) % 256 = (Int32.ofInt z).toInt % 256 := h
  rw [h', Int32.toInt_ofInt]
  exact fBm

theorem xg30 {ro : Nat → Nat × (Nat → Int32)} {d : Nat} {Q : Option Value → pmS → Prop} {a : xA} {b : xB} {x : Int} (h : pmWp ro d 6 30 0 0 [some (.ref 1), some (xV x), none] [] (xS a b) Q) : pmCs ro (d + 1) 30 [.ref 1, xV x] (xS a b) Q := x_go xi30 rfl rfl rfl rfl rfl h
theorem w30 {ro : Nat → Nat × (Nat → Int32)} {d : Nat} {Q : Option Value → pmS → Prop} {a : xA} {b : xB} {x l : Int} (h_x : xR x) (hl : a 1 1 = l) (hl0 : 0 ≤ l ∧ l ≤ 396) (hA : xAr a)
    (k1 : Q none (xS (xU (xU (xU (xU (xU (xU (xU (xU a 2 l ((xUs x 24) % 256)) 1 1 (l + 1)) 2 (l + 1) ((xUs x (24 + (-8))) % 256)) 1 1 (l + 1 + 1)) 2 (l + 1 + 1) ((xUs x (24 + (-8) + (-8))) % 256)) 1 1 (l + 1 + 1 + 1)) 2 (l + 1 + 1 + 1) ((xUs x (24 + (-8) + (-8) + (-8))) % 256)) 1 1 (l + 1 + 1 + 1 + 1)) b)) :
    pmWp ro d 6 30 0 0 [some (.ref 1), some (xV x), none] [] (xS a b) Q := by
  refine x_bipush xc30_0 (by decide) ?_
  refine x_istoren (pl' := [some (.ref 1), some (xV x), some (xV 24)]) xc30_2 rfl rfl ?_
  refine x_iloadn xc30_3 rfl ?_
  refine x_iflt xc30_4 (xRk (by decide)) (fun h => absurd h (by omega)) (fun _ => ?_)
  refine x_aloadn xc30_7 rfl ?_
  refine x_gfi' (k := 1) (v := l) xc30_8 rfl (Or.inl rfl) rfl xz1 hl ?_
  refine x_sipush xc30_11 (by decide) ?_
  refine x_icge xc30_14 (xRk (by omega)) (xRk (by decide)) (fun h => absurd h (by omega)) (fun _ => ?_)
  refine x_aloadn xc30_17 rfl ?_
  refine x_gfr xc30_18 rfl rfl xz1 rfl ?_
  refine x_aloadn xc30_21 rfl ?_
  refine x_gfi' (k := 1) (v := l) xc30_22 rfl (Or.inl rfl) rfl xz1 hl ?_
  refine x_iloadn xc30_25 rfl ?_
  refine x_iloadn xc30_26 rfl ?_
  refine x_iushr xc30_27 ?_
  refine x_sipush xc30_28 (by decide) ?_
  refine x_iandm (M := 256) 8 (by decide) (by decide) (by decide) xc30_31 ?_
  refine x_ias xc30_32 xz2 (by omega) (by omega) (by omega) ?_
  refine x_aloadn xc30_33 rfl ?_
  refine x_dup xc30_34 rfl ?_
  refine x_gfi' (k := 1) (v := l) xc30_35 rfl (Or.inl rfl) rfl xz1 (by rw [xUn (by decide), hl]) ?_
  refine x_iconst xc30_38 ?_
  refine x_iadd xc30_39 ?_
  refine x_pfi (k := 1) xc30_40 rfl ⟨rfl, rfl⟩ rfl xz1 ?_
  refine x_iinc (pl' := [some (.ref 1), some (xV x), some (xV (24 + (-8)))]) xc30_43 rfl rfl ?_
  refine x_goto xc30_46 ?_
  refine x_iloadn xc30_3 rfl ?_
  refine x_iflt xc30_4 (xRk (by decide)) (fun h => absurd h (by omega)) (fun _ => ?_)
  refine x_aloadn xc30_7 rfl ?_
  refine x_gfi' (k := 1) (v := l + 1) xc30_8 rfl (Or.inl rfl) rfl xz1 (by rw [xUa]) ?_
  refine x_sipush xc30_11 (by decide) ?_
  refine x_icge xc30_14 (xRk (by omega)) (xRk (by decide)) (fun h => absurd h (by omega)) (fun _ => ?_)
  refine x_aloadn xc30_17 rfl ?_
  refine x_gfr xc30_18 rfl rfl xz1 rfl ?_
  refine x_aloadn xc30_21 rfl ?_
  refine x_gfi' (k := 1) (v := l + 1) xc30_22 rfl (Or.inl rfl) rfl xz1 (by rw [xUa]) ?_
  refine x_iloadn xc30_25 rfl ?_
  refine x_iloadn xc30_26 rfl ?_
  refine x_iushr xc30_27 ?_
  refine x_sipush xc30_28 (by decide) ?_
  refine x_iandm (M := 256) 8 (by decide) (by decide) (by decide) xc30_31 ?_
  refine x_ias xc30_32 xz2 (by omega) (by omega) (by omega) ?_
  refine x_aloadn xc30_33 rfl ?_
  refine x_dup xc30_34 rfl ?_
  refine x_gfi' (k := 1) (v := l + 1) xc30_35 rfl (Or.inl rfl) rfl xz1 (by rw [xUn (by decide), xUa]) ?_
  refine x_iconst xc30_38 ?_
  refine x_iadd xc30_39 ?_
  refine x_pfi (k := 1) xc30_40 rfl ⟨rfl, rfl⟩ rfl xz1 ?_
  refine x_iinc (pl' := [some (.ref 1), some (xV x), some (xV (24 + (-8) + (-8)))]) xc30_43 rfl rfl ?_
  refine x_goto xc30_46 ?_
  refine x_iloadn xc30_3 rfl ?_
  refine x_iflt xc30_4 (xRk (by decide)) (fun h => absurd h (by omega)) (fun _ => ?_)
  refine x_aloadn xc30_7 rfl ?_
  refine x_gfi' (k := 1) (v := l + 1 + 1) xc30_8 rfl (Or.inl rfl) rfl xz1 (by rw [xUa]) ?_
  refine x_sipush xc30_11 (by decide) ?_
  refine x_icge xc30_14 (xRk (by omega)) (xRk (by decide)) (fun h => absurd h (by omega)) (fun _ => ?_)
  refine x_aloadn xc30_17 rfl ?_
  refine x_gfr xc30_18 rfl rfl xz1 rfl ?_
  refine x_aloadn xc30_21 rfl ?_
  refine x_gfi' (k := 1) (v := l + 1 + 1) xc30_22 rfl (Or.inl rfl) rfl xz1 (by rw [xUa]) ?_
  refine x_iloadn xc30_25 rfl ?_
  refine x_iloadn xc30_26 rfl ?_
  refine x_iushr xc30_27 ?_
  refine x_sipush xc30_28 (by decide) ?_
  refine x_iandm (M := 256) 8 (by decide) (by decide) (by decide) xc30_31 ?_
  refine x_ias xc30_32 xz2 (by omega) (by omega) (by omega) ?_
  refine x_aloadn xc30_33 rfl ?_
  refine x_dup xc30_34 rfl ?_
  refine x_gfi' (k := 1) (v := l + 1 + 1) xc30_35 rfl (Or.inl rfl) rfl xz1 (by rw [xUn (by decide), xUa]) ?_
  refine x_iconst xc30_38 ?_
  refine x_iadd xc30_39 ?_
  refine x_pfi (k := 1) xc30_40 rfl ⟨rfl, rfl⟩ rfl xz1 ?_
  refine x_iinc (pl' := [some (.ref 1), some (xV x), some (xV (24 + (-8) + (-8) + (-8)))]) xc30_43 rfl rfl ?_
  refine x_goto xc30_46 ?_
  refine x_iloadn xc30_3 rfl ?_
  refine x_iflt xc30_4 (xRk (by decide)) (fun h => absurd h (by omega)) (fun _ => ?_)
  refine x_aloadn xc30_7 rfl ?_
  refine x_gfi' (k := 1) (v := l + 1 + 1 + 1) xc30_8 rfl (Or.inl rfl) rfl xz1 (by rw [xUa]) ?_
  refine x_sipush xc30_11 (by decide) ?_
  refine x_icge xc30_14 (xRk (by omega)) (xRk (by decide)) (fun h => absurd h (by omega)) (fun _ => ?_)
  refine x_aloadn xc30_17 rfl ?_
  refine x_gfr xc30_18 rfl rfl xz1 rfl ?_
  refine x_aloadn xc30_21 rfl ?_
  refine x_gfi' (k := 1) (v := l + 1 + 1 + 1) xc30_22 rfl (Or.inl rfl) rfl xz1 (by rw [xUa]) ?_
  refine x_iloadn xc30_25 rfl ?_
  refine x_iloadn xc30_26 rfl ?_
  refine x_iushr xc30_27 ?_
  refine x_sipush xc30_28 (by decide) ?_
  refine x_iandm (M := 256) 8 (by decide) (by decide) (by decide) xc30_31 ?_
  refine x_ias xc30_32 xz2 (by omega) (by omega) (by omega) ?_
  refine x_aloadn xc30_33 rfl ?_
  refine x_dup xc30_34 rfl ?_
  refine x_gfi' (k := 1) (v := l + 1 + 1 + 1) xc30_35 rfl (Or.inl rfl) rfl xz1 (by rw [xUn (by decide), xUa]) ?_
  refine x_iconst xc30_38 ?_
  refine x_iadd xc30_39 ?_
  refine x_pfi (k := 1) xc30_40 rfl ⟨rfl, rfl⟩ rfl xz1 ?_
  refine x_iinc (pl' := [some (.ref 1), some (xV x), some (xV (24 + (-8) + (-8) + (-8) + (-8)))]) xc30_43 rfl rfl ?_
  refine x_goto xc30_46 ?_
  refine x_iloadn xc30_3 rfl ?_
  refine x_iflt xc30_4 (xRk (by decide)) (fun _ => ?_) (fun h => absurd h (by omega))
  refine x_ret xc30_49 rfl ?_
  exact k1

theorem xk30 {ro : Nat → Nat × (Nat → Int32)} {d : Nat} {Q : Option Value → pmS → Prop} {a : xA} {b : xB} {x l : Int} {t : Int → Int} (h_x : xR x) (hl : a 1 1 = l) (hl0 : 0 ≤ l ∧ l ≤ 396) (ht : ∀ j, 0 ≤ j → j < l → a 2 j = t j) (hA : xAr a) (hd : 1 ≤ d) (hQ : ∀ a1, xAr a1 → a1 1 1 = l + 4 → (∀ j, 0 ≤ j → j < l + 4 → a1 2 j = fT t l x j) → Q none (xS a1 b)) : pmCs ro d 30 [.ref 1, xV x] (xS a b) Q := by
  refine pmCs_deep (d := 1) (xg30 (w30 h_x hl hl0 hA ?_)) hd
  have bx : ∀ s : Int, xR (xUs x s % 256) := fun s => ⟨by omega, by omega⟩
  refine hQ _ ?_ ?_ (fun j j0 j1 => ?_)
  · repeat (first | exact hA | refine xAr_u ?_ ?_ | exact bx _ | exact ⟨by omega, by omega⟩)
  · rw [xUa]
    omega
  · rw [xUn (by decide)]
    have e0 := fU24 h_x
    have e1 : xUs x (24 + (-8)) % 256 = _ := fU16 h_x
    have e2 : xUs x (24 + (-8) + (-8)) % 256 = _ := fU8 h_x
    have e3 : xUs x (24 + (-8) + (-8) + (-8)) % 256 = _ := fU0 h_x
    unfold fT fB
    by_cases c3 : j = l + 1 + 1 + 1
    · subst c3
      rw [xUa, e3, if_neg (by omega), if_neg (by omega), if_neg (by omega), if_neg (by omega)]
    · rw [xUk c3, xUn (by decide)]
      by_cases c2 : j = l + 1 + 1
      · subst c2
        rw [xUa, e2, if_neg (by omega), if_neg (by omega), if_neg (by omega), if_pos (by omega)]
      · rw [xUk c2, xUn (by decide)]
        by_cases c1 : j = l + 1
        · subst c1
          rw [xUa, e1, if_neg (by omega), if_neg (by omega), if_pos (by omega)]
        · rw [xUk c1, xUn (by decide)]
          by_cases c0 : j = l
          · subst c0
            rw [xUa, e0, if_neg (by omega), if_pos (by omega)]
          · rw [xUk c0, if_pos (by omega)]
            exact ht j j0 (by omega)
theorem xg152 {ro : Nat → Nat × (Nat → Int32)} {d : Nat} {Q : Option Value → pmS → Prop} {a : xA} {b : xB} {x : Int} (h : pmWp ro d 12 152 0 0 [some (.ref 87), some (xV x), none] [] (xS a b) Q) : pmCs ro (d + 1) 152 [.ref 87, xV x] (xS a b) Q := x_go xi152 rfl rfl rfl rfl rfl h
theorem w152 {ro : Nat → Nat × (Nat → Int32)} {d : Nat} {Q : Option Value → pmS → Prop} {a : xA} {b : xB} {x l : Int} (h_x : xR x) (hl : a 87 9 = l) (hl0 : 0 ≤ l ∧ l ≤ 396) (hA : xAr a)
    (k1 : Q none (xS (xU (xU (xU (xU (xU (xU (xU (xU a 93 l (xByte (x / 16777216))) 87 9 (l + 1)) 93 (l + 1) (xByte (x / 65536))) 87 9 (l + 1 + 1)) 93 (l + 1 + 1) (xByte (x / 256))) 87 9 (l + 1 + 1 + 1)) 93 (l + 1 + 1 + 1) (xByte (x / 1))) 87 9 (l + 1 + 1 + 1 + 1)) b)) :
    pmWp ro d 12 152 0 0 [some (.ref 87), some (xV x), none] [] (xS a b) Q := by
  refine x_iconst xc152_0 ?_
  refine x_istoren (pl' := [some (.ref 87), some (xV x), some (xV 3)]) xc152_1 rfl rfl ?_
  refine x_iloadn xc152_2 rfl ?_
  refine x_iflt xc152_3 (xRk (by decide)) (fun h => absurd h (by omega)) (fun _ => ?_)
  refine x_aloadn xc152_6 rfl ?_
  refine x_gfr xc152_7 rfl rfl xz87 rfl ?_
  refine x_aloadn xc152_10 rfl ?_
  refine x_gfi' (k := 9) (v := l) xc152_11 rfl (Or.inl rfl) rfl xz87 hl ?_
  refine x_iloadn xc152_14 rfl ?_
  refine x_bipush xc152_15 (by decide) ?_
  refine x_iloadn xc152_17 rfl ?_
  refine x_imul xc152_18 ?_
  refine x_ishr (M := 16777216) (by omega) (by omega) (by decide) (xRk (by have g0 := xRb h_x; omega)) xc152_19 ?_
  refine x_i2b xc152_20 ?_
  refine x_bas (by have g0 := xByteB (x / 16777216); omega) xc152_21 xz93 (by omega) (by omega) (by omega) ?_
  refine x_aloadn xc152_22 rfl ?_
  refine x_aloadn xc152_23 rfl ?_
  refine x_gfi' (k := 9) (v := l) xc152_24 rfl (Or.inl rfl) rfl xz87 (by rw [xUn (by decide), hl]) ?_
  refine x_iconst xc152_27 ?_
  refine x_iadd xc152_28 ?_
  refine x_pfi (k := 9) xc152_29 rfl ⟨rfl, rfl⟩ rfl xz87 ?_
  refine x_iinc (pl' := [some (.ref 87), some (xV x), some (xV (3 + (-1)))]) xc152_32 rfl rfl ?_
  refine x_goto xc152_35 ?_
  refine x_iloadn xc152_2 rfl ?_
  refine x_iflt xc152_3 (xRk (by decide)) (fun h => absurd h (by omega)) (fun _ => ?_)
  refine x_aloadn xc152_6 rfl ?_
  refine x_gfr xc152_7 rfl rfl xz87 rfl ?_
  refine x_aloadn xc152_10 rfl ?_
  refine x_gfi' (k := 9) (v := l + 1) xc152_11 rfl (Or.inl rfl) rfl xz87 (by rw [xUa]) ?_
  refine x_iloadn xc152_14 rfl ?_
  refine x_bipush xc152_15 (by decide) ?_
  refine x_iloadn xc152_17 rfl ?_
  refine x_imul xc152_18 ?_
  refine x_ishr (M := 65536) (by omega) (by omega) (by decide) (xRk (by have g0 := xRb h_x; omega)) xc152_19 ?_
  refine x_i2b xc152_20 ?_
  refine x_bas (by have g0 := xByteB (x / 65536); omega) xc152_21 xz93 (by omega) (by omega) (by omega) ?_
  refine x_aloadn xc152_22 rfl ?_
  refine x_aloadn xc152_23 rfl ?_
  refine x_gfi' (k := 9) (v := l + 1) xc152_24 rfl (Or.inl rfl) rfl xz87 (by rw [xUn (by decide), xUa]) ?_
  refine x_iconst xc152_27 ?_
  refine x_iadd xc152_28 ?_
  refine x_pfi (k := 9) xc152_29 rfl ⟨rfl, rfl⟩ rfl xz87 ?_
  refine x_iinc (pl' := [some (.ref 87), some (xV x), some (xV (3 + (-1) + (-1)))]) xc152_32 rfl rfl ?_
  refine x_goto xc152_35 ?_
  refine x_iloadn xc152_2 rfl ?_
  refine x_iflt xc152_3 (xRk (by decide)) (fun h => absurd h (by omega)) (fun _ => ?_)
  refine x_aloadn xc152_6 rfl ?_
  refine x_gfr xc152_7 rfl rfl xz87 rfl ?_
  refine x_aloadn xc152_10 rfl ?_
  refine x_gfi' (k := 9) (v := l + 1 + 1) xc152_11 rfl (Or.inl rfl) rfl xz87 (by rw [xUa]) ?_
  refine x_iloadn xc152_14 rfl ?_
  refine x_bipush xc152_15 (by decide) ?_
  refine x_iloadn xc152_17 rfl ?_
  refine x_imul xc152_18 ?_
  refine x_ishr (M := 256) (by omega) (by omega) (by decide) (xRk (by have g0 := xRb h_x; omega)) xc152_19 ?_
  refine x_i2b xc152_20 ?_
  refine x_bas (by have g0 := xByteB (x / 256); omega) xc152_21 xz93 (by omega) (by omega) (by omega) ?_
  refine x_aloadn xc152_22 rfl ?_
  refine x_aloadn xc152_23 rfl ?_
  refine x_gfi' (k := 9) (v := l + 1 + 1) xc152_24 rfl (Or.inl rfl) rfl xz87 (by rw [xUn (by decide), xUa]) ?_
  refine x_iconst xc152_27 ?_
  refine x_iadd xc152_28 ?_
  refine x_pfi (k := 9) xc152_29 rfl ⟨rfl, rfl⟩ rfl xz87 ?_
  refine x_iinc (pl' := [some (.ref 87), some (xV x), some (xV (3 + (-1) + (-1) + (-1)))]) xc152_32 rfl rfl ?_
  refine x_goto xc152_35 ?_
  refine x_iloadn xc152_2 rfl ?_
  refine x_iflt xc152_3 (xRk (by decide)) (fun h => absurd h (by omega)) (fun _ => ?_)
  refine x_aloadn xc152_6 rfl ?_
  refine x_gfr xc152_7 rfl rfl xz87 rfl ?_
  refine x_aloadn xc152_10 rfl ?_
  refine x_gfi' (k := 9) (v := l + 1 + 1 + 1) xc152_11 rfl (Or.inl rfl) rfl xz87 (by rw [xUa]) ?_
  refine x_iloadn xc152_14 rfl ?_
  refine x_bipush xc152_15 (by decide) ?_
  refine x_iloadn xc152_17 rfl ?_
  refine x_imul xc152_18 ?_
  refine x_ishr (M := 1) (by omega) (by omega) (by decide) (xRk (by have g0 := xRb h_x; omega)) xc152_19 ?_
  refine x_i2b xc152_20 ?_
  refine x_bas (by have g0 := xByteB (x / 1); omega) xc152_21 xz93 (by omega) (by omega) (by omega) ?_
  refine x_aloadn xc152_22 rfl ?_
  refine x_aloadn xc152_23 rfl ?_
  refine x_gfi' (k := 9) (v := l + 1 + 1 + 1) xc152_24 rfl (Or.inl rfl) rfl xz87 (by rw [xUn (by decide), xUa]) ?_
  refine x_iconst xc152_27 ?_
  refine x_iadd xc152_28 ?_
  refine x_pfi (k := 9) xc152_29 rfl ⟨rfl, rfl⟩ rfl xz87 ?_
  refine x_iinc (pl' := [some (.ref 87), some (xV x), some (xV (3 + (-1) + (-1) + (-1) + (-1)))]) xc152_32 rfl rfl ?_
  refine x_goto xc152_35 ?_
  refine x_iloadn xc152_2 rfl ?_
  refine x_iflt xc152_3 (xRk (by decide)) (fun _ => ?_) (fun h => absurd h (by omega))
  refine x_ret xc152_38 rfl ?_
  exact k1

theorem xk152 {ro : Nat → Nat × (Nat → Int32)} {d : Nat} {Q : Option Value → pmS → Prop} {a : xA} {b : xB} {x l : Int} {t : Int → Int} (h_x : xR x) (hl : a 87 9 = l) (hl0 : 0 ≤ l ∧ l ≤ 396) (ht : ∀ j, 0 ≤ j → j < l → a 93 j % 256 = t j) (hA : xAr a) (hd : 1 ≤ d) (hQ : ∀ a1, xAr a1 → a1 87 9 = l + 4 → (∀ j, 0 ≤ j → j < l + 4 → a1 93 j % 256 = fT t l x j) → Q none (xS a1 b)) : pmCs ro d 152 [.ref 87, xV x] (xS a b) Q := by
  refine pmCs_deep (d := 1) (xg152 (w152 h_x hl hl0 hA ?_)) hd
  have bx : ∀ s : Int, xR (xByte s) := fun s => by
    have := xByteB s
    exact ⟨by omega, by omega⟩
  refine hQ _ ?_ ?_ (fun j j0 j1 => ?_)
  · repeat (first | exact hA | refine xAr_u ?_ ?_ | exact bx _ | exact ⟨by omega, by omega⟩)
  · rw [xUa]
    omega
  · rw [xUn (by decide)]
    unfold fT fB
    by_cases c3 : j = l + 1 + 1 + 1
    · subst c3
      rw [xUa, fBy, if_neg (by omega), if_neg (by omega), if_neg (by omega), if_neg (by omega)]
    · rw [xUk c3, xUn (by decide)]
      by_cases c2 : j = l + 1 + 1
      · subst c2
        rw [xUa, fBy, if_neg (by omega), if_neg (by omega), if_neg (by omega), if_pos (by omega)]
      · rw [xUk c2, xUn (by decide)]
        by_cases c1 : j = l + 1
        · subst c1
          rw [xUa, fBy, if_neg (by omega), if_neg (by omega), if_pos (by omega)]
        · rw [xUk c1, xUn (by decide)]
          by_cases c0 : j = l
          · subst c0
            rw [xUa, fBy, if_neg (by omega), if_pos (by omega)]
          · rw [xUk c0, if_pos (by omega)]
            exact ht j j0 (by omega)
theorem xg29 {ro : Nat → Nat × (Nat → Int32)} {d : Nat} {Q : Option Value → pmS → Prop} {a : xA} {b : xB} {v0 v1 v2 v3 v4 : Int} (h : pmWp ro d 11 29 1 0 [some (.ref 0), some (xV v0), some (xV v1), some (xV v2), some (xV v3), some (xV v4)] [] (xS a b) Q) : pmCs ro (d + 1) 29 [.ref 0, xV v0, xV v1, xV v2, xV v3, xV v4] (xS a b) Q := x_go xi29 rfl rfl rfl rfl rfl h
theorem w29 {ro : Nat → Nat × (Nat → Int32)} {d : Nat} {Q : Option Value → pmS → Prop} {a : xA} {b : xB} {l v0 v1 v2 v3 v4 : Int} {t : Int → Int} (h_v0 : xR v0) (h_v1 : xR v1) (h_v2 : xR v2) (h_v3 : xR v3) (h_v4 : xR v4) (hl : a 1 1 = l) (hl0 : 0 ≤ l ∧ l ≤ 400) (ht : ∀ j, 0 ≤ j → j < l → a 2 j = t j) (hA : xAr a) (hd : 1 ≤ d)
    (k1 : (l + 20 ≤ 400) → ∀ a1 : xA, (xAr a1) → (a1 1 1 = l + 4) → (∀ j : Int, 0 ≤ j → j < l + 4 → a1 2 j = fT t l v0 j) → ∀ a2 : xA, (xAr a2) → (a2 1 1 = l + 4 + 4) → (∀ j : Int, 0 ≤ j → j < l + 4 + 4 → a2 2 j = fT (fT t l v0) (l + 4) v1 j) → ∀ a3 : xA, (xAr a3) → (a3 1 1 = l + 4 + 4 + 4) → (∀ j : Int, 0 ≤ j → j < l + 4 + 4 + 4 → a3 2 j = fT (fT (fT t l v0) (l + 4) v1) (l + 4 + 4) v2 j) → ∀ a4 : xA, (xAr a4) → (a4 1 1 = l + 4 + 4 + 4 + 4) → (∀ j : Int, 0 ≤ j → j < l + 4 + 4 + 4 + 4 → a4 2 j = fT (fT (fT (fT t l v0) (l + 4) v1) (l + 4 + 4) v2) (l + 4 + 4 + 4) v3 j) → ∀ a5 : xA, (xAr a5) → (a5 1 1 = l + 4 + 4 + 4 + 4 + 4) → (∀ j : Int, 0 ≤ j → j < l + 4 + 4 + 4 + 4 + 4 → a5 2 j = fT (fT (fT (fT (fT t l v0) (l + 4) v1) (l + 4 + 4) v2) (l + 4 + 4 + 4) v3) (l + 4 + 4 + 4 + 4) v4 j) → Q (some (xV (l + 4 + 4 + 4 + 4 + 4))) (xS a5 b))
    (k2 : (¬ l + 20 ≤ 400) → Q (some (xV (-1))) (xS a b)) :
    pmWp ro d 11 29 1 0 [some (.ref 0), some (xV v0), some (xV v1), some (xV v2), some (xV v3), some (xV v4)] [] (xS a b) Q := by
  refine x_aloadn xc29_0 rfl ?_
  refine x_gfr xc29_1 rfl rfl xz0 rfl ?_
  refine x_gfi' (k := 1) (v := l) xc29_4 rfl (Or.inl rfl) rfl xz1 hl ?_
  refine x_bipush xc29_7 (by decide) ?_
  refine x_iadd xc29_9 ?_
  refine x_sipush xc29_10 (by decide) ?_
  refine x_icle xc29_13 (xRk (by omega)) (xRk (by decide)) (fun h0 => ?_) (fun h0 => ?_)
  · refine x_aloadn xc29_18 rfl ?_
    refine x_gfr xc29_19 rfl rfl xz0 rfl ?_
    refine x_iloadn xc29_22 rfl ?_
    refine x_cV (as := [xV v0]) (rest := []) xc29_23 rfl xi30 xz1 ⟨rfl, rfl⟩ rfl rfl ?_
    refine xk30 (xRk (by have g0 := xRb h_v0; omega)) hl (by omega) ht hA (by omega) (fun a1 h1 h2 h3 => ?_)
    refine x_aloadn xc29_26 rfl ?_
    refine x_gfr xc29_27 rfl rfl xz0 rfl ?_
    refine x_iloadn xc29_30 rfl ?_
    refine x_cV (as := [xV v1]) (rest := []) xc29_31 rfl xi30 xz1 ⟨rfl, rfl⟩ rfl rfl ?_
    refine xk30 (xRk (by have g0 := xRb h_v1; omega)) h2 (by omega) h3 h1 (by omega) (fun a2 h4 h5 h6 => ?_)
    refine x_aloadn xc29_34 rfl ?_
    refine x_gfr xc29_35 rfl rfl xz0 rfl ?_
    refine x_iloadn xc29_38 rfl ?_
    refine x_cV (as := [xV v2]) (rest := []) xc29_39 rfl xi30 xz1 ⟨rfl, rfl⟩ rfl rfl ?_
    refine xk30 (xRk (by have g0 := xRb h_v2; omega)) h5 (by omega) h6 h4 (by omega) (fun a3 h7 h8 h9 => ?_)
    refine x_aloadn xc29_42 rfl ?_
    refine x_gfr xc29_43 rfl rfl xz0 rfl ?_
    refine x_iload xc29_46 rfl ?_
    refine x_cV (as := [xV v3]) (rest := []) xc29_48 rfl xi30 xz1 ⟨rfl, rfl⟩ rfl rfl ?_
    refine xk30 (xRk (by have g0 := xRb h_v3; omega)) h8 (by omega) h9 h7 (by omega) (fun a4 h10 h11 h12 => ?_)
    refine x_aloadn xc29_51 rfl ?_
    refine x_gfr xc29_52 rfl rfl xz0 rfl ?_
    refine x_iload xc29_55 rfl ?_
    refine x_cV (as := [xV v4]) (rest := []) xc29_57 rfl xi30 xz1 ⟨rfl, rfl⟩ rfl rfl ?_
    refine xk30 (xRk (by have g0 := xRb h_v4; omega)) h11 (by omega) h12 h10 (by omega) (fun a5 h13 h14 h15 => ?_)
    refine x_aloadn xc29_60 rfl ?_
    refine x_gfr xc29_61 rfl rfl xz0 rfl ?_
    refine x_gfi' (k := 1) (v := l + 4 + 4 + 4 + 4 + 4) xc29_64 rfl (Or.inl rfl) rfl xz1 h14 ?_
    refine x_iret xc29_67 (Or.inl rfl) ?_
    exact k1 h0 a1 h1 h2 h3 a2 h4 h5 h6 a3 h7 h8 h9 a4 h10 h11 h12 a5 h13 h14 h15
  · refine x_iconst xc29_16 ?_
    refine x_iret xc29_17 (Or.inl rfl) ?_
    exact k2 h0

theorem xg151 {ro : Nat → Nat × (Nat → Int32)} {d : Nat} {Q : Option Value → pmS → Prop} {a : xA} {b : xB} {v0 v1 v2 v3 v4 : Int} (h : pmWp ro d 12 151 1 0 [some (.ref 87), some (xV v0), some (xV v1), some (xV v2), some (xV v3), some (xV v4)] [] (xS a b) Q) : pmCs ro (d + 1) 151 [.ref 87, xV v0, xV v1, xV v2, xV v3, xV v4] (xS a b) Q := x_go xi151 rfl rfl rfl rfl rfl h
theorem w151 {ro : Nat → Nat × (Nat → Int32)} {d : Nat} {Q : Option Value → pmS → Prop} {a : xA} {b : xB} {l v0 v1 v2 v3 v4 : Int} {t : Int → Int} (h_v0 : xR v0) (h_v1 : xR v1) (h_v2 : xR v2) (h_v3 : xR v3) (h_v4 : xR v4) (hl : a 87 9 = l) (hl0 : 0 ≤ l ∧ l ≤ 400) (ht : ∀ j, 0 ≤ j → j < l → a 93 j % 256 = t j) (hA : xAr a) (hd : 1 ≤ d)
    (k1 : (l + 20 ≤ 400) → ∀ a1 : xA, (xAr a1) → (a1 87 9 = l + 4) → (∀ j : Int, 0 ≤ j → j < l + 4 → a1 93 j % 256 = fT t l v0 j) → ∀ a2 : xA, (xAr a2) → (a2 87 9 = l + 4 + 4) → (∀ j : Int, 0 ≤ j → j < l + 4 + 4 → a2 93 j % 256 = fT (fT t l v0) (l + 4) v1 j) → ∀ a3 : xA, (xAr a3) → (a3 87 9 = l + 4 + 4 + 4) → (∀ j : Int, 0 ≤ j → j < l + 4 + 4 + 4 → a3 93 j % 256 = fT (fT (fT t l v0) (l + 4) v1) (l + 4 + 4) v2 j) → ∀ a4 : xA, (xAr a4) → (a4 87 9 = l + 4 + 4 + 4 + 4) → (∀ j : Int, 0 ≤ j → j < l + 4 + 4 + 4 + 4 → a4 93 j % 256 = fT (fT (fT (fT t l v0) (l + 4) v1) (l + 4 + 4) v2) (l + 4 + 4 + 4) v3 j) → ∀ a5 : xA, (xAr a5) → (a5 87 9 = l + 4 + 4 + 4 + 4 + 4) → (∀ j : Int, 0 ≤ j → j < l + 4 + 4 + 4 + 4 + 4 → a5 93 j % 256 = fT (fT (fT (fT (fT t l v0) (l + 4) v1) (l + 4 + 4) v2) (l + 4 + 4 + 4) v3) (l + 4 + 4 + 4 + 4) v4 j) → Q (some (xV (l + 4 + 4 + 4 + 4 + 4))) (xS a5 b))
    (k2 : (¬ l + 20 ≤ 400) → Q (some (xV (-1))) (xS a b)) :
    pmWp ro d 12 151 1 0 [some (.ref 87), some (xV v0), some (xV v1), some (xV v2), some (xV v3), some (xV v4)] [] (xS a b) Q := by
  refine x_aloadn xc151_0 rfl ?_
  refine x_gfi' (k := 9) (v := l) xc151_1 rfl (Or.inl rfl) rfl xz87 hl ?_
  refine x_bipush xc151_4 (by decide) ?_
  refine x_iadd xc151_6 ?_
  refine x_sipush xc151_7 (by decide) ?_
  refine x_icle xc151_10 (xRk (by omega)) (xRk (by decide)) (fun h0 => ?_) (fun h0 => ?_)
  · refine x_aloadn xc151_15 rfl ?_
    refine x_iloadn xc151_16 rfl ?_
    refine x_cV (as := [xV v0]) (rest := []) xc151_17 rfl xi152 xz87 ⟨rfl, rfl⟩ rfl rfl ?_
    refine xk152 (xRk (by have g0 := xRb h_v0; omega)) hl (by omega) ht hA (by omega) (fun a1 h1 h2 h3 => ?_)
    refine x_aloadn xc151_20 rfl ?_
    refine x_iloadn xc151_21 rfl ?_
    refine x_cV (as := [xV v1]) (rest := []) xc151_22 rfl xi152 xz87 ⟨rfl, rfl⟩ rfl rfl ?_
    refine xk152 (xRk (by have g0 := xRb h_v1; omega)) h2 (by omega) h3 h1 (by omega) (fun a2 h4 h5 h6 => ?_)
    refine x_aloadn xc151_25 rfl ?_
    refine x_iloadn xc151_26 rfl ?_
    refine x_cV (as := [xV v2]) (rest := []) xc151_27 rfl xi152 xz87 ⟨rfl, rfl⟩ rfl rfl ?_
    refine xk152 (xRk (by have g0 := xRb h_v2; omega)) h5 (by omega) h6 h4 (by omega) (fun a3 h7 h8 h9 => ?_)
    refine x_aloadn xc151_30 rfl ?_
    refine x_iload xc151_31 rfl ?_
    refine x_cV (as := [xV v3]) (rest := []) xc151_33 rfl xi152 xz87 ⟨rfl, rfl⟩ rfl rfl ?_
    refine xk152 (xRk (by have g0 := xRb h_v3; omega)) h8 (by omega) h9 h7 (by omega) (fun a4 h10 h11 h12 => ?_)
    refine x_aloadn xc151_36 rfl ?_
    refine x_iload xc151_37 rfl ?_
    refine x_cV (as := [xV v4]) (rest := []) xc151_39 rfl xi152 xz87 ⟨rfl, rfl⟩ rfl rfl ?_
    refine xk152 (xRk (by have g0 := xRb h_v4; omega)) h11 (by omega) h12 h10 (by omega) (fun a5 h13 h14 h15 => ?_)
    refine x_aloadn xc151_42 rfl ?_
    refine x_gfi' (k := 9) (v := l + 4 + 4 + 4 + 4 + 4) xc151_43 rfl (Or.inl rfl) rfl xz87 h14 ?_
    refine x_iret xc151_46 (Or.inl rfl) ?_
    exact k1 h0 a1 h1 h2 h3 a2 h4 h5 h6 a3 h7 h8 h9 a4 h10 h11 h12 a5 h13 h14 h15
  · refine x_iconst xc151_13 ?_
    refine x_iret xc151_14 (Or.inl rfl) ?_
    exact k2 h0

end
