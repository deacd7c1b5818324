/-! exact: the class, worlds; small methods -/
section
set_option maxRecDepth 100000
theorem xi24 : pmInf[24]? = some pmI_24 := rfl
theorem xi61 : pmInf[61]? = some pmI_61 := rfl
theorem xi62 : pmInf[62]? = some pmI_62 := rfl
theorem xi64 : pmInf[64]? = some pmI_64 := rfl
theorem xc24_0 : pmCode 24 0 = some (.iload_n 0) ∧ 0 + 1 = 1 := ⟨rfl, rfl⟩
theorem xc24_1 : pmCode 24 1 = some (.iload_n 0) ∧ 1 + 1 = 2 := ⟨rfl, rfl⟩
theorem xc24_2 : pmCode 24 2 = some (.iconst 1) ∧ 2 + 1 = 3 := ⟨rfl, rfl⟩
theorem xc24_3 : pmCode 24 3 = some .iushr ∧ 3 + 1 = 4 := ⟨rfl, rfl⟩
theorem xc24_4 : pmCode 24 4 = some (.ldc_w 265) ∧ 4 + 3 = 7 := ⟨rfl, rfl⟩
theorem xc24_7 : pmCode 24 7 = some .iand ∧ 7 + 1 = 8 := ⟨rfl, rfl⟩
theorem xc24_8 : pmCode 24 8 = some .isub ∧ 8 + 1 = 9 := ⟨rfl, rfl⟩
theorem xc24_9 : pmCode 24 9 = some (.istore_n 0) ∧ 9 + 1 = 10 := ⟨rfl, rfl⟩
theorem xc24_10 : pmCode 24 10 = some (.iload_n 0) ∧ 10 + 1 = 11 := ⟨rfl, rfl⟩
theorem xc24_11 : pmCode 24 11 = some (.ldc_w 266) ∧ 11 + 3 = 14 := ⟨rfl, rfl⟩
theorem xc24_14 : pmCode 24 14 = some .iand ∧ 14 + 1 = 15 := ⟨rfl, rfl⟩
theorem xc24_15 : pmCode 24 15 = some (.iload_n 0) ∧ 15 + 1 = 16 := ⟨rfl, rfl⟩
theorem xc24_16 : pmCode 24 16 = some (.iconst 2) ∧ 16 + 1 = 17 := ⟨rfl, rfl⟩
theorem xc24_17 : pmCode 24 17 = some .iushr ∧ 17 + 1 = 18 := ⟨rfl, rfl⟩
theorem xc24_18 : pmCode 24 18 = some (.ldc_w 266) ∧ 18 + 3 = 21 := ⟨rfl, rfl⟩
theorem xc24_21 : pmCode 24 21 = some .iand ∧ 21 + 1 = 22 := ⟨rfl, rfl⟩
theorem xc24_22 : pmCode 24 22 = some .iadd ∧ 22 + 1 = 23 := ⟨rfl, rfl⟩
theorem xc24_23 : pmCode 24 23 = some (.istore_n 0) ∧ 23 + 1 = 24 := ⟨rfl, rfl⟩
theorem xc24_24 : pmCode 24 24 = some (.iload_n 0) ∧ 24 + 1 = 25 := ⟨rfl, rfl⟩
theorem xc24_25 : pmCode 24 25 = some (.iload_n 0) ∧ 25 + 1 = 26 := ⟨rfl, rfl⟩
theorem xc24_26 : pmCode 24 26 = some (.iconst 4) ∧ 26 + 1 = 27 := ⟨rfl, rfl⟩
theorem xc24_27 : pmCode 24 27 = some .iushr ∧ 27 + 1 = 28 := ⟨rfl, rfl⟩
theorem xc24_28 : pmCode 24 28 = some .iadd ∧ 28 + 1 = 29 := ⟨rfl, rfl⟩
theorem xc24_29 : pmCode 24 29 = some (.ldc_w 267) ∧ 29 + 3 = 32 := ⟨rfl, rfl⟩
theorem xc24_32 : pmCode 24 32 = some .iand ∧ 32 + 1 = 33 := ⟨rfl, rfl⟩
theorem xc24_33 : pmCode 24 33 = some (.istore_n 0) ∧ 33 + 1 = 34 := ⟨rfl, rfl⟩
theorem xc24_34 : pmCode 24 34 = some (.iload_n 0) ∧ 34 + 1 = 35 := ⟨rfl, rfl⟩
theorem xc24_35 : pmCode 24 35 = some (.iload_n 0) ∧ 35 + 1 = 36 := ⟨rfl, rfl⟩
theorem xc24_36 : pmCode 24 36 = some (.bipush 8) ∧ 36 + 2 = 38 := ⟨rfl, rfl⟩
theorem xc24_38 : pmCode 24 38 = some .iushr ∧ 38 + 1 = 39 := ⟨rfl, rfl⟩
theorem xc24_39 : pmCode 24 39 = some .iadd ∧ 39 + 1 = 40 := ⟨rfl, rfl⟩
theorem xc24_40 : pmCode 24 40 = some (.istore_n 0) ∧ 40 + 1 = 41 := ⟨rfl, rfl⟩
theorem xc24_41 : pmCode 24 41 = some (.iload_n 0) ∧ 41 + 1 = 42 := ⟨rfl, rfl⟩
theorem xc24_42 : pmCode 24 42 = some (.iload_n 0) ∧ 42 + 1 = 43 := ⟨rfl, rfl⟩
theorem xc24_43 : pmCode 24 43 = some (.bipush 16) ∧ 43 + 2 = 45 := ⟨rfl, rfl⟩
theorem xc24_45 : pmCode 24 45 = some .iushr ∧ 45 + 1 = 46 := ⟨rfl, rfl⟩
theorem xc24_46 : pmCode 24 46 = some .iadd ∧ 46 + 1 = 47 := ⟨rfl, rfl⟩
theorem xc24_47 : pmCode 24 47 = some (.istore_n 0) ∧ 47 + 1 = 48 := ⟨rfl, rfl⟩
theorem xc24_48 : pmCode 24 48 = some (.iload_n 0) ∧ 48 + 1 = 49 := ⟨rfl, rfl⟩
theorem xc24_49 : pmCode 24 49 = some (.bipush 63) ∧ 49 + 2 = 51 := ⟨rfl, rfl⟩
theorem xc24_51 : pmCode 24 51 = some .iand ∧ 51 + 1 = 52 := ⟨rfl, rfl⟩
theorem xc24_52 : pmCode 24 52 = some .ireturn := rfl
theorem xc61_0 : pmCode 61 0 = some (.lload_n 0) ∧ 0 + 1 = 1 := ⟨rfl, rfl⟩
theorem xc61_1 : pmCode 61 1 = some (.iconst 4) ∧ 1 + 1 = 2 := ⟨rfl, rfl⟩
theorem xc61_2 : pmCode 61 2 = some (.iload_n 2) ∧ 2 + 1 = 3 := ⟨rfl, rfl⟩
theorem xc61_3 : pmCode 61 3 = some .imul ∧ 3 + 1 = 4 := ⟨rfl, rfl⟩
theorem xc61_4 : pmCode 61 4 = some .lushr ∧ 4 + 1 = 5 := ⟨rfl, rfl⟩
theorem xc61_5 : pmCode 61 5 = some .l2i ∧ 5 + 1 = 6 := ⟨rfl, rfl⟩
theorem xc61_6 : pmCode 61 6 = some (.bipush 15) ∧ 6 + 2 = 8 := ⟨rfl, rfl⟩
theorem xc61_8 : pmCode 61 8 = some .iand ∧ 8 + 1 = 9 := ⟨rfl, rfl⟩
theorem xc61_9 : pmCode 61 9 = some .ireturn := rfl
theorem xc62_0 : pmCode 62 0 = some (.aload_n 0) ∧ 0 + 1 = 1 := ⟨rfl, rfl⟩
theorem xc62_1 : pmCode 62 1 = some (.getfield 42) ∧ 1 + 3 = 4 := ⟨rfl, rfl⟩
theorem xc62_4 : pmCode 62 4 = some (.bipush 7) ∧ 4 + 2 = 6 := ⟨rfl, rfl⟩
theorem xc62_6 : pmCode 62 6 = some (.iload_n 1) ∧ 6 + 1 = 7 := ⟨rfl, rfl⟩
theorem xc62_7 : pmCode 62 7 = some .imul ∧ 7 + 1 = 8 := ⟨rfl, rfl⟩
theorem xc62_8 : pmCode 62 8 = some .lushr ∧ 8 + 1 = 9 := ⟨rfl, rfl⟩
theorem xc62_9 : pmCode 62 9 = some .l2i ∧ 9 + 1 = 10 := ⟨rfl, rfl⟩
theorem xc62_10 : pmCode 62 10 = some (.bipush 127) ∧ 10 + 2 = 12 := ⟨rfl, rfl⟩
theorem xc62_12 : pmCode 62 12 = some .iand ∧ 12 + 1 = 13 := ⟨rfl, rfl⟩
theorem xc62_13 : pmCode 62 13 = some .ireturn := rfl
theorem xc64_0 : pmCode 64 0 = some (.iload_n 1) ∧ 0 + 1 = 1 := ⟨rfl, rfl⟩
theorem xc64_1 : pmCode 64 1 = some (.bipush 9) ∧ 1 + 2 = 3 := ⟨rfl, rfl⟩
theorem xc64_3 : pmCode 64 3 = some (.if_icmp .lt 32) ∧ ((3 : Nat) : Int) + 32 = ((35 : Nat) : Int) ∧ 3 + 3 = 6 := ⟨rfl, rfl, rfl⟩
theorem xc64_6 : pmCode 64 6 = some (.iload_n 1) ∧ 6 + 1 = 7 := ⟨rfl, rfl⟩
theorem xc64_7 : pmCode 64 7 = some (.bipush 13) ∧ 7 + 2 = 9 := ⟨rfl, rfl⟩
theorem xc64_9 : pmCode 64 9 = some (.if_icmp .ge 26) ∧ ((9 : Nat) : Int) + 26 = ((35 : Nat) : Int) ∧ 9 + 3 = 12 := ⟨rfl, rfl, rfl⟩
theorem xc64_12 : pmCode 64 12 = some (.aload_n 0) ∧ 12 + 1 = 13 := ⟨rfl, rfl⟩
theorem xc64_13 : pmCode 64 13 = some (.getfield 47) ∧ 13 + 3 = 16 := ⟨rfl, rfl⟩
theorem xc64_16 : pmCode 64 16 = some (.iconst 4) ∧ 16 + 1 = 17 := ⟨rfl, rfl⟩
theorem xc64_17 : pmCode 64 17 = some (.iload_n 1) ∧ 17 + 1 = 18 := ⟨rfl, rfl⟩
theorem xc64_18 : pmCode 64 18 = some (.bipush 9) ∧ 18 + 2 = 20 := ⟨rfl, rfl⟩
theorem xc64_20 : pmCode 64 20 = some .isub ∧ 20 + 1 = 21 := ⟨rfl, rfl⟩
theorem xc64_21 : pmCode 64 21 = some .imul ∧ 21 + 1 = 22 := ⟨rfl, rfl⟩
theorem xc64_22 : pmCode 64 22 = some .lushr ∧ 22 + 1 = 23 := ⟨rfl, rfl⟩
theorem xc64_23 : pmCode 64 23 = some .l2i ∧ 23 + 1 = 24 := ⟨rfl, rfl⟩
theorem xc64_24 : pmCode 64 24 = some (.bipush 15) ∧ 24 + 2 = 26 := ⟨rfl, rfl⟩
theorem xc64_26 : pmCode 64 26 = some .iand ∧ 26 + 1 = 27 := ⟨rfl, rfl⟩
theorem xc64_27 : pmCode 64 27 = some (.iload_n 2) ∧ 27 + 1 = 28 := ⟨rfl, rfl⟩
theorem xc64_28 : pmCode 64 28 = some (.if_icmp .ne 7) ∧ ((28 : Nat) : Int) + 7 = ((35 : Nat) : Int) ∧ 28 + 3 = 31 := ⟨rfl, rfl, rfl⟩
theorem xc64_31 : pmCode 64 31 = some (.iconst 1) ∧ 31 + 1 = 32 := ⟨rfl, rfl⟩
theorem xc64_32 : pmCode 64 32 = some (.goto 4) ∧ ((32 : Nat) : Int) + 4 = ((36 : Nat) : Int) := ⟨rfl, rfl⟩
theorem xc64_35 : pmCode 64 35 = some (.iconst 0) ∧ 35 + 1 = 36 := ⟨rfl, rfl⟩
theorem xc64_36 : pmCode 64 36 = some .ireturn := rfl
/-- a world of the class lies at w -/
def uWz (w : Nat) : Prop := xZ[w]? = some (10, 13, [some (w + 1), some (w + 2), some (w + 3), some (w + 4), none, none, none, none, none, none, none, none, none]) ∧ xZ[w + 1]? = some (51, 4, []) ∧ xZ[w + 2]? = some (50, 24, []) ∧ xZ[w + 3]? = some (50, 6, []) ∧ xZ[w + 4]? = some (50, 3, [])
theorem w61 {ro : Nat → Nat × (Nat → Int32)} {d : Nat} {Q : Option Value → pmS → Prop} {x : Int} {l : Int64} {a : xA} {b : xB} (hx : 0 ≤ x ∧ x ≤ 15)
    (k1 : Q (some (xV ((xL2 (xShr l (4 * x))) % 16))) (xS a b)) :
    pmWp ro d 11 61 1 0 [some (.long l), none, some (xV x)] [] (xS a b) Q := by
  refine x_lloadn xc61_0 rfl ?_
  refine x_iconst xc61_1 ?_
  refine x_iloadn xc61_2 rfl ?_
  refine x_imul xc61_3 ?_
  refine x_lushr xc61_4 ?_
  refine x_l2i xc61_5 ?_
  refine x_bipush xc61_6 (by decide) ?_
  refine x_iandm (M := 16) 4 (by decide) (by decide) (by decide) xc61_8 ?_
  refine x_iret xc61_9 (Or.inl rfl) ?_
  exact k1

theorem xg61 {ro : Nat → Nat × (Nat → Int32)} {d : Nat} {Q : Option Value → pmS → Prop} {a : xA} {b : xB} {x : Int} {l : Int64} (h : pmWp ro d 11 61 1 0 [some (.long l), none, some (xV x)] [] (xS a b) Q) : pmCs ro (d + 1) 61 [.long l, xV x] (xS a b) Q := x_go xi61 rfl rfl rfl rfl rfl h
theorem w24 {ro : Nat → Nat × (Nat → Int32)} {d : Nat} {Q : Option Value → pmS → Prop} {v : Int} {a : xA} {b : xB} (hv : 0 ≤ v ∧ v ≤ 127)
    (k1 : Q (some (xV ((xAnd (xAnd (v - (xAnd (xUs v 1) 1431655765)) 858993459 + (xAnd (xUs (v - (xAnd (xUs v 1) 1431655765)) 2) 858993459) + (xUs (xAnd (v - (xAnd (xUs v 1) 1431655765)) 858993459 + (xAnd (xUs (v - (xAnd (xUs v 1) 1431655765)) 2) 858993459)) 4)) 252645135 + (xUs (xAnd (xAnd (v - (xAnd (xUs v 1) 1431655765)) 858993459 + (xAnd (xUs (v - (xAnd (xUs v 1) 1431655765)) 2) 858993459) + (xUs (xAnd (v - (xAnd (xUs v 1) 1431655765)) 858993459 + (xAnd (xUs (v - (xAnd (xUs v 1) 1431655765)) 2) 858993459)) 4)) 252645135) 8) + (xUs (xAnd (xAnd (v - (xAnd (xUs v 1) 1431655765)) 858993459 + (xAnd (xUs (v - (xAnd (xUs v 1) 1431655765)) 2) 858993459) + (xUs (xAnd (v - (xAnd (xUs v 1) 1431655765)) 858993459 + (xAnd (xUs (v - (xAnd (xUs v 1) 1431655765)) 2) 858993459)) 4)) 252645135 + (xUs (xAnd (xAnd (v - (xAnd (xUs v 1) 1431655765)) 858993459 + (xAnd (xUs (v - (xAnd (xUs v 1) 1431655765)) 2) 858993459) + (xUs (xAnd (v - (xAnd (xUs v 1) 1431655765)) 858993459 + (xAnd (xUs (v - (xAnd (xUs v 1) 1431655765)) 2) 858993459)) 4)) 252645135) 8)) 16)) % 64))) (xS a b)) :
    pmWp ro d 14 24 1 0 [some (xV v)] [] (xS a b) Q := by
  refine x_iloadn xc24_0 rfl ?_
  refine x_iloadn xc24_1 rfl ?_
  refine x_iconst xc24_2 ?_
  refine x_iushr xc24_3 ?_
  refine x_ldcw (z := 1431655765) xc24_4 rfl ?_
  refine x_iand xc24_7 ?_
  refine x_isub xc24_8 ?_
  refine x_istoren (pl' := [some (xV (v - (xAnd (xUs v 1) 1431655765)))]) xc24_9 rfl rfl ?_
  refine x_iloadn xc24_10 rfl ?_
  refine x_ldcw (z := 858993459) xc24_11 rfl ?_
  refine x_iand xc24_14 ?_
  refine x_iloadn xc24_15 rfl ?_
  refine x_iconst xc24_16 ?_
  refine x_iushr xc24_17 ?_
  refine x_ldcw (z := 858993459) xc24_18 rfl ?_
  refine x_iand xc24_21 ?_
  refine x_iadd xc24_22 ?_
  refine x_istoren (pl' := [some (xV (xAnd (v - (xAnd (xUs v 1) 1431655765)) 858993459 + (xAnd (xUs (v - (xAnd (xUs v 1) 1431655765)) 2) 858993459)))]) xc24_23 rfl rfl ?_
  refine x_iloadn xc24_24 rfl ?_
  refine x_iloadn xc24_25 rfl ?_
  refine x_iconst xc24_26 ?_
  refine x_iushr xc24_27 ?_
  refine x_iadd xc24_28 ?_
  refine x_ldcw (z := 252645135) xc24_29 rfl ?_
  refine x_iand xc24_32 ?_
  refine x_istoren (pl' := [some (xV (xAnd (xAnd (v - (xAnd (xUs v 1) 1431655765)) 858993459 + (xAnd (xUs (v - (xAnd (xUs v 1) 1431655765)) 2) 858993459) + (xUs (xAnd (v - (xAnd (xUs v 1) 1431655765)) 858993459 + (xAnd (xUs (v - (xAnd (xUs v 1) 1431655765)) 2) 858993459)) 4)) 252645135))]) xc24_33 rfl rfl ?_
  refine x_iloadn xc24_34 rfl ?_
  refine x_iloadn xc24_35 rfl ?_
  refine x_bipush xc24_36 (by decide) ?_
  refine x_iushr xc24_38 ?_
  refine x_iadd xc24_39 ?_
  refine x_istoren (pl' := [some (xV (xAnd (xAnd (v - (xAnd (xUs v 1) 1431655765)) 858993459 + (xAnd (xUs (v - (xAnd (xUs v 1) 1431655765)) 2) 858993459) + (xUs (xAnd (v - (xAnd (xUs v 1) 1431655765)) 858993459 + (xAnd (xUs (v - (xAnd (xUs v 1) 1431655765)) 2) 858993459)) 4)) 252645135 + (xUs (xAnd (xAnd (v - (xAnd (xUs v 1) 1431655765)) 858993459 + (xAnd (xUs (v - (xAnd (xUs v 1) 1431655765)) 2) 858993459) + (xUs (xAnd (v - (xAnd (xUs v 1) 1431655765)) 858993459 + (xAnd (xUs (v - (xAnd (xUs v 1) 1431655765)) 2) 858993459)) 4)) 252645135) 8)))]) xc24_40 rfl rfl ?_
  refine x_iloadn xc24_41 rfl ?_
  refine x_iloadn xc24_42 rfl ?_
  refine x_bipush xc24_43 (by decide) ?_
  refine x_iushr xc24_45 ?_
  refine x_iadd xc24_46 ?_
  refine x_istoren (pl' := [some (xV (xAnd (xAnd (v - (xAnd (xUs v 1) 1431655765)) 858993459 + (xAnd (xUs (v - (xAnd (xUs v 1) 1431655765)) 2) 858993459) + (xUs (xAnd (v - (xAnd (xUs v 1) 1431655765)) 858993459 + (xAnd (xUs (v - (xAnd (xUs v 1) 1431655765)) 2) 858993459)) 4)) 252645135 + (xUs (xAnd (xAnd (v - (xAnd (xUs v 1) 1431655765)) 858993459 + (xAnd (xUs (v - (xAnd (xUs v 1) 1431655765)) 2) 858993459) + (xUs (xAnd (v - (xAnd (xUs v 1) 1431655765)) 858993459 + (xAnd (xUs (v - (xAnd (xUs v 1) 1431655765)) 2) 858993459)) 4)) 252645135) 8) + (xUs (xAnd (xAnd (v - (xAnd (xUs v 1) 1431655765)) 858993459 + (xAnd (xUs (v - (xAnd (xUs v 1) 1431655765)) 2) 858993459) + (xUs (xAnd (v - (xAnd (xUs v 1) 1431655765)) 858993459 + (xAnd (xUs (v - (xAnd (xUs v 1) 1431655765)) 2) 858993459)) 4)) 252645135 + (xUs (xAnd (xAnd (v - (xAnd (xUs v 1) 1431655765)) 858993459 + (xAnd (xUs (v - (xAnd (xUs v 1) 1431655765)) 2) 858993459) + (xUs (xAnd (v - (xAnd (xUs v 1) 1431655765)) 858993459 + (xAnd (xUs (v - (xAnd (xUs v 1) 1431655765)) 2) 858993459)) 4)) 252645135) 8)) 16)))]) xc24_47 rfl rfl ?_
  refine x_iloadn xc24_48 rfl ?_
  refine x_bipush xc24_49 (by decide) ?_
  refine x_iandm (M := 64) 6 (by decide) (by decide) (by decide) xc24_51 ?_
  refine x_iret xc24_52 (Or.inl rfl) ?_
  exact k1

theorem xg24 {ro : Nat → Nat × (Nat → Int32)} {d : Nat} {Q : Option Value → pmS → Prop} {a : xA} {b : xB} {v : Int} (h : pmWp ro d 14 24 1 0 [some (xV v)] [] (xS a b) Q) : pmCs ro (d + 1) 24 [xV v] (xS a b) Q := x_go xi24 rfl rfl rfl rfl rfl h
theorem w62 {ro : Nat → Nat × (Nat → Int32)} {d : Nat} {Q : Option Value → pmS → Prop} {w : Nat} {x : Int} {a : xA} {b : xB} (hz : uWz w) (hx : 0 ≤ x ∧ x ≤ 8)
    (k1 : Q (some (xV ((xL2 (xShr (b w 5) (7 * x))) % 128))) (xS a b)) :
    pmWp ro d 10 62 1 0 [some (.ref w), some (xV x)] [] (xS a b) Q := by
  refine x_aloadn xc62_0 rfl ?_
  refine x_gfl (k := 5) xc62_1 rfl rfl rfl hz.1 ?_
  refine x_bipush xc62_4 (by decide) ?_
  refine x_iloadn xc62_6 rfl ?_
  refine x_imul xc62_7 ?_
  refine x_lushr xc62_8 ?_
  refine x_l2i xc62_9 ?_
  refine x_bipush xc62_10 (by decide) ?_
  refine x_iandm (M := 128) 7 (by decide) (by decide) (by decide) xc62_12 ?_
  refine x_iret xc62_13 (Or.inl rfl) ?_
  exact k1

theorem xg62 {ro : Nat → Nat × (Nat → Int32)} {d : Nat} {Q : Option Value → pmS → Prop} {a : xA} {b : xB} {x : Int} {w : Nat} (h : pmWp ro d 10 62 1 0 [some (.ref w), some (xV x)] [] (xS a b) Q) : pmCs ro (d + 1) 62 [.ref w, xV x] (xS a b) Q := x_go xi62 rfl rfl rfl rfl rfl h
theorem w64 {ro : Nat → Nat × (Nat → Int32)} {d : Nat} {Q : Option Value → pmS → Prop} {w : Nat} {v rm : Int} {a : xA} {b : xB} (hz : uWz w) (hv : 0 ≤ v ∧ v ≤ 15) (hrm : 0 ≤ rm ∧ rm ≤ 15)
    (k1 : (v < 9) → Q (some (xV 0)) (xS a b))
    (k2 : (¬ v < 9) → (13 ≤ v) → Q (some (xV 0)) (xS a b))
    (k3 : (¬ v < 9) → (¬ 13 ≤ v) → (¬ (xL2 (xShr (b w 4) (4 * (v - 9)))) % 16 = rm) → Q (some (xV 0)) (xS a b))
    (k4 : (¬ v < 9) → (¬ 13 ≤ v) → ((xL2 (xShr (b w 4) (4 * (v - 9)))) % 16 = rm) → Q (some (xV 1)) (xS a b)) :
    pmWp ro d 4 64 2 0 [some (.ref w), some (xV v), some (xV rm)] [] (xS a b) Q := by
  refine x_iloadn xc64_0 rfl ?_
  refine x_bipush xc64_1 (by decide) ?_
  refine x_iclt xc64_3 (xRk (by have g0 := hv; omega)) (xRk (by decide)) (fun h0 => ?_) (fun h0 => ?_)
  · refine x_iconst xc64_35 ?_
    refine x_iret xc64_36 (Or.inr ⟨rfl, (by omega)⟩) ?_
    exact k1 h0
  · refine x_iloadn xc64_6 rfl ?_
    refine x_bipush xc64_7 (by decide) ?_
    refine x_icge xc64_9 (xRk (by have g0 := hv; omega)) (xRk (by decide)) (fun h1 => ?_) (fun h1 => ?_)
    · refine x_iconst xc64_35 ?_
      refine x_iret xc64_36 (Or.inr ⟨rfl, (by omega)⟩) ?_
      exact k2 h0 h1
    · refine x_aloadn xc64_12 rfl ?_
      refine x_gfl (k := 4) xc64_13 rfl rfl rfl hz.1 ?_
      refine x_iconst xc64_16 ?_
      refine x_iloadn xc64_17 rfl ?_
      refine x_bipush xc64_18 (by decide) ?_
      refine x_isub xc64_20 ?_
      refine x_imul xc64_21 ?_
      refine x_lushr xc64_22 ?_
      refine x_l2i xc64_23 ?_
      refine x_bipush xc64_24 (by decide) ?_
      refine x_iandm (M := 16) 4 (by decide) (by decide) (by decide) xc64_26 ?_
      refine x_iloadn xc64_27 rfl ?_
      refine x_icne xc64_28 (xRk (by have g0 := xL2B (xShr (b w 4) (4 * (v - 9))); omega)) (xRk (by have g0 := hrm; omega)) (fun h2 => ?_) (fun h2 => ?_)
      · refine x_iconst xc64_35 ?_
        refine x_iret xc64_36 (Or.inr ⟨rfl, (by omega)⟩) ?_
        exact k3 h0 h1 h2
      · replace h2 := Classical.not_not.mp h2
        refine x_iconst xc64_31 ?_
        refine x_goto xc64_32 ?_
        refine x_iret xc64_36 (Or.inr ⟨rfl, (by omega)⟩) ?_
        exact k4 h0 h1 h2

theorem xg64 {ro : Nat → Nat × (Nat → Int32)} {d : Nat} {Q : Option Value → pmS → Prop} {a : xA} {b : xB} {v rm : Int} {w : Nat} (h : pmWp ro d 4 64 2 0 [some (.ref w), some (xV v), some (xV rm)] [] (xS a b) Q) : pmCs ro (d + 1) 64 [.ref w, xV v, xV rm] (xS a b) Q := x_go xi64 rfl rfl rfl rfl rfl h
section
variable {ro : Nat → Nat × (Nat → Int32)} {d : Nat} {Q : Option Value → pmS → Prop} {a : xA} {b : xB} {x v rm : Int} {l : Int64} {w : Nat}
theorem rk61 (hd : 1 ≤ d) (hx : 0 ≤ x ∧ x ≤ 15) (hQ : Q (some (xV (uSl l x))) (xS a b)) : pmCs ro d 61 [.long l, xV x] (xS a b) Q := pmCs_deep (d := 1) (xg61 (w61 hx hQ)) hd
theorem rk62 (hd : 1 ≤ d) (hz : uWz w) (hx : 0 ≤ x ∧ x ≤ 8) (hQ : Q (some (xV (uSt (b w 5) x))) (xS a b)) : pmCs ro d 62 [.ref w, xV x] (xS a b) Q := pmCs_deep (d := 1) (xg62 (w62 hz hx hQ)) hd
theorem rk64 (hd : 1 ≤ d) (hz : uWz w) (hv : 0 ≤ v ∧ v ≤ 15) (hrm : 0 ≤ rm ∧ rm ≤ 15) (hT : (9 ≤ v ∧ v < 13) ∧ uSl (b w 4) (v - 9) = rm → Q (some (xV 1)) (xS a b)) (hF : ¬ ((9 ≤ v ∧ v < 13) ∧ uSl (b w 4) (v - 9) = rm) → Q (some (xV 0)) (xS a b)) : pmCs ro d 64 [.ref w, xV v, xV rm] (xS a b) Q := pmCs_deep (d := 1) (xg64 (w64 hz hv hrm (fun e => hF (fun h => by omega)) (fun _ e => hF (fun h => by omega)) (fun _ _ e => hF (fun h => e h.2)) (fun e1 e2 e3 => hT ⟨⟨by omega, by omega⟩, e3⟩))) hd
theorem uBc_e (hv : 0 ≤ v ∧ v ≤ 127) : (xAnd (xAnd (v - (xAnd (xUs v 1) 1431655765)) 858993459 + (xAnd (xUs (v - (xAnd (xUs v 1) 1431655765)) 2) 858993459) + (xUs (xAnd (v - (xAnd (xUs v 1) 1431655765)) 858993459 + (xAnd (xUs (v - (xAnd (xUs v 1) 1431655765)) 2) 858993459)) 4)) 252645135 + (xUs (xAnd (xAnd (v - (xAnd (xUs v 1) 1431655765)) 858993459 + (xAnd (xUs (v - (xAnd (xUs v 1) 1431655765)) 2) 858993459) + (xUs (xAnd (v - (xAnd (xUs v 1) 1431655765)) 858993459 + (xAnd (xUs (v - (xAnd (xUs v 1) 1431655765)) 2) 858993459)) 4)) 252645135) 8) + (xUs (xAnd (xAnd (v - (xAnd (xUs v 1) 1431655765)) 858993459 + (xAnd (xUs (v - (xAnd (xUs v 1) 1431655765)) 2) 858993459) + (xUs (xAnd (v - (xAnd (xUs v 1) 1431655765)) 858993459 + (xAnd (xUs (v - (xAnd (xUs v 1) 1431655765)) 2) 858993459)) 4)) 252645135 + (xUs (xAnd (xAnd (v - (xAnd (xUs v 1) 1431655765)) 858993459 + (xAnd (xUs (v - (xAnd (xUs v 1) 1431655765)) 2) 858993459) + (xUs (xAnd (v - (xAnd (xUs v 1) 1431655765)) 858993459 + (xAnd (xUs (v - (xAnd (xUs v 1) 1431655765)) 2) 858993459)) 4)) 252645135) 8)) 16)) % 64 = uBs v := by
  have key : ∀ v : Fin 128, (xAnd (xAnd ((v.val : Int) - (xAnd (xUs (v.val : Int) 1) 1431655765)) 858993459 + (xAnd (xUs ((v.val : Int) - (xAnd (xUs (v.val : Int) 1) 1431655765)) 2) 858993459) + (xUs (xAnd ((v.val : Int) - (xAnd (xUs (v.val : Int) 1) 1431655765)) 858993459 + (xAnd (xUs ((v.val : Int) - (xAnd (xUs (v.val : Int) 1) 1431655765)) 2) 858993459)) 4)) 252645135 + (xUs (xAnd (xAnd ((v.val : Int) - (xAnd (xUs (v.val : Int) 1) 1431655765)) 858993459 + (xAnd (xUs ((v.val : Int) - (xAnd (xUs (v.val : Int) 1) 1431655765)) 2) 858993459) + (xUs (xAnd ((v.val : Int) - (xAnd (xUs (v.val : Int) 1) 1431655765)) 858993459 + (xAnd (xUs ((v.val : Int) - (xAnd (xUs (v.val : Int) 1) 1431655765)) 2) 858993459)) 4)) 252645135) 8) + (xUs (xAnd (xAnd ((v.val : Int) - (xAnd (xUs (v.val : Int) 1) 1431655765)) 858993459 + (xAnd (xUs ((v.val : Int) - (xAnd (xUs (v.val : Int) 1) 1431655765)) 2) 858993459) + (xUs (xAnd ((v.val : Int) - (xAnd (xUs (v.val : Int) 1) 1431655765)) 858993459 + (xAnd (xUs ((v.val : Int) - (xAnd (xUs (v.val : Int) 1) 1431655765)) 2) 858993459)) 4)) 252645135 + (xUs (xAnd (xAnd ((v.val : Int) - (xAnd (xUs (v.val : Int) 1) 1431655765)) 858993459 + (xAnd (xUs ((v.val : Int) - (xAnd (xUs (v.val : Int) 1) 1431655765)) 2) 858993459) + (xUs (xAnd ((v.val : Int) - (xAnd (xUs (v.val : Int) 1) 1431655765)) 858993459 + (xAnd (xUs ((v.val : Int) - (xAnd (xUs (v.val : Int) 1) 1431655765)) 2) 858993459)) 4)) 252645135) 8)) 16)) % 64 = uBs (v.val : Int) := by decide +kernel
  exact uF128 (P := fun v => (xAnd (xAnd (v - (xAnd (xUs v 1) 1431655765)) 858993459 + (xAnd (xUs (v - (xAnd (xUs v 1) 1431655765)) 2) 858993459) + (xUs (xAnd (v - (xAnd (xUs v 1) 1431655765)) 858993459 + (xAnd (xUs (v - (xAnd (xUs v 1) 1431655765)) 2) 858993459)) 4)) 252645135 + (xUs (xAnd (xAnd (v - (xAnd (xUs v 1) 1431655765)) 858993459 + (xAnd (xUs (v - (xAnd (xUs v 1) 1431655765)) 2) 858993459) + (xUs (xAnd (v - (xAnd (xUs v 1) 1431655765)) 858993459 + (xAnd (xUs (v - (xAnd (xUs v 1) 1431655765)) 2) 858993459)) 4)) 252645135) 8) + (xUs (xAnd (xAnd (v - (xAnd (xUs v 1) 1431655765)) 858993459 + (xAnd (xUs (v - (xAnd (xUs v 1) 1431655765)) 2) 858993459) + (xUs (xAnd (v - (xAnd (xUs v 1) 1431655765)) 858993459 + (xAnd (xUs (v - (xAnd (xUs v 1) 1431655765)) 2) 858993459)) 4)) 252645135 + (xUs (xAnd (xAnd (v - (xAnd (xUs v 1) 1431655765)) 858993459 + (xAnd (xUs (v - (xAnd (xUs v 1) 1431655765)) 2) 858993459) + (xUs (xAnd (v - (xAnd (xUs v 1) 1431655765)) 858993459 + (xAnd (xUs (v - (xAnd (xUs v 1) 1431655765)) 2) 858993459)) 4)) 252645135) 8)) 16)) % 64 = uBs v) key hv.1 (by omega)
theorem rk24 (hd : 1 ≤ d) (hv : 0 ≤ v ∧ v ≤ 127) (hQ : Q (some (xV (uBs v))) (xS a b)) : pmCs ro d 24 [xV v] (xS a b) Q := pmCs_deep (d := 1) (xg24 (w24 hv (by rw [uBc_e hv]; exact hQ))) hd
end
end
