/-! exact: settle, shift -/
section
set_option maxRecDepth 100000
theorem xi100 : pmInf[100]? = some pmI_100 := rfl
theorem xi101 : pmInf[101]? = some pmI_101 := rfl
theorem xi105 : pmInf[105]? = some pmI_105 := rfl
theorem xi106 : pmInf[106]? = some pmI_106 := rfl
theorem xi215 : pmInf[215]? = some pmI_215 := rfl
theorem xi216 : pmInf[216]? = some pmI_216 := rfl
theorem xi222 : pmInf[222]? = some pmI_222 := rfl
theorem xc100_0 : pmCode 100 0 = some (.iload_n 1) ∧ 0 + 1 = 1 := ⟨rfl, rfl⟩
theorem xc100_1 : pmCode 100 1 = some (.ifCond .lt 15) ∧ ((1 : Nat) : Int) + 15 = ((16 : Nat) : Int) ∧ 1 + 3 = 4 := ⟨rfl, rfl, rfl⟩
theorem xc100_4 : pmCode 100 4 = some (.iload_n 1) ∧ 4 + 1 = 5 := ⟨rfl, rfl⟩
theorem xc100_5 : pmCode 100 5 = some (.iconst 5) ∧ 5 + 1 = 6 := ⟨rfl, rfl⟩
theorem xc100_6 : pmCode 100 6 = some (.if_icmp .ge 10) ∧ ((6 : Nat) : Int) + 10 = ((16 : Nat) : Int) ∧ 6 + 3 = 9 := ⟨rfl, rfl, rfl⟩
theorem xc100_9 : pmCode 100 9 = some (.iload_n 2) ∧ 9 + 1 = 10 := ⟨rfl, rfl⟩
theorem xc100_10 : pmCode 100 10 = some (.invokestatic 105) ∧ 10 + 3 = 13 := ⟨rfl, rfl⟩
theorem xc100_13 : pmCode 100 13 = some (.ifCond .ne 5) ∧ ((13 : Nat) : Int) + 5 = ((18 : Nat) : Int) ∧ 13 + 3 = 16 := ⟨rfl, rfl, rfl⟩
theorem xc100_16 : pmCode 100 16 = some (.iconst (-1)) ∧ 16 + 1 = 17 := ⟨rfl, rfl⟩
theorem xc100_17 : pmCode 100 17 = some .ireturn := rfl
theorem xc100_18 : pmCode 100 18 = some (.aload_n 0) ∧ 18 + 1 = 19 := ⟨rfl, rfl⟩
theorem xc100_19 : pmCode 100 19 = some (.bipush 64) ∧ 19 + 2 = 21 := ⟨rfl, rfl⟩
theorem xc100_21 : pmCode 100 21 = some (.iload_n 1) ∧ 21 + 1 = 22 := ⟨rfl, rfl⟩
theorem xc100_22 : pmCode 100 22 = some (.iconst 3) ∧ 22 + 1 = 23 := ⟨rfl, rfl⟩
theorem xc100_23 : pmCode 100 23 = some .ishl ∧ 23 + 1 = 24 := ⟨rfl, rfl⟩
theorem xc100_24 : pmCode 100 24 = some .ior ∧ 24 + 1 = 25 := ⟨rfl, rfl⟩
theorem xc100_25 : pmCode 100 25 = some (.iload_n 2) ∧ 25 + 1 = 26 := ⟨rfl, rfl⟩
theorem xc100_26 : pmCode 100 26 = some .ior ∧ 26 + 1 = 27 := ⟨rfl, rfl⟩
theorem xc100_27 : pmCode 100 27 = some (.invokevirtual 251) ∧ 27 + 3 = 30 := ⟨rfl, rfl⟩
theorem xc100_30 : pmCode 100 30 = some .ireturn := rfl
theorem xc101_0 : pmCode 101 0 = some (.aload_n 0) ∧ 0 + 1 = 1 := ⟨rfl, rfl⟩
theorem xc101_1 : pmCode 101 1 = some (.getfield 88) ∧ 1 + 3 = 4 := ⟨rfl, rfl⟩
theorem xc101_4 : pmCode 101 4 = some (.aload_n 0) ∧ 4 + 1 = 5 := ⟨rfl, rfl⟩
theorem xc101_5 : pmCode 101 5 = some (.getfield 40) ∧ 5 + 3 = 8 := ⟨rfl, rfl⟩
theorem xc101_8 : pmCode 101 8 = some (.iload_n 1) ∧ 8 + 1 = 9 := ⟨rfl, rfl⟩
theorem xc101_9 : pmCode 101 9 = some (.invokevirtual 317) ∧ 9 + 3 = 12 := ⟨rfl, rfl⟩
theorem xc101_12 : pmCode 101 12 = some (.ifCond .ne 5) ∧ ((12 : Nat) : Int) + 5 = ((17 : Nat) : Int) ∧ 12 + 3 = 15 := ⟨rfl, rfl, rfl⟩
theorem xc101_15 : pmCode 101 15 = some (.iconst (-1)) ∧ 15 + 1 = 16 := ⟨rfl, rfl⟩
theorem xc101_16 : pmCode 101 16 = some .ireturn := rfl
theorem xc101_17 : pmCode 101 17 = some (.aload_n 0) ∧ 17 + 1 = 18 := ⟨rfl, rfl⟩
theorem xc101_18 : pmCode 101 18 = some (.getfield 88) ∧ 18 + 3 = 21 := ⟨rfl, rfl⟩
theorem xc101_21 : pmCode 101 21 = some (.aload_n 0) ∧ 21 + 1 = 22 := ⟨rfl, rfl⟩
theorem xc101_22 : pmCode 101 22 = some (.getfield 40) ∧ 22 + 3 = 25 := ⟨rfl, rfl⟩
theorem xc101_25 : pmCode 101 25 = some (.iload_n 1) ∧ 25 + 1 = 26 := ⟨rfl, rfl⟩
theorem xc101_26 : pmCode 101 26 = some (.invokevirtual 264) ∧ 26 + 3 = 29 := ⟨rfl, rfl⟩
theorem xc101_29 : pmCode 101 29 = some (.istore_n 2) ∧ 29 + 1 = 30 := ⟨rfl, rfl⟩
theorem xc101_30 : pmCode 101 30 = some (.aload_n 0) ∧ 30 + 1 = 31 := ⟨rfl, rfl⟩
theorem xc101_31 : pmCode 101 31 = some (.getfield 88) ∧ 31 + 3 = 34 := ⟨rfl, rfl⟩
theorem xc101_34 : pmCode 101 34 = some (.aload_n 0) ∧ 34 + 1 = 35 := ⟨rfl, rfl⟩
theorem xc101_35 : pmCode 101 35 = some (.getfield 40) ∧ 35 + 3 = 38 := ⟨rfl, rfl⟩
theorem xc101_38 : pmCode 101 38 = some (.iload_n 1) ∧ 38 + 1 = 39 := ⟨rfl, rfl⟩
theorem xc101_39 : pmCode 101 39 = some (.invokevirtual 321) ∧ 39 + 3 = 42 := ⟨rfl, rfl⟩
theorem xc101_42 : pmCode 101 42 = some (.aload_n 0) ∧ 42 + 1 = 43 := ⟨rfl, rfl⟩
theorem xc101_43 : pmCode 101 43 = some (.getfield 97) ∧ 43 + 3 = 46 := ⟨rfl, rfl⟩
theorem xc101_46 : pmCode 101 46 = some (.aload_n 0) ∧ 46 + 1 = 47 := ⟨rfl, rfl⟩
theorem xc101_47 : pmCode 101 47 = some (.getfield 40) ∧ 47 + 3 = 50 := ⟨rfl, rfl⟩
theorem xc101_50 : pmCode 101 50 = some (.getfield 234) ∧ 50 + 3 = 53 := ⟨rfl, rfl⟩
theorem xc101_53 : pmCode 101 53 = some (.iload_n 1) ∧ 53 + 1 = 54 := ⟨rfl, rfl⟩
theorem xc101_54 : pmCode 101 54 = some (.invokevirtual 325) ∧ 54 + 3 = 57 := ⟨rfl, rfl⟩
theorem xc101_57 : pmCode 101 57 = some (.iload_n 2) ∧ 57 + 1 = 58 := ⟨rfl, rfl⟩
theorem xc101_58 : pmCode 101 58 = some .ireturn := rfl
theorem xc105_0 : pmCode 105 0 = some (.iload_n 1) ∧ 0 + 1 = 1 := ⟨rfl, rfl⟩
theorem xc105_1 : pmCode 105 1 = some (.iconst 1) ∧ 1 + 1 = 2 := ⟨rfl, rfl⟩
theorem xc105_2 : pmCode 105 2 = some (.if_icmp .lt 16) ∧ ((2 : Nat) : Int) + 16 = ((18 : Nat) : Int) ∧ 2 + 3 = 5 := ⟨rfl, rfl, rfl⟩
theorem xc105_5 : pmCode 105 5 = some (.iload_n 1) ∧ 5 + 1 = 6 := ⟨rfl, rfl⟩
theorem xc105_6 : pmCode 105 6 = some (.bipush 60) ∧ 6 + 2 = 8 := ⟨rfl, rfl⟩
theorem xc105_8 : pmCode 105 8 = some (.if_icmp .gt 10) ∧ ((8 : Nat) : Int) + 10 = ((18 : Nat) : Int) ∧ 8 + 3 = 11 := ⟨rfl, rfl, rfl⟩
theorem xc105_11 : pmCode 105 11 = some (.aload_n 0) ∧ 11 + 1 = 12 := ⟨rfl, rfl⟩
theorem xc105_12 : pmCode 105 12 = some (.getfield 22) ∧ 12 + 3 = 15 := ⟨rfl, rfl⟩
theorem xc105_15 : pmCode 105 15 = some (.iload_n 1) ∧ 15 + 1 = 16 := ⟨rfl, rfl⟩
theorem xc105_16 : pmCode 105 16 = some (.iload_n 2) ∧ 16 + 1 = 17 := ⟨rfl, rfl⟩
theorem xc105_17 : pmCode 105 17 = some .iastore ∧ 17 + 1 = 18 := ⟨rfl, rfl⟩
theorem xc105_18 : pmCode 105 18 = some .return_ := rfl
theorem xc106_0 : pmCode 106 0 = some (.iload_n 1) ∧ 0 + 1 = 1 := ⟨rfl, rfl⟩
theorem xc106_1 : pmCode 106 1 = some (.invokestatic 144) ∧ 1 + 3 = 4 := ⟨rfl, rfl⟩
theorem xc106_4 : pmCode 106 4 = some (.ifCond .eq 10) ∧ ((4 : Nat) : Int) + 10 = ((14 : Nat) : Int) ∧ 4 + 3 = 7 := ⟨rfl, rfl, rfl⟩
theorem xc106_7 : pmCode 106 7 = some (.iload_n 2) ∧ 7 + 1 = 8 := ⟨rfl, rfl⟩
theorem xc106_8 : pmCode 106 8 = some (.invokestatic 105) ∧ 8 + 3 = 11 := ⟨rfl, rfl⟩
theorem xc106_11 : pmCode 106 11 = some (.ifCond .ne 5) ∧ ((11 : Nat) : Int) + 5 = ((16 : Nat) : Int) ∧ 11 + 3 = 14 := ⟨rfl, rfl, rfl⟩
theorem xc106_14 : pmCode 106 14 = some (.iconst (-1)) ∧ 14 + 1 = 15 := ⟨rfl, rfl⟩
theorem xc106_15 : pmCode 106 15 = some .ireturn := rfl
theorem xc106_16 : pmCode 106 16 = some (.aload_n 0) ∧ 16 + 1 = 17 := ⟨rfl, rfl⟩
theorem xc106_17 : pmCode 106 17 = some (.sipush 128) ∧ 17 + 3 = 20 := ⟨rfl, rfl⟩
theorem xc106_20 : pmCode 106 20 = some (.iload_n 1) ∧ 20 + 1 = 21 := ⟨rfl, rfl⟩
theorem xc106_21 : pmCode 106 21 = some (.iconst 3) ∧ 21 + 1 = 22 := ⟨rfl, rfl⟩
theorem xc106_22 : pmCode 106 22 = some .ishl ∧ 22 + 1 = 23 := ⟨rfl, rfl⟩
theorem xc106_23 : pmCode 106 23 = some .ior ∧ 23 + 1 = 24 := ⟨rfl, rfl⟩
theorem xc106_24 : pmCode 106 24 = some (.iload_n 2) ∧ 24 + 1 = 25 := ⟨rfl, rfl⟩
theorem xc106_25 : pmCode 106 25 = some .ior ∧ 25 + 1 = 26 := ⟨rfl, rfl⟩
theorem xc106_26 : pmCode 106 26 = some (.invokevirtual 251) ∧ 26 + 3 = 29 := ⟨rfl, rfl⟩
theorem xc106_29 : pmCode 106 29 = some .ireturn := rfl
theorem xc215_0 : pmCode 215 0 = some (.aload_n 0) ∧ 0 + 1 = 1 := ⟨rfl, rfl⟩
theorem xc215_1 : pmCode 215 1 = some (.iload_n 1) ∧ 1 + 1 = 2 := ⟨rfl, rfl⟩
theorem xc215_2 : pmCode 215 2 = some (.invokevirtual 157) ∧ 2 + 3 = 5 := ⟨rfl, rfl⟩
theorem xc215_5 : pmCode 215 5 = some (.ifCond .eq 25) ∧ ((5 : Nat) : Int) + 25 = ((30 : Nat) : Int) ∧ 5 + 3 = 8 := ⟨rfl, rfl, rfl⟩
theorem xc215_8 : pmCode 215 8 = some (.iload_n 2) ∧ 8 + 1 = 9 := ⟨rfl, rfl⟩
theorem xc215_9 : pmCode 215 9 = some (.invokestatic 135) ∧ 9 + 3 = 12 := ⟨rfl, rfl⟩
theorem xc215_12 : pmCode 215 12 = some (.ifCond .eq 18) ∧ ((12 : Nat) : Int) + 18 = ((30 : Nat) : Int) ∧ 12 + 3 = 15 := ⟨rfl, rfl, rfl⟩
theorem xc215_15 : pmCode 215 15 = some (.aload_n 0) ∧ 15 + 1 = 16 := ⟨rfl, rfl⟩
theorem xc215_16 : pmCode 215 16 = some (.iconst 1) ∧ 16 + 1 = 17 := ⟨rfl, rfl⟩
theorem xc215_17 : pmCode 215 17 = some (.bipush 7) ∧ 17 + 2 = 19 := ⟨rfl, rfl⟩
theorem xc215_19 : pmCode 215 19 = some (.iload_n 1) ∧ 19 + 1 = 20 := ⟨rfl, rfl⟩
theorem xc215_20 : pmCode 215 20 = some .imul ∧ 20 + 1 = 21 := ⟨rfl, rfl⟩
theorem xc215_21 : pmCode 215 21 = some .iadd ∧ 21 + 1 = 22 := ⟨rfl, rfl⟩
theorem xc215_22 : pmCode 215 22 = some (.iload_n 2) ∧ 22 + 1 = 23 := ⟨rfl, rfl⟩
theorem xc215_23 : pmCode 215 23 = some .iadd ∧ 23 + 1 = 24 := ⟨rfl, rfl⟩
theorem xc215_24 : pmCode 215 24 = some (.invokevirtual 398) ∧ 24 + 3 = 27 := ⟨rfl, rfl⟩
theorem xc215_27 : pmCode 215 27 = some (.goto 4) ∧ ((27 : Nat) : Int) + 4 = ((31 : Nat) : Int) := ⟨rfl, rfl⟩
theorem xc215_30 : pmCode 215 30 = some (.iconst (-1)) ∧ 30 + 1 = 31 := ⟨rfl, rfl⟩
theorem xc215_31 : pmCode 215 31 = some .ireturn := rfl
theorem xc216_0 : pmCode 216 0 = some (.aload_n 0) ∧ 0 + 1 = 1 := ⟨rfl, rfl⟩
theorem xc216_1 : pmCode 216 1 = some (.getfield 131) ∧ 1 + 3 = 4 := ⟨rfl, rfl⟩
theorem xc216_4 : pmCode 216 4 = some (.ifCond .eq 11) ∧ ((4 : Nat) : Int) + 11 = ((15 : Nat) : Int) ∧ 4 + 3 = 7 := ⟨rfl, rfl, rfl⟩
theorem xc216_7 : pmCode 216 7 = some (.aload_n 0) ∧ 7 + 1 = 8 := ⟨rfl, rfl⟩
theorem xc216_8 : pmCode 216 8 = some (.iload_n 1) ∧ 8 + 1 = 9 := ⟨rfl, rfl⟩
theorem xc216_9 : pmCode 216 9 = some (.invokevirtual 392) ∧ 9 + 3 = 12 := ⟨rfl, rfl⟩
theorem xc216_12 : pmCode 216 12 = some (.ifCond .ne 5) ∧ ((12 : Nat) : Int) + 5 = ((17 : Nat) : Int) ∧ 12 + 3 = 15 := ⟨rfl, rfl, rfl⟩
theorem xc216_15 : pmCode 216 15 = some (.iconst (-1)) ∧ 15 + 1 = 16 := ⟨rfl, rfl⟩
theorem xc216_16 : pmCode 216 16 = some .ireturn := rfl
theorem xc216_17 : pmCode 216 17 = some (.aload_n 0) ∧ 17 + 1 = 18 := ⟨rfl, rfl⟩
theorem xc216_18 : pmCode 216 18 = some (.iload_n 1) ∧ 18 + 1 = 19 := ⟨rfl, rfl⟩
theorem xc216_19 : pmCode 216 19 = some (.invokevirtual 389) ∧ 19 + 3 = 22 := ⟨rfl, rfl⟩
theorem xc216_22 : pmCode 216 22 = some (.istore_n 2) ∧ 22 + 1 = 23 := ⟨rfl, rfl⟩
theorem xc216_23 : pmCode 216 23 = some (.aload_n 0) ∧ 23 + 1 = 24 := ⟨rfl, rfl⟩
theorem xc216_24 : pmCode 216 24 = some (.iload_n 1) ∧ 24 + 1 = 25 := ⟨rfl, rfl⟩
theorem xc216_25 : pmCode 216 25 = some (.invokevirtual 395) ∧ 25 + 3 = 28 := ⟨rfl, rfl⟩
theorem xc216_28 : pmCode 216 28 = some (.aload_n 0) ∧ 28 + 1 = 29 := ⟨rfl, rfl⟩
theorem xc216_29 : pmCode 216 29 = some (.getfield 118) ∧ 29 + 3 = 32 := ⟨rfl, rfl⟩
theorem xc216_32 : pmCode 216 32 = some (.aload_n 0) ∧ 32 + 1 = 33 := ⟨rfl, rfl⟩
theorem xc216_33 : pmCode 216 33 = some (.getfield 7) ∧ 33 + 3 = 36 := ⟨rfl, rfl⟩
theorem xc216_36 : pmCode 216 36 = some (.bipush 114) ∧ 36 + 2 = 38 := ⟨rfl, rfl⟩
theorem xc216_38 : pmCode 216 38 = some .iaload ∧ 38 + 1 = 39 := ⟨rfl, rfl⟩
theorem xc216_39 : pmCode 216 39 = some (.iload_n 1) ∧ 39 + 1 = 40 := ⟨rfl, rfl⟩
theorem xc216_40 : pmCode 216 40 = some .iastore ∧ 40 + 1 = 41 := ⟨rfl, rfl⟩
theorem xc216_41 : pmCode 216 41 = some (.iload_n 2) ∧ 41 + 1 = 42 := ⟨rfl, rfl⟩
theorem xc216_42 : pmCode 216 42 = some .ireturn := rfl
theorem xc222_0 : pmCode 222 0 = some (.iload_n 1) ∧ 0 + 1 = 1 := ⟨rfl, rfl⟩
theorem xc222_1 : pmCode 222 1 = some (.invokestatic 150) ∧ 1 + 3 = 4 := ⟨rfl, rfl⟩
theorem xc222_4 : pmCode 222 4 = some (.ifCond .eq 28) ∧ ((4 : Nat) : Int) + 28 = ((32 : Nat) : Int) ∧ 4 + 3 = 7 := ⟨rfl, rfl, rfl⟩
theorem xc222_7 : pmCode 222 7 = some (.iload_n 2) ∧ 7 + 1 = 8 := ⟨rfl, rfl⟩
theorem xc222_8 : pmCode 222 8 = some (.invokestatic 135) ∧ 8 + 3 = 11 := ⟨rfl, rfl⟩
theorem xc222_11 : pmCode 222 11 = some (.ifCond .eq 21) ∧ ((11 : Nat) : Int) + 21 = ((32 : Nat) : Int) ∧ 11 + 3 = 14 := ⟨rfl, rfl, rfl⟩
theorem xc222_14 : pmCode 222 14 = some (.aload_n 0) ∧ 14 + 1 = 15 := ⟨rfl, rfl⟩
theorem xc222_15 : pmCode 222 15 = some (.bipush 36) ∧ 15 + 2 = 17 := ⟨rfl, rfl⟩
theorem xc222_17 : pmCode 222 17 = some (.bipush 7) ∧ 17 + 2 = 19 := ⟨rfl, rfl⟩
theorem xc222_19 : pmCode 222 19 = some (.iload_n 1) ∧ 19 + 1 = 20 := ⟨rfl, rfl⟩
theorem xc222_20 : pmCode 222 20 = some (.iconst 1) ∧ 20 + 1 = 21 := ⟨rfl, rfl⟩
theorem xc222_21 : pmCode 222 21 = some .isub ∧ 21 + 1 = 22 := ⟨rfl, rfl⟩
theorem xc222_22 : pmCode 222 22 = some .imul ∧ 22 + 1 = 23 := ⟨rfl, rfl⟩
theorem xc222_23 : pmCode 222 23 = some .iadd ∧ 23 + 1 = 24 := ⟨rfl, rfl⟩
theorem xc222_24 : pmCode 222 24 = some (.iload_n 2) ∧ 24 + 1 = 25 := ⟨rfl, rfl⟩
theorem xc222_25 : pmCode 222 25 = some .iadd ∧ 25 + 1 = 26 := ⟨rfl, rfl⟩
theorem xc222_26 : pmCode 222 26 = some (.invokevirtual 398) ∧ 26 + 3 = 29 := ⟨rfl, rfl⟩
theorem xc222_29 : pmCode 222 29 = some (.goto 4) ∧ ((29 : Nat) : Int) + 4 = ((33 : Nat) : Int) := ⟨rfl, rfl⟩
theorem xc222_32 : pmCode 222 32 = some (.iconst (-1)) ∧ 32 + 1 = 33 := ⟨rfl, rfl⟩
theorem xc222_33 : pmCode 222 33 = some .ireturn := rfl
theorem w100 {ro : Nat → Nat × (Nat → Int32)} {d : Nat} {Q : Option Value → pmS → Prop} {x rm : Int} {a : xA} {b : xB} (qr1 : xR x) (qr2 : xR rm) (hd : 1 ≤ d)
    (k1 : (x < 0) → Q (some (xV (-1))) (xS a b))
    (k2 : (¬ x < 0) → (5 ≤ x) → Q (some (xV (-1))) (xS a b))
    (k3 : (¬ x < 0) → (¬ 5 ≤ x) → (0 ≤ rm ∧ rm < 7) → pmCs ro d 101 [.ref 0, xV (xOr (xOr 64 (x * 8)) rm)] (xS a b) fun r σ' => pmWp ro d 11 100 1 30 [some (.ref 0), some (xV x), some (xV rm)] (r.toList ++ []) σ' Q)
    (k4 : (¬ x < 0) → (¬ 5 ≤ x) → (¬ (0 ≤ rm ∧ rm < 7)) → Q (some (xV (-1))) (xS a b)) :
    pmWp ro d 11 100 1 0 [some (.ref 0), some (xV x), some (xV rm)] [] (xS a b) Q := by
  refine x_iloadn xc100_0 rfl ?_
  refine x_iflt xc100_1 (xRk (by have g0 := xRb qr1; omega)) (fun h0 => ?_) (fun h0 => ?_)
  · refine x_iconst xc100_16 ?_
    refine x_iret xc100_17 (Or.inl rfl) ?_
    exact k1 h0
  · refine x_iloadn xc100_4 rfl ?_
    refine x_iconst xc100_5 ?_
    refine x_icge xc100_6 (xRk (by have g0 := xRb qr1; omega)) (xRk (by decide)) (fun h1 => ?_) (fun h1 => ?_)
    · refine x_iconst xc100_16 ?_
      refine x_iret xc100_17 (Or.inl rfl) ?_
      exact k2 h0 h1
    · refine x_iloadn xc100_9 rfl ?_
      refine x_cS (as := [xV rm]) (rest := []) xc100_10 rfl rfl xi14 ⟨rfl, rfl⟩ rfl rfl ?_
      refine xk14 (by omega) (xRk (by have g0 := xRb qr2; omega)) (fun h2 => ?_) (fun h3 => ?_)
      · refine x_ifne xc100_13 (xRk (by decide)) (fun _ => ?_) (fun h => absurd h (by omega))
        refine x_aloadn xc100_18 rfl ?_
        refine x_bipush xc100_19 (by decide) ?_
        refine x_iloadn xc100_21 rfl ?_
        refine x_iconst xc100_22 ?_
        refine x_ishl (M := 8) (by omega) (by omega) (by decide) xc100_23 ?_
        refine x_ior xc100_24 ?_
        refine x_iloadn xc100_25 rfl ?_
        refine x_ior xc100_26 ?_
        refine x_cV (as := [xV (xOr (xOr 64 (x * 8)) rm)]) (rest := []) xc100_27 rfl xi101 xz0 ⟨rfl, rfl⟩ rfl rfl ?_
        exact k3 h0 h1 h2
      · refine x_ifne xc100_13 (xRk (by decide)) (fun h => absurd h (by omega)) (fun _ => ?_)
        refine x_iconst xc100_16 ?_
        refine x_iret xc100_17 (Or.inl rfl) ?_
        exact k4 h0 h1 h3

theorem xg100 {ro : Nat → Nat × (Nat → Int32)} {d : Nat} {Q : Option Value → pmS → Prop} {a : xA} {b : xB} {x rm : Int} (h : pmWp ro d 11 100 1 0 [some (.ref 0), some (xV x), some (xV rm)] [] (xS a b) Q) : pmCs ro (d + 1) 100 [.ref 0, xV x, xV rm] (xS a b) Q := x_go xi100 rfl rfl rfl rfl rfl h
theorem w100a {ro : Nat → Nat × (Nat → Int32)} {d : Nat} {Q : Option Value → pmS → Prop} {x rm z : Int} {a : xA} {b : xB}
    (k1 : Q (some (xV z)) (xS a b)) :
    pmWp ro d 11 100 1 30 [some (.ref 0), some (xV x), some (xV rm)] [xV z] (xS a b) Q := by
  refine x_iret xc100_30 (Or.inl rfl) ?_
  exact k1

theorem w106a {ro : Nat → Nat × (Nat → Int32)} {d : Nat} {Q : Option Value → pmS → Prop} {p rm z : Int} {a : xA} {b : xB}
    (k1 : Q (some (xV z)) (xS a b)) :
    pmWp ro d 11 106 1 29 [some (.ref 0), some (xV p), some (xV rm)] [xV z] (xS a b) Q := by
  refine x_iret xc106_29 (Or.inl rfl) ?_
  exact k1

theorem w106 {ro : Nat → Nat × (Nat → Int32)} {d : Nat} {Q : Option Value → pmS → Prop} {p rm : Int} {a : xA} {b : xB} (qr1 : xR p) (qr2 : xR rm) (hd : 1 ≤ d)
    (k1 : (1 ≤ p ∧ p < 4) → (0 ≤ rm ∧ rm < 7) → pmCs ro d 101 [.ref 0, xV (xOr (xOr 128 (p * 8)) rm)] (xS a b) fun r σ' => pmWp ro d 11 106 1 29 [some (.ref 0), some (xV p), some (xV rm)] (r.toList ++ []) σ' Q)
    (k2 : (1 ≤ p ∧ p < 4) → (¬ (0 ≤ rm ∧ rm < 7)) → Q (some (xV (-1))) (xS a b))
    (k3 : (¬ (1 ≤ p ∧ p < 4)) → Q (some (xV (-1))) (xS a b)) :
    pmWp ro d 11 106 1 0 [some (.ref 0), some (xV p), some (xV rm)] [] (xS a b) Q := by
  refine x_iloadn xc106_0 rfl ?_
  refine x_cS (as := [xV p]) (rest := []) xc106_1 rfl rfl xi26 ⟨rfl, rfl⟩ rfl rfl ?_
  refine xk26 (by omega) (xRk (by have g0 := xRb qr1; omega)) (fun h0 => ?_) (fun h1 => ?_)
  · refine x_ifeq xc106_4 (xRk (by decide)) (fun h => absurd h (by omega)) (fun _ => ?_)
    refine x_iloadn xc106_7 rfl ?_
    refine x_cS (as := [xV rm]) (rest := []) xc106_8 rfl rfl xi14 ⟨rfl, rfl⟩ rfl rfl ?_
    refine xk14 (by omega) (xRk (by have g0 := xRb qr2; omega)) (fun h3 => ?_) (fun h4 => ?_)
    · refine x_ifne xc106_11 (xRk (by decide)) (fun _ => ?_) (fun h => absurd h (by omega))
      refine x_aloadn xc106_16 rfl ?_
      refine x_sipush xc106_17 (by decide) ?_
      refine x_iloadn xc106_20 rfl ?_
      refine x_iconst xc106_21 ?_
      refine x_ishl (M := 8) (by omega) (by omega) (by decide) xc106_22 ?_
      refine x_ior xc106_23 ?_
      refine x_iloadn xc106_24 rfl ?_
      refine x_ior xc106_25 ?_
      refine x_cV (as := [xV (xOr (xOr 128 (p * 8)) rm)]) (rest := []) xc106_26 rfl xi101 xz0 ⟨rfl, rfl⟩ rfl rfl ?_
      exact k1 h0 h3
    · refine x_ifne xc106_11 (xRk (by decide)) (fun h => absurd h (by omega)) (fun _ => ?_)
      refine x_iconst xc106_14 ?_
      refine x_iret xc106_15 (Or.inl rfl) ?_
      exact k2 h0 h4
  · refine x_ifeq xc106_4 (xRk (by decide)) (fun _ => ?_) (fun h => absurd h (by omega))
    refine x_iconst xc106_14 ?_
    refine x_iret xc106_15 (Or.inl rfl) ?_
    exact k3 h1

theorem xg106 {ro : Nat → Nat × (Nat → Int32)} {d : Nat} {Q : Option Value → pmS → Prop} {a : xA} {b : xB} {p rm : Int} (h : pmWp ro d 11 106 1 0 [some (.ref 0), some (xV p), some (xV rm)] [] (xS a b) Q) : pmCs ro (d + 1) 106 [.ref 0, xV p, xV rm] (xS a b) Q := x_go xi106 rfl rfl rfl rfl rfl h
theorem w101 {ro : Nat → Nat × (Nat → Int32)} {d : Nat} {Q : Option Value → pmS → Prop} {c : Int} {a : xA} {b : xB}
    (k1 : pmCs ro d 102 [.ref 45, .ref 21, xV c] (xS a b) fun r σ' => pmWp ro d 11 101 1 12 [some (.ref 0), some (xV c), none] (r.toList ++ []) σ' Q) :
    pmWp ro d 11 101 1 0 [some (.ref 0), some (xV c), none] [] (xS a b) Q := by
  refine x_aloadn xc101_0 rfl ?_
  refine x_gfr xc101_1 rfl rfl xz0 rfl ?_
  refine x_aloadn xc101_4 rfl ?_
  refine x_gfr xc101_5 rfl rfl xz0 rfl ?_
  refine x_iloadn xc101_8 rfl ?_
  refine x_cV (as := [.ref 21, xV c]) (rest := []) xc101_9 rfl xi102 xz45 ⟨rfl, rfl⟩ rfl rfl ?_
  exact k1

theorem xg101 {ro : Nat → Nat × (Nat → Int32)} {d : Nat} {Q : Option Value → pmS → Prop} {a : xA} {b : xB} {c : Int} (h : pmWp ro d 11 101 1 0 [some (.ref 0), some (xV c), none] [] (xS a b) Q) : pmCs ro (d + 1) 101 [.ref 0, xV c] (xS a b) Q := x_go xi101 rfl rfl rfl rfl rfl h
theorem w101a {ro : Nat → Nat × (Nat → Int32)} {d : Nat} {Q : Option Value → pmS → Prop} {c z : Int} {a : xA} {b : xB} (hzz : z = 0 ∨ z = 1)
    (k1 : (¬ z = 0) → pmCs ro d 103 [.ref 45, .ref 21, xV c] (xS a b) fun r σ' => pmWp ro d 11 101 1 29 [some (.ref 0), some (xV c), none] (r.toList ++ []) σ' Q)
    (k2 : (z = 0) → Q (some (xV (-1))) (xS a b)) :
    pmWp ro d 11 101 1 12 [some (.ref 0), some (xV c), none] [xV z] (xS a b) Q := by
  refine x_ifne xc101_12 (xRk (by have g0 := hzz; omega)) (fun h0 => ?_) (fun h0 => ?_)
  · refine x_aloadn xc101_17 rfl ?_
    refine x_gfr xc101_18 rfl rfl xz0 rfl ?_
    refine x_aloadn xc101_21 rfl ?_
    refine x_gfr xc101_22 rfl rfl xz0 rfl ?_
    refine x_iloadn xc101_25 rfl ?_
    refine x_cV (as := [.ref 21, xV c]) (rest := []) xc101_26 rfl xi103 xz45 ⟨rfl, rfl⟩ rfl rfl ?_
    exact k1 h0
  · replace h0 := Classical.not_not.mp h0
    refine x_iconst xc101_15 ?_
    refine x_iret xc101_16 (Or.inl rfl) ?_
    exact k2 h0

theorem w101b {ro : Nat → Nat × (Nat → Int32)} {d : Nat} {Q : Option Value → pmS → Prop} {c v : Int} {a : xA} {b : xB}
    (k1 : pmCs ro d 104 [.ref 45, .ref 21, xV c] (xS a b) fun r σ' => pmWp ro d 11 101 1 42 [some (.ref 0), some (xV c), some (xV v)] (r.toList ++ []) σ' Q) :
    pmWp ro d 11 101 1 29 [some (.ref 0), some (xV c), none] [xV v] (xS a b) Q := by
  refine x_istoren (pl' := [some (.ref 0), some (xV c), some (xV v)]) xc101_29 rfl rfl ?_
  refine x_aloadn xc101_30 rfl ?_
  refine x_gfr xc101_31 rfl rfl xz0 rfl ?_
  refine x_aloadn xc101_34 rfl ?_
  refine x_gfr xc101_35 rfl rfl xz0 rfl ?_
  refine x_iloadn xc101_38 rfl ?_
  refine x_cV (as := [.ref 21, xV c]) (rest := []) xc101_39 rfl xi104 xz45 ⟨rfl, rfl⟩ rfl rfl ?_
  exact k1

theorem w101c {ro : Nat → Nat × (Nat → Int32)} {d : Nat} {Q : Option Value → pmS → Prop} {c v : Int} {a : xA} {b : xB}
    (k1 : pmCs ro d 105 [.ref 79, xV (a 21 6), xV c] (xS a b) fun r σ' => pmWp ro d 11 101 1 57 [some (.ref 0), some (xV c), some (xV v)] (r.toList ++ []) σ' Q) :
    pmWp ro d 11 101 1 42 [some (.ref 0), some (xV c), some (xV v)] [] (xS a b) Q := by
  refine x_aloadn xc101_42 rfl ?_
  refine x_gfr xc101_43 rfl rfl xz0 rfl ?_
  refine x_aloadn xc101_46 rfl ?_
  refine x_gfr xc101_47 rfl rfl xz0 rfl ?_
  refine x_gfi (k := 6) xc101_50 rfl (Or.inl rfl) rfl xz21 ?_
  refine x_iloadn xc101_53 rfl ?_
  refine x_cV (as := [xV (a 21 6), xV c]) (rest := []) xc101_54 rfl xi105 xz79 ⟨rfl, rfl⟩ rfl rfl ?_
  exact k1

theorem w101d {ro : Nat → Nat × (Nat → Int32)} {d : Nat} {Q : Option Value → pmS → Prop} {c v : Int} {a : xA} {b : xB}
    (k1 : Q (some (xV v)) (xS a b)) :
    pmWp ro d 11 101 1 57 [some (.ref 0), some (xV c), some (xV v)] [] (xS a b) Q := by
  refine x_iloadn xc101_57 rfl ?_
  refine x_iret xc101_58 (Or.inl rfl) ?_
  exact k1

theorem w105 {ro : Nat → Nat × (Nat → Int32)} {d : Nat} {Q : Option Value → pmS → Prop} {t c : Int} {a : xA} {b : xB} (ht : 1 ≤ t ∧ t ≤ 60)
    (k1 : (t < 1) → Q none (xS a b))
    (k2 : (¬ t < 1) → (60 < t) → Q none (xS a b))
    (k3 : (¬ t < 1) → (¬ 60 < t) → Q none (xS (xU a 86 t c) b)) :
    pmWp ro d 0 105 0 0 [some (.ref 79), some (xV t), some (xV c)] [] (xS a b) Q := by
  refine x_iloadn xc105_0 rfl ?_
  refine x_iconst xc105_1 ?_
  refine x_iclt xc105_2 (xRk (by have g0 := ht; omega)) (xRk (by decide)) (fun h0 => ?_) (fun h0 => ?_)
  · refine x_ret xc105_18 rfl ?_
    exact k1 h0
  · refine x_iloadn xc105_5 rfl ?_
    refine x_bipush xc105_6 (by decide) ?_
    refine x_icgt xc105_8 (xRk (by have g0 := ht; omega)) (xRk (by decide)) (fun h1 => ?_) (fun h1 => ?_)
    · refine x_ret xc105_18 rfl ?_
      exact k2 h0 h1
    · refine x_aloadn xc105_11 rfl ?_
      refine x_gfr xc105_12 rfl rfl xz79 rfl ?_
      refine x_iloadn xc105_15 rfl ?_
      refine x_iloadn xc105_16 rfl ?_
      refine x_ias xc105_17 xz86 (by have g0 := ht; omega) (by have g0 := ht; omega) (by have g0 := ht; omega) ?_
      refine x_ret xc105_18 rfl ?_
      exact k3 h0 h1

theorem xg105 {ro : Nat → Nat × (Nat → Int32)} {d : Nat} {Q : Option Value → pmS → Prop} {a : xA} {b : xB} {t c : Int} (h : pmWp ro d 0 105 0 0 [some (.ref 79), some (xV t), some (xV c)] [] (xS a b) Q) : pmCs ro (d + 1) 105 [.ref 79, xV t, xV c] (xS a b) Q := x_go xi105 rfl rfl rfl rfl rfl h
theorem w215 {ro : Nat → Nat × (Nat → Int32)} {d : Nat} {Q : Option Value → pmS → Prop} {x rm n : Int} {a : xA} {b : xB} (qr1 : xR x) (qr2 : xR rm) (hn : a 87 2 = n) (hn0 : 0 ≤ n ∧ n ≤ 5) (hd : 2 ≤ d)
    (k1 : (0 ≤ x ∧ x < n) → (0 ≤ rm ∧ rm < 7) → pmCs ro d 216 [.ref 87, xV (1 + (7 * x) + rm)] (xS a b) fun r σ' => pmWp ro d 12 215 1 27 [some (.ref 87), some (xV x), some (xV rm)] (r.toList ++ []) σ' Q)
    (k2 : (0 ≤ x ∧ x < n) → (¬ (0 ≤ rm ∧ rm < 7)) → Q (some (xV (-1))) (xS a b))
    (k3 : (¬ (0 ≤ x ∧ x < n)) → Q (some (xV (-1))) (xS a b)) :
    pmWp ro d 12 215 1 0 [some (.ref 87), some (xV x), some (xV rm)] [] (xS a b) Q := by
  refine x_aloadn xc215_0 rfl ?_
  refine x_iloadn xc215_1 rfl ?_
  refine x_cV (as := [xV x]) (rest := []) xc215_2 rfl xi148 xz87 ⟨rfl, rfl⟩ rfl rfl ?_
  refine rk148 (by omega) (xRk (by have g0 := xRb qr1; omega)) hn hn0 (fun h0 => ?_) (fun h1 => ?_)
  · refine x_ifeq xc215_5 (xRk (by decide)) (fun h => absurd h (by omega)) (fun _ => ?_)
    refine x_iloadn xc215_8 rfl ?_
    refine x_cS (as := [xV rm]) (rest := []) xc215_9 rfl rfl xi138 ⟨rfl, rfl⟩ rfl rfl ?_
    refine xk138 (by omega) (xRk (by have g0 := xRb qr2; omega)) (fun h3 => ?_) (fun h4 => ?_)
    · refine x_ifeq xc215_12 (xRk (by decide)) (fun h => absurd h (by omega)) (fun _ => ?_)
      refine x_aloadn xc215_15 rfl ?_
      refine x_iconst xc215_16 ?_
      refine x_bipush xc215_17 (by decide) ?_
      refine x_iloadn xc215_19 rfl ?_
      refine x_imul xc215_20 ?_
      refine x_iadd xc215_21 ?_
      refine x_iloadn xc215_22 rfl ?_
      refine x_iadd xc215_23 ?_
      refine x_cV (as := [xV (1 + (7 * x) + rm)]) (rest := []) xc215_24 rfl xi216 xz87 ⟨rfl, rfl⟩ rfl rfl ?_
      exact k1 h0 h3
    · refine x_ifeq xc215_12 (xRk (by decide)) (fun _ => ?_) (fun h => absurd h (by omega))
      refine x_iconst xc215_30 ?_
      refine x_iret xc215_31 (Or.inl rfl) ?_
      exact k2 h0 h4
  · refine x_ifeq xc215_5 (xRk (by decide)) (fun _ => ?_) (fun h => absurd h (by omega))
    refine x_iconst xc215_30 ?_
    refine x_iret xc215_31 (Or.inl rfl) ?_
    exact k3 h1

theorem xg215 {ro : Nat → Nat × (Nat → Int32)} {d : Nat} {Q : Option Value → pmS → Prop} {a : xA} {b : xB} {x rm : Int} (h : pmWp ro d 12 215 1 0 [some (.ref 87), some (xV x), some (xV rm)] [] (xS a b) Q) : pmCs ro (d + 1) 215 [.ref 87, xV x, xV rm] (xS a b) Q := x_go xi215 rfl rfl rfl rfl rfl h
theorem w215a {ro : Nat → Nat × (Nat → Int32)} {d : Nat} {Q : Option Value → pmS → Prop} {x rm z : Int} {a : xA} {b : xB}
    (k1 : Q (some (xV z)) (xS a b)) :
    pmWp ro d 12 215 1 27 [some (.ref 87), some (xV x), some (xV rm)] [xV z] (xS a b) Q := by
  refine x_goto xc215_27 ?_
  refine x_iret xc215_31 (Or.inl rfl) ?_
  exact k1

theorem w222 {ro : Nat → Nat × (Nat → Int32)} {d : Nat} {Q : Option Value → pmS → Prop} {p rm : Int} {a : xA} {b : xB} (qr1 : xR p) (qr2 : xR rm) (hd : 2 ≤ d)
    (k1 : (1 ≤ p ∧ p < 4) → (0 ≤ rm ∧ rm < 7) → pmCs ro d 216 [.ref 87, xV (36 + (7 * (p - 1)) + rm)] (xS a b) fun r σ' => pmWp ro d 12 222 1 29 [some (.ref 87), some (xV p), some (xV rm)] (r.toList ++ []) σ' Q)
    (k2 : (1 ≤ p ∧ p < 4) → (¬ (0 ≤ rm ∧ rm < 7)) → Q (some (xV (-1))) (xS a b))
    (k3 : (¬ (1 ≤ p ∧ p < 4)) → Q (some (xV (-1))) (xS a b)) :
    pmWp ro d 12 222 1 0 [some (.ref 87), some (xV p), some (xV rm)] [] (xS a b) Q := by
  refine x_iloadn xc222_0 rfl ?_
  refine x_cS (as := [xV p]) (rest := []) xc222_1 rfl rfl xi146 ⟨rfl, rfl⟩ rfl rfl ?_
  refine xk146 (by omega) (xRk (by have g0 := xRb qr1; omega)) (fun h0 => ?_) (fun h1 => ?_)
  · refine x_ifeq xc222_4 (xRk (by decide)) (fun h => absurd h (by omega)) (fun _ => ?_)
    refine x_iloadn xc222_7 rfl ?_
    refine x_cS (as := [xV rm]) (rest := []) xc222_8 rfl rfl xi138 ⟨rfl, rfl⟩ rfl rfl ?_
    refine xk138 (by omega) (xRk (by have g0 := xRb qr2; omega)) (fun h3 => ?_) (fun h4 => ?_)
    · refine x_ifeq xc222_11 (xRk (by decide)) (fun h => absurd h (by omega)) (fun _ => ?_)
      refine x_aloadn xc222_14 rfl ?_
      refine x_bipush xc222_15 (by decide) ?_
      refine x_bipush xc222_17 (by decide) ?_
      refine x_iloadn xc222_19 rfl ?_
      refine x_iconst xc222_20 ?_
      refine x_isub xc222_21 ?_
      refine x_imul xc222_22 ?_
      refine x_iadd xc222_23 ?_
      refine x_iloadn xc222_24 rfl ?_
      refine x_iadd xc222_25 ?_
      refine x_cV (as := [xV (36 + (7 * (p - 1)) + rm)]) (rest := []) xc222_26 rfl xi216 xz87 ⟨rfl, rfl⟩ rfl rfl ?_
      exact k1 h0 h3
    · refine x_ifeq xc222_11 (xRk (by decide)) (fun _ => ?_) (fun h => absurd h (by omega))
      refine x_iconst xc222_32 ?_
      refine x_iret xc222_33 (Or.inl rfl) ?_
      exact k2 h0 h4
  · refine x_ifeq xc222_4 (xRk (by decide)) (fun _ => ?_) (fun h => absurd h (by omega))
    refine x_iconst xc222_32 ?_
    refine x_iret xc222_33 (Or.inl rfl) ?_
    exact k3 h1

theorem xg222 {ro : Nat → Nat × (Nat → Int32)} {d : Nat} {Q : Option Value → pmS → Prop} {a : xA} {b : xB} {p rm : Int} (h : pmWp ro d 12 222 1 0 [some (.ref 87), some (xV p), some (xV rm)] [] (xS a b) Q) : pmCs ro (d + 1) 222 [.ref 87, xV p, xV rm] (xS a b) Q := x_go xi222 rfl rfl rfl rfl rfl h
theorem w222a {ro : Nat → Nat × (Nat → Int32)} {d : Nat} {Q : Option Value → pmS → Prop} {p rm z : Int} {a : xA} {b : xB}
    (k1 : Q (some (xV z)) (xS a b)) :
    pmWp ro d 12 222 1 29 [some (.ref 87), some (xV p), some (xV rm)] [xV z] (xS a b) Q := by
  refine x_goto xc222_29 ?_
  refine x_iret xc222_33 (Or.inl rfl) ?_
  exact k1

theorem w216 {ro : Nat → Nat × (Nat → Int32)} {d : Nat} {Q : Option Value → pmS → Prop} {c : Int} {a : xA} {b : xB} (hbg : 0 ≤ a 87 4 ∧ a 87 4 ≤ 1)
    (k1 : (a 87 4 = 0) → Q (some (xV (-1))) (xS a b))
    (k2 : (¬ a 87 4 = 0) → pmCs ro d 217 [.ref 87, xV c] (xS a b) fun r σ' => pmWp ro d 12 216 1 12 [some (.ref 87), some (xV c), none] (r.toList ++ []) σ' Q) :
    pmWp ro d 12 216 1 0 [some (.ref 87), some (xV c), none] [] (xS a b) Q := by
  refine x_aloadn xc216_0 rfl ?_
  refine x_gfi (k := 4) xc216_1 rfl (Or.inr rfl) rfl xz87 ?_
  refine x_ifeq xc216_4 (xRk (by have g0 := hbg; omega)) (fun h0 => ?_) (fun h0 => ?_)
  · refine x_iconst xc216_15 ?_
    refine x_iret xc216_16 (Or.inl rfl) ?_
    exact k1 h0
  · refine x_aloadn xc216_7 rfl ?_
    refine x_iloadn xc216_8 rfl ?_
    refine x_cV (as := [xV c]) (rest := []) xc216_9 rfl xi217 xz87 ⟨rfl, rfl⟩ rfl rfl ?_
    exact k2 h0

theorem xg216 {ro : Nat → Nat × (Nat → Int32)} {d : Nat} {Q : Option Value → pmS → Prop} {a : xA} {b : xB} {c : Int} (h : pmWp ro d 12 216 1 0 [some (.ref 87), some (xV c), none] [] (xS a b) Q) : pmCs ro (d + 1) 216 [.ref 87, xV c] (xS a b) Q := x_go xi216 rfl rfl rfl rfl rfl h
theorem w216a {ro : Nat → Nat × (Nat → Int32)} {d : Nat} {Q : Option Value → pmS → Prop} {c z : Int} {a : xA} {b : xB} (hzz : z = 0 ∨ z = 1) (hc : 0 ≤ c ∧ c ≤ 56) (hd : 1 ≤ d)
    (k1 : (¬ z = 0) → pmCs ro d 221 [.ref 87, xV c] (xS a b) fun r σ' => pmWp ro d 12 216 1 28 [some (.ref 87), some (xV c), some (xV (uPr c (a 88)))] (r.toList ++ []) σ' Q)
    (k2 : (z = 0) → Q (some (xV (-1))) (xS a b)) :
    pmWp ro d 12 216 1 12 [some (.ref 87), some (xV c), none] [xV z] (xS a b) Q := by
  refine x_ifne xc216_12 (xRk (by have g0 := hzz; omega)) (fun h0 => ?_) (fun h0 => ?_)
  · refine x_aloadn xc216_17 rfl ?_
    refine x_iloadn xc216_18 rfl ?_
    refine x_cV (as := [xV c]) (rest := []) xc216_19 rfl xi220 xz87 ⟨rfl, rfl⟩ rfl rfl ?_
    refine rk220 (by omega) (by have g0 := hc; omega) ?_
    refine x_istoren (pl' := [some (.ref 87), some (xV c), some (xV (uPr c (a 88)))]) xc216_22 rfl rfl ?_
    refine x_aloadn xc216_23 rfl ?_
    refine x_iloadn xc216_24 rfl ?_
    refine x_cV (as := [xV c]) (rest := []) xc216_25 rfl xi221 xz87 ⟨rfl, rfl⟩ rfl rfl ?_
    exact k1 h0
  · replace h0 := Classical.not_not.mp h0
    refine x_iconst xc216_15 ?_
    refine x_iret xc216_16 (Or.inl rfl) ?_
    exact k2 h0

theorem w216b {ro : Nat → Nat × (Nat → Int32)} {d : Nat} {Q : Option Value → pmS → Prop} {c v t : Int} {a : xA} {b : xB} (htn : a 88 114 = t) (ht : 0 ≤ t ∧ t ≤ 60)
    (k1 : Q (some (xV v)) (xS (xU a 123 t c) b)) :
    pmWp ro d 12 216 1 28 [some (.ref 87), some (xV c), some (xV v)] [] (xS a b) Q := by
  refine x_aloadn xc216_28 rfl ?_
  refine x_gfr xc216_29 rfl rfl xz87 rfl ?_
  refine x_aloadn xc216_32 rfl ?_
  refine x_gfr xc216_33 rfl rfl xz87 rfl ?_
  refine x_bipush xc216_36 (by decide) ?_
  refine x_ial' (v := t) xc216_38 xz88 rfl (by omega) (by omega) (by omega) htn ?_
  refine x_iloadn xc216_39 rfl ?_
  refine x_ias xc216_40 xz123 (by have g0 := ht; omega) (by have g0 := ht; omega) (by have g0 := ht; omega) ?_
  refine x_iloadn xc216_41 rfl ?_
  refine x_iret xc216_42 (Or.inl rfl) ?_
  exact k1

end
