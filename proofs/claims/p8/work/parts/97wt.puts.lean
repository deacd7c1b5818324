/-! exact: thing, hidden, believe, price; what is put in -/
section
set_option maxRecDepth 100000
theorem xi3 : pmInf[3]? = some pmI_3 := rfl
theorem xi20 : pmInf[20]? = some pmI_20 := rfl
theorem xi21 : pmInf[21]? = some pmI_21 := rfl
theorem xi22 : pmInf[22]? = some pmI_22 := rfl
theorem xi23 : pmInf[23]? = some pmI_23 := rfl
theorem xi25 : pmInf[25]? = some pmI_25 := rfl
theorem xi28 : pmInf[28]? = some pmI_28 := rfl
theorem xi141 : pmInf[141]? = some pmI_141 := rfl
theorem xi142 : pmInf[142]? = some pmI_142 := rfl
theorem xi145 : pmInf[145]? = some pmI_145 := rfl
theorem xi150 : pmInf[150]? = some pmI_150 := rfl
theorem xc3_0 : pmCode 3 0 = some (.iload_n 1) ∧ 0 + 1 = 1 := ⟨rfl, rfl⟩
theorem xc3_1 : pmCode 3 1 = some (.ifCond .lt 21) ∧ ((1 : Nat) : Int) + 21 = ((22 : Nat) : Int) ∧ 1 + 3 = 4 := ⟨rfl, rfl, rfl⟩
theorem xc3_4 : pmCode 3 4 = some (.iload_n 1) ∧ 4 + 1 = 5 := ⟨rfl, rfl⟩
theorem xc3_5 : pmCode 3 5 = some (.bipush 7) ∧ 5 + 2 = 7 := ⟨rfl, rfl⟩
theorem xc3_7 : pmCode 3 7 = some (.if_icmp .ge 15) ∧ ((7 : Nat) : Int) + 15 = ((22 : Nat) : Int) ∧ 7 + 3 = 10 := ⟨rfl, rfl, rfl⟩
theorem xc3_10 : pmCode 3 10 = some (.aload_n 0) ∧ 10 + 1 = 11 := ⟨rfl, rfl⟩
theorem xc3_11 : pmCode 3 11 = some (.getfield 15) ∧ 11 + 3 = 14 := ⟨rfl, rfl⟩
theorem xc3_14 : pmCode 3 14 = some (.iload_n 1) ∧ 14 + 1 = 15 := ⟨rfl, rfl⟩
theorem xc3_15 : pmCode 3 15 = some (.bipush 8) ∧ 15 + 2 = 17 := ⟨rfl, rfl⟩
theorem xc3_17 : pmCode 3 17 = some (.iload_n 2) ∧ 17 + 1 = 18 := ⟨rfl, rfl⟩
theorem xc3_18 : pmCode 3 18 = some .imul ∧ 18 + 1 = 19 := ⟨rfl, rfl⟩
theorem xc3_19 : pmCode 3 19 = some (.iconst 1) ∧ 19 + 1 = 20 := ⟨rfl, rfl⟩
theorem xc3_20 : pmCode 3 20 = some .iadd ∧ 20 + 1 = 21 := ⟨rfl, rfl⟩
theorem xc3_21 : pmCode 3 21 = some .iastore ∧ 21 + 1 = 22 := ⟨rfl, rfl⟩
theorem xc3_22 : pmCode 3 22 = some .return_ := rfl
theorem xc20_0 : pmCode 20 0 = some (.iload_n 1) ∧ 0 + 1 = 1 := ⟨rfl, rfl⟩
theorem xc20_1 : pmCode 20 1 = some (.bipush 10) ∧ 1 + 2 = 3 := ⟨rfl, rfl⟩
theorem xc20_3 : pmCode 20 3 = some (.if_icmp .lt 17) ∧ ((3 : Nat) : Int) + 17 = ((20 : Nat) : Int) ∧ 3 + 3 = 6 := ⟨rfl, rfl, rfl⟩
theorem xc20_6 : pmCode 20 6 = some (.iload_n 1) ∧ 6 + 1 = 7 := ⟨rfl, rfl⟩
theorem xc20_7 : pmCode 20 7 = some (.bipush 10) ∧ 7 + 2 = 9 := ⟨rfl, rfl⟩
theorem xc20_9 : pmCode 20 9 = some .isub ∧ 9 + 1 = 10 := ⟨rfl, rfl⟩
theorem xc20_10 : pmCode 20 10 = some (.invokestatic 113) ∧ 10 + 3 = 13 := ⟨rfl, rfl⟩
theorem xc20_13 : pmCode 20 13 = some (.ifCond .eq 7) ∧ ((13 : Nat) : Int) + 7 = ((20 : Nat) : Int) ∧ 13 + 3 = 16 := ⟨rfl, rfl, rfl⟩
theorem xc20_16 : pmCode 20 16 = some (.iconst 1) ∧ 16 + 1 = 17 := ⟨rfl, rfl⟩
theorem xc20_17 : pmCode 20 17 = some (.goto 4) ∧ ((17 : Nat) : Int) + 4 = ((21 : Nat) : Int) := ⟨rfl, rfl⟩
theorem xc20_20 : pmCode 20 20 = some (.iconst 0) ∧ 20 + 1 = 21 := ⟨rfl, rfl⟩
theorem xc20_21 : pmCode 20 21 = some (.istore_n 3) ∧ 21 + 1 = 22 := ⟨rfl, rfl⟩
theorem xc20_22 : pmCode 20 22 = some (.aload_n 0) ∧ 22 + 1 = 23 := ⟨rfl, rfl⟩
theorem xc20_23 : pmCode 20 23 = some (.getfield 101) ∧ 23 + 3 = 26 := ⟨rfl, rfl⟩
theorem xc20_26 : pmCode 20 26 = some (.ifCond .ne 25) ∧ ((26 : Nat) : Int) + 25 = ((51 : Nat) : Int) ∧ 26 + 3 = 29 := ⟨rfl, rfl, rfl⟩
theorem xc20_29 : pmCode 20 29 = some (.aload_n 0) ∧ 29 + 1 = 30 := ⟨rfl, rfl⟩
theorem xc20_30 : pmCode 20 30 = some (.getfield 19) ∧ 30 + 3 = 33 := ⟨rfl, rfl⟩
theorem xc20_33 : pmCode 20 33 = some (.getfield 124) ∧ 33 + 3 = 36 := ⟨rfl, rfl⟩
theorem xc20_36 : pmCode 20 36 = some (.iconst 5) ∧ 36 + 1 = 37 := ⟨rfl, rfl⟩
theorem xc20_37 : pmCode 20 37 = some (.if_icmp .ge 14) ∧ ((37 : Nat) : Int) + 14 = ((51 : Nat) : Int) ∧ 37 + 3 = 40 := ⟨rfl, rfl, rfl⟩
theorem xc20_40 : pmCode 20 40 = some (.iload_n 1) ∧ 40 + 1 = 41 := ⟨rfl, rfl⟩
theorem xc20_41 : pmCode 20 41 = some (.invokestatic 105) ∧ 41 + 3 = 44 := ⟨rfl, rfl⟩
theorem xc20_44 : pmCode 20 44 = some (.ifCond .ne 9) ∧ ((44 : Nat) : Int) + 9 = ((53 : Nat) : Int) ∧ 44 + 3 = 47 := ⟨rfl, rfl, rfl⟩
theorem xc20_47 : pmCode 20 47 = some (.iload_n 3) ∧ 47 + 1 = 48 := ⟨rfl, rfl⟩
theorem xc20_48 : pmCode 20 48 = some (.ifCond .ne 5) ∧ ((48 : Nat) : Int) + 5 = ((53 : Nat) : Int) ∧ 48 + 3 = 51 := ⟨rfl, rfl, rfl⟩
theorem xc20_51 : pmCode 20 51 = some (.iconst (-1)) ∧ 51 + 1 = 52 := ⟨rfl, rfl⟩
theorem xc20_52 : pmCode 20 52 = some .ireturn := rfl
theorem xc20_53 : pmCode 20 53 = some (.aload_n 0) ∧ 53 + 1 = 54 := ⟨rfl, rfl⟩
theorem xc20_54 : pmCode 20 54 = some (.getfield 19) ∧ 54 + 3 = 57 := ⟨rfl, rfl⟩
theorem xc20_57 : pmCode 20 57 = some (.iload_n 2) ∧ 57 + 1 = 58 := ⟨rfl, rfl⟩
theorem xc20_58 : pmCode 20 58 = some (.invokevirtual 128) ∧ 58 + 3 = 61 := ⟨rfl, rfl⟩
theorem xc20_61 : pmCode 20 61 = some (.istore 4) ∧ 61 + 2 = 63 := ⟨rfl, rfl⟩
theorem xc20_63 : pmCode 20 63 = some (.aload_n 0) ∧ 63 + 1 = 64 := ⟨rfl, rfl⟩
theorem xc20_64 : pmCode 20 64 = some (.getfield 40) ∧ 64 + 3 = 67 := ⟨rfl, rfl⟩
theorem xc20_67 : pmCode 20 67 = some (.aload_n 0) ∧ 67 + 1 = 68 := ⟨rfl, rfl⟩
theorem xc20_68 : pmCode 20 68 = some (.getfield 40) ∧ 68 + 3 = 71 := ⟨rfl, rfl⟩
theorem xc20_71 : pmCode 20 71 = some (.getfield 116) ∧ 71 + 3 = 74 := ⟨rfl, rfl⟩
theorem xc20_74 : pmCode 20 74 = some (.iconst 4) ∧ 74 + 1 = 75 := ⟨rfl, rfl⟩
theorem xc20_75 : pmCode 20 75 = some (.iload 4) ∧ 75 + 2 = 77 := ⟨rfl, rfl⟩
theorem xc20_77 : pmCode 20 77 = some .iadd ∧ 77 + 1 = 78 := ⟨rfl, rfl⟩
theorem xc20_78 : pmCode 20 78 = some (.iload_n 1) ∧ 78 + 1 = 79 := ⟨rfl, rfl⟩
theorem xc20_79 : pmCode 20 79 = some (.invokestatic 132) ∧ 79 + 3 = 82 := ⟨rfl, rfl⟩
theorem xc20_82 : pmCode 20 82 = some (.invokestatic 120) ∧ 82 + 3 = 85 := ⟨rfl, rfl⟩
theorem xc20_85 : pmCode 20 85 = some (.putfield 116) ∧ 85 + 3 = 88 := ⟨rfl, rfl⟩
theorem xc20_88 : pmCode 20 88 = some (.iload 4) ∧ 88 + 2 = 90 := ⟨rfl, rfl⟩
theorem xc20_90 : pmCode 20 90 = some .ireturn := rfl
theorem xc21_0 : pmCode 21 0 = some (.aload_n 0) ∧ 0 + 1 = 1 := ⟨rfl, rfl⟩
theorem xc21_1 : pmCode 21 1 = some .dup ∧ 1 + 1 = 2 := ⟨rfl, rfl⟩
theorem xc21_2 : pmCode 21 2 = some (.getfield 31) ∧ 2 + 3 = 5 := ⟨rfl, rfl⟩
theorem xc21_5 : pmCode 21 5 = some (.iload_n 1) ∧ 5 + 1 = 6 := ⟨rfl, rfl⟩
theorem xc21_6 : pmCode 21 6 = some (.ifCond .eq 12) ∧ ((6 : Nat) : Int) + 12 = ((18 : Nat) : Int) ∧ 6 + 3 = 9 := ⟨rfl, rfl, rfl⟩
theorem xc21_9 : pmCode 21 9 = some (.iconst 1) ∧ 9 + 1 = 10 := ⟨rfl, rfl⟩
theorem xc21_10 : pmCode 21 10 = some (.aload_n 0) ∧ 10 + 1 = 11 := ⟨rfl, rfl⟩
theorem xc21_11 : pmCode 21 11 = some (.getfield 35) ∧ 11 + 3 = 14 := ⟨rfl, rfl⟩
theorem xc21_14 : pmCode 21 14 = some .ishl ∧ 14 + 1 = 15 := ⟨rfl, rfl⟩
theorem xc21_15 : pmCode 21 15 = some (.goto 4) ∧ ((15 : Nat) : Int) + 4 = ((19 : Nat) : Int) := ⟨rfl, rfl⟩
theorem xc21_18 : pmCode 21 18 = some (.iconst 0) ∧ 18 + 1 = 19 := ⟨rfl, rfl⟩
theorem xc21_19 : pmCode 21 19 = some .ior ∧ 19 + 1 = 20 := ⟨rfl, rfl⟩
theorem xc21_20 : pmCode 21 20 = some (.putfield 31) ∧ 20 + 3 = 23 := ⟨rfl, rfl⟩
theorem xc21_23 : pmCode 21 23 = some (.aload_n 0) ∧ 23 + 1 = 24 := ⟨rfl, rfl⟩
theorem xc21_24 : pmCode 21 24 = some .dup ∧ 24 + 1 = 25 := ⟨rfl, rfl⟩
theorem xc21_25 : pmCode 21 25 = some (.getfield 35) ∧ 25 + 3 = 28 := ⟨rfl, rfl⟩
theorem xc21_28 : pmCode 21 28 = some (.iconst 1) ∧ 28 + 1 = 29 := ⟨rfl, rfl⟩
theorem xc21_29 : pmCode 21 29 = some .iadd ∧ 29 + 1 = 30 := ⟨rfl, rfl⟩
theorem xc21_30 : pmCode 21 30 = some (.putfield 35) ∧ 30 + 3 = 33 := ⟨rfl, rfl⟩
theorem xc21_33 : pmCode 21 33 = some (.aload_n 0) ∧ 33 + 1 = 34 := ⟨rfl, rfl⟩
theorem xc21_34 : pmCode 21 34 = some (.getfield 35) ∧ 34 + 3 = 37 := ⟨rfl, rfl⟩
theorem xc21_37 : pmCode 21 37 = some (.iconst 1) ∧ 37 + 1 = 38 := ⟨rfl, rfl⟩
theorem xc21_38 : pmCode 21 38 = some .isub ∧ 38 + 1 = 39 := ⟨rfl, rfl⟩
theorem xc21_39 : pmCode 21 39 = some .ireturn := rfl
theorem xc22_0 : pmCode 22 0 = some (.iload_n 0) ∧ 0 + 1 = 1 := ⟨rfl, rfl⟩
theorem xc22_1 : pmCode 22 1 = some (.iconst (-1)) ∧ 1 + 1 = 2 := ⟨rfl, rfl⟩
theorem xc22_2 : pmCode 22 2 = some (.if_icmp .ne 5) ∧ ((2 : Nat) : Int) + 5 = ((7 : Nat) : Int) ∧ 2 + 3 = 5 := ⟨rfl, rfl, rfl⟩
theorem xc22_5 : pmCode 22 5 = some (.iconst 0) ∧ 5 + 1 = 6 := ⟨rfl, rfl⟩
theorem xc22_6 : pmCode 22 6 = some .ireturn := rfl
theorem xc22_7 : pmCode 22 7 = some (.iload_n 0) ∧ 7 + 1 = 8 := ⟨rfl, rfl⟩
theorem xc22_8 : pmCode 22 8 = some (.bipush 10) ∧ 8 + 2 = 10 := ⟨rfl, rfl⟩
theorem xc22_10 : pmCode 22 10 = some (.if_icmp .lt 13) ∧ ((10 : Nat) : Int) + 13 = ((23 : Nat) : Int) ∧ 10 + 3 = 13 := ⟨rfl, rfl, rfl⟩
theorem xc22_13 : pmCode 22 13 = some (.bipush 9) ∧ 13 + 2 = 15 := ⟨rfl, rfl⟩
theorem xc22_15 : pmCode 22 15 = some (.iload_n 0) ∧ 15 + 1 = 16 := ⟨rfl, rfl⟩
theorem xc22_16 : pmCode 22 16 = some .iadd ∧ 16 + 1 = 17 := ⟨rfl, rfl⟩
theorem xc22_17 : pmCode 22 17 = some (.bipush 10) ∧ 17 + 2 = 19 := ⟨rfl, rfl⟩
theorem xc22_19 : pmCode 22 19 = some .isub ∧ 19 + 1 = 20 := ⟨rfl, rfl⟩
theorem xc22_20 : pmCode 22 20 = some (.goto 6) ∧ ((20 : Nat) : Int) + 6 = ((26 : Nat) : Int) := ⟨rfl, rfl⟩
theorem xc22_23 : pmCode 22 23 = some (.iload_n 0) ∧ 23 + 1 = 24 := ⟨rfl, rfl⟩
theorem xc22_24 : pmCode 22 24 = some (.iconst 1) ∧ 24 + 1 = 25 := ⟨rfl, rfl⟩
theorem xc22_25 : pmCode 22 25 = some .iadd ∧ 25 + 1 = 26 := ⟨rfl, rfl⟩
theorem xc22_26 : pmCode 22 26 = some .ireturn := rfl
theorem xc23_0 : pmCode 23 0 = some (.iload_n 1) ∧ 0 + 1 = 1 := ⟨rfl, rfl⟩
theorem xc23_1 : pmCode 23 1 = some (.ifCond .lt 22) ∧ ((1 : Nat) : Int) + 22 = ((23 : Nat) : Int) ∧ 1 + 3 = 4 := ⟨rfl, rfl, rfl⟩
theorem xc23_4 : pmCode 23 4 = some (.iload_n 1) ∧ 4 + 1 = 5 := ⟨rfl, rfl⟩
theorem xc23_5 : pmCode 23 5 = some (.sipush 128) ∧ 5 + 3 = 8 := ⟨rfl, rfl⟩
theorem xc23_8 : pmCode 23 8 = some (.if_icmp .ge 15) ∧ ((8 : Nat) : Int) + 15 = ((23 : Nat) : Int) ∧ 8 + 3 = 11 := ⟨rfl, rfl, rfl⟩
theorem xc23_11 : pmCode 23 11 = some (.iload_n 1) ∧ 11 + 1 = 12 := ⟨rfl, rfl⟩
theorem xc23_12 : pmCode 23 12 = some (.invokestatic 136) ∧ 12 + 3 = 15 := ⟨rfl, rfl⟩
theorem xc23_15 : pmCode 23 15 = some (.iconst 2) ∧ 15 + 1 = 16 := ⟨rfl, rfl⟩
theorem xc23_16 : pmCode 23 16 = some (.if_icmp .lt 7) ∧ ((16 : Nat) : Int) + 7 = ((23 : Nat) : Int) ∧ 16 + 3 = 19 := ⟨rfl, rfl, rfl⟩
theorem xc23_19 : pmCode 23 19 = some (.iconst 1) ∧ 19 + 1 = 20 := ⟨rfl, rfl⟩
theorem xc23_20 : pmCode 23 20 = some (.goto 4) ∧ ((20 : Nat) : Int) + 4 = ((24 : Nat) : Int) := ⟨rfl, rfl⟩
theorem xc23_23 : pmCode 23 23 = some (.iconst 0) ∧ 23 + 1 = 24 := ⟨rfl, rfl⟩
theorem xc23_24 : pmCode 23 24 = some (.istore_n 3) ∧ 24 + 1 = 25 := ⟨rfl, rfl⟩
theorem xc23_25 : pmCode 23 25 = some (.aload_n 0) ∧ 25 + 1 = 26 := ⟨rfl, rfl⟩
theorem xc23_26 : pmCode 23 26 = some (.getfield 101) ∧ 26 + 3 = 29 := ⟨rfl, rfl⟩
theorem xc23_29 : pmCode 23 29 = some (.ifCond .ne 18) ∧ ((29 : Nat) : Int) + 18 = ((47 : Nat) : Int) ∧ 29 + 3 = 32 := ⟨rfl, rfl, rfl⟩
theorem xc23_32 : pmCode 23 32 = some (.aload_n 0) ∧ 32 + 1 = 33 := ⟨rfl, rfl⟩
theorem xc23_33 : pmCode 23 33 = some (.getfield 19) ∧ 33 + 3 = 36 := ⟨rfl, rfl⟩
theorem xc23_36 : pmCode 23 36 = some (.getfield 124) ∧ 36 + 3 = 39 := ⟨rfl, rfl⟩
theorem xc23_39 : pmCode 23 39 = some (.iconst 5) ∧ 39 + 1 = 40 := ⟨rfl, rfl⟩
theorem xc23_40 : pmCode 23 40 = some (.if_icmp .ge 7) ∧ ((40 : Nat) : Int) + 7 = ((47 : Nat) : Int) ∧ 40 + 3 = 43 := ⟨rfl, rfl, rfl⟩
theorem xc23_43 : pmCode 23 43 = some (.iload_n 3) ∧ 43 + 1 = 44 := ⟨rfl, rfl⟩
theorem xc23_44 : pmCode 23 44 = some (.ifCond .ne 5) ∧ ((44 : Nat) : Int) + 5 = ((49 : Nat) : Int) ∧ 44 + 3 = 47 := ⟨rfl, rfl, rfl⟩
theorem xc23_47 : pmCode 23 47 = some (.iconst (-1)) ∧ 47 + 1 = 48 := ⟨rfl, rfl⟩
theorem xc23_48 : pmCode 23 48 = some .ireturn := rfl
theorem xc23_49 : pmCode 23 49 = some (.aload_n 0) ∧ 49 + 1 = 50 := ⟨rfl, rfl⟩
theorem xc23_50 : pmCode 23 50 = some (.getfield 19) ∧ 50 + 3 = 53 := ⟨rfl, rfl⟩
theorem xc23_53 : pmCode 23 53 = some (.iload_n 2) ∧ 53 + 1 = 54 := ⟨rfl, rfl⟩
theorem xc23_54 : pmCode 23 54 = some (.invokevirtual 128) ∧ 54 + 3 = 57 := ⟨rfl, rfl⟩
theorem xc23_57 : pmCode 23 57 = some (.istore 4) ∧ 57 + 2 = 59 := ⟨rfl, rfl⟩
theorem xc23_59 : pmCode 23 59 = some (.aload_n 0) ∧ 59 + 1 = 60 := ⟨rfl, rfl⟩
theorem xc23_60 : pmCode 23 60 = some (.getfield 40) ∧ 60 + 3 = 63 := ⟨rfl, rfl⟩
theorem xc23_63 : pmCode 23 63 = some (.aload_n 0) ∧ 63 + 1 = 64 := ⟨rfl, rfl⟩
theorem xc23_64 : pmCode 23 64 = some (.getfield 40) ∧ 64 + 3 = 67 := ⟨rfl, rfl⟩
theorem xc23_67 : pmCode 23 67 = some (.getfield 116) ∧ 67 + 3 = 70 := ⟨rfl, rfl⟩
theorem xc23_70 : pmCode 23 70 = some (.iconst 4) ∧ 70 + 1 = 71 := ⟨rfl, rfl⟩
theorem xc23_71 : pmCode 23 71 = some (.iload 4) ∧ 71 + 2 = 73 := ⟨rfl, rfl⟩
theorem xc23_73 : pmCode 23 73 = some .iadd ∧ 73 + 1 = 74 := ⟨rfl, rfl⟩
theorem xc23_74 : pmCode 23 74 = some (.bipush 13) ∧ 74 + 2 = 76 := ⟨rfl, rfl⟩
theorem xc23_76 : pmCode 23 76 = some (.invokestatic 120) ∧ 76 + 3 = 79 := ⟨rfl, rfl⟩
theorem xc23_79 : pmCode 23 79 = some (.putfield 116) ∧ 79 + 3 = 82 := ⟨rfl, rfl⟩
theorem xc23_82 : pmCode 23 82 = some (.aload_n 0) ∧ 82 + 1 = 83 := ⟨rfl, rfl⟩
theorem xc23_83 : pmCode 23 83 = some (.getfield 40) ∧ 83 + 3 = 86 := ⟨rfl, rfl⟩
theorem xc23_86 : pmCode 23 86 = some .dup ∧ 86 + 1 = 87 := ⟨rfl, rfl⟩
theorem xc23_87 : pmCode 23 87 = some (.getfield 141) ∧ 87 + 3 = 90 := ⟨rfl, rfl⟩
theorem xc23_90 : pmCode 23 90 = some (.iload_n 1) ∧ 90 + 1 = 91 := ⟨rfl, rfl⟩
theorem xc23_91 : pmCode 23 91 = some .i2l ∧ 91 + 1 = 92 := ⟨rfl, rfl⟩
theorem xc23_92 : pmCode 23 92 = some (.bipush 7) ∧ 92 + 2 = 94 := ⟨rfl, rfl⟩
theorem xc23_94 : pmCode 23 94 = some (.iload 4) ∧ 94 + 2 = 96 := ⟨rfl, rfl⟩
theorem xc23_96 : pmCode 23 96 = some .imul ∧ 96 + 1 = 97 := ⟨rfl, rfl⟩
theorem xc23_97 : pmCode 23 97 = some .lshl ∧ 97 + 1 = 98 := ⟨rfl, rfl⟩
theorem xc23_98 : pmCode 23 98 = some .lor ∧ 98 + 1 = 99 := ⟨rfl, rfl⟩
theorem xc23_99 : pmCode 23 99 = some (.putfield 141) ∧ 99 + 3 = 102 := ⟨rfl, rfl⟩
theorem xc23_102 : pmCode 23 102 = some (.iload 4) ∧ 102 + 2 = 104 := ⟨rfl, rfl⟩
theorem xc23_104 : pmCode 23 104 = some .ireturn := rfl
theorem xc25_0 : pmCode 25 0 = some (.aload_n 0) ∧ 0 + 1 = 1 := ⟨rfl, rfl⟩
theorem xc25_1 : pmCode 25 1 = some (.getfield 101) ∧ 1 + 3 = 4 := ⟨rfl, rfl⟩
theorem xc25_4 : pmCode 25 4 = some (.ifCond .ne 28) ∧ ((4 : Nat) : Int) + 28 = ((32 : Nat) : Int) ∧ 4 + 3 = 7 := ⟨rfl, rfl, rfl⟩
theorem xc25_7 : pmCode 25 7 = some (.iload_n 1) ∧ 7 + 1 = 8 := ⟨rfl, rfl⟩
theorem xc25_8 : pmCode 25 8 = some (.invokestatic 144) ∧ 8 + 3 = 11 := ⟨rfl, rfl⟩
theorem xc25_11 : pmCode 25 11 = some (.ifCond .eq 21) ∧ ((11 : Nat) : Int) + 21 = ((32 : Nat) : Int) ∧ 11 + 3 = 14 := ⟨rfl, rfl, rfl⟩
theorem xc25_14 : pmCode 25 14 = some (.aload_n 0) ∧ 14 + 1 = 15 := ⟨rfl, rfl⟩
theorem xc25_15 : pmCode 25 15 = some (.iload_n 2) ∧ 15 + 1 = 16 := ⟨rfl, rfl⟩
theorem xc25_16 : pmCode 25 16 = some (.iload_n 3) ∧ 16 + 1 = 17 := ⟨rfl, rfl⟩
theorem xc25_17 : pmCode 25 17 = some (.invokevirtual 147) ∧ 17 + 3 = 20 := ⟨rfl, rfl⟩
theorem xc25_20 : pmCode 25 20 = some (.ifCond .eq 12) ∧ ((20 : Nat) : Int) + 12 = ((32 : Nat) : Int) ∧ 20 + 3 = 23 := ⟨rfl, rfl, rfl⟩
theorem xc25_23 : pmCode 25 23 = some (.iload_n 2) ∧ 23 + 1 = 24 := ⟨rfl, rfl⟩
theorem xc25_24 : pmCode 25 24 = some (.ifCond .eq 10) ∧ ((24 : Nat) : Int) + 10 = ((34 : Nat) : Int) ∧ 24 + 3 = 27 := ⟨rfl, rfl, rfl⟩
theorem xc25_27 : pmCode 25 27 = some (.iload_n 3) ∧ 27 + 1 = 28 := ⟨rfl, rfl⟩
theorem xc25_28 : pmCode 25 28 = some (.iload_n 1) ∧ 28 + 1 = 29 := ⟨rfl, rfl⟩
theorem xc25_29 : pmCode 25 29 = some (.if_icmp .ne 5) ∧ ((29 : Nat) : Int) + 5 = ((34 : Nat) : Int) ∧ 29 + 3 = 32 := ⟨rfl, rfl, rfl⟩
theorem xc25_32 : pmCode 25 32 = some (.iconst 0) ∧ 32 + 1 = 33 := ⟨rfl, rfl⟩
theorem xc25_33 : pmCode 25 33 = some .ireturn := rfl
theorem xc25_34 : pmCode 25 34 = some (.iload_n 2) ∧ 34 + 1 = 35 := ⟨rfl, rfl⟩
theorem xc25_35 : pmCode 25 35 = some (.ifCond .ne 34) ∧ ((35 : Nat) : Int) + 34 = ((69 : Nat) : Int) ∧ 35 + 3 = 38 := ⟨rfl, rfl, rfl⟩
theorem xc25_38 : pmCode 25 38 = some (.iload 4) ∧ 38 + 2 = 40 := ⟨rfl, rfl⟩
theorem xc25_40 : pmCode 25 40 = some (.bipush 10) ∧ 40 + 2 = 42 := ⟨rfl, rfl⟩
theorem xc25_42 : pmCode 25 42 = some (.if_icmp .lt 27) ∧ ((42 : Nat) : Int) + 27 = ((69 : Nat) : Int) ∧ 42 + 3 = 45 := ⟨rfl, rfl, rfl⟩
theorem xc25_45 : pmCode 25 45 = some (.iload 4) ∧ 45 + 2 = 47 := ⟨rfl, rfl⟩
theorem xc25_47 : pmCode 25 47 = some (.bipush 10) ∧ 47 + 2 = 49 := ⟨rfl, rfl⟩
theorem xc25_49 : pmCode 25 49 = some .isub ∧ 49 + 1 = 50 := ⟨rfl, rfl⟩
theorem xc25_50 : pmCode 25 50 = some (.invokestatic 113) ∧ 50 + 3 = 53 := ⟨rfl, rfl⟩
theorem xc25_53 : pmCode 25 53 = some (.ifCond .eq 16) ∧ ((53 : Nat) : Int) + 16 = ((69 : Nat) : Int) ∧ 53 + 3 = 56 := ⟨rfl, rfl, rfl⟩
theorem xc25_56 : pmCode 25 56 = some (.iload 4) ∧ 56 + 2 = 58 := ⟨rfl, rfl⟩
theorem xc25_58 : pmCode 25 58 = some (.bipush 10) ∧ 58 + 2 = 60 := ⟨rfl, rfl⟩
theorem xc25_60 : pmCode 25 60 = some (.iload_n 1) ∧ 60 + 1 = 61 := ⟨rfl, rfl⟩
theorem xc25_61 : pmCode 25 61 = some .iadd ∧ 61 + 1 = 62 := ⟨rfl, rfl⟩
theorem xc25_62 : pmCode 25 62 = some (.if_icmp .eq 7) ∧ ((62 : Nat) : Int) + 7 = ((69 : Nat) : Int) ∧ 62 + 3 = 65 := ⟨rfl, rfl, rfl⟩
theorem xc25_65 : pmCode 25 65 = some (.iconst 1) ∧ 65 + 1 = 66 := ⟨rfl, rfl⟩
theorem xc25_66 : pmCode 25 66 = some (.goto 4) ∧ ((66 : Nat) : Int) + 4 = ((70 : Nat) : Int) := ⟨rfl, rfl⟩
theorem xc25_69 : pmCode 25 69 = some (.iconst 0) ∧ 69 + 1 = 70 := ⟨rfl, rfl⟩
theorem xc25_70 : pmCode 25 70 = some (.istore 5) ∧ 70 + 2 = 72 := ⟨rfl, rfl⟩
theorem xc25_72 : pmCode 25 72 = some (.iload 4) ∧ 72 + 2 = 74 := ⟨rfl, rfl⟩
theorem xc25_74 : pmCode 25 74 = some (.iconst (-1)) ∧ 74 + 1 = 75 := ⟨rfl, rfl⟩
theorem xc25_75 : pmCode 25 75 = some (.if_icmp .eq 18) ∧ ((75 : Nat) : Int) + 18 = ((93 : Nat) : Int) ∧ 75 + 3 = 78 := ⟨rfl, rfl, rfl⟩
theorem xc25_78 : pmCode 25 78 = some (.iload 4) ∧ 78 + 2 = 80 := ⟨rfl, rfl⟩
theorem xc25_80 : pmCode 25 80 = some (.invokestatic 105) ∧ 80 + 3 = 83 := ⟨rfl, rfl⟩
theorem xc25_83 : pmCode 25 83 = some (.ifCond .ne 10) ∧ ((83 : Nat) : Int) + 10 = ((93 : Nat) : Int) ∧ 83 + 3 = 86 := ⟨rfl, rfl, rfl⟩
theorem xc25_86 : pmCode 25 86 = some (.iload 5) ∧ 86 + 2 = 88 := ⟨rfl, rfl⟩
theorem xc25_88 : pmCode 25 88 = some (.ifCond .ne 5) ∧ ((88 : Nat) : Int) + 5 = ((93 : Nat) : Int) ∧ 88 + 3 = 91 := ⟨rfl, rfl, rfl⟩
theorem xc25_91 : pmCode 25 91 = some (.iconst 0) ∧ 91 + 1 = 92 := ⟨rfl, rfl⟩
theorem xc25_92 : pmCode 25 92 = some .ireturn := rfl
theorem xc25_93 : pmCode 25 93 = some (.aload_n 0) ∧ 93 + 1 = 94 := ⟨rfl, rfl⟩
theorem xc25_94 : pmCode 25 94 = some (.getfield 40) ∧ 94 + 3 = 97 := ⟨rfl, rfl⟩
theorem xc25_97 : pmCode 25 97 = some (.getfield 151) ∧ 97 + 3 = 100 := ⟨rfl, rfl⟩
theorem xc25_100 : pmCode 25 100 = some (.iload_n 1) ∧ 100 + 1 = 101 := ⟨rfl, rfl⟩
theorem xc25_101 : pmCode 25 101 = some (.aload_n 0) ∧ 101 + 1 = 102 := ⟨rfl, rfl⟩
theorem xc25_102 : pmCode 25 102 = some (.getfield 40) ∧ 102 + 3 = 105 := ⟨rfl, rfl⟩
theorem xc25_105 : pmCode 25 105 = some (.getfield 151) ∧ 105 + 3 = 108 := ⟨rfl, rfl⟩
theorem xc25_108 : pmCode 25 108 = some (.iload_n 1) ∧ 108 + 1 = 109 := ⟨rfl, rfl⟩
theorem xc25_109 : pmCode 25 109 = some .laload ∧ 109 + 1 = 110 := ⟨rfl, rfl⟩
theorem xc25_110 : pmCode 25 110 = some (.iload_n 2) ∧ 110 + 1 = 111 := ⟨rfl, rfl⟩
theorem xc25_111 : pmCode 25 111 = some (.ifCond .eq 7) ∧ ((111 : Nat) : Int) + 7 = ((118 : Nat) : Int) ∧ 111 + 3 = 114 := ⟨rfl, rfl, rfl⟩
theorem xc25_114 : pmCode 25 114 = some (.iload_n 3) ∧ 114 + 1 = 115 := ⟨rfl, rfl⟩
theorem xc25_115 : pmCode 25 115 = some (.goto 6) ∧ ((115 : Nat) : Int) + 6 = ((121 : Nat) : Int) := ⟨rfl, rfl⟩
theorem xc25_118 : pmCode 25 118 = some (.iconst 4) ∧ 118 + 1 = 119 := ⟨rfl, rfl⟩
theorem xc25_119 : pmCode 25 119 = some (.iload_n 3) ∧ 119 + 1 = 120 := ⟨rfl, rfl⟩
theorem xc25_120 : pmCode 25 120 = some .iadd ∧ 120 + 1 = 121 := ⟨rfl, rfl⟩
theorem xc25_121 : pmCode 25 121 = some (.iload 4) ∧ 121 + 2 = 123 := ⟨rfl, rfl⟩
theorem xc25_123 : pmCode 25 123 = some (.invokestatic 132) ∧ 123 + 3 = 126 := ⟨rfl, rfl⟩
theorem xc25_126 : pmCode 25 126 = some (.invokestatic 120) ∧ 126 + 3 = 129 := ⟨rfl, rfl⟩
theorem xc25_129 : pmCode 25 129 = some .lastore ∧ 129 + 1 = 130 := ⟨rfl, rfl⟩
theorem xc25_130 : pmCode 25 130 = some (.iconst 1) ∧ 130 + 1 = 131 := ⟨rfl, rfl⟩
theorem xc25_131 : pmCode 25 131 = some .ireturn := rfl
theorem xc28_0 : pmCode 28 0 = some (.aload_n 0) ∧ 0 + 1 = 1 := ⟨rfl, rfl⟩
theorem xc28_1 : pmCode 28 1 = some (.getfield 101) ∧ 1 + 3 = 4 := ⟨rfl, rfl⟩
theorem xc28_4 : pmCode 28 4 = some (.ifCond .ne 24) ∧ ((4 : Nat) : Int) + 24 = ((28 : Nat) : Int) ∧ 4 + 3 = 7 := ⟨rfl, rfl, rfl⟩
theorem xc28_7 : pmCode 28 7 = some (.iload_n 1) ∧ 7 + 1 = 8 := ⟨rfl, rfl⟩
theorem xc28_8 : pmCode 28 8 = some (.iconst 1) ∧ 8 + 1 = 9 := ⟨rfl, rfl⟩
theorem xc28_9 : pmCode 28 9 = some (.if_icmp .lt 19) ∧ ((9 : Nat) : Int) + 19 = ((28 : Nat) : Int) ∧ 9 + 3 = 12 := ⟨rfl, rfl, rfl⟩
theorem xc28_12 : pmCode 28 12 = some (.iload_n 1) ∧ 12 + 1 = 13 := ⟨rfl, rfl⟩
theorem xc28_13 : pmCode 28 13 = some (.iconst 5) ∧ 13 + 1 = 14 := ⟨rfl, rfl⟩
theorem xc28_14 : pmCode 28 14 = some (.if_icmp .gt 14) ∧ ((14 : Nat) : Int) + 14 = ((28 : Nat) : Int) ∧ 14 + 3 = 17 := ⟨rfl, rfl, rfl⟩
theorem xc28_17 : pmCode 28 17 = some (.iload_n 2) ∧ 17 + 1 = 18 := ⟨rfl, rfl⟩
theorem xc28_18 : pmCode 28 18 = some (.iconst 1) ∧ 18 + 1 = 19 := ⟨rfl, rfl⟩
theorem xc28_19 : pmCode 28 19 = some (.if_icmp .lt 9) ∧ ((19 : Nat) : Int) + 9 = ((28 : Nat) : Int) ∧ 19 + 3 = 22 := ⟨rfl, rfl, rfl⟩
theorem xc28_22 : pmCode 28 22 = some (.iload_n 2) ∧ 22 + 1 = 23 := ⟨rfl, rfl⟩
theorem xc28_23 : pmCode 28 23 = some (.bipush 9) ∧ 23 + 2 = 25 := ⟨rfl, rfl⟩
theorem xc28_25 : pmCode 28 25 = some (.if_icmp .le 5) ∧ ((25 : Nat) : Int) + 5 = ((30 : Nat) : Int) ∧ 25 + 3 = 28 := ⟨rfl, rfl, rfl⟩
theorem xc28_28 : pmCode 28 28 = some (.iconst 0) ∧ 28 + 1 = 29 := ⟨rfl, rfl⟩
theorem xc28_29 : pmCode 28 29 = some .ireturn := rfl
theorem xc28_30 : pmCode 28 30 = some (.aload_n 0) ∧ 30 + 1 = 31 := ⟨rfl, rfl⟩
theorem xc28_31 : pmCode 28 31 = some (.getfield 19) ∧ 31 + 3 = 34 := ⟨rfl, rfl⟩
theorem xc28_34 : pmCode 28 34 = some (.iload_n 1) ∧ 34 + 1 = 35 := ⟨rfl, rfl⟩
theorem xc28_35 : pmCode 28 35 = some (.iload_n 2) ∧ 35 + 1 = 36 := ⟨rfl, rfl⟩
theorem xc28_36 : pmCode 28 36 = some (.invokevirtual 155) ∧ 36 + 3 = 39 := ⟨rfl, rfl⟩
theorem xc28_39 : pmCode 28 39 = some (.iconst 1) ∧ 39 + 1 = 40 := ⟨rfl, rfl⟩
theorem xc28_40 : pmCode 28 40 = some .ireturn := rfl
theorem xc141_0 : pmCode 141 0 = some (.aload_n 0) ∧ 0 + 1 = 1 := ⟨rfl, rfl⟩
theorem xc141_1 : pmCode 141 1 = some (.getfield 131) ∧ 1 + 3 = 4 := ⟨rfl, rfl⟩
theorem xc141_4 : pmCode 141 4 = some (.ifCond .ne 28) ∧ ((4 : Nat) : Int) + 28 = ((32 : Nat) : Int) ∧ 4 + 3 = 7 := ⟨rfl, rfl, rfl⟩
theorem xc141_7 : pmCode 141 7 = some (.aload_n 0) ∧ 7 + 1 = 8 := ⟨rfl, rfl⟩
theorem xc141_8 : pmCode 141 8 = some (.getfield 127) ∧ 8 + 3 = 11 := ⟨rfl, rfl⟩
theorem xc141_11 : pmCode 141 11 = some (.iconst 5) ∧ 11 + 1 = 12 := ⟨rfl, rfl⟩
theorem xc141_12 : pmCode 141 12 = some (.if_icmp .eq 20) ∧ ((12 : Nat) : Int) + 20 = ((32 : Nat) : Int) ∧ 12 + 3 = 15 := ⟨rfl, rfl, rfl⟩
theorem xc141_15 : pmCode 141 15 = some (.iload_n 1) ∧ 15 + 1 = 16 := ⟨rfl, rfl⟩
theorem xc141_16 : pmCode 141 16 = some (.invokestatic 135) ∧ 16 + 3 = 19 := ⟨rfl, rfl⟩
theorem xc141_19 : pmCode 141 19 = some (.ifCond .ne 15) ∧ ((19 : Nat) : Int) + 15 = ((34 : Nat) : Int) ∧ 19 + 3 = 22 := ⟨rfl, rfl, rfl⟩
theorem xc141_22 : pmCode 141 22 = some (.iload_n 1) ∧ 22 + 1 = 23 := ⟨rfl, rfl⟩
theorem xc141_23 : pmCode 141 23 = some (.bipush 10) ∧ 23 + 2 = 25 := ⟨rfl, rfl⟩
theorem xc141_25 : pmCode 141 25 = some .isub ∧ 25 + 1 = 26 := ⟨rfl, rfl⟩
theorem xc141_26 : pmCode 141 26 = some (.invokestatic 139) ∧ 26 + 3 = 29 := ⟨rfl, rfl⟩
theorem xc141_29 : pmCode 141 29 = some (.ifCond .ne 5) ∧ ((29 : Nat) : Int) + 5 = ((34 : Nat) : Int) ∧ 29 + 3 = 32 := ⟨rfl, rfl, rfl⟩
theorem xc141_32 : pmCode 141 32 = some (.iconst (-1)) ∧ 32 + 1 = 33 := ⟨rfl, rfl⟩
theorem xc141_33 : pmCode 141 33 = some .ireturn := rfl
theorem xc141_34 : pmCode 141 34 = some (.aload_n 0) ∧ 34 + 1 = 35 := ⟨rfl, rfl⟩
theorem xc141_35 : pmCode 141 35 = some (.getfield 7) ∧ 35 + 3 = 38 := ⟨rfl, rfl⟩
theorem xc141_38 : pmCode 141 38 = some (.iconst 4) ∧ 38 + 1 = 39 := ⟨rfl, rfl⟩
theorem xc141_39 : pmCode 141 39 = some (.aload_n 0) ∧ 39 + 1 = 40 := ⟨rfl, rfl⟩
theorem xc141_40 : pmCode 141 40 = some (.getfield 127) ∧ 40 + 3 = 43 := ⟨rfl, rfl⟩
theorem xc141_43 : pmCode 141 43 = some .iadd ∧ 43 + 1 = 44 := ⟨rfl, rfl⟩
theorem xc141_44 : pmCode 141 44 = some (.iload_n 1) ∧ 44 + 1 = 45 := ⟨rfl, rfl⟩
theorem xc141_45 : pmCode 141 45 = some .iastore ∧ 45 + 1 = 46 := ⟨rfl, rfl⟩
theorem xc141_46 : pmCode 141 46 = some (.aload_n 0) ∧ 46 + 1 = 47 := ⟨rfl, rfl⟩
theorem xc141_47 : pmCode 141 47 = some (.getfield 20) ∧ 47 + 3 = 50 := ⟨rfl, rfl⟩
theorem xc141_50 : pmCode 141 50 = some (.aload_n 0) ∧ 50 + 1 = 51 := ⟨rfl, rfl⟩
theorem xc141_51 : pmCode 141 51 = some (.getfield 127) ∧ 51 + 3 = 54 := ⟨rfl, rfl⟩
theorem xc141_54 : pmCode 141 54 = some (.iload_n 2) ∧ 54 + 1 = 55 := ⟨rfl, rfl⟩
theorem xc141_55 : pmCode 141 55 = some .bastore ∧ 55 + 1 = 56 := ⟨rfl, rfl⟩
theorem xc141_56 : pmCode 141 56 = some (.aload_n 0) ∧ 56 + 1 = 57 := ⟨rfl, rfl⟩
theorem xc141_57 : pmCode 141 57 = some (.aload_n 0) ∧ 57 + 1 = 58 := ⟨rfl, rfl⟩
theorem xc141_58 : pmCode 141 58 = some (.getfield 127) ∧ 58 + 3 = 61 := ⟨rfl, rfl⟩
theorem xc141_61 : pmCode 141 61 = some (.iconst 1) ∧ 61 + 1 = 62 := ⟨rfl, rfl⟩
theorem xc141_62 : pmCode 141 62 = some .iadd ∧ 62 + 1 = 63 := ⟨rfl, rfl⟩
theorem xc141_63 : pmCode 141 63 = some (.putfield 127) ∧ 63 + 3 = 66 := ⟨rfl, rfl⟩
theorem xc141_66 : pmCode 141 66 = some (.aload_n 0) ∧ 66 + 1 = 67 := ⟨rfl, rfl⟩
theorem xc141_67 : pmCode 141 67 = some (.getfield 127) ∧ 67 + 3 = 70 := ⟨rfl, rfl⟩
theorem xc141_70 : pmCode 141 70 = some (.iconst 1) ∧ 70 + 1 = 71 := ⟨rfl, rfl⟩
theorem xc141_71 : pmCode 141 71 = some .isub ∧ 71 + 1 = 72 := ⟨rfl, rfl⟩
theorem xc141_72 : pmCode 141 72 = some .ireturn := rfl
theorem xc142_0 : pmCode 142 0 = some (.aload_n 0) ∧ 0 + 1 = 1 := ⟨rfl, rfl⟩
theorem xc142_1 : pmCode 142 1 = some (.getfield 131) ∧ 1 + 3 = 4 := ⟨rfl, rfl⟩
theorem xc142_4 : pmCode 142 4 = some (.ifCond .ne 29) ∧ ((4 : Nat) : Int) + 29 = ((33 : Nat) : Int) ∧ 4 + 3 = 7 := ⟨rfl, rfl, rfl⟩
theorem xc142_7 : pmCode 142 7 = some (.aload_n 0) ∧ 7 + 1 = 8 := ⟨rfl, rfl⟩
theorem xc142_8 : pmCode 142 8 = some (.getfield 127) ∧ 8 + 3 = 11 := ⟨rfl, rfl⟩
theorem xc142_11 : pmCode 142 11 = some (.iconst 5) ∧ 11 + 1 = 12 := ⟨rfl, rfl⟩
theorem xc142_12 : pmCode 142 12 = some (.if_icmp .eq 21) ∧ ((12 : Nat) : Int) + 21 = ((33 : Nat) : Int) ∧ 12 + 3 = 15 := ⟨rfl, rfl, rfl⟩
theorem xc142_15 : pmCode 142 15 = some (.iload_n 1) ∧ 15 + 1 = 16 := ⟨rfl, rfl⟩
theorem xc142_16 : pmCode 142 16 = some (.iconst 0) ∧ 16 + 1 = 17 := ⟨rfl, rfl⟩
theorem xc142_17 : pmCode 142 17 = some (.bipush 127) ∧ 17 + 2 = 19 := ⟨rfl, rfl⟩
theorem xc142_19 : pmCode 142 19 = some (.invokestatic 142) ∧ 19 + 3 = 22 := ⟨rfl, rfl⟩
theorem xc142_22 : pmCode 142 22 = some (.ifCond .eq 11) ∧ ((22 : Nat) : Int) + 11 = ((33 : Nat) : Int) ∧ 22 + 3 = 25 := ⟨rfl, rfl, rfl⟩
theorem xc142_25 : pmCode 142 25 = some (.iload_n 1) ∧ 25 + 1 = 26 := ⟨rfl, rfl⟩
theorem xc142_26 : pmCode 142 26 = some (.invokestatic 146) ∧ 26 + 3 = 29 := ⟨rfl, rfl⟩
theorem xc142_29 : pmCode 142 29 = some (.iconst 2) ∧ 29 + 1 = 30 := ⟨rfl, rfl⟩
theorem xc142_30 : pmCode 142 30 = some (.if_icmp .ge 5) ∧ ((30 : Nat) : Int) + 5 = ((35 : Nat) : Int) ∧ 30 + 3 = 33 := ⟨rfl, rfl, rfl⟩
theorem xc142_33 : pmCode 142 33 = some (.iconst (-1)) ∧ 33 + 1 = 34 := ⟨rfl, rfl⟩
theorem xc142_34 : pmCode 142 34 = some .ireturn := rfl
theorem xc142_35 : pmCode 142 35 = some (.aload_n 0) ∧ 35 + 1 = 36 := ⟨rfl, rfl⟩
theorem xc142_36 : pmCode 142 36 = some (.getfield 7) ∧ 36 + 3 = 39 := ⟨rfl, rfl⟩
theorem xc142_39 : pmCode 142 39 = some (.iconst 4) ∧ 39 + 1 = 40 := ⟨rfl, rfl⟩
theorem xc142_40 : pmCode 142 40 = some (.aload_n 0) ∧ 40 + 1 = 41 := ⟨rfl, rfl⟩
theorem xc142_41 : pmCode 142 41 = some (.getfield 127) ∧ 41 + 3 = 44 := ⟨rfl, rfl⟩
theorem xc142_44 : pmCode 142 44 = some .iadd ∧ 44 + 1 = 45 := ⟨rfl, rfl⟩
theorem xc142_45 : pmCode 142 45 = some (.bipush 20) ∧ 45 + 2 = 47 := ⟨rfl, rfl⟩
theorem xc142_47 : pmCode 142 47 = some .iastore ∧ 47 + 1 = 48 := ⟨rfl, rfl⟩
theorem xc142_48 : pmCode 142 48 = some (.aload_n 0) ∧ 48 + 1 = 49 := ⟨rfl, rfl⟩
theorem xc142_49 : pmCode 142 49 = some (.getfield 7) ∧ 49 + 3 = 52 := ⟨rfl, rfl⟩
theorem xc142_52 : pmCode 142 52 = some (.bipush 9) ∧ 52 + 2 = 54 := ⟨rfl, rfl⟩
theorem xc142_54 : pmCode 142 54 = some (.aload_n 0) ∧ 54 + 1 = 55 := ⟨rfl, rfl⟩
theorem xc142_55 : pmCode 142 55 = some (.getfield 127) ∧ 55 + 3 = 58 := ⟨rfl, rfl⟩
theorem xc142_58 : pmCode 142 58 = some .iadd ∧ 58 + 1 = 59 := ⟨rfl, rfl⟩
theorem xc142_59 : pmCode 142 59 = some (.iload_n 1) ∧ 59 + 1 = 60 := ⟨rfl, rfl⟩
theorem xc142_60 : pmCode 142 60 = some .iastore ∧ 60 + 1 = 61 := ⟨rfl, rfl⟩
theorem xc142_61 : pmCode 142 61 = some (.aload_n 0) ∧ 61 + 1 = 62 := ⟨rfl, rfl⟩
theorem xc142_62 : pmCode 142 62 = some (.getfield 20) ∧ 62 + 3 = 65 := ⟨rfl, rfl⟩
theorem xc142_65 : pmCode 142 65 = some (.aload_n 0) ∧ 65 + 1 = 66 := ⟨rfl, rfl⟩
theorem xc142_66 : pmCode 142 66 = some (.getfield 127) ∧ 66 + 3 = 69 := ⟨rfl, rfl⟩
theorem xc142_69 : pmCode 142 69 = some (.iload_n 2) ∧ 69 + 1 = 70 := ⟨rfl, rfl⟩
theorem xc142_70 : pmCode 142 70 = some .bastore ∧ 70 + 1 = 71 := ⟨rfl, rfl⟩
theorem xc142_71 : pmCode 142 71 = some (.aload_n 0) ∧ 71 + 1 = 72 := ⟨rfl, rfl⟩
theorem xc142_72 : pmCode 142 72 = some (.aload_n 0) ∧ 72 + 1 = 73 := ⟨rfl, rfl⟩
theorem xc142_73 : pmCode 142 73 = some (.getfield 127) ∧ 73 + 3 = 76 := ⟨rfl, rfl⟩
theorem xc142_76 : pmCode 142 76 = some (.iconst 1) ∧ 76 + 1 = 77 := ⟨rfl, rfl⟩
theorem xc142_77 : pmCode 142 77 = some .iadd ∧ 77 + 1 = 78 := ⟨rfl, rfl⟩
theorem xc142_78 : pmCode 142 78 = some (.putfield 127) ∧ 78 + 3 = 81 := ⟨rfl, rfl⟩
theorem xc142_81 : pmCode 142 81 = some (.aload_n 0) ∧ 81 + 1 = 82 := ⟨rfl, rfl⟩
theorem xc142_82 : pmCode 142 82 = some (.getfield 127) ∧ 82 + 3 = 85 := ⟨rfl, rfl⟩
theorem xc142_85 : pmCode 142 85 = some (.iconst 1) ∧ 85 + 1 = 86 := ⟨rfl, rfl⟩
theorem xc142_86 : pmCode 142 86 = some .isub ∧ 86 + 1 = 87 := ⟨rfl, rfl⟩
theorem xc142_87 : pmCode 142 87 = some .ireturn := rfl
theorem xc145_0 : pmCode 145 0 = some (.aload_n 0) ∧ 0 + 1 = 1 := ⟨rfl, rfl⟩
theorem xc145_1 : pmCode 145 1 = some (.getfield 131) ∧ 1 + 3 = 4 := ⟨rfl, rfl⟩
theorem xc145_4 : pmCode 145 4 = some (.ifCond .ne 10) ∧ ((4 : Nat) : Int) + 10 = ((14 : Nat) : Int) ∧ 4 + 3 = 7 := ⟨rfl, rfl, rfl⟩
theorem xc145_7 : pmCode 145 7 = some (.iload_n 1) ∧ 7 + 1 = 8 := ⟨rfl, rfl⟩
theorem xc145_8 : pmCode 145 8 = some (.invokestatic 150) ∧ 8 + 3 = 11 := ⟨rfl, rfl⟩
theorem xc145_11 : pmCode 145 11 = some (.ifCond .ne 5) ∧ ((11 : Nat) : Int) + 5 = ((16 : Nat) : Int) ∧ 11 + 3 = 14 := ⟨rfl, rfl, rfl⟩
theorem xc145_14 : pmCode 145 14 = some (.iconst 0) ∧ 14 + 1 = 15 := ⟨rfl, rfl⟩
theorem xc145_15 : pmCode 145 15 = some .ireturn := rfl
theorem xc145_16 : pmCode 145 16 = some (.iload_n 2) ∧ 16 + 1 = 17 := ⟨rfl, rfl⟩
theorem xc145_17 : pmCode 145 17 = some (.ifCond .eq 45) ∧ ((17 : Nat) : Int) + 45 = ((62 : Nat) : Int) ∧ 17 + 3 = 20 := ⟨rfl, rfl, rfl⟩
theorem xc145_20 : pmCode 145 20 = some (.iload_n 3) ∧ 20 + 1 = 21 := ⟨rfl, rfl⟩
theorem xc145_21 : pmCode 145 21 = some (.invokestatic 139) ∧ 21 + 3 = 24 := ⟨rfl, rfl⟩
theorem xc145_24 : pmCode 145 24 = some (.ifCond .eq 22) ∧ ((24 : Nat) : Int) + 22 = ((46 : Nat) : Int) ∧ 24 + 3 = 27 := ⟨rfl, rfl, rfl⟩
theorem xc145_27 : pmCode 145 27 = some (.iload_n 3) ∧ 27 + 1 = 28 := ⟨rfl, rfl⟩
theorem xc145_28 : pmCode 145 28 = some (.iload_n 1) ∧ 28 + 1 = 29 := ⟨rfl, rfl⟩
theorem xc145_29 : pmCode 145 29 = some (.if_icmp .eq 17) ∧ ((29 : Nat) : Int) + 17 = ((46 : Nat) : Int) ∧ 29 + 3 = 32 := ⟨rfl, rfl, rfl⟩
theorem xc145_32 : pmCode 145 32 = some (.iload 4) ∧ 32 + 2 = 34 := ⟨rfl, rfl⟩
theorem xc145_34 : pmCode 145 34 = some (.iconst (-1)) ∧ 34 + 1 = 35 := ⟨rfl, rfl⟩
theorem xc145_35 : pmCode 145 35 = some (.if_icmp .eq 13) ∧ ((35 : Nat) : Int) + 13 = ((48 : Nat) : Int) ∧ 35 + 3 = 38 := ⟨rfl, rfl, rfl⟩
theorem xc145_38 : pmCode 145 38 = some (.iload 4) ∧ 38 + 2 = 40 := ⟨rfl, rfl⟩
theorem xc145_40 : pmCode 145 40 = some (.invokestatic 135) ∧ 40 + 3 = 43 := ⟨rfl, rfl⟩
theorem xc145_43 : pmCode 145 43 = some (.ifCond .ne 5) ∧ ((43 : Nat) : Int) + 5 = ((48 : Nat) : Int) ∧ 43 + 3 = 46 := ⟨rfl, rfl, rfl⟩
theorem xc145_46 : pmCode 145 46 = some (.iconst 0) ∧ 46 + 1 = 47 := ⟨rfl, rfl⟩
theorem xc145_47 : pmCode 145 47 = some .ireturn := rfl
theorem xc145_48 : pmCode 145 48 = some (.aload_n 0) ∧ 48 + 1 = 49 := ⟨rfl, rfl⟩
theorem xc145_49 : pmCode 145 49 = some (.getfield 7) ∧ 49 + 3 = 52 := ⟨rfl, rfl⟩
theorem xc145_52 : pmCode 145 52 = some (.iload_n 1) ∧ 52 + 1 = 53 := ⟨rfl, rfl⟩
theorem xc145_53 : pmCode 145 53 = some (.iload_n 3) ∧ 53 + 1 = 54 := ⟨rfl, rfl⟩
theorem xc145_54 : pmCode 145 54 = some (.invokestatic 153) ∧ 54 + 3 = 57 := ⟨rfl, rfl⟩
theorem xc145_57 : pmCode 145 57 = some (.iload 4) ∧ 57 + 2 = 59 := ⟨rfl, rfl⟩
theorem xc145_59 : pmCode 145 59 = some .iastore ∧ 59 + 1 = 60 := ⟨rfl, rfl⟩
theorem xc145_60 : pmCode 145 60 = some (.iconst 1) ∧ 60 + 1 = 61 := ⟨rfl, rfl⟩
theorem xc145_61 : pmCode 145 61 = some .ireturn := rfl
theorem xc145_62 : pmCode 145 62 = some (.aload_n 0) ∧ 62 + 1 = 63 := ⟨rfl, rfl⟩
theorem xc145_63 : pmCode 145 63 = some (.iload_n 3) ∧ 63 + 1 = 64 := ⟨rfl, rfl⟩
theorem xc145_64 : pmCode 145 64 = some (.invokevirtual 157) ∧ 64 + 3 = 67 := ⟨rfl, rfl⟩
theorem xc145_67 : pmCode 145 67 = some (.ifCond .eq 37) ∧ ((67 : Nat) : Int) + 37 = ((104 : Nat) : Int) ∧ 67 + 3 = 70 := ⟨rfl, rfl, rfl⟩
theorem xc145_70 : pmCode 145 70 = some (.iload 4) ∧ 70 + 2 = 72 := ⟨rfl, rfl⟩
theorem xc145_72 : pmCode 145 72 = some (.iconst (-1)) ∧ 72 + 1 = 73 := ⟨rfl, rfl⟩
theorem xc145_73 : pmCode 145 73 = some (.if_icmp .eq 22) ∧ ((73 : Nat) : Int) + 22 = ((95 : Nat) : Int) ∧ 73 + 3 = 76 := ⟨rfl, rfl, rfl⟩
theorem xc145_76 : pmCode 145 76 = some (.iload 4) ∧ 76 + 2 = 78 := ⟨rfl, rfl⟩
theorem xc145_78 : pmCode 145 78 = some (.invokestatic 135) ∧ 78 + 3 = 81 := ⟨rfl, rfl⟩
theorem xc145_81 : pmCode 145 81 = some (.ifCond .ne 14) ∧ ((81 : Nat) : Int) + 14 = ((95 : Nat) : Int) ∧ 81 + 3 = 84 := ⟨rfl, rfl, rfl⟩
theorem xc145_84 : pmCode 145 84 = some (.iload 4) ∧ 84 + 2 = 86 := ⟨rfl, rfl⟩
theorem xc145_86 : pmCode 145 86 = some (.bipush 10) ∧ 86 + 2 = 88 := ⟨rfl, rfl⟩
theorem xc145_88 : pmCode 145 88 = some .isub ∧ 88 + 1 = 89 := ⟨rfl, rfl⟩
theorem xc145_89 : pmCode 145 89 = some (.invokestatic 139) ∧ 89 + 3 = 92 := ⟨rfl, rfl⟩
theorem xc145_92 : pmCode 145 92 = some (.ifCond .eq 12) ∧ ((92 : Nat) : Int) + 12 = ((104 : Nat) : Int) ∧ 92 + 3 = 95 := ⟨rfl, rfl, rfl⟩
theorem xc145_95 : pmCode 145 95 = some (.iload 4) ∧ 95 + 2 = 97 := ⟨rfl, rfl⟩
theorem xc145_97 : pmCode 145 97 = some (.bipush 10) ∧ 97 + 2 = 99 := ⟨rfl, rfl⟩
theorem xc145_99 : pmCode 145 99 = some (.iload_n 1) ∧ 99 + 1 = 100 := ⟨rfl, rfl⟩
theorem xc145_100 : pmCode 145 100 = some .iadd ∧ 100 + 1 = 101 := ⟨rfl, rfl⟩
theorem xc145_101 : pmCode 145 101 = some (.if_icmp .ne 5) ∧ ((101 : Nat) : Int) + 5 = ((106 : Nat) : Int) ∧ 101 + 3 = 104 := ⟨rfl, rfl, rfl⟩
theorem xc145_104 : pmCode 145 104 = some (.iconst 0) ∧ 104 + 1 = 105 := ⟨rfl, rfl⟩
theorem xc145_105 : pmCode 145 105 = some .ireturn := rfl
theorem xc145_106 : pmCode 145 106 = some (.aload_n 0) ∧ 106 + 1 = 107 := ⟨rfl, rfl⟩
theorem xc145_107 : pmCode 145 107 = some (.getfield 7) ∧ 107 + 3 = 110 := ⟨rfl, rfl⟩
theorem xc145_110 : pmCode 145 110 = some (.iload_n 1) ∧ 110 + 1 = 111 := ⟨rfl, rfl⟩
theorem xc145_111 : pmCode 145 111 = some (.iload_n 3) ∧ 111 + 1 = 112 := ⟨rfl, rfl⟩
theorem xc145_112 : pmCode 145 112 = some (.invokestatic 160) ∧ 112 + 3 = 115 := ⟨rfl, rfl⟩
theorem xc145_115 : pmCode 145 115 = some (.iload 4) ∧ 115 + 2 = 117 := ⟨rfl, rfl⟩
theorem xc145_117 : pmCode 145 117 = some .iastore ∧ 117 + 1 = 118 := ⟨rfl, rfl⟩
theorem xc145_118 : pmCode 145 118 = some (.iconst 1) ∧ 118 + 1 = 119 := ⟨rfl, rfl⟩
theorem xc145_119 : pmCode 145 119 = some .ireturn := rfl
theorem xc150_0 : pmCode 150 0 = some (.aload_n 0) ∧ 0 + 1 = 1 := ⟨rfl, rfl⟩
theorem xc150_1 : pmCode 150 1 = some (.getfield 131) ∧ 1 + 3 = 4 := ⟨rfl, rfl⟩
theorem xc150_4 : pmCode 150 4 = some (.ifCond .ne 22) ∧ ((4 : Nat) : Int) + 22 = ((26 : Nat) : Int) ∧ 4 + 3 = 7 := ⟨rfl, rfl, rfl⟩
theorem xc150_7 : pmCode 150 7 = some (.iload_n 1) ∧ 7 + 1 = 8 := ⟨rfl, rfl⟩
theorem xc150_8 : pmCode 150 8 = some (.iconst 1) ∧ 8 + 1 = 9 := ⟨rfl, rfl⟩
theorem xc150_9 : pmCode 150 9 = some (.iconst 5) ∧ 9 + 1 = 10 := ⟨rfl, rfl⟩
theorem xc150_10 : pmCode 150 10 = some (.invokestatic 142) ∧ 10 + 3 = 13 := ⟨rfl, rfl⟩
theorem xc150_13 : pmCode 150 13 = some (.ifCond .eq 13) ∧ ((13 : Nat) : Int) + 13 = ((26 : Nat) : Int) ∧ 13 + 3 = 16 := ⟨rfl, rfl, rfl⟩
theorem xc150_16 : pmCode 150 16 = some (.iload_n 2) ∧ 16 + 1 = 17 := ⟨rfl, rfl⟩
theorem xc150_17 : pmCode 150 17 = some (.iconst 1) ∧ 17 + 1 = 18 := ⟨rfl, rfl⟩
theorem xc150_18 : pmCode 150 18 = some (.bipush 9) ∧ 18 + 2 = 20 := ⟨rfl, rfl⟩
theorem xc150_20 : pmCode 150 20 = some (.invokestatic 142) ∧ 20 + 3 = 23 := ⟨rfl, rfl⟩
theorem xc150_23 : pmCode 150 23 = some (.ifCond .ne 5) ∧ ((23 : Nat) : Int) + 5 = ((28 : Nat) : Int) ∧ 23 + 3 = 26 := ⟨rfl, rfl, rfl⟩
theorem xc150_26 : pmCode 150 26 = some (.iconst 0) ∧ 26 + 1 = 27 := ⟨rfl, rfl⟩
theorem xc150_27 : pmCode 150 27 = some .ireturn := rfl
theorem xc150_28 : pmCode 150 28 = some (.aload_n 0) ∧ 28 + 1 = 29 := ⟨rfl, rfl⟩
theorem xc150_29 : pmCode 150 29 = some (.getfield 23) ∧ 29 + 3 = 32 := ⟨rfl, rfl⟩
theorem xc150_32 : pmCode 150 32 = some (.iload_n 1) ∧ 32 + 1 = 33 := ⟨rfl, rfl⟩
theorem xc150_33 : pmCode 150 33 = some (.iload_n 2) ∧ 33 + 1 = 34 := ⟨rfl, rfl⟩
theorem xc150_34 : pmCode 150 34 = some .iastore ∧ 34 + 1 = 35 := ⟨rfl, rfl⟩
theorem xc150_35 : pmCode 150 35 = some (.iconst 1) ∧ 35 + 1 = 36 := ⟨rfl, rfl⟩
theorem xc150_36 : pmCode 150 36 = some .ireturn := rfl
theorem wb22 {ro : Nat → Nat × (Nat → Int32)} {d : Nat} {Q : Option Value → pmS → Prop} {v : Int} {a : xA} {b : xB} (q1 : xR v)
    (k1 : (¬ v = -1) → (v < 10) → Q (some (xV (v + 1))) (xS a b))
    (k2 : (¬ v = -1) → (¬ v < 10) → Q (some (xV (9 + v - 10))) (xS a b))
    (k3 : (v = -1) → Q (some (xV 0)) (xS a b)) :
    pmWp ro d 11 22 1 0 [some (xV v)] [] (xS a b) Q := by
  refine x_iloadn xc22_0 rfl ?_
  refine x_iconst xc22_1 ?_
  refine x_icne xc22_2 (xRk (by have g0 := xRb q1; omega)) (xRk (by decide)) (fun h0 => ?_) (fun h0 => ?_)
  · refine x_iloadn xc22_7 rfl ?_
    refine x_bipush xc22_8 (by decide) ?_
    refine x_iclt xc22_10 (xRk (by have g0 := xRb q1; omega)) (xRk (by decide)) (fun h1 => ?_) (fun h1 => ?_)
    · refine x_iloadn xc22_23 rfl ?_
      refine x_iconst xc22_24 ?_
      refine x_iadd xc22_25 ?_
      refine x_iret xc22_26 (Or.inl rfl) ?_
      exact k1 h0 h1
    · refine x_bipush xc22_13 (by decide) ?_
      refine x_iloadn xc22_15 rfl ?_
      refine x_iadd xc22_16 ?_
      refine x_bipush xc22_17 (by decide) ?_
      refine x_isub xc22_19 ?_
      refine x_goto xc22_20 ?_
      refine x_iret xc22_26 (Or.inl rfl) ?_
      exact k2 h0 h1
  · replace h0 := Classical.not_not.mp h0
    refine x_iconst xc22_5 ?_
    refine x_iret xc22_6 (Or.inl rfl) ?_
    exact k3 h0

theorem xg22 {ro : Nat → Nat × (Nat → Int32)} {d : Nat} {Q : Option Value → pmS → Prop} {a : xA} {b : xB} {v : Int} (h : pmWp ro d 11 22 1 0 [some (xV v)] [] (xS a b) Q) : pmCs ro (d + 1) 22 [xV v] (xS a b) Q := x_go xi22 rfl rfl rfl rfl rfl h
/-- inward; a weapon more -/
def vIw (v : Int) : Int := if v = -1 then 0 else if 10 ≤ v then 9 + v - 10 else v + 1
theorem rk22 {ro : Nat → Nat × (Nat → Int32)} {d : Nat} {Q : Option Value → pmS → Prop} {v : Int} {a : xA} {b : xB} (hd : 1 ≤ d) (q1 : xR v) (hQ : Q (some (xV (vIw v))) (xS a b)) : pmCs ro d 22 [xV v] (xS a b) Q := by
  unfold vIw at hQ
  refine pmCs_deep (d := 1) (xg22 (wb22 q1 ?_ ?_ ?_)) hd
  · intro e0 e1
    rw [if_neg (by omega), if_neg (by omega)] at hQ
    exact hQ
  · intro e0 e1
    rw [if_neg (by omega), if_pos (by omega)] at hQ
    exact hQ
  · intro e0
    rw [if_pos (by omega)] at hQ
    exact hQ
theorem vIw_b {v : Int} (h : -1 ≤ v ∧ v ≤ 13) : 0 ≤ vIw v ∧ vIw v ≤ 12 := by
  unfold vIw
  split
  · omega
  · split <;> omega
theorem vIw_x {v : Int} (h : xR v) : xR (vIw v) := by
  have := xRb h
  unfold vIw
  split
  · exact xR0
  · split
    · exact ⟨by omega, by omega⟩
    · exact ⟨by omega, by omega⟩
theorem vIw_y {v : Int} (h : xR v) : -2147483648 ≤ vIw v ∧ vIw v ≤ 2147483647 := vIw_x h
theorem vBs_b {v : Int} : 0 ≤ uBs v ∧ uBs v ≤ 7 := by
  unfold uBs
  omega
theorem wb21 {ro : Nat → Nat × (Nat → Int32)} {d : Nat} {Q : Option Value → pmS → Prop} {g n : Int} {a : xA} {b : xB} (hg : 0 ≤ g ∧ g ≤ 1) (hn : a 3 5 = n) (hn0 : 0 ≤ n ∧ n < 5)
    (k1 : (g = 0) → Q (some (xV (n + 1 - 1))) (xS (xU (xU a 3 4 (xOr (a 3 4) 0)) 3 5 (n + 1)) b))
    (k2 : (¬ g = 0) → Q (some (xV (n + 1 - 1))) (xS (xU (xU a 3 4 (xOr (a 3 4) (1 * ((2 ^ n.toNat : Nat) : Int)))) 3 5 (n + 1)) b)) :
    pmWp ro d 5 21 1 0 [some (.ref 3), some (xV g)] [] (xS a b) Q := by
  refine x_aloadn xc21_0 rfl ?_
  refine x_dup xc21_1 rfl ?_
  refine x_gfi (k := 4) xc21_2 rfl (Or.inl rfl) rfl xz3 ?_
  refine x_iloadn xc21_5 rfl ?_
  refine x_ifeq xc21_6 (xRk (by have g0 := hg; omega)) (fun h0 => ?_) (fun h0 => ?_)
  · refine x_iconst xc21_18 ?_
    refine x_ior xc21_19 ?_
    refine x_pfi (k := 4) xc21_20 rfl ⟨rfl, rfl⟩ rfl xz3 ?_
    refine x_aloadn xc21_23 rfl ?_
    refine x_dup xc21_24 rfl ?_
    refine x_gfi' (k := 5) (v := n) xc21_25 rfl (Or.inl rfl) rfl xz3 (by rw [xUk (by decide), hn]) ?_
    refine x_iconst xc21_28 ?_
    refine x_iadd xc21_29 ?_
    refine x_pfi (k := 5) xc21_30 rfl ⟨rfl, rfl⟩ rfl xz3 ?_
    refine x_aloadn xc21_33 rfl ?_
    refine x_gfi' (k := 5) (v := n + 1) xc21_34 rfl (Or.inl rfl) rfl xz3 (by rw [xUa]) ?_
    refine x_iconst xc21_37 ?_
    refine x_isub xc21_38 ?_
    refine x_iret xc21_39 (Or.inl rfl) ?_
    exact k1 h0
  · refine x_iconst xc21_9 ?_
    refine x_aloadn xc21_10 rfl ?_
    refine x_gfi' (k := 5) (v := n) xc21_11 rfl (Or.inl rfl) rfl xz3 hn ?_
    refine x_ishl (M := ((2 ^ n.toNat : Nat) : Int)) (by have g0 := hn0; omega) (by have g0 := hn0; omega) rfl xc21_14 ?_
    refine x_goto xc21_15 ?_
    refine x_ior xc21_19 ?_
    refine x_pfi (k := 4) xc21_20 rfl ⟨rfl, rfl⟩ rfl xz3 ?_
    refine x_aloadn xc21_23 rfl ?_
    refine x_dup xc21_24 rfl ?_
    refine x_gfi' (k := 5) (v := n) xc21_25 rfl (Or.inl rfl) rfl xz3 (by rw [xUk (by decide), hn]) ?_
    refine x_iconst xc21_28 ?_
    refine x_iadd xc21_29 ?_
    refine x_pfi (k := 5) xc21_30 rfl ⟨rfl, rfl⟩ rfl xz3 ?_
    refine x_aloadn xc21_33 rfl ?_
    refine x_gfi' (k := 5) (v := n + 1) xc21_34 rfl (Or.inl rfl) rfl xz3 (by rw [xUa]) ?_
    refine x_iconst xc21_37 ?_
    refine x_isub xc21_38 ?_
    refine x_iret xc21_39 (Or.inl rfl) ?_
    exact k2 h0

theorem xg21 {ro : Nat → Nat × (Nat → Int32)} {d : Nat} {Q : Option Value → pmS → Prop} {a : xA} {b : xB} {g : Int} (h : pmWp ro d 5 21 1 0 [some (.ref 3), some (xV g)] [] (xS a b) Q) : pmCs ro (d + 1) 21 [.ref 3, xV g] (xS a b) Q := x_go xi21 rfl rfl rfl rfl rfl h
def vWo (n w : Int) : Prop := 0 ≤ w ∧ w < ((2 ^ n.toNat : Nat) : Int)
def vWn (g n w : Int) : Int := if g = 0 then w else w + ((2 ^ n.toNat : Nat) : Int)
theorem vWn_f : ∀ n : Fin 5, ∀ w : Fin 32, (w.val : Int) < ((2 ^ n.val : Nat) : Int) → xOr (w.val : Int) (1 * ((2 ^ n.val : Nat) : Int)) = (w.val : Int) + ((2 ^ n.val : Nat) : Int) ∧ xOr (w.val : Int) 0 = (w.val : Int) := by decide +kernel
theorem vWn_g {n w : Int} (hn : 0 ≤ n ∧ n < 5) (hw : vWo n w) : xOr w (1 * ((2 ^ n.toNat : Nat) : Int)) = w + ((2 ^ n.toNat : Nat) : Int) ∧ xOr w 0 = w := by
  have h32 : ((2 ^ n.toNat : Nat) : Int) ≤ 32 := by
    have : n = 0 ∨ n = 1 ∨ n = 2 ∨ n = 3 ∨ n = 4 := by omega
    rcases this with rfl | rfl | rfl | rfl | rfl <;> decide
  have hw1 := hw.1
  have hw2 := hw.2
  have e1 : ((n.toNat : Nat) : Int) = n := Int.toNat_of_nonneg hn.1
  have e2 : ((w.toNat : Nat) : Int) = w := Int.toNat_of_nonneg hw.1
  have := vWn_f ⟨n.toNat, by omega⟩ ⟨w.toNat, by omega⟩ (by
    show ((w.toNat : Nat) : Int) < ((2 ^ n.toNat : Nat) : Int)
    omega)
  rw [show (((⟨w.toNat, by omega⟩ : Fin 32).val : Nat) : Int) = w from e2] at this
  exact this
theorem rk21 {ro : Nat → Nat × (Nat → Int32)} {d : Nat} {Q : Option Value → pmS → Prop} {g n : Int} {a : xA} {b : xB} (hd : 1 ≤ d) (hg : 0 ≤ g ∧ g ≤ 1) (hn : a 3 5 = n) (hn0 : 0 ≤ n ∧ n < 5) (hw : vWo n (a 3 4)) (hQ : Q (some (xV n)) (xS (xU (xU a 3 4 (vWn g n (a 3 4))) 3 5 (n + 1)) b)) : pmCs ro d 21 [.ref 3, xV g] (xS a b) Q := by
  obtain ⟨e1, e2⟩ := vWn_g hn0 hw
  unfold vWn at hQ
  refine pmCs_deep (d := 1) (xg21 (wb21 hg hn hn0 ?_ ?_)) hd
  · intro e
    rw [e2, show n + 1 - 1 = n by omega]
    rw [if_pos (by omega)] at hQ
    exact hQ
  · intro e
    rw [e1, show n + 1 - 1 = n by omega]
    rw [if_neg (by omega)] at hQ
    exact hQ
theorem wb20 {ro : Nat → Nat × (Nat → Int32)} {d : Nat} {Q : Option Value → pmS → Prop} {x g n bg : Int} {a : xA} {b : xB} (q1 : xR x) (hg : 0 ≤ g ∧ g ≤ 1) (hn : a 3 5 = n) (hn0 : 0 ≤ n ∧ n ≤ 5) (hb : a 0 12 = bg) (hbg : bg = 0 ∨ bg = 1) (hw : vWo n (a 3 4)) (hd : 3 ≤ d)
    (k1 : (x < 10) → (¬ bg = 0) → Q (some (xV (-1))) (xS a b))
    (k2 : (x < 10) → (bg = 0) → (5 ≤ n) → Q (some (xV (-1))) (xS a b))
    (k3 : (x < 10) → (bg = 0) → (¬ 5 ≤ n) → (0 ≤ x ∧ x < 7) → Q (some (xV n)) (xS (xU (xU a 3 4 (vWn g n (a 3 4))) 3 5 (n + 1)) (xU b 21 4 (xWith (b 21 4) (4 + n) (vIw x)))))
    (k4 : (x < 10) → (bg = 0) → (¬ 5 ≤ n) → (¬ (0 ≤ x ∧ x < 7)) → Q (some (xV (-1))) (xS a b))
    (k5 : (¬ x < 10) → (0 ≤ x - 10 ∧ x - 10 < 4) → (¬ bg = 0) → Q (some (xV (-1))) (xS a b))
    (k6 : (¬ x < 10) → (0 ≤ x - 10 ∧ x - 10 < 4) → (bg = 0) → (5 ≤ n) → Q (some (xV (-1))) (xS a b))
    (k7 : (¬ x < 10) → (0 ≤ x - 10 ∧ x - 10 < 4) → (bg = 0) → (¬ 5 ≤ n) → (0 ≤ x ∧ x < 7) → Q (some (xV n)) (xS (xU (xU a 3 4 (vWn g n (a 3 4))) 3 5 (n + 1)) (xU b 21 4 (xWith (b 21 4) (4 + n) (vIw x)))))
    (k8 : (¬ x < 10) → (0 ≤ x - 10 ∧ x - 10 < 4) → (bg = 0) → (¬ 5 ≤ n) → (¬ (0 ≤ x ∧ x < 7)) → Q (some (xV n)) (xS (xU (xU a 3 4 (vWn g n (a 3 4))) 3 5 (n + 1)) (xU b 21 4 (xWith (b 21 4) (4 + n) (vIw x)))))
    (k9 : (¬ x < 10) → (¬ (0 ≤ x - 10 ∧ x - 10 < 4)) → (¬ bg = 0) → Q (some (xV (-1))) (xS a b))
    (k10 : (¬ x < 10) → (¬ (0 ≤ x - 10 ∧ x - 10 < 4)) → (bg = 0) → (5 ≤ n) → Q (some (xV (-1))) (xS a b))
    (k11 : (¬ x < 10) → (¬ (0 ≤ x - 10 ∧ x - 10 < 4)) → (bg = 0) → (¬ 5 ≤ n) → (0 ≤ x ∧ x < 7) → Q (some (xV n)) (xS (xU (xU a 3 4 (vWn g n (a 3 4))) 3 5 (n + 1)) (xU b 21 4 (xWith (b 21 4) (4 + n) (vIw x)))))
    (k12 : (¬ x < 10) → (¬ (0 ≤ x - 10 ∧ x - 10 < 4)) → (bg = 0) → (¬ 5 ≤ n) → (¬ (0 ≤ x ∧ x < 7)) → Q (some (xV (-1))) (xS a b)) :
    pmWp ro d 11 20 1 0 [some (.ref 0), some (xV x), some (xV g), none, none] [] (xS a b) Q := by
  refine x_iloadn xc20_0 rfl ?_
  refine x_bipush xc20_1 (by decide) ?_
  refine x_iclt xc20_3 (xRk (by have g0 := xRb q1; omega)) (xRk (by decide)) (fun h0 => ?_) (fun h0 => ?_)
  · refine x_iconst xc20_20 ?_
    refine x_istoren (pl' := [some (.ref 0), some (xV x), some (xV g), some (xV 0), none]) xc20_21 rfl rfl ?_
    refine x_aloadn xc20_22 rfl ?_
    refine x_gfi' (k := 12) (v := bg) xc20_23 rfl (Or.inr rfl) rfl xz0 hb ?_
    refine x_ifne xc20_26 (xRk (by have g0 := hbg; omega)) (fun h1 => ?_) (fun h1 => ?_)
    · refine x_iconst xc20_51 ?_
      refine x_iret xc20_52 (Or.inl rfl) ?_
      exact k1 h0 h1
    · replace h1 := Classical.not_not.mp h1
      refine x_aloadn xc20_29 rfl ?_
      refine x_gfr xc20_30 rfl rfl xz0 rfl ?_
      refine x_gfi' (k := 5) (v := n) xc20_33 rfl (Or.inl rfl) rfl xz3 hn ?_
      refine x_iconst xc20_36 ?_
      refine x_icge xc20_37 (xRk (by have g0 := hn0; omega)) (xRk (by decide)) (fun h2 => ?_) (fun h2 => ?_)
      · refine x_iconst xc20_51 ?_
        refine x_iret xc20_52 (Or.inl rfl) ?_
        exact k2 h0 h1 h2
      · refine x_iloadn xc20_40 rfl ?_
        refine x_cS (as := [xV x]) (rest := []) xc20_41 rfl rfl xi14 ⟨rfl, rfl⟩ rfl rfl ?_
        refine xk14 (by omega) (xRk (by have g0 := xRb q1; omega)) (fun h3 => ?_) (fun h4 => ?_)
        · refine x_ifne xc20_44 (xRk (by decide)) (fun _ => ?_) (fun h => absurd h (by omega))
          refine x_aloadn xc20_53 rfl ?_
          refine x_gfr xc20_54 rfl rfl xz0 rfl ?_
          refine x_iloadn xc20_57 rfl ?_
          refine x_cV (as := [xV g]) (rest := []) xc20_58 rfl xi21 xz3 ⟨rfl, rfl⟩ rfl rfl ?_
          refine rk21 (by omega) (by have g0 := hg; omega) hn (by omega) hw ?_
          refine x_istore (pl' := [some (.ref 0), some (xV x), some (xV g), some (xV 0), some (xV n)]) xc20_61 rfl rfl ?_
          refine x_aloadn xc20_63 rfl ?_
          refine x_gfr xc20_64 rfl rfl xz0 rfl ?_
          refine x_aloadn xc20_67 rfl ?_
          refine x_gfr xc20_68 rfl rfl xz0 rfl ?_
          refine x_gfl (k := 4) xc20_71 rfl rfl rfl xz21 ?_
          refine x_iconst xc20_74 ?_
          refine x_iload xc20_75 rfl ?_
          refine x_iadd xc20_77 ?_
          refine x_iloadn xc20_78 rfl ?_
          refine x_cS (as := [xV x]) (rest := [xV (4 + n), .long (b 21 4), .ref 21]) xc20_79 rfl rfl xi22 ⟨rfl, rfl⟩ rfl rfl ?_
          refine rk22 (by omega) q1 ?_
          refine x_cS (as := [.long (b 21 4), xV (4 + n), xV (vIw x)]) (rest := [.ref 21]) xc20_82 rfl rfl xi19 ⟨rfl, rfl⟩ rfl rfl ?_
          refine xk19 (by omega) (xRk (by have g0 := hn0; omega)) (xRk (by have g0 := vIw_y q1; omega)) ?_
          refine x_pfl (k := 4) xc20_85 rfl ⟨rfl, rfl⟩ rfl xz21 ?_
          refine x_iload xc20_88 rfl ?_
          refine x_iret xc20_90 (Or.inl rfl) ?_
          exact k3 h0 h1 h2 h3
        · refine x_ifne xc20_44 (xRk (by decide)) (fun h => absurd h (by omega)) (fun _ => ?_)
          refine x_iloadn xc20_47 rfl ?_
          refine x_ifne xc20_48 (xRk (by decide)) (fun h => absurd h (by omega)) (fun _ => ?_)
          refine x_iconst xc20_51 ?_
          refine x_iret xc20_52 (Or.inl rfl) ?_
          exact k4 h0 h1 h2 h4
  · refine x_iloadn xc20_6 rfl ?_
    refine x_bipush xc20_7 (by decide) ?_
    refine x_isub xc20_9 ?_
    refine x_cS (as := [xV (x - 10)]) (rest := []) xc20_10 rfl rfl xi18 ⟨rfl, rfl⟩ rfl rfl ?_
    refine xk18 (by omega) (xRk (by have g0 := xRb q1; omega)) (fun h8 => ?_) (fun h9 => ?_)
    · refine x_ifeq xc20_13 (xRk (by decide)) (fun h => absurd h (by omega)) (fun _ => ?_)
      refine x_iconst xc20_16 ?_
      refine x_goto xc20_17 ?_
      refine x_istoren (pl' := [some (.ref 0), some (xV x), some (xV g), some (xV 1), none]) xc20_21 rfl rfl ?_
      refine x_aloadn xc20_22 rfl ?_
      refine x_gfi' (k := 12) (v := bg) xc20_23 rfl (Or.inr rfl) rfl xz0 hb ?_
      refine x_ifne xc20_26 (xRk (by have g0 := hbg; omega)) (fun h11 => ?_) (fun h11 => ?_)
      · refine x_iconst xc20_51 ?_
        refine x_iret xc20_52 (Or.inl rfl) ?_
        exact k5 h0 h8 h11
      · replace h11 := Classical.not_not.mp h11
        refine x_aloadn xc20_29 rfl ?_
        refine x_gfr xc20_30 rfl rfl xz0 rfl ?_
        refine x_gfi' (k := 5) (v := n) xc20_33 rfl (Or.inl rfl) rfl xz3 hn ?_
        refine x_iconst xc20_36 ?_
        refine x_icge xc20_37 (xRk (by have g0 := hn0; omega)) (xRk (by decide)) (fun h12 => ?_) (fun h12 => ?_)
        · refine x_iconst xc20_51 ?_
          refine x_iret xc20_52 (Or.inl rfl) ?_
          exact k6 h0 h8 h11 h12
        · refine x_iloadn xc20_40 rfl ?_
          refine x_cS (as := [xV x]) (rest := []) xc20_41 rfl rfl xi14 ⟨rfl, rfl⟩ rfl rfl ?_
          refine xk14 (by omega) (xRk (by have g0 := xRb q1; omega)) (fun h13 => ?_) (fun h14 => ?_)
          · refine x_ifne xc20_44 (xRk (by decide)) (fun _ => ?_) (fun h => absurd h (by omega))
            refine x_aloadn xc20_53 rfl ?_
            refine x_gfr xc20_54 rfl rfl xz0 rfl ?_
            refine x_iloadn xc20_57 rfl ?_
            refine x_cV (as := [xV g]) (rest := []) xc20_58 rfl xi21 xz3 ⟨rfl, rfl⟩ rfl rfl ?_
            refine rk21 (by omega) (by have g0 := hg; omega) hn (by omega) hw ?_
            refine x_istore (pl' := [some (.ref 0), some (xV x), some (xV g), some (xV 1), some (xV n)]) xc20_61 rfl rfl ?_
            refine x_aloadn xc20_63 rfl ?_
            refine x_gfr xc20_64 rfl rfl xz0 rfl ?_
            refine x_aloadn xc20_67 rfl ?_
            refine x_gfr xc20_68 rfl rfl xz0 rfl ?_
            refine x_gfl (k := 4) xc20_71 rfl rfl rfl xz21 ?_
            refine x_iconst xc20_74 ?_
            refine x_iload xc20_75 rfl ?_
            refine x_iadd xc20_77 ?_
            refine x_iloadn xc20_78 rfl ?_
            refine x_cS (as := [xV x]) (rest := [xV (4 + n), .long (b 21 4), .ref 21]) xc20_79 rfl rfl xi22 ⟨rfl, rfl⟩ rfl rfl ?_
            refine rk22 (by omega) q1 ?_
            refine x_cS (as := [.long (b 21 4), xV (4 + n), xV (vIw x)]) (rest := [.ref 21]) xc20_82 rfl rfl xi19 ⟨rfl, rfl⟩ rfl rfl ?_
            refine xk19 (by omega) (xRk (by have g0 := hn0; omega)) (xRk (by have g0 := vIw_y q1; omega)) ?_
            refine x_pfl (k := 4) xc20_85 rfl ⟨rfl, rfl⟩ rfl xz21 ?_
            refine x_iload xc20_88 rfl ?_
            refine x_iret xc20_90 (Or.inl rfl) ?_
            exact k7 h0 h8 h11 h12 h13
          · refine x_ifne xc20_44 (xRk (by decide)) (fun h => absurd h (by omega)) (fun _ => ?_)
            refine x_iloadn xc20_47 rfl ?_
            refine x_ifne xc20_48 (xRk (by decide)) (fun _ => ?_) (fun h => absurd h (by omega))
            refine x_aloadn xc20_53 rfl ?_
            refine x_gfr xc20_54 rfl rfl xz0 rfl ?_
            refine x_iloadn xc20_57 rfl ?_
            refine x_cV (as := [xV g]) (rest := []) xc20_58 rfl xi21 xz3 ⟨rfl, rfl⟩ rfl rfl ?_
            refine rk21 (by omega) (by have g0 := hg; omega) hn (by omega) hw ?_
            refine x_istore (pl' := [some (.ref 0), some (xV x), some (xV g), some (xV 1), some (xV n)]) xc20_61 rfl rfl ?_
            refine x_aloadn xc20_63 rfl ?_
            refine x_gfr xc20_64 rfl rfl xz0 rfl ?_
            refine x_aloadn xc20_67 rfl ?_
            refine x_gfr xc20_68 rfl rfl xz0 rfl ?_
            refine x_gfl (k := 4) xc20_71 rfl rfl rfl xz21 ?_
            refine x_iconst xc20_74 ?_
            refine x_iload xc20_75 rfl ?_
            refine x_iadd xc20_77 ?_
            refine x_iloadn xc20_78 rfl ?_
            refine x_cS (as := [xV x]) (rest := [xV (4 + n), .long (b 21 4), .ref 21]) xc20_79 rfl rfl xi22 ⟨rfl, rfl⟩ rfl rfl ?_
            refine rk22 (by omega) q1 ?_
            refine x_cS (as := [.long (b 21 4), xV (4 + n), xV (vIw x)]) (rest := [.ref 21]) xc20_82 rfl rfl xi19 ⟨rfl, rfl⟩ rfl rfl ?_
            refine xk19 (by omega) (xRk (by have g0 := hn0; omega)) (xRk (by have g0 := vIw_y q1; omega)) ?_
            refine x_pfl (k := 4) xc20_85 rfl ⟨rfl, rfl⟩ rfl xz21 ?_
            refine x_iload xc20_88 rfl ?_
            refine x_iret xc20_90 (Or.inl rfl) ?_
            exact k8 h0 h8 h11 h12 h14
    · refine x_ifeq xc20_13 (xRk (by decide)) (fun _ => ?_) (fun h => absurd h (by omega))
      refine x_iconst xc20_20 ?_
      refine x_istoren (pl' := [some (.ref 0), some (xV x), some (xV g), some (xV 0), none]) xc20_21 rfl rfl ?_
      refine x_aloadn xc20_22 rfl ?_
      refine x_gfi' (k := 12) (v := bg) xc20_23 rfl (Or.inr rfl) rfl xz0 hb ?_
      refine x_ifne xc20_26 (xRk (by have g0 := hbg; omega)) (fun h19 => ?_) (fun h19 => ?_)
      · refine x_iconst xc20_51 ?_
        refine x_iret xc20_52 (Or.inl rfl) ?_
        exact k9 h0 h9 h19
      · replace h19 := Classical.not_not.mp h19
        refine x_aloadn xc20_29 rfl ?_
        refine x_gfr xc20_30 rfl rfl xz0 rfl ?_
        refine x_gfi' (k := 5) (v := n) xc20_33 rfl (Or.inl rfl) rfl xz3 hn ?_
        refine x_iconst xc20_36 ?_
        refine x_icge xc20_37 (xRk (by have g0 := hn0; omega)) (xRk (by decide)) (fun h20 => ?_) (fun h20 => ?_)
        · refine x_iconst xc20_51 ?_
          refine x_iret xc20_52 (Or.inl rfl) ?_
          exact k10 h0 h9 h19 h20
        · refine x_iloadn xc20_40 rfl ?_
          refine x_cS (as := [xV x]) (rest := []) xc20_41 rfl rfl xi14 ⟨rfl, rfl⟩ rfl rfl ?_
          refine xk14 (by omega) (xRk (by have g0 := xRb q1; omega)) (fun h21 => ?_) (fun h22 => ?_)
          · refine x_ifne xc20_44 (xRk (by decide)) (fun _ => ?_) (fun h => absurd h (by omega))
            refine x_aloadn xc20_53 rfl ?_
            refine x_gfr xc20_54 rfl rfl xz0 rfl ?_
            refine x_iloadn xc20_57 rfl ?_
            refine x_cV (as := [xV g]) (rest := []) xc20_58 rfl xi21 xz3 ⟨rfl, rfl⟩ rfl rfl ?_
            refine rk21 (by omega) (by have g0 := hg; omega) hn (by omega) hw ?_
            refine x_istore (pl' := [some (.ref 0), some (xV x), some (xV g), some (xV 0), some (xV n)]) xc20_61 rfl rfl ?_
            refine x_aloadn xc20_63 rfl ?_
            refine x_gfr xc20_64 rfl rfl xz0 rfl ?_
            refine x_aloadn xc20_67 rfl ?_
            refine x_gfr xc20_68 rfl rfl xz0 rfl ?_
            refine x_gfl (k := 4) xc20_71 rfl rfl rfl xz21 ?_
            refine x_iconst xc20_74 ?_
            refine x_iload xc20_75 rfl ?_
            refine x_iadd xc20_77 ?_
            refine x_iloadn xc20_78 rfl ?_
            refine x_cS (as := [xV x]) (rest := [xV (4 + n), .long (b 21 4), .ref 21]) xc20_79 rfl rfl xi22 ⟨rfl, rfl⟩ rfl rfl ?_
            refine rk22 (by omega) q1 ?_
            refine x_cS (as := [.long (b 21 4), xV (4 + n), xV (vIw x)]) (rest := [.ref 21]) xc20_82 rfl rfl xi19 ⟨rfl, rfl⟩ rfl rfl ?_
            refine xk19 (by omega) (xRk (by have g0 := hn0; omega)) (xRk (by have g0 := vIw_y q1; omega)) ?_
            refine x_pfl (k := 4) xc20_85 rfl ⟨rfl, rfl⟩ rfl xz21 ?_
            refine x_iload xc20_88 rfl ?_
            refine x_iret xc20_90 (Or.inl rfl) ?_
            exact k11 h0 h9 h19 h20 h21
          · refine x_ifne xc20_44 (xRk (by decide)) (fun h => absurd h (by omega)) (fun _ => ?_)
            refine x_iloadn xc20_47 rfl ?_
            refine x_ifne xc20_48 (xRk (by decide)) (fun h => absurd h (by omega)) (fun _ => ?_)
            refine x_iconst xc20_51 ?_
            refine x_iret xc20_52 (Or.inl rfl) ?_
            exact k12 h0 h9 h19 h20 h22

theorem xg20 {ro : Nat → Nat × (Nat → Int32)} {d : Nat} {Q : Option Value → pmS → Prop} {a : xA} {b : xB} {x g : Int} (h : pmWp ro d 11 20 1 0 [some (.ref 0), some (xV x), some (xV g), none, none] [] (xS a b) Q) : pmCs ro (d + 1) 20 [.ref 0, xV x, xV g] (xS a b) Q := x_go xi20 rfl rfl rfl rfl rfl h
theorem wb23 {ro : Nat → Nat × (Nat → Int32)} {d : Nat} {Q : Option Value → pmS → Prop} {v g n bg : Int} {a : xA} {b : xB} (q1 : xR v) (hg : 0 ≤ g ∧ g ≤ 1) (hn : a 3 5 = n) (hn0 : 0 ≤ n ∧ n ≤ 5) (hb : a 0 12 = bg) (hbg : bg = 0 ∨ bg = 1) (hw : vWo n (a 3 4)) (hd : 3 ≤ d)
    (k1 : (v < 0) → (¬ bg = 0) → Q (some (xV (-1))) (xS a b))
    (k2 : (v < 0) → (bg = 0) → (5 ≤ n) → Q (some (xV (-1))) (xS a b))
    (k3 : (v < 0) → (bg = 0) → (¬ 5 ≤ n) → Q (some (xV (-1))) (xS a b))
    (k4 : (¬ v < 0) → (128 ≤ v) → (¬ bg = 0) → Q (some (xV (-1))) (xS a b))
    (k5 : (¬ v < 0) → (128 ≤ v) → (bg = 0) → (5 ≤ n) → Q (some (xV (-1))) (xS a b))
    (k6 : (¬ v < 0) → (128 ≤ v) → (bg = 0) → (¬ 5 ≤ n) → Q (some (xV (-1))) (xS a b))
    (k7 : (¬ v < 0) → (¬ 128 ≤ v) → (uBs v < 2) → (¬ bg = 0) → Q (some (xV (-1))) (xS a b))
    (k8 : (¬ v < 0) → (¬ 128 ≤ v) → (uBs v < 2) → (bg = 0) → (5 ≤ n) → Q (some (xV (-1))) (xS a b))
    (k9 : (¬ v < 0) → (¬ 128 ≤ v) → (uBs v < 2) → (bg = 0) → (¬ 5 ≤ n) → Q (some (xV (-1))) (xS a b))
    (k10 : (¬ v < 0) → (¬ 128 ≤ v) → (¬ uBs v < 2) → (¬ bg = 0) → Q (some (xV (-1))) (xS a b))
    (k11 : (¬ v < 0) → (¬ 128 ≤ v) → (¬ uBs v < 2) → (bg = 0) → (5 ≤ n) → Q (some (xV (-1))) (xS a b))
    (k12 : (¬ v < 0) → (¬ 128 ≤ v) → (¬ uBs v < 2) → (bg = 0) → (¬ 5 ≤ n) → Q (some (xV n)) (xS (xU (xU a 3 4 (vWn g n (a 3 4))) 3 5 (n + 1)) (xU (xU b 21 4 (xWith (b 21 4) (4 + n) 13)) 21 5 ((b 21 5) ||| (xShL (Int64.ofInt v) (7 * n)))))) :
    pmWp ro d 11 23 1 0 [some (.ref 0), some (xV v), some (xV g), none, none] [] (xS a b) Q := by
  refine x_iloadn xc23_0 rfl ?_
  refine x_iflt xc23_1 (xRk (by have g0 := xRb q1; omega)) (fun h0 => ?_) (fun h0 => ?_)
  · refine x_iconst xc23_23 ?_
    refine x_istoren (pl' := [some (.ref 0), some (xV v), some (xV g), some (xV 0), none]) xc23_24 rfl rfl ?_
    refine x_aloadn xc23_25 rfl ?_
    refine x_gfi' (k := 12) (v := bg) xc23_26 rfl (Or.inr rfl) rfl xz0 hb ?_
    refine x_ifne xc23_29 (xRk (by have g0 := hbg; omega)) (fun h1 => ?_) (fun h1 => ?_)
    · refine x_iconst xc23_47 ?_
      refine x_iret xc23_48 (Or.inl rfl) ?_
      exact k1 h0 h1
    · replace h1 := Classical.not_not.mp h1
      refine x_aloadn xc23_32 rfl ?_
      refine x_gfr xc23_33 rfl rfl xz0 rfl ?_
      refine x_gfi' (k := 5) (v := n) xc23_36 rfl (Or.inl rfl) rfl xz3 hn ?_
      refine x_iconst xc23_39 ?_
      refine x_icge xc23_40 (xRk (by have g0 := hn0; omega)) (xRk (by decide)) (fun h2 => ?_) (fun h2 => ?_)
      · refine x_iconst xc23_47 ?_
        refine x_iret xc23_48 (Or.inl rfl) ?_
        exact k2 h0 h1 h2
      · refine x_iloadn xc23_43 rfl ?_
        refine x_ifne xc23_44 (xRk (by decide)) (fun h => absurd h (by omega)) (fun _ => ?_)
        refine x_iconst xc23_47 ?_
        refine x_iret xc23_48 (Or.inl rfl) ?_
        exact k3 h0 h1 h2
  · refine x_iloadn xc23_4 rfl ?_
    refine x_sipush xc23_5 (by decide) ?_
    refine x_icge xc23_8 (xRk (by have g0 := xRb q1; omega)) (xRk (by decide)) (fun h4 => ?_) (fun h4 => ?_)
    · refine x_iconst xc23_23 ?_
      refine x_istoren (pl' := [some (.ref 0), some (xV v), some (xV g), some (xV 0), none]) xc23_24 rfl rfl ?_
      refine x_aloadn xc23_25 rfl ?_
      refine x_gfi' (k := 12) (v := bg) xc23_26 rfl (Or.inr rfl) rfl xz0 hb ?_
      refine x_ifne xc23_29 (xRk (by have g0 := hbg; omega)) (fun h5 => ?_) (fun h5 => ?_)
      · refine x_iconst xc23_47 ?_
        refine x_iret xc23_48 (Or.inl rfl) ?_
        exact k4 h0 h4 h5
      · replace h5 := Classical.not_not.mp h5
        refine x_aloadn xc23_32 rfl ?_
        refine x_gfr xc23_33 rfl rfl xz0 rfl ?_
        refine x_gfi' (k := 5) (v := n) xc23_36 rfl (Or.inl rfl) rfl xz3 hn ?_
        refine x_iconst xc23_39 ?_
        refine x_icge xc23_40 (xRk (by have g0 := hn0; omega)) (xRk (by decide)) (fun h6 => ?_) (fun h6 => ?_)
        · refine x_iconst xc23_47 ?_
          refine x_iret xc23_48 (Or.inl rfl) ?_
          exact k5 h0 h4 h5 h6
        · refine x_iloadn xc23_43 rfl ?_
          refine x_ifne xc23_44 (xRk (by decide)) (fun h => absurd h (by omega)) (fun _ => ?_)
          refine x_iconst xc23_47 ?_
          refine x_iret xc23_48 (Or.inl rfl) ?_
          exact k6 h0 h4 h5 h6
    · refine x_iloadn xc23_11 rfl ?_
      refine x_cS (as := [xV v]) (rest := []) xc23_12 rfl rfl xi24 ⟨rfl, rfl⟩ rfl rfl ?_
      refine rk24 (by omega) (by have g0 := xRb q1; omega) ?_
      refine x_iconst xc23_15 ?_
      refine x_iclt xc23_16 (xRk (by have g0 := vBs_b (v := v); omega)) (xRk (by decide)) (fun h8 => ?_) (fun h8 => ?_)
      · refine x_iconst xc23_23 ?_
        refine x_istoren (pl' := [some (.ref 0), some (xV v), some (xV g), some (xV 0), none]) xc23_24 rfl rfl ?_
        refine x_aloadn xc23_25 rfl ?_
        refine x_gfi' (k := 12) (v := bg) xc23_26 rfl (Or.inr rfl) rfl xz0 hb ?_
        refine x_ifne xc23_29 (xRk (by have g0 := hbg; omega)) (fun h9 => ?_) (fun h9 => ?_)
        · refine x_iconst xc23_47 ?_
          refine x_iret xc23_48 (Or.inl rfl) ?_
          exact k7 h0 h4 h8 h9
        · replace h9 := Classical.not_not.mp h9
          refine x_aloadn xc23_32 rfl ?_
          refine x_gfr xc23_33 rfl rfl xz0 rfl ?_
          refine x_gfi' (k := 5) (v := n) xc23_36 rfl (Or.inl rfl) rfl xz3 hn ?_
          refine x_iconst xc23_39 ?_
          refine x_icge xc23_40 (xRk (by have g0 := hn0; omega)) (xRk (by decide)) (fun h10 => ?_) (fun h10 => ?_)
          · refine x_iconst xc23_47 ?_
            refine x_iret xc23_48 (Or.inl rfl) ?_
            exact k8 h0 h4 h8 h9 h10
          · refine x_iloadn xc23_43 rfl ?_
            refine x_ifne xc23_44 (xRk (by decide)) (fun h => absurd h (by omega)) (fun _ => ?_)
            refine x_iconst xc23_47 ?_
            refine x_iret xc23_48 (Or.inl rfl) ?_
            exact k9 h0 h4 h8 h9 h10
      · refine x_iconst xc23_19 ?_
        refine x_goto xc23_20 ?_
        refine x_istoren (pl' := [some (.ref 0), some (xV v), some (xV g), some (xV 1), none]) xc23_24 rfl rfl ?_
        refine x_aloadn xc23_25 rfl ?_
        refine x_gfi' (k := 12) (v := bg) xc23_26 rfl (Or.inr rfl) rfl xz0 hb ?_
        refine x_ifne xc23_29 (xRk (by have g0 := hbg; omega)) (fun h12 => ?_) (fun h12 => ?_)
        · refine x_iconst xc23_47 ?_
          refine x_iret xc23_48 (Or.inl rfl) ?_
          exact k10 h0 h4 h8 h12
        · replace h12 := Classical.not_not.mp h12
          refine x_aloadn xc23_32 rfl ?_
          refine x_gfr xc23_33 rfl rfl xz0 rfl ?_
          refine x_gfi' (k := 5) (v := n) xc23_36 rfl (Or.inl rfl) rfl xz3 hn ?_
          refine x_iconst xc23_39 ?_
          refine x_icge xc23_40 (xRk (by have g0 := hn0; omega)) (xRk (by decide)) (fun h13 => ?_) (fun h13 => ?_)
          · refine x_iconst xc23_47 ?_
            refine x_iret xc23_48 (Or.inl rfl) ?_
            exact k11 h0 h4 h8 h12 h13
          · refine x_iloadn xc23_43 rfl ?_
            refine x_ifne xc23_44 (xRk (by decide)) (fun _ => ?_) (fun h => absurd h (by omega))
            refine x_aloadn xc23_49 rfl ?_
            refine x_gfr xc23_50 rfl rfl xz0 rfl ?_
            refine x_iloadn xc23_53 rfl ?_
            refine x_cV (as := [xV g]) (rest := []) xc23_54 rfl xi21 xz3 ⟨rfl, rfl⟩ rfl rfl ?_
            refine rk21 (by omega) (by have g0 := hg; omega) hn (by omega) hw ?_
            refine x_istore (pl' := [some (.ref 0), some (xV v), some (xV g), some (xV 1), some (xV n)]) xc23_57 rfl rfl ?_
            refine x_aloadn xc23_59 rfl ?_
            refine x_gfr xc23_60 rfl rfl xz0 rfl ?_
            refine x_aloadn xc23_63 rfl ?_
            refine x_gfr xc23_64 rfl rfl xz0 rfl ?_
            refine x_gfl (k := 4) xc23_67 rfl rfl rfl xz21 ?_
            refine x_iconst xc23_70 ?_
            refine x_iload xc23_71 rfl ?_
            refine x_iadd xc23_73 ?_
            refine x_bipush xc23_74 (by decide) ?_
            refine x_cS (as := [.long (b 21 4), xV (4 + n), xV 13]) (rest := [.ref 21]) xc23_76 rfl rfl xi19 ⟨rfl, rfl⟩ rfl rfl ?_
            refine xk19 (by omega) (xRk (by have g0 := hn0; omega)) (xRk (by decide)) ?_
            refine x_pfl (k := 4) xc23_79 rfl ⟨rfl, rfl⟩ rfl xz21 ?_
            refine x_aloadn xc23_82 rfl ?_
            refine x_gfr xc23_83 rfl rfl xz0 rfl ?_
            refine x_dup xc23_86 rfl ?_
            refine x_gfl' (k := 5) (v := b 21 5) xc23_87 rfl rfl rfl xz21 (by rw [xUk (by decide)]) ?_
            refine x_iloadn xc23_90 rfl ?_
            refine x_i2l (xRk (by have g0 := xRb q1; omega)) xc23_91 ?_
            refine x_bipush xc23_92 (by decide) ?_
            refine x_iload xc23_94 rfl ?_
            refine x_imul xc23_96 ?_
            refine x_lshl xc23_97 ?_
            refine x_lor xc23_98 ?_
            refine x_pfl (k := 5) xc23_99 rfl ⟨rfl, rfl⟩ rfl xz21 ?_
            refine x_iload xc23_102 rfl ?_
            refine x_iret xc23_104 (Or.inl rfl) ?_
            exact k12 h0 h4 h8 h12 h13

theorem xg23 {ro : Nat → Nat × (Nat → Int32)} {d : Nat} {Q : Option Value → pmS → Prop} {a : xA} {b : xB} {v g : Int} (h : pmWp ro d 11 23 1 0 [some (.ref 0), some (xV v), some (xV g), none, none] [] (xS a b) Q) : pmCs ro (d + 1) 23 [.ref 0, xV v, xV g] (xS a b) Q := x_go xi23 rfl rfl rfl rfl rfl h
theorem wb25 {ro : Nat → Nat × (Nat → Int32)} {d : Nat} {Q : Option Value → pmS → Prop} {p g i x bg : Int} {a : xA} {b : xB} (q1 : xR p) (hg : g = 0 ∨ g = 1) (q2 : xR i) (q3 : xR x) (hb : a 0 12 = bg) (hbg : bg = 0 ∨ bg = 1) (hd : 3 ≤ d)
    (k1 : (¬ bg = 0) → Q (some (xV 0)) (xS a b))
    (k2 : (bg = 0) → (1 ≤ p ∧ p < 4) → pmCs ro d 27 [.ref 0, xV g, xV i] (xS a b) fun r σ' => pmWp ro d 11 25 2 20 [some (.ref 0), some (xV p), some (xV g), some (xV i), some (xV x), none] (r.toList ++ []) σ' Q)
    (k3 : (bg = 0) → (¬ (1 ≤ p ∧ p < 4)) → Q (some (xV 0)) (xS a b)) :
    pmWp ro d 11 25 2 0 [some (.ref 0), some (xV p), some (xV g), some (xV i), some (xV x), none] [] (xS a b) Q := by
  refine x_aloadn xc25_0 rfl ?_
  refine x_gfi' (k := 12) (v := bg) xc25_1 rfl (Or.inr rfl) rfl xz0 hb ?_
  refine x_ifne xc25_4 (xRk (by have g0 := hbg; omega)) (fun h0 => ?_) (fun h0 => ?_)
  · refine x_iconst xc25_32 ?_
    refine x_iret xc25_33 (Or.inr ⟨rfl, (by omega)⟩) ?_
    exact k1 h0
  · replace h0 := Classical.not_not.mp h0
    refine x_iloadn xc25_7 rfl ?_
    refine x_cS (as := [xV p]) (rest := []) xc25_8 rfl rfl xi26 ⟨rfl, rfl⟩ rfl rfl ?_
    refine xk26 (by omega) (xRk (by have g0 := xRb q1; omega)) (fun h1 => ?_) (fun h2 => ?_)
    · refine x_ifeq xc25_11 (xRk (by decide)) (fun h => absurd h (by omega)) (fun _ => ?_)
      refine x_aloadn xc25_14 rfl ?_
      refine x_iloadn xc25_15 rfl ?_
      refine x_iloadn xc25_16 rfl ?_
      refine x_cV (as := [xV g, xV i]) (rest := []) xc25_17 rfl xi27 xz0 ⟨rfl, rfl⟩ rfl rfl ?_
      exact k2 h0 h1
    · refine x_ifeq xc25_11 (xRk (by decide)) (fun _ => ?_) (fun h => absurd h (by omega))
      refine x_iconst xc25_32 ?_
      refine x_iret xc25_33 (Or.inr ⟨rfl, (by omega)⟩) ?_
      exact k3 h0 h2

theorem xg25 {ro : Nat → Nat × (Nat → Int32)} {d : Nat} {Q : Option Value → pmS → Prop} {a : xA} {b : xB} {p g i x : Int} (h : pmWp ro d 11 25 2 0 [some (.ref 0), some (xV p), some (xV g), some (xV i), some (xV x), none] [] (xS a b) Q) : pmCs ro (d + 1) 25 [.ref 0, xV p, xV g, xV i, xV x] (xS a b) Q := x_go xi25 rfl rfl rfl rfl rfl h
theorem wb25n {ro : Nat → Nat × (Nat → Int32)} {d : Nat} {Q : Option Value → pmS → Prop} {g p i x : Int} {a : xA} {b : xB} (hp : 1 ≤ p ∧ p < 4) (q2 : xR i) (q3 : xR x) (hd : 3 ≤ d)
    (k1 : Q (some (xV 0)) (xS a b)) :
    pmWp ro d 11 25 2 20 [some (.ref 0), some (xV p), some (xV g), some (xV i), some (xV x), none] [xV 0] (xS a b) Q := by
  refine x_ifeq xc25_20 (xRk (by decide)) (fun _ => ?_) (fun h => absurd h (by omega))
  refine x_iconst xc25_32 ?_
  refine x_iret xc25_33 (Or.inr ⟨rfl, (by omega)⟩) ?_
  exact k1

theorem wb25y {ro : Nat → Nat × (Nat → Int32)} {d : Nat} {Q : Option Value → pmS → Prop} {p i x : Int} {a : xA} {b : xB} (hp : 1 ≤ p ∧ p < 4) (q2 : xR i) (q3 : xR x) (hi : 0 ≤ i ∧ i < 4) (hd : 3 ≤ d)
    (k1 : (¬ i = p) → (x = -1) → Q (some (xV 1)) (xS a (xU b 22 p (xWith (b 22 p) i (vIw x)))))
    (k2 : (¬ i = p) → (¬ x = -1) → (0 ≤ x ∧ x < 7) → Q (some (xV 1)) (xS a (xU b 22 p (xWith (b 22 p) i (vIw x)))))
    (k3 : (¬ i = p) → (¬ x = -1) → (¬ (0 ≤ x ∧ x < 7)) → Q (some (xV 0)) (xS a b))
    (k4 : (i = p) → Q (some (xV 0)) (xS a b)) :
    pmWp ro d 11 25 2 20 [some (.ref 0), some (xV p), some (xV 1), some (xV i), some (xV x), none] [xV 1] (xS a b) Q := by
  refine x_ifeq xc25_20 (xRk (by decide)) (fun h => absurd h (by omega)) (fun _ => ?_)
  refine x_iloadn xc25_23 rfl ?_
  refine x_ifeq xc25_24 (xRk (by decide)) (fun h => absurd h (by omega)) (fun _ => ?_)
  refine x_iloadn xc25_27 rfl ?_
  refine x_iloadn xc25_28 rfl ?_
  refine x_icne xc25_29 (xRk (by have g0 := xRb q2; omega)) (xRk (by have g0 := hp; omega)) (fun h2 => ?_) (fun h2 => ?_)
  · refine x_iloadn xc25_34 rfl ?_
    refine x_ifne xc25_35 (xRk (by decide)) (fun _ => ?_) (fun h => absurd h (by omega))
    refine x_iconst xc25_69 ?_
    refine x_istore (pl' := [some (.ref 0), some (xV p), some (xV 1), some (xV i), some (xV x), some (xV 0)]) xc25_70 rfl rfl ?_
    refine x_iload xc25_72 rfl ?_
    refine x_iconst xc25_74 ?_
    refine x_iceq xc25_75 (xRk (by have g0 := xRb q3; omega)) (xRk (by decide)) (fun h4 => ?_) (fun h4 => ?_)
    · refine x_aloadn xc25_93 rfl ?_
      refine x_gfr xc25_94 rfl rfl xz0 rfl ?_
      refine x_gfr xc25_97 rfl rfl xz21 rfl ?_
      refine x_iloadn xc25_100 rfl ?_
      refine x_aloadn xc25_101 rfl ?_
      refine x_gfr xc25_102 rfl rfl xz0 rfl ?_
      refine x_gfr xc25_105 rfl rfl xz21 rfl ?_
      refine x_iloadn xc25_108 rfl ?_
      refine x_lal xc25_109 xz22 (by have g0 := hp; omega) (by have g0 := hp; omega) (by have g0 := hp; omega) ?_
      refine x_iloadn xc25_110 rfl ?_
      refine x_ifeq xc25_111 (xRk (by decide)) (fun h => absurd h (by omega)) (fun _ => ?_)
      refine x_iloadn xc25_114 rfl ?_
      refine x_goto xc25_115 ?_
      refine x_iload xc25_121 rfl ?_
      refine x_cS (as := [xV x]) (rest := [xV i, .long (b 22 p), xV p, .ref 22]) xc25_123 rfl rfl xi22 ⟨rfl, rfl⟩ rfl rfl ?_
      refine rk22 (by omega) q3 ?_
      refine x_cS (as := [.long (b 22 p), xV i, xV (vIw x)]) (rest := [xV p, .ref 22]) xc25_126 rfl rfl xi19 ⟨rfl, rfl⟩ rfl rfl ?_
      refine xk19 (by omega) (xRk (by have g0 := xRb q2; omega)) (xRk (by have g0 := vIw_y q3; omega)) ?_
      refine x_las xc25_129 xz22 (by have g0 := hp; omega) (by have g0 := hp; omega) (by have g0 := hp; omega) ?_
      refine x_iconst xc25_130 ?_
      refine x_iret xc25_131 (Or.inr ⟨rfl, (by omega)⟩) ?_
      exact k1 h2 h4
    · refine x_iload xc25_78 rfl ?_
      refine x_cS (as := [xV x]) (rest := []) xc25_80 rfl rfl xi14 ⟨rfl, rfl⟩ rfl rfl ?_
      refine xk14 (by omega) (xRk (by have g0 := xRb q3; omega)) (fun h6 => ?_) (fun h7 => ?_)
      · refine x_ifne xc25_83 (xRk (by decide)) (fun _ => ?_) (fun h => absurd h (by omega))
        refine x_aloadn xc25_93 rfl ?_
        refine x_gfr xc25_94 rfl rfl xz0 rfl ?_
        refine x_gfr xc25_97 rfl rfl xz21 rfl ?_
        refine x_iloadn xc25_100 rfl ?_
        refine x_aloadn xc25_101 rfl ?_
        refine x_gfr xc25_102 rfl rfl xz0 rfl ?_
        refine x_gfr xc25_105 rfl rfl xz21 rfl ?_
        refine x_iloadn xc25_108 rfl ?_
        refine x_lal xc25_109 xz22 (by have g0 := hp; omega) (by have g0 := hp; omega) (by have g0 := hp; omega) ?_
        refine x_iloadn xc25_110 rfl ?_
        refine x_ifeq xc25_111 (xRk (by decide)) (fun h => absurd h (by omega)) (fun _ => ?_)
        refine x_iloadn xc25_114 rfl ?_
        refine x_goto xc25_115 ?_
        refine x_iload xc25_121 rfl ?_
        refine x_cS (as := [xV x]) (rest := [xV i, .long (b 22 p), xV p, .ref 22]) xc25_123 rfl rfl xi22 ⟨rfl, rfl⟩ rfl rfl ?_
        refine rk22 (by omega) q3 ?_
        refine x_cS (as := [.long (b 22 p), xV i, xV (vIw x)]) (rest := [xV p, .ref 22]) xc25_126 rfl rfl xi19 ⟨rfl, rfl⟩ rfl rfl ?_
        refine xk19 (by omega) (xRk (by have g0 := xRb q2; omega)) (xRk (by have g0 := vIw_y q3; omega)) ?_
        refine x_las xc25_129 xz22 (by have g0 := hp; omega) (by have g0 := hp; omega) (by have g0 := hp; omega) ?_
        refine x_iconst xc25_130 ?_
        refine x_iret xc25_131 (Or.inr ⟨rfl, (by omega)⟩) ?_
        exact k2 h2 h4 h6
      · refine x_ifne xc25_83 (xRk (by decide)) (fun h => absurd h (by omega)) (fun _ => ?_)
        refine x_iload xc25_86 rfl ?_
        refine x_ifne xc25_88 (xRk (by decide)) (fun h => absurd h (by omega)) (fun _ => ?_)
        refine x_iconst xc25_91 ?_
        refine x_iret xc25_92 (Or.inr ⟨rfl, (by omega)⟩) ?_
        exact k3 h2 h4 h7
  · replace h2 := Classical.not_not.mp h2
    refine x_iconst xc25_32 ?_
    refine x_iret xc25_33 (Or.inr ⟨rfl, (by omega)⟩) ?_
    exact k4 h2

theorem wb25x {ro : Nat → Nat × (Nat → Int32)} {d : Nat} {Q : Option Value → pmS → Prop} {p i x : Int} {a : xA} {b : xB} (hp : 1 ≤ p ∧ p < 4) (q2 : xR i) (q3 : xR x) (hi : 0 ≤ i ∧ i < 5) (hd : 3 ≤ d)
    (k1 : (x < 10) → (x = -1) → Q (some (xV 1)) (xS a (xU b 22 p (xWith (b 22 p) (4 + i) (vIw x)))))
    (k2 : (x < 10) → (¬ x = -1) → (0 ≤ x ∧ x < 7) → Q (some (xV 1)) (xS a (xU b 22 p (xWith (b 22 p) (4 + i) (vIw x)))))
    (k3 : (x < 10) → (¬ x = -1) → (¬ (0 ≤ x ∧ x < 7)) → Q (some (xV 0)) (xS a b))
    (k4 : (¬ x < 10) → (0 ≤ x - 10 ∧ x - 10 < 4) → (x = 10 + p) → (x = -1) → Q (some (xV 1)) (xS a (xU b 22 p (xWith (b 22 p) (4 + i) (vIw x)))))
    (k5 : (¬ x < 10) → (0 ≤ x - 10 ∧ x - 10 < 4) → (x = 10 + p) → (¬ x = -1) → (0 ≤ x ∧ x < 7) → Q (some (xV 1)) (xS a (xU b 22 p (xWith (b 22 p) (4 + i) (vIw x)))))
    (k6 : (¬ x < 10) → (0 ≤ x - 10 ∧ x - 10 < 4) → (x = 10 + p) → (¬ x = -1) → (¬ (0 ≤ x ∧ x < 7)) → Q (some (xV 0)) (xS a b))
    (k7 : (¬ x < 10) → (0 ≤ x - 10 ∧ x - 10 < 4) → (¬ x = 10 + p) → (x = -1) → Q (some (xV 1)) (xS a (xU b 22 p (xWith (b 22 p) (4 + i) (vIw x)))))
    (k8 : (¬ x < 10) → (0 ≤ x - 10 ∧ x - 10 < 4) → (¬ x = 10 + p) → (¬ x = -1) → (0 ≤ x ∧ x < 7) → Q (some (xV 1)) (xS a (xU b 22 p (xWith (b 22 p) (4 + i) (vIw x)))))
    (k9 : (¬ x < 10) → (0 ≤ x - 10 ∧ x - 10 < 4) → (¬ x = 10 + p) → (¬ x = -1) → (¬ (0 ≤ x ∧ x < 7)) → Q (some (xV 1)) (xS a (xU b 22 p (xWith (b 22 p) (4 + i) (vIw x)))))
    (k10 : (¬ x < 10) → (¬ (0 ≤ x - 10 ∧ x - 10 < 4)) → (x = -1) → Q (some (xV 1)) (xS a (xU b 22 p (xWith (b 22 p) (4 + i) (vIw x)))))
    (k11 : (¬ x < 10) → (¬ (0 ≤ x - 10 ∧ x - 10 < 4)) → (¬ x = -1) → (0 ≤ x ∧ x < 7) → Q (some (xV 1)) (xS a (xU b 22 p (xWith (b 22 p) (4 + i) (vIw x)))))
    (k12 : (¬ x < 10) → (¬ (0 ≤ x - 10 ∧ x - 10 < 4)) → (¬ x = -1) → (¬ (0 ≤ x ∧ x < 7)) → Q (some (xV 0)) (xS a b)) :
    pmWp ro d 11 25 2 20 [some (.ref 0), some (xV p), some (xV 0), some (xV i), some (xV x), none] [xV 1] (xS a b) Q := by
  refine x_ifeq xc25_20 (xRk (by decide)) (fun h => absurd h (by omega)) (fun _ => ?_)
  refine x_iloadn xc25_23 rfl ?_
  refine x_ifeq xc25_24 (xRk (by decide)) (fun _ => ?_) (fun h => absurd h (by omega))
  refine x_iloadn xc25_34 rfl ?_
  refine x_ifne xc25_35 (xRk (by decide)) (fun h => absurd h (by omega)) (fun _ => ?_)
  refine x_iload xc25_38 rfl ?_
  refine x_bipush xc25_40 (by decide) ?_
  refine x_iclt xc25_42 (xRk (by have g0 := xRb q3; omega)) (xRk (by decide)) (fun h3 => ?_) (fun h3 => ?_)
  · refine x_iconst xc25_69 ?_
    refine x_istore (pl' := [some (.ref 0), some (xV p), some (xV 0), some (xV i), some (xV x), some (xV 0)]) xc25_70 rfl rfl ?_
    refine x_iload xc25_72 rfl ?_
    refine x_iconst xc25_74 ?_
    refine x_iceq xc25_75 (xRk (by have g0 := xRb q3; omega)) (xRk (by decide)) (fun h4 => ?_) (fun h4 => ?_)
    · refine x_aloadn xc25_93 rfl ?_
      refine x_gfr xc25_94 rfl rfl xz0 rfl ?_
      refine x_gfr xc25_97 rfl rfl xz21 rfl ?_
      refine x_iloadn xc25_100 rfl ?_
      refine x_aloadn xc25_101 rfl ?_
      refine x_gfr xc25_102 rfl rfl xz0 rfl ?_
      refine x_gfr xc25_105 rfl rfl xz21 rfl ?_
      refine x_iloadn xc25_108 rfl ?_
      refine x_lal xc25_109 xz22 (by have g0 := hp; omega) (by have g0 := hp; omega) (by have g0 := hp; omega) ?_
      refine x_iloadn xc25_110 rfl ?_
      refine x_ifeq xc25_111 (xRk (by decide)) (fun _ => ?_) (fun h => absurd h (by omega))
      refine x_iconst xc25_118 ?_
      refine x_iloadn xc25_119 rfl ?_
      refine x_iadd xc25_120 ?_
      refine x_iload xc25_121 rfl ?_
      refine x_cS (as := [xV x]) (rest := [xV (4 + i), .long (b 22 p), xV p, .ref 22]) xc25_123 rfl rfl xi22 ⟨rfl, rfl⟩ rfl rfl ?_
      refine rk22 (by omega) q3 ?_
      refine x_cS (as := [.long (b 22 p), xV (4 + i), xV (vIw x)]) (rest := [xV p, .ref 22]) xc25_126 rfl rfl xi19 ⟨rfl, rfl⟩ rfl rfl ?_
      refine xk19 (by omega) (xRk (by have g0 := xRb q2; omega)) (xRk (by have g0 := vIw_y q3; omega)) ?_
      refine x_las xc25_129 xz22 (by have g0 := hp; omega) (by have g0 := hp; omega) (by have g0 := hp; omega) ?_
      refine x_iconst xc25_130 ?_
      refine x_iret xc25_131 (Or.inr ⟨rfl, (by omega)⟩) ?_
      exact k1 h3 h4
    · refine x_iload xc25_78 rfl ?_
      refine x_cS (as := [xV x]) (rest := []) xc25_80 rfl rfl xi14 ⟨rfl, rfl⟩ rfl rfl ?_
      refine xk14 (by omega) (xRk (by have g0 := xRb q3; omega)) (fun h6 => ?_) (fun h7 => ?_)
      · refine x_ifne xc25_83 (xRk (by decide)) (fun _ => ?_) (fun h => absurd h (by omega))
        refine x_aloadn xc25_93 rfl ?_
        refine x_gfr xc25_94 rfl rfl xz0 rfl ?_
        refine x_gfr xc25_97 rfl rfl xz21 rfl ?_
        refine x_iloadn xc25_100 rfl ?_
        refine x_aloadn xc25_101 rfl ?_
        refine x_gfr xc25_102 rfl rfl xz0 rfl ?_
        refine x_gfr xc25_105 rfl rfl xz21 rfl ?_
        refine x_iloadn xc25_108 rfl ?_
        refine x_lal xc25_109 xz22 (by have g0 := hp; omega) (by have g0 := hp; omega) (by have g0 := hp; omega) ?_
        refine x_iloadn xc25_110 rfl ?_
        refine x_ifeq xc25_111 (xRk (by decide)) (fun _ => ?_) (fun h => absurd h (by omega))
        refine x_iconst xc25_118 ?_
        refine x_iloadn xc25_119 rfl ?_
        refine x_iadd xc25_120 ?_
        refine x_iload xc25_121 rfl ?_
        refine x_cS (as := [xV x]) (rest := [xV (4 + i), .long (b 22 p), xV p, .ref 22]) xc25_123 rfl rfl xi22 ⟨rfl, rfl⟩ rfl rfl ?_
        refine rk22 (by omega) q3 ?_
        refine x_cS (as := [.long (b 22 p), xV (4 + i), xV (vIw x)]) (rest := [xV p, .ref 22]) xc25_126 rfl rfl xi19 ⟨rfl, rfl⟩ rfl rfl ?_
        refine xk19 (by omega) (xRk (by have g0 := xRb q2; omega)) (xRk (by have g0 := vIw_y q3; omega)) ?_
        refine x_las xc25_129 xz22 (by have g0 := hp; omega) (by have g0 := hp; omega) (by have g0 := hp; omega) ?_
        refine x_iconst xc25_130 ?_
        refine x_iret xc25_131 (Or.inr ⟨rfl, (by omega)⟩) ?_
        exact k2 h3 h4 h6
      · refine x_ifne xc25_83 (xRk (by decide)) (fun h => absurd h (by omega)) (fun _ => ?_)
        refine x_iload xc25_86 rfl ?_
        refine x_ifne xc25_88 (xRk (by decide)) (fun h => absurd h (by omega)) (fun _ => ?_)
        refine x_iconst xc25_91 ?_
        refine x_iret xc25_92 (Or.inr ⟨rfl, (by omega)⟩) ?_
        exact k3 h3 h4 h7
  · refine x_iload xc25_45 rfl ?_
    refine x_bipush xc25_47 (by decide) ?_
    refine x_isub xc25_49 ?_
    refine x_cS (as := [xV (x - 10)]) (rest := []) xc25_50 rfl rfl xi18 ⟨rfl, rfl⟩ rfl rfl ?_
    refine xk18 (by omega) (xRk (by have g0 := xRb q3; omega)) (fun h12 => ?_) (fun h13 => ?_)
    · refine x_ifeq xc25_53 (xRk (by decide)) (fun h => absurd h (by omega)) (fun _ => ?_)
      refine x_iload xc25_56 rfl ?_
      refine x_bipush xc25_58 (by decide) ?_
      refine x_iloadn xc25_60 rfl ?_
      refine x_iadd xc25_61 ?_
      refine x_iceq xc25_62 (xRk (by have g0 := xRb q3; omega)) (xRk (by have g0 := hp; omega)) (fun h15 => ?_) (fun h15 => ?_)
      · refine x_iconst xc25_69 ?_
        refine x_istore (pl' := [some (.ref 0), some (xV p), some (xV 0), some (xV i), some (xV x), some (xV 0)]) xc25_70 rfl rfl ?_
        refine x_iload xc25_72 rfl ?_
        refine x_iconst xc25_74 ?_
        refine x_iceq xc25_75 (xRk (by have g0 := xRb q3; omega)) (xRk (by decide)) (fun h16 => ?_) (fun h16 => ?_)
        · refine x_aloadn xc25_93 rfl ?_
          refine x_gfr xc25_94 rfl rfl xz0 rfl ?_
          refine x_gfr xc25_97 rfl rfl xz21 rfl ?_
          refine x_iloadn xc25_100 rfl ?_
          refine x_aloadn xc25_101 rfl ?_
          refine x_gfr xc25_102 rfl rfl xz0 rfl ?_
          refine x_gfr xc25_105 rfl rfl xz21 rfl ?_
          refine x_iloadn xc25_108 rfl ?_
          refine x_lal xc25_109 xz22 (by have g0 := hp; omega) (by have g0 := hp; omega) (by have g0 := hp; omega) ?_
          refine x_iloadn xc25_110 rfl ?_
          refine x_ifeq xc25_111 (xRk (by decide)) (fun _ => ?_) (fun h => absurd h (by omega))
          refine x_iconst xc25_118 ?_
          refine x_iloadn xc25_119 rfl ?_
          refine x_iadd xc25_120 ?_
          refine x_iload xc25_121 rfl ?_
          refine x_cS (as := [xV x]) (rest := [xV (4 + i), .long (b 22 p), xV p, .ref 22]) xc25_123 rfl rfl xi22 ⟨rfl, rfl⟩ rfl rfl ?_
          refine rk22 (by omega) q3 ?_
          refine x_cS (as := [.long (b 22 p), xV (4 + i), xV (vIw x)]) (rest := [xV p, .ref 22]) xc25_126 rfl rfl xi19 ⟨rfl, rfl⟩ rfl rfl ?_
          refine xk19 (by omega) (xRk (by have g0 := xRb q2; omega)) (xRk (by have g0 := vIw_y q3; omega)) ?_
          refine x_las xc25_129 xz22 (by have g0 := hp; omega) (by have g0 := hp; omega) (by have g0 := hp; omega) ?_
          refine x_iconst xc25_130 ?_
          refine x_iret xc25_131 (Or.inr ⟨rfl, (by omega)⟩) ?_
          exact k4 h3 h12 h15 h16
        · refine x_iload xc25_78 rfl ?_
          refine x_cS (as := [xV x]) (rest := []) xc25_80 rfl rfl xi14 ⟨rfl, rfl⟩ rfl rfl ?_
          refine xk14 (by omega) (xRk (by have g0 := xRb q3; omega)) (fun h18 => ?_) (fun h19 => ?_)
          · refine x_ifne xc25_83 (xRk (by decide)) (fun _ => ?_) (fun h => absurd h (by omega))
            refine x_aloadn xc25_93 rfl ?_
            refine x_gfr xc25_94 rfl rfl xz0 rfl ?_
            refine x_gfr xc25_97 rfl rfl xz21 rfl ?_
            refine x_iloadn xc25_100 rfl ?_
            refine x_aloadn xc25_101 rfl ?_
            refine x_gfr xc25_102 rfl rfl xz0 rfl ?_
            refine x_gfr xc25_105 rfl rfl xz21 rfl ?_
            refine x_iloadn xc25_108 rfl ?_
            refine x_lal xc25_109 xz22 (by have g0 := hp; omega) (by have g0 := hp; omega) (by have g0 := hp; omega) ?_
            refine x_iloadn xc25_110 rfl ?_
            refine x_ifeq xc25_111 (xRk (by decide)) (fun _ => ?_) (fun h => absurd h (by omega))
            refine x_iconst xc25_118 ?_
            refine x_iloadn xc25_119 rfl ?_
            refine x_iadd xc25_120 ?_
            refine x_iload xc25_121 rfl ?_
            refine x_cS (as := [xV x]) (rest := [xV (4 + i), .long (b 22 p), xV p, .ref 22]) xc25_123 rfl rfl xi22 ⟨rfl, rfl⟩ rfl rfl ?_
            refine rk22 (by omega) q3 ?_
            refine x_cS (as := [.long (b 22 p), xV (4 + i), xV (vIw x)]) (rest := [xV p, .ref 22]) xc25_126 rfl rfl xi19 ⟨rfl, rfl⟩ rfl rfl ?_
            refine xk19 (by omega) (xRk (by have g0 := xRb q2; omega)) (xRk (by have g0 := vIw_y q3; omega)) ?_
            refine x_las xc25_129 xz22 (by have g0 := hp; omega) (by have g0 := hp; omega) (by have g0 := hp; omega) ?_
            refine x_iconst xc25_130 ?_
            refine x_iret xc25_131 (Or.inr ⟨rfl, (by omega)⟩) ?_
            exact k5 h3 h12 h15 h16 h18
          · refine x_ifne xc25_83 (xRk (by decide)) (fun h => absurd h (by omega)) (fun _ => ?_)
            refine x_iload xc25_86 rfl ?_
            refine x_ifne xc25_88 (xRk (by decide)) (fun h => absurd h (by omega)) (fun _ => ?_)
            refine x_iconst xc25_91 ?_
            refine x_iret xc25_92 (Or.inr ⟨rfl, (by omega)⟩) ?_
            exact k6 h3 h12 h15 h16 h19
      · refine x_iconst xc25_65 ?_
        refine x_goto xc25_66 ?_
        refine x_istore (pl' := [some (.ref 0), some (xV p), some (xV 0), some (xV i), some (xV x), some (xV 1)]) xc25_70 rfl rfl ?_
        refine x_iload xc25_72 rfl ?_
        refine x_iconst xc25_74 ?_
        refine x_iceq xc25_75 (xRk (by have g0 := xRb q3; omega)) (xRk (by decide)) (fun h24 => ?_) (fun h24 => ?_)
        · refine x_aloadn xc25_93 rfl ?_
          refine x_gfr xc25_94 rfl rfl xz0 rfl ?_
          refine x_gfr xc25_97 rfl rfl xz21 rfl ?_
          refine x_iloadn xc25_100 rfl ?_
          refine x_aloadn xc25_101 rfl ?_
          refine x_gfr xc25_102 rfl rfl xz0 rfl ?_
          refine x_gfr xc25_105 rfl rfl xz21 rfl ?_
          refine x_iloadn xc25_108 rfl ?_
          refine x_lal xc25_109 xz22 (by have g0 := hp; omega) (by have g0 := hp; omega) (by have g0 := hp; omega) ?_
          refine x_iloadn xc25_110 rfl ?_
          refine x_ifeq xc25_111 (xRk (by decide)) (fun _ => ?_) (fun h => absurd h (by omega))
          refine x_iconst xc25_118 ?_
          refine x_iloadn xc25_119 rfl ?_
          refine x_iadd xc25_120 ?_
          refine x_iload xc25_121 rfl ?_
          refine x_cS (as := [xV x]) (rest := [xV (4 + i), .long (b 22 p), xV p, .ref 22]) xc25_123 rfl rfl xi22 ⟨rfl, rfl⟩ rfl rfl ?_
          refine rk22 (by omega) q3 ?_
          refine x_cS (as := [.long (b 22 p), xV (4 + i), xV (vIw x)]) (rest := [xV p, .ref 22]) xc25_126 rfl rfl xi19 ⟨rfl, rfl⟩ rfl rfl ?_
          refine xk19 (by omega) (xRk (by have g0 := xRb q2; omega)) (xRk (by have g0 := vIw_y q3; omega)) ?_
          refine x_las xc25_129 xz22 (by have g0 := hp; omega) (by have g0 := hp; omega) (by have g0 := hp; omega) ?_
          refine x_iconst xc25_130 ?_
          refine x_iret xc25_131 (Or.inr ⟨rfl, (by omega)⟩) ?_
          exact k7 h3 h12 h15 h24
        · refine x_iload xc25_78 rfl ?_
          refine x_cS (as := [xV x]) (rest := []) xc25_80 rfl rfl xi14 ⟨rfl, rfl⟩ rfl rfl ?_
          refine xk14 (by omega) (xRk (by have g0 := xRb q3; omega)) (fun h26 => ?_) (fun h27 => ?_)
          · refine x_ifne xc25_83 (xRk (by decide)) (fun _ => ?_) (fun h => absurd h (by omega))
            refine x_aloadn xc25_93 rfl ?_
            refine x_gfr xc25_94 rfl rfl xz0 rfl ?_
            refine x_gfr xc25_97 rfl rfl xz21 rfl ?_
            refine x_iloadn xc25_100 rfl ?_
            refine x_aloadn xc25_101 rfl ?_
            refine x_gfr xc25_102 rfl rfl xz0 rfl ?_
            refine x_gfr xc25_105 rfl rfl xz21 rfl ?_
            refine x_iloadn xc25_108 rfl ?_
            refine x_lal xc25_109 xz22 (by have g0 := hp; omega) (by have g0 := hp; omega) (by have g0 := hp; omega) ?_
            refine x_iloadn xc25_110 rfl ?_
            refine x_ifeq xc25_111 (xRk (by decide)) (fun _ => ?_) (fun h => absurd h (by omega))
            refine x_iconst xc25_118 ?_
            refine x_iloadn xc25_119 rfl ?_
            refine x_iadd xc25_120 ?_
            refine x_iload xc25_121 rfl ?_
            refine x_cS (as := [xV x]) (rest := [xV (4 + i), .long (b 22 p), xV p, .ref 22]) xc25_123 rfl rfl xi22 ⟨rfl, rfl⟩ rfl rfl ?_
            refine rk22 (by omega) q3 ?_
            refine x_cS (as := [.long (b 22 p), xV (4 + i), xV (vIw x)]) (rest := [xV p, .ref 22]) xc25_126 rfl rfl xi19 ⟨rfl, rfl⟩ rfl rfl ?_
            refine xk19 (by omega) (xRk (by have g0 := xRb q2; omega)) (xRk (by have g0 := vIw_y q3; omega)) ?_
            refine x_las xc25_129 xz22 (by have g0 := hp; omega) (by have g0 := hp; omega) (by have g0 := hp; omega) ?_
            refine x_iconst xc25_130 ?_
            refine x_iret xc25_131 (Or.inr ⟨rfl, (by omega)⟩) ?_
            exact k8 h3 h12 h15 h24 h26
          · refine x_ifne xc25_83 (xRk (by decide)) (fun h => absurd h (by omega)) (fun _ => ?_)
            refine x_iload xc25_86 rfl ?_
            refine x_ifne xc25_88 (xRk (by decide)) (fun _ => ?_) (fun h => absurd h (by omega))
            refine x_aloadn xc25_93 rfl ?_
            refine x_gfr xc25_94 rfl rfl xz0 rfl ?_
            refine x_gfr xc25_97 rfl rfl xz21 rfl ?_
            refine x_iloadn xc25_100 rfl ?_
            refine x_aloadn xc25_101 rfl ?_
            refine x_gfr xc25_102 rfl rfl xz0 rfl ?_
            refine x_gfr xc25_105 rfl rfl xz21 rfl ?_
            refine x_iloadn xc25_108 rfl ?_
            refine x_lal xc25_109 xz22 (by have g0 := hp; omega) (by have g0 := hp; omega) (by have g0 := hp; omega) ?_
            refine x_iloadn xc25_110 rfl ?_
            refine x_ifeq xc25_111 (xRk (by decide)) (fun _ => ?_) (fun h => absurd h (by omega))
            refine x_iconst xc25_118 ?_
            refine x_iloadn xc25_119 rfl ?_
            refine x_iadd xc25_120 ?_
            refine x_iload xc25_121 rfl ?_
            refine x_cS (as := [xV x]) (rest := [xV (4 + i), .long (b 22 p), xV p, .ref 22]) xc25_123 rfl rfl xi22 ⟨rfl, rfl⟩ rfl rfl ?_
            refine rk22 (by omega) q3 ?_
            refine x_cS (as := [.long (b 22 p), xV (4 + i), xV (vIw x)]) (rest := [xV p, .ref 22]) xc25_126 rfl rfl xi19 ⟨rfl, rfl⟩ rfl rfl ?_
            refine xk19 (by omega) (xRk (by have g0 := xRb q2; omega)) (xRk (by have g0 := vIw_y q3; omega)) ?_
            refine x_las xc25_129 xz22 (by have g0 := hp; omega) (by have g0 := hp; omega) (by have g0 := hp; omega) ?_
            refine x_iconst xc25_130 ?_
            refine x_iret xc25_131 (Or.inr ⟨rfl, (by omega)⟩) ?_
            exact k9 h3 h12 h15 h24 h27
    · refine x_ifeq xc25_53 (xRk (by decide)) (fun _ => ?_) (fun h => absurd h (by omega))
      refine x_iconst xc25_69 ?_
      refine x_istore (pl' := [some (.ref 0), some (xV p), some (xV 0), some (xV i), some (xV x), some (xV 0)]) xc25_70 rfl rfl ?_
      refine x_iload xc25_72 rfl ?_
      refine x_iconst xc25_74 ?_
      refine x_iceq xc25_75 (xRk (by have g0 := xRb q3; omega)) (xRk (by decide)) (fun h34 => ?_) (fun h34 => ?_)
      · refine x_aloadn xc25_93 rfl ?_
        refine x_gfr xc25_94 rfl rfl xz0 rfl ?_
        refine x_gfr xc25_97 rfl rfl xz21 rfl ?_
        refine x_iloadn xc25_100 rfl ?_
        refine x_aloadn xc25_101 rfl ?_
        refine x_gfr xc25_102 rfl rfl xz0 rfl ?_
        refine x_gfr xc25_105 rfl rfl xz21 rfl ?_
        refine x_iloadn xc25_108 rfl ?_
        refine x_lal xc25_109 xz22 (by have g0 := hp; omega) (by have g0 := hp; omega) (by have g0 := hp; omega) ?_
        refine x_iloadn xc25_110 rfl ?_
        refine x_ifeq xc25_111 (xRk (by decide)) (fun _ => ?_) (fun h => absurd h (by omega))
        refine x_iconst xc25_118 ?_
        refine x_iloadn xc25_119 rfl ?_
        refine x_iadd xc25_120 ?_
        refine x_iload xc25_121 rfl ?_
        refine x_cS (as := [xV x]) (rest := [xV (4 + i), .long (b 22 p), xV p, .ref 22]) xc25_123 rfl rfl xi22 ⟨rfl, rfl⟩ rfl rfl ?_
        refine rk22 (by omega) q3 ?_
        refine x_cS (as := [.long (b 22 p), xV (4 + i), xV (vIw x)]) (rest := [xV p, .ref 22]) xc25_126 rfl rfl xi19 ⟨rfl, rfl⟩ rfl rfl ?_
        refine xk19 (by omega) (xRk (by have g0 := xRb q2; omega)) (xRk (by have g0 := vIw_y q3; omega)) ?_
        refine x_las xc25_129 xz22 (by have g0 := hp; omega) (by have g0 := hp; omega) (by have g0 := hp; omega) ?_
        refine x_iconst xc25_130 ?_
        refine x_iret xc25_131 (Or.inr ⟨rfl, (by omega)⟩) ?_
        exact k10 h3 h13 h34
      · refine x_iload xc25_78 rfl ?_
        refine x_cS (as := [xV x]) (rest := []) xc25_80 rfl rfl xi14 ⟨rfl, rfl⟩ rfl rfl ?_
        refine xk14 (by omega) (xRk (by have g0 := xRb q3; omega)) (fun h36 => ?_) (fun h37 => ?_)
        · refine x_ifne xc25_83 (xRk (by decide)) (fun _ => ?_) (fun h => absurd h (by omega))
          refine x_aloadn xc25_93 rfl ?_
          refine x_gfr xc25_94 rfl rfl xz0 rfl ?_
          refine x_gfr xc25_97 rfl rfl xz21 rfl ?_
          refine x_iloadn xc25_100 rfl ?_
          refine x_aloadn xc25_101 rfl ?_
          refine x_gfr xc25_102 rfl rfl xz0 rfl ?_
          refine x_gfr xc25_105 rfl rfl xz21 rfl ?_
          refine x_iloadn xc25_108 rfl ?_
          refine x_lal xc25_109 xz22 (by have g0 := hp; omega) (by have g0 := hp; omega) (by have g0 := hp; omega) ?_
          refine x_iloadn xc25_110 rfl ?_
          refine x_ifeq xc25_111 (xRk (by decide)) (fun _ => ?_) (fun h => absurd h (by omega))
          refine x_iconst xc25_118 ?_
          refine x_iloadn xc25_119 rfl ?_
          refine x_iadd xc25_120 ?_
          refine x_iload xc25_121 rfl ?_
          refine x_cS (as := [xV x]) (rest := [xV (4 + i), .long (b 22 p), xV p, .ref 22]) xc25_123 rfl rfl xi22 ⟨rfl, rfl⟩ rfl rfl ?_
          refine rk22 (by omega) q3 ?_
          refine x_cS (as := [.long (b 22 p), xV (4 + i), xV (vIw x)]) (rest := [xV p, .ref 22]) xc25_126 rfl rfl xi19 ⟨rfl, rfl⟩ rfl rfl ?_
          refine xk19 (by omega) (xRk (by have g0 := xRb q2; omega)) (xRk (by have g0 := vIw_y q3; omega)) ?_
          refine x_las xc25_129 xz22 (by have g0 := hp; omega) (by have g0 := hp; omega) (by have g0 := hp; omega) ?_
          refine x_iconst xc25_130 ?_
          refine x_iret xc25_131 (Or.inr ⟨rfl, (by omega)⟩) ?_
          exact k11 h3 h13 h34 h36
        · refine x_ifne xc25_83 (xRk (by decide)) (fun h => absurd h (by omega)) (fun _ => ?_)
          refine x_iload xc25_86 rfl ?_
          refine x_ifne xc25_88 (xRk (by decide)) (fun h => absurd h (by omega)) (fun _ => ?_)
          refine x_iconst xc25_91 ?_
          refine x_iret xc25_92 (Or.inr ⟨rfl, (by omega)⟩) ?_
          exact k12 h3 h13 h34 h37

theorem wb3 {ro : Nat → Nat × (Nat → Int32)} {d : Nat} {Q : Option Value → pmS → Prop} {k m : Int} {a : xA} {b : xB} (hk : 1 ≤ k ∧ k ≤ 5) (hm : 1 ≤ m ∧ m ≤ 9)
    (k1 : (k < 0) → Q none (xS a b))
    (k2 : (¬ k < 0) → (7 ≤ k) → Q none (xS a b))
    (k3 : (¬ k < 0) → (¬ 7 ≤ k) → Q none (xS (xU a 5 k (8 * m + 1)) b)) :
    pmWp ro d 5 3 0 0 [some (.ref 3), some (xV k), some (xV m)] [] (xS a b) Q := by
  refine x_iloadn xc3_0 rfl ?_
  refine x_iflt xc3_1 (xRk (by have g0 := hk; omega)) (fun h0 => ?_) (fun h0 => ?_)
  · refine x_ret xc3_22 rfl ?_
    exact k1 h0
  · refine x_iloadn xc3_4 rfl ?_
    refine x_bipush xc3_5 (by decide) ?_
    refine x_icge xc3_7 (xRk (by have g0 := hk; omega)) (xRk (by decide)) (fun h1 => ?_) (fun h1 => ?_)
    · refine x_ret xc3_22 rfl ?_
      exact k2 h0 h1
    · refine x_aloadn xc3_10 rfl ?_
      refine x_gfr xc3_11 rfl rfl xz3 rfl ?_
      refine x_iloadn xc3_14 rfl ?_
      refine x_bipush xc3_15 (by decide) ?_
      refine x_iloadn xc3_17 rfl ?_
      refine x_imul xc3_18 ?_
      refine x_iconst xc3_19 ?_
      refine x_iadd xc3_20 ?_
      refine x_ias xc3_21 xz5 (by have g0 := hk; omega) (by have g0 := hk; omega) (by have g0 := hk; omega) ?_
      refine x_ret xc3_22 rfl ?_
      exact k3 h0 h1

theorem xg3 {ro : Nat → Nat × (Nat → Int32)} {d : Nat} {Q : Option Value → pmS → Prop} {a : xA} {b : xB} {k m : Int} (h : pmWp ro d 5 3 0 0 [some (.ref 3), some (xV k), some (xV m)] [] (xS a b) Q) : pmCs ro (d + 1) 3 [.ref 3, xV k, xV m] (xS a b) Q := x_go xi3 rfl rfl rfl rfl rfl h
theorem wb28 {ro : Nat → Nat × (Nat → Int32)} {d : Nat} {Q : Option Value → pmS → Prop} {k m bg : Int} {a : xA} {b : xB} (q1 : xR k) (q2 : xR m) (hb : a 0 12 = bg) (hbg : bg = 0 ∨ bg = 1) (hd : 2 ≤ d)
    (k1 : (¬ bg = 0) → Q (some (xV 0)) (xS a b))
    (k2 : (bg = 0) → (k < 1) → Q (some (xV 0)) (xS a b))
    (k3 : (bg = 0) → (¬ k < 1) → (5 < k) → Q (some (xV 0)) (xS a b))
    (k4 : (bg = 0) → (¬ k < 1) → (¬ 5 < k) → (m < 1) → Q (some (xV 0)) (xS a b))
    (k5 : (bg = 0) → (¬ k < 1) → (¬ 5 < k) → (¬ m < 1) → (m ≤ 9) → pmCs ro d 3 [.ref 3, xV k, xV m] (xS a b) fun r σ' => pmWp ro d 11 28 2 39 [some (.ref 0), some (xV k), some (xV m)] (r.toList ++ []) σ' Q)
    (k6 : (bg = 0) → (¬ k < 1) → (¬ 5 < k) → (¬ m < 1) → (¬ m ≤ 9) → Q (some (xV 0)) (xS a b)) :
    pmWp ro d 11 28 2 0 [some (.ref 0), some (xV k), some (xV m)] [] (xS a b) Q := by
  refine x_aloadn xc28_0 rfl ?_
  refine x_gfi' (k := 12) (v := bg) xc28_1 rfl (Or.inr rfl) rfl xz0 hb ?_
  refine x_ifne xc28_4 (xRk (by have g0 := hbg; omega)) (fun h0 => ?_) (fun h0 => ?_)
  · refine x_iconst xc28_28 ?_
    refine x_iret xc28_29 (Or.inr ⟨rfl, (by omega)⟩) ?_
    exact k1 h0
  · replace h0 := Classical.not_not.mp h0
    refine x_iloadn xc28_7 rfl ?_
    refine x_iconst xc28_8 ?_
    refine x_iclt xc28_9 (xRk (by have g0 := xRb q1; omega)) (xRk (by decide)) (fun h1 => ?_) (fun h1 => ?_)
    · refine x_iconst xc28_28 ?_
      refine x_iret xc28_29 (Or.inr ⟨rfl, (by omega)⟩) ?_
      exact k2 h0 h1
    · refine x_iloadn xc28_12 rfl ?_
      refine x_iconst xc28_13 ?_
      refine x_icgt xc28_14 (xRk (by have g0 := xRb q1; omega)) (xRk (by decide)) (fun h2 => ?_) (fun h2 => ?_)
      · refine x_iconst xc28_28 ?_
        refine x_iret xc28_29 (Or.inr ⟨rfl, (by omega)⟩) ?_
        exact k3 h0 h1 h2
      · refine x_iloadn xc28_17 rfl ?_
        refine x_iconst xc28_18 ?_
        refine x_iclt xc28_19 (xRk (by have g0 := xRb q2; omega)) (xRk (by decide)) (fun h3 => ?_) (fun h3 => ?_)
        · refine x_iconst xc28_28 ?_
          refine x_iret xc28_29 (Or.inr ⟨rfl, (by omega)⟩) ?_
          exact k4 h0 h1 h2 h3
        · refine x_iloadn xc28_22 rfl ?_
          refine x_bipush xc28_23 (by decide) ?_
          refine x_icle xc28_25 (xRk (by have g0 := xRb q2; omega)) (xRk (by decide)) (fun h4 => ?_) (fun h4 => ?_)
          · refine x_aloadn xc28_30 rfl ?_
            refine x_gfr xc28_31 rfl rfl xz0 rfl ?_
            refine x_iloadn xc28_34 rfl ?_
            refine x_iloadn xc28_35 rfl ?_
            refine x_cV (as := [xV k, xV m]) (rest := []) xc28_36 rfl xi3 xz3 ⟨rfl, rfl⟩ rfl rfl ?_
            exact k5 h0 h1 h2 h3 h4
          · refine x_iconst xc28_28 ?_
            refine x_iret xc28_29 (Or.inr ⟨rfl, (by omega)⟩) ?_
            exact k6 h0 h1 h2 h3 h4

theorem xg28 {ro : Nat → Nat × (Nat → Int32)} {d : Nat} {Q : Option Value → pmS → Prop} {a : xA} {b : xB} {k m : Int} (h : pmWp ro d 11 28 2 0 [some (.ref 0), some (xV k), some (xV m)] [] (xS a b) Q) : pmCs ro (d + 1) 28 [.ref 0, xV k, xV m] (xS a b) Q := x_go xi28 rfl rfl rfl rfl rfl h
theorem wb28a {ro : Nat → Nat × (Nat → Int32)} {d : Nat} {Q : Option Value → pmS → Prop} {k m : Int} {a : xA} {b : xB}
    (k1 : Q (some (xV 1)) (xS a b)) :
    pmWp ro d 11 28 2 39 [some (.ref 0), some (xV k), some (xV m)] [] (xS a b) Q := by
  refine x_iconst xc28_39 ?_
  refine x_iret xc28_40 (Or.inr ⟨rfl, (by omega)⟩) ?_
  exact k1

theorem rk140w {ro : Nat → Nat × (Nat → Int32)} {d : Nat} {Q : Option Value → pmS → Prop} {x : Int} {a : xA} {b : xB} (hd : 1 ≤ d) (q1 : xR x) (hT : 0 ≤ x - 10 ∧ x - 10 < 4 → Q (some (xV 1)) (xS a b)) (hF : ¬ (0 ≤ x - 10 ∧ x - 10 < 4) → Q (some (xV 0)) (xS a b)) : pmCs ro d 140 [xV (x - 10)] (xS a b) Q := by
  have g := xRb q1
  by_cases c : -2147483648 ≤ x - 10
  · exact xk140 hd ⟨c, by omega⟩ hT hF
  · rw [xV_w]
    exact xk140 hd ⟨by omega, by omega⟩ (fun e => absurd e (by omega)) (fun _ => hF (by omega))
theorem wb141 {ro : Nat → Nat × (Nat → Int32)} {d : Nat} {Q : Option Value → pmS → Prop} {x g n bg : Int} {a : xA} {b : xB} (q1 : xR x) (hg : 0 ≤ g ∧ g ≤ 1) (hA : xAr a) (hn : a 87 2 = n) (hn0 : 0 ≤ n ∧ n ≤ 5) (hb : a 87 4 = bg) (hbg : bg = 0 ∨ bg = 1) (hd : 3 ≤ d)
    (k1 : (¬ bg = 0) → Q (some (xV (-1))) (xS a b))
    (k2 : (bg = 0) → (n = 5) → Q (some (xV (-1))) (xS a b))
    (k3 : (bg = 0) → (¬ n = 5) → (0 ≤ x ∧ x < 7) → Q (some (xV (n + 1 - 1))) (xS (xU (xU (xU a 88 (4 + n) x) 91 n g) 87 2 (n + 1)) b))
    (k4 : (bg = 0) → (¬ n = 5) → (¬ (0 ≤ x ∧ x < 7)) → (0 ≤ x - 10 ∧ x - 10 < 4) → Q (some (xV (n + 1 - 1))) (xS (xU (xU (xU a 88 (4 + n) x) 91 n g) 87 2 (n + 1)) b))
    (k5 : (bg = 0) → (¬ n = 5) → (¬ (0 ≤ x ∧ x < 7)) → (¬ (0 ≤ x - 10 ∧ x - 10 < 4)) → Q (some (xV (-1))) (xS a b)) :
    pmWp ro d 12 141 1 0 [some (.ref 87), some (xV x), some (xV g)] [] (xS a b) Q := by
  refine x_aloadn xc141_0 rfl ?_
  refine x_gfi' (k := 4) (v := bg) xc141_1 rfl (Or.inr rfl) rfl xz87 hb ?_
  refine x_ifne xc141_4 (xRk (by have g0 := hbg; omega)) (fun h0 => ?_) (fun h0 => ?_)
  · refine x_iconst xc141_32 ?_
    refine x_iret xc141_33 (Or.inl rfl) ?_
    exact k1 h0
  · replace h0 := Classical.not_not.mp h0
    refine x_aloadn xc141_7 rfl ?_
    refine x_gfi' (k := 2) (v := n) xc141_8 rfl (Or.inl rfl) rfl xz87 hn ?_
    refine x_iconst xc141_11 ?_
    refine x_iceq xc141_12 (xRk (by have g0 := hn0; omega)) (xRk (by decide)) (fun h1 => ?_) (fun h1 => ?_)
    · refine x_iconst xc141_32 ?_
      refine x_iret xc141_33 (Or.inl rfl) ?_
      exact k2 h0 h1
    · refine x_iloadn xc141_15 rfl ?_
      refine x_cS (as := [xV x]) (rest := []) xc141_16 rfl rfl xi138 ⟨rfl, rfl⟩ rfl rfl ?_
      refine xk138 (by omega) (xRk (by have g0 := xRb q1; omega)) (fun h2 => ?_) (fun h3 => ?_)
      · refine x_ifne xc141_19 (xRk (by decide)) (fun _ => ?_) (fun h => absurd h (by omega))
        refine x_aloadn xc141_34 rfl ?_
        refine x_gfr xc141_35 rfl rfl xz87 rfl ?_
        refine x_iconst xc141_38 ?_
        refine x_aloadn xc141_39 rfl ?_
        refine x_gfi' (k := 2) (v := n) xc141_40 rfl (Or.inl rfl) rfl xz87 hn ?_
        refine x_iadd xc141_43 ?_
        refine x_iloadn xc141_44 rfl ?_
        refine x_ias xc141_45 xz88 (by have g0 := hn0; omega) (by have g0 := hn0; omega) (by have g0 := hn0; omega) ?_
        refine x_aloadn xc141_46 rfl ?_
        refine x_gfr xc141_47 rfl rfl xz87 rfl ?_
        refine x_aloadn xc141_50 rfl ?_
        refine x_gfi' (k := 2) (v := n) xc141_51 rfl (Or.inl rfl) rfl xz87 (by rw [xUn (by decide), hn]) ?_
        refine x_iloadn xc141_54 rfl ?_
        refine x_zas (by have g0 := hg; omega) xc141_55 xz91 (by have g0 := hn0; omega) (by have g0 := hn0; omega) (by have g0 := hn0; omega) ?_
        refine x_aloadn xc141_56 rfl ?_
        refine x_aloadn xc141_57 rfl ?_
        refine x_gfi' (k := 2) (v := n) xc141_58 rfl (Or.inl rfl) rfl xz87 (by rw [xUn (by decide), xUn (by decide), hn]) ?_
        refine x_iconst xc141_61 ?_
        refine x_iadd xc141_62 ?_
        refine x_pfi (k := 2) xc141_63 rfl ⟨rfl, rfl⟩ rfl xz87 ?_
        refine x_aloadn xc141_66 rfl ?_
        refine x_gfi' (k := 2) (v := n + 1) xc141_67 rfl (Or.inl rfl) rfl xz87 (by rw [xUa]) ?_
        refine x_iconst xc141_70 ?_
        refine x_isub xc141_71 ?_
        refine x_iret xc141_72 (Or.inl rfl) ?_
        exact k3 h0 h1 h2
      · refine x_ifne xc141_19 (xRk (by decide)) (fun h => absurd h (by omega)) (fun _ => ?_)
        refine x_iloadn xc141_22 rfl ?_
        refine x_bipush xc141_23 (by decide) ?_
        refine x_isub xc141_25 ?_
        refine x_cS (as := [xV (x - 10)]) (rest := []) xc141_26 rfl rfl xi140 ⟨rfl, rfl⟩ rfl rfl ?_
        refine rk140w (by omega) q1 (fun h6 => ?_) (fun h7 => ?_)
        · refine x_ifne xc141_29 (xRk (by decide)) (fun _ => ?_) (fun h => absurd h (by omega))
          refine x_aloadn xc141_34 rfl ?_
          refine x_gfr xc141_35 rfl rfl xz87 rfl ?_
          refine x_iconst xc141_38 ?_
          refine x_aloadn xc141_39 rfl ?_
          refine x_gfi' (k := 2) (v := n) xc141_40 rfl (Or.inl rfl) rfl xz87 hn ?_
          refine x_iadd xc141_43 ?_
          refine x_iloadn xc141_44 rfl ?_
          refine x_ias xc141_45 xz88 (by have g0 := hn0; omega) (by have g0 := hn0; omega) (by have g0 := hn0; omega) ?_
          refine x_aloadn xc141_46 rfl ?_
          refine x_gfr xc141_47 rfl rfl xz87 rfl ?_
          refine x_aloadn xc141_50 rfl ?_
          refine x_gfi' (k := 2) (v := n) xc141_51 rfl (Or.inl rfl) rfl xz87 (by rw [xUn (by decide), hn]) ?_
          refine x_iloadn xc141_54 rfl ?_
          refine x_zas (by have g0 := hg; omega) xc141_55 xz91 (by have g0 := hn0; omega) (by have g0 := hn0; omega) (by have g0 := hn0; omega) ?_
          refine x_aloadn xc141_56 rfl ?_
          refine x_aloadn xc141_57 rfl ?_
          refine x_gfi' (k := 2) (v := n) xc141_58 rfl (Or.inl rfl) rfl xz87 (by rw [xUn (by decide), xUn (by decide), hn]) ?_
          refine x_iconst xc141_61 ?_
          refine x_iadd xc141_62 ?_
          refine x_pfi (k := 2) xc141_63 rfl ⟨rfl, rfl⟩ rfl xz87 ?_
          refine x_aloadn xc141_66 rfl ?_
          refine x_gfi' (k := 2) (v := n + 1) xc141_67 rfl (Or.inl rfl) rfl xz87 (by rw [xUa]) ?_
          refine x_iconst xc141_70 ?_
          refine x_isub xc141_71 ?_
          refine x_iret xc141_72 (Or.inl rfl) ?_
          exact k4 h0 h1 h3 h6
        · refine x_ifne xc141_29 (xRk (by decide)) (fun h => absurd h (by omega)) (fun _ => ?_)
          refine x_iconst xc141_32 ?_
          refine x_iret xc141_33 (Or.inl rfl) ?_
          exact k5 h0 h1 h3 h7

theorem xg141 {ro : Nat → Nat × (Nat → Int32)} {d : Nat} {Q : Option Value → pmS → Prop} {a : xA} {b : xB} {x g : Int} (h : pmWp ro d 12 141 1 0 [some (.ref 87), some (xV x), some (xV g)] [] (xS a b) Q) : pmCs ro (d + 1) 141 [.ref 87, xV x, xV g] (xS a b) Q := x_go xi141 rfl rfl rfl rfl rfl h
theorem wb142 {ro : Nat → Nat × (Nat → Int32)} {d : Nat} {Q : Option Value → pmS → Prop} {v g n bg : Int} {a : xA} {b : xB} (q1 : xR v) (hg : 0 ≤ g ∧ g ≤ 1) (hA : xAr a) (hn : a 87 2 = n) (hn0 : 0 ≤ n ∧ n ≤ 5) (hb : a 87 4 = bg) (hbg : bg = 0 ∨ bg = 1) (hd : 3 ≤ d)
    (k1 : (¬ bg = 0) → Q (some (xV (-1))) (xS a b))
    (k2 : (bg = 0) → (n = 5) → Q (some (xV (-1))) (xS a b))
    (k3 : (bg = 0) → (¬ n = 5) → (0 ≤ v ∧ v ≤ 127) → (2 ≤ uBs v) → Q (some (xV (n + 1 - 1))) (xS (xU (xU (xU (xU a 88 (4 + n) 20) 88 (9 + n) v) 91 n g) 87 2 (n + 1)) b))
    (k4 : (bg = 0) → (¬ n = 5) → (0 ≤ v ∧ v ≤ 127) → (¬ 2 ≤ uBs v) → Q (some (xV (-1))) (xS a b))
    (k5 : (bg = 0) → (¬ n = 5) → (¬ (0 ≤ v ∧ v ≤ 127)) → Q (some (xV (-1))) (xS a b)) :
    pmWp ro d 12 142 1 0 [some (.ref 87), some (xV v), some (xV g)] [] (xS a b) Q := by
  refine x_aloadn xc142_0 rfl ?_
  refine x_gfi' (k := 4) (v := bg) xc142_1 rfl (Or.inr rfl) rfl xz87 hb ?_
  refine x_ifne xc142_4 (xRk (by have g0 := hbg; omega)) (fun h0 => ?_) (fun h0 => ?_)
  · refine x_iconst xc142_33 ?_
    refine x_iret xc142_34 (Or.inl rfl) ?_
    exact k1 h0
  · replace h0 := Classical.not_not.mp h0
    refine x_aloadn xc142_7 rfl ?_
    refine x_gfi' (k := 2) (v := n) xc142_8 rfl (Or.inl rfl) rfl xz87 hn ?_
    refine x_iconst xc142_11 ?_
    refine x_iceq xc142_12 (xRk (by have g0 := hn0; omega)) (xRk (by decide)) (fun h1 => ?_) (fun h1 => ?_)
    · refine x_iconst xc142_33 ?_
      refine x_iret xc142_34 (Or.inl rfl) ?_
      exact k2 h0 h1
    · refine x_iloadn xc142_15 rfl ?_
      refine x_iconst xc142_16 ?_
      refine x_bipush xc142_17 (by decide) ?_
      refine x_cS (as := [xV v, xV 0, xV 127]) (rest := []) xc142_19 rfl rfl xi143 ⟨rfl, rfl⟩ rfl rfl ?_
      refine xk143 (xRk (by have g0 := xRb q1; omega)) (xRk (by decide)) (xRk (by decide)) (by omega) (fun h2 => ?_) (fun h3 => ?_)
      · refine x_ifeq xc142_22 (xRk (by decide)) (fun h => absurd h (by omega)) (fun _ => ?_)
        refine x_iloadn xc142_25 rfl ?_
        refine x_cS (as := [xV v]) (rest := []) xc142_26 rfl rfl xi144 ⟨rfl, rfl⟩ rfl rfl ?_
        refine rk144 (by omega) (by have g0 := xRb q1; omega) ?_
        refine x_iconst xc142_29 ?_
        refine x_icge xc142_30 (xRk (by have g0 := vBs_b (v := v); omega)) (xRk (by decide)) (fun h5 => ?_) (fun h5 => ?_)
        · refine x_aloadn xc142_35 rfl ?_
          refine x_gfr xc142_36 rfl rfl xz87 rfl ?_
          refine x_iconst xc142_39 ?_
          refine x_aloadn xc142_40 rfl ?_
          refine x_gfi' (k := 2) (v := n) xc142_41 rfl (Or.inl rfl) rfl xz87 hn ?_
          refine x_iadd xc142_44 ?_
          refine x_bipush xc142_45 (by decide) ?_
          refine x_ias xc142_47 xz88 (by have g0 := hn0; omega) (by have g0 := hn0; omega) (by have g0 := hn0; omega) ?_
          refine x_aloadn xc142_48 rfl ?_
          refine x_gfr xc142_49 rfl rfl xz87 rfl ?_
          refine x_bipush xc142_52 (by decide) ?_
          refine x_aloadn xc142_54 rfl ?_
          refine x_gfi' (k := 2) (v := n) xc142_55 rfl (Or.inl rfl) rfl xz87 (by rw [xUn (by decide), hn]) ?_
          refine x_iadd xc142_58 ?_
          refine x_iloadn xc142_59 rfl ?_
          refine x_ias xc142_60 xz88 (by have g0 := hn0; omega) (by have g0 := hn0; omega) (by have g0 := hn0; omega) ?_
          refine x_aloadn xc142_61 rfl ?_
          refine x_gfr xc142_62 rfl rfl xz87 rfl ?_
          refine x_aloadn xc142_65 rfl ?_
          refine x_gfi' (k := 2) (v := n) xc142_66 rfl (Or.inl rfl) rfl xz87 (by rw [xUn (by decide), xUn (by decide), hn]) ?_
          refine x_iloadn xc142_69 rfl ?_
          refine x_zas (by have g0 := hg; omega) xc142_70 xz91 (by have g0 := hn0; omega) (by have g0 := hn0; omega) (by have g0 := hn0; omega) ?_
          refine x_aloadn xc142_71 rfl ?_
          refine x_aloadn xc142_72 rfl ?_
          refine x_gfi' (k := 2) (v := n) xc142_73 rfl (Or.inl rfl) rfl xz87 (by rw [xUn (by decide), xUn (by decide), xUn (by decide), hn]) ?_
          refine x_iconst xc142_76 ?_
          refine x_iadd xc142_77 ?_
          refine x_pfi (k := 2) xc142_78 rfl ⟨rfl, rfl⟩ rfl xz87 ?_
          refine x_aloadn xc142_81 rfl ?_
          refine x_gfi' (k := 2) (v := n + 1) xc142_82 rfl (Or.inl rfl) rfl xz87 (by rw [xUa]) ?_
          refine x_iconst xc142_85 ?_
          refine x_isub xc142_86 ?_
          refine x_iret xc142_87 (Or.inl rfl) ?_
          exact k3 h0 h1 h2 h5
        · refine x_iconst xc142_33 ?_
          refine x_iret xc142_34 (Or.inl rfl) ?_
          exact k4 h0 h1 h2 h5
      · refine x_ifeq xc142_22 (xRk (by decide)) (fun _ => ?_) (fun h => absurd h (by omega))
        refine x_iconst xc142_33 ?_
        refine x_iret xc142_34 (Or.inl rfl) ?_
        exact k5 h0 h1 h3

theorem xg142 {ro : Nat → Nat × (Nat → Int32)} {d : Nat} {Q : Option Value → pmS → Prop} {a : xA} {b : xB} {v g : Int} (h : pmWp ro d 12 142 1 0 [some (.ref 87), some (xV v), some (xV g)] [] (xS a b) Q) : pmCs ro (d + 1) 142 [.ref 87, xV v, xV g] (xS a b) Q := x_go xi142 rfl rfl rfl rfl rfl h
theorem wb145 {ro : Nat → Nat × (Nat → Int32)} {d : Nat} {Q : Option Value → pmS → Prop} {p g i x n bg : Int} {a : xA} {b : xB} (q1 : xR p) (hg : g = 0 ∨ g = 1) (q2 : xR i) (q3 : xR x) (hA : xAr a) (hn : a 87 2 = n) (hn0 : 0 ≤ n ∧ n ≤ 5) (hb : a 87 4 = bg) (hbg : bg = 0 ∨ bg = 1) (hd : 3 ≤ d)
    (k1 : (¬ bg = 0) → Q (some (xV 0)) (xS a b))
    (k2 : (bg = 0) → (1 ≤ p ∧ p < 4) → (g = 0) → (0 ≤ i ∧ i < n) → (x = -1) → (¬ x = 10 + p) → Q (some (xV 1)) (xS (xU a 88 (14 + (9 * (p - 1)) + i) x) b))
    (k3 : (bg = 0) → (1 ≤ p ∧ p < 4) → (g = 0) → (0 ≤ i ∧ i < n) → (x = -1) → (x = 10 + p) → Q (some (xV 0)) (xS a b))
    (k4 : (bg = 0) → (1 ≤ p ∧ p < 4) → (g = 0) → (0 ≤ i ∧ i < n) → (¬ x = -1) → (0 ≤ x ∧ x < 7) → (¬ x = 10 + p) → Q (some (xV 1)) (xS (xU a 88 (14 + (9 * (p - 1)) + i) x) b))
    (k5 : (bg = 0) → (1 ≤ p ∧ p < 4) → (g = 0) → (0 ≤ i ∧ i < n) → (¬ x = -1) → (0 ≤ x ∧ x < 7) → (x = 10 + p) → Q (some (xV 0)) (xS a b))
    (k6 : (bg = 0) → (1 ≤ p ∧ p < 4) → (g = 0) → (0 ≤ i ∧ i < n) → (¬ x = -1) → (¬ (0 ≤ x ∧ x < 7)) → (0 ≤ x - 10 ∧ x - 10 < 4) → (¬ x = 10 + p) → Q (some (xV 1)) (xS (xU a 88 (14 + (9 * (p - 1)) + i) x) b))
    (k7 : (bg = 0) → (1 ≤ p ∧ p < 4) → (g = 0) → (0 ≤ i ∧ i < n) → (¬ x = -1) → (¬ (0 ≤ x ∧ x < 7)) → (0 ≤ x - 10 ∧ x - 10 < 4) → (x = 10 + p) → Q (some (xV 0)) (xS a b))
    (k8 : (bg = 0) → (1 ≤ p ∧ p < 4) → (g = 0) → (0 ≤ i ∧ i < n) → (¬ x = -1) → (¬ (0 ≤ x ∧ x < 7)) → (¬ (0 ≤ x - 10 ∧ x - 10 < 4)) → Q (some (xV 0)) (xS a b))
    (k9 : (bg = 0) → (1 ≤ p ∧ p < 4) → (g = 0) → (¬ (0 ≤ i ∧ i < n)) → Q (some (xV 0)) (xS a b))
    (k10 : (bg = 0) → (1 ≤ p ∧ p < 4) → (¬ g = 0) → (0 ≤ i ∧ i < 4) → (i = p) → Q (some (xV 0)) (xS a b))
    (k11 : (bg = 0) → (1 ≤ p ∧ p < 4) → (¬ g = 0) → (0 ≤ i ∧ i < 4) → (¬ i = p) → (x = -1) → Q (some (xV 1)) (xS (xU a 88 (14 + (9 * (p - 1)) + 5 + i) x) b))
    (k12 : (bg = 0) → (1 ≤ p ∧ p < 4) → (¬ g = 0) → (0 ≤ i ∧ i < 4) → (¬ i = p) → (¬ x = -1) → (0 ≤ x ∧ x < 7) → Q (some (xV 1)) (xS (xU a 88 (14 + (9 * (p - 1)) + 5 + i) x) b))
    (k13 : (bg = 0) → (1 ≤ p ∧ p < 4) → (¬ g = 0) → (0 ≤ i ∧ i < 4) → (¬ i = p) → (¬ x = -1) → (¬ (0 ≤ x ∧ x < 7)) → Q (some (xV 0)) (xS a b))
    (k14 : (bg = 0) → (1 ≤ p ∧ p < 4) → (¬ g = 0) → (¬ (0 ≤ i ∧ i < 4)) → Q (some (xV 0)) (xS a b))
    (k15 : (bg = 0) → (¬ (1 ≤ p ∧ p < 4)) → Q (some (xV 0)) (xS a b)) :
    pmWp ro d 12 145 2 0 [some (.ref 87), some (xV p), some (xV g), some (xV i), some (xV x)] [] (xS a b) Q := by
  refine x_aloadn xc145_0 rfl ?_
  refine x_gfi' (k := 4) (v := bg) xc145_1 rfl (Or.inr rfl) rfl xz87 hb ?_
  refine x_ifne xc145_4 (xRk (by have g0 := hbg; omega)) (fun h0 => ?_) (fun h0 => ?_)
  · refine x_iconst xc145_14 ?_
    refine x_iret xc145_15 (Or.inr ⟨rfl, (by omega)⟩) ?_
    exact k1 h0
  · replace h0 := Classical.not_not.mp h0
    refine x_iloadn xc145_7 rfl ?_
    refine x_cS (as := [xV p]) (rest := []) xc145_8 rfl rfl xi146 ⟨rfl, rfl⟩ rfl rfl ?_
    refine xk146 (by omega) (xRk (by have g0 := xRb q1; omega)) (fun h1 => ?_) (fun h2 => ?_)
    · refine x_ifne xc145_11 (xRk (by decide)) (fun _ => ?_) (fun h => absurd h (by omega))
      refine x_iloadn xc145_16 rfl ?_
      refine x_ifeq xc145_17 (xRk (by have g0 := hg; omega)) (fun h4 => ?_) (fun h4 => ?_)
      · refine x_aloadn xc145_62 rfl ?_
        refine x_iloadn xc145_63 rfl ?_
        refine x_cV (as := [xV i]) (rest := []) xc145_64 rfl xi148 xz87 ⟨rfl, rfl⟩ rfl rfl ?_
        refine rk148 (by omega) (xRk (by have g0 := xRb q2; omega)) hn hn0 (fun h5 => ?_) (fun h6 => ?_)
        · refine x_ifeq xc145_67 (xRk (by decide)) (fun h => absurd h (by omega)) (fun _ => ?_)
          refine x_iload xc145_70 rfl ?_
          refine x_iconst xc145_72 ?_
          refine x_iceq xc145_73 (xRk (by have g0 := xRb q3; omega)) (xRk (by decide)) (fun h8 => ?_) (fun h8 => ?_)
          · refine x_iload xc145_95 rfl ?_
            refine x_bipush xc145_97 (by decide) ?_
            refine x_iloadn xc145_99 rfl ?_
            refine x_iadd xc145_100 ?_
            refine x_icne xc145_101 (xRk (by have g0 := xRb q3; omega)) (xRk (by have g0 := xRb q1; omega)) (fun h9 => ?_) (fun h9 => ?_)
            · refine x_aloadn xc145_106 rfl ?_
              refine x_gfr xc145_107 rfl rfl xz87 rfl ?_
              refine x_iloadn xc145_110 rfl ?_
              refine x_iloadn xc145_111 rfl ?_
              refine x_cS (as := [xV p, xV i]) (rest := [.ref 88]) xc145_112 rfl rfl xi149 ⟨rfl, rfl⟩ rfl rfl ?_
              refine rk149 (by omega) ?_
              refine x_iload xc145_115 rfl ?_
              refine x_ias xc145_117 xz88 (by have g0 := xRb q1; have g1 := xRb q2; omega) (by have g0 := xRb q1; have g1 := xRb q2; omega) (by have g0 := xRb q1; have g1 := xRb q2; omega) ?_
              refine x_iconst xc145_118 ?_
              refine x_iret xc145_119 (Or.inr ⟨rfl, (by omega)⟩) ?_
              exact k2 h0 h1 h4 h5 h8 h9
            · replace h9 := Classical.not_not.mp h9
              refine x_iconst xc145_104 ?_
              refine x_iret xc145_105 (Or.inr ⟨rfl, (by omega)⟩) ?_
              exact k3 h0 h1 h4 h5 h8 h9
          · refine x_iload xc145_76 rfl ?_
            refine x_cS (as := [xV x]) (rest := []) xc145_78 rfl rfl xi138 ⟨rfl, rfl⟩ rfl rfl ?_
            refine xk138 (by omega) (xRk (by have g0 := xRb q3; omega)) (fun h10 => ?_) (fun h11 => ?_)
            · refine x_ifne xc145_81 (xRk (by decide)) (fun _ => ?_) (fun h => absurd h (by omega))
              refine x_iload xc145_95 rfl ?_
              refine x_bipush xc145_97 (by decide) ?_
              refine x_iloadn xc145_99 rfl ?_
              refine x_iadd xc145_100 ?_
              refine x_icne xc145_101 (xRk (by have g0 := xRb q3; omega)) (xRk (by have g0 := xRb q1; omega)) (fun h13 => ?_) (fun h13 => ?_)
              · refine x_aloadn xc145_106 rfl ?_
                refine x_gfr xc145_107 rfl rfl xz87 rfl ?_
                refine x_iloadn xc145_110 rfl ?_
                refine x_iloadn xc145_111 rfl ?_
                refine x_cS (as := [xV p, xV i]) (rest := [.ref 88]) xc145_112 rfl rfl xi149 ⟨rfl, rfl⟩ rfl rfl ?_
                refine rk149 (by omega) ?_
                refine x_iload xc145_115 rfl ?_
                refine x_ias xc145_117 xz88 (by have g0 := xRb q1; have g1 := xRb q2; omega) (by have g0 := xRb q1; have g1 := xRb q2; omega) (by have g0 := xRb q1; have g1 := xRb q2; omega) ?_
                refine x_iconst xc145_118 ?_
                refine x_iret xc145_119 (Or.inr ⟨rfl, (by omega)⟩) ?_
                exact k4 h0 h1 h4 h5 h8 h10 h13
              · replace h13 := Classical.not_not.mp h13
                refine x_iconst xc145_104 ?_
                refine x_iret xc145_105 (Or.inr ⟨rfl, (by omega)⟩) ?_
                exact k5 h0 h1 h4 h5 h8 h10 h13
            · refine x_ifne xc145_81 (xRk (by decide)) (fun h => absurd h (by omega)) (fun _ => ?_)
              refine x_iload xc145_84 rfl ?_
              refine x_bipush xc145_86 (by decide) ?_
              refine x_isub xc145_88 ?_
              refine x_cS (as := [xV (x - 10)]) (rest := []) xc145_89 rfl rfl xi140 ⟨rfl, rfl⟩ rfl rfl ?_
              refine rk140w (by omega) q3 (fun h15 => ?_) (fun h16 => ?_)
              · refine x_ifeq xc145_92 (xRk (by decide)) (fun h => absurd h (by omega)) (fun _ => ?_)
                refine x_iload xc145_95 rfl ?_
                refine x_bipush xc145_97 (by decide) ?_
                refine x_iloadn xc145_99 rfl ?_
                refine x_iadd xc145_100 ?_
                refine x_icne xc145_101 (xRk (by have g0 := xRb q3; omega)) (xRk (by have g0 := xRb q1; omega)) (fun h18 => ?_) (fun h18 => ?_)
                · refine x_aloadn xc145_106 rfl ?_
                  refine x_gfr xc145_107 rfl rfl xz87 rfl ?_
                  refine x_iloadn xc145_110 rfl ?_
                  refine x_iloadn xc145_111 rfl ?_
                  refine x_cS (as := [xV p, xV i]) (rest := [.ref 88]) xc145_112 rfl rfl xi149 ⟨rfl, rfl⟩ rfl rfl ?_
                  refine rk149 (by omega) ?_
                  refine x_iload xc145_115 rfl ?_
                  refine x_ias xc145_117 xz88 (by have g0 := xRb q1; have g1 := xRb q2; omega) (by have g0 := xRb q1; have g1 := xRb q2; omega) (by have g0 := xRb q1; have g1 := xRb q2; omega) ?_
                  refine x_iconst xc145_118 ?_
                  refine x_iret xc145_119 (Or.inr ⟨rfl, (by omega)⟩) ?_
                  exact k6 h0 h1 h4 h5 h8 h11 h15 h18
                · replace h18 := Classical.not_not.mp h18
                  refine x_iconst xc145_104 ?_
                  refine x_iret xc145_105 (Or.inr ⟨rfl, (by omega)⟩) ?_
                  exact k7 h0 h1 h4 h5 h8 h11 h15 h18
              · refine x_ifeq xc145_92 (xRk (by decide)) (fun _ => ?_) (fun h => absurd h (by omega))
                refine x_iconst xc145_104 ?_
                refine x_iret xc145_105 (Or.inr ⟨rfl, (by omega)⟩) ?_
                exact k8 h0 h1 h4 h5 h8 h11 h16
        · refine x_ifeq xc145_67 (xRk (by decide)) (fun _ => ?_) (fun h => absurd h (by omega))
          refine x_iconst xc145_104 ?_
          refine x_iret xc145_105 (Or.inr ⟨rfl, (by omega)⟩) ?_
          exact k9 h0 h1 h4 h6
      · refine x_iloadn xc145_20 rfl ?_
        refine x_cS (as := [xV i]) (rest := []) xc145_21 rfl rfl xi140 ⟨rfl, rfl⟩ rfl rfl ?_
        refine xk140 (by omega) (xRk (by have g0 := xRb q2; omega)) (fun h21 => ?_) (fun h22 => ?_)
        · refine x_ifeq xc145_24 (xRk (by decide)) (fun h => absurd h (by omega)) (fun _ => ?_)
          refine x_iloadn xc145_27 rfl ?_
          refine x_iloadn xc145_28 rfl ?_
          refine x_iceq xc145_29 (xRk (by have g0 := xRb q2; omega)) (xRk (by have g0 := xRb q1; omega)) (fun h24 => ?_) (fun h24 => ?_)
          · refine x_iconst xc145_46 ?_
            refine x_iret xc145_47 (Or.inr ⟨rfl, (by omega)⟩) ?_
            exact k10 h0 h1 h4 h21 h24
          · refine x_iload xc145_32 rfl ?_
            refine x_iconst xc145_34 ?_
            refine x_iceq xc145_35 (xRk (by have g0 := xRb q3; omega)) (xRk (by decide)) (fun h25 => ?_) (fun h25 => ?_)
            · refine x_aloadn xc145_48 rfl ?_
              refine x_gfr xc145_49 rfl rfl xz87 rfl ?_
              refine x_iloadn xc145_52 rfl ?_
              refine x_iloadn xc145_53 rfl ?_
              refine x_cS (as := [xV p, xV i]) (rest := [.ref 88]) xc145_54 rfl rfl xi147 ⟨rfl, rfl⟩ rfl rfl ?_
              refine rk147 (by omega) ?_
              refine x_iload xc145_57 rfl ?_
              refine x_ias xc145_59 xz88 (by have g0 := xRb q1; have g1 := xRb q2; omega) (by have g0 := xRb q1; have g1 := xRb q2; omega) (by have g0 := xRb q1; have g1 := xRb q2; omega) ?_
              refine x_iconst xc145_60 ?_
              refine x_iret xc145_61 (Or.inr ⟨rfl, (by omega)⟩) ?_
              exact k11 h0 h1 h4 h21 h24 h25
            · refine x_iload xc145_38 rfl ?_
              refine x_cS (as := [xV x]) (rest := []) xc145_40 rfl rfl xi138 ⟨rfl, rfl⟩ rfl rfl ?_
              refine xk138 (by omega) (xRk (by have g0 := xRb q3; omega)) (fun h26 => ?_) (fun h27 => ?_)
              · refine x_ifne xc145_43 (xRk (by decide)) (fun _ => ?_) (fun h => absurd h (by omega))
                refine x_aloadn xc145_48 rfl ?_
                refine x_gfr xc145_49 rfl rfl xz87 rfl ?_
                refine x_iloadn xc145_52 rfl ?_
                refine x_iloadn xc145_53 rfl ?_
                refine x_cS (as := [xV p, xV i]) (rest := [.ref 88]) xc145_54 rfl rfl xi147 ⟨rfl, rfl⟩ rfl rfl ?_
                refine rk147 (by omega) ?_
                refine x_iload xc145_57 rfl ?_
                refine x_ias xc145_59 xz88 (by have g0 := xRb q1; have g1 := xRb q2; omega) (by have g0 := xRb q1; have g1 := xRb q2; omega) (by have g0 := xRb q1; have g1 := xRb q2; omega) ?_
                refine x_iconst xc145_60 ?_
                refine x_iret xc145_61 (Or.inr ⟨rfl, (by omega)⟩) ?_
                exact k12 h0 h1 h4 h21 h24 h25 h26
              · refine x_ifne xc145_43 (xRk (by decide)) (fun h => absurd h (by omega)) (fun _ => ?_)
                refine x_iconst xc145_46 ?_
                refine x_iret xc145_47 (Or.inr ⟨rfl, (by omega)⟩) ?_
                exact k13 h0 h1 h4 h21 h24 h25 h27
        · refine x_ifeq xc145_24 (xRk (by decide)) (fun _ => ?_) (fun h => absurd h (by omega))
          refine x_iconst xc145_46 ?_
          refine x_iret xc145_47 (Or.inr ⟨rfl, (by omega)⟩) ?_
          exact k14 h0 h1 h4 h22
    · refine x_ifne xc145_11 (xRk (by decide)) (fun h => absurd h (by omega)) (fun _ => ?_)
      refine x_iconst xc145_14 ?_
      refine x_iret xc145_15 (Or.inr ⟨rfl, (by omega)⟩) ?_
      exact k15 h0 h2

theorem xg145 {ro : Nat → Nat × (Nat → Int32)} {d : Nat} {Q : Option Value → pmS → Prop} {a : xA} {b : xB} {p g i x : Int} (h : pmWp ro d 12 145 2 0 [some (.ref 87), some (xV p), some (xV g), some (xV i), some (xV x)] [] (xS a b) Q) : pmCs ro (d + 1) 145 [.ref 87, xV p, xV g, xV i, xV x] (xS a b) Q := x_go xi145 rfl rfl rfl rfl rfl h
theorem wb150 {ro : Nat → Nat × (Nat → Int32)} {d : Nat} {Q : Option Value → pmS → Prop} {k m n bg : Int} {a : xA} {b : xB} (q1 : xR k) (q2 : xR m) (hA : xAr a) (hn : a 87 2 = n) (hn0 : 0 ≤ n ∧ n ≤ 5) (hb : a 87 4 = bg) (hbg : bg = 0 ∨ bg = 1) (hd : 3 ≤ d)
    (k1 : (¬ bg = 0) → Q (some (xV 0)) (xS a b))
    (k2 : (bg = 0) → (1 ≤ k ∧ k ≤ 5) → (1 ≤ m ∧ m ≤ 9) → Q (some (xV 1)) (xS (xU a 92 k m) b))
    (k3 : (bg = 0) → (1 ≤ k ∧ k ≤ 5) → (¬ (1 ≤ m ∧ m ≤ 9)) → Q (some (xV 0)) (xS a b))
    (k4 : (bg = 0) → (¬ (1 ≤ k ∧ k ≤ 5)) → Q (some (xV 0)) (xS a b)) :
    pmWp ro d 12 150 2 0 [some (.ref 87), some (xV k), some (xV m)] [] (xS a b) Q := by
  refine x_aloadn xc150_0 rfl ?_
  refine x_gfi' (k := 4) (v := bg) xc150_1 rfl (Or.inr rfl) rfl xz87 hb ?_
  refine x_ifne xc150_4 (xRk (by have g0 := hbg; omega)) (fun h0 => ?_) (fun h0 => ?_)
  · refine x_iconst xc150_26 ?_
    refine x_iret xc150_27 (Or.inr ⟨rfl, (by omega)⟩) ?_
    exact k1 h0
  · replace h0 := Classical.not_not.mp h0
    refine x_iloadn xc150_7 rfl ?_
    refine x_iconst xc150_8 ?_
    refine x_iconst xc150_9 ?_
    refine x_cS (as := [xV k, xV 1, xV 5]) (rest := []) xc150_10 rfl rfl xi143 ⟨rfl, rfl⟩ rfl rfl ?_
    refine xk143 (xRk (by have g0 := xRb q1; omega)) (xRk (by decide)) (xRk (by decide)) (by omega) (fun h1 => ?_) (fun h2 => ?_)
    · refine x_ifeq xc150_13 (xRk (by decide)) (fun h => absurd h (by omega)) (fun _ => ?_)
      refine x_iloadn xc150_16 rfl ?_
      refine x_iconst xc150_17 ?_
      refine x_bipush xc150_18 (by decide) ?_
      refine x_cS (as := [xV m, xV 1, xV 9]) (rest := []) xc150_20 rfl rfl xi143 ⟨rfl, rfl⟩ rfl rfl ?_
      refine xk143 (xRk (by have g0 := xRb q2; omega)) (xRk (by decide)) (xRk (by decide)) (by omega) (fun h4 => ?_) (fun h5 => ?_)
      · refine x_ifne xc150_23 (xRk (by decide)) (fun _ => ?_) (fun h => absurd h (by omega))
        refine x_aloadn xc150_28 rfl ?_
        refine x_gfr xc150_29 rfl rfl xz87 rfl ?_
        refine x_iloadn xc150_32 rfl ?_
        refine x_iloadn xc150_33 rfl ?_
        refine x_ias xc150_34 xz92 (by have g0 := xRb q1; omega) (by have g0 := xRb q1; omega) (by have g0 := xRb q1; omega) ?_
        refine x_iconst xc150_35 ?_
        refine x_iret xc150_36 (Or.inr ⟨rfl, (by omega)⟩) ?_
        exact k2 h0 h1 h4
      · refine x_ifne xc150_23 (xRk (by decide)) (fun h => absurd h (by omega)) (fun _ => ?_)
        refine x_iconst xc150_26 ?_
        refine x_iret xc150_27 (Or.inr ⟨rfl, (by omega)⟩) ?_
        exact k3 h0 h1 h5
    · refine x_ifeq xc150_13 (xRk (by decide)) (fun _ => ?_) (fun h => absurd h (by omega))
      refine x_iconst xc150_26 ?_
      refine x_iret xc150_27 (Or.inr ⟨rfl, (by omega)⟩) ?_
      exact k4 h0 h2

theorem xg150 {ro : Nat → Nat × (Nat → Int32)} {d : Nat} {Q : Option Value → pmS → Prop} {a : xA} {b : xB} {k m : Int} (h : pmWp ro d 12 150 2 0 [some (.ref 87), some (xV k), some (xV m)] [] (xS a b) Q) : pmCs ro (d + 1) 150 [.ref 87, xV k, xV m] (xS a b) Q := x_go xi150 rfl rfl rfl rfl rfl h
theorem wb13 {ro : Nat → Nat × (Nat → Int32)} {d : Nat} {Q : Option Value → pmS → Prop} {x y bg : Int} {a : xA} {b : xB} (q1 : xR x) (q2 : xR y) (hb : a 0 12 = bg) (hbg : bg = 0 ∨ bg = 1) (hd : 3 ≤ d)
    (k1 : (¬ bg = 0) → Q (some (xV 0)) (xS a b))
    (k2 : (bg = 0) → (0 ≤ x ∧ x < 7) → (0 ≤ y ∧ y < 7) → (x = y) → Q (some (xV 0)) (xS a b))
    (k3 : (bg = 0) → (0 ≤ x ∧ x < 7) → (0 ≤ y ∧ y < 7) → (¬ x = y) → (xBit (b 3 3) (7 * x + y) = true) → Q (some (xV 0)) (xS a b))
    (k4 : (bg = 0) → (0 ≤ x ∧ x < 7) → (0 ≤ y ∧ y < 7) → (¬ x = y) → (xBit (b 3 3) (7 * x + y) = false) → Q (some (xV 1)) (xS a (xU b 3 3 ((b 3 3) ||| ((xShL (1 : Int64) (7 * x + y)) ||| (xShL (1 : Int64) (7 * y + x)))))))
    (k5 : (bg = 0) → (0 ≤ x ∧ x < 7) → (¬ (0 ≤ y ∧ y < 7)) → Q (some (xV 0)) (xS a b))
    (k6 : (bg = 0) → (¬ (0 ≤ x ∧ x < 7)) → Q (some (xV 0)) (xS a b)) :
    pmWp ro d 11 13 2 0 [some (.ref 0), some (xV x), some (xV y)] [] (xS a b) Q := by
  refine x_aloadn xc13_0 rfl ?_
  refine x_gfi' (k := 12) (v := bg) xc13_1 rfl (Or.inr rfl) rfl xz0 hb ?_
  refine x_ifne xc13_4 (xRk (by have g0 := hbg; omega)) (fun h0 => ?_) (fun h0 => ?_)
  · refine x_iconst xc13_42 ?_
    refine x_iret xc13_43 (Or.inr ⟨rfl, (by omega)⟩) ?_
    exact k1 h0
  · replace h0 := Classical.not_not.mp h0
    refine x_iloadn xc13_7 rfl ?_
    refine x_cS (as := [xV x]) (rest := []) xc13_8 rfl rfl xi14 ⟨rfl, rfl⟩ rfl rfl ?_
    refine xk14 (by omega) (xRk (by have g0 := xRb q1; omega)) (fun h1 => ?_) (fun h2 => ?_)
    · refine x_ifeq xc13_11 (xRk (by decide)) (fun h => absurd h (by omega)) (fun _ => ?_)
      refine x_iloadn xc13_14 rfl ?_
      refine x_cS (as := [xV y]) (rest := []) xc13_15 rfl rfl xi14 ⟨rfl, rfl⟩ rfl rfl ?_
      refine xk14 (by omega) (xRk (by have g0 := xRb q2; omega)) (fun h4 => ?_) (fun h5 => ?_)
      · refine x_ifeq xc13_18 (xRk (by decide)) (fun h => absurd h (by omega)) (fun _ => ?_)
        refine x_iloadn xc13_21 rfl ?_
        refine x_iloadn xc13_22 rfl ?_
        refine x_iceq xc13_23 (xRk (by have g0 := xRb q1; omega)) (xRk (by have g0 := xRb q2; omega)) (fun h7 => ?_) (fun h7 => ?_)
        · refine x_iconst xc13_42 ?_
          refine x_iret xc13_43 (Or.inr ⟨rfl, (by omega)⟩) ?_
          exact k2 h0 h1 h4 h7
        · refine x_aloadn xc13_26 rfl ?_
          refine x_gfr xc13_27 rfl rfl xz0 rfl ?_
          refine x_iloadn xc13_30 rfl ?_
          refine x_iloadn xc13_31 rfl ?_
          refine x_cV (as := [xV x, xV y]) (rest := []) xc13_32 rfl xi15 xz3 ⟨rfl, rfl⟩ rfl rfl ?_
          refine xk15 (by omega) (by have g0 := xRb q1; omega) (by have g0 := xRb q2; omega) (fun h8 => ?_) (fun h9 => ?_)
          · refine x_ifeq xc13_35 (xRk (by decide)) (fun _ => ?_) (fun h => absurd h (by omega))
            refine x_iconst xc13_42 ?_
            refine x_iret xc13_43 (Or.inr ⟨rfl, (by omega)⟩) ?_
            exact k3 h0 h1 h4 h7 h8
          · refine x_ifeq xc13_35 (xRk (by decide)) (fun h => absurd h (by omega)) (fun _ => ?_)
            refine x_iconst xc13_38 ?_
            refine x_goto xc13_39 ?_
            refine x_iret xc13_43 (Or.inr ⟨rfl, (by omega)⟩) ?_
            exact k4 h0 h1 h4 h7 h9
      · refine x_ifeq xc13_18 (xRk (by decide)) (fun _ => ?_) (fun h => absurd h (by omega))
        refine x_iconst xc13_42 ?_
        refine x_iret xc13_43 (Or.inr ⟨rfl, (by omega)⟩) ?_
        exact k5 h0 h1 h5
    · refine x_ifeq xc13_11 (xRk (by decide)) (fun _ => ?_) (fun h => absurd h (by omega))
      refine x_iconst xc13_42 ?_
      refine x_iret xc13_43 (Or.inr ⟨rfl, (by omega)⟩) ?_
      exact k6 h0 h2

theorem wb17 {ro : Nat → Nat × (Nat → Int32)} {d : Nat} {Q : Option Value → pmS → Prop} {x y bg : Int} {a : xA} {b : xB} (q1 : xR x) (q2 : xR y) (hb : a 0 12 = bg) (hbg : bg = 0 ∨ bg = 1) (hd : 3 ≤ d)
    (k1 : (¬ bg = 0) → Q (some (xV 0)) (xS a b))
    (k2 : (bg = 0) → (0 ≤ x ∧ x < 4) → (0 ≤ y ∧ y < 7) → Q (some (xV 1)) (xS a (xU b 21 4 (xWith (b 21 4) x (y + 1)))))
    (k3 : (bg = 0) → (0 ≤ x ∧ x < 4) → (¬ (0 ≤ y ∧ y < 7)) → Q (some (xV 0)) (xS a b))
    (k4 : (bg = 0) → (¬ (0 ≤ x ∧ x < 4)) → Q (some (xV 0)) (xS a b)) :
    pmWp ro d 11 17 2 0 [some (.ref 0), some (xV x), some (xV y)] [] (xS a b) Q := by
  refine x_aloadn xc17_0 rfl ?_
  refine x_gfi' (k := 12) (v := bg) xc17_1 rfl (Or.inr rfl) rfl xz0 hb ?_
  refine x_ifne xc17_4 (xRk (by have g0 := hbg; omega)) (fun h0 => ?_) (fun h0 => ?_)
  · refine x_iconst xc17_21 ?_
    refine x_iret xc17_22 (Or.inr ⟨rfl, (by omega)⟩) ?_
    exact k1 h0
  · replace h0 := Classical.not_not.mp h0
    refine x_iloadn xc17_7 rfl ?_
    refine x_cS (as := [xV x]) (rest := []) xc17_8 rfl rfl xi18 ⟨rfl, rfl⟩ rfl rfl ?_
    refine xk18 (by omega) (xRk (by have g0 := xRb q1; omega)) (fun h1 => ?_) (fun h2 => ?_)
    · refine x_ifeq xc17_11 (xRk (by decide)) (fun h => absurd h (by omega)) (fun _ => ?_)
      refine x_iloadn xc17_14 rfl ?_
      refine x_cS (as := [xV y]) (rest := []) xc17_15 rfl rfl xi14 ⟨rfl, rfl⟩ rfl rfl ?_
      refine xk14 (by omega) (xRk (by have g0 := xRb q2; omega)) (fun h4 => ?_) (fun h5 => ?_)
      · refine x_ifne xc17_18 (xRk (by decide)) (fun _ => ?_) (fun h => absurd h (by omega))
        refine x_aloadn xc17_23 rfl ?_
        refine x_gfr xc17_24 rfl rfl xz0 rfl ?_
        refine x_aloadn xc17_27 rfl ?_
        refine x_gfr xc17_28 rfl rfl xz0 rfl ?_
        refine x_gfl (k := 4) xc17_31 rfl rfl rfl xz21 ?_
        refine x_iloadn xc17_34 rfl ?_
        refine x_iloadn xc17_35 rfl ?_
        refine x_iconst xc17_36 ?_
        refine x_iadd xc17_37 ?_
        refine x_cS (as := [.long (b 21 4), xV x, xV (y + 1)]) (rest := [.ref 21]) xc17_38 rfl rfl xi19 ⟨rfl, rfl⟩ rfl rfl ?_
        refine xk19 (by omega) (xRk (by have g0 := xRb q1; omega)) (xRk (by have g0 := xRb q2; omega)) ?_
        refine x_pfl (k := 4) xc17_41 rfl ⟨rfl, rfl⟩ rfl xz21 ?_
        refine x_iconst xc17_44 ?_
        refine x_iret xc17_45 (Or.inr ⟨rfl, (by omega)⟩) ?_
        exact k2 h0 h1 h4
      · refine x_ifne xc17_18 (xRk (by decide)) (fun h => absurd h (by omega)) (fun _ => ?_)
        refine x_iconst xc17_21 ?_
        refine x_iret xc17_22 (Or.inr ⟨rfl, (by omega)⟩) ?_
        exact k3 h0 h1 h5
    · refine x_ifeq xc17_11 (xRk (by decide)) (fun _ => ?_) (fun h => absurd h (by omega))
      refine x_iconst xc17_21 ?_
      refine x_iret xc17_22 (Or.inr ⟨rfl, (by omega)⟩) ?_
      exact k4 h0 h2

theorem wb137 {ro : Nat → Nat × (Nat → Int32)} {d : Nat} {Q : Option Value → pmS → Prop} {x y n bg : Int} {a : xA} {b : xB} (q1 : xR x) (q2 : xR y) (hA : xAr a) (hn : a 87 2 = n) (hn0 : 0 ≤ n ∧ n ≤ 5) (hb : a 87 4 = bg) (hbg : bg = 0 ∨ bg = 1) (hd : 3 ≤ d)
    (k1 : (¬ bg = 0) → Q (some (xV 0)) (xS a b))
    (k2 : (bg = 0) → (0 ≤ x ∧ x < 7) → (0 ≤ y ∧ y < 7) → (x = y) → Q (some (xV 0)) (xS a b))
    (k3 : (bg = 0) → (0 ≤ x ∧ x < 7) → (0 ≤ y ∧ y < 7) → (¬ x = y) → (a 90 (7 * x + y) = 0) → Q (some (xV 1)) (xS (xU (xU a 90 (7 * x + y) 1) 90 (7 * y + x) 1) b))
    (k4 : (bg = 0) → (0 ≤ x ∧ x < 7) → (0 ≤ y ∧ y < 7) → (¬ x = y) → (¬ a 90 (7 * x + y) = 0) → Q (some (xV 0)) (xS a b))
    (k5 : (bg = 0) → (0 ≤ x ∧ x < 7) → (¬ (0 ≤ y ∧ y < 7)) → Q (some (xV 0)) (xS a b))
    (k6 : (bg = 0) → (¬ (0 ≤ x ∧ x < 7)) → Q (some (xV 0)) (xS a b)) :
    pmWp ro d 12 137 2 0 [some (.ref 87), some (xV x), some (xV y)] [] (xS a b) Q := by
  refine x_aloadn xc137_0 rfl ?_
  refine x_gfi' (k := 4) (v := bg) xc137_1 rfl (Or.inr rfl) rfl xz87 hb ?_
  refine x_ifne xc137_4 (xRk (by have g0 := hbg; omega)) (fun h0 => ?_) (fun h0 => ?_)
  · refine x_iconst xc137_40 ?_
    refine x_iret xc137_41 (Or.inr ⟨rfl, (by omega)⟩) ?_
    exact k1 h0
  · replace h0 := Classical.not_not.mp h0
    refine x_iloadn xc137_7 rfl ?_
    refine x_cS (as := [xV x]) (rest := []) xc137_8 rfl rfl xi138 ⟨rfl, rfl⟩ rfl rfl ?_
    refine xk138 (by omega) (xRk (by have g0 := xRb q1; omega)) (fun h1 => ?_) (fun h2 => ?_)
    · refine x_ifeq xc137_11 (xRk (by decide)) (fun h => absurd h (by omega)) (fun _ => ?_)
      refine x_iloadn xc137_14 rfl ?_
      refine x_cS (as := [xV y]) (rest := []) xc137_15 rfl rfl xi138 ⟨rfl, rfl⟩ rfl rfl ?_
      refine xk138 (by omega) (xRk (by have g0 := xRb q2; omega)) (fun h4 => ?_) (fun h5 => ?_)
      · refine x_ifeq xc137_18 (xRk (by decide)) (fun h => absurd h (by omega)) (fun _ => ?_)
        refine x_iloadn xc137_21 rfl ?_
        refine x_iloadn xc137_22 rfl ?_
        refine x_iceq xc137_23 (xRk (by have g0 := xRb q1; omega)) (xRk (by have g0 := xRb q2; omega)) (fun h7 => ?_) (fun h7 => ?_)
        · refine x_iconst xc137_40 ?_
          refine x_iret xc137_41 (Or.inr ⟨rfl, (by omega)⟩) ?_
          exact k2 h0 h1 h4 h7
        · refine x_aloadn xc137_26 rfl ?_
          refine x_gfr xc137_27 rfl rfl xz87 rfl ?_
          refine x_bipush xc137_30 (by decide) ?_
          refine x_iloadn xc137_32 rfl ?_
          refine x_imul xc137_33 ?_
          refine x_iloadn xc137_34 rfl ?_
          refine x_iadd xc137_35 ?_
          refine x_bal xc137_36 xz90 (Or.inl rfl) (by have g0 := xRb q1; have g1 := xRb q2; omega) (by have g0 := xRb q1; have g1 := xRb q2; omega) (by have g0 := xRb q1; have g1 := xRb q2; omega) ?_
          refine x_ifeq xc137_37 (xRk (by have g0 := xRb q1; have g1 := xRb q2; have g2 := xRb (hA 90 (7 * x + y)); omega)) (fun h8 => ?_) (fun h8 => ?_)
          · refine x_aloadn xc137_42 rfl ?_
            refine x_gfr xc137_43 rfl rfl xz87 rfl ?_
            refine x_bipush xc137_46 (by decide) ?_
            refine x_iloadn xc137_48 rfl ?_
            refine x_imul xc137_49 ?_
            refine x_iloadn xc137_50 rfl ?_
            refine x_iadd xc137_51 ?_
            refine x_iconst xc137_52 ?_
            refine x_zas (by omega) xc137_53 xz90 (by have g0 := xRb q1; have g1 := xRb q2; omega) (by have g0 := xRb q1; have g1 := xRb q2; omega) (by have g0 := xRb q1; have g1 := xRb q2; omega) ?_
            refine x_aloadn xc137_54 rfl ?_
            refine x_gfr xc137_55 rfl rfl xz87 rfl ?_
            refine x_bipush xc137_58 (by decide) ?_
            refine x_iloadn xc137_60 rfl ?_
            refine x_imul xc137_61 ?_
            refine x_iloadn xc137_62 rfl ?_
            refine x_iadd xc137_63 ?_
            refine x_iconst xc137_64 ?_
            refine x_zas (by omega) xc137_65 xz90 (by have g0 := xRb q2; have g1 := xRb q1; omega) (by have g0 := xRb q2; have g1 := xRb q1; omega) (by have g0 := xRb q2; have g1 := xRb q1; omega) ?_
            refine x_iconst xc137_66 ?_
            refine x_iret xc137_67 (Or.inr ⟨rfl, (by omega)⟩) ?_
            exact k3 h0 h1 h4 h7 h8
          · refine x_iconst xc137_40 ?_
            refine x_iret xc137_41 (Or.inr ⟨rfl, (by omega)⟩) ?_
            exact k4 h0 h1 h4 h7 h8
      · refine x_ifeq xc137_18 (xRk (by decide)) (fun _ => ?_) (fun h => absurd h (by omega))
        refine x_iconst xc137_40 ?_
        refine x_iret xc137_41 (Or.inr ⟨rfl, (by omega)⟩) ?_
        exact k5 h0 h1 h5
    · refine x_ifeq xc137_11 (xRk (by decide)) (fun _ => ?_) (fun h => absurd h (by omega))
      refine x_iconst xc137_40 ?_
      refine x_iret xc137_41 (Or.inr ⟨rfl, (by omega)⟩) ?_
      exact k6 h0 h2

theorem wb139 {ro : Nat → Nat × (Nat → Int32)} {d : Nat} {Q : Option Value → pmS → Prop} {x y n bg : Int} {a : xA} {b : xB} (q1 : xR x) (q2 : xR y) (hA : xAr a) (hn : a 87 2 = n) (hn0 : 0 ≤ n ∧ n ≤ 5) (hb : a 87 4 = bg) (hbg : bg = 0 ∨ bg = 1) (hd : 3 ≤ d)
    (k1 : (¬ bg = 0) → Q (some (xV 0)) (xS a b))
    (k2 : (bg = 0) → (0 ≤ x ∧ x < 4) → (0 ≤ y ∧ y < 7) → Q (some (xV 1)) (xS (xU a 88 (0 + x) y) b))
    (k3 : (bg = 0) → (0 ≤ x ∧ x < 4) → (¬ (0 ≤ y ∧ y < 7)) → Q (some (xV 0)) (xS a b))
    (k4 : (bg = 0) → (¬ (0 ≤ x ∧ x < 4)) → Q (some (xV 0)) (xS a b)) :
    pmWp ro d 12 139 2 0 [some (.ref 87), some (xV x), some (xV y)] [] (xS a b) Q := by
  refine x_aloadn xc139_0 rfl ?_
  refine x_gfi' (k := 4) (v := bg) xc139_1 rfl (Or.inr rfl) rfl xz87 hb ?_
  refine x_ifne xc139_4 (xRk (by have g0 := hbg; omega)) (fun h0 => ?_) (fun h0 => ?_)
  · refine x_iconst xc139_21 ?_
    refine x_iret xc139_22 (Or.inr ⟨rfl, (by omega)⟩) ?_
    exact k1 h0
  · replace h0 := Classical.not_not.mp h0
    refine x_iloadn xc139_7 rfl ?_
    refine x_cS (as := [xV x]) (rest := []) xc139_8 rfl rfl xi140 ⟨rfl, rfl⟩ rfl rfl ?_
    refine xk140 (by omega) (xRk (by have g0 := xRb q1; omega)) (fun h1 => ?_) (fun h2 => ?_)
    · refine x_ifeq xc139_11 (xRk (by decide)) (fun h => absurd h (by omega)) (fun _ => ?_)
      refine x_iloadn xc139_14 rfl ?_
      refine x_cS (as := [xV y]) (rest := []) xc139_15 rfl rfl xi138 ⟨rfl, rfl⟩ rfl rfl ?_
      refine xk138 (by omega) (xRk (by have g0 := xRb q2; omega)) (fun h4 => ?_) (fun h5 => ?_)
      · refine x_ifne xc139_18 (xRk (by decide)) (fun _ => ?_) (fun h => absurd h (by omega))
        refine x_aloadn xc139_23 rfl ?_
        refine x_gfr xc139_24 rfl rfl xz87 rfl ?_
        refine x_iconst xc139_27 ?_
        refine x_iloadn xc139_28 rfl ?_
        refine x_iadd xc139_29 ?_
        refine x_iloadn xc139_30 rfl ?_
        refine x_ias xc139_31 xz88 (by have g0 := xRb q1; omega) (by have g0 := xRb q1; omega) (by have g0 := xRb q1; omega) ?_
        refine x_iconst xc139_32 ?_
        refine x_iret xc139_33 (Or.inr ⟨rfl, (by omega)⟩) ?_
        exact k2 h0 h1 h4
      · refine x_ifne xc139_18 (xRk (by decide)) (fun h => absurd h (by omega)) (fun _ => ?_)
        refine x_iconst xc139_21 ?_
        refine x_iret xc139_22 (Or.inr ⟨rfl, (by omega)⟩) ?_
        exact k3 h0 h1 h5
    · refine x_ifeq xc139_11 (xRk (by decide)) (fun _ => ?_) (fun h => absurd h (by omega))
      refine x_iconst xc139_21 ?_
      refine x_iret xc139_22 (Or.inr ⟨rfl, (by omega)⟩) ?_
      exact k4 h0 h2

end
