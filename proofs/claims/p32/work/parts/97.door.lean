/-! exact: door, person, begin -/
section
set_option maxRecDepth 100000
theorem xi13 : pmInf[13]? = some pmI_13 := rfl
theorem xi15 : pmInf[15]? = some pmI_15 := rfl
theorem xi16 : pmInf[16]? = some pmI_16 := rfl
theorem xi17 : pmInf[17]? = some pmI_17 := rfl
theorem xi19 : pmInf[19]? = some pmI_19 := rfl
theorem xi57 : pmInf[57]? = some pmI_57 := rfl
theorem xi58 : pmInf[58]? = some pmI_58 := rfl
theorem xi59 : pmInf[59]? = some pmI_59 := rfl
theorem xi65 : pmInf[65]? = some pmI_65 := rfl
theorem xi66 : pmInf[66]? = some pmI_66 := rfl
theorem xi137 : pmInf[137]? = some pmI_137 := rfl
theorem xi139 : pmInf[139]? = some pmI_139 := rfl
theorem xi173 : pmInf[173]? = some pmI_173 := rfl
theorem xi174 : pmInf[174]? = some pmI_174 := rfl
theorem xi181 : pmInf[181]? = some pmI_181 := rfl
theorem xc13_0 : pmCode 13 0 = some (.aload_n 0) ∧ 0 + 1 = 1 := ⟨rfl, rfl⟩
theorem xc13_1 : pmCode 13 1 = some (.getfield 101) ∧ 1 + 3 = 4 := ⟨rfl, rfl⟩
theorem xc13_4 : pmCode 13 4 = some (.ifCond .ne 38) ∧ ((4 : Nat) : Int) + 38 = ((42 : Nat) : Int) ∧ 4 + 3 = 7 := ⟨rfl, rfl, rfl⟩
theorem xc13_7 : pmCode 13 7 = some (.iload_n 1) ∧ 7 + 1 = 8 := ⟨rfl, rfl⟩
theorem xc13_8 : pmCode 13 8 = some (.invokestatic 105) ∧ 8 + 3 = 11 := ⟨rfl, rfl⟩
theorem xc13_11 : pmCode 13 11 = some (.ifCond .eq 31) ∧ ((11 : Nat) : Int) + 31 = ((42 : Nat) : Int) ∧ 11 + 3 = 14 := ⟨rfl, rfl, rfl⟩
theorem xc13_14 : pmCode 13 14 = some (.iload_n 2) ∧ 14 + 1 = 15 := ⟨rfl, rfl⟩
theorem xc13_15 : pmCode 13 15 = some (.invokestatic 105) ∧ 15 + 3 = 18 := ⟨rfl, rfl⟩
theorem xc13_18 : pmCode 13 18 = some (.ifCond .eq 24) ∧ ((18 : Nat) : Int) + 24 = ((42 : Nat) : Int) ∧ 18 + 3 = 21 := ⟨rfl, rfl, rfl⟩
theorem xc13_21 : pmCode 13 21 = some (.iload_n 1) ∧ 21 + 1 = 22 := ⟨rfl, rfl⟩
theorem xc13_22 : pmCode 13 22 = some (.iload_n 2) ∧ 22 + 1 = 23 := ⟨rfl, rfl⟩
theorem xc13_23 : pmCode 13 23 = some (.if_icmp .eq 19) ∧ ((23 : Nat) : Int) + 19 = ((42 : Nat) : Int) ∧ 23 + 3 = 26 := ⟨rfl, rfl, rfl⟩
theorem xc13_26 : pmCode 13 26 = some (.aload_n 0) ∧ 26 + 1 = 27 := ⟨rfl, rfl⟩
theorem xc13_27 : pmCode 13 27 = some (.getfield 19) ∧ 27 + 3 = 30 := ⟨rfl, rfl⟩
theorem xc13_30 : pmCode 13 30 = some (.iload_n 1) ∧ 30 + 1 = 31 := ⟨rfl, rfl⟩
theorem xc13_31 : pmCode 13 31 = some (.iload_n 2) ∧ 31 + 1 = 32 := ⟨rfl, rfl⟩
theorem xc13_32 : pmCode 13 32 = some (.invokevirtual 109) ∧ 32 + 3 = 35 := ⟨rfl, rfl⟩
theorem xc13_35 : pmCode 13 35 = some (.ifCond .eq 7) ∧ ((35 : Nat) : Int) + 7 = ((42 : Nat) : Int) ∧ 35 + 3 = 38 := ⟨rfl, rfl, rfl⟩
theorem xc13_38 : pmCode 13 38 = some (.iconst 1) ∧ 38 + 1 = 39 := ⟨rfl, rfl⟩
theorem xc13_39 : pmCode 13 39 = some (.goto 4) ∧ ((39 : Nat) : Int) + 4 = ((43 : Nat) : Int) := ⟨rfl, rfl⟩
theorem xc13_42 : pmCode 13 42 = some (.iconst 0) ∧ 42 + 1 = 43 := ⟨rfl, rfl⟩
theorem xc13_43 : pmCode 13 43 = some .ireturn := rfl
theorem xc15_0 : pmCode 15 0 = some (.aload_n 0) ∧ 0 + 1 = 1 := ⟨rfl, rfl⟩
theorem xc15_1 : pmCode 15 1 = some (.iload_n 1) ∧ 1 + 1 = 2 := ⟨rfl, rfl⟩
theorem xc15_2 : pmCode 15 2 = some (.iload_n 2) ∧ 2 + 1 = 3 := ⟨rfl, rfl⟩
theorem xc15_3 : pmCode 15 3 = some (.invokevirtual 38) ∧ 3 + 3 = 6 := ⟨rfl, rfl⟩
theorem xc15_6 : pmCode 15 6 = some (.ifCond .eq 5) ∧ ((6 : Nat) : Int) + 5 = ((11 : Nat) : Int) ∧ 6 + 3 = 9 := ⟨rfl, rfl, rfl⟩
theorem xc15_9 : pmCode 15 9 = some (.iconst 0) ∧ 9 + 1 = 10 := ⟨rfl, rfl⟩
theorem xc15_10 : pmCode 15 10 = some .ireturn := rfl
theorem xc15_11 : pmCode 15 11 = some (.aload_n 0) ∧ 11 + 1 = 12 := ⟨rfl, rfl⟩
theorem xc15_12 : pmCode 15 12 = some .dup ∧ 12 + 1 = 13 := ⟨rfl, rfl⟩
theorem xc15_13 : pmCode 15 13 = some (.getfield 42) ∧ 13 + 3 = 16 := ⟨rfl, rfl⟩
theorem xc15_16 : pmCode 15 16 = some (.lconst 1) ∧ 16 + 1 = 17 := ⟨rfl, rfl⟩
theorem xc15_17 : pmCode 15 17 = some (.bipush 7) ∧ 17 + 2 = 19 := ⟨rfl, rfl⟩
theorem xc15_19 : pmCode 15 19 = some (.iload_n 1) ∧ 19 + 1 = 20 := ⟨rfl, rfl⟩
theorem xc15_20 : pmCode 15 20 = some .imul ∧ 20 + 1 = 21 := ⟨rfl, rfl⟩
theorem xc15_21 : pmCode 15 21 = some (.iload_n 2) ∧ 21 + 1 = 22 := ⟨rfl, rfl⟩
theorem xc15_22 : pmCode 15 22 = some .iadd ∧ 22 + 1 = 23 := ⟨rfl, rfl⟩
theorem xc15_23 : pmCode 15 23 = some .lshl ∧ 23 + 1 = 24 := ⟨rfl, rfl⟩
theorem xc15_24 : pmCode 15 24 = some (.lconst 1) ∧ 24 + 1 = 25 := ⟨rfl, rfl⟩
theorem xc15_25 : pmCode 15 25 = some (.bipush 7) ∧ 25 + 2 = 27 := ⟨rfl, rfl⟩
theorem xc15_27 : pmCode 15 27 = some (.iload_n 2) ∧ 27 + 1 = 28 := ⟨rfl, rfl⟩
theorem xc15_28 : pmCode 15 28 = some .imul ∧ 28 + 1 = 29 := ⟨rfl, rfl⟩
theorem xc15_29 : pmCode 15 29 = some (.iload_n 1) ∧ 29 + 1 = 30 := ⟨rfl, rfl⟩
theorem xc15_30 : pmCode 15 30 = some .iadd ∧ 30 + 1 = 31 := ⟨rfl, rfl⟩
theorem xc15_31 : pmCode 15 31 = some .lshl ∧ 31 + 1 = 32 := ⟨rfl, rfl⟩
theorem xc15_32 : pmCode 15 32 = some .lor ∧ 32 + 1 = 33 := ⟨rfl, rfl⟩
theorem xc15_33 : pmCode 15 33 = some .lor ∧ 33 + 1 = 34 := ⟨rfl, rfl⟩
theorem xc15_34 : pmCode 15 34 = some (.putfield 42) ∧ 34 + 3 = 37 := ⟨rfl, rfl⟩
theorem xc15_37 : pmCode 15 37 = some (.iconst 1) ∧ 37 + 1 = 38 := ⟨rfl, rfl⟩
theorem xc15_38 : pmCode 15 38 = some .ireturn := rfl
theorem xc16_0 : pmCode 16 0 = some (.aload_n 0) ∧ 0 + 1 = 1 := ⟨rfl, rfl⟩
theorem xc16_1 : pmCode 16 1 = some (.getfield 42) ∧ 1 + 3 = 4 := ⟨rfl, rfl⟩
theorem xc16_4 : pmCode 16 4 = some (.bipush 7) ∧ 4 + 2 = 6 := ⟨rfl, rfl⟩
theorem xc16_6 : pmCode 16 6 = some (.iload_n 1) ∧ 6 + 1 = 7 := ⟨rfl, rfl⟩
theorem xc16_7 : pmCode 16 7 = some .imul ∧ 7 + 1 = 8 := ⟨rfl, rfl⟩
theorem xc16_8 : pmCode 16 8 = some (.iload_n 2) ∧ 8 + 1 = 9 := ⟨rfl, rfl⟩
theorem xc16_9 : pmCode 16 9 = some .iadd ∧ 9 + 1 = 10 := ⟨rfl, rfl⟩
theorem xc16_10 : pmCode 16 10 = some .lushr ∧ 10 + 1 = 11 := ⟨rfl, rfl⟩
theorem xc16_11 : pmCode 16 11 = some (.lconst 1) ∧ 11 + 1 = 12 := ⟨rfl, rfl⟩
theorem xc16_12 : pmCode 16 12 = some .land ∧ 12 + 1 = 13 := ⟨rfl, rfl⟩
theorem xc16_13 : pmCode 16 13 = some (.lconst 0) ∧ 13 + 1 = 14 := ⟨rfl, rfl⟩
theorem xc16_14 : pmCode 16 14 = some .lcmp ∧ 14 + 1 = 15 := ⟨rfl, rfl⟩
theorem xc16_15 : pmCode 16 15 = some (.ifCond .eq 7) ∧ ((15 : Nat) : Int) + 7 = ((22 : Nat) : Int) ∧ 15 + 3 = 18 := ⟨rfl, rfl, rfl⟩
theorem xc16_18 : pmCode 16 18 = some (.iconst 1) ∧ 18 + 1 = 19 := ⟨rfl, rfl⟩
theorem xc16_19 : pmCode 16 19 = some (.goto 4) ∧ ((19 : Nat) : Int) + 4 = ((23 : Nat) : Int) := ⟨rfl, rfl⟩
theorem xc16_22 : pmCode 16 22 = some (.iconst 0) ∧ 22 + 1 = 23 := ⟨rfl, rfl⟩
theorem xc16_23 : pmCode 16 23 = some .ireturn := rfl
theorem xc17_0 : pmCode 17 0 = some (.aload_n 0) ∧ 0 + 1 = 1 := ⟨rfl, rfl⟩
theorem xc17_1 : pmCode 17 1 = some (.getfield 101) ∧ 1 + 3 = 4 := ⟨rfl, rfl⟩
theorem xc17_4 : pmCode 17 4 = some (.ifCond .ne 17) ∧ ((4 : Nat) : Int) + 17 = ((21 : Nat) : Int) ∧ 4 + 3 = 7 := ⟨rfl, rfl, rfl⟩
theorem xc17_7 : pmCode 17 7 = some (.iload_n 1) ∧ 7 + 1 = 8 := ⟨rfl, rfl⟩
theorem xc17_8 : pmCode 17 8 = some (.invokestatic 113) ∧ 8 + 3 = 11 := ⟨rfl, rfl⟩
theorem xc17_11 : pmCode 17 11 = some (.ifCond .eq 10) ∧ ((11 : Nat) : Int) + 10 = ((21 : Nat) : Int) ∧ 11 + 3 = 14 := ⟨rfl, rfl, rfl⟩
theorem xc17_14 : pmCode 17 14 = some (.iload_n 2) ∧ 14 + 1 = 15 := ⟨rfl, rfl⟩
theorem xc17_15 : pmCode 17 15 = some (.invokestatic 105) ∧ 15 + 3 = 18 := ⟨rfl, rfl⟩
theorem xc17_18 : pmCode 17 18 = some (.ifCond .ne 5) ∧ ((18 : Nat) : Int) + 5 = ((23 : Nat) : Int) ∧ 18 + 3 = 21 := ⟨rfl, rfl, rfl⟩
theorem xc17_21 : pmCode 17 21 = some (.iconst 0) ∧ 21 + 1 = 22 := ⟨rfl, rfl⟩
theorem xc17_22 : pmCode 17 22 = some .ireturn := rfl
theorem xc17_23 : pmCode 17 23 = some (.aload_n 0) ∧ 23 + 1 = 24 := ⟨rfl, rfl⟩
theorem xc17_24 : pmCode 17 24 = some (.getfield 40) ∧ 24 + 3 = 27 := ⟨rfl, rfl⟩
theorem xc17_27 : pmCode 17 27 = some (.aload_n 0) ∧ 27 + 1 = 28 := ⟨rfl, rfl⟩
theorem xc17_28 : pmCode 17 28 = some (.getfield 40) ∧ 28 + 3 = 31 := ⟨rfl, rfl⟩
theorem xc17_31 : pmCode 17 31 = some (.getfield 116) ∧ 31 + 3 = 34 := ⟨rfl, rfl⟩
theorem xc17_34 : pmCode 17 34 = some (.iload_n 1) ∧ 34 + 1 = 35 := ⟨rfl, rfl⟩
theorem xc17_35 : pmCode 17 35 = some (.iload_n 2) ∧ 35 + 1 = 36 := ⟨rfl, rfl⟩
theorem xc17_36 : pmCode 17 36 = some (.iconst 1) ∧ 36 + 1 = 37 := ⟨rfl, rfl⟩
theorem xc17_37 : pmCode 17 37 = some .iadd ∧ 37 + 1 = 38 := ⟨rfl, rfl⟩
theorem xc17_38 : pmCode 17 38 = some (.invokestatic 120) ∧ 38 + 3 = 41 := ⟨rfl, rfl⟩
theorem xc17_41 : pmCode 17 41 = some (.putfield 116) ∧ 41 + 3 = 44 := ⟨rfl, rfl⟩
theorem xc17_44 : pmCode 17 44 = some (.iconst 1) ∧ 44 + 1 = 45 := ⟨rfl, rfl⟩
theorem xc17_45 : pmCode 17 45 = some .ireturn := rfl
theorem xc19_0 : pmCode 19 0 = some (.lload_n 0) ∧ 0 + 1 = 1 := ⟨rfl, rfl⟩
theorem xc19_1 : pmCode 19 1 = some (.ldc2_w 331) ∧ 1 + 3 = 4 := ⟨rfl, rfl⟩
theorem xc19_4 : pmCode 19 4 = some (.iconst 4) ∧ 4 + 1 = 5 := ⟨rfl, rfl⟩
theorem xc19_5 : pmCode 19 5 = some (.iload_n 2) ∧ 5 + 1 = 6 := ⟨rfl, rfl⟩
theorem xc19_6 : pmCode 19 6 = some .imul ∧ 6 + 1 = 7 := ⟨rfl, rfl⟩
theorem xc19_7 : pmCode 19 7 = some .lshl ∧ 7 + 1 = 8 := ⟨rfl, rfl⟩
theorem xc19_8 : pmCode 19 8 = some (.ldc2_w 223) ∧ 8 + 3 = 11 := ⟨rfl, rfl⟩
theorem xc19_11 : pmCode 19 11 = some .lxor ∧ 11 + 1 = 12 := ⟨rfl, rfl⟩
theorem xc19_12 : pmCode 19 12 = some .land ∧ 12 + 1 = 13 := ⟨rfl, rfl⟩
theorem xc19_13 : pmCode 19 13 = some (.iload_n 3) ∧ 13 + 1 = 14 := ⟨rfl, rfl⟩
theorem xc19_14 : pmCode 19 14 = some .i2l ∧ 14 + 1 = 15 := ⟨rfl, rfl⟩
theorem xc19_15 : pmCode 19 15 = some (.iconst 4) ∧ 15 + 1 = 16 := ⟨rfl, rfl⟩
theorem xc19_16 : pmCode 19 16 = some (.iload_n 2) ∧ 16 + 1 = 17 := ⟨rfl, rfl⟩
theorem xc19_17 : pmCode 19 17 = some .imul ∧ 17 + 1 = 18 := ⟨rfl, rfl⟩
theorem xc19_18 : pmCode 19 18 = some .lshl ∧ 18 + 1 = 19 := ⟨rfl, rfl⟩
theorem xc19_19 : pmCode 19 19 = some .lor ∧ 19 + 1 = 20 := ⟨rfl, rfl⟩
theorem xc19_20 : pmCode 19 20 = some .lreturn := rfl
theorem xc57_0 : pmCode 57 0 = some (.aload_n 0) ∧ 0 + 1 = 1 := ⟨rfl, rfl⟩
theorem xc57_1 : pmCode 57 1 = some (.getfield 101) ∧ 1 + 3 = 4 := ⟨rfl, rfl⟩
theorem xc57_4 : pmCode 57 4 = some (.ifCond .eq 5) ∧ ((4 : Nat) : Int) + 5 = ((9 : Nat) : Int) ∧ 4 + 3 = 7 := ⟨rfl, rfl, rfl⟩
theorem xc57_7 : pmCode 57 7 = some (.iconst 0) ∧ 7 + 1 = 8 := ⟨rfl, rfl⟩
theorem xc57_8 : pmCode 57 8 = some .ireturn := rfl
theorem xc57_9 : pmCode 57 9 = some (.aload_n 0) ∧ 9 + 1 = 10 := ⟨rfl, rfl⟩
theorem xc57_10 : pmCode 57 10 = some (.iconst 1) ∧ 10 + 1 = 11 := ⟨rfl, rfl⟩
theorem xc57_11 : pmCode 57 11 = some (.putfield 101) ∧ 11 + 3 = 14 := ⟨rfl, rfl⟩
theorem xc57_14 : pmCode 57 14 = some (.aload_n 0) ∧ 14 + 1 = 15 := ⟨rfl, rfl⟩
theorem xc57_15 : pmCode 57 15 = some (.getfield 19) ∧ 15 + 3 = 18 := ⟨rfl, rfl⟩
theorem xc57_18 : pmCode 57 18 = some (.invokevirtual 196) ∧ 18 + 3 = 21 := ⟨rfl, rfl⟩
theorem xc57_21 : pmCode 57 21 = some (.aload_n 0) ∧ 21 + 1 = 22 := ⟨rfl, rfl⟩
theorem xc57_22 : pmCode 57 22 = some (.getfield 79) ∧ 22 + 3 = 25 := ⟨rfl, rfl⟩
theorem xc57_25 : pmCode 57 25 = some (.aload_n 0) ∧ 25 + 1 = 26 := ⟨rfl, rfl⟩
theorem xc57_26 : pmCode 57 26 = some (.getfield 40) ∧ 26 + 3 = 29 := ⟨rfl, rfl⟩
theorem xc57_29 : pmCode 57 29 = some (.invokevirtual 199) ∧ 29 + 3 = 32 := ⟨rfl, rfl⟩
theorem xc57_32 : pmCode 57 32 = some (.aload_n 0) ∧ 32 + 1 = 33 := ⟨rfl, rfl⟩
theorem xc57_33 : pmCode 57 33 = some (.getfield 97) ∧ 33 + 3 = 36 := ⟨rfl, rfl⟩
theorem xc57_36 : pmCode 57 36 = some (.aload_n 0) ∧ 36 + 1 = 37 := ⟨rfl, rfl⟩
theorem xc57_37 : pmCode 57 37 = some (.getfield 40) ∧ 37 + 3 = 40 := ⟨rfl, rfl⟩
theorem xc57_40 : pmCode 57 40 = some (.invokevirtual 203) ∧ 40 + 3 = 43 := ⟨rfl, rfl⟩
theorem xc57_43 : pmCode 57 43 = some (.iconst 1) ∧ 43 + 1 = 44 := ⟨rfl, rfl⟩
theorem xc57_44 : pmCode 57 44 = some .ireturn := rfl
theorem xc65_0 : pmCode 65 0 = some (.aload_n 0) ∧ 0 + 1 = 1 := ⟨rfl, rfl⟩
theorem xc65_1 : pmCode 65 1 = some (.getfield 12) ∧ 1 + 3 = 4 := ⟨rfl, rfl⟩
theorem xc65_4 : pmCode 65 4 = some (.aload_n 1) ∧ 4 + 1 = 5 := ⟨rfl, rfl⟩
theorem xc65_5 : pmCode 65 5 = some (.invokevirtual 37) ∧ 5 + 3 = 8 := ⟨rfl, rfl⟩
theorem xc65_8 : pmCode 65 8 = some .return_ := rfl
theorem xc137_0 : pmCode 137 0 = some (.aload_n 0) ∧ 0 + 1 = 1 := ⟨rfl, rfl⟩
theorem xc137_1 : pmCode 137 1 = some (.getfield 131) ∧ 1 + 3 = 4 := ⟨rfl, rfl⟩
theorem xc137_4 : pmCode 137 4 = some (.ifCond .ne 36) ∧ ((4 : Nat) : Int) + 36 = ((40 : Nat) : Int) ∧ 4 + 3 = 7 := ⟨rfl, rfl, rfl⟩
theorem xc137_7 : pmCode 137 7 = some (.iload_n 1) ∧ 7 + 1 = 8 := ⟨rfl, rfl⟩
theorem xc137_8 : pmCode 137 8 = some (.invokestatic 135) ∧ 8 + 3 = 11 := ⟨rfl, rfl⟩
theorem xc137_11 : pmCode 137 11 = some (.ifCond .eq 29) ∧ ((11 : Nat) : Int) + 29 = ((40 : Nat) : Int) ∧ 11 + 3 = 14 := ⟨rfl, rfl, rfl⟩
theorem xc137_14 : pmCode 137 14 = some (.iload_n 2) ∧ 14 + 1 = 15 := ⟨rfl, rfl⟩
theorem xc137_15 : pmCode 137 15 = some (.invokestatic 135) ∧ 15 + 3 = 18 := ⟨rfl, rfl⟩
theorem xc137_18 : pmCode 137 18 = some (.ifCond .eq 22) ∧ ((18 : Nat) : Int) + 22 = ((40 : Nat) : Int) ∧ 18 + 3 = 21 := ⟨rfl, rfl, rfl⟩
theorem xc137_21 : pmCode 137 21 = some (.iload_n 1) ∧ 21 + 1 = 22 := ⟨rfl, rfl⟩
theorem xc137_22 : pmCode 137 22 = some (.iload_n 2) ∧ 22 + 1 = 23 := ⟨rfl, rfl⟩
theorem xc137_23 : pmCode 137 23 = some (.if_icmp .eq 17) ∧ ((23 : Nat) : Int) + 17 = ((40 : Nat) : Int) ∧ 23 + 3 = 26 := ⟨rfl, rfl, rfl⟩
theorem xc137_26 : pmCode 137 26 = some (.aload_n 0) ∧ 26 + 1 = 27 := ⟨rfl, rfl⟩
theorem xc137_27 : pmCode 137 27 = some (.getfield 16) ∧ 27 + 3 = 30 := ⟨rfl, rfl⟩
theorem xc137_30 : pmCode 137 30 = some (.bipush 7) ∧ 30 + 2 = 32 := ⟨rfl, rfl⟩
theorem xc137_32 : pmCode 137 32 = some (.iload_n 1) ∧ 32 + 1 = 33 := ⟨rfl, rfl⟩
theorem xc137_33 : pmCode 137 33 = some .imul ∧ 33 + 1 = 34 := ⟨rfl, rfl⟩
theorem xc137_34 : pmCode 137 34 = some (.iload_n 2) ∧ 34 + 1 = 35 := ⟨rfl, rfl⟩
theorem xc137_35 : pmCode 137 35 = some .iadd ∧ 35 + 1 = 36 := ⟨rfl, rfl⟩
theorem xc137_36 : pmCode 137 36 = some .baload ∧ 36 + 1 = 37 := ⟨rfl, rfl⟩
theorem xc137_37 : pmCode 137 37 = some (.ifCond .eq 5) ∧ ((37 : Nat) : Int) + 5 = ((42 : Nat) : Int) ∧ 37 + 3 = 40 := ⟨rfl, rfl, rfl⟩
theorem xc137_40 : pmCode 137 40 = some (.iconst 0) ∧ 40 + 1 = 41 := ⟨rfl, rfl⟩
theorem xc137_41 : pmCode 137 41 = some .ireturn := rfl
theorem xc137_42 : pmCode 137 42 = some (.aload_n 0) ∧ 42 + 1 = 43 := ⟨rfl, rfl⟩
theorem xc137_43 : pmCode 137 43 = some (.getfield 16) ∧ 43 + 3 = 46 := ⟨rfl, rfl⟩
theorem xc137_46 : pmCode 137 46 = some (.bipush 7) ∧ 46 + 2 = 48 := ⟨rfl, rfl⟩
theorem xc137_48 : pmCode 137 48 = some (.iload_n 1) ∧ 48 + 1 = 49 := ⟨rfl, rfl⟩
theorem xc137_49 : pmCode 137 49 = some .imul ∧ 49 + 1 = 50 := ⟨rfl, rfl⟩
theorem xc137_50 : pmCode 137 50 = some (.iload_n 2) ∧ 50 + 1 = 51 := ⟨rfl, rfl⟩
theorem xc137_51 : pmCode 137 51 = some .iadd ∧ 51 + 1 = 52 := ⟨rfl, rfl⟩
theorem xc137_52 : pmCode 137 52 = some (.iconst 1) ∧ 52 + 1 = 53 := ⟨rfl, rfl⟩
theorem xc137_53 : pmCode 137 53 = some .bastore ∧ 53 + 1 = 54 := ⟨rfl, rfl⟩
theorem xc137_54 : pmCode 137 54 = some (.aload_n 0) ∧ 54 + 1 = 55 := ⟨rfl, rfl⟩
theorem xc137_55 : pmCode 137 55 = some (.getfield 16) ∧ 55 + 3 = 58 := ⟨rfl, rfl⟩
theorem xc137_58 : pmCode 137 58 = some (.bipush 7) ∧ 58 + 2 = 60 := ⟨rfl, rfl⟩
theorem xc137_60 : pmCode 137 60 = some (.iload_n 2) ∧ 60 + 1 = 61 := ⟨rfl, rfl⟩
theorem xc137_61 : pmCode 137 61 = some .imul ∧ 61 + 1 = 62 := ⟨rfl, rfl⟩
theorem xc137_62 : pmCode 137 62 = some (.iload_n 1) ∧ 62 + 1 = 63 := ⟨rfl, rfl⟩
theorem xc137_63 : pmCode 137 63 = some .iadd ∧ 63 + 1 = 64 := ⟨rfl, rfl⟩
theorem xc137_64 : pmCode 137 64 = some (.iconst 1) ∧ 64 + 1 = 65 := ⟨rfl, rfl⟩
theorem xc137_65 : pmCode 137 65 = some .bastore ∧ 65 + 1 = 66 := ⟨rfl, rfl⟩
theorem xc137_66 : pmCode 137 66 = some (.iconst 1) ∧ 66 + 1 = 67 := ⟨rfl, rfl⟩
theorem xc137_67 : pmCode 137 67 = some .ireturn := rfl
theorem xc139_0 : pmCode 139 0 = some (.aload_n 0) ∧ 0 + 1 = 1 := ⟨rfl, rfl⟩
theorem xc139_1 : pmCode 139 1 = some (.getfield 131) ∧ 1 + 3 = 4 := ⟨rfl, rfl⟩
theorem xc139_4 : pmCode 139 4 = some (.ifCond .ne 17) ∧ ((4 : Nat) : Int) + 17 = ((21 : Nat) : Int) ∧ 4 + 3 = 7 := ⟨rfl, rfl, rfl⟩
theorem xc139_7 : pmCode 139 7 = some (.iload_n 1) ∧ 7 + 1 = 8 := ⟨rfl, rfl⟩
theorem xc139_8 : pmCode 139 8 = some (.invokestatic 139) ∧ 8 + 3 = 11 := ⟨rfl, rfl⟩
theorem xc139_11 : pmCode 139 11 = some (.ifCond .eq 10) ∧ ((11 : Nat) : Int) + 10 = ((21 : Nat) : Int) ∧ 11 + 3 = 14 := ⟨rfl, rfl, rfl⟩
theorem xc139_14 : pmCode 139 14 = some (.iload_n 2) ∧ 14 + 1 = 15 := ⟨rfl, rfl⟩
theorem xc139_15 : pmCode 139 15 = some (.invokestatic 135) ∧ 15 + 3 = 18 := ⟨rfl, rfl⟩
theorem xc139_18 : pmCode 139 18 = some (.ifCond .ne 5) ∧ ((18 : Nat) : Int) + 5 = ((23 : Nat) : Int) ∧ 18 + 3 = 21 := ⟨rfl, rfl, rfl⟩
theorem xc139_21 : pmCode 139 21 = some (.iconst 0) ∧ 21 + 1 = 22 := ⟨rfl, rfl⟩
theorem xc139_22 : pmCode 139 22 = some .ireturn := rfl
theorem xc139_23 : pmCode 139 23 = some (.aload_n 0) ∧ 23 + 1 = 24 := ⟨rfl, rfl⟩
theorem xc139_24 : pmCode 139 24 = some (.getfield 7) ∧ 24 + 3 = 27 := ⟨rfl, rfl⟩
theorem xc139_27 : pmCode 139 27 = some (.iconst 0) ∧ 27 + 1 = 28 := ⟨rfl, rfl⟩
theorem xc139_28 : pmCode 139 28 = some (.iload_n 1) ∧ 28 + 1 = 29 := ⟨rfl, rfl⟩
theorem xc139_29 : pmCode 139 29 = some .iadd ∧ 29 + 1 = 30 := ⟨rfl, rfl⟩
theorem xc139_30 : pmCode 139 30 = some (.iload_n 2) ∧ 30 + 1 = 31 := ⟨rfl, rfl⟩
theorem xc139_31 : pmCode 139 31 = some .iastore ∧ 31 + 1 = 32 := ⟨rfl, rfl⟩
theorem xc139_32 : pmCode 139 32 = some (.iconst 1) ∧ 32 + 1 = 33 := ⟨rfl, rfl⟩
theorem xc139_33 : pmCode 139 33 = some .ireturn := rfl
theorem xc173_0 : pmCode 173 0 = some (.aload_n 0) ∧ 0 + 1 = 1 := ⟨rfl, rfl⟩
theorem xc173_1 : pmCode 173 1 = some (.getfield 131) ∧ 1 + 3 = 4 := ⟨rfl, rfl⟩
theorem xc173_4 : pmCode 173 4 = some (.ifCond .eq 5) ∧ ((4 : Nat) : Int) + 5 = ((9 : Nat) : Int) ∧ 4 + 3 = 7 := ⟨rfl, rfl, rfl⟩
theorem xc173_7 : pmCode 173 7 = some (.iconst 0) ∧ 7 + 1 = 8 := ⟨rfl, rfl⟩
theorem xc173_8 : pmCode 173 8 = some .ireturn := rfl
theorem xc173_9 : pmCode 173 9 = some (.aload_n 0) ∧ 9 + 1 = 10 := ⟨rfl, rfl⟩
theorem xc173_10 : pmCode 173 10 = some (.iconst 1) ∧ 10 + 1 = 11 := ⟨rfl, rfl⟩
theorem xc173_11 : pmCode 173 11 = some (.putfield 131) ∧ 11 + 3 = 14 := ⟨rfl, rfl⟩
theorem xc173_14 : pmCode 173 14 = some (.aload_n 0) ∧ 14 + 1 = 15 := ⟨rfl, rfl⟩
theorem xc173_15 : pmCode 173 15 = some (.invokevirtual 333) ∧ 15 + 3 = 18 := ⟨rfl, rfl⟩
theorem xc173_18 : pmCode 173 18 = some (.aload_n 0) ∧ 18 + 1 = 19 := ⟨rfl, rfl⟩
theorem xc173_19 : pmCode 173 19 = some (.iconst 0) ∧ 19 + 1 = 20 := ⟨rfl, rfl⟩
theorem xc173_20 : pmCode 173 20 = some (.invokevirtual 336) ∧ 20 + 3 = 23 := ⟨rfl, rfl⟩
theorem xc173_23 : pmCode 173 23 = some (.iconst 1) ∧ 23 + 1 = 24 := ⟨rfl, rfl⟩
theorem xc173_24 : pmCode 173 24 = some .ireturn := rfl
theorem xg16 {ro : Nat → Nat × (Nat → Int32)} {d : Nat} {Q : Option Value → pmS → Prop} {a : xA} {b : xB} {x y : Int} (h : pmWp ro d 5 16 2 0 [some (.ref 3), some (xV x), some (xV y)] [] (xS a b) Q) : pmCs ro (d + 1) 16 [.ref 3, xV x, xV y] (xS a b) Q := x_go xi16 rfl rfl rfl rfl rfl h
theorem w16 {ro : Nat → Nat × (Nat → Int32)} {d : Nat} {Q : Option Value → pmS → Prop} {x y : Int} {a : xA} {b : xB} (h_x : xR x) (h_y : xR y)
    (k1 : (xCmp ((xShr (b 3 3) (7 * x + y)) &&& (1 : Int64)) (0 : Int64) = 0) → Q (some (xV 0)) (xS a b))
    (k2 : (¬ xCmp ((xShr (b 3 3) (7 * x + y)) &&& (1 : Int64)) (0 : Int64) = 0) → Q (some (xV 1)) (xS a b)) :
    pmWp ro d 5 16 2 0 [some (.ref 3), some (xV x), some (xV y)] [] (xS a b) Q := by
  refine x_aloadn xc16_0 rfl ?_
  refine x_gfl (k := 3) xc16_1 rfl rfl rfl xz3 ?_
  refine x_bipush xc16_4 (by decide) ?_
  refine x_iloadn xc16_6 rfl ?_
  refine x_imul xc16_7 ?_
  refine x_iloadn xc16_8 rfl ?_
  refine x_iadd xc16_9 ?_
  refine x_lushr xc16_10 ?_
  refine x_lconst (l := 1) xc16_11 rfl ?_
  refine x_land xc16_12 ?_
  refine x_lconst (l := 0) xc16_13 rfl ?_
  refine x_lcmp xc16_14 ?_
  refine x_ifeq xc16_15 (xRk (by have g0 := xCmpB ((xShr (b 3 3) (7 * x + y)) &&& (1 : Int64)) (0 : Int64); omega)) (fun h0 => ?_) (fun h0 => ?_)
  · refine x_iconst xc16_22 ?_
    refine x_iret xc16_23 (Or.inr ⟨rfl, (by omega)⟩) ?_
    exact k1 h0
  · refine x_iconst xc16_18 ?_
    refine x_goto xc16_19 ?_
    refine x_iret xc16_23 (Or.inr ⟨rfl, (by omega)⟩) ?_
    exact k2 h0

theorem xk16 {ro : Nat → Nat × (Nat → Int32)} {d : Nat} {Q : Option Value → pmS → Prop} {x y : Int} {a : xA} {b : xB} (hd : 1 ≤ d) (h_x : 0 ≤ x ∧ x < 7) (h_y : 0 ≤ y ∧ y < 7) (hT : xBit (b 3 3) (7 * x + y) = true → Q (some (xV 1)) (xS a b)) (hF : xBit (b 3 3) (7 * x + y) = false → Q (some (xV 0)) (xS a b)) : pmCs ro d 16 [.ref 3, xV x, xV y] (xS a b) Q := by
  refine pmCs_deep (d := 1) (xg16 (w16 ⟨by omega, by omega⟩ ⟨by omega, by omega⟩ (fun h => hF ?_) (fun h => hT ?_))) hd
  · rw [xCmp0] at h
    exact (xBit_shr (by omega) (by omega)).mp h
  · rw [xCmp0, xBit_shr (by omega) (by omega)] at h
    simpa using h
theorem xg15 {ro : Nat → Nat × (Nat → Int32)} {d : Nat} {Q : Option Value → pmS → Prop} {a : xA} {b : xB} {x y : Int} (h : pmWp ro d 5 15 2 0 [some (.ref 3), some (xV x), some (xV y)] [] (xS a b) Q) : pmCs ro (d + 1) 15 [.ref 3, xV x, xV y] (xS a b) Q := x_go xi15 rfl rfl rfl rfl rfl h
theorem w15 {ro : Nat → Nat × (Nat → Int32)} {d : Nat} {Q : Option Value → pmS → Prop} {x y : Int} {a : xA} {b : xB} (h_x : xR x) (h_y : xR y) (h1x : 0 ≤ x ∧ x < 7) (h1y : 0 ≤ y ∧ y < 7) (hd : 1 ≤ d)
    (k1 : (xBit (b 3 3) (7 * x + y) = true) → Q (some (xV 0)) (xS a b))
    (k2 : (xBit (b 3 3) (7 * x + y) = false) → Q (some (xV 1)) (xS a (xU b 3 3 ((b 3 3) ||| ((xShL (1 : Int64) (7 * x + y)) ||| (xShL (1 : Int64) (7 * y + x))))))) :
    pmWp ro d 5 15 2 0 [some (.ref 3), some (xV x), some (xV y)] [] (xS a b) Q := by
  refine x_aloadn xc15_0 rfl ?_
  refine x_iloadn xc15_1 rfl ?_
  refine x_iloadn xc15_2 rfl ?_
  refine x_cV (as := [xV x, xV y]) (rest := []) xc15_3 rfl xi16 xz3 ⟨rfl, rfl⟩ rfl rfl ?_
  refine xk16 (by omega) (by omega) (by omega) (fun h0 => ?_) (fun h1 => ?_)
  · refine x_ifeq xc15_6 (xRk (by decide)) (fun h => absurd h (by omega)) (fun _ => ?_)
    refine x_iconst xc15_9 ?_
    refine x_iret xc15_10 (Or.inr ⟨rfl, (by omega)⟩) ?_
    exact k1 h0
  · refine x_ifeq xc15_6 (xRk (by decide)) (fun _ => ?_) (fun h => absurd h (by omega))
    refine x_aloadn xc15_11 rfl ?_
    refine x_dup xc15_12 rfl ?_
    refine x_gfl (k := 3) xc15_13 rfl rfl rfl xz3 ?_
    refine x_lconst (l := 1) xc15_16 rfl ?_
    refine x_bipush xc15_17 (by decide) ?_
    refine x_iloadn xc15_19 rfl ?_
    refine x_imul xc15_20 ?_
    refine x_iloadn xc15_21 rfl ?_
    refine x_iadd xc15_22 ?_
    refine x_lshl xc15_23 ?_
    refine x_lconst (l := 1) xc15_24 rfl ?_
    refine x_bipush xc15_25 (by decide) ?_
    refine x_iloadn xc15_27 rfl ?_
    refine x_imul xc15_28 ?_
    refine x_iloadn xc15_29 rfl ?_
    refine x_iadd xc15_30 ?_
    refine x_lshl xc15_31 ?_
    refine x_lor xc15_32 ?_
    refine x_lor xc15_33 ?_
    refine x_pfl (k := 3) xc15_34 rfl ⟨rfl, rfl⟩ rfl xz3 ?_
    refine x_iconst xc15_37 ?_
    refine x_iret xc15_38 (Or.inr ⟨rfl, (by omega)⟩) ?_
    exact k2 h1

theorem xk15 {ro : Nat → Nat × (Nat → Int32)} {d : Nat} {Q : Option Value → pmS → Prop} {x y : Int} {a : xA} {b : xB} (hd : 2 ≤ d) (h_x : 0 ≤ x ∧ x < 7) (h_y : 0 ≤ y ∧ y < 7) (hT : xBit (b 3 3) (7 * x + y) = true → Q (some (xV 0)) (xS a b)) (hF : xBit (b 3 3) (7 * x + y) = false → Q (some (xV 1)) (xS a (xU b 3 3 ((b 3 3) ||| ((xShL (1 : Int64) (7 * x + y)) ||| (xShL (1 : Int64) (7 * y + x))))))) : pmCs ro d 15 [.ref 3, xV x, xV y] (xS a b) Q := pmCs_deep (d := 2) (xg15 (w15 ⟨by omega, by omega⟩ ⟨by omega, by omega⟩ h_x h_y (by decide) hT hF)) hd
theorem xg13 {ro : Nat → Nat × (Nat → Int32)} {d : Nat} {Q : Option Value → pmS → Prop} {a : xA} {b : xB} {x y : Int} (h : pmWp ro d 11 13 2 0 [some (.ref 0), some (xV x), some (xV y)] [] (xS a b) Q) : pmCs ro (d + 1) 13 [.ref 0, xV x, xV y] (xS a b) Q := x_go xi13 rfl rfl rfl rfl rfl h
theorem w13 {ro : Nat → Nat × (Nat → Int32)} {d : Nat} {Q : Option Value → pmS → Prop} {x y : Int} {a : xA} {b : xB} (hT : kOk (xS a b)) (hA : xAr a) (h_x : xR x) (h_y : xR y) (hd : 4 ≤ d)
    (k1 : (¬ a 0 12 = 0) → Q (some (xV 0)) (xS a b))
    (k2 : (¬ ¬ a 0 12 = 0) → (0 ≤ x ∧ x < 7) → (0 ≤ y ∧ y < 7) → (x = y) → Q (some (xV 0)) (xS a b))
    (k3 : (¬ ¬ a 0 12 = 0) → (0 ≤ x ∧ x < 7) → (0 ≤ y ∧ y < 7) → (¬ x = y) → (xBit (b 3 3) (7 * x + y) = true) → Q (some (xV 0)) (xS a b))
    (k4 : (¬ ¬ a 0 12 = 0) → (0 ≤ x ∧ x < 7) → (0 ≤ y ∧ y < 7) → (¬ x = y) → (xBit (b 3 3) (7 * x + y) = false) → Q (some (xV 1)) (xS a (xU b 3 3 ((b 3 3) ||| ((xShL (1 : Int64) (7 * x + y)) ||| (xShL (1 : Int64) (7 * y + x)))))))
    (k5 : (¬ ¬ a 0 12 = 0) → (0 ≤ x ∧ x < 7) → (¬ (0 ≤ y ∧ y < 7)) → Q (some (xV 0)) (xS a b))
    (k6 : (¬ ¬ a 0 12 = 0) → (¬ (0 ≤ x ∧ x < 7)) → Q (some (xV 0)) (xS a b)) :
    pmWp ro d 11 13 2 0 [some (.ref 0), some (xV x), some (xV y)] [] (xS a b) Q := by
  refine x_aloadn xc13_0 rfl ?_
  refine x_gfi (k := 12) xc13_1 rfl (Or.inr rfl) rfl xz0 ?_
  refine x_ifne xc13_4 (xRk (by have g0 := xt0_12 hT hA; omega)) (fun h0 => ?_) (fun h0 => ?_)
  · refine x_iconst xc13_42 ?_
    refine x_iret xc13_43 (Or.inr ⟨rfl, (by omega)⟩) ?_
    exact k1 h0
  · refine x_iloadn xc13_7 rfl ?_
    refine x_cS (as := [xV x]) (rest := []) xc13_8 rfl rfl xi14 ⟨rfl, rfl⟩ rfl rfl ?_
    refine xk14 (by omega) (xRk (by have g0 := xRb h_x; omega)) (fun h1 => ?_) (fun h2 => ?_)
    · refine x_ifeq xc13_11 (xRk (by decide)) (fun h => absurd h (by omega)) (fun _ => ?_)
      refine x_iloadn xc13_14 rfl ?_
      refine x_cS (as := [xV y]) (rest := []) xc13_15 rfl rfl xi14 ⟨rfl, rfl⟩ rfl rfl ?_
      refine xk14 (by omega) (xRk (by have g0 := xRb h_y; omega)) (fun h4 => ?_) (fun h5 => ?_)
      · refine x_ifeq xc13_18 (xRk (by decide)) (fun h => absurd h (by omega)) (fun _ => ?_)
        refine x_iloadn xc13_21 rfl ?_
        refine x_iloadn xc13_22 rfl ?_
        refine x_iceq xc13_23 (xRk (by have g0 := xRb h_x; omega)) (xRk (by have g0 := xRb h_y; omega)) (fun h7 => ?_) (fun h7 => ?_)
        · refine x_iconst xc13_42 ?_
          refine x_iret xc13_43 (Or.inr ⟨rfl, (by omega)⟩) ?_
          exact k2 h0 h1 h4 h7
        · refine x_aloadn xc13_26 rfl ?_
          refine x_gfr xc13_27 rfl rfl xz0 rfl ?_
          refine x_iloadn xc13_30 rfl ?_
          refine x_iloadn xc13_31 rfl ?_
          refine x_cV (as := [xV x, xV y]) (rest := []) xc13_32 rfl xi15 xz3 ⟨rfl, rfl⟩ rfl rfl ?_
          refine xk15 (by omega) (by omega) (by omega) (fun h8 => ?_) (fun h9 => ?_)
          · refine x_ifeq xc13_35 (xRk (by decide)) (fun _ => ?_) (fun h => absurd h (by omega))
            refine x_iconst xc13_42 ?_
            refine x_iret xc13_43 (Or.inr ⟨rfl, (by omega)⟩) ?_
            exact k3 h0 h1 h4 h7 h8
          · refine x_ifeq xc13_35 (xRk (by decide)) (fun h => absurd h (by omega)) (fun _ => ?_)
            refine x_iconst xc13_38 ?_
            refine x_goto xc13_39 ?_
            refine x_iret xc13_43 (Or.inr ⟨rfl, (by omega)⟩) ?_
            exact k4 h0 h1 h4 h7 h9
      · refine x_ifeq xc13_18 (xRk (by decide)) (fun _ => ?_) (fun h => absurd h (by omega))
        refine x_iconst xc13_42 ?_
        refine x_iret xc13_43 (Or.inr ⟨rfl, (by omega)⟩) ?_
        exact k5 h0 h1 h5
    · refine x_ifeq xc13_11 (xRk (by decide)) (fun _ => ?_) (fun h => absurd h (by omega))
      refine x_iconst xc13_42 ?_
      refine x_iret xc13_43 (Or.inr ⟨rfl, (by omega)⟩) ?_
      exact k6 h0 h2

theorem xg137 {ro : Nat → Nat × (Nat → Int32)} {d : Nat} {Q : Option Value → pmS → Prop} {a : xA} {b : xB} {x y : Int} (h : pmWp ro d 12 137 2 0 [some (.ref 87), some (xV x), some (xV y)] [] (xS a b) Q) : pmCs ro (d + 1) 137 [.ref 87, xV x, xV y] (xS a b) Q := x_go xi137 rfl rfl rfl rfl rfl h
theorem w137 {ro : Nat → Nat × (Nat → Int32)} {d : Nat} {Q : Option Value → pmS → Prop} {x y : Int} {a : xA} {b : xB} (hT : kOk (xS a b)) (hA : xAr a) (h_x : xR x) (h_y : xR y) (hd : 4 ≤ d)
    (k1 : (¬ a 87 4 = 0) → Q (some (xV 0)) (xS a b))
    (k2 : (¬ ¬ a 87 4 = 0) → (0 ≤ x ∧ x < 7) → (0 ≤ y ∧ y < 7) → (x = y) → Q (some (xV 0)) (xS a b))
    (k3 : (¬ ¬ a 87 4 = 0) → (0 ≤ x ∧ x < 7) → (0 ≤ y ∧ y < 7) → (¬ x = y) → (a 90 (7 * x + y) = 0) → Q (some (xV 1)) (xS (xU (xU a 90 (7 * x + y) 1) 90 (7 * y + x) 1) b))
    (k4 : (¬ ¬ a 87 4 = 0) → (0 ≤ x ∧ x < 7) → (0 ≤ y ∧ y < 7) → (¬ x = y) → (¬ a 90 (7 * x + y) = 0) → Q (some (xV 0)) (xS a b))
    (k5 : (¬ ¬ a 87 4 = 0) → (0 ≤ x ∧ x < 7) → (¬ (0 ≤ y ∧ y < 7)) → Q (some (xV 0)) (xS a b))
    (k6 : (¬ ¬ a 87 4 = 0) → (¬ (0 ≤ x ∧ x < 7)) → Q (some (xV 0)) (xS a b)) :
    pmWp ro d 12 137 2 0 [some (.ref 87), some (xV x), some (xV y)] [] (xS a b) Q := by
  refine x_aloadn xc137_0 rfl ?_
  refine x_gfi (k := 4) xc137_1 rfl (Or.inr rfl) rfl xz87 ?_
  refine x_ifne xc137_4 (xRk (by have g0 := xt87_4 hT hA; omega)) (fun h0 => ?_) (fun h0 => ?_)
  · refine x_iconst xc137_40 ?_
    refine x_iret xc137_41 (Or.inr ⟨rfl, (by omega)⟩) ?_
    exact k1 h0
  · refine x_iloadn xc137_7 rfl ?_
    refine x_cS (as := [xV x]) (rest := []) xc137_8 rfl rfl xi138 ⟨rfl, rfl⟩ rfl rfl ?_
    refine xk138 (by omega) (xRk (by have g0 := xRb h_x; omega)) (fun h1 => ?_) (fun h2 => ?_)
    · refine x_ifeq xc137_11 (xRk (by decide)) (fun h => absurd h (by omega)) (fun _ => ?_)
      refine x_iloadn xc137_14 rfl ?_
      refine x_cS (as := [xV y]) (rest := []) xc137_15 rfl rfl xi138 ⟨rfl, rfl⟩ rfl rfl ?_
      refine xk138 (by omega) (xRk (by have g0 := xRb h_y; omega)) (fun h4 => ?_) (fun h5 => ?_)
      · refine x_ifeq xc137_18 (xRk (by decide)) (fun h => absurd h (by omega)) (fun _ => ?_)
        refine x_iloadn xc137_21 rfl ?_
        refine x_iloadn xc137_22 rfl ?_
        refine x_iceq xc137_23 (xRk (by have g0 := xRb h_x; omega)) (xRk (by have g0 := xRb h_y; omega)) (fun h7 => ?_) (fun h7 => ?_)
        · refine x_iconst xc137_40 ?_
          refine x_iret xc137_41 (Or.inr ⟨rfl, (by omega)⟩) ?_
          exact k2 h0 h1 h4 h7
        · refine x_aloadn xc137_26 rfl ?_
          refine x_gfr xc137_27 rfl rfl xz87 rfl ?_
          refine x_bipush xc137_30 (by decide) ?_
          refine x_iloadn xc137_32 rfl ?_
          refine x_imul xc137_33 ?_
          refine x_iloadn xc137_34 rfl ?_
          refine x_iadd xc137_35 ?_
          refine x_bal xc137_36 xz90 (Or.inl rfl) (by have g0 := xRb h_x; have g1 := xRb h_y; omega) (by have g0 := xRb h_x; have g1 := xRb h_y; omega) (by have g0 := xRb h_x; have g1 := xRb h_y; omega) ?_
          refine x_ifeq xc137_37 (xRk (by have g0 := xRb h_x; have g1 := xRb h_y; have g2 := xt90 hT hA (k := 7 * x + y) (by omega); omega)) (fun h8 => ?_) (fun h8 => ?_)
          · refine x_aloadn xc137_42 rfl ?_
            refine x_gfr xc137_43 rfl rfl xz87 rfl ?_
            refine x_bipush xc137_46 (by decide) ?_
            refine x_iloadn xc137_48 rfl ?_
            refine x_imul xc137_49 ?_
            refine x_iloadn xc137_50 rfl ?_
            refine x_iadd xc137_51 ?_
            refine x_iconst xc137_52 ?_
            refine x_zas (by omega) xc137_53 xz90 (by have g0 := xRb h_x; have g1 := xRb h_y; omega) (by have g0 := xRb h_x; have g1 := xRb h_y; omega) (by have g0 := xRb h_x; have g1 := xRb h_y; omega) ?_
            refine x_aloadn xc137_54 rfl ?_
            refine x_gfr xc137_55 rfl rfl xz87 rfl ?_
            refine x_bipush xc137_58 (by decide) ?_
            refine x_iloadn xc137_60 rfl ?_
            refine x_imul xc137_61 ?_
            refine x_iloadn xc137_62 rfl ?_
            refine x_iadd xc137_63 ?_
            refine x_iconst xc137_64 ?_
            refine x_zas (by omega) xc137_65 xz90 (by have g0 := xRb h_y; have g1 := xRb h_x; omega) (by have g0 := xRb h_y; have g1 := xRb h_x; omega) (by have g0 := xRb h_y; have g1 := xRb h_x; omega) ?_
            refine x_iconst xc137_66 ?_
            refine x_iret xc137_67 (Or.inr ⟨rfl, (by omega)⟩) ?_
            exact k3 h0 h1 h4 h7 h8
          · refine x_iconst xc137_40 ?_
            refine x_iret xc137_41 (Or.inr ⟨rfl, (by omega)⟩) ?_
            exact k4 h0 h1 h4 h7 h8
      · refine x_ifeq xc137_18 (xRk (by decide)) (fun _ => ?_) (fun h => absurd h (by omega))
        refine x_iconst xc137_40 ?_
        refine x_iret xc137_41 (Or.inr ⟨rfl, (by omega)⟩) ?_
        exact k5 h0 h1 h5
    · refine x_ifeq xc137_11 (xRk (by decide)) (fun _ => ?_) (fun h => absurd h (by omega))
      refine x_iconst xc137_40 ?_
      refine x_iret xc137_41 (Or.inr ⟨rfl, (by omega)⟩) ?_
      exact k6 h0 h2

theorem xg19 {ro : Nat → Nat × (Nat → Int32)} {d : Nat} {Q : Option Value → pmS → Prop} {a : xA} {b : xB} {x y : Int} {l : Int64} (h : pmWp ro d 11 19 3 0 [some (.long l), none, some (xV x), some (xV y)] [] (xS a b) Q) : pmCs ro (d + 1) 19 [.long l, xV x, xV y] (xS a b) Q := x_go xi19 rfl rfl rfl rfl rfl h
theorem w19 {ro : Nat → Nat × (Nat → Int32)} {d : Nat} {Q : Option Value → pmS → Prop} {x y : Int} {l : Int64} {a : xA} {b : xB} (h_x : xR x) (h_y : xR y)
    (k1 : Q (some (.long ((l &&& ((xShL (15 : Int64) (4 * x)) ^^^ (-1 : Int64))) ||| (xShL (Int64.ofInt y) (4 * x))))) (xS a b)) :
    pmWp ro d 11 19 3 0 [some (.long l), none, some (xV x), some (xV y)] [] (xS a b) Q := by
  refine x_lloadn xc19_0 rfl ?_
  refine x_ldc2 (l := 15) xc19_1 rfl ?_
  refine x_iconst xc19_4 ?_
  refine x_iloadn xc19_5 rfl ?_
  refine x_imul xc19_6 ?_
  refine x_lshl xc19_7 ?_
  refine x_ldc2 (l := (-1)) xc19_8 rfl ?_
  refine x_lxor xc19_11 ?_
  refine x_land xc19_12 ?_
  refine x_iloadn xc19_13 rfl ?_
  refine x_i2l (xRk (by have g0 := xRb h_y; omega)) xc19_14 ?_
  refine x_iconst xc19_15 ?_
  refine x_iloadn xc19_16 rfl ?_
  refine x_imul xc19_17 ?_
  refine x_lshl xc19_18 ?_
  refine x_lor xc19_19 ?_
  refine x_lret xc19_20 rfl ?_
  exact k1

/-- a slot written -/
def xWith (l : Int64) (x y : Int) : Int64 := (l &&& ((xShL (15 : Int64) (4 * x)) ^^^ (-1 : Int64))) ||| (xShL (Int64.ofInt y) (4 * x))
theorem xk19 {ro : Nat → Nat × (Nat → Int32)} {d : Nat} {Q : Option Value → pmS → Prop} {x y : Int} {l : Int64} {a : xA} {b : xB} (hd : 1 ≤ d) (h_x : xR x) (h_y : xR y) (hQ : Q (some (.long (xWith l x y))) (xS a b)) : pmCs ro d 19 [.long l, xV x, xV y] (xS a b) Q := pmCs_deep (d := 1) (xg19 (w19 h_x h_y hQ)) hd
theorem xg17 {ro : Nat → Nat × (Nat → Int32)} {d : Nat} {Q : Option Value → pmS → Prop} {a : xA} {b : xB} {x y : Int} (h : pmWp ro d 11 17 2 0 [some (.ref 0), some (xV x), some (xV y)] [] (xS a b) Q) : pmCs ro (d + 1) 17 [.ref 0, xV x, xV y] (xS a b) Q := x_go xi17 rfl rfl rfl rfl rfl h
theorem w17 {ro : Nat → Nat × (Nat → Int32)} {d : Nat} {Q : Option Value → pmS → Prop} {x y : Int} {a : xA} {b : xB} (hT : kOk (xS a b)) (hA : xAr a) (h_x : xR x) (h_y : xR y) (hd : 4 ≤ d)
    (k1 : (¬ a 0 12 = 0) → Q (some (xV 0)) (xS a b))
    (k2 : (¬ ¬ a 0 12 = 0) → (0 ≤ x ∧ x < 4) → (0 ≤ y ∧ y < 7) → Q (some (xV 1)) (xS a (xU b 21 4 (xWith (b 21 4) x (y + 1)))))
    (k3 : (¬ ¬ a 0 12 = 0) → (0 ≤ x ∧ x < 4) → (¬ (0 ≤ y ∧ y < 7)) → Q (some (xV 0)) (xS a b))
    (k4 : (¬ ¬ a 0 12 = 0) → (¬ (0 ≤ x ∧ x < 4)) → Q (some (xV 0)) (xS a b)) :
    pmWp ro d 11 17 2 0 [some (.ref 0), some (xV x), some (xV y)] [] (xS a b) Q := by
  refine x_aloadn xc17_0 rfl ?_
  refine x_gfi (k := 12) xc17_1 rfl (Or.inr rfl) rfl xz0 ?_
  refine x_ifne xc17_4 (xRk (by have g0 := xt0_12 hT hA; omega)) (fun h0 => ?_) (fun h0 => ?_)
  · refine x_iconst xc17_21 ?_
    refine x_iret xc17_22 (Or.inr ⟨rfl, (by omega)⟩) ?_
    exact k1 h0
  · refine x_iloadn xc17_7 rfl ?_
    refine x_cS (as := [xV x]) (rest := []) xc17_8 rfl rfl xi18 ⟨rfl, rfl⟩ rfl rfl ?_
    refine xk18 (by omega) (xRk (by have g0 := xRb h_x; omega)) (fun h1 => ?_) (fun h2 => ?_)
    · refine x_ifeq xc17_11 (xRk (by decide)) (fun h => absurd h (by omega)) (fun _ => ?_)
      refine x_iloadn xc17_14 rfl ?_
      refine x_cS (as := [xV y]) (rest := []) xc17_15 rfl rfl xi14 ⟨rfl, rfl⟩ rfl rfl ?_
      refine xk14 (by omega) (xRk (by have g0 := xRb h_y; omega)) (fun h4 => ?_) (fun h5 => ?_)
      · refine x_ifne xc17_18 (xRk (by decide)) (fun _ => ?_) (fun h => absurd h (by omega))
        refine x_aloadn xc17_23 rfl ?_
        refine x_gfr xc17_24 rfl rfl xz0 rfl ?_
        refine x_aloadn xc17_27 rfl ?_
        refine x_gfr xc17_28 rfl rfl xz0 rfl ?_
        refine x_gfl (k := 4) xc17_31 rfl rfl rfl xz21 ?_
        refine x_iloadn xc17_34 rfl ?_
        refine x_iloadn xc17_35 rfl ?_
        refine x_iconst xc17_36 ?_
        refine x_iadd xc17_37 ?_
        refine x_cS (as := [.long (b 21 4), xV x, xV (y + 1)]) (rest := [.ref 21]) xc17_38 rfl rfl xi19 ⟨rfl, rfl⟩ rfl rfl ?_
        refine xk19 (by omega) (xRk (by have g0 := xRb h_x; omega)) (xRk (by have g0 := xRb h_y; omega)) ?_
        refine x_pfl (k := 4) xc17_41 rfl ⟨rfl, rfl⟩ rfl xz21 ?_
        refine x_iconst xc17_44 ?_
        refine x_iret xc17_45 (Or.inr ⟨rfl, (by omega)⟩) ?_
        exact k2 h0 h1 h4
      · refine x_ifne xc17_18 (xRk (by decide)) (fun h => absurd h (by omega)) (fun _ => ?_)
        refine x_iconst xc17_21 ?_
        refine x_iret xc17_22 (Or.inr ⟨rfl, (by omega)⟩) ?_
        exact k3 h0 h1 h5
    · refine x_ifeq xc17_11 (xRk (by decide)) (fun _ => ?_) (fun h => absurd h (by omega))
      refine x_iconst xc17_21 ?_
      refine x_iret xc17_22 (Or.inr ⟨rfl, (by omega)⟩) ?_
      exact k4 h0 h2

theorem xg139 {ro : Nat → Nat × (Nat → Int32)} {d : Nat} {Q : Option Value → pmS → Prop} {a : xA} {b : xB} {x y : Int} (h : pmWp ro d 12 139 2 0 [some (.ref 87), some (xV x), some (xV y)] [] (xS a b) Q) : pmCs ro (d + 1) 139 [.ref 87, xV x, xV y] (xS a b) Q := x_go xi139 rfl rfl rfl rfl rfl h
theorem w139 {ro : Nat → Nat × (Nat → Int32)} {d : Nat} {Q : Option Value → pmS → Prop} {x y : Int} {a : xA} {b : xB} (hT : kOk (xS a b)) (hA : xAr a) (h_x : xR x) (h_y : xR y) (hd : 4 ≤ d)
    (k1 : (¬ a 87 4 = 0) → Q (some (xV 0)) (xS a b))
    (k2 : (¬ ¬ a 87 4 = 0) → (0 ≤ x ∧ x < 4) → (0 ≤ y ∧ y < 7) → Q (some (xV 1)) (xS (xU a 88 (0 + x) y) b))
    (k3 : (¬ ¬ a 87 4 = 0) → (0 ≤ x ∧ x < 4) → (¬ (0 ≤ y ∧ y < 7)) → Q (some (xV 0)) (xS a b))
    (k4 : (¬ ¬ a 87 4 = 0) → (¬ (0 ≤ x ∧ x < 4)) → Q (some (xV 0)) (xS a b)) :
    pmWp ro d 12 139 2 0 [some (.ref 87), some (xV x), some (xV y)] [] (xS a b) Q := by
  refine x_aloadn xc139_0 rfl ?_
  refine x_gfi (k := 4) xc139_1 rfl (Or.inr rfl) rfl xz87 ?_
  refine x_ifne xc139_4 (xRk (by have g0 := xt87_4 hT hA; omega)) (fun h0 => ?_) (fun h0 => ?_)
  · refine x_iconst xc139_21 ?_
    refine x_iret xc139_22 (Or.inr ⟨rfl, (by omega)⟩) ?_
    exact k1 h0
  · refine x_iloadn xc139_7 rfl ?_
    refine x_cS (as := [xV x]) (rest := []) xc139_8 rfl rfl xi140 ⟨rfl, rfl⟩ rfl rfl ?_
    refine xk140 (by omega) (xRk (by have g0 := xRb h_x; omega)) (fun h1 => ?_) (fun h2 => ?_)
    · refine x_ifeq xc139_11 (xRk (by decide)) (fun h => absurd h (by omega)) (fun _ => ?_)
      refine x_iloadn xc139_14 rfl ?_
      refine x_cS (as := [xV y]) (rest := []) xc139_15 rfl rfl xi138 ⟨rfl, rfl⟩ rfl rfl ?_
      refine xk138 (by omega) (xRk (by have g0 := xRb h_y; omega)) (fun h4 => ?_) (fun h5 => ?_)
      · refine x_ifne xc139_18 (xRk (by decide)) (fun _ => ?_) (fun h => absurd h (by omega))
        refine x_aloadn xc139_23 rfl ?_
        refine x_gfr xc139_24 rfl rfl xz87 rfl ?_
        refine x_iconst xc139_27 ?_
        refine x_iloadn xc139_28 rfl ?_
        refine x_iadd xc139_29 ?_
        refine x_iloadn xc139_30 rfl ?_
        refine x_ias xc139_31 xz88 (by have g0 := xRb h_x; omega) (by have g0 := xRb h_x; omega) (by have g0 := xRb h_x; omega) ?_
        refine x_iconst xc139_32 ?_
        refine x_iret xc139_33 (Or.inr ⟨rfl, (by omega)⟩) ?_
        exact k2 h0 h1 h4
      · refine x_ifne xc139_18 (xRk (by decide)) (fun h => absurd h (by omega)) (fun _ => ?_)
        refine x_iconst xc139_21 ?_
        refine x_iret xc139_22 (Or.inr ⟨rfl, (by omega)⟩) ?_
        exact k3 h0 h1 h5
    · refine x_ifeq xc139_11 (xRk (by decide)) (fun _ => ?_) (fun h => absurd h (by omega))
      refine x_iconst xc139_21 ?_
      refine x_iret xc139_22 (Or.inr ⟨rfl, (by omega)⟩) ?_
      exact k4 h0 h2

theorem xg57 {ro : Nat → Nat × (Nat → Int32)} {d : Nat} {Q : Option Value → pmS → Prop} {a : xA} {b : xB} (h : pmWp ro d 11 57 2 0 [some (.ref 0)] [] (xS a b) Q) : pmCs ro (d + 1) 57 [.ref 0] (xS a b) Q := x_go xi57 rfl rfl rfl rfl rfl h
theorem w57 {ro : Nat → Nat × (Nat → Int32)} {d : Nat} {Q : Option Value → pmS → Prop} {a : xA} {b : xB} (hT : kOk (xS a b)) (hA : xAr a) (hd : 4 ≤ d)
    (k1 : (a 0 12 = 0) → pmCs ro d 58 [.ref 3] (xS (xU a 0 12 1) b) fun r σ' => pmWp ro d 11 57 2 21 [some (.ref 0)] (r.toList ++ []) σ' Q)
    (k2 : (¬ a 0 12 = 0) → Q (some (xV 0)) (xS a b)) :
    pmWp ro d 11 57 2 0 [some (.ref 0)] [] (xS a b) Q := by
  refine x_aloadn xc57_0 rfl ?_
  refine x_gfi (k := 12) xc57_1 rfl (Or.inr rfl) rfl xz0 ?_
  refine x_ifeq xc57_4 (xRk (by have g0 := xt0_12 hT hA; omega)) (fun h0 => ?_) (fun h0 => ?_)
  · refine x_aloadn xc57_9 rfl ?_
    refine x_iconst xc57_10 ?_
    refine x_pfz (k := 12) (by omega) xc57_11 rfl ⟨rfl, rfl⟩ rfl xz0 ?_
    refine x_aloadn xc57_14 rfl ?_
    refine x_gfr xc57_15 rfl rfl xz0 rfl ?_
    refine x_cV (as := []) (rest := []) xc57_18 rfl xi58 xz3 ⟨rfl, rfl⟩ rfl rfl ?_
    exact k1 h0
  · refine x_iconst xc57_7 ?_
    refine x_iret xc57_8 (Or.inr ⟨rfl, (by omega)⟩) ?_
    exact k2 h0

theorem xg173 {ro : Nat → Nat × (Nat → Int32)} {d : Nat} {Q : Option Value → pmS → Prop} {a : xA} {b : xB} (h : pmWp ro d 12 173 2 0 [some (.ref 87)] [] (xS a b) Q) : pmCs ro (d + 1) 173 [.ref 87] (xS a b) Q := x_go xi173 rfl rfl rfl rfl rfl h
theorem w173 {ro : Nat → Nat × (Nat → Int32)} {d : Nat} {Q : Option Value → pmS → Prop} {a : xA} {b : xB} (hT : kOk (xS a b)) (hA : xAr a) (hd : 4 ≤ d)
    (k1 : (a 87 4 = 0) → pmCs ro d 174 [.ref 87] (xS (xU a 87 4 1) b) fun r σ' => pmWp ro d 12 173 2 18 [some (.ref 87)] (r.toList ++ []) σ' Q)
    (k2 : (¬ a 87 4 = 0) → Q (some (xV 0)) (xS a b)) :
    pmWp ro d 12 173 2 0 [some (.ref 87)] [] (xS a b) Q := by
  refine x_aloadn xc173_0 rfl ?_
  refine x_gfi (k := 4) xc173_1 rfl (Or.inr rfl) rfl xz87 ?_
  refine x_ifeq xc173_4 (xRk (by have g0 := xt87_4 hT hA; omega)) (fun h0 => ?_) (fun h0 => ?_)
  · refine x_aloadn xc173_9 rfl ?_
    refine x_iconst xc173_10 ?_
    refine x_pfz (k := 4) (by omega) xc173_11 rfl ⟨rfl, rfl⟩ rfl xz87 ?_
    refine x_aloadn xc173_14 rfl ?_
    refine x_cV (as := []) (rest := []) xc173_15 rfl xi174 xz87 ⟨rfl, rfl⟩ rfl rfl ?_
    exact k1 h0
  · refine x_iconst xc173_7 ?_
    refine x_iret xc173_8 (Or.inr ⟨rfl, (by omega)⟩) ?_
    exact k2 h0

theorem w57_21 {ro : Nat → Nat × (Nat → Int32)} {d : Nat} {Q : Option Value → pmS → Prop} {a : xA} {b : xB} (hT : kOk (xS a b)) (hA : xAr a) (hd : 4 ≤ d)
    (k1 : pmCs ro d 59 [.ref 43, .ref 21] (xS a b) fun r σ' => pmWp ro d 11 57 2 32 [some (.ref 0)] (r.toList ++ []) σ' Q) :
    pmWp ro d 11 57 2 21 [some (.ref 0)] [] (xS a b) Q := by
  refine x_aloadn xc57_21 rfl ?_
  refine x_gfr xc57_22 rfl rfl xz0 rfl ?_
  refine x_aloadn xc57_25 rfl ?_
  refine x_gfr xc57_26 rfl rfl xz0 rfl ?_
  refine x_cV (as := [.ref 21]) (rest := []) xc57_29 rfl xi59 xz43 ⟨rfl, rfl⟩ rfl rfl ?_
  exact k1

theorem w57_32 {ro : Nat → Nat × (Nat → Int32)} {d : Nat} {Q : Option Value → pmS → Prop} {a : xA} {b : xB} (hT : kOk (xS a b)) (hA : xAr a) (hd : 4 ≤ d)
    (k1 : pmCs ro d 65 [.ref 79, .ref 21] (xS a b) fun r σ' => pmWp ro d 11 57 2 43 [some (.ref 0)] (r.toList ++ []) σ' Q) :
    pmWp ro d 11 57 2 32 [some (.ref 0)] [] (xS a b) Q := by
  refine x_aloadn xc57_32 rfl ?_
  refine x_gfr xc57_33 rfl rfl xz0 rfl ?_
  refine x_aloadn xc57_36 rfl ?_
  refine x_gfr xc57_37 rfl rfl xz0 rfl ?_
  refine x_cV (as := [.ref 21]) (rest := []) xc57_40 rfl xi65 xz79 ⟨rfl, rfl⟩ rfl rfl ?_
  exact k1

theorem w57_43 {ro : Nat → Nat × (Nat → Int32)} {d : Nat} {Q : Option Value → pmS → Prop} {a : xA} {b : xB} (hT : kOk (xS a b)) (hA : xAr a) (hd : 4 ≤ d)
    (k1 : Q (some (xV 1)) (xS a b)) :
    pmWp ro d 11 57 2 43 [some (.ref 0)] [] (xS a b) Q := by
  refine x_iconst xc57_43 ?_
  refine x_iret xc57_44 (Or.inr ⟨rfl, (by omega)⟩) ?_
  exact k1

theorem w173_18 {ro : Nat → Nat × (Nat → Int32)} {d : Nat} {Q : Option Value → pmS → Prop} {a : xA} {b : xB} (hT : kOk (xS a b)) (hA : xAr a) (hd : 4 ≤ d)
    (k1 : pmCs ro d 181 [.ref 87, xV 0] (xS a b) fun r σ' => pmWp ro d 12 173 2 23 [some (.ref 87)] (r.toList ++ []) σ' Q) :
    pmWp ro d 12 173 2 18 [some (.ref 87)] [] (xS a b) Q := by
  refine x_aloadn xc173_18 rfl ?_
  refine x_iconst xc173_19 ?_
  refine x_cV (as := [xV 0]) (rest := []) xc173_20 rfl xi181 xz87 ⟨rfl, rfl⟩ rfl rfl ?_
  exact k1

theorem w173_23 {ro : Nat → Nat × (Nat → Int32)} {d : Nat} {Q : Option Value → pmS → Prop} {a : xA} {b : xB} (hT : kOk (xS a b)) (hA : xAr a) (hd : 4 ≤ d)
    (k1 : Q (some (xV 1)) (xS a b)) :
    pmWp ro d 12 173 2 23 [some (.ref 87)] [] (xS a b) Q := by
  refine x_iconst xc173_23 ?_
  refine x_iret xc173_24 (Or.inr ⟨rfl, (by omega)⟩) ?_
  exact k1

theorem w65_8 {ro : Nat → Nat × (Nat → Int32)} {d : Nat} {Q : Option Value → pmS → Prop} {a : xA} {b : xB} (hT : kOk (xS a b)) (hA : xAr a)
    (k1 : Q none (xS a b)) :
    pmWp ro d 0 65 0 8 [some (.ref 79), some (.ref 21)] [] (xS a b) Q := by
  refine x_ret xc65_8 rfl ?_
  exact k1

theorem xg65 {ro : Nat → Nat × (Nat → Int32)} {d : Nat} {Q : Option Value → pmS → Prop} {a : xA} {b : xB} (h : pmWp ro d 0 65 0 0 [some (.ref 79), some (.ref 21)] [] (xS a b) Q) : pmCs ro (d + 1) 65 [.ref 79, .ref 21] (xS a b) Q := x_go xi65 rfl rfl rfl rfl rfl h
theorem w65 {ro : Nat → Nat × (Nat → Int32)} {d : Nat} {Q : Option Value → pmS → Prop} {a : xA} {b : xB} (hT : kOk (xS a b)) (hA : xAr a)
    (k1 : pmCs ro d 66 [.ref 80, .ref 21] (xS a b) fun r σ' => pmWp ro d 0 65 0 8 [some (.ref 79), some (.ref 21)] (r.toList ++ []) σ' Q) :
    pmWp ro d 0 65 0 0 [some (.ref 79), some (.ref 21)] [] (xS a b) Q := by
  refine x_aloadn xc65_0 rfl ?_
  refine x_gfr xc65_1 rfl rfl xz79 rfl ?_
  refine x_aloadn xc65_4 rfl ?_
  refine x_cV (as := [.ref 21]) (rest := []) xc65_5 rfl xi66 xz80 ⟨rfl, rfl⟩ rfl rfl ?_
  exact k1

end
