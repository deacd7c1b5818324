/-! exact: the class reads a wish, its walks -/
section
set_option maxRecDepth 100000
theorem xi32 : pmInf[32]? = some pmI_32 := rfl
theorem xi34 : pmInf[34]? = some pmI_34 := rfl
theorem xi35 : pmInf[35]? = some pmI_35 := rfl
theorem xi36 : pmInf[36]? = some pmI_36 := rfl
theorem xi38 : pmInf[38]? = some pmI_38 := rfl
theorem xi41 : pmInf[41]? = some pmI_41 := rfl
theorem xi42 : pmInf[42]? = some pmI_42 := rfl
theorem xi43 : pmInf[43]? = some pmI_43 := rfl
theorem xc32_0 : pmCode 32 0 = some (.aload_n 0) ∧ 0 + 1 = 1 := ⟨rfl, rfl⟩
theorem xc32_1 : pmCode 32 1 = some (.getfield 15) ∧ 1 + 3 = 4 := ⟨rfl, rfl⟩
theorem xc32_4 : pmCode 32 4 = some (.iload_n 1) ∧ 4 + 1 = 5 := ⟨rfl, rfl⟩
theorem xc32_5 : pmCode 32 5 = some (.invokevirtual 19) ∧ 5 + 3 = 8 := ⟨rfl, rfl⟩
theorem xc32_8 : pmCode 32 8 = some (.aload_n 0) ∧ 8 + 1 = 9 := ⟨rfl, rfl⟩
theorem xc32_9 : pmCode 32 9 = some (.iconst 0) ∧ 9 + 1 = 10 := ⟨rfl, rfl⟩
theorem xc32_10 : pmCode 32 10 = some (.putfield 25) ∧ 10 + 3 = 13 := ⟨rfl, rfl⟩
theorem xc32_13 : pmCode 32 13 = some (.aload_n 0) ∧ 13 + 1 = 14 := ⟨rfl, rfl⟩
theorem xc32_14 : pmCode 32 14 = some (.iconst 0) ∧ 14 + 1 = 15 := ⟨rfl, rfl⟩
theorem xc32_15 : pmCode 32 15 = some (.invokevirtual 29) ∧ 15 + 3 = 18 := ⟨rfl, rfl⟩
theorem xc32_18 : pmCode 32 18 = some (.ifCond .eq 23) ∧ ((18 : Nat) : Int) + 23 = ((41 : Nat) : Int) ∧ 18 + 3 = 21 := ⟨rfl, rfl, rfl⟩
theorem xc32_21 : pmCode 32 21 = some (.aload_n 0) ∧ 21 + 1 = 22 := ⟨rfl, rfl⟩
theorem xc32_22 : pmCode 32 22 = some (.getfield 15) ∧ 22 + 3 = 25 := ⟨rfl, rfl⟩
theorem xc32_25 : pmCode 32 25 = some (.getfield 33) ∧ 25 + 3 = 28 := ⟨rfl, rfl⟩
theorem xc32_28 : pmCode 32 28 = some (.iload_n 1) ∧ 28 + 1 = 29 := ⟨rfl, rfl⟩
theorem xc32_29 : pmCode 32 29 = some (.if_icmp .ge 12) ∧ ((29 : Nat) : Int) + 12 = ((41 : Nat) : Int) ∧ 29 + 3 = 32 := ⟨rfl, rfl, rfl⟩
theorem xc32_32 : pmCode 32 32 = some (.aload_n 0) ∧ 32 + 1 = 33 := ⟨rfl, rfl⟩
theorem xc32_33 : pmCode 32 33 = some (.getfield 15) ∧ 33 + 3 = 36 := ⟨rfl, rfl⟩
theorem xc32_36 : pmCode 32 36 = some (.iconst 1) ∧ 36 + 1 = 37 := ⟨rfl, rfl⟩
theorem xc32_37 : pmCode 32 37 = some (.invokevirtual 36) ∧ 37 + 3 = 40 := ⟨rfl, rfl⟩
theorem xc32_40 : pmCode 32 40 = some .pop ∧ 40 + 1 = 41 := ⟨rfl, rfl⟩
theorem xc32_41 : pmCode 32 41 = some (.aload_n 0) ∧ 41 + 1 = 42 := ⟨rfl, rfl⟩
theorem xc32_42 : pmCode 32 42 = some (.getfield 15) ∧ 42 + 3 = 45 := ⟨rfl, rfl⟩
theorem xc32_45 : pmCode 32 45 = some (.getfield 39) ∧ 45 + 3 = 48 := ⟨rfl, rfl⟩
theorem xc32_48 : pmCode 32 48 = some .ireturn := rfl
theorem xc34_0 : pmCode 34 0 = some (.aload_n 0) ∧ 0 + 1 = 1 := ⟨rfl, rfl⟩
theorem xc34_1 : pmCode 34 1 = some (.iload_n 1) ∧ 1 + 1 = 2 := ⟨rfl, rfl⟩
theorem xc34_2 : pmCode 34 2 = some (.invokevirtual 42) ∧ 2 + 3 = 5 := ⟨rfl, rfl⟩
theorem xc34_5 : pmCode 34 5 = some (.ifCond .ne 5) ∧ ((5 : Nat) : Int) + 5 = ((10 : Nat) : Int) ∧ 5 + 3 = 8 := ⟨rfl, rfl, rfl⟩
theorem xc34_8 : pmCode 34 8 = some (.iconst 0) ∧ 8 + 1 = 9 := ⟨rfl, rfl⟩
theorem xc34_9 : pmCode 34 9 = some .ireturn := rfl
theorem xc34_10 : pmCode 34 10 = some (.iconst 0) ∧ 10 + 1 = 11 := ⟨rfl, rfl⟩
theorem xc34_11 : pmCode 34 11 = some (.istore_n 2) ∧ 11 + 1 = 12 := ⟨rfl, rfl⟩
theorem xc34_12 : pmCode 34 12 = some (.iload_n 2) ∧ 12 + 1 = 13 := ⟨rfl, rfl⟩
theorem xc34_13 : pmCode 34 13 = some (.bipush 40) ∧ 13 + 2 = 15 := ⟨rfl, rfl⟩
theorem xc34_15 : pmCode 34 15 = some (.if_icmp .ge 39) ∧ ((15 : Nat) : Int) + 39 = ((54 : Nat) : Int) ∧ 15 + 3 = 18 := ⟨rfl, rfl, rfl⟩
theorem xc34_18 : pmCode 34 18 = some (.aload_n 0) ∧ 18 + 1 = 19 := ⟨rfl, rfl⟩
theorem xc34_19 : pmCode 34 19 = some (.getfield 15) ∧ 19 + 3 = 22 := ⟨rfl, rfl⟩
theorem xc34_22 : pmCode 34 22 = some (.bipush 124) ∧ 22 + 2 = 24 := ⟨rfl, rfl⟩
theorem xc34_24 : pmCode 34 24 = some (.invokevirtual 45) ∧ 24 + 3 = 27 := ⟨rfl, rfl⟩
theorem xc34_27 : pmCode 34 27 = some (.ifCond .eq 27) ∧ ((27 : Nat) : Int) + 27 = ((54 : Nat) : Int) ∧ 27 + 3 = 30 := ⟨rfl, rfl, rfl⟩
theorem xc34_30 : pmCode 34 30 = some (.aload_n 0) ∧ 30 + 1 = 31 := ⟨rfl, rfl⟩
theorem xc34_31 : pmCode 34 31 = some (.iload_n 1) ∧ 31 + 1 = 32 := ⟨rfl, rfl⟩
theorem xc34_32 : pmCode 34 32 = some (.invokevirtual 42) ∧ 32 + 3 = 35 := ⟨rfl, rfl⟩
theorem xc34_35 : pmCode 34 35 = some (.ifCond .ne 5) ∧ ((35 : Nat) : Int) + 5 = ((40 : Nat) : Int) ∧ 35 + 3 = 38 := ⟨rfl, rfl, rfl⟩
theorem xc34_38 : pmCode 34 38 = some (.iconst 0) ∧ 38 + 1 = 39 := ⟨rfl, rfl⟩
theorem xc34_39 : pmCode 34 39 = some .ireturn := rfl
theorem xc34_40 : pmCode 34 40 = some (.aload_n 0) ∧ 40 + 1 = 41 := ⟨rfl, rfl⟩
theorem xc34_41 : pmCode 34 41 = some (.bipush 7) ∧ 41 + 2 = 43 := ⟨rfl, rfl⟩
theorem xc34_43 : pmCode 34 43 = some (.iconst 0) ∧ 43 + 1 = 44 := ⟨rfl, rfl⟩
theorem xc34_44 : pmCode 34 44 = some (.iconst 0) ∧ 44 + 1 = 45 := ⟨rfl, rfl⟩
theorem xc34_45 : pmCode 34 45 = some (.invokevirtual 51) ∧ 45 + 3 = 48 := ⟨rfl, rfl⟩
theorem xc34_48 : pmCode 34 48 = some (.iinc 2 1) ∧ 48 + 3 = 51 := ⟨rfl, rfl⟩
theorem xc34_51 : pmCode 34 51 = some (.goto (-39)) ∧ ((51 : Nat) : Int) + (-39) = ((12 : Nat) : Int) := ⟨rfl, rfl⟩
theorem xc34_54 : pmCode 34 54 = some (.iconst 1) ∧ 54 + 1 = 55 := ⟨rfl, rfl⟩
theorem xc34_55 : pmCode 34 55 = some .ireturn := rfl
theorem xc35_0 : pmCode 35 0 = some (.aload_n 0) ∧ 0 + 1 = 1 := ⟨rfl, rfl⟩
theorem xc35_1 : pmCode 35 1 = some (.iload_n 1) ∧ 1 + 1 = 2 := ⟨rfl, rfl⟩
theorem xc35_2 : pmCode 35 2 = some (.invokevirtual 55) ∧ 2 + 3 = 5 := ⟨rfl, rfl⟩
theorem xc35_5 : pmCode 35 5 = some (.ifCond .ne 5) ∧ ((5 : Nat) : Int) + 5 = ((10 : Nat) : Int) ∧ 5 + 3 = 8 := ⟨rfl, rfl, rfl⟩
theorem xc35_8 : pmCode 35 8 = some (.iconst 0) ∧ 8 + 1 = 9 := ⟨rfl, rfl⟩
theorem xc35_9 : pmCode 35 9 = some .ireturn := rfl
theorem xc35_10 : pmCode 35 10 = some (.iconst 0) ∧ 10 + 1 = 11 := ⟨rfl, rfl⟩
theorem xc35_11 : pmCode 35 11 = some (.istore_n 2) ∧ 11 + 1 = 12 := ⟨rfl, rfl⟩
theorem xc35_12 : pmCode 35 12 = some (.iload_n 2) ∧ 12 + 1 = 13 := ⟨rfl, rfl⟩
theorem xc35_13 : pmCode 35 13 = some (.bipush 40) ∧ 13 + 2 = 15 := ⟨rfl, rfl⟩
theorem xc35_15 : pmCode 35 15 = some (.if_icmp .ge 39) ∧ ((15 : Nat) : Int) + 39 = ((54 : Nat) : Int) ∧ 15 + 3 = 18 := ⟨rfl, rfl, rfl⟩
theorem xc35_18 : pmCode 35 18 = some (.aload_n 0) ∧ 18 + 1 = 19 := ⟨rfl, rfl⟩
theorem xc35_19 : pmCode 35 19 = some (.getfield 15) ∧ 19 + 3 = 22 := ⟨rfl, rfl⟩
theorem xc35_22 : pmCode 35 22 = some (.bipush 38) ∧ 22 + 2 = 24 := ⟨rfl, rfl⟩
theorem xc35_24 : pmCode 35 24 = some (.invokevirtual 45) ∧ 24 + 3 = 27 := ⟨rfl, rfl⟩
theorem xc35_27 : pmCode 35 27 = some (.ifCond .eq 27) ∧ ((27 : Nat) : Int) + 27 = ((54 : Nat) : Int) ∧ 27 + 3 = 30 := ⟨rfl, rfl, rfl⟩
theorem xc35_30 : pmCode 35 30 = some (.aload_n 0) ∧ 30 + 1 = 31 := ⟨rfl, rfl⟩
theorem xc35_31 : pmCode 35 31 = some (.iload_n 1) ∧ 31 + 1 = 32 := ⟨rfl, rfl⟩
theorem xc35_32 : pmCode 35 32 = some (.invokevirtual 55) ∧ 32 + 3 = 35 := ⟨rfl, rfl⟩
theorem xc35_35 : pmCode 35 35 = some (.ifCond .ne 5) ∧ ((35 : Nat) : Int) + 5 = ((40 : Nat) : Int) ∧ 35 + 3 = 38 := ⟨rfl, rfl, rfl⟩
theorem xc35_38 : pmCode 35 38 = some (.iconst 0) ∧ 38 + 1 = 39 := ⟨rfl, rfl⟩
theorem xc35_39 : pmCode 35 39 = some .ireturn := rfl
theorem xc35_40 : pmCode 35 40 = some (.aload_n 0) ∧ 40 + 1 = 41 := ⟨rfl, rfl⟩
theorem xc35_41 : pmCode 35 41 = some (.bipush 6) ∧ 41 + 2 = 43 := ⟨rfl, rfl⟩
theorem xc35_43 : pmCode 35 43 = some (.iconst 0) ∧ 43 + 1 = 44 := ⟨rfl, rfl⟩
theorem xc35_44 : pmCode 35 44 = some (.iconst 0) ∧ 44 + 1 = 45 := ⟨rfl, rfl⟩
theorem xc35_45 : pmCode 35 45 = some (.invokevirtual 51) ∧ 45 + 3 = 48 := ⟨rfl, rfl⟩
theorem xc35_48 : pmCode 35 48 = some (.iinc 2 1) ∧ 48 + 3 = 51 := ⟨rfl, rfl⟩
theorem xc35_51 : pmCode 35 51 = some (.goto (-39)) ∧ ((51 : Nat) : Int) + (-39) = ((12 : Nat) : Int) := ⟨rfl, rfl⟩
theorem xc35_54 : pmCode 35 54 = some (.iconst 1) ∧ 54 + 1 = 55 := ⟨rfl, rfl⟩
theorem xc35_55 : pmCode 35 55 = some .ireturn := rfl
theorem xc36_0 : pmCode 36 0 = some (.aload_n 0) ∧ 0 + 1 = 1 := ⟨rfl, rfl⟩
theorem xc36_1 : pmCode 36 1 = some (.getfield 15) ∧ 1 + 3 = 4 := ⟨rfl, rfl⟩
theorem xc36_4 : pmCode 36 4 = some (.invokevirtual 58) ∧ 4 + 3 = 7 := ⟨rfl, rfl⟩
theorem xc36_7 : pmCode 36 7 = some (.istore_n 2) ∧ 7 + 1 = 8 := ⟨rfl, rfl⟩
theorem xc36_8 : pmCode 36 8 = some (.iload_n 2) ∧ 8 + 1 = 9 := ⟨rfl, rfl⟩
theorem xc36_9 : pmCode 36 9 = some (.bipush 33) ∧ 9 + 2 = 11 := ⟨rfl, rfl⟩
theorem xc36_11 : pmCode 36 11 = some (.if_icmp .eq 15) ∧ ((11 : Nat) : Int) + 15 = ((26 : Nat) : Int) ∧ 11 + 3 = 14 := ⟨rfl, rfl, rfl⟩
theorem xc36_14 : pmCode 36 14 = some (.iload_n 2) ∧ 14 + 1 = 15 := ⟨rfl, rfl⟩
theorem xc36_15 : pmCode 36 15 = some (.bipush 40) ∧ 15 + 2 = 17 := ⟨rfl, rfl⟩
theorem xc36_17 : pmCode 36 17 = some (.if_icmp .eq 9) ∧ ((17 : Nat) : Int) + 9 = ((26 : Nat) : Int) ∧ 17 + 3 = 20 := ⟨rfl, rfl, rfl⟩
theorem xc36_20 : pmCode 36 20 = some (.aload_n 0) ∧ 20 + 1 = 21 := ⟨rfl, rfl⟩
theorem xc36_21 : pmCode 36 21 = some (.iload_n 2) ∧ 21 + 1 = 22 := ⟨rfl, rfl⟩
theorem xc36_22 : pmCode 36 22 = some (.invokevirtual 62) ∧ 22 + 3 = 25 := ⟨rfl, rfl⟩
theorem xc36_25 : pmCode 36 25 = some .ireturn := rfl
theorem xc36_26 : pmCode 36 26 = some (.iload_n 1) ∧ 26 + 1 = 27 := ⟨rfl, rfl⟩
theorem xc36_27 : pmCode 36 27 = some (.bipush 6) ∧ 27 + 2 = 29 := ⟨rfl, rfl⟩
theorem xc36_29 : pmCode 36 29 = some (.if_icmp .lt 12) ∧ ((29 : Nat) : Int) + 12 = ((41 : Nat) : Int) ∧ 29 + 3 = 32 := ⟨rfl, rfl, rfl⟩
theorem xc36_32 : pmCode 36 32 = some (.aload_n 0) ∧ 32 + 1 = 33 := ⟨rfl, rfl⟩
theorem xc36_33 : pmCode 36 33 = some (.getfield 15) ∧ 33 + 3 = 36 := ⟨rfl, rfl⟩
theorem xc36_36 : pmCode 36 36 = some (.iconst 5) ∧ 36 + 1 = 37 := ⟨rfl, rfl⟩
theorem xc36_37 : pmCode 36 37 = some (.invokevirtual 36) ∧ 37 + 3 = 40 := ⟨rfl, rfl⟩
theorem xc36_40 : pmCode 36 40 = some .ireturn := rfl
theorem xc36_41 : pmCode 36 41 = some (.aload_n 0) ∧ 41 + 1 = 42 := ⟨rfl, rfl⟩
theorem xc36_42 : pmCode 36 42 = some (.getfield 15) ∧ 42 + 3 = 45 := ⟨rfl, rfl⟩
theorem xc36_45 : pmCode 36 45 = some .dup ∧ 45 + 1 = 46 := ⟨rfl, rfl⟩
theorem xc36_46 : pmCode 36 46 = some (.getfield 33) ∧ 46 + 3 = 49 := ⟨rfl, rfl⟩
theorem xc36_49 : pmCode 36 49 = some (.iconst 1) ∧ 49 + 1 = 50 := ⟨rfl, rfl⟩
theorem xc36_50 : pmCode 36 50 = some .iadd ∧ 50 + 1 = 51 := ⟨rfl, rfl⟩
theorem xc36_51 : pmCode 36 51 = some (.putfield 33) ∧ 51 + 3 = 54 := ⟨rfl, rfl⟩
theorem xc36_54 : pmCode 36 54 = some (.iload_n 2) ∧ 54 + 1 = 55 := ⟨rfl, rfl⟩
theorem xc36_55 : pmCode 36 55 = some (.bipush 33) ∧ 55 + 2 = 57 := ⟨rfl, rfl⟩
theorem xc36_57 : pmCode 36 57 = some (.if_icmp .ne 13) ∧ ((57 : Nat) : Int) + 13 = ((70 : Nat) : Int) ∧ 57 + 3 = 60 := ⟨rfl, rfl, rfl⟩
theorem xc36_60 : pmCode 36 60 = some (.aload_n 0) ∧ 60 + 1 = 61 := ⟨rfl, rfl⟩
theorem xc36_61 : pmCode 36 61 = some (.iload_n 1) ∧ 61 + 1 = 62 := ⟨rfl, rfl⟩
theorem xc36_62 : pmCode 36 62 = some (.iconst 1) ∧ 62 + 1 = 63 := ⟨rfl, rfl⟩
theorem xc36_63 : pmCode 36 63 = some .iadd ∧ 63 + 1 = 64 := ⟨rfl, rfl⟩
theorem xc36_64 : pmCode 36 64 = some (.invokevirtual 65) ∧ 64 + 3 = 67 := ⟨rfl, rfl⟩
theorem xc36_67 : pmCode 36 67 = some (.goto 10) ∧ ((67 : Nat) : Int) + 10 = ((77 : Nat) : Int) := ⟨rfl, rfl⟩
theorem xc36_70 : pmCode 36 70 = some (.aload_n 0) ∧ 70 + 1 = 71 := ⟨rfl, rfl⟩
theorem xc36_71 : pmCode 36 71 = some (.iload_n 1) ∧ 71 + 1 = 72 := ⟨rfl, rfl⟩
theorem xc36_72 : pmCode 36 72 = some (.iconst 1) ∧ 72 + 1 = 73 := ⟨rfl, rfl⟩
theorem xc36_73 : pmCode 36 73 = some .iadd ∧ 73 + 1 = 74 := ⟨rfl, rfl⟩
theorem xc36_74 : pmCode 36 74 = some (.invokevirtual 68) ∧ 74 + 3 = 77 := ⟨rfl, rfl⟩
theorem xc36_77 : pmCode 36 77 = some .ireturn := rfl
theorem xc38_0 : pmCode 38 0 = some (.iconst 4) ∧ 0 + 1 = 1 := ⟨rfl, rfl⟩
theorem xc38_1 : pmCode 38 1 = some (.istore_n 3) ∧ 1 + 1 = 2 := ⟨rfl, rfl⟩
theorem xc38_2 : pmCode 38 2 = some (.iconst (-1)) ∧ 2 + 1 = 3 := ⟨rfl, rfl⟩
theorem xc38_3 : pmCode 38 3 = some (.istore 4) ∧ 3 + 2 = 5 := ⟨rfl, rfl⟩
theorem xc38_5 : pmCode 38 5 = some (.iload_n 1) ∧ 5 + 1 = 6 := ⟨rfl, rfl⟩
theorem xc38_6 : pmCode 38 6 = some (.tableswitch 101 100 111 #[75, 101, 101, 101, 62, 67, 101, 101, 82, 101, 101, 91]) ∧ ((6 : Nat) : Int) + 101 = ((107 : Nat) : Int) := ⟨rfl, rfl⟩
theorem xc38_68 : pmCode 38 68 = some (.iconst 0) ∧ 68 + 1 = 69 := ⟨rfl, rfl⟩
theorem xc38_69 : pmCode 38 69 = some (.istore_n 2) ∧ 69 + 1 = 70 := ⟨rfl, rfl⟩
theorem xc38_70 : pmCode 38 70 = some (.goto 46) ∧ ((70 : Nat) : Int) + 46 = ((116 : Nat) : Int) := ⟨rfl, rfl⟩
theorem xc38_73 : pmCode 38 73 = some (.iconst 1) ∧ 73 + 1 = 74 := ⟨rfl, rfl⟩
theorem xc38_74 : pmCode 38 74 = some (.istore_n 2) ∧ 74 + 1 = 75 := ⟨rfl, rfl⟩
theorem xc38_75 : pmCode 38 75 = some (.bipush 6) ∧ 75 + 2 = 77 := ⟨rfl, rfl⟩
theorem xc38_77 : pmCode 38 77 = some (.istore_n 3) ∧ 77 + 1 = 78 := ⟨rfl, rfl⟩
theorem xc38_78 : pmCode 38 78 = some (.goto 38) ∧ ((78 : Nat) : Int) + 38 = ((116 : Nat) : Int) := ⟨rfl, rfl⟩
theorem xc38_81 : pmCode 38 81 = some (.iconst 2) ∧ 81 + 1 = 82 := ⟨rfl, rfl⟩
theorem xc38_82 : pmCode 38 82 = some (.istore_n 2) ∧ 82 + 1 = 83 := ⟨rfl, rfl⟩
theorem xc38_83 : pmCode 38 83 = some (.iconst 3) ∧ 83 + 1 = 84 := ⟨rfl, rfl⟩
theorem xc38_84 : pmCode 38 84 = some (.istore_n 3) ∧ 84 + 1 = 85 := ⟨rfl, rfl⟩
theorem xc38_85 : pmCode 38 85 = some (.goto 31) ∧ ((85 : Nat) : Int) + 31 = ((116 : Nat) : Int) := ⟨rfl, rfl⟩
theorem xc38_88 : pmCode 38 88 = some (.iconst 3) ∧ 88 + 1 = 89 := ⟨rfl, rfl⟩
theorem xc38_89 : pmCode 38 89 = some (.istore_n 2) ∧ 89 + 1 = 90 := ⟨rfl, rfl⟩
theorem xc38_90 : pmCode 38 90 = some (.bipush 6) ∧ 90 + 2 = 92 := ⟨rfl, rfl⟩
theorem xc38_92 : pmCode 38 92 = some (.istore 4) ∧ 92 + 2 = 94 := ⟨rfl, rfl⟩
theorem xc38_94 : pmCode 38 94 = some (.goto 22) ∧ ((94 : Nat) : Int) + 22 = ((116 : Nat) : Int) := ⟨rfl, rfl⟩
theorem xc38_97 : pmCode 38 97 = some (.iconst 4) ∧ 97 + 1 = 98 := ⟨rfl, rfl⟩
theorem xc38_98 : pmCode 38 98 = some (.istore_n 2) ∧ 98 + 1 = 99 := ⟨rfl, rfl⟩
theorem xc38_99 : pmCode 38 99 = some (.iconst 3) ∧ 99 + 1 = 100 := ⟨rfl, rfl⟩
theorem xc38_100 : pmCode 38 100 = some (.istore_n 3) ∧ 100 + 1 = 101 := ⟨rfl, rfl⟩
theorem xc38_101 : pmCode 38 101 = some (.iconst 4) ∧ 101 + 1 = 102 := ⟨rfl, rfl⟩
theorem xc38_102 : pmCode 38 102 = some (.istore 4) ∧ 102 + 2 = 104 := ⟨rfl, rfl⟩
theorem xc38_104 : pmCode 38 104 = some (.goto 12) ∧ ((104 : Nat) : Int) + 12 = ((116 : Nat) : Int) := ⟨rfl, rfl⟩
theorem xc38_107 : pmCode 38 107 = some (.aload_n 0) ∧ 107 + 1 = 108 := ⟨rfl, rfl⟩
theorem xc38_108 : pmCode 38 108 = some (.getfield 15) ∧ 108 + 3 = 111 := ⟨rfl, rfl⟩
theorem xc38_111 : pmCode 38 111 = some (.iconst 1) ∧ 111 + 1 = 112 := ⟨rfl, rfl⟩
theorem xc38_112 : pmCode 38 112 = some (.invokevirtual 36) ∧ 112 + 3 = 115 := ⟨rfl, rfl⟩
theorem xc38_115 : pmCode 38 115 = some .ireturn := rfl
theorem xc38_116 : pmCode 38 116 = some (.aload_n 0) ∧ 116 + 1 = 117 := ⟨rfl, rfl⟩
theorem xc38_117 : pmCode 38 117 = some (.getfield 15) ∧ 117 + 3 = 120 := ⟨rfl, rfl⟩
theorem xc38_120 : pmCode 38 120 = some .dup ∧ 120 + 1 = 121 := ⟨rfl, rfl⟩
theorem xc38_121 : pmCode 38 121 = some (.getfield 33) ∧ 121 + 3 = 124 := ⟨rfl, rfl⟩
theorem xc38_124 : pmCode 38 124 = some (.iconst 1) ∧ 124 + 1 = 125 := ⟨rfl, rfl⟩
theorem xc38_125 : pmCode 38 125 = some .iadd ∧ 125 + 1 = 126 := ⟨rfl, rfl⟩
theorem xc38_126 : pmCode 38 126 = some (.putfield 33) ∧ 126 + 3 = 129 := ⟨rfl, rfl⟩
theorem xc38_129 : pmCode 38 129 = some (.aload_n 0) ∧ 129 + 1 = 130 := ⟨rfl, rfl⟩
theorem xc38_130 : pmCode 38 130 = some (.getfield 15) ∧ 130 + 3 = 133 := ⟨rfl, rfl⟩
theorem xc38_133 : pmCode 38 133 = some (.iload_n 3) ∧ 133 + 1 = 134 := ⟨rfl, rfl⟩
theorem xc38_134 : pmCode 38 134 = some (.invokevirtual 71) ∧ 134 + 3 = 137 := ⟨rfl, rfl⟩
theorem xc38_137 : pmCode 38 137 = some (.istore 5) ∧ 137 + 2 = 139 := ⟨rfl, rfl⟩
theorem xc38_139 : pmCode 38 139 = some (.iload 5) ∧ 139 + 2 = 141 := ⟨rfl, rfl⟩
theorem xc38_141 : pmCode 38 141 = some (.iconst (-1)) ∧ 141 + 1 = 142 := ⟨rfl, rfl⟩
theorem xc38_142 : pmCode 38 142 = some (.if_icmp .eq 9) ∧ ((142 : Nat) : Int) + 9 = ((151 : Nat) : Int) ∧ 142 + 3 = 145 := ⟨rfl, rfl, rfl⟩
theorem xc38_145 : pmCode 38 145 = some (.iload 4) ∧ 145 + 2 = 147 := ⟨rfl, rfl⟩
theorem xc38_147 : pmCode 38 147 = some (.iconst (-1)) ∧ 147 + 1 = 148 := ⟨rfl, rfl⟩
theorem xc38_148 : pmCode 38 148 = some (.if_icmp .ne 7) ∧ ((148 : Nat) : Int) + 7 = ((155 : Nat) : Int) ∧ 148 + 3 = 151 := ⟨rfl, rfl, rfl⟩
theorem xc38_151 : pmCode 38 151 = some (.iconst 0) ∧ 151 + 1 = 152 := ⟨rfl, rfl⟩
theorem xc38_152 : pmCode 38 152 = some (.goto 12) ∧ ((152 : Nat) : Int) + 12 = ((164 : Nat) : Int) := ⟨rfl, rfl⟩
theorem xc38_155 : pmCode 38 155 = some (.aload_n 0) ∧ 155 + 1 = 156 := ⟨rfl, rfl⟩
theorem xc38_156 : pmCode 38 156 = some (.getfield 15) ∧ 156 + 3 = 159 := ⟨rfl, rfl⟩
theorem xc38_159 : pmCode 38 159 = some (.iload 4) ∧ 159 + 2 = 161 := ⟨rfl, rfl⟩
theorem xc38_161 : pmCode 38 161 = some (.invokevirtual 71) ∧ 161 + 3 = 164 := ⟨rfl, rfl⟩
theorem xc38_164 : pmCode 38 164 = some (.istore 6) ∧ 164 + 2 = 166 := ⟨rfl, rfl⟩
theorem xc38_166 : pmCode 38 166 = some (.aload_n 0) ∧ 166 + 1 = 167 := ⟨rfl, rfl⟩
theorem xc38_167 : pmCode 38 167 = some (.iload_n 2) ∧ 167 + 1 = 168 := ⟨rfl, rfl⟩
theorem xc38_168 : pmCode 38 168 = some (.iload 5) ∧ 168 + 2 = 170 := ⟨rfl, rfl⟩
theorem xc38_170 : pmCode 38 170 = some (.iload 6) ∧ 170 + 2 = 172 := ⟨rfl, rfl⟩
theorem xc38_172 : pmCode 38 172 = some (.invokevirtual 51) ∧ 172 + 3 = 175 := ⟨rfl, rfl⟩
theorem xc38_175 : pmCode 38 175 = some (.iload 5) ∧ 175 + 2 = 177 := ⟨rfl, rfl⟩
theorem xc38_177 : pmCode 38 177 = some (.iconst (-1)) ∧ 177 + 1 = 178 := ⟨rfl, rfl⟩
theorem xc38_178 : pmCode 38 178 = some (.if_icmp .eq 13) ∧ ((178 : Nat) : Int) + 13 = ((191 : Nat) : Int) ∧ 178 + 3 = 181 := ⟨rfl, rfl, rfl⟩
theorem xc38_181 : pmCode 38 181 = some (.iload 6) ∧ 181 + 2 = 183 := ⟨rfl, rfl⟩
theorem xc38_183 : pmCode 38 183 = some (.iconst (-1)) ∧ 183 + 1 = 184 := ⟨rfl, rfl⟩
theorem xc38_184 : pmCode 38 184 = some (.if_icmp .eq 7) ∧ ((184 : Nat) : Int) + 7 = ((191 : Nat) : Int) ∧ 184 + 3 = 187 := ⟨rfl, rfl, rfl⟩
theorem xc38_187 : pmCode 38 187 = some (.iconst 1) ∧ 187 + 1 = 188 := ⟨rfl, rfl⟩
theorem xc38_188 : pmCode 38 188 = some (.goto 4) ∧ ((188 : Nat) : Int) + 4 = ((192 : Nat) : Int) := ⟨rfl, rfl⟩
theorem xc38_191 : pmCode 38 191 = some (.iconst 0) ∧ 191 + 1 = 192 := ⟨rfl, rfl⟩
theorem xc38_192 : pmCode 38 192 = some .ireturn := rfl
theorem xc41_0 : pmCode 41 0 = some (.aload_n 0) ∧ 0 + 1 = 1 := ⟨rfl, rfl⟩
theorem xc41_1 : pmCode 41 1 = some (.getfield 25) ∧ 1 + 3 = 4 := ⟨rfl, rfl⟩
theorem xc41_4 : pmCode 41 4 = some (.bipush 40) ∧ 4 + 2 = 6 := ⟨rfl, rfl⟩
theorem xc41_6 : pmCode 41 6 = some (.if_icmp .ge 38) ∧ ((6 : Nat) : Int) + 38 = ((44 : Nat) : Int) ∧ 6 + 3 = 9 := ⟨rfl, rfl, rfl⟩
theorem xc41_9 : pmCode 41 9 = some (.aload_n 0) ∧ 9 + 1 = 10 := ⟨rfl, rfl⟩
theorem xc41_10 : pmCode 41 10 = some (.getfield 9) ∧ 10 + 3 = 13 := ⟨rfl, rfl⟩
theorem xc41_13 : pmCode 41 13 = some (.aload_n 0) ∧ 13 + 1 = 14 := ⟨rfl, rfl⟩
theorem xc41_14 : pmCode 41 14 = some (.getfield 25) ∧ 14 + 3 = 17 := ⟨rfl, rfl⟩
theorem xc41_17 : pmCode 41 17 = some (.iload_n 1) ∧ 17 + 1 = 18 := ⟨rfl, rfl⟩
theorem xc41_18 : pmCode 41 18 = some (.bipush 6) ∧ 18 + 2 = 20 := ⟨rfl, rfl⟩
theorem xc41_20 : pmCode 41 20 = some .ishl ∧ 20 + 1 = 21 := ⟨rfl, rfl⟩
theorem xc41_21 : pmCode 41 21 = some (.iload_n 2) ∧ 21 + 1 = 22 := ⟨rfl, rfl⟩
theorem xc41_22 : pmCode 41 22 = some (.bipush 7) ∧ 22 + 2 = 24 := ⟨rfl, rfl⟩
theorem xc41_24 : pmCode 41 24 = some .iand ∧ 24 + 1 = 25 := ⟨rfl, rfl⟩
theorem xc41_25 : pmCode 41 25 = some (.iconst 3) ∧ 25 + 1 = 26 := ⟨rfl, rfl⟩
theorem xc41_26 : pmCode 41 26 = some .ishl ∧ 26 + 1 = 27 := ⟨rfl, rfl⟩
theorem xc41_27 : pmCode 41 27 = some .ior ∧ 27 + 1 = 28 := ⟨rfl, rfl⟩
theorem xc41_28 : pmCode 41 28 = some (.iload_n 3) ∧ 28 + 1 = 29 := ⟨rfl, rfl⟩
theorem xc41_29 : pmCode 41 29 = some (.bipush 7) ∧ 29 + 2 = 31 := ⟨rfl, rfl⟩
theorem xc41_31 : pmCode 41 31 = some .iand ∧ 31 + 1 = 32 := ⟨rfl, rfl⟩
theorem xc41_32 : pmCode 41 32 = some .ior ∧ 32 + 1 = 33 := ⟨rfl, rfl⟩
theorem xc41_33 : pmCode 41 33 = some .iastore ∧ 33 + 1 = 34 := ⟨rfl, rfl⟩
theorem xc41_34 : pmCode 41 34 = some (.aload_n 0) ∧ 34 + 1 = 35 := ⟨rfl, rfl⟩
theorem xc41_35 : pmCode 41 35 = some .dup ∧ 35 + 1 = 36 := ⟨rfl, rfl⟩
theorem xc41_36 : pmCode 41 36 = some (.getfield 25) ∧ 36 + 3 = 39 := ⟨rfl, rfl⟩
theorem xc41_39 : pmCode 41 39 = some (.iconst 1) ∧ 39 + 1 = 40 := ⟨rfl, rfl⟩
theorem xc41_40 : pmCode 41 40 = some .iadd ∧ 40 + 1 = 41 := ⟨rfl, rfl⟩
theorem xc41_41 : pmCode 41 41 = some (.putfield 25) ∧ 41 + 3 = 44 := ⟨rfl, rfl⟩
theorem xc41_44 : pmCode 41 44 = some .return_ := rfl
theorem xc42_0 : pmCode 42 0 = some (.aload_n 0) ∧ 0 + 1 = 1 := ⟨rfl, rfl⟩
theorem xc42_1 : pmCode 42 1 = some (.iload_n 1) ∧ 1 + 1 = 2 := ⟨rfl, rfl⟩
theorem xc42_2 : pmCode 42 2 = some (.invokevirtual 55) ∧ 2 + 3 = 5 := ⟨rfl, rfl⟩
theorem xc42_5 : pmCode 42 5 = some (.istore_n 2) ∧ 5 + 1 = 6 := ⟨rfl, rfl⟩
theorem xc42_6 : pmCode 42 6 = some (.aload_n 0) ∧ 6 + 1 = 7 := ⟨rfl, rfl⟩
theorem xc42_7 : pmCode 42 7 = some (.iconst 5) ∧ 7 + 1 = 8 := ⟨rfl, rfl⟩
theorem xc42_8 : pmCode 42 8 = some (.iconst 0) ∧ 8 + 1 = 9 := ⟨rfl, rfl⟩
theorem xc42_9 : pmCode 42 9 = some (.iconst 0) ∧ 9 + 1 = 10 := ⟨rfl, rfl⟩
theorem xc42_10 : pmCode 42 10 = some (.invokevirtual 51) ∧ 10 + 3 = 13 := ⟨rfl, rfl⟩
theorem xc42_13 : pmCode 42 13 = some (.iload_n 2) ∧ 13 + 1 = 14 := ⟨rfl, rfl⟩
theorem xc42_14 : pmCode 42 14 = some .ireturn := rfl
theorem xc43_0 : pmCode 43 0 = some (.aload_n 0) ∧ 0 + 1 = 1 := ⟨rfl, rfl⟩
theorem xc43_1 : pmCode 43 1 = some (.iload_n 1) ∧ 1 + 1 = 2 := ⟨rfl, rfl⟩
theorem xc43_2 : pmCode 43 2 = some (.invokevirtual 29) ∧ 2 + 3 = 5 := ⟨rfl, rfl⟩
theorem xc43_5 : pmCode 43 5 = some (.ifCond .eq 30) ∧ ((5 : Nat) : Int) + 30 = ((35 : Nat) : Int) ∧ 5 + 3 = 8 := ⟨rfl, rfl, rfl⟩
theorem xc43_8 : pmCode 43 8 = some (.aload_n 0) ∧ 8 + 1 = 9 := ⟨rfl, rfl⟩
theorem xc43_9 : pmCode 43 9 = some (.getfield 15) ∧ 9 + 3 = 12 := ⟨rfl, rfl⟩
theorem xc43_12 : pmCode 43 12 = some (.bipush 41) ∧ 12 + 2 = 14 := ⟨rfl, rfl⟩
theorem xc43_14 : pmCode 43 14 = some (.invokevirtual 45) ∧ 14 + 3 = 17 := ⟨rfl, rfl⟩
theorem xc43_17 : pmCode 43 17 = some (.ifCond .ne 14) ∧ ((17 : Nat) : Int) + 14 = ((31 : Nat) : Int) ∧ 17 + 3 = 20 := ⟨rfl, rfl, rfl⟩
theorem xc43_20 : pmCode 43 20 = some (.aload_n 0) ∧ 20 + 1 = 21 := ⟨rfl, rfl⟩
theorem xc43_21 : pmCode 43 21 = some (.getfield 15) ∧ 21 + 3 = 24 := ⟨rfl, rfl⟩
theorem xc43_24 : pmCode 43 24 = some (.iconst 1) ∧ 24 + 1 = 25 := ⟨rfl, rfl⟩
theorem xc43_25 : pmCode 43 25 = some (.invokevirtual 36) ∧ 25 + 3 = 28 := ⟨rfl, rfl⟩
theorem xc43_28 : pmCode 43 28 = some (.ifCond .eq 7) ∧ ((28 : Nat) : Int) + 7 = ((35 : Nat) : Int) ∧ 28 + 3 = 31 := ⟨rfl, rfl, rfl⟩
theorem xc43_31 : pmCode 43 31 = some (.iconst 1) ∧ 31 + 1 = 32 := ⟨rfl, rfl⟩
theorem xc43_32 : pmCode 43 32 = some (.goto 4) ∧ ((32 : Nat) : Int) + 4 = ((36 : Nat) : Int) := ⟨rfl, rfl⟩
theorem xc43_35 : pmCode 43 35 = some (.iconst 0) ∧ 35 + 1 = 36 := ⟨rfl, rfl⟩
theorem xc43_36 : pmCode 43 36 = some .ireturn := rfl
/-- a leaf, kept from omega -/
def xK (p : Prop) : Prop := p
/-- an atom of a wish: fault, place behind, code -/
def wWh (c : Int) : Int := if c = 104 then 0 else if c = 105 then 1 else if c = 100 then 2 else if c = 108 then 3 else 4
def wG1 (c : Int) : Int := if c = 104 ∨ c = 108 then 4 else if c = 105 then 6 else 3
def wAt (t : Int → Int) (n p : Int) : Int × Int × Int :=
  if ¬ (sG t n p = 104 ∨ sG t n p = 105 ∨ sG t n p = 100 ∨ sG t n p = 108 ∨ sG t n p = 111) then (-1000 - p, p, 0)
  else if ¬ (rDig t n (wG1 (sG t n p)) (p + 1)).1 = 0 then ((rDig t n (wG1 (sG t n p)) (p + 1)).1, p, 0)
  else if sG t n p = 108 ∨ sG t n p = 111 then (if ¬ (rDig t n (if sG t n p = 108 then 6 else 4) (p + 1 + 1)).1 = 0 then ((rDig t n (if sG t n p = 108 then 6 else 4) (p + 1 + 1)).1, p, 0) else (0, p + 1 + 1 + 1, 256 * wWh (sG t n p) + 16 * (sG t n (p + 1) - 48) + (sG t n (p + 1 + 1) - 48)))
  else (0, p + 1 + 1, 256 * wWh (sG t n p) + 16 * (sG t n (p + 1) - 48) + (sG t n (p + 1) - 48))
/-- the class's token of a code -/
def cT (x : Int) : Int := if x = 1792 then 320 else if x = 1280 then 384 else if x = 1536 then 448 else 64 * (x / 256) + 8 * (x / 16 % 16) + (if x / 256 < 3 then 0 else x % 16)
/-- what a wish's reading leaves as it was -/
def kWs (a0 a : xA) : Prop := ∀ q k, q ≠ 1 → q ≠ 31 → q ≠ 32 → a q k = a0 q k
theorem xOr_dj (k : Nat) (hk : k ≤ 20) {m y : Int} (hm : 0 ≤ m ∧ m < 1024) (hy : 0 ≤ y ∧ y < ((2 ^ k : Nat) : Int)) : xOr (((2 ^ k : Nat) : Int) * m) y = ((2 ^ k : Nat) : Int) * m + y := by
  obtain ⟨m', rfl⟩ : ∃ m' : Nat, m = m' := ⟨m.toNat, by omega⟩
  obtain ⟨y', rfl⟩ : ∃ y' : Nat, y = y' := ⟨y.toNat, by omega⟩
  have hp : 2 ^ k ≤ 2 ^ 20 := Nat.pow_le_pow_right (by decide) hk
  have hb : 2 ^ k * m' ≤ 2 ^ 20 * 1023 := Nat.mul_le_mul hp (by omega)
  have hb2 : (2 : Nat) ^ 20 * 1023 + 2 ^ 20 < 2 ^ 31 := by decide
  have hy' : y' < 2 ^ k := by omega
  have e : (((2 ^ k : Nat) : Int) * (m' : Int)) = ((2 ^ k * m' : Nat) : Int) := by rw [Int.natCast_mul]
  unfold xOr
  rw [e]
  show (BitVec.ofInt 32 ((2 ^ k * m' : Nat) : Int) ||| BitVec.ofInt 32 (y' : Int)).toInt = _
  have h1 : (BitVec.ofInt 32 ((2 ^ k * m' : Nat) : Int) ||| BitVec.ofInt 32 (y' : Int)).toNat = 2 ^ k * m' + y' := by
    rw [BitVec.toNat_or, BitVec.ofInt_natCast, BitVec.ofInt_natCast, BitVec.toNat_ofNat, BitVec.toNat_ofNat, Nat.mod_eq_of_lt (by omega), Nat.mod_eq_of_lt (by omega)]
    exact (Nat.two_pow_add_eq_or_of_lt hy' m').symm
  rw [BitVec.toInt_eq_toNat_cond, h1, if_pos (by omega)]
  omega
theorem cT_ok {v x y : Int} (hv : 0 ≤ v ∧ v ≤ 4) (hx : 0 ≤ x ∧ x ≤ 15) (hy : 0 ≤ y ∧ y ≤ 15) : cT (256 * v + 16 * x + y) = 64 * v + 8 * x + (if v < 3 then 0 else y) := by
  have h1 : (256 * v + 16 * x + y) / 256 = v := by omega
  have h2 : (256 * v + 16 * x + y) / 16 = 16 * v + x := by omega
  have h3 : (256 * v + 16 * x + y) % 16 = y := by omega
  have h4 : (16 * v + x) % 16 = x := by omega
  unfold cT
  rw [if_neg (by omega), if_neg (by omega), if_neg (by omega), h1, h2, h3, h4]
theorem tOr {s x y : Int} (hs : 0 ≤ s ∧ s ≤ 7) (hx : 0 ≤ x ∧ x ≤ 7) (hy : 0 ≤ y ∧ y ≤ 7) : xOr (xOr (s * 64) (x % 8 * 8)) (y % 8) = 64 * s + 8 * x + y := by
  have e1 := xOr_dj 6 (by decide) (m := s) (y := x % 8 * 8) (by omega) (by show 0 ≤ x % 8 * 8 ∧ x % 8 * 8 < (64 : Int); omega)
  have c1 : (((2 ^ 6 : Nat) : Int) * s) = s * 64 := by show (64 : Int) * s = s * 64; omega
  rw [c1] at e1
  rw [e1]
  have e2 := xOr_dj 3 (by decide) (m := s * 8 + x % 8) (y := y % 8) (by omega) (by show 0 ≤ y % 8 ∧ y % 8 < (8 : Int); omega)
  have c2 : (((2 ^ 3 : Nat) : Int) * (s * 8 + x % 8)) = s * 64 + x % 8 * 8 := by show (8 : Int) * (s * 8 + x % 8) = s * 64 + x % 8 * 8; omega
  rw [c2] at e2
  rw [e2]
  omega
theorem xg41 {ro : Nat → Nat × (Nat → Int32)} {d : Nat} {Q : Option Value → pmS → Prop} {a : xA} {b : xB} {x y z : Int} (h : pmWp ro d 8 41 0 0 [some (.ref 31), some (xV x), some (xV y), some (xV z)] [] (xS a b) Q) : pmCs ro (d + 1) 41 [.ref 31, xV x, xV y, xV z] (xS a b) Q := x_go xi41 rfl rfl rfl rfl rfl h
theorem w41 {ro : Nat → Nat × (Nat → Int32)} {d : Nat} {Q : Option Value → pmS → Prop} {x y z s : Int} {a : xA} {b : xB} (h_x : xR x) (h_y : xR y) (h_z : xR z) (hs : a 31 2 = s) (hs0 : 0 ≤ s ∧ s ≤ 40)
    (k1 : (40 ≤ s) → Q none (xS a b))
    (k2 : (¬ 40 ≤ s) → Q none (xS (xU (xU a 32 s (xOr (xOr (x * 64) ((y % 8) * 8)) (z % 8))) 31 2 (s + 1)) b)) :
    pmWp ro d 8 41 0 0 [some (.ref 31), some (xV x), some (xV y), some (xV z)] [] (xS a b) Q := by
  refine x_aloadn xc41_0 rfl ?_
  refine x_gfi' (k := 2) (v := s) xc41_1 rfl (Or.inl rfl) rfl xz31 hs ?_
  refine x_bipush xc41_4 (by decide) ?_
  refine x_icge xc41_6 (xRk (by omega)) (xRk (by decide)) (fun h0 => ?_) (fun h0 => ?_)
  · refine x_ret xc41_44 rfl ?_
    exact k1 h0
  · refine x_aloadn xc41_9 rfl ?_
    refine x_gfr xc41_10 rfl rfl xz31 rfl ?_
    refine x_aloadn xc41_13 rfl ?_
    refine x_gfi' (k := 2) (v := s) xc41_14 rfl (Or.inl rfl) rfl xz31 hs ?_
    refine x_iloadn xc41_17 rfl ?_
    refine x_bipush xc41_18 (by decide) ?_
    refine x_ishl (M := 64) (by omega) (by omega) (by decide) xc41_20 ?_
    refine x_iloadn xc41_21 rfl ?_
    refine x_bipush xc41_22 (by decide) ?_
    refine x_iandm (M := 8) 3 (by decide) (by decide) (by decide) xc41_24 ?_
    refine x_iconst xc41_25 ?_
    refine x_ishl (M := 8) (by omega) (by omega) (by decide) xc41_26 ?_
    refine x_ior xc41_27 ?_
    refine x_iloadn xc41_28 rfl ?_
    refine x_bipush xc41_29 (by decide) ?_
    refine x_iandm (M := 8) 3 (by decide) (by decide) (by decide) xc41_31 ?_
    refine x_ior xc41_32 ?_
    refine x_ias xc41_33 xz32 (by omega) (by omega) (by omega) ?_
    refine x_aloadn xc41_34 rfl ?_
    refine x_dup xc41_35 rfl ?_
    refine x_gfi' (k := 2) (v := s) xc41_36 rfl (Or.inl rfl) rfl xz31 (by rw [xUn (by decide), hs]) ?_
    refine x_iconst xc41_39 ?_
    refine x_iadd xc41_40 ?_
    refine x_pfi (k := 2) xc41_41 rfl ⟨rfl, rfl⟩ rfl xz31 ?_
    refine x_ret xc41_44 rfl ?_
    exact k2 h0

theorem xk41 {ro : Nat → Nat × (Nat → Int32)} {d : Nat} {Q : Option Value → pmS → Prop} {a : xA} {b : xB} {x y z s : Int} (h_x : xR x) (h_y : xR y) (h_z : xR z) (hs : a 31 2 = s) (hs0 : 0 ≤ s ∧ s ≤ 40) (hd : 1 ≤ d) (hT : s < 40 → Q none (xS (xU (xU a 32 s (xOr (xOr (x * 64) (y % 8 * 8)) (z % 8))) 31 2 (s + 1)) b)) (hF : ¬ s < 40 → Q none (xS a b)) : pmCs ro d 41 [.ref 31, xV x, xV y, xV z] (xS a b) Q := pmCs_deep (d := 1) (xg41 (w41 h_x h_y h_z hs hs0 (fun e => hF (by omega)) (fun e => hT (by omega)))) hd
theorem xg38 {ro : Nat → Nat × (Nat → Int32)} {d : Nat} {Q : Option Value → pmS → Prop} {a : xA} {b : xB} {c : Int} (h : pmWp ro d 8 38 2 0 [some (.ref 31), some (xV c), none, none, none, none, none] [] (xS a b) Q) : pmCs ro (d + 1) 38 [.ref 31, xV c] (xS a b) Q := x_go xi38 rfl rfl rfl rfl rfl h
theorem w38 {ro : Nat → Nat × (Nat → Int32)} {d : Nat} {Q : Option Value → pmS → Prop} {a : xA} {b : xB} {t : Int → Int} {n p : Int} (hC : tC a t n p) (hp : 0 ≤ p ∧ p ≤ n) (hn : n ≤ 40) (hb : tB t) (hA : xAr a) (hf : a 1 4 = 0) {s : Int} (hs : a 31 2 = s) (hs0 : 0 ≤ s ∧ s ≤ p) (h0 : sG t n p = -1 ∨ p < n) (hd : 3 ≤ d)
    (k1 : xK ((sG t n p = 100) → (sG t n (p + 1) < 48 ∨ 57 < sG t n (p + 1)) → (s < 40) → Q (some (xV 0)) (xS (xU (xU (xU (xU a 1 3 (p + 1)) 1 4 (-1000 * 1 - (p + 1))) 32 s (xOr (xOr (2 * 64) ((-1) % 8 * 8)) (0 % 8))) 31 2 (s + 1)) b)))
    (k2 : xK ((sG t n p = 100) → (sG t n (p + 1) < 48 ∨ 57 < sG t n (p + 1)) → (¬ s < 40) → Q (some (xV 0)) (xS (xU (xU a 1 3 (p + 1)) 1 4 (-1000 * 1 - (p + 1))) b)))
    (k3 : xK ((sG t n p = 100) → (¬ (sG t n (p + 1) < 48 ∨ 57 < sG t n (p + 1))) → (3 < sG t n (p + 1) - 48) → (s < 40) → Q (some (xV 0)) (xS (xU (xU (xU (xU a 1 3 (p + 1)) 1 4 (-1000 * 3 - (p + 1))) 32 s (xOr (xOr (2 * 64) ((-1) % 8 * 8)) (0 % 8))) 31 2 (s + 1)) b)))
    (k4 : xK ((sG t n p = 100) → (¬ (sG t n (p + 1) < 48 ∨ 57 < sG t n (p + 1))) → (3 < sG t n (p + 1) - 48) → (¬ s < 40) → Q (some (xV 0)) (xS (xU (xU a 1 3 (p + 1)) 1 4 (-1000 * 3 - (p + 1))) b)))
    (k5 : xK ((sG t n p = 100) → (¬ (sG t n (p + 1) < 48 ∨ 57 < sG t n (p + 1))) → (¬ 3 < sG t n (p + 1) - 48) → (p + 1 < n) → (sG t n (p + 1) - 48 = -1) → (s < 40) → Q (some (xV 0)) (xS (xU (xU (xU (xU a 1 3 (p + 1)) 1 3 (p + 1 + 1)) 32 s (xOr (xOr (2 * 64) ((sG t n (p + 1) - 48) % 8 * 8)) (0 % 8))) 31 2 (s + 1)) b)))
    (k6 : xK ((sG t n p = 100) → (¬ (sG t n (p + 1) < 48 ∨ 57 < sG t n (p + 1))) → (¬ 3 < sG t n (p + 1) - 48) → (p + 1 < n) → (sG t n (p + 1) - 48 = -1) → (¬ s < 40) → Q (some (xV 0)) (xS (xU (xU a 1 3 (p + 1)) 1 3 (p + 1 + 1)) b)))
    (k7 : xK ((sG t n p = 100) → (¬ (sG t n (p + 1) < 48 ∨ 57 < sG t n (p + 1))) → (¬ 3 < sG t n (p + 1) - 48) → (p + 1 < n) → (¬ sG t n (p + 1) - 48 = -1) → (s < 40) → Q (some (xV 1)) (xS (xU (xU (xU (xU a 1 3 (p + 1)) 1 3 (p + 1 + 1)) 32 s (xOr (xOr (2 * 64) ((sG t n (p + 1) - 48) % 8 * 8)) (0 % 8))) 31 2 (s + 1)) b)))
    (k8 : xK ((sG t n p = 100) → (¬ (sG t n (p + 1) < 48 ∨ 57 < sG t n (p + 1))) → (¬ 3 < sG t n (p + 1) - 48) → (p + 1 < n) → (¬ sG t n (p + 1) - 48 = -1) → (¬ s < 40) → Q (some (xV 1)) (xS (xU (xU a 1 3 (p + 1)) 1 3 (p + 1 + 1)) b)))
    (k9 : xK ((¬ sG t n p = 100) → (sG t n p = 101) → Q (some (xV 0)) (xS (xU a 1 4 (-1000 * 1 - p)) b)))
    (k10 : xK ((¬ sG t n p = 100) → (¬ sG t n p = 101) → (sG t n p = 102) → Q (some (xV 0)) (xS (xU a 1 4 (-1000 * 1 - p)) b)))
    (k11 : xK ((¬ sG t n p = 100) → (¬ sG t n p = 101) → (¬ sG t n p = 102) → (sG t n p = 103) → Q (some (xV 0)) (xS (xU a 1 4 (-1000 * 1 - p)) b)))
    (k12 : xK ((¬ sG t n p = 100) → (¬ sG t n p = 101) → (¬ sG t n p = 102) → (¬ sG t n p = 103) → (sG t n p = 104) → (sG t n (p + 1) < 48 ∨ 57 < sG t n (p + 1)) → (s < 40) → Q (some (xV 0)) (xS (xU (xU (xU (xU a 1 3 (p + 1)) 1 4 (-1000 * 1 - (p + 1))) 32 s (xOr (xOr (0 * 64) ((-1) % 8 * 8)) (0 % 8))) 31 2 (s + 1)) b)))
    (k13 : xK ((¬ sG t n p = 100) → (¬ sG t n p = 101) → (¬ sG t n p = 102) → (¬ sG t n p = 103) → (sG t n p = 104) → (sG t n (p + 1) < 48 ∨ 57 < sG t n (p + 1)) → (¬ s < 40) → Q (some (xV 0)) (xS (xU (xU a 1 3 (p + 1)) 1 4 (-1000 * 1 - (p + 1))) b)))
    (k14 : xK ((¬ sG t n p = 100) → (¬ sG t n p = 101) → (¬ sG t n p = 102) → (¬ sG t n p = 103) → (sG t n p = 104) → (¬ (sG t n (p + 1) < 48 ∨ 57 < sG t n (p + 1))) → (4 < sG t n (p + 1) - 48) → (s < 40) → Q (some (xV 0)) (xS (xU (xU (xU (xU a 1 3 (p + 1)) 1 4 (-1000 * 3 - (p + 1))) 32 s (xOr (xOr (0 * 64) ((-1) % 8 * 8)) (0 % 8))) 31 2 (s + 1)) b)))
    (k15 : xK ((¬ sG t n p = 100) → (¬ sG t n p = 101) → (¬ sG t n p = 102) → (¬ sG t n p = 103) → (sG t n p = 104) → (¬ (sG t n (p + 1) < 48 ∨ 57 < sG t n (p + 1))) → (4 < sG t n (p + 1) - 48) → (¬ s < 40) → Q (some (xV 0)) (xS (xU (xU a 1 3 (p + 1)) 1 4 (-1000 * 3 - (p + 1))) b)))
    (k16 : xK ((¬ sG t n p = 100) → (¬ sG t n p = 101) → (¬ sG t n p = 102) → (¬ sG t n p = 103) → (sG t n p = 104) → (¬ (sG t n (p + 1) < 48 ∨ 57 < sG t n (p + 1))) → (¬ 4 < sG t n (p + 1) - 48) → (p + 1 < n) → (sG t n (p + 1) - 48 = -1) → (s < 40) → Q (some (xV 0)) (xS (xU (xU (xU (xU a 1 3 (p + 1)) 1 3 (p + 1 + 1)) 32 s (xOr (xOr (0 * 64) ((sG t n (p + 1) - 48) % 8 * 8)) (0 % 8))) 31 2 (s + 1)) b)))
    (k17 : xK ((¬ sG t n p = 100) → (¬ sG t n p = 101) → (¬ sG t n p = 102) → (¬ sG t n p = 103) → (sG t n p = 104) → (¬ (sG t n (p + 1) < 48 ∨ 57 < sG t n (p + 1))) → (¬ 4 < sG t n (p + 1) - 48) → (p + 1 < n) → (sG t n (p + 1) - 48 = -1) → (¬ s < 40) → Q (some (xV 0)) (xS (xU (xU a 1 3 (p + 1)) 1 3 (p + 1 + 1)) b)))
    (k18 : xK ((¬ sG t n p = 100) → (¬ sG t n p = 101) → (¬ sG t n p = 102) → (¬ sG t n p = 103) → (sG t n p = 104) → (¬ (sG t n (p + 1) < 48 ∨ 57 < sG t n (p + 1))) → (¬ 4 < sG t n (p + 1) - 48) → (p + 1 < n) → (¬ sG t n (p + 1) - 48 = -1) → (s < 40) → Q (some (xV 1)) (xS (xU (xU (xU (xU a 1 3 (p + 1)) 1 3 (p + 1 + 1)) 32 s (xOr (xOr (0 * 64) ((sG t n (p + 1) - 48) % 8 * 8)) (0 % 8))) 31 2 (s + 1)) b)))
    (k19 : xK ((¬ sG t n p = 100) → (¬ sG t n p = 101) → (¬ sG t n p = 102) → (¬ sG t n p = 103) → (sG t n p = 104) → (¬ (sG t n (p + 1) < 48 ∨ 57 < sG t n (p + 1))) → (¬ 4 < sG t n (p + 1) - 48) → (p + 1 < n) → (¬ sG t n (p + 1) - 48 = -1) → (¬ s < 40) → Q (some (xV 1)) (xS (xU (xU a 1 3 (p + 1)) 1 3 (p + 1 + 1)) b)))
    (k20 : xK ((¬ sG t n p = 100) → (¬ sG t n p = 101) → (¬ sG t n p = 102) → (¬ sG t n p = 103) → (¬ sG t n p = 104) → (sG t n p = 105) → (sG t n (p + 1) < 48 ∨ 57 < sG t n (p + 1)) → (s < 40) → Q (some (xV 0)) (xS (xU (xU (xU (xU a 1 3 (p + 1)) 1 4 (-1000 * 1 - (p + 1))) 32 s (xOr (xOr (1 * 64) ((-1) % 8 * 8)) (0 % 8))) 31 2 (s + 1)) b)))
    (k21 : xK ((¬ sG t n p = 100) → (¬ sG t n p = 101) → (¬ sG t n p = 102) → (¬ sG t n p = 103) → (¬ sG t n p = 104) → (sG t n p = 105) → (sG t n (p + 1) < 48 ∨ 57 < sG t n (p + 1)) → (¬ s < 40) → Q (some (xV 0)) (xS (xU (xU a 1 3 (p + 1)) 1 4 (-1000 * 1 - (p + 1))) b)))
    (k22 : xK ((¬ sG t n p = 100) → (¬ sG t n p = 101) → (¬ sG t n p = 102) → (¬ sG t n p = 103) → (¬ sG t n p = 104) → (sG t n p = 105) → (¬ (sG t n (p + 1) < 48 ∨ 57 < sG t n (p + 1))) → (6 < sG t n (p + 1) - 48) → (s < 40) → Q (some (xV 0)) (xS (xU (xU (xU (xU a 1 3 (p + 1)) 1 4 (-1000 * 3 - (p + 1))) 32 s (xOr (xOr (1 * 64) ((-1) % 8 * 8)) (0 % 8))) 31 2 (s + 1)) b)))
    (k23 : xK ((¬ sG t n p = 100) → (¬ sG t n p = 101) → (¬ sG t n p = 102) → (¬ sG t n p = 103) → (¬ sG t n p = 104) → (sG t n p = 105) → (¬ (sG t n (p + 1) < 48 ∨ 57 < sG t n (p + 1))) → (6 < sG t n (p + 1) - 48) → (¬ s < 40) → Q (some (xV 0)) (xS (xU (xU a 1 3 (p + 1)) 1 4 (-1000 * 3 - (p + 1))) b)))
    (k24 : xK ((¬ sG t n p = 100) → (¬ sG t n p = 101) → (¬ sG t n p = 102) → (¬ sG t n p = 103) → (¬ sG t n p = 104) → (sG t n p = 105) → (¬ (sG t n (p + 1) < 48 ∨ 57 < sG t n (p + 1))) → (¬ 6 < sG t n (p + 1) - 48) → (p + 1 < n) → (sG t n (p + 1) - 48 = -1) → (s < 40) → Q (some (xV 0)) (xS (xU (xU (xU (xU a 1 3 (p + 1)) 1 3 (p + 1 + 1)) 32 s (xOr (xOr (1 * 64) ((sG t n (p + 1) - 48) % 8 * 8)) (0 % 8))) 31 2 (s + 1)) b)))
    (k25 : xK ((¬ sG t n p = 100) → (¬ sG t n p = 101) → (¬ sG t n p = 102) → (¬ sG t n p = 103) → (¬ sG t n p = 104) → (sG t n p = 105) → (¬ (sG t n (p + 1) < 48 ∨ 57 < sG t n (p + 1))) → (¬ 6 < sG t n (p + 1) - 48) → (p + 1 < n) → (sG t n (p + 1) - 48 = -1) → (¬ s < 40) → Q (some (xV 0)) (xS (xU (xU a 1 3 (p + 1)) 1 3 (p + 1 + 1)) b)))
    (k26 : xK ((¬ sG t n p = 100) → (¬ sG t n p = 101) → (¬ sG t n p = 102) → (¬ sG t n p = 103) → (¬ sG t n p = 104) → (sG t n p = 105) → (¬ (sG t n (p + 1) < 48 ∨ 57 < sG t n (p + 1))) → (¬ 6 < sG t n (p + 1) - 48) → (p + 1 < n) → (¬ sG t n (p + 1) - 48 = -1) → (s < 40) → Q (some (xV 1)) (xS (xU (xU (xU (xU a 1 3 (p + 1)) 1 3 (p + 1 + 1)) 32 s (xOr (xOr (1 * 64) ((sG t n (p + 1) - 48) % 8 * 8)) (0 % 8))) 31 2 (s + 1)) b)))
    (k27 : xK ((¬ sG t n p = 100) → (¬ sG t n p = 101) → (¬ sG t n p = 102) → (¬ sG t n p = 103) → (¬ sG t n p = 104) → (sG t n p = 105) → (¬ (sG t n (p + 1) < 48 ∨ 57 < sG t n (p + 1))) → (¬ 6 < sG t n (p + 1) - 48) → (p + 1 < n) → (¬ sG t n (p + 1) - 48 = -1) → (¬ s < 40) → Q (some (xV 1)) (xS (xU (xU a 1 3 (p + 1)) 1 3 (p + 1 + 1)) b)))
    (k28 : xK ((¬ sG t n p = 100) → (¬ sG t n p = 101) → (¬ sG t n p = 102) → (¬ sG t n p = 103) → (¬ sG t n p = 104) → (¬ sG t n p = 105) → (sG t n p = 106) → Q (some (xV 0)) (xS (xU a 1 4 (-1000 * 1 - p)) b)))
    (k29 : xK ((¬ sG t n p = 100) → (¬ sG t n p = 101) → (¬ sG t n p = 102) → (¬ sG t n p = 103) → (¬ sG t n p = 104) → (¬ sG t n p = 105) → (¬ sG t n p = 106) → (sG t n p = 107) → Q (some (xV 0)) (xS (xU a 1 4 (-1000 * 1 - p)) b)))
    (k30 : xK ((¬ sG t n p = 100) → (¬ sG t n p = 101) → (¬ sG t n p = 102) → (¬ sG t n p = 103) → (¬ sG t n p = 104) → (¬ sG t n p = 105) → (¬ sG t n p = 106) → (¬ sG t n p = 107) → (sG t n p = 108) → (sG t n (p + 1) < 48 ∨ 57 < sG t n (p + 1)) → (s < 40) → Q (some (xV 0)) (xS (xU (xU (xU (xU a 1 3 (p + 1)) 1 4 (-1000 * 1 - (p + 1))) 32 s (xOr (xOr (3 * 64) ((-1) % 8 * 8)) (0 % 8))) 31 2 (s + 1)) b)))
    (k31 : xK ((¬ sG t n p = 100) → (¬ sG t n p = 101) → (¬ sG t n p = 102) → (¬ sG t n p = 103) → (¬ sG t n p = 104) → (¬ sG t n p = 105) → (¬ sG t n p = 106) → (¬ sG t n p = 107) → (sG t n p = 108) → (sG t n (p + 1) < 48 ∨ 57 < sG t n (p + 1)) → (¬ s < 40) → Q (some (xV 0)) (xS (xU (xU a 1 3 (p + 1)) 1 4 (-1000 * 1 - (p + 1))) b)))
    (k32 : xK ((¬ sG t n p = 100) → (¬ sG t n p = 101) → (¬ sG t n p = 102) → (¬ sG t n p = 103) → (¬ sG t n p = 104) → (¬ sG t n p = 105) → (¬ sG t n p = 106) → (¬ sG t n p = 107) → (sG t n p = 108) → (¬ (sG t n (p + 1) < 48 ∨ 57 < sG t n (p + 1))) → (4 < sG t n (p + 1) - 48) → (s < 40) → Q (some (xV 0)) (xS (xU (xU (xU (xU a 1 3 (p + 1)) 1 4 (-1000 * 3 - (p + 1))) 32 s (xOr (xOr (3 * 64) ((-1) % 8 * 8)) (0 % 8))) 31 2 (s + 1)) b)))
    (k33 : xK ((¬ sG t n p = 100) → (¬ sG t n p = 101) → (¬ sG t n p = 102) → (¬ sG t n p = 103) → (¬ sG t n p = 104) → (¬ sG t n p = 105) → (¬ sG t n p = 106) → (¬ sG t n p = 107) → (sG t n p = 108) → (¬ (sG t n (p + 1) < 48 ∨ 57 < sG t n (p + 1))) → (4 < sG t n (p + 1) - 48) → (¬ s < 40) → Q (some (xV 0)) (xS (xU (xU a 1 3 (p + 1)) 1 4 (-1000 * 3 - (p + 1))) b)))
    (k34 : xK ((¬ sG t n p = 100) → (¬ sG t n p = 101) → (¬ sG t n p = 102) → (¬ sG t n p = 103) → (¬ sG t n p = 104) → (¬ sG t n p = 105) → (¬ sG t n p = 106) → (¬ sG t n p = 107) → (sG t n p = 108) → (¬ (sG t n (p + 1) < 48 ∨ 57 < sG t n (p + 1))) → (¬ 4 < sG t n (p + 1) - 48) → (p + 1 < n) → (sG t n (p + 1) - 48 = -1) → (s < 40) → Q (some (xV 0)) (xS (xU (xU (xU (xU a 1 3 (p + 1)) 1 3 (p + 1 + 1)) 32 s (xOr (xOr (3 * 64) ((sG t n (p + 1) - 48) % 8 * 8)) (0 % 8))) 31 2 (s + 1)) b)))
    (k35 : xK ((¬ sG t n p = 100) → (¬ sG t n p = 101) → (¬ sG t n p = 102) → (¬ sG t n p = 103) → (¬ sG t n p = 104) → (¬ sG t n p = 105) → (¬ sG t n p = 106) → (¬ sG t n p = 107) → (sG t n p = 108) → (¬ (sG t n (p + 1) < 48 ∨ 57 < sG t n (p + 1))) → (¬ 4 < sG t n (p + 1) - 48) → (p + 1 < n) → (sG t n (p + 1) - 48 = -1) → (¬ s < 40) → Q (some (xV 0)) (xS (xU (xU a 1 3 (p + 1)) 1 3 (p + 1 + 1)) b)))
    (k36 : xK ((¬ sG t n p = 100) → (¬ sG t n p = 101) → (¬ sG t n p = 102) → (¬ sG t n p = 103) → (¬ sG t n p = 104) → (¬ sG t n p = 105) → (¬ sG t n p = 106) → (¬ sG t n p = 107) → (sG t n p = 108) → (¬ (sG t n (p + 1) < 48 ∨ 57 < sG t n (p + 1))) → (¬ 4 < sG t n (p + 1) - 48) → (p + 1 < n) → (¬ sG t n (p + 1) - 48 = -1) → (sG t n (p + 1 + 1) < 48 ∨ 57 < sG t n (p + 1 + 1)) → (s < 40) → Q (some (xV 0)) (xS (xU (xU (xU (xU (xU a 1 3 (p + 1)) 1 3 (p + 1 + 1)) 1 4 (-1000 * 1 - (p + 1 + 1))) 32 s (xOr (xOr (3 * 64) ((sG t n (p + 1) - 48) % 8 * 8)) ((-1) % 8))) 31 2 (s + 1)) b)))
    (k37 : xK ((¬ sG t n p = 100) → (¬ sG t n p = 101) → (¬ sG t n p = 102) → (¬ sG t n p = 103) → (¬ sG t n p = 104) → (¬ sG t n p = 105) → (¬ sG t n p = 106) → (¬ sG t n p = 107) → (sG t n p = 108) → (¬ (sG t n (p + 1) < 48 ∨ 57 < sG t n (p + 1))) → (¬ 4 < sG t n (p + 1) - 48) → (p + 1 < n) → (¬ sG t n (p + 1) - 48 = -1) → (sG t n (p + 1 + 1) < 48 ∨ 57 < sG t n (p + 1 + 1)) → (¬ s < 40) → Q (some (xV 0)) (xS (xU (xU (xU a 1 3 (p + 1)) 1 3 (p + 1 + 1)) 1 4 (-1000 * 1 - (p + 1 + 1))) b)))
    (k38 : xK ((¬ sG t n p = 100) → (¬ sG t n p = 101) → (¬ sG t n p = 102) → (¬ sG t n p = 103) → (¬ sG t n p = 104) → (¬ sG t n p = 105) → (¬ sG t n p = 106) → (¬ sG t n p = 107) → (sG t n p = 108) → (¬ (sG t n (p + 1) < 48 ∨ 57 < sG t n (p + 1))) → (¬ 4 < sG t n (p + 1) - 48) → (p + 1 < n) → (¬ sG t n (p + 1) - 48 = -1) → (¬ (sG t n (p + 1 + 1) < 48 ∨ 57 < sG t n (p + 1 + 1))) → (6 < sG t n (p + 1 + 1) - 48) → (s < 40) → Q (some (xV 0)) (xS (xU (xU (xU (xU (xU a 1 3 (p + 1)) 1 3 (p + 1 + 1)) 1 4 (-1000 * 3 - (p + 1 + 1))) 32 s (xOr (xOr (3 * 64) ((sG t n (p + 1) - 48) % 8 * 8)) ((-1) % 8))) 31 2 (s + 1)) b)))
    (k39 : xK ((¬ sG t n p = 100) → (¬ sG t n p = 101) → (¬ sG t n p = 102) → (¬ sG t n p = 103) → (¬ sG t n p = 104) → (¬ sG t n p = 105) → (¬ sG t n p = 106) → (¬ sG t n p = 107) → (sG t n p = 108) → (¬ (sG t n (p + 1) < 48 ∨ 57 < sG t n (p + 1))) → (¬ 4 < sG t n (p + 1) - 48) → (p + 1 < n) → (¬ sG t n (p + 1) - 48 = -1) → (¬ (sG t n (p + 1 + 1) < 48 ∨ 57 < sG t n (p + 1 + 1))) → (6 < sG t n (p + 1 + 1) - 48) → (¬ s < 40) → Q (some (xV 0)) (xS (xU (xU (xU a 1 3 (p + 1)) 1 3 (p + 1 + 1)) 1 4 (-1000 * 3 - (p + 1 + 1))) b)))
    (k40 : xK ((¬ sG t n p = 100) → (¬ sG t n p = 101) → (¬ sG t n p = 102) → (¬ sG t n p = 103) → (¬ sG t n p = 104) → (¬ sG t n p = 105) → (¬ sG t n p = 106) → (¬ sG t n p = 107) → (sG t n p = 108) → (¬ (sG t n (p + 1) < 48 ∨ 57 < sG t n (p + 1))) → (¬ 4 < sG t n (p + 1) - 48) → (p + 1 < n) → (¬ sG t n (p + 1) - 48 = -1) → (¬ (sG t n (p + 1 + 1) < 48 ∨ 57 < sG t n (p + 1 + 1))) → (¬ 6 < sG t n (p + 1 + 1) - 48) → (p + 1 + 1 < n) → (s < 40) → (sG t n (p + 1 + 1) - 48 = -1) → Q (some (xV 0)) (xS (xU (xU (xU (xU (xU a 1 3 (p + 1)) 1 3 (p + 1 + 1)) 1 3 (p + 1 + 1 + 1)) 32 s (xOr (xOr (3 * 64) ((sG t n (p + 1) - 48) % 8 * 8)) ((sG t n (p + 1 + 1) - 48) % 8))) 31 2 (s + 1)) b)))
    (k41 : xK ((¬ sG t n p = 100) → (¬ sG t n p = 101) → (¬ sG t n p = 102) → (¬ sG t n p = 103) → (¬ sG t n p = 104) → (¬ sG t n p = 105) → (¬ sG t n p = 106) → (¬ sG t n p = 107) → (sG t n p = 108) → (¬ (sG t n (p + 1) < 48 ∨ 57 < sG t n (p + 1))) → (¬ 4 < sG t n (p + 1) - 48) → (p + 1 < n) → (¬ sG t n (p + 1) - 48 = -1) → (¬ (sG t n (p + 1 + 1) < 48 ∨ 57 < sG t n (p + 1 + 1))) → (¬ 6 < sG t n (p + 1 + 1) - 48) → (p + 1 + 1 < n) → (s < 40) → (¬ sG t n (p + 1 + 1) - 48 = -1) → Q (some (xV 1)) (xS (xU (xU (xU (xU (xU a 1 3 (p + 1)) 1 3 (p + 1 + 1)) 1 3 (p + 1 + 1 + 1)) 32 s (xOr (xOr (3 * 64) ((sG t n (p + 1) - 48) % 8 * 8)) ((sG t n (p + 1 + 1) - 48) % 8))) 31 2 (s + 1)) b)))
    (k42 : xK ((¬ sG t n p = 100) → (¬ sG t n p = 101) → (¬ sG t n p = 102) → (¬ sG t n p = 103) → (¬ sG t n p = 104) → (¬ sG t n p = 105) → (¬ sG t n p = 106) → (¬ sG t n p = 107) → (sG t n p = 108) → (¬ (sG t n (p + 1) < 48 ∨ 57 < sG t n (p + 1))) → (¬ 4 < sG t n (p + 1) - 48) → (p + 1 < n) → (¬ sG t n (p + 1) - 48 = -1) → (¬ (sG t n (p + 1 + 1) < 48 ∨ 57 < sG t n (p + 1 + 1))) → (¬ 6 < sG t n (p + 1 + 1) - 48) → (p + 1 + 1 < n) → (¬ s < 40) → (sG t n (p + 1 + 1) - 48 = -1) → Q (some (xV 0)) (xS (xU (xU (xU a 1 3 (p + 1)) 1 3 (p + 1 + 1)) 1 3 (p + 1 + 1 + 1)) b)))
    (k43 : xK ((¬ sG t n p = 100) → (¬ sG t n p = 101) → (¬ sG t n p = 102) → (¬ sG t n p = 103) → (¬ sG t n p = 104) → (¬ sG t n p = 105) → (¬ sG t n p = 106) → (¬ sG t n p = 107) → (sG t n p = 108) → (¬ (sG t n (p + 1) < 48 ∨ 57 < sG t n (p + 1))) → (¬ 4 < sG t n (p + 1) - 48) → (p + 1 < n) → (¬ sG t n (p + 1) - 48 = -1) → (¬ (sG t n (p + 1 + 1) < 48 ∨ 57 < sG t n (p + 1 + 1))) → (¬ 6 < sG t n (p + 1 + 1) - 48) → (p + 1 + 1 < n) → (¬ s < 40) → (¬ sG t n (p + 1 + 1) - 48 = -1) → Q (some (xV 1)) (xS (xU (xU (xU a 1 3 (p + 1)) 1 3 (p + 1 + 1)) 1 3 (p + 1 + 1 + 1)) b)))
    (k44 : xK ((¬ sG t n p = 100) → (¬ sG t n p = 101) → (¬ sG t n p = 102) → (¬ sG t n p = 103) → (¬ sG t n p = 104) → (¬ sG t n p = 105) → (¬ sG t n p = 106) → (¬ sG t n p = 107) → (¬ sG t n p = 108) → (sG t n p = 109) → Q (some (xV 0)) (xS (xU a 1 4 (-1000 * 1 - p)) b)))
    (k45 : xK ((¬ sG t n p = 100) → (¬ sG t n p = 101) → (¬ sG t n p = 102) → (¬ sG t n p = 103) → (¬ sG t n p = 104) → (¬ sG t n p = 105) → (¬ sG t n p = 106) → (¬ sG t n p = 107) → (¬ sG t n p = 108) → (¬ sG t n p = 109) → (sG t n p = 110) → Q (some (xV 0)) (xS (xU a 1 4 (-1000 * 1 - p)) b)))
    (k46 : xK ((¬ sG t n p = 100) → (¬ sG t n p = 101) → (¬ sG t n p = 102) → (¬ sG t n p = 103) → (¬ sG t n p = 104) → (¬ sG t n p = 105) → (¬ sG t n p = 106) → (¬ sG t n p = 107) → (¬ sG t n p = 108) → (¬ sG t n p = 109) → (¬ sG t n p = 110) → (sG t n p = 111) → (sG t n (p + 1) < 48 ∨ 57 < sG t n (p + 1)) → (s < 40) → Q (some (xV 0)) (xS (xU (xU (xU (xU a 1 3 (p + 1)) 1 4 (-1000 * 1 - (p + 1))) 32 s (xOr (xOr (4 * 64) ((-1) % 8 * 8)) (0 % 8))) 31 2 (s + 1)) b)))
    (k47 : xK ((¬ sG t n p = 100) → (¬ sG t n p = 101) → (¬ sG t n p = 102) → (¬ sG t n p = 103) → (¬ sG t n p = 104) → (¬ sG t n p = 105) → (¬ sG t n p = 106) → (¬ sG t n p = 107) → (¬ sG t n p = 108) → (¬ sG t n p = 109) → (¬ sG t n p = 110) → (sG t n p = 111) → (sG t n (p + 1) < 48 ∨ 57 < sG t n (p + 1)) → (¬ s < 40) → Q (some (xV 0)) (xS (xU (xU a 1 3 (p + 1)) 1 4 (-1000 * 1 - (p + 1))) b)))
    (k48 : xK ((¬ sG t n p = 100) → (¬ sG t n p = 101) → (¬ sG t n p = 102) → (¬ sG t n p = 103) → (¬ sG t n p = 104) → (¬ sG t n p = 105) → (¬ sG t n p = 106) → (¬ sG t n p = 107) → (¬ sG t n p = 108) → (¬ sG t n p = 109) → (¬ sG t n p = 110) → (sG t n p = 111) → (¬ (sG t n (p + 1) < 48 ∨ 57 < sG t n (p + 1))) → (3 < sG t n (p + 1) - 48) → (s < 40) → Q (some (xV 0)) (xS (xU (xU (xU (xU a 1 3 (p + 1)) 1 4 (-1000 * 3 - (p + 1))) 32 s (xOr (xOr (4 * 64) ((-1) % 8 * 8)) (0 % 8))) 31 2 (s + 1)) b)))
    (k49 : xK ((¬ sG t n p = 100) → (¬ sG t n p = 101) → (¬ sG t n p = 102) → (¬ sG t n p = 103) → (¬ sG t n p = 104) → (¬ sG t n p = 105) → (¬ sG t n p = 106) → (¬ sG t n p = 107) → (¬ sG t n p = 108) → (¬ sG t n p = 109) → (¬ sG t n p = 110) → (sG t n p = 111) → (¬ (sG t n (p + 1) < 48 ∨ 57 < sG t n (p + 1))) → (3 < sG t n (p + 1) - 48) → (¬ s < 40) → Q (some (xV 0)) (xS (xU (xU a 1 3 (p + 1)) 1 4 (-1000 * 3 - (p + 1))) b)))
    (k50 : xK ((¬ sG t n p = 100) → (¬ sG t n p = 101) → (¬ sG t n p = 102) → (¬ sG t n p = 103) → (¬ sG t n p = 104) → (¬ sG t n p = 105) → (¬ sG t n p = 106) → (¬ sG t n p = 107) → (¬ sG t n p = 108) → (¬ sG t n p = 109) → (¬ sG t n p = 110) → (sG t n p = 111) → (¬ (sG t n (p + 1) < 48 ∨ 57 < sG t n (p + 1))) → (¬ 3 < sG t n (p + 1) - 48) → (p + 1 < n) → (sG t n (p + 1) - 48 = -1) → (s < 40) → Q (some (xV 0)) (xS (xU (xU (xU (xU a 1 3 (p + 1)) 1 3 (p + 1 + 1)) 32 s (xOr (xOr (4 * 64) ((sG t n (p + 1) - 48) % 8 * 8)) (0 % 8))) 31 2 (s + 1)) b)))
    (k51 : xK ((¬ sG t n p = 100) → (¬ sG t n p = 101) → (¬ sG t n p = 102) → (¬ sG t n p = 103) → (¬ sG t n p = 104) → (¬ sG t n p = 105) → (¬ sG t n p = 106) → (¬ sG t n p = 107) → (¬ sG t n p = 108) → (¬ sG t n p = 109) → (¬ sG t n p = 110) → (sG t n p = 111) → (¬ (sG t n (p + 1) < 48 ∨ 57 < sG t n (p + 1))) → (¬ 3 < sG t n (p + 1) - 48) → (p + 1 < n) → (sG t n (p + 1) - 48 = -1) → (¬ s < 40) → Q (some (xV 0)) (xS (xU (xU a 1 3 (p + 1)) 1 3 (p + 1 + 1)) b)))
    (k52 : xK ((¬ sG t n p = 100) → (¬ sG t n p = 101) → (¬ sG t n p = 102) → (¬ sG t n p = 103) → (¬ sG t n p = 104) → (¬ sG t n p = 105) → (¬ sG t n p = 106) → (¬ sG t n p = 107) → (¬ sG t n p = 108) → (¬ sG t n p = 109) → (¬ sG t n p = 110) → (sG t n p = 111) → (¬ (sG t n (p + 1) < 48 ∨ 57 < sG t n (p + 1))) → (¬ 3 < sG t n (p + 1) - 48) → (p + 1 < n) → (¬ sG t n (p + 1) - 48 = -1) → (sG t n (p + 1 + 1) < 48 ∨ 57 < sG t n (p + 1 + 1)) → (s < 40) → Q (some (xV 0)) (xS (xU (xU (xU (xU (xU a 1 3 (p + 1)) 1 3 (p + 1 + 1)) 1 4 (-1000 * 1 - (p + 1 + 1))) 32 s (xOr (xOr (4 * 64) ((sG t n (p + 1) - 48) % 8 * 8)) ((-1) % 8))) 31 2 (s + 1)) b)))
    (k53 : xK ((¬ sG t n p = 100) → (¬ sG t n p = 101) → (¬ sG t n p = 102) → (¬ sG t n p = 103) → (¬ sG t n p = 104) → (¬ sG t n p = 105) → (¬ sG t n p = 106) → (¬ sG t n p = 107) → (¬ sG t n p = 108) → (¬ sG t n p = 109) → (¬ sG t n p = 110) → (sG t n p = 111) → (¬ (sG t n (p + 1) < 48 ∨ 57 < sG t n (p + 1))) → (¬ 3 < sG t n (p + 1) - 48) → (p + 1 < n) → (¬ sG t n (p + 1) - 48 = -1) → (sG t n (p + 1 + 1) < 48 ∨ 57 < sG t n (p + 1 + 1)) → (¬ s < 40) → Q (some (xV 0)) (xS (xU (xU (xU a 1 3 (p + 1)) 1 3 (p + 1 + 1)) 1 4 (-1000 * 1 - (p + 1 + 1))) b)))
    (k54 : xK ((¬ sG t n p = 100) → (¬ sG t n p = 101) → (¬ sG t n p = 102) → (¬ sG t n p = 103) → (¬ sG t n p = 104) → (¬ sG t n p = 105) → (¬ sG t n p = 106) → (¬ sG t n p = 107) → (¬ sG t n p = 108) → (¬ sG t n p = 109) → (¬ sG t n p = 110) → (sG t n p = 111) → (¬ (sG t n (p + 1) < 48 ∨ 57 < sG t n (p + 1))) → (¬ 3 < sG t n (p + 1) - 48) → (p + 1 < n) → (¬ sG t n (p + 1) - 48 = -1) → (¬ (sG t n (p + 1 + 1) < 48 ∨ 57 < sG t n (p + 1 + 1))) → (4 < sG t n (p + 1 + 1) - 48) → (s < 40) → Q (some (xV 0)) (xS (xU (xU (xU (xU (xU a 1 3 (p + 1)) 1 3 (p + 1 + 1)) 1 4 (-1000 * 3 - (p + 1 + 1))) 32 s (xOr (xOr (4 * 64) ((sG t n (p + 1) - 48) % 8 * 8)) ((-1) % 8))) 31 2 (s + 1)) b)))
    (k55 : xK ((¬ sG t n p = 100) → (¬ sG t n p = 101) → (¬ sG t n p = 102) → (¬ sG t n p = 103) → (¬ sG t n p = 104) → (¬ sG t n p = 105) → (¬ sG t n p = 106) → (¬ sG t n p = 107) → (¬ sG t n p = 108) → (¬ sG t n p = 109) → (¬ sG t n p = 110) → (sG t n p = 111) → (¬ (sG t n (p + 1) < 48 ∨ 57 < sG t n (p + 1))) → (¬ 3 < sG t n (p + 1) - 48) → (p + 1 < n) → (¬ sG t n (p + 1) - 48 = -1) → (¬ (sG t n (p + 1 + 1) < 48 ∨ 57 < sG t n (p + 1 + 1))) → (4 < sG t n (p + 1 + 1) - 48) → (¬ s < 40) → Q (some (xV 0)) (xS (xU (xU (xU a 1 3 (p + 1)) 1 3 (p + 1 + 1)) 1 4 (-1000 * 3 - (p + 1 + 1))) b)))
    (k56 : xK ((¬ sG t n p = 100) → (¬ sG t n p = 101) → (¬ sG t n p = 102) → (¬ sG t n p = 103) → (¬ sG t n p = 104) → (¬ sG t n p = 105) → (¬ sG t n p = 106) → (¬ sG t n p = 107) → (¬ sG t n p = 108) → (¬ sG t n p = 109) → (¬ sG t n p = 110) → (sG t n p = 111) → (¬ (sG t n (p + 1) < 48 ∨ 57 < sG t n (p + 1))) → (¬ 3 < sG t n (p + 1) - 48) → (p + 1 < n) → (¬ sG t n (p + 1) - 48 = -1) → (¬ (sG t n (p + 1 + 1) < 48 ∨ 57 < sG t n (p + 1 + 1))) → (¬ 4 < sG t n (p + 1 + 1) - 48) → (p + 1 + 1 < n) → (s < 40) → (sG t n (p + 1 + 1) - 48 = -1) → Q (some (xV 0)) (xS (xU (xU (xU (xU (xU a 1 3 (p + 1)) 1 3 (p + 1 + 1)) 1 3 (p + 1 + 1 + 1)) 32 s (xOr (xOr (4 * 64) ((sG t n (p + 1) - 48) % 8 * 8)) ((sG t n (p + 1 + 1) - 48) % 8))) 31 2 (s + 1)) b)))
    (k57 : xK ((¬ sG t n p = 100) → (¬ sG t n p = 101) → (¬ sG t n p = 102) → (¬ sG t n p = 103) → (¬ sG t n p = 104) → (¬ sG t n p = 105) → (¬ sG t n p = 106) → (¬ sG t n p = 107) → (¬ sG t n p = 108) → (¬ sG t n p = 109) → (¬ sG t n p = 110) → (sG t n p = 111) → (¬ (sG t n (p + 1) < 48 ∨ 57 < sG t n (p + 1))) → (¬ 3 < sG t n (p + 1) - 48) → (p + 1 < n) → (¬ sG t n (p + 1) - 48 = -1) → (¬ (sG t n (p + 1 + 1) < 48 ∨ 57 < sG t n (p + 1 + 1))) → (¬ 4 < sG t n (p + 1 + 1) - 48) → (p + 1 + 1 < n) → (s < 40) → (¬ sG t n (p + 1 + 1) - 48 = -1) → Q (some (xV 1)) (xS (xU (xU (xU (xU (xU a 1 3 (p + 1)) 1 3 (p + 1 + 1)) 1 3 (p + 1 + 1 + 1)) 32 s (xOr (xOr (4 * 64) ((sG t n (p + 1) - 48) % 8 * 8)) ((sG t n (p + 1 + 1) - 48) % 8))) 31 2 (s + 1)) b)))
    (k58 : xK ((¬ sG t n p = 100) → (¬ sG t n p = 101) → (¬ sG t n p = 102) → (¬ sG t n p = 103) → (¬ sG t n p = 104) → (¬ sG t n p = 105) → (¬ sG t n p = 106) → (¬ sG t n p = 107) → (¬ sG t n p = 108) → (¬ sG t n p = 109) → (¬ sG t n p = 110) → (sG t n p = 111) → (¬ (sG t n (p + 1) < 48 ∨ 57 < sG t n (p + 1))) → (¬ 3 < sG t n (p + 1) - 48) → (p + 1 < n) → (¬ sG t n (p + 1) - 48 = -1) → (¬ (sG t n (p + 1 + 1) < 48 ∨ 57 < sG t n (p + 1 + 1))) → (¬ 4 < sG t n (p + 1 + 1) - 48) → (p + 1 + 1 < n) → (¬ s < 40) → (sG t n (p + 1 + 1) - 48 = -1) → Q (some (xV 0)) (xS (xU (xU (xU a 1 3 (p + 1)) 1 3 (p + 1 + 1)) 1 3 (p + 1 + 1 + 1)) b)))
    (k59 : xK ((¬ sG t n p = 100) → (¬ sG t n p = 101) → (¬ sG t n p = 102) → (¬ sG t n p = 103) → (¬ sG t n p = 104) → (¬ sG t n p = 105) → (¬ sG t n p = 106) → (¬ sG t n p = 107) → (¬ sG t n p = 108) → (¬ sG t n p = 109) → (¬ sG t n p = 110) → (sG t n p = 111) → (¬ (sG t n (p + 1) < 48 ∨ 57 < sG t n (p + 1))) → (¬ 3 < sG t n (p + 1) - 48) → (p + 1 < n) → (¬ sG t n (p + 1) - 48 = -1) → (¬ (sG t n (p + 1 + 1) < 48 ∨ 57 < sG t n (p + 1 + 1))) → (¬ 4 < sG t n (p + 1 + 1) - 48) → (p + 1 + 1 < n) → (¬ s < 40) → (¬ sG t n (p + 1 + 1) - 48 = -1) → Q (some (xV 1)) (xS (xU (xU (xU a 1 3 (p + 1)) 1 3 (p + 1 + 1)) 1 3 (p + 1 + 1 + 1)) b)))
    (k60 : xK ((¬ sG t n p = 100) → (¬ sG t n p = 101) → (¬ sG t n p = 102) → (¬ sG t n p = 103) → (¬ sG t n p = 104) → (¬ sG t n p = 105) → (¬ sG t n p = 106) → (¬ sG t n p = 107) → (¬ sG t n p = 108) → (¬ sG t n p = 109) → (¬ sG t n p = 110) → (¬ sG t n p = 111) → Q (some (xV 0)) (xS (xU a 1 4 (-1000 * 1 - p)) b))) :
    pmWp ro d 8 38 2 0 [some (.ref 31), some (xV (sG t n p)), none, none, none, none, none] [] (xS a b) Q := by
  refine x_iconst xc38_0 ?_
  refine x_istoren (pl' := [some (.ref 31), some (xV (sG t n p)), none, some (xV 4), none, none, none]) xc38_1 rfl rfl ?_
  refine x_iconst xc38_2 ?_
  refine x_istore (pl' := [some (.ref 31), some (xV (sG t n p)), none, some (xV 4), some (xV (-1)), none, none]) xc38_3 rfl rfl ?_
  refine x_iloadn xc38_5 rfl ?_
  by_cases h0 : sG t n p = 100
  · refine x_sw (c := 100) (t := 81) h0 xc38_6.1 rfl ?_
    refine x_iconst xc38_81 ?_
    refine x_istoren (pl' := [some (.ref 31), some (xV (sG t n p)), some (xV 2), some (xV 4), some (xV (-1)), none, none]) xc38_82 rfl rfl ?_
    refine x_iconst xc38_83 ?_
    refine x_istoren (pl' := [some (.ref 31), some (xV (sG t n p)), some (xV 2), some (xV 3), some (xV (-1)), none, none]) xc38_84 rfl rfl ?_
    refine x_goto xc38_85 ?_
    refine x_aloadn xc38_116 rfl ?_
    refine x_gfr xc38_117 rfl rfl xz31 rfl ?_
    refine x_dup xc38_120 rfl ?_
    refine x_gfi' (k := 3) (v := p) xc38_121 rfl (Or.inl rfl) rfl xz1 hC.2.2 ?_
    refine x_iconst xc38_124 ?_
    refine x_iadd xc38_125 ?_
    refine x_pfi (k := 3) xc38_126 rfl ⟨rfl, rfl⟩ rfl xz1 ?_
    refine x_aloadn xc38_129 rfl ?_
    refine x_gfr xc38_130 rfl rfl xz31 rfl ?_
    refine x_iloadn xc38_133 rfl ?_
    refine x_cV (as := [xV 3]) (rest := []) xc38_134 rfl xi40 xz1 ⟨rfl, rfl⟩ rfl rfl ?_
    refine xk40 (tC.at hC) (by omega) (by omega) hb (xAr_u hA (xRk (by omega))) (xRk (by decide)) (by omega) (fun h1 => ?_) (fun h2 h3 => ?_) (fun h4 h5 h6 => ?_)
    · refine x_istore (pl' := [some (.ref 31), some (xV (sG t n p)), some (xV 2), some (xV 3), some (xV (-1)), some (xV (-1)), none]) xc38_137 rfl rfl ?_
      refine x_iload xc38_139 rfl ?_
      refine x_iconst xc38_141 ?_
      refine x_iceq xc38_142 (xRk (by decide)) (xRk (by decide)) (fun _ => ?_) (fun h => absurd h (by omega))
      refine x_iconst xc38_151 ?_
      refine x_goto xc38_152 ?_
      refine x_istore (pl' := [some (.ref 31), some (xV (sG t n p)), some (xV 2), some (xV 3), some (xV (-1)), some (xV (-1)), some (xV 0)]) xc38_164 rfl rfl ?_
      refine x_aloadn xc38_166 rfl ?_
      refine x_iloadn xc38_167 rfl ?_
      refine x_iload xc38_168 rfl ?_
      refine x_iload xc38_170 rfl ?_
      refine x_cV (as := [xV 2, xV (-1), xV 0]) (rest := []) xc38_172 rfl xi41 xz31 ⟨rfl, rfl⟩ rfl rfl ?_
      refine xk41 (xRk (by decide)) (xRk (by decide)) (xRk (by decide)) (by rw [xUn (by decide), xUn (by decide), hs]) (by omega) (by omega) (fun h8 => ?_) (fun h9 => ?_)
      · refine x_iload xc38_175 rfl ?_
        refine x_iconst xc38_177 ?_
        refine x_iceq xc38_178 (xRk (by decide)) (xRk (by decide)) (fun _ => ?_) (fun h => absurd h (by omega))
        refine x_iconst xc38_191 ?_
        refine x_iret xc38_192 (Or.inr ⟨rfl, (by omega)⟩) ?_
        exact k1 h0 h1 h8
      · refine x_iload xc38_175 rfl ?_
        refine x_iconst xc38_177 ?_
        refine x_iceq xc38_178 (xRk (by decide)) (xRk (by decide)) (fun _ => ?_) (fun h => absurd h (by omega))
        refine x_iconst xc38_191 ?_
        refine x_iret xc38_192 (Or.inr ⟨rfl, (by omega)⟩) ?_
        exact k2 h0 h1 h9
    · refine x_istore (pl' := [some (.ref 31), some (xV (sG t n p)), some (xV 2), some (xV 3), some (xV (-1)), some (xV (-1)), none]) xc38_137 rfl rfl ?_
      refine x_iload xc38_139 rfl ?_
      refine x_iconst xc38_141 ?_
      refine x_iceq xc38_142 (xRk (by decide)) (xRk (by decide)) (fun _ => ?_) (fun h => absurd h (by omega))
      refine x_iconst xc38_151 ?_
      refine x_goto xc38_152 ?_
      refine x_istore (pl' := [some (.ref 31), some (xV (sG t n p)), some (xV 2), some (xV 3), some (xV (-1)), some (xV (-1)), some (xV 0)]) xc38_164 rfl rfl ?_
      refine x_aloadn xc38_166 rfl ?_
      refine x_iloadn xc38_167 rfl ?_
      refine x_iload xc38_168 rfl ?_
      refine x_iload xc38_170 rfl ?_
      refine x_cV (as := [xV 2, xV (-1), xV 0]) (rest := []) xc38_172 rfl xi41 xz31 ⟨rfl, rfl⟩ rfl rfl ?_
      refine xk41 (xRk (by decide)) (xRk (by decide)) (xRk (by decide)) (by rw [xUn (by decide), xUn (by decide), hs]) (by omega) (by omega) (fun h13 => ?_) (fun h14 => ?_)
      · refine x_iload xc38_175 rfl ?_
        refine x_iconst xc38_177 ?_
        refine x_iceq xc38_178 (xRk (by decide)) (xRk (by decide)) (fun _ => ?_) (fun h => absurd h (by omega))
        refine x_iconst xc38_191 ?_
        refine x_iret xc38_192 (Or.inr ⟨rfl, (by omega)⟩) ?_
        exact k3 h0 h2 h3 h13
      · refine x_iload xc38_175 rfl ?_
        refine x_iconst xc38_177 ?_
        refine x_iceq xc38_178 (xRk (by decide)) (xRk (by decide)) (fun _ => ?_) (fun h => absurd h (by omega))
        refine x_iconst xc38_191 ?_
        refine x_iret xc38_192 (Or.inr ⟨rfl, (by omega)⟩) ?_
        exact k4 h0 h2 h3 h14
    · refine x_istore (pl' := [some (.ref 31), some (xV (sG t n p)), some (xV 2), some (xV 3), some (xV (-1)), some (xV (sG t n (p + 1) - 48)), none]) xc38_137 rfl rfl ?_
      refine x_iload xc38_139 rfl ?_
      refine x_iconst xc38_141 ?_
      refine x_iceq xc38_142 (xRk (by have g0 := sGB (n := n) (p := p + 1) hb (by omega); omega)) (xRk (by decide)) (fun h17 => ?_) (fun h17 => ?_)
      · refine x_iconst xc38_151 ?_
        refine x_goto xc38_152 ?_
        refine x_istore (pl' := [some (.ref 31), some (xV (sG t n p)), some (xV 2), some (xV 3), some (xV (-1)), some (xV (sG t n (p + 1) - 48)), some (xV 0)]) xc38_164 rfl rfl ?_
        refine x_aloadn xc38_166 rfl ?_
        refine x_iloadn xc38_167 rfl ?_
        refine x_iload xc38_168 rfl ?_
        refine x_iload xc38_170 rfl ?_
        refine x_cV (as := [xV 2, xV (sG t n (p + 1) - 48), xV 0]) (rest := []) xc38_172 rfl xi41 xz31 ⟨rfl, rfl⟩ rfl rfl ?_
        refine xk41 (xRk (by decide)) (xRk (by have g0 := sGB (n := n) (p := p + 1) hb (by omega); omega)) (xRk (by decide)) (by rw [xUn (by decide), xUn (by decide), hs]) (by omega) (by omega) (fun h18 => ?_) (fun h19 => ?_)
        · refine x_iload xc38_175 rfl ?_
          refine x_iconst xc38_177 ?_
          refine x_iceq xc38_178 (xRk (by have g0 := sGB (n := n) (p := p + 1) hb (by omega); omega)) (xRk (by decide)) (fun _ => ?_) (fun h => absurd h (by omega))
          refine x_iconst xc38_191 ?_
          refine x_iret xc38_192 (Or.inr ⟨rfl, (by omega)⟩) ?_
          exact k5 h0 h4 h5 h6 h17 h18
        · refine x_iload xc38_175 rfl ?_
          refine x_iconst xc38_177 ?_
          refine x_iceq xc38_178 (xRk (by have g0 := sGB (n := n) (p := p + 1) hb (by omega); omega)) (xRk (by decide)) (fun _ => ?_) (fun h => absurd h (by omega))
          refine x_iconst xc38_191 ?_
          refine x_iret xc38_192 (Or.inr ⟨rfl, (by omega)⟩) ?_
          exact k6 h0 h4 h5 h6 h17 h19
      · refine x_iload xc38_145 rfl ?_
        refine x_iconst xc38_147 ?_
        refine x_icne xc38_148 (xRk (by decide)) (xRk (by decide)) (fun h => absurd h (by omega)) (fun _ => ?_)
        refine x_iconst xc38_151 ?_
        refine x_goto xc38_152 ?_
        refine x_istore (pl' := [some (.ref 31), some (xV (sG t n p)), some (xV 2), some (xV 3), some (xV (-1)), some (xV (sG t n (p + 1) - 48)), some (xV 0)]) xc38_164 rfl rfl ?_
        refine x_aloadn xc38_166 rfl ?_
        refine x_iloadn xc38_167 rfl ?_
        refine x_iload xc38_168 rfl ?_
        refine x_iload xc38_170 rfl ?_
        refine x_cV (as := [xV 2, xV (sG t n (p + 1) - 48), xV 0]) (rest := []) xc38_172 rfl xi41 xz31 ⟨rfl, rfl⟩ rfl rfl ?_
        refine xk41 (xRk (by decide)) (xRk (by have g0 := sGB (n := n) (p := p + 1) hb (by omega); omega)) (xRk (by decide)) (by rw [xUn (by decide), xUn (by decide), hs]) (by omega) (by omega) (fun h23 => ?_) (fun h24 => ?_)
        · refine x_iload xc38_175 rfl ?_
          refine x_iconst xc38_177 ?_
          refine x_iceq xc38_178 (xRk (by have g0 := sGB (n := n) (p := p + 1) hb (by omega); omega)) (xRk (by decide)) (fun h => absurd h (by omega)) (fun _ => ?_)
          refine x_iload xc38_181 rfl ?_
          refine x_iconst xc38_183 ?_
          refine x_iceq xc38_184 (xRk (by decide)) (xRk (by decide)) (fun h => absurd h (by omega)) (fun _ => ?_)
          refine x_iconst xc38_187 ?_
          refine x_goto xc38_188 ?_
          refine x_iret xc38_192 (Or.inr ⟨rfl, (by omega)⟩) ?_
          exact k7 h0 h4 h5 h6 h17 h23
        · refine x_iload xc38_175 rfl ?_
          refine x_iconst xc38_177 ?_
          refine x_iceq xc38_178 (xRk (by have g0 := sGB (n := n) (p := p + 1) hb (by omega); omega)) (xRk (by decide)) (fun h => absurd h (by omega)) (fun _ => ?_)
          refine x_iload xc38_181 rfl ?_
          refine x_iconst xc38_183 ?_
          refine x_iceq xc38_184 (xRk (by decide)) (xRk (by decide)) (fun h => absurd h (by omega)) (fun _ => ?_)
          refine x_iconst xc38_187 ?_
          refine x_goto xc38_188 ?_
          refine x_iret xc38_192 (Or.inr ⟨rfl, (by omega)⟩) ?_
          exact k8 h0 h4 h5 h6 h17 h24
  by_cases h29 : sG t n p = 101
  · refine x_sw (c := 101) (t := 107) h29 xc38_6.1 rfl ?_
    refine x_aloadn xc38_107 rfl ?_
    refine x_gfr xc38_108 rfl rfl xz31 rfl ?_
    refine x_iconst xc38_111 ?_
    refine x_cV (as := [xV 1]) (rest := []) xc38_112 rfl xi39 xz1 ⟨rfl, rfl⟩ rfl rfl ?_
    refine xk39 hC (by omega) (by omega) hb hA (xRk (by decide)) (by omega) ?_
    refine x_iret xc38_115 (Or.inr ⟨rfl, (by omega)⟩) ?_
    exact k9 h0 h29
  by_cases h30 : sG t n p = 102
  · refine x_sw (c := 102) (t := 107) h30 xc38_6.1 rfl ?_
    refine x_aloadn xc38_107 rfl ?_
    refine x_gfr xc38_108 rfl rfl xz31 rfl ?_
    refine x_iconst xc38_111 ?_
    refine x_cV (as := [xV 1]) (rest := []) xc38_112 rfl xi39 xz1 ⟨rfl, rfl⟩ rfl rfl ?_
    refine xk39 hC (by omega) (by omega) hb hA (xRk (by decide)) (by omega) ?_
    refine x_iret xc38_115 (Or.inr ⟨rfl, (by omega)⟩) ?_
    exact k10 h0 h29 h30
  by_cases h31 : sG t n p = 103
  · refine x_sw (c := 103) (t := 107) h31 xc38_6.1 rfl ?_
    refine x_aloadn xc38_107 rfl ?_
    refine x_gfr xc38_108 rfl rfl xz31 rfl ?_
    refine x_iconst xc38_111 ?_
    refine x_cV (as := [xV 1]) (rest := []) xc38_112 rfl xi39 xz1 ⟨rfl, rfl⟩ rfl rfl ?_
    refine xk39 hC (by omega) (by omega) hb hA (xRk (by decide)) (by omega) ?_
    refine x_iret xc38_115 (Or.inr ⟨rfl, (by omega)⟩) ?_
    exact k11 h0 h29 h30 h31
  by_cases h32 : sG t n p = 104
  · refine x_sw (c := 104) (t := 68) h32 xc38_6.1 rfl ?_
    refine x_iconst xc38_68 ?_
    refine x_istoren (pl' := [some (.ref 31), some (xV (sG t n p)), some (xV 0), some (xV 4), some (xV (-1)), none, none]) xc38_69 rfl rfl ?_
    refine x_goto xc38_70 ?_
    refine x_aloadn xc38_116 rfl ?_
    refine x_gfr xc38_117 rfl rfl xz31 rfl ?_
    refine x_dup xc38_120 rfl ?_
    refine x_gfi' (k := 3) (v := p) xc38_121 rfl (Or.inl rfl) rfl xz1 hC.2.2 ?_
    refine x_iconst xc38_124 ?_
    refine x_iadd xc38_125 ?_
    refine x_pfi (k := 3) xc38_126 rfl ⟨rfl, rfl⟩ rfl xz1 ?_
    refine x_aloadn xc38_129 rfl ?_
    refine x_gfr xc38_130 rfl rfl xz31 rfl ?_
    refine x_iloadn xc38_133 rfl ?_
    refine x_cV (as := [xV 4]) (rest := []) xc38_134 rfl xi40 xz1 ⟨rfl, rfl⟩ rfl rfl ?_
    refine xk40 (tC.at hC) (by omega) (by omega) hb (xAr_u hA (xRk (by omega))) (xRk (by decide)) (by omega) (fun h33 => ?_) (fun h34 h35 => ?_) (fun h36 h37 h38 => ?_)
    · refine x_istore (pl' := [some (.ref 31), some (xV (sG t n p)), some (xV 0), some (xV 4), some (xV (-1)), some (xV (-1)), none]) xc38_137 rfl rfl ?_
      refine x_iload xc38_139 rfl ?_
      refine x_iconst xc38_141 ?_
      refine x_iceq xc38_142 (xRk (by decide)) (xRk (by decide)) (fun _ => ?_) (fun h => absurd h (by omega))
      refine x_iconst xc38_151 ?_
      refine x_goto xc38_152 ?_
      refine x_istore (pl' := [some (.ref 31), some (xV (sG t n p)), some (xV 0), some (xV 4), some (xV (-1)), some (xV (-1)), some (xV 0)]) xc38_164 rfl rfl ?_
      refine x_aloadn xc38_166 rfl ?_
      refine x_iloadn xc38_167 rfl ?_
      refine x_iload xc38_168 rfl ?_
      refine x_iload xc38_170 rfl ?_
      refine x_cV (as := [xV 0, xV (-1), xV 0]) (rest := []) xc38_172 rfl xi41 xz31 ⟨rfl, rfl⟩ rfl rfl ?_
      refine xk41 (xRk (by decide)) (xRk (by decide)) (xRk (by decide)) (by rw [xUn (by decide), xUn (by decide), hs]) (by omega) (by omega) (fun h40 => ?_) (fun h41 => ?_)
      · refine x_iload xc38_175 rfl ?_
        refine x_iconst xc38_177 ?_
        refine x_iceq xc38_178 (xRk (by decide)) (xRk (by decide)) (fun _ => ?_) (fun h => absurd h (by omega))
        refine x_iconst xc38_191 ?_
        refine x_iret xc38_192 (Or.inr ⟨rfl, (by omega)⟩) ?_
        exact k12 h0 h29 h30 h31 h32 h33 h40
      · refine x_iload xc38_175 rfl ?_
        refine x_iconst xc38_177 ?_
        refine x_iceq xc38_178 (xRk (by decide)) (xRk (by decide)) (fun _ => ?_) (fun h => absurd h (by omega))
        refine x_iconst xc38_191 ?_
        refine x_iret xc38_192 (Or.inr ⟨rfl, (by omega)⟩) ?_
        exact k13 h0 h29 h30 h31 h32 h33 h41
    · refine x_istore (pl' := [some (.ref 31), some (xV (sG t n p)), some (xV 0), some (xV 4), some (xV (-1)), some (xV (-1)), none]) xc38_137 rfl rfl ?_
      refine x_iload xc38_139 rfl ?_
      refine x_iconst xc38_141 ?_
      refine x_iceq xc38_142 (xRk (by decide)) (xRk (by decide)) (fun _ => ?_) (fun h => absurd h (by omega))
      refine x_iconst xc38_151 ?_
      refine x_goto xc38_152 ?_
      refine x_istore (pl' := [some (.ref 31), some (xV (sG t n p)), some (xV 0), some (xV 4), some (xV (-1)), some (xV (-1)), some (xV 0)]) xc38_164 rfl rfl ?_
      refine x_aloadn xc38_166 rfl ?_
      refine x_iloadn xc38_167 rfl ?_
      refine x_iload xc38_168 rfl ?_
      refine x_iload xc38_170 rfl ?_
      refine x_cV (as := [xV 0, xV (-1), xV 0]) (rest := []) xc38_172 rfl xi41 xz31 ⟨rfl, rfl⟩ rfl rfl ?_
      refine xk41 (xRk (by decide)) (xRk (by decide)) (xRk (by decide)) (by rw [xUn (by decide), xUn (by decide), hs]) (by omega) (by omega) (fun h45 => ?_) (fun h46 => ?_)
      · refine x_iload xc38_175 rfl ?_
        refine x_iconst xc38_177 ?_
        refine x_iceq xc38_178 (xRk (by decide)) (xRk (by decide)) (fun _ => ?_) (fun h => absurd h (by omega))
        refine x_iconst xc38_191 ?_
        refine x_iret xc38_192 (Or.inr ⟨rfl, (by omega)⟩) ?_
        exact k14 h0 h29 h30 h31 h32 h34 h35 h45
      · refine x_iload xc38_175 rfl ?_
        refine x_iconst xc38_177 ?_
        refine x_iceq xc38_178 (xRk (by decide)) (xRk (by decide)) (fun _ => ?_) (fun h => absurd h (by omega))
        refine x_iconst xc38_191 ?_
        refine x_iret xc38_192 (Or.inr ⟨rfl, (by omega)⟩) ?_
        exact k15 h0 h29 h30 h31 h32 h34 h35 h46
    · refine x_istore (pl' := [some (.ref 31), some (xV (sG t n p)), some (xV 0), some (xV 4), some (xV (-1)), some (xV (sG t n (p + 1) - 48)), none]) xc38_137 rfl rfl ?_
      refine x_iload xc38_139 rfl ?_
      refine x_iconst xc38_141 ?_
      refine x_iceq xc38_142 (xRk (by have g0 := sGB (n := n) (p := p + 1) hb (by omega); omega)) (xRk (by decide)) (fun h49 => ?_) (fun h49 => ?_)
      · refine x_iconst xc38_151 ?_
        refine x_goto xc38_152 ?_
        refine x_istore (pl' := [some (.ref 31), some (xV (sG t n p)), some (xV 0), some (xV 4), some (xV (-1)), some (xV (sG t n (p + 1) - 48)), some (xV 0)]) xc38_164 rfl rfl ?_
        refine x_aloadn xc38_166 rfl ?_
        refine x_iloadn xc38_167 rfl ?_
        refine x_iload xc38_168 rfl ?_
        refine x_iload xc38_170 rfl ?_
        refine x_cV (as := [xV 0, xV (sG t n (p + 1) - 48), xV 0]) (rest := []) xc38_172 rfl xi41 xz31 ⟨rfl, rfl⟩ rfl rfl ?_
        refine xk41 (xRk (by decide)) (xRk (by have g0 := sGB (n := n) (p := p + 1) hb (by omega); omega)) (xRk (by decide)) (by rw [xUn (by decide), xUn (by decide), hs]) (by omega) (by omega) (fun h50 => ?_) (fun h51 => ?_)
        · refine x_iload xc38_175 rfl ?_
          refine x_iconst xc38_177 ?_
          refine x_iceq xc38_178 (xRk (by have g0 := sGB (n := n) (p := p + 1) hb (by omega); omega)) (xRk (by decide)) (fun _ => ?_) (fun h => absurd h (by omega))
          refine x_iconst xc38_191 ?_
          refine x_iret xc38_192 (Or.inr ⟨rfl, (by omega)⟩) ?_
          exact k16 h0 h29 h30 h31 h32 h36 h37 h38 h49 h50
        · refine x_iload xc38_175 rfl ?_
          refine x_iconst xc38_177 ?_
          refine x_iceq xc38_178 (xRk (by have g0 := sGB (n := n) (p := p + 1) hb (by omega); omega)) (xRk (by decide)) (fun _ => ?_) (fun h => absurd h (by omega))
          refine x_iconst xc38_191 ?_
          refine x_iret xc38_192 (Or.inr ⟨rfl, (by omega)⟩) ?_
          exact k17 h0 h29 h30 h31 h32 h36 h37 h38 h49 h51
      · refine x_iload xc38_145 rfl ?_
        refine x_iconst xc38_147 ?_
        refine x_icne xc38_148 (xRk (by decide)) (xRk (by decide)) (fun h => absurd h (by omega)) (fun _ => ?_)
        refine x_iconst xc38_151 ?_
        refine x_goto xc38_152 ?_
        refine x_istore (pl' := [some (.ref 31), some (xV (sG t n p)), some (xV 0), some (xV 4), some (xV (-1)), some (xV (sG t n (p + 1) - 48)), some (xV 0)]) xc38_164 rfl rfl ?_
        refine x_aloadn xc38_166 rfl ?_
        refine x_iloadn xc38_167 rfl ?_
        refine x_iload xc38_168 rfl ?_
        refine x_iload xc38_170 rfl ?_
        refine x_cV (as := [xV 0, xV (sG t n (p + 1) - 48), xV 0]) (rest := []) xc38_172 rfl xi41 xz31 ⟨rfl, rfl⟩ rfl rfl ?_
        refine xk41 (xRk (by decide)) (xRk (by have g0 := sGB (n := n) (p := p + 1) hb (by omega); omega)) (xRk (by decide)) (by rw [xUn (by decide), xUn (by decide), hs]) (by omega) (by omega) (fun h55 => ?_) (fun h56 => ?_)
        · refine x_iload xc38_175 rfl ?_
          refine x_iconst xc38_177 ?_
          refine x_iceq xc38_178 (xRk (by have g0 := sGB (n := n) (p := p + 1) hb (by omega); omega)) (xRk (by decide)) (fun h => absurd h (by omega)) (fun _ => ?_)
          refine x_iload xc38_181 rfl ?_
          refine x_iconst xc38_183 ?_
          refine x_iceq xc38_184 (xRk (by decide)) (xRk (by decide)) (fun h => absurd h (by omega)) (fun _ => ?_)
          refine x_iconst xc38_187 ?_
          refine x_goto xc38_188 ?_
          refine x_iret xc38_192 (Or.inr ⟨rfl, (by omega)⟩) ?_
          exact k18 h0 h29 h30 h31 h32 h36 h37 h38 h49 h55
        · refine x_iload xc38_175 rfl ?_
          refine x_iconst xc38_177 ?_
          refine x_iceq xc38_178 (xRk (by have g0 := sGB (n := n) (p := p + 1) hb (by omega); omega)) (xRk (by decide)) (fun h => absurd h (by omega)) (fun _ => ?_)
          refine x_iload xc38_181 rfl ?_
          refine x_iconst xc38_183 ?_
          refine x_iceq xc38_184 (xRk (by decide)) (xRk (by decide)) (fun h => absurd h (by omega)) (fun _ => ?_)
          refine x_iconst xc38_187 ?_
          refine x_goto xc38_188 ?_
          refine x_iret xc38_192 (Or.inr ⟨rfl, (by omega)⟩) ?_
          exact k19 h0 h29 h30 h31 h32 h36 h37 h38 h49 h56
  by_cases h61 : sG t n p = 105
  · refine x_sw (c := 105) (t := 73) h61 xc38_6.1 rfl ?_
    refine x_iconst xc38_73 ?_
    refine x_istoren (pl' := [some (.ref 31), some (xV (sG t n p)), some (xV 1), some (xV 4), some (xV (-1)), none, none]) xc38_74 rfl rfl ?_
    refine x_bipush xc38_75 (by decide) ?_
    refine x_istoren (pl' := [some (.ref 31), some (xV (sG t n p)), some (xV 1), some (xV 6), some (xV (-1)), none, none]) xc38_77 rfl rfl ?_
    refine x_goto xc38_78 ?_
    refine x_aloadn xc38_116 rfl ?_
    refine x_gfr xc38_117 rfl rfl xz31 rfl ?_
    refine x_dup xc38_120 rfl ?_
    refine x_gfi' (k := 3) (v := p) xc38_121 rfl (Or.inl rfl) rfl xz1 hC.2.2 ?_
    refine x_iconst xc38_124 ?_
    refine x_iadd xc38_125 ?_
    refine x_pfi (k := 3) xc38_126 rfl ⟨rfl, rfl⟩ rfl xz1 ?_
    refine x_aloadn xc38_129 rfl ?_
    refine x_gfr xc38_130 rfl rfl xz31 rfl ?_
    refine x_iloadn xc38_133 rfl ?_
    refine x_cV (as := [xV 6]) (rest := []) xc38_134 rfl xi40 xz1 ⟨rfl, rfl⟩ rfl rfl ?_
    refine xk40 (tC.at hC) (by omega) (by omega) hb (xAr_u hA (xRk (by omega))) (xRk (by decide)) (by omega) (fun h62 => ?_) (fun h63 h64 => ?_) (fun h65 h66 h67 => ?_)
    · refine x_istore (pl' := [some (.ref 31), some (xV (sG t n p)), some (xV 1), some (xV 6), some (xV (-1)), some (xV (-1)), none]) xc38_137 rfl rfl ?_
      refine x_iload xc38_139 rfl ?_
      refine x_iconst xc38_141 ?_
      refine x_iceq xc38_142 (xRk (by decide)) (xRk (by decide)) (fun _ => ?_) (fun h => absurd h (by omega))
      refine x_iconst xc38_151 ?_
      refine x_goto xc38_152 ?_
      refine x_istore (pl' := [some (.ref 31), some (xV (sG t n p)), some (xV 1), some (xV 6), some (xV (-1)), some (xV (-1)), some (xV 0)]) xc38_164 rfl rfl ?_
      refine x_aloadn xc38_166 rfl ?_
      refine x_iloadn xc38_167 rfl ?_
      refine x_iload xc38_168 rfl ?_
      refine x_iload xc38_170 rfl ?_
      refine x_cV (as := [xV 1, xV (-1), xV 0]) (rest := []) xc38_172 rfl xi41 xz31 ⟨rfl, rfl⟩ rfl rfl ?_
      refine xk41 (xRk (by decide)) (xRk (by decide)) (xRk (by decide)) (by rw [xUn (by decide), xUn (by decide), hs]) (by omega) (by omega) (fun h69 => ?_) (fun h70 => ?_)
      · refine x_iload xc38_175 rfl ?_
        refine x_iconst xc38_177 ?_
        refine x_iceq xc38_178 (xRk (by decide)) (xRk (by decide)) (fun _ => ?_) (fun h => absurd h (by omega))
        refine x_iconst xc38_191 ?_
        refine x_iret xc38_192 (Or.inr ⟨rfl, (by omega)⟩) ?_
        exact k20 h0 h29 h30 h31 h32 h61 h62 h69
      · refine x_iload xc38_175 rfl ?_
        refine x_iconst xc38_177 ?_
        refine x_iceq xc38_178 (xRk (by decide)) (xRk (by decide)) (fun _ => ?_) (fun h => absurd h (by omega))
        refine x_iconst xc38_191 ?_
        refine x_iret xc38_192 (Or.inr ⟨rfl, (by omega)⟩) ?_
        exact k21 h0 h29 h30 h31 h32 h61 h62 h70
    · refine x_istore (pl' := [some (.ref 31), some (xV (sG t n p)), some (xV 1), some (xV 6), some (xV (-1)), some (xV (-1)), none]) xc38_137 rfl rfl ?_
      refine x_iload xc38_139 rfl ?_
      refine x_iconst xc38_141 ?_
      refine x_iceq xc38_142 (xRk (by decide)) (xRk (by decide)) (fun _ => ?_) (fun h => absurd h (by omega))
      refine x_iconst xc38_151 ?_
      refine x_goto xc38_152 ?_
      refine x_istore (pl' := [some (.ref 31), some (xV (sG t n p)), some (xV 1), some (xV 6), some (xV (-1)), some (xV (-1)), some (xV 0)]) xc38_164 rfl rfl ?_
      refine x_aloadn xc38_166 rfl ?_
      refine x_iloadn xc38_167 rfl ?_
      refine x_iload xc38_168 rfl ?_
      refine x_iload xc38_170 rfl ?_
      refine x_cV (as := [xV 1, xV (-1), xV 0]) (rest := []) xc38_172 rfl xi41 xz31 ⟨rfl, rfl⟩ rfl rfl ?_
      refine xk41 (xRk (by decide)) (xRk (by decide)) (xRk (by decide)) (by rw [xUn (by decide), xUn (by decide), hs]) (by omega) (by omega) (fun h74 => ?_) (fun h75 => ?_)
      · refine x_iload xc38_175 rfl ?_
        refine x_iconst xc38_177 ?_
        refine x_iceq xc38_178 (xRk (by decide)) (xRk (by decide)) (fun _ => ?_) (fun h => absurd h (by omega))
        refine x_iconst xc38_191 ?_
        refine x_iret xc38_192 (Or.inr ⟨rfl, (by omega)⟩) ?_
        exact k22 h0 h29 h30 h31 h32 h61 h63 h64 h74
      · refine x_iload xc38_175 rfl ?_
        refine x_iconst xc38_177 ?_
        refine x_iceq xc38_178 (xRk (by decide)) (xRk (by decide)) (fun _ => ?_) (fun h => absurd h (by omega))
        refine x_iconst xc38_191 ?_
        refine x_iret xc38_192 (Or.inr ⟨rfl, (by omega)⟩) ?_
        exact k23 h0 h29 h30 h31 h32 h61 h63 h64 h75
    · refine x_istore (pl' := [some (.ref 31), some (xV (sG t n p)), some (xV 1), some (xV 6), some (xV (-1)), some (xV (sG t n (p + 1) - 48)), none]) xc38_137 rfl rfl ?_
      refine x_iload xc38_139 rfl ?_
      refine x_iconst xc38_141 ?_
      refine x_iceq xc38_142 (xRk (by have g0 := sGB (n := n) (p := p + 1) hb (by omega); omega)) (xRk (by decide)) (fun h78 => ?_) (fun h78 => ?_)
      · refine x_iconst xc38_151 ?_
        refine x_goto xc38_152 ?_
        refine x_istore (pl' := [some (.ref 31), some (xV (sG t n p)), some (xV 1), some (xV 6), some (xV (-1)), some (xV (sG t n (p + 1) - 48)), some (xV 0)]) xc38_164 rfl rfl ?_
        refine x_aloadn xc38_166 rfl ?_
        refine x_iloadn xc38_167 rfl ?_
        refine x_iload xc38_168 rfl ?_
        refine x_iload xc38_170 rfl ?_
        refine x_cV (as := [xV 1, xV (sG t n (p + 1) - 48), xV 0]) (rest := []) xc38_172 rfl xi41 xz31 ⟨rfl, rfl⟩ rfl rfl ?_
        refine xk41 (xRk (by decide)) (xRk (by have g0 := sGB (n := n) (p := p + 1) hb (by omega); omega)) (xRk (by decide)) (by rw [xUn (by decide), xUn (by decide), hs]) (by omega) (by omega) (fun h79 => ?_) (fun h80 => ?_)
        · refine x_iload xc38_175 rfl ?_
          refine x_iconst xc38_177 ?_
          refine x_iceq xc38_178 (xRk (by have g0 := sGB (n := n) (p := p + 1) hb (by omega); omega)) (xRk (by decide)) (fun _ => ?_) (fun h => absurd h (by omega))
          refine x_iconst xc38_191 ?_
          refine x_iret xc38_192 (Or.inr ⟨rfl, (by omega)⟩) ?_
          exact k24 h0 h29 h30 h31 h32 h61 h65 h66 h67 h78 h79
        · refine x_iload xc38_175 rfl ?_
          refine x_iconst xc38_177 ?_
          refine x_iceq xc38_178 (xRk (by have g0 := sGB (n := n) (p := p + 1) hb (by omega); omega)) (xRk (by decide)) (fun _ => ?_) (fun h => absurd h (by omega))
          refine x_iconst xc38_191 ?_
          refine x_iret xc38_192 (Or.inr ⟨rfl, (by omega)⟩) ?_
          exact k25 h0 h29 h30 h31 h32 h61 h65 h66 h67 h78 h80
      · refine x_iload xc38_145 rfl ?_
        refine x_iconst xc38_147 ?_
        refine x_icne xc38_148 (xRk (by decide)) (xRk (by decide)) (fun h => absurd h (by omega)) (fun _ => ?_)
        refine x_iconst xc38_151 ?_
        refine x_goto xc38_152 ?_
        refine x_istore (pl' := [some (.ref 31), some (xV (sG t n p)), some (xV 1), some (xV 6), some (xV (-1)), some (xV (sG t n (p + 1) - 48)), some (xV 0)]) xc38_164 rfl rfl ?_
        refine x_aloadn xc38_166 rfl ?_
        refine x_iloadn xc38_167 rfl ?_
        refine x_iload xc38_168 rfl ?_
        refine x_iload xc38_170 rfl ?_
        refine x_cV (as := [xV 1, xV (sG t n (p + 1) - 48), xV 0]) (rest := []) xc38_172 rfl xi41 xz31 ⟨rfl, rfl⟩ rfl rfl ?_
        refine xk41 (xRk (by decide)) (xRk (by have g0 := sGB (n := n) (p := p + 1) hb (by omega); omega)) (xRk (by decide)) (by rw [xUn (by decide), xUn (by decide), hs]) (by omega) (by omega) (fun h84 => ?_) (fun h85 => ?_)
        · refine x_iload xc38_175 rfl ?_
          refine x_iconst xc38_177 ?_
          refine x_iceq xc38_178 (xRk (by have g0 := sGB (n := n) (p := p + 1) hb (by omega); omega)) (xRk (by decide)) (fun h => absurd h (by omega)) (fun _ => ?_)
          refine x_iload xc38_181 rfl ?_
          refine x_iconst xc38_183 ?_
          refine x_iceq xc38_184 (xRk (by decide)) (xRk (by decide)) (fun h => absurd h (by omega)) (fun _ => ?_)
          refine x_iconst xc38_187 ?_
          refine x_goto xc38_188 ?_
          refine x_iret xc38_192 (Or.inr ⟨rfl, (by omega)⟩) ?_
          exact k26 h0 h29 h30 h31 h32 h61 h65 h66 h67 h78 h84
        · refine x_iload xc38_175 rfl ?_
          refine x_iconst xc38_177 ?_
          refine x_iceq xc38_178 (xRk (by have g0 := sGB (n := n) (p := p + 1) hb (by omega); omega)) (xRk (by decide)) (fun h => absurd h (by omega)) (fun _ => ?_)
          refine x_iload xc38_181 rfl ?_
          refine x_iconst xc38_183 ?_
          refine x_iceq xc38_184 (xRk (by decide)) (xRk (by decide)) (fun h => absurd h (by omega)) (fun _ => ?_)
          refine x_iconst xc38_187 ?_
          refine x_goto xc38_188 ?_
          refine x_iret xc38_192 (Or.inr ⟨rfl, (by omega)⟩) ?_
          exact k27 h0 h29 h30 h31 h32 h61 h65 h66 h67 h78 h85
  by_cases h90 : sG t n p = 106
  · refine x_sw (c := 106) (t := 107) h90 xc38_6.1 rfl ?_
    refine x_aloadn xc38_107 rfl ?_
    refine x_gfr xc38_108 rfl rfl xz31 rfl ?_
    refine x_iconst xc38_111 ?_
    refine x_cV (as := [xV 1]) (rest := []) xc38_112 rfl xi39 xz1 ⟨rfl, rfl⟩ rfl rfl ?_
    refine xk39 hC (by omega) (by omega) hb hA (xRk (by decide)) (by omega) ?_
    refine x_iret xc38_115 (Or.inr ⟨rfl, (by omega)⟩) ?_
    exact k28 h0 h29 h30 h31 h32 h61 h90
  by_cases h91 : sG t n p = 107
  · refine x_sw (c := 107) (t := 107) h91 xc38_6.1 rfl ?_
    refine x_aloadn xc38_107 rfl ?_
    refine x_gfr xc38_108 rfl rfl xz31 rfl ?_
    refine x_iconst xc38_111 ?_
    refine x_cV (as := [xV 1]) (rest := []) xc38_112 rfl xi39 xz1 ⟨rfl, rfl⟩ rfl rfl ?_
    refine xk39 hC (by omega) (by omega) hb hA (xRk (by decide)) (by omega) ?_
    refine x_iret xc38_115 (Or.inr ⟨rfl, (by omega)⟩) ?_
    exact k29 h0 h29 h30 h31 h32 h61 h90 h91
  by_cases h92 : sG t n p = 108
  · refine x_sw (c := 108) (t := 88) h92 xc38_6.1 rfl ?_
    refine x_iconst xc38_88 ?_
    refine x_istoren (pl' := [some (.ref 31), some (xV (sG t n p)), some (xV 3), some (xV 4), some (xV (-1)), none, none]) xc38_89 rfl rfl ?_
    refine x_bipush xc38_90 (by decide) ?_
    refine x_istore (pl' := [some (.ref 31), some (xV (sG t n p)), some (xV 3), some (xV 4), some (xV 6), none, none]) xc38_92 rfl rfl ?_
    refine x_goto xc38_94 ?_
    refine x_aloadn xc38_116 rfl ?_
    refine x_gfr xc38_117 rfl rfl xz31 rfl ?_
    refine x_dup xc38_120 rfl ?_
    refine x_gfi' (k := 3) (v := p) xc38_121 rfl (Or.inl rfl) rfl xz1 hC.2.2 ?_
    refine x_iconst xc38_124 ?_
    refine x_iadd xc38_125 ?_
    refine x_pfi (k := 3) xc38_126 rfl ⟨rfl, rfl⟩ rfl xz1 ?_
    refine x_aloadn xc38_129 rfl ?_
    refine x_gfr xc38_130 rfl rfl xz31 rfl ?_
    refine x_iloadn xc38_133 rfl ?_
    refine x_cV (as := [xV 4]) (rest := []) xc38_134 rfl xi40 xz1 ⟨rfl, rfl⟩ rfl rfl ?_
    refine xk40 (tC.at hC) (by omega) (by omega) hb (xAr_u hA (xRk (by omega))) (xRk (by decide)) (by omega) (fun h93 => ?_) (fun h94 h95 => ?_) (fun h96 h97 h98 => ?_)
    · refine x_istore (pl' := [some (.ref 31), some (xV (sG t n p)), some (xV 3), some (xV 4), some (xV 6), some (xV (-1)), none]) xc38_137 rfl rfl ?_
      refine x_iload xc38_139 rfl ?_
      refine x_iconst xc38_141 ?_
      refine x_iceq xc38_142 (xRk (by decide)) (xRk (by decide)) (fun _ => ?_) (fun h => absurd h (by omega))
      refine x_iconst xc38_151 ?_
      refine x_goto xc38_152 ?_
      refine x_istore (pl' := [some (.ref 31), some (xV (sG t n p)), some (xV 3), some (xV 4), some (xV 6), some (xV (-1)), some (xV 0)]) xc38_164 rfl rfl ?_
      refine x_aloadn xc38_166 rfl ?_
      refine x_iloadn xc38_167 rfl ?_
      refine x_iload xc38_168 rfl ?_
      refine x_iload xc38_170 rfl ?_
      refine x_cV (as := [xV 3, xV (-1), xV 0]) (rest := []) xc38_172 rfl xi41 xz31 ⟨rfl, rfl⟩ rfl rfl ?_
      refine xk41 (xRk (by decide)) (xRk (by decide)) (xRk (by decide)) (by rw [xUn (by decide), xUn (by decide), hs]) (by omega) (by omega) (fun h100 => ?_) (fun h101 => ?_)
      · refine x_iload xc38_175 rfl ?_
        refine x_iconst xc38_177 ?_
        refine x_iceq xc38_178 (xRk (by decide)) (xRk (by decide)) (fun _ => ?_) (fun h => absurd h (by omega))
        refine x_iconst xc38_191 ?_
        refine x_iret xc38_192 (Or.inr ⟨rfl, (by omega)⟩) ?_
        exact k30 h0 h29 h30 h31 h32 h61 h90 h91 h92 h93 h100
      · refine x_iload xc38_175 rfl ?_
        refine x_iconst xc38_177 ?_
        refine x_iceq xc38_178 (xRk (by decide)) (xRk (by decide)) (fun _ => ?_) (fun h => absurd h (by omega))
        refine x_iconst xc38_191 ?_
        refine x_iret xc38_192 (Or.inr ⟨rfl, (by omega)⟩) ?_
        exact k31 h0 h29 h30 h31 h32 h61 h90 h91 h92 h93 h101
    · refine x_istore (pl' := [some (.ref 31), some (xV (sG t n p)), some (xV 3), some (xV 4), some (xV 6), some (xV (-1)), none]) xc38_137 rfl rfl ?_
      refine x_iload xc38_139 rfl ?_
      refine x_iconst xc38_141 ?_
      refine x_iceq xc38_142 (xRk (by decide)) (xRk (by decide)) (fun _ => ?_) (fun h => absurd h (by omega))
      refine x_iconst xc38_151 ?_
      refine x_goto xc38_152 ?_
      refine x_istore (pl' := [some (.ref 31), some (xV (sG t n p)), some (xV 3), some (xV 4), some (xV 6), some (xV (-1)), some (xV 0)]) xc38_164 rfl rfl ?_
      refine x_aloadn xc38_166 rfl ?_
      refine x_iloadn xc38_167 rfl ?_
      refine x_iload xc38_168 rfl ?_
      refine x_iload xc38_170 rfl ?_
      refine x_cV (as := [xV 3, xV (-1), xV 0]) (rest := []) xc38_172 rfl xi41 xz31 ⟨rfl, rfl⟩ rfl rfl ?_
      refine xk41 (xRk (by decide)) (xRk (by decide)) (xRk (by decide)) (by rw [xUn (by decide), xUn (by decide), hs]) (by omega) (by omega) (fun h105 => ?_) (fun h106 => ?_)
      · refine x_iload xc38_175 rfl ?_
        refine x_iconst xc38_177 ?_
        refine x_iceq xc38_178 (xRk (by decide)) (xRk (by decide)) (fun _ => ?_) (fun h => absurd h (by omega))
        refine x_iconst xc38_191 ?_
        refine x_iret xc38_192 (Or.inr ⟨rfl, (by omega)⟩) ?_
        exact k32 h0 h29 h30 h31 h32 h61 h90 h91 h92 h94 h95 h105
      · refine x_iload xc38_175 rfl ?_
        refine x_iconst xc38_177 ?_
        refine x_iceq xc38_178 (xRk (by decide)) (xRk (by decide)) (fun _ => ?_) (fun h => absurd h (by omega))
        refine x_iconst xc38_191 ?_
        refine x_iret xc38_192 (Or.inr ⟨rfl, (by omega)⟩) ?_
        exact k33 h0 h29 h30 h31 h32 h61 h90 h91 h92 h94 h95 h106
    · refine x_istore (pl' := [some (.ref 31), some (xV (sG t n p)), some (xV 3), some (xV 4), some (xV 6), some (xV (sG t n (p + 1) - 48)), none]) xc38_137 rfl rfl ?_
      refine x_iload xc38_139 rfl ?_
      refine x_iconst xc38_141 ?_
      refine x_iceq xc38_142 (xRk (by have g0 := sGB (n := n) (p := p + 1) hb (by omega); omega)) (xRk (by decide)) (fun h109 => ?_) (fun h109 => ?_)
      · refine x_iconst xc38_151 ?_
        refine x_goto xc38_152 ?_
        refine x_istore (pl' := [some (.ref 31), some (xV (sG t n p)), some (xV 3), some (xV 4), some (xV 6), some (xV (sG t n (p + 1) - 48)), some (xV 0)]) xc38_164 rfl rfl ?_
        refine x_aloadn xc38_166 rfl ?_
        refine x_iloadn xc38_167 rfl ?_
        refine x_iload xc38_168 rfl ?_
        refine x_iload xc38_170 rfl ?_
        refine x_cV (as := [xV 3, xV (sG t n (p + 1) - 48), xV 0]) (rest := []) xc38_172 rfl xi41 xz31 ⟨rfl, rfl⟩ rfl rfl ?_
        refine xk41 (xRk (by decide)) (xRk (by have g0 := sGB (n := n) (p := p + 1) hb (by omega); omega)) (xRk (by decide)) (by rw [xUn (by decide), xUn (by decide), hs]) (by omega) (by omega) (fun h110 => ?_) (fun h111 => ?_)
        · refine x_iload xc38_175 rfl ?_
          refine x_iconst xc38_177 ?_
          refine x_iceq xc38_178 (xRk (by have g0 := sGB (n := n) (p := p + 1) hb (by omega); omega)) (xRk (by decide)) (fun _ => ?_) (fun h => absurd h (by omega))
          refine x_iconst xc38_191 ?_
          refine x_iret xc38_192 (Or.inr ⟨rfl, (by omega)⟩) ?_
          exact k34 h0 h29 h30 h31 h32 h61 h90 h91 h92 h96 h97 h98 h109 h110
        · refine x_iload xc38_175 rfl ?_
          refine x_iconst xc38_177 ?_
          refine x_iceq xc38_178 (xRk (by have g0 := sGB (n := n) (p := p + 1) hb (by omega); omega)) (xRk (by decide)) (fun _ => ?_) (fun h => absurd h (by omega))
          refine x_iconst xc38_191 ?_
          refine x_iret xc38_192 (Or.inr ⟨rfl, (by omega)⟩) ?_
          exact k35 h0 h29 h30 h31 h32 h61 h90 h91 h92 h96 h97 h98 h109 h111
      · refine x_iload xc38_145 rfl ?_
        refine x_iconst xc38_147 ?_
        refine x_icne xc38_148 (xRk (by decide)) (xRk (by decide)) (fun _ => ?_) (fun h => absurd h (by omega))
        refine x_aloadn xc38_155 rfl ?_
        refine x_gfr xc38_156 rfl rfl xz31 rfl ?_
        refine x_iload xc38_159 rfl ?_
        refine x_cV (as := [xV 6]) (rest := []) xc38_161 rfl xi40 xz1 ⟨rfl, rfl⟩ rfl rfl ?_
        refine xk40 (tC.at (tC.at hC)) (by omega) (by omega) hb (xAr_u (xAr_u hA (xRk (by omega))) (xRk (by omega))) (xRk (by decide)) (by omega) (fun h115 => ?_) (fun h116 h117 => ?_) (fun h118 h119 h120 => ?_)
        · refine x_istore (pl' := [some (.ref 31), some (xV (sG t n p)), some (xV 3), some (xV 4), some (xV 6), some (xV (sG t n (p + 1) - 48)), some (xV (-1))]) xc38_164 rfl rfl ?_
          refine x_aloadn xc38_166 rfl ?_
          refine x_iloadn xc38_167 rfl ?_
          refine x_iload xc38_168 rfl ?_
          refine x_iload xc38_170 rfl ?_
          refine x_cV (as := [xV 3, xV (sG t n (p + 1) - 48), xV (-1)]) (rest := []) xc38_172 rfl xi41 xz31 ⟨rfl, rfl⟩ rfl rfl ?_
          refine xk41 (xRk (by decide)) (xRk (by have g0 := sGB (n := n) (p := p + 1) hb (by omega); omega)) (xRk (by decide)) (by rw [xUn (by decide), xUn (by decide), xUn (by decide), hs]) (by omega) (by omega) (fun h121 => ?_) (fun h122 => ?_)
          · refine x_iload xc38_175 rfl ?_
            refine x_iconst xc38_177 ?_
            refine x_iceq xc38_178 (xRk (by have g0 := sGB (n := n) (p := p + 1) hb (by omega); omega)) (xRk (by decide)) (fun h => absurd h (by omega)) (fun _ => ?_)
            refine x_iload xc38_181 rfl ?_
            refine x_iconst xc38_183 ?_
            refine x_iceq xc38_184 (xRk (by decide)) (xRk (by decide)) (fun _ => ?_) (fun h => absurd h (by omega))
            refine x_iconst xc38_191 ?_
            refine x_iret xc38_192 (Or.inr ⟨rfl, (by omega)⟩) ?_
            exact k36 h0 h29 h30 h31 h32 h61 h90 h91 h92 h96 h97 h98 h109 h115 h121
          · refine x_iload xc38_175 rfl ?_
            refine x_iconst xc38_177 ?_
            refine x_iceq xc38_178 (xRk (by have g0 := sGB (n := n) (p := p + 1) hb (by omega); omega)) (xRk (by decide)) (fun h => absurd h (by omega)) (fun _ => ?_)
            refine x_iload xc38_181 rfl ?_
            refine x_iconst xc38_183 ?_
            refine x_iceq xc38_184 (xRk (by decide)) (xRk (by decide)) (fun _ => ?_) (fun h => absurd h (by omega))
            refine x_iconst xc38_191 ?_
            refine x_iret xc38_192 (Or.inr ⟨rfl, (by omega)⟩) ?_
            exact k37 h0 h29 h30 h31 h32 h61 h90 h91 h92 h96 h97 h98 h109 h115 h122
        · refine x_istore (pl' := [some (.ref 31), some (xV (sG t n p)), some (xV 3), some (xV 4), some (xV 6), some (xV (sG t n (p + 1) - 48)), some (xV (-1))]) xc38_164 rfl rfl ?_
          refine x_aloadn xc38_166 rfl ?_
          refine x_iloadn xc38_167 rfl ?_
          refine x_iload xc38_168 rfl ?_
          refine x_iload xc38_170 rfl ?_
          refine x_cV (as := [xV 3, xV (sG t n (p + 1) - 48), xV (-1)]) (rest := []) xc38_172 rfl xi41 xz31 ⟨rfl, rfl⟩ rfl rfl ?_
          refine xk41 (xRk (by decide)) (xRk (by have g0 := sGB (n := n) (p := p + 1) hb (by omega); omega)) (xRk (by decide)) (by rw [xUn (by decide), xUn (by decide), xUn (by decide), hs]) (by omega) (by omega) (fun h127 => ?_) (fun h128 => ?_)
          · refine x_iload xc38_175 rfl ?_
            refine x_iconst xc38_177 ?_
            refine x_iceq xc38_178 (xRk (by have g0 := sGB (n := n) (p := p + 1) hb (by omega); omega)) (xRk (by decide)) (fun h => absurd h (by omega)) (fun _ => ?_)
            refine x_iload xc38_181 rfl ?_
            refine x_iconst xc38_183 ?_
            refine x_iceq xc38_184 (xRk (by decide)) (xRk (by decide)) (fun _ => ?_) (fun h => absurd h (by omega))
            refine x_iconst xc38_191 ?_
            refine x_iret xc38_192 (Or.inr ⟨rfl, (by omega)⟩) ?_
            exact k38 h0 h29 h30 h31 h32 h61 h90 h91 h92 h96 h97 h98 h109 h116 h117 h127
          · refine x_iload xc38_175 rfl ?_
            refine x_iconst xc38_177 ?_
            refine x_iceq xc38_178 (xRk (by have g0 := sGB (n := n) (p := p + 1) hb (by omega); omega)) (xRk (by decide)) (fun h => absurd h (by omega)) (fun _ => ?_)
            refine x_iload xc38_181 rfl ?_
            refine x_iconst xc38_183 ?_
            refine x_iceq xc38_184 (xRk (by decide)) (xRk (by decide)) (fun _ => ?_) (fun h => absurd h (by omega))
            refine x_iconst xc38_191 ?_
            refine x_iret xc38_192 (Or.inr ⟨rfl, (by omega)⟩) ?_
            exact k39 h0 h29 h30 h31 h32 h61 h90 h91 h92 h96 h97 h98 h109 h116 h117 h128
        · refine x_istore (pl' := [some (.ref 31), some (xV (sG t n p)), some (xV 3), some (xV 4), some (xV 6), some (xV (sG t n (p + 1) - 48)), some (xV (sG t n (p + 1 + 1) - 48))]) xc38_164 rfl rfl ?_
          refine x_aloadn xc38_166 rfl ?_
          refine x_iloadn xc38_167 rfl ?_
          refine x_iload xc38_168 rfl ?_
          refine x_iload xc38_170 rfl ?_
          refine x_cV (as := [xV 3, xV (sG t n (p + 1) - 48), xV (sG t n (p + 1 + 1) - 48)]) (rest := []) xc38_172 rfl xi41 xz31 ⟨rfl, rfl⟩ rfl rfl ?_
          refine xk41 (xRk (by decide)) (xRk (by have g0 := sGB (n := n) (p := p + 1) hb (by omega); omega)) (xRk (by have g0 := sGB (n := n) (p := p + 1 + 1) hb (by omega); omega)) (by rw [xUn (by decide), xUn (by decide), xUn (by decide), hs]) (by omega) (by omega) (fun h133 => ?_) (fun h134 => ?_)
          · refine x_iload xc38_175 rfl ?_
            refine x_iconst xc38_177 ?_
            refine x_iceq xc38_178 (xRk (by have g0 := sGB (n := n) (p := p + 1) hb (by omega); omega)) (xRk (by decide)) (fun h => absurd h (by omega)) (fun _ => ?_)
            refine x_iload xc38_181 rfl ?_
            refine x_iconst xc38_183 ?_
            refine x_iceq xc38_184 (xRk (by have g0 := sGB (n := n) (p := p + 1 + 1) hb (by omega); omega)) (xRk (by decide)) (fun h136 => ?_) (fun h136 => ?_)
            · refine x_iconst xc38_191 ?_
              refine x_iret xc38_192 (Or.inr ⟨rfl, (by omega)⟩) ?_
              exact k40 h0 h29 h30 h31 h32 h61 h90 h91 h92 h96 h97 h98 h109 h118 h119 h120 h133 h136
            · refine x_iconst xc38_187 ?_
              refine x_goto xc38_188 ?_
              refine x_iret xc38_192 (Or.inr ⟨rfl, (by omega)⟩) ?_
              exact k41 h0 h29 h30 h31 h32 h61 h90 h91 h92 h96 h97 h98 h109 h118 h119 h120 h133 h136
          · refine x_iload xc38_175 rfl ?_
            refine x_iconst xc38_177 ?_
            refine x_iceq xc38_178 (xRk (by have g0 := sGB (n := n) (p := p + 1) hb (by omega); omega)) (xRk (by decide)) (fun h => absurd h (by omega)) (fun _ => ?_)
            refine x_iload xc38_181 rfl ?_
            refine x_iconst xc38_183 ?_
            refine x_iceq xc38_184 (xRk (by have g0 := sGB (n := n) (p := p + 1 + 1) hb (by omega); omega)) (xRk (by decide)) (fun h138 => ?_) (fun h138 => ?_)
            · refine x_iconst xc38_191 ?_
              refine x_iret xc38_192 (Or.inr ⟨rfl, (by omega)⟩) ?_
              exact k42 h0 h29 h30 h31 h32 h61 h90 h91 h92 h96 h97 h98 h109 h118 h119 h120 h134 h138
            · refine x_iconst xc38_187 ?_
              refine x_goto xc38_188 ?_
              refine x_iret xc38_192 (Or.inr ⟨rfl, (by omega)⟩) ?_
              exact k43 h0 h29 h30 h31 h32 h61 h90 h91 h92 h96 h97 h98 h109 h118 h119 h120 h134 h138
  by_cases h139 : sG t n p = 109
  · refine x_sw (c := 109) (t := 107) h139 xc38_6.1 rfl ?_
    refine x_aloadn xc38_107 rfl ?_
    refine x_gfr xc38_108 rfl rfl xz31 rfl ?_
    refine x_iconst xc38_111 ?_
    refine x_cV (as := [xV 1]) (rest := []) xc38_112 rfl xi39 xz1 ⟨rfl, rfl⟩ rfl rfl ?_
    refine xk39 hC (by omega) (by omega) hb hA (xRk (by decide)) (by omega) ?_
    refine x_iret xc38_115 (Or.inr ⟨rfl, (by omega)⟩) ?_
    exact k44 h0 h29 h30 h31 h32 h61 h90 h91 h92 h139
  by_cases h140 : sG t n p = 110
  · refine x_sw (c := 110) (t := 107) h140 xc38_6.1 rfl ?_
    refine x_aloadn xc38_107 rfl ?_
    refine x_gfr xc38_108 rfl rfl xz31 rfl ?_
    refine x_iconst xc38_111 ?_
    refine x_cV (as := [xV 1]) (rest := []) xc38_112 rfl xi39 xz1 ⟨rfl, rfl⟩ rfl rfl ?_
    refine xk39 hC (by omega) (by omega) hb hA (xRk (by decide)) (by omega) ?_
    refine x_iret xc38_115 (Or.inr ⟨rfl, (by omega)⟩) ?_
    exact k45 h0 h29 h30 h31 h32 h61 h90 h91 h92 h139 h140
  by_cases h141 : sG t n p = 111
  · refine x_sw (c := 111) (t := 97) h141 xc38_6.1 rfl ?_
    refine x_iconst xc38_97 ?_
    refine x_istoren (pl' := [some (.ref 31), some (xV (sG t n p)), some (xV 4), some (xV 4), some (xV (-1)), none, none]) xc38_98 rfl rfl ?_
    refine x_iconst xc38_99 ?_
    refine x_istoren (pl' := [some (.ref 31), some (xV (sG t n p)), some (xV 4), some (xV 3), some (xV (-1)), none, none]) xc38_100 rfl rfl ?_
    refine x_iconst xc38_101 ?_
    refine x_istore (pl' := [some (.ref 31), some (xV (sG t n p)), some (xV 4), some (xV 3), some (xV 4), none, none]) xc38_102 rfl rfl ?_
    refine x_goto xc38_104 ?_
    refine x_aloadn xc38_116 rfl ?_
    refine x_gfr xc38_117 rfl rfl xz31 rfl ?_
    refine x_dup xc38_120 rfl ?_
    refine x_gfi' (k := 3) (v := p) xc38_121 rfl (Or.inl rfl) rfl xz1 hC.2.2 ?_
    refine x_iconst xc38_124 ?_
    refine x_iadd xc38_125 ?_
    refine x_pfi (k := 3) xc38_126 rfl ⟨rfl, rfl⟩ rfl xz1 ?_
    refine x_aloadn xc38_129 rfl ?_
    refine x_gfr xc38_130 rfl rfl xz31 rfl ?_
    refine x_iloadn xc38_133 rfl ?_
    refine x_cV (as := [xV 3]) (rest := []) xc38_134 rfl xi40 xz1 ⟨rfl, rfl⟩ rfl rfl ?_
    refine xk40 (tC.at hC) (by omega) (by omega) hb (xAr_u hA (xRk (by omega))) (xRk (by decide)) (by omega) (fun h142 => ?_) (fun h143 h144 => ?_) (fun h145 h146 h147 => ?_)
    · refine x_istore (pl' := [some (.ref 31), some (xV (sG t n p)), some (xV 4), some (xV 3), some (xV 4), some (xV (-1)), none]) xc38_137 rfl rfl ?_
      refine x_iload xc38_139 rfl ?_
      refine x_iconst xc38_141 ?_
      refine x_iceq xc38_142 (xRk (by decide)) (xRk (by decide)) (fun _ => ?_) (fun h => absurd h (by omega))
      refine x_iconst xc38_151 ?_
      refine x_goto xc38_152 ?_
      refine x_istore (pl' := [some (.ref 31), some (xV (sG t n p)), some (xV 4), some (xV 3), some (xV 4), some (xV (-1)), some (xV 0)]) xc38_164 rfl rfl ?_
      refine x_aloadn xc38_166 rfl ?_
      refine x_iloadn xc38_167 rfl ?_
      refine x_iload xc38_168 rfl ?_
      refine x_iload xc38_170 rfl ?_
      refine x_cV (as := [xV 4, xV (-1), xV 0]) (rest := []) xc38_172 rfl xi41 xz31 ⟨rfl, rfl⟩ rfl rfl ?_
      refine xk41 (xRk (by decide)) (xRk (by decide)) (xRk (by decide)) (by rw [xUn (by decide), xUn (by decide), hs]) (by omega) (by omega) (fun h149 => ?_) (fun h150 => ?_)
      · refine x_iload xc38_175 rfl ?_
        refine x_iconst xc38_177 ?_
        refine x_iceq xc38_178 (xRk (by decide)) (xRk (by decide)) (fun _ => ?_) (fun h => absurd h (by omega))
        refine x_iconst xc38_191 ?_
        refine x_iret xc38_192 (Or.inr ⟨rfl, (by omega)⟩) ?_
        exact k46 h0 h29 h30 h31 h32 h61 h90 h91 h92 h139 h140 h141 h142 h149
      · refine x_iload xc38_175 rfl ?_
        refine x_iconst xc38_177 ?_
        refine x_iceq xc38_178 (xRk (by decide)) (xRk (by decide)) (fun _ => ?_) (fun h => absurd h (by omega))
        refine x_iconst xc38_191 ?_
        refine x_iret xc38_192 (Or.inr ⟨rfl, (by omega)⟩) ?_
        exact k47 h0 h29 h30 h31 h32 h61 h90 h91 h92 h139 h140 h141 h142 h150
    · refine x_istore (pl' := [some (.ref 31), some (xV (sG t n p)), some (xV 4), some (xV 3), some (xV 4), some (xV (-1)), none]) xc38_137 rfl rfl ?_
      refine x_iload xc38_139 rfl ?_
      refine x_iconst xc38_141 ?_
      refine x_iceq xc38_142 (xRk (by decide)) (xRk (by decide)) (fun _ => ?_) (fun h => absurd h (by omega))
      refine x_iconst xc38_151 ?_
      refine x_goto xc38_152 ?_
      refine x_istore (pl' := [some (.ref 31), some (xV (sG t n p)), some (xV 4), some (xV 3), some (xV 4), some (xV (-1)), some (xV 0)]) xc38_164 rfl rfl ?_
      refine x_aloadn xc38_166 rfl ?_
      refine x_iloadn xc38_167 rfl ?_
      refine x_iload xc38_168 rfl ?_
      refine x_iload xc38_170 rfl ?_
      refine x_cV (as := [xV 4, xV (-1), xV 0]) (rest := []) xc38_172 rfl xi41 xz31 ⟨rfl, rfl⟩ rfl rfl ?_
      refine xk41 (xRk (by decide)) (xRk (by decide)) (xRk (by decide)) (by rw [xUn (by decide), xUn (by decide), hs]) (by omega) (by omega) (fun h154 => ?_) (fun h155 => ?_)
      · refine x_iload xc38_175 rfl ?_
        refine x_iconst xc38_177 ?_
        refine x_iceq xc38_178 (xRk (by decide)) (xRk (by decide)) (fun _ => ?_) (fun h => absurd h (by omega))
        refine x_iconst xc38_191 ?_
        refine x_iret xc38_192 (Or.inr ⟨rfl, (by omega)⟩) ?_
        exact k48 h0 h29 h30 h31 h32 h61 h90 h91 h92 h139 h140 h141 h143 h144 h154
      · refine x_iload xc38_175 rfl ?_
        refine x_iconst xc38_177 ?_
        refine x_iceq xc38_178 (xRk (by decide)) (xRk (by decide)) (fun _ => ?_) (fun h => absurd h (by omega))
        refine x_iconst xc38_191 ?_
        refine x_iret xc38_192 (Or.inr ⟨rfl, (by omega)⟩) ?_
        exact k49 h0 h29 h30 h31 h32 h61 h90 h91 h92 h139 h140 h141 h143 h144 h155
    · refine x_istore (pl' := [some (.ref 31), some (xV (sG t n p)), some (xV 4), some (xV 3), some (xV 4), some (xV (sG t n (p + 1) - 48)), none]) xc38_137 rfl rfl ?_
      refine x_iload xc38_139 rfl ?_
      refine x_iconst xc38_141 ?_
      refine x_iceq xc38_142 (xRk (by have g0 := sGB (n := n) (p := p + 1) hb (by omega); omega)) (xRk (by decide)) (fun h158 => ?_) (fun h158 => ?_)
      · refine x_iconst xc38_151 ?_
        refine x_goto xc38_152 ?_
        refine x_istore (pl' := [some (.ref 31), some (xV (sG t n p)), some (xV 4), some (xV 3), some (xV 4), some (xV (sG t n (p + 1) - 48)), some (xV 0)]) xc38_164 rfl rfl ?_
        refine x_aloadn xc38_166 rfl ?_
        refine x_iloadn xc38_167 rfl ?_
        refine x_iload xc38_168 rfl ?_
        refine x_iload xc38_170 rfl ?_
        refine x_cV (as := [xV 4, xV (sG t n (p + 1) - 48), xV 0]) (rest := []) xc38_172 rfl xi41 xz31 ⟨rfl, rfl⟩ rfl rfl ?_
        refine xk41 (xRk (by decide)) (xRk (by have g0 := sGB (n := n) (p := p + 1) hb (by omega); omega)) (xRk (by decide)) (by rw [xUn (by decide), xUn (by decide), hs]) (by omega) (by omega) (fun h159 => ?_) (fun h160 => ?_)
        · refine x_iload xc38_175 rfl ?_
          refine x_iconst xc38_177 ?_
          refine x_iceq xc38_178 (xRk (by have g0 := sGB (n := n) (p := p + 1) hb (by omega); omega)) (xRk (by decide)) (fun _ => ?_) (fun h => absurd h (by omega))
          refine x_iconst xc38_191 ?_
          refine x_iret xc38_192 (Or.inr ⟨rfl, (by omega)⟩) ?_
          exact k50 h0 h29 h30 h31 h32 h61 h90 h91 h92 h139 h140 h141 h145 h146 h147 h158 h159
        · refine x_iload xc38_175 rfl ?_
          refine x_iconst xc38_177 ?_
          refine x_iceq xc38_178 (xRk (by have g0 := sGB (n := n) (p := p + 1) hb (by omega); omega)) (xRk (by decide)) (fun _ => ?_) (fun h => absurd h (by omega))
          refine x_iconst xc38_191 ?_
          refine x_iret xc38_192 (Or.inr ⟨rfl, (by omega)⟩) ?_
          exact k51 h0 h29 h30 h31 h32 h61 h90 h91 h92 h139 h140 h141 h145 h146 h147 h158 h160
      · refine x_iload xc38_145 rfl ?_
        refine x_iconst xc38_147 ?_
        refine x_icne xc38_148 (xRk (by decide)) (xRk (by decide)) (fun _ => ?_) (fun h => absurd h (by omega))
        refine x_aloadn xc38_155 rfl ?_
        refine x_gfr xc38_156 rfl rfl xz31 rfl ?_
        refine x_iload xc38_159 rfl ?_
        refine x_cV (as := [xV 4]) (rest := []) xc38_161 rfl xi40 xz1 ⟨rfl, rfl⟩ rfl rfl ?_
        refine xk40 (tC.at (tC.at hC)) (by omega) (by omega) hb (xAr_u (xAr_u hA (xRk (by omega))) (xRk (by omega))) (xRk (by decide)) (by omega) (fun h164 => ?_) (fun h165 h166 => ?_) (fun h167 h168 h169 => ?_)
        · refine x_istore (pl' := [some (.ref 31), some (xV (sG t n p)), some (xV 4), some (xV 3), some (xV 4), some (xV (sG t n (p + 1) - 48)), some (xV (-1))]) xc38_164 rfl rfl ?_
          refine x_aloadn xc38_166 rfl ?_
          refine x_iloadn xc38_167 rfl ?_
          refine x_iload xc38_168 rfl ?_
          refine x_iload xc38_170 rfl ?_
          refine x_cV (as := [xV 4, xV (sG t n (p + 1) - 48), xV (-1)]) (rest := []) xc38_172 rfl xi41 xz31 ⟨rfl, rfl⟩ rfl rfl ?_
          refine xk41 (xRk (by decide)) (xRk (by have g0 := sGB (n := n) (p := p + 1) hb (by omega); omega)) (xRk (by decide)) (by rw [xUn (by decide), xUn (by decide), xUn (by decide), hs]) (by omega) (by omega) (fun h170 => ?_) (fun h171 => ?_)
          · refine x_iload xc38_175 rfl ?_
            refine x_iconst xc38_177 ?_
            refine x_iceq xc38_178 (xRk (by have g0 := sGB (n := n) (p := p + 1) hb (by omega); omega)) (xRk (by decide)) (fun h => absurd h (by omega)) (fun _ => ?_)
            refine x_iload xc38_181 rfl ?_
            refine x_iconst xc38_183 ?_
            refine x_iceq xc38_184 (xRk (by decide)) (xRk (by decide)) (fun _ => ?_) (fun h => absurd h (by omega))
            refine x_iconst xc38_191 ?_
            refine x_iret xc38_192 (Or.inr ⟨rfl, (by omega)⟩) ?_
            exact k52 h0 h29 h30 h31 h32 h61 h90 h91 h92 h139 h140 h141 h145 h146 h147 h158 h164 h170
          · refine x_iload xc38_175 rfl ?_
            refine x_iconst xc38_177 ?_
            refine x_iceq xc38_178 (xRk (by have g0 := sGB (n := n) (p := p + 1) hb (by omega); omega)) (xRk (by decide)) (fun h => absurd h (by omega)) (fun _ => ?_)
            refine x_iload xc38_181 rfl ?_
            refine x_iconst xc38_183 ?_
            refine x_iceq xc38_184 (xRk (by decide)) (xRk (by decide)) (fun _ => ?_) (fun h => absurd h (by omega))
            refine x_iconst xc38_191 ?_
            refine x_iret xc38_192 (Or.inr ⟨rfl, (by omega)⟩) ?_
            exact k53 h0 h29 h30 h31 h32 h61 h90 h91 h92 h139 h140 h141 h145 h146 h147 h158 h164 h171
        · refine x_istore (pl' := [some (.ref 31), some (xV (sG t n p)), some (xV 4), some (xV 3), some (xV 4), some (xV (sG t n (p + 1) - 48)), some (xV (-1))]) xc38_164 rfl rfl ?_
          refine x_aloadn xc38_166 rfl ?_
          refine x_iloadn xc38_167 rfl ?_
          refine x_iload xc38_168 rfl ?_
          refine x_iload xc38_170 rfl ?_
          refine x_cV (as := [xV 4, xV (sG t n (p + 1) - 48), xV (-1)]) (rest := []) xc38_172 rfl xi41 xz31 ⟨rfl, rfl⟩ rfl rfl ?_
          refine xk41 (xRk (by decide)) (xRk (by have g0 := sGB (n := n) (p := p + 1) hb (by omega); omega)) (xRk (by decide)) (by rw [xUn (by decide), xUn (by decide), xUn (by decide), hs]) (by omega) (by omega) (fun h176 => ?_) (fun h177 => ?_)
          · refine x_iload xc38_175 rfl ?_
            refine x_iconst xc38_177 ?_
            refine x_iceq xc38_178 (xRk (by have g0 := sGB (n := n) (p := p + 1) hb (by omega); omega)) (xRk (by decide)) (fun h => absurd h (by omega)) (fun _ => ?_)
            refine x_iload xc38_181 rfl ?_
            refine x_iconst xc38_183 ?_
            refine x_iceq xc38_184 (xRk (by decide)) (xRk (by decide)) (fun _ => ?_) (fun h => absurd h (by omega))
            refine x_iconst xc38_191 ?_
            refine x_iret xc38_192 (Or.inr ⟨rfl, (by omega)⟩) ?_
            exact k54 h0 h29 h30 h31 h32 h61 h90 h91 h92 h139 h140 h141 h145 h146 h147 h158 h165 h166 h176
          · refine x_iload xc38_175 rfl ?_
            refine x_iconst xc38_177 ?_
            refine x_iceq xc38_178 (xRk (by have g0 := sGB (n := n) (p := p + 1) hb (by omega); omega)) (xRk (by decide)) (fun h => absurd h (by omega)) (fun _ => ?_)
            refine x_iload xc38_181 rfl ?_
            refine x_iconst xc38_183 ?_
            refine x_iceq xc38_184 (xRk (by decide)) (xRk (by decide)) (fun _ => ?_) (fun h => absurd h (by omega))
            refine x_iconst xc38_191 ?_
            refine x_iret xc38_192 (Or.inr ⟨rfl, (by omega)⟩) ?_
            exact k55 h0 h29 h30 h31 h32 h61 h90 h91 h92 h139 h140 h141 h145 h146 h147 h158 h165 h166 h177
        · refine x_istore (pl' := [some (.ref 31), some (xV (sG t n p)), some (xV 4), some (xV 3), some (xV 4), some (xV (sG t n (p + 1) - 48)), some (xV (sG t n (p + 1 + 1) - 48))]) xc38_164 rfl rfl ?_
          refine x_aloadn xc38_166 rfl ?_
          refine x_iloadn xc38_167 rfl ?_
          refine x_iload xc38_168 rfl ?_
          refine x_iload xc38_170 rfl ?_
          refine x_cV (as := [xV 4, xV (sG t n (p + 1) - 48), xV (sG t n (p + 1 + 1) - 48)]) (rest := []) xc38_172 rfl xi41 xz31 ⟨rfl, rfl⟩ rfl rfl ?_
          refine xk41 (xRk (by decide)) (xRk (by have g0 := sGB (n := n) (p := p + 1) hb (by omega); omega)) (xRk (by have g0 := sGB (n := n) (p := p + 1 + 1) hb (by omega); omega)) (by rw [xUn (by decide), xUn (by decide), xUn (by decide), hs]) (by omega) (by omega) (fun h182 => ?_) (fun h183 => ?_)
          · refine x_iload xc38_175 rfl ?_
            refine x_iconst xc38_177 ?_
            refine x_iceq xc38_178 (xRk (by have g0 := sGB (n := n) (p := p + 1) hb (by omega); omega)) (xRk (by decide)) (fun h => absurd h (by omega)) (fun _ => ?_)
            refine x_iload xc38_181 rfl ?_
            refine x_iconst xc38_183 ?_
            refine x_iceq xc38_184 (xRk (by have g0 := sGB (n := n) (p := p + 1 + 1) hb (by omega); omega)) (xRk (by decide)) (fun h185 => ?_) (fun h185 => ?_)
            · refine x_iconst xc38_191 ?_
              refine x_iret xc38_192 (Or.inr ⟨rfl, (by omega)⟩) ?_
              exact k56 h0 h29 h30 h31 h32 h61 h90 h91 h92 h139 h140 h141 h145 h146 h147 h158 h167 h168 h169 h182 h185
            · refine x_iconst xc38_187 ?_
              refine x_goto xc38_188 ?_
              refine x_iret xc38_192 (Or.inr ⟨rfl, (by omega)⟩) ?_
              exact k57 h0 h29 h30 h31 h32 h61 h90 h91 h92 h139 h140 h141 h145 h146 h147 h158 h167 h168 h169 h182 h185
          · refine x_iload xc38_175 rfl ?_
            refine x_iconst xc38_177 ?_
            refine x_iceq xc38_178 (xRk (by have g0 := sGB (n := n) (p := p + 1) hb (by omega); omega)) (xRk (by decide)) (fun h => absurd h (by omega)) (fun _ => ?_)
            refine x_iload xc38_181 rfl ?_
            refine x_iconst xc38_183 ?_
            refine x_iceq xc38_184 (xRk (by have g0 := sGB (n := n) (p := p + 1 + 1) hb (by omega); omega)) (xRk (by decide)) (fun h187 => ?_) (fun h187 => ?_)
            · refine x_iconst xc38_191 ?_
              refine x_iret xc38_192 (Or.inr ⟨rfl, (by omega)⟩) ?_
              exact k58 h0 h29 h30 h31 h32 h61 h90 h91 h92 h139 h140 h141 h145 h146 h147 h158 h167 h168 h169 h183 h187
            · refine x_iconst xc38_187 ?_
              refine x_goto xc38_188 ?_
              refine x_iret xc38_192 (Or.inr ⟨rfl, (by omega)⟩) ?_
              exact k59 h0 h29 h30 h31 h32 h61 h90 h91 h92 h139 h140 h141 h145 h146 h147 h158 h167 h168 h169 h183 h187
  refine x_tsd xc38_6 (xRk (by have g0 := sGB (n := n) (p := p) hb (by omega); omega)) (by omega) ?_
  refine x_aloadn xc38_107 rfl ?_
  refine x_gfr xc38_108 rfl rfl xz31 rfl ?_
  refine x_iconst xc38_111 ?_
  refine x_cV (as := [xV 1]) (rest := []) xc38_112 rfl xi39 xz1 ⟨rfl, rfl⟩ rfl rfl ?_
  refine xk39 hC (by omega) (by omega) hb hA (xRk (by decide)) (by omega) ?_
  refine x_iret xc38_115 (Or.inr ⟨rfl, (by omega)⟩) ?_
  exact k60 h0 h29 h30 h31 h32 h61 h90 h91 h92 h139 h140 h141

section
variable {t : Int → Int} {n p g g2 v f q : Int}
theorem rDig_1 (h : sG t n p < 48 ∨ 57 < sG t n p) : rDig t n g p = (-1000 - p, p) := if_pos h
theorem rDig_3 (h : ¬ (sG t n p < 48 ∨ 57 < sG t n p)) (h2 : g < sG t n p - 48) : rDig t n g p = (-3000 - p, p) := by
  unfold rDig
  rw [if_neg h, if_pos h2]
theorem rDig_0 (h : ¬ (sG t n p < 48 ∨ 57 < sG t n p)) (h2 : ¬ g < sG t n p - 48) : rDig t n g p = (0, p + 1) := by
  unfold rDig
  rw [if_neg h, if_neg h2]
theorem wAt_x (h : ¬ (sG t n p = 104 ∨ sG t n p = 105 ∨ sG t n p = 100 ∨ sG t n p = 108 ∨ sG t n p = 111)) : (wAt t n p).1 = -1000 - p := by
  unfold wAt
  rw [if_pos h]
theorem wAt_b1 (h : sG t n p = 104 ∨ sG t n p = 105 ∨ sG t n p = 100 ∨ sG t n p = 108 ∨ sG t n p = 111) (hg : wG1 (sG t n p) = g) (hd : rDig t n g (p + 1) = (f, q)) (hf : f < 0) : (wAt t n p).1 = f := by
  unfold wAt
  rw [if_neg (fun e => e h), hg, hd, if_pos (by show ¬ f = 0; omega)]
theorem wAt_1 (h : sG t n p = 104 ∨ sG t n p = 105 ∨ sG t n p = 100) (hg : wG1 (sG t n p) = g) (hw : wWh (sG t n p) = v) (hd : rDig t n g (p + 1) = (0, q)) : wAt t n p = (0, p + 1 + 1, 256 * v + 16 * (sG t n (p + 1) - 48) + (sG t n (p + 1) - 48)) := by
  unfold wAt
  rw [if_neg (by omega), hg, hd, if_neg (fun e => e rfl), if_neg (by omega), hw]
theorem wAt_b2 (h : sG t n p = 108 ∨ sG t n p = 111) (hg : wG1 (sG t n p) = g) {q2 : Int} (hd : rDig t n g (p + 1) = (0, q2)) (hg2 : (if sG t n p = 108 then (6 : Int) else 4) = g2) (hd2 : rDig t n g2 (p + 1 + 1) = (f, q)) (hf : f < 0) : (wAt t n p).1 = f := by
  unfold wAt
  rw [if_neg (by omega), hg, hd, if_neg (fun e => e rfl), if_pos h, hg2, hd2, if_pos (by show ¬ f = 0; omega)]
theorem wAt_2 (h : sG t n p = 108 ∨ sG t n p = 111) (hg : wG1 (sG t n p) = g) (hw : wWh (sG t n p) = v) {q2 : Int} (hd : rDig t n g (p + 1) = (0, q2)) (hg2 : (if sG t n p = 108 then (6 : Int) else 4) = g2) (hd2 : rDig t n g2 (p + 1 + 1) = (0, q)) : wAt t n p = (0, p + 1 + 1 + 1, 256 * v + 16 * (sG t n (p + 1) - 48) + (sG t n (p + 1 + 1) - 48)) := by
  unfold wAt
  rw [if_neg (by omega), hg, hd, if_neg (fun e => e rfl), if_pos h, hg2, hd2, if_neg (fun e => e rfl), hw]
end
theorem xk38 {ro : Nat → Nat × (Nat → Int32)} {d : Nat} {Q : Option Value → pmS → Prop} {a : xA} {b : xB} {t : Int → Int} {n p : Int} (hC : tC a t n p) (hp : 0 ≤ p ∧ p ≤ n) (hn : n ≤ 40) (hb : tB t) (hA : xAr a) (hf : a 1 4 = 0) {s : Int} (hs : a 31 2 = s) (hs0 : 0 ≤ s ∧ s ≤ p) (h0 : sG t n p = -1 ∨ p < n) (hd : 4 ≤ d)
    (hT : ∀ (a1 : xA) (p1 code : Int), tC a1 t n p1 → xAr a1 → a1 1 4 = 0 → a1 31 2 = s + 1 → (∀ j, j ≠ s → a1 32 j = a 32 j) → a1 32 s = cT code → wAt t n p = (0, p1, code) → p + 2 ≤ p1 ∧ p1 ≤ n → kWs a a1 → Q (some (xV 1)) (xS a1 b))
    (hF : ∀ (a1 : xA) (f : Int), xAr a1 → a1 1 4 = f → f < 0 ∧ -10000 < f → (wAt t n p).1 = f → 0 ≤ a1 31 2 ∧ a1 31 2 ≤ 40 → kWs a a1 → Q (some (xV 0)) (xS a1 b)) : pmCs ro d 38 [.ref 31, xV (sG t n p)] (xS a b) Q := by
  refine pmCs_deep (d := 4) (xg38 (w38 hC hp hn hb hA hf hs hs0 h0 (by decide) ?_ ?_ ?_ ?_ ?_ ?_ ?_ ?_ ?_ ?_ ?_ ?_ ?_ ?_ ?_ ?_ ?_ ?_ ?_ ?_ ?_ ?_ ?_ ?_ ?_ ?_ ?_ ?_ ?_ ?_ ?_ ?_ ?_ ?_ ?_ ?_ ?_ ?_ ?_ ?_ ?_ ?_ ?_ ?_ ?_ ?_ ?_ ?_ ?_ ?_ ?_ ?_ ?_ ?_ ?_ ?_ ?_ ?_ ?_ ?_)) hd
  · intro h0 h1 h8
    exact hF _ (-1000 * 1 - (p + 1)) (xAr_u (xAr_u (xAr_u (xAr_u hA (xRk (by omega))) (xRk (by omega))) (xRk (by have g0 := xOrB (xOr (2 * 64) ((-1) % 8 * 8)) (0 % 8); omega))) (xRk (by omega))) (by rw [xUn (by decide), xUn (by decide), xUa]) (by omega) (by rw [wAt_b1 (g := 3) (by omega) (by unfold wG1; (repeat (first | rw [if_pos (by omega)] | rw [if_neg (by omega)]))) (rDig_1 (by assumption)) (by omega)]; omega) (by rw [show (xU (xU (xU (xU a 1 3 (p + 1)) 1 4 (-1000 * 1 - (p + 1))) 32 s (xOr (xOr (2 * 64) ((-1) % 8 * 8)) (0 % 8))) 31 2 (s + 1)) 31 2 = s + 1 from (by rw [xUa])]; omega) (fun q k g1 g31 g32 => by rw [xUn g31, xUn g32, xUn g1, xUn g1])
  · intro h0 h1 h9
    exfalso
    omega
  · intro h0 h2 h3 h13
    exact hF _ (-1000 * 3 - (p + 1)) (xAr_u (xAr_u (xAr_u (xAr_u hA (xRk (by omega))) (xRk (by omega))) (xRk (by have g0 := xOrB (xOr (2 * 64) ((-1) % 8 * 8)) (0 % 8); omega))) (xRk (by omega))) (by rw [xUn (by decide), xUn (by decide), xUa]) (by omega) (by rw [wAt_b1 (g := 3) (by omega) (by unfold wG1; (repeat (first | rw [if_pos (by omega)] | rw [if_neg (by omega)]))) (rDig_3 (by assumption) (by assumption)) (by omega)]; omega) (by rw [show (xU (xU (xU (xU a 1 3 (p + 1)) 1 4 (-1000 * 3 - (p + 1))) 32 s (xOr (xOr (2 * 64) ((-1) % 8 * 8)) (0 % 8))) 31 2 (s + 1)) 31 2 = s + 1 from (by rw [xUa])]; omega) (fun q k g1 g31 g32 => by rw [xUn g31, xUn g32, xUn g1, xUn g1])
  · intro h0 h2 h3 h14
    exfalso
    omega
  · intro h0 h4 h5 h6 h17 h18
    exfalso
    omega
  · intro h0 h4 h5 h6 h17 h19
    exfalso
    omega
  · intro h0 h4 h5 h6 h17 h23
    exact hT _ (p + 1 + 1) (256 * 2 + 16 * (sG t n (p + 1) - 48) + (sG t n (p + 1) - 48)) (tC.ot (by decide) (by decide) (tC.ot (by decide) (by decide) (tC.at (tC.at hC)))) (xAr_u (xAr_u (xAr_u (xAr_u hA (xRk (by omega))) (xRk (by omega))) (xRk (by have g0 := xOrB (xOr (2 * 64) ((sG t n (p + 1) - 48) % 8 * 8)) (0 % 8); omega))) (xRk (by omega))) (by rw [xUn (by decide), xUn (by decide), xUk (by decide), xUk (by decide), hf]) (by rw [xUa]) (fun j hj => by rw [xUn (by decide), xUk hj, xUn (by decide), xUn (by decide)]) (by rw [xUn (by decide), xUa, tOr (by omega) (by omega) (by omega)]; rw [cT_ok (by omega) (by omega) (by omega), if_pos (by decide)]) (wAt_1 (g := 3) (v := 2) (by omega) (by unfold wG1; (repeat (first | rw [if_pos (by omega)] | rw [if_neg (by omega)]))) (by unfold wWh; (repeat (first | rw [if_pos (by omega)] | rw [if_neg (by omega)]))) (rDig_0 (by assumption) (by assumption))) (by omega) (fun q k g1 g31 g32 => by rw [xUn g31, xUn g32, xUn g1, xUn g1])
  · intro h0 h4 h5 h6 h17 h24
    exfalso
    omega
  · intro h0 h29
    exact hF _ (-1000 * 1 - p) (xAr_u hA (xRk (by omega))) (by rw [xUa]) (by omega) (by rw [wAt_x (by omega)]; omega) (by rw [show (xU a 1 4 (-1000 * 1 - p)) 31 2 = s from (by rw [xUn (by decide), hs])]; omega) (fun q k g1 g31 g32 => by rw [xUn g1])
  · intro h0 h29 h30
    exact hF _ (-1000 * 1 - p) (xAr_u hA (xRk (by omega))) (by rw [xUa]) (by omega) (by rw [wAt_x (by omega)]; omega) (by rw [show (xU a 1 4 (-1000 * 1 - p)) 31 2 = s from (by rw [xUn (by decide), hs])]; omega) (fun q k g1 g31 g32 => by rw [xUn g1])
  · intro h0 h29 h30 h31
    exact hF _ (-1000 * 1 - p) (xAr_u hA (xRk (by omega))) (by rw [xUa]) (by omega) (by rw [wAt_x (by omega)]; omega) (by rw [show (xU a 1 4 (-1000 * 1 - p)) 31 2 = s from (by rw [xUn (by decide), hs])]; omega) (fun q k g1 g31 g32 => by rw [xUn g1])
  · intro h0 h29 h30 h31 h32 h33 h40
    exact hF _ (-1000 * 1 - (p + 1)) (xAr_u (xAr_u (xAr_u (xAr_u hA (xRk (by omega))) (xRk (by omega))) (xRk (by have g0 := xOrB (xOr (0 * 64) ((-1) % 8 * 8)) (0 % 8); omega))) (xRk (by omega))) (by rw [xUn (by decide), xUn (by decide), xUa]) (by omega) (by rw [wAt_b1 (g := 4) (by omega) (by unfold wG1; (repeat (first | rw [if_pos (by omega)] | rw [if_neg (by omega)]))) (rDig_1 (by assumption)) (by omega)]; omega) (by rw [show (xU (xU (xU (xU a 1 3 (p + 1)) 1 4 (-1000 * 1 - (p + 1))) 32 s (xOr (xOr (0 * 64) ((-1) % 8 * 8)) (0 % 8))) 31 2 (s + 1)) 31 2 = s + 1 from (by rw [xUa])]; omega) (fun q k g1 g31 g32 => by rw [xUn g31, xUn g32, xUn g1, xUn g1])
  · intro h0 h29 h30 h31 h32 h33 h41
    exfalso
    omega
  · intro h0 h29 h30 h31 h32 h34 h35 h45
    exact hF _ (-1000 * 3 - (p + 1)) (xAr_u (xAr_u (xAr_u (xAr_u hA (xRk (by omega))) (xRk (by omega))) (xRk (by have g0 := xOrB (xOr (0 * 64) ((-1) % 8 * 8)) (0 % 8); omega))) (xRk (by omega))) (by rw [xUn (by decide), xUn (by decide), xUa]) (by omega) (by rw [wAt_b1 (g := 4) (by omega) (by unfold wG1; (repeat (first | rw [if_pos (by omega)] | rw [if_neg (by omega)]))) (rDig_3 (by assumption) (by assumption)) (by omega)]; omega) (by rw [show (xU (xU (xU (xU a 1 3 (p + 1)) 1 4 (-1000 * 3 - (p + 1))) 32 s (xOr (xOr (0 * 64) ((-1) % 8 * 8)) (0 % 8))) 31 2 (s + 1)) 31 2 = s + 1 from (by rw [xUa])]; omega) (fun q k g1 g31 g32 => by rw [xUn g31, xUn g32, xUn g1, xUn g1])
  · intro h0 h29 h30 h31 h32 h34 h35 h46
    exfalso
    omega
  · intro h0 h29 h30 h31 h32 h36 h37 h38 h49 h50
    exfalso
    omega
  · intro h0 h29 h30 h31 h32 h36 h37 h38 h49 h51
    exfalso
    omega
  · intro h0 h29 h30 h31 h32 h36 h37 h38 h49 h55
    exact hT _ (p + 1 + 1) (256 * 0 + 16 * (sG t n (p + 1) - 48) + (sG t n (p + 1) - 48)) (tC.ot (by decide) (by decide) (tC.ot (by decide) (by decide) (tC.at (tC.at hC)))) (xAr_u (xAr_u (xAr_u (xAr_u hA (xRk (by omega))) (xRk (by omega))) (xRk (by have g0 := xOrB (xOr (0 * 64) ((sG t n (p + 1) - 48) % 8 * 8)) (0 % 8); omega))) (xRk (by omega))) (by rw [xUn (by decide), xUn (by decide), xUk (by decide), xUk (by decide), hf]) (by rw [xUa]) (fun j hj => by rw [xUn (by decide), xUk hj, xUn (by decide), xUn (by decide)]) (by rw [xUn (by decide), xUa, tOr (by omega) (by omega) (by omega)]; rw [cT_ok (by omega) (by omega) (by omega), if_pos (by decide)]) (wAt_1 (g := 4) (v := 0) (by omega) (by unfold wG1; (repeat (first | rw [if_pos (by omega)] | rw [if_neg (by omega)]))) (by unfold wWh; (repeat (first | rw [if_pos (by omega)] | rw [if_neg (by omega)]))) (rDig_0 (by assumption) (by assumption))) (by omega) (fun q k g1 g31 g32 => by rw [xUn g31, xUn g32, xUn g1, xUn g1])
  · intro h0 h29 h30 h31 h32 h36 h37 h38 h49 h56
    exfalso
    omega
  · intro h0 h29 h30 h31 h32 h61 h62 h69
    exact hF _ (-1000 * 1 - (p + 1)) (xAr_u (xAr_u (xAr_u (xAr_u hA (xRk (by omega))) (xRk (by omega))) (xRk (by have g0 := xOrB (xOr (1 * 64) ((-1) % 8 * 8)) (0 % 8); omega))) (xRk (by omega))) (by rw [xUn (by decide), xUn (by decide), xUa]) (by omega) (by rw [wAt_b1 (g := 6) (by omega) (by unfold wG1; (repeat (first | rw [if_pos (by omega)] | rw [if_neg (by omega)]))) (rDig_1 (by assumption)) (by omega)]; omega) (by rw [show (xU (xU (xU (xU a 1 3 (p + 1)) 1 4 (-1000 * 1 - (p + 1))) 32 s (xOr (xOr (1 * 64) ((-1) % 8 * 8)) (0 % 8))) 31 2 (s + 1)) 31 2 = s + 1 from (by rw [xUa])]; omega) (fun q k g1 g31 g32 => by rw [xUn g31, xUn g32, xUn g1, xUn g1])
  · intro h0 h29 h30 h31 h32 h61 h62 h70
    exfalso
    omega
  · intro h0 h29 h30 h31 h32 h61 h63 h64 h74
    exact hF _ (-1000 * 3 - (p + 1)) (xAr_u (xAr_u (xAr_u (xAr_u hA (xRk (by omega))) (xRk (by omega))) (xRk (by have g0 := xOrB (xOr (1 * 64) ((-1) % 8 * 8)) (0 % 8); omega))) (xRk (by omega))) (by rw [xUn (by decide), xUn (by decide), xUa]) (by omega) (by rw [wAt_b1 (g := 6) (by omega) (by unfold wG1; (repeat (first | rw [if_pos (by omega)] | rw [if_neg (by omega)]))) (rDig_3 (by assumption) (by assumption)) (by omega)]; omega) (by rw [show (xU (xU (xU (xU a 1 3 (p + 1)) 1 4 (-1000 * 3 - (p + 1))) 32 s (xOr (xOr (1 * 64) ((-1) % 8 * 8)) (0 % 8))) 31 2 (s + 1)) 31 2 = s + 1 from (by rw [xUa])]; omega) (fun q k g1 g31 g32 => by rw [xUn g31, xUn g32, xUn g1, xUn g1])
  · intro h0 h29 h30 h31 h32 h61 h63 h64 h75
    exfalso
    omega
  · intro h0 h29 h30 h31 h32 h61 h65 h66 h67 h78 h79
    exfalso
    omega
  · intro h0 h29 h30 h31 h32 h61 h65 h66 h67 h78 h80
    exfalso
    omega
  · intro h0 h29 h30 h31 h32 h61 h65 h66 h67 h78 h84
    exact hT _ (p + 1 + 1) (256 * 1 + 16 * (sG t n (p + 1) - 48) + (sG t n (p + 1) - 48)) (tC.ot (by decide) (by decide) (tC.ot (by decide) (by decide) (tC.at (tC.at hC)))) (xAr_u (xAr_u (xAr_u (xAr_u hA (xRk (by omega))) (xRk (by omega))) (xRk (by have g0 := xOrB (xOr (1 * 64) ((sG t n (p + 1) - 48) % 8 * 8)) (0 % 8); omega))) (xRk (by omega))) (by rw [xUn (by decide), xUn (by decide), xUk (by decide), xUk (by decide), hf]) (by rw [xUa]) (fun j hj => by rw [xUn (by decide), xUk hj, xUn (by decide), xUn (by decide)]) (by rw [xUn (by decide), xUa, tOr (by omega) (by omega) (by omega)]; rw [cT_ok (by omega) (by omega) (by omega), if_pos (by decide)]) (wAt_1 (g := 6) (v := 1) (by omega) (by unfold wG1; (repeat (first | rw [if_pos (by omega)] | rw [if_neg (by omega)]))) (by unfold wWh; (repeat (first | rw [if_pos (by omega)] | rw [if_neg (by omega)]))) (rDig_0 (by assumption) (by assumption))) (by omega) (fun q k g1 g31 g32 => by rw [xUn g31, xUn g32, xUn g1, xUn g1])
  · intro h0 h29 h30 h31 h32 h61 h65 h66 h67 h78 h85
    exfalso
    omega
  · intro h0 h29 h30 h31 h32 h61 h90
    exact hF _ (-1000 * 1 - p) (xAr_u hA (xRk (by omega))) (by rw [xUa]) (by omega) (by rw [wAt_x (by omega)]; omega) (by rw [show (xU a 1 4 (-1000 * 1 - p)) 31 2 = s from (by rw [xUn (by decide), hs])]; omega) (fun q k g1 g31 g32 => by rw [xUn g1])
  · intro h0 h29 h30 h31 h32 h61 h90 h91
    exact hF _ (-1000 * 1 - p) (xAr_u hA (xRk (by omega))) (by rw [xUa]) (by omega) (by rw [wAt_x (by omega)]; omega) (by rw [show (xU a 1 4 (-1000 * 1 - p)) 31 2 = s from (by rw [xUn (by decide), hs])]; omega) (fun q k g1 g31 g32 => by rw [xUn g1])
  · intro h0 h29 h30 h31 h32 h61 h90 h91 h92 h93 h100
    exact hF _ (-1000 * 1 - (p + 1)) (xAr_u (xAr_u (xAr_u (xAr_u hA (xRk (by omega))) (xRk (by omega))) (xRk (by have g0 := xOrB (xOr (3 * 64) ((-1) % 8 * 8)) (0 % 8); omega))) (xRk (by omega))) (by rw [xUn (by decide), xUn (by decide), xUa]) (by omega) (by rw [wAt_b1 (g := 4) (by omega) (by unfold wG1; (repeat (first | rw [if_pos (by omega)] | rw [if_neg (by omega)]))) (rDig_1 (by assumption)) (by omega)]; omega) (by rw [show (xU (xU (xU (xU a 1 3 (p + 1)) 1 4 (-1000 * 1 - (p + 1))) 32 s (xOr (xOr (3 * 64) ((-1) % 8 * 8)) (0 % 8))) 31 2 (s + 1)) 31 2 = s + 1 from (by rw [xUa])]; omega) (fun q k g1 g31 g32 => by rw [xUn g31, xUn g32, xUn g1, xUn g1])
  · intro h0 h29 h30 h31 h32 h61 h90 h91 h92 h93 h101
    exfalso
    omega
  · intro h0 h29 h30 h31 h32 h61 h90 h91 h92 h94 h95 h105
    exact hF _ (-1000 * 3 - (p + 1)) (xAr_u (xAr_u (xAr_u (xAr_u hA (xRk (by omega))) (xRk (by omega))) (xRk (by have g0 := xOrB (xOr (3 * 64) ((-1) % 8 * 8)) (0 % 8); omega))) (xRk (by omega))) (by rw [xUn (by decide), xUn (by decide), xUa]) (by omega) (by rw [wAt_b1 (g := 4) (by omega) (by unfold wG1; (repeat (first | rw [if_pos (by omega)] | rw [if_neg (by omega)]))) (rDig_3 (by assumption) (by assumption)) (by omega)]; omega) (by rw [show (xU (xU (xU (xU a 1 3 (p + 1)) 1 4 (-1000 * 3 - (p + 1))) 32 s (xOr (xOr (3 * 64) ((-1) % 8 * 8)) (0 % 8))) 31 2 (s + 1)) 31 2 = s + 1 from (by rw [xUa])]; omega) (fun q k g1 g31 g32 => by rw [xUn g31, xUn g32, xUn g1, xUn g1])
  · intro h0 h29 h30 h31 h32 h61 h90 h91 h92 h94 h95 h106
    exfalso
    omega
  · intro h0 h29 h30 h31 h32 h61 h90 h91 h92 h96 h97 h98 h109 h110
    exfalso
    omega
  · intro h0 h29 h30 h31 h32 h61 h90 h91 h92 h96 h97 h98 h109 h111
    exfalso
    omega
  · intro h0 h29 h30 h31 h32 h61 h90 h91 h92 h96 h97 h98 h109 h115 h121
    exact hF _ (-1000 * 1 - (p + 1 + 1)) (xAr_u (xAr_u (xAr_u (xAr_u (xAr_u hA (xRk (by omega))) (xRk (by omega))) (xRk (by omega))) (xRk (by have g0 := xOrB (xOr (3 * 64) ((sG t n (p + 1) - 48) % 8 * 8)) ((-1) % 8); omega))) (xRk (by omega))) (by rw [xUn (by decide), xUn (by decide), xUa]) (by omega) (by rw [wAt_b2 (g := 4) (g2 := 6) (by omega) (by unfold wG1; (repeat (first | rw [if_pos (by omega)] | rw [if_neg (by omega)]))) (rDig_0 (by assumption) (by assumption)) (by (repeat (first | rw [if_pos (by omega)] | rw [if_neg (by omega)]))) (rDig_1 (by assumption)) (by omega)]; omega) (by rw [show (xU (xU (xU (xU (xU a 1 3 (p + 1)) 1 3 (p + 1 + 1)) 1 4 (-1000 * 1 - (p + 1 + 1))) 32 s (xOr (xOr (3 * 64) ((sG t n (p + 1) - 48) % 8 * 8)) ((-1) % 8))) 31 2 (s + 1)) 31 2 = s + 1 from (by rw [xUa])]; omega) (fun q k g1 g31 g32 => by rw [xUn g31, xUn g32, xUn g1, xUn g1, xUn g1])
  · intro h0 h29 h30 h31 h32 h61 h90 h91 h92 h96 h97 h98 h109 h115 h122
    exfalso
    omega
  · intro h0 h29 h30 h31 h32 h61 h90 h91 h92 h96 h97 h98 h109 h116 h117 h127
    exact hF _ (-1000 * 3 - (p + 1 + 1)) (xAr_u (xAr_u (xAr_u (xAr_u (xAr_u hA (xRk (by omega))) (xRk (by omega))) (xRk (by omega))) (xRk (by have g0 := xOrB (xOr (3 * 64) ((sG t n (p + 1) - 48) % 8 * 8)) ((-1) % 8); omega))) (xRk (by omega))) (by rw [xUn (by decide), xUn (by decide), xUa]) (by omega) (by rw [wAt_b2 (g := 4) (g2 := 6) (by omega) (by unfold wG1; (repeat (first | rw [if_pos (by omega)] | rw [if_neg (by omega)]))) (rDig_0 (by assumption) (by assumption)) (by (repeat (first | rw [if_pos (by omega)] | rw [if_neg (by omega)]))) (rDig_3 (by assumption) (by assumption)) (by omega)]; omega) (by rw [show (xU (xU (xU (xU (xU a 1 3 (p + 1)) 1 3 (p + 1 + 1)) 1 4 (-1000 * 3 - (p + 1 + 1))) 32 s (xOr (xOr (3 * 64) ((sG t n (p + 1) - 48) % 8 * 8)) ((-1) % 8))) 31 2 (s + 1)) 31 2 = s + 1 from (by rw [xUa])]; omega) (fun q k g1 g31 g32 => by rw [xUn g31, xUn g32, xUn g1, xUn g1, xUn g1])
  · intro h0 h29 h30 h31 h32 h61 h90 h91 h92 h96 h97 h98 h109 h116 h117 h128
    exfalso
    omega
  · intro h0 h29 h30 h31 h32 h61 h90 h91 h92 h96 h97 h98 h109 h118 h119 h120 h133 h136
    exfalso
    omega
  · intro h0 h29 h30 h31 h32 h61 h90 h91 h92 h96 h97 h98 h109 h118 h119 h120 h133 h136
    exact hT _ (p + 1 + 1 + 1) (256 * 3 + 16 * (sG t n (p + 1) - 48) + (sG t n (p + 1 + 1) - 48)) (tC.ot (by decide) (by decide) (tC.ot (by decide) (by decide) (tC.at (tC.at (tC.at hC))))) (xAr_u (xAr_u (xAr_u (xAr_u (xAr_u hA (xRk (by omega))) (xRk (by omega))) (xRk (by omega))) (xRk (by have g0 := xOrB (xOr (3 * 64) ((sG t n (p + 1) - 48) % 8 * 8)) ((sG t n (p + 1 + 1) - 48) % 8); omega))) (xRk (by omega))) (by rw [xUn (by decide), xUn (by decide), xUk (by decide), xUk (by decide), xUk (by decide), hf]) (by rw [xUa]) (fun j hj => by rw [xUn (by decide), xUk hj, xUn (by decide), xUn (by decide), xUn (by decide)]) (by rw [xUn (by decide), xUa, tOr (by omega) (by omega) (by omega)]; rw [cT_ok (by omega) (by omega) (by omega), if_neg (by decide)]) (wAt_2 (g := 4) (g2 := 6) (v := 3) (by omega) (by unfold wG1; (repeat (first | rw [if_pos (by omega)] | rw [if_neg (by omega)]))) (by unfold wWh; (repeat (first | rw [if_pos (by omega)] | rw [if_neg (by omega)]))) (rDig_0 (by assumption) (by assumption)) (by (repeat (first | rw [if_pos (by omega)] | rw [if_neg (by omega)]))) (rDig_0 (by assumption) (by assumption))) (by omega) (fun q k g1 g31 g32 => by rw [xUn g31, xUn g32, xUn g1, xUn g1, xUn g1])
  · intro h0 h29 h30 h31 h32 h61 h90 h91 h92 h96 h97 h98 h109 h118 h119 h120 h134 h138
    exfalso
    omega
  · intro h0 h29 h30 h31 h32 h61 h90 h91 h92 h96 h97 h98 h109 h118 h119 h120 h134 h138
    exfalso
    omega
  · intro h0 h29 h30 h31 h32 h61 h90 h91 h92 h139
    exact hF _ (-1000 * 1 - p) (xAr_u hA (xRk (by omega))) (by rw [xUa]) (by omega) (by rw [wAt_x (by omega)]; omega) (by rw [show (xU a 1 4 (-1000 * 1 - p)) 31 2 = s from (by rw [xUn (by decide), hs])]; omega) (fun q k g1 g31 g32 => by rw [xUn g1])
  · intro h0 h29 h30 h31 h32 h61 h90 h91 h92 h139 h140
    exact hF _ (-1000 * 1 - p) (xAr_u hA (xRk (by omega))) (by rw [xUa]) (by omega) (by rw [wAt_x (by omega)]; omega) (by rw [show (xU a 1 4 (-1000 * 1 - p)) 31 2 = s from (by rw [xUn (by decide), hs])]; omega) (fun q k g1 g31 g32 => by rw [xUn g1])
  · intro h0 h29 h30 h31 h32 h61 h90 h91 h92 h139 h140 h141 h142 h149
    exact hF _ (-1000 * 1 - (p + 1)) (xAr_u (xAr_u (xAr_u (xAr_u hA (xRk (by omega))) (xRk (by omega))) (xRk (by have g0 := xOrB (xOr (4 * 64) ((-1) % 8 * 8)) (0 % 8); omega))) (xRk (by omega))) (by rw [xUn (by decide), xUn (by decide), xUa]) (by omega) (by rw [wAt_b1 (g := 3) (by omega) (by unfold wG1; (repeat (first | rw [if_pos (by omega)] | rw [if_neg (by omega)]))) (rDig_1 (by assumption)) (by omega)]; omega) (by rw [show (xU (xU (xU (xU a 1 3 (p + 1)) 1 4 (-1000 * 1 - (p + 1))) 32 s (xOr (xOr (4 * 64) ((-1) % 8 * 8)) (0 % 8))) 31 2 (s + 1)) 31 2 = s + 1 from (by rw [xUa])]; omega) (fun q k g1 g31 g32 => by rw [xUn g31, xUn g32, xUn g1, xUn g1])
  · intro h0 h29 h30 h31 h32 h61 h90 h91 h92 h139 h140 h141 h142 h150
    exfalso
    omega
  · intro h0 h29 h30 h31 h32 h61 h90 h91 h92 h139 h140 h141 h143 h144 h154
    exact hF _ (-1000 * 3 - (p + 1)) (xAr_u (xAr_u (xAr_u (xAr_u hA (xRk (by omega))) (xRk (by omega))) (xRk (by have g0 := xOrB (xOr (4 * 64) ((-1) % 8 * 8)) (0 % 8); omega))) (xRk (by omega))) (by rw [xUn (by decide), xUn (by decide), xUa]) (by omega) (by rw [wAt_b1 (g := 3) (by omega) (by unfold wG1; (repeat (first | rw [if_pos (by omega)] | rw [if_neg (by omega)]))) (rDig_3 (by assumption) (by assumption)) (by omega)]; omega) (by rw [show (xU (xU (xU (xU a 1 3 (p + 1)) 1 4 (-1000 * 3 - (p + 1))) 32 s (xOr (xOr (4 * 64) ((-1) % 8 * 8)) (0 % 8))) 31 2 (s + 1)) 31 2 = s + 1 from (by rw [xUa])]; omega) (fun q k g1 g31 g32 => by rw [xUn g31, xUn g32, xUn g1, xUn g1])
  · intro h0 h29 h30 h31 h32 h61 h90 h91 h92 h139 h140 h141 h143 h144 h155
    exfalso
    omega
  · intro h0 h29 h30 h31 h32 h61 h90 h91 h92 h139 h140 h141 h145 h146 h147 h158 h159
    exfalso
    omega
  · intro h0 h29 h30 h31 h32 h61 h90 h91 h92 h139 h140 h141 h145 h146 h147 h158 h160
    exfalso
    omega
  · intro h0 h29 h30 h31 h32 h61 h90 h91 h92 h139 h140 h141 h145 h146 h147 h158 h164 h170
    exact hF _ (-1000 * 1 - (p + 1 + 1)) (xAr_u (xAr_u (xAr_u (xAr_u (xAr_u hA (xRk (by omega))) (xRk (by omega))) (xRk (by omega))) (xRk (by have g0 := xOrB (xOr (4 * 64) ((sG t n (p + 1) - 48) % 8 * 8)) ((-1) % 8); omega))) (xRk (by omega))) (by rw [xUn (by decide), xUn (by decide), xUa]) (by omega) (by rw [wAt_b2 (g := 3) (g2 := 4) (by omega) (by unfold wG1; (repeat (first | rw [if_pos (by omega)] | rw [if_neg (by omega)]))) (rDig_0 (by assumption) (by assumption)) (by (repeat (first | rw [if_pos (by omega)] | rw [if_neg (by omega)]))) (rDig_1 (by assumption)) (by omega)]; omega) (by rw [show (xU (xU (xU (xU (xU a 1 3 (p + 1)) 1 3 (p + 1 + 1)) 1 4 (-1000 * 1 - (p + 1 + 1))) 32 s (xOr (xOr (4 * 64) ((sG t n (p + 1) - 48) % 8 * 8)) ((-1) % 8))) 31 2 (s + 1)) 31 2 = s + 1 from (by rw [xUa])]; omega) (fun q k g1 g31 g32 => by rw [xUn g31, xUn g32, xUn g1, xUn g1, xUn g1])
  · intro h0 h29 h30 h31 h32 h61 h90 h91 h92 h139 h140 h141 h145 h146 h147 h158 h164 h171
    exfalso
    omega
  · intro h0 h29 h30 h31 h32 h61 h90 h91 h92 h139 h140 h141 h145 h146 h147 h158 h165 h166 h176
    exact hF _ (-1000 * 3 - (p + 1 + 1)) (xAr_u (xAr_u (xAr_u (xAr_u (xAr_u hA (xRk (by omega))) (xRk (by omega))) (xRk (by omega))) (xRk (by have g0 := xOrB (xOr (4 * 64) ((sG t n (p + 1) - 48) % 8 * 8)) ((-1) % 8); omega))) (xRk (by omega))) (by rw [xUn (by decide), xUn (by decide), xUa]) (by omega) (by rw [wAt_b2 (g := 3) (g2 := 4) (by omega) (by unfold wG1; (repeat (first | rw [if_pos (by omega)] | rw [if_neg (by omega)]))) (rDig_0 (by assumption) (by assumption)) (by (repeat (first | rw [if_pos (by omega)] | rw [if_neg (by omega)]))) (rDig_3 (by assumption) (by assumption)) (by omega)]; omega) (by rw [show (xU (xU (xU (xU (xU a 1 3 (p + 1)) 1 3 (p + 1 + 1)) 1 4 (-1000 * 3 - (p + 1 + 1))) 32 s (xOr (xOr (4 * 64) ((sG t n (p + 1) - 48) % 8 * 8)) ((-1) % 8))) 31 2 (s + 1)) 31 2 = s + 1 from (by rw [xUa])]; omega) (fun q k g1 g31 g32 => by rw [xUn g31, xUn g32, xUn g1, xUn g1, xUn g1])
  · intro h0 h29 h30 h31 h32 h61 h90 h91 h92 h139 h140 h141 h145 h146 h147 h158 h165 h166 h177
    exfalso
    omega
  · intro h0 h29 h30 h31 h32 h61 h90 h91 h92 h139 h140 h141 h145 h146 h147 h158 h167 h168 h169 h182 h185
    exfalso
    omega
  · intro h0 h29 h30 h31 h32 h61 h90 h91 h92 h139 h140 h141 h145 h146 h147 h158 h167 h168 h169 h182 h185
    exact hT _ (p + 1 + 1 + 1) (256 * 4 + 16 * (sG t n (p + 1) - 48) + (sG t n (p + 1 + 1) - 48)) (tC.ot (by decide) (by decide) (tC.ot (by decide) (by decide) (tC.at (tC.at (tC.at hC))))) (xAr_u (xAr_u (xAr_u (xAr_u (xAr_u hA (xRk (by omega))) (xRk (by omega))) (xRk (by omega))) (xRk (by have g0 := xOrB (xOr (4 * 64) ((sG t n (p + 1) - 48) % 8 * 8)) ((sG t n (p + 1 + 1) - 48) % 8); omega))) (xRk (by omega))) (by rw [xUn (by decide), xUn (by decide), xUk (by decide), xUk (by decide), xUk (by decide), hf]) (by rw [xUa]) (fun j hj => by rw [xUn (by decide), xUk hj, xUn (by decide), xUn (by decide), xUn (by decide)]) (by rw [xUn (by decide), xUa, tOr (by omega) (by omega) (by omega)]; rw [cT_ok (by omega) (by omega) (by omega), if_neg (by decide)]) (wAt_2 (g := 3) (g2 := 4) (v := 4) (by omega) (by unfold wG1; (repeat (first | rw [if_pos (by omega)] | rw [if_neg (by omega)]))) (by unfold wWh; (repeat (first | rw [if_pos (by omega)] | rw [if_neg (by omega)]))) (rDig_0 (by assumption) (by assumption)) (by (repeat (first | rw [if_pos (by omega)] | rw [if_neg (by omega)]))) (rDig_0 (by assumption) (by assumption))) (by omega) (fun q k g1 g31 g32 => by rw [xUn g31, xUn g32, xUn g1, xUn g1, xUn g1])
  · intro h0 h29 h30 h31 h32 h61 h90 h91 h92 h139 h140 h141 h145 h146 h147 h158 h167 h168 h169 h183 h187
    exfalso
    omega
  · intro h0 h29 h30 h31 h32 h61 h90 h91 h92 h139 h140 h141 h145 h146 h147 h158 h167 h168 h169 h183 h187
    exfalso
    omega
  · intro h0 h29 h30 h31 h32 h61 h90 h91 h92 h139 h140 h141
    exact hF _ (-1000 * 1 - p) (xAr_u hA (xRk (by omega))) (by rw [xUa]) (by omega) (by rw [wAt_x (by omega)]; omega) (by rw [show (xU a 1 4 (-1000 * 1 - p)) 31 2 = s from (by rw [xUn (by decide), hs])]; omega) (fun q k g1 g31 g32 => by rw [xUn g1])

theorem xg36 {ro : Nat → Nat × (Nat → Int32)} {d : Nat} {Q : Option Value → pmS → Prop} {a : xA} {b : xB} {o : Int} (h : pmWp ro d 8 36 2 0 [some (.ref 31), some (xV o), none] [] (xS a b) Q) : pmCs ro (d + 1) 36 [.ref 31, xV o] (xS a b) Q := x_go xi36 rfl rfl rfl rfl rfl h
theorem w36 {ro : Nat → Nat × (Nat → Int32)} {d : Nat} {Q : Option Value → pmS → Prop} {a : xA} {b : xB} {t : Int → Int} {n p : Int} (hC : tC a t n p) (hp : 0 ≤ p ∧ p ≤ n) (hn : n ≤ 40) (hb : tB t) (hA : xAr a) (hf : a 1 4 = 0) {s : Int} (hs : a 31 2 = s) (hs0 : 0 ≤ s ∧ s ≤ p) {o : Int} (h_o : xR o) (ho : 0 ≤ o ∧ o ≤ 6) (hd : 1 ≤ d)
    (k1 : xK ((sG t n p = -1 ∨ p < n) → (sG t n p = 33) → (o < 6) → pmCs ro d 42 [.ref 31, xV (o + 1)] (xS (xU a 1 3 (p + 1)) b) fun r σ' => pmWp ro d 8 36 2 67 [some (.ref 31), some (xV o), some (xV (sG t n p))] (r.toList ++ []) σ' Q))
    (k2 : xK ((sG t n p = -1 ∨ p < n) → (sG t n p = 33) → (¬ o < 6) → Q (some (xV 0)) (xS (xU a 1 4 (-1000 * 5 - p)) b)))
    (k3 : xK ((sG t n p = -1 ∨ p < n) → (¬ sG t n p = 33) → (sG t n p = 40) → (o < 6) → pmCs ro d 43 [.ref 31, xV (o + 1)] (xS (xU a 1 3 (p + 1)) b) fun r σ' => pmWp ro d 8 36 2 77 [some (.ref 31), some (xV o), some (xV (sG t n p))] (r.toList ++ []) σ' Q))
    (k4 : xK ((sG t n p = -1 ∨ p < n) → (¬ sG t n p = 33) → (sG t n p = 40) → (¬ o < 6) → Q (some (xV 0)) (xS (xU a 1 4 (-1000 * 5 - p)) b)))
    (k5 : xK ((sG t n p = -1 ∨ p < n) → (¬ sG t n p = 33) → (¬ sG t n p = 40) → pmCs ro d 38 [.ref 31, xV (sG t n p)] (xS a b) fun r σ' => pmWp ro d 8 36 2 25 [some (.ref 31), some (xV o), some (xV (sG t n p))] (r.toList ++ []) σ' Q)) :
    pmWp ro d 8 36 2 0 [some (.ref 31), some (xV o), none] [] (xS a b) Q := by
  refine x_aloadn xc36_0 rfl ?_
  refine x_gfr xc36_1 rfl rfl xz31 rfl ?_
  refine x_cV (as := []) (rest := []) xc36_4 rfl xi37 xz1 ⟨rfl, rfl⟩ rfl rfl ?_
  refine xk37 (by omega) hC (by omega) (by omega) hb hA (fun h0 => ?_)
  refine x_istoren (pl' := [some (.ref 31), some (xV o), some (xV (sG t n p))]) xc36_7 rfl rfl ?_
  refine x_iloadn xc36_8 rfl ?_
  refine x_bipush xc36_9 (by decide) ?_
  refine x_iceq xc36_11 (xRk (by have g0 := sGB (n := n) (p := p) hb (by omega); omega)) (xRk (by decide)) (fun h1 => ?_) (fun h1 => ?_)
  · refine x_iloadn xc36_26 rfl ?_
    refine x_bipush xc36_27 (by decide) ?_
    refine x_iclt xc36_29 (xRk (by have g0 := xRb h_o; omega)) (xRk (by decide)) (fun h2 => ?_) (fun h2 => ?_)
    · refine x_aloadn xc36_41 rfl ?_
      refine x_gfr xc36_42 rfl rfl xz31 rfl ?_
      refine x_dup xc36_45 rfl ?_
      refine x_gfi' (k := 3) (v := p) xc36_46 rfl (Or.inl rfl) rfl xz1 hC.2.2 ?_
      refine x_iconst xc36_49 ?_
      refine x_iadd xc36_50 ?_
      refine x_pfi (k := 3) xc36_51 rfl ⟨rfl, rfl⟩ rfl xz1 ?_
      refine x_iloadn xc36_54 rfl ?_
      refine x_bipush xc36_55 (by decide) ?_
      refine x_icne xc36_57 (xRk (by have g0 := sGB (n := n) (p := p) hb (by omega); omega)) (xRk (by decide)) (fun h => absurd h (by omega)) (fun _ => ?_)
      refine x_aloadn xc36_60 rfl ?_
      refine x_iloadn xc36_61 rfl ?_
      refine x_iconst xc36_62 ?_
      refine x_iadd xc36_63 ?_
      refine x_cV (as := [xV (o + 1)]) (rest := []) xc36_64 rfl xi42 xz31 ⟨rfl, rfl⟩ rfl rfl ?_
      exact k1 h0 h1 h2
    · refine x_aloadn xc36_32 rfl ?_
      refine x_gfr xc36_33 rfl rfl xz31 rfl ?_
      refine x_iconst xc36_36 ?_
      refine x_cV (as := [xV 5]) (rest := []) xc36_37 rfl xi39 xz1 ⟨rfl, rfl⟩ rfl rfl ?_
      refine xk39 hC (by omega) (by omega) hb hA (xRk (by decide)) (by omega) ?_
      refine x_iret xc36_40 (Or.inr ⟨rfl, (by omega)⟩) ?_
      exact k2 h0 h1 h2
  · refine x_iloadn xc36_14 rfl ?_
    refine x_bipush xc36_15 (by decide) ?_
    refine x_iceq xc36_17 (xRk (by have g0 := sGB (n := n) (p := p) hb (by omega); omega)) (xRk (by decide)) (fun h4 => ?_) (fun h4 => ?_)
    · refine x_iloadn xc36_26 rfl ?_
      refine x_bipush xc36_27 (by decide) ?_
      refine x_iclt xc36_29 (xRk (by have g0 := xRb h_o; omega)) (xRk (by decide)) (fun h5 => ?_) (fun h5 => ?_)
      · refine x_aloadn xc36_41 rfl ?_
        refine x_gfr xc36_42 rfl rfl xz31 rfl ?_
        refine x_dup xc36_45 rfl ?_
        refine x_gfi' (k := 3) (v := p) xc36_46 rfl (Or.inl rfl) rfl xz1 hC.2.2 ?_
        refine x_iconst xc36_49 ?_
        refine x_iadd xc36_50 ?_
        refine x_pfi (k := 3) xc36_51 rfl ⟨rfl, rfl⟩ rfl xz1 ?_
        refine x_iloadn xc36_54 rfl ?_
        refine x_bipush xc36_55 (by decide) ?_
        refine x_icne xc36_57 (xRk (by have g0 := sGB (n := n) (p := p) hb (by omega); omega)) (xRk (by decide)) (fun _ => ?_) (fun h => absurd h (by omega))
        refine x_aloadn xc36_70 rfl ?_
        refine x_iloadn xc36_71 rfl ?_
        refine x_iconst xc36_72 ?_
        refine x_iadd xc36_73 ?_
        refine x_cV (as := [xV (o + 1)]) (rest := []) xc36_74 rfl xi43 xz31 ⟨rfl, rfl⟩ rfl rfl ?_
        exact k3 h0 h1 h4 h5
      · refine x_aloadn xc36_32 rfl ?_
        refine x_gfr xc36_33 rfl rfl xz31 rfl ?_
        refine x_iconst xc36_36 ?_
        refine x_cV (as := [xV 5]) (rest := []) xc36_37 rfl xi39 xz1 ⟨rfl, rfl⟩ rfl rfl ?_
        refine xk39 hC (by omega) (by omega) hb hA (xRk (by decide)) (by omega) ?_
        refine x_iret xc36_40 (Or.inr ⟨rfl, (by omega)⟩) ?_
        exact k4 h0 h1 h4 h5
    · refine x_aloadn xc36_20 rfl ?_
      refine x_iloadn xc36_21 rfl ?_
      refine x_cV (as := [xV (sG t n p)]) (rest := []) xc36_22 rfl xi38 xz31 ⟨rfl, rfl⟩ rfl rfl ?_
      exact k5 h0 h1 h4

theorem w36r25 {ro : Nat → Nat × (Nat → Int32)} {d : Nat} {Q : Option Value → pmS → Prop} {o c z : Int} {a : xA} {b : xB} (h_z : xR z) (hz : z = 0 ∨ z = 1)
    (k1 : Q (some (xV z)) (xS a b)) :
    pmWp ro d 8 36 2 25 [some (.ref 31), some (xV o), some (xV c)] [xV z] (xS a b) Q := by
  refine x_iret xc36_25 (Or.inr ⟨rfl, (by have g0 := xRb h_z; omega)⟩) ?_
  exact k1

theorem w36r67 {ro : Nat → Nat × (Nat → Int32)} {d : Nat} {Q : Option Value → pmS → Prop} {o c z : Int} {a : xA} {b : xB} (h_z : xR z) (hz : z = 0 ∨ z = 1)
    (k1 : Q (some (xV z)) (xS a b)) :
    pmWp ro d 8 36 2 67 [some (.ref 31), some (xV o), some (xV c)] [xV z] (xS a b) Q := by
  refine x_goto xc36_67 ?_
  refine x_iret xc36_77 (Or.inr ⟨rfl, (by have g0 := xRb h_z; omega)⟩) ?_
  exact k1

theorem w36r77 {ro : Nat → Nat × (Nat → Int32)} {d : Nat} {Q : Option Value → pmS → Prop} {o c z : Int} {a : xA} {b : xB} (h_z : xR z) (hz : z = 0 ∨ z = 1)
    (k1 : Q (some (xV z)) (xS a b)) :
    pmWp ro d 8 36 2 77 [some (.ref 31), some (xV o), some (xV c)] [xV z] (xS a b) Q := by
  refine x_iret xc36_77 (Or.inr ⟨rfl, (by have g0 := xRb h_z; omega)⟩) ?_
  exact k1

theorem xg42 {ro : Nat → Nat × (Nat → Int32)} {d : Nat} {Q : Option Value → pmS → Prop} {a : xA} {b : xB} {o : Int} (h : pmWp ro d 8 42 2 0 [some (.ref 31), some (xV o), none] [] (xS a b) Q) : pmCs ro (d + 1) 42 [.ref 31, xV o] (xS a b) Q := x_go xi42 rfl rfl rfl rfl rfl h
theorem w42 {ro : Nat → Nat × (Nat → Int32)} {d : Nat} {Q : Option Value → pmS → Prop} {o : Int} {a : xA} {b : xB}
    (k1 : pmCs ro d 36 [.ref 31, xV o] (xS a b) fun r σ' => pmWp ro d 8 42 2 5 [some (.ref 31), some (xV o), none] (r.toList ++ []) σ' Q) :
    pmWp ro d 8 42 2 0 [some (.ref 31), some (xV o), none] [] (xS a b) Q := by
  refine x_aloadn xc42_0 rfl ?_
  refine x_iloadn xc42_1 rfl ?_
  refine x_cV (as := [xV o]) (rest := []) xc42_2 rfl xi36 xz31 ⟨rfl, rfl⟩ rfl rfl ?_
  exact k1

theorem w42b {ro : Nat → Nat × (Nat → Int32)} {d : Nat} {Q : Option Value → pmS → Prop} {v2 : Option Value} {o z s : Int} {a : xA} {b : xB} (h_z : xR z) (hz : z = 0 ∨ z = 1) (hs : a 31 2 = s) (hs0 : 0 ≤ s ∧ s ≤ 40) (hd : 1 ≤ d)
    (k1 : (s < 40) → Q (some (xV z)) (xS (xU (xU a 32 s (xOr (xOr (5 * 64) (0 % 8 * 8)) (0 % 8))) 31 2 (s + 1)) b))
    (k2 : (¬ s < 40) → Q (some (xV z)) (xS a b)) :
    pmWp ro d 8 42 2 5 [some (.ref 31), some (xV o), v2] [xV z] (xS a b) Q := by
  refine x_istoren (pl' := [some (.ref 31), some (xV o), some (xV z)]) xc42_5 rfl rfl ?_
  refine x_aloadn xc42_6 rfl ?_
  refine x_iconst xc42_7 ?_
  refine x_iconst xc42_8 ?_
  refine x_iconst xc42_9 ?_
  refine x_cV (as := [xV 5, xV 0, xV 0]) (rest := []) xc42_10 rfl xi41 xz31 ⟨rfl, rfl⟩ rfl rfl ?_
  refine xk41 (xRk (by decide)) (xRk (by decide)) (xRk (by decide)) hs (by omega) (by omega) (fun h0 => ?_) (fun h1 => ?_)
  · refine x_iloadn xc42_13 rfl ?_
    refine x_iret xc42_14 (Or.inr ⟨rfl, (by have g0 := xRb h_z; omega)⟩) ?_
    exact k1 h0
  · refine x_iloadn xc42_13 rfl ?_
    refine x_iret xc42_14 (Or.inr ⟨rfl, (by have g0 := xRb h_z; omega)⟩) ?_
    exact k2 h1

theorem xg43 {ro : Nat → Nat × (Nat → Int32)} {d : Nat} {Q : Option Value → pmS → Prop} {a : xA} {b : xB} {o : Int} (h : pmWp ro d 8 43 2 0 [some (.ref 31), some (xV o)] [] (xS a b) Q) : pmCs ro (d + 1) 43 [.ref 31, xV o] (xS a b) Q := x_go xi43 rfl rfl rfl rfl rfl h
theorem w43 {ro : Nat → Nat × (Nat → Int32)} {d : Nat} {Q : Option Value → pmS → Prop} {o : Int} {a : xA} {b : xB}
    (k1 : pmCs ro d 34 [.ref 31, xV o] (xS a b) fun r σ' => pmWp ro d 8 43 2 5 [some (.ref 31), some (xV o)] (r.toList ++ []) σ' Q) :
    pmWp ro d 8 43 2 0 [some (.ref 31), some (xV o)] [] (xS a b) Q := by
  refine x_aloadn xc43_0 rfl ?_
  refine x_iloadn xc43_1 rfl ?_
  refine x_cV (as := [xV o]) (rest := []) xc43_2 rfl xi34 xz31 ⟨rfl, rfl⟩ rfl rfl ?_
  exact k1

theorem w43b {ro : Nat → Nat × (Nat → Int32)} {d : Nat} {Q : Option Value → pmS → Prop} {a : xA} {b : xB} {t : Int → Int} {n p : Int} (hC : tC a t n p) (hp : 0 ≤ p ∧ p ≤ n) (hn : n ≤ 40) (hb : tB t) (hA : xAr a) (hf : a 1 4 = 0) {s : Int} (hs : a 31 2 = s) (hs0 : 0 ≤ s ∧ s ≤ p) {o : Int} (hd : 2 ≤ d)
    (k1 : (sG t n p = 41) → (p < n) → Q (some (xV 1)) (xS (xU a 1 3 (p + 1)) b))
    (k2 : (¬ sG t n p = 41) → Q (some (xV 0)) (xS (xU a 1 4 (-1000 * 1 - p)) b)) :
    pmWp ro d 8 43 2 5 [some (.ref 31), some (xV o)] [xV 1] (xS a b) Q := by
  refine x_ifeq xc43_5 (xRk (by decide)) (fun h => absurd h (by omega)) (fun _ => ?_)
  refine x_aloadn xc43_8 rfl ?_
  refine x_gfr xc43_9 rfl rfl xz31 rfl ?_
  refine x_bipush xc43_12 (by decide) ?_
  refine x_cV (as := [xV 41]) (rest := []) xc43_14 rfl xi44 xz1 ⟨rfl, rfl⟩ rfl rfl ?_
  refine xk44 hC (by omega) (by omega) hb hA (by omega) (by omega) (fun h1 h2 => ?_) (fun h3 => ?_)
  · refine x_ifne xc43_17 (xRk (by decide)) (fun _ => ?_) (fun h => absurd h (by omega))
    refine x_iconst xc43_31 ?_
    refine x_goto xc43_32 ?_
    refine x_iret xc43_36 (Or.inr ⟨rfl, (by omega)⟩) ?_
    exact k1 h1 h2
  · refine x_ifne xc43_17 (xRk (by decide)) (fun h => absurd h (by omega)) (fun _ => ?_)
    refine x_aloadn xc43_20 rfl ?_
    refine x_gfr xc43_21 rfl rfl xz31 rfl ?_
    refine x_iconst xc43_24 ?_
    refine x_cV (as := [xV 1]) (rest := []) xc43_25 rfl xi39 xz1 ⟨rfl, rfl⟩ rfl rfl ?_
    refine xk39 hC (by omega) (by omega) hb hA (xRk (by decide)) (by omega) ?_
    refine x_ifeq xc43_28 (xRk (by decide)) (fun _ => ?_) (fun h => absurd h (by omega))
    refine x_iconst xc43_35 ?_
    refine x_iret xc43_36 (Or.inr ⟨rfl, (by omega)⟩) ?_
    exact k2 h3

theorem w43f {ro : Nat → Nat × (Nat → Int32)} {d : Nat} {Q : Option Value → pmS → Prop} {o : Int} {a : xA} {b : xB}
    (k1 : Q (some (xV 0)) (xS a b)) :
    pmWp ro d 8 43 2 5 [some (.ref 31), some (xV o)] [xV 0] (xS a b) Q := by
  refine x_ifeq xc43_5 (xRk (by decide)) (fun _ => ?_) (fun h => absurd h (by omega))
  refine x_iconst xc43_35 ?_
  refine x_iret xc43_36 (Or.inr ⟨rfl, (by omega)⟩) ?_
  exact k1

theorem xg35 {ro : Nat → Nat × (Nat → Int32)} {d : Nat} {Q : Option Value → pmS → Prop} {a : xA} {b : xB} {o : Int} (h : pmWp ro d 8 35 2 0 [some (.ref 31), some (xV o), none] [] (xS a b) Q) : pmCs ro (d + 1) 35 [.ref 31, xV o] (xS a b) Q := x_go xi35 rfl rfl rfl rfl rfl h
theorem w35 {ro : Nat → Nat × (Nat → Int32)} {d : Nat} {Q : Option Value → pmS → Prop} {o : Int} {a : xA} {b : xB}
    (k1 : pmCs ro d 36 [.ref 31, xV o] (xS a b) fun r σ' => pmWp ro d 8 35 2 5 [some (.ref 31), some (xV o), none] (r.toList ++ []) σ' Q) :
    pmWp ro d 8 35 2 0 [some (.ref 31), some (xV o), none] [] (xS a b) Q := by
  refine x_aloadn xc35_0 rfl ?_
  refine x_iloadn xc35_1 rfl ?_
  refine x_cV (as := [xV o]) (rest := []) xc35_2 rfl xi36 xz31 ⟨rfl, rfl⟩ rfl rfl ?_
  exact k1

theorem w35a {ro : Nat → Nat × (Nat → Int32)} {d : Nat} {Q : Option Value → pmS → Prop} {v2 : Option Value} {o : Int} {a : xA} {b : xB}
    (k1 : pmWp ro d 8 35 2 12 [some (.ref 31), some (xV o), some (xV 0)] [] (xS a b) Q) :
    pmWp ro d 8 35 2 5 [some (.ref 31), some (xV o), v2] [xV 1] (xS a b) Q := by
  refine x_ifne xc35_5 (xRk (by decide)) (fun _ => ?_) (fun h => absurd h (by omega))
  refine x_iconst xc35_10 ?_
  refine x_istoren (pl' := [some (.ref 31), some (xV o), some (xV 0)]) xc35_11 rfl rfl ?_
  exact k1

theorem w35f {ro : Nat → Nat × (Nat → Int32)} {d : Nat} {Q : Option Value → pmS → Prop} {v2 : Option Value} {o : Int} {a : xA} {b : xB}
    (k1 : Q (some (xV 0)) (xS a b)) :
    pmWp ro d 8 35 2 5 [some (.ref 31), some (xV o), v2] [xV 0] (xS a b) Q := by
  refine x_ifne xc35_5 (xRk (by decide)) (fun h => absurd h (by omega)) (fun _ => ?_)
  refine x_iconst xc35_8 ?_
  refine x_iret xc35_9 (Or.inr ⟨rfl, (by omega)⟩) ?_
  exact k1

theorem w35l {ro : Nat → Nat × (Nat → Int32)} {d : Nat} {Q : Option Value → pmS → Prop} {a : xA} {b : xB} {t : Int → Int} {n p : Int} (hC : tC a t n p) (hp : 0 ≤ p ∧ p ≤ n) (hn : n ≤ 40) (hb : tB t) (hA : xAr a) (hf : a 1 4 = 0) {s : Int} (hs : a 31 2 = s) (hs0 : 0 ≤ s ∧ s ≤ p) {o i : Int} (hi : 0 ≤ i ∧ i ≤ 40) (hd : 2 ≤ d)
    (k1 : (40 ≤ i) → Q (some (xV 1)) (xS a b))
    (k2 : (¬ 40 ≤ i) → (sG t n p = 38) → (p < n) → pmCs ro d 36 [.ref 31, xV o] (xS (xU a 1 3 (p + 1)) b) fun r σ' => pmWp ro d 8 35 2 35 [some (.ref 31), some (xV o), some (xV i)] (r.toList ++ []) σ' Q)
    (k3 : (¬ 40 ≤ i) → (¬ sG t n p = 38) → Q (some (xV 1)) (xS a b)) :
    pmWp ro d 8 35 2 12 [some (.ref 31), some (xV o), some (xV i)] [] (xS a b) Q := by
  refine x_iloadn xc35_12 rfl ?_
  refine x_bipush xc35_13 (by decide) ?_
  refine x_icge xc35_15 (xRk (by omega)) (xRk (by decide)) (fun h0 => ?_) (fun h0 => ?_)
  · refine x_iconst xc35_54 ?_
    refine x_iret xc35_55 (Or.inr ⟨rfl, (by omega)⟩) ?_
    exact k1 h0
  · refine x_aloadn xc35_18 rfl ?_
    refine x_gfr xc35_19 rfl rfl xz31 rfl ?_
    refine x_bipush xc35_22 (by decide) ?_
    refine x_cV (as := [xV 38]) (rest := []) xc35_24 rfl xi44 xz1 ⟨rfl, rfl⟩ rfl rfl ?_
    refine xk44 hC (by omega) (by omega) hb hA (by omega) (by omega) (fun h1 h2 => ?_) (fun h3 => ?_)
    · refine x_ifeq xc35_27 (xRk (by decide)) (fun h => absurd h (by omega)) (fun _ => ?_)
      refine x_aloadn xc35_30 rfl ?_
      refine x_iloadn xc35_31 rfl ?_
      refine x_cV (as := [xV o]) (rest := []) xc35_32 rfl xi36 xz31 ⟨rfl, rfl⟩ rfl rfl ?_
      exact k2 h0 h1 h2
    · refine x_ifeq xc35_27 (xRk (by decide)) (fun _ => ?_) (fun h => absurd h (by omega))
      refine x_iconst xc35_54 ?_
      refine x_iret xc35_55 (Or.inr ⟨rfl, (by omega)⟩) ?_
      exact k3 h0 h3

theorem w35g {ro : Nat → Nat × (Nat → Int32)} {d : Nat} {Q : Option Value → pmS → Prop} {o i : Int} {a : xA} {b : xB}
    (k1 : Q (some (xV 0)) (xS a b)) :
    pmWp ro d 8 35 2 35 [some (.ref 31), some (xV o), some (xV i)] [xV 0] (xS a b) Q := by
  refine x_ifne xc35_35 (xRk (by decide)) (fun h => absurd h (by omega)) (fun _ => ?_)
  refine x_iconst xc35_38 ?_
  refine x_iret xc35_39 (Or.inr ⟨rfl, (by omega)⟩) ?_
  exact k1

theorem w35m {ro : Nat → Nat × (Nat → Int32)} {d : Nat} {Q : Option Value → pmS → Prop} {a : xA} {b : xB} {t : Int → Int} {n p : Int} (hC : tC a t n p) (hp : 0 ≤ p ∧ p ≤ n) (hn : n ≤ 40) (hb : tB t) (hA : xAr a) (hf : a 1 4 = 0) {s : Int} (hs : a 31 2 = s) (hs0 : 0 ≤ s ∧ s ≤ p) {o i : Int} (hi : 0 ≤ i ∧ i ≤ 40) (hd : 2 ≤ d)
    (k1 : (s < 40) → pmWp ro d 8 35 2 12 [some (.ref 31), some (xV o), some (xV (i + 1))] [] (xS (xU (xU a 32 s (xOr (xOr (6 * 64) (0 % 8 * 8)) (0 % 8))) 31 2 (s + 1)) b) Q)
    (k2 : (¬ s < 40) → pmWp ro d 8 35 2 12 [some (.ref 31), some (xV o), some (xV (i + 1))] [] (xS a b) Q) :
    pmWp ro d 8 35 2 35 [some (.ref 31), some (xV o), some (xV i)] [xV 1] (xS a b) Q := by
  refine x_ifne xc35_35 (xRk (by decide)) (fun _ => ?_) (fun h => absurd h (by omega))
  refine x_aloadn xc35_40 rfl ?_
  refine x_bipush xc35_41 (by decide) ?_
  refine x_iconst xc35_43 ?_
  refine x_iconst xc35_44 ?_
  refine x_cV (as := [xV 6, xV 0, xV 0]) (rest := []) xc35_45 rfl xi41 xz31 ⟨rfl, rfl⟩ rfl rfl ?_
  refine xk41 (xRk (by decide)) (xRk (by decide)) (xRk (by decide)) hs (by omega) (by omega) (fun h1 => ?_) (fun h2 => ?_)
  · refine x_iinc (pl' := [some (.ref 31), some (xV o), some (xV (i + 1))]) xc35_48 rfl rfl ?_
    refine x_goto xc35_51 ?_
    exact k1 h1
  · refine x_iinc (pl' := [some (.ref 31), some (xV o), some (xV (i + 1))]) xc35_48 rfl rfl ?_
    refine x_goto xc35_51 ?_
    exact k2 h2

theorem xg34 {ro : Nat → Nat × (Nat → Int32)} {d : Nat} {Q : Option Value → pmS → Prop} {a : xA} {b : xB} {o : Int} (h : pmWp ro d 8 34 2 0 [some (.ref 31), some (xV o), none] [] (xS a b) Q) : pmCs ro (d + 1) 34 [.ref 31, xV o] (xS a b) Q := x_go xi34 rfl rfl rfl rfl rfl h
theorem w34 {ro : Nat → Nat × (Nat → Int32)} {d : Nat} {Q : Option Value → pmS → Prop} {o : Int} {a : xA} {b : xB}
    (k1 : pmCs ro d 35 [.ref 31, xV o] (xS a b) fun r σ' => pmWp ro d 8 34 2 5 [some (.ref 31), some (xV o), none] (r.toList ++ []) σ' Q) :
    pmWp ro d 8 34 2 0 [some (.ref 31), some (xV o), none] [] (xS a b) Q := by
  refine x_aloadn xc34_0 rfl ?_
  refine x_iloadn xc34_1 rfl ?_
  refine x_cV (as := [xV o]) (rest := []) xc34_2 rfl xi35 xz31 ⟨rfl, rfl⟩ rfl rfl ?_
  exact k1

theorem w34a {ro : Nat → Nat × (Nat → Int32)} {d : Nat} {Q : Option Value → pmS → Prop} {v2 : Option Value} {o : Int} {a : xA} {b : xB}
    (k1 : pmWp ro d 8 34 2 12 [some (.ref 31), some (xV o), some (xV 0)] [] (xS a b) Q) :
    pmWp ro d 8 34 2 5 [some (.ref 31), some (xV o), v2] [xV 1] (xS a b) Q := by
  refine x_ifne xc34_5 (xRk (by decide)) (fun _ => ?_) (fun h => absurd h (by omega))
  refine x_iconst xc34_10 ?_
  refine x_istoren (pl' := [some (.ref 31), some (xV o), some (xV 0)]) xc34_11 rfl rfl ?_
  exact k1

theorem w34f {ro : Nat → Nat × (Nat → Int32)} {d : Nat} {Q : Option Value → pmS → Prop} {v2 : Option Value} {o : Int} {a : xA} {b : xB}
    (k1 : Q (some (xV 0)) (xS a b)) :
    pmWp ro d 8 34 2 5 [some (.ref 31), some (xV o), v2] [xV 0] (xS a b) Q := by
  refine x_ifne xc34_5 (xRk (by decide)) (fun h => absurd h (by omega)) (fun _ => ?_)
  refine x_iconst xc34_8 ?_
  refine x_iret xc34_9 (Or.inr ⟨rfl, (by omega)⟩) ?_
  exact k1

theorem w34l {ro : Nat → Nat × (Nat → Int32)} {d : Nat} {Q : Option Value → pmS → Prop} {a : xA} {b : xB} {t : Int → Int} {n p : Int} (hC : tC a t n p) (hp : 0 ≤ p ∧ p ≤ n) (hn : n ≤ 40) (hb : tB t) (hA : xAr a) (hf : a 1 4 = 0) {s : Int} (hs : a 31 2 = s) (hs0 : 0 ≤ s ∧ s ≤ p) {o i : Int} (hi : 0 ≤ i ∧ i ≤ 40) (hd : 2 ≤ d)
    (k1 : (40 ≤ i) → Q (some (xV 1)) (xS a b))
    (k2 : (¬ 40 ≤ i) → (sG t n p = 124) → (p < n) → pmCs ro d 35 [.ref 31, xV o] (xS (xU a 1 3 (p + 1)) b) fun r σ' => pmWp ro d 8 34 2 35 [some (.ref 31), some (xV o), some (xV i)] (r.toList ++ []) σ' Q)
    (k3 : (¬ 40 ≤ i) → (¬ sG t n p = 124) → Q (some (xV 1)) (xS a b)) :
    pmWp ro d 8 34 2 12 [some (.ref 31), some (xV o), some (xV i)] [] (xS a b) Q := by
  refine x_iloadn xc34_12 rfl ?_
  refine x_bipush xc34_13 (by decide) ?_
  refine x_icge xc34_15 (xRk (by omega)) (xRk (by decide)) (fun h0 => ?_) (fun h0 => ?_)
  · refine x_iconst xc34_54 ?_
    refine x_iret xc34_55 (Or.inr ⟨rfl, (by omega)⟩) ?_
    exact k1 h0
  · refine x_aloadn xc34_18 rfl ?_
    refine x_gfr xc34_19 rfl rfl xz31 rfl ?_
    refine x_bipush xc34_22 (by decide) ?_
    refine x_cV (as := [xV 124]) (rest := []) xc34_24 rfl xi44 xz1 ⟨rfl, rfl⟩ rfl rfl ?_
    refine xk44 hC (by omega) (by omega) hb hA (by omega) (by omega) (fun h1 h2 => ?_) (fun h3 => ?_)
    · refine x_ifeq xc34_27 (xRk (by decide)) (fun h => absurd h (by omega)) (fun _ => ?_)
      refine x_aloadn xc34_30 rfl ?_
      refine x_iloadn xc34_31 rfl ?_
      refine x_cV (as := [xV o]) (rest := []) xc34_32 rfl xi35 xz31 ⟨rfl, rfl⟩ rfl rfl ?_
      exact k2 h0 h1 h2
    · refine x_ifeq xc34_27 (xRk (by decide)) (fun _ => ?_) (fun h => absurd h (by omega))
      refine x_iconst xc34_54 ?_
      refine x_iret xc34_55 (Or.inr ⟨rfl, (by omega)⟩) ?_
      exact k3 h0 h3

theorem w34g {ro : Nat → Nat × (Nat → Int32)} {d : Nat} {Q : Option Value → pmS → Prop} {o i : Int} {a : xA} {b : xB}
    (k1 : Q (some (xV 0)) (xS a b)) :
    pmWp ro d 8 34 2 35 [some (.ref 31), some (xV o), some (xV i)] [xV 0] (xS a b) Q := by
  refine x_ifne xc34_35 (xRk (by decide)) (fun h => absurd h (by omega)) (fun _ => ?_)
  refine x_iconst xc34_38 ?_
  refine x_iret xc34_39 (Or.inr ⟨rfl, (by omega)⟩) ?_
  exact k1

theorem w34m {ro : Nat → Nat × (Nat → Int32)} {d : Nat} {Q : Option Value → pmS → Prop} {a : xA} {b : xB} {t : Int → Int} {n p : Int} (hC : tC a t n p) (hp : 0 ≤ p ∧ p ≤ n) (hn : n ≤ 40) (hb : tB t) (hA : xAr a) (hf : a 1 4 = 0) {s : Int} (hs : a 31 2 = s) (hs0 : 0 ≤ s ∧ s ≤ p) {o i : Int} (hi : 0 ≤ i ∧ i ≤ 40) (hd : 2 ≤ d)
    (k1 : (s < 40) → pmWp ro d 8 34 2 12 [some (.ref 31), some (xV o), some (xV (i + 1))] [] (xS (xU (xU a 32 s (xOr (xOr (7 * 64) (0 % 8 * 8)) (0 % 8))) 31 2 (s + 1)) b) Q)
    (k2 : (¬ s < 40) → pmWp ro d 8 34 2 12 [some (.ref 31), some (xV o), some (xV (i + 1))] [] (xS a b) Q) :
    pmWp ro d 8 34 2 35 [some (.ref 31), some (xV o), some (xV i)] [xV 1] (xS a b) Q := by
  refine x_ifne xc34_35 (xRk (by decide)) (fun _ => ?_) (fun h => absurd h (by omega))
  refine x_aloadn xc34_40 rfl ?_
  refine x_bipush xc34_41 (by decide) ?_
  refine x_iconst xc34_43 ?_
  refine x_iconst xc34_44 ?_
  refine x_cV (as := [xV 7, xV 0, xV 0]) (rest := []) xc34_45 rfl xi41 xz31 ⟨rfl, rfl⟩ rfl rfl ?_
  refine xk41 (xRk (by decide)) (xRk (by decide)) (xRk (by decide)) hs (by omega) (by omega) (fun h1 => ?_) (fun h2 => ?_)
  · refine x_iinc (pl' := [some (.ref 31), some (xV o), some (xV (i + 1))]) xc34_48 rfl rfl ?_
    refine x_goto xc34_51 ?_
    exact k1 h1
  · refine x_iinc (pl' := [some (.ref 31), some (xV o), some (xV (i + 1))]) xc34_48 rfl rfl ?_
    refine x_goto xc34_51 ?_
    exact k2 h2

theorem xg32 {ro : Nat → Nat × (Nat → Int32)} {d : Nat} {Q : Option Value → pmS → Prop} {a : xA} {b : xB} {n : Int} (h : pmWp ro d 8 32 1 0 [some (.ref 31), some (xV n)] [] (xS a b) Q) : pmCs ro (d + 1) 32 [.ref 31, xV n] (xS a b) Q := x_go xi32 rfl rfl rfl rfl rfl h
theorem w32 {ro : Nat → Nat × (Nat → Int32)} {d : Nat} {Q : Option Value → pmS → Prop} {a : xA} {b : xB} {n l : Int} (hl : a 1 1 = l) (h0 : 0 ≤ n ∧ n ≤ l) (h1 : l ≤ 400) (hd : 1 ≤ d)
    (k1 : pmCs ro d 34 [.ref 31, xV 0] (xS (xU (xU (xU (xU a 1 2 n) 1 3 0) 1 4 0) 31 2 0) b) fun r σ' => pmWp ro d 8 32 1 18 [some (.ref 31), some (xV n)] (r.toList ++ []) σ' Q) :
    pmWp ro d 8 32 1 0 [some (.ref 31), some (xV n)] [] (xS a b) Q := by
  refine x_aloadn xc32_0 rfl ?_
  refine x_gfr xc32_1 rfl rfl xz31 rfl ?_
  refine x_iloadn xc32_4 rfl ?_
  refine x_cV (as := [xV n]) (rest := []) xc32_5 rfl xi33 xz1 ⟨rfl, rfl⟩ rfl rfl ?_
  refine xk33 hl (by omega) (by omega) (by omega) ?_
  refine x_aloadn xc32_8 rfl ?_
  refine x_iconst xc32_9 ?_
  refine x_pfi (k := 2) xc32_10 rfl ⟨rfl, rfl⟩ rfl xz31 ?_
  refine x_aloadn xc32_13 rfl ?_
  refine x_iconst xc32_14 ?_
  refine x_cV (as := [xV 0]) (rest := []) xc32_15 rfl xi34 xz31 ⟨rfl, rfl⟩ rfl rfl ?_
  exact k1

theorem w32t {ro : Nat → Nat × (Nat → Int32)} {d : Nat} {Q : Option Value → pmS → Prop} {a : xA} {b : xB} {t : Int → Int} {n p : Int} (hC : tC a t n p) (hp : 0 ≤ p ∧ p ≤ n) (hn : n ≤ 40) (hb : tB t) (hA : xAr a) (hf : a 1 4 = 0) {s : Int} (hs : a 31 2 = s) (hs0 : 0 ≤ s ∧ s ≤ p) (hd : 2 ≤ d)
    (k1 : (n ≤ p) → Q (some (xV 0)) (xS a b))
    (k2 : (¬ n ≤ p) → Q (some (xV (-1000 * 1 - p))) (xS (xU a 1 4 (-1000 * 1 - p)) b)) :
    pmWp ro d 8 32 1 18 [some (.ref 31), some (xV n)] [xV 1] (xS a b) Q := by
  refine x_ifeq xc32_18 (xRk (by decide)) (fun h => absurd h (by omega)) (fun _ => ?_)
  refine x_aloadn xc32_21 rfl ?_
  refine x_gfr xc32_22 rfl rfl xz31 rfl ?_
  refine x_gfi' (k := 3) (v := p) xc32_25 rfl (Or.inl rfl) rfl xz1 hC.2.2 ?_
  refine x_iloadn xc32_28 rfl ?_
  refine x_icge xc32_29 (xRk (by omega)) (xRk (by omega)) (fun h1 => ?_) (fun h1 => ?_)
  · refine x_aloadn xc32_41 rfl ?_
    refine x_gfr xc32_42 rfl rfl xz31 rfl ?_
    refine x_gfi' (k := 4) (v := 0) xc32_45 rfl (Or.inl rfl) rfl xz1 hf ?_
    refine x_iret xc32_48 (Or.inl rfl) ?_
    exact k1 h1
  · refine x_aloadn xc32_32 rfl ?_
    refine x_gfr xc32_33 rfl rfl xz31 rfl ?_
    refine x_iconst xc32_36 ?_
    refine x_cV (as := [xV 1]) (rest := []) xc32_37 rfl xi39 xz1 ⟨rfl, rfl⟩ rfl rfl ?_
    refine xk39 hC (by omega) (by omega) hb hA (xRk (by decide)) (by omega) ?_
    refine x_pop xc32_40 rfl ?_
    refine x_aloadn xc32_41 rfl ?_
    refine x_gfr xc32_42 rfl rfl xz31 rfl ?_
    refine x_gfi' (k := 4) (v := -1000 * 1 - p) xc32_45 rfl (Or.inl rfl) rfl xz1 (by rw [xUa]) ?_
    refine x_iret xc32_48 (Or.inl rfl) ?_
    exact k2 h1

theorem w32f {ro : Nat → Nat × (Nat → Int32)} {d : Nat} {Q : Option Value → pmS → Prop} {n f : Int} {a : xA} {b : xB} (hf : a 1 4 = f)
    (k1 : Q (some (xV f)) (xS a b)) :
    pmWp ro d 8 32 1 18 [some (.ref 31), some (xV n)] [xV 0] (xS a b) Q := by
  refine x_ifeq xc32_18 (xRk (by decide)) (fun _ => ?_) (fun h => absurd h (by omega))
  refine x_aloadn xc32_41 rfl ?_
  refine x_gfr xc32_42 rfl rfl xz31 rfl ?_
  refine x_gfi' (k := 4) (v := f) xc32_45 rfl (Or.inl rfl) rfl xz1 hf ?_
  refine x_iret xc32_48 (Or.inl rfl) ?_
  exact k1

end
