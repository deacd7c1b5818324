/-! exact: holds, plan, wanted -/
section
set_option maxRecDepth 100000
theorem xi70 : pmInf[70]? = some pmI_70 := rfl
theorem xi71 : pmInf[71]? = some pmI_71 := rfl
theorem xi76 : pmInf[76]? = some pmI_76 := rfl
theorem xi82 : pmInf[82]? = some pmI_82 := rfl
theorem xi84 : pmInf[84]? = some pmI_84 := rfl
theorem xi86 : pmInf[86]? = some pmI_86 := rfl
theorem xi183 : pmInf[183]? = some pmI_183 := rfl
theorem xi184 : pmInf[184]? = some pmI_184 := rfl
theorem xi185 : pmInf[185]? = some pmI_185 := rfl
theorem xi189 : pmInf[189]? = some pmI_189 := rfl
theorem xi197 : pmInf[197]? = some pmI_197 := rfl
theorem xc70_0 : pmCode 70 0 = some (.aload_n 0) ∧ 0 + 1 = 1 := ⟨rfl, rfl⟩
theorem xc70_1 : pmCode 70 1 = some (.iload_n 1) ∧ 1 + 1 = 2 := ⟨rfl, rfl⟩
theorem xc70_2 : pmCode 70 2 = some (.iload_n 2) ∧ 2 + 1 = 3 := ⟨rfl, rfl⟩
theorem xc70_3 : pmCode 70 3 = some (.invokevirtual 213) ∧ 3 + 3 = 6 := ⟨rfl, rfl⟩
theorem xc70_6 : pmCode 70 6 = some (.ifCond .ne 5) ∧ ((6 : Nat) : Int) + 5 = ((11 : Nat) : Int) ∧ 6 + 3 = 9 := ⟨rfl, rfl, rfl⟩
theorem xc70_9 : pmCode 70 9 = some (.iconst (-1)) ∧ 9 + 1 = 10 := ⟨rfl, rfl⟩
theorem xc70_10 : pmCode 70 10 = some .ireturn := rfl
theorem xc70_11 : pmCode 70 11 = some (.aload_n 0) ∧ 11 + 1 = 12 := ⟨rfl, rfl⟩
theorem xc70_12 : pmCode 70 12 = some (.getfield 70) ∧ 12 + 3 = 15 := ⟨rfl, rfl⟩
theorem xc70_15 : pmCode 70 15 = some (.aload_n 0) ∧ 15 + 1 = 16 := ⟨rfl, rfl⟩
theorem xc70_16 : pmCode 70 16 = some (.getfield 40) ∧ 16 + 3 = 19 := ⟨rfl, rfl⟩
theorem xc70_19 : pmCode 70 19 = some (.getfield 151) ∧ 19 + 3 = 22 := ⟨rfl, rfl⟩
theorem xc70_22 : pmCode 70 22 = some (.iload_n 1) ∧ 22 + 1 = 23 := ⟨rfl, rfl⟩
theorem xc70_23 : pmCode 70 23 = some .laload ∧ 23 + 1 = 24 := ⟨rfl, rfl⟩
theorem xc70_24 : pmCode 70 24 = some (.iload_n 1) ∧ 24 + 1 = 25 := ⟨rfl, rfl⟩
theorem xc70_25 : pmCode 70 25 = some (.iload_n 2) ∧ 25 + 1 = 26 := ⟨rfl, rfl⟩
theorem xc70_26 : pmCode 70 26 = some (.invokevirtual 216) ∧ 26 + 3 = 29 := ⟨rfl, rfl⟩
theorem xc70_29 : pmCode 70 29 = some (.ifCond .eq 7) ∧ ((29 : Nat) : Int) + 7 = ((36 : Nat) : Int) ∧ 29 + 3 = 32 := ⟨rfl, rfl, rfl⟩
theorem xc70_32 : pmCode 70 32 = some (.iconst 1) ∧ 32 + 1 = 33 := ⟨rfl, rfl⟩
theorem xc70_33 : pmCode 70 33 = some (.goto 4) ∧ ((33 : Nat) : Int) + 4 = ((37 : Nat) : Int) := ⟨rfl, rfl⟩
theorem xc70_36 : pmCode 70 36 = some (.iconst 0) ∧ 36 + 1 = 37 := ⟨rfl, rfl⟩
theorem xc70_37 : pmCode 70 37 = some .ireturn := rfl
theorem xc71_0 : pmCode 71 0 = some (.aload_n 0) ∧ 0 + 1 = 1 := ⟨rfl, rfl⟩
theorem xc71_1 : pmCode 71 1 = some (.getfield 101) ∧ 1 + 3 = 4 := ⟨rfl, rfl⟩
theorem xc71_4 : pmCode 71 4 = some (.ifCond .eq 47) ∧ ((4 : Nat) : Int) + 47 = ((51 : Nat) : Int) ∧ 4 + 3 = 7 := ⟨rfl, rfl, rfl⟩
theorem xc71_7 : pmCode 71 7 = some (.iload_n 1) ∧ 7 + 1 = 8 := ⟨rfl, rfl⟩
theorem xc71_8 : pmCode 71 8 = some (.invokestatic 144) ∧ 8 + 3 = 11 := ⟨rfl, rfl⟩
theorem xc71_11 : pmCode 71 11 = some (.ifCond .eq 40) ∧ ((11 : Nat) : Int) + 40 = ((51 : Nat) : Int) ∧ 11 + 3 = 14 := ⟨rfl, rfl, rfl⟩
theorem xc71_14 : pmCode 71 14 = some (.iload_n 2) ∧ 14 + 1 = 15 := ⟨rfl, rfl⟩
theorem xc71_15 : pmCode 71 15 = some (.ifCond .lt 36) ∧ ((15 : Nat) : Int) + 36 = ((51 : Nat) : Int) ∧ 15 + 3 = 18 := ⟨rfl, rfl, rfl⟩
theorem xc71_18 : pmCode 71 18 = some (.iload_n 2) ∧ 18 + 1 = 19 := ⟨rfl, rfl⟩
theorem xc71_19 : pmCode 71 19 = some (.aload_n 0) ∧ 19 + 1 = 20 := ⟨rfl, rfl⟩
theorem xc71_20 : pmCode 71 20 = some (.getfield 26) ∧ 20 + 3 = 23 := ⟨rfl, rfl⟩
theorem xc71_23 : pmCode 71 23 = some (.getfield 166) ∧ 23 + 3 = 26 := ⟨rfl, rfl⟩
theorem xc71_26 : pmCode 71 26 = some (.iload_n 1) ∧ 26 + 1 = 27 := ⟨rfl, rfl⟩
theorem xc71_27 : pmCode 71 27 = some .iaload ∧ 27 + 1 = 28 := ⟨rfl, rfl⟩
theorem xc71_28 : pmCode 71 28 = some (.if_icmp .ge 23) ∧ ((28 : Nat) : Int) + 23 = ((51 : Nat) : Int) ∧ 28 + 3 = 31 := ⟨rfl, rfl, rfl⟩
theorem xc71_31 : pmCode 71 31 = some (.aload_n 0) ∧ 31 + 1 = 32 := ⟨rfl, rfl⟩
theorem xc71_32 : pmCode 71 32 = some (.getfield 40) ∧ 32 + 3 = 35 := ⟨rfl, rfl⟩
theorem xc71_35 : pmCode 71 35 = some (.getfield 116) ∧ 35 + 3 = 38 := ⟨rfl, rfl⟩
theorem xc71_38 : pmCode 71 38 = some (.iload_n 1) ∧ 38 + 1 = 39 := ⟨rfl, rfl⟩
theorem xc71_39 : pmCode 71 39 = some (.invokestatic 206) ∧ 39 + 3 = 42 := ⟨rfl, rfl⟩
theorem xc71_42 : pmCode 71 42 = some (.bipush 8) ∧ 42 + 2 = 44 := ⟨rfl, rfl⟩
theorem xc71_44 : pmCode 71 44 = some (.if_icmp .eq 7) ∧ ((44 : Nat) : Int) + 7 = ((51 : Nat) : Int) ∧ 44 + 3 = 47 := ⟨rfl, rfl, rfl⟩
theorem xc71_47 : pmCode 71 47 = some (.iconst 1) ∧ 47 + 1 = 48 := ⟨rfl, rfl⟩
theorem xc71_48 : pmCode 71 48 = some (.goto 4) ∧ ((48 : Nat) : Int) + 4 = ((52 : Nat) : Int) := ⟨rfl, rfl⟩
theorem xc71_51 : pmCode 71 51 = some (.iconst 0) ∧ 51 + 1 = 52 := ⟨rfl, rfl⟩
theorem xc71_52 : pmCode 71 52 = some .ireturn := rfl
theorem xc76_0 : pmCode 76 0 = some (.aload_n 0) ∧ 0 + 1 = 1 := ⟨rfl, rfl⟩
theorem xc76_1 : pmCode 76 1 = some (.iload_n 1) ∧ 1 + 1 = 2 := ⟨rfl, rfl⟩
theorem xc76_2 : pmCode 76 2 = some (.iload_n 2) ∧ 2 + 1 = 3 := ⟨rfl, rfl⟩
theorem xc76_3 : pmCode 76 3 = some (.invokevirtual 213) ∧ 3 + 3 = 6 := ⟨rfl, rfl⟩
theorem xc76_6 : pmCode 76 6 = some (.ifCond .ne 5) ∧ ((6 : Nat) : Int) + 5 = ((11 : Nat) : Int) ∧ 6 + 3 = 9 := ⟨rfl, rfl, rfl⟩
theorem xc76_9 : pmCode 76 9 = some (.iconst (-1)) ∧ 9 + 1 = 10 := ⟨rfl, rfl⟩
theorem xc76_10 : pmCode 76 10 = some .ireturn := rfl
theorem xc76_11 : pmCode 76 11 = some (.aload_n 0) ∧ 11 + 1 = 12 := ⟨rfl, rfl⟩
theorem xc76_12 : pmCode 76 12 = some (.getfield 70) ∧ 12 + 3 = 15 := ⟨rfl, rfl⟩
theorem xc76_15 : pmCode 76 15 = some (.aload_n 0) ∧ 15 + 1 = 16 := ⟨rfl, rfl⟩
theorem xc76_16 : pmCode 76 16 = some (.getfield 40) ∧ 16 + 3 = 19 := ⟨rfl, rfl⟩
theorem xc76_19 : pmCode 76 19 = some (.getfield 151) ∧ 19 + 3 = 22 := ⟨rfl, rfl⟩
theorem xc76_22 : pmCode 76 22 = some (.iload_n 1) ∧ 22 + 1 = 23 := ⟨rfl, rfl⟩
theorem xc76_23 : pmCode 76 23 = some .laload ∧ 23 + 1 = 24 := ⟨rfl, rfl⟩
theorem xc76_24 : pmCode 76 24 = some (.iload_n 1) ∧ 24 + 1 = 25 := ⟨rfl, rfl⟩
theorem xc76_25 : pmCode 76 25 = some (.iload_n 2) ∧ 25 + 1 = 26 := ⟨rfl, rfl⟩
theorem xc76_26 : pmCode 76 26 = some (.invokevirtual 220) ∧ 26 + 3 = 29 := ⟨rfl, rfl⟩
theorem xc76_29 : pmCode 76 29 = some (.lstore 4) ∧ 29 + 2 = 31 := ⟨rfl, rfl⟩
theorem xc76_31 : pmCode 76 31 = some (.lload 4) ∧ 31 + 2 = 33 := ⟨rfl, rfl⟩
theorem xc76_33 : pmCode 76 33 = some (.ldc2_w 223) ∧ 33 + 3 = 36 := ⟨rfl, rfl⟩
theorem xc76_36 : pmCode 76 36 = some .lcmp ∧ 36 + 1 = 37 := ⟨rfl, rfl⟩
theorem xc76_37 : pmCode 76 37 = some (.ifCond .ne 5) ∧ ((37 : Nat) : Int) + 5 = ((42 : Nat) : Int) ∧ 37 + 3 = 40 := ⟨rfl, rfl, rfl⟩
theorem xc76_40 : pmCode 76 40 = some (.iconst (-1)) ∧ 40 + 1 = 41 := ⟨rfl, rfl⟩
theorem xc76_41 : pmCode 76 41 = some .ireturn := rfl
theorem xc76_42 : pmCode 76 42 = some (.lload 4) ∧ 42 + 2 = 44 := ⟨rfl, rfl⟩
theorem xc76_44 : pmCode 76 44 = some (.lconst 0) ∧ 44 + 1 = 45 := ⟨rfl, rfl⟩
theorem xc76_45 : pmCode 76 45 = some .lcmp ∧ 45 + 1 = 46 := ⟨rfl, rfl⟩
theorem xc76_46 : pmCode 76 46 = some (.ifCond .ne 6) ∧ ((46 : Nat) : Int) + 6 = ((52 : Nat) : Int) ∧ 46 + 3 = 49 := ⟨rfl, rfl, rfl⟩
theorem xc76_49 : pmCode 76 49 = some (.bipush (-2)) ∧ 49 + 2 = 51 := ⟨rfl, rfl⟩
theorem xc76_51 : pmCode 76 51 = some .ireturn := rfl
theorem xc76_52 : pmCode 76 52 = some (.lload 4) ∧ 52 + 2 = 54 := ⟨rfl, rfl⟩
theorem xc76_54 : pmCode 76 54 = some (.iload_n 3) ∧ 54 + 1 = 55 := ⟨rfl, rfl⟩
theorem xc76_55 : pmCode 76 55 = some (.invokestatic 225) ∧ 55 + 3 = 58 := ⟨rfl, rfl⟩
theorem xc76_58 : pmCode 76 58 = some .ireturn := rfl
theorem xc82_0 : pmCode 82 0 = some (.lload_n 0) ∧ 0 + 1 = 1 := ⟨rfl, rfl⟩
theorem xc82_1 : pmCode 82 1 = some (.bipush 36) ∧ 1 + 2 = 3 := ⟨rfl, rfl⟩
theorem xc82_3 : pmCode 82 3 = some .lushr ∧ 3 + 1 = 4 := ⟨rfl, rfl⟩
theorem xc82_4 : pmCode 82 4 = some .l2i ∧ 4 + 1 = 5 := ⟨rfl, rfl⟩
theorem xc82_5 : pmCode 82 5 = some (.istore_n 3) ∧ 5 + 1 = 6 := ⟨rfl, rfl⟩
theorem xc82_6 : pmCode 82 6 = some (.iload_n 2) ∧ 6 + 1 = 7 := ⟨rfl, rfl⟩
theorem xc82_7 : pmCode 82 7 = some (.iconst (-1)) ∧ 7 + 1 = 8 := ⟨rfl, rfl⟩
theorem xc82_8 : pmCode 82 8 = some (.if_icmp .ne 7) ∧ ((8 : Nat) : Int) + 7 = ((15 : Nat) : Int) ∧ 8 + 3 = 11 := ⟨rfl, rfl, rfl⟩
theorem xc82_11 : pmCode 82 11 = some (.iload_n 3) ∧ 11 + 1 = 12 := ⟨rfl, rfl⟩
theorem xc82_12 : pmCode 82 12 = some (.iconst 3) ∧ 12 + 1 = 13 := ⟨rfl, rfl⟩
theorem xc82_13 : pmCode 82 13 = some .ishr ∧ 13 + 1 = 14 := ⟨rfl, rfl⟩
theorem xc82_14 : pmCode 82 14 = some .ireturn := rfl
theorem xc82_15 : pmCode 82 15 = some (.iload_n 3) ∧ 15 + 1 = 16 := ⟨rfl, rfl⟩
theorem xc82_16 : pmCode 82 16 = some (.bipush 7) ∧ 16 + 2 = 18 := ⟨rfl, rfl⟩
theorem xc82_18 : pmCode 82 18 = some .iand ∧ 18 + 1 = 19 := ⟨rfl, rfl⟩
theorem xc82_19 : pmCode 82 19 = some (.istore 4) ∧ 19 + 2 = 21 := ⟨rfl, rfl⟩
theorem xc82_21 : pmCode 82 21 = some (.iload_n 2) ∧ 21 + 1 = 22 := ⟨rfl, rfl⟩
theorem xc82_22 : pmCode 82 22 = some (.ifCond .ne 6) ∧ ((22 : Nat) : Int) + 6 = ((28 : Nat) : Int) ∧ 22 + 3 = 25 := ⟨rfl, rfl, rfl⟩
theorem xc82_25 : pmCode 82 25 = some (.iload 4) ∧ 25 + 2 = 27 := ⟨rfl, rfl⟩
theorem xc82_27 : pmCode 82 27 = some .ireturn := rfl
theorem xc82_28 : pmCode 82 28 = some (.iload_n 2) ∧ 28 + 1 = 29 := ⟨rfl, rfl⟩
theorem xc82_29 : pmCode 82 29 = some (.iconst (-1)) ∧ 29 + 1 = 30 := ⟨rfl, rfl⟩
theorem xc82_30 : pmCode 82 30 = some (.if_icmp .lt 11) ∧ ((30 : Nat) : Int) + 11 = ((41 : Nat) : Int) ∧ 30 + 3 = 33 := ⟨rfl, rfl, rfl⟩
theorem xc82_33 : pmCode 82 33 = some (.iload_n 2) ∧ 33 + 1 = 34 := ⟨rfl, rfl⟩
theorem xc82_34 : pmCode 82 34 = some (.iconst 3) ∧ 34 + 1 = 35 := ⟨rfl, rfl⟩
theorem xc82_35 : pmCode 82 35 = some (.iload 4) ∧ 35 + 2 = 37 := ⟨rfl, rfl⟩
theorem xc82_37 : pmCode 82 37 = some .imul ∧ 37 + 1 = 38 := ⟨rfl, rfl⟩
theorem xc82_38 : pmCode 82 38 = some (.if_icmp .le 6) ∧ ((38 : Nat) : Int) + 6 = ((44 : Nat) : Int) ∧ 38 + 3 = 41 := ⟨rfl, rfl, rfl⟩
theorem xc82_41 : pmCode 82 41 = some (.bipush (-3)) ∧ 41 + 2 = 43 := ⟨rfl, rfl⟩
theorem xc82_43 : pmCode 82 43 = some .ireturn := rfl
theorem xc82_44 : pmCode 82 44 = some (.iload_n 2) ∧ 44 + 1 = 45 := ⟨rfl, rfl⟩
theorem xc82_45 : pmCode 82 45 = some (.iconst 1) ∧ 45 + 1 = 46 := ⟨rfl, rfl⟩
theorem xc82_46 : pmCode 82 46 = some .isub ∧ 46 + 1 = 47 := ⟨rfl, rfl⟩
theorem xc82_47 : pmCode 82 47 = some (.iconst 3) ∧ 47 + 1 = 48 := ⟨rfl, rfl⟩
theorem xc82_48 : pmCode 82 48 = some .idiv ∧ 48 + 1 = 49 := ⟨rfl, rfl⟩
theorem xc82_49 : pmCode 82 49 = some (.istore 5) ∧ 49 + 2 = 51 := ⟨rfl, rfl⟩
theorem xc82_51 : pmCode 82 51 = some (.lload_n 0) ∧ 51 + 1 = 52 := ⟨rfl, rfl⟩
theorem xc82_52 : pmCode 82 52 = some (.bipush 9) ∧ 52 + 2 = 54 := ⟨rfl, rfl⟩
theorem xc82_54 : pmCode 82 54 = some (.iload 5) ∧ 54 + 2 = 56 := ⟨rfl, rfl⟩
theorem xc82_56 : pmCode 82 56 = some .imul ∧ 56 + 1 = 57 := ⟨rfl, rfl⟩
theorem xc82_57 : pmCode 82 57 = some .lushr ∧ 57 + 1 = 58 := ⟨rfl, rfl⟩
theorem xc82_58 : pmCode 82 58 = some .l2i ∧ 58 + 1 = 59 := ⟨rfl, rfl⟩
theorem xc82_59 : pmCode 82 59 = some (.iload_n 2) ∧ 59 + 1 = 60 := ⟨rfl, rfl⟩
theorem xc82_60 : pmCode 82 60 = some (.iconst 1) ∧ 60 + 1 = 61 := ⟨rfl, rfl⟩
theorem xc82_61 : pmCode 82 61 = some .isub ∧ 61 + 1 = 62 := ⟨rfl, rfl⟩
theorem xc82_62 : pmCode 82 62 = some (.iconst 3) ∧ 62 + 1 = 63 := ⟨rfl, rfl⟩
theorem xc82_63 : pmCode 82 63 = some .irem ∧ 63 + 1 = 64 := ⟨rfl, rfl⟩
theorem xc82_64 : pmCode 82 64 = some (.invokestatic 328) ∧ 64 + 3 = 67 := ⟨rfl, rfl⟩
theorem xc82_67 : pmCode 82 67 = some (.istore 6) ∧ 67 + 2 = 69 := ⟨rfl, rfl⟩
theorem xc82_69 : pmCode 82 69 = some (.iload 6) ∧ 69 + 2 = 71 := ⟨rfl, rfl⟩
theorem xc82_71 : pmCode 82 71 = some (.iconst (-1)) ∧ 71 + 1 = 72 := ⟨rfl, rfl⟩
theorem xc82_72 : pmCode 82 72 = some (.if_icmp .ne 8) ∧ ((72 : Nat) : Int) + 8 = ((80 : Nat) : Int) ∧ 72 + 3 = 75 := ⟨rfl, rfl, rfl⟩
theorem xc82_75 : pmCode 82 75 = some (.bipush (-3)) ∧ 75 + 2 = 77 := ⟨rfl, rfl⟩
theorem xc82_77 : pmCode 82 77 = some (.goto 5) ∧ ((77 : Nat) : Int) + 5 = ((82 : Nat) : Int) := ⟨rfl, rfl⟩
theorem xc82_80 : pmCode 82 80 = some (.iload 6) ∧ 80 + 2 = 82 := ⟨rfl, rfl⟩
theorem xc82_82 : pmCode 82 82 = some .ireturn := rfl
theorem xc84_0 : pmCode 84 0 = some (.aload_n 0) ∧ 0 + 1 = 1 := ⟨rfl, rfl⟩
theorem xc84_1 : pmCode 84 1 = some (.getfield 101) ∧ 1 + 3 = 4 := ⟨rfl, rfl⟩
theorem xc84_4 : pmCode 84 4 = some (.ifCond .eq 26) ∧ ((4 : Nat) : Int) + 26 = ((30 : Nat) : Int) ∧ 4 + 3 = 7 := ⟨rfl, rfl, rfl⟩
theorem xc84_7 : pmCode 84 7 = some (.iload_n 1) ∧ 7 + 1 = 8 := ⟨rfl, rfl⟩
theorem xc84_8 : pmCode 84 8 = some (.invokestatic 144) ∧ 8 + 3 = 11 := ⟨rfl, rfl⟩
theorem xc84_11 : pmCode 84 11 = some (.ifCond .eq 19) ∧ ((11 : Nat) : Int) + 19 = ((30 : Nat) : Int) ∧ 11 + 3 = 14 := ⟨rfl, rfl, rfl⟩
theorem xc84_14 : pmCode 84 14 = some (.aload_n 0) ∧ 14 + 1 = 15 := ⟨rfl, rfl⟩
theorem xc84_15 : pmCode 84 15 = some (.getfield 40) ∧ 15 + 3 = 18 := ⟨rfl, rfl⟩
theorem xc84_18 : pmCode 84 18 = some (.getfield 116) ∧ 18 + 3 = 21 := ⟨rfl, rfl⟩
theorem xc84_21 : pmCode 84 21 = some (.iload_n 1) ∧ 21 + 1 = 22 := ⟨rfl, rfl⟩
theorem xc84_22 : pmCode 84 22 = some (.invokestatic 206) ∧ 22 + 3 = 25 := ⟨rfl, rfl⟩
theorem xc84_25 : pmCode 84 25 = some (.bipush 8) ∧ 25 + 2 = 27 := ⟨rfl, rfl⟩
theorem xc84_27 : pmCode 84 27 = some (.if_icmp .ne 5) ∧ ((27 : Nat) : Int) + 5 = ((32 : Nat) : Int) ∧ 27 + 3 = 30 := ⟨rfl, rfl, rfl⟩
theorem xc84_30 : pmCode 84 30 = some (.iconst (-1)) ∧ 30 + 1 = 31 := ⟨rfl, rfl⟩
theorem xc84_31 : pmCode 84 31 = some .ireturn := rfl
theorem xc84_32 : pmCode 84 32 = some (.aload_n 0) ∧ 32 + 1 = 33 := ⟨rfl, rfl⟩
theorem xc84_33 : pmCode 84 33 = some (.getfield 70) ∧ 33 + 3 = 36 := ⟨rfl, rfl⟩
theorem xc84_36 : pmCode 84 36 = some (.aload_n 0) ∧ 36 + 1 = 37 := ⟨rfl, rfl⟩
theorem xc84_37 : pmCode 84 37 = some (.getfield 40) ∧ 37 + 3 = 40 := ⟨rfl, rfl⟩
theorem xc84_40 : pmCode 84 40 = some (.getfield 151) ∧ 40 + 3 = 43 := ⟨rfl, rfl⟩
theorem xc84_43 : pmCode 84 43 = some (.iload_n 1) ∧ 43 + 1 = 44 := ⟨rfl, rfl⟩
theorem xc84_44 : pmCode 84 44 = some .laload ∧ 44 + 1 = 45 := ⟨rfl, rfl⟩
theorem xc84_45 : pmCode 84 45 = some (.iload_n 1) ∧ 45 + 1 = 46 := ⟨rfl, rfl⟩
theorem xc84_46 : pmCode 84 46 = some (.invokevirtual 228) ∧ 46 + 3 = 49 := ⟨rfl, rfl⟩
theorem xc84_49 : pmCode 84 49 = some (.istore_n 2) ∧ 49 + 1 = 50 := ⟨rfl, rfl⟩
theorem xc84_50 : pmCode 84 50 = some (.iload_n 2) ∧ 50 + 1 = 51 := ⟨rfl, rfl⟩
theorem xc84_51 : pmCode 84 51 = some (.ifCond .ne 8) ∧ ((51 : Nat) : Int) + 8 = ((59 : Nat) : Int) ∧ 51 + 3 = 54 := ⟨rfl, rfl, rfl⟩
theorem xc84_54 : pmCode 84 54 = some (.bipush (-2)) ∧ 54 + 2 = 56 := ⟨rfl, rfl⟩
theorem xc84_56 : pmCode 84 56 = some (.goto 7) ∧ ((56 : Nat) : Int) + 7 = ((63 : Nat) : Int) := ⟨rfl, rfl⟩
theorem xc84_59 : pmCode 84 59 = some (.iload_n 2) ∧ 59 + 1 = 60 := ⟨rfl, rfl⟩
theorem xc84_60 : pmCode 84 60 = some (.invokestatic 231) ∧ 60 + 3 = 63 := ⟨rfl, rfl⟩
theorem xc84_63 : pmCode 84 63 = some .ireturn := rfl
theorem xc86_0 : pmCode 86 0 = some (.iload_n 0) ∧ 0 + 1 = 1 := ⟨rfl, rfl⟩
theorem xc86_1 : pmCode 86 1 = some (.bipush 13) ∧ 1 + 2 = 3 := ⟨rfl, rfl⟩
theorem xc86_3 : pmCode 86 3 = some .ishr ∧ 3 + 1 = 4 := ⟨rfl, rfl⟩
theorem xc86_4 : pmCode 86 4 = some (.bipush 7) ∧ 4 + 2 = 6 := ⟨rfl, rfl⟩
theorem xc86_6 : pmCode 86 6 = some .iand ∧ 6 + 1 = 7 := ⟨rfl, rfl⟩
theorem xc86_7 : pmCode 86 7 = some (.iconst 1) ∧ 7 + 1 = 8 := ⟨rfl, rfl⟩
theorem xc86_8 : pmCode 86 8 = some .isub ∧ 8 + 1 = 9 := ⟨rfl, rfl⟩
theorem xc86_9 : pmCode 86 9 = some .ireturn := rfl
theorem xc183_0 : pmCode 183 0 = some (.aload_n 0) ∧ 0 + 1 = 1 := ⟨rfl, rfl⟩
theorem xc183_1 : pmCode 183 1 = some (.iload_n 1) ∧ 1 + 1 = 2 := ⟨rfl, rfl⟩
theorem xc183_2 : pmCode 183 2 = some (.iload_n 2) ∧ 2 + 1 = 3 := ⟨rfl, rfl⟩
theorem xc183_3 : pmCode 183 3 = some (.invokevirtual 342) ∧ 3 + 3 = 6 := ⟨rfl, rfl⟩
theorem xc183_6 : pmCode 183 6 = some (.ifCond .ne 5) ∧ ((6 : Nat) : Int) + 5 = ((11 : Nat) : Int) ∧ 6 + 3 = 9 := ⟨rfl, rfl, rfl⟩
theorem xc183_9 : pmCode 183 9 = some (.iconst (-1)) ∧ 9 + 1 = 10 := ⟨rfl, rfl⟩
theorem xc183_10 : pmCode 183 10 = some .ireturn := rfl
theorem xc183_11 : pmCode 183 11 = some (.aload_n 0) ∧ 11 + 1 = 12 := ⟨rfl, rfl⟩
theorem xc183_12 : pmCode 183 12 = some (.iload_n 1) ∧ 12 + 1 = 13 := ⟨rfl, rfl⟩
theorem xc183_13 : pmCode 183 13 = some (.invokevirtual 321) ∧ 13 + 3 = 16 := ⟨rfl, rfl⟩
theorem xc183_16 : pmCode 183 16 = some (.aload_n 0) ∧ 16 + 1 = 17 := ⟨rfl, rfl⟩
theorem xc183_17 : pmCode 183 17 = some (.iconst 0) ∧ 17 + 1 = 18 := ⟨rfl, rfl⟩
theorem xc183_18 : pmCode 183 18 = some (.iload_n 1) ∧ 18 + 1 = 19 := ⟨rfl, rfl⟩
theorem xc183_19 : pmCode 183 19 = some (.iload_n 2) ∧ 19 + 1 = 20 := ⟨rfl, rfl⟩
theorem xc183_20 : pmCode 183 20 = some (.invokevirtual 300) ∧ 20 + 3 = 23 := ⟨rfl, rfl⟩
theorem xc183_23 : pmCode 183 23 = some (.ifCond .eq 7) ∧ ((23 : Nat) : Int) + 7 = ((30 : Nat) : Int) ∧ 23 + 3 = 26 := ⟨rfl, rfl, rfl⟩
theorem xc183_26 : pmCode 183 26 = some (.iconst 1) ∧ 26 + 1 = 27 := ⟨rfl, rfl⟩
theorem xc183_27 : pmCode 183 27 = some (.goto 4) ∧ ((27 : Nat) : Int) + 4 = ((31 : Nat) : Int) := ⟨rfl, rfl⟩
theorem xc183_30 : pmCode 183 30 = some (.iconst 0) ∧ 30 + 1 = 31 := ⟨rfl, rfl⟩
theorem xc183_31 : pmCode 183 31 = some .ireturn := rfl
theorem xc184_0 : pmCode 184 0 = some (.aload_n 0) ∧ 0 + 1 = 1 := ⟨rfl, rfl⟩
theorem xc184_1 : pmCode 184 1 = some (.iload_n 1) ∧ 1 + 1 = 2 := ⟨rfl, rfl⟩
theorem xc184_2 : pmCode 184 2 = some (.invokevirtual 339) ∧ 2 + 3 = 5 := ⟨rfl, rfl⟩
theorem xc184_5 : pmCode 184 5 = some (.ifCond .eq 21) ∧ ((5 : Nat) : Int) + 21 = ((26 : Nat) : Int) ∧ 5 + 3 = 8 := ⟨rfl, rfl, rfl⟩
theorem xc184_8 : pmCode 184 8 = some (.iload_n 2) ∧ 8 + 1 = 9 := ⟨rfl, rfl⟩
theorem xc184_9 : pmCode 184 9 = some (.ifCond .lt 17) ∧ ((9 : Nat) : Int) + 17 = ((26 : Nat) : Int) ∧ 9 + 3 = 12 := ⟨rfl, rfl, rfl⟩
theorem xc184_12 : pmCode 184 12 = some (.iload_n 2) ∧ 12 + 1 = 13 := ⟨rfl, rfl⟩
theorem xc184_13 : pmCode 184 13 = some (.aload_n 0) ∧ 13 + 1 = 14 := ⟨rfl, rfl⟩
theorem xc184_14 : pmCode 184 14 = some (.getfield 36) ∧ 14 + 3 = 17 := ⟨rfl, rfl⟩
theorem xc184_17 : pmCode 184 17 = some (.iload_n 1) ∧ 17 + 1 = 18 := ⟨rfl, rfl⟩
theorem xc184_18 : pmCode 184 18 = some .iaload ∧ 18 + 1 = 19 := ⟨rfl, rfl⟩
theorem xc184_19 : pmCode 184 19 = some (.if_icmp .ge 7) ∧ ((19 : Nat) : Int) + 7 = ((26 : Nat) : Int) ∧ 19 + 3 = 22 := ⟨rfl, rfl, rfl⟩
theorem xc184_22 : pmCode 184 22 = some (.iconst 1) ∧ 22 + 1 = 23 := ⟨rfl, rfl⟩
theorem xc184_23 : pmCode 184 23 = some (.goto 4) ∧ ((23 : Nat) : Int) + 4 = ((27 : Nat) : Int) := ⟨rfl, rfl⟩
theorem xc184_26 : pmCode 184 26 = some (.iconst 0) ∧ 26 + 1 = 27 := ⟨rfl, rfl⟩
theorem xc184_27 : pmCode 184 27 = some .ireturn := rfl
theorem xc185_0 : pmCode 185 0 = some (.aload_n 0) ∧ 0 + 1 = 1 := ⟨rfl, rfl⟩
theorem xc185_1 : pmCode 185 1 = some (.getfield 131) ∧ 1 + 3 = 4 := ⟨rfl, rfl⟩
theorem xc185_4 : pmCode 185 4 = some (.ifCond .eq 22) ∧ ((4 : Nat) : Int) + 22 = ((26 : Nat) : Int) ∧ 4 + 3 = 7 := ⟨rfl, rfl, rfl⟩
theorem xc185_7 : pmCode 185 7 = some (.iload_n 1) ∧ 7 + 1 = 8 := ⟨rfl, rfl⟩
theorem xc185_8 : pmCode 185 8 = some (.invokestatic 150) ∧ 8 + 3 = 11 := ⟨rfl, rfl⟩
theorem xc185_11 : pmCode 185 11 = some (.ifCond .eq 15) ∧ ((11 : Nat) : Int) + 15 = ((26 : Nat) : Int) ∧ 11 + 3 = 14 := ⟨rfl, rfl, rfl⟩
theorem xc185_14 : pmCode 185 14 = some (.aload_n 0) ∧ 14 + 1 = 15 := ⟨rfl, rfl⟩
theorem xc185_15 : pmCode 185 15 = some (.iload_n 1) ∧ 15 + 1 = 16 := ⟨rfl, rfl⟩
theorem xc185_16 : pmCode 185 16 = some (.invokevirtual 253) ∧ 16 + 3 = 19 := ⟨rfl, rfl⟩
theorem xc185_19 : pmCode 185 19 = some (.ifCond .eq 7) ∧ ((19 : Nat) : Int) + 7 = ((26 : Nat) : Int) ∧ 19 + 3 = 22 := ⟨rfl, rfl, rfl⟩
theorem xc185_22 : pmCode 185 22 = some (.iconst 1) ∧ 22 + 1 = 23 := ⟨rfl, rfl⟩
theorem xc185_23 : pmCode 185 23 = some (.goto 4) ∧ ((23 : Nat) : Int) + 4 = ((27 : Nat) : Int) := ⟨rfl, rfl⟩
theorem xc185_26 : pmCode 185 26 = some (.iconst 0) ∧ 26 + 1 = 27 := ⟨rfl, rfl⟩
theorem xc185_27 : pmCode 185 27 = some .ireturn := rfl
theorem xc189_0 : pmCode 189 0 = some (.aload_n 0) ∧ 0 + 1 = 1 := ⟨rfl, rfl⟩
theorem xc189_1 : pmCode 189 1 = some (.iload_n 1) ∧ 1 + 1 = 2 := ⟨rfl, rfl⟩
theorem xc189_2 : pmCode 189 2 = some (.iload_n 2) ∧ 2 + 1 = 3 := ⟨rfl, rfl⟩
theorem xc189_3 : pmCode 189 3 = some (.invokevirtual 342) ∧ 3 + 3 = 6 := ⟨rfl, rfl⟩
theorem xc189_6 : pmCode 189 6 = some (.ifCond .ne 5) ∧ ((6 : Nat) : Int) + 5 = ((11 : Nat) : Int) ∧ 6 + 3 = 9 := ⟨rfl, rfl, rfl⟩
theorem xc189_9 : pmCode 189 9 = some (.iconst (-1)) ∧ 9 + 1 = 10 := ⟨rfl, rfl⟩
theorem xc189_10 : pmCode 189 10 = some .ireturn := rfl
theorem xc189_11 : pmCode 189 11 = some (.aload_n 0) ∧ 11 + 1 = 12 := ⟨rfl, rfl⟩
theorem xc189_12 : pmCode 189 12 = some (.iload_n 1) ∧ 12 + 1 = 13 := ⟨rfl, rfl⟩
theorem xc189_13 : pmCode 189 13 = some (.invokevirtual 321) ∧ 13 + 3 = 16 := ⟨rfl, rfl⟩
theorem xc189_16 : pmCode 189 16 = some (.aload_n 0) ∧ 16 + 1 = 17 := ⟨rfl, rfl⟩
theorem xc189_17 : pmCode 189 17 = some (.iconst 0) ∧ 17 + 1 = 18 := ⟨rfl, rfl⟩
theorem xc189_18 : pmCode 189 18 = some (.iload_n 1) ∧ 18 + 1 = 19 := ⟨rfl, rfl⟩
theorem xc189_19 : pmCode 189 19 = some (.iload_n 2) ∧ 19 + 1 = 20 := ⟨rfl, rfl⟩
theorem xc189_20 : pmCode 189 20 = some (.invokevirtual 300) ∧ 20 + 3 = 23 := ⟨rfl, rfl⟩
theorem xc189_23 : pmCode 189 23 = some (.ifCond .eq 5) ∧ ((23 : Nat) : Int) + 5 = ((28 : Nat) : Int) ∧ 23 + 3 = 26 := ⟨rfl, rfl, rfl⟩
theorem xc189_26 : pmCode 189 26 = some (.iconst (-1)) ∧ 26 + 1 = 27 := ⟨rfl, rfl⟩
theorem xc189_27 : pmCode 189 27 = some .ireturn := rfl
theorem xc189_28 : pmCode 189 28 = some (.aload_n 0) ∧ 28 + 1 = 29 := ⟨rfl, rfl⟩
theorem xc189_29 : pmCode 189 29 = some (.iload_n 1) ∧ 29 + 1 = 30 := ⟨rfl, rfl⟩
theorem xc189_30 : pmCode 189 30 = some (.iload_n 2) ∧ 30 + 1 = 31 := ⟨rfl, rfl⟩
theorem xc189_31 : pmCode 189 31 = some (.invokevirtual 315) ∧ 31 + 3 = 34 := ⟨rfl, rfl⟩
theorem xc189_34 : pmCode 189 34 = some (.ifCond .ne 6) ∧ ((34 : Nat) : Int) + 6 = ((40 : Nat) : Int) ∧ 34 + 3 = 37 := ⟨rfl, rfl, rfl⟩
theorem xc189_37 : pmCode 189 37 = some (.bipush (-2)) ∧ 37 + 2 = 39 := ⟨rfl, rfl⟩
theorem xc189_39 : pmCode 189 39 = some .ireturn := rfl
theorem xc189_40 : pmCode 189 40 = some (.iload_n 3) ∧ 40 + 1 = 41 := ⟨rfl, rfl⟩
theorem xc189_41 : pmCode 189 41 = some (.iconst (-1)) ∧ 41 + 1 = 42 := ⟨rfl, rfl⟩
theorem xc189_42 : pmCode 189 42 = some (.if_icmp .ne 8) ∧ ((42 : Nat) : Int) + 8 = ((50 : Nat) : Int) ∧ 42 + 3 = 45 := ⟨rfl, rfl, rfl⟩
theorem xc189_45 : pmCode 189 45 = some (.aload_n 0) ∧ 45 + 1 = 46 := ⟨rfl, rfl⟩
theorem xc189_46 : pmCode 189 46 = some (.getfield 294) ∧ 46 + 3 = 49 := ⟨rfl, rfl⟩
theorem xc189_49 : pmCode 189 49 = some .ireturn := rfl
theorem xc189_50 : pmCode 189 50 = some (.iload_n 3) ∧ 50 + 1 = 51 := ⟨rfl, rfl⟩
theorem xc189_51 : pmCode 189 51 = some (.ifCond .ne 8) ∧ ((51 : Nat) : Int) + 8 = ((59 : Nat) : Int) ∧ 51 + 3 = 54 := ⟨rfl, rfl, rfl⟩
theorem xc189_54 : pmCode 189 54 = some (.aload_n 0) ∧ 54 + 1 = 55 := ⟨rfl, rfl⟩
theorem xc189_55 : pmCode 189 55 = some (.getfield 288) ∧ 55 + 3 = 58 := ⟨rfl, rfl⟩
theorem xc189_58 : pmCode 189 58 = some .ireturn := rfl
theorem xc189_59 : pmCode 189 59 = some (.iload_n 3) ∧ 59 + 1 = 60 := ⟨rfl, rfl⟩
theorem xc189_60 : pmCode 189 60 = some (.ifCond .lt 13) ∧ ((60 : Nat) : Int) + 13 = ((73 : Nat) : Int) ∧ 60 + 3 = 63 := ⟨rfl, rfl, rfl⟩
theorem xc189_63 : pmCode 189 63 = some (.iload_n 3) ∧ 63 + 1 = 64 := ⟨rfl, rfl⟩
theorem xc189_64 : pmCode 189 64 = some (.iconst 3) ∧ 64 + 1 = 65 := ⟨rfl, rfl⟩
theorem xc189_65 : pmCode 189 65 = some (.aload_n 0) ∧ 65 + 1 = 66 := ⟨rfl, rfl⟩
theorem xc189_66 : pmCode 189 66 = some (.getfield 288) ∧ 66 + 3 = 69 := ⟨rfl, rfl⟩
theorem xc189_69 : pmCode 189 69 = some .imul ∧ 69 + 1 = 70 := ⟨rfl, rfl⟩
theorem xc189_70 : pmCode 189 70 = some (.if_icmp .le 6) ∧ ((70 : Nat) : Int) + 6 = ((76 : Nat) : Int) ∧ 70 + 3 = 73 := ⟨rfl, rfl, rfl⟩
theorem xc189_73 : pmCode 189 73 = some (.bipush (-3)) ∧ 73 + 2 = 75 := ⟨rfl, rfl⟩
theorem xc189_75 : pmCode 189 75 = some .ireturn := rfl
theorem xc189_76 : pmCode 189 76 = some (.aload_n 0) ∧ 76 + 1 = 77 := ⟨rfl, rfl⟩
theorem xc189_77 : pmCode 189 77 = some (.getfield 81) ∧ 77 + 3 = 80 := ⟨rfl, rfl⟩
theorem xc189_80 : pmCode 189 80 = some (.iload_n 3) ∧ 80 + 1 = 81 := ⟨rfl, rfl⟩
theorem xc189_81 : pmCode 189 81 = some (.iconst 1) ∧ 81 + 1 = 82 := ⟨rfl, rfl⟩
theorem xc189_82 : pmCode 189 82 = some .isub ∧ 82 + 1 = 83 := ⟨rfl, rfl⟩
theorem xc189_83 : pmCode 189 83 = some (.iconst 3) ∧ 83 + 1 = 84 := ⟨rfl, rfl⟩
theorem xc189_84 : pmCode 189 84 = some .idiv ∧ 84 + 1 = 85 := ⟨rfl, rfl⟩
theorem xc189_85 : pmCode 189 85 = some .iaload ∧ 85 + 1 = 86 := ⟨rfl, rfl⟩
theorem xc189_86 : pmCode 189 86 = some (.istore 4) ∧ 86 + 2 = 88 := ⟨rfl, rfl⟩
theorem xc189_88 : pmCode 189 88 = some (.iload_n 3) ∧ 88 + 1 = 89 := ⟨rfl, rfl⟩
theorem xc189_89 : pmCode 189 89 = some (.iconst 3) ∧ 89 + 1 = 90 := ⟨rfl, rfl⟩
theorem xc189_90 : pmCode 189 90 = some .irem ∧ 90 + 1 = 91 := ⟨rfl, rfl⟩
theorem xc189_91 : pmCode 189 91 = some (.iconst 1) ∧ 91 + 1 = 92 := ⟨rfl, rfl⟩
theorem xc189_92 : pmCode 189 92 = some (.if_icmp .ne 11) ∧ ((92 : Nat) : Int) + 11 = ((103 : Nat) : Int) ∧ 92 + 3 = 95 := ⟨rfl, rfl, rfl⟩
theorem xc189_95 : pmCode 189 95 = some (.iload 4) ∧ 95 + 2 = 97 := ⟨rfl, rfl⟩
theorem xc189_97 : pmCode 189 97 = some (.invokestatic 279) ∧ 97 + 3 = 100 := ⟨rfl, rfl⟩
theorem xc189_100 : pmCode 189 100 = some (.goto 23) ∧ ((100 : Nat) : Int) + 23 = ((123 : Nat) : Int) := ⟨rfl, rfl⟩
theorem xc189_103 : pmCode 189 103 = some (.iload_n 3) ∧ 103 + 1 = 104 := ⟨rfl, rfl⟩
theorem xc189_104 : pmCode 189 104 = some (.iconst 3) ∧ 104 + 1 = 105 := ⟨rfl, rfl⟩
theorem xc189_105 : pmCode 189 105 = some .irem ∧ 105 + 1 = 106 := ⟨rfl, rfl⟩
theorem xc189_106 : pmCode 189 106 = some (.iconst 2) ∧ 106 + 1 = 107 := ⟨rfl, rfl⟩
theorem xc189_107 : pmCode 189 107 = some (.if_icmp .ne 11) ∧ ((107 : Nat) : Int) + 11 = ((118 : Nat) : Int) ∧ 107 + 3 = 110 := ⟨rfl, rfl, rfl⟩
theorem xc189_110 : pmCode 189 110 = some (.iload 4) ∧ 110 + 2 = 112 := ⟨rfl, rfl⟩
theorem xc189_112 : pmCode 189 112 = some (.invokestatic 276) ∧ 112 + 3 = 115 := ⟨rfl, rfl⟩
theorem xc189_115 : pmCode 189 115 = some (.goto 8) ∧ ((115 : Nat) : Int) + 8 = ((123 : Nat) : Int) := ⟨rfl, rfl⟩
theorem xc189_118 : pmCode 189 118 = some (.iload 4) ∧ 118 + 2 = 120 := ⟨rfl, rfl⟩
theorem xc189_120 : pmCode 189 120 = some (.invokestatic 282) ∧ 120 + 3 = 123 := ⟨rfl, rfl⟩
theorem xc189_123 : pmCode 189 123 = some (.istore 5) ∧ 123 + 2 = 125 := ⟨rfl, rfl⟩
theorem xc189_125 : pmCode 189 125 = some (.iload 5) ∧ 125 + 2 = 127 := ⟨rfl, rfl⟩
theorem xc189_127 : pmCode 189 127 = some (.iconst (-1)) ∧ 127 + 1 = 128 := ⟨rfl, rfl⟩
theorem xc189_128 : pmCode 189 128 = some (.if_icmp .ne 8) ∧ ((128 : Nat) : Int) + 8 = ((136 : Nat) : Int) ∧ 128 + 3 = 131 := ⟨rfl, rfl, rfl⟩
theorem xc189_131 : pmCode 189 131 = some (.bipush (-3)) ∧ 131 + 2 = 133 := ⟨rfl, rfl⟩
theorem xc189_133 : pmCode 189 133 = some (.goto 5) ∧ ((133 : Nat) : Int) + 5 = ((138 : Nat) : Int) := ⟨rfl, rfl⟩
theorem xc189_136 : pmCode 189 136 = some (.iload 5) ∧ 136 + 2 = 138 := ⟨rfl, rfl⟩
theorem xc189_138 : pmCode 189 138 = some .ireturn := rfl
theorem xc197_0 : pmCode 197 0 = some (.aload_n 0) ∧ 0 + 1 = 1 := ⟨rfl, rfl⟩
theorem xc197_1 : pmCode 197 1 = some (.iload_n 1) ∧ 1 + 1 = 2 := ⟨rfl, rfl⟩
theorem xc197_2 : pmCode 197 2 = some (.invokevirtual 339) ∧ 2 + 3 = 5 := ⟨rfl, rfl⟩
theorem xc197_5 : pmCode 197 5 = some (.ifCond .ne 5) ∧ ((5 : Nat) : Int) + 5 = ((10 : Nat) : Int) ∧ 5 + 3 = 8 := ⟨rfl, rfl, rfl⟩
theorem xc197_8 : pmCode 197 8 = some (.iconst (-1)) ∧ 8 + 1 = 9 := ⟨rfl, rfl⟩
theorem xc197_9 : pmCode 197 9 = some .ireturn := rfl
theorem xc197_10 : pmCode 197 10 = some (.aload_n 0) ∧ 10 + 1 = 11 := ⟨rfl, rfl⟩
theorem xc197_11 : pmCode 197 11 = some (.iload_n 1) ∧ 11 + 1 = 12 := ⟨rfl, rfl⟩
theorem xc197_12 : pmCode 197 12 = some (.invokevirtual 345) ∧ 12 + 3 = 15 := ⟨rfl, rfl⟩
theorem xc197_15 : pmCode 197 15 = some (.aload_n 0) ∧ 15 + 1 = 16 := ⟨rfl, rfl⟩
theorem xc197_16 : pmCode 197 16 = some (.getfield 324) ∧ 16 + 3 = 19 := ⟨rfl, rfl⟩
theorem xc197_19 : pmCode 197 19 = some (.iconst (-1)) ∧ 19 + 1 = 20 := ⟨rfl, rfl⟩
theorem xc197_20 : pmCode 197 20 = some (.if_icmp .ne 8) ∧ ((20 : Nat) : Int) + 8 = ((28 : Nat) : Int) ∧ 20 + 3 = 23 := ⟨rfl, rfl, rfl⟩
theorem xc197_23 : pmCode 197 23 = some (.bipush (-2)) ∧ 23 + 2 = 25 := ⟨rfl, rfl⟩
theorem xc197_25 : pmCode 197 25 = some (.goto 7) ∧ ((25 : Nat) : Int) + 7 = ((32 : Nat) : Int) := ⟨rfl, rfl⟩
theorem xc197_28 : pmCode 197 28 = some (.aload_n 0) ∧ 28 + 1 = 29 := ⟨rfl, rfl⟩
theorem xc197_29 : pmCode 197 29 = some (.getfield 324) ∧ 29 + 3 = 32 := ⟨rfl, rfl⟩
theorem xc197_32 : pmCode 197 32 = some .ireturn := rfl
theorem w71 {ro : Nat → Nat × (Nat → Int32)} {d : Nat} {Q : Option Value → pmS → Prop} {p k bg : Int} {a : xA} {b : xB} (qr1 : xR p) (qr2 : xR k) (hA : xAr a) (hb : a 0 12 = bg) (hbg : bg = 0 ∨ bg = 1) (hd : 3 ≤ d)
    (k1 : (bg = 0) → Q (some (xV 0)) (xS a b))
    (k2 : (¬ bg = 0) → (1 ≤ p ∧ p < 4) → (k < 0) → Q (some (xV 0)) (xS a b))
    (k3 : (¬ bg = 0) → (1 ≤ p ∧ p < 4) → (¬ k < 0) → (a 12 p ≤ k) → Q (some (xV 0)) (xS a b))
    (k4 : (¬ bg = 0) → (1 ≤ p ∧ p < 4) → (¬ k < 0) → (¬ a 12 p ≤ k) → (uSl (b 21 4) p = 8) → Q (some (xV 0)) (xS a b))
    (k5 : (¬ bg = 0) → (1 ≤ p ∧ p < 4) → (¬ k < 0) → (¬ a 12 p ≤ k) → (¬ uSl (b 21 4) p = 8) → Q (some (xV 1)) (xS a b))
    (k6 : (¬ bg = 0) → (¬ (1 ≤ p ∧ p < 4)) → Q (some (xV 0)) (xS a b)) :
    pmWp ro d 11 71 2 0 [some (.ref 0), some (xV p), some (xV k)] [] (xS a b) Q := by
  refine x_aloadn xc71_0 rfl ?_
  refine x_gfi' (k := 12) (v := bg) xc71_1 rfl (Or.inr rfl) rfl xz0 hb ?_
  refine x_ifeq xc71_4 (xRk (by have g0 := hbg; omega)) (fun h0 => ?_) (fun h0 => ?_)
  · refine x_iconst xc71_51 ?_
    refine x_iret xc71_52 (Or.inr ⟨rfl, (by omega)⟩) ?_
    exact k1 h0
  · refine x_iloadn xc71_7 rfl ?_
    refine x_cS (as := [xV p]) (rest := []) xc71_8 rfl rfl xi26 ⟨rfl, rfl⟩ rfl rfl ?_
    refine xk26 (by omega) (xRk (by have g0 := xRb qr1; omega)) (fun h1 => ?_) (fun h2 => ?_)
    · refine x_ifeq xc71_11 (xRk (by decide)) (fun h => absurd h (by omega)) (fun _ => ?_)
      refine x_iloadn xc71_14 rfl ?_
      refine x_iflt xc71_15 (xRk (by have g0 := xRb qr2; omega)) (fun h4 => ?_) (fun h4 => ?_)
      · refine x_iconst xc71_51 ?_
        refine x_iret xc71_52 (Or.inr ⟨rfl, (by omega)⟩) ?_
        exact k2 h0 h1 h4
      · refine x_iloadn xc71_18 rfl ?_
        refine x_aloadn xc71_19 rfl ?_
        refine x_gfr xc71_20 rfl rfl xz0 rfl ?_
        refine x_gfr xc71_23 rfl rfl xz7 rfl ?_
        refine x_iloadn xc71_26 rfl ?_
        refine x_ial xc71_27 xz12 rfl (by have g0 := xRb qr1; omega) (by have g0 := xRb qr1; omega) (by have g0 := xRb qr1; omega) ?_
        refine x_icge xc71_28 (xRk (by have g0 := xRb qr2; omega)) (xRk (by have g0 := xRb qr1; have g1 := xRb (hA 12 p); omega)) (fun h5 => ?_) (fun h5 => ?_)
        · refine x_iconst xc71_51 ?_
          refine x_iret xc71_52 (Or.inr ⟨rfl, (by omega)⟩) ?_
          exact k3 h0 h1 h4 h5
        · refine x_aloadn xc71_31 rfl ?_
          refine x_gfr xc71_32 rfl rfl xz0 rfl ?_
          refine x_gfl (k := 4) xc71_35 rfl rfl rfl xz21 ?_
          refine x_iloadn xc71_38 rfl ?_
          refine x_cS (as := [.long (b 21 4), xV p]) (rest := []) xc71_39 rfl rfl xi61 ⟨rfl, rfl⟩ rfl rfl ?_
          refine rk61 (by omega) (by have g0 := xRb qr1; omega) ?_
          refine x_bipush xc71_42 (by decide) ?_
          refine x_iceq xc71_44 (xRk (by have g0 := uSl_b (l := b 21 4) (j := p) (by have g0 := xRb qr1; omega) (by have g0 := xRb qr1; omega); omega)) (xRk (by decide)) (fun h6 => ?_) (fun h6 => ?_)
          · refine x_iconst xc71_51 ?_
            refine x_iret xc71_52 (Or.inr ⟨rfl, (by omega)⟩) ?_
            exact k4 h0 h1 h4 h5 h6
          · refine x_iconst xc71_47 ?_
            refine x_goto xc71_48 ?_
            refine x_iret xc71_52 (Or.inr ⟨rfl, (by omega)⟩) ?_
            exact k5 h0 h1 h4 h5 h6
    · refine x_ifeq xc71_11 (xRk (by decide)) (fun _ => ?_) (fun h => absurd h (by omega))
      refine x_iconst xc71_51 ?_
      refine x_iret xc71_52 (Or.inr ⟨rfl, (by omega)⟩) ?_
      exact k6 h0 h2

theorem xg71 {ro : Nat → Nat × (Nat → Int32)} {d : Nat} {Q : Option Value → pmS → Prop} {a : xA} {b : xB} {p k : Int} (h : pmWp ro d 11 71 2 0 [some (.ref 0), some (xV p), some (xV k)] [] (xS a b) Q) : pmCs ro (d + 1) 71 [.ref 0, xV p, xV k] (xS a b) Q := x_go xi71 rfl rfl rfl rfl rfl h
theorem w70 {ro : Nat → Nat × (Nat → Int32)} {d : Nat} {Q : Option Value → pmS → Prop} {p k : Int} {a : xA} {b : xB}
    (k1 : pmCs ro d 71 [.ref 0, xV p, xV k] (xS a b) fun r σ' => pmWp ro d 11 70 1 6 [some (.ref 0), some (xV p), some (xV k)] (r.toList ++ []) σ' Q) :
    pmWp ro d 11 70 1 0 [some (.ref 0), some (xV p), some (xV k)] [] (xS a b) Q := by
  refine x_aloadn xc70_0 rfl ?_
  refine x_iloadn xc70_1 rfl ?_
  refine x_iloadn xc70_2 rfl ?_
  refine x_cV (as := [xV p, xV k]) (rest := []) xc70_3 rfl xi71 xz0 ⟨rfl, rfl⟩ rfl rfl ?_
  exact k1

theorem xg70 {ro : Nat → Nat × (Nat → Int32)} {d : Nat} {Q : Option Value → pmS → Prop} {a : xA} {b : xB} {p k : Int} (h : pmWp ro d 11 70 1 0 [some (.ref 0), some (xV p), some (xV k)] [] (xS a b) Q) : pmCs ro (d + 1) 70 [.ref 0, xV p, xV k] (xS a b) Q := x_go xi70 rfl rfl rfl rfl rfl h
theorem w70a {ro : Nat → Nat × (Nat → Int32)} {d : Nat} {Q : Option Value → pmS → Prop} {p k z : Int} {a : xA} {b : xB} (hzz : z = 0 ∨ z = 1) (hp : z = 1 → 1 ≤ p ∧ p ≤ 3)
    (k1 : (¬ z = 0) → pmCs ro d 72 [.ref 34, .long (b 22 p), xV p, xV k] (xS a b) fun r σ' => pmWp ro d 11 70 1 29 [some (.ref 0), some (xV p), some (xV k)] (r.toList ++ []) σ' Q)
    (k2 : (z = 0) → Q (some (xV (-1))) (xS a b)) :
    pmWp ro d 11 70 1 6 [some (.ref 0), some (xV p), some (xV k)] [xV z] (xS a b) Q := by
  refine x_ifne xc70_6 (xRk (by have g0 := hzz; omega)) (fun h0 => ?_) (fun h0 => ?_)
  · refine x_aloadn xc70_11 rfl ?_
    refine x_gfr xc70_12 rfl rfl xz0 rfl ?_
    refine x_aloadn xc70_15 rfl ?_
    refine x_gfr xc70_16 rfl rfl xz0 rfl ?_
    refine x_gfr xc70_19 rfl rfl xz21 rfl ?_
    refine x_iloadn xc70_22 rfl ?_
    refine x_lal xc70_23 xz22 (by have g0 := hp; omega) (by have g0 := hp; omega) (by have g0 := hp; omega) ?_
    refine x_iloadn xc70_24 rfl ?_
    refine x_iloadn xc70_25 rfl ?_
    refine x_cV (as := [.long (b 22 p), xV p, xV k]) (rest := []) xc70_26 rfl xi72 xz34 ⟨rfl, rfl⟩ rfl rfl ?_
    exact k1 h0
  · replace h0 := Classical.not_not.mp h0
    refine x_iconst xc70_9 ?_
    refine x_iret xc70_10 (Or.inl rfl) ?_
    exact k2 h0

theorem w70b {ro : Nat → Nat × (Nat → Int32)} {d : Nat} {Q : Option Value → pmS → Prop} {p k z : Int} {a : xA} {b : xB} (hzz : z = 0 ∨ z = 1)
    (k1 : (z = 0) → Q (some (xV 0)) (xS a b))
    (k2 : (¬ z = 0) → Q (some (xV 1)) (xS a b)) :
    pmWp ro d 11 70 1 29 [some (.ref 0), some (xV p), some (xV k)] [xV z] (xS a b) Q := by
  refine x_ifeq xc70_29 (xRk (by have g0 := hzz; omega)) (fun h0 => ?_) (fun h0 => ?_)
  · refine x_iconst xc70_36 ?_
    refine x_iret xc70_37 (Or.inl rfl) ?_
    exact k1 h0
  · refine x_iconst xc70_32 ?_
    refine x_goto xc70_33 ?_
    refine x_iret xc70_37 (Or.inl rfl) ?_
    exact k2 h0

theorem w76 {ro : Nat → Nat × (Nat → Int32)} {d : Nat} {Q : Option Value → pmS → Prop} {p k wh : Int} {a : xA} {b : xB}
    (k1 : pmCs ro d 71 [.ref 0, xV p, xV k] (xS a b) fun r σ' => pmWp ro d 11 76 1 6 [some (.ref 0), some (xV p), some (xV k), some (xV wh), none, none] (r.toList ++ []) σ' Q) :
    pmWp ro d 11 76 1 0 [some (.ref 0), some (xV p), some (xV k), some (xV wh), none, none] [] (xS a b) Q := by
  refine x_aloadn xc76_0 rfl ?_
  refine x_iloadn xc76_1 rfl ?_
  refine x_iloadn xc76_2 rfl ?_
  refine x_cV (as := [xV p, xV k]) (rest := []) xc76_3 rfl xi71 xz0 ⟨rfl, rfl⟩ rfl rfl ?_
  exact k1

theorem xg76 {ro : Nat → Nat × (Nat → Int32)} {d : Nat} {Q : Option Value → pmS → Prop} {a : xA} {b : xB} {p k wh : Int} (h : pmWp ro d 11 76 1 0 [some (.ref 0), some (xV p), some (xV k), some (xV wh), none, none] [] (xS a b) Q) : pmCs ro (d + 1) 76 [.ref 0, xV p, xV k, xV wh] (xS a b) Q := x_go xi76 rfl rfl rfl rfl rfl h
theorem w76a {ro : Nat → Nat × (Nat → Int32)} {d : Nat} {Q : Option Value → pmS → Prop} {p k wh z : Int} {a : xA} {b : xB} (hzz : z = 0 ∨ z = 1) (hp : z = 1 → 1 ≤ p ∧ p ≤ 3)
    (k1 : (¬ z = 0) → pmCs ro d 77 [.ref 34, .long (b 22 p), xV p, xV k] (xS a b) fun r σ' => pmWp ro d 11 76 1 29 [some (.ref 0), some (xV p), some (xV k), some (xV wh), none, none] (r.toList ++ []) σ' Q)
    (k2 : (z = 0) → Q (some (xV (-1))) (xS a b)) :
    pmWp ro d 11 76 1 6 [some (.ref 0), some (xV p), some (xV k), some (xV wh), none, none] [xV z] (xS a b) Q := by
  refine x_ifne xc76_6 (xRk (by have g0 := hzz; omega)) (fun h0 => ?_) (fun h0 => ?_)
  · refine x_aloadn xc76_11 rfl ?_
    refine x_gfr xc76_12 rfl rfl xz0 rfl ?_
    refine x_aloadn xc76_15 rfl ?_
    refine x_gfr xc76_16 rfl rfl xz0 rfl ?_
    refine x_gfr xc76_19 rfl rfl xz21 rfl ?_
    refine x_iloadn xc76_22 rfl ?_
    refine x_lal xc76_23 xz22 (by have g0 := hp; omega) (by have g0 := hp; omega) (by have g0 := hp; omega) ?_
    refine x_iloadn xc76_24 rfl ?_
    refine x_iloadn xc76_25 rfl ?_
    refine x_cV (as := [.long (b 22 p), xV p, xV k]) (rest := []) xc76_26 rfl xi77 xz34 ⟨rfl, rfl⟩ rfl rfl ?_
    exact k1 h0
  · replace h0 := Classical.not_not.mp h0
    refine x_iconst xc76_9 ?_
    refine x_iret xc76_10 (Or.inl rfl) ?_
    exact k2 h0

theorem w76b {ro : Nat → Nat × (Nat → Int32)} {d : Nat} {Q : Option Value → pmS → Prop} {p k wh : Int} {l : Int64} {a : xA} {b : xB}
    (k1 : (¬ xCmp l (-1 : Int64) = 0) → (¬ xCmp l (0 : Int64) = 0) → pmCs ro d 82 [.long l, xV wh] (xS a b) fun r σ' => pmWp ro d 11 76 1 58 [some (.ref 0), some (xV p), some (xV k), some (xV wh), some (.long l), none] (r.toList ++ []) σ' Q)
    (k2 : (¬ xCmp l (-1 : Int64) = 0) → (xCmp l (0 : Int64) = 0) → Q (some (xV (-2))) (xS a b))
    (k3 : (xCmp l (-1 : Int64) = 0) → Q (some (xV (-1))) (xS a b)) :
    pmWp ro d 11 76 1 29 [some (.ref 0), some (xV p), some (xV k), some (xV wh), none, none] [.long l] (xS a b) Q := by
  refine x_lstore (pl' := [some (.ref 0), some (xV p), some (xV k), some (xV wh), some (.long l), none]) xc76_29 rfl rfl rfl ?_
  refine x_lload xc76_31 rfl ?_
  refine x_ldc2 (l := (-1)) xc76_33 rfl ?_
  refine x_lcmp xc76_36 ?_
  refine x_ifne xc76_37 (xRk (by have g0 := xCmpB l (-1 : Int64); omega)) (fun h0 => ?_) (fun h0 => ?_)
  · refine x_lload xc76_42 rfl ?_
    refine x_lconst (l := 0) xc76_44 rfl ?_
    refine x_lcmp xc76_45 ?_
    refine x_ifne xc76_46 (xRk (by have g0 := xCmpB l (0 : Int64); omega)) (fun h1 => ?_) (fun h1 => ?_)
    · refine x_lload xc76_52 rfl ?_
      refine x_iloadn xc76_54 rfl ?_
      refine x_cS (as := [.long l, xV wh]) (rest := []) xc76_55 rfl rfl xi82 ⟨rfl, rfl⟩ rfl rfl ?_
      exact k1 h0 h1
    · replace h1 := Classical.not_not.mp h1
      refine x_bipush xc76_49 (by decide) ?_
      refine x_iret xc76_51 (Or.inl rfl) ?_
      exact k2 h0 h1
  · replace h0 := Classical.not_not.mp h0
    refine x_iconst xc76_40 ?_
    refine x_iret xc76_41 (Or.inl rfl) ?_
    exact k3 h0

theorem w76c {ro : Nat → Nat × (Nat → Int32)} {d : Nat} {Q : Option Value → pmS → Prop} {p k wh z : Int} {l : Int64} {a : xA} {b : xB}
    (k1 : Q (some (xV z)) (xS a b)) :
    pmWp ro d 11 76 1 58 [some (.ref 0), some (xV p), some (xV k), some (xV wh), some (.long l), none] [xV z] (xS a b) Q := by
  refine x_iret xc76_58 (Or.inl rfl) ?_
  exact k1

theorem w83x {ro : Nat → Nat × (Nat → Int32)} {d : Nat} {Q : Option Value → pmS → Prop} {e pt : Int} {a : xA} {b : xB} (he : xR e) (hpt : 0 ≤ pt ∧ pt ≤ 2)
    (k1 : (¬ pt = 0) → (¬ pt = 1) → Q (some (xV (e % 8 - 1))) (xS a b))
    (k2 : (¬ pt = 0) → (pt = 1) → Q (some (xV ((e / 8) % 8 - 1))) (xS a b))
    (k3 : (pt = 0) → Q (some (xV ((e / 64) % 8))) (xS a b)) :
    pmWp ro d 11 83 1 0 [some (xV e), some (xV pt)] [] (xS a b) Q := by
  refine x_iloadn xc83_0 rfl ?_
  refine x_ifne xc83_1 (xRk (by have g0 := hpt; omega)) (fun h0 => ?_) (fun h0 => ?_)
  · refine x_iloadn xc83_12 rfl ?_
    refine x_iconst xc83_13 ?_
    refine x_icne xc83_14 (xRk (by have g0 := hpt; omega)) (xRk (by decide)) (fun h1 => ?_) (fun h1 => ?_)
    · refine x_iloadn xc83_26 rfl ?_
      refine x_bipush xc83_27 (by decide) ?_
      refine x_iandm (M := 8) 3 (by decide) (by decide) (by decide) xc83_29 ?_
      refine x_iconst xc83_30 ?_
      refine x_isub xc83_31 ?_
      refine x_iret xc83_32 (Or.inl rfl) ?_
      exact k1 h0 h1
    · replace h1 := Classical.not_not.mp h1
      refine x_iloadn xc83_17 rfl ?_
      refine x_iconst xc83_18 ?_
      refine x_ishr (M := 8) (by omega) (by omega) (by decide) (xRk (by have g0 := xRb he; omega)) xc83_19 ?_
      refine x_bipush xc83_20 (by decide) ?_
      refine x_iandm (M := 8) 3 (by decide) (by decide) (by decide) xc83_22 ?_
      refine x_goto xc83_23 ?_
      refine x_iconst xc83_30 ?_
      refine x_isub xc83_31 ?_
      refine x_iret xc83_32 (Or.inl rfl) ?_
      exact k2 h0 h1
  · replace h0 := Classical.not_not.mp h0
    refine x_iloadn xc83_4 rfl ?_
    refine x_bipush xc83_5 (by decide) ?_
    refine x_ishr (M := 64) (by omega) (by omega) (by decide) (xRk (by have g0 := xRb he; omega)) xc83_7 ?_
    refine x_bipush xc83_8 (by decide) ?_
    refine x_iandm (M := 8) 3 (by decide) (by decide) (by decide) xc83_10 ?_
    refine x_iret xc83_11 (Or.inl rfl) ?_
    exact k3 h0

theorem rk83x {ro : Nat → Nat × (Nat → Int32)} {d : Nat} {Q : Option Value → pmS → Prop} {e pt : Int} {a : xA} {b : xB} (hd : 1 ≤ d) (he : xR e) (hpt : 0 ≤ pt ∧ pt ≤ 2) (hQ : Q (some (xV (uPrt e pt))) (xS a b)) : pmCs ro d 83 [xV e, xV pt] (xS a b) Q := by
  unfold uPrt at hQ
  refine pmCs_deep (d := 1) (xg83 (w83x he hpt ?_ ?_ ?_)) hd <;> intros
  all_goals (simp_all)
theorem uPrt_b {e pt : Int} : -1 ≤ uPrt e pt ∧ uPrt e pt ≤ 7 := by
  unfold uPrt
  split
  · omega
  · split <;> omega
theorem w82 {ro : Nat → Nat × (Nat → Int32)} {d : Nat} {Q : Option Value → pmS → Prop} {wh : Int} {l : Int64} {a : xA} {b : xB} (qr1 : xR wh)
    (k1 : pmWp ro d 11 82 1 6 [some (.long l), none, some (xV wh), some (xV (xL2 (xShr l 36))), none, none, none] [] (xS a b) Q) :
    pmWp ro d 11 82 1 0 [some (.long l), none, some (xV wh), none, none, none, none] [] (xS a b) Q := by
  refine x_lloadn xc82_0 rfl ?_
  refine x_bipush xc82_1 (by decide) ?_
  refine x_lushr xc82_3 ?_
  refine x_l2i xc82_4 ?_
  refine x_istoren (pl' := [some (.long l), none, some (xV wh), some (xV (xL2 (xShr l 36))), none, none, none]) xc82_5 rfl rfl ?_
  exact k1

theorem xg82 {ro : Nat → Nat × (Nat → Int32)} {d : Nat} {Q : Option Value → pmS → Prop} {a : xA} {b : xB} {wh : Int} {l : Int64} (h : pmWp ro d 11 82 1 0 [some (.long l), none, some (xV wh), none, none, none, none] [] (xS a b) Q) : pmCs ro (d + 1) 82 [.long l, xV wh] (xS a b) Q := x_go xi82 rfl rfl rfl rfl rfl h
theorem w82a {ro : Nat → Nat × (Nat → Int32)} {d : Nat} {Q : Option Value → pmS → Prop} {wh z : Int} {l : Int64} {a : xA} {b : xB} (hz0 : 0 ≤ z ∧ z ≤ 1000) (qr1 : xR wh) (hd : 1 ≤ d)
    (k1 : (¬ wh = -1) → (¬ wh = 0) → (wh < -1) → Q (some (xV (-3))) (xS a b))
    (k2 : (¬ wh = -1) → (¬ wh = 0) → (¬ wh < -1) → (wh ≤ 3 * (z % 8)) → (¬ uPrt (xL2 (xShr l (9 * ((wh - 1) / 3)))) ((wh - 1) % 3) = -1) → Q (some (xV (uPrt (xL2 (xShr l (9 * ((wh - 1) / 3)))) ((wh - 1) % 3)))) (xS a b))
    (k3 : (¬ wh = -1) → (¬ wh = 0) → (¬ wh < -1) → (wh ≤ 3 * (z % 8)) → (uPrt (xL2 (xShr l (9 * ((wh - 1) / 3)))) ((wh - 1) % 3) = -1) → Q (some (xV (-3))) (xS a b))
    (k4 : (¬ wh = -1) → (¬ wh = 0) → (¬ wh < -1) → (¬ wh ≤ 3 * (z % 8)) → Q (some (xV (-3))) (xS a b))
    (k5 : (¬ wh = -1) → (wh = 0) → Q (some (xV (z % 8))) (xS a b))
    (k6 : (wh = -1) → Q (some (xV (z / 8))) (xS a b)) :
    pmWp ro d 11 82 1 6 [some (.long l), none, some (xV wh), some (xV z), none, none, none] [] (xS a b) Q := by
  refine x_iloadn xc82_6 rfl ?_
  refine x_iconst xc82_7 ?_
  refine x_icne xc82_8 (xRk (by have g0 := xRb qr1; omega)) (xRk (by decide)) (fun h0 => ?_) (fun h0 => ?_)
  · refine x_iloadn xc82_15 rfl ?_
    refine x_bipush xc82_16 (by decide) ?_
    refine x_iandm (M := 8) 3 (by decide) (by decide) (by decide) xc82_18 ?_
    refine x_istore (pl' := [some (.long l), none, some (xV wh), some (xV z), some (xV (z % 8)), none, none]) xc82_19 rfl rfl ?_
    refine x_iloadn xc82_21 rfl ?_
    refine x_ifne xc82_22 (xRk (by have g0 := xRb qr1; omega)) (fun h1 => ?_) (fun h1 => ?_)
    · refine x_iloadn xc82_28 rfl ?_
      refine x_iconst xc82_29 ?_
      refine x_iclt xc82_30 (xRk (by have g0 := xRb qr1; omega)) (xRk (by decide)) (fun h2 => ?_) (fun h2 => ?_)
      · refine x_bipush xc82_41 (by decide) ?_
        refine x_iret xc82_43 (Or.inl rfl) ?_
        exact k1 h0 h1 h2
      · refine x_iloadn xc82_33 rfl ?_
        refine x_iconst xc82_34 ?_
        refine x_iload xc82_35 rfl ?_
        refine x_imul xc82_37 ?_
        refine x_icle xc82_38 (xRk (by have g0 := xRb qr1; omega)) (xRk (by have g0 := hz0; omega)) (fun h3 => ?_) (fun h3 => ?_)
        · refine x_iloadn xc82_44 rfl ?_
          refine x_iconst xc82_45 ?_
          refine x_isub xc82_46 ?_
          refine x_iconst xc82_47 ?_
          refine x_idiv (by have g0 := xRb qr1; omega) (xRk (by have g0 := xRb qr1; omega)) (by omega) (xRk (by decide)) xc82_48 ?_
          refine x_istore (pl' := [some (.long l), none, some (xV wh), some (xV z), some (xV (z % 8)), some (xV ((wh - 1) / 3)), none]) xc82_49 rfl rfl ?_
          refine x_lloadn xc82_51 rfl ?_
          refine x_bipush xc82_52 (by decide) ?_
          refine x_iload xc82_54 rfl ?_
          refine x_imul xc82_56 ?_
          refine x_lushr xc82_57 ?_
          refine x_l2i xc82_58 ?_
          refine x_iloadn xc82_59 rfl ?_
          refine x_iconst xc82_60 ?_
          refine x_isub xc82_61 ?_
          refine x_iconst xc82_62 ?_
          refine x_irem (by have g0 := xRb qr1; omega) (xRk (by have g0 := xRb qr1; omega)) (by omega) (xRk (by decide)) xc82_63 ?_
          refine x_cS (as := [xV (xL2 (xShr l (9 * ((wh - 1) / 3)))), xV ((wh - 1) % 3)]) (rest := []) xc82_64 rfl rfl xi83 ⟨rfl, rfl⟩ rfl rfl ?_
          refine rk83x (by omega) (xRk (by have g0 := xL2B (xShr l (9 * ((wh - 1) / 3))); omega)) (by have g0 := xRb qr1; omega) ?_
          refine x_istore (pl' := [some (.long l), none, some (xV wh), some (xV z), some (xV (z % 8)), some (xV ((wh - 1) / 3)), some (xV (uPrt (xL2 (xShr l (9 * ((wh - 1) / 3)))) ((wh - 1) % 3)))]) xc82_67 rfl rfl ?_
          refine x_iload xc82_69 rfl ?_
          refine x_iconst xc82_71 ?_
          refine x_icne xc82_72 (xRk (by have g0 := uPrt_b (e := xL2 (xShr l (9 * ((wh - 1) / 3)))) (pt := (wh - 1) % 3); omega)) (xRk (by decide)) (fun h4 => ?_) (fun h4 => ?_)
          · refine x_iload xc82_80 rfl ?_
            refine x_iret xc82_82 (Or.inl rfl) ?_
            exact k2 h0 h1 h2 h3 h4
          · replace h4 := Classical.not_not.mp h4
            refine x_bipush xc82_75 (by decide) ?_
            refine x_goto xc82_77 ?_
            refine x_iret xc82_82 (Or.inl rfl) ?_
            exact k3 h0 h1 h2 h3 h4
        · refine x_bipush xc82_41 (by decide) ?_
          refine x_iret xc82_43 (Or.inl rfl) ?_
          exact k4 h0 h1 h2 h3
    · replace h1 := Classical.not_not.mp h1
      refine x_iload xc82_25 rfl ?_
      refine x_iret xc82_27 (Or.inl rfl) ?_
      exact k5 h0 h1
  · replace h0 := Classical.not_not.mp h0
    refine x_iloadn xc82_11 rfl ?_
    refine x_iconst xc82_12 ?_
    refine x_ishr (M := 8) (by omega) (by omega) (by decide) (xRk (by have g0 := hz0; omega)) xc82_13 ?_
    refine x_iret xc82_14 (Or.inl rfl) ?_
    exact k6 h0

theorem w84 {ro : Nat → Nat × (Nat → Int32)} {d : Nat} {Q : Option Value → pmS → Prop} {p bg : Int} {a : xA} {b : xB} (qr1 : xR p) (hA : xAr a) (hb : a 0 12 = bg) (hbg : bg = 0 ∨ bg = 1) (hd : 3 ≤ d)
    (k1 : (bg = 0) → Q (some (xV (-1))) (xS a b))
    (k2 : (¬ bg = 0) → (1 ≤ p ∧ p < 4) → (¬ uSl (b 21 4) p = 8) → pmCs ro d 85 [.ref 34, .long (b 22 p), xV p] (xS a b) fun r σ' => pmWp ro d 11 84 1 49 [some (.ref 0), some (xV p), none] (r.toList ++ []) σ' Q)
    (k3 : (¬ bg = 0) → (1 ≤ p ∧ p < 4) → (uSl (b 21 4) p = 8) → Q (some (xV (-1))) (xS a b))
    (k4 : (¬ bg = 0) → (¬ (1 ≤ p ∧ p < 4)) → Q (some (xV (-1))) (xS a b)) :
    pmWp ro d 11 84 1 0 [some (.ref 0), some (xV p), none] [] (xS a b) Q := by
  refine x_aloadn xc84_0 rfl ?_
  refine x_gfi' (k := 12) (v := bg) xc84_1 rfl (Or.inr rfl) rfl xz0 hb ?_
  refine x_ifeq xc84_4 (xRk (by have g0 := hbg; omega)) (fun h0 => ?_) (fun h0 => ?_)
  · refine x_iconst xc84_30 ?_
    refine x_iret xc84_31 (Or.inl rfl) ?_
    exact k1 h0
  · refine x_iloadn xc84_7 rfl ?_
    refine x_cS (as := [xV p]) (rest := []) xc84_8 rfl rfl xi26 ⟨rfl, rfl⟩ rfl rfl ?_
    refine xk26 (by omega) (xRk (by have g0 := xRb qr1; omega)) (fun h1 => ?_) (fun h2 => ?_)
    · refine x_ifeq xc84_11 (xRk (by decide)) (fun h => absurd h (by omega)) (fun _ => ?_)
      refine x_aloadn xc84_14 rfl ?_
      refine x_gfr xc84_15 rfl rfl xz0 rfl ?_
      refine x_gfl (k := 4) xc84_18 rfl rfl rfl xz21 ?_
      refine x_iloadn xc84_21 rfl ?_
      refine x_cS (as := [.long (b 21 4), xV p]) (rest := []) xc84_22 rfl rfl xi61 ⟨rfl, rfl⟩ rfl rfl ?_
      refine rk61 (by omega) (by have g0 := xRb qr1; omega) ?_
      refine x_bipush xc84_25 (by decide) ?_
      refine x_icne xc84_27 (xRk (by have g0 := uSl_b (l := b 21 4) (j := p) (by have g0 := xRb qr1; omega) (by have g0 := xRb qr1; omega); omega)) (xRk (by decide)) (fun h4 => ?_) (fun h4 => ?_)
      · refine x_aloadn xc84_32 rfl ?_
        refine x_gfr xc84_33 rfl rfl xz0 rfl ?_
        refine x_aloadn xc84_36 rfl ?_
        refine x_gfr xc84_37 rfl rfl xz0 rfl ?_
        refine x_gfr xc84_40 rfl rfl xz21 rfl ?_
        refine x_iloadn xc84_43 rfl ?_
        refine x_lal xc84_44 xz22 (by have g0 := xRb qr1; omega) (by have g0 := xRb qr1; omega) (by have g0 := xRb qr1; omega) ?_
        refine x_iloadn xc84_45 rfl ?_
        refine x_cV (as := [.long (b 22 p), xV p]) (rest := []) xc84_46 rfl xi85 xz34 ⟨rfl, rfl⟩ rfl rfl ?_
        exact k2 h0 h1 h4
      · replace h4 := Classical.not_not.mp h4
        refine x_iconst xc84_30 ?_
        refine x_iret xc84_31 (Or.inl rfl) ?_
        exact k3 h0 h1 h4
    · refine x_ifeq xc84_11 (xRk (by decide)) (fun _ => ?_) (fun h => absurd h (by omega))
      refine x_iconst xc84_30 ?_
      refine x_iret xc84_31 (Or.inl rfl) ?_
      exact k4 h0 h2

theorem xg84 {ro : Nat → Nat × (Nat → Int32)} {d : Nat} {Q : Option Value → pmS → Prop} {a : xA} {b : xB} {p : Int} (h : pmWp ro d 11 84 1 0 [some (.ref 0), some (xV p), none] [] (xS a b) Q) : pmCs ro (d + 1) 84 [.ref 0, xV p] (xS a b) Q := x_go xi84 rfl rfl rfl rfl rfl h
theorem w86 {ro : Nat → Nat × (Nat → Int32)} {d : Nat} {Q : Option Value → pmS → Prop} {e : Int} {a : xA} {b : xB} (he : 0 ≤ e ∧ e ≤ 1000000)
    (k1 : Q (some (xV ((e / 8192) % 8 - 1))) (xS a b)) :
    pmWp ro d 11 86 1 0 [some (xV e)] [] (xS a b) Q := by
  refine x_iloadn xc86_0 rfl ?_
  refine x_bipush xc86_1 (by decide) ?_
  refine x_ishr (M := 8192) (by omega) (by omega) (by decide) (xRk (by have g0 := he; omega)) xc86_3 ?_
  refine x_bipush xc86_4 (by decide) ?_
  refine x_iandm (M := 8) 3 (by decide) (by decide) (by decide) xc86_6 ?_
  refine x_iconst xc86_7 ?_
  refine x_isub xc86_8 ?_
  refine x_iret xc86_9 (Or.inl rfl) ?_
  exact k1

theorem xg86 {ro : Nat → Nat × (Nat → Int32)} {d : Nat} {Q : Option Value → pmS → Prop} {a : xA} {b : xB} {e : Int} (h : pmWp ro d 11 86 1 0 [some (xV e)] [] (xS a b) Q) : pmCs ro (d + 1) 86 [xV e] (xS a b) Q := x_go xi86 rfl rfl rfl rfl rfl h
theorem rk86 {ro : Nat → Nat × (Nat → Int32)} {d : Nat} {Q : Option Value → pmS → Prop} {e : Int} {a : xA} {b : xB} (hd : 1 ≤ d) (he : 0 ≤ e ∧ e ≤ 1000000) (hQ : Q (some (xV (e / 8192 % 8 - 1))) (xS a b)) : pmCs ro d 86 [xV e] (xS a b) Q := pmCs_deep (d := 1) (xg86 (w86 he hQ)) hd
theorem w84a {ro : Nat → Nat × (Nat → Int32)} {d : Nat} {Q : Option Value → pmS → Prop} {p c : Int} {a : xA} {b : xB} (hc : 0 ≤ c ∧ c ≤ 50000) (hd : 1 ≤ d)
    (k1 : (¬ c = 0) → Q (some (xV (c / 8192 % 8 - 1))) (xS a b))
    (k2 : (c = 0) → Q (some (xV (-2))) (xS a b)) :
    pmWp ro d 11 84 1 49 [some (.ref 0), some (xV p), none] [xV c] (xS a b) Q := by
  refine x_istoren (pl' := [some (.ref 0), some (xV p), some (xV c)]) xc84_49 rfl rfl ?_
  refine x_iloadn xc84_50 rfl ?_
  refine x_ifne xc84_51 (xRk (by have g0 := hc; omega)) (fun h0 => ?_) (fun h0 => ?_)
  · refine x_iloadn xc84_59 rfl ?_
    refine x_cS (as := [xV c]) (rest := []) xc84_60 rfl rfl xi86 ⟨rfl, rfl⟩ rfl rfl ?_
    refine rk86 (by omega) (by have g0 := hc; omega) ?_
    refine x_iret xc84_63 (Or.inl rfl) ?_
    exact k1 h0
  · replace h0 := Classical.not_not.mp h0
    refine x_bipush xc84_54 (by decide) ?_
    refine x_goto xc84_56 ?_
    refine x_iret xc84_63 (Or.inl rfl) ?_
    exact k2 h0

theorem w185 {ro : Nat → Nat × (Nat → Int32)} {d : Nat} {Q : Option Value → pmS → Prop} {p bg : Int} {a : xA} {b : xB} (qr1 : xR p) (hA : xAr a) (hb : a 87 4 = bg) (hbg : bg = 0 ∨ bg = 1) (hd : 3 ≤ d)
    (k1 : (bg = 0) → Q (some (xV 0)) (xS a b))
    (k2 : (¬ bg = 0) → (1 ≤ p ∧ p < 4) → (¬ a 88 p = 7) → Q (some (xV 1)) (xS a b))
    (k3 : (¬ bg = 0) → (1 ≤ p ∧ p < 4) → (a 88 p = 7) → Q (some (xV 0)) (xS a b))
    (k4 : (¬ bg = 0) → (¬ (1 ≤ p ∧ p < 4)) → Q (some (xV 0)) (xS a b)) :
    pmWp ro d 12 185 2 0 [some (.ref 87), some (xV p)] [] (xS a b) Q := by
  refine x_aloadn xc185_0 rfl ?_
  refine x_gfi' (k := 4) (v := bg) xc185_1 rfl (Or.inr rfl) rfl xz87 hb ?_
  refine x_ifeq xc185_4 (xRk (by have g0 := hbg; omega)) (fun h0 => ?_) (fun h0 => ?_)
  · refine x_iconst xc185_26 ?_
    refine x_iret xc185_27 (Or.inr ⟨rfl, (by omega)⟩) ?_
    exact k1 h0
  · refine x_iloadn xc185_7 rfl ?_
    refine x_cS (as := [xV p]) (rest := []) xc185_8 rfl rfl xi146 ⟨rfl, rfl⟩ rfl rfl ?_
    refine xk146 (by omega) (xRk (by have g0 := xRb qr1; omega)) (fun h1 => ?_) (fun h2 => ?_)
    · refine x_ifeq xc185_11 (xRk (by decide)) (fun h => absurd h (by omega)) (fun _ => ?_)
      refine x_aloadn xc185_14 rfl ?_
      refine x_iloadn xc185_15 rfl ?_
      refine x_cV (as := [xV p]) (rest := []) xc185_16 rfl xi176 xz87 ⟨rfl, rfl⟩ rfl rfl ?_
      refine rk176 (by omega) hA (by have g0 := xRb qr1; omega) (fun h4 => ?_) (fun h5 => ?_)
      · refine x_ifeq xc185_19 (xRk (by decide)) (fun h => absurd h (by omega)) (fun _ => ?_)
        refine x_iconst xc185_22 ?_
        refine x_goto xc185_23 ?_
        refine x_iret xc185_27 (Or.inr ⟨rfl, (by omega)⟩) ?_
        exact k2 h0 h1 h4
      · refine x_ifeq xc185_19 (xRk (by decide)) (fun _ => ?_) (fun h => absurd h (by omega))
        refine x_iconst xc185_26 ?_
        refine x_iret xc185_27 (Or.inr ⟨rfl, (by omega)⟩) ?_
        exact k3 h0 h1 h5
    · refine x_ifeq xc185_11 (xRk (by decide)) (fun _ => ?_) (fun h => absurd h (by omega))
      refine x_iconst xc185_26 ?_
      refine x_iret xc185_27 (Or.inr ⟨rfl, (by omega)⟩) ?_
      exact k4 h0 h2

theorem xg185 {ro : Nat → Nat × (Nat → Int32)} {d : Nat} {Q : Option Value → pmS → Prop} {a : xA} {b : xB} {p : Int} (h : pmWp ro d 12 185 2 0 [some (.ref 87), some (xV p)] [] (xS a b) Q) : pmCs ro (d + 1) 185 [.ref 87, xV p] (xS a b) Q := x_go xi185 rfl rfl rfl rfl rfl h
theorem rk185 {ro : Nat → Nat × (Nat → Int32)} {d : Nat} {Q : Option Value → pmS → Prop} {p bg : Int} {a : xA} {b : xB} (hd : 4 ≤ d) (hA : xAr a) (q1 : xR p) (hb : a 87 4 = bg) (hbg : bg = 0 ∨ bg = 1) (hT : bg = 1 ∧ (1 ≤ p ∧ p < 4) ∧ ¬ a 88 p = 7 → Q (some (xV 1)) (xS a b)) (hF : ¬ (bg = 1 ∧ (1 ≤ p ∧ p < 4) ∧ ¬ a 88 p = 7) → Q (some (xV 0)) (xS a b)) : pmCs ro d 185 [.ref 87, xV p] (xS a b) Q := by
  refine pmCs_deep (d := 4) (xg185 (w185 q1 hA hb hbg (by decide) ?_ ?_ ?_ ?_)) hd <;> intros
  all_goals first
    | (refine hF (fun h => ?_); omega)
    | (refine hT ⟨by omega, ?_, ?_⟩ <;> assumption)
theorem w184 {ro : Nat → Nat × (Nat → Int32)} {d : Nat} {Q : Option Value → pmS → Prop} {p k bg : Int} {a : xA} {b : xB} (qr1 : xR p) (qr2 : xR k) (hA : xAr a) (hb : a 87 4 = bg) (hbg : bg = 0 ∨ bg = 1) (hd : 5 ≤ d)
    (k1 : (bg = 1 ∧ (1 ≤ p ∧ p < 4) ∧ ¬ a 88 p = 7) → (k < 0) → Q (some (xV 0)) (xS a b))
    (k2 : (bg = 1 ∧ (1 ≤ p ∧ p < 4) ∧ ¬ a 88 p = 7) → (¬ k < 0) → (a 96 p ≤ k) → Q (some (xV 0)) (xS a b))
    (k3 : (bg = 1 ∧ (1 ≤ p ∧ p < 4) ∧ ¬ a 88 p = 7) → (¬ k < 0) → (¬ a 96 p ≤ k) → Q (some (xV 1)) (xS a b))
    (k4 : (¬ (bg = 1 ∧ (1 ≤ p ∧ p < 4) ∧ ¬ a 88 p = 7)) → Q (some (xV 0)) (xS a b)) :
    pmWp ro d 12 184 2 0 [some (.ref 87), some (xV p), some (xV k)] [] (xS a b) Q := by
  refine x_aloadn xc184_0 rfl ?_
  refine x_iloadn xc184_1 rfl ?_
  refine x_cV (as := [xV p]) (rest := []) xc184_2 rfl xi185 xz87 ⟨rfl, rfl⟩ rfl rfl ?_
  refine rk185 (by omega) hA qr1 hb hbg (fun h0 => ?_) (fun h1 => ?_)
  · refine x_ifeq xc184_5 (xRk (by decide)) (fun h => absurd h (by omega)) (fun _ => ?_)
    refine x_iloadn xc184_8 rfl ?_
    refine x_iflt xc184_9 (xRk (by have g0 := xRb qr2; omega)) (fun h3 => ?_) (fun h3 => ?_)
    · refine x_iconst xc184_26 ?_
      refine x_iret xc184_27 (Or.inr ⟨rfl, (by omega)⟩) ?_
      exact k1 h0 h3
    · refine x_iloadn xc184_12 rfl ?_
      refine x_aloadn xc184_13 rfl ?_
      refine x_gfr xc184_14 rfl rfl xz87 rfl ?_
      refine x_iloadn xc184_17 rfl ?_
      refine x_ial xc184_18 xz96 rfl (by have g0 := xRb qr1; omega) (by have g0 := xRb qr1; omega) (by have g0 := xRb qr1; omega) ?_
      refine x_icge xc184_19 (xRk (by have g0 := xRb qr2; omega)) (xRk (by have g0 := xRb qr1; have g1 := xRb (hA 96 p); omega)) (fun h4 => ?_) (fun h4 => ?_)
      · refine x_iconst xc184_26 ?_
        refine x_iret xc184_27 (Or.inr ⟨rfl, (by omega)⟩) ?_
        exact k2 h0 h3 h4
      · refine x_iconst xc184_22 ?_
        refine x_goto xc184_23 ?_
        refine x_iret xc184_27 (Or.inr ⟨rfl, (by omega)⟩) ?_
        exact k3 h0 h3 h4
  · refine x_ifeq xc184_5 (xRk (by decide)) (fun _ => ?_) (fun h => absurd h (by omega))
    refine x_iconst xc184_26 ?_
    refine x_iret xc184_27 (Or.inr ⟨rfl, (by omega)⟩) ?_
    exact k4 h1

theorem xg184 {ro : Nat → Nat × (Nat → Int32)} {d : Nat} {Q : Option Value → pmS → Prop} {a : xA} {b : xB} {p k : Int} (h : pmWp ro d 12 184 2 0 [some (.ref 87), some (xV p), some (xV k)] [] (xS a b) Q) : pmCs ro (d + 1) 184 [.ref 87, xV p, xV k] (xS a b) Q := x_go xi184 rfl rfl rfl rfl rfl h
theorem w183 {ro : Nat → Nat × (Nat → Int32)} {d : Nat} {Q : Option Value → pmS → Prop} {p k : Int} {a : xA} {b : xB}
    (k1 : pmCs ro d 184 [.ref 87, xV p, xV k] (xS a b) fun r σ' => pmWp ro d 12 183 1 6 [some (.ref 87), some (xV p), some (xV k)] (r.toList ++ []) σ' Q) :
    pmWp ro d 12 183 1 0 [some (.ref 87), some (xV p), some (xV k)] [] (xS a b) Q := by
  refine x_aloadn xc183_0 rfl ?_
  refine x_iloadn xc183_1 rfl ?_
  refine x_iloadn xc183_2 rfl ?_
  refine x_cV (as := [xV p, xV k]) (rest := []) xc183_3 rfl xi184 xz87 ⟨rfl, rfl⟩ rfl rfl ?_
  exact k1

theorem xg183 {ro : Nat → Nat × (Nat → Int32)} {d : Nat} {Q : Option Value → pmS → Prop} {a : xA} {b : xB} {p k : Int} (h : pmWp ro d 12 183 1 0 [some (.ref 87), some (xV p), some (xV k)] [] (xS a b) Q) : pmCs ro (d + 1) 183 [.ref 87, xV p, xV k] (xS a b) Q := x_go xi183 rfl rfl rfl rfl rfl h
theorem w183a {ro : Nat → Nat × (Nat → Int32)} {d : Nat} {Q : Option Value → pmS → Prop} {p k z : Int} {a : xA} {b : xB} (hzz : z = 0 ∨ z = 1)
    (k1 : (¬ z = 0) → pmCs ro d 186 [.ref 87, xV p] (xS a b) fun r σ' => pmWp ro d 12 183 1 16 [some (.ref 87), some (xV p), some (xV k)] (r.toList ++ []) σ' Q)
    (k2 : (z = 0) → Q (some (xV (-1))) (xS a b)) :
    pmWp ro d 12 183 1 6 [some (.ref 87), some (xV p), some (xV k)] [xV z] (xS a b) Q := by
  refine x_ifne xc183_6 (xRk (by have g0 := hzz; omega)) (fun h0 => ?_) (fun h0 => ?_)
  · refine x_aloadn xc183_11 rfl ?_
    refine x_iloadn xc183_12 rfl ?_
    refine x_cV (as := [xV p]) (rest := []) xc183_13 rfl xi186 xz87 ⟨rfl, rfl⟩ rfl rfl ?_
    exact k1 h0
  · replace h0 := Classical.not_not.mp h0
    refine x_iconst xc183_9 ?_
    refine x_iret xc183_10 (Or.inl rfl) ?_
    exact k2 h0

theorem w183b {ro : Nat → Nat × (Nat → Int32)} {d : Nat} {Q : Option Value → pmS → Prop} {p k : Int} {a : xA} {b : xB}
    (k1 : pmCs ro d 187 [.ref 87, xV 0, xV p, xV k] (xS a b) fun r σ' => pmWp ro d 12 183 1 23 [some (.ref 87), some (xV p), some (xV k)] (r.toList ++ []) σ' Q) :
    pmWp ro d 12 183 1 16 [some (.ref 87), some (xV p), some (xV k)] [] (xS a b) Q := by
  refine x_aloadn xc183_16 rfl ?_
  refine x_iconst xc183_17 ?_
  refine x_iloadn xc183_18 rfl ?_
  refine x_iloadn xc183_19 rfl ?_
  refine x_cV (as := [xV 0, xV p, xV k]) (rest := []) xc183_20 rfl xi187 xz87 ⟨rfl, rfl⟩ rfl rfl ?_
  exact k1

theorem w183c {ro : Nat → Nat × (Nat → Int32)} {d : Nat} {Q : Option Value → pmS → Prop} {p k z : Int} {a : xA} {b : xB} (hzz : z = 0 ∨ z = 1)
    (k1 : (z = 0) → Q (some (xV 0)) (xS a b))
    (k2 : (¬ z = 0) → Q (some (xV 1)) (xS a b)) :
    pmWp ro d 12 183 1 23 [some (.ref 87), some (xV p), some (xV k)] [xV z] (xS a b) Q := by
  refine x_ifeq xc183_23 (xRk (by have g0 := hzz; omega)) (fun h0 => ?_) (fun h0 => ?_)
  · refine x_iconst xc183_30 ?_
    refine x_iret xc183_31 (Or.inl rfl) ?_
    exact k1 h0
  · refine x_iconst xc183_26 ?_
    refine x_goto xc183_27 ?_
    refine x_iret xc183_31 (Or.inl rfl) ?_
    exact k2 h0

theorem w189 {ro : Nat → Nat × (Nat → Int32)} {d : Nat} {Q : Option Value → pmS → Prop} {p k wh : Int} {a : xA} {b : xB}
    (k1 : pmCs ro d 184 [.ref 87, xV p, xV k] (xS a b) fun r σ' => pmWp ro d 12 189 1 6 [some (.ref 87), some (xV p), some (xV k), some (xV wh), none, none] (r.toList ++ []) σ' Q) :
    pmWp ro d 12 189 1 0 [some (.ref 87), some (xV p), some (xV k), some (xV wh), none, none] [] (xS a b) Q := by
  refine x_aloadn xc189_0 rfl ?_
  refine x_iloadn xc189_1 rfl ?_
  refine x_iloadn xc189_2 rfl ?_
  refine x_cV (as := [xV p, xV k]) (rest := []) xc189_3 rfl xi184 xz87 ⟨rfl, rfl⟩ rfl rfl ?_
  exact k1

theorem xg189 {ro : Nat → Nat × (Nat → Int32)} {d : Nat} {Q : Option Value → pmS → Prop} {a : xA} {b : xB} {p k wh : Int} (h : pmWp ro d 12 189 1 0 [some (.ref 87), some (xV p), some (xV k), some (xV wh), none, none] [] (xS a b) Q) : pmCs ro (d + 1) 189 [.ref 87, xV p, xV k, xV wh] (xS a b) Q := x_go xi189 rfl rfl rfl rfl rfl h
theorem w189a {ro : Nat → Nat × (Nat → Int32)} {d : Nat} {Q : Option Value → pmS → Prop} {p k wh z : Int} {a : xA} {b : xB} (hzz : z = 0 ∨ z = 1)
    (k1 : (¬ z = 0) → pmCs ro d 186 [.ref 87, xV p] (xS a b) fun r σ' => pmWp ro d 12 189 1 16 [some (.ref 87), some (xV p), some (xV k), some (xV wh), none, none] (r.toList ++ []) σ' Q)
    (k2 : (z = 0) → Q (some (xV (-1))) (xS a b)) :
    pmWp ro d 12 189 1 6 [some (.ref 87), some (xV p), some (xV k), some (xV wh), none, none] [xV z] (xS a b) Q := by
  refine x_ifne xc189_6 (xRk (by have g0 := hzz; omega)) (fun h0 => ?_) (fun h0 => ?_)
  · refine x_aloadn xc189_11 rfl ?_
    refine x_iloadn xc189_12 rfl ?_
    refine x_cV (as := [xV p]) (rest := []) xc189_13 rfl xi186 xz87 ⟨rfl, rfl⟩ rfl rfl ?_
    exact k1 h0
  · replace h0 := Classical.not_not.mp h0
    refine x_iconst xc189_9 ?_
    refine x_iret xc189_10 (Or.inl rfl) ?_
    exact k2 h0

theorem w189b {ro : Nat → Nat × (Nat → Int32)} {d : Nat} {Q : Option Value → pmS → Prop} {p k wh : Int} {a : xA} {b : xB}
    (k1 : pmCs ro d 187 [.ref 87, xV 0, xV p, xV k] (xS a b) fun r σ' => pmWp ro d 12 189 1 23 [some (.ref 87), some (xV p), some (xV k), some (xV wh), none, none] (r.toList ++ []) σ' Q) :
    pmWp ro d 12 189 1 16 [some (.ref 87), some (xV p), some (xV k), some (xV wh), none, none] [] (xS a b) Q := by
  refine x_aloadn xc189_16 rfl ?_
  refine x_iconst xc189_17 ?_
  refine x_iloadn xc189_18 rfl ?_
  refine x_iloadn xc189_19 rfl ?_
  refine x_cV (as := [xV 0, xV p, xV k]) (rest := []) xc189_20 rfl xi187 xz87 ⟨rfl, rfl⟩ rfl rfl ?_
  exact k1

theorem w189c {ro : Nat → Nat × (Nat → Int32)} {d : Nat} {Q : Option Value → pmS → Prop} {p k wh z : Int} {a : xA} {b : xB} (hzz : z = 0 ∨ z = 1)
    (k1 : (z = 0) → pmCs ro d 190 [.ref 87, xV p, xV k] (xS a b) fun r σ' => pmWp ro d 12 189 1 34 [some (.ref 87), some (xV p), some (xV k), some (xV wh), none, none] (r.toList ++ []) σ' Q)
    (k2 : (¬ z = 0) → Q (some (xV (-1))) (xS a b)) :
    pmWp ro d 12 189 1 23 [some (.ref 87), some (xV p), some (xV k), some (xV wh), none, none] [xV z] (xS a b) Q := by
  refine x_ifeq xc189_23 (xRk (by have g0 := hzz; omega)) (fun h0 => ?_) (fun h0 => ?_)
  · refine x_aloadn xc189_28 rfl ?_
    refine x_iloadn xc189_29 rfl ?_
    refine x_iloadn xc189_30 rfl ?_
    refine x_cV (as := [xV p, xV k]) (rest := []) xc189_31 rfl xi190 xz87 ⟨rfl, rfl⟩ rfl rfl ?_
    exact k1 h0
  · refine x_iconst xc189_26 ?_
    refine x_iret xc189_27 (Or.inl rfl) ?_
    exact k2 h0

theorem w189d {ro : Nat → Nat × (Nat → Int32)} {d : Nat} {Q : Option Value → pmS → Prop} {p k wh z : Int} {a : xA} {b : xB} (hzz : z = 0 ∨ z = 1)
    (k1 : (¬ z = 0) → pmWp ro d 12 189 1 40 [some (.ref 87), some (xV p), some (xV k), some (xV wh), none, none] [] (xS a b) Q)
    (k2 : (z = 0) → Q (some (xV (-2))) (xS a b)) :
    pmWp ro d 12 189 1 34 [some (.ref 87), some (xV p), some (xV k), some (xV wh), none, none] [xV z] (xS a b) Q := by
  refine x_ifne xc189_34 (xRk (by have g0 := hzz; omega)) (fun h0 => ?_) (fun h0 => ?_)
  · exact k1 h0
  · replace h0 := Classical.not_not.mp h0
    refine x_bipush xc189_37 (by decide) ?_
    refine x_iret xc189_39 (Or.inl rfl) ?_
    exact k2 h0

theorem w189e {ro : Nat → Nat × (Nat → Int32)} {d : Nat} {Q : Option Value → pmS → Prop} {p k wh m : Int} {a : xA} {b : xB} (qr1 : xR wh) (hm : a 87 34 = m) (hm0 : 0 ≤ m ∧ m ≤ 4)
    (k1 : (¬ wh = -1) → (¬ wh = 0) → (wh < 0) → Q (some (xV (-3))) (xS a b))
    (k2 : (¬ wh = -1) → (¬ wh = 0) → (¬ wh < 0) → (wh ≤ 3 * m) → pmWp ro d 12 189 1 88 [some (.ref 87), some (xV p), some (xV k), some (xV wh), some (xV (a 111 ((wh - 1) / 3))), none] [] (xS a b) Q)
    (k3 : (¬ wh = -1) → (¬ wh = 0) → (¬ wh < 0) → (¬ wh ≤ 3 * m) → Q (some (xV (-3))) (xS a b))
    (k4 : (¬ wh = -1) → (wh = 0) → Q (some (xV m)) (xS a b))
    (k5 : (wh = -1) → Q (some (xV (a 87 33))) (xS a b)) :
    pmWp ro d 12 189 1 40 [some (.ref 87), some (xV p), some (xV k), some (xV wh), none, none] [] (xS a b) Q := by
  refine x_iloadn xc189_40 rfl ?_
  refine x_iconst xc189_41 ?_
  refine x_icne xc189_42 (xRk (by have g0 := xRb qr1; omega)) (xRk (by decide)) (fun h0 => ?_) (fun h0 => ?_)
  · refine x_iloadn xc189_50 rfl ?_
    refine x_ifne xc189_51 (xRk (by have g0 := xRb qr1; omega)) (fun h1 => ?_) (fun h1 => ?_)
    · refine x_iloadn xc189_59 rfl ?_
      refine x_iflt xc189_60 (xRk (by have g0 := xRb qr1; omega)) (fun h2 => ?_) (fun h2 => ?_)
      · refine x_bipush xc189_73 (by decide) ?_
        refine x_iret xc189_75 (Or.inl rfl) ?_
        exact k1 h0 h1 h2
      · refine x_iloadn xc189_63 rfl ?_
        refine x_iconst xc189_64 ?_
        refine x_aloadn xc189_65 rfl ?_
        refine x_gfi' (k := 34) (v := m) xc189_66 rfl (Or.inl rfl) rfl xz87 hm ?_
        refine x_imul xc189_69 ?_
        refine x_icle xc189_70 (xRk (by have g0 := xRb qr1; omega)) (xRk (by have g0 := hm0; omega)) (fun h3 => ?_) (fun h3 => ?_)
        · refine x_aloadn xc189_76 rfl ?_
          refine x_gfr xc189_77 rfl rfl xz87 rfl ?_
          refine x_iloadn xc189_80 rfl ?_
          refine x_iconst xc189_81 ?_
          refine x_isub xc189_82 ?_
          refine x_iconst xc189_83 ?_
          refine x_idiv (by have g0 := xRb qr1; omega) (xRk (by have g0 := xRb qr1; omega)) (by omega) (xRk (by decide)) xc189_84 ?_
          refine x_ial xc189_85 xz111 rfl (by have g0 := xRb qr1; omega) (by have g0 := xRb qr1; omega) (by have g0 := xRb qr1; omega) ?_
          refine x_istore (pl' := [some (.ref 87), some (xV p), some (xV k), some (xV wh), some (xV (a 111 ((wh - 1) / 3))), none]) xc189_86 rfl rfl ?_
          exact k2 h0 h1 h2 h3
        · refine x_bipush xc189_73 (by decide) ?_
          refine x_iret xc189_75 (Or.inl rfl) ?_
          exact k3 h0 h1 h2 h3
    · replace h1 := Classical.not_not.mp h1
      refine x_aloadn xc189_54 rfl ?_
      refine x_gfi' (k := 34) (v := m) xc189_55 rfl (Or.inl rfl) rfl xz87 hm ?_
      refine x_iret xc189_58 (Or.inl rfl) ?_
      exact k4 h0 h1
  · replace h0 := Classical.not_not.mp h0
    refine x_aloadn xc189_45 rfl ?_
    refine x_gfi (k := 33) xc189_46 rfl (Or.inl rfl) rfl xz87 ?_
    refine x_iret xc189_49 (Or.inl rfl) ?_
    exact k5 h0

theorem w189f {ro : Nat → Nat × (Nat → Int32)} {d : Nat} {Q : Option Value → pmS → Prop} {p k wh c : Int} {a : xA} {b : xB} (hw : 1 ≤ wh ∧ wh ≤ 12) (hc : 0 ≤ c ∧ c ≤ 60) (hkk : 0 ≤ uK c ∧ uK c ≤ 6) (hxk : -1 ≤ uX c ∧ uX c ≤ 6) (hyk : -1 ≤ uY c ∧ uY c ≤ 3) (hd : 1 ≤ d)
    (k1 : (¬ wh % 3 = 1) → (¬ wh % 3 = 2) → (¬ uY c = -1) → Q (some (xV (uY c))) (xS a b))
    (k2 : (¬ wh % 3 = 1) → (¬ wh % 3 = 2) → (uY c = -1) → Q (some (xV (-3))) (xS a b))
    (k3 : (¬ wh % 3 = 1) → (wh % 3 = 2) → (¬ uX c = -1) → Q (some (xV (uX c))) (xS a b))
    (k4 : (¬ wh % 3 = 1) → (wh % 3 = 2) → (uX c = -1) → Q (some (xV (-3))) (xS a b))
    (k5 : (wh % 3 = 1) → (¬ uK c = -1) → Q (some (xV (uK c))) (xS a b))
    (k6 : (wh % 3 = 1) → (uK c = -1) → Q (some (xV (-3))) (xS a b)) :
    pmWp ro d 12 189 1 88 [some (.ref 87), some (xV p), some (xV k), some (xV wh), some (xV c), none] [] (xS a b) Q := by
  refine x_iloadn xc189_88 rfl ?_
  refine x_iconst xc189_89 ?_
  refine x_irem (by have g0 := hw; omega) (xRk (by have g0 := hw; omega)) (by omega) (xRk (by decide)) xc189_90 ?_
  refine x_iconst xc189_91 ?_
  refine x_icne xc189_92 (xRk (by have g0 := hw; omega)) (xRk (by decide)) (fun h0 => ?_) (fun h0 => ?_)
  · refine x_iloadn xc189_103 rfl ?_
    refine x_iconst xc189_104 ?_
    refine x_irem (by have g0 := hw; omega) (xRk (by have g0 := hw; omega)) (by omega) (xRk (by decide)) xc189_105 ?_
    refine x_iconst xc189_106 ?_
    refine x_icne xc189_107 (xRk (by have g0 := hw; omega)) (xRk (by decide)) (fun h1 => ?_) (fun h1 => ?_)
    · refine x_iload xc189_118 rfl ?_
      refine x_cS (as := [xV c]) (rest := []) xc189_120 rfl rfl xi194 ⟨rfl, rfl⟩ rfl rfl ?_
      refine rk194 (by omega) ⟨by omega, by omega⟩ ?_
      refine x_istore (pl' := [some (.ref 87), some (xV p), some (xV k), some (xV wh), some (xV c), some (xV (uY c))]) xc189_123 rfl rfl ?_
      refine x_iload xc189_125 rfl ?_
      refine x_iconst xc189_127 ?_
      refine x_icne xc189_128 (xRk (by have g0 := hyk; omega)) (xRk (by decide)) (fun h2 => ?_) (fun h2 => ?_)
      · refine x_iload xc189_136 rfl ?_
        refine x_iret xc189_138 (Or.inl rfl) ?_
        exact k1 h0 h1 h2
      · replace h2 := Classical.not_not.mp h2
        refine x_bipush xc189_131 (by decide) ?_
        refine x_goto xc189_133 ?_
        refine x_iret xc189_138 (Or.inl rfl) ?_
        exact k2 h0 h1 h2
    · replace h1 := Classical.not_not.mp h1
      refine x_iload xc189_110 rfl ?_
      refine x_cS (as := [xV c]) (rest := []) xc189_112 rfl rfl xi192 ⟨rfl, rfl⟩ rfl rfl ?_
      refine rk192 (by omega) ⟨by omega, by omega⟩ ?_
      refine x_goto xc189_115 ?_
      refine x_istore (pl' := [some (.ref 87), some (xV p), some (xV k), some (xV wh), some (xV c), some (xV (uX c))]) xc189_123 rfl rfl ?_
      refine x_iload xc189_125 rfl ?_
      refine x_iconst xc189_127 ?_
      refine x_icne xc189_128 (xRk (by have g0 := hxk; omega)) (xRk (by decide)) (fun h3 => ?_) (fun h3 => ?_)
      · refine x_iload xc189_136 rfl ?_
        refine x_iret xc189_138 (Or.inl rfl) ?_
        exact k3 h0 h1 h3
      · replace h3 := Classical.not_not.mp h3
        refine x_bipush xc189_131 (by decide) ?_
        refine x_goto xc189_133 ?_
        refine x_iret xc189_138 (Or.inl rfl) ?_
        exact k4 h0 h1 h3
  · replace h0 := Classical.not_not.mp h0
    refine x_iload xc189_95 rfl ?_
    refine x_cS (as := [xV c]) (rest := []) xc189_97 rfl rfl xi193 ⟨rfl, rfl⟩ rfl rfl ?_
    refine rk193 (by omega) ⟨by omega, by omega⟩ ?_
    refine x_goto xc189_100 ?_
    refine x_istore (pl' := [some (.ref 87), some (xV p), some (xV k), some (xV wh), some (xV c), some (xV (uK c))]) xc189_123 rfl rfl ?_
    refine x_iload xc189_125 rfl ?_
    refine x_iconst xc189_127 ?_
    refine x_icne xc189_128 (xRk (by have g0 := hkk; omega)) (xRk (by decide)) (fun h4 => ?_) (fun h4 => ?_)
    · refine x_iload xc189_136 rfl ?_
      refine x_iret xc189_138 (Or.inl rfl) ?_
      exact k5 h0 h4
    · replace h4 := Classical.not_not.mp h4
      refine x_bipush xc189_131 (by decide) ?_
      refine x_goto xc189_133 ?_
      refine x_iret xc189_138 (Or.inl rfl) ?_
      exact k6 h0 h4

theorem w197 {ro : Nat → Nat × (Nat → Int32)} {d : Nat} {Q : Option Value → pmS → Prop} {p bg : Int} {a : xA} {b : xB} (qr1 : xR p) (hA : xAr a) (hb : a 87 4 = bg) (hbg : bg = 0 ∨ bg = 1) (hd : 5 ≤ d)
    (k1 : (bg = 1 ∧ (1 ≤ p ∧ p < 4) ∧ ¬ a 88 p = 7) → pmCs ro d 198 [.ref 87, xV p] (xS a b) fun r σ' => pmWp ro d 12 197 1 15 [some (.ref 87), some (xV p)] (r.toList ++ []) σ' Q)
    (k2 : (¬ (bg = 1 ∧ (1 ≤ p ∧ p < 4) ∧ ¬ a 88 p = 7)) → Q (some (xV (-1))) (xS a b)) :
    pmWp ro d 12 197 1 0 [some (.ref 87), some (xV p)] [] (xS a b) Q := by
  refine x_aloadn xc197_0 rfl ?_
  refine x_iloadn xc197_1 rfl ?_
  refine x_cV (as := [xV p]) (rest := []) xc197_2 rfl xi185 xz87 ⟨rfl, rfl⟩ rfl rfl ?_
  refine rk185 (by omega) hA qr1 hb hbg (fun h0 => ?_) (fun h1 => ?_)
  · refine x_ifne xc197_5 (xRk (by decide)) (fun _ => ?_) (fun h => absurd h (by omega))
    refine x_aloadn xc197_10 rfl ?_
    refine x_iloadn xc197_11 rfl ?_
    refine x_cV (as := [xV p]) (rest := []) xc197_12 rfl xi198 xz87 ⟨rfl, rfl⟩ rfl rfl ?_
    exact k1 h0
  · refine x_ifne xc197_5 (xRk (by decide)) (fun h => absurd h (by omega)) (fun _ => ?_)
    refine x_iconst xc197_8 ?_
    refine x_iret xc197_9 (Or.inl rfl) ?_
    exact k2 h1

theorem xg197 {ro : Nat → Nat × (Nat → Int32)} {d : Nat} {Q : Option Value → pmS → Prop} {a : xA} {b : xB} {p : Int} (h : pmWp ro d 12 197 1 0 [some (.ref 87), some (xV p)] [] (xS a b) Q) : pmCs ro (d + 1) 197 [.ref 87, xV p] (xS a b) Q := x_go xi197 rfl rfl rfl rfl rfl h
theorem w197a {ro : Nat → Nat × (Nat → Int32)} {d : Nat} {Q : Option Value → pmS → Prop} {p k : Int} {a : xA} {b : xB} (hk : a 87 42 = k) (hk0 : -1 ≤ k ∧ k ≤ 2)
    (k1 : (¬ k = -1) → Q (some (xV k)) (xS a b))
    (k2 : (k = -1) → Q (some (xV (-2))) (xS a b)) :
    pmWp ro d 12 197 1 15 [some (.ref 87), some (xV p)] [] (xS a b) Q := by
  refine x_aloadn xc197_15 rfl ?_
  refine x_gfi' (k := 42) (v := k) xc197_16 rfl (Or.inl rfl) rfl xz87 hk ?_
  refine x_iconst xc197_19 ?_
  refine x_icne xc197_20 (xRk (by have g0 := hk0; omega)) (xRk (by decide)) (fun h0 => ?_) (fun h0 => ?_)
  · refine x_aloadn xc197_28 rfl ?_
    refine x_gfi' (k := 42) (v := k) xc197_29 rfl (Or.inl rfl) rfl xz87 hk ?_
    refine x_iret xc197_32 (Or.inl rfl) ?_
    exact k1 h0
  · replace h0 := Classical.not_not.mp h0
    refine x_bipush xc197_23 (by decide) ?_
    refine x_goto xc197_25 ?_
    refine x_iret xc197_32 (Or.inl rfl) ?_
    exact k2 h0

end
