/-! exact: believes, where, lies, count -/
section
set_option maxRecDepth 100000
theorem xi27 : pmInf[27]? = some pmI_27 := rfl
theorem xi68 : pmInf[68]? = some pmI_68 := rfl
theorem xi69 : pmInf[69]? = some pmI_69 := rfl
theorem xi132 : pmInf[132]? = some pmI_132 := rfl
theorem xi133 : pmInf[133]? = some pmI_133 := rfl
theorem xi134 : pmInf[134]? = some pmI_134 := rfl
theorem xi135 : pmInf[135]? = some pmI_135 := rfl
theorem xi182 : pmInf[182]? = some pmI_182 := rfl
theorem xi243 : pmInf[243]? = some pmI_243 := rfl
theorem xi244 : pmInf[244]? = some pmI_244 := rfl
theorem xi245 : pmInf[245]? = some pmI_245 := rfl
theorem xc27_0 : pmCode 27 0 = some (.iload_n 1) ∧ 0 + 1 = 1 := ⟨rfl, rfl⟩
theorem xc27_1 : pmCode 27 1 = some (.ifCond .eq 10) ∧ ((1 : Nat) : Int) + 10 = ((11 : Nat) : Int) ∧ 1 + 3 = 4 := ⟨rfl, rfl, rfl⟩
theorem xc27_4 : pmCode 27 4 = some (.iload_n 2) ∧ 4 + 1 = 5 := ⟨rfl, rfl⟩
theorem xc27_5 : pmCode 27 5 = some (.invokestatic 113) ∧ 5 + 3 = 8 := ⟨rfl, rfl⟩
theorem xc27_8 : pmCode 27 8 = some (.goto 23) ∧ ((8 : Nat) : Int) + 23 = ((31 : Nat) : Int) := ⟨rfl, rfl⟩
theorem xc27_11 : pmCode 27 11 = some (.iload_n 2) ∧ 11 + 1 = 12 := ⟨rfl, rfl⟩
theorem xc27_12 : pmCode 27 12 = some (.ifCond .lt 18) ∧ ((12 : Nat) : Int) + 18 = ((30 : Nat) : Int) ∧ 12 + 3 = 15 := ⟨rfl, rfl, rfl⟩
theorem xc27_15 : pmCode 27 15 = some (.iload_n 2) ∧ 15 + 1 = 16 := ⟨rfl, rfl⟩
theorem xc27_16 : pmCode 27 16 = some (.aload_n 0) ∧ 16 + 1 = 17 := ⟨rfl, rfl⟩
theorem xc27_17 : pmCode 27 17 = some (.getfield 19) ∧ 17 + 3 = 20 := ⟨rfl, rfl⟩
theorem xc27_20 : pmCode 27 20 = some (.getfield 124) ∧ 20 + 3 = 23 := ⟨rfl, rfl⟩
theorem xc27_23 : pmCode 27 23 = some (.if_icmp .ge 7) ∧ ((23 : Nat) : Int) + 7 = ((30 : Nat) : Int) ∧ 23 + 3 = 26 := ⟨rfl, rfl, rfl⟩
theorem xc27_26 : pmCode 27 26 = some (.iconst 1) ∧ 26 + 1 = 27 := ⟨rfl, rfl⟩
theorem xc27_27 : pmCode 27 27 = some (.goto 4) ∧ ((27 : Nat) : Int) + 4 = ((31 : Nat) : Int) := ⟨rfl, rfl⟩
theorem xc27_30 : pmCode 27 30 = some (.iconst 0) ∧ 30 + 1 = 31 := ⟨rfl, rfl⟩
theorem xc27_31 : pmCode 27 31 = some .ireturn := rfl
theorem xc68_0 : pmCode 68 0 = some (.iload_n 1) ∧ 0 + 1 = 1 := ⟨rfl, rfl⟩
theorem xc68_1 : pmCode 68 1 = some (.invokestatic 144) ∧ 1 + 3 = 4 := ⟨rfl, rfl⟩
theorem xc68_4 : pmCode 68 4 = some (.ifCond .eq 12) ∧ ((4 : Nat) : Int) + 12 = ((16 : Nat) : Int) ∧ 4 + 3 = 7 := ⟨rfl, rfl, rfl⟩
theorem xc68_7 : pmCode 68 7 = some (.aload_n 0) ∧ 7 + 1 = 8 := ⟨rfl, rfl⟩
theorem xc68_8 : pmCode 68 8 = some (.iload_n 2) ∧ 8 + 1 = 9 := ⟨rfl, rfl⟩
theorem xc68_9 : pmCode 68 9 = some (.iload_n 3) ∧ 9 + 1 = 10 := ⟨rfl, rfl⟩
theorem xc68_10 : pmCode 68 10 = some (.invokevirtual 147) ∧ 10 + 3 = 13 := ⟨rfl, rfl⟩
theorem xc68_13 : pmCode 68 13 = some (.ifCond .ne 5) ∧ ((13 : Nat) : Int) + 5 = ((18 : Nat) : Int) ∧ 13 + 3 = 16 := ⟨rfl, rfl, rfl⟩
theorem xc68_16 : pmCode 68 16 = some (.iconst (-1)) ∧ 16 + 1 = 17 := ⟨rfl, rfl⟩
theorem xc68_17 : pmCode 68 17 = some .ireturn := rfl
theorem xc68_18 : pmCode 68 18 = some (.iload_n 2) ∧ 18 + 1 = 19 := ⟨rfl, rfl⟩
theorem xc68_19 : pmCode 68 19 = some (.ifCond .eq 7) ∧ ((19 : Nat) : Int) + 7 = ((26 : Nat) : Int) ∧ 19 + 3 = 22 := ⟨rfl, rfl, rfl⟩
theorem xc68_22 : pmCode 68 22 = some (.iload_n 3) ∧ 22 + 1 = 23 := ⟨rfl, rfl⟩
theorem xc68_23 : pmCode 68 23 = some (.goto 6) ∧ ((23 : Nat) : Int) + 6 = ((29 : Nat) : Int) := ⟨rfl, rfl⟩
theorem xc68_26 : pmCode 68 26 = some (.iconst 4) ∧ 26 + 1 = 27 := ⟨rfl, rfl⟩
theorem xc68_27 : pmCode 68 27 = some (.iload_n 3) ∧ 27 + 1 = 28 := ⟨rfl, rfl⟩
theorem xc68_28 : pmCode 68 28 = some .iadd ∧ 28 + 1 = 29 := ⟨rfl, rfl⟩
theorem xc68_29 : pmCode 68 29 = some (.istore 4) ∧ 29 + 2 = 31 := ⟨rfl, rfl⟩
theorem xc68_31 : pmCode 68 31 = some (.aload_n 0) ∧ 31 + 1 = 32 := ⟨rfl, rfl⟩
theorem xc68_32 : pmCode 68 32 = some (.getfield 40) ∧ 32 + 3 = 35 := ⟨rfl, rfl⟩
theorem xc68_35 : pmCode 68 35 = some (.getfield 116) ∧ 35 + 3 = 38 := ⟨rfl, rfl⟩
theorem xc68_38 : pmCode 68 38 = some (.iload 4) ∧ 38 + 2 = 40 := ⟨rfl, rfl⟩
theorem xc68_40 : pmCode 68 40 = some (.invokestatic 206) ∧ 40 + 3 = 43 := ⟨rfl, rfl⟩
theorem xc68_43 : pmCode 68 43 = some (.istore 5) ∧ 43 + 2 = 45 := ⟨rfl, rfl⟩
theorem xc68_45 : pmCode 68 45 = some (.iload_n 2) ∧ 45 + 1 = 46 := ⟨rfl, rfl⟩
theorem xc68_46 : pmCode 68 46 = some (.ifCond .eq 16) ∧ ((46 : Nat) : Int) + 16 = ((62 : Nat) : Int) ∧ 46 + 3 = 49 := ⟨rfl, rfl, rfl⟩
theorem xc68_49 : pmCode 68 49 = some (.iload_n 3) ∧ 49 + 1 = 50 := ⟨rfl, rfl⟩
theorem xc68_50 : pmCode 68 50 = some (.iload_n 1) ∧ 50 + 1 = 51 := ⟨rfl, rfl⟩
theorem xc68_51 : pmCode 68 51 = some (.if_icmp .ne 7) ∧ ((51 : Nat) : Int) + 7 = ((58 : Nat) : Int) ∧ 51 + 3 = 54 := ⟨rfl, rfl, rfl⟩
theorem xc68_54 : pmCode 68 54 = some (.iconst 1) ∧ 54 + 1 = 55 := ⟨rfl, rfl⟩
theorem xc68_55 : pmCode 68 55 = some (.goto 21) ∧ ((55 : Nat) : Int) + 21 = ((76 : Nat) : Int) := ⟨rfl, rfl⟩
theorem xc68_58 : pmCode 68 58 = some (.iconst 0) ∧ 58 + 1 = 59 := ⟨rfl, rfl⟩
theorem xc68_59 : pmCode 68 59 = some (.goto 17) ∧ ((59 : Nat) : Int) + 17 = ((76 : Nat) : Int) := ⟨rfl, rfl⟩
theorem xc68_62 : pmCode 68 62 = some (.iload 5) ∧ 62 + 2 = 64 := ⟨rfl, rfl⟩
theorem xc68_64 : pmCode 68 64 = some (.bipush 9) ∧ 64 + 2 = 66 := ⟨rfl, rfl⟩
theorem xc68_66 : pmCode 68 66 = some (.iload_n 1) ∧ 66 + 1 = 67 := ⟨rfl, rfl⟩
theorem xc68_67 : pmCode 68 67 = some .iadd ∧ 67 + 1 = 68 := ⟨rfl, rfl⟩
theorem xc68_68 : pmCode 68 68 = some (.if_icmp .ne 7) ∧ ((68 : Nat) : Int) + 7 = ((75 : Nat) : Int) ∧ 68 + 3 = 71 := ⟨rfl, rfl, rfl⟩
theorem xc68_71 : pmCode 68 71 = some (.iconst 1) ∧ 71 + 1 = 72 := ⟨rfl, rfl⟩
theorem xc68_72 : pmCode 68 72 = some (.goto 4) ∧ ((72 : Nat) : Int) + 4 = ((76 : Nat) : Int) := ⟨rfl, rfl⟩
theorem xc68_75 : pmCode 68 75 = some (.iconst 0) ∧ 75 + 1 = 76 := ⟨rfl, rfl⟩
theorem xc68_76 : pmCode 68 76 = some (.istore 6) ∧ 76 + 2 = 78 := ⟨rfl, rfl⟩
theorem xc68_78 : pmCode 68 78 = some (.iload 6) ∧ 78 + 2 = 80 := ⟨rfl, rfl⟩
theorem xc68_80 : pmCode 68 80 = some (.ifCond .eq 8) ∧ ((80 : Nat) : Int) + 8 = ((88 : Nat) : Int) ∧ 80 + 3 = 83 := ⟨rfl, rfl, rfl⟩
theorem xc68_83 : pmCode 68 83 = some (.iload 5) ∧ 83 + 2 = 85 := ⟨rfl, rfl⟩
theorem xc68_85 : pmCode 68 85 = some (.goto 17) ∧ ((85 : Nat) : Int) + 17 = ((102 : Nat) : Int) := ⟨rfl, rfl⟩
theorem xc68_88 : pmCode 68 88 = some (.aload_n 0) ∧ 88 + 1 = 89 := ⟨rfl, rfl⟩
theorem xc68_89 : pmCode 68 89 = some (.getfield 40) ∧ 89 + 3 = 92 := ⟨rfl, rfl⟩
theorem xc68_92 : pmCode 68 92 = some (.getfield 151) ∧ 92 + 3 = 95 := ⟨rfl, rfl⟩
theorem xc68_95 : pmCode 68 95 = some (.iload_n 1) ∧ 95 + 1 = 96 := ⟨rfl, rfl⟩
theorem xc68_96 : pmCode 68 96 = some .laload ∧ 96 + 1 = 97 := ⟨rfl, rfl⟩
theorem xc68_97 : pmCode 68 97 = some (.iload 4) ∧ 97 + 2 = 99 := ⟨rfl, rfl⟩
theorem xc68_99 : pmCode 68 99 = some (.invokestatic 206) ∧ 99 + 3 = 102 := ⟨rfl, rfl⟩
theorem xc68_102 : pmCode 68 102 = some (.invokestatic 210) ∧ 102 + 3 = 105 := ⟨rfl, rfl⟩
theorem xc68_105 : pmCode 68 105 = some .ireturn := rfl
theorem xc69_0 : pmCode 69 0 = some (.iload_n 0) ∧ 0 + 1 = 1 := ⟨rfl, rfl⟩
theorem xc69_1 : pmCode 69 1 = some (.bipush 13) ∧ 1 + 2 = 3 := ⟨rfl, rfl⟩
theorem xc69_3 : pmCode 69 3 = some (.if_icmp .ne 6) ∧ ((3 : Nat) : Int) + 6 = ((9 : Nat) : Int) ∧ 3 + 3 = 6 := ⟨rfl, rfl, rfl⟩
theorem xc69_6 : pmCode 69 6 = some (.bipush 20) ∧ 6 + 2 = 8 := ⟨rfl, rfl⟩
theorem xc69_8 : pmCode 69 8 = some .ireturn := rfl
theorem xc69_9 : pmCode 69 9 = some (.iload_n 0) ∧ 9 + 1 = 10 := ⟨rfl, rfl⟩
theorem xc69_10 : pmCode 69 10 = some (.bipush 9) ∧ 10 + 2 = 12 := ⟨rfl, rfl⟩
theorem xc69_12 : pmCode 69 12 = some (.if_icmp .lt 13) ∧ ((12 : Nat) : Int) + 13 = ((25 : Nat) : Int) ∧ 12 + 3 = 15 := ⟨rfl, rfl, rfl⟩
theorem xc69_15 : pmCode 69 15 = some (.bipush 10) ∧ 15 + 2 = 17 := ⟨rfl, rfl⟩
theorem xc69_17 : pmCode 69 17 = some (.iload_n 0) ∧ 17 + 1 = 18 := ⟨rfl, rfl⟩
theorem xc69_18 : pmCode 69 18 = some .iadd ∧ 18 + 1 = 19 := ⟨rfl, rfl⟩
theorem xc69_19 : pmCode 69 19 = some (.bipush 9) ∧ 19 + 2 = 21 := ⟨rfl, rfl⟩
theorem xc69_21 : pmCode 69 21 = some .isub ∧ 21 + 1 = 22 := ⟨rfl, rfl⟩
theorem xc69_22 : pmCode 69 22 = some (.goto 6) ∧ ((22 : Nat) : Int) + 6 = ((28 : Nat) : Int) := ⟨rfl, rfl⟩
theorem xc69_25 : pmCode 69 25 = some (.iload_n 0) ∧ 25 + 1 = 26 := ⟨rfl, rfl⟩
theorem xc69_26 : pmCode 69 26 = some (.iconst 1) ∧ 26 + 1 = 27 := ⟨rfl, rfl⟩
theorem xc69_27 : pmCode 69 27 = some .isub ∧ 27 + 1 = 28 := ⟨rfl, rfl⟩
theorem xc69_28 : pmCode 69 28 = some .ireturn := rfl
theorem xc132_0 : pmCode 132 0 = some (.iload_n 1) ∧ 0 + 1 = 1 := ⟨rfl, rfl⟩
theorem xc132_1 : pmCode 132 1 = some (.invokestatic 113) ∧ 1 + 3 = 4 := ⟨rfl, rfl⟩
theorem xc132_4 : pmCode 132 4 = some (.ifCond .eq 20) ∧ ((4 : Nat) : Int) + 20 = ((24 : Nat) : Int) ∧ 4 + 3 = 7 := ⟨rfl, rfl, rfl⟩
theorem xc132_7 : pmCode 132 7 = some (.aload_n 0) ∧ 7 + 1 = 8 := ⟨rfl, rfl⟩
theorem xc132_8 : pmCode 132 8 = some (.getfield 40) ∧ 8 + 3 = 11 := ⟨rfl, rfl⟩
theorem xc132_11 : pmCode 132 11 = some (.getfield 116) ∧ 11 + 3 = 14 := ⟨rfl, rfl⟩
theorem xc132_14 : pmCode 132 14 = some (.iload_n 1) ∧ 14 + 1 = 15 := ⟨rfl, rfl⟩
theorem xc132_15 : pmCode 132 15 = some (.invokestatic 206) ∧ 15 + 3 = 18 := ⟨rfl, rfl⟩
theorem xc132_18 : pmCode 132 18 = some (.invokestatic 210) ∧ 18 + 3 = 21 := ⟨rfl, rfl⟩
theorem xc132_21 : pmCode 132 21 = some (.goto 4) ∧ ((21 : Nat) : Int) + 4 = ((25 : Nat) : Int) := ⟨rfl, rfl⟩
theorem xc132_24 : pmCode 132 24 = some (.iconst (-1)) ∧ 24 + 1 = 25 := ⟨rfl, rfl⟩
theorem xc132_25 : pmCode 132 25 = some .ireturn := rfl
theorem xc133_0 : pmCode 133 0 = some (.iload_n 1) ∧ 0 + 1 = 1 := ⟨rfl, rfl⟩
theorem xc133_1 : pmCode 133 1 = some (.ifCond .lt 33) ∧ ((1 : Nat) : Int) + 33 = ((34 : Nat) : Int) ∧ 1 + 3 = 4 := ⟨rfl, rfl, rfl⟩
theorem xc133_4 : pmCode 133 4 = some (.iload_n 1) ∧ 4 + 1 = 5 := ⟨rfl, rfl⟩
theorem xc133_5 : pmCode 133 5 = some (.aload_n 0) ∧ 5 + 1 = 6 := ⟨rfl, rfl⟩
theorem xc133_6 : pmCode 133 6 = some (.getfield 19) ∧ 6 + 3 = 9 := ⟨rfl, rfl⟩
theorem xc133_9 : pmCode 133 9 = some (.getfield 124) ∧ 9 + 3 = 12 := ⟨rfl, rfl⟩
theorem xc133_12 : pmCode 133 12 = some (.if_icmp .ge 22) ∧ ((12 : Nat) : Int) + 22 = ((34 : Nat) : Int) ∧ 12 + 3 = 15 := ⟨rfl, rfl, rfl⟩
theorem xc133_15 : pmCode 133 15 = some (.aload_n 0) ∧ 15 + 1 = 16 := ⟨rfl, rfl⟩
theorem xc133_16 : pmCode 133 16 = some (.getfield 40) ∧ 16 + 3 = 19 := ⟨rfl, rfl⟩
theorem xc133_19 : pmCode 133 19 = some (.getfield 116) ∧ 19 + 3 = 22 := ⟨rfl, rfl⟩
theorem xc133_22 : pmCode 133 22 = some (.iconst 4) ∧ 22 + 1 = 23 := ⟨rfl, rfl⟩
theorem xc133_23 : pmCode 133 23 = some (.iload_n 1) ∧ 23 + 1 = 24 := ⟨rfl, rfl⟩
theorem xc133_24 : pmCode 133 24 = some .iadd ∧ 24 + 1 = 25 := ⟨rfl, rfl⟩
theorem xc133_25 : pmCode 133 25 = some (.invokestatic 206) ∧ 25 + 3 = 28 := ⟨rfl, rfl⟩
theorem xc133_28 : pmCode 133 28 = some (.invokestatic 210) ∧ 28 + 3 = 31 := ⟨rfl, rfl⟩
theorem xc133_31 : pmCode 133 31 = some (.goto 4) ∧ ((31 : Nat) : Int) + 4 = ((35 : Nat) : Int) := ⟨rfl, rfl⟩
theorem xc133_34 : pmCode 133 34 = some (.iconst (-1)) ∧ 34 + 1 = 35 := ⟨rfl, rfl⟩
theorem xc133_35 : pmCode 133 35 = some .ireturn := rfl
theorem xc134_0 : pmCode 134 0 = some (.iload_n 1) ∧ 0 + 1 = 1 := ⟨rfl, rfl⟩
theorem xc134_1 : pmCode 134 1 = some (.tableswitch 128 0 8 #[51, 59, 72, 80, 88, 96, 104, 112, 120]) ∧ ((1 : Nat) : Int) + 128 = ((129 : Nat) : Int) := ⟨rfl, rfl⟩
theorem xc134_52 : pmCode 134 52 = some (.aload_n 0) ∧ 52 + 1 = 53 := ⟨rfl, rfl⟩
theorem xc134_53 : pmCode 134 53 = some (.getfield 40) ∧ 53 + 3 = 56 := ⟨rfl, rfl⟩
theorem xc134_56 : pmCode 134 56 = some (.getfield 234) ∧ 56 + 3 = 59 := ⟨rfl, rfl⟩
theorem xc134_59 : pmCode 134 59 = some .ireturn := rfl
theorem xc134_60 : pmCode 134 60 = some (.aload_n 0) ∧ 60 + 1 = 61 := ⟨rfl, rfl⟩
theorem xc134_61 : pmCode 134 61 = some (.getfield 101) ∧ 61 + 3 = 64 := ⟨rfl, rfl⟩
theorem xc134_64 : pmCode 134 64 = some (.ifCond .eq 7) ∧ ((64 : Nat) : Int) + 7 = ((71 : Nat) : Int) ∧ 64 + 3 = 67 := ⟨rfl, rfl, rfl⟩
theorem xc134_67 : pmCode 134 67 = some (.iconst 1) ∧ 67 + 1 = 68 := ⟨rfl, rfl⟩
theorem xc134_68 : pmCode 134 68 = some (.goto 4) ∧ ((68 : Nat) : Int) + 4 = ((72 : Nat) : Int) := ⟨rfl, rfl⟩
theorem xc134_71 : pmCode 134 71 = some (.iconst 0) ∧ 71 + 1 = 72 := ⟨rfl, rfl⟩
theorem xc134_72 : pmCode 134 72 = some .ireturn := rfl
theorem xc134_73 : pmCode 134 73 = some (.aload_n 0) ∧ 73 + 1 = 74 := ⟨rfl, rfl⟩
theorem xc134_74 : pmCode 134 74 = some (.getfield 19) ∧ 74 + 3 = 77 := ⟨rfl, rfl⟩
theorem xc134_77 : pmCode 134 77 = some (.getfield 124) ∧ 77 + 3 = 80 := ⟨rfl, rfl⟩
theorem xc134_80 : pmCode 134 80 = some .ireturn := rfl
theorem xc134_81 : pmCode 134 81 = some (.aload_n 0) ∧ 81 + 1 = 82 := ⟨rfl, rfl⟩
theorem xc134_82 : pmCode 134 82 = some (.getfield 33) ∧ 82 + 3 = 85 := ⟨rfl, rfl⟩
theorem xc134_85 : pmCode 134 85 = some (.getfield 186) ∧ 85 + 3 = 88 := ⟨rfl, rfl⟩
theorem xc134_88 : pmCode 134 88 = some .ireturn := rfl
theorem xc134_89 : pmCode 134 89 = some (.aload_n 0) ∧ 89 + 1 = 90 := ⟨rfl, rfl⟩
theorem xc134_90 : pmCode 134 90 = some (.getfield 40) ∧ 90 + 3 = 93 := ⟨rfl, rfl⟩
theorem xc134_93 : pmCode 134 93 = some (.getfield 299) ∧ 93 + 3 = 96 := ⟨rfl, rfl⟩
theorem xc134_96 : pmCode 134 96 = some .ireturn := rfl
theorem xc134_97 : pmCode 134 97 = some (.aload_n 0) ∧ 97 + 1 = 98 := ⟨rfl, rfl⟩
theorem xc134_98 : pmCode 134 98 = some (.getfield 40) ∧ 98 + 3 = 101 := ⟨rfl, rfl⟩
theorem xc134_101 : pmCode 134 101 = some (.getfield 302) ∧ 101 + 3 = 104 := ⟨rfl, rfl⟩
theorem xc134_104 : pmCode 134 104 = some .ireturn := rfl
theorem xc134_105 : pmCode 134 105 = some (.aload_n 0) ∧ 105 + 1 = 106 := ⟨rfl, rfl⟩
theorem xc134_106 : pmCode 134 106 = some (.getfield 40) ∧ 106 + 3 = 109 := ⟨rfl, rfl⟩
theorem xc134_109 : pmCode 134 109 = some (.getfield 305) ∧ 109 + 3 = 112 := ⟨rfl, rfl⟩
theorem xc134_112 : pmCode 134 112 = some .ireturn := rfl
theorem xc134_113 : pmCode 134 113 = some (.aload_n 0) ∧ 113 + 1 = 114 := ⟨rfl, rfl⟩
theorem xc134_114 : pmCode 134 114 = some (.getfield 10) ∧ 114 + 3 = 117 := ⟨rfl, rfl⟩
theorem xc134_117 : pmCode 134 117 = some (.getfield 159) ∧ 117 + 3 = 120 := ⟨rfl, rfl⟩
theorem xc134_120 : pmCode 134 120 = some .ireturn := rfl
theorem xc134_121 : pmCode 134 121 = some (.aload_n 0) ∧ 121 + 1 = 122 := ⟨rfl, rfl⟩
theorem xc134_122 : pmCode 134 122 = some (.getfield 40) ∧ 122 + 3 = 125 := ⟨rfl, rfl⟩
theorem xc134_125 : pmCode 134 125 = some (.getfield 282) ∧ 125 + 3 = 128 := ⟨rfl, rfl⟩
theorem xc134_128 : pmCode 134 128 = some .ireturn := rfl
theorem xc134_129 : pmCode 134 129 = some (.aload_n 0) ∧ 129 + 1 = 130 := ⟨rfl, rfl⟩
theorem xc134_130 : pmCode 134 130 = some (.iload_n 1) ∧ 130 + 1 = 131 := ⟨rfl, rfl⟩
theorem xc134_131 : pmCode 134 131 = some (.invokevirtual 308) ∧ 131 + 3 = 134 := ⟨rfl, rfl⟩
theorem xc134_134 : pmCode 134 134 = some .ireturn := rfl
theorem xc135_0 : pmCode 135 0 = some (.iload_n 1) ∧ 0 + 1 = 1 := ⟨rfl, rfl⟩
theorem xc135_1 : pmCode 135 1 = some (.bipush 30) ∧ 1 + 2 = 3 := ⟨rfl, rfl⟩
theorem xc135_3 : pmCode 135 3 = some (.if_icmp .lt 34) ∧ ((3 : Nat) : Int) + 34 = ((37 : Nat) : Int) ∧ 3 + 3 = 6 := ⟨rfl, rfl, rfl⟩
theorem xc135_6 : pmCode 135 6 = some (.iload_n 1) ∧ 6 + 1 = 7 := ⟨rfl, rfl⟩
theorem xc135_7 : pmCode 135 7 = some (.bipush 30) ∧ 7 + 2 = 9 := ⟨rfl, rfl⟩
theorem xc135_9 : pmCode 135 9 = some .isub ∧ 9 + 1 = 10 := ⟨rfl, rfl⟩
theorem xc135_10 : pmCode 135 10 = some (.aload_n 0) ∧ 10 + 1 = 11 := ⟨rfl, rfl⟩
theorem xc135_11 : pmCode 135 11 = some (.getfield 33) ∧ 11 + 3 = 14 := ⟨rfl, rfl⟩
theorem xc135_14 : pmCode 135 14 = some (.getfield 186) ∧ 14 + 3 = 17 := ⟨rfl, rfl⟩
theorem xc135_17 : pmCode 135 17 = some (.if_icmp .ge 18) ∧ ((17 : Nat) : Int) + 18 = ((35 : Nat) : Int) ∧ 17 + 3 = 20 := ⟨rfl, rfl, rfl⟩
theorem xc135_20 : pmCode 135 20 = some (.aload_n 0) ∧ 20 + 1 = 21 := ⟨rfl, rfl⟩
theorem xc135_21 : pmCode 135 21 = some (.getfield 33) ∧ 21 + 3 = 24 := ⟨rfl, rfl⟩
theorem xc135_24 : pmCode 135 24 = some (.getfield 311) ∧ 24 + 3 = 27 := ⟨rfl, rfl⟩
theorem xc135_27 : pmCode 135 27 = some (.iload_n 1) ∧ 27 + 1 = 28 := ⟨rfl, rfl⟩
theorem xc135_28 : pmCode 135 28 = some (.bipush 30) ∧ 28 + 2 = 30 := ⟨rfl, rfl⟩
theorem xc135_30 : pmCode 135 30 = some .isub ∧ 30 + 1 = 31 := ⟨rfl, rfl⟩
theorem xc135_31 : pmCode 135 31 = some .iaload ∧ 31 + 1 = 32 := ⟨rfl, rfl⟩
theorem xc135_32 : pmCode 135 32 = some (.goto 4) ∧ ((32 : Nat) : Int) + 4 = ((36 : Nat) : Int) := ⟨rfl, rfl⟩
theorem xc135_35 : pmCode 135 35 = some (.iconst (-1)) ∧ 35 + 1 = 36 := ⟨rfl, rfl⟩
theorem xc135_36 : pmCode 135 36 = some .ireturn := rfl
theorem xc135_37 : pmCode 135 37 = some (.iload_n 1) ∧ 37 + 1 = 38 := ⟨rfl, rfl⟩
theorem xc135_38 : pmCode 135 38 = some (.bipush 20) ∧ 38 + 2 = 40 := ⟨rfl, rfl⟩
theorem xc135_40 : pmCode 135 40 = some (.if_icmp .lt 64) ∧ ((40 : Nat) : Int) + 64 = ((104 : Nat) : Int) ∧ 40 + 3 = 43 := ⟨rfl, rfl, rfl⟩
theorem xc135_43 : pmCode 135 43 = some (.iload_n 1) ∧ 43 + 1 = 44 := ⟨rfl, rfl⟩
theorem xc135_44 : pmCode 135 44 = some (.bipush 20) ∧ 44 + 2 = 46 := ⟨rfl, rfl⟩
theorem xc135_46 : pmCode 135 46 = some .isub ∧ 46 + 1 = 47 := ⟨rfl, rfl⟩
theorem xc135_47 : pmCode 135 47 = some (.aload_n 0) ∧ 47 + 1 = 48 := ⟨rfl, rfl⟩
theorem xc135_48 : pmCode 135 48 = some (.getfield 19) ∧ 48 + 3 = 51 := ⟨rfl, rfl⟩
theorem xc135_51 : pmCode 135 51 = some (.getfield 124) ∧ 51 + 3 = 54 := ⟨rfl, rfl⟩
theorem xc135_54 : pmCode 135 54 = some (.if_icmp .ge 28) ∧ ((54 : Nat) : Int) + 28 = ((82 : Nat) : Int) ∧ 54 + 3 = 57 := ⟨rfl, rfl, rfl⟩
theorem xc135_57 : pmCode 135 57 = some (.aload_n 0) ∧ 57 + 1 = 58 := ⟨rfl, rfl⟩
theorem xc135_58 : pmCode 135 58 = some (.getfield 40) ∧ 58 + 3 = 61 := ⟨rfl, rfl⟩
theorem xc135_61 : pmCode 135 61 = some (.getfield 116) ∧ 61 + 3 = 64 := ⟨rfl, rfl⟩
theorem xc135_64 : pmCode 135 64 = some (.iconst 4) ∧ 64 + 1 = 65 := ⟨rfl, rfl⟩
theorem xc135_65 : pmCode 135 65 = some (.iload_n 1) ∧ 65 + 1 = 66 := ⟨rfl, rfl⟩
theorem xc135_66 : pmCode 135 66 = some .iadd ∧ 66 + 1 = 67 := ⟨rfl, rfl⟩
theorem xc135_67 : pmCode 135 67 = some (.bipush 20) ∧ 67 + 2 = 69 := ⟨rfl, rfl⟩
theorem xc135_69 : pmCode 135 69 = some .isub ∧ 69 + 1 = 70 := ⟨rfl, rfl⟩
theorem xc135_70 : pmCode 135 70 = some (.invokestatic 206) ∧ 70 + 3 = 73 := ⟨rfl, rfl⟩
theorem xc135_73 : pmCode 135 73 = some (.bipush 13) ∧ 73 + 2 = 75 := ⟨rfl, rfl⟩
theorem xc135_75 : pmCode 135 75 = some (.if_icmp .ne 7) ∧ ((75 : Nat) : Int) + 7 = ((82 : Nat) : Int) ∧ 75 + 3 = 78 := ⟨rfl, rfl, rfl⟩
theorem xc135_78 : pmCode 135 78 = some (.iconst 1) ∧ 78 + 1 = 79 := ⟨rfl, rfl⟩
theorem xc135_79 : pmCode 135 79 = some (.goto 4) ∧ ((79 : Nat) : Int) + 4 = ((83 : Nat) : Int) := ⟨rfl, rfl⟩
theorem xc135_82 : pmCode 135 82 = some (.iconst 0) ∧ 82 + 1 = 83 := ⟨rfl, rfl⟩
theorem xc135_83 : pmCode 135 83 = some (.istore_n 2) ∧ 83 + 1 = 84 := ⟨rfl, rfl⟩
theorem xc135_84 : pmCode 135 84 = some (.iload_n 2) ∧ 84 + 1 = 85 := ⟨rfl, rfl⟩
theorem xc135_85 : pmCode 135 85 = some (.ifCond .eq 17) ∧ ((85 : Nat) : Int) + 17 = ((102 : Nat) : Int) ∧ 85 + 3 = 88 := ⟨rfl, rfl, rfl⟩
theorem xc135_88 : pmCode 135 88 = some (.aload_n 0) ∧ 88 + 1 = 89 := ⟨rfl, rfl⟩
theorem xc135_89 : pmCode 135 89 = some (.getfield 40) ∧ 89 + 3 = 92 := ⟨rfl, rfl⟩
theorem xc135_92 : pmCode 135 92 = some (.iload_n 1) ∧ 92 + 1 = 93 := ⟨rfl, rfl⟩
theorem xc135_93 : pmCode 135 93 = some (.bipush 20) ∧ 93 + 2 = 95 := ⟨rfl, rfl⟩
theorem xc135_95 : pmCode 135 95 = some .isub ∧ 95 + 1 = 96 := ⟨rfl, rfl⟩
theorem xc135_96 : pmCode 135 96 = some (.invokevirtual 314) ∧ 96 + 3 = 99 := ⟨rfl, rfl⟩
theorem xc135_99 : pmCode 135 99 = some (.goto 4) ∧ ((99 : Nat) : Int) + 4 = ((103 : Nat) : Int) := ⟨rfl, rfl⟩
theorem xc135_102 : pmCode 135 102 = some (.iconst (-1)) ∧ 102 + 1 = 103 := ⟨rfl, rfl⟩
theorem xc135_103 : pmCode 135 103 = some .ireturn := rfl
theorem xc135_104 : pmCode 135 104 = some (.iload_n 1) ∧ 104 + 1 = 105 := ⟨rfl, rfl⟩
theorem xc135_105 : pmCode 135 105 = some (.bipush 10) ∧ 105 + 2 = 107 := ⟨rfl, rfl⟩
theorem xc135_107 : pmCode 135 107 = some .isub ∧ 107 + 1 = 108 := ⟨rfl, rfl⟩
theorem xc135_108 : pmCode 135 108 = some (.invokestatic 144) ∧ 108 + 3 = 111 := ⟨rfl, rfl⟩
theorem xc135_111 : pmCode 135 111 = some (.ifCond .eq 18) ∧ ((111 : Nat) : Int) + 18 = ((129 : Nat) : Int) ∧ 111 + 3 = 114 := ⟨rfl, rfl, rfl⟩
theorem xc135_114 : pmCode 135 114 = some (.aload_n 0) ∧ 114 + 1 = 115 := ⟨rfl, rfl⟩
theorem xc135_115 : pmCode 135 115 = some (.getfield 26) ∧ 115 + 3 = 118 := ⟨rfl, rfl⟩
theorem xc135_118 : pmCode 135 118 = some (.getfield 166) ∧ 118 + 3 = 121 := ⟨rfl, rfl⟩
theorem xc135_121 : pmCode 135 121 = some (.iload_n 1) ∧ 121 + 1 = 122 := ⟨rfl, rfl⟩
theorem xc135_122 : pmCode 135 122 = some (.bipush 10) ∧ 122 + 2 = 124 := ⟨rfl, rfl⟩
theorem xc135_124 : pmCode 135 124 = some .isub ∧ 124 + 1 = 125 := ⟨rfl, rfl⟩
theorem xc135_125 : pmCode 135 125 = some .iaload ∧ 125 + 1 = 126 := ⟨rfl, rfl⟩
theorem xc135_126 : pmCode 135 126 = some (.goto 4) ∧ ((126 : Nat) : Int) + 4 = ((130 : Nat) : Int) := ⟨rfl, rfl⟩
theorem xc135_129 : pmCode 135 129 = some (.iconst (-1)) ∧ 129 + 1 = 130 := ⟨rfl, rfl⟩
theorem xc135_130 : pmCode 135 130 = some .ireturn := rfl
theorem xc182_0 : pmCode 182 0 = some (.iload_n 1) ∧ 0 + 1 = 1 := ⟨rfl, rfl⟩
theorem xc182_1 : pmCode 182 1 = some (.invokestatic 150) ∧ 1 + 3 = 4 := ⟨rfl, rfl⟩
theorem xc182_4 : pmCode 182 4 = some (.ifCond .ne 5) ∧ ((4 : Nat) : Int) + 5 = ((9 : Nat) : Int) ∧ 4 + 3 = 7 := ⟨rfl, rfl, rfl⟩
theorem xc182_7 : pmCode 182 7 = some (.iconst (-1)) ∧ 7 + 1 = 8 := ⟨rfl, rfl⟩
theorem xc182_8 : pmCode 182 8 = some .ireturn := rfl
theorem xc182_9 : pmCode 182 9 = some (.iload_n 2) ∧ 9 + 1 = 10 := ⟨rfl, rfl⟩
theorem xc182_10 : pmCode 182 10 = some (.ifCond .eq 41) ∧ ((10 : Nat) : Int) + 41 = ((51 : Nat) : Int) ∧ 10 + 3 = 13 := ⟨rfl, rfl, rfl⟩
theorem xc182_13 : pmCode 182 13 = some (.iload_n 3) ∧ 13 + 1 = 14 := ⟨rfl, rfl⟩
theorem xc182_14 : pmCode 182 14 = some (.invokestatic 139) ∧ 14 + 3 = 17 := ⟨rfl, rfl⟩
theorem xc182_17 : pmCode 182 17 = some (.ifCond .ne 7) ∧ ((17 : Nat) : Int) + 7 = ((24 : Nat) : Int) ∧ 17 + 3 = 20 := ⟨rfl, rfl, rfl⟩
theorem xc182_20 : pmCode 182 20 = some (.iconst (-1)) ∧ 20 + 1 = 21 := ⟨rfl, rfl⟩
theorem xc182_21 : pmCode 182 21 = some (.goto 29) ∧ ((21 : Nat) : Int) + 29 = ((50 : Nat) : Int) := ⟨rfl, rfl⟩
theorem xc182_24 : pmCode 182 24 = some (.iload_n 3) ∧ 24 + 1 = 25 := ⟨rfl, rfl⟩
theorem xc182_25 : pmCode 182 25 = some (.iload_n 1) ∧ 25 + 1 = 26 := ⟨rfl, rfl⟩
theorem xc182_26 : pmCode 182 26 = some (.if_icmp .ne 14) ∧ ((26 : Nat) : Int) + 14 = ((40 : Nat) : Int) ∧ 26 + 3 = 29 := ⟨rfl, rfl, rfl⟩
theorem xc182_29 : pmCode 182 29 = some (.aload_n 0) ∧ 29 + 1 = 30 := ⟨rfl, rfl⟩
theorem xc182_30 : pmCode 182 30 = some (.getfield 7) ∧ 30 + 3 = 33 := ⟨rfl, rfl⟩
theorem xc182_33 : pmCode 182 33 = some (.iconst 0) ∧ 33 + 1 = 34 := ⟨rfl, rfl⟩
theorem xc182_34 : pmCode 182 34 = some (.iload_n 1) ∧ 34 + 1 = 35 := ⟨rfl, rfl⟩
theorem xc182_35 : pmCode 182 35 = some .iadd ∧ 35 + 1 = 36 := ⟨rfl, rfl⟩
theorem xc182_36 : pmCode 182 36 = some .iaload ∧ 36 + 1 = 37 := ⟨rfl, rfl⟩
theorem xc182_37 : pmCode 182 37 = some (.goto 13) ∧ ((37 : Nat) : Int) + 13 = ((50 : Nat) : Int) := ⟨rfl, rfl⟩
theorem xc182_40 : pmCode 182 40 = some (.aload_n 0) ∧ 40 + 1 = 41 := ⟨rfl, rfl⟩
theorem xc182_41 : pmCode 182 41 = some (.getfield 7) ∧ 41 + 3 = 44 := ⟨rfl, rfl⟩
theorem xc182_44 : pmCode 182 44 = some (.iload_n 1) ∧ 44 + 1 = 45 := ⟨rfl, rfl⟩
theorem xc182_45 : pmCode 182 45 = some (.iload_n 3) ∧ 45 + 1 = 46 := ⟨rfl, rfl⟩
theorem xc182_46 : pmCode 182 46 = some (.invokestatic 153) ∧ 46 + 3 = 49 := ⟨rfl, rfl⟩
theorem xc182_49 : pmCode 182 49 = some .iaload ∧ 49 + 1 = 50 := ⟨rfl, rfl⟩
theorem xc182_50 : pmCode 182 50 = some .ireturn := rfl
theorem xc182_51 : pmCode 182 51 = some (.aload_n 0) ∧ 51 + 1 = 52 := ⟨rfl, rfl⟩
theorem xc182_52 : pmCode 182 52 = some (.iload_n 3) ∧ 52 + 1 = 53 := ⟨rfl, rfl⟩
theorem xc182_53 : pmCode 182 53 = some (.invokevirtual 157) ∧ 53 + 3 = 56 := ⟨rfl, rfl⟩
theorem xc182_56 : pmCode 182 56 = some (.ifCond .ne 7) ∧ ((56 : Nat) : Int) + 7 = ((63 : Nat) : Int) ∧ 56 + 3 = 59 := ⟨rfl, rfl, rfl⟩
theorem xc182_59 : pmCode 182 59 = some (.iconst (-1)) ∧ 59 + 1 = 60 := ⟨rfl, rfl⟩
theorem xc182_60 : pmCode 182 60 = some (.goto 35) ∧ ((60 : Nat) : Int) + 35 = ((95 : Nat) : Int) := ⟨rfl, rfl⟩
theorem xc182_63 : pmCode 182 63 = some (.aload_n 0) ∧ 63 + 1 = 64 := ⟨rfl, rfl⟩
theorem xc182_64 : pmCode 182 64 = some (.getfield 7) ∧ 64 + 3 = 67 := ⟨rfl, rfl⟩
theorem xc182_67 : pmCode 182 67 = some (.iconst 4) ∧ 67 + 1 = 68 := ⟨rfl, rfl⟩
theorem xc182_68 : pmCode 182 68 = some (.iload_n 3) ∧ 68 + 1 = 69 := ⟨rfl, rfl⟩
theorem xc182_69 : pmCode 182 69 = some .iadd ∧ 69 + 1 = 70 := ⟨rfl, rfl⟩
theorem xc182_70 : pmCode 182 70 = some .iaload ∧ 70 + 1 = 71 := ⟨rfl, rfl⟩
theorem xc182_71 : pmCode 182 71 = some (.bipush 10) ∧ 71 + 2 = 73 := ⟨rfl, rfl⟩
theorem xc182_73 : pmCode 182 73 = some (.iload_n 1) ∧ 73 + 1 = 74 := ⟨rfl, rfl⟩
theorem xc182_74 : pmCode 182 74 = some .iadd ∧ 74 + 1 = 75 := ⟨rfl, rfl⟩
theorem xc182_75 : pmCode 182 75 = some (.if_icmp .ne 10) ∧ ((75 : Nat) : Int) + 10 = ((85 : Nat) : Int) ∧ 75 + 3 = 78 := ⟨rfl, rfl, rfl⟩
theorem xc182_78 : pmCode 182 78 = some (.bipush 10) ∧ 78 + 2 = 80 := ⟨rfl, rfl⟩
theorem xc182_80 : pmCode 182 80 = some (.iload_n 1) ∧ 80 + 1 = 81 := ⟨rfl, rfl⟩
theorem xc182_81 : pmCode 182 81 = some .iadd ∧ 81 + 1 = 82 := ⟨rfl, rfl⟩
theorem xc182_82 : pmCode 182 82 = some (.goto 13) ∧ ((82 : Nat) : Int) + 13 = ((95 : Nat) : Int) := ⟨rfl, rfl⟩
theorem xc182_85 : pmCode 182 85 = some (.aload_n 0) ∧ 85 + 1 = 86 := ⟨rfl, rfl⟩
theorem xc182_86 : pmCode 182 86 = some (.getfield 7) ∧ 86 + 3 = 89 := ⟨rfl, rfl⟩
theorem xc182_89 : pmCode 182 89 = some (.iload_n 1) ∧ 89 + 1 = 90 := ⟨rfl, rfl⟩
theorem xc182_90 : pmCode 182 90 = some (.iload_n 3) ∧ 90 + 1 = 91 := ⟨rfl, rfl⟩
theorem xc182_91 : pmCode 182 91 = some (.invokestatic 160) ∧ 91 + 3 = 94 := ⟨rfl, rfl⟩
theorem xc182_94 : pmCode 182 94 = some .iaload ∧ 94 + 1 = 95 := ⟨rfl, rfl⟩
theorem xc182_95 : pmCode 182 95 = some .ireturn := rfl
theorem xc243_0 : pmCode 243 0 = some (.iload_n 1) ∧ 0 + 1 = 1 := ⟨rfl, rfl⟩
theorem xc243_1 : pmCode 243 1 = some (.invokestatic 139) ∧ 1 + 3 = 4 := ⟨rfl, rfl⟩
theorem xc243_4 : pmCode 243 4 = some (.ifCond .eq 14) ∧ ((4 : Nat) : Int) + 14 = ((18 : Nat) : Int) ∧ 4 + 3 = 7 := ⟨rfl, rfl, rfl⟩
theorem xc243_7 : pmCode 243 7 = some (.aload_n 0) ∧ 7 + 1 = 8 := ⟨rfl, rfl⟩
theorem xc243_8 : pmCode 243 8 = some (.getfield 7) ∧ 8 + 3 = 11 := ⟨rfl, rfl⟩
theorem xc243_11 : pmCode 243 11 = some (.iconst 0) ∧ 11 + 1 = 12 := ⟨rfl, rfl⟩
theorem xc243_12 : pmCode 243 12 = some (.iload_n 1) ∧ 12 + 1 = 13 := ⟨rfl, rfl⟩
theorem xc243_13 : pmCode 243 13 = some .iadd ∧ 13 + 1 = 14 := ⟨rfl, rfl⟩
theorem xc243_14 : pmCode 243 14 = some .iaload ∧ 14 + 1 = 15 := ⟨rfl, rfl⟩
theorem xc243_15 : pmCode 243 15 = some (.goto 4) ∧ ((15 : Nat) : Int) + 4 = ((19 : Nat) : Int) := ⟨rfl, rfl⟩
theorem xc243_18 : pmCode 243 18 = some (.iconst (-1)) ∧ 18 + 1 = 19 := ⟨rfl, rfl⟩
theorem xc243_19 : pmCode 243 19 = some .ireturn := rfl
theorem xc244_0 : pmCode 244 0 = some (.aload_n 0) ∧ 0 + 1 = 1 := ⟨rfl, rfl⟩
theorem xc244_1 : pmCode 244 1 = some (.iload_n 1) ∧ 1 + 1 = 2 := ⟨rfl, rfl⟩
theorem xc244_2 : pmCode 244 2 = some (.invokevirtual 157) ∧ 2 + 3 = 5 := ⟨rfl, rfl⟩
theorem xc244_5 : pmCode 244 5 = some (.ifCond .eq 14) ∧ ((5 : Nat) : Int) + 14 = ((19 : Nat) : Int) ∧ 5 + 3 = 8 := ⟨rfl, rfl, rfl⟩
theorem xc244_8 : pmCode 244 8 = some (.aload_n 0) ∧ 8 + 1 = 9 := ⟨rfl, rfl⟩
theorem xc244_9 : pmCode 244 9 = some (.getfield 7) ∧ 9 + 3 = 12 := ⟨rfl, rfl⟩
theorem xc244_12 : pmCode 244 12 = some (.iconst 4) ∧ 12 + 1 = 13 := ⟨rfl, rfl⟩
theorem xc244_13 : pmCode 244 13 = some (.iload_n 1) ∧ 13 + 1 = 14 := ⟨rfl, rfl⟩
theorem xc244_14 : pmCode 244 14 = some .iadd ∧ 14 + 1 = 15 := ⟨rfl, rfl⟩
theorem xc244_15 : pmCode 244 15 = some .iaload ∧ 15 + 1 = 16 := ⟨rfl, rfl⟩
theorem xc244_16 : pmCode 244 16 = some (.goto 4) ∧ ((16 : Nat) : Int) + 4 = ((20 : Nat) : Int) := ⟨rfl, rfl⟩
theorem xc244_19 : pmCode 244 19 = some (.iconst (-1)) ∧ 19 + 1 = 20 := ⟨rfl, rfl⟩
theorem xc244_20 : pmCode 244 20 = some .ireturn := rfl
theorem xc245_0 : pmCode 245 0 = some (.iload_n 1) ∧ 0 + 1 = 1 := ⟨rfl, rfl⟩
theorem xc245_1 : pmCode 245 1 = some (.tableswitch 119 0 8 #[51, 59, 72, 77, 82, 90, 98, 106, 111]) ∧ ((1 : Nat) : Int) + 119 = ((120 : Nat) : Int) := ⟨rfl, rfl⟩
theorem xc245_52 : pmCode 245 52 = some (.aload_n 0) ∧ 52 + 1 = 53 := ⟨rfl, rfl⟩
theorem xc245_53 : pmCode 245 53 = some (.getfield 7) ∧ 53 + 3 = 56 := ⟨rfl, rfl⟩
theorem xc245_56 : pmCode 245 56 = some (.bipush 114) ∧ 56 + 2 = 58 := ⟨rfl, rfl⟩
theorem xc245_58 : pmCode 245 58 = some .iaload ∧ 58 + 1 = 59 := ⟨rfl, rfl⟩
theorem xc245_59 : pmCode 245 59 = some .ireturn := rfl
theorem xc245_60 : pmCode 245 60 = some (.aload_n 0) ∧ 60 + 1 = 61 := ⟨rfl, rfl⟩
theorem xc245_61 : pmCode 245 61 = some (.getfield 131) ∧ 61 + 3 = 64 := ⟨rfl, rfl⟩
theorem xc245_64 : pmCode 245 64 = some (.ifCond .eq 7) ∧ ((64 : Nat) : Int) + 7 = ((71 : Nat) : Int) ∧ 64 + 3 = 67 := ⟨rfl, rfl, rfl⟩
theorem xc245_67 : pmCode 245 67 = some (.iconst 1) ∧ 67 + 1 = 68 := ⟨rfl, rfl⟩
theorem xc245_68 : pmCode 245 68 = some (.goto 4) ∧ ((68 : Nat) : Int) + 4 = ((72 : Nat) : Int) := ⟨rfl, rfl⟩
theorem xc245_71 : pmCode 245 71 = some (.iconst 0) ∧ 71 + 1 = 72 := ⟨rfl, rfl⟩
theorem xc245_72 : pmCode 245 72 = some .ireturn := rfl
theorem xc245_73 : pmCode 245 73 = some (.aload_n 0) ∧ 73 + 1 = 74 := ⟨rfl, rfl⟩
theorem xc245_74 : pmCode 245 74 = some (.getfield 127) ∧ 74 + 3 = 77 := ⟨rfl, rfl⟩
theorem xc245_77 : pmCode 245 77 = some .ireturn := rfl
theorem xc245_78 : pmCode 245 78 = some (.aload_n 0) ∧ 78 + 1 = 79 := ⟨rfl, rfl⟩
theorem xc245_79 : pmCode 245 79 = some (.getfield 247) ∧ 79 + 3 = 82 := ⟨rfl, rfl⟩
theorem xc245_82 : pmCode 245 82 = some .ireturn := rfl
theorem xc245_83 : pmCode 245 83 = some (.aload_n 0) ∧ 83 + 1 = 84 := ⟨rfl, rfl⟩
theorem xc245_84 : pmCode 245 84 = some (.getfield 7) ∧ 84 + 3 = 87 := ⟨rfl, rfl⟩
theorem xc245_87 : pmCode 245 87 = some (.bipush 118) ∧ 87 + 2 = 89 := ⟨rfl, rfl⟩
theorem xc245_89 : pmCode 245 89 = some .iaload ∧ 89 + 1 = 90 := ⟨rfl, rfl⟩
theorem xc245_90 : pmCode 245 90 = some .ireturn := rfl
theorem xc245_91 : pmCode 245 91 = some (.aload_n 0) ∧ 91 + 1 = 92 := ⟨rfl, rfl⟩
theorem xc245_92 : pmCode 245 92 = some (.getfield 7) ∧ 92 + 3 = 95 := ⟨rfl, rfl⟩
theorem xc245_95 : pmCode 245 95 = some (.bipush 116) ∧ 95 + 2 = 97 := ⟨rfl, rfl⟩
theorem xc245_97 : pmCode 245 97 = some .iaload ∧ 97 + 1 = 98 := ⟨rfl, rfl⟩
theorem xc245_98 : pmCode 245 98 = some .ireturn := rfl
theorem xc245_99 : pmCode 245 99 = some (.aload_n 0) ∧ 99 + 1 = 100 := ⟨rfl, rfl⟩
theorem xc245_100 : pmCode 245 100 = some (.getfield 7) ∧ 100 + 3 = 103 := ⟨rfl, rfl⟩
theorem xc245_103 : pmCode 245 103 = some (.bipush 117) ∧ 103 + 2 = 105 := ⟨rfl, rfl⟩
theorem xc245_105 : pmCode 245 105 = some .iaload ∧ 105 + 1 = 106 := ⟨rfl, rfl⟩
theorem xc245_106 : pmCode 245 106 = some .ireturn := rfl
theorem xc245_107 : pmCode 245 107 = some (.aload_n 0) ∧ 107 + 1 = 108 := ⟨rfl, rfl⟩
theorem xc245_108 : pmCode 245 108 = some (.getfield 163) ∧ 108 + 3 = 111 := ⟨rfl, rfl⟩
theorem xc245_111 : pmCode 245 111 = some .ireturn := rfl
theorem xc245_112 : pmCode 245 112 = some (.aload_n 0) ∧ 112 + 1 = 113 := ⟨rfl, rfl⟩
theorem xc245_113 : pmCode 245 113 = some (.getfield 7) ∧ 113 + 3 = 116 := ⟨rfl, rfl⟩
theorem xc245_116 : pmCode 245 116 = some (.bipush 119) ∧ 116 + 2 = 118 := ⟨rfl, rfl⟩
theorem xc245_118 : pmCode 245 118 = some .iaload ∧ 118 + 1 = 119 := ⟨rfl, rfl⟩
theorem xc245_119 : pmCode 245 119 = some .ireturn := rfl
theorem xc245_120 : pmCode 245 120 = some (.iload_n 1) ∧ 120 + 1 = 121 := ⟨rfl, rfl⟩
theorem xc245_121 : pmCode 245 121 = some (.bipush 11) ∧ 121 + 2 = 123 := ⟨rfl, rfl⟩
theorem xc245_123 : pmCode 245 123 = some (.bipush 13) ∧ 123 + 2 = 125 := ⟨rfl, rfl⟩
theorem xc245_125 : pmCode 245 125 = some (.invokestatic 142) ∧ 125 + 3 = 128 := ⟨rfl, rfl⟩
theorem xc245_128 : pmCode 245 128 = some (.ifCond .eq 13) ∧ ((128 : Nat) : Int) + 13 = ((141 : Nat) : Int) ∧ 128 + 3 = 131 := ⟨rfl, rfl, rfl⟩
theorem xc245_131 : pmCode 245 131 = some (.aload_n 0) ∧ 131 + 1 = 132 := ⟨rfl, rfl⟩
theorem xc245_132 : pmCode 245 132 = some (.getfield 36) ∧ 132 + 3 = 135 := ⟨rfl, rfl⟩
theorem xc245_135 : pmCode 245 135 = some (.iload_n 1) ∧ 135 + 1 = 136 := ⟨rfl, rfl⟩
theorem xc245_136 : pmCode 245 136 = some (.bipush 10) ∧ 136 + 2 = 138 := ⟨rfl, rfl⟩
theorem xc245_138 : pmCode 245 138 = some .isub ∧ 138 + 1 = 139 := ⟨rfl, rfl⟩
theorem xc245_139 : pmCode 245 139 = some .iaload ∧ 139 + 1 = 140 := ⟨rfl, rfl⟩
theorem xc245_140 : pmCode 245 140 = some .ireturn := rfl
theorem xc245_141 : pmCode 245 141 = some (.iload_n 1) ∧ 141 + 1 = 142 := ⟨rfl, rfl⟩
theorem xc245_142 : pmCode 245 142 = some (.bipush 20) ∧ 142 + 2 = 144 := ⟨rfl, rfl⟩
theorem xc245_144 : pmCode 245 144 = some (.bipush 19) ∧ 144 + 2 = 146 := ⟨rfl, rfl⟩
theorem xc245_146 : pmCode 245 146 = some (.aload_n 0) ∧ 146 + 1 = 147 := ⟨rfl, rfl⟩
theorem xc245_147 : pmCode 245 147 = some (.getfield 127) ∧ 147 + 3 = 150 := ⟨rfl, rfl⟩
theorem xc245_150 : pmCode 245 150 = some .iadd ∧ 150 + 1 = 151 := ⟨rfl, rfl⟩
theorem xc245_151 : pmCode 245 151 = some (.invokestatic 142) ∧ 151 + 3 = 154 := ⟨rfl, rfl⟩
theorem xc245_154 : pmCode 245 154 = some (.ifCond .eq 36) ∧ ((154 : Nat) : Int) + 36 = ((190 : Nat) : Int) ∧ 154 + 3 = 157 := ⟨rfl, rfl, rfl⟩
theorem xc245_157 : pmCode 245 157 = some (.aload_n 0) ∧ 157 + 1 = 158 := ⟨rfl, rfl⟩
theorem xc245_158 : pmCode 245 158 = some (.getfield 7) ∧ 158 + 3 = 161 := ⟨rfl, rfl⟩
theorem xc245_161 : pmCode 245 161 = some (.iconst 4) ∧ 161 + 1 = 162 := ⟨rfl, rfl⟩
theorem xc245_162 : pmCode 245 162 = some (.iload_n 1) ∧ 162 + 1 = 163 := ⟨rfl, rfl⟩
theorem xc245_163 : pmCode 245 163 = some .iadd ∧ 163 + 1 = 164 := ⟨rfl, rfl⟩
theorem xc245_164 : pmCode 245 164 = some (.bipush 20) ∧ 164 + 2 = 166 := ⟨rfl, rfl⟩
theorem xc245_166 : pmCode 245 166 = some .isub ∧ 166 + 1 = 167 := ⟨rfl, rfl⟩
theorem xc245_167 : pmCode 245 167 = some .iaload ∧ 167 + 1 = 168 := ⟨rfl, rfl⟩
theorem xc245_168 : pmCode 245 168 = some (.bipush 20) ∧ 168 + 2 = 170 := ⟨rfl, rfl⟩
theorem xc245_170 : pmCode 245 170 = some (.if_icmp .ne 18) ∧ ((170 : Nat) : Int) + 18 = ((188 : Nat) : Int) ∧ 170 + 3 = 173 := ⟨rfl, rfl, rfl⟩
theorem xc245_173 : pmCode 245 173 = some (.aload_n 0) ∧ 173 + 1 = 174 := ⟨rfl, rfl⟩
theorem xc245_174 : pmCode 245 174 = some (.getfield 7) ∧ 174 + 3 = 177 := ⟨rfl, rfl⟩
theorem xc245_177 : pmCode 245 177 = some (.bipush 9) ∧ 177 + 2 = 179 := ⟨rfl, rfl⟩
theorem xc245_179 : pmCode 245 179 = some (.iload_n 1) ∧ 179 + 1 = 180 := ⟨rfl, rfl⟩
theorem xc245_180 : pmCode 245 180 = some .iadd ∧ 180 + 1 = 181 := ⟨rfl, rfl⟩
theorem xc245_181 : pmCode 245 181 = some (.bipush 20) ∧ 181 + 2 = 183 := ⟨rfl, rfl⟩
theorem xc245_183 : pmCode 245 183 = some .isub ∧ 183 + 1 = 184 := ⟨rfl, rfl⟩
theorem xc245_184 : pmCode 245 184 = some .iaload ∧ 184 + 1 = 185 := ⟨rfl, rfl⟩
theorem xc245_185 : pmCode 245 185 = some (.goto 4) ∧ ((185 : Nat) : Int) + 4 = ((189 : Nat) : Int) := ⟨rfl, rfl⟩
theorem xc245_188 : pmCode 245 188 = some (.iconst (-1)) ∧ 188 + 1 = 189 := ⟨rfl, rfl⟩
theorem xc245_189 : pmCode 245 189 = some .ireturn := rfl
theorem xc245_190 : pmCode 245 190 = some (.iload_n 1) ∧ 190 + 1 = 191 := ⟨rfl, rfl⟩
theorem xc245_191 : pmCode 245 191 = some (.bipush 30) ∧ 191 + 2 = 193 := ⟨rfl, rfl⟩
theorem xc245_193 : pmCode 245 193 = some (.bipush 29) ∧ 193 + 2 = 195 := ⟨rfl, rfl⟩
theorem xc245_195 : pmCode 245 195 = some (.aload_n 0) ∧ 195 + 1 = 196 := ⟨rfl, rfl⟩
theorem xc245_196 : pmCode 245 196 = some (.getfield 247) ∧ 196 + 3 = 199 := ⟨rfl, rfl⟩
theorem xc245_199 : pmCode 245 199 = some .iadd ∧ 199 + 1 = 200 := ⟨rfl, rfl⟩
theorem xc245_200 : pmCode 245 200 = some (.invokestatic 142) ∧ 200 + 3 = 203 := ⟨rfl, rfl⟩
theorem xc245_203 : pmCode 245 203 = some (.ifCond .eq 15) ∧ ((203 : Nat) : Int) + 15 = ((218 : Nat) : Int) ∧ 203 + 3 = 206 := ⟨rfl, rfl, rfl⟩
theorem xc245_206 : pmCode 245 206 = some (.aload_n 0) ∧ 206 + 1 = 207 := ⟨rfl, rfl⟩
theorem xc245_207 : pmCode 245 207 = some (.getfield 48) ∧ 207 + 3 = 210 := ⟨rfl, rfl⟩
theorem xc245_210 : pmCode 245 210 = some (.iload_n 1) ∧ 210 + 1 = 211 := ⟨rfl, rfl⟩
theorem xc245_211 : pmCode 245 211 = some (.bipush 30) ∧ 211 + 2 = 213 := ⟨rfl, rfl⟩
theorem xc245_213 : pmCode 245 213 = some .isub ∧ 213 + 1 = 214 := ⟨rfl, rfl⟩
theorem xc245_214 : pmCode 245 214 = some .iaload ∧ 214 + 1 = 215 := ⟨rfl, rfl⟩
theorem xc245_215 : pmCode 245 215 = some (.goto 4) ∧ ((215 : Nat) : Int) + 4 = ((219 : Nat) : Int) := ⟨rfl, rfl⟩
theorem xc245_218 : pmCode 245 218 = some (.iconst (-1)) ∧ 218 + 1 = 219 := ⟨rfl, rfl⟩
theorem xc245_219 : pmCode 245 219 = some .ireturn := rfl
theorem w69 {ro : Nat → Nat × (Nat → Int32)} {d : Nat} {Q : Option Value → pmS → Prop} {v : Int} {a : xA} {b : xB} (hv : 0 ≤ v ∧ v ≤ 15)
    (k1 : (¬ v = 13) → (v < 9) → Q (some (xV (v - 1))) (xS a b))
    (k2 : (¬ v = 13) → (¬ v < 9) → Q (some (xV (10 + v - 9))) (xS a b))
    (k3 : (v = 13) → Q (some (xV 20)) (xS a b)) :
    pmWp ro d 11 69 1 0 [some (xV v)] [] (xS a b) Q := by
  refine x_iloadn xc69_0 rfl ?_
  refine x_bipush xc69_1 (by decide) ?_
  refine x_icne xc69_3 (xRk (by have g0 := hv; omega)) (xRk (by decide)) (fun h0 => ?_) (fun h0 => ?_)
  · refine x_iloadn xc69_9 rfl ?_
    refine x_bipush xc69_10 (by decide) ?_
    refine x_iclt xc69_12 (xRk (by have g0 := hv; omega)) (xRk (by decide)) (fun h1 => ?_) (fun h1 => ?_)
    · refine x_iloadn xc69_25 rfl ?_
      refine x_iconst xc69_26 ?_
      refine x_isub xc69_27 ?_
      refine x_iret xc69_28 (Or.inl rfl) ?_
      exact k1 h0 h1
    · refine x_bipush xc69_15 (by decide) ?_
      refine x_iloadn xc69_17 rfl ?_
      refine x_iadd xc69_18 ?_
      refine x_bipush xc69_19 (by decide) ?_
      refine x_isub xc69_21 ?_
      refine x_goto xc69_22 ?_
      refine x_iret xc69_28 (Or.inl rfl) ?_
      exact k2 h0 h1
  · replace h0 := Classical.not_not.mp h0
    refine x_bipush xc69_6 (by decide) ?_
    refine x_iret xc69_8 (Or.inl rfl) ?_
    exact k3 h0

theorem xg69 {ro : Nat → Nat × (Nat → Int32)} {d : Nat} {Q : Option Value → pmS → Prop} {a : xA} {b : xB} {v : Int} (h : pmWp ro d 11 69 1 0 [some (xV v)] [] (xS a b) Q) : pmCs ro (d + 1) 69 [xV v] (xS a b) Q := x_go xi69 rfl rfl rfl rfl rfl h
/-- outward -/
def uOu (v : Int) : Int := if v = 13 then 20 else if 9 ≤ v then v + 1 else v - 1
theorem rk69 {ro : Nat → Nat × (Nat → Int32)} {d : Nat} {Q : Option Value → pmS → Prop} {v : Int} {a : xA} {b : xB} (hd : 1 ≤ d) (hv : 0 ≤ v ∧ v ≤ 15) (hQ : Q (some (xV (uOu v))) (xS a b)) : pmCs ro d 69 [xV v] (xS a b) Q := by
  unfold uOu at hQ
  refine pmCs_deep (d := 1) (xg69 (w69 hv (fun e1 e2 => ?_) (fun e1 e2 => ?_) (fun e => ?_))) hd
  · rw [if_neg e1, if_neg (by omega)] at hQ
    exact hQ
  · rw [if_neg e1, if_pos (by omega), show v + 1 = 10 + v - 9 by omega] at hQ
    exact hQ
  · rw [if_pos e] at hQ
    exact hQ
theorem uOu_b {v : Int} (hv : 0 ≤ v ∧ v ≤ 15) : -1 ≤ uOu v ∧ uOu v ≤ 20 := by
  unfold uOu
  split
  · omega
  · split <;> omega
theorem w27 {ro : Nat → Nat × (Nat → Int32)} {d : Nat} {Q : Option Value → pmS → Prop} {g i n : Int} {a : xA} {b : xB} (hg : g = 0 ∨ g = 1) (qr2 : xR i) (hn : a 3 5 = n) (hn0 : 0 ≤ n ∧ n ≤ 5) (hd : 3 ≤ d)
    (k1 : (g = 0) → (i < 0) → Q (some (xV 0)) (xS a b))
    (k2 : (g = 0) → (¬ i < 0) → (n ≤ i) → Q (some (xV 0)) (xS a b))
    (k3 : (g = 0) → (¬ i < 0) → (¬ n ≤ i) → Q (some (xV 1)) (xS a b))
    (k4 : (¬ g = 0) → (0 ≤ i ∧ i < 4) → Q (some (xV 1)) (xS a b))
    (k5 : (¬ g = 0) → (¬ (0 ≤ i ∧ i < 4)) → Q (some (xV 0)) (xS a b)) :
    pmWp ro d 11 27 2 0 [some (.ref 0), some (xV g), some (xV i)] [] (xS a b) Q := by
  refine x_iloadn xc27_0 rfl ?_
  refine x_ifeq xc27_1 (xRk (by have g0 := hg; omega)) (fun h0 => ?_) (fun h0 => ?_)
  · refine x_iloadn xc27_11 rfl ?_
    refine x_iflt xc27_12 (xRk (by have g0 := xRb qr2; omega)) (fun h1 => ?_) (fun h1 => ?_)
    · refine x_iconst xc27_30 ?_
      refine x_iret xc27_31 (Or.inr ⟨rfl, (by omega)⟩) ?_
      exact k1 h0 h1
    · refine x_iloadn xc27_15 rfl ?_
      refine x_aloadn xc27_16 rfl ?_
      refine x_gfr xc27_17 rfl rfl xz0 rfl ?_
      refine x_gfi' (k := 5) (v := n) xc27_20 rfl (Or.inl rfl) rfl xz3 hn ?_
      refine x_icge xc27_23 (xRk (by have g0 := xRb qr2; omega)) (xRk (by have g0 := hn0; omega)) (fun h2 => ?_) (fun h2 => ?_)
      · refine x_iconst xc27_30 ?_
        refine x_iret xc27_31 (Or.inr ⟨rfl, (by omega)⟩) ?_
        exact k2 h0 h1 h2
      · refine x_iconst xc27_26 ?_
        refine x_goto xc27_27 ?_
        refine x_iret xc27_31 (Or.inr ⟨rfl, (by omega)⟩) ?_
        exact k3 h0 h1 h2
  · refine x_iloadn xc27_4 rfl ?_
    refine x_cS (as := [xV i]) (rest := []) xc27_5 rfl rfl xi18 ⟨rfl, rfl⟩ rfl rfl ?_
    refine xk18 (by omega) (xRk (by have g0 := xRb qr2; omega)) (fun h3 => ?_) (fun h4 => ?_)
    · refine x_goto xc27_8 ?_
      refine x_iret xc27_31 (Or.inr ⟨rfl, (by omega)⟩) ?_
      exact k4 h0 h3
    · refine x_goto xc27_8 ?_
      refine x_iret xc27_31 (Or.inr ⟨rfl, (by omega)⟩) ?_
      exact k5 h0 h4

theorem xg27 {ro : Nat → Nat × (Nat → Int32)} {d : Nat} {Q : Option Value → pmS → Prop} {a : xA} {b : xB} {g i : Int} (h : pmWp ro d 11 27 2 0 [some (.ref 0), some (xV g), some (xV i)] [] (xS a b) Q) : pmCs ro (d + 1) 27 [.ref 0, xV g, xV i] (xS a b) Q := x_go xi27 rfl rfl rfl rfl rfl h

theorem w68 {ro : Nat → Nat × (Nat → Int32)} {d : Nat} {Q : Option Value → pmS → Prop} {p g i : Int} {a : xA} {b : xB} (qr1 : xR p) (hg : g = 0 ∨ g = 1) (qr2 : xR i) (hd : 3 ≤ d)
    (k1 : (1 ≤ p ∧ p < 4) → pmCs ro d 27 [.ref 0, xV g, xV i] (xS a b) fun r σ' => pmWp ro d 11 68 1 13 [some (.ref 0), some (xV p), some (xV g), some (xV i), none, none, none] (r.toList ++ []) σ' Q)
    (k2 : (¬ (1 ≤ p ∧ p < 4)) → Q (some (xV (-1))) (xS a b)) :
    pmWp ro d 11 68 1 0 [some (.ref 0), some (xV p), some (xV g), some (xV i), none, none, none] [] (xS a b) Q := by
  refine x_iloadn xc68_0 rfl ?_
  refine x_cS (as := [xV p]) (rest := []) xc68_1 rfl rfl xi26 ⟨rfl, rfl⟩ rfl rfl ?_
  refine xk26 (by omega) (xRk (by have g0 := xRb qr1; omega)) (fun h0 => ?_) (fun h1 => ?_)
  · refine x_ifeq xc68_4 (xRk (by decide)) (fun h => absurd h (by omega)) (fun _ => ?_)
    refine x_aloadn xc68_7 rfl ?_
    refine x_iloadn xc68_8 rfl ?_
    refine x_iloadn xc68_9 rfl ?_
    refine x_cV (as := [xV g, xV i]) (rest := []) xc68_10 rfl xi27 xz0 ⟨rfl, rfl⟩ rfl rfl ?_
    exact k1 h0
  · refine x_ifeq xc68_4 (xRk (by decide)) (fun _ => ?_) (fun h => absurd h (by omega))
    refine x_iconst xc68_16 ?_
    refine x_iret xc68_17 (Or.inl rfl) ?_
    exact k2 h1

theorem xg68 {ro : Nat → Nat × (Nat → Int32)} {d : Nat} {Q : Option Value → pmS → Prop} {a : xA} {b : xB} {p g i : Int} (h : pmWp ro d 11 68 1 0 [some (.ref 0), some (xV p), some (xV g), some (xV i), none, none, none] [] (xS a b) Q) : pmCs ro (d + 1) 68 [.ref 0, xV p, xV g, xV i] (xS a b) Q := x_go xi68 rfl rfl rfl rfl rfl h
theorem w68a {ro : Nat → Nat × (Nat → Int32)} {d : Nat} {Q : Option Value → pmS → Prop} {p g i z : Int} {a : xA} {b : xB} (hp : 1 ≤ p ∧ p ≤ 3) (hg : g = 0 ∨ g = 1) (hi : z = 1 → 0 ≤ i ∧ i ≤ 4) (hzz : z = 0 ∨ z = 1) (hd : 3 ≤ d)
    (k1 : (¬ z = 0) → (g = 0) → (¬ uSl (b 21 4) (4 + i) = 9 + p) → Q (some (xV (uOu (uSl (b 22 p) (4 + i))))) (xS a b))
    (k2 : (¬ z = 0) → (g = 0) → (uSl (b 21 4) (4 + i) = 9 + p) → Q (some (xV (uOu (uSl (b 21 4) (4 + i))))) (xS a b))
    (k3 : (¬ z = 0) → (¬ g = 0) → (¬ i = p) → Q (some (xV (uOu (uSl (b 22 p) i)))) (xS a b))
    (k4 : (¬ z = 0) → (¬ g = 0) → (i = p) → Q (some (xV (uOu (uSl (b 21 4) i)))) (xS a b))
    (k5 : (z = 0) → Q (some (xV (-1))) (xS a b)) :
    pmWp ro d 11 68 1 13 [some (.ref 0), some (xV p), some (xV g), some (xV i), none, none, none] [xV z] (xS a b) Q := by
  refine x_ifne xc68_13 (xRk (by have g0 := hzz; omega)) (fun h0 => ?_) (fun h0 => ?_)
  · refine x_iloadn xc68_18 rfl ?_
    refine x_ifeq xc68_19 (xRk (by have g0 := hg; omega)) (fun h1 => ?_) (fun h1 => ?_)
    · refine x_iconst xc68_26 ?_
      refine x_iloadn xc68_27 rfl ?_
      refine x_iadd xc68_28 ?_
      refine x_istore (pl' := [some (.ref 0), some (xV p), some (xV g), some (xV i), some (xV (4 + i)), none, none]) xc68_29 rfl rfl ?_
      refine x_aloadn xc68_31 rfl ?_
      refine x_gfr xc68_32 rfl rfl xz0 rfl ?_
      refine x_gfl (k := 4) xc68_35 rfl rfl rfl xz21 ?_
      refine x_iload xc68_38 rfl ?_
      refine x_cS (as := [.long (b 21 4), xV (4 + i)]) (rest := []) xc68_40 rfl rfl xi61 ⟨rfl, rfl⟩ rfl rfl ?_
      refine rk61 (by omega) (by have g0 := hi; omega) ?_
      refine x_istore (pl' := [some (.ref 0), some (xV p), some (xV g), some (xV i), some (xV (4 + i)), some (xV (uSl (b 21 4) (4 + i))), none]) xc68_43 rfl rfl ?_
      refine x_iloadn xc68_45 rfl ?_
      refine x_ifeq xc68_46 (xRk (by have g0 := hg; omega)) (fun _ => ?_) (fun h => absurd h (by omega))
      refine x_iload xc68_62 rfl ?_
      refine x_bipush xc68_64 (by decide) ?_
      refine x_iloadn xc68_66 rfl ?_
      refine x_iadd xc68_67 ?_
      refine x_icne xc68_68 (xRk (by have g0 := uSl_b (l := b 21 4) (j := 4 + i) (by have g0 := hi; omega) (by have g0 := hi; omega); omega)) (xRk (by have g0 := hp; omega)) (fun h3 => ?_) (fun h3 => ?_)
      · refine x_iconst xc68_75 ?_
        refine x_istore (pl' := [some (.ref 0), some (xV p), some (xV g), some (xV i), some (xV (4 + i)), some (xV (uSl (b 21 4) (4 + i))), some (xV 0)]) xc68_76 rfl rfl ?_
        refine x_iload xc68_78 rfl ?_
        refine x_ifeq xc68_80 (xRk (by decide)) (fun _ => ?_) (fun h => absurd h (by omega))
        refine x_aloadn xc68_88 rfl ?_
        refine x_gfr xc68_89 rfl rfl xz0 rfl ?_
        refine x_gfr xc68_92 rfl rfl xz21 rfl ?_
        refine x_iloadn xc68_95 rfl ?_
        refine x_lal xc68_96 xz22 (by have g0 := hp; omega) (by have g0 := hp; omega) (by have g0 := hp; omega) ?_
        refine x_iload xc68_97 rfl ?_
        refine x_cS (as := [.long (b 22 p), xV (4 + i)]) (rest := []) xc68_99 rfl rfl xi61 ⟨rfl, rfl⟩ rfl rfl ?_
        refine rk61 (by omega) (by have g0 := hi; omega) ?_
        refine x_cS (as := [xV (uSl (b 22 p) (4 + i))]) (rest := []) xc68_102 rfl rfl xi69 ⟨rfl, rfl⟩ rfl rfl ?_
        refine rk69 (by omega) (by have g0 := uSl_b (l := b 22 p) (j := 4 + i) (by have g0 := hi; omega) (by have g0 := hi; omega); omega) ?_
        refine x_iret xc68_105 (Or.inl rfl) ?_
        exact k1 h0 h1 h3
      · replace h3 := Classical.not_not.mp h3
        refine x_iconst xc68_71 ?_
        refine x_goto xc68_72 ?_
        refine x_istore (pl' := [some (.ref 0), some (xV p), some (xV g), some (xV i), some (xV (4 + i)), some (xV (uSl (b 21 4) (4 + i))), some (xV 1)]) xc68_76 rfl rfl ?_
        refine x_iload xc68_78 rfl ?_
        refine x_ifeq xc68_80 (xRk (by decide)) (fun h => absurd h (by omega)) (fun _ => ?_)
        refine x_iload xc68_83 rfl ?_
        refine x_goto xc68_85 ?_
        refine x_cS (as := [xV (uSl (b 21 4) (4 + i))]) (rest := []) xc68_102 rfl rfl xi69 ⟨rfl, rfl⟩ rfl rfl ?_
        refine rk69 (by omega) (by have g0 := uSl_b (l := b 21 4) (j := 4 + i) (by have g0 := hi; omega) (by have g0 := hi; omega); omega) ?_
        refine x_iret xc68_105 (Or.inl rfl) ?_
        exact k2 h0 h1 h3
    · refine x_iloadn xc68_22 rfl ?_
      refine x_goto xc68_23 ?_
      refine x_istore (pl' := [some (.ref 0), some (xV p), some (xV g), some (xV i), some (xV i), none, none]) xc68_29 rfl rfl ?_
      refine x_aloadn xc68_31 rfl ?_
      refine x_gfr xc68_32 rfl rfl xz0 rfl ?_
      refine x_gfl (k := 4) xc68_35 rfl rfl rfl xz21 ?_
      refine x_iload xc68_38 rfl ?_
      refine x_cS (as := [.long (b 21 4), xV i]) (rest := []) xc68_40 rfl rfl xi61 ⟨rfl, rfl⟩ rfl rfl ?_
      refine rk61 (by omega) (by have g0 := hi; omega) ?_
      refine x_istore (pl' := [some (.ref 0), some (xV p), some (xV g), some (xV i), some (xV i), some (xV (uSl (b 21 4) i)), none]) xc68_43 rfl rfl ?_
      refine x_iloadn xc68_45 rfl ?_
      refine x_ifeq xc68_46 (xRk (by have g0 := hg; omega)) (fun h => absurd h (by omega)) (fun _ => ?_)
      refine x_iloadn xc68_49 rfl ?_
      refine x_iloadn xc68_50 rfl ?_
      refine x_icne xc68_51 (xRk (by have g0 := hi; omega)) (xRk (by have g0 := hp; omega)) (fun h7 => ?_) (fun h7 => ?_)
      · refine x_iconst xc68_58 ?_
        refine x_goto xc68_59 ?_
        refine x_istore (pl' := [some (.ref 0), some (xV p), some (xV g), some (xV i), some (xV i), some (xV (uSl (b 21 4) i)), some (xV 0)]) xc68_76 rfl rfl ?_
        refine x_iload xc68_78 rfl ?_
        refine x_ifeq xc68_80 (xRk (by decide)) (fun _ => ?_) (fun h => absurd h (by omega))
        refine x_aloadn xc68_88 rfl ?_
        refine x_gfr xc68_89 rfl rfl xz0 rfl ?_
        refine x_gfr xc68_92 rfl rfl xz21 rfl ?_
        refine x_iloadn xc68_95 rfl ?_
        refine x_lal xc68_96 xz22 (by have g0 := hp; omega) (by have g0 := hp; omega) (by have g0 := hp; omega) ?_
        refine x_iload xc68_97 rfl ?_
        refine x_cS (as := [.long (b 22 p), xV i]) (rest := []) xc68_99 rfl rfl xi61 ⟨rfl, rfl⟩ rfl rfl ?_
        refine rk61 (by omega) (by have g0 := hi; omega) ?_
        refine x_cS (as := [xV (uSl (b 22 p) i)]) (rest := []) xc68_102 rfl rfl xi69 ⟨rfl, rfl⟩ rfl rfl ?_
        refine rk69 (by omega) (by have g0 := uSl_b (l := b 22 p) (j := i) (by have g0 := hi; omega) (by have g0 := hi; omega); omega) ?_
        refine x_iret xc68_105 (Or.inl rfl) ?_
        exact k3 h0 h1 h7
      · replace h7 := Classical.not_not.mp h7
        refine x_iconst xc68_54 ?_
        refine x_goto xc68_55 ?_
        refine x_istore (pl' := [some (.ref 0), some (xV p), some (xV g), some (xV i), some (xV i), some (xV (uSl (b 21 4) i)), some (xV 1)]) xc68_76 rfl rfl ?_
        refine x_iload xc68_78 rfl ?_
        refine x_ifeq xc68_80 (xRk (by decide)) (fun h => absurd h (by omega)) (fun _ => ?_)
        refine x_iload xc68_83 rfl ?_
        refine x_goto xc68_85 ?_
        refine x_cS (as := [xV (uSl (b 21 4) i)]) (rest := []) xc68_102 rfl rfl xi69 ⟨rfl, rfl⟩ rfl rfl ?_
        refine rk69 (by omega) (by have g0 := uSl_b (l := b 21 4) (j := i) (by have g0 := hi; omega) (by have g0 := hi; omega); omega) ?_
        refine x_iret xc68_105 (Or.inl rfl) ?_
        exact k4 h0 h1 h7
  · replace h0 := Classical.not_not.mp h0
    refine x_iconst xc68_16 ?_
    refine x_iret xc68_17 (Or.inl rfl) ?_
    exact k5 h0

theorem w132 {ro : Nat → Nat × (Nat → Int32)} {d : Nat} {Q : Option Value → pmS → Prop} {p : Int} {a : xA} {b : xB} (qr1 : xR p) (hd : 3 ≤ d)
    (k1 : (0 ≤ p ∧ p < 4) → Q (some (xV (uOu (uSl (b 21 4) p)))) (xS a b))
    (k2 : (¬ (0 ≤ p ∧ p < 4)) → Q (some (xV (-1))) (xS a b)) :
    pmWp ro d 11 132 1 0 [some (.ref 0), some (xV p)] [] (xS a b) Q := by
  refine x_iloadn xc132_0 rfl ?_
  refine x_cS (as := [xV p]) (rest := []) xc132_1 rfl rfl xi18 ⟨rfl, rfl⟩ rfl rfl ?_
  refine xk18 (by omega) (xRk (by have g0 := xRb qr1; omega)) (fun h0 => ?_) (fun h1 => ?_)
  · refine x_ifeq xc132_4 (xRk (by decide)) (fun h => absurd h (by omega)) (fun _ => ?_)
    refine x_aloadn xc132_7 rfl ?_
    refine x_gfr xc132_8 rfl rfl xz0 rfl ?_
    refine x_gfl (k := 4) xc132_11 rfl rfl rfl xz21 ?_
    refine x_iloadn xc132_14 rfl ?_
    refine x_cS (as := [.long (b 21 4), xV p]) (rest := []) xc132_15 rfl rfl xi61 ⟨rfl, rfl⟩ rfl rfl ?_
    refine rk61 (by omega) (by have g0 := xRb qr1; omega) ?_
    refine x_cS (as := [xV (uSl (b 21 4) p)]) (rest := []) xc132_18 rfl rfl xi69 ⟨rfl, rfl⟩ rfl rfl ?_
    refine rk69 (by omega) (by have g0 := uSl_b (l := b 21 4) (j := p) (by have g0 := xRb qr1; omega) (by have g0 := xRb qr1; omega); omega) ?_
    refine x_goto xc132_21 ?_
    refine x_iret xc132_25 (Or.inl rfl) ?_
    exact k1 h0
  · refine x_ifeq xc132_4 (xRk (by decide)) (fun _ => ?_) (fun h => absurd h (by omega))
    refine x_iconst xc132_24 ?_
    refine x_iret xc132_25 (Or.inl rfl) ?_
    exact k2 h1

theorem xg132 {ro : Nat → Nat × (Nat → Int32)} {d : Nat} {Q : Option Value → pmS → Prop} {a : xA} {b : xB} {p : Int} (h : pmWp ro d 11 132 1 0 [some (.ref 0), some (xV p)] [] (xS a b) Q) : pmCs ro (d + 1) 132 [.ref 0, xV p] (xS a b) Q := x_go xi132 rfl rfl rfl rfl rfl h
theorem w133 {ro : Nat → Nat × (Nat → Int32)} {d : Nat} {Q : Option Value → pmS → Prop} {x n : Int} {a : xA} {b : xB} (qr1 : xR x) (hn : a 3 5 = n) (hn0 : 0 ≤ n ∧ n ≤ 5) (hd : 3 ≤ d)
    (k1 : (x < 0) → Q (some (xV (-1))) (xS a b))
    (k2 : (¬ x < 0) → (n ≤ x) → Q (some (xV (-1))) (xS a b))
    (k3 : (¬ x < 0) → (¬ n ≤ x) → Q (some (xV (uOu (uSl (b 21 4) (4 + x))))) (xS a b)) :
    pmWp ro d 11 133 1 0 [some (.ref 0), some (xV x)] [] (xS a b) Q := by
  refine x_iloadn xc133_0 rfl ?_
  refine x_iflt xc133_1 (xRk (by have g0 := xRb qr1; omega)) (fun h0 => ?_) (fun h0 => ?_)
  · refine x_iconst xc133_34 ?_
    refine x_iret xc133_35 (Or.inl rfl) ?_
    exact k1 h0
  · refine x_iloadn xc133_4 rfl ?_
    refine x_aloadn xc133_5 rfl ?_
    refine x_gfr xc133_6 rfl rfl xz0 rfl ?_
    refine x_gfi' (k := 5) (v := n) xc133_9 rfl (Or.inl rfl) rfl xz3 hn ?_
    refine x_icge xc133_12 (xRk (by have g0 := xRb qr1; omega)) (xRk (by have g0 := hn0; omega)) (fun h1 => ?_) (fun h1 => ?_)
    · refine x_iconst xc133_34 ?_
      refine x_iret xc133_35 (Or.inl rfl) ?_
      exact k2 h0 h1
    · refine x_aloadn xc133_15 rfl ?_
      refine x_gfr xc133_16 rfl rfl xz0 rfl ?_
      refine x_gfl (k := 4) xc133_19 rfl rfl rfl xz21 ?_
      refine x_iconst xc133_22 ?_
      refine x_iloadn xc133_23 rfl ?_
      refine x_iadd xc133_24 ?_
      refine x_cS (as := [.long (b 21 4), xV (4 + x)]) (rest := []) xc133_25 rfl rfl xi61 ⟨rfl, rfl⟩ rfl rfl ?_
      refine rk61 (by omega) (by have g0 := xRb qr1; omega) ?_
      refine x_cS (as := [xV (uSl (b 21 4) (4 + x))]) (rest := []) xc133_28 rfl rfl xi69 ⟨rfl, rfl⟩ rfl rfl ?_
      refine rk69 (by omega) (by have g0 := uSl_b (l := b 21 4) (j := 4 + x) (by have g0 := xRb qr1; omega) (by have g0 := xRb qr1; omega); omega) ?_
      refine x_goto xc133_31 ?_
      refine x_iret xc133_35 (Or.inl rfl) ?_
      exact k3 h0 h1

theorem xg133 {ro : Nat → Nat × (Nat → Int32)} {d : Nat} {Q : Option Value → pmS → Prop} {a : xA} {b : xB} {x : Int} (h : pmWp ro d 11 133 1 0 [some (.ref 0), some (xV x)] [] (xS a b) Q) : pmCs ro (d + 1) 133 [.ref 0, xV x] (xS a b) Q := x_go xi133 rfl rfl rfl rfl rfl h
theorem w134 {ro : Nat → Nat × (Nat → Int32)} {d : Nat} {Q : Option Value → pmS → Prop} {v : Int} {a : xA} {b : xB} (hA : xAr a) (qr1 : xR v) (hd : 3 ≤ d)
    (k1 : (v = 0) → Q (some (xV (a 21 6))) (xS a b))
    (k2 : (¬ v = 0) → (v = 1) → (a 0 12 = 0) → Q (some (xV 0)) (xS a b))
    (k3 : (¬ v = 0) → (v = 1) → (¬ a 0 12 = 0) → Q (some (xV 1)) (xS a b))
    (k4 : (¬ v = 0) → (¬ v = 1) → (v = 2) → Q (some (xV (a 3 5))) (xS a b))
    (k5 : (¬ v = 0) → (¬ v = 1) → (¬ v = 2) → (v = 3) → Q (some (xV (a 13 7))) (xS a b))
    (k6 : (¬ v = 0) → (¬ v = 1) → (¬ v = 2) → (¬ v = 3) → (v = 4) → Q (some (xV (a 21 10))) (xS a b))
    (k7 : (¬ v = 0) → (¬ v = 1) → (¬ v = 2) → (¬ v = 3) → (¬ v = 4) → (v = 5) → Q (some (xV (a 21 8))) (xS a b))
    (k8 : (¬ v = 0) → (¬ v = 1) → (¬ v = 2) → (¬ v = 3) → (¬ v = 4) → (¬ v = 5) → (v = 6) → Q (some (xV (a 21 9))) (xS a b))
    (k9 : (¬ v = 0) → (¬ v = 1) → (¬ v = 2) → (¬ v = 3) → (¬ v = 4) → (¬ v = 5) → (¬ v = 6) → (v = 7) → Q (some (xV (a 1 1))) (xS a b))
    (k10 : (¬ v = 0) → (¬ v = 1) → (¬ v = 2) → (¬ v = 3) → (¬ v = 4) → (¬ v = 5) → (¬ v = 6) → (¬ v = 7) → (v = 8) → Q (some (xV (a 21 11))) (xS a b))
    (k11 : (¬ v = 0) → (¬ v = 1) → (¬ v = 2) → (¬ v = 3) → (¬ v = 4) → (¬ v = 5) → (¬ v = 6) → (¬ v = 7) → (¬ v = 8) → pmCs ro d 135 [.ref 0, xV v] (xS a b) fun r σ' => pmWp ro d 11 134 1 134 [some (.ref 0), some (xV v)] (r.toList ++ []) σ' Q) :
    pmWp ro d 11 134 1 0 [some (.ref 0), some (xV v)] [] (xS a b) Q := by
  refine x_iloadn xc134_0 rfl ?_
  by_cases h0 : v = 0
  · refine x_sw (c := 0) (t := 52) h0 xc134_1.1 rfl ?_
    refine x_aloadn xc134_52 rfl ?_
    refine x_gfr xc134_53 rfl rfl xz0 rfl ?_
    refine x_gfi (k := 6) xc134_56 rfl (Or.inl rfl) rfl xz21 ?_
    refine x_iret xc134_59 (Or.inl rfl) ?_
    exact k1 h0
  by_cases h1 : v = 1
  · refine x_sw (c := 1) (t := 60) h1 xc134_1.1 rfl ?_
    refine x_aloadn xc134_60 rfl ?_
    refine x_gfi (k := 12) xc134_61 rfl (Or.inr rfl) rfl xz0 ?_
    refine x_ifeq xc134_64 (xRk (by have g0 := xRb (hA 0 12); omega)) (fun h2 => ?_) (fun h2 => ?_)
    · refine x_iconst xc134_71 ?_
      refine x_iret xc134_72 (Or.inl rfl) ?_
      exact k2 h0 h1 h2
    · refine x_iconst xc134_67 ?_
      refine x_goto xc134_68 ?_
      refine x_iret xc134_72 (Or.inl rfl) ?_
      exact k3 h0 h1 h2
  by_cases h3 : v = 2
  · refine x_sw (c := 2) (t := 73) h3 xc134_1.1 rfl ?_
    refine x_aloadn xc134_73 rfl ?_
    refine x_gfr xc134_74 rfl rfl xz0 rfl ?_
    refine x_gfi (k := 5) xc134_77 rfl (Or.inl rfl) rfl xz3 ?_
    refine x_iret xc134_80 (Or.inl rfl) ?_
    exact k4 h0 h1 h3
  by_cases h4 : v = 3
  · refine x_sw (c := 3) (t := 81) h4 xc134_1.1 rfl ?_
    refine x_aloadn xc134_81 rfl ?_
    refine x_gfr xc134_82 rfl rfl xz0 rfl ?_
    refine x_gfi (k := 7) xc134_85 rfl (Or.inl rfl) rfl xz13 ?_
    refine x_iret xc134_88 (Or.inl rfl) ?_
    exact k5 h0 h1 h3 h4
  by_cases h5 : v = 4
  · refine x_sw (c := 4) (t := 89) h5 xc134_1.1 rfl ?_
    refine x_aloadn xc134_89 rfl ?_
    refine x_gfr xc134_90 rfl rfl xz0 rfl ?_
    refine x_gfi (k := 10) xc134_93 rfl (Or.inl rfl) rfl xz21 ?_
    refine x_iret xc134_96 (Or.inl rfl) ?_
    exact k6 h0 h1 h3 h4 h5
  by_cases h6 : v = 5
  · refine x_sw (c := 5) (t := 97) h6 xc134_1.1 rfl ?_
    refine x_aloadn xc134_97 rfl ?_
    refine x_gfr xc134_98 rfl rfl xz0 rfl ?_
    refine x_gfi (k := 8) xc134_101 rfl (Or.inl rfl) rfl xz21 ?_
    refine x_iret xc134_104 (Or.inl rfl) ?_
    exact k7 h0 h1 h3 h4 h5 h6
  by_cases h7 : v = 6
  · refine x_sw (c := 6) (t := 105) h7 xc134_1.1 rfl ?_
    refine x_aloadn xc134_105 rfl ?_
    refine x_gfr xc134_106 rfl rfl xz0 rfl ?_
    refine x_gfi (k := 9) xc134_109 rfl (Or.inl rfl) rfl xz21 ?_
    refine x_iret xc134_112 (Or.inl rfl) ?_
    exact k8 h0 h1 h3 h4 h5 h6 h7
  by_cases h8 : v = 7
  · refine x_sw (c := 7) (t := 113) h8 xc134_1.1 rfl ?_
    refine x_aloadn xc134_113 rfl ?_
    refine x_gfr xc134_114 rfl rfl xz0 rfl ?_
    refine x_gfi (k := 1) xc134_117 rfl (Or.inl rfl) rfl xz1 ?_
    refine x_iret xc134_120 (Or.inl rfl) ?_
    exact k9 h0 h1 h3 h4 h5 h6 h7 h8
  by_cases h9 : v = 8
  · refine x_sw (c := 8) (t := 121) h9 xc134_1.1 rfl ?_
    refine x_aloadn xc134_121 rfl ?_
    refine x_gfr xc134_122 rfl rfl xz0 rfl ?_
    refine x_gfi (k := 11) xc134_125 rfl (Or.inl rfl) rfl xz21 ?_
    refine x_iret xc134_128 (Or.inl rfl) ?_
    exact k10 h0 h1 h3 h4 h5 h6 h7 h8 h9
  refine x_tsd xc134_1 (xRk (by have g0 := xRb qr1; omega)) (by omega) ?_
  refine x_aloadn xc134_129 rfl ?_
  refine x_iloadn xc134_130 rfl ?_
  refine x_cV (as := [xV v]) (rest := []) xc134_131 rfl xi135 xz0 ⟨rfl, rfl⟩ rfl rfl ?_
  exact k11 h0 h1 h3 h4 h5 h6 h7 h8 h9

theorem xg134 {ro : Nat → Nat × (Nat → Int32)} {d : Nat} {Q : Option Value → pmS → Prop} {a : xA} {b : xB} {v : Int} (h : pmWp ro d 11 134 1 0 [some (.ref 0), some (xV v)] [] (xS a b) Q) : pmCs ro (d + 1) 134 [.ref 0, xV v] (xS a b) Q := x_go xi134 rfl rfl rfl rfl rfl h
theorem w134a {ro : Nat → Nat × (Nat → Int32)} {d : Nat} {Q : Option Value → pmS → Prop} {v z : Int} {a : xA} {b : xB}
    (k1 : Q (some (xV z)) (xS a b)) :
    pmWp ro d 11 134 1 134 [some (.ref 0), some (xV v)] [xV z] (xS a b) Q := by
  refine x_iret xc134_134 (Or.inl rfl) ?_
  exact k1

theorem w135 {ro : Nat → Nat × (Nat → Int32)} {d : Nat} {Q : Option Value → pmS → Prop} {v n lw : Int} {a : xA} {b : xB} (hA : xAr a) (qr1 : xR v) (hn : a 3 5 = n) (hn0 : 0 ≤ n ∧ n ≤ 5) (hlw : a 13 7 = lw) (hlw0 : 0 ≤ lw ∧ lw ≤ 6) (hd : 3 ≤ d)
    (k1 : (v < 30) → (v < 20) → pmCs ro d 26 [xV (v - 10)] (xS a b) fun r σ' => pmWp ro d 11 135 1 111 [some (.ref 0), some (xV v), none] (r.toList ++ []) σ' Q)
    (k2 : (v < 30) → (¬ v < 20) → (n ≤ v - 20) → Q (some (xV (-1))) (xS a b))
    (k3 : (v < 30) → (¬ v < 20) → (¬ n ≤ v - 20) → (¬ uSl (b 21 4) (4 + v - 20) = 13) → Q (some (xV (-1))) (xS a b))
    (k4 : (v < 30) → (¬ v < 20) → (¬ n ≤ v - 20) → (uSl (b 21 4) (4 + v - 20) = 13) → Q (some (xV (uSt (b 21 5) (v - 20)))) (xS a b))
    (k5 : (¬ v < 30) → (lw ≤ v - 30) → Q (some (xV (-1))) (xS a b))
    (k6 : (¬ v < 30) → (¬ lw ≤ v - 30) → Q (some (xV (a 20 (v - 30)))) (xS a b)) :
    pmWp ro d 11 135 1 0 [some (.ref 0), some (xV v), none] [] (xS a b) Q := by
  refine x_iloadn xc135_0 rfl ?_
  refine x_bipush xc135_1 (by decide) ?_
  refine x_iclt xc135_3 (xRk (by have g0 := xRb qr1; omega)) (xRk (by decide)) (fun h0 => ?_) (fun h0 => ?_)
  · refine x_iloadn xc135_37 rfl ?_
    refine x_bipush xc135_38 (by decide) ?_
    refine x_iclt xc135_40 (xRk (by have g0 := xRb qr1; omega)) (xRk (by decide)) (fun h1 => ?_) (fun h1 => ?_)
    · refine x_iloadn xc135_104 rfl ?_
      refine x_bipush xc135_105 (by decide) ?_
      refine x_isub xc135_107 ?_
      refine x_cS (as := [xV (v - 10)]) (rest := []) xc135_108 rfl rfl xi26 ⟨rfl, rfl⟩ rfl rfl ?_
      exact k1 h0 h1
    · refine x_iloadn xc135_43 rfl ?_
      refine x_bipush xc135_44 (by decide) ?_
      refine x_isub xc135_46 ?_
      refine x_aloadn xc135_47 rfl ?_
      refine x_gfr xc135_48 rfl rfl xz0 rfl ?_
      refine x_gfi' (k := 5) (v := n) xc135_51 rfl (Or.inl rfl) rfl xz3 hn ?_
      refine x_icge xc135_54 (xRk (by have g0 := xRb qr1; omega)) (xRk (by have g0 := hn0; omega)) (fun h2 => ?_) (fun h2 => ?_)
      · refine x_iconst xc135_82 ?_
        refine x_istoren (pl' := [some (.ref 0), some (xV v), some (xV 0)]) xc135_83 rfl rfl ?_
        refine x_iloadn xc135_84 rfl ?_
        refine x_ifeq xc135_85 (xRk (by decide)) (fun _ => ?_) (fun h => absurd h (by omega))
        refine x_iconst xc135_102 ?_
        refine x_iret xc135_103 (Or.inl rfl) ?_
        exact k2 h0 h1 h2
      · refine x_aloadn xc135_57 rfl ?_
        refine x_gfr xc135_58 rfl rfl xz0 rfl ?_
        refine x_gfl (k := 4) xc135_61 rfl rfl rfl xz21 ?_
        refine x_iconst xc135_64 ?_
        refine x_iloadn xc135_65 rfl ?_
        refine x_iadd xc135_66 ?_
        refine x_bipush xc135_67 (by decide) ?_
        refine x_isub xc135_69 ?_
        refine x_cS (as := [.long (b 21 4), xV (4 + v - 20)]) (rest := []) xc135_70 rfl rfl xi61 ⟨rfl, rfl⟩ rfl rfl ?_
        refine rk61 (by omega) (by have g0 := xRb qr1; omega) ?_
        refine x_bipush xc135_73 (by decide) ?_
        refine x_icne xc135_75 (xRk (by have g0 := uSl_b (l := b 21 4) (j := 4 + v - 20) (by have g0 := xRb qr1; omega) (by have g0 := xRb qr1; omega); omega)) (xRk (by decide)) (fun h4 => ?_) (fun h4 => ?_)
        · refine x_iconst xc135_82 ?_
          refine x_istoren (pl' := [some (.ref 0), some (xV v), some (xV 0)]) xc135_83 rfl rfl ?_
          refine x_iloadn xc135_84 rfl ?_
          refine x_ifeq xc135_85 (xRk (by decide)) (fun _ => ?_) (fun h => absurd h (by omega))
          refine x_iconst xc135_102 ?_
          refine x_iret xc135_103 (Or.inl rfl) ?_
          exact k3 h0 h1 h2 h4
        · replace h4 := Classical.not_not.mp h4
          refine x_iconst xc135_78 ?_
          refine x_goto xc135_79 ?_
          refine x_istoren (pl' := [some (.ref 0), some (xV v), some (xV 1)]) xc135_83 rfl rfl ?_
          refine x_iloadn xc135_84 rfl ?_
          refine x_ifeq xc135_85 (xRk (by decide)) (fun h => absurd h (by omega)) (fun _ => ?_)
          refine x_aloadn xc135_88 rfl ?_
          refine x_gfr xc135_89 rfl rfl xz0 rfl ?_
          refine x_iloadn xc135_92 rfl ?_
          refine x_bipush xc135_93 (by decide) ?_
          refine x_isub xc135_95 ?_
          refine x_cV (as := [xV (v - 20)]) (rest := []) xc135_96 rfl xi62 xz21 ⟨rfl, rfl⟩ rfl rfl ?_
          refine rk62 (by omega) uWo21.1 (by have g0 := xRb qr1; omega) ?_
          refine x_goto xc135_99 ?_
          refine x_iret xc135_103 (Or.inl rfl) ?_
          exact k4 h0 h1 h2 h4
  · refine x_iloadn xc135_6 rfl ?_
    refine x_bipush xc135_7 (by decide) ?_
    refine x_isub xc135_9 ?_
    refine x_aloadn xc135_10 rfl ?_
    refine x_gfr xc135_11 rfl rfl xz0 rfl ?_
    refine x_gfi' (k := 7) (v := lw) xc135_14 rfl (Or.inl rfl) rfl xz13 hlw ?_
    refine x_icge xc135_17 (xRk (by have g0 := xRb qr1; omega)) (xRk (by have g0 := hlw0; omega)) (fun h7 => ?_) (fun h7 => ?_)
    · refine x_iconst xc135_35 ?_
      refine x_iret xc135_36 (Or.inl rfl) ?_
      exact k5 h0 h7
    · refine x_aloadn xc135_20 rfl ?_
      refine x_gfr xc135_21 rfl rfl xz0 rfl ?_
      refine x_gfr xc135_24 rfl rfl xz13 rfl ?_
      refine x_iloadn xc135_27 rfl ?_
      refine x_bipush xc135_28 (by decide) ?_
      refine x_isub xc135_30 ?_
      refine x_ial xc135_31 xz20 rfl (by have g0 := xRb qr1; omega) (by have g0 := xRb qr1; omega) (by have g0 := xRb qr1; omega) ?_
      refine x_goto xc135_32 ?_
      refine x_iret xc135_36 (Or.inl rfl) ?_
      exact k6 h0 h7

theorem xg135 {ro : Nat → Nat × (Nat → Int32)} {d : Nat} {Q : Option Value → pmS → Prop} {a : xA} {b : xB} {v : Int} (h : pmWp ro d 11 135 1 0 [some (.ref 0), some (xV v), none] [] (xS a b) Q) : pmCs ro (d + 1) 135 [.ref 0, xV v] (xS a b) Q := x_go xi135 rfl rfl rfl rfl rfl h
theorem w135a {ro : Nat → Nat × (Nat → Int32)} {d : Nat} {Q : Option Value → pmS → Prop} {v z : Int} {a : xA} {b : xB} (hv : z = 1 → 11 ≤ v ∧ v ≤ 13) (hzz : z = 0 ∨ z = 1)
    (k1 : (z = 0) → Q (some (xV (-1))) (xS a b))
    (k2 : (¬ z = 0) → Q (some (xV (a 12 (v - 10)))) (xS a b)) :
    pmWp ro d 11 135 1 111 [some (.ref 0), some (xV v), none] [xV z] (xS a b) Q := by
  refine x_ifeq xc135_111 (xRk (by have g0 := hzz; omega)) (fun h0 => ?_) (fun h0 => ?_)
  · refine x_iconst xc135_129 ?_
    refine x_iret xc135_130 (Or.inl rfl) ?_
    exact k1 h0
  · refine x_aloadn xc135_114 rfl ?_
    refine x_gfr xc135_115 rfl rfl xz0 rfl ?_
    refine x_gfr xc135_118 rfl rfl xz7 rfl ?_
    refine x_iloadn xc135_121 rfl ?_
    refine x_bipush xc135_122 (by decide) ?_
    refine x_isub xc135_124 ?_
    refine x_ial xc135_125 xz12 rfl (by have g0 := hv; omega) (by have g0 := hv; omega) (by have g0 := hv; omega) ?_
    refine x_goto xc135_126 ?_
    refine x_iret xc135_130 (Or.inl rfl) ?_
    exact k2 h0

theorem w182 {ro : Nat → Nat × (Nat → Int32)} {d : Nat} {Q : Option Value → pmS → Prop} {p g i n : Int} {a : xA} {b : xB} (qr1 : xR p) (hg : g = 0 ∨ g = 1) (qr2 : xR i) (hA : xAr a) (hn : a 87 2 = n) (hn0 : 0 ≤ n ∧ n ≤ 5) (hd : 3 ≤ d)
    (k1 : (1 ≤ p ∧ p < 4) → (g = 0) → (0 ≤ i ∧ i < n) → (¬ a 88 (4 + i) = 10 + p) → Q (some (xV (a 88 (14 + (9 * (p - 1)) + i)))) (xS a b))
    (k2 : (1 ≤ p ∧ p < 4) → (g = 0) → (0 ≤ i ∧ i < n) → (a 88 (4 + i) = 10 + p) → Q (some (xV (10 + p))) (xS a b))
    (k3 : (1 ≤ p ∧ p < 4) → (g = 0) → (¬ (0 ≤ i ∧ i < n)) → Q (some (xV (-1))) (xS a b))
    (k4 : (1 ≤ p ∧ p < 4) → (¬ g = 0) → (0 ≤ i ∧ i < 4) → (¬ i = p) → Q (some (xV (a 88 (14 + (9 * (p - 1)) + 5 + i)))) (xS a b))
    (k5 : (1 ≤ p ∧ p < 4) → (¬ g = 0) → (0 ≤ i ∧ i < 4) → (i = p) → Q (some (xV (a 88 (0 + p)))) (xS a b))
    (k6 : (1 ≤ p ∧ p < 4) → (¬ g = 0) → (¬ (0 ≤ i ∧ i < 4)) → Q (some (xV (-1))) (xS a b))
    (k7 : (¬ (1 ≤ p ∧ p < 4)) → Q (some (xV (-1))) (xS a b)) :
    pmWp ro d 12 182 1 0 [some (.ref 87), some (xV p), some (xV g), some (xV i)] [] (xS a b) Q := by
  refine x_iloadn xc182_0 rfl ?_
  refine x_cS (as := [xV p]) (rest := []) xc182_1 rfl rfl xi146 ⟨rfl, rfl⟩ rfl rfl ?_
  refine xk146 (by omega) (xRk (by have g0 := xRb qr1; omega)) (fun h0 => ?_) (fun h1 => ?_)
  · refine x_ifne xc182_4 (xRk (by decide)) (fun _ => ?_) (fun h => absurd h (by omega))
    refine x_iloadn xc182_9 rfl ?_
    refine x_ifeq xc182_10 (xRk (by have g0 := hg; omega)) (fun h3 => ?_) (fun h3 => ?_)
    · refine x_aloadn xc182_51 rfl ?_
      refine x_iloadn xc182_52 rfl ?_
      refine x_cV (as := [xV i]) (rest := []) xc182_53 rfl xi148 xz87 ⟨rfl, rfl⟩ rfl rfl ?_
      refine rk148 (by omega) (xRk (by have g0 := xRb qr2; omega)) hn hn0 (fun h4 => ?_) (fun h5 => ?_)
      · refine x_ifne xc182_56 (xRk (by decide)) (fun _ => ?_) (fun h => absurd h (by omega))
        refine x_aloadn xc182_63 rfl ?_
        refine x_gfr xc182_64 rfl rfl xz87 rfl ?_
        refine x_iconst xc182_67 ?_
        refine x_iloadn xc182_68 rfl ?_
        refine x_iadd xc182_69 ?_
        refine x_ial xc182_70 xz88 rfl (by have g0 := xRb qr2; omega) (by have g0 := xRb qr2; omega) (by have g0 := xRb qr2; omega) ?_
        refine x_bipush xc182_71 (by decide) ?_
        refine x_iloadn xc182_73 rfl ?_
        refine x_iadd xc182_74 ?_
        refine x_icne xc182_75 (xRk (by have g0 := xRb qr2; have g1 := xRb (hA 88 (4 + i)); omega)) (xRk (by have g0 := xRb qr1; omega)) (fun h7 => ?_) (fun h7 => ?_)
        · refine x_aloadn xc182_85 rfl ?_
          refine x_gfr xc182_86 rfl rfl xz87 rfl ?_
          refine x_iloadn xc182_89 rfl ?_
          refine x_iloadn xc182_90 rfl ?_
          refine x_cS (as := [xV p, xV i]) (rest := [.ref 88]) xc182_91 rfl rfl xi149 ⟨rfl, rfl⟩ rfl rfl ?_
          refine rk149 (by omega) ?_
          refine x_ial xc182_94 xz88 rfl (by have g0 := xRb qr1; have g1 := xRb qr2; omega) (by have g0 := xRb qr1; have g1 := xRb qr2; omega) (by have g0 := xRb qr1; have g1 := xRb qr2; omega) ?_
          refine x_iret xc182_95 (Or.inl rfl) ?_
          exact k1 h0 h3 h4 h7
        · replace h7 := Classical.not_not.mp h7
          refine x_bipush xc182_78 (by decide) ?_
          refine x_iloadn xc182_80 rfl ?_
          refine x_iadd xc182_81 ?_
          refine x_goto xc182_82 ?_
          refine x_iret xc182_95 (Or.inl rfl) ?_
          exact k2 h0 h3 h4 h7
      · refine x_ifne xc182_56 (xRk (by decide)) (fun h => absurd h (by omega)) (fun _ => ?_)
        refine x_iconst xc182_59 ?_
        refine x_goto xc182_60 ?_
        refine x_iret xc182_95 (Or.inl rfl) ?_
        exact k3 h0 h3 h5
    · refine x_iloadn xc182_13 rfl ?_
      refine x_cS (as := [xV i]) (rest := []) xc182_14 rfl rfl xi140 ⟨rfl, rfl⟩ rfl rfl ?_
      refine xk140 (by omega) (xRk (by have g0 := xRb qr2; omega)) (fun h9 => ?_) (fun h10 => ?_)
      · refine x_ifne xc182_17 (xRk (by decide)) (fun _ => ?_) (fun h => absurd h (by omega))
        refine x_iloadn xc182_24 rfl ?_
        refine x_iloadn xc182_25 rfl ?_
        refine x_icne xc182_26 (xRk (by have g0 := xRb qr2; omega)) (xRk (by have g0 := xRb qr1; omega)) (fun h12 => ?_) (fun h12 => ?_)
        · refine x_aloadn xc182_40 rfl ?_
          refine x_gfr xc182_41 rfl rfl xz87 rfl ?_
          refine x_iloadn xc182_44 rfl ?_
          refine x_iloadn xc182_45 rfl ?_
          refine x_cS (as := [xV p, xV i]) (rest := [.ref 88]) xc182_46 rfl rfl xi147 ⟨rfl, rfl⟩ rfl rfl ?_
          refine rk147 (by omega) ?_
          refine x_ial xc182_49 xz88 rfl (by have g0 := xRb qr1; have g1 := xRb qr2; omega) (by have g0 := xRb qr1; have g1 := xRb qr2; omega) (by have g0 := xRb qr1; have g1 := xRb qr2; omega) ?_
          refine x_iret xc182_50 (Or.inl rfl) ?_
          exact k4 h0 h3 h9 h12
        · replace h12 := Classical.not_not.mp h12
          refine x_aloadn xc182_29 rfl ?_
          refine x_gfr xc182_30 rfl rfl xz87 rfl ?_
          refine x_iconst xc182_33 ?_
          refine x_iloadn xc182_34 rfl ?_
          refine x_iadd xc182_35 ?_
          refine x_ial xc182_36 xz88 rfl (by have g0 := xRb qr1; omega) (by have g0 := xRb qr1; omega) (by have g0 := xRb qr1; omega) ?_
          refine x_goto xc182_37 ?_
          refine x_iret xc182_50 (Or.inl rfl) ?_
          exact k5 h0 h3 h9 h12
      · refine x_ifne xc182_17 (xRk (by decide)) (fun h => absurd h (by omega)) (fun _ => ?_)
        refine x_iconst xc182_20 ?_
        refine x_goto xc182_21 ?_
        refine x_iret xc182_50 (Or.inl rfl) ?_
        exact k6 h0 h3 h10
  · refine x_ifne xc182_4 (xRk (by decide)) (fun h => absurd h (by omega)) (fun _ => ?_)
    refine x_iconst xc182_7 ?_
    refine x_iret xc182_8 (Or.inl rfl) ?_
    exact k7 h1

theorem xg182 {ro : Nat → Nat × (Nat → Int32)} {d : Nat} {Q : Option Value → pmS → Prop} {a : xA} {b : xB} {p g i : Int} (h : pmWp ro d 12 182 1 0 [some (.ref 87), some (xV p), some (xV g), some (xV i)] [] (xS a b) Q) : pmCs ro (d + 1) 182 [.ref 87, xV p, xV g, xV i] (xS a b) Q := x_go xi182 rfl rfl rfl rfl rfl h
theorem w243 {ro : Nat → Nat × (Nat → Int32)} {d : Nat} {Q : Option Value → pmS → Prop} {p : Int} {a : xA} {b : xB} (qr1 : xR p) (hd : 3 ≤ d)
    (k1 : (0 ≤ p ∧ p < 4) → Q (some (xV (a 88 (0 + p)))) (xS a b))
    (k2 : (¬ (0 ≤ p ∧ p < 4)) → Q (some (xV (-1))) (xS a b)) :
    pmWp ro d 12 243 1 0 [some (.ref 87), some (xV p)] [] (xS a b) Q := by
  refine x_iloadn xc243_0 rfl ?_
  refine x_cS (as := [xV p]) (rest := []) xc243_1 rfl rfl xi140 ⟨rfl, rfl⟩ rfl rfl ?_
  refine xk140 (by omega) (xRk (by have g0 := xRb qr1; omega)) (fun h0 => ?_) (fun h1 => ?_)
  · refine x_ifeq xc243_4 (xRk (by decide)) (fun h => absurd h (by omega)) (fun _ => ?_)
    refine x_aloadn xc243_7 rfl ?_
    refine x_gfr xc243_8 rfl rfl xz87 rfl ?_
    refine x_iconst xc243_11 ?_
    refine x_iloadn xc243_12 rfl ?_
    refine x_iadd xc243_13 ?_
    refine x_ial xc243_14 xz88 rfl (by have g0 := xRb qr1; omega) (by have g0 := xRb qr1; omega) (by have g0 := xRb qr1; omega) ?_
    refine x_goto xc243_15 ?_
    refine x_iret xc243_19 (Or.inl rfl) ?_
    exact k1 h0
  · refine x_ifeq xc243_4 (xRk (by decide)) (fun _ => ?_) (fun h => absurd h (by omega))
    refine x_iconst xc243_18 ?_
    refine x_iret xc243_19 (Or.inl rfl) ?_
    exact k2 h1

theorem xg243 {ro : Nat → Nat × (Nat → Int32)} {d : Nat} {Q : Option Value → pmS → Prop} {a : xA} {b : xB} {p : Int} (h : pmWp ro d 12 243 1 0 [some (.ref 87), some (xV p)] [] (xS a b) Q) : pmCs ro (d + 1) 243 [.ref 87, xV p] (xS a b) Q := x_go xi243 rfl rfl rfl rfl rfl h
theorem w244 {ro : Nat → Nat × (Nat → Int32)} {d : Nat} {Q : Option Value → pmS → Prop} {x n : Int} {a : xA} {b : xB} (qr1 : xR x) (hA : xAr a) (hn : a 87 2 = n) (hn0 : 0 ≤ n ∧ n ≤ 5) (hd : 3 ≤ d)
    (k1 : (0 ≤ x ∧ x < n) → Q (some (xV (a 88 (4 + x)))) (xS a b))
    (k2 : (¬ (0 ≤ x ∧ x < n)) → Q (some (xV (-1))) (xS a b)) :
    pmWp ro d 12 244 1 0 [some (.ref 87), some (xV x)] [] (xS a b) Q := by
  refine x_aloadn xc244_0 rfl ?_
  refine x_iloadn xc244_1 rfl ?_
  refine x_cV (as := [xV x]) (rest := []) xc244_2 rfl xi148 xz87 ⟨rfl, rfl⟩ rfl rfl ?_
  refine rk148 (by omega) (xRk (by have g0 := xRb qr1; omega)) hn hn0 (fun h0 => ?_) (fun h1 => ?_)
  · refine x_ifeq xc244_5 (xRk (by decide)) (fun h => absurd h (by omega)) (fun _ => ?_)
    refine x_aloadn xc244_8 rfl ?_
    refine x_gfr xc244_9 rfl rfl xz87 rfl ?_
    refine x_iconst xc244_12 ?_
    refine x_iloadn xc244_13 rfl ?_
    refine x_iadd xc244_14 ?_
    refine x_ial xc244_15 xz88 rfl (by have g0 := xRb qr1; omega) (by have g0 := xRb qr1; omega) (by have g0 := xRb qr1; omega) ?_
    refine x_goto xc244_16 ?_
    refine x_iret xc244_20 (Or.inl rfl) ?_
    exact k1 h0
  · refine x_ifeq xc244_5 (xRk (by decide)) (fun _ => ?_) (fun h => absurd h (by omega))
    refine x_iconst xc244_19 ?_
    refine x_iret xc244_20 (Or.inl rfl) ?_
    exact k2 h1

theorem xg244 {ro : Nat → Nat × (Nat → Int32)} {d : Nat} {Q : Option Value → pmS → Prop} {a : xA} {b : xB} {x : Int} (h : pmWp ro d 12 244 1 0 [some (.ref 87), some (xV x)] [] (xS a b) Q) : pmCs ro (d + 1) 244 [.ref 87, xV x] (xS a b) Q := x_go xi244 rfl rfl rfl rfl rfl h
theorem w245 {ro : Nat → Nat × (Nat → Int32)} {d : Nat} {Q : Option Value → pmS → Prop} {v n lw : Int} {a : xA} {b : xB} (qr1 : xR v) (hbg : 0 ≤ a 87 4 ∧ a 87 4 ≤ 1) (hlw : a 87 3 = lw) (hlw0 : 0 ≤ lw ∧ lw ≤ 6) (hA : xAr a) (hn : a 87 2 = n) (hn0 : 0 ≤ n ∧ n ≤ 5) (hd : 3 ≤ d)
    (k1 : (v = 0) → Q (some (xV (a 88 114))) (xS a b))
    (k2 : (¬ v = 0) → (v = 1) → (a 87 4 = 0) → Q (some (xV 0)) (xS a b))
    (k3 : (¬ v = 0) → (v = 1) → (¬ a 87 4 = 0) → Q (some (xV 1)) (xS a b))
    (k4 : (¬ v = 0) → (¬ v = 1) → (v = 2) → Q (some (xV n)) (xS a b))
    (k5 : (¬ v = 0) → (¬ v = 1) → (¬ v = 2) → (v = 3) → Q (some (xV lw)) (xS a b))
    (k6 : (¬ v = 0) → (¬ v = 1) → (¬ v = 2) → (¬ v = 3) → (v = 4) → Q (some (xV (a 88 118))) (xS a b))
    (k7 : (¬ v = 0) → (¬ v = 1) → (¬ v = 2) → (¬ v = 3) → (¬ v = 4) → (v = 5) → Q (some (xV (a 88 116))) (xS a b))
    (k8 : (¬ v = 0) → (¬ v = 1) → (¬ v = 2) → (¬ v = 3) → (¬ v = 4) → (¬ v = 5) → (v = 6) → Q (some (xV (a 88 117))) (xS a b))
    (k9 : (¬ v = 0) → (¬ v = 1) → (¬ v = 2) → (¬ v = 3) → (¬ v = 4) → (¬ v = 5) → (¬ v = 6) → (v = 7) → Q (some (xV (a 87 9))) (xS a b))
    (k10 : (¬ v = 0) → (¬ v = 1) → (¬ v = 2) → (¬ v = 3) → (¬ v = 4) → (¬ v = 5) → (¬ v = 6) → (¬ v = 7) → (v = 8) → Q (some (xV (a 88 119))) (xS a b))
    (k11 : (¬ v = 0) → (¬ v = 1) → (¬ v = 2) → (¬ v = 3) → (¬ v = 4) → (¬ v = 5) → (¬ v = 6) → (¬ v = 7) → (¬ v = 8) → (11 ≤ v ∧ v ≤ 13) → Q (some (xV (a 96 (v - 10)))) (xS a b))
    (k12 : (¬ v = 0) → (¬ v = 1) → (¬ v = 2) → (¬ v = 3) → (¬ v = 4) → (¬ v = 5) → (¬ v = 6) → (¬ v = 7) → (¬ v = 8) → (¬ (11 ≤ v ∧ v ≤ 13)) → (20 ≤ v ∧ v ≤ 19 + n) → (¬ a 88 (4 + v - 20) = 20) → Q (some (xV (-1))) (xS a b))
    (k13 : (¬ v = 0) → (¬ v = 1) → (¬ v = 2) → (¬ v = 3) → (¬ v = 4) → (¬ v = 5) → (¬ v = 6) → (¬ v = 7) → (¬ v = 8) → (¬ (11 ≤ v ∧ v ≤ 13)) → (20 ≤ v ∧ v ≤ 19 + n) → (a 88 (4 + v - 20) = 20) → Q (some (xV (a 88 (9 + v - 20)))) (xS a b))
    (k14 : (¬ v = 0) → (¬ v = 1) → (¬ v = 2) → (¬ v = 3) → (¬ v = 4) → (¬ v = 5) → (¬ v = 6) → (¬ v = 7) → (¬ v = 8) → (¬ (11 ≤ v ∧ v ≤ 13)) → (¬ (20 ≤ v ∧ v ≤ 19 + n)) → (30 ≤ v ∧ v ≤ 29 + lw) → Q (some (xV (a 100 (v - 30)))) (xS a b))
    (k15 : (¬ v = 0) → (¬ v = 1) → (¬ v = 2) → (¬ v = 3) → (¬ v = 4) → (¬ v = 5) → (¬ v = 6) → (¬ v = 7) → (¬ v = 8) → (¬ (11 ≤ v ∧ v ≤ 13)) → (¬ (20 ≤ v ∧ v ≤ 19 + n)) → (¬ (30 ≤ v ∧ v ≤ 29 + lw)) → Q (some (xV (-1))) (xS a b)) :
    pmWp ro d 12 245 1 0 [some (.ref 87), some (xV v)] [] (xS a b) Q := by
  refine x_iloadn xc245_0 rfl ?_
  by_cases h0 : v = 0
  · refine x_sw (c := 0) (t := 52) h0 xc245_1.1 rfl ?_
    refine x_aloadn xc245_52 rfl ?_
    refine x_gfr xc245_53 rfl rfl xz87 rfl ?_
    refine x_bipush xc245_56 (by decide) ?_
    refine x_ial xc245_58 xz88 rfl (by omega) (by omega) (by omega) ?_
    refine x_iret xc245_59 (Or.inl rfl) ?_
    exact k1 h0
  by_cases h1 : v = 1
  · refine x_sw (c := 1) (t := 60) h1 xc245_1.1 rfl ?_
    refine x_aloadn xc245_60 rfl ?_
    refine x_gfi (k := 4) xc245_61 rfl (Or.inr rfl) rfl xz87 ?_
    refine x_ifeq xc245_64 (xRk (by have g0 := hbg; omega)) (fun h2 => ?_) (fun h2 => ?_)
    · refine x_iconst xc245_71 ?_
      refine x_iret xc245_72 (Or.inl rfl) ?_
      exact k2 h0 h1 h2
    · refine x_iconst xc245_67 ?_
      refine x_goto xc245_68 ?_
      refine x_iret xc245_72 (Or.inl rfl) ?_
      exact k3 h0 h1 h2
  by_cases h3 : v = 2
  · refine x_sw (c := 2) (t := 73) h3 xc245_1.1 rfl ?_
    refine x_aloadn xc245_73 rfl ?_
    refine x_gfi' (k := 2) (v := n) xc245_74 rfl (Or.inl rfl) rfl xz87 hn ?_
    refine x_iret xc245_77 (Or.inl rfl) ?_
    exact k4 h0 h1 h3
  by_cases h4 : v = 3
  · refine x_sw (c := 3) (t := 78) h4 xc245_1.1 rfl ?_
    refine x_aloadn xc245_78 rfl ?_
    refine x_gfi' (k := 3) (v := lw) xc245_79 rfl (Or.inl rfl) rfl xz87 hlw ?_
    refine x_iret xc245_82 (Or.inl rfl) ?_
    exact k5 h0 h1 h3 h4
  by_cases h5 : v = 4
  · refine x_sw (c := 4) (t := 83) h5 xc245_1.1 rfl ?_
    refine x_aloadn xc245_83 rfl ?_
    refine x_gfr xc245_84 rfl rfl xz87 rfl ?_
    refine x_bipush xc245_87 (by decide) ?_
    refine x_ial xc245_89 xz88 rfl (by omega) (by omega) (by omega) ?_
    refine x_iret xc245_90 (Or.inl rfl) ?_
    exact k6 h0 h1 h3 h4 h5
  by_cases h6 : v = 5
  · refine x_sw (c := 5) (t := 91) h6 xc245_1.1 rfl ?_
    refine x_aloadn xc245_91 rfl ?_
    refine x_gfr xc245_92 rfl rfl xz87 rfl ?_
    refine x_bipush xc245_95 (by decide) ?_
    refine x_ial xc245_97 xz88 rfl (by omega) (by omega) (by omega) ?_
    refine x_iret xc245_98 (Or.inl rfl) ?_
    exact k7 h0 h1 h3 h4 h5 h6
  by_cases h7 : v = 6
  · refine x_sw (c := 6) (t := 99) h7 xc245_1.1 rfl ?_
    refine x_aloadn xc245_99 rfl ?_
    refine x_gfr xc245_100 rfl rfl xz87 rfl ?_
    refine x_bipush xc245_103 (by decide) ?_
    refine x_ial xc245_105 xz88 rfl (by omega) (by omega) (by omega) ?_
    refine x_iret xc245_106 (Or.inl rfl) ?_
    exact k8 h0 h1 h3 h4 h5 h6 h7
  by_cases h8 : v = 7
  · refine x_sw (c := 7) (t := 107) h8 xc245_1.1 rfl ?_
    refine x_aloadn xc245_107 rfl ?_
    refine x_gfi (k := 9) xc245_108 rfl (Or.inl rfl) rfl xz87 ?_
    refine x_iret xc245_111 (Or.inl rfl) ?_
    exact k9 h0 h1 h3 h4 h5 h6 h7 h8
  by_cases h9 : v = 8
  · refine x_sw (c := 8) (t := 112) h9 xc245_1.1 rfl ?_
    refine x_aloadn xc245_112 rfl ?_
    refine x_gfr xc245_113 rfl rfl xz87 rfl ?_
    refine x_bipush xc245_116 (by decide) ?_
    refine x_ial xc245_118 xz88 rfl (by omega) (by omega) (by omega) ?_
    refine x_iret xc245_119 (Or.inl rfl) ?_
    exact k10 h0 h1 h3 h4 h5 h6 h7 h8 h9
  refine x_tsd xc245_1 (xRk (by have g0 := xRb qr1; omega)) (by omega) ?_
  refine x_iloadn xc245_120 rfl ?_
  refine x_bipush xc245_121 (by decide) ?_
  refine x_bipush xc245_123 (by decide) ?_
  refine x_cS (as := [xV v, xV 11, xV 13]) (rest := []) xc245_125 rfl rfl xi143 ⟨rfl, rfl⟩ rfl rfl ?_
  refine xk143 (xRk (by have g0 := xRb qr1; omega)) (xRk (by decide)) (xRk (by decide)) (by omega) (fun h10 => ?_) (fun h11 => ?_)
  · refine x_ifeq xc245_128 (xRk (by decide)) (fun h => absurd h (by omega)) (fun _ => ?_)
    refine x_aloadn xc245_131 rfl ?_
    refine x_gfr xc245_132 rfl rfl xz87 rfl ?_
    refine x_iloadn xc245_135 rfl ?_
    refine x_bipush xc245_136 (by decide) ?_
    refine x_isub xc245_138 ?_
    refine x_ial xc245_139 xz96 rfl (by have g0 := xRb qr1; omega) (by have g0 := xRb qr1; omega) (by have g0 := xRb qr1; omega) ?_
    refine x_iret xc245_140 (Or.inl rfl) ?_
    exact k11 h0 h1 h3 h4 h5 h6 h7 h8 h9 h10
  · refine x_ifeq xc245_128 (xRk (by decide)) (fun _ => ?_) (fun h => absurd h (by omega))
    refine x_iloadn xc245_141 rfl ?_
    refine x_bipush xc245_142 (by decide) ?_
    refine x_bipush xc245_144 (by decide) ?_
    refine x_aloadn xc245_146 rfl ?_
    refine x_gfi' (k := 2) (v := n) xc245_147 rfl (Or.inl rfl) rfl xz87 hn ?_
    refine x_iadd xc245_150 ?_
    refine x_cS (as := [xV v, xV 20, xV (19 + n)]) (rest := []) xc245_151 rfl rfl xi143 ⟨rfl, rfl⟩ rfl rfl ?_
    refine xk143 (xRk (by have g0 := xRb qr1; omega)) (xRk (by decide)) (xRk (by have g0 := hn0; omega)) (by omega) (fun h14 => ?_) (fun h15 => ?_)
    · refine x_ifeq xc245_154 (xRk (by decide)) (fun h => absurd h (by omega)) (fun _ => ?_)
      refine x_aloadn xc245_157 rfl ?_
      refine x_gfr xc245_158 rfl rfl xz87 rfl ?_
      refine x_iconst xc245_161 ?_
      refine x_iloadn xc245_162 rfl ?_
      refine x_iadd xc245_163 ?_
      refine x_bipush xc245_164 (by decide) ?_
      refine x_isub xc245_166 ?_
      refine x_ial xc245_167 xz88 rfl (by have g0 := xRb qr1; omega) (by have g0 := xRb qr1; omega) (by have g0 := xRb qr1; omega) ?_
      refine x_bipush xc245_168 (by decide) ?_
      refine x_icne xc245_170 (xRk (by have g0 := xRb qr1; have g1 := xRb (hA 88 (4 + v - 20)); omega)) (xRk (by decide)) (fun h17 => ?_) (fun h17 => ?_)
      · refine x_iconst xc245_188 ?_
        refine x_iret xc245_189 (Or.inl rfl) ?_
        exact k12 h0 h1 h3 h4 h5 h6 h7 h8 h9 h11 h14 h17
      · replace h17 := Classical.not_not.mp h17
        refine x_aloadn xc245_173 rfl ?_
        refine x_gfr xc245_174 rfl rfl xz87 rfl ?_
        refine x_bipush xc245_177 (by decide) ?_
        refine x_iloadn xc245_179 rfl ?_
        refine x_iadd xc245_180 ?_
        refine x_bipush xc245_181 (by decide) ?_
        refine x_isub xc245_183 ?_
        refine x_ial xc245_184 xz88 rfl (by have g0 := xRb qr1; omega) (by have g0 := xRb qr1; omega) (by have g0 := xRb qr1; omega) ?_
        refine x_goto xc245_185 ?_
        refine x_iret xc245_189 (Or.inl rfl) ?_
        exact k13 h0 h1 h3 h4 h5 h6 h7 h8 h9 h11 h14 h17
    · refine x_ifeq xc245_154 (xRk (by decide)) (fun _ => ?_) (fun h => absurd h (by omega))
      refine x_iloadn xc245_190 rfl ?_
      refine x_bipush xc245_191 (by decide) ?_
      refine x_bipush xc245_193 (by decide) ?_
      refine x_aloadn xc245_195 rfl ?_
      refine x_gfi' (k := 3) (v := lw) xc245_196 rfl (Or.inl rfl) rfl xz87 hlw ?_
      refine x_iadd xc245_199 ?_
      refine x_cS (as := [xV v, xV 30, xV (29 + lw)]) (rest := []) xc245_200 rfl rfl xi143 ⟨rfl, rfl⟩ rfl rfl ?_
      refine xk143 (xRk (by have g0 := xRb qr1; omega)) (xRk (by decide)) (xRk (by have g0 := hlw0; omega)) (by omega) (fun h19 => ?_) (fun h20 => ?_)
      · refine x_ifeq xc245_203 (xRk (by decide)) (fun h => absurd h (by omega)) (fun _ => ?_)
        refine x_aloadn xc245_206 rfl ?_
        refine x_gfr xc245_207 rfl rfl xz87 rfl ?_
        refine x_iloadn xc245_210 rfl ?_
        refine x_bipush xc245_211 (by decide) ?_
        refine x_isub xc245_213 ?_
        refine x_ial xc245_214 xz100 rfl (by have g0 := xRb qr1; omega) (by have g0 := xRb qr1; omega) (by have g0 := xRb qr1; omega) ?_
        refine x_goto xc245_215 ?_
        refine x_iret xc245_219 (Or.inl rfl) ?_
        exact k14 h0 h1 h3 h4 h5 h6 h7 h8 h9 h11 h15 h19
      · refine x_ifeq xc245_203 (xRk (by decide)) (fun _ => ?_) (fun h => absurd h (by omega))
        refine x_iconst xc245_218 ?_
        refine x_iret xc245_219 (Or.inl rfl) ?_
        exact k15 h0 h1 h3 h4 h5 h6 h7 h8 h9 h11 h15 h20

theorem xg245 {ro : Nat → Nat × (Nat → Int32)} {d : Nat} {Q : Option Value → pmS → Prop} {a : xA} {b : xB} {v : Int} (h : pmWp ro d 12 245 1 0 [some (.ref 87), some (xV v)] [] (xS a b) Q) : pmCs ro (d + 1) 245 [.ref 87, xV v] (xS a b) Q := x_go xi245 rfl rfl rfl rfl rfl h
end
