/-! exact: the reference, minds and what is wanted -/
section
set_option maxRecDepth 100000
theorem xi147 : pmInf[147]? = some pmI_147 := rfl
theorem xi149 : pmInf[149]? = some pmI_149 := rfl
theorem xi186 : pmInf[186]? = some pmI_186 := rfl
theorem xi198 : pmInf[198]? = some pmI_198 := rfl
theorem xi199 : pmInf[199]? = some pmI_199 := rfl
theorem xi200 : pmInf[200]? = some pmI_200 := rfl
theorem xc147_0 : pmCode 147 0 = some (.bipush 14) ∧ 0 + 2 = 2 := ⟨rfl, rfl⟩
theorem xc147_2 : pmCode 147 2 = some (.bipush 9) ∧ 2 + 2 = 4 := ⟨rfl, rfl⟩
theorem xc147_4 : pmCode 147 4 = some (.iload_n 0) ∧ 4 + 1 = 5 := ⟨rfl, rfl⟩
theorem xc147_5 : pmCode 147 5 = some (.iconst 1) ∧ 5 + 1 = 6 := ⟨rfl, rfl⟩
theorem xc147_6 : pmCode 147 6 = some .isub ∧ 6 + 1 = 7 := ⟨rfl, rfl⟩
theorem xc147_7 : pmCode 147 7 = some .imul ∧ 7 + 1 = 8 := ⟨rfl, rfl⟩
theorem xc147_8 : pmCode 147 8 = some .iadd ∧ 8 + 1 = 9 := ⟨rfl, rfl⟩
theorem xc147_9 : pmCode 147 9 = some (.iconst 5) ∧ 9 + 1 = 10 := ⟨rfl, rfl⟩
theorem xc147_10 : pmCode 147 10 = some .iadd ∧ 10 + 1 = 11 := ⟨rfl, rfl⟩
theorem xc147_11 : pmCode 147 11 = some (.iload_n 1) ∧ 11 + 1 = 12 := ⟨rfl, rfl⟩
theorem xc147_12 : pmCode 147 12 = some .iadd ∧ 12 + 1 = 13 := ⟨rfl, rfl⟩
theorem xc147_13 : pmCode 147 13 = some .ireturn := rfl
theorem xc149_0 : pmCode 149 0 = some (.bipush 14) ∧ 0 + 2 = 2 := ⟨rfl, rfl⟩
theorem xc149_2 : pmCode 149 2 = some (.bipush 9) ∧ 2 + 2 = 4 := ⟨rfl, rfl⟩
theorem xc149_4 : pmCode 149 4 = some (.iload_n 0) ∧ 4 + 1 = 5 := ⟨rfl, rfl⟩
theorem xc149_5 : pmCode 149 5 = some (.iconst 1) ∧ 5 + 1 = 6 := ⟨rfl, rfl⟩
theorem xc149_6 : pmCode 149 6 = some .isub ∧ 6 + 1 = 7 := ⟨rfl, rfl⟩
theorem xc149_7 : pmCode 149 7 = some .imul ∧ 7 + 1 = 8 := ⟨rfl, rfl⟩
theorem xc149_8 : pmCode 149 8 = some .iadd ∧ 8 + 1 = 9 := ⟨rfl, rfl⟩
theorem xc149_9 : pmCode 149 9 = some (.iload_n 1) ∧ 9 + 1 = 10 := ⟨rfl, rfl⟩
theorem xc149_10 : pmCode 149 10 = some .iadd ∧ 10 + 1 = 11 := ⟨rfl, rfl⟩
theorem xc149_11 : pmCode 149 11 = some .ireturn := rfl
theorem xc186_0 : pmCode 186 0 = some (.aload_n 0) ∧ 0 + 1 = 1 := ⟨rfl, rfl⟩
theorem xc186_1 : pmCode 186 1 = some (.getfield 72) ∧ 1 + 3 = 4 := ⟨rfl, rfl⟩
theorem xc186_4 : pmCode 186 4 = some (.iconst 0) ∧ 4 + 1 = 5 := ⟨rfl, rfl⟩
theorem xc186_5 : pmCode 186 5 = some (.aload_n 0) ∧ 5 + 1 = 6 := ⟨rfl, rfl⟩
theorem xc186_6 : pmCode 186 6 = some (.getfield 7) ∧ 6 + 3 = 9 := ⟨rfl, rfl⟩
theorem xc186_9 : pmCode 186 9 = some (.iconst 0) ∧ 9 + 1 = 10 := ⟨rfl, rfl⟩
theorem xc186_10 : pmCode 186 10 = some (.iload_n 1) ∧ 10 + 1 = 11 := ⟨rfl, rfl⟩
theorem xc186_11 : pmCode 186 11 = some .iadd ∧ 11 + 1 = 12 := ⟨rfl, rfl⟩
theorem xc186_12 : pmCode 186 12 = some .iaload ∧ 12 + 1 = 13 := ⟨rfl, rfl⟩
theorem xc186_13 : pmCode 186 13 = some .iastore ∧ 13 + 1 = 14 := ⟨rfl, rfl⟩
theorem xc186_14 : pmCode 186 14 = some (.iconst 0) ∧ 14 + 1 = 15 := ⟨rfl, rfl⟩
theorem xc186_15 : pmCode 186 15 = some (.istore_n 2) ∧ 15 + 1 = 16 := ⟨rfl, rfl⟩
theorem xc186_16 : pmCode 186 16 = some (.iload_n 2) ∧ 16 + 1 = 17 := ⟨rfl, rfl⟩
theorem xc186_17 : pmCode 186 17 = some (.iconst 5) ∧ 17 + 1 = 18 := ⟨rfl, rfl⟩
theorem xc186_18 : pmCode 186 18 = some (.if_icmp .ge 61) ∧ ((18 : Nat) : Int) + 61 = ((79 : Nat) : Int) ∧ 18 + 3 = 21 := ⟨rfl, rfl, rfl⟩
theorem xc186_21 : pmCode 186 21 = some (.aload_n 0) ∧ 21 + 1 = 22 := ⟨rfl, rfl⟩
theorem xc186_22 : pmCode 186 22 = some (.getfield 72) ∧ 22 + 3 = 25 := ⟨rfl, rfl⟩
theorem xc186_25 : pmCode 186 25 = some (.iconst 1) ∧ 25 + 1 = 26 := ⟨rfl, rfl⟩
theorem xc186_26 : pmCode 186 26 = some (.iload_n 2) ∧ 26 + 1 = 27 := ⟨rfl, rfl⟩
theorem xc186_27 : pmCode 186 27 = some .iadd ∧ 27 + 1 = 28 := ⟨rfl, rfl⟩
theorem xc186_28 : pmCode 186 28 = some (.iload_n 2) ∧ 28 + 1 = 29 := ⟨rfl, rfl⟩
theorem xc186_29 : pmCode 186 29 = some (.aload_n 0) ∧ 29 + 1 = 30 := ⟨rfl, rfl⟩
theorem xc186_30 : pmCode 186 30 = some (.getfield 127) ∧ 30 + 3 = 33 := ⟨rfl, rfl⟩
theorem xc186_33 : pmCode 186 33 = some (.if_icmp .ge 38) ∧ ((33 : Nat) : Int) + 38 = ((71 : Nat) : Int) ∧ 33 + 3 = 36 := ⟨rfl, rfl, rfl⟩
theorem xc186_36 : pmCode 186 36 = some (.aload_n 0) ∧ 36 + 1 = 37 := ⟨rfl, rfl⟩
theorem xc186_37 : pmCode 186 37 = some (.getfield 7) ∧ 37 + 3 = 40 := ⟨rfl, rfl⟩
theorem xc186_40 : pmCode 186 40 = some (.iconst 4) ∧ 40 + 1 = 41 := ⟨rfl, rfl⟩
theorem xc186_41 : pmCode 186 41 = some (.iload_n 2) ∧ 41 + 1 = 42 := ⟨rfl, rfl⟩
theorem xc186_42 : pmCode 186 42 = some .iadd ∧ 42 + 1 = 43 := ⟨rfl, rfl⟩
theorem xc186_43 : pmCode 186 43 = some .iaload ∧ 43 + 1 = 44 := ⟨rfl, rfl⟩
theorem xc186_44 : pmCode 186 44 = some (.bipush 10) ∧ 44 + 2 = 46 := ⟨rfl, rfl⟩
theorem xc186_46 : pmCode 186 46 = some (.iload_n 1) ∧ 46 + 1 = 47 := ⟨rfl, rfl⟩
theorem xc186_47 : pmCode 186 47 = some .iadd ∧ 47 + 1 = 48 := ⟨rfl, rfl⟩
theorem xc186_48 : pmCode 186 48 = some (.if_icmp .ne 10) ∧ ((48 : Nat) : Int) + 10 = ((58 : Nat) : Int) ∧ 48 + 3 = 51 := ⟨rfl, rfl, rfl⟩
theorem xc186_51 : pmCode 186 51 = some (.bipush 10) ∧ 51 + 2 = 53 := ⟨rfl, rfl⟩
theorem xc186_53 : pmCode 186 53 = some (.iload_n 1) ∧ 53 + 1 = 54 := ⟨rfl, rfl⟩
theorem xc186_54 : pmCode 186 54 = some .iadd ∧ 54 + 1 = 55 := ⟨rfl, rfl⟩
theorem xc186_55 : pmCode 186 55 = some (.goto 17) ∧ ((55 : Nat) : Int) + 17 = ((72 : Nat) : Int) := ⟨rfl, rfl⟩
theorem xc186_58 : pmCode 186 58 = some (.aload_n 0) ∧ 58 + 1 = 59 := ⟨rfl, rfl⟩
theorem xc186_59 : pmCode 186 59 = some (.getfield 7) ∧ 59 + 3 = 62 := ⟨rfl, rfl⟩
theorem xc186_62 : pmCode 186 62 = some (.iload_n 1) ∧ 62 + 1 = 63 := ⟨rfl, rfl⟩
theorem xc186_63 : pmCode 186 63 = some (.iload_n 2) ∧ 63 + 1 = 64 := ⟨rfl, rfl⟩
theorem xc186_64 : pmCode 186 64 = some (.invokestatic 160) ∧ 64 + 3 = 67 := ⟨rfl, rfl⟩
theorem xc186_67 : pmCode 186 67 = some .iaload ∧ 67 + 1 = 68 := ⟨rfl, rfl⟩
theorem xc186_68 : pmCode 186 68 = some (.goto 4) ∧ ((68 : Nat) : Int) + 4 = ((72 : Nat) : Int) := ⟨rfl, rfl⟩
theorem xc186_71 : pmCode 186 71 = some (.iconst (-1)) ∧ 71 + 1 = 72 := ⟨rfl, rfl⟩
theorem xc186_72 : pmCode 186 72 = some .iastore ∧ 72 + 1 = 73 := ⟨rfl, rfl⟩
theorem xc186_73 : pmCode 186 73 = some (.iinc 2 1) ∧ 73 + 3 = 76 := ⟨rfl, rfl⟩
theorem xc186_76 : pmCode 186 76 = some (.goto (-60)) ∧ ((76 : Nat) : Int) + (-60) = ((16 : Nat) : Int) := ⟨rfl, rfl⟩
theorem xc186_79 : pmCode 186 79 = some (.iconst 0) ∧ 79 + 1 = 80 := ⟨rfl, rfl⟩
theorem xc186_80 : pmCode 186 80 = some (.istore_n 2) ∧ 80 + 1 = 81 := ⟨rfl, rfl⟩
theorem xc186_81 : pmCode 186 81 = some (.iload_n 2) ∧ 81 + 1 = 82 := ⟨rfl, rfl⟩
theorem xc186_82 : pmCode 186 82 = some (.iconst 4) ∧ 82 + 1 = 83 := ⟨rfl, rfl⟩
theorem xc186_83 : pmCode 186 83 = some (.if_icmp .ge 37) ∧ ((83 : Nat) : Int) + 37 = ((120 : Nat) : Int) ∧ 83 + 3 = 86 := ⟨rfl, rfl, rfl⟩
theorem xc186_86 : pmCode 186 86 = some (.aload_n 0) ∧ 86 + 1 = 87 := ⟨rfl, rfl⟩
theorem xc186_87 : pmCode 186 87 = some (.getfield 72) ∧ 87 + 3 = 90 := ⟨rfl, rfl⟩
theorem xc186_90 : pmCode 186 90 = some (.bipush 6) ∧ 90 + 2 = 92 := ⟨rfl, rfl⟩
theorem xc186_92 : pmCode 186 92 = some (.iload_n 2) ∧ 92 + 1 = 93 := ⟨rfl, rfl⟩
theorem xc186_93 : pmCode 186 93 = some .iadd ∧ 93 + 1 = 94 := ⟨rfl, rfl⟩
theorem xc186_94 : pmCode 186 94 = some (.iload_n 2) ∧ 94 + 1 = 95 := ⟨rfl, rfl⟩
theorem xc186_95 : pmCode 186 95 = some (.iload_n 1) ∧ 95 + 1 = 96 := ⟨rfl, rfl⟩
theorem xc186_96 : pmCode 186 96 = some (.if_icmp .ne 7) ∧ ((96 : Nat) : Int) + 7 = ((103 : Nat) : Int) ∧ 96 + 3 = 99 := ⟨rfl, rfl, rfl⟩
theorem xc186_99 : pmCode 186 99 = some (.iconst (-1)) ∧ 99 + 1 = 100 := ⟨rfl, rfl⟩
theorem xc186_100 : pmCode 186 100 = some (.goto 13) ∧ ((100 : Nat) : Int) + 13 = ((113 : Nat) : Int) := ⟨rfl, rfl⟩
theorem xc186_103 : pmCode 186 103 = some (.aload_n 0) ∧ 103 + 1 = 104 := ⟨rfl, rfl⟩
theorem xc186_104 : pmCode 186 104 = some (.getfield 7) ∧ 104 + 3 = 107 := ⟨rfl, rfl⟩
theorem xc186_107 : pmCode 186 107 = some (.iload_n 1) ∧ 107 + 1 = 108 := ⟨rfl, rfl⟩
theorem xc186_108 : pmCode 186 108 = some (.iload_n 2) ∧ 108 + 1 = 109 := ⟨rfl, rfl⟩
theorem xc186_109 : pmCode 186 109 = some (.invokestatic 153) ∧ 109 + 3 = 112 := ⟨rfl, rfl⟩
theorem xc186_112 : pmCode 186 112 = some .iaload ∧ 112 + 1 = 113 := ⟨rfl, rfl⟩
theorem xc186_113 : pmCode 186 113 = some .iastore ∧ 113 + 1 = 114 := ⟨rfl, rfl⟩
theorem xc186_114 : pmCode 186 114 = some (.iinc 2 1) ∧ 114 + 3 = 117 := ⟨rfl, rfl⟩
theorem xc186_117 : pmCode 186 117 = some (.goto (-36)) ∧ ((117 : Nat) : Int) + (-36) = ((81 : Nat) : Int) := ⟨rfl, rfl⟩
theorem xc186_120 : pmCode 186 120 = some .return_ := rfl
theorem xc198_0 : pmCode 198 0 = some (.aload_n 0) ∧ 0 + 1 = 1 := ⟨rfl, rfl⟩
theorem xc198_1 : pmCode 198 1 = some (.iload_n 1) ∧ 1 + 1 = 2 := ⟨rfl, rfl⟩
theorem xc198_2 : pmCode 198 2 = some (.invokevirtual 321) ∧ 2 + 3 = 5 := ⟨rfl, rfl⟩
theorem xc198_5 : pmCode 198 5 = some (.aload_n 0) ∧ 5 + 1 = 6 := ⟨rfl, rfl⟩
theorem xc198_6 : pmCode 198 6 = some (.iconst (-1)) ∧ 6 + 1 = 7 := ⟨rfl, rfl⟩
theorem xc198_7 : pmCode 198 7 = some (.putfield 324) ∧ 7 + 3 = 10 := ⟨rfl, rfl⟩
theorem xc198_10 : pmCode 198 10 = some (.aload_n 0) ∧ 10 + 1 = 11 := ⟨rfl, rfl⟩
theorem xc198_11 : pmCode 198 11 = some (.iconst (-1)) ∧ 11 + 1 = 12 := ⟨rfl, rfl⟩
theorem xc198_12 : pmCode 198 12 = some (.putfield 327) ∧ 12 + 3 = 15 := ⟨rfl, rfl⟩
theorem xc198_15 : pmCode 198 15 = some (.bipush 9) ∧ 15 + 2 = 17 := ⟨rfl, rfl⟩
theorem xc198_17 : pmCode 198 17 = some (.istore_n 2) ∧ 17 + 1 = 18 := ⟨rfl, rfl⟩
theorem xc198_18 : pmCode 198 18 = some (.iload_n 2) ∧ 18 + 1 = 19 := ⟨rfl, rfl⟩
theorem xc198_19 : pmCode 198 19 = some (.ifCond .le 97) ∧ ((19 : Nat) : Int) + 97 = ((116 : Nat) : Int) ∧ 19 + 3 = 22 := ⟨rfl, rfl, rfl⟩
theorem xc198_22 : pmCode 198 22 = some (.aload_n 0) ∧ 22 + 1 = 23 := ⟨rfl, rfl⟩
theorem xc198_23 : pmCode 198 23 = some (.getfield 324) ∧ 23 + 3 = 26 := ⟨rfl, rfl⟩
theorem xc198_26 : pmCode 198 26 = some (.iconst (-1)) ∧ 26 + 1 = 27 := ⟨rfl, rfl⟩
theorem xc198_27 : pmCode 198 27 = some (.if_icmp .ne 89) ∧ ((27 : Nat) : Int) + 89 = ((116 : Nat) : Int) ∧ 27 + 3 = 30 := ⟨rfl, rfl, rfl⟩
theorem xc198_30 : pmCode 198 30 = some (.iconst 0) ∧ 30 + 1 = 31 := ⟨rfl, rfl⟩
theorem xc198_31 : pmCode 198 31 = some (.istore_n 3) ∧ 31 + 1 = 32 := ⟨rfl, rfl⟩
theorem xc198_32 : pmCode 198 32 = some (.iload_n 3) ∧ 32 + 1 = 33 := ⟨rfl, rfl⟩
theorem xc198_33 : pmCode 198 33 = some (.aload_n 0) ∧ 33 + 1 = 34 := ⟨rfl, rfl⟩
theorem xc198_34 : pmCode 198 34 = some (.getfield 36) ∧ 34 + 3 = 37 := ⟨rfl, rfl⟩
theorem xc198_37 : pmCode 198 37 = some (.iload_n 1) ∧ 37 + 1 = 38 := ⟨rfl, rfl⟩
theorem xc198_38 : pmCode 198 38 = some .iaload ∧ 38 + 1 = 39 := ⟨rfl, rfl⟩
theorem xc198_39 : pmCode 198 39 = some (.if_icmp .ge 71) ∧ ((39 : Nat) : Int) + 71 = ((110 : Nat) : Int) ∧ 39 + 3 = 42 := ⟨rfl, rfl, rfl⟩
theorem xc198_42 : pmCode 198 42 = some (.aload_n 0) ∧ 42 + 1 = 43 := ⟨rfl, rfl⟩
theorem xc198_43 : pmCode 198 43 = some (.getfield 324) ∧ 43 + 3 = 46 := ⟨rfl, rfl⟩
theorem xc198_46 : pmCode 198 46 = some (.iconst (-1)) ∧ 46 + 1 = 47 := ⟨rfl, rfl⟩
theorem xc198_47 : pmCode 198 47 = some (.if_icmp .ne 63) ∧ ((47 : Nat) : Int) + 63 = ((110 : Nat) : Int) ∧ 47 + 3 = 50 := ⟨rfl, rfl, rfl⟩
theorem xc198_50 : pmCode 198 50 = some (.aload_n 0) ∧ 50 + 1 = 51 := ⟨rfl, rfl⟩
theorem xc198_51 : pmCode 198 51 = some (.getfield 39) ∧ 51 + 3 = 54 := ⟨rfl, rfl⟩
theorem xc198_54 : pmCode 198 54 = some (.iconst 3) ∧ 54 + 1 = 55 := ⟨rfl, rfl⟩
theorem xc198_55 : pmCode 198 55 = some (.iload_n 1) ∧ 55 + 1 = 56 := ⟨rfl, rfl⟩
theorem xc198_56 : pmCode 198 56 = some .imul ∧ 56 + 1 = 57 := ⟨rfl, rfl⟩
theorem xc198_57 : pmCode 198 57 = some (.iload_n 3) ∧ 57 + 1 = 58 := ⟨rfl, rfl⟩
theorem xc198_58 : pmCode 198 58 = some .iadd ∧ 58 + 1 = 59 := ⟨rfl, rfl⟩
theorem xc198_59 : pmCode 198 59 = some .iaload ∧ 59 + 1 = 60 := ⟨rfl, rfl⟩
theorem xc198_60 : pmCode 198 60 = some (.iload_n 2) ∧ 60 + 1 = 61 := ⟨rfl, rfl⟩
theorem xc198_61 : pmCode 198 61 = some (.if_icmp .ne 43) ∧ ((61 : Nat) : Int) + 43 = ((104 : Nat) : Int) ∧ 61 + 3 = 64 := ⟨rfl, rfl, rfl⟩
theorem xc198_64 : pmCode 198 64 = some (.aload_n 0) ∧ 64 + 1 = 65 := ⟨rfl, rfl⟩
theorem xc198_65 : pmCode 198 65 = some (.iconst 0) ∧ 65 + 1 = 66 := ⟨rfl, rfl⟩
theorem xc198_66 : pmCode 198 66 = some (.iload_n 1) ∧ 66 + 1 = 67 := ⟨rfl, rfl⟩
theorem xc198_67 : pmCode 198 67 = some (.iload_n 3) ∧ 67 + 1 = 68 := ⟨rfl, rfl⟩
theorem xc198_68 : pmCode 198 68 = some (.invokevirtual 300) ∧ 68 + 3 = 71 := ⟨rfl, rfl⟩
theorem xc198_71 : pmCode 198 71 = some (.ifCond .eq 6) ∧ ((71 : Nat) : Int) + 6 = ((77 : Nat) : Int) ∧ 71 + 3 = 74 := ⟨rfl, rfl, rfl⟩
theorem xc198_74 : pmCode 198 74 = some (.goto 30) ∧ ((74 : Nat) : Int) + 30 = ((104 : Nat) : Int) := ⟨rfl, rfl⟩
theorem xc198_77 : pmCode 198 77 = some (.aload_n 0) ∧ 77 + 1 = 78 := ⟨rfl, rfl⟩
theorem xc198_78 : pmCode 198 78 = some (.aload_n 0) ∧ 78 + 1 = 79 := ⟨rfl, rfl⟩
theorem xc198_79 : pmCode 198 79 = some (.iload_n 1) ∧ 79 + 1 = 80 := ⟨rfl, rfl⟩
theorem xc198_80 : pmCode 198 80 = some (.iload_n 3) ∧ 80 + 1 = 81 := ⟨rfl, rfl⟩
theorem xc198_81 : pmCode 198 81 = some (.invokevirtual 330) ∧ 81 + 3 = 84 := ⟨rfl, rfl⟩
theorem xc198_84 : pmCode 198 84 = some (.putfield 327) ∧ 84 + 3 = 87 := ⟨rfl, rfl⟩
theorem xc198_87 : pmCode 198 87 = some (.aload_n 0) ∧ 87 + 1 = 88 := ⟨rfl, rfl⟩
theorem xc198_88 : pmCode 198 88 = some (.aload_n 0) ∧ 88 + 1 = 89 := ⟨rfl, rfl⟩
theorem xc198_89 : pmCode 198 89 = some (.getfield 327) ∧ 89 + 3 = 92 := ⟨rfl, rfl⟩
theorem xc198_92 : pmCode 198 92 = some (.iconst (-1)) ∧ 92 + 1 = 93 := ⟨rfl, rfl⟩
theorem xc198_93 : pmCode 198 93 = some (.if_icmp .ne 7) ∧ ((93 : Nat) : Int) + 7 = ((100 : Nat) : Int) ∧ 93 + 3 = 96 := ⟨rfl, rfl, rfl⟩
theorem xc198_96 : pmCode 198 96 = some (.iconst (-1)) ∧ 96 + 1 = 97 := ⟨rfl, rfl⟩
theorem xc198_97 : pmCode 198 97 = some (.goto 4) ∧ ((97 : Nat) : Int) + 4 = ((101 : Nat) : Int) := ⟨rfl, rfl⟩
theorem xc198_100 : pmCode 198 100 = some (.iload_n 3) ∧ 100 + 1 = 101 := ⟨rfl, rfl⟩
theorem xc198_101 : pmCode 198 101 = some (.putfield 324) ∧ 101 + 3 = 104 := ⟨rfl, rfl⟩
theorem xc198_104 : pmCode 198 104 = some (.iinc 3 1) ∧ 104 + 3 = 107 := ⟨rfl, rfl⟩
theorem xc198_107 : pmCode 198 107 = some (.goto (-75)) ∧ ((107 : Nat) : Int) + (-75) = ((32 : Nat) : Int) := ⟨rfl, rfl⟩
theorem xc198_110 : pmCode 198 110 = some (.iinc 2 (-1)) ∧ 110 + 3 = 113 := ⟨rfl, rfl⟩
theorem xc198_113 : pmCode 198 113 = some (.goto (-95)) ∧ ((113 : Nat) : Int) + (-95) = ((18 : Nat) : Int) := ⟨rfl, rfl⟩
theorem xc198_116 : pmCode 198 116 = some .return_ := rfl
theorem xc199_0 : pmCode 199 0 = some (.aload_n 0) ∧ 0 + 1 = 1 := ⟨rfl, rfl⟩
theorem xc199_1 : pmCode 199 1 = some (.iload_n 1) ∧ 1 + 1 = 2 := ⟨rfl, rfl⟩
theorem xc199_2 : pmCode 199 2 = some (.iload_n 2) ∧ 2 + 1 = 3 := ⟨rfl, rfl⟩
theorem xc199_3 : pmCode 199 3 = some (.invokevirtual 309) ∧ 3 + 3 = 6 := ⟨rfl, rfl⟩
theorem xc199_6 : pmCode 199 6 = some (.lstore_n 3) ∧ 6 + 1 = 7 := ⟨rfl, rfl⟩
theorem xc199_7 : pmCode 199 7 = some (.lload_n 3) ∧ 7 + 1 = 8 := ⟨rfl, rfl⟩
theorem xc199_8 : pmCode 199 8 = some (.ldc2_w 313) ∧ 8 + 3 = 11 := ⟨rfl, rfl⟩
theorem xc199_11 : pmCode 199 11 = some .lrem ∧ 11 + 1 = 12 := ⟨rfl, rfl⟩
theorem xc199_12 : pmCode 199 12 = some .l2i ∧ 12 + 1 = 13 := ⟨rfl, rfl⟩
theorem xc199_13 : pmCode 199 13 = some (.istore 5) ∧ 13 + 2 = 15 := ⟨rfl, rfl⟩
theorem xc199_15 : pmCode 199 15 = some (.aload_n 0) ∧ 15 + 1 = 16 := ⟨rfl, rfl⟩
theorem xc199_16 : pmCode 199 16 = some (.getfield 90) ∧ 16 + 3 = 19 := ⟨rfl, rfl⟩
theorem xc199_19 : pmCode 199 19 = some (.iload 5) ∧ 19 + 2 = 21 := ⟨rfl, rfl⟩
theorem xc199_21 : pmCode 199 21 = some .laload ∧ 21 + 1 = 22 := ⟨rfl, rfl⟩
theorem xc199_22 : pmCode 199 22 = some (.lconst 0) ∧ 22 + 1 = 23 := ⟨rfl, rfl⟩
theorem xc199_23 : pmCode 199 23 = some .lcmp ∧ 23 + 1 = 24 := ⟨rfl, rfl⟩
theorem xc199_24 : pmCode 199 24 = some (.ifCond .eq 36) ∧ ((24 : Nat) : Int) + 36 = ((60 : Nat) : Int) ∧ 24 + 3 = 27 := ⟨rfl, rfl, rfl⟩
theorem xc199_27 : pmCode 199 27 = some (.aload_n 0) ∧ 27 + 1 = 28 := ⟨rfl, rfl⟩
theorem xc199_28 : pmCode 199 28 = some (.getfield 90) ∧ 28 + 3 = 31 := ⟨rfl, rfl⟩
theorem xc199_31 : pmCode 199 31 = some (.iload 5) ∧ 31 + 2 = 33 := ⟨rfl, rfl⟩
theorem xc199_33 : pmCode 199 33 = some .laload ∧ 33 + 1 = 34 := ⟨rfl, rfl⟩
theorem xc199_34 : pmCode 199 34 = some (.lload_n 3) ∧ 34 + 1 = 35 := ⟨rfl, rfl⟩
theorem xc199_35 : pmCode 199 35 = some .lcmp ∧ 35 + 1 = 36 := ⟨rfl, rfl⟩
theorem xc199_36 : pmCode 199 36 = some (.ifCond .eq 24) ∧ ((36 : Nat) : Int) + 24 = ((60 : Nat) : Int) ∧ 36 + 3 = 39 := ⟨rfl, rfl, rfl⟩
theorem xc199_39 : pmCode 199 39 = some (.iload 5) ∧ 39 + 2 = 41 := ⟨rfl, rfl⟩
theorem xc199_41 : pmCode 199 41 = some (.sipush 4095) ∧ 41 + 3 = 44 := ⟨rfl, rfl⟩
theorem xc199_44 : pmCode 199 44 = some (.if_icmp .ne 7) ∧ ((44 : Nat) : Int) + 7 = ((51 : Nat) : Int) ∧ 44 + 3 = 47 := ⟨rfl, rfl, rfl⟩
theorem xc199_47 : pmCode 199 47 = some (.iconst 0) ∧ 47 + 1 = 48 := ⟨rfl, rfl⟩
theorem xc199_48 : pmCode 199 48 = some (.goto 7) ∧ ((48 : Nat) : Int) + 7 = ((55 : Nat) : Int) := ⟨rfl, rfl⟩
theorem xc199_51 : pmCode 199 51 = some (.iload 5) ∧ 51 + 2 = 53 := ⟨rfl, rfl⟩
theorem xc199_53 : pmCode 199 53 = some (.iconst 1) ∧ 53 + 1 = 54 := ⟨rfl, rfl⟩
theorem xc199_54 : pmCode 199 54 = some .iadd ∧ 54 + 1 = 55 := ⟨rfl, rfl⟩
theorem xc199_55 : pmCode 199 55 = some (.istore 5) ∧ 55 + 2 = 57 := ⟨rfl, rfl⟩
theorem xc199_57 : pmCode 199 57 = some (.goto (-42)) ∧ ((57 : Nat) : Int) + (-42) = ((15 : Nat) : Int) := ⟨rfl, rfl⟩
theorem xc199_60 : pmCode 199 60 = some (.aload_n 0) ∧ 60 + 1 = 61 := ⟨rfl, rfl⟩
theorem xc199_61 : pmCode 199 61 = some (.getfield 90) ∧ 61 + 3 = 64 := ⟨rfl, rfl⟩
theorem xc199_64 : pmCode 199 64 = some (.iload 5) ∧ 64 + 2 = 66 := ⟨rfl, rfl⟩
theorem xc199_66 : pmCode 199 66 = some .laload ∧ 66 + 1 = 67 := ⟨rfl, rfl⟩
theorem xc199_67 : pmCode 199 67 = some (.lload_n 3) ∧ 67 + 1 = 68 := ⟨rfl, rfl⟩
theorem xc199_68 : pmCode 199 68 = some .lcmp ∧ 68 + 1 = 69 := ⟨rfl, rfl⟩
theorem xc199_69 : pmCode 199 69 = some (.ifCond .ne 13) ∧ ((69 : Nat) : Int) + 13 = ((82 : Nat) : Int) ∧ 69 + 3 = 72 := ⟨rfl, rfl, rfl⟩
theorem xc199_72 : pmCode 199 72 = some (.aload_n 0) ∧ 72 + 1 = 73 := ⟨rfl, rfl⟩
theorem xc199_73 : pmCode 199 73 = some (.getfield 94) ∧ 73 + 3 = 76 := ⟨rfl, rfl⟩
theorem xc199_76 : pmCode 199 76 = some (.iload 5) ∧ 76 + 2 = 78 := ⟨rfl, rfl⟩
theorem xc199_78 : pmCode 199 78 = some .iaload ∧ 78 + 1 = 79 := ⟨rfl, rfl⟩
theorem xc199_79 : pmCode 199 79 = some (.iconst 1) ∧ 79 + 1 = 80 := ⟨rfl, rfl⟩
theorem xc199_80 : pmCode 199 80 = some .isub ∧ 80 + 1 = 81 := ⟨rfl, rfl⟩
theorem xc199_81 : pmCode 199 81 = some .ireturn := rfl
theorem xc199_82 : pmCode 199 82 = some (.aload_n 0) ∧ 82 + 1 = 83 := ⟨rfl, rfl⟩
theorem xc199_83 : pmCode 199 83 = some (.iload_n 1) ∧ 83 + 1 = 84 := ⟨rfl, rfl⟩
theorem xc199_84 : pmCode 199 84 = some (.iload_n 2) ∧ 84 + 1 = 85 := ⟨rfl, rfl⟩
theorem xc199_85 : pmCode 199 85 = some (.invokevirtual 315) ∧ 85 + 3 = 88 := ⟨rfl, rfl⟩
theorem xc199_88 : pmCode 199 88 = some (.ifCond .eq 12) ∧ ((88 : Nat) : Int) + 12 = ((100 : Nat) : Int) ∧ 88 + 3 = 91 := ⟨rfl, rfl, rfl⟩
theorem xc199_91 : pmCode 199 91 = some (.aload_n 0) ∧ 91 + 1 = 92 := ⟨rfl, rfl⟩
theorem xc199_92 : pmCode 199 92 = some (.getfield 81) ∧ 92 + 3 = 95 := ⟨rfl, rfl⟩
theorem xc199_95 : pmCode 199 95 = some (.iconst 0) ∧ 95 + 1 = 96 := ⟨rfl, rfl⟩
theorem xc199_96 : pmCode 199 96 = some .iaload ∧ 96 + 1 = 97 := ⟨rfl, rfl⟩
theorem xc199_97 : pmCode 199 97 = some (.goto 4) ∧ ((97 : Nat) : Int) + 4 = ((101 : Nat) : Int) := ⟨rfl, rfl⟩
theorem xc199_100 : pmCode 199 100 = some (.iconst (-1)) ∧ 100 + 1 = 101 := ⟨rfl, rfl⟩
theorem xc199_101 : pmCode 199 101 = some (.istore 6) ∧ 101 + 2 = 103 := ⟨rfl, rfl⟩
theorem xc199_103 : pmCode 199 103 = some (.aload_n 0) ∧ 103 + 1 = 104 := ⟨rfl, rfl⟩
theorem xc199_104 : pmCode 199 104 = some (.getfield 318) ∧ 104 + 3 = 107 := ⟨rfl, rfl⟩
theorem xc199_107 : pmCode 199 107 = some (.sipush 3000) ∧ 107 + 3 = 110 := ⟨rfl, rfl⟩
theorem xc199_110 : pmCode 199 110 = some (.if_icmp .ge 32) ∧ ((110 : Nat) : Int) + 32 = ((142 : Nat) : Int) ∧ 110 + 3 = 113 := ⟨rfl, rfl, rfl⟩
theorem xc199_113 : pmCode 199 113 = some (.aload_n 0) ∧ 113 + 1 = 114 := ⟨rfl, rfl⟩
theorem xc199_114 : pmCode 199 114 = some (.getfield 90) ∧ 114 + 3 = 117 := ⟨rfl, rfl⟩
theorem xc199_117 : pmCode 199 117 = some (.iload 5) ∧ 117 + 2 = 119 := ⟨rfl, rfl⟩
theorem xc199_119 : pmCode 199 119 = some (.lload_n 3) ∧ 119 + 1 = 120 := ⟨rfl, rfl⟩
theorem xc199_120 : pmCode 199 120 = some .lastore ∧ 120 + 1 = 121 := ⟨rfl, rfl⟩
theorem xc199_121 : pmCode 199 121 = some (.aload_n 0) ∧ 121 + 1 = 122 := ⟨rfl, rfl⟩
theorem xc199_122 : pmCode 199 122 = some (.getfield 94) ∧ 122 + 3 = 125 := ⟨rfl, rfl⟩
theorem xc199_125 : pmCode 199 125 = some (.iload 5) ∧ 125 + 2 = 127 := ⟨rfl, rfl⟩
theorem xc199_127 : pmCode 199 127 = some (.iload 6) ∧ 127 + 2 = 129 := ⟨rfl, rfl⟩
theorem xc199_129 : pmCode 199 129 = some (.iconst 1) ∧ 129 + 1 = 130 := ⟨rfl, rfl⟩
theorem xc199_130 : pmCode 199 130 = some .iadd ∧ 130 + 1 = 131 := ⟨rfl, rfl⟩
theorem xc199_131 : pmCode 199 131 = some .iastore ∧ 131 + 1 = 132 := ⟨rfl, rfl⟩
theorem xc199_132 : pmCode 199 132 = some (.aload_n 0) ∧ 132 + 1 = 133 := ⟨rfl, rfl⟩
theorem xc199_133 : pmCode 199 133 = some (.aload_n 0) ∧ 133 + 1 = 134 := ⟨rfl, rfl⟩
theorem xc199_134 : pmCode 199 134 = some (.getfield 318) ∧ 134 + 3 = 137 := ⟨rfl, rfl⟩
theorem xc199_137 : pmCode 199 137 = some (.iconst 1) ∧ 137 + 1 = 138 := ⟨rfl, rfl⟩
theorem xc199_138 : pmCode 199 138 = some .iadd ∧ 138 + 1 = 139 := ⟨rfl, rfl⟩
theorem xc199_139 : pmCode 199 139 = some (.putfield 318) ∧ 139 + 3 = 142 := ⟨rfl, rfl⟩
theorem xc199_142 : pmCode 199 142 = some (.iload 6) ∧ 142 + 2 = 144 := ⟨rfl, rfl⟩
theorem xc199_144 : pmCode 199 144 = some .ireturn := rfl
theorem xc200_0 : pmCode 200 0 = some (.ldc2_w 303) ∧ 0 + 3 = 3 := ⟨rfl, rfl⟩
theorem xc200_3 : pmCode 200 3 = some (.iload_n 1) ∧ 3 + 1 = 4 := ⟨rfl, rfl⟩
theorem xc200_4 : pmCode 200 4 = some .i2l ∧ 4 + 1 = 5 := ⟨rfl, rfl⟩
theorem xc200_5 : pmCode 200 5 = some .ladd ∧ 5 + 1 = 6 := ⟨rfl, rfl⟩
theorem xc200_6 : pmCode 200 6 = some (.lstore_n 3) ∧ 6 + 1 = 7 := ⟨rfl, rfl⟩
theorem xc200_7 : pmCode 200 7 = some (.lload_n 3) ∧ 7 + 1 = 8 := ⟨rfl, rfl⟩
theorem xc200_8 : pmCode 200 8 = some (.ldc2_w 305) ∧ 8 + 3 = 11 := ⟨rfl, rfl⟩
theorem xc200_11 : pmCode 200 11 = some .lmul ∧ 11 + 1 = 12 := ⟨rfl, rfl⟩
theorem xc200_12 : pmCode 200 12 = some (.iload_n 2) ∧ 12 + 1 = 13 := ⟨rfl, rfl⟩
theorem xc200_13 : pmCode 200 13 = some .i2l ∧ 13 + 1 = 14 := ⟨rfl, rfl⟩
theorem xc200_14 : pmCode 200 14 = some .ladd ∧ 14 + 1 = 15 := ⟨rfl, rfl⟩
theorem xc200_15 : pmCode 200 15 = some (.lstore_n 3) ∧ 15 + 1 = 16 := ⟨rfl, rfl⟩
theorem xc200_16 : pmCode 200 16 = some (.iconst 0) ∧ 16 + 1 = 17 := ⟨rfl, rfl⟩
theorem xc200_17 : pmCode 200 17 = some (.istore 5) ∧ 17 + 2 = 19 := ⟨rfl, rfl⟩
theorem xc200_19 : pmCode 200 19 = some (.iload 5) ∧ 19 + 2 = 21 := ⟨rfl, rfl⟩
theorem xc200_21 : pmCode 200 21 = some (.bipush 10) ∧ 21 + 2 = 23 := ⟨rfl, rfl⟩
theorem xc200_23 : pmCode 200 23 = some (.if_icmp .ge 26) ∧ ((23 : Nat) : Int) + 26 = ((49 : Nat) : Int) ∧ 23 + 3 = 26 := ⟨rfl, rfl, rfl⟩
theorem xc200_26 : pmCode 200 26 = some (.lload_n 3) ∧ 26 + 1 = 27 := ⟨rfl, rfl⟩
theorem xc200_27 : pmCode 200 27 = some (.ldc2_w 307) ∧ 27 + 3 = 30 := ⟨rfl, rfl⟩
theorem xc200_30 : pmCode 200 30 = some .lmul ∧ 30 + 1 = 31 := ⟨rfl, rfl⟩
theorem xc200_31 : pmCode 200 31 = some (.aload_n 0) ∧ 31 + 1 = 32 := ⟨rfl, rfl⟩
theorem xc200_32 : pmCode 200 32 = some (.getfield 72) ∧ 32 + 3 = 35 := ⟨rfl, rfl⟩
theorem xc200_35 : pmCode 200 35 = some (.iload 5) ∧ 35 + 2 = 37 := ⟨rfl, rfl⟩
theorem xc200_37 : pmCode 200 37 = some .iaload ∧ 37 + 1 = 38 := ⟨rfl, rfl⟩
theorem xc200_38 : pmCode 200 38 = some .i2l ∧ 38 + 1 = 39 := ⟨rfl, rfl⟩
theorem xc200_39 : pmCode 200 39 = some .ladd ∧ 39 + 1 = 40 := ⟨rfl, rfl⟩
theorem xc200_40 : pmCode 200 40 = some (.lconst 1) ∧ 40 + 1 = 41 := ⟨rfl, rfl⟩
theorem xc200_41 : pmCode 200 41 = some .ladd ∧ 41 + 1 = 42 := ⟨rfl, rfl⟩
theorem xc200_42 : pmCode 200 42 = some (.lstore_n 3) ∧ 42 + 1 = 43 := ⟨rfl, rfl⟩
theorem xc200_43 : pmCode 200 43 = some (.iinc 5 1) ∧ 43 + 3 = 46 := ⟨rfl, rfl⟩
theorem xc200_46 : pmCode 200 46 = some (.goto (-27)) ∧ ((46 : Nat) : Int) + (-27) = ((19 : Nat) : Int) := ⟨rfl, rfl⟩
theorem xc200_49 : pmCode 200 49 = some (.lload_n 3) ∧ 49 + 1 = 50 := ⟨rfl, rfl⟩
theorem xc200_50 : pmCode 200 50 = some .lreturn := rfl
theorem w149 {ro : Nat → Nat × (Nat → Int32)} {d : Nat} {Q : Option Value → pmS → Prop} {f x : Int} {a : xA} {b : xB}
    (k1 : Q (some (xV (14 + (9 * (f - 1)) + x))) (xS a b)) :
    pmWp ro d 12 149 1 0 [some (xV f), some (xV x)] [] (xS a b) Q := by
  refine x_bipush xc149_0 (by decide) ?_
  refine x_bipush xc149_2 (by decide) ?_
  refine x_iloadn xc149_4 rfl ?_
  refine x_iconst xc149_5 ?_
  refine x_isub xc149_6 ?_
  refine x_imul xc149_7 ?_
  refine x_iadd xc149_8 ?_
  refine x_iloadn xc149_9 rfl ?_
  refine x_iadd xc149_10 ?_
  refine x_iret xc149_11 (Or.inl rfl) ?_
  exact k1

theorem xg149 {ro : Nat → Nat × (Nat → Int32)} {d : Nat} {Q : Option Value → pmS → Prop} {a : xA} {b : xB} {f x : Int} (h : pmWp ro d 12 149 1 0 [some (xV f), some (xV x)] [] (xS a b) Q) : pmCs ro (d + 1) 149 [xV f, xV x] (xS a b) Q := x_go xi149 rfl rfl rfl rfl rfl h
theorem rk149 {ro : Nat → Nat × (Nat → Int32)} {d : Nat} {Q : Option Value → pmS → Prop} {f x : Int} {a : xA} {b : xB} (hd : 1 ≤ d) (hQ : Q (some (xV (14 + (9 * (f - 1)) + x))) (xS a b)) : pmCs ro d 149 [xV f, xV x] (xS a b) Q := pmCs_deep (d := 1) (xg149 (w149 hQ)) hd
theorem w147 {ro : Nat → Nat × (Nat → Int32)} {d : Nat} {Q : Option Value → pmS → Prop} {f x : Int} {a : xA} {b : xB}
    (k1 : Q (some (xV (14 + (9 * (f - 1)) + 5 + x))) (xS a b)) :
    pmWp ro d 12 147 1 0 [some (xV f), some (xV x)] [] (xS a b) Q := by
  refine x_bipush xc147_0 (by decide) ?_
  refine x_bipush xc147_2 (by decide) ?_
  refine x_iloadn xc147_4 rfl ?_
  refine x_iconst xc147_5 ?_
  refine x_isub xc147_6 ?_
  refine x_imul xc147_7 ?_
  refine x_iadd xc147_8 ?_
  refine x_iconst xc147_9 ?_
  refine x_iadd xc147_10 ?_
  refine x_iloadn xc147_11 rfl ?_
  refine x_iadd xc147_12 ?_
  refine x_iret xc147_13 (Or.inl rfl) ?_
  exact k1

theorem xg147 {ro : Nat → Nat × (Nat → Int32)} {d : Nat} {Q : Option Value → pmS → Prop} {a : xA} {b : xB} {f x : Int} (h : pmWp ro d 12 147 1 0 [some (xV f), some (xV x)] [] (xS a b) Q) : pmCs ro (d + 1) 147 [xV f, xV x] (xS a b) Q := x_go xi147 rfl rfl rfl rfl rfl h
theorem rk147 {ro : Nat → Nat × (Nat → Int32)} {d : Nat} {Q : Option Value → pmS → Prop} {f x : Int} {a : xA} {b : xB} (hd : 1 ≤ d) (hQ : Q (some (xV (14 + (9 * (f - 1)) + 5 + x))) (xS a b)) : pmCs ro d 147 [xV f, xV x] (xS a b) Q := pmCs_deep (d := 1) (xg147 (w147 hQ)) hd
theorem w186 {ro : Nat → Nat × (Nat → Int32)} {d : Nat} {Q : Option Value → pmS → Prop} {f : Int} {a : xA} {b : xB} (hf : 1 ≤ f ∧ f ≤ 3)
    (k1 : pmWp ro d 12 186 0 16 [some (.ref 87), some (xV f), some (xV 0)] [] (xS (xU a 108 0 (a 88 (0 + f))) b) Q) :
    pmWp ro d 12 186 0 0 [some (.ref 87), some (xV f), none] [] (xS a b) Q := by
  refine x_aloadn xc186_0 rfl ?_
  refine x_gfr xc186_1 rfl rfl xz87 rfl ?_
  refine x_iconst xc186_4 ?_
  refine x_aloadn xc186_5 rfl ?_
  refine x_gfr xc186_6 rfl rfl xz87 rfl ?_
  refine x_iconst xc186_9 ?_
  refine x_iloadn xc186_10 rfl ?_
  refine x_iadd xc186_11 ?_
  refine x_ial xc186_12 xz88 rfl (by have g0 := hf; omega) (by have g0 := hf; omega) (by have g0 := hf; omega) ?_
  refine x_ias xc186_13 xz108 (by omega) (by omega) (by omega) ?_
  refine x_iconst xc186_14 ?_
  refine x_istoren (pl' := [some (.ref 87), some (xV f), some (xV 0)]) xc186_15 rfl rfl ?_
  exact k1

theorem xg186 {ro : Nat → Nat × (Nat → Int32)} {d : Nat} {Q : Option Value → pmS → Prop} {a : xA} {b : xB} {f : Int} (h : pmWp ro d 12 186 0 0 [some (.ref 87), some (xV f), none] [] (xS a b) Q) : pmCs ro (d + 1) 186 [.ref 87, xV f] (xS a b) Q := x_go xi186 rfl rfl rfl rfl rfl h
theorem w186a {ro : Nat → Nat × (Nat → Int32)} {d : Nat} {Q : Option Value → pmS → Prop} {f n i : Int} {a : xA} {b : xB} (hA : xAr a) (hf : 1 ≤ f ∧ f ≤ 3) (hn : a 87 2 = n) (hn0 : 0 ≤ n ∧ n ≤ 5) (hd : 1 ≤ d) (hi : 0 ≤ i ∧ i ≤ 5)
    (k1 : (5 ≤ i) → pmWp ro d 12 186 0 81 [some (.ref 87), some (xV f), some (xV 0)] [] (xS a b) Q)
    (k2 : (¬ 5 ≤ i) → (n ≤ i) → pmWp ro d 12 186 0 16 [some (.ref 87), some (xV f), some (xV (i + 1))] [] (xS (xU a 108 (1 + i) (-1)) b) Q)
    (k3 : (¬ 5 ≤ i) → (¬ n ≤ i) → (¬ a 88 (4 + i) = 10 + f) → pmWp ro d 12 186 0 16 [some (.ref 87), some (xV f), some (xV (i + 1))] [] (xS (xU a 108 (1 + i) (a 88 (14 + (9 * (f - 1)) + i))) b) Q)
    (k4 : (¬ 5 ≤ i) → (¬ n ≤ i) → (a 88 (4 + i) = 10 + f) → pmWp ro d 12 186 0 16 [some (.ref 87), some (xV f), some (xV (i + 1))] [] (xS (xU a 108 (1 + i) (10 + f)) b) Q) :
    pmWp ro d 12 186 0 16 [some (.ref 87), some (xV f), some (xV i)] [] (xS a b) Q := by
  refine x_iloadn xc186_16 rfl ?_
  refine x_iconst xc186_17 ?_
  refine x_icge xc186_18 (xRk (by have g0 := hi; omega)) (xRk (by decide)) (fun h0 => ?_) (fun h0 => ?_)
  · refine x_iconst xc186_79 ?_
    refine x_istoren (pl' := [some (.ref 87), some (xV f), some (xV 0)]) xc186_80 rfl rfl ?_
    exact k1 h0
  · refine x_aloadn xc186_21 rfl ?_
    refine x_gfr xc186_22 rfl rfl xz87 rfl ?_
    refine x_iconst xc186_25 ?_
    refine x_iloadn xc186_26 rfl ?_
    refine x_iadd xc186_27 ?_
    refine x_iloadn xc186_28 rfl ?_
    refine x_aloadn xc186_29 rfl ?_
    refine x_gfi' (k := 2) (v := n) xc186_30 rfl (Or.inl rfl) rfl xz87 hn ?_
    refine x_icge xc186_33 (xRk (by have g0 := hi; omega)) (xRk (by have g0 := hn0; omega)) (fun h1 => ?_) (fun h1 => ?_)
    · refine x_iconst xc186_71 ?_
      refine x_ias xc186_72 xz108 (by have g0 := hi; omega) (by have g0 := hi; omega) (by have g0 := hi; omega) ?_
      refine x_iinc (pl' := [some (.ref 87), some (xV f), some (xV (i + 1))]) xc186_73 rfl rfl ?_
      refine x_goto xc186_76 ?_
      exact k2 h0 h1
    · refine x_aloadn xc186_36 rfl ?_
      refine x_gfr xc186_37 rfl rfl xz87 rfl ?_
      refine x_iconst xc186_40 ?_
      refine x_iloadn xc186_41 rfl ?_
      refine x_iadd xc186_42 ?_
      refine x_ial xc186_43 xz88 rfl (by have g0 := hi; omega) (by have g0 := hi; omega) (by have g0 := hi; omega) ?_
      refine x_bipush xc186_44 (by decide) ?_
      refine x_iloadn xc186_46 rfl ?_
      refine x_iadd xc186_47 ?_
      refine x_icne xc186_48 (xRk (by have g0 := hi; have g1 := xRb (hA 88 (4 + i)); omega)) (xRk (by have g0 := hf; omega)) (fun h2 => ?_) (fun h2 => ?_)
      · refine x_aloadn xc186_58 rfl ?_
        refine x_gfr xc186_59 rfl rfl xz87 rfl ?_
        refine x_iloadn xc186_62 rfl ?_
        refine x_iloadn xc186_63 rfl ?_
        refine x_cS (as := [xV f, xV i]) (rest := [.ref 88, xV (1 + i), .ref 108]) xc186_64 rfl rfl xi149 ⟨rfl, rfl⟩ rfl rfl ?_
        refine rk149 (by omega) ?_
        refine x_ial xc186_67 xz88 rfl (by have g0 := hf; have g1 := hi; omega) (by have g0 := hf; have g1 := hi; omega) (by have g0 := hf; have g1 := hi; omega) ?_
        refine x_goto xc186_68 ?_
        refine x_ias xc186_72 xz108 (by have g0 := hi; omega) (by have g0 := hi; omega) (by have g0 := hi; omega) ?_
        refine x_iinc (pl' := [some (.ref 87), some (xV f), some (xV (i + 1))]) xc186_73 rfl rfl ?_
        refine x_goto xc186_76 ?_
        exact k3 h0 h1 h2
      · replace h2 := Classical.not_not.mp h2
        refine x_bipush xc186_51 (by decide) ?_
        refine x_iloadn xc186_53 rfl ?_
        refine x_iadd xc186_54 ?_
        refine x_goto xc186_55 ?_
        refine x_ias xc186_72 xz108 (by have g0 := hi; omega) (by have g0 := hi; omega) (by have g0 := hi; omega) ?_
        refine x_iinc (pl' := [some (.ref 87), some (xV f), some (xV (i + 1))]) xc186_73 rfl rfl ?_
        refine x_goto xc186_76 ?_
        exact k4 h0 h1 h2

theorem w186b {ro : Nat → Nat × (Nat → Int32)} {d : Nat} {Q : Option Value → pmS → Prop} {f n i : Int} {a : xA} {b : xB} (hA : xAr a) (hf : 1 ≤ f ∧ f ≤ 3) (hn : a 87 2 = n) (hn0 : 0 ≤ n ∧ n ≤ 5) (hd : 1 ≤ d) (hi : 0 ≤ i ∧ i ≤ 4)
    (k1 : (4 ≤ i) → Q none (xS a b))
    (k2 : (¬ 4 ≤ i) → (¬ i = f) → pmWp ro d 12 186 0 81 [some (.ref 87), some (xV f), some (xV (i + 1))] [] (xS (xU a 108 (6 + i) (a 88 (14 + (9 * (f - 1)) + 5 + i))) b) Q)
    (k3 : (¬ 4 ≤ i) → (i = f) → pmWp ro d 12 186 0 81 [some (.ref 87), some (xV f), some (xV (i + 1))] [] (xS (xU a 108 (6 + i) (-1)) b) Q) :
    pmWp ro d 12 186 0 81 [some (.ref 87), some (xV f), some (xV i)] [] (xS a b) Q := by
  refine x_iloadn xc186_81 rfl ?_
  refine x_iconst xc186_82 ?_
  refine x_icge xc186_83 (xRk (by have g0 := hi; omega)) (xRk (by decide)) (fun h0 => ?_) (fun h0 => ?_)
  · refine x_ret xc186_120 rfl ?_
    exact k1 h0
  · refine x_aloadn xc186_86 rfl ?_
    refine x_gfr xc186_87 rfl rfl xz87 rfl ?_
    refine x_bipush xc186_90 (by decide) ?_
    refine x_iloadn xc186_92 rfl ?_
    refine x_iadd xc186_93 ?_
    refine x_iloadn xc186_94 rfl ?_
    refine x_iloadn xc186_95 rfl ?_
    refine x_icne xc186_96 (xRk (by have g0 := hi; omega)) (xRk (by have g0 := hf; omega)) (fun h1 => ?_) (fun h1 => ?_)
    · refine x_aloadn xc186_103 rfl ?_
      refine x_gfr xc186_104 rfl rfl xz87 rfl ?_
      refine x_iloadn xc186_107 rfl ?_
      refine x_iloadn xc186_108 rfl ?_
      refine x_cS (as := [xV f, xV i]) (rest := [.ref 88, xV (6 + i), .ref 108]) xc186_109 rfl rfl xi147 ⟨rfl, rfl⟩ rfl rfl ?_
      refine rk147 (by omega) ?_
      refine x_ial xc186_112 xz88 rfl (by have g0 := hf; have g1 := hi; omega) (by have g0 := hf; have g1 := hi; omega) (by have g0 := hf; have g1 := hi; omega) ?_
      refine x_ias xc186_113 xz108 (by have g0 := hi; omega) (by have g0 := hi; omega) (by have g0 := hi; omega) ?_
      refine x_iinc (pl' := [some (.ref 87), some (xV f), some (xV (i + 1))]) xc186_114 rfl rfl ?_
      refine x_goto xc186_117 ?_
      exact k2 h0 h1
    · replace h1 := Classical.not_not.mp h1
      refine x_iconst xc186_99 ?_
      refine x_goto xc186_100 ?_
      refine x_ias xc186_113 xz108 (by have g0 := hi; omega) (by have g0 := hi; omega) (by have g0 := hi; omega) ?_
      refine x_iinc (pl' := [some (.ref 87), some (xV f), some (xV (i + 1))]) xc186_114 rfl rfl ?_
      refine x_goto xc186_117 ?_
      exact k3 h0 h1

theorem w200 {ro : Nat → Nat × (Nat → Int32)} {d : Nat} {Q : Option Value → pmS → Prop} {f k : Int} {a : xA} {b : xB} (hA : xAr a) (hf : 1 ≤ f ∧ f ≤ 3) (hk : 0 ≤ k ∧ k ≤ 2)
    (k1 : Q (some (.long ((((((((((((((((((((((((((((((((((4 : Int64) + (Int64.ofInt f)) * (3 : Int64)) + (Int64.ofInt k)) * (16 : Int64)) + (Int64.ofInt (a 108 0))) + (1 : Int64)) * (16 : Int64)) + (Int64.ofInt (a 108 (0 + 1)))) + (1 : Int64)) * (16 : Int64)) + (Int64.ofInt (a 108 (0 + 1 + 1)))) + (1 : Int64)) * (16 : Int64)) + (Int64.ofInt (a 108 (0 + 1 + 1 + 1)))) + (1 : Int64)) * (16 : Int64)) + (Int64.ofInt (a 108 (0 + 1 + 1 + 1 + 1)))) + (1 : Int64)) * (16 : Int64)) + (Int64.ofInt (a 108 (0 + 1 + 1 + 1 + 1 + 1)))) + (1 : Int64)) * (16 : Int64)) + (Int64.ofInt (a 108 (0 + 1 + 1 + 1 + 1 + 1 + 1)))) + (1 : Int64)) * (16 : Int64)) + (Int64.ofInt (a 108 (0 + 1 + 1 + 1 + 1 + 1 + 1 + 1)))) + (1 : Int64)) * (16 : Int64)) + (Int64.ofInt (a 108 (0 + 1 + 1 + 1 + 1 + 1 + 1 + 1 + 1)))) + (1 : Int64)) * (16 : Int64)) + (Int64.ofInt (a 108 (0 + 1 + 1 + 1 + 1 + 1 + 1 + 1 + 1 + 1)))) + (1 : Int64)))) (xS a b)) :
    pmWp ro d 12 200 3 0 [some (.ref 87), some (xV f), some (xV k), none, none, none] [] (xS a b) Q := by
  refine x_ldc2 (l := 4) xc200_0 rfl ?_
  refine x_iloadn xc200_3 rfl ?_
  refine x_i2l (xRk (by have g0 := hf; omega)) xc200_4 ?_
  refine x_ladd xc200_5 ?_
  refine x_lstoren (pl' := [some (.ref 87), some (xV f), some (xV k), some (.long ((4 : Int64) + (Int64.ofInt f))), none, none]) xc200_6 rfl rfl rfl ?_
  refine x_lloadn xc200_7 rfl ?_
  refine x_ldc2 (l := 3) xc200_8 rfl ?_
  refine x_lmul xc200_11 ?_
  refine x_iloadn xc200_12 rfl ?_
  refine x_i2l (xRk (by have g0 := hk; omega)) xc200_13 ?_
  refine x_ladd xc200_14 ?_
  refine x_lstoren (pl' := [some (.ref 87), some (xV f), some (xV k), some (.long ((((4 : Int64) + (Int64.ofInt f)) * (3 : Int64)) + (Int64.ofInt k))), none, none]) xc200_15 rfl rfl rfl ?_
  refine x_iconst xc200_16 ?_
  refine x_istore (pl' := [some (.ref 87), some (xV f), some (xV k), some (.long ((((4 : Int64) + (Int64.ofInt f)) * (3 : Int64)) + (Int64.ofInt k))), none, some (xV 0)]) xc200_17 rfl rfl ?_
  refine x_iload xc200_19 rfl ?_
  refine x_bipush xc200_21 (by decide) ?_
  refine x_icge xc200_23 (xRk (by decide)) (xRk (by decide)) (fun h => absurd h (by omega)) (fun _ => ?_)
  refine x_lloadn xc200_26 rfl ?_
  refine x_ldc2 (l := 16) xc200_27 rfl ?_
  refine x_lmul xc200_30 ?_
  refine x_aloadn xc200_31 rfl ?_
  refine x_gfr xc200_32 rfl rfl xz87 rfl ?_
  refine x_iload xc200_35 rfl ?_
  refine x_ial xc200_37 xz108 rfl (by omega) (by omega) (by omega) ?_
  refine x_i2l (xRk (by have g0 := xRb (hA 108 0); omega)) xc200_38 ?_
  refine x_ladd xc200_39 ?_
  refine x_lconst (l := 1) xc200_40 rfl ?_
  refine x_ladd xc200_41 ?_
  refine x_lstoren (pl' := [some (.ref 87), some (xV f), some (xV k), some (.long (((((((4 : Int64) + (Int64.ofInt f)) * (3 : Int64)) + (Int64.ofInt k)) * (16 : Int64)) + (Int64.ofInt (a 108 0))) + (1 : Int64))), none, some (xV 0)]) xc200_42 rfl rfl rfl ?_
  refine x_iinc (pl' := [some (.ref 87), some (xV f), some (xV k), some (.long (((((((4 : Int64) + (Int64.ofInt f)) * (3 : Int64)) + (Int64.ofInt k)) * (16 : Int64)) + (Int64.ofInt (a 108 0))) + (1 : Int64))), none, some (xV (0 + 1))]) xc200_43 rfl rfl ?_
  refine x_goto xc200_46 ?_
  refine x_iload xc200_19 rfl ?_
  refine x_bipush xc200_21 (by decide) ?_
  refine x_icge xc200_23 (xRk (by decide)) (xRk (by decide)) (fun h => absurd h (by omega)) (fun _ => ?_)
  refine x_lloadn xc200_26 rfl ?_
  refine x_ldc2 (l := 16) xc200_27 rfl ?_
  refine x_lmul xc200_30 ?_
  refine x_aloadn xc200_31 rfl ?_
  refine x_gfr xc200_32 rfl rfl xz87 rfl ?_
  refine x_iload xc200_35 rfl ?_
  refine x_ial xc200_37 xz108 rfl (by omega) (by omega) (by omega) ?_
  refine x_i2l (xRk (by have g0 := xRb (hA 108 (0 + 1)); omega)) xc200_38 ?_
  refine x_ladd xc200_39 ?_
  refine x_lconst (l := 1) xc200_40 rfl ?_
  refine x_ladd xc200_41 ?_
  refine x_lstoren (pl' := [some (.ref 87), some (xV f), some (xV k), some (.long ((((((((((4 : Int64) + (Int64.ofInt f)) * (3 : Int64)) + (Int64.ofInt k)) * (16 : Int64)) + (Int64.ofInt (a 108 0))) + (1 : Int64)) * (16 : Int64)) + (Int64.ofInt (a 108 (0 + 1)))) + (1 : Int64))), none, some (xV (0 + 1))]) xc200_42 rfl rfl rfl ?_
  refine x_iinc (pl' := [some (.ref 87), some (xV f), some (xV k), some (.long ((((((((((4 : Int64) + (Int64.ofInt f)) * (3 : Int64)) + (Int64.ofInt k)) * (16 : Int64)) + (Int64.ofInt (a 108 0))) + (1 : Int64)) * (16 : Int64)) + (Int64.ofInt (a 108 (0 + 1)))) + (1 : Int64))), none, some (xV (0 + 1 + 1))]) xc200_43 rfl rfl ?_
  refine x_goto xc200_46 ?_
  refine x_iload xc200_19 rfl ?_
  refine x_bipush xc200_21 (by decide) ?_
  refine x_icge xc200_23 (xRk (by decide)) (xRk (by decide)) (fun h => absurd h (by omega)) (fun _ => ?_)
  refine x_lloadn xc200_26 rfl ?_
  refine x_ldc2 (l := 16) xc200_27 rfl ?_
  refine x_lmul xc200_30 ?_
  refine x_aloadn xc200_31 rfl ?_
  refine x_gfr xc200_32 rfl rfl xz87 rfl ?_
  refine x_iload xc200_35 rfl ?_
  refine x_ial xc200_37 xz108 rfl (by omega) (by omega) (by omega) ?_
  refine x_i2l (xRk (by have g0 := xRb (hA 108 (0 + 1 + 1)); omega)) xc200_38 ?_
  refine x_ladd xc200_39 ?_
  refine x_lconst (l := 1) xc200_40 rfl ?_
  refine x_ladd xc200_41 ?_
  refine x_lstoren (pl' := [some (.ref 87), some (xV f), some (xV k), some (.long (((((((((((((4 : Int64) + (Int64.ofInt f)) * (3 : Int64)) + (Int64.ofInt k)) * (16 : Int64)) + (Int64.ofInt (a 108 0))) + (1 : Int64)) * (16 : Int64)) + (Int64.ofInt (a 108 (0 + 1)))) + (1 : Int64)) * (16 : Int64)) + (Int64.ofInt (a 108 (0 + 1 + 1)))) + (1 : Int64))), none, some (xV (0 + 1 + 1))]) xc200_42 rfl rfl rfl ?_
  refine x_iinc (pl' := [some (.ref 87), some (xV f), some (xV k), some (.long (((((((((((((4 : Int64) + (Int64.ofInt f)) * (3 : Int64)) + (Int64.ofInt k)) * (16 : Int64)) + (Int64.ofInt (a 108 0))) + (1 : Int64)) * (16 : Int64)) + (Int64.ofInt (a 108 (0 + 1)))) + (1 : Int64)) * (16 : Int64)) + (Int64.ofInt (a 108 (0 + 1 + 1)))) + (1 : Int64))), none, some (xV (0 + 1 + 1 + 1))]) xc200_43 rfl rfl ?_
  refine x_goto xc200_46 ?_
  refine x_iload xc200_19 rfl ?_
  refine x_bipush xc200_21 (by decide) ?_
  refine x_icge xc200_23 (xRk (by decide)) (xRk (by decide)) (fun h => absurd h (by omega)) (fun _ => ?_)
  refine x_lloadn xc200_26 rfl ?_
  refine x_ldc2 (l := 16) xc200_27 rfl ?_
  refine x_lmul xc200_30 ?_
  refine x_aloadn xc200_31 rfl ?_
  refine x_gfr xc200_32 rfl rfl xz87 rfl ?_
  refine x_iload xc200_35 rfl ?_
  refine x_ial xc200_37 xz108 rfl (by omega) (by omega) (by omega) ?_
  refine x_i2l (xRk (by have g0 := xRb (hA 108 (0 + 1 + 1 + 1)); omega)) xc200_38 ?_
  refine x_ladd xc200_39 ?_
  refine x_lconst (l := 1) xc200_40 rfl ?_
  refine x_ladd xc200_41 ?_
  refine x_lstoren (pl' := [some (.ref 87), some (xV f), some (xV k), some (.long ((((((((((((((((4 : Int64) + (Int64.ofInt f)) * (3 : Int64)) + (Int64.ofInt k)) * (16 : Int64)) + (Int64.ofInt (a 108 0))) + (1 : Int64)) * (16 : Int64)) + (Int64.ofInt (a 108 (0 + 1)))) + (1 : Int64)) * (16 : Int64)) + (Int64.ofInt (a 108 (0 + 1 + 1)))) + (1 : Int64)) * (16 : Int64)) + (Int64.ofInt (a 108 (0 + 1 + 1 + 1)))) + (1 : Int64))), none, some (xV (0 + 1 + 1 + 1))]) xc200_42 rfl rfl rfl ?_
  refine x_iinc (pl' := [some (.ref 87), some (xV f), some (xV k), some (.long ((((((((((((((((4 : Int64) + (Int64.ofInt f)) * (3 : Int64)) + (Int64.ofInt k)) * (16 : Int64)) + (Int64.ofInt (a 108 0))) + (1 : Int64)) * (16 : Int64)) + (Int64.ofInt (a 108 (0 + 1)))) + (1 : Int64)) * (16 : Int64)) + (Int64.ofInt (a 108 (0 + 1 + 1)))) + (1 : Int64)) * (16 : Int64)) + (Int64.ofInt (a 108 (0 + 1 + 1 + 1)))) + (1 : Int64))), none, some (xV (0 + 1 + 1 + 1 + 1))]) xc200_43 rfl rfl ?_
  refine x_goto xc200_46 ?_
  refine x_iload xc200_19 rfl ?_
  refine x_bipush xc200_21 (by decide) ?_
  refine x_icge xc200_23 (xRk (by decide)) (xRk (by decide)) (fun h => absurd h (by omega)) (fun _ => ?_)
  refine x_lloadn xc200_26 rfl ?_
  refine x_ldc2 (l := 16) xc200_27 rfl ?_
  refine x_lmul xc200_30 ?_
  refine x_aloadn xc200_31 rfl ?_
  refine x_gfr xc200_32 rfl rfl xz87 rfl ?_
  refine x_iload xc200_35 rfl ?_
  refine x_ial xc200_37 xz108 rfl (by omega) (by omega) (by omega) ?_
  refine x_i2l (xRk (by have g0 := xRb (hA 108 (0 + 1 + 1 + 1 + 1)); omega)) xc200_38 ?_
  refine x_ladd xc200_39 ?_
  refine x_lconst (l := 1) xc200_40 rfl ?_
  refine x_ladd xc200_41 ?_
  refine x_lstoren (pl' := [some (.ref 87), some (xV f), some (xV k), some (.long (((((((((((((((((((4 : Int64) + (Int64.ofInt f)) * (3 : Int64)) + (Int64.ofInt k)) * (16 : Int64)) + (Int64.ofInt (a 108 0))) + (1 : Int64)) * (16 : Int64)) + (Int64.ofInt (a 108 (0 + 1)))) + (1 : Int64)) * (16 : Int64)) + (Int64.ofInt (a 108 (0 + 1 + 1)))) + (1 : Int64)) * (16 : Int64)) + (Int64.ofInt (a 108 (0 + 1 + 1 + 1)))) + (1 : Int64)) * (16 : Int64)) + (Int64.ofInt (a 108 (0 + 1 + 1 + 1 + 1)))) + (1 : Int64))), none, some (xV (0 + 1 + 1 + 1 + 1))]) xc200_42 rfl rfl rfl ?_
  refine x_iinc (pl' := [some (.ref 87), some (xV f), some (xV k), some (.long (((((((((((((((((((4 : Int64) + (Int64.ofInt f)) * (3 : Int64)) + (Int64.ofInt k)) * (16 : Int64)) + (Int64.ofInt (a 108 0))) + (1 : Int64)) * (16 : Int64)) + (Int64.ofInt (a 108 (0 + 1)))) + (1 : Int64)) * (16 : Int64)) + (Int64.ofInt (a 108 (0 + 1 + 1)))) + (1 : Int64)) * (16 : Int64)) + (Int64.ofInt (a 108 (0 + 1 + 1 + 1)))) + (1 : Int64)) * (16 : Int64)) + (Int64.ofInt (a 108 (0 + 1 + 1 + 1 + 1)))) + (1 : Int64))), none, some (xV (0 + 1 + 1 + 1 + 1 + 1))]) xc200_43 rfl rfl ?_
  refine x_goto xc200_46 ?_
  refine x_iload xc200_19 rfl ?_
  refine x_bipush xc200_21 (by decide) ?_
  refine x_icge xc200_23 (xRk (by decide)) (xRk (by decide)) (fun h => absurd h (by omega)) (fun _ => ?_)
  refine x_lloadn xc200_26 rfl ?_
  refine x_ldc2 (l := 16) xc200_27 rfl ?_
  refine x_lmul xc200_30 ?_
  refine x_aloadn xc200_31 rfl ?_
  refine x_gfr xc200_32 rfl rfl xz87 rfl ?_
  refine x_iload xc200_35 rfl ?_
  refine x_ial xc200_37 xz108 rfl (by omega) (by omega) (by omega) ?_
  refine x_i2l (xRk (by have g0 := xRb (hA 108 (0 + 1 + 1 + 1 + 1 + 1)); omega)) xc200_38 ?_
  refine x_ladd xc200_39 ?_
  refine x_lconst (l := 1) xc200_40 rfl ?_
  refine x_ladd xc200_41 ?_
  refine x_lstoren (pl' := [some (.ref 87), some (xV f), some (xV k), some (.long ((((((((((((((((((((((4 : Int64) + (Int64.ofInt f)) * (3 : Int64)) + (Int64.ofInt k)) * (16 : Int64)) + (Int64.ofInt (a 108 0))) + (1 : Int64)) * (16 : Int64)) + (Int64.ofInt (a 108 (0 + 1)))) + (1 : Int64)) * (16 : Int64)) + (Int64.ofInt (a 108 (0 + 1 + 1)))) + (1 : Int64)) * (16 : Int64)) + (Int64.ofInt (a 108 (0 + 1 + 1 + 1)))) + (1 : Int64)) * (16 : Int64)) + (Int64.ofInt (a 108 (0 + 1 + 1 + 1 + 1)))) + (1 : Int64)) * (16 : Int64)) + (Int64.ofInt (a 108 (0 + 1 + 1 + 1 + 1 + 1)))) + (1 : Int64))), none, some (xV (0 + 1 + 1 + 1 + 1 + 1))]) xc200_42 rfl rfl rfl ?_
  refine x_iinc (pl' := [some (.ref 87), some (xV f), some (xV k), some (.long ((((((((((((((((((((((4 : Int64) + (Int64.ofInt f)) * (3 : Int64)) + (Int64.ofInt k)) * (16 : Int64)) + (Int64.ofInt (a 108 0))) + (1 : Int64)) * (16 : Int64)) + (Int64.ofInt (a 108 (0 + 1)))) + (1 : Int64)) * (16 : Int64)) + (Int64.ofInt (a 108 (0 + 1 + 1)))) + (1 : Int64)) * (16 : Int64)) + (Int64.ofInt (a 108 (0 + 1 + 1 + 1)))) + (1 : Int64)) * (16 : Int64)) + (Int64.ofInt (a 108 (0 + 1 + 1 + 1 + 1)))) + (1 : Int64)) * (16 : Int64)) + (Int64.ofInt (a 108 (0 + 1 + 1 + 1 + 1 + 1)))) + (1 : Int64))), none, some (xV (0 + 1 + 1 + 1 + 1 + 1 + 1))]) xc200_43 rfl rfl ?_
  refine x_goto xc200_46 ?_
  refine x_iload xc200_19 rfl ?_
  refine x_bipush xc200_21 (by decide) ?_
  refine x_icge xc200_23 (xRk (by decide)) (xRk (by decide)) (fun h => absurd h (by omega)) (fun _ => ?_)
  refine x_lloadn xc200_26 rfl ?_
  refine x_ldc2 (l := 16) xc200_27 rfl ?_
  refine x_lmul xc200_30 ?_
  refine x_aloadn xc200_31 rfl ?_
  refine x_gfr xc200_32 rfl rfl xz87 rfl ?_
  refine x_iload xc200_35 rfl ?_
  refine x_ial xc200_37 xz108 rfl (by omega) (by omega) (by omega) ?_
  refine x_i2l (xRk (by have g0 := xRb (hA 108 (0 + 1 + 1 + 1 + 1 + 1 + 1)); omega)) xc200_38 ?_
  refine x_ladd xc200_39 ?_
  refine x_lconst (l := 1) xc200_40 rfl ?_
  refine x_ladd xc200_41 ?_
  refine x_lstoren (pl' := [some (.ref 87), some (xV f), some (xV k), some (.long (((((((((((((((((((((((((4 : Int64) + (Int64.ofInt f)) * (3 : Int64)) + (Int64.ofInt k)) * (16 : Int64)) + (Int64.ofInt (a 108 0))) + (1 : Int64)) * (16 : Int64)) + (Int64.ofInt (a 108 (0 + 1)))) + (1 : Int64)) * (16 : Int64)) + (Int64.ofInt (a 108 (0 + 1 + 1)))) + (1 : Int64)) * (16 : Int64)) + (Int64.ofInt (a 108 (0 + 1 + 1 + 1)))) + (1 : Int64)) * (16 : Int64)) + (Int64.ofInt (a 108 (0 + 1 + 1 + 1 + 1)))) + (1 : Int64)) * (16 : Int64)) + (Int64.ofInt (a 108 (0 + 1 + 1 + 1 + 1 + 1)))) + (1 : Int64)) * (16 : Int64)) + (Int64.ofInt (a 108 (0 + 1 + 1 + 1 + 1 + 1 + 1)))) + (1 : Int64))), none, some (xV (0 + 1 + 1 + 1 + 1 + 1 + 1))]) xc200_42 rfl rfl rfl ?_
  refine x_iinc (pl' := [some (.ref 87), some (xV f), some (xV k), some (.long (((((((((((((((((((((((((4 : Int64) + (Int64.ofInt f)) * (3 : Int64)) + (Int64.ofInt k)) * (16 : Int64)) + (Int64.ofInt (a 108 0))) + (1 : Int64)) * (16 : Int64)) + (Int64.ofInt (a 108 (0 + 1)))) + (1 : Int64)) * (16 : Int64)) + (Int64.ofInt (a 108 (0 + 1 + 1)))) + (1 : Int64)) * (16 : Int64)) + (Int64.ofInt (a 108 (0 + 1 + 1 + 1)))) + (1 : Int64)) * (16 : Int64)) + (Int64.ofInt (a 108 (0 + 1 + 1 + 1 + 1)))) + (1 : Int64)) * (16 : Int64)) + (Int64.ofInt (a 108 (0 + 1 + 1 + 1 + 1 + 1)))) + (1 : Int64)) * (16 : Int64)) + (Int64.ofInt (a 108 (0 + 1 + 1 + 1 + 1 + 1 + 1)))) + (1 : Int64))), none, some (xV (0 + 1 + 1 + 1 + 1 + 1 + 1 + 1))]) xc200_43 rfl rfl ?_
  refine x_goto xc200_46 ?_
  refine x_iload xc200_19 rfl ?_
  refine x_bipush xc200_21 (by decide) ?_
  refine x_icge xc200_23 (xRk (by decide)) (xRk (by decide)) (fun h => absurd h (by omega)) (fun _ => ?_)
  refine x_lloadn xc200_26 rfl ?_
  refine x_ldc2 (l := 16) xc200_27 rfl ?_
  refine x_lmul xc200_30 ?_
  refine x_aloadn xc200_31 rfl ?_
  refine x_gfr xc200_32 rfl rfl xz87 rfl ?_
  refine x_iload xc200_35 rfl ?_
  refine x_ial xc200_37 xz108 rfl (by omega) (by omega) (by omega) ?_
  refine x_i2l (xRk (by have g0 := xRb (hA 108 (0 + 1 + 1 + 1 + 1 + 1 + 1 + 1)); omega)) xc200_38 ?_
  refine x_ladd xc200_39 ?_
  refine x_lconst (l := 1) xc200_40 rfl ?_
  refine x_ladd xc200_41 ?_
  refine x_lstoren (pl' := [some (.ref 87), some (xV f), some (xV k), some (.long ((((((((((((((((((((((((((((4 : Int64) + (Int64.ofInt f)) * (3 : Int64)) + (Int64.ofInt k)) * (16 : Int64)) + (Int64.ofInt (a 108 0))) + (1 : Int64)) * (16 : Int64)) + (Int64.ofInt (a 108 (0 + 1)))) + (1 : Int64)) * (16 : Int64)) + (Int64.ofInt (a 108 (0 + 1 + 1)))) + (1 : Int64)) * (16 : Int64)) + (Int64.ofInt (a 108 (0 + 1 + 1 + 1)))) + (1 : Int64)) * (16 : Int64)) + (Int64.ofInt (a 108 (0 + 1 + 1 + 1 + 1)))) + (1 : Int64)) * (16 : Int64)) + (Int64.ofInt (a 108 (0 + 1 + 1 + 1 + 1 + 1)))) + (1 : Int64)) * (16 : Int64)) + (Int64.ofInt (a 108 (0 + 1 + 1 + 1 + 1 + 1 + 1)))) + (1 : Int64)) * (16 : Int64)) + (Int64.ofInt (a 108 (0 + 1 + 1 + 1 + 1 + 1 + 1 + 1)))) + (1 : Int64))), none, some (xV (0 + 1 + 1 + 1 + 1 + 1 + 1 + 1))]) xc200_42 rfl rfl rfl ?_
  refine x_iinc (pl' := [some (.ref 87), some (xV f), some (xV k), some (.long ((((((((((((((((((((((((((((4 : Int64) + (Int64.ofInt f)) * (3 : Int64)) + (Int64.ofInt k)) * (16 : Int64)) + (Int64.ofInt (a 108 0))) + (1 : Int64)) * (16 : Int64)) + (Int64.ofInt (a 108 (0 + 1)))) + (1 : Int64)) * (16 : Int64)) + (Int64.ofInt (a 108 (0 + 1 + 1)))) + (1 : Int64)) * (16 : Int64)) + (Int64.ofInt (a 108 (0 + 1 + 1 + 1)))) + (1 : Int64)) * (16 : Int64)) + (Int64.ofInt (a 108 (0 + 1 + 1 + 1 + 1)))) + (1 : Int64)) * (16 : Int64)) + (Int64.ofInt (a 108 (0 + 1 + 1 + 1 + 1 + 1)))) + (1 : Int64)) * (16 : Int64)) + (Int64.ofInt (a 108 (0 + 1 + 1 + 1 + 1 + 1 + 1)))) + (1 : Int64)) * (16 : Int64)) + (Int64.ofInt (a 108 (0 + 1 + 1 + 1 + 1 + 1 + 1 + 1)))) + (1 : Int64))), none, some (xV (0 + 1 + 1 + 1 + 1 + 1 + 1 + 1 + 1))]) xc200_43 rfl rfl ?_
  refine x_goto xc200_46 ?_
  refine x_iload xc200_19 rfl ?_
  refine x_bipush xc200_21 (by decide) ?_
  refine x_icge xc200_23 (xRk (by decide)) (xRk (by decide)) (fun h => absurd h (by omega)) (fun _ => ?_)
  refine x_lloadn xc200_26 rfl ?_
  refine x_ldc2 (l := 16) xc200_27 rfl ?_
  refine x_lmul xc200_30 ?_
  refine x_aloadn xc200_31 rfl ?_
  refine x_gfr xc200_32 rfl rfl xz87 rfl ?_
  refine x_iload xc200_35 rfl ?_
  refine x_ial xc200_37 xz108 rfl (by omega) (by omega) (by omega) ?_
  refine x_i2l (xRk (by have g0 := xRb (hA 108 (0 + 1 + 1 + 1 + 1 + 1 + 1 + 1 + 1)); omega)) xc200_38 ?_
  refine x_ladd xc200_39 ?_
  refine x_lconst (l := 1) xc200_40 rfl ?_
  refine x_ladd xc200_41 ?_
  refine x_lstoren (pl' := [some (.ref 87), some (xV f), some (xV k), some (.long (((((((((((((((((((((((((((((((4 : Int64) + (Int64.ofInt f)) * (3 : Int64)) + (Int64.ofInt k)) * (16 : Int64)) + (Int64.ofInt (a 108 0))) + (1 : Int64)) * (16 : Int64)) + (Int64.ofInt (a 108 (0 + 1)))) + (1 : Int64)) * (16 : Int64)) + (Int64.ofInt (a 108 (0 + 1 + 1)))) + (1 : Int64)) * (16 : Int64)) + (Int64.ofInt (a 108 (0 + 1 + 1 + 1)))) + (1 : Int64)) * (16 : Int64)) + (Int64.ofInt (a 108 (0 + 1 + 1 + 1 + 1)))) + (1 : Int64)) * (16 : Int64)) + (Int64.ofInt (a 108 (0 + 1 + 1 + 1 + 1 + 1)))) + (1 : Int64)) * (16 : Int64)) + (Int64.ofInt (a 108 (0 + 1 + 1 + 1 + 1 + 1 + 1)))) + (1 : Int64)) * (16 : Int64)) + (Int64.ofInt (a 108 (0 + 1 + 1 + 1 + 1 + 1 + 1 + 1)))) + (1 : Int64)) * (16 : Int64)) + (Int64.ofInt (a 108 (0 + 1 + 1 + 1 + 1 + 1 + 1 + 1 + 1)))) + (1 : Int64))), none, some (xV (0 + 1 + 1 + 1 + 1 + 1 + 1 + 1 + 1))]) xc200_42 rfl rfl rfl ?_
  refine x_iinc (pl' := [some (.ref 87), some (xV f), some (xV k), some (.long (((((((((((((((((((((((((((((((4 : Int64) + (Int64.ofInt f)) * (3 : Int64)) + (Int64.ofInt k)) * (16 : Int64)) + (Int64.ofInt (a 108 0))) + (1 : Int64)) * (16 : Int64)) + (Int64.ofInt (a 108 (0 + 1)))) + (1 : Int64)) * (16 : Int64)) + (Int64.ofInt (a 108 (0 + 1 + 1)))) + (1 : Int64)) * (16 : Int64)) + (Int64.ofInt (a 108 (0 + 1 + 1 + 1)))) + (1 : Int64)) * (16 : Int64)) + (Int64.ofInt (a 108 (0 + 1 + 1 + 1 + 1)))) + (1 : Int64)) * (16 : Int64)) + (Int64.ofInt (a 108 (0 + 1 + 1 + 1 + 1 + 1)))) + (1 : Int64)) * (16 : Int64)) + (Int64.ofInt (a 108 (0 + 1 + 1 + 1 + 1 + 1 + 1)))) + (1 : Int64)) * (16 : Int64)) + (Int64.ofInt (a 108 (0 + 1 + 1 + 1 + 1 + 1 + 1 + 1)))) + (1 : Int64)) * (16 : Int64)) + (Int64.ofInt (a 108 (0 + 1 + 1 + 1 + 1 + 1 + 1 + 1 + 1)))) + (1 : Int64))), none, some (xV (0 + 1 + 1 + 1 + 1 + 1 + 1 + 1 + 1 + 1))]) xc200_43 rfl rfl ?_
  refine x_goto xc200_46 ?_
  refine x_iload xc200_19 rfl ?_
  refine x_bipush xc200_21 (by decide) ?_
  refine x_icge xc200_23 (xRk (by decide)) (xRk (by decide)) (fun h => absurd h (by omega)) (fun _ => ?_)
  refine x_lloadn xc200_26 rfl ?_
  refine x_ldc2 (l := 16) xc200_27 rfl ?_
  refine x_lmul xc200_30 ?_
  refine x_aloadn xc200_31 rfl ?_
  refine x_gfr xc200_32 rfl rfl xz87 rfl ?_
  refine x_iload xc200_35 rfl ?_
  refine x_ial xc200_37 xz108 rfl (by omega) (by omega) (by omega) ?_
  refine x_i2l (xRk (by have g0 := xRb (hA 108 (0 + 1 + 1 + 1 + 1 + 1 + 1 + 1 + 1 + 1)); omega)) xc200_38 ?_
  refine x_ladd xc200_39 ?_
  refine x_lconst (l := 1) xc200_40 rfl ?_
  refine x_ladd xc200_41 ?_
  refine x_lstoren (pl' := [some (.ref 87), some (xV f), some (xV k), some (.long ((((((((((((((((((((((((((((((((((4 : Int64) + (Int64.ofInt f)) * (3 : Int64)) + (Int64.ofInt k)) * (16 : Int64)) + (Int64.ofInt (a 108 0))) + (1 : Int64)) * (16 : Int64)) + (Int64.ofInt (a 108 (0 + 1)))) + (1 : Int64)) * (16 : Int64)) + (Int64.ofInt (a 108 (0 + 1 + 1)))) + (1 : Int64)) * (16 : Int64)) + (Int64.ofInt (a 108 (0 + 1 + 1 + 1)))) + (1 : Int64)) * (16 : Int64)) + (Int64.ofInt (a 108 (0 + 1 + 1 + 1 + 1)))) + (1 : Int64)) * (16 : Int64)) + (Int64.ofInt (a 108 (0 + 1 + 1 + 1 + 1 + 1)))) + (1 : Int64)) * (16 : Int64)) + (Int64.ofInt (a 108 (0 + 1 + 1 + 1 + 1 + 1 + 1)))) + (1 : Int64)) * (16 : Int64)) + (Int64.ofInt (a 108 (0 + 1 + 1 + 1 + 1 + 1 + 1 + 1)))) + (1 : Int64)) * (16 : Int64)) + (Int64.ofInt (a 108 (0 + 1 + 1 + 1 + 1 + 1 + 1 + 1 + 1)))) + (1 : Int64)) * (16 : Int64)) + (Int64.ofInt (a 108 (0 + 1 + 1 + 1 + 1 + 1 + 1 + 1 + 1 + 1)))) + (1 : Int64))), none, some (xV (0 + 1 + 1 + 1 + 1 + 1 + 1 + 1 + 1 + 1))]) xc200_42 rfl rfl rfl ?_
  refine x_iinc (pl' := [some (.ref 87), some (xV f), some (xV k), some (.long ((((((((((((((((((((((((((((((((((4 : Int64) + (Int64.ofInt f)) * (3 : Int64)) + (Int64.ofInt k)) * (16 : Int64)) + (Int64.ofInt (a 108 0))) + (1 : Int64)) * (16 : Int64)) + (Int64.ofInt (a 108 (0 + 1)))) + (1 : Int64)) * (16 : Int64)) + (Int64.ofInt (a 108 (0 + 1 + 1)))) + (1 : Int64)) * (16 : Int64)) + (Int64.ofInt (a 108 (0 + 1 + 1 + 1)))) + (1 : Int64)) * (16 : Int64)) + (Int64.ofInt (a 108 (0 + 1 + 1 + 1 + 1)))) + (1 : Int64)) * (16 : Int64)) + (Int64.ofInt (a 108 (0 + 1 + 1 + 1 + 1 + 1)))) + (1 : Int64)) * (16 : Int64)) + (Int64.ofInt (a 108 (0 + 1 + 1 + 1 + 1 + 1 + 1)))) + (1 : Int64)) * (16 : Int64)) + (Int64.ofInt (a 108 (0 + 1 + 1 + 1 + 1 + 1 + 1 + 1)))) + (1 : Int64)) * (16 : Int64)) + (Int64.ofInt (a 108 (0 + 1 + 1 + 1 + 1 + 1 + 1 + 1 + 1)))) + (1 : Int64)) * (16 : Int64)) + (Int64.ofInt (a 108 (0 + 1 + 1 + 1 + 1 + 1 + 1 + 1 + 1 + 1)))) + (1 : Int64))), none, some (xV (0 + 1 + 1 + 1 + 1 + 1 + 1 + 1 + 1 + 1 + 1))]) xc200_43 rfl rfl ?_
  refine x_goto xc200_46 ?_
  refine x_iload xc200_19 rfl ?_
  refine x_bipush xc200_21 (by decide) ?_
  refine x_icge xc200_23 (xRk (by decide)) (xRk (by decide)) (fun _ => ?_) (fun h => absurd h (by omega))
  refine x_lloadn xc200_49 rfl ?_
  refine x_lret xc200_50 rfl ?_
  exact k1

theorem xg200 {ro : Nat → Nat × (Nat → Int32)} {d : Nat} {Q : Option Value → pmS → Prop} {a : xA} {b : xB} {f k : Int} (h : pmWp ro d 12 200 3 0 [some (.ref 87), some (xV f), some (xV k), none, none, none] [] (xS a b) Q) : pmCs ro (d + 1) 200 [.ref 87, xV f, xV k] (xS a b) Q := x_go xi200 rfl rfl rfl rfl rfl h
theorem w199 {ro : Nat → Nat × (Nat → Int32)} {d : Nat} {Q : Option Value → pmS → Prop} {f k : Int} {a : xA} {b : xB}
    (k1 : pmCs ro d 200 [.ref 87, xV f, xV k] (xS a b) fun r σ' => pmWp ro d 12 199 1 6 [some (.ref 87), some (xV f), some (xV k), none, none, none, none] (r.toList ++ []) σ' Q) :
    pmWp ro d 12 199 1 0 [some (.ref 87), some (xV f), some (xV k), none, none, none, none] [] (xS a b) Q := by
  refine x_aloadn xc199_0 rfl ?_
  refine x_iloadn xc199_1 rfl ?_
  refine x_iloadn xc199_2 rfl ?_
  refine x_cV (as := [xV f, xV k]) (rest := []) xc199_3 rfl xi200 xz87 ⟨rfl, rfl⟩ rfl rfl ?_
  exact k1

theorem xg199 {ro : Nat → Nat × (Nat → Int32)} {d : Nat} {Q : Option Value → pmS → Prop} {a : xA} {b : xB} {f k : Int} (h : pmWp ro d 12 199 1 0 [some (.ref 87), some (xV f), some (xV k), none, none, none, none] [] (xS a b) Q) : pmCs ro (d + 1) 199 [.ref 87, xV f, xV k] (xS a b) Q := x_go xi199 rfl rfl rfl rfl rfl h
theorem w199a {ro : Nat → Nat × (Nat → Int32)} {d : Nat} {Q : Option Value → pmS → Prop} {f k : Int} {key : Int64} {a : xA} {b : xB}
    (k1 : pmWp ro d 12 199 1 15 [some (.ref 87), some (xV f), some (xV k), some (.long key), none, some (xV (xL2 (key - key / (4093 : Int64) * (4093 : Int64)))), none] [] (xS a b) Q) :
    pmWp ro d 12 199 1 6 [some (.ref 87), some (xV f), some (xV k), none, none, none, none] [.long key] (xS a b) Q := by
  refine x_lstoren (pl' := [some (.ref 87), some (xV f), some (xV k), some (.long key), none, none, none]) xc199_6 rfl rfl rfl ?_
  refine x_lloadn xc199_7 rfl ?_
  refine x_ldc2 (l := 4093) xc199_8 rfl ?_
  refine x_lrem xc199_11 (by decide) ?_
  refine x_l2i xc199_12 ?_
  refine x_istore (pl' := [some (.ref 87), some (xV f), some (xV k), some (.long key), none, some (xV (xL2 (key - key / (4093 : Int64) * (4093 : Int64)))), none]) xc199_13 rfl rfl ?_
  exact k1

theorem w199b {ro : Nat → Nat × (Nat → Int32)} {d : Nat} {Q : Option Value → pmS → Prop} {f k at0 : Int} {key : Int64} {a : xA} {b : xB} (hat : 0 ≤ at0 ∧ at0 ≤ 4095)
    (k1 : (xCmp (b 114 at0) (0 : Int64) = 0) → pmWp ro d 12 199 1 60 [some (.ref 87), some (xV f), some (xV k), some (.long key), none, some (xV at0), none] [] (xS a b) Q)
    (k2 : (¬ xCmp (b 114 at0) (0 : Int64) = 0) → (xCmp (b 114 at0) key = 0) → pmWp ro d 12 199 1 60 [some (.ref 87), some (xV f), some (xV k), some (.long key), none, some (xV at0), none] [] (xS a b) Q)
    (k3 : (¬ xCmp (b 114 at0) (0 : Int64) = 0) → (¬ xCmp (b 114 at0) key = 0) → (¬ at0 = 4095) → pmWp ro d 12 199 1 15 [some (.ref 87), some (xV f), some (xV k), some (.long key), none, some (xV (at0 + 1)), none] [] (xS a b) Q)
    (k4 : (¬ xCmp (b 114 at0) (0 : Int64) = 0) → (¬ xCmp (b 114 at0) key = 0) → (at0 = 4095) → pmWp ro d 12 199 1 15 [some (.ref 87), some (xV f), some (xV k), some (.long key), none, some (xV 0), none] [] (xS a b) Q) :
    pmWp ro d 12 199 1 15 [some (.ref 87), some (xV f), some (xV k), some (.long key), none, some (xV at0), none] [] (xS a b) Q := by
  refine x_aloadn xc199_15 rfl ?_
  refine x_gfr xc199_16 rfl rfl xz87 rfl ?_
  refine x_iload xc199_19 rfl ?_
  refine x_lal xc199_21 xz114 (by have g0 := hat; omega) (by have g0 := hat; omega) (by have g0 := hat; omega) ?_
  refine x_lconst (l := 0) xc199_22 rfl ?_
  refine x_lcmp xc199_23 ?_
  refine x_ifeq xc199_24 (xRk (by have g0 := xCmpB (b 114 at0) (0 : Int64); omega)) (fun h0 => ?_) (fun h0 => ?_)
  · exact k1 h0
  · refine x_aloadn xc199_27 rfl ?_
    refine x_gfr xc199_28 rfl rfl xz87 rfl ?_
    refine x_iload xc199_31 rfl ?_
    refine x_lal xc199_33 xz114 (by have g0 := hat; omega) (by have g0 := hat; omega) (by have g0 := hat; omega) ?_
    refine x_lloadn xc199_34 rfl ?_
    refine x_lcmp xc199_35 ?_
    refine x_ifeq xc199_36 (xRk (by have g0 := xCmpB (b 114 at0) key; omega)) (fun h1 => ?_) (fun h1 => ?_)
    · exact k2 h0 h1
    · refine x_iload xc199_39 rfl ?_
      refine x_sipush xc199_41 (by decide) ?_
      refine x_icne xc199_44 (xRk (by have g0 := hat; omega)) (xRk (by decide)) (fun h2 => ?_) (fun h2 => ?_)
      · refine x_iload xc199_51 rfl ?_
        refine x_iconst xc199_53 ?_
        refine x_iadd xc199_54 ?_
        refine x_istore (pl' := [some (.ref 87), some (xV f), some (xV k), some (.long key), none, some (xV (at0 + 1)), none]) xc199_55 rfl rfl ?_
        refine x_goto xc199_57 ?_
        exact k3 h0 h1 h2
      · replace h2 := Classical.not_not.mp h2
        refine x_iconst xc199_47 ?_
        refine x_goto xc199_48 ?_
        refine x_istore (pl' := [some (.ref 87), some (xV f), some (xV k), some (.long key), none, some (xV 0), none]) xc199_55 rfl rfl ?_
        refine x_goto xc199_57 ?_
        exact k4 h0 h1 h2

theorem w199c {ro : Nat → Nat × (Nat → Int32)} {d : Nat} {Q : Option Value → pmS → Prop} {f k at0 : Int} {key : Int64} {a : xA} {b : xB} (hat : 0 ≤ at0 ∧ at0 ≤ 4095) {v : Int} (hv : a 115 at0 = v) (hv0 : -1 ≤ v ∧ v ≤ 60)
    (k1 : (¬ xCmp (b 114 at0) key = 0) → pmCs ro d 190 [.ref 87, xV f, xV k] (xS a b) fun r σ' => pmWp ro d 12 199 1 88 [some (.ref 87), some (xV f), some (xV k), some (.long key), none, some (xV at0), none] (r.toList ++ []) σ' Q)
    (k2 : (xCmp (b 114 at0) key = 0) → Q (some (xV (v - 1))) (xS a b)) :
    pmWp ro d 12 199 1 60 [some (.ref 87), some (xV f), some (xV k), some (.long key), none, some (xV at0), none] [] (xS a b) Q := by
  refine x_aloadn xc199_60 rfl ?_
  refine x_gfr xc199_61 rfl rfl xz87 rfl ?_
  refine x_iload xc199_64 rfl ?_
  refine x_lal xc199_66 xz114 (by have g0 := hat; omega) (by have g0 := hat; omega) (by have g0 := hat; omega) ?_
  refine x_lloadn xc199_67 rfl ?_
  refine x_lcmp xc199_68 ?_
  refine x_ifne xc199_69 (xRk (by have g0 := xCmpB (b 114 at0) key; omega)) (fun h0 => ?_) (fun h0 => ?_)
  · refine x_aloadn xc199_82 rfl ?_
    refine x_iloadn xc199_83 rfl ?_
    refine x_iloadn xc199_84 rfl ?_
    refine x_cV (as := [xV f, xV k]) (rest := []) xc199_85 rfl xi190 xz87 ⟨rfl, rfl⟩ rfl rfl ?_
    exact k1 h0
  · replace h0 := Classical.not_not.mp h0
    refine x_aloadn xc199_72 rfl ?_
    refine x_gfr xc199_73 rfl rfl xz87 rfl ?_
    refine x_iload xc199_76 rfl ?_
    refine x_ial' (v := v) xc199_78 xz115 rfl (by have g0 := hat; omega) (by have g0 := hat; omega) (by have g0 := hat; omega) hv ?_
    refine x_iconst xc199_79 ?_
    refine x_isub xc199_80 ?_
    refine x_iret xc199_81 (Or.inl rfl) ?_
    exact k2 h0

theorem w199d {ro : Nat → Nat × (Nat → Int32)} {d : Nat} {Q : Option Value → pmS → Prop} {f k at0 z : Int} {key : Int64} {a : xA} {b : xB} (hat : 0 ≤ at0 ∧ at0 ≤ 4095) (hz : z = 0 ∨ z = 1)
    (k1 : (z = 0) → pmWp ro d 12 199 1 101 [some (.ref 87), some (xV f), some (xV k), some (.long key), none, some (xV at0), none] [xV (-1)] (xS a b) Q)
    (k2 : (¬ z = 0) → pmWp ro d 12 199 1 101 [some (.ref 87), some (xV f), some (xV k), some (.long key), none, some (xV at0), none] [xV (a 111 0)] (xS a b) Q) :
    pmWp ro d 12 199 1 88 [some (.ref 87), some (xV f), some (xV k), some (.long key), none, some (xV at0), none] [xV z] (xS a b) Q := by
  refine x_ifeq xc199_88 (xRk (by have g0 := hz; omega)) (fun h0 => ?_) (fun h0 => ?_)
  · refine x_iconst xc199_100 ?_
    exact k1 h0
  · refine x_aloadn xc199_91 rfl ?_
    refine x_gfr xc199_92 rfl rfl xz87 rfl ?_
    refine x_iconst xc199_95 ?_
    refine x_ial xc199_96 xz111 rfl (by omega) (by omega) (by omega) ?_
    refine x_goto xc199_97 ?_
    exact k2 h0

theorem w199e {ro : Nat → Nat × (Nat → Int32)} {d : Nat} {Q : Option Value → pmS → Prop} {f k at0 v mm : Int} {key : Int64} {a : xA} {b : xB} (hat : 0 ≤ at0 ∧ at0 ≤ 4095) (hv0 : -1 ≤ v ∧ v ≤ 60) (hm : a 87 41 = mm) (hm0 : 0 ≤ mm ∧ mm ≤ 3000)
    (k1 : (3000 ≤ mm) → Q (some (xV v)) (xS a b))
    (k2 : (¬ 3000 ≤ mm) → Q (some (xV v)) (xS (xU (xU a 115 at0 (v + 1)) 87 41 (mm + 1)) (xU b 114 at0 key))) :
    pmWp ro d 12 199 1 101 [some (.ref 87), some (xV f), some (xV k), some (.long key), none, some (xV at0), none] [xV v] (xS a b) Q := by
  refine x_istore (pl' := [some (.ref 87), some (xV f), some (xV k), some (.long key), none, some (xV at0), some (xV v)]) xc199_101 rfl rfl ?_
  refine x_aloadn xc199_103 rfl ?_
  refine x_gfi' (k := 41) (v := mm) xc199_104 rfl (Or.inl rfl) rfl xz87 hm ?_
  refine x_sipush xc199_107 (by decide) ?_
  refine x_icge xc199_110 (xRk (by have g0 := hm0; omega)) (xRk (by decide)) (fun h0 => ?_) (fun h0 => ?_)
  · refine x_iload xc199_142 rfl ?_
    refine x_iret xc199_144 (Or.inl rfl) ?_
    exact k1 h0
  · refine x_aloadn xc199_113 rfl ?_
    refine x_gfr xc199_114 rfl rfl xz87 rfl ?_
    refine x_iload xc199_117 rfl ?_
    refine x_lloadn xc199_119 rfl ?_
    refine x_las xc199_120 xz114 (by have g0 := hat; omega) (by have g0 := hat; omega) (by have g0 := hat; omega) ?_
    refine x_aloadn xc199_121 rfl ?_
    refine x_gfr xc199_122 rfl rfl xz87 rfl ?_
    refine x_iload xc199_125 rfl ?_
    refine x_iload xc199_127 rfl ?_
    refine x_iconst xc199_129 ?_
    refine x_iadd xc199_130 ?_
    refine x_ias xc199_131 xz115 (by have g0 := hat; omega) (by have g0 := hat; omega) (by have g0 := hat; omega) ?_
    refine x_aloadn xc199_132 rfl ?_
    refine x_aloadn xc199_133 rfl ?_
    refine x_gfi' (k := 41) (v := mm) xc199_134 rfl (Or.inl rfl) rfl xz87 (by rw [xUn (by decide), hm]) ?_
    refine x_iconst xc199_137 ?_
    refine x_iadd xc199_138 ?_
    refine x_pfi (k := 41) xc199_139 rfl ⟨rfl, rfl⟩ rfl xz87 ?_
    refine x_iload xc199_142 rfl ?_
    refine x_iret xc199_144 (Or.inl rfl) ?_
    exact k2 h0

theorem w198 {ro : Nat → Nat × (Nat → Int32)} {d : Nat} {Q : Option Value → pmS → Prop} {f : Int} {a : xA} {b : xB}
    (k1 : pmCs ro d 186 [.ref 87, xV f] (xS a b) fun r σ' => pmWp ro d 12 198 0 5 [some (.ref 87), some (xV f), none, none] (r.toList ++ []) σ' Q) :
    pmWp ro d 12 198 0 0 [some (.ref 87), some (xV f), none, none] [] (xS a b) Q := by
  refine x_aloadn xc198_0 rfl ?_
  refine x_iloadn xc198_1 rfl ?_
  refine x_cV (as := [xV f]) (rest := []) xc198_2 rfl xi186 xz87 ⟨rfl, rfl⟩ rfl rfl ?_
  exact k1

theorem xg198 {ro : Nat → Nat × (Nat → Int32)} {d : Nat} {Q : Option Value → pmS → Prop} {a : xA} {b : xB} {f : Int} (h : pmWp ro d 12 198 0 0 [some (.ref 87), some (xV f), none, none] [] (xS a b) Q) : pmCs ro (d + 1) 198 [.ref 87, xV f] (xS a b) Q := x_go xi198 rfl rfl rfl rfl rfl h
theorem w198a {ro : Nat → Nat × (Nat → Int32)} {d : Nat} {Q : Option Value → pmS → Prop} {f : Int} {a : xA} {b : xB}
    (k1 : pmWp ro d 12 198 0 18 [some (.ref 87), some (xV f), some (xV 9), none] [] (xS (xU (xU a 87 42 (-1)) 87 43 (-1)) b) Q) :
    pmWp ro d 12 198 0 5 [some (.ref 87), some (xV f), none, none] [] (xS a b) Q := by
  refine x_aloadn xc198_5 rfl ?_
  refine x_iconst xc198_6 ?_
  refine x_pfi (k := 42) xc198_7 rfl ⟨rfl, rfl⟩ rfl xz87 ?_
  refine x_aloadn xc198_10 rfl ?_
  refine x_iconst xc198_11 ?_
  refine x_pfi (k := 43) xc198_12 rfl ⟨rfl, rfl⟩ rfl xz87 ?_
  refine x_bipush xc198_15 (by decide) ?_
  refine x_istoren (pl' := [some (.ref 87), some (xV f), some (xV 9), none]) xc198_17 rfl rfl ?_
  exact k1

theorem w198b {ro : Nat → Nat × (Nat → Int32)} {d : Nat} {Q : Option Value → pmS → Prop} {v3 : Option Value} {f we ww : Int} {a : xA} {b : xB} (hwe : 0 ≤ we ∧ we ≤ 9) (hww : a 87 42 = ww) (hww0 : -1 ≤ ww ∧ ww ≤ 2)
    (k1 : (we ≤ 0) → Q none (xS a b))
    (k2 : (¬ we ≤ 0) → (¬ ww = -1) → Q none (xS a b))
    (k3 : (¬ we ≤ 0) → (ww = -1) → pmWp ro d 12 198 0 32 [some (.ref 87), some (xV f), some (xV we), some (xV 0)] [] (xS a b) Q) :
    pmWp ro d 12 198 0 18 [some (.ref 87), some (xV f), some (xV we), v3] [] (xS a b) Q := by
  refine x_iloadn xc198_18 rfl ?_
  refine x_ifle xc198_19 (xRk (by have g0 := hwe; omega)) (fun h0 => ?_) (fun h0 => ?_)
  · refine x_ret xc198_116 rfl ?_
    exact k1 h0
  · refine x_aloadn xc198_22 rfl ?_
    refine x_gfi' (k := 42) (v := ww) xc198_23 rfl (Or.inl rfl) rfl xz87 hww ?_
    refine x_iconst xc198_26 ?_
    refine x_icne xc198_27 (xRk (by have g0 := hww0; omega)) (xRk (by decide)) (fun h1 => ?_) (fun h1 => ?_)
    · refine x_ret xc198_116 rfl ?_
      exact k2 h0 h1
    · replace h1 := Classical.not_not.mp h1
      refine x_iconst xc198_30 ?_
      refine x_istoren (pl' := [some (.ref 87), some (xV f), some (xV we), some (xV 0)]) xc198_31 rfl rfl ?_
      exact k3 h0 h1

theorem w198c {ro : Nat → Nat × (Nat → Int32)} {d : Nat} {Q : Option Value → pmS → Prop} {f we ww i cn : Int} {a : xA} {b : xB} (hwe : 1 ≤ we ∧ we ≤ 9) (hf : 1 ≤ f ∧ f ≤ 3) (hww : a 87 42 = ww) (hww0 : -1 ≤ ww ∧ ww ≤ 2) (hcn : a 96 f = cn) (hcn0 : 0 ≤ cn ∧ cn ≤ 3) (hi : 0 ≤ i ∧ i ≤ cn) (hA : xAr a)
    (k1 : (cn ≤ i) → pmWp ro d 12 198 0 18 [some (.ref 87), some (xV f), some (xV (we + (-1))), some (xV i)] [] (xS a b) Q)
    (k2 : (¬ cn ≤ i) → (¬ ww = -1) → pmWp ro d 12 198 0 18 [some (.ref 87), some (xV f), some (xV (we + (-1))), some (xV i)] [] (xS a b) Q)
    (k3 : (¬ cn ≤ i) → (ww = -1) → (¬ a 97 (3 * f + i) = we) → pmWp ro d 12 198 0 32 [some (.ref 87), some (xV f), some (xV we), some (xV (i + 1))] [] (xS a b) Q)
    (k4 : (¬ cn ≤ i) → (ww = -1) → (a 97 (3 * f + i) = we) → pmCs ro d 187 [.ref 87, xV 0, xV f, xV i] (xS a b) fun r σ' => pmWp ro d 12 198 0 71 [some (.ref 87), some (xV f), some (xV we), some (xV i)] (r.toList ++ []) σ' Q) :
    pmWp ro d 12 198 0 32 [some (.ref 87), some (xV f), some (xV we), some (xV i)] [] (xS a b) Q := by
  refine x_iloadn xc198_32 rfl ?_
  refine x_aloadn xc198_33 rfl ?_
  refine x_gfr xc198_34 rfl rfl xz87 rfl ?_
  refine x_iloadn xc198_37 rfl ?_
  refine x_ial' (v := cn) xc198_38 xz96 rfl (by have g0 := hf; omega) (by have g0 := hf; omega) (by have g0 := hf; omega) hcn ?_
  refine x_icge xc198_39 (xRk (by have g0 := hi; omega)) (xRk (by have g0 := hcn0; omega)) (fun h0 => ?_) (fun h0 => ?_)
  · refine x_iinc (pl' := [some (.ref 87), some (xV f), some (xV (we + (-1))), some (xV i)]) xc198_110 rfl rfl ?_
    refine x_goto xc198_113 ?_
    exact k1 h0
  · refine x_aloadn xc198_42 rfl ?_
    refine x_gfi' (k := 42) (v := ww) xc198_43 rfl (Or.inl rfl) rfl xz87 hww ?_
    refine x_iconst xc198_46 ?_
    refine x_icne xc198_47 (xRk (by have g0 := hww0; omega)) (xRk (by decide)) (fun h1 => ?_) (fun h1 => ?_)
    · refine x_iinc (pl' := [some (.ref 87), some (xV f), some (xV (we + (-1))), some (xV i)]) xc198_110 rfl rfl ?_
      refine x_goto xc198_113 ?_
      exact k2 h0 h1
    · replace h1 := Classical.not_not.mp h1
      refine x_aloadn xc198_50 rfl ?_
      refine x_gfr xc198_51 rfl rfl xz87 rfl ?_
      refine x_iconst xc198_54 ?_
      refine x_iloadn xc198_55 rfl ?_
      refine x_imul xc198_56 ?_
      refine x_iloadn xc198_57 rfl ?_
      refine x_iadd xc198_58 ?_
      refine x_ial xc198_59 xz97 rfl (by have g0 := hf; have g1 := hi; omega) (by have g0 := hf; have g1 := hi; omega) (by have g0 := hf; have g1 := hi; omega) ?_
      refine x_iloadn xc198_60 rfl ?_
      refine x_icne xc198_61 (xRk (by have g0 := hf; have g1 := hi; have g2 := xRb (hA 97 (3 * f + i)); omega)) (xRk (by have g0 := hwe; omega)) (fun h2 => ?_) (fun h2 => ?_)
      · refine x_iinc (pl' := [some (.ref 87), some (xV f), some (xV we), some (xV (i + 1))]) xc198_104 rfl rfl ?_
        refine x_goto xc198_107 ?_
        exact k3 h0 h1 h2
      · replace h2 := Classical.not_not.mp h2
        refine x_aloadn xc198_64 rfl ?_
        refine x_iconst xc198_65 ?_
        refine x_iloadn xc198_66 rfl ?_
        refine x_iloadn xc198_67 rfl ?_
        refine x_cV (as := [xV 0, xV f, xV i]) (rest := []) xc198_68 rfl xi187 xz87 ⟨rfl, rfl⟩ rfl rfl ?_
        exact k4 h0 h1 h2

theorem w198d {ro : Nat → Nat × (Nat → Int32)} {d : Nat} {Q : Option Value → pmS → Prop} {f we ww i cn z : Int} {a : xA} {b : xB} (hwe : 1 ≤ we ∧ we ≤ 9) (hf : 1 ≤ f ∧ f ≤ 3) (hww : a 87 42 = ww) (hww0 : -1 ≤ ww ∧ ww ≤ 2) (hcn : a 96 f = cn) (hcn0 : 0 ≤ cn ∧ cn ≤ 3) (hi : 0 ≤ i ∧ i ≤ cn) (hz : z = 0 ∨ z = 1)
    (k1 : (z = 0) → pmCs ro d 199 [.ref 87, xV f, xV i] (xS a b) fun r σ' => pmWp ro d 12 198 0 84 [some (.ref 87), some (xV f), some (xV we), some (xV i)] (r.toList ++ [.ref 87]) σ' Q)
    (k2 : (¬ z = 0) → pmWp ro d 12 198 0 32 [some (.ref 87), some (xV f), some (xV we), some (xV (i + 1))] [] (xS a b) Q) :
    pmWp ro d 12 198 0 71 [some (.ref 87), some (xV f), some (xV we), some (xV i)] [xV z] (xS a b) Q := by
  refine x_ifeq xc198_71 (xRk (by have g0 := hz; omega)) (fun h0 => ?_) (fun h0 => ?_)
  · refine x_aloadn xc198_77 rfl ?_
    refine x_aloadn xc198_78 rfl ?_
    refine x_iloadn xc198_79 rfl ?_
    refine x_iloadn xc198_80 rfl ?_
    refine x_cV (as := [xV f, xV i]) (rest := [.ref 87]) xc198_81 rfl xi199 xz87 ⟨rfl, rfl⟩ rfl rfl ?_
    exact k1 h0
  · refine x_goto xc198_74 ?_
    refine x_iinc (pl' := [some (.ref 87), some (xV f), some (xV we), some (xV (i + 1))]) xc198_104 rfl rfl ?_
    refine x_goto xc198_107 ?_
    exact k2 h0

theorem w198e {ro : Nat → Nat × (Nat → Int32)} {d : Nat} {Q : Option Value → pmS → Prop} {f we i v : Int} {a : xA} {b : xB} (hi : 0 ≤ i ∧ i ≤ 3) (hv : -1 ≤ v ∧ v ≤ 60)
    (k1 : (¬ v = -1) → pmWp ro d 12 198 0 32 [some (.ref 87), some (xV f), some (xV we), some (xV (i + 1))] [] (xS (xU (xU a 87 43 v) 87 42 i) b) Q)
    (k2 : (v = -1) → pmWp ro d 12 198 0 32 [some (.ref 87), some (xV f), some (xV we), some (xV (i + 1))] [] (xS (xU (xU a 87 43 v) 87 42 (-1)) b) Q) :
    pmWp ro d 12 198 0 84 [some (.ref 87), some (xV f), some (xV we), some (xV i)] [xV v, .ref 87] (xS a b) Q := by
  refine x_pfi (k := 43) xc198_84 rfl ⟨rfl, rfl⟩ rfl xz87 ?_
  refine x_aloadn xc198_87 rfl ?_
  refine x_aloadn xc198_88 rfl ?_
  refine x_gfi' (k := 43) (v := v) xc198_89 rfl (Or.inl rfl) rfl xz87 (by rw [xUa]) ?_
  refine x_iconst xc198_92 ?_
  refine x_icne xc198_93 (xRk (by have g0 := hv; omega)) (xRk (by decide)) (fun h0 => ?_) (fun h0 => ?_)
  · refine x_iloadn xc198_100 rfl ?_
    refine x_pfi (k := 42) xc198_101 rfl ⟨rfl, rfl⟩ rfl xz87 ?_
    refine x_iinc (pl' := [some (.ref 87), some (xV f), some (xV we), some (xV (i + 1))]) xc198_104 rfl rfl ?_
    refine x_goto xc198_107 ?_
    exact k1 h0
  · replace h0 := Classical.not_not.mp h0
    refine x_iconst xc198_96 ?_
    refine x_goto xc198_97 ?_
    refine x_pfi (k := 42) xc198_101 rfl ⟨rfl, rfl⟩ rfl xz87 ?_
    refine x_iinc (pl' := [some (.ref 87), some (xV f), some (xV we), some (xV (i + 1))]) xc198_104 rfl rfl ?_
    refine x_goto xc198_107 ?_
    exact k2 h0

end
