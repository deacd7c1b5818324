/-! exact: the class looks -/
section
set_option maxRecDepth 100000
theorem xi60 : pmInf[60]? = some pmI_60 := rfl
theorem xi63 : pmInf[63]? = some pmI_63 := rfl
theorem xi92 : pmInf[92]? = some pmI_92 := rfl
theorem xc59_0 : pmCode 59 0 = some (.aload_n 0) ∧ 0 + 1 = 1 := ⟨rfl, rfl⟩
theorem xc59_1 : pmCode 59 1 = some (.aload_n 1) ∧ 1 + 1 = 2 := ⟨rfl, rfl⟩
theorem xc59_2 : pmCode 59 2 = some (.invokevirtual 108) ∧ 2 + 3 = 5 := ⟨rfl, rfl⟩
theorem xc59_5 : pmCode 59 5 = some (.iconst 1) ∧ 5 + 1 = 6 := ⟨rfl, rfl⟩
theorem xc59_6 : pmCode 59 6 = some (.istore_n 2) ∧ 6 + 1 = 7 := ⟨rfl, rfl⟩
theorem xc59_7 : pmCode 59 7 = some (.iload_n 2) ∧ 7 + 1 = 8 := ⟨rfl, rfl⟩
theorem xc59_8 : pmCode 59 8 = some (.iconst 4) ∧ 8 + 1 = 9 := ⟨rfl, rfl⟩
theorem xc59_9 : pmCode 59 9 = some (.if_icmp .ge 15) ∧ ((9 : Nat) : Int) + 15 = ((24 : Nat) : Int) ∧ 9 + 3 = 12 := ⟨rfl, rfl, rfl⟩
theorem xc59_12 : pmCode 59 12 = some (.aload_n 0) ∧ 12 + 1 = 13 := ⟨rfl, rfl⟩
theorem xc59_13 : pmCode 59 13 = some (.aload_n 1) ∧ 13 + 1 = 14 := ⟨rfl, rfl⟩
theorem xc59_14 : pmCode 59 14 = some (.iload_n 2) ∧ 14 + 1 = 15 := ⟨rfl, rfl⟩
theorem xc59_15 : pmCode 59 15 = some (.invokevirtual 111) ∧ 15 + 3 = 18 := ⟨rfl, rfl⟩
theorem xc59_18 : pmCode 59 18 = some (.iinc 2 1) ∧ 18 + 3 = 21 := ⟨rfl, rfl⟩
theorem xc59_21 : pmCode 59 21 = some (.goto (-14)) ∧ ((21 : Nat) : Int) + (-14) = ((7 : Nat) : Int) := ⟨rfl, rfl⟩
theorem xc59_24 : pmCode 59 24 = some .return_ := rfl
theorem xc60_0 : pmCode 60 0 = some (.iconst 0) ∧ 0 + 1 = 1 := ⟨rfl, rfl⟩
theorem xc60_1 : pmCode 60 1 = some (.istore_n 2) ∧ 1 + 1 = 2 := ⟨rfl, rfl⟩
theorem xc60_2 : pmCode 60 2 = some (.iload_n 2) ∧ 2 + 1 = 3 := ⟨rfl, rfl⟩
theorem xc60_3 : pmCode 60 3 = some (.iconst 4) ∧ 3 + 1 = 4 := ⟨rfl, rfl⟩
theorem xc60_4 : pmCode 60 4 = some (.if_icmp .ge 141) ∧ ((4 : Nat) : Int) + 141 = ((145 : Nat) : Int) ∧ 4 + 3 = 7 := ⟨rfl, rfl, rfl⟩
theorem xc60_7 : pmCode 60 7 = some (.aload_n 1) ∧ 7 + 1 = 8 := ⟨rfl, rfl⟩
theorem xc60_8 : pmCode 60 8 = some (.getfield 47) ∧ 8 + 3 = 11 := ⟨rfl, rfl⟩
theorem xc60_11 : pmCode 60 11 = some (.iload_n 2) ∧ 11 + 1 = 12 := ⟨rfl, rfl⟩
theorem xc60_12 : pmCode 60 12 = some (.invokestatic 51) ∧ 12 + 3 = 15 := ⟨rfl, rfl⟩
theorem xc60_15 : pmCode 60 15 = some (.iconst 1) ∧ 15 + 1 = 16 := ⟨rfl, rfl⟩
theorem xc60_16 : pmCode 60 16 = some .isub ∧ 16 + 1 = 17 := ⟨rfl, rfl⟩
theorem xc60_17 : pmCode 60 17 = some (.istore_n 3) ∧ 17 + 1 = 18 := ⟨rfl, rfl⟩
theorem xc60_18 : pmCode 60 18 = some (.iconst 0) ∧ 18 + 1 = 19 := ⟨rfl, rfl⟩
theorem xc60_19 : pmCode 60 19 = some (.istore 4) ∧ 19 + 2 = 21 := ⟨rfl, rfl⟩
theorem xc60_21 : pmCode 60 21 = some (.iload 4) ∧ 21 + 2 = 23 := ⟨rfl, rfl⟩
theorem xc60_23 : pmCode 60 23 = some (.iconst 5) ∧ 23 + 1 = 24 := ⟨rfl, rfl⟩
theorem xc60_24 : pmCode 60 24 = some (.if_icmp .ge 115) ∧ ((24 : Nat) : Int) + 115 = ((139 : Nat) : Int) ∧ 24 + 3 = 27 := ⟨rfl, rfl, rfl⟩
theorem xc60_27 : pmCode 60 27 = some (.iload_n 3) ∧ 27 + 1 = 28 := ⟨rfl, rfl⟩
theorem xc60_28 : pmCode 60 28 = some (.ifCond .lt 111) ∧ ((28 : Nat) : Int) + 111 = ((139 : Nat) : Int) ∧ 28 + 3 = 31 := ⟨rfl, rfl, rfl⟩
theorem xc60_31 : pmCode 60 31 = some (.iload_n 3) ∧ 31 + 1 = 32 := ⟨rfl, rfl⟩
theorem xc60_32 : pmCode 60 32 = some (.bipush 7) ∧ 32 + 2 = 34 := ⟨rfl, rfl⟩
theorem xc60_34 : pmCode 60 34 = some (.if_icmp .ge 105) ∧ ((34 : Nat) : Int) + 105 = ((139 : Nat) : Int) ∧ 34 + 3 = 37 := ⟨rfl, rfl, rfl⟩
theorem xc60_37 : pmCode 60 37 = some (.aload_n 1) ∧ 37 + 1 = 38 := ⟨rfl, rfl⟩
theorem xc60_38 : pmCode 60 38 = some (.getfield 47) ∧ 38 + 3 = 41 := ⟨rfl, rfl⟩
theorem xc60_41 : pmCode 60 41 = some (.iconst 4) ∧ 41 + 1 = 42 := ⟨rfl, rfl⟩
theorem xc60_42 : pmCode 60 42 = some (.iload 4) ∧ 42 + 2 = 44 := ⟨rfl, rfl⟩
theorem xc60_44 : pmCode 60 44 = some .iadd ∧ 44 + 1 = 45 := ⟨rfl, rfl⟩
theorem xc60_45 : pmCode 60 45 = some (.invokestatic 51) ∧ 45 + 3 = 48 := ⟨rfl, rfl⟩
theorem xc60_48 : pmCode 60 48 = some (.bipush 13) ∧ 48 + 2 = 50 := ⟨rfl, rfl⟩
theorem xc60_50 : pmCode 60 50 = some (.if_icmp .ne 83) ∧ ((50 : Nat) : Int) + 83 = ((133 : Nat) : Int) ∧ 50 + 3 = 53 := ⟨rfl, rfl, rfl⟩
theorem xc60_53 : pmCode 60 53 = some (.aload_n 1) ∧ 53 + 1 = 54 := ⟨rfl, rfl⟩
theorem xc60_54 : pmCode 60 54 = some (.iload 4) ∧ 54 + 2 = 56 := ⟨rfl, rfl⟩
theorem xc60_56 : pmCode 60 56 = some (.invokevirtual 114) ∧ 56 + 3 = 59 := ⟨rfl, rfl⟩
theorem xc60_59 : pmCode 60 59 = some (.iload_n 3) ∧ 59 + 1 = 60 := ⟨rfl, rfl⟩
theorem xc60_60 : pmCode 60 60 = some .ishr ∧ 60 + 1 = 61 := ⟨rfl, rfl⟩
theorem xc60_61 : pmCode 60 61 = some (.iconst 1) ∧ 61 + 1 = 62 := ⟨rfl, rfl⟩
theorem xc60_62 : pmCode 60 62 = some .iand ∧ 62 + 1 = 63 := ⟨rfl, rfl⟩
theorem xc60_63 : pmCode 60 63 = some (.ifCond .eq 70) ∧ ((63 : Nat) : Int) + 70 = ((133 : Nat) : Int) ∧ 63 + 3 = 66 := ⟨rfl, rfl, rfl⟩
theorem xc60_66 : pmCode 60 66 = some (.aload_n 1) ∧ 66 + 1 = 67 := ⟨rfl, rfl⟩
theorem xc60_67 : pmCode 60 67 = some .dup ∧ 67 + 1 = 68 := ⟨rfl, rfl⟩
theorem xc60_68 : pmCode 60 68 = some (.getfield 118) ∧ 68 + 3 = 71 := ⟨rfl, rfl⟩
theorem xc60_71 : pmCode 60 71 = some (.lconst 1) ∧ 71 + 1 = 72 := ⟨rfl, rfl⟩
theorem xc60_72 : pmCode 60 72 = some (.bipush 7) ∧ 72 + 2 = 74 := ⟨rfl, rfl⟩
theorem xc60_74 : pmCode 60 74 = some (.iload 4) ∧ 74 + 2 = 76 := ⟨rfl, rfl⟩
theorem xc60_76 : pmCode 60 76 = some .imul ∧ 76 + 1 = 77 := ⟨rfl, rfl⟩
theorem xc60_77 : pmCode 60 77 = some (.iload_n 3) ∧ 77 + 1 = 78 := ⟨rfl, rfl⟩
theorem xc60_78 : pmCode 60 78 = some .iadd ∧ 78 + 1 = 79 := ⟨rfl, rfl⟩
theorem xc60_79 : pmCode 60 79 = some .lshl ∧ 79 + 1 = 80 := ⟨rfl, rfl⟩
theorem xc60_80 : pmCode 60 80 = some (.ldc2_w 121) ∧ 80 + 3 = 83 := ⟨rfl, rfl⟩
theorem xc60_83 : pmCode 60 83 = some .lxor ∧ 83 + 1 = 84 := ⟨rfl, rfl⟩
theorem xc60_84 : pmCode 60 84 = some .land ∧ 84 + 1 = 85 := ⟨rfl, rfl⟩
theorem xc60_85 : pmCode 60 85 = some (.putfield 118) ∧ 85 + 3 = 88 := ⟨rfl, rfl⟩
theorem xc60_88 : pmCode 60 88 = some (.aload_n 1) ∧ 88 + 1 = 89 := ⟨rfl, rfl⟩
theorem xc60_89 : pmCode 60 89 = some (.iload 4) ∧ 89 + 2 = 91 := ⟨rfl, rfl⟩
theorem xc60_91 : pmCode 60 91 = some (.invokevirtual 114) ∧ 91 + 3 = 94 := ⟨rfl, rfl⟩
theorem xc60_94 : pmCode 60 94 = some (.invokestatic 123) ∧ 94 + 3 = 97 := ⟨rfl, rfl⟩
theorem xc60_97 : pmCode 60 97 = some (.iconst 1) ∧ 97 + 1 = 98 := ⟨rfl, rfl⟩
theorem xc60_98 : pmCode 60 98 = some (.if_icmp .ne 35) ∧ ((98 : Nat) : Int) + 35 = ((133 : Nat) : Int) ∧ 98 + 3 = 101 := ⟨rfl, rfl, rfl⟩
theorem xc60_101 : pmCode 60 101 = some (.aload_n 1) ∧ 101 + 1 = 102 := ⟨rfl, rfl⟩
theorem xc60_102 : pmCode 60 102 = some (.iload 4) ∧ 102 + 2 = 104 := ⟨rfl, rfl⟩
theorem xc60_104 : pmCode 60 104 = some (.invokevirtual 114) ∧ 104 + 3 = 107 := ⟨rfl, rfl⟩
theorem xc60_107 : pmCode 60 107 = some (.iconst 1) ∧ 107 + 1 = 108 := ⟨rfl, rfl⟩
theorem xc60_108 : pmCode 60 108 = some .isub ∧ 108 + 1 = 109 := ⟨rfl, rfl⟩
theorem xc60_109 : pmCode 60 109 = some (.invokestatic 123) ∧ 109 + 3 = 112 := ⟨rfl, rfl⟩
theorem xc60_112 : pmCode 60 112 = some (.istore 5) ∧ 112 + 2 = 114 := ⟨rfl, rfl⟩
theorem xc60_114 : pmCode 60 114 = some (.aload_n 1) ∧ 114 + 1 = 115 := ⟨rfl, rfl⟩
theorem xc60_115 : pmCode 60 115 = some (.aload_n 1) ∧ 115 + 1 = 116 := ⟨rfl, rfl⟩
theorem xc60_116 : pmCode 60 116 = some (.getfield 47) ∧ 116 + 3 = 119 := ⟨rfl, rfl⟩
theorem xc60_119 : pmCode 60 119 = some (.iconst 4) ∧ 119 + 1 = 120 := ⟨rfl, rfl⟩
theorem xc60_120 : pmCode 60 120 = some (.iload 4) ∧ 120 + 2 = 122 := ⟨rfl, rfl⟩
theorem xc60_122 : pmCode 60 122 = some .iadd ∧ 122 + 1 = 123 := ⟨rfl, rfl⟩
theorem xc60_123 : pmCode 60 123 = some (.iload 5) ∧ 123 + 2 = 125 := ⟨rfl, rfl⟩
theorem xc60_125 : pmCode 60 125 = some (.iconst 1) ∧ 125 + 1 = 126 := ⟨rfl, rfl⟩
theorem xc60_126 : pmCode 60 126 = some .iadd ∧ 126 + 1 = 127 := ⟨rfl, rfl⟩
theorem xc60_127 : pmCode 60 127 = some (.invokestatic 84) ∧ 127 + 3 = 130 := ⟨rfl, rfl⟩
theorem xc60_130 : pmCode 60 130 = some (.putfield 47) ∧ 130 + 3 = 133 := ⟨rfl, rfl⟩
theorem xc60_133 : pmCode 60 133 = some (.iinc 4 1) ∧ 133 + 3 = 136 := ⟨rfl, rfl⟩
theorem xc60_136 : pmCode 60 136 = some (.goto (-115)) ∧ ((136 : Nat) : Int) + (-115) = ((21 : Nat) : Int) := ⟨rfl, rfl⟩
theorem xc60_139 : pmCode 60 139 = some (.iinc 2 1) ∧ 139 + 3 = 142 := ⟨rfl, rfl⟩
theorem xc60_142 : pmCode 60 142 = some (.goto (-140)) ∧ ((142 : Nat) : Int) + (-140) = ((2 : Nat) : Int) := ⟨rfl, rfl⟩
theorem xc60_145 : pmCode 60 145 = some .return_ := rfl
theorem xc63_0 : pmCode 63 0 = some (.aload_n 1) ∧ 0 + 1 = 1 := ⟨rfl, rfl⟩
theorem xc63_1 : pmCode 63 1 = some (.getfield 47) ∧ 1 + 3 = 4 := ⟨rfl, rfl⟩
theorem xc63_4 : pmCode 63 4 = some (.iload_n 2) ∧ 4 + 1 = 5 := ⟨rfl, rfl⟩
theorem xc63_5 : pmCode 63 5 = some (.invokestatic 51) ∧ 5 + 3 = 8 := ⟨rfl, rfl⟩
theorem xc63_8 : pmCode 63 8 = some (.istore_n 3) ∧ 8 + 1 = 9 := ⟨rfl, rfl⟩
theorem xc63_9 : pmCode 63 9 = some (.iload_n 3) ∧ 9 + 1 = 10 := ⟨rfl, rfl⟩
theorem xc63_10 : pmCode 63 10 = some (.bipush 8) ∧ 10 + 2 = 12 := ⟨rfl, rfl⟩
theorem xc63_12 : pmCode 63 12 = some (.if_icmp .ne 4) ∧ ((12 : Nat) : Int) + 4 = ((16 : Nat) : Int) ∧ 12 + 3 = 15 := ⟨rfl, rfl, rfl⟩
theorem xc63_15 : pmCode 63 15 = some .return_ := rfl
theorem xc63_16 : pmCode 63 16 = some (.aload_n 1) ∧ 16 + 1 = 17 := ⟨rfl, rfl⟩
theorem xc63_17 : pmCode 63 17 = some (.getfield 59) ∧ 17 + 3 = 20 := ⟨rfl, rfl⟩
theorem xc63_20 : pmCode 63 20 = some (.iload_n 2) ∧ 20 + 1 = 21 := ⟨rfl, rfl⟩
theorem xc63_21 : pmCode 63 21 = some .laload ∧ 21 + 1 = 22 := ⟨rfl, rfl⟩
theorem xc63_22 : pmCode 63 22 = some (.lstore 4) ∧ 22 + 2 = 24 := ⟨rfl, rfl⟩
theorem xc63_24 : pmCode 63 24 = some (.iconst 0) ∧ 24 + 1 = 25 := ⟨rfl, rfl⟩
theorem xc63_25 : pmCode 63 25 = some (.istore 6) ∧ 25 + 2 = 27 := ⟨rfl, rfl⟩
theorem xc63_27 : pmCode 63 27 = some (.iload 6) ∧ 27 + 2 = 29 := ⟨rfl, rfl⟩
theorem xc63_29 : pmCode 63 29 = some (.bipush 9) ∧ 29 + 2 = 31 := ⟨rfl, rfl⟩
theorem xc63_31 : pmCode 63 31 = some (.if_icmp .ge 121) ∧ ((31 : Nat) : Int) + 121 = ((152 : Nat) : Int) ∧ 31 + 3 = 34 := ⟨rfl, rfl, rfl⟩
theorem xc63_34 : pmCode 63 34 = some (.aload_n 1) ∧ 34 + 1 = 35 := ⟨rfl, rfl⟩
theorem xc63_35 : pmCode 63 35 = some (.getfield 47) ∧ 35 + 3 = 38 := ⟨rfl, rfl⟩
theorem xc63_38 : pmCode 63 38 = some (.iload 6) ∧ 38 + 2 = 40 := ⟨rfl, rfl⟩
theorem xc63_40 : pmCode 63 40 = some (.invokestatic 51) ∧ 40 + 3 = 43 := ⟨rfl, rfl⟩
theorem xc63_43 : pmCode 63 43 = some (.istore 7) ∧ 43 + 2 = 45 := ⟨rfl, rfl⟩
theorem xc63_45 : pmCode 63 45 = some (.lload 4) ∧ 45 + 2 = 47 := ⟨rfl, rfl⟩
theorem xc63_47 : pmCode 63 47 = some (.iload 6) ∧ 47 + 2 = 49 := ⟨rfl, rfl⟩
theorem xc63_49 : pmCode 63 49 = some (.invokestatic 51) ∧ 49 + 3 = 52 := ⟨rfl, rfl⟩
theorem xc63_52 : pmCode 63 52 = some (.istore 8) ∧ 52 + 2 = 54 := ⟨rfl, rfl⟩
theorem xc63_54 : pmCode 63 54 = some (.iload 7) ∧ 54 + 2 = 56 := ⟨rfl, rfl⟩
theorem xc63_56 : pmCode 63 56 = some (.iload_n 3) ∧ 56 + 1 = 57 := ⟨rfl, rfl⟩
theorem xc63_57 : pmCode 63 57 = some (.if_icmp .eq 19) ∧ ((57 : Nat) : Int) + 19 = ((76 : Nat) : Int) ∧ 57 + 3 = 60 := ⟨rfl, rfl, rfl⟩
theorem xc63_60 : pmCode 63 60 = some (.iload 6) ∧ 60 + 2 = 62 := ⟨rfl, rfl⟩
theorem xc63_62 : pmCode 63 62 = some (.iconst 4) ∧ 62 + 1 = 63 := ⟨rfl, rfl⟩
theorem xc63_63 : pmCode 63 63 = some (.if_icmp .lt 17) ∧ ((63 : Nat) : Int) + 17 = ((80 : Nat) : Int) ∧ 63 + 3 = 66 := ⟨rfl, rfl, rfl⟩
theorem xc63_66 : pmCode 63 66 = some (.aload_n 1) ∧ 66 + 1 = 67 := ⟨rfl, rfl⟩
theorem xc63_67 : pmCode 63 67 = some (.iload 7) ∧ 67 + 2 = 69 := ⟨rfl, rfl⟩
theorem xc63_69 : pmCode 63 69 = some (.iload_n 3) ∧ 69 + 1 = 70 := ⟨rfl, rfl⟩
theorem xc63_70 : pmCode 63 70 = some (.invokestatic 128) ∧ 70 + 3 = 73 := ⟨rfl, rfl⟩
theorem xc63_73 : pmCode 63 73 = some (.ifCond .eq 7) ∧ ((73 : Nat) : Int) + 7 = ((80 : Nat) : Int) ∧ 73 + 3 = 76 := ⟨rfl, rfl, rfl⟩
theorem xc63_76 : pmCode 63 76 = some (.iconst 1) ∧ 76 + 1 = 77 := ⟨rfl, rfl⟩
theorem xc63_77 : pmCode 63 77 = some (.goto 4) ∧ ((77 : Nat) : Int) + 4 = ((81 : Nat) : Int) := ⟨rfl, rfl⟩
theorem xc63_80 : pmCode 63 80 = some (.iconst 0) ∧ 80 + 1 = 81 := ⟨rfl, rfl⟩
theorem xc63_81 : pmCode 63 81 = some (.istore 9) ∧ 81 + 2 = 83 := ⟨rfl, rfl⟩
theorem xc63_83 : pmCode 63 83 = some (.iload 8) ∧ 83 + 2 = 85 := ⟨rfl, rfl⟩
theorem xc63_85 : pmCode 63 85 = some (.iload_n 3) ∧ 85 + 1 = 86 := ⟨rfl, rfl⟩
theorem xc63_86 : pmCode 63 86 = some (.if_icmp .eq 19) ∧ ((86 : Nat) : Int) + 19 = ((105 : Nat) : Int) ∧ 86 + 3 = 89 := ⟨rfl, rfl, rfl⟩
theorem xc63_89 : pmCode 63 89 = some (.iload 6) ∧ 89 + 2 = 91 := ⟨rfl, rfl⟩
theorem xc63_91 : pmCode 63 91 = some (.iconst 4) ∧ 91 + 1 = 92 := ⟨rfl, rfl⟩
theorem xc63_92 : pmCode 63 92 = some (.if_icmp .lt 17) ∧ ((92 : Nat) : Int) + 17 = ((109 : Nat) : Int) ∧ 92 + 3 = 95 := ⟨rfl, rfl, rfl⟩
theorem xc63_95 : pmCode 63 95 = some (.aload_n 1) ∧ 95 + 1 = 96 := ⟨rfl, rfl⟩
theorem xc63_96 : pmCode 63 96 = some (.iload 8) ∧ 96 + 2 = 98 := ⟨rfl, rfl⟩
theorem xc63_98 : pmCode 63 98 = some (.iload_n 3) ∧ 98 + 1 = 99 := ⟨rfl, rfl⟩
theorem xc63_99 : pmCode 63 99 = some (.invokestatic 128) ∧ 99 + 3 = 102 := ⟨rfl, rfl⟩
theorem xc63_102 : pmCode 63 102 = some (.ifCond .eq 7) ∧ ((102 : Nat) : Int) + 7 = ((109 : Nat) : Int) ∧ 102 + 3 = 105 := ⟨rfl, rfl, rfl⟩
theorem xc63_105 : pmCode 63 105 = some (.iconst 1) ∧ 105 + 1 = 106 := ⟨rfl, rfl⟩
theorem xc63_106 : pmCode 63 106 = some (.goto 4) ∧ ((106 : Nat) : Int) + 4 = ((110 : Nat) : Int) := ⟨rfl, rfl⟩
theorem xc63_109 : pmCode 63 109 = some (.iconst 0) ∧ 109 + 1 = 110 := ⟨rfl, rfl⟩
theorem xc63_110 : pmCode 63 110 = some (.istore 10) ∧ 110 + 2 = 112 := ⟨rfl, rfl⟩
theorem xc63_112 : pmCode 63 112 = some (.iload 9) ∧ 112 + 2 = 114 := ⟨rfl, rfl⟩
theorem xc63_114 : pmCode 63 114 = some (.ifCond .eq 17) ∧ ((114 : Nat) : Int) + 17 = ((131 : Nat) : Int) ∧ 114 + 3 = 117 := ⟨rfl, rfl, rfl⟩
theorem xc63_117 : pmCode 63 117 = some (.lload 4) ∧ 117 + 2 = 119 := ⟨rfl, rfl⟩
theorem xc63_119 : pmCode 63 119 = some (.iload 6) ∧ 119 + 2 = 121 := ⟨rfl, rfl⟩
theorem xc63_121 : pmCode 63 121 = some (.iload 7) ∧ 121 + 2 = 123 := ⟨rfl, rfl⟩
theorem xc63_123 : pmCode 63 123 = some (.invokestatic 84) ∧ 123 + 3 = 126 := ⟨rfl, rfl⟩
theorem xc63_126 : pmCode 63 126 = some (.lstore 4) ∧ 126 + 2 = 128 := ⟨rfl, rfl⟩
theorem xc63_128 : pmCode 63 128 = some (.goto 18) ∧ ((128 : Nat) : Int) + 18 = ((146 : Nat) : Int) := ⟨rfl, rfl⟩
theorem xc63_131 : pmCode 63 131 = some (.iload 10) ∧ 131 + 2 = 133 := ⟨rfl, rfl⟩
theorem xc63_133 : pmCode 63 133 = some (.ifCond .eq 13) ∧ ((133 : Nat) : Int) + 13 = ((146 : Nat) : Int) ∧ 133 + 3 = 136 := ⟨rfl, rfl, rfl⟩
theorem xc63_136 : pmCode 63 136 = some (.lload 4) ∧ 136 + 2 = 138 := ⟨rfl, rfl⟩
theorem xc63_138 : pmCode 63 138 = some (.iload 6) ∧ 138 + 2 = 140 := ⟨rfl, rfl⟩
theorem xc63_140 : pmCode 63 140 = some (.iconst 0) ∧ 140 + 1 = 141 := ⟨rfl, rfl⟩
theorem xc63_141 : pmCode 63 141 = some (.invokestatic 84) ∧ 141 + 3 = 144 := ⟨rfl, rfl⟩
theorem xc63_144 : pmCode 63 144 = some (.lstore 4) ∧ 144 + 2 = 146 := ⟨rfl, rfl⟩
theorem xc63_146 : pmCode 63 146 = some (.iinc 6 1) ∧ 146 + 3 = 149 := ⟨rfl, rfl⟩
theorem xc63_149 : pmCode 63 149 = some (.goto (-122)) ∧ ((149 : Nat) : Int) + (-122) = ((27 : Nat) : Int) := ⟨rfl, rfl⟩
theorem xc63_152 : pmCode 63 152 = some (.aload_n 1) ∧ 152 + 1 = 153 := ⟨rfl, rfl⟩
theorem xc63_153 : pmCode 63 153 = some (.getfield 59) ∧ 153 + 3 = 156 := ⟨rfl, rfl⟩
theorem xc63_156 : pmCode 63 156 = some (.iload_n 2) ∧ 156 + 1 = 157 := ⟨rfl, rfl⟩
theorem xc63_157 : pmCode 63 157 = some (.lload 4) ∧ 157 + 2 = 159 := ⟨rfl, rfl⟩
theorem xc63_159 : pmCode 63 159 = some .lastore ∧ 159 + 1 = 160 := ⟨rfl, rfl⟩
theorem xc63_160 : pmCode 63 160 = some .return_ := rfl
theorem xc92_0 : pmCode 92 0 = some (.iload_n 2) ∧ 0 + 1 = 1 := ⟨rfl, rfl⟩
theorem xc92_1 : pmCode 92 1 = some (.invokestatic 104) ∧ 1 + 3 = 4 := ⟨rfl, rfl⟩
theorem xc92_4 : pmCode 92 4 = some (.ifCond .eq 43) ∧ ((4 : Nat) : Int) + 43 = ((47 : Nat) : Int) ∧ 4 + 3 = 7 := ⟨rfl, rfl, rfl⟩
theorem xc92_7 : pmCode 92 7 = some (.aload_n 0) ∧ 7 + 1 = 8 := ⟨rfl, rfl⟩
theorem xc92_8 : pmCode 92 8 = some (.getfield 47) ∧ 8 + 3 = 11 := ⟨rfl, rfl⟩
theorem xc92_11 : pmCode 92 11 = some (.iconst 4) ∧ 11 + 1 = 12 := ⟨rfl, rfl⟩
theorem xc92_12 : pmCode 92 12 = some (.iload_n 1) ∧ 12 + 1 = 13 := ⟨rfl, rfl⟩
theorem xc92_13 : pmCode 92 13 = some .iadd ∧ 13 + 1 = 14 := ⟨rfl, rfl⟩
theorem xc92_14 : pmCode 92 14 = some (.invokestatic 51) ∧ 14 + 3 = 17 := ⟨rfl, rfl⟩
theorem xc92_17 : pmCode 92 17 = some (.istore_n 3) ∧ 17 + 1 = 18 := ⟨rfl, rfl⟩
theorem xc92_18 : pmCode 92 18 = some (.aload_n 0) ∧ 18 + 1 = 19 := ⟨rfl, rfl⟩
theorem xc92_19 : pmCode 92 19 = some (.getfield 59) ∧ 19 + 3 = 22 := ⟨rfl, rfl⟩
theorem xc92_22 : pmCode 92 22 = some (.iload_n 2) ∧ 22 + 1 = 23 := ⟨rfl, rfl⟩
theorem xc92_23 : pmCode 92 23 = some (.aload_n 0) ∧ 23 + 1 = 24 := ⟨rfl, rfl⟩
theorem xc92_24 : pmCode 92 24 = some (.getfield 59) ∧ 24 + 3 = 27 := ⟨rfl, rfl⟩
theorem xc92_27 : pmCode 92 27 = some (.iload_n 2) ∧ 27 + 1 = 28 := ⟨rfl, rfl⟩
theorem xc92_28 : pmCode 92 28 = some .laload ∧ 28 + 1 = 29 := ⟨rfl, rfl⟩
theorem xc92_29 : pmCode 92 29 = some (.iconst 4) ∧ 29 + 1 = 30 := ⟨rfl, rfl⟩
theorem xc92_30 : pmCode 92 30 = some (.iload_n 1) ∧ 30 + 1 = 31 := ⟨rfl, rfl⟩
theorem xc92_31 : pmCode 92 31 = some .iadd ∧ 31 + 1 = 32 := ⟨rfl, rfl⟩
theorem xc92_32 : pmCode 92 32 = some (.iload_n 3) ∧ 32 + 1 = 33 := ⟨rfl, rfl⟩
theorem xc92_33 : pmCode 92 33 = some (.bipush 13) ∧ 33 + 2 = 35 := ⟨rfl, rfl⟩
theorem xc92_35 : pmCode 92 35 = some (.if_icmp .ne 7) ∧ ((35 : Nat) : Int) + 7 = ((42 : Nat) : Int) ∧ 35 + 3 = 38 := ⟨rfl, rfl, rfl⟩
theorem xc92_38 : pmCode 92 38 = some (.iconst 0) ∧ 38 + 1 = 39 := ⟨rfl, rfl⟩
theorem xc92_39 : pmCode 92 39 = some (.goto 4) ∧ ((39 : Nat) : Int) + 4 = ((43 : Nat) : Int) := ⟨rfl, rfl⟩
theorem xc92_42 : pmCode 92 42 = some (.iload_n 3) ∧ 42 + 1 = 43 := ⟨rfl, rfl⟩
theorem xc92_43 : pmCode 92 43 = some (.invokestatic 84) ∧ 43 + 3 = 46 := ⟨rfl, rfl⟩
theorem xc92_46 : pmCode 92 46 = some .lastore ∧ 46 + 1 = 47 := ⟨rfl, rfl⟩
theorem xc92_47 : pmCode 92 47 = some .return_ := rfl
theorem w60 {ro : Nat → Nat × (Nat → Int32)} {d : Nat} {Q : Option Value → pmS → Prop} {w : Nat} {a : xA} {b : xB} (hz : uWz w) (hd : 1 ≤ d)
    (k1 : pmWp ro d 4 60 0 2 [some (.ref 43), some (.ref w), some (xV 0), none, none, none] [] (xS a b) Q) :
    pmWp ro d 4 60 0 0 [some (.ref 43), some (.ref w), none, none, none, none] [] (xS a b) Q := by
  refine x_iconst xc60_0 ?_
  refine x_istoren (pl' := [some (.ref 43), some (.ref w), some (xV 0), none, none, none]) xc60_1 rfl rfl ?_
  exact k1

theorem xg60 {ro : Nat → Nat × (Nat → Int32)} {d : Nat} {Q : Option Value → pmS → Prop} {a : xA} {b : xB} {w : Nat} (h : pmWp ro d 4 60 0 0 [some (.ref 43), some (.ref w), none, none, none, none] [] (xS a b) Q) : pmCs ro (d + 1) 60 [.ref 43, .ref w] (xS a b) Q := x_go xi60 rfl rfl rfl rfl rfl h
theorem w60p {ro : Nat → Nat × (Nat → Int32)} {d : Nat} {Q : Option Value → pmS → Prop} {v3 : Option Value} {v4 : Option Value} {v5 : Option Value} {p : Int} {w : Nat} {a : xA} {b : xB} (hz : uWz w) (hd : 1 ≤ d) (hp : 0 ≤ p ∧ p ≤ 4)
    (k1 : (4 ≤ p) → Q none (xS a b))
    (k2 : (¬ 4 ≤ p) → pmWp ro d 4 60 0 21 [some (.ref 43), some (.ref w), some (xV p), some (xV (uSl (b w 4) p - 1)), some (xV 0), v5] [] (xS a b) Q) :
    pmWp ro d 4 60 0 2 [some (.ref 43), some (.ref w), some (xV p), v3, v4, v5] [] (xS a b) Q := by
  refine x_iloadn xc60_2 rfl ?_
  refine x_iconst xc60_3 ?_
  refine x_icge xc60_4 (xRk (by have g0 := hp; omega)) (xRk (by decide)) (fun h0 => ?_) (fun h0 => ?_)
  · refine x_ret xc60_145 rfl ?_
    exact k1 h0
  · refine x_aloadn xc60_7 rfl ?_
    refine x_gfl (k := 4) xc60_8 rfl rfl rfl hz.1 ?_
    refine x_iloadn xc60_11 rfl ?_
    refine x_cS (as := [.long (b w 4), xV p]) (rest := []) xc60_12 rfl rfl xi61 ⟨rfl, rfl⟩ rfl rfl ?_
    refine rk61 (by omega) (by have g0 := hp; omega) ?_
    refine x_iconst xc60_15 ?_
    refine x_isub xc60_16 ?_
    refine x_istoren (pl' := [some (.ref 43), some (.ref w), some (xV p), some (xV (uSl (b w 4) p - 1)), v4, v5]) xc60_17 rfl rfl ?_
    refine x_iconst xc60_18 ?_
    refine x_istore (pl' := [some (.ref 43), some (.ref w), some (xV p), some (xV (uSl (b w 4) p - 1)), some (xV 0), v5]) xc60_19 rfl rfl ?_
    exact k2 h0

theorem w60x {ro : Nat → Nat × (Nat → Int32)} {d : Nat} {Q : Option Value → pmS → Prop} {v5 : Option Value} {p rm x : Int} {w : Nat} {a : xA} {b : xB} (hz : uWz w) (hd : 1 ≤ d) (hp : 0 ≤ p ∧ p ≤ 3) (hrm : -1 ≤ rm ∧ rm ≤ 14) (hx : 0 ≤ x ∧ x ≤ 5)
    (k1 : (5 ≤ x) → pmWp ro d 4 60 0 139 [some (.ref 43), some (.ref w), some (xV p), some (xV rm), some (xV x), v5] [] (xS a b) Q)
    (k2 : (¬ 5 ≤ x) → (rm < 0) → pmWp ro d 4 60 0 139 [some (.ref 43), some (.ref w), some (xV p), some (xV rm), some (xV x), v5] [] (xS a b) Q)
    (k3 : (¬ 5 ≤ x) → (¬ rm < 0) → (7 ≤ rm) → pmWp ro d 4 60 0 139 [some (.ref 43), some (.ref w), some (xV p), some (xV rm), some (xV x), v5] [] (xS a b) Q)
    (k4 : (¬ 5 ≤ x) → (¬ rm < 0) → (¬ 7 ≤ rm) → (¬ uSl (b w 4) (4 + x) = 13) → pmWp ro d 4 60 0 133 [some (.ref 43), some (.ref w), some (xV p), some (xV rm), some (xV x), v5] [] (xS a b) Q)
    (k5 : (¬ 5 ≤ x) → (¬ rm < 0) → (¬ 7 ≤ rm) → (uSl (b w 4) (4 + x) = 13) → (((uSt (b w 5) x) / ((2 ^ rm.toNat : Nat) : Int)) % 2 = 0) → pmWp ro d 4 60 0 133 [some (.ref 43), some (.ref w), some (xV p), some (xV rm), some (xV x), v5] [] (xS a b) Q)
    (k6 : (¬ 5 ≤ x) → (¬ rm < 0) → (¬ 7 ≤ rm) → (uSl (b w 4) (4 + x) = 13) → (¬ ((uSt (b w 5) x) / ((2 ^ rm.toNat : Nat) : Int)) % 2 = 0) → pmWp ro d 4 60 0 88 [some (.ref 43), some (.ref w), some (xV p), some (xV rm), some (xV x), v5] [] (xS a (xU b w 5 ((b w 5) &&& ((xShL (1 : Int64) (7 * x + rm)) ^^^ (-1 : Int64))))) Q) :
    pmWp ro d 4 60 0 21 [some (.ref 43), some (.ref w), some (xV p), some (xV rm), some (xV x), v5] [] (xS a b) Q := by
  refine x_iload xc60_21 rfl ?_
  refine x_iconst xc60_23 ?_
  refine x_icge xc60_24 (xRk (by have g0 := hx; omega)) (xRk (by decide)) (fun h0 => ?_) (fun h0 => ?_)
  · exact k1 h0
  · refine x_iloadn xc60_27 rfl ?_
    refine x_iflt xc60_28 (xRk (by have g0 := hrm; omega)) (fun h1 => ?_) (fun h1 => ?_)
    · exact k2 h0 h1
    · refine x_iloadn xc60_31 rfl ?_
      refine x_bipush xc60_32 (by decide) ?_
      refine x_icge xc60_34 (xRk (by have g0 := hrm; omega)) (xRk (by decide)) (fun h2 => ?_) (fun h2 => ?_)
      · exact k3 h0 h1 h2
      · refine x_aloadn xc60_37 rfl ?_
        refine x_gfl (k := 4) xc60_38 rfl rfl rfl hz.1 ?_
        refine x_iconst xc60_41 ?_
        refine x_iload xc60_42 rfl ?_
        refine x_iadd xc60_44 ?_
        refine x_cS (as := [.long (b w 4), xV (4 + x)]) (rest := []) xc60_45 rfl rfl xi61 ⟨rfl, rfl⟩ rfl rfl ?_
        refine rk61 (by omega) (by have g0 := hx; omega) ?_
        refine x_bipush xc60_48 (by decide) ?_
        refine x_icne xc60_50 (xRk (by have g0 := uSl_b (l := b w 4) (j := 4 + x) (by have g0 := hx; omega) (by have g0 := hx; omega); omega)) (xRk (by decide)) (fun h3 => ?_) (fun h3 => ?_)
        · exact k4 h0 h1 h2 h3
        · replace h3 := Classical.not_not.mp h3
          refine x_aloadn xc60_53 rfl ?_
          refine x_iload xc60_54 rfl ?_
          refine x_cV (as := [xV x]) (rest := []) xc60_56 rfl xi62 hz.1 ⟨rfl, rfl⟩ rfl rfl ?_
          refine rk62 (by omega) hz (by have g0 := hx; omega) ?_
          refine x_iloadn xc60_59 rfl ?_
          refine x_ishr (M := ((2 ^ rm.toNat : Nat) : Int)) (by have g0 := hrm; omega) (by have g0 := hrm; omega) rfl (xRk (by have g0 := uSt_b (l := b w 5) (x := x); omega)) xc60_60 ?_
          refine x_iconst xc60_61 ?_
          refine x_iandm (M := 2) 1 (by decide) (by decide) (by decide) xc60_62 ?_
          refine x_ifeq xc60_63 (xRk (by have g0 := uSt_b (l := b w 5) (x := x); have g1 := hrm; omega)) (fun h4 => ?_) (fun h4 => ?_)
          · exact k5 h0 h1 h2 h3 h4
          · refine x_aloadn xc60_66 rfl ?_
            refine x_dup xc60_67 rfl ?_
            refine x_gfl (k := 5) xc60_68 rfl rfl rfl hz.1 ?_
            refine x_lconst (l := 1) xc60_71 rfl ?_
            refine x_bipush xc60_72 (by decide) ?_
            refine x_iload xc60_74 rfl ?_
            refine x_imul xc60_76 ?_
            refine x_iloadn xc60_77 rfl ?_
            refine x_iadd xc60_78 ?_
            refine x_lshl xc60_79 ?_
            refine x_ldc2 (l := (-1)) xc60_80 rfl ?_
            refine x_lxor xc60_83 ?_
            refine x_land xc60_84 ?_
            refine x_pfl (k := 5) xc60_85 rfl ⟨rfl, rfl⟩ rfl hz.1 ?_
            exact k6 h0 h1 h2 h3 h4

theorem w60y {ro : Nat → Nat × (Nat → Int32)} {d : Nat} {Q : Option Value → pmS → Prop} {v5 : Option Value} {p rm x : Int} {w : Nat} {a : xA} {b : xB} (hz : uWz w) (hd : 1 ≤ d) (hx : 0 ≤ x ∧ x ≤ 4)
    (k1 : (¬ uBs (uSt (b w 5) x) = 1) → pmWp ro d 4 60 0 133 [some (.ref 43), some (.ref w), some (xV p), some (xV rm), some (xV x), v5] [] (xS a b) Q)
    (k2 : (uBs (uSt (b w 5) x) = 1) → pmWp ro d 4 60 0 101 [some (.ref 43), some (.ref w), some (xV p), some (xV rm), some (xV x), v5] [] (xS a b) Q) :
    pmWp ro d 4 60 0 88 [some (.ref 43), some (.ref w), some (xV p), some (xV rm), some (xV x), v5] [] (xS a b) Q := by
  refine x_aloadn xc60_88 rfl ?_
  refine x_iload xc60_89 rfl ?_
  refine x_cV (as := [xV x]) (rest := []) xc60_91 rfl xi62 hz.1 ⟨rfl, rfl⟩ rfl rfl ?_
  refine rk62 (by omega) hz (by have g0 := hx; omega) ?_
  refine x_cS (as := [xV (uSt (b w 5) x)]) (rest := []) xc60_94 rfl rfl xi24 ⟨rfl, rfl⟩ rfl rfl ?_
  refine rk24 (by omega) (by have g0 := uSt_b (l := b w 5) (x := x); omega) ?_
  refine x_iconst xc60_97 ?_
  refine x_icne xc60_98 (xRk (by have g0 := uBs_b (by have g0 := uSt_b (l := b w 5) (x := x); omega); omega)) (xRk (by decide)) (fun h0 => ?_) (fun h0 => ?_)
  · exact k1 h0
  · replace h0 := Classical.not_not.mp h0
    exact k2 h0

theorem w60u {ro : Nat → Nat × (Nat → Int32)} {d : Nat} {Q : Option Value → pmS → Prop} {v5 : Option Value} {p rm x : Int} {w : Nat} {a : xA} {b : xB} (hz : uWz w) (hd : 1 ≤ d) (hx : 0 ≤ x ∧ x ≤ 4) (h1 : 1 ≤ uSt (b w 5) x)
    (k1 : pmWp ro d 4 60 0 112 [some (.ref 43), some (.ref w), some (xV p), some (xV rm), some (xV x), v5] [xV (uBs (uSt (b w 5) x - 1))] (xS a b) Q) :
    pmWp ro d 4 60 0 101 [some (.ref 43), some (.ref w), some (xV p), some (xV rm), some (xV x), v5] [] (xS a b) Q := by
  refine x_aloadn xc60_101 rfl ?_
  refine x_iload xc60_102 rfl ?_
  refine x_cV (as := [xV x]) (rest := []) xc60_104 rfl xi62 hz.1 ⟨rfl, rfl⟩ rfl rfl ?_
  refine rk62 (by omega) hz (by have g0 := hx; omega) ?_
  refine x_iconst xc60_107 ?_
  refine x_isub xc60_108 ?_
  refine x_cS (as := [xV (uSt (b w 5) x - 1)]) (rest := []) xc60_109 rfl rfl xi24 ⟨rfl, rfl⟩ rfl rfl ?_
  refine rk24 (by omega) (by have g0 := uSt_b (l := b w 5) (x := x); omega) ?_
  exact k1

theorem w60z {ro : Nat → Nat × (Nat → Int32)} {d : Nat} {Q : Option Value → pmS → Prop} {v5 : Option Value} {p rm x lo : Int} {w : Nat} {a : xA} {b : xB} (hz : uWz w) (hd : 1 ≤ d) (hx : 0 ≤ x ∧ x ≤ 4) (hlo : 0 ≤ lo ∧ lo ≤ 6)
    (k1 : pmWp ro d 4 60 0 133 [some (.ref 43), some (.ref w), some (xV p), some (xV rm), some (xV x), some (xV lo)] [] (xS a (xU b w 4 (xWith (b w 4) (4 + x) (lo + 1)))) Q) :
    pmWp ro d 4 60 0 112 [some (.ref 43), some (.ref w), some (xV p), some (xV rm), some (xV x), v5] [xV lo] (xS a b) Q := by
  refine x_istore (pl' := [some (.ref 43), some (.ref w), some (xV p), some (xV rm), some (xV x), some (xV lo)]) xc60_112 rfl rfl ?_
  refine x_aloadn xc60_114 rfl ?_
  refine x_aloadn xc60_115 rfl ?_
  refine x_gfl (k := 4) xc60_116 rfl rfl rfl hz.1 ?_
  refine x_iconst xc60_119 ?_
  refine x_iload xc60_120 rfl ?_
  refine x_iadd xc60_122 ?_
  refine x_iload xc60_123 rfl ?_
  refine x_iconst xc60_125 ?_
  refine x_iadd xc60_126 ?_
  refine x_cS (as := [.long (b w 4), xV (4 + x), xV (lo + 1)]) (rest := [.ref w]) xc60_127 rfl rfl xi19 ⟨rfl, rfl⟩ rfl rfl ?_
  refine xk19 (by omega) (xRk (by have g0 := hx; omega)) (xRk (by have g0 := hlo; omega)) ?_
  refine x_pfl (k := 4) xc60_130 rfl ⟨rfl, rfl⟩ rfl hz.1 ?_
  exact k1

theorem w60n {ro : Nat → Nat × (Nat → Int32)} {d : Nat} {Q : Option Value → pmS → Prop} {v5 : Option Value} {p rm x : Int} {w : Nat} {a : xA} {b : xB} (hz : uWz w) (hd : 1 ≤ d) (hx : 0 ≤ x ∧ x ≤ 4)
    (k1 : pmWp ro d 4 60 0 21 [some (.ref 43), some (.ref w), some (xV p), some (xV rm), some (xV (x + 1)), v5] [] (xS a b) Q) :
    pmWp ro d 4 60 0 133 [some (.ref 43), some (.ref w), some (xV p), some (xV rm), some (xV x), v5] [] (xS a b) Q := by
  refine x_iinc (pl' := [some (.ref 43), some (.ref w), some (xV p), some (xV rm), some (xV (x + 1)), v5]) xc60_133 rfl rfl ?_
  refine x_goto xc60_136 ?_
  exact k1

theorem w60m {ro : Nat → Nat × (Nat → Int32)} {d : Nat} {Q : Option Value → pmS → Prop} {v3 : Option Value} {v4 : Option Value} {v5 : Option Value} {p : Int} {w : Nat} {a : xA} {b : xB} (hp : 0 ≤ p ∧ p ≤ 3)
    (k1 : pmWp ro d 4 60 0 2 [some (.ref 43), some (.ref w), some (xV (p + 1)), v3, v4, v5] [] (xS a b) Q) :
    pmWp ro d 4 60 0 139 [some (.ref 43), some (.ref w), some (xV p), v3, v4, v5] [] (xS a b) Q := by
  refine x_iinc (pl' := [some (.ref 43), some (.ref w), some (xV (p + 1)), v3, v4, v5]) xc60_139 rfl rfl ?_
  refine x_goto xc60_142 ?_
  exact k1

theorem w63 {ro : Nat → Nat × (Nat → Int32)} {d : Nat} {Q : Option Value → pmS → Prop} {p : Int} {w : Nat} {a : xA} {b : xB} (hz : uWz w) (hd : 1 ≤ d) (hp : 1 ≤ p ∧ p ≤ 3)
    (k1 : (¬ uSl (b w 4) p = 8) → pmWp ro d 4 63 0 27 [some (.ref 43), some (.ref w), some (xV p), some (xV (uSl (b w 4) p)), some (.long (b (w + 1) p)), none, some (xV 0), none, none, none, none] [] (xS a b) Q)
    (k2 : (uSl (b w 4) p = 8) → Q none (xS a b)) :
    pmWp ro d 4 63 0 0 [some (.ref 43), some (.ref w), some (xV p), none, none, none, none, none, none, none, none] [] (xS a b) Q := by
  refine x_aloadn xc63_0 rfl ?_
  refine x_gfl (k := 4) xc63_1 rfl rfl rfl hz.1 ?_
  refine x_iloadn xc63_4 rfl ?_
  refine x_cS (as := [.long (b w 4), xV p]) (rest := []) xc63_5 rfl rfl xi61 ⟨rfl, rfl⟩ rfl rfl ?_
  refine rk61 (by omega) (by have g0 := hp; omega) ?_
  refine x_istoren (pl' := [some (.ref 43), some (.ref w), some (xV p), some (xV (uSl (b w 4) p)), none, none, none, none, none, none, none]) xc63_8 rfl rfl ?_
  refine x_iloadn xc63_9 rfl ?_
  refine x_bipush xc63_10 (by decide) ?_
  refine x_icne xc63_12 (xRk (by have g0 := uSl_b (l := b w 4) (j := p) (by have g0 := hp; omega) (by have g0 := hp; omega); omega)) (xRk (by decide)) (fun h0 => ?_) (fun h0 => ?_)
  · refine x_aloadn xc63_16 rfl ?_
    refine x_gfr xc63_17 rfl rfl hz.1 rfl ?_
    refine x_iloadn xc63_20 rfl ?_
    refine x_lal xc63_21 hz.2.1 (by have g0 := hp; omega) (by have g0 := hp; omega) (by have g0 := hp; omega) ?_
    refine x_lstore (pl' := [some (.ref 43), some (.ref w), some (xV p), some (xV (uSl (b w 4) p)), some (.long (b (w + 1) p)), none, none, none, none, none, none]) xc63_22 rfl rfl rfl ?_
    refine x_iconst xc63_24 ?_
    refine x_istore (pl' := [some (.ref 43), some (.ref w), some (xV p), some (xV (uSl (b w 4) p)), some (.long (b (w + 1) p)), none, some (xV 0), none, none, none, none]) xc63_25 rfl rfl ?_
    exact k1 h0
  · replace h0 := Classical.not_not.mp h0
    refine x_ret xc63_15 rfl ?_
    exact k2 h0

theorem xg63 {ro : Nat → Nat × (Nat → Int32)} {d : Nat} {Q : Option Value → pmS → Prop} {a : xA} {b : xB} {p : Int} {w : Nat} (h : pmWp ro d 4 63 0 0 [some (.ref 43), some (.ref w), some (xV p), none, none, none, none, none, none, none, none] [] (xS a b) Q) : pmCs ro (d + 1) 63 [.ref 43, .ref w, xV p] (xS a b) Q := x_go xi63 rfl rfl rfl rfl rfl h
theorem w63i {ro : Nat → Nat × (Nat → Int32)} {d : Nat} {Q : Option Value → pmS → Prop} {v10 : Option Value} {v7 : Option Value} {v8 : Option Value} {v9 : Option Value} {p hr i : Int} {l : Int64} {w : Nat} {a : xA} {b : xB} (hz : uWz w) (hd : 1 ≤ d) (hp : 1 ≤ p ∧ p ≤ 3) (hhr : 0 ≤ hr ∧ hr ≤ 15) (hi : 0 ≤ i ∧ i ≤ 9)
    (k1 : (9 ≤ i) → Q none (xS a (xU b (w + 1) p l)))
    (k2 : (¬ 9 ≤ i) → (uSl (b w 4) i = hr) → (uSl l i = hr) → pmWp ro d 4 63 0 146 [some (.ref 43), some (.ref w), some (xV p), some (xV hr), some (.long (xWith l i (uSl (b w 4) i))), none, some (xV i), some (xV (uSl (b w 4) i)), some (xV (uSl l i)), some (xV 1), some (xV 1)] [] (xS a b) Q)
    (k3 : (¬ 9 ≤ i) → (uSl (b w 4) i = hr) → (¬ uSl l i = hr) → (i < 4) → pmWp ro d 4 63 0 146 [some (.ref 43), some (.ref w), some (xV p), some (xV hr), some (.long (xWith l i (uSl (b w 4) i))), none, some (xV i), some (xV (uSl (b w 4) i)), some (xV (uSl l i)), some (xV 1), some (xV 0)] [] (xS a b) Q)
    (k4 : (¬ 9 ≤ i) → (uSl (b w 4) i = hr) → (¬ uSl l i = hr) → (¬ i < 4) → ((9 ≤ uSl l i ∧ uSl l i < 13) ∧ uSl (b w 4) (uSl l i - 9) = hr) → pmWp ro d 4 63 0 146 [some (.ref 43), some (.ref w), some (xV p), some (xV hr), some (.long (xWith l i (uSl (b w 4) i))), none, some (xV i), some (xV (uSl (b w 4) i)), some (xV (uSl l i)), some (xV 1), some (xV 1)] [] (xS a b) Q)
    (k5 : (¬ 9 ≤ i) → (uSl (b w 4) i = hr) → (¬ uSl l i = hr) → (¬ i < 4) → (¬ ((9 ≤ uSl l i ∧ uSl l i < 13) ∧ uSl (b w 4) (uSl l i - 9) = hr)) → pmWp ro d 4 63 0 146 [some (.ref 43), some (.ref w), some (xV p), some (xV hr), some (.long (xWith l i (uSl (b w 4) i))), none, some (xV i), some (xV (uSl (b w 4) i)), some (xV (uSl l i)), some (xV 1), some (xV 0)] [] (xS a b) Q)
    (k6 : (¬ 9 ≤ i) → (¬ uSl (b w 4) i = hr) → (i < 4) → (uSl l i = hr) → pmWp ro d 4 63 0 146 [some (.ref 43), some (.ref w), some (xV p), some (xV hr), some (.long (xWith l i 0)), none, some (xV i), some (xV (uSl (b w 4) i)), some (xV (uSl l i)), some (xV 0), some (xV 1)] [] (xS a b) Q)
    (k7 : (¬ 9 ≤ i) → (¬ uSl (b w 4) i = hr) → (i < 4) → (¬ uSl l i = hr) → pmWp ro d 4 63 0 146 [some (.ref 43), some (.ref w), some (xV p), some (xV hr), some (.long l), none, some (xV i), some (xV (uSl (b w 4) i)), some (xV (uSl l i)), some (xV 0), some (xV 0)] [] (xS a b) Q)
    (k8 : (¬ 9 ≤ i) → (¬ uSl (b w 4) i = hr) → (¬ i < 4) → ((9 ≤ uSl (b w 4) i ∧ uSl (b w 4) i < 13) ∧ uSl (b w 4) (uSl (b w 4) i - 9) = hr) → (uSl l i = hr) → pmWp ro d 4 63 0 146 [some (.ref 43), some (.ref w), some (xV p), some (xV hr), some (.long (xWith l i (uSl (b w 4) i))), none, some (xV i), some (xV (uSl (b w 4) i)), some (xV (uSl l i)), some (xV 1), some (xV 1)] [] (xS a b) Q)
    (k9 : (¬ 9 ≤ i) → (¬ uSl (b w 4) i = hr) → (¬ i < 4) → ((9 ≤ uSl (b w 4) i ∧ uSl (b w 4) i < 13) ∧ uSl (b w 4) (uSl (b w 4) i - 9) = hr) → (¬ uSl l i = hr) → ((9 ≤ uSl l i ∧ uSl l i < 13) ∧ uSl (b w 4) (uSl l i - 9) = hr) → pmWp ro d 4 63 0 146 [some (.ref 43), some (.ref w), some (xV p), some (xV hr), some (.long (xWith l i (uSl (b w 4) i))), none, some (xV i), some (xV (uSl (b w 4) i)), some (xV (uSl l i)), some (xV 1), some (xV 1)] [] (xS a b) Q)
    (k10 : (¬ 9 ≤ i) → (¬ uSl (b w 4) i = hr) → (¬ i < 4) → ((9 ≤ uSl (b w 4) i ∧ uSl (b w 4) i < 13) ∧ uSl (b w 4) (uSl (b w 4) i - 9) = hr) → (¬ uSl l i = hr) → (¬ ((9 ≤ uSl l i ∧ uSl l i < 13) ∧ uSl (b w 4) (uSl l i - 9) = hr)) → pmWp ro d 4 63 0 146 [some (.ref 43), some (.ref w), some (xV p), some (xV hr), some (.long (xWith l i (uSl (b w 4) i))), none, some (xV i), some (xV (uSl (b w 4) i)), some (xV (uSl l i)), some (xV 1), some (xV 0)] [] (xS a b) Q)
    (k11 : (¬ 9 ≤ i) → (¬ uSl (b w 4) i = hr) → (¬ i < 4) → (¬ ((9 ≤ uSl (b w 4) i ∧ uSl (b w 4) i < 13) ∧ uSl (b w 4) (uSl (b w 4) i - 9) = hr)) → (uSl l i = hr) → pmWp ro d 4 63 0 146 [some (.ref 43), some (.ref w), some (xV p), some (xV hr), some (.long (xWith l i 0)), none, some (xV i), some (xV (uSl (b w 4) i)), some (xV (uSl l i)), some (xV 0), some (xV 1)] [] (xS a b) Q)
    (k12 : (¬ 9 ≤ i) → (¬ uSl (b w 4) i = hr) → (¬ i < 4) → (¬ ((9 ≤ uSl (b w 4) i ∧ uSl (b w 4) i < 13) ∧ uSl (b w 4) (uSl (b w 4) i - 9) = hr)) → (¬ uSl l i = hr) → ((9 ≤ uSl l i ∧ uSl l i < 13) ∧ uSl (b w 4) (uSl l i - 9) = hr) → pmWp ro d 4 63 0 146 [some (.ref 43), some (.ref w), some (xV p), some (xV hr), some (.long (xWith l i 0)), none, some (xV i), some (xV (uSl (b w 4) i)), some (xV (uSl l i)), some (xV 0), some (xV 1)] [] (xS a b) Q)
    (k13 : (¬ 9 ≤ i) → (¬ uSl (b w 4) i = hr) → (¬ i < 4) → (¬ ((9 ≤ uSl (b w 4) i ∧ uSl (b w 4) i < 13) ∧ uSl (b w 4) (uSl (b w 4) i - 9) = hr)) → (¬ uSl l i = hr) → (¬ ((9 ≤ uSl l i ∧ uSl l i < 13) ∧ uSl (b w 4) (uSl l i - 9) = hr)) → pmWp ro d 4 63 0 146 [some (.ref 43), some (.ref w), some (xV p), some (xV hr), some (.long l), none, some (xV i), some (xV (uSl (b w 4) i)), some (xV (uSl l i)), some (xV 0), some (xV 0)] [] (xS a b) Q) :
    pmWp ro d 4 63 0 27 [some (.ref 43), some (.ref w), some (xV p), some (xV hr), some (.long l), none, some (xV i), v7, v8, v9, v10] [] (xS a b) Q := by
  refine x_iload xc63_27 rfl ?_
  refine x_bipush xc63_29 (by decide) ?_
  refine x_icge xc63_31 (xRk (by have g0 := hi; omega)) (xRk (by decide)) (fun h0 => ?_) (fun h0 => ?_)
  · refine x_aloadn xc63_152 rfl ?_
    refine x_gfr xc63_153 rfl rfl hz.1 rfl ?_
    refine x_iloadn xc63_156 rfl ?_
    refine x_lload xc63_157 rfl ?_
    refine x_las xc63_159 hz.2.1 (by have g0 := hp; omega) (by have g0 := hp; omega) (by have g0 := hp; omega) ?_
    refine x_ret xc63_160 rfl ?_
    exact k1 h0
  · refine x_aloadn xc63_34 rfl ?_
    refine x_gfl (k := 4) xc63_35 rfl rfl rfl hz.1 ?_
    refine x_iload xc63_38 rfl ?_
    refine x_cS (as := [.long (b w 4), xV i]) (rest := []) xc63_40 rfl rfl xi61 ⟨rfl, rfl⟩ rfl rfl ?_
    refine rk61 (by omega) (by have g0 := hi; omega) ?_
    refine x_istore (pl' := [some (.ref 43), some (.ref w), some (xV p), some (xV hr), some (.long l), none, some (xV i), some (xV (uSl (b w 4) i)), v8, v9, v10]) xc63_43 rfl rfl ?_
    refine x_lload xc63_45 rfl ?_
    refine x_iload xc63_47 rfl ?_
    refine x_cS (as := [.long l, xV i]) (rest := []) xc63_49 rfl rfl xi61 ⟨rfl, rfl⟩ rfl rfl ?_
    refine rk61 (by omega) (by have g0 := hi; omega) ?_
    refine x_istore (pl' := [some (.ref 43), some (.ref w), some (xV p), some (xV hr), some (.long l), none, some (xV i), some (xV (uSl (b w 4) i)), some (xV (uSl l i)), v9, v10]) xc63_52 rfl rfl ?_
    refine x_iload xc63_54 rfl ?_
    refine x_iloadn xc63_56 rfl ?_
    refine x_iceq xc63_57 (xRk (by have g0 := uSl_b (l := b w 4) (j := i) (by have g0 := hi; omega) (by have g0 := hi; omega); omega)) (xRk (by have g0 := hhr; omega)) (fun h1 => ?_) (fun h1 => ?_)
    · refine x_iconst xc63_76 ?_
      refine x_goto xc63_77 ?_
      refine x_istore (pl' := [some (.ref 43), some (.ref w), some (xV p), some (xV hr), some (.long l), none, some (xV i), some (xV (uSl (b w 4) i)), some (xV (uSl l i)), some (xV 1), v10]) xc63_81 rfl rfl ?_
      refine x_iload xc63_83 rfl ?_
      refine x_iloadn xc63_85 rfl ?_
      refine x_iceq xc63_86 (xRk (by have g0 := uSl_b (l := l) (j := i) (by have g0 := hi; omega) (by have g0 := hi; omega); omega)) (xRk (by have g0 := hhr; omega)) (fun h2 => ?_) (fun h2 => ?_)
      · refine x_iconst xc63_105 ?_
        refine x_goto xc63_106 ?_
        refine x_istore (pl' := [some (.ref 43), some (.ref w), some (xV p), some (xV hr), some (.long l), none, some (xV i), some (xV (uSl (b w 4) i)), some (xV (uSl l i)), some (xV 1), some (xV 1)]) xc63_110 rfl rfl ?_
        refine x_iload xc63_112 rfl ?_
        refine x_ifeq xc63_114 (xRk (by decide)) (fun h => absurd h (by omega)) (fun _ => ?_)
        refine x_lload xc63_117 rfl ?_
        refine x_iload xc63_119 rfl ?_
        refine x_iload xc63_121 rfl ?_
        refine x_cS (as := [.long l, xV i, xV (uSl (b w 4) i)]) (rest := []) xc63_123 rfl rfl xi19 ⟨rfl, rfl⟩ rfl rfl ?_
        refine xk19 (by omega) (xRk (by have g0 := hi; omega)) (xRk (by have g0 := uSl_b (l := b w 4) (j := i) (by have g0 := hi; omega) (by have g0 := hi; omega); omega)) ?_
        refine x_lstore (pl' := [some (.ref 43), some (.ref w), some (xV p), some (xV hr), some (.long (xWith l i (uSl (b w 4) i))), none, some (xV i), some (xV (uSl (b w 4) i)), some (xV (uSl l i)), some (xV 1), some (xV 1)]) xc63_126 rfl rfl rfl ?_
        refine x_goto xc63_128 ?_
        exact k2 h0 h1 h2
      · refine x_iload xc63_89 rfl ?_
        refine x_iconst xc63_91 ?_
        refine x_iclt xc63_92 (xRk (by have g0 := hi; omega)) (xRk (by decide)) (fun h4 => ?_) (fun h4 => ?_)
        · refine x_iconst xc63_109 ?_
          refine x_istore (pl' := [some (.ref 43), some (.ref w), some (xV p), some (xV hr), some (.long l), none, some (xV i), some (xV (uSl (b w 4) i)), some (xV (uSl l i)), some (xV 1), some (xV 0)]) xc63_110 rfl rfl ?_
          refine x_iload xc63_112 rfl ?_
          refine x_ifeq xc63_114 (xRk (by decide)) (fun h => absurd h (by omega)) (fun _ => ?_)
          refine x_lload xc63_117 rfl ?_
          refine x_iload xc63_119 rfl ?_
          refine x_iload xc63_121 rfl ?_
          refine x_cS (as := [.long l, xV i, xV (uSl (b w 4) i)]) (rest := []) xc63_123 rfl rfl xi19 ⟨rfl, rfl⟩ rfl rfl ?_
          refine xk19 (by omega) (xRk (by have g0 := hi; omega)) (xRk (by have g0 := uSl_b (l := b w 4) (j := i) (by have g0 := hi; omega) (by have g0 := hi; omega); omega)) ?_
          refine x_lstore (pl' := [some (.ref 43), some (.ref w), some (xV p), some (xV hr), some (.long (xWith l i (uSl (b w 4) i))), none, some (xV i), some (xV (uSl (b w 4) i)), some (xV (uSl l i)), some (xV 1), some (xV 0)]) xc63_126 rfl rfl rfl ?_
          refine x_goto xc63_128 ?_
          exact k3 h0 h1 h2 h4
        · refine x_aloadn xc63_95 rfl ?_
          refine x_iload xc63_96 rfl ?_
          refine x_iloadn xc63_98 rfl ?_
          refine x_cS (as := [.ref w, xV (uSl l i), xV hr]) (rest := []) xc63_99 rfl rfl xi64 ⟨rfl, rfl⟩ rfl rfl ?_
          refine rk64 (by omega) hz (by have g0 := uSl_b (l := l) (j := i) (by have g0 := hi; omega) (by have g0 := hi; omega); omega) (by have g0 := hhr; omega) (fun h6 => ?_) (fun h7 => ?_)
          · refine x_ifeq xc63_102 (xRk (by decide)) (fun h => absurd h (by omega)) (fun _ => ?_)
            refine x_iconst xc63_105 ?_
            refine x_goto xc63_106 ?_
            refine x_istore (pl' := [some (.ref 43), some (.ref w), some (xV p), some (xV hr), some (.long l), none, some (xV i), some (xV (uSl (b w 4) i)), some (xV (uSl l i)), some (xV 1), some (xV 1)]) xc63_110 rfl rfl ?_
            refine x_iload xc63_112 rfl ?_
            refine x_ifeq xc63_114 (xRk (by decide)) (fun h => absurd h (by omega)) (fun _ => ?_)
            refine x_lload xc63_117 rfl ?_
            refine x_iload xc63_119 rfl ?_
            refine x_iload xc63_121 rfl ?_
            refine x_cS (as := [.long l, xV i, xV (uSl (b w 4) i)]) (rest := []) xc63_123 rfl rfl xi19 ⟨rfl, rfl⟩ rfl rfl ?_
            refine xk19 (by omega) (xRk (by have g0 := hi; omega)) (xRk (by have g0 := uSl_b (l := b w 4) (j := i) (by have g0 := hi; omega) (by have g0 := hi; omega); omega)) ?_
            refine x_lstore (pl' := [some (.ref 43), some (.ref w), some (xV p), some (xV hr), some (.long (xWith l i (uSl (b w 4) i))), none, some (xV i), some (xV (uSl (b w 4) i)), some (xV (uSl l i)), some (xV 1), some (xV 1)]) xc63_126 rfl rfl rfl ?_
            refine x_goto xc63_128 ?_
            exact k4 h0 h1 h2 h4 h6
          · refine x_ifeq xc63_102 (xRk (by decide)) (fun _ => ?_) (fun h => absurd h (by omega))
            refine x_iconst xc63_109 ?_
            refine x_istore (pl' := [some (.ref 43), some (.ref w), some (xV p), some (xV hr), some (.long l), none, some (xV i), some (xV (uSl (b w 4) i)), some (xV (uSl l i)), some (xV 1), some (xV 0)]) xc63_110 rfl rfl ?_
            refine x_iload xc63_112 rfl ?_
            refine x_ifeq xc63_114 (xRk (by decide)) (fun h => absurd h (by omega)) (fun _ => ?_)
            refine x_lload xc63_117 rfl ?_
            refine x_iload xc63_119 rfl ?_
            refine x_iload xc63_121 rfl ?_
            refine x_cS (as := [.long l, xV i, xV (uSl (b w 4) i)]) (rest := []) xc63_123 rfl rfl xi19 ⟨rfl, rfl⟩ rfl rfl ?_
            refine xk19 (by omega) (xRk (by have g0 := hi; omega)) (xRk (by have g0 := uSl_b (l := b w 4) (j := i) (by have g0 := hi; omega) (by have g0 := hi; omega); omega)) ?_
            refine x_lstore (pl' := [some (.ref 43), some (.ref w), some (xV p), some (xV hr), some (.long (xWith l i (uSl (b w 4) i))), none, some (xV i), some (xV (uSl (b w 4) i)), some (xV (uSl l i)), some (xV 1), some (xV 0)]) xc63_126 rfl rfl rfl ?_
            refine x_goto xc63_128 ?_
            exact k5 h0 h1 h2 h4 h7
    · refine x_iload xc63_60 rfl ?_
      refine x_iconst xc63_62 ?_
      refine x_iclt xc63_63 (xRk (by have g0 := hi; omega)) (xRk (by decide)) (fun h12 => ?_) (fun h12 => ?_)
      · refine x_iconst xc63_80 ?_
        refine x_istore (pl' := [some (.ref 43), some (.ref w), some (xV p), some (xV hr), some (.long l), none, some (xV i), some (xV (uSl (b w 4) i)), some (xV (uSl l i)), some (xV 0), v10]) xc63_81 rfl rfl ?_
        refine x_iload xc63_83 rfl ?_
        refine x_iloadn xc63_85 rfl ?_
        refine x_iceq xc63_86 (xRk (by have g0 := uSl_b (l := l) (j := i) (by have g0 := hi; omega) (by have g0 := hi; omega); omega)) (xRk (by have g0 := hhr; omega)) (fun h13 => ?_) (fun h13 => ?_)
        · refine x_iconst xc63_105 ?_
          refine x_goto xc63_106 ?_
          refine x_istore (pl' := [some (.ref 43), some (.ref w), some (xV p), some (xV hr), some (.long l), none, some (xV i), some (xV (uSl (b w 4) i)), some (xV (uSl l i)), some (xV 0), some (xV 1)]) xc63_110 rfl rfl ?_
          refine x_iload xc63_112 rfl ?_
          refine x_ifeq xc63_114 (xRk (by decide)) (fun _ => ?_) (fun h => absurd h (by omega))
          refine x_iload xc63_131 rfl ?_
          refine x_ifeq xc63_133 (xRk (by decide)) (fun h => absurd h (by omega)) (fun _ => ?_)
          refine x_lload xc63_136 rfl ?_
          refine x_iload xc63_138 rfl ?_
          refine x_iconst xc63_140 ?_
          refine x_cS (as := [.long l, xV i, xV 0]) (rest := []) xc63_141 rfl rfl xi19 ⟨rfl, rfl⟩ rfl rfl ?_
          refine xk19 (by omega) (xRk (by have g0 := hi; omega)) (xRk (by decide)) ?_
          refine x_lstore (pl' := [some (.ref 43), some (.ref w), some (xV p), some (xV hr), some (.long (xWith l i 0)), none, some (xV i), some (xV (uSl (b w 4) i)), some (xV (uSl l i)), some (xV 0), some (xV 1)]) xc63_144 rfl rfl rfl ?_
          exact k6 h0 h1 h12 h13
        · refine x_iload xc63_89 rfl ?_
          refine x_iconst xc63_91 ?_
          refine x_iclt xc63_92 (xRk (by have g0 := hi; omega)) (xRk (by decide)) (fun _ => ?_) (fun h => absurd h (by omega))
          refine x_iconst xc63_109 ?_
          refine x_istore (pl' := [some (.ref 43), some (.ref w), some (xV p), some (xV hr), some (.long l), none, some (xV i), some (xV (uSl (b w 4) i)), some (xV (uSl l i)), some (xV 0), some (xV 0)]) xc63_110 rfl rfl ?_
          refine x_iload xc63_112 rfl ?_
          refine x_ifeq xc63_114 (xRk (by decide)) (fun _ => ?_) (fun h => absurd h (by omega))
          refine x_iload xc63_131 rfl ?_
          refine x_ifeq xc63_133 (xRk (by decide)) (fun _ => ?_) (fun h => absurd h (by omega))
          exact k7 h0 h1 h12 h13
      · refine x_aloadn xc63_66 rfl ?_
        refine x_iload xc63_67 rfl ?_
        refine x_iloadn xc63_69 rfl ?_
        refine x_cS (as := [.ref w, xV (uSl (b w 4) i), xV hr]) (rest := []) xc63_70 rfl rfl xi64 ⟨rfl, rfl⟩ rfl rfl ?_
        refine rk64 (by omega) hz (by have g0 := uSl_b (l := b w 4) (j := i) (by have g0 := hi; omega) (by have g0 := hi; omega); omega) (by have g0 := hhr; omega) (fun h19 => ?_) (fun h20 => ?_)
        · refine x_ifeq xc63_73 (xRk (by decide)) (fun h => absurd h (by omega)) (fun _ => ?_)
          refine x_iconst xc63_76 ?_
          refine x_goto xc63_77 ?_
          refine x_istore (pl' := [some (.ref 43), some (.ref w), some (xV p), some (xV hr), some (.long l), none, some (xV i), some (xV (uSl (b w 4) i)), some (xV (uSl l i)), some (xV 1), v10]) xc63_81 rfl rfl ?_
          refine x_iload xc63_83 rfl ?_
          refine x_iloadn xc63_85 rfl ?_
          refine x_iceq xc63_86 (xRk (by have g0 := uSl_b (l := l) (j := i) (by have g0 := hi; omega) (by have g0 := hi; omega); omega)) (xRk (by have g0 := hhr; omega)) (fun h22 => ?_) (fun h22 => ?_)
          · refine x_iconst xc63_105 ?_
            refine x_goto xc63_106 ?_
            refine x_istore (pl' := [some (.ref 43), some (.ref w), some (xV p), some (xV hr), some (.long l), none, some (xV i), some (xV (uSl (b w 4) i)), some (xV (uSl l i)), some (xV 1), some (xV 1)]) xc63_110 rfl rfl ?_
            refine x_iload xc63_112 rfl ?_
            refine x_ifeq xc63_114 (xRk (by decide)) (fun h => absurd h (by omega)) (fun _ => ?_)
            refine x_lload xc63_117 rfl ?_
            refine x_iload xc63_119 rfl ?_
            refine x_iload xc63_121 rfl ?_
            refine x_cS (as := [.long l, xV i, xV (uSl (b w 4) i)]) (rest := []) xc63_123 rfl rfl xi19 ⟨rfl, rfl⟩ rfl rfl ?_
            refine xk19 (by omega) (xRk (by have g0 := hi; omega)) (xRk (by have g0 := uSl_b (l := b w 4) (j := i) (by have g0 := hi; omega) (by have g0 := hi; omega); omega)) ?_
            refine x_lstore (pl' := [some (.ref 43), some (.ref w), some (xV p), some (xV hr), some (.long (xWith l i (uSl (b w 4) i))), none, some (xV i), some (xV (uSl (b w 4) i)), some (xV (uSl l i)), some (xV 1), some (xV 1)]) xc63_126 rfl rfl rfl ?_
            refine x_goto xc63_128 ?_
            exact k8 h0 h1 h12 h19 h22
          · refine x_iload xc63_89 rfl ?_
            refine x_iconst xc63_91 ?_
            refine x_iclt xc63_92 (xRk (by have g0 := hi; omega)) (xRk (by decide)) (fun h => absurd h (by omega)) (fun _ => ?_)
            refine x_aloadn xc63_95 rfl ?_
            refine x_iload xc63_96 rfl ?_
            refine x_iloadn xc63_98 rfl ?_
            refine x_cS (as := [.ref w, xV (uSl l i), xV hr]) (rest := []) xc63_99 rfl rfl xi64 ⟨rfl, rfl⟩ rfl rfl ?_
            refine rk64 (by omega) hz (by have g0 := uSl_b (l := l) (j := i) (by have g0 := hi; omega) (by have g0 := hi; omega); omega) (by have g0 := hhr; omega) (fun h25 => ?_) (fun h26 => ?_)
            · refine x_ifeq xc63_102 (xRk (by decide)) (fun h => absurd h (by omega)) (fun _ => ?_)
              refine x_iconst xc63_105 ?_
              refine x_goto xc63_106 ?_
              refine x_istore (pl' := [some (.ref 43), some (.ref w), some (xV p), some (xV hr), some (.long l), none, some (xV i), some (xV (uSl (b w 4) i)), some (xV (uSl l i)), some (xV 1), some (xV 1)]) xc63_110 rfl rfl ?_
              refine x_iload xc63_112 rfl ?_
              refine x_ifeq xc63_114 (xRk (by decide)) (fun h => absurd h (by omega)) (fun _ => ?_)
              refine x_lload xc63_117 rfl ?_
              refine x_iload xc63_119 rfl ?_
              refine x_iload xc63_121 rfl ?_
              refine x_cS (as := [.long l, xV i, xV (uSl (b w 4) i)]) (rest := []) xc63_123 rfl rfl xi19 ⟨rfl, rfl⟩ rfl rfl ?_
              refine xk19 (by omega) (xRk (by have g0 := hi; omega)) (xRk (by have g0 := uSl_b (l := b w 4) (j := i) (by have g0 := hi; omega) (by have g0 := hi; omega); omega)) ?_
              refine x_lstore (pl' := [some (.ref 43), some (.ref w), some (xV p), some (xV hr), some (.long (xWith l i (uSl (b w 4) i))), none, some (xV i), some (xV (uSl (b w 4) i)), some (xV (uSl l i)), some (xV 1), some (xV 1)]) xc63_126 rfl rfl rfl ?_
              refine x_goto xc63_128 ?_
              exact k9 h0 h1 h12 h19 h22 h25
            · refine x_ifeq xc63_102 (xRk (by decide)) (fun _ => ?_) (fun h => absurd h (by omega))
              refine x_iconst xc63_109 ?_
              refine x_istore (pl' := [some (.ref 43), some (.ref w), some (xV p), some (xV hr), some (.long l), none, some (xV i), some (xV (uSl (b w 4) i)), some (xV (uSl l i)), some (xV 1), some (xV 0)]) xc63_110 rfl rfl ?_
              refine x_iload xc63_112 rfl ?_
              refine x_ifeq xc63_114 (xRk (by decide)) (fun h => absurd h (by omega)) (fun _ => ?_)
              refine x_lload xc63_117 rfl ?_
              refine x_iload xc63_119 rfl ?_
              refine x_iload xc63_121 rfl ?_
              refine x_cS (as := [.long l, xV i, xV (uSl (b w 4) i)]) (rest := []) xc63_123 rfl rfl xi19 ⟨rfl, rfl⟩ rfl rfl ?_
              refine xk19 (by omega) (xRk (by have g0 := hi; omega)) (xRk (by have g0 := uSl_b (l := b w 4) (j := i) (by have g0 := hi; omega) (by have g0 := hi; omega); omega)) ?_
              refine x_lstore (pl' := [some (.ref 43), some (.ref w), some (xV p), some (xV hr), some (.long (xWith l i (uSl (b w 4) i))), none, some (xV i), some (xV (uSl (b w 4) i)), some (xV (uSl l i)), some (xV 1), some (xV 0)]) xc63_126 rfl rfl rfl ?_
              refine x_goto xc63_128 ?_
              exact k10 h0 h1 h12 h19 h22 h26
        · refine x_ifeq xc63_73 (xRk (by decide)) (fun _ => ?_) (fun h => absurd h (by omega))
          refine x_iconst xc63_80 ?_
          refine x_istore (pl' := [some (.ref 43), some (.ref w), some (xV p), some (xV hr), some (.long l), none, some (xV i), some (xV (uSl (b w 4) i)), some (xV (uSl l i)), some (xV 0), v10]) xc63_81 rfl rfl ?_
          refine x_iload xc63_83 rfl ?_
          refine x_iloadn xc63_85 rfl ?_
          refine x_iceq xc63_86 (xRk (by have g0 := uSl_b (l := l) (j := i) (by have g0 := hi; omega) (by have g0 := hi; omega); omega)) (xRk (by have g0 := hhr; omega)) (fun h32 => ?_) (fun h32 => ?_)
          · refine x_iconst xc63_105 ?_
            refine x_goto xc63_106 ?_
            refine x_istore (pl' := [some (.ref 43), some (.ref w), some (xV p), some (xV hr), some (.long l), none, some (xV i), some (xV (uSl (b w 4) i)), some (xV (uSl l i)), some (xV 0), some (xV 1)]) xc63_110 rfl rfl ?_
            refine x_iload xc63_112 rfl ?_
            refine x_ifeq xc63_114 (xRk (by decide)) (fun _ => ?_) (fun h => absurd h (by omega))
            refine x_iload xc63_131 rfl ?_
            refine x_ifeq xc63_133 (xRk (by decide)) (fun h => absurd h (by omega)) (fun _ => ?_)
            refine x_lload xc63_136 rfl ?_
            refine x_iload xc63_138 rfl ?_
            refine x_iconst xc63_140 ?_
            refine x_cS (as := [.long l, xV i, xV 0]) (rest := []) xc63_141 rfl rfl xi19 ⟨rfl, rfl⟩ rfl rfl ?_
            refine xk19 (by omega) (xRk (by have g0 := hi; omega)) (xRk (by decide)) ?_
            refine x_lstore (pl' := [some (.ref 43), some (.ref w), some (xV p), some (xV hr), some (.long (xWith l i 0)), none, some (xV i), some (xV (uSl (b w 4) i)), some (xV (uSl l i)), some (xV 0), some (xV 1)]) xc63_144 rfl rfl rfl ?_
            exact k11 h0 h1 h12 h20 h32
          · refine x_iload xc63_89 rfl ?_
            refine x_iconst xc63_91 ?_
            refine x_iclt xc63_92 (xRk (by have g0 := hi; omega)) (xRk (by decide)) (fun h => absurd h (by omega)) (fun _ => ?_)
            refine x_aloadn xc63_95 rfl ?_
            refine x_iload xc63_96 rfl ?_
            refine x_iloadn xc63_98 rfl ?_
            refine x_cS (as := [.ref w, xV (uSl l i), xV hr]) (rest := []) xc63_99 rfl rfl xi64 ⟨rfl, rfl⟩ rfl rfl ?_
            refine rk64 (by omega) hz (by have g0 := uSl_b (l := l) (j := i) (by have g0 := hi; omega) (by have g0 := hi; omega); omega) (by have g0 := hhr; omega) (fun h36 => ?_) (fun h37 => ?_)
            · refine x_ifeq xc63_102 (xRk (by decide)) (fun h => absurd h (by omega)) (fun _ => ?_)
              refine x_iconst xc63_105 ?_
              refine x_goto xc63_106 ?_
              refine x_istore (pl' := [some (.ref 43), some (.ref w), some (xV p), some (xV hr), some (.long l), none, some (xV i), some (xV (uSl (b w 4) i)), some (xV (uSl l i)), some (xV 0), some (xV 1)]) xc63_110 rfl rfl ?_
              refine x_iload xc63_112 rfl ?_
              refine x_ifeq xc63_114 (xRk (by decide)) (fun _ => ?_) (fun h => absurd h (by omega))
              refine x_iload xc63_131 rfl ?_
              refine x_ifeq xc63_133 (xRk (by decide)) (fun h => absurd h (by omega)) (fun _ => ?_)
              refine x_lload xc63_136 rfl ?_
              refine x_iload xc63_138 rfl ?_
              refine x_iconst xc63_140 ?_
              refine x_cS (as := [.long l, xV i, xV 0]) (rest := []) xc63_141 rfl rfl xi19 ⟨rfl, rfl⟩ rfl rfl ?_
              refine xk19 (by omega) (xRk (by have g0 := hi; omega)) (xRk (by decide)) ?_
              refine x_lstore (pl' := [some (.ref 43), some (.ref w), some (xV p), some (xV hr), some (.long (xWith l i 0)), none, some (xV i), some (xV (uSl (b w 4) i)), some (xV (uSl l i)), some (xV 0), some (xV 1)]) xc63_144 rfl rfl rfl ?_
              exact k12 h0 h1 h12 h20 h32 h36
            · refine x_ifeq xc63_102 (xRk (by decide)) (fun _ => ?_) (fun h => absurd h (by omega))
              refine x_iconst xc63_109 ?_
              refine x_istore (pl' := [some (.ref 43), some (.ref w), some (xV p), some (xV hr), some (.long l), none, some (xV i), some (xV (uSl (b w 4) i)), some (xV (uSl l i)), some (xV 0), some (xV 0)]) xc63_110 rfl rfl ?_
              refine x_iload xc63_112 rfl ?_
              refine x_ifeq xc63_114 (xRk (by decide)) (fun _ => ?_) (fun h => absurd h (by omega))
              refine x_iload xc63_131 rfl ?_
              refine x_ifeq xc63_133 (xRk (by decide)) (fun _ => ?_) (fun h => absurd h (by omega))
              exact k13 h0 h1 h12 h20 h32 h37

theorem w63n {ro : Nat → Nat × (Nat → Int32)} {d : Nat} {Q : Option Value → pmS → Prop} {v10 : Option Value} {v7 : Option Value} {v8 : Option Value} {v9 : Option Value} {p hr i : Int} {l : Int64} {w : Nat} {a : xA} {b : xB} (hz : uWz w) (hd : 1 ≤ d) (hp : 1 ≤ p ∧ p ≤ 3) (hhr : 0 ≤ hr ∧ hr ≤ 15) (hi : 0 ≤ i ∧ i ≤ 9)
    (k1 : pmWp ro d 4 63 0 27 [some (.ref 43), some (.ref w), some (xV p), some (xV hr), some (.long l), none, some (xV (i + 1)), v7, v8, v9, v10] [] (xS a b) Q) :
    pmWp ro d 4 63 0 146 [some (.ref 43), some (.ref w), some (xV p), some (xV hr), some (.long l), none, some (xV i), v7, v8, v9, v10] [] (xS a b) Q := by
  refine x_iinc (pl' := [some (.ref 43), some (.ref w), some (xV p), some (xV hr), some (.long l), none, some (xV (i + 1)), v7, v8, v9, v10]) xc63_146 rfl rfl ?_
  refine x_goto xc63_149 ?_
  exact k1

theorem w59 {ro : Nat → Nat × (Nat → Int32)} {d : Nat} {Q : Option Value → pmS → Prop} {w : Nat} {a : xA} {b : xB} (hz : uWz w) (hd : 1 ≤ d)
    (k1 : pmCs ro d 60 [.ref 43, .ref w] (xS a b) fun r σ' => pmWp ro d 4 59 0 5 [some (.ref 43), some (.ref w), none] (r.toList ++ []) σ' Q) :
    pmWp ro d 4 59 0 0 [some (.ref 43), some (.ref w), none] [] (xS a b) Q := by
  refine x_aloadn xc59_0 rfl ?_
  refine x_aloadn xc59_1 rfl ?_
  refine x_cV (as := [.ref w]) (rest := []) xc59_2 rfl xi60 xz43 ⟨rfl, rfl⟩ rfl rfl ?_
  exact k1

theorem xg59 {ro : Nat → Nat × (Nat → Int32)} {d : Nat} {Q : Option Value → pmS → Prop} {a : xA} {b : xB} {w : Nat} (h : pmWp ro d 4 59 0 0 [some (.ref 43), some (.ref w), none] [] (xS a b) Q) : pmCs ro (d + 1) 59 [.ref 43, .ref w] (xS a b) Q := x_go xi59 rfl rfl rfl rfl rfl h
theorem w59a {ro : Nat → Nat × (Nat → Int32)} {d : Nat} {Q : Option Value → pmS → Prop} {w : Nat} {a : xA} {b : xB} (hz : uWz w) (hd : 1 ≤ d)
    (k1 : pmWp ro d 4 59 0 7 [some (.ref 43), some (.ref w), some (xV 1)] [] (xS a b) Q) :
    pmWp ro d 4 59 0 5 [some (.ref 43), some (.ref w), none] [] (xS a b) Q := by
  refine x_iconst xc59_5 ?_
  refine x_istoren (pl' := [some (.ref 43), some (.ref w), some (xV 1)]) xc59_6 rfl rfl ?_
  exact k1

theorem w59p {ro : Nat → Nat × (Nat → Int32)} {d : Nat} {Q : Option Value → pmS → Prop} {p : Int} {w : Nat} {a : xA} {b : xB} (hz : uWz w) (hd : 1 ≤ d) (hp : 1 ≤ p ∧ p ≤ 4)
    (k1 : (4 ≤ p) → Q none (xS a b))
    (k2 : (¬ 4 ≤ p) → pmCs ro d 63 [.ref 43, .ref w, xV p] (xS a b) fun r σ' => pmWp ro d 4 59 0 18 [some (.ref 43), some (.ref w), some (xV p)] (r.toList ++ []) σ' Q) :
    pmWp ro d 4 59 0 7 [some (.ref 43), some (.ref w), some (xV p)] [] (xS a b) Q := by
  refine x_iloadn xc59_7 rfl ?_
  refine x_iconst xc59_8 ?_
  refine x_icge xc59_9 (xRk (by have g0 := hp; omega)) (xRk (by decide)) (fun h0 => ?_) (fun h0 => ?_)
  · refine x_ret xc59_24 rfl ?_
    exact k1 h0
  · refine x_aloadn xc59_12 rfl ?_
    refine x_aloadn xc59_13 rfl ?_
    refine x_iloadn xc59_14 rfl ?_
    refine x_cV (as := [.ref w, xV p]) (rest := []) xc59_15 rfl xi63 xz43 ⟨rfl, rfl⟩ rfl rfl ?_
    exact k2 h0

theorem w59n {ro : Nat → Nat × (Nat → Int32)} {d : Nat} {Q : Option Value → pmS → Prop} {p : Int} {w : Nat} {a : xA} {b : xB} (hz : uWz w) (hd : 1 ≤ d) (hp : 1 ≤ p ∧ p ≤ 4)
    (k1 : pmWp ro d 4 59 0 7 [some (.ref 43), some (.ref w), some (xV (p + 1))] [] (xS a b) Q) :
    pmWp ro d 4 59 0 18 [some (.ref 43), some (.ref w), some (xV p)] [] (xS a b) Q := by
  refine x_iinc (pl' := [some (.ref 43), some (.ref w), some (xV (p + 1))]) xc59_18 rfl rfl ?_
  refine x_goto xc59_21 ?_
  exact k1

theorem w92 {ro : Nat → Nat × (Nat → Int32)} {d : Nat} {Q : Option Value → pmS → Prop} {x y : Int} {w : Nat} {a : xA} {b : xB} (hz : uWz w) (hd : 1 ≤ d) (hx : 0 ≤ x ∧ x ≤ 4) (hy : 0 ≤ y ∧ y ≤ 3)
    (k1 : (1 ≤ y ∧ y < 4) → (¬ uSl (b w 4) (4 + x) = 13) → Q none (xS a (xU b (w + 1) y (xWith (b (w + 1) y) (4 + x) (uSl (b w 4) (4 + x))))))
    (k2 : (1 ≤ y ∧ y < 4) → (uSl (b w 4) (4 + x) = 13) → Q none (xS a (xU b (w + 1) y (xWith (b (w + 1) y) (4 + x) 0))))
    (k3 : (¬ (1 ≤ y ∧ y < 4)) → Q none (xS a b)) :
    pmWp ro d 4 92 0 0 [some (.ref w), some (xV x), some (xV y), none] [] (xS a b) Q := by
  refine x_iloadn xc92_0 rfl ?_
  refine x_cS (as := [xV y]) (rest := []) xc92_1 rfl rfl xi26 ⟨rfl, rfl⟩ rfl rfl ?_
  refine xk26 (by omega) (xRk (by have g0 := hy; omega)) (fun h0 => ?_) (fun h1 => ?_)
  · refine x_ifeq xc92_4 (xRk (by decide)) (fun h => absurd h (by omega)) (fun _ => ?_)
    refine x_aloadn xc92_7 rfl ?_
    refine x_gfl (k := 4) xc92_8 rfl rfl rfl hz.1 ?_
    refine x_iconst xc92_11 ?_
    refine x_iloadn xc92_12 rfl ?_
    refine x_iadd xc92_13 ?_
    refine x_cS (as := [.long (b w 4), xV (4 + x)]) (rest := []) xc92_14 rfl rfl xi61 ⟨rfl, rfl⟩ rfl rfl ?_
    refine rk61 (by omega) (by have g0 := hx; omega) ?_
    refine x_istoren (pl' := [some (.ref w), some (xV x), some (xV y), some (xV (uSl (b w 4) (4 + x)))]) xc92_17 rfl rfl ?_
    refine x_aloadn xc92_18 rfl ?_
    refine x_gfr xc92_19 rfl rfl hz.1 rfl ?_
    refine x_iloadn xc92_22 rfl ?_
    refine x_aloadn xc92_23 rfl ?_
    refine x_gfr xc92_24 rfl rfl hz.1 rfl ?_
    refine x_iloadn xc92_27 rfl ?_
    refine x_lal xc92_28 hz.2.1 (by have g0 := hy; omega) (by have g0 := hy; omega) (by have g0 := hy; omega) ?_
    refine x_iconst xc92_29 ?_
    refine x_iloadn xc92_30 rfl ?_
    refine x_iadd xc92_31 ?_
    refine x_iloadn xc92_32 rfl ?_
    refine x_bipush xc92_33 (by decide) ?_
    refine x_icne xc92_35 (xRk (by have g0 := uSl_b (l := b w 4) (j := 4 + x) (by have g0 := hx; omega) (by have g0 := hx; omega); omega)) (xRk (by decide)) (fun h3 => ?_) (fun h3 => ?_)
    · refine x_iloadn xc92_42 rfl ?_
      refine x_cS (as := [.long (b (w + 1) y), xV (4 + x), xV (uSl (b w 4) (4 + x))]) (rest := [xV y, .ref (w + 1)]) xc92_43 rfl rfl xi19 ⟨rfl, rfl⟩ rfl rfl ?_
      refine xk19 (by omega) (xRk (by have g0 := hx; omega)) (xRk (by have g0 := uSl_b (l := b w 4) (j := 4 + x) (by have g0 := hx; omega) (by have g0 := hx; omega); omega)) ?_
      refine x_las xc92_46 hz.2.1 (by have g0 := hy; omega) (by have g0 := hy; omega) (by have g0 := hy; omega) ?_
      refine x_ret xc92_47 rfl ?_
      exact k1 h0 h3
    · replace h3 := Classical.not_not.mp h3
      refine x_iconst xc92_38 ?_
      refine x_goto xc92_39 ?_
      refine x_cS (as := [.long (b (w + 1) y), xV (4 + x), xV 0]) (rest := [xV y, .ref (w + 1)]) xc92_43 rfl rfl xi19 ⟨rfl, rfl⟩ rfl rfl ?_
      refine xk19 (by omega) (xRk (by have g0 := hx; omega)) (xRk (by decide)) ?_
      refine x_las xc92_46 hz.2.1 (by have g0 := hy; omega) (by have g0 := hy; omega) (by have g0 := hy; omega) ?_
      refine x_ret xc92_47 rfl ?_
      exact k2 h0 h3
  · refine x_ifeq xc92_4 (xRk (by decide)) (fun _ => ?_) (fun h => absurd h (by omega))
    refine x_ret xc92_47 rfl ?_
    exact k3 h1

theorem xg92 {ro : Nat → Nat × (Nat → Int32)} {d : Nat} {Q : Option Value → pmS → Prop} {a : xA} {b : xB} {x y : Int} {w : Nat} (h : pmWp ro d 4 92 0 0 [some (.ref w), some (xV x), some (xV y), none] [] (xS a b) Q) : pmCs ro (d + 1) 92 [.ref w, xV x, xV y] (xS a b) Q := x_go xi92 rfl rfl rfl rfl rfl h
end
