/-! exact: the class, the search for a plan -/
section
set_option maxRecDepth 100000
theorem xi72 : pmInf[72]? = some pmI_72 := rfl
theorem xi78 : pmInf[78]? = some pmI_78 := rfl
theorem xi79 : pmInf[79]? = some pmI_79 := rfl
theorem xc72_0 : pmCode 72 0 = some (.aload_n 0) ∧ 0 + 1 = 1 := ⟨rfl, rfl⟩
theorem xc72_1 : pmCode 72 1 = some (.iload_n 3) ∧ 1 + 1 = 2 := ⟨rfl, rfl⟩
theorem xc72_2 : pmCode 72 2 = some (.putfield 61) ∧ 2 + 3 = 5 := ⟨rfl, rfl⟩
theorem xc72_5 : pmCode 72 5 = some (.aload_n 0) ∧ 5 + 1 = 6 := ⟨rfl, rfl⟩
theorem xc72_6 : pmCode 72 6 = some (.iload_n 3) ∧ 6 + 1 = 7 := ⟨rfl, rfl⟩
theorem xc72_7 : pmCode 72 7 = some (.iconst 3) ∧ 7 + 1 = 8 := ⟨rfl, rfl⟩
theorem xc72_8 : pmCode 72 8 = some .imul ∧ 8 + 1 = 9 := ⟨rfl, rfl⟩
theorem xc72_9 : pmCode 72 9 = some (.iload 4) ∧ 9 + 2 = 11 := ⟨rfl, rfl⟩
theorem xc72_11 : pmCode 72 11 = some .iadd ∧ 11 + 1 = 12 := ⟨rfl, rfl⟩
theorem xc72_12 : pmCode 72 12 = some (.putfield 65) ∧ 12 + 3 = 15 := ⟨rfl, rfl⟩
theorem xc72_15 : pmCode 72 15 = some (.aload_n 0) ∧ 15 + 1 = 16 := ⟨rfl, rfl⟩
theorem xc72_16 : pmCode 72 16 = some (.lload_n 1) ∧ 16 + 1 = 17 := ⟨rfl, rfl⟩
theorem xc72_17 : pmCode 72 17 = some (.getstatic 68) ∧ 17 + 3 = 20 := ⟨rfl, rfl⟩
theorem xc72_20 : pmCode 72 20 = some (.invokevirtual 71) ∧ 20 + 3 = 23 := ⟨rfl, rfl⟩
theorem xc72_23 : pmCode 72 23 = some (.aload_n 0) ∧ 23 + 1 = 24 := ⟨rfl, rfl⟩
theorem xc72_24 : pmCode 72 24 = some (.lload_n 1) ∧ 24 + 1 = 25 := ⟨rfl, rfl⟩
theorem xc72_25 : pmCode 72 25 = some (.getstatic 68) ∧ 25 + 3 = 28 := ⟨rfl, rfl⟩
theorem xc72_28 : pmCode 72 28 = some (.invokevirtual 75) ∧ 28 + 3 = 31 := ⟨rfl, rfl⟩
theorem xc72_31 : pmCode 72 31 = some (.aload_n 0) ∧ 31 + 1 = 32 := ⟨rfl, rfl⟩
theorem xc72_32 : pmCode 72 32 = some (.invokevirtual 78) ∧ 32 + 3 = 35 := ⟨rfl, rfl⟩
theorem xc72_35 : pmCode 72 35 = some (.ifCond .ne 7) ∧ ((35 : Nat) : Int) + 7 = ((42 : Nat) : Int) ∧ 35 + 3 = 38 := ⟨rfl, rfl, rfl⟩
theorem xc72_38 : pmCode 72 38 = some (.iconst 1) ∧ 38 + 1 = 39 := ⟨rfl, rfl⟩
theorem xc72_39 : pmCode 72 39 = some (.goto 4) ∧ ((39 : Nat) : Int) + 4 = ((43 : Nat) : Int) := ⟨rfl, rfl⟩
theorem xc72_42 : pmCode 72 42 = some (.iconst 0) ∧ 42 + 1 = 43 := ⟨rfl, rfl⟩
theorem xc72_43 : pmCode 72 43 = some .ireturn := rfl
theorem xc78_0 : pmCode 78 0 = some (.aload_n 0) ∧ 0 + 1 = 1 := ⟨rfl, rfl⟩
theorem xc78_1 : pmCode 78 1 = some (.getfield 15) ∧ 1 + 3 = 4 := ⟨rfl, rfl⟩
theorem xc78_4 : pmCode 78 4 = some (.iconst 1) ∧ 4 + 1 = 5 := ⟨rfl, rfl⟩
theorem xc78_5 : pmCode 78 5 = some .iaload ∧ 5 + 1 = 6 := ⟨rfl, rfl⟩
theorem xc78_6 : pmCode 78 6 = some (.istore_n 1) ∧ 6 + 1 = 7 := ⟨rfl, rfl⟩
theorem xc78_7 : pmCode 78 7 = some (.iconst 2) ∧ 7 + 1 = 8 := ⟨rfl, rfl⟩
theorem xc78_8 : pmCode 78 8 = some (.istore_n 2) ∧ 8 + 1 = 9 := ⟨rfl, rfl⟩
theorem xc78_9 : pmCode 78 9 = some (.iload_n 2) ∧ 9 + 1 = 10 := ⟨rfl, rfl⟩
theorem xc78_10 : pmCode 78 10 = some (.iconst 5) ∧ 10 + 1 = 11 := ⟨rfl, rfl⟩
theorem xc78_11 : pmCode 78 11 = some (.if_icmp .gt 20) ∧ ((11 : Nat) : Int) + 20 = ((31 : Nat) : Int) ∧ 11 + 3 = 14 := ⟨rfl, rfl, rfl⟩
theorem xc78_14 : pmCode 78 14 = some (.iload_n 1) ∧ 14 + 1 = 15 := ⟨rfl, rfl⟩
theorem xc78_15 : pmCode 78 15 = some (.aload_n 0) ∧ 15 + 1 = 16 := ⟨rfl, rfl⟩
theorem xc78_16 : pmCode 78 16 = some (.getfield 15) ∧ 16 + 3 = 19 := ⟨rfl, rfl⟩
theorem xc78_19 : pmCode 78 19 = some (.iload_n 2) ∧ 19 + 1 = 20 := ⟨rfl, rfl⟩
theorem xc78_20 : pmCode 78 20 = some .iaload ∧ 20 + 1 = 21 := ⟨rfl, rfl⟩
theorem xc78_21 : pmCode 78 21 = some (.invokestatic 25) ∧ 21 + 3 = 24 := ⟨rfl, rfl⟩
theorem xc78_24 : pmCode 78 24 = some (.istore_n 1) ∧ 24 + 1 = 25 := ⟨rfl, rfl⟩
theorem xc78_25 : pmCode 78 25 = some (.iinc 2 1) ∧ 25 + 3 = 28 := ⟨rfl, rfl⟩
theorem xc78_28 : pmCode 78 28 = some (.goto (-19)) ∧ ((28 : Nat) : Int) + (-19) = ((9 : Nat) : Int) := ⟨rfl, rfl⟩
theorem xc78_31 : pmCode 78 31 = some (.iload_n 1) ∧ 31 + 1 = 32 := ⟨rfl, rfl⟩
theorem xc78_32 : pmCode 78 32 = some .ireturn := rfl
theorem xc79_0 : pmCode 79 0 = some (.iload_n 3) ∧ 0 + 1 = 1 := ⟨rfl, rfl⟩
theorem xc79_1 : pmCode 79 1 = some (.aload_n 0) ∧ 1 + 1 = 2 := ⟨rfl, rfl⟩
theorem xc79_2 : pmCode 79 2 = some (.getfield 101) ∧ 2 + 3 = 5 := ⟨rfl, rfl⟩
theorem xc79_5 : pmCode 79 5 = some (.if_icmp .ge 8) ∧ ((5 : Nat) : Int) + 8 = ((13 : Nat) : Int) ∧ 5 + 3 = 8 := ⟨rfl, rfl, rfl⟩
theorem xc79_8 : pmCode 79 8 = some (.iload_n 3) ∧ 8 + 1 = 9 := ⟨rfl, rfl⟩
theorem xc79_9 : pmCode 79 9 = some (.iconst 4) ∧ 9 + 1 = 10 := ⟨rfl, rfl⟩
theorem xc79_10 : pmCode 79 10 = some (.if_icmp .lt 4) ∧ ((10 : Nat) : Int) + 4 = ((14 : Nat) : Int) ∧ 10 + 3 = 13 := ⟨rfl, rfl, rfl⟩
theorem xc79_13 : pmCode 79 13 = some .return_ := rfl
theorem xc79_14 : pmCode 79 14 = some (.aload_n 0) ∧ 14 + 1 = 15 := ⟨rfl, rfl⟩
theorem xc79_15 : pmCode 79 15 = some (.getfield 37) ∧ 15 + 3 = 18 := ⟨rfl, rfl⟩
theorem xc79_18 : pmCode 79 18 = some (.astore 7) ∧ 18 + 2 = 20 := ⟨rfl, rfl⟩
theorem xc79_20 : pmCode 79 20 = some (.iconst 1) ∧ 20 + 1 = 21 := ⟨rfl, rfl⟩
theorem xc79_21 : pmCode 79 21 = some (.istore 8) ∧ 21 + 2 = 23 := ⟨rfl, rfl⟩
theorem xc79_23 : pmCode 79 23 = some (.iload 8) ∧ 23 + 2 = 25 := ⟨rfl, rfl⟩
theorem xc79_25 : pmCode 79 25 = some (.bipush 42) ∧ 25 + 2 = 27 := ⟨rfl, rfl⟩
theorem xc79_27 : pmCode 79 27 = some (.if_icmp .ge 200) ∧ ((27 : Nat) : Int) + 200 = ((227 : Nat) : Int) ∧ 27 + 3 = 30 := ⟨rfl, rfl, rfl⟩
theorem xc79_30 : pmCode 79 30 = some (.aload 7) ∧ 30 + 2 = 32 := ⟨rfl, rfl⟩
theorem xc79_32 : pmCode 79 32 = some (.getfield 108) ∧ 32 + 3 = 35 := ⟨rfl, rfl⟩
theorem xc79_35 : pmCode 79 35 = some (.iload 8) ∧ 35 + 2 = 37 := ⟨rfl, rfl⟩
theorem xc79_37 : pmCode 79 37 = some .iaload ∧ 37 + 1 = 38 := ⟨rfl, rfl⟩
theorem xc79_38 : pmCode 79 38 = some (.istore 9) ∧ 38 + 2 = 40 := ⟨rfl, rfl⟩
theorem xc79_40 : pmCode 79 40 = some (.iload 4) ∧ 40 + 2 = 42 := ⟨rfl, rfl⟩
theorem xc79_42 : pmCode 79 42 = some (.aload 7) ∧ 42 + 2 = 44 := ⟨rfl, rfl⟩
theorem xc79_44 : pmCode 79 44 = some (.getfield 111) ∧ 44 + 3 = 47 := ⟨rfl, rfl⟩
theorem xc79_47 : pmCode 79 47 = some (.iload 9) ∧ 47 + 2 = 49 := ⟨rfl, rfl⟩
theorem xc79_49 : pmCode 79 49 = some (.bipush 6) ∧ 49 + 2 = 51 := ⟨rfl, rfl⟩
theorem xc79_51 : pmCode 79 51 = some .ishr ∧ 51 + 1 = 52 := ⟨rfl, rfl⟩
theorem xc79_52 : pmCode 79 52 = some .iaload ∧ 52 + 1 = 53 := ⟨rfl, rfl⟩
theorem xc79_53 : pmCode 79 53 = some .iadd ∧ 53 + 1 = 54 := ⟨rfl, rfl⟩
theorem xc79_54 : pmCode 79 54 = some (.istore 10) ∧ 54 + 2 = 56 := ⟨rfl, rfl⟩
theorem xc79_56 : pmCode 79 56 = some (.iload 10) ∧ 56 + 2 = 58 := ⟨rfl, rfl⟩
theorem xc79_58 : pmCode 79 58 = some (.aload_n 0) ∧ 58 + 1 = 59 := ⟨rfl, rfl⟩
theorem xc79_59 : pmCode 79 59 = some (.getfield 89) ∧ 59 + 3 = 62 := ⟨rfl, rfl⟩
theorem xc79_62 : pmCode 79 62 = some (.if_icmp .ge 159) ∧ ((62 : Nat) : Int) + 159 = ((221 : Nat) : Int) ∧ 62 + 3 = 65 := ⟨rfl, rfl, rfl⟩
theorem xc79_65 : pmCode 79 65 = some (.aload 7) ∧ 65 + 2 = 67 := ⟨rfl, rfl⟩
theorem xc79_67 : pmCode 79 67 = some (.lload_n 1) ∧ 67 + 1 = 68 := ⟨rfl, rfl⟩
theorem xc79_68 : pmCode 79 68 = some (.aload_n 0) ∧ 68 + 1 = 69 := ⟨rfl, rfl⟩
theorem xc79_69 : pmCode 79 69 = some (.getfield 61) ∧ 69 + 3 = 72 := ⟨rfl, rfl⟩
theorem xc79_72 : pmCode 79 72 = some (.iload 9) ∧ 72 + 2 = 74 := ⟨rfl, rfl⟩
theorem xc79_74 : pmCode 79 74 = some (.invokevirtual 114) ∧ 74 + 3 = 77 := ⟨rfl, rfl⟩
theorem xc79_77 : pmCode 79 77 = some (.ifCond .ne 6) ∧ ((77 : Nat) : Int) + 6 = ((83 : Nat) : Int) ∧ 77 + 3 = 80 := ⟨rfl, rfl, rfl⟩
theorem xc79_80 : pmCode 79 80 = some (.goto 141) ∧ ((80 : Nat) : Int) + 141 = ((221 : Nat) : Int) := ⟨rfl, rfl⟩
theorem xc79_83 : pmCode 79 83 = some (.aload 7) ∧ 83 + 2 = 85 := ⟨rfl, rfl⟩
theorem xc79_85 : pmCode 79 85 = some (.lload_n 1) ∧ 85 + 1 = 86 := ⟨rfl, rfl⟩
theorem xc79_86 : pmCode 79 86 = some (.aload_n 0) ∧ 86 + 1 = 87 := ⟨rfl, rfl⟩
theorem xc79_87 : pmCode 79 87 = some (.getfield 61) ∧ 87 + 3 = 90 := ⟨rfl, rfl⟩
theorem xc79_90 : pmCode 79 90 = some (.iload 9) ∧ 90 + 2 = 92 := ⟨rfl, rfl⟩
theorem xc79_92 : pmCode 79 92 = some (.invokevirtual 117) ∧ 92 + 3 = 95 := ⟨rfl, rfl⟩
theorem xc79_95 : pmCode 79 95 = some (.lstore 11) ∧ 95 + 2 = 97 := ⟨rfl, rfl⟩
theorem xc79_97 : pmCode 79 97 = some (.lload 5) ∧ 97 + 2 = 99 := ⟨rfl, rfl⟩
theorem xc79_99 : pmCode 79 99 = some (.iload 9) ∧ 99 + 2 = 101 := ⟨rfl, rfl⟩
theorem xc79_101 : pmCode 79 101 = some .i2l ∧ 101 + 1 = 102 := ⟨rfl, rfl⟩
theorem xc79_102 : pmCode 79 102 = some (.bipush 9) ∧ 102 + 2 = 104 := ⟨rfl, rfl⟩
theorem xc79_104 : pmCode 79 104 = some (.iload_n 3) ∧ 104 + 1 = 105 := ⟨rfl, rfl⟩
theorem xc79_105 : pmCode 79 105 = some .imul ∧ 105 + 1 = 106 := ⟨rfl, rfl⟩
theorem xc79_106 : pmCode 79 106 = some .lshl ∧ 106 + 1 = 107 := ⟨rfl, rfl⟩
theorem xc79_107 : pmCode 79 107 = some .lor ∧ 107 + 1 = 108 := ⟨rfl, rfl⟩
theorem xc79_108 : pmCode 79 108 = some (.lstore 13) ∧ 108 + 2 = 110 := ⟨rfl, rfl⟩
theorem xc79_110 : pmCode 79 110 = some (.aload_n 0) ∧ 110 + 1 = 111 := ⟨rfl, rfl⟩
theorem xc79_111 : pmCode 79 111 = some (.lload 11) ∧ 111 + 2 = 113 := ⟨rfl, rfl⟩
theorem xc79_113 : pmCode 79 113 = some (.getstatic 68) ∧ 113 + 3 = 116 := ⟨rfl, rfl⟩
theorem xc79_116 : pmCode 79 116 = some (.invokevirtual 71) ∧ 116 + 3 = 119 := ⟨rfl, rfl⟩
theorem xc79_119 : pmCode 79 119 = some (.aload_n 0) ∧ 119 + 1 = 120 := ⟨rfl, rfl⟩
theorem xc79_120 : pmCode 79 120 = some (.lload 11) ∧ 120 + 2 = 122 := ⟨rfl, rfl⟩
theorem xc79_122 : pmCode 79 122 = some (.getstatic 68) ∧ 122 + 3 = 125 := ⟨rfl, rfl⟩
theorem xc79_125 : pmCode 79 125 = some (.invokevirtual 75) ∧ 125 + 3 = 128 := ⟨rfl, rfl⟩
theorem xc79_128 : pmCode 79 128 = some (.aload_n 0) ∧ 128 + 1 = 129 := ⟨rfl, rfl⟩
theorem xc79_129 : pmCode 79 129 = some (.invokevirtual 78) ∧ 129 + 3 = 132 := ⟨rfl, rfl⟩
theorem xc79_132 : pmCode 79 132 = some (.istore 15) ∧ 132 + 2 = 134 := ⟨rfl, rfl⟩
theorem xc79_134 : pmCode 79 134 = some (.iload 15) ∧ 134 + 2 = 136 := ⟨rfl, rfl⟩
theorem xc79_136 : pmCode 79 136 = some (.ifCond .ne 25) ∧ ((136 : Nat) : Int) + 25 = ((161 : Nat) : Int) ∧ 136 + 3 = 139 := ⟨rfl, rfl, rfl⟩
theorem xc79_139 : pmCode 79 139 = some (.aload_n 0) ∧ 139 + 1 = 140 := ⟨rfl, rfl⟩
theorem xc79_140 : pmCode 79 140 = some (.iload 10) ∧ 140 + 2 = 142 := ⟨rfl, rfl⟩
theorem xc79_142 : pmCode 79 142 = some (.putfield 89) ∧ 142 + 3 = 145 := ⟨rfl, rfl⟩
theorem xc79_145 : pmCode 79 145 = some (.aload_n 0) ∧ 145 + 1 = 146 := ⟨rfl, rfl⟩
theorem xc79_146 : pmCode 79 146 = some (.lload 13) ∧ 146 + 2 = 148 := ⟨rfl, rfl⟩
theorem xc79_148 : pmCode 79 148 = some (.iload 10) ∧ 148 + 2 = 150 := ⟨rfl, rfl⟩
theorem xc79_150 : pmCode 79 150 = some .i2l ∧ 150 + 1 = 151 := ⟨rfl, rfl⟩
theorem xc79_151 : pmCode 79 151 = some (.bipush 36) ∧ 151 + 2 = 153 := ⟨rfl, rfl⟩
theorem xc79_153 : pmCode 79 153 = some .lshl ∧ 153 + 1 = 154 := ⟨rfl, rfl⟩
theorem xc79_154 : pmCode 79 154 = some .lor ∧ 154 + 1 = 155 := ⟨rfl, rfl⟩
theorem xc79_155 : pmCode 79 155 = some (.putfield 84) ∧ 155 + 3 = 158 := ⟨rfl, rfl⟩
theorem xc79_158 : pmCode 79 158 = some (.goto 63) ∧ ((158 : Nat) : Int) + 63 = ((221 : Nat) : Int) := ⟨rfl, rfl⟩
theorem xc79_161 : pmCode 79 161 = some (.iload 15) ∧ 161 + 2 = 163 := ⟨rfl, rfl⟩
theorem xc79_163 : pmCode 79 163 = some (.aload_n 0) ∧ 163 + 1 = 164 := ⟨rfl, rfl⟩
theorem xc79_164 : pmCode 79 164 = some (.getfield 101) ∧ 164 + 3 = 167 := ⟨rfl, rfl⟩
theorem xc79_167 : pmCode 79 167 = some (.iload_n 3) ∧ 167 + 1 = 168 := ⟨rfl, rfl⟩
theorem xc79_168 : pmCode 79 168 = some .isub ∧ 168 + 1 = 169 := ⟨rfl, rfl⟩
theorem xc79_169 : pmCode 79 169 = some (.if_icmp .ge 52) ∧ ((169 : Nat) : Int) + 52 = ((221 : Nat) : Int) ∧ 169 + 3 = 172 := ⟨rfl, rfl, rfl⟩
theorem xc79_172 : pmCode 79 172 = some (.aload_n 0) ∧ 172 + 1 = 173 := ⟨rfl, rfl⟩
theorem xc79_173 : pmCode 79 173 = some (.lload 11) ∧ 173 + 2 = 175 := ⟨rfl, rfl⟩
theorem xc79_175 : pmCode 79 175 = some (.aload 7) ∧ 175 + 2 = 177 := ⟨rfl, rfl⟩
theorem xc79_177 : pmCode 79 177 = some (.getfield 111) ∧ 177 + 3 = 180 := ⟨rfl, rfl⟩
theorem xc79_180 : pmCode 79 180 = some (.invokevirtual 71) ∧ 180 + 3 = 183 := ⟨rfl, rfl⟩
theorem xc79_183 : pmCode 79 183 = some (.aload_n 0) ∧ 183 + 1 = 184 := ⟨rfl, rfl⟩
theorem xc79_184 : pmCode 79 184 = some (.lload 11) ∧ 184 + 2 = 186 := ⟨rfl, rfl⟩
theorem xc79_186 : pmCode 79 186 = some (.aload 7) ∧ 186 + 2 = 188 := ⟨rfl, rfl⟩
theorem xc79_188 : pmCode 79 188 = some (.getfield 111) ∧ 188 + 3 = 191 := ⟨rfl, rfl⟩
theorem xc79_191 : pmCode 79 191 = some (.invokevirtual 75) ∧ 191 + 3 = 194 := ⟨rfl, rfl⟩
theorem xc79_194 : pmCode 79 194 = some (.iload 10) ∧ 194 + 2 = 196 := ⟨rfl, rfl⟩
theorem xc79_196 : pmCode 79 196 = some (.aload_n 0) ∧ 196 + 1 = 197 := ⟨rfl, rfl⟩
theorem xc79_197 : pmCode 79 197 = some (.invokevirtual 78) ∧ 197 + 3 = 200 := ⟨rfl, rfl⟩
theorem xc79_200 : pmCode 79 200 = some .iadd ∧ 200 + 1 = 201 := ⟨rfl, rfl⟩
theorem xc79_201 : pmCode 79 201 = some (.aload_n 0) ∧ 201 + 1 = 202 := ⟨rfl, rfl⟩
theorem xc79_202 : pmCode 79 202 = some (.getfield 89) ∧ 202 + 3 = 205 := ⟨rfl, rfl⟩
theorem xc79_205 : pmCode 79 205 = some (.if_icmp .ge 16) ∧ ((205 : Nat) : Int) + 16 = ((221 : Nat) : Int) ∧ 205 + 3 = 208 := ⟨rfl, rfl, rfl⟩
theorem xc79_208 : pmCode 79 208 = some (.aload_n 0) ∧ 208 + 1 = 209 := ⟨rfl, rfl⟩
theorem xc79_209 : pmCode 79 209 = some (.lload 11) ∧ 209 + 2 = 211 := ⟨rfl, rfl⟩
theorem xc79_211 : pmCode 79 211 = some (.iload_n 3) ∧ 211 + 1 = 212 := ⟨rfl, rfl⟩
theorem xc79_212 : pmCode 79 212 = some (.iconst 1) ∧ 212 + 1 = 213 := ⟨rfl, rfl⟩
theorem xc79_213 : pmCode 79 213 = some .iadd ∧ 213 + 1 = 214 := ⟨rfl, rfl⟩
theorem xc79_214 : pmCode 79 214 = some (.iload 10) ∧ 214 + 2 = 216 := ⟨rfl, rfl⟩
theorem xc79_216 : pmCode 79 216 = some (.lload 13) ∧ 216 + 2 = 218 := ⟨rfl, rfl⟩
theorem xc79_218 : pmCode 79 218 = some (.invokestatic 104) ∧ 218 + 3 = 221 := ⟨rfl, rfl⟩
theorem xc79_221 : pmCode 79 221 = some (.iinc 8 1) ∧ 221 + 3 = 224 := ⟨rfl, rfl⟩
theorem xc79_224 : pmCode 79 224 = some (.goto (-201)) ∧ ((224 : Nat) : Int) + (-201) = ((23 : Nat) : Int) := ⟨rfl, rfl⟩
theorem xc79_227 : pmCode 79 227 = some .return_ := rfl
theorem w72 {Ln : Nat} {xs : Nat → Int32} {d : Nat} {Q : Option Value → pmS → Prop} {l : Int64} {p k : Int} {a : xA} {b : xB}
    (k1 : pmCs (pmRo Ln xs) d 73 [.ref 34, .long l, .ref 1000] (xS (xU (xU a 34 10 p) 34 11 (p * 3 + k)) b) fun r σ' => pmWp (pmRo Ln xs) d 3 72 2 23 [some (.ref 34), some (.long l), none, some (xV p), some (xV k)] (r.toList ++ []) σ' Q) :
    pmWp (pmRo Ln xs) d 3 72 2 0 [some (.ref 34), some (.long l), none, some (xV p), some (xV k)] [] (xS a b) Q := by
  refine x_aloadn xc72_0 rfl ?_
  refine x_iloadn xc72_1 rfl ?_
  refine x_pfi (k := 10) xc72_2 rfl ⟨rfl, rfl⟩ rfl xz34 ?_
  refine x_aloadn xc72_5 rfl ?_
  refine x_iloadn xc72_6 rfl ?_
  refine x_iconst xc72_7 ?_
  refine x_imul xc72_8 ?_
  refine x_iload xc72_9 rfl ?_
  refine x_iadd xc72_11 ?_
  refine x_pfi (k := 11) xc72_12 rfl ⟨rfl, rfl⟩ rfl xz34 ?_
  refine x_aloadn xc72_15 rfl ?_
  refine x_lloadn xc72_16 rfl ?_
  refine x_gst xc72_17 rfl ?_
  refine x_cV (as := [.long l, .ref 1000]) (rest := []) xc72_20 rfl xi73 xz34 ⟨rfl, rfl⟩ rfl rfl ?_
  exact k1

theorem xg72 {ro : Nat → Nat × (Nat → Int32)} {d : Nat} {Q : Option Value → pmS → Prop} {a : xA} {b : xB} {p k : Int} {l : Int64} (h : pmWp ro d 3 72 2 0 [some (.ref 34), some (.long l), none, some (xV p), some (xV k)] [] (xS a b) Q) : pmCs ro (d + 1) 72 [.ref 34, .long l, xV p, xV k] (xS a b) Q := x_go xi72 rfl rfl rfl rfl rfl h
theorem w72b {Ln : Nat} {xs : Nat → Int32} {d : Nat} {Q : Option Value → pmS → Prop} {l : Int64} {p k : Int} {a : xA} {b : xB}
    (k1 : pmCs (pmRo Ln xs) d 74 [.ref 34, .long l, .ref 1000] (xS a b) fun r σ' => pmWp (pmRo Ln xs) d 3 72 2 31 [some (.ref 34), some (.long l), none, some (xV p), some (xV k)] (r.toList ++ []) σ' Q) :
    pmWp (pmRo Ln xs) d 3 72 2 23 [some (.ref 34), some (.long l), none, some (xV p), some (xV k)] [] (xS a b) Q := by
  refine x_aloadn xc72_23 rfl ?_
  refine x_lloadn xc72_24 rfl ?_
  refine x_gst xc72_25 rfl ?_
  refine x_cV (as := [.long l, .ref 1000]) (rest := []) xc72_28 rfl xi74 xz34 ⟨rfl, rfl⟩ rfl rfl ?_
  exact k1

theorem w72c {Ln : Nat} {xs : Nat → Int32} {d : Nat} {Q : Option Value → pmS → Prop} {l : Int64} {p k : Int} {a : xA} {b : xB}
    (k1 : pmCs (pmRo Ln xs) d 75 [.ref 34] (xS a b) fun r σ' => pmWp (pmRo Ln xs) d 3 72 2 35 [some (.ref 34), some (.long l), none, some (xV p), some (xV k)] (r.toList ++ []) σ' Q) :
    pmWp (pmRo Ln xs) d 3 72 2 31 [some (.ref 34), some (.long l), none, some (xV p), some (xV k)] [] (xS a b) Q := by
  refine x_aloadn xc72_31 rfl ?_
  refine x_cV (as := []) (rest := []) xc72_32 rfl xi75 xz34 ⟨rfl, rfl⟩ rfl rfl ?_
  exact k1

theorem w72d {Ln : Nat} {xs : Nat → Int32} {d : Nat} {Q : Option Value → pmS → Prop} {l : Int64} {p k : Int} {a : xA} {b : xB} {z : Int} (hz : 0 ≤ z ∧ z ≤ 2000000)
    (k1 : (¬ z = 0) → Q (some (xV 0)) (xS a b))
    (k2 : (z = 0) → Q (some (xV 1)) (xS a b)) :
    pmWp (pmRo Ln xs) d 3 72 2 35 [some (.ref 34), some (.long l), none, some (xV p), some (xV k)] [xV z] (xS a b) Q := by
  refine x_ifne xc72_35 (xRk (by have g0 := hz; omega)) (fun h0 => ?_) (fun h0 => ?_)
  · refine x_iconst xc72_42 ?_
    refine x_iret xc72_43 (Or.inr ⟨rfl, (by omega)⟩) ?_
    exact k1 h0
  · replace h0 := Classical.not_not.mp h0
    refine x_iconst xc72_38 ?_
    refine x_goto xc72_39 ?_
    refine x_iret xc72_43 (Or.inr ⟨rfl, (by omega)⟩) ?_
    exact k2 h0

theorem w78 {ro : Nat → Nat × (Nat → Int32)} {d : Nat} {Q : Option Value → pmS → Prop} {a : xA} {b : xB} (hc : ∀ i, 1 ≤ i → i ≤ 5 → 1 ≤ a 5 i ∧ a 5 i ≤ 73)
    (k1 : Q (some (xV (if a 5 (2 + 1 + 1 + 1) < if a 5 (2 + 1 + 1) < if a 5 (2 + 1) < if a 5 2 < a 5 1 then a 5 2 else a 5 1 then a 5 (2 + 1) else if a 5 2 < a 5 1 then a 5 2 else a 5 1 then a 5 (2 + 1 + 1) else if a 5 (2 + 1) < if a 5 2 < a 5 1 then a 5 2 else a 5 1 then a 5 (2 + 1) else if a 5 2 < a 5 1 then a 5 2 else a 5 1 then a 5 (2 + 1 + 1 + 1) else if a 5 (2 + 1 + 1) < if a 5 (2 + 1) < if a 5 2 < a 5 1 then a 5 2 else a 5 1 then a 5 (2 + 1) else if a 5 2 < a 5 1 then a 5 2 else a 5 1 then a 5 (2 + 1 + 1) else if a 5 (2 + 1) < if a 5 2 < a 5 1 then a 5 2 else a 5 1 then a 5 (2 + 1) else if a 5 2 < a 5 1 then a 5 2 else a 5 1))) (xS a b)) :
    pmWp ro d 5 78 1 0 [some (.ref 3), none, none] [] (xS a b) Q := by
  refine x_aloadn xc78_0 rfl ?_
  refine x_gfr xc78_1 rfl rfl xz3 rfl ?_
  refine x_iconst xc78_4 ?_
  refine x_ial xc78_5 xz5 rfl (by omega) (by omega) (by omega) ?_
  refine x_istoren (pl' := [some (.ref 3), some (xV (a 5 1)), none]) xc78_6 rfl rfl ?_
  refine x_iconst xc78_7 ?_
  refine x_istoren (pl' := [some (.ref 3), some (xV (a 5 1)), some (xV 2)]) xc78_8 rfl rfl ?_
  refine x_iloadn xc78_9 rfl ?_
  refine x_iconst xc78_10 ?_
  refine x_icgt xc78_11 (xRk (by decide)) (xRk (by decide)) (fun h => absurd h (by omega)) (fun _ => ?_)
  refine x_iloadn xc78_14 rfl ?_
  refine x_aloadn xc78_15 rfl ?_
  refine x_gfr xc78_16 rfl rfl xz3 rfl ?_
  refine x_iloadn xc78_19 rfl ?_
  refine x_ial xc78_20 xz5 rfl (by omega) (by omega) (by omega) ?_
  refine x_min xc78_21 rfl (xRk (by have g0 := hc 1 (by omega) (by omega); omega)) (xRk (by have g0 := hc 2 (by omega) (by omega); omega)) rfl ?_
  refine x_istoren (pl' := [some (.ref 3), some (xV (if a 5 2 < a 5 1 then a 5 2 else a 5 1)), some (xV 2)]) xc78_24 rfl rfl ?_
  refine x_iinc (pl' := [some (.ref 3), some (xV (if a 5 2 < a 5 1 then a 5 2 else a 5 1)), some (xV (2 + 1))]) xc78_25 rfl rfl ?_
  refine x_goto xc78_28 ?_
  refine x_iloadn xc78_9 rfl ?_
  refine x_iconst xc78_10 ?_
  refine x_icgt xc78_11 (xRk (by decide)) (xRk (by decide)) (fun h => absurd h (by omega)) (fun _ => ?_)
  refine x_iloadn xc78_14 rfl ?_
  refine x_aloadn xc78_15 rfl ?_
  refine x_gfr xc78_16 rfl rfl xz3 rfl ?_
  refine x_iloadn xc78_19 rfl ?_
  refine x_ial xc78_20 xz5 rfl (by omega) (by omega) (by omega) ?_
  refine x_min xc78_21 rfl (xRk (by have g0 := hc 1 (by omega) (by omega); have g1 := hc 2 (by omega) (by omega); omega)) (xRk (by have g0 := hc (2 + 1) (by omega) (by omega); omega)) rfl ?_
  refine x_istoren (pl' := [some (.ref 3), some (xV (if a 5 (2 + 1) < if a 5 2 < a 5 1 then a 5 2 else a 5 1 then a 5 (2 + 1) else if a 5 2 < a 5 1 then a 5 2 else a 5 1)), some (xV (2 + 1))]) xc78_24 rfl rfl ?_
  refine x_iinc (pl' := [some (.ref 3), some (xV (if a 5 (2 + 1) < if a 5 2 < a 5 1 then a 5 2 else a 5 1 then a 5 (2 + 1) else if a 5 2 < a 5 1 then a 5 2 else a 5 1)), some (xV (2 + 1 + 1))]) xc78_25 rfl rfl ?_
  refine x_goto xc78_28 ?_
  refine x_iloadn xc78_9 rfl ?_
  refine x_iconst xc78_10 ?_
  refine x_icgt xc78_11 (xRk (by decide)) (xRk (by decide)) (fun h => absurd h (by omega)) (fun _ => ?_)
  refine x_iloadn xc78_14 rfl ?_
  refine x_aloadn xc78_15 rfl ?_
  refine x_gfr xc78_16 rfl rfl xz3 rfl ?_
  refine x_iloadn xc78_19 rfl ?_
  refine x_ial xc78_20 xz5 rfl (by omega) (by omega) (by omega) ?_
  refine x_min xc78_21 rfl (xRk (by have g0 := hc 1 (by omega) (by omega); have g1 := hc 2 (by omega) (by omega); have g2 := hc (2 + 1) (by omega) (by omega); omega)) (xRk (by have g0 := hc (2 + 1 + 1) (by omega) (by omega); omega)) rfl ?_
  refine x_istoren (pl' := [some (.ref 3), some (xV (if a 5 (2 + 1 + 1) < if a 5 (2 + 1) < if a 5 2 < a 5 1 then a 5 2 else a 5 1 then a 5 (2 + 1) else if a 5 2 < a 5 1 then a 5 2 else a 5 1 then a 5 (2 + 1 + 1) else if a 5 (2 + 1) < if a 5 2 < a 5 1 then a 5 2 else a 5 1 then a 5 (2 + 1) else if a 5 2 < a 5 1 then a 5 2 else a 5 1)), some (xV (2 + 1 + 1))]) xc78_24 rfl rfl ?_
  refine x_iinc (pl' := [some (.ref 3), some (xV (if a 5 (2 + 1 + 1) < if a 5 (2 + 1) < if a 5 2 < a 5 1 then a 5 2 else a 5 1 then a 5 (2 + 1) else if a 5 2 < a 5 1 then a 5 2 else a 5 1 then a 5 (2 + 1 + 1) else if a 5 (2 + 1) < if a 5 2 < a 5 1 then a 5 2 else a 5 1 then a 5 (2 + 1) else if a 5 2 < a 5 1 then a 5 2 else a 5 1)), some (xV (2 + 1 + 1 + 1))]) xc78_25 rfl rfl ?_
  refine x_goto xc78_28 ?_
  refine x_iloadn xc78_9 rfl ?_
  refine x_iconst xc78_10 ?_
  refine x_icgt xc78_11 (xRk (by decide)) (xRk (by decide)) (fun h => absurd h (by omega)) (fun _ => ?_)
  refine x_iloadn xc78_14 rfl ?_
  refine x_aloadn xc78_15 rfl ?_
  refine x_gfr xc78_16 rfl rfl xz3 rfl ?_
  refine x_iloadn xc78_19 rfl ?_
  refine x_ial xc78_20 xz5 rfl (by omega) (by omega) (by omega) ?_
  refine x_min xc78_21 rfl (xRk (by have g0 := hc 1 (by omega) (by omega); have g1 := hc 2 (by omega) (by omega); have g2 := hc (2 + 1) (by omega) (by omega); have g3 := hc (2 + 1 + 1) (by omega) (by omega); omega)) (xRk (by have g0 := hc (2 + 1 + 1 + 1) (by omega) (by omega); omega)) rfl ?_
  refine x_istoren (pl' := [some (.ref 3), some (xV (if a 5 (2 + 1 + 1 + 1) < if a 5 (2 + 1 + 1) < if a 5 (2 + 1) < if a 5 2 < a 5 1 then a 5 2 else a 5 1 then a 5 (2 + 1) else if a 5 2 < a 5 1 then a 5 2 else a 5 1 then a 5 (2 + 1 + 1) else if a 5 (2 + 1) < if a 5 2 < a 5 1 then a 5 2 else a 5 1 then a 5 (2 + 1) else if a 5 2 < a 5 1 then a 5 2 else a 5 1 then a 5 (2 + 1 + 1 + 1) else if a 5 (2 + 1 + 1) < if a 5 (2 + 1) < if a 5 2 < a 5 1 then a 5 2 else a 5 1 then a 5 (2 + 1) else if a 5 2 < a 5 1 then a 5 2 else a 5 1 then a 5 (2 + 1 + 1) else if a 5 (2 + 1) < if a 5 2 < a 5 1 then a 5 2 else a 5 1 then a 5 (2 + 1) else if a 5 2 < a 5 1 then a 5 2 else a 5 1)), some (xV (2 + 1 + 1 + 1))]) xc78_24 rfl rfl ?_
  refine x_iinc (pl' := [some (.ref 3), some (xV (if a 5 (2 + 1 + 1 + 1) < if a 5 (2 + 1 + 1) < if a 5 (2 + 1) < if a 5 2 < a 5 1 then a 5 2 else a 5 1 then a 5 (2 + 1) else if a 5 2 < a 5 1 then a 5 2 else a 5 1 then a 5 (2 + 1 + 1) else if a 5 (2 + 1) < if a 5 2 < a 5 1 then a 5 2 else a 5 1 then a 5 (2 + 1) else if a 5 2 < a 5 1 then a 5 2 else a 5 1 then a 5 (2 + 1 + 1 + 1) else if a 5 (2 + 1 + 1) < if a 5 (2 + 1) < if a 5 2 < a 5 1 then a 5 2 else a 5 1 then a 5 (2 + 1) else if a 5 2 < a 5 1 then a 5 2 else a 5 1 then a 5 (2 + 1 + 1) else if a 5 (2 + 1) < if a 5 2 < a 5 1 then a 5 2 else a 5 1 then a 5 (2 + 1) else if a 5 2 < a 5 1 then a 5 2 else a 5 1)), some (xV (2 + 1 + 1 + 1 + 1))]) xc78_25 rfl rfl ?_
  refine x_goto xc78_28 ?_
  refine x_iloadn xc78_9 rfl ?_
  refine x_iconst xc78_10 ?_
  refine x_icgt xc78_11 (xRk (by decide)) (xRk (by decide)) (fun _ => ?_) (fun h => absurd h (by omega))
  refine x_iloadn xc78_31 rfl ?_
  refine x_iret xc78_32 (Or.inl rfl) ?_
  exact k1

theorem xg78 {ro : Nat → Nat × (Nat → Int32)} {d : Nat} {Q : Option Value → pmS → Prop} {a : xA} {b : xB} (h : pmWp ro d 5 78 1 0 [some (.ref 3), none, none] [] (xS a b) Q) : pmCs ro (d + 1) 78 [.ref 3] (xS a b) Q := x_go xi78 rfl rfl rfl rfl rfl h
theorem w79 {Ln : Nat} {xs : Nat → Int32} {d : Nat} {Q : Option Value → pmS → Prop} {l row : Int64} {dp sp lim : Int} {a : xA} {b : xB} (hl : a 34 12 = lim) (hl0 : 0 ≤ lim ∧ lim ≤ 4) (hdp : 0 ≤ dp ∧ dp ≤ 4)
    (k1 : (lim ≤ dp) → Q none (xS a b))
    (k2 : (¬ lim ≤ dp) → (dp < 4) → pmWp (pmRo Ln xs) d 3 79 0 23 [some (.ref 34), some (.long l), none, some (xV dp), some (xV sp), some (.long row), none, some (.ref 3), some (xV 1), none, none, none, none, none, none, none] [] (xS a b) Q)
    (k3 : (¬ lim ≤ dp) → (¬ dp < 4) → Q none (xS a b)) :
    pmWp (pmRo Ln xs) d 3 79 0 0 [some (.ref 34), some (.long l), none, some (xV dp), some (xV sp), some (.long row), none, none, none, none, none, none, none, none, none, none] [] (xS a b) Q := by
  refine x_iloadn xc79_0 rfl ?_
  refine x_aloadn xc79_1 rfl ?_
  refine x_gfi' (k := 12) (v := lim) xc79_2 rfl (Or.inl rfl) rfl xz34 hl ?_
  refine x_icge xc79_5 (xRk (by have g0 := hdp; omega)) (xRk (by have g0 := hl0; omega)) (fun h0 => ?_) (fun h0 => ?_)
  · refine x_ret xc79_13 rfl ?_
    exact k1 h0
  · refine x_iloadn xc79_8 rfl ?_
    refine x_iconst xc79_9 ?_
    refine x_iclt xc79_10 (xRk (by have g0 := hdp; omega)) (xRk (by decide)) (fun h1 => ?_) (fun h1 => ?_)
    · refine x_aloadn xc79_14 rfl ?_
      refine x_gfr xc79_15 rfl rfl xz34 rfl ?_
      refine x_astore (pl' := [some (.ref 34), some (.long l), none, some (xV dp), some (xV sp), some (.long row), none, some (.ref 3), none, none, none, none, none, none, none, none]) xc79_18 rfl rfl ?_
      refine x_iconst xc79_20 ?_
      refine x_istore (pl' := [some (.ref 34), some (.long l), none, some (xV dp), some (xV sp), some (.long row), none, some (.ref 3), some (xV 1), none, none, none, none, none, none, none]) xc79_21 rfl rfl ?_
      exact k2 h0 h1
    · refine x_ret xc79_13 rfl ?_
      exact k3 h0 h1

theorem xg79 {ro : Nat → Nat × (Nat → Int32)} {d : Nat} {Q : Option Value → pmS → Prop} {a : xA} {b : xB} {dp sp : Int} {l row : Int64} (h : pmWp ro d 3 79 0 0 [some (.ref 34), some (.long l), none, some (xV dp), some (xV sp), some (.long row), none, none, none, none, none, none, none, none, none, none] [] (xS a b) Q) : pmCs ro (d + 1) 79 [.ref 34, .long l, xV dp, xV sp, .long row] (xS a b) Q := x_go xi79 rfl rfl rfl rfl rfl h
theorem w79x {Ln : Nat} {xs : Nat → Int32} {d : Nat} {Q : Option Value → pmS → Prop} {v10 : Option Value} {v11 : Option Value} {v12 : Option Value} {v13 : Option Value} {v14 : Option Value} {v15 : Option Value} {v9 : Option Value} {l row : Int64} {dp sp : Int} {a : xA} {b : xB}
    (k1 : Q none (xS a b)) :
    pmWp (pmRo Ln xs) d 3 79 0 23 [some (.ref 34), some (.long l), none, some (xV dp), some (xV sp), some (.long row), none, some (.ref 3), some (xV 42), v9, v10, v11, v12, v13, v14, v15] [] (xS a b) Q := by
  refine x_iload xc79_23 rfl ?_
  refine x_bipush xc79_25 (by decide) ?_
  refine x_icge xc79_27 (xRk (by decide)) (xRk (by decide)) (fun _ => ?_) (fun h => absurd h (by omega))
  refine x_ret xc79_227 rfl ?_
  exact k1

theorem w79a {Ln : Nat} {xs : Nat → Int32} {d : Nat} {Q : Option Value → pmS → Prop} {v10 : Option Value} {v11 : Option Value} {v12 : Option Value} {v13 : Option Value} {v14 : Option Value} {v15 : Option Value} {v9 : Option Value} {l row : Int64} {dp sp lim bc i : Int} {a : xA} {b : xB} (hl : a 34 12 = lim) (hl0 : 0 ≤ lim ∧ lim ≤ 4) (hbc : a 34 13 = bc) (hbc0 : 0 ≤ bc ∧ bc ≤ 100000) (hdp : 0 ≤ dp ∧ dp ≤ 4) (hsp : 0 ≤ sp ∧ sp ≤ 400) (hi : 1 ≤ i ∧ i < 42) {dd f cc : Int} (hde : a 4 i = dd) (hdd : 64 ≤ dd ∧ dd ≤ 383) (hf : a 34 10 = f) (hf0 : 1 ≤ f ∧ f ≤ 3) (hcc : a 5 (dd / 64) = cc) (hcc0 : 1 ≤ cc ∧ cc ≤ 73)
    (k1 : (42 ≤ i) → Q none (xS a b))
    (k2 : (¬ 42 ≤ i) → (bc ≤ sp + cc) → pmWp (pmRo Ln xs) d 3 79 0 23 [some (.ref 34), some (.long l), none, some (xV dp), some (xV sp), some (.long row), none, some (.ref 3), some (xV (i + 1)), some (xV dd), some (xV (sp + cc)), v11, v12, v13, v14, v15] [] (xS a b) Q)
    (k3 : (¬ 42 ≤ i) → (¬ bc ≤ sp + cc) → pmCs (pmRo Ln xs) d 80 [.ref 3, .long l, xV f, xV dd] (xS a b) fun r σ' => pmWp (pmRo Ln xs) d 3 79 0 77 [some (.ref 34), some (.long l), none, some (xV dp), some (xV sp), some (.long row), none, some (.ref 3), some (xV i), some (xV dd), some (xV (sp + cc)), v11, v12, v13, v14, v15] (r.toList ++ []) σ' Q) :
    pmWp (pmRo Ln xs) d 3 79 0 23 [some (.ref 34), some (.long l), none, some (xV dp), some (xV sp), some (.long row), none, some (.ref 3), some (xV i), v9, v10, v11, v12, v13, v14, v15] [] (xS a b) Q := by
  refine x_iload xc79_23 rfl ?_
  refine x_bipush xc79_25 (by decide) ?_
  refine x_icge xc79_27 (xRk (by have g0 := hi; omega)) (xRk (by decide)) (fun h0 => ?_) (fun h0 => ?_)
  · refine x_ret xc79_227 rfl ?_
    exact k1 h0
  · refine x_aload xc79_30 rfl ?_
    refine x_gfr xc79_32 rfl rfl xz3 rfl ?_
    refine x_iload xc79_35 rfl ?_
    refine x_ial' (v := dd) xc79_37 xz4 rfl (by have g0 := hi; omega) (by have g0 := hi; omega) (by have g0 := hi; omega) hde ?_
    refine x_istore (pl' := [some (.ref 34), some (.long l), none, some (xV dp), some (xV sp), some (.long row), none, some (.ref 3), some (xV i), some (xV dd), v10, v11, v12, v13, v14, v15]) xc79_38 rfl rfl ?_
    refine x_iload xc79_40 rfl ?_
    refine x_aload xc79_42 rfl ?_
    refine x_gfr xc79_44 rfl rfl xz3 rfl ?_
    refine x_iload xc79_47 rfl ?_
    refine x_bipush xc79_49 (by decide) ?_
    refine x_ishr (M := 64) (by omega) (by omega) (by decide) (xRk (by have g0 := hdd; omega)) xc79_51 ?_
    refine x_ial' (v := cc) xc79_52 xz5 rfl (by have g0 := hdd; omega) (by have g0 := hdd; omega) (by have g0 := hdd; omega) hcc ?_
    refine x_iadd xc79_53 ?_
    refine x_istore (pl' := [some (.ref 34), some (.long l), none, some (xV dp), some (xV sp), some (.long row), none, some (.ref 3), some (xV i), some (xV dd), some (xV (sp + cc)), v11, v12, v13, v14, v15]) xc79_54 rfl rfl ?_
    refine x_iload xc79_56 rfl ?_
    refine x_aloadn xc79_58 rfl ?_
    refine x_gfi' (k := 13) (v := bc) xc79_59 rfl (Or.inl rfl) rfl xz34 hbc ?_
    refine x_icge xc79_62 (xRk (by have g0 := hsp; have g1 := hcc0; omega)) (xRk (by have g0 := hbc0; omega)) (fun h1 => ?_) (fun h1 => ?_)
    · refine x_iinc (pl' := [some (.ref 34), some (.long l), none, some (xV dp), some (xV sp), some (.long row), none, some (.ref 3), some (xV (i + 1)), some (xV dd), some (xV (sp + cc)), v11, v12, v13, v14, v15]) xc79_221 rfl rfl ?_
      refine x_goto xc79_224 ?_
      exact k2 h0 h1
    · refine x_aload xc79_65 rfl ?_
      refine x_lloadn xc79_67 rfl ?_
      refine x_aloadn xc79_68 rfl ?_
      refine x_gfi' (k := 10) (v := f) xc79_69 rfl (Or.inl rfl) rfl xz34 hf ?_
      refine x_iload xc79_72 rfl ?_
      refine x_cV (as := [.long l, xV f, xV dd]) (rest := []) xc79_74 rfl xi80 xz3 ⟨rfl, rfl⟩ rfl rfl ?_
      exact k3 h0 h1

theorem w79b {Ln : Nat} {xs : Nat → Int32} {d : Nat} {Q : Option Value → pmS → Prop} {v11 : Option Value} {v12 : Option Value} {v13 : Option Value} {v14 : Option Value} {v15 : Option Value} {l row : Int64} {dp sp i dd co : Int} {a : xA} {b : xB} (hi : 1 ≤ i ∧ i < 42) (hdd : 64 ≤ dd ∧ dd ≤ 383) (hco0 : 0 ≤ co ∧ co ≤ 500) {f z : Int} (hf : a 34 10 = f) (hz : z = 0 ∨ z = 1)
    (k1 : (¬ z = 0) → pmCs (pmRo Ln xs) d 81 [.ref 3, .long l, xV f, xV dd] (xS a b) fun r σ' => pmWp (pmRo Ln xs) d 3 79 0 95 [some (.ref 34), some (.long l), none, some (xV dp), some (xV sp), some (.long row), none, some (.ref 3), some (xV i), some (xV dd), some (xV co), v11, v12, v13, v14, v15] (r.toList ++ []) σ' Q)
    (k2 : (z = 0) → pmWp (pmRo Ln xs) d 3 79 0 23 [some (.ref 34), some (.long l), none, some (xV dp), some (xV sp), some (.long row), none, some (.ref 3), some (xV (i + 1)), some (xV dd), some (xV co), v11, v12, v13, v14, v15] [] (xS a b) Q) :
    pmWp (pmRo Ln xs) d 3 79 0 77 [some (.ref 34), some (.long l), none, some (xV dp), some (xV sp), some (.long row), none, some (.ref 3), some (xV i), some (xV dd), some (xV co), v11, v12, v13, v14, v15] [xV z] (xS a b) Q := by
  refine x_ifne xc79_77 (xRk (by have g0 := hz; omega)) (fun h0 => ?_) (fun h0 => ?_)
  · refine x_aload xc79_83 rfl ?_
    refine x_lloadn xc79_85 rfl ?_
    refine x_aloadn xc79_86 rfl ?_
    refine x_gfi' (k := 10) (v := f) xc79_87 rfl (Or.inl rfl) rfl xz34 hf ?_
    refine x_iload xc79_90 rfl ?_
    refine x_cV (as := [.long l, xV f, xV dd]) (rest := []) xc79_92 rfl xi81 xz3 ⟨rfl, rfl⟩ rfl rfl ?_
    exact k1 h0
  · replace h0 := Classical.not_not.mp h0
    refine x_goto xc79_80 ?_
    refine x_iinc (pl' := [some (.ref 34), some (.long l), none, some (xV dp), some (xV sp), some (.long row), none, some (.ref 3), some (xV (i + 1)), some (xV dd), some (xV co), v11, v12, v13, v14, v15]) xc79_221 rfl rfl ?_
    refine x_goto xc79_224 ?_
    exact k2 h0

theorem w79c {Ln : Nat} {xs : Nat → Int32} {d : Nat} {Q : Option Value → pmS → Prop} {v11 : Option Value} {v12 : Option Value} {v13 : Option Value} {v14 : Option Value} {v15 : Option Value} {l row : Int64} {dp sp i dd co : Int} {a : xA} {b : xB} (hi : 1 ≤ i ∧ i < 42) (hdd : 64 ≤ dd ∧ dd ≤ 383) (hco0 : 0 ≤ co ∧ co ≤ 500) {m : Int64} (hdp : 0 ≤ dp ∧ dp ≤ 4)
    (k1 : pmCs (pmRo Ln xs) d 73 [.ref 34, .long m, .ref 1000] (xS a b) fun r σ' => pmWp (pmRo Ln xs) d 3 79 0 119 [some (.ref 34), some (.long l), none, some (xV dp), some (xV sp), some (.long row), none, some (.ref 3), some (xV i), some (xV dd), some (xV co), some (.long m), none, some (.long (row ||| (xShL (Int64.ofInt dd) (9 * dp)))), none, v15] (r.toList ++ []) σ' Q) :
    pmWp (pmRo Ln xs) d 3 79 0 95 [some (.ref 34), some (.long l), none, some (xV dp), some (xV sp), some (.long row), none, some (.ref 3), some (xV i), some (xV dd), some (xV co), v11, v12, v13, v14, v15] [.long m] (xS a b) Q := by
  refine x_lstore (pl' := [some (.ref 34), some (.long l), none, some (xV dp), some (xV sp), some (.long row), none, some (.ref 3), some (xV i), some (xV dd), some (xV co), some (.long m), none, v13, v14, v15]) xc79_95 rfl rfl rfl ?_
  refine x_lload xc79_97 rfl ?_
  refine x_iload xc79_99 rfl ?_
  refine x_i2l (xRk (by have g0 := hdd; omega)) xc79_101 ?_
  refine x_bipush xc79_102 (by decide) ?_
  refine x_iloadn xc79_104 rfl ?_
  refine x_imul xc79_105 ?_
  refine x_lshl xc79_106 ?_
  refine x_lor xc79_107 ?_
  refine x_lstore (pl' := [some (.ref 34), some (.long l), none, some (xV dp), some (xV sp), some (.long row), none, some (.ref 3), some (xV i), some (xV dd), some (xV co), some (.long m), none, some (.long (row ||| (xShL (Int64.ofInt dd) (9 * dp)))), none, v15]) xc79_108 rfl rfl rfl ?_
  refine x_aloadn xc79_110 rfl ?_
  refine x_lload xc79_111 rfl ?_
  refine x_gst xc79_113 rfl ?_
  refine x_cV (as := [.long m, .ref 1000]) (rest := []) xc79_116 rfl xi73 xz34 ⟨rfl, rfl⟩ rfl rfl ?_
  exact k1

theorem w79d {Ln : Nat} {xs : Nat → Int32} {d : Nat} {Q : Option Value → pmS → Prop} {v15 : Option Value} {l row m lo : Int64} {dp sp i dd co : Int} {a : xA} {b : xB} (hi : 1 ≤ i ∧ i < 42) (hdd : 64 ≤ dd ∧ dd ≤ 383) (hco0 : 0 ≤ co ∧ co ≤ 500)
    (k1 : pmCs (pmRo Ln xs) d 74 [.ref 34, .long m, .ref 1000] (xS a b) fun r σ' => pmWp (pmRo Ln xs) d 3 79 0 128 [some (.ref 34), some (.long l), none, some (xV dp), some (xV sp), some (.long row), none, some (.ref 3), some (xV i), some (xV dd), some (xV co), some (.long m), none, some (.long lo), none, v15] (r.toList ++ []) σ' Q) :
    pmWp (pmRo Ln xs) d 3 79 0 119 [some (.ref 34), some (.long l), none, some (xV dp), some (xV sp), some (.long row), none, some (.ref 3), some (xV i), some (xV dd), some (xV co), some (.long m), none, some (.long lo), none, v15] [] (xS a b) Q := by
  refine x_aloadn xc79_119 rfl ?_
  refine x_lload xc79_120 rfl ?_
  refine x_gst xc79_122 rfl ?_
  refine x_cV (as := [.long m, .ref 1000]) (rest := []) xc79_125 rfl xi74 xz34 ⟨rfl, rfl⟩ rfl rfl ?_
  exact k1

theorem w79e {Ln : Nat} {xs : Nat → Int32} {d : Nat} {Q : Option Value → pmS → Prop} {v15 : Option Value} {l row m lo : Int64} {dp sp i dd co : Int} {a : xA} {b : xB} (hi : 1 ≤ i ∧ i < 42) (hdd : 64 ≤ dd ∧ dd ≤ 383) (hco0 : 0 ≤ co ∧ co ≤ 500)
    (k1 : pmCs (pmRo Ln xs) d 75 [.ref 34] (xS a b) fun r σ' => pmWp (pmRo Ln xs) d 3 79 0 132 [some (.ref 34), some (.long l), none, some (xV dp), some (xV sp), some (.long row), none, some (.ref 3), some (xV i), some (xV dd), some (xV co), some (.long m), none, some (.long lo), none, v15] (r.toList ++ []) σ' Q) :
    pmWp (pmRo Ln xs) d 3 79 0 128 [some (.ref 34), some (.long l), none, some (xV dp), some (xV sp), some (.long row), none, some (.ref 3), some (xV i), some (xV dd), some (xV co), some (.long m), none, some (.long lo), none, v15] [] (xS a b) Q := by
  refine x_aloadn xc79_128 rfl ?_
  refine x_cV (as := []) (rest := []) xc79_129 rfl xi75 xz34 ⟨rfl, rfl⟩ rfl rfl ?_
  exact k1

theorem w79f {Ln : Nat} {xs : Nat → Int32} {d : Nat} {Q : Option Value → pmS → Prop} {v15 : Option Value} {l row m lo : Int64} {dp sp i dd co : Int} {a : xA} {b : xB} (hi : 1 ≤ i ∧ i < 42) (hdd : 64 ≤ dd ∧ dd ≤ 383) (hco0 : 0 ≤ co ∧ co ≤ 500) {z lim : Int} (hz : 0 ≤ z ∧ z ≤ 2000000) (hl : a 34 12 = lim) (hl0 : 0 ≤ lim ∧ lim ≤ 4) (hdp : 0 ≤ dp ∧ dp ≤ 4)
    (k1 : (¬ z = 0) → (lim - dp ≤ z) → pmWp (pmRo Ln xs) d 3 79 0 23 [some (.ref 34), some (.long l), none, some (xV dp), some (xV sp), some (.long row), none, some (.ref 3), some (xV (i + 1)), some (xV dd), some (xV co), some (.long m), none, some (.long lo), none, some (xV z)] [] (xS a b) Q)
    (k2 : (¬ z = 0) → (¬ lim - dp ≤ z) → pmCs (pmRo Ln xs) d 73 [.ref 34, .long m, .ref 5] (xS a b) fun r σ' => pmWp (pmRo Ln xs) d 3 79 0 183 [some (.ref 34), some (.long l), none, some (xV dp), some (xV sp), some (.long row), none, some (.ref 3), some (xV i), some (xV dd), some (xV co), some (.long m), none, some (.long lo), none, some (xV z)] (r.toList ++ []) σ' Q)
    (k3 : (z = 0) → pmWp (pmRo Ln xs) d 3 79 0 23 [some (.ref 34), some (.long l), none, some (xV dp), some (xV sp), some (.long row), none, some (.ref 3), some (xV (i + 1)), some (xV dd), some (xV co), some (.long m), none, some (.long lo), none, some (xV z)] [] (xS (xU a 34 13 co) (xU b 34 14 (lo ||| (xShL (Int64.ofInt co) 36)))) Q) :
    pmWp (pmRo Ln xs) d 3 79 0 132 [some (.ref 34), some (.long l), none, some (xV dp), some (xV sp), some (.long row), none, some (.ref 3), some (xV i), some (xV dd), some (xV co), some (.long m), none, some (.long lo), none, v15] [xV z] (xS a b) Q := by
  refine x_istore (pl' := [some (.ref 34), some (.long l), none, some (xV dp), some (xV sp), some (.long row), none, some (.ref 3), some (xV i), some (xV dd), some (xV co), some (.long m), none, some (.long lo), none, some (xV z)]) xc79_132 rfl rfl ?_
  refine x_iload xc79_134 rfl ?_
  refine x_ifne xc79_136 (xRk (by have g0 := hz; omega)) (fun h0 => ?_) (fun h0 => ?_)
  · refine x_iload xc79_161 rfl ?_
    refine x_aloadn xc79_163 rfl ?_
    refine x_gfi' (k := 12) (v := lim) xc79_164 rfl (Or.inl rfl) rfl xz34 hl ?_
    refine x_iloadn xc79_167 rfl ?_
    refine x_isub xc79_168 ?_
    refine x_icge xc79_169 (xRk (by have g0 := hz; omega)) (xRk (by have g0 := hl0; have g1 := hdp; omega)) (fun h1 => ?_) (fun h1 => ?_)
    · refine x_iinc (pl' := [some (.ref 34), some (.long l), none, some (xV dp), some (xV sp), some (.long row), none, some (.ref 3), some (xV (i + 1)), some (xV dd), some (xV co), some (.long m), none, some (.long lo), none, some (xV z)]) xc79_221 rfl rfl ?_
      refine x_goto xc79_224 ?_
      exact k1 h0 h1
    · refine x_aloadn xc79_172 rfl ?_
      refine x_lload xc79_173 rfl ?_
      refine x_aload xc79_175 rfl ?_
      refine x_gfr xc79_177 rfl rfl xz3 rfl ?_
      refine x_cV (as := [.long m, .ref 5]) (rest := []) xc79_180 rfl xi73 xz34 ⟨rfl, rfl⟩ rfl rfl ?_
      exact k2 h0 h1
  · replace h0 := Classical.not_not.mp h0
    refine x_aloadn xc79_139 rfl ?_
    refine x_iload xc79_140 rfl ?_
    refine x_pfi (k := 13) xc79_142 rfl ⟨rfl, rfl⟩ rfl xz34 ?_
    refine x_aloadn xc79_145 rfl ?_
    refine x_lload xc79_146 rfl ?_
    refine x_iload xc79_148 rfl ?_
    refine x_i2l (xRk (by have g0 := hco0; omega)) xc79_150 ?_
    refine x_bipush xc79_151 (by decide) ?_
    refine x_lshl xc79_153 ?_
    refine x_lor xc79_154 ?_
    refine x_pfl (k := 14) xc79_155 rfl ⟨rfl, rfl⟩ rfl xz34 ?_
    refine x_goto xc79_158 ?_
    refine x_iinc (pl' := [some (.ref 34), some (.long l), none, some (xV dp), some (xV sp), some (.long row), none, some (.ref 3), some (xV (i + 1)), some (xV dd), some (xV co), some (.long m), none, some (.long lo), none, some (xV z)]) xc79_221 rfl rfl ?_
    refine x_goto xc79_224 ?_
    exact k3 h0

theorem w79g {Ln : Nat} {xs : Nat → Int32} {d : Nat} {Q : Option Value → pmS → Prop} {l row m lo : Int64} {dp sp i dd co : Int} {a : xA} {b : xB} (hi : 1 ≤ i ∧ i < 42) (hdd : 64 ≤ dd ∧ dd ≤ 383) (hco0 : 0 ≤ co ∧ co ≤ 500) {z : Int}
    (k1 : pmCs (pmRo Ln xs) d 74 [.ref 34, .long m, .ref 5] (xS a b) fun r σ' => pmWp (pmRo Ln xs) d 3 79 0 194 [some (.ref 34), some (.long l), none, some (xV dp), some (xV sp), some (.long row), none, some (.ref 3), some (xV i), some (xV dd), some (xV co), some (.long m), none, some (.long lo), none, some (xV z)] (r.toList ++ []) σ' Q) :
    pmWp (pmRo Ln xs) d 3 79 0 183 [some (.ref 34), some (.long l), none, some (xV dp), some (xV sp), some (.long row), none, some (.ref 3), some (xV i), some (xV dd), some (xV co), some (.long m), none, some (.long lo), none, some (xV z)] [] (xS a b) Q := by
  refine x_aloadn xc79_183 rfl ?_
  refine x_lload xc79_184 rfl ?_
  refine x_aload xc79_186 rfl ?_
  refine x_gfr xc79_188 rfl rfl xz3 rfl ?_
  refine x_cV (as := [.long m, .ref 5]) (rest := []) xc79_191 rfl xi74 xz34 ⟨rfl, rfl⟩ rfl rfl ?_
  exact k1

theorem w79h {Ln : Nat} {xs : Nat → Int32} {d : Nat} {Q : Option Value → pmS → Prop} {l row m lo : Int64} {dp sp i dd co : Int} {a : xA} {b : xB} (hi : 1 ≤ i ∧ i < 42) (hdd : 64 ≤ dd ∧ dd ≤ 383) (hco0 : 0 ≤ co ∧ co ≤ 500) {z : Int}
    (k1 : pmCs (pmRo Ln xs) d 75 [.ref 34] (xS a b) fun r σ' => pmWp (pmRo Ln xs) d 3 79 0 200 [some (.ref 34), some (.long l), none, some (xV dp), some (xV sp), some (.long row), none, some (.ref 3), some (xV i), some (xV dd), some (xV co), some (.long m), none, some (.long lo), none, some (xV z)] (r.toList ++ [xV co]) σ' Q) :
    pmWp (pmRo Ln xs) d 3 79 0 194 [some (.ref 34), some (.long l), none, some (xV dp), some (xV sp), some (.long row), none, some (.ref 3), some (xV i), some (xV dd), some (xV co), some (.long m), none, some (.long lo), none, some (xV z)] [] (xS a b) Q := by
  refine x_iload xc79_194 rfl ?_
  refine x_aloadn xc79_196 rfl ?_
  refine x_cV (as := []) (rest := [xV co]) xc79_197 rfl xi75 xz34 ⟨rfl, rfl⟩ rfl rfl ?_
  exact k1

theorem w79i {Ln : Nat} {xs : Nat → Int32} {d : Nat} {Q : Option Value → pmS → Prop} {l row m lo : Int64} {dp sp i dd co : Int} {a : xA} {b : xB} (hi : 1 ≤ i ∧ i < 42) (hdd : 64 ≤ dd ∧ dd ≤ 383) (hco0 : 0 ≤ co ∧ co ≤ 500) {z : Int} {y bc : Int} (hy : 0 ≤ y ∧ y ≤ 2000000) (hbc : a 34 13 = bc) (hbc0 : 0 ≤ bc ∧ bc ≤ 100000)
    (k1 : (bc ≤ co + y) → pmWp (pmRo Ln xs) d 3 79 0 23 [some (.ref 34), some (.long l), none, some (xV dp), some (xV sp), some (.long row), none, some (.ref 3), some (xV (i + 1)), some (xV dd), some (xV co), some (.long m), none, some (.long lo), none, some (xV z)] [] (xS a b) Q)
    (k2 : (¬ bc ≤ co + y) → pmCs (pmRo Ln xs) d 79 [.ref 34, .long m, xV (dp + 1), xV co, .long lo] (xS a b) fun r σ' => pmWp (pmRo Ln xs) d 3 79 0 221 [some (.ref 34), some (.long l), none, some (xV dp), some (xV sp), some (.long row), none, some (.ref 3), some (xV i), some (xV dd), some (xV co), some (.long m), none, some (.long lo), none, some (xV z)] (r.toList ++ []) σ' Q) :
    pmWp (pmRo Ln xs) d 3 79 0 200 [some (.ref 34), some (.long l), none, some (xV dp), some (xV sp), some (.long row), none, some (.ref 3), some (xV i), some (xV dd), some (xV co), some (.long m), none, some (.long lo), none, some (xV z)] [xV y, xV co] (xS a b) Q := by
  refine x_iadd xc79_200 ?_
  refine x_aloadn xc79_201 rfl ?_
  refine x_gfi' (k := 13) (v := bc) xc79_202 rfl (Or.inl rfl) rfl xz34 hbc ?_
  refine x_icge xc79_205 (xRk (by have g0 := hco0; have g1 := hy; omega)) (xRk (by have g0 := hbc0; omega)) (fun h0 => ?_) (fun h0 => ?_)
  · refine x_iinc (pl' := [some (.ref 34), some (.long l), none, some (xV dp), some (xV sp), some (.long row), none, some (.ref 3), some (xV (i + 1)), some (xV dd), some (xV co), some (.long m), none, some (.long lo), none, some (xV z)]) xc79_221 rfl rfl ?_
    refine x_goto xc79_224 ?_
    exact k1 h0
  · refine x_aloadn xc79_208 rfl ?_
    refine x_lload xc79_209 rfl ?_
    refine x_iloadn xc79_211 rfl ?_
    refine x_iconst xc79_212 ?_
    refine x_iadd xc79_213 ?_
    refine x_iload xc79_214 rfl ?_
    refine x_lload xc79_216 rfl ?_
    refine x_cS (as := [.ref 34, .long m, xV (dp + 1), xV co, .long lo]) (rest := []) xc79_218 rfl rfl xi79 ⟨rfl, rfl⟩ rfl rfl ?_
    exact k2 h0

theorem w79j {Ln : Nat} {xs : Nat → Int32} {d : Nat} {Q : Option Value → pmS → Prop} {l row m lo : Int64} {dp sp i dd co : Int} {a : xA} {b : xB} (hi : 1 ≤ i ∧ i < 42) (hdd : 64 ≤ dd ∧ dd ≤ 383) (hco0 : 0 ≤ co ∧ co ≤ 500) {z : Int}
    (k1 : pmWp (pmRo Ln xs) d 3 79 0 23 [some (.ref 34), some (.long l), none, some (xV dp), some (xV sp), some (.long row), none, some (.ref 3), some (xV (i + 1)), some (xV dd), some (xV co), some (.long m), none, some (.long lo), none, some (xV z)] [] (xS a b) Q) :
    pmWp (pmRo Ln xs) d 3 79 0 221 [some (.ref 34), some (.long l), none, some (xV dp), some (xV sp), some (.long row), none, some (.ref 3), some (xV i), some (xV dd), some (xV co), some (.long m), none, some (.long lo), none, some (xV z)] [] (xS a b) Q := by
  refine x_iinc (pl' := [some (.ref 34), some (.long l), none, some (xV dp), some (xV sp), some (.long row), none, some (.ref 3), some (xV (i + 1)), some (xV dd), some (xV co), some (.long m), none, some (.long lo), none, some (xV z)]) xc79_221 rfl rfl ?_
  refine x_goto xc79_224 ?_
  exact k1

end
