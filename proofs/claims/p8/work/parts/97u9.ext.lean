section
/-! exact: the class, the search for a plan -/
section
set_option maxRecDepth 100000
theorem xi72 : pmInf[72]? = some pmI_72 := rfl
theorem xi78 : pmInf[78]? = some pmI_78 := rfl
theorem xi79 : pmInf[79]? = some pmI_79 := rfl
theorem xc72_0 : pmCode 72 0 = some (.aload_n 0) ∧ 0 + 1 = 1 := ⟨rfl, rfl⟩
theorem xc72_1 : pmCode 72 1 = some (.iload_n 3) ∧ 1 + 1 = 2 := ⟨rfl, rfl⟩
theorem xc72_2 : pmCode 72 2 = some (.putfield 61) ∧ 2 + 3 = 5 := ⟨rfl, rfl⟩
theorem xc72_5 : pmCode 72 5 = some (.aload_n 0) ∧ 5 + 1 = 6 := ⟨rfl, rfl⟩
theorem xc72_6 : pmCode 72 6 = some (.iload_n 3) ∧ 6 + 1 = 7 := ⟨rfl, rfl⟩
theorem xc72_7 : pmCode 72 7 = some (.iconst 3) ∧ 7 + 1 = 8 := ⟨rfl, rfl⟩
theorem xc72_8 : pmCode 72 8 = some .imul ∧ 8 + 1 = 9 := ⟨rfl, rfl⟩
theorem xc72_9 : pmCode 72 9 = some (.iload 4) ∧ 9 + 2 = 11 := ⟨rfl, rfl⟩
theorem xc72_11 : pmCode 72 11 = some .iadd ∧ 11 + 1 = 12 := ⟨rfl, rfl⟩
theorem xc72_12 : pmCode 72 12 = some (.putfield 65) ∧ 12 + 3 = 15 := ⟨rfl, rfl⟩
theorem xc72_15 : pmCode 72 15 = some (.aload_n 0) ∧ 15 + 1 = 16 := ⟨rfl, rfl⟩
theorem xc72_16 : pmCode 72 16 = some (.lload_n 1) ∧ 16 + 1 = 17 := ⟨rfl, rfl⟩
theorem xc72_17 : pmCode 72 17 = some (.getstatic 68) ∧ 17 + 3 = 20 := ⟨rfl, rfl⟩
theorem xc72_20 : pmCode 72 20 = some (.invokevirtual 71) ∧ 20 + 3 = 23 := ⟨rfl, rfl⟩
theorem xc72_23 : pmCode 72 23 = some (.aload_n 0) ∧ 23 + 1 = 24 := ⟨rfl, rfl⟩
theorem xc72_24 : pmCode 72 24 = some (.lload_n 1) ∧ 24 + 1 = 25 := ⟨rfl, rfl⟩
theorem xc72_25 : pmCode 72 25 = some (.getstatic 68) ∧ 25 + 3 = 28 := ⟨rfl, rfl⟩
theorem xc72_28 : pmCode 72 28 = some (.invokevirtual 75) ∧ 28 + 3 = 31 := ⟨rfl, rfl⟩
theorem xc72_31 : pmCode 72 31 = some (.aload_n 0) ∧ 31 + 1 = 32 := ⟨rfl, rfl⟩
theorem xc72_32 : pmCode 72 32 = some (.invokevirtual 78) ∧ 32 + 3 = 35 := ⟨rfl, rfl⟩
theorem xc72_35 : pmCode 72 35 = some (.ifCond .ne 7) ∧ ((35 : Nat) : Int) + 7 = ((42 : Nat) : Int) ∧ 35 + 3 = 38 := ⟨rfl, rfl, rfl⟩
theorem xc72_38 : pmCode 72 38 = some (.iconst 1) ∧ 38 + 1 = 39 := ⟨rfl, rfl⟩
theorem xc72_39 : pmCode 72 39 = some (.goto 4) ∧ ((39 : Nat) : Int) + 4 = ((43 : Nat) : Int) := ⟨rfl, rfl⟩
theorem xc72_42 : pmCode 72 42 = some (.iconst 0) ∧ 42 + 1 = 43 := ⟨rfl, rfl⟩
theorem xc72_43 : pmCode 72 43 = some .ireturn := rfl
theorem xc78_0 : pmCode 78 0 = some (.aload_n 0) ∧ 0 + 1 = 1 := ⟨rfl, rfl⟩
theorem xc78_1 : pmCode 78 1 = some (.getfield 15) ∧ 1 + 3 = 4 := ⟨rfl, rfl⟩
theorem xc78_4 : pmCode 78 4 = some (.iconst 1) ∧ 4 + 1 = 5 := ⟨rfl, rfl⟩
theorem xc78_5 : pmCode 78 5 = some .iaload ∧ 5 + 1 = 6 := ⟨rfl, rfl⟩
theorem xc78_6 : pmCode 78 6 = some (.istore_n 1) ∧ 6 + 1 = 7 := ⟨rfl, rfl⟩
theorem xc78_7 : pmCode 78 7 = some (.iconst 2) ∧ 7 + 1 = 8 := ⟨rfl, rfl⟩
theorem xc78_8 : pmCode 78 8 = some (.istore_n 2) ∧ 8 + 1 = 9 := ⟨rfl, rfl⟩
theorem xc78_9 : pmCode 78 9 = some (.iload_n 2) ∧ 9 + 1 = 10 := ⟨rfl, rfl⟩
theorem xc78_10 : pmCode 78 10 = some (.iconst 5) ∧ 10 + 1 = 11 := ⟨rfl, rfl⟩
theorem xc78_11 : pmCode 78 11 = some (.if_icmp .gt 20) ∧ ((11 : Nat) : Int) + 20 = ((31 : Nat) : Int) ∧ 11 + 3 = 14 := ⟨rfl, rfl, rfl⟩
theorem xc78_14 : pmCode 78 14 = some (.iload_n 1) ∧ 14 + 1 = 15 := ⟨rfl, rfl⟩
theorem xc78_15 : pmCode 78 15 = some (.aload_n 0) ∧ 15 + 1 = 16 := ⟨rfl, rfl⟩
theorem xc78_16 : pmCode 78 16 = some (.getfield 15) ∧ 16 + 3 = 19 := ⟨rfl, rfl⟩
theorem xc78_19 : pmCode 78 19 = some (.iload_n 2) ∧ 19 + 1 = 20 := ⟨rfl, rfl⟩
theorem xc78_20 : pmCode 78 20 = some .iaload ∧ 20 + 1 = 21 := ⟨rfl, rfl⟩
theorem xc78_21 : pmCode 78 21 = some (.invokestatic 25) ∧ 21 + 3 = 24 := ⟨rfl, rfl⟩
theorem xc78_24 : pmCode 78 24 = some (.istore_n 1) ∧ 24 + 1 = 25 := ⟨rfl, rfl⟩
theorem xc78_25 : pmCode 78 25 = some (.iinc 2 1) ∧ 25 + 3 = 28 := ⟨rfl, rfl⟩
theorem xc78_28 : pmCode 78 28 = some (.goto (-19)) ∧ ((28 : Nat) : Int) + (-19) = ((9 : Nat) : Int) := ⟨rfl, rfl⟩
theorem xc78_31 : pmCode 78 31 = some (.iload_n 1) ∧ 31 + 1 = 32 := ⟨rfl, rfl⟩
theorem xc78_32 : pmCode 78 32 = some .ireturn := rfl
theorem xc79_0 : pmCode 79 0 = some (.iload_n 3) ∧ 0 + 1 = 1 := ⟨rfl, rfl⟩
theorem xc79_1 : pmCode 79 1 = some (.aload_n 0) ∧ 1 + 1 = 2 := ⟨rfl, rfl⟩
theorem xc79_2 : pmCode 79 2 = some (.getfield 101) ∧ 2 + 3 = 5 := ⟨rfl, rfl⟩
theorem xc79_5 : pmCode 79 5 = some (.if_icmp .ge 8) ∧ ((5 : Nat) : Int) + 8 = ((13 : Nat) : Int) ∧ 5 + 3 = 8 := ⟨rfl, rfl, rfl⟩
theorem xc79_8 : pmCode 79 8 = some (.iload_n 3) ∧ 8 + 1 = 9 := ⟨rfl, rfl⟩
theorem xc79_9 : pmCode 79 9 = some (.iconst 4) ∧ 9 + 1 = 10 := ⟨rfl, rfl⟩
theorem xc79_10 : pmCode 79 10 = some (.if_icmp .lt 4) ∧ ((10 : Nat) : Int) + 4 = ((14 : Nat) : Int) ∧ 10 + 3 = 13 := ⟨rfl, rfl, rfl⟩
theorem xc79_13 : pmCode 79 13 = some .return_ := rfl
theorem xc79_14 : pmCode 79 14 = some (.aload_n 0) ∧ 14 + 1 = 15 := ⟨rfl, rfl⟩
theorem xc79_15 : pmCode 79 15 = some (.getfield 37) ∧ 15 + 3 = 18 := ⟨rfl, rfl⟩
theorem xc79_18 : pmCode 79 18 = some (.astore 7) ∧ 18 + 2 = 20 := ⟨rfl, rfl⟩
theorem xc79_20 : pmCode 79 20 = some (.iconst 1) ∧ 20 + 1 = 21 := ⟨rfl, rfl⟩
theorem xc79_21 : pmCode 79 21 = some (.istore 8) ∧ 21 + 2 = 23 := ⟨rfl, rfl⟩
theorem xc79_23 : pmCode 79 23 = some (.iload 8) ∧ 23 + 2 = 25 := ⟨rfl, rfl⟩
theorem xc79_25 : pmCode 79 25 = some (.bipush 42) ∧ 25 + 2 = 27 := ⟨rfl, rfl⟩
theorem xc79_27 : pmCode 79 27 = some (.if_icmp .ge 200) ∧ ((27 : Nat) : Int) + 200 = ((227 : Nat) : Int) ∧ 27 + 3 = 30 := ⟨rfl, rfl, rfl⟩
theorem xc79_30 : pmCode 79 30 = some (.aload 7) ∧ 30 + 2 = 32 := ⟨rfl, rfl⟩
theorem xc79_32 : pmCode 79 32 = some (.getfield 108) ∧ 32 + 3 = 35 := ⟨rfl, rfl⟩
theorem xc79_35 : pmCode 79 35 = some (.iload 8) ∧ 35 + 2 = 37 := ⟨rfl, rfl⟩
theorem xc79_37 : pmCode 79 37 = some .iaload ∧ 37 + 1 = 38 := ⟨rfl, rfl⟩
theorem xc79_38 : pmCode 79 38 = some (.istore 9) ∧ 38 + 2 = 40 := ⟨rfl, rfl⟩
theorem xc79_40 : pmCode 79 40 = some (.iload 4) ∧ 40 + 2 = 42 := ⟨rfl, rfl⟩
theorem xc79_42 : pmCode 79 42 = some (.aload 7) ∧ 42 + 2 = 44 := ⟨rfl, rfl⟩
theorem xc79_44 : pmCode 79 44 = some (.getfield 111) ∧ 44 + 3 = 47 := ⟨rfl, rfl⟩
theorem xc79_47 : pmCode 79 47 = some (.iload 9) ∧ 47 + 2 = 49 := ⟨rfl, rfl⟩
theorem xc79_49 : pmCode 79 49 = some (.bipush 6) ∧ 49 + 2 = 51 := ⟨rfl, rfl⟩
theorem xc79_51 : pmCode 79 51 = some .ishr ∧ 51 + 1 = 52 := ⟨rfl, rfl⟩
theorem xc79_52 : pmCode 79 52 = some .iaload ∧ 52 + 1 = 53 := ⟨rfl, rfl⟩
theorem xc79_53 : pmCode 79 53 = some .iadd ∧ 53 + 1 = 54 := ⟨rfl, rfl⟩
theorem xc79_54 : pmCode 79 54 = some (.istore 10) ∧ 54 + 2 = 56 := ⟨rfl, rfl⟩
theorem xc79_56 : pmCode 79 56 = some (.iload 10) ∧ 56 + 2 = 58 := ⟨rfl, rfl⟩
theorem xc79_58 : pmCode 79 58 = some (.aload_n 0) ∧ 58 + 1 = 59 := ⟨rfl, rfl⟩
theorem xc79_59 : pmCode 79 59 = some (.getfield 89) ∧ 59 + 3 = 62 := ⟨rfl, rfl⟩
theorem xc79_62 : pmCode 79 62 = some (.if_icmp .ge 159) ∧ ((62 : Nat) : Int) + 159 = ((221 : Nat) : Int) ∧ 62 + 3 = 65 := ⟨rfl, rfl, rfl⟩
theorem xc79_65 : pmCode 79 65 = some (.aload 7) ∧ 65 + 2 = 67 := ⟨rfl, rfl⟩
theorem xc79_67 : pmCode 79 67 = some (.lload_n 1) ∧ 67 + 1 = 68 := ⟨rfl, rfl⟩
theorem xc79_68 : pmCode 79 68 = some (.aload_n 0) ∧ 68 + 1 = 69 := ⟨rfl, rfl⟩
theorem xc79_69 : pmCode 79 69 = some (.getfield 61) ∧ 69 + 3 = 72 := ⟨rfl, rfl⟩
theorem xc79_72 : pmCode 79 72 = some (.iload 9) ∧ 72 + 2 = 74 := ⟨rfl, rfl⟩
theorem xc79_74 : pmCode 79 74 = some (.invokevirtual 114) ∧ 74 + 3 = 77 := ⟨rfl, rfl⟩
theorem xc79_77 : pmCode 79 77 = some (.ifCond .ne 6) ∧ ((77 : Nat) : Int) + 6 = ((83 : Nat) : Int) ∧ 77 + 3 = 80 := ⟨rfl, rfl, rfl⟩
theorem xc79_80 : pmCode 79 80 = some (.goto 141) ∧ ((80 : Nat) : Int) + 141 = ((221 : Nat) : Int) := ⟨rfl, rfl⟩
theorem xc79_83 : pmCode 79 83 = some (.aload 7) ∧ 83 + 2 = 85 := ⟨rfl, rfl⟩
theorem xc79_85 : pmCode 79 85 = some (.lload_n 1) ∧ 85 + 1 = 86 := ⟨rfl, rfl⟩
theorem xc79_86 : pmCode 79 86 = some (.aload_n 0) ∧ 86 + 1 = 87 := ⟨rfl, rfl⟩
theorem xc79_87 : pmCode 79 87 = some (.getfield 61) ∧ 87 + 3 = 90 := ⟨rfl, rfl⟩
theorem xc79_90 : pmCode 79 90 = some (.iload 9) ∧ 90 + 2 = 92 := ⟨rfl, rfl⟩
theorem xc79_92 : pmCode 79 92 = some (.invokevirtual 117) ∧ 92 + 3 = 95 := ⟨rfl, rfl⟩
theorem xc79_95 : pmCode 79 95 = some (.lstore 11) ∧ 95 + 2 = 97 := ⟨rfl, rfl⟩
theorem xc79_97 : pmCode 79 97 = some (.lload 5) ∧ 97 + 2 = 99 := ⟨rfl, rfl⟩
theorem xc79_99 : pmCode 79 99 = some (.iload 9) ∧ 99 + 2 = 101 := ⟨rfl, rfl⟩
theorem xc79_101 : pmCode 79 101 = some .i2l ∧ 101 + 1 = 102 := ⟨rfl, rfl⟩
theorem xc79_102 : pmCode 79 102 = some (.bipush 9) ∧ 102 + 2 = 104 := ⟨rfl, rfl⟩
theorem xc79_104 : pmCode 79 104 = some (.iload_n 3) ∧ 104 + 1 = 105 := ⟨rfl, rfl⟩
theorem xc79_105 : pmCode 79 105 = some .imul ∧ 105 + 1 = 106 := ⟨rfl, rfl⟩
theorem xc79_106 : pmCode 79 106 = some .lshl ∧ 106 + 1 = 107 := ⟨rfl, rfl⟩
theorem xc79_107 : pmCode 79 107 = some .lor ∧ 107 + 1 = 108 := ⟨rfl, rfl⟩
theorem xc79_108 : pmCode 79 108 = some (.lstore 13) ∧ 108 + 2 = 110 := ⟨rfl, rfl⟩
theorem xc79_110 : pmCode 79 110 = some (.aload_n 0) ∧ 110 + 1 = 111 := ⟨rfl, rfl⟩
theorem xc79_111 : pmCode 79 111 = some (.lload 11) ∧ 111 + 2 = 113 := ⟨rfl, rfl⟩
theorem xc79_113 : pmCode 79 113 = some (.getstatic 68) ∧ 113 + 3 = 116 := ⟨rfl, rfl⟩
theorem xc79_116 : pmCode 79 116 = some (.invokevirtual 71) ∧ 116 + 3 = 119 := ⟨rfl, rfl⟩
theorem xc79_119 : pmCode 79 119 = some (.aload_n 0) ∧ 119 + 1 = 120 := ⟨rfl, rfl⟩
theorem xc79_120 : pmCode 79 120 = some (.lload 11) ∧ 120 + 2 = 122 := ⟨rfl, rfl⟩
theorem xc79_122 : pmCode 79 122 = some (.getstatic 68) ∧ 122 + 3 = 125 := ⟨rfl, rfl⟩
theorem xc79_125 : pmCode 79 125 = some (.invokevirtual 75) ∧ 125 + 3 = 128 := ⟨rfl, rfl⟩
theorem xc79_128 : pmCode 79 128 = some (.aload_n 0) ∧ 128 + 1 = 129 := ⟨rfl, rfl⟩
theorem xc79_129 : pmCode 79 129 = some (.invokevirtual 78) ∧ 129 + 3 = 132 := ⟨rfl, rfl⟩
theorem xc79_132 : pmCode 79 132 = some (.istore 15) ∧ 132 + 2 = 134 := ⟨rfl, rfl⟩
theorem xc79_134 : pmCode 79 134 = some (.iload 15) ∧ 134 + 2 = 136 := ⟨rfl, rfl⟩
theorem xc79_136 : pmCode 79 136 = some (.ifCond .ne 25) ∧ ((136 : Nat) : Int) + 25 = ((161 : Nat) : Int) ∧ 136 + 3 = 139 := ⟨rfl, rfl, rfl⟩
theorem xc79_139 : pmCode 79 139 = some (.aload_n 0) ∧ 139 + 1 = 140 := ⟨rfl, rfl⟩
theorem xc79_140 : pmCode 79 140 = some (.iload 10) ∧ 140 + 2 = 142 := ⟨rfl, rfl⟩
theorem xc79_142 : pmCode 79 142 = some (.putfield 89) ∧ 142 + 3 = 145 := ⟨rfl, rfl⟩
theorem xc79_145 : pmCode 79 145 = some (.aload_n 0) ∧ 145 + 1 = 146 := ⟨rfl, rfl⟩
theorem xc79_146 : pmCode 79 146 = some (.lload 13) ∧ 146 + 2 = 148 := ⟨rfl, rfl⟩
theorem xc79_148 : pmCode 79 148 = some (.iload 10) ∧ 148 + 2 = 150 := ⟨rfl, rfl⟩
theorem xc79_150 : pmCode 79 150 = some .i2l ∧ 150 + 1 = 151 := ⟨rfl, rfl⟩
theorem xc79_151 : pmCode 79 151 = some (.bipush 36) ∧ 151 + 2 = 153 := ⟨rfl, rfl⟩
theorem xc79_153 : pmCode 79 153 = some .lshl ∧ 153 + 1 = 154 := ⟨rfl, rfl⟩
theorem xc79_154 : pmCode 79 154 = some .lor ∧ 154 + 1 = 155 := ⟨rfl, rfl⟩
theorem xc79_155 : pmCode 79 155 = some (.putfield 84) ∧ 155 + 3 = 158 := ⟨rfl, rfl⟩
theorem xc79_158 : pmCode 79 158 = some (.goto 63) ∧ ((158 : Nat) : Int) + 63 = ((221 : Nat) : Int) := ⟨rfl, rfl⟩
theorem xc79_161 : pmCode 79 161 = some (.iload 15) ∧ 161 + 2 = 163 := ⟨rfl, rfl⟩
theorem xc79_163 : pmCode 79 163 = some (.aload_n 0) ∧ 163 + 1 = 164 := ⟨rfl, rfl⟩
theorem xc79_164 : pmCode 79 164 = some (.getfield 101) ∧ 164 + 3 = 167 := ⟨rfl, rfl⟩
theorem xc79_167 : pmCode 79 167 = some (.iload_n 3) ∧ 167 + 1 = 168 := ⟨rfl, rfl⟩
theorem xc79_168 : pmCode 79 168 = some .isub ∧ 168 + 1 = 169 := ⟨rfl, rfl⟩
theorem xc79_169 : pmCode 79 169 = some (.if_icmp .ge 52) ∧ ((169 : Nat) : Int) + 52 = ((221 : Nat) : Int) ∧ 169 + 3 = 172 := ⟨rfl, rfl, rfl⟩
theorem xc79_172 : pmCode 79 172 = some (.aload_n 0) ∧ 172 + 1 = 173 := ⟨rfl, rfl⟩
theorem xc79_173 : pmCode 79 173 = some (.lload 11) ∧ 173 + 2 = 175 := ⟨rfl, rfl⟩
theorem xc79_175 : pmCode 79 175 = some (.aload 7) ∧ 175 + 2 = 177 := ⟨rfl, rfl⟩
theorem xc79_177 : pmCode 79 177 = some (.getfield 111) ∧ 177 + 3 = 180 := ⟨rfl, rfl⟩
theorem xc79_180 : pmCode 79 180 = some (.invokevirtual 71) ∧ 180 + 3 = 183 := ⟨rfl, rfl⟩
theorem xc79_183 : pmCode 79 183 = some (.aload_n 0) ∧ 183 + 1 = 184 := ⟨rfl, rfl⟩
theorem xc79_184 : pmCode 79 184 = some (.lload 11) ∧ 184 + 2 = 186 := ⟨rfl, rfl⟩
theorem xc79_186 : pmCode 79 186 = some (.aload 7) ∧ 186 + 2 = 188 := ⟨rfl, rfl⟩
theorem xc79_188 : pmCode 79 188 = some (.getfield 111) ∧ 188 + 3 = 191 := ⟨rfl, rfl⟩
theorem xc79_191 : pmCode 79 191 = some (.invokevirtual 75) ∧ 191 + 3 = 194 := ⟨rfl, rfl⟩
theorem xc79_194 : pmCode 79 194 = some (.iload 10) ∧ 194 + 2 = 196 := ⟨rfl, rfl⟩
theorem xc79_196 : pmCode 79 196 = some (.aload_n 0) ∧ 196 + 1 = 197 := ⟨rfl, rfl⟩
theorem xc79_197 : pmCode 79 197 = some (.invokevirtual 78) ∧ 197 + 3 = 200 := ⟨rfl, rfl⟩
theorem xc79_200 : pmCode 79 200 = some .iadd ∧ 200 + 1 = 201 := ⟨rfl, rfl⟩
theorem xc79_201 : pmCode 79 201 = some (.aload_n 0) ∧ 201 + 1 = 202 := ⟨rfl, rfl⟩
theorem xc79_202 : pmCode 79 202 = some (.getfield 89) ∧ 202 + 3 = 205 := ⟨rfl, rfl⟩
theorem xc79_205 : pmCode 79 205 = some (.if_icmp .ge 16) ∧ ((205 : Nat) : Int) + 16 = ((221 : Nat) : Int) ∧ 205 + 3 = 208 := ⟨rfl, rfl, rfl⟩
theorem xc79_208 : pmCode 79 208 = some (.aload_n 0) ∧ 208 + 1 = 209 := ⟨rfl, rfl⟩
theorem xc79_209 : pmCode 79 209 = some (.lload 11) ∧ 209 + 2 = 211 := ⟨rfl, rfl⟩
theorem xc79_211 : pmCode 79 211 = some (.iload_n 3) ∧ 211 + 1 = 212 := ⟨rfl, rfl⟩
theorem xc79_212 : pmCode 79 212 = some (.iconst 1) ∧ 212 + 1 = 213 := ⟨rfl, rfl⟩
theorem xc79_213 : pmCode 79 213 = some .iadd ∧ 213 + 1 = 214 := ⟨rfl, rfl⟩
theorem xc79_214 : pmCode 79 214 = some (.iload 10) ∧ 214 + 2 = 216 := ⟨rfl, rfl⟩
theorem xc79_216 : pmCode 79 216 = some (.lload 13) ∧ 216 + 2 = 218 := ⟨rfl, rfl⟩
theorem xc79_218 : pmCode 79 218 = some (.invokestatic 104) ∧ 218 + 3 = 221 := ⟨rfl, rfl⟩
theorem xc79_221 : pmCode 79 221 = some (.iinc 8 1) ∧ 221 + 3 = 224 := ⟨rfl, rfl⟩
theorem xc79_224 : pmCode 79 224 = some (.goto (-201)) ∧ ((224 : Nat) : Int) + (-201) = ((23 : Nat) : Int) := ⟨rfl, rfl⟩
theorem xc79_227 : pmCode 79 227 = some .return_ := rfl
theorem w72 {Ln : Nat} {xs : Nat → Int32} {d : Nat} {Q : Option Value → pmS → Prop} {l : Int64} {p k : Int} {a : xA} {b : xB}
    (k1 : pmCs (pmRo Ln xs) d 73 [.ref 34, .long l, .ref 1000] (xS (xU (xU a 34 10 p) 34 11 (p * 3 + k)) b) fun r σ' => pmWp (pmRo Ln xs) d 3 72 2 23 [some (.ref 34), some (.long l), none, some (xV p), some (xV k)] (r.toList ++ []) σ' Q) :
    pmWp (pmRo Ln xs) d 3 72 2 0 [some (.ref 34), some (.long l), none, some (xV p), some (xV k)] [] (xS a b) Q := by
  refine x_aloadn xc72_0 rfl ?_
  refine x_iloadn xc72_1 rfl ?_
  refine x_pfi (k := 10) xc72_2 rfl ⟨rfl, rfl⟩ rfl xz34 ?_
  refine x_aloadn xc72_5 rfl ?_
  refine x_iloadn xc72_6 rfl ?_
  refine x_iconst xc72_7 ?_
  refine x_imul xc72_8 ?_
  refine x_iload xc72_9 rfl ?_
  refine x_iadd xc72_11 ?_
  refine x_pfi (k := 11) xc72_12 rfl ⟨rfl, rfl⟩ rfl xz34 ?_
  refine x_aloadn xc72_15 rfl ?_
  refine x_lloadn xc72_16 rfl ?_
  refine x_gst xc72_17 rfl ?_
  refine x_cV (as := [.long l, .ref 1000]) (rest := []) xc72_20 rfl xi73 xz34 ⟨rfl, rfl⟩ rfl rfl ?_
  exact k1

theorem xg72 {ro : Nat → Nat × (Nat → Int32)} {d : Nat} {Q : Option Value → pmS → Prop} {a : xA} {b : xB} {p k : Int} {l : Int64} (h : pmWp ro d 3 72 2 0 [some (.ref 34), some (.long l), none, some (xV p), some (xV k)] [] (xS a b) Q) : pmCs ro (d + 1) 72 [.ref 34, .long l, xV p, xV k] (xS a b) Q := x_go xi72 rfl rfl rfl rfl rfl h
theorem w72b {Ln : Nat} {xs : Nat → Int32} {d : Nat} {Q : Option Value → pmS → Prop} {l : Int64} {p k : Int} {a : xA} {b : xB}
    (k1 : pmCs (pmRo Ln xs) d 74 [.ref 34, .long l, .ref 1000] (xS a b) fun r σ' => pmWp (pmRo Ln xs) d 3 72 2 31 [some (.ref 34), some (.long l), none, some (xV p), some (xV k)] (r.toList ++ []) σ' Q) :
    pmWp (pmRo Ln xs) d 3 72 2 23 [some (.ref 34), some (.long l), none, some (xV p), some (xV k)] [] (xS a b) Q := by
  refine x_aloadn xc72_23 rfl ?_
  refine x_lloadn xc72_24 rfl ?_
  refine x_gst xc72_25 rfl ?_
  refine x_cV (as := [.long l, .ref 1000]) (rest := []) xc72_28 rfl xi74 xz34 ⟨rfl, rfl⟩ rfl rfl ?_
  exact k1

theorem w72c {Ln : Nat} {xs : Nat → Int32} {d : Nat} {Q : Option Value → pmS → Prop} {l : Int64} {p k : Int} {a : xA} {b : xB}
    (k1 : pmCs (pmRo Ln xs) d 75 [.ref 34] (xS a b) fun r σ' => pmWp (pmRo Ln xs) d 3 72 2 35 [some (.ref 34), some (.long l), none, some (xV p), some (xV k)] (r.toList ++ []) σ' Q) :
    pmWp (pmRo Ln xs) d 3 72 2 31 [some (.ref 34), some (.long l), none, some (xV p), some (xV k)] [] (xS a b) Q := by
  refine x_aloadn xc72_31 rfl ?_
  refine x_cV (as := []) (rest := []) xc72_32 rfl xi75 xz34 ⟨rfl, rfl⟩ rfl rfl ?_
  exact k1

theorem w72d {Ln : Nat} {xs : Nat → Int32} {d : Nat} {Q : Option Value → pmS → Prop} {l : Int64} {p k : Int} {a : xA} {b : xB} {z : Int} (hz : 0 ≤ z ∧ z ≤ 2000000)
    (k1 : (¬ z = 0) → Q (some (xV 0)) (xS a b))
    (k2 : (z = 0) → Q (some (xV 1)) (xS a b)) :
    pmWp (pmRo Ln xs) d 3 72 2 35 [some (.ref 34), some (.long l), none, some (xV p), some (xV k)] [xV z] (xS a b) Q := by
  refine x_ifne xc72_35 (xRk (by have g0 := hz; omega)) (fun h0 => ?_) (fun h0 => ?_)
  · refine x_iconst xc72_42 ?_
    refine x_iret xc72_43 (Or.inr ⟨rfl, (by omega)⟩) ?_
    exact k1 h0
  · replace h0 := Classical.not_not.mp h0
    refine x_iconst xc72_38 ?_
    refine x_goto xc72_39 ?_
    refine x_iret xc72_43 (Or.inr ⟨rfl, (by omega)⟩) ?_
    exact k2 h0

theorem w78 {ro : Nat → Nat × (Nat → Int32)} {d : Nat} {Q : Option Value → pmS → Prop} {a : xA} {b : xB} (hc : ∀ i, 1 ≤ i → i ≤ 5 → 1 ≤ a 5 i ∧ a 5 i ≤ 73)
    (k1 : Q (some (xV (if a 5 (2 + 1 + 1 + 1) < if a 5 (2 + 1 + 1) < if a 5 (2 + 1) < if a 5 2 < a 5 1 then a 5 2 else a 5 1 then a 5 (2 + 1) else if a 5 2 < a 5 1 then a 5 2 else a 5 1 then a 5 (2 + 1 + 1) else if a 5 (2 + 1) < if a 5 2 < a 5 1 then a 5 2 else a 5 1 then a 5 (2 + 1) else if a 5 2 < a 5 1 then a 5 2 else a 5 1 then a 5 (2 + 1 + 1 + 1) else if a 5 (2 + 1 + 1) < if a 5 (2 + 1) < if a 5 2 < a 5 1 then a 5 2 else a 5 1 then a 5 (2 + 1) else if a 5 2 < a 5 1 then a 5 2 else a 5 1 then a 5 (2 + 1 + 1) else if a 5 (2 + 1) < if a 5 2 < a 5 1 then a 5 2 else a 5 1 then a 5 (2 + 1) else if a 5 2 < a 5 1 then a 5 2 else a 5 1))) (xS a b)) :
    pmWp ro d 5 78 1 0 [some (.ref 3), none, none] [] (xS a b) Q := by
  refine x_aloadn xc78_0 rfl ?_
  refine x_gfr xc78_1 rfl rfl xz3 rfl ?_
  refine x_iconst xc78_4 ?_
  refine x_ial xc78_5 xz5 rfl (by omega) (by omega) (by omega) ?_
  refine x_istoren (pl' := [some (.ref 3), some (xV (a 5 1)), none]) xc78_6 rfl rfl ?_
  refine x_iconst xc78_7 ?_
  refine x_istoren (pl' := [some (.ref 3), some (xV (a 5 1)), some (xV 2)]) xc78_8 rfl rfl ?_
  refine x_iloadn xc78_9 rfl ?_
  refine x_iconst xc78_10 ?_
  refine x_icgt xc78_11 (xRk (by decide)) (xRk (by decide)) (fun h => absurd h (by omega)) (fun _ => ?_)
  refine x_iloadn xc78_14 rfl ?_
  refine x_aloadn xc78_15 rfl ?_
  refine x_gfr xc78_16 rfl rfl xz3 rfl ?_
  refine x_iloadn xc78_19 rfl ?_
  refine x_ial xc78_20 xz5 rfl (by omega) (by omega) (by omega) ?_
  refine x_min xc78_21 rfl (xRk (by have g0 := hc 1 (by omega) (by omega); omega)) (xRk (by have g0 := hc 2 (by omega) (by omega); omega)) rfl ?_
  refine x_istoren (pl' := [some (.ref 3), some (xV (if a 5 2 < a 5 1 then a 5 2 else a 5 1)), some (xV 2)]) xc78_24 rfl rfl ?_
  refine x_iinc (pl' := [some (.ref 3), some (xV (if a 5 2 < a 5 1 then a 5 2 else a 5 1)), some (xV (2 + 1))]) xc78_25 rfl rfl ?_
  refine x_goto xc78_28 ?_
  refine x_iloadn xc78_9 rfl ?_
  refine x_iconst xc78_10 ?_
  refine x_icgt xc78_11 (xRk (by decide)) (xRk (by decide)) (fun h => absurd h (by omega)) (fun _ => ?_)
  refine x_iloadn xc78_14 rfl ?_
  refine x_aloadn xc78_15 rfl ?_
  refine x_gfr xc78_16 rfl rfl xz3 rfl ?_
  refine x_iloadn xc78_19 rfl ?_
  refine x_ial xc78_20 xz5 rfl (by omega) (by omega) (by omega) ?_
  refine x_min xc78_21 rfl (xRk (by have g0 := hc 1 (by omega) (by omega); have g1 := hc 2 (by omega) (by omega); omega)) (xRk (by have g0 := hc (2 + 1) (by omega) (by omega); omega)) rfl ?_
  refine x_istoren (pl' := [some (.ref 3), some (xV (if a 5 (2 + 1) < if a 5 2 < a 5 1 then a 5 2 else a 5 1 then a 5 (2 + 1) else if a 5 2 < a 5 1 then a 5 2 else a 5 1)), some (xV (2 + 1))]) xc78_24 rfl rfl ?_
  refine x_iinc (pl' := [some (.ref 3), some (xV (if a 5 (2 + 1) < if a 5 2 < a 5 1 then a 5 2 else a 5 1 then a 5 (2 + 1) else if a 5 2 < a 5 1 then a 5 2 else a 5 1)), some (xV (2 + 1 + 1))]) xc78_25 rfl rfl ?_
  refine x_goto xc78_28 ?_
  refine x_iloadn xc78_9 rfl ?_
  refine x_iconst xc78_10 ?_
  refine x_icgt xc78_11 (xRk (by decide)) (xRk (by decide)) (fun h => absurd h (by omega)) (fun _ => ?_)
  refine x_iloadn xc78_14 rfl ?_
  refine x_aloadn xc78_15 rfl ?_
  refine x_gfr xc78_16 rfl rfl xz3 rfl ?_
  refine x_iloadn xc78_19 rfl ?_
  refine x_ial xc78_20 xz5 rfl (by omega) (by omega) (by omega) ?_
  refine x_min xc78_21 rfl (xRk (by have g0 := hc 1 (by omega) (by omega); have g1 := hc 2 (by omega) (by omega); have g2 := hc (2 + 1) (by omega) (by omega); omega)) (xRk (by have g0 := hc (2 + 1 + 1) (by omega) (by omega); omega)) rfl ?_
  refine x_istoren (pl' := [some (.ref 3), some (xV (if a 5 (2 + 1 + 1) < if a 5 (2 + 1) < if a 5 2 < a 5 1 then a 5 2 else a 5 1 then a 5 (2 + 1) else if a 5 2 < a 5 1 then a 5 2 else a 5 1 then a 5 (2 + 1 + 1) else if a 5 (2 + 1) < if a 5 2 < a 5 1 then a 5 2 else a 5 1 then a 5 (2 + 1) else if a 5 2 < a 5 1 then a 5 2 else a 5 1)), some (xV (2 + 1 + 1))]) xc78_24 rfl rfl ?_
  refine x_iinc (pl' := [some (.ref 3), some (xV (if a 5 (2 + 1 + 1) < if a 5 (2 + 1) < if a 5 2 < a 5 1 then a 5 2 else a 5 1 then a 5 (2 + 1) else if a 5 2 < a 5 1 then a 5 2 else a 5 1 then a 5 (2 + 1 + 1) else if a 5 (2 + 1) < if a 5 2 < a 5 1 then a 5 2 else a 5 1 then a 5 (2 + 1) else if a 5 2 < a 5 1 then a 5 2 else a 5 1)), some (xV (2 + 1 + 1 + 1))]) xc78_25 rfl rfl ?_
  refine x_goto xc78_28 ?_
  refine x_iloadn xc78_9 rfl ?_
  refine x_iconst xc78_10 ?_
  refine x_icgt xc78_11 (xRk (by decide)) (xRk (by decide)) (fun h => absurd h (by omega)) (fun _ => ?_)
  refine x_iloadn xc78_14 rfl ?_
  refine x_aloadn xc78_15 rfl ?_
  refine x_gfr xc78_16 rfl rfl xz3 rfl ?_
  refine x_iloadn xc78_19 rfl ?_
  refine x_ial xc78_20 xz5 rfl (by omega) (by omega) (by omega) ?_
  refine x_min xc78_21 rfl (xRk (by have g0 := hc 1 (by omega) (by omega); have g1 := hc 2 (by omega) (by omega); have g2 := hc (2 + 1) (by omega) (by omega); have g3 := hc (2 + 1 + 1) (by omega) (by omega); omega)) (xRk (by have g0 := hc (2 + 1 + 1 + 1) (by omega) (by omega); omega)) rfl ?_
  refine x_istoren (pl' := [some (.ref 3), some (xV (if a 5 (2 + 1 + 1 + 1) < if a 5 (2 + 1 + 1) < if a 5 (2 + 1) < if a 5 2 < a 5 1 then a 5 2 else a 5 1 then a 5 (2 + 1) else if a 5 2 < a 5 1 then a 5 2 else a 5 1 then a 5 (2 + 1 + 1) else if a 5 (2 + 1) < if a 5 2 < a 5 1 then a 5 2 else a 5 1 then a 5 (2 + 1) else if a 5 2 < a 5 1 then a 5 2 else a 5 1 then a 5 (2 + 1 + 1 + 1) else if a 5 (2 + 1 + 1) < if a 5 (2 + 1) < if a 5 2 < a 5 1 then a 5 2 else a 5 1 then a 5 (2 + 1) else if a 5 2 < a 5 1 then a 5 2 else a 5 1 then a 5 (2 + 1 + 1) else if a 5 (2 + 1) < if a 5 2 < a 5 1 then a 5 2 else a 5 1 then a 5 (2 + 1) else if a 5 2 < a 5 1 then a 5 2 else a 5 1)), some (xV (2 + 1 + 1 + 1))]) xc78_24 rfl rfl ?_
  refine x_iinc (pl' := [some (.ref 3), some (xV (if a 5 (2 + 1 + 1 + 1) < if a 5 (2 + 1 + 1) < if a 5 (2 + 1) < if a 5 2 < a 5 1 then a 5 2 else a 5 1 then a 5 (2 + 1) else if a 5 2 < a 5 1 then a 5 2 else a 5 1 then a 5 (2 + 1 + 1) else if a 5 (2 + 1) < if a 5 2 < a 5 1 then a 5 2 else a 5 1 then a 5 (2 + 1) else if a 5 2 < a 5 1 then a 5 2 else a 5 1 then a 5 (2 + 1 + 1 + 1) else if a 5 (2 + 1 + 1) < if a 5 (2 + 1) < if a 5 2 < a 5 1 then a 5 2 else a 5 1 then a 5 (2 + 1) else if a 5 2 < a 5 1 then a 5 2 else a 5 1 then a 5 (2 + 1 + 1) else if a 5 (2 + 1) < if a 5 2 < a 5 1 then a 5 2 else a 5 1 then a 5 (2 + 1) else if a 5 2 < a 5 1 then a 5 2 else a 5 1)), some (xV (2 + 1 + 1 + 1 + 1))]) xc78_25 rfl rfl ?_
  refine x_goto xc78_28 ?_
  refine x_iloadn xc78_9 rfl ?_
  refine x_iconst xc78_10 ?_
  refine x_icgt xc78_11 (xRk (by decide)) (xRk (by decide)) (fun _ => ?_) (fun h => absurd h (by omega))
  refine x_iloadn xc78_31 rfl ?_
  refine x_iret xc78_32 (Or.inl rfl) ?_
  exact k1

theorem xg78 {ro : Nat → Nat × (Nat → Int32)} {d : Nat} {Q : Option Value → pmS → Prop} {a : xA} {b : xB} (h : pmWp ro d 5 78 1 0 [some (.ref 3), none, none] [] (xS a b) Q) : pmCs ro (d + 1) 78 [.ref 3] (xS a b) Q := x_go xi78 rfl rfl rfl rfl rfl h
theorem w79 {Ln : Nat} {xs : Nat → Int32} {d : Nat} {Q : Option Value → pmS → Prop} {l row : Int64} {dp sp lim : Int} {a : xA} {b : xB} (hl : a 34 12 = lim) (hl0 : 0 ≤ lim ∧ lim ≤ 4) (hdp : 0 ≤ dp ∧ dp ≤ 4)
    (k1 : (lim ≤ dp) → Q none (xS a b))
    (k2 : (¬ lim ≤ dp) → (dp < 4) → pmWp (pmRo Ln xs) d 3 79 0 23 [some (.ref 34), some (.long l), none, some (xV dp), some (xV sp), some (.long row), none, some (.ref 3), some (xV 1), none, none, none, none, none, none, none] [] (xS a b) Q)
    (k3 : (¬ lim ≤ dp) → (¬ dp < 4) → Q none (xS a b)) :
    pmWp (pmRo Ln xs) d 3 79 0 0 [some (.ref 34), some (.long l), none, some (xV dp), some (xV sp), some (.long row), none, none, none, none, none, none, none, none, none, none] [] (xS a b) Q := by
  refine x_iloadn xc79_0 rfl ?_
  refine x_aloadn xc79_1 rfl ?_
  refine x_gfi' (k := 12) (v := lim) xc79_2 rfl (Or.inl rfl) rfl xz34 hl ?_
  refine x_icge xc79_5 (xRk (by have g0 := hdp; omega)) (xRk (by have g0 := hl0; omega)) (fun h0 => ?_) (fun h0 => ?_)
  · refine x_ret xc79_13 rfl ?_
    exact k1 h0
  · refine x_iloadn xc79_8 rfl ?_
    refine x_iconst xc79_9 ?_
    refine x_iclt xc79_10 (xRk (by have g0 := hdp; omega)) (xRk (by decide)) (fun h1 => ?_) (fun h1 => ?_)
    · refine x_aloadn xc79_14 rfl ?_
      refine x_gfr xc79_15 rfl rfl xz34 rfl ?_
      refine x_astore (pl' := [some (.ref 34), some (.long l), none, some (xV dp), some (xV sp), some (.long row), none, some (.ref 3), none, none, none, none, none, none, none, none]) xc79_18 rfl rfl ?_
      refine x_iconst xc79_20 ?_
      refine x_istore (pl' := [some (.ref 34), some (.long l), none, some (xV dp), some (xV sp), some (.long row), none, some (.ref 3), some (xV 1), none, none, none, none, none, none, none]) xc79_21 rfl rfl ?_
      exact k2 h0 h1
    · refine x_ret xc79_13 rfl ?_
      exact k3 h0 h1

theorem xg79 {ro : Nat → Nat × (Nat → Int32)} {d : Nat} {Q : Option Value → pmS → Prop} {a : xA} {b : xB} {dp sp : Int} {l row : Int64} (h : pmWp ro d 3 79 0 0 [some (.ref 34), some (.long l), none, some (xV dp), some (xV sp), some (.long row), none, none, none, none, none, none, none, none, none, none] [] (xS a b) Q) : pmCs ro (d + 1) 79 [.ref 34, .long l, xV dp, xV sp, .long row] (xS a b) Q := x_go xi79 rfl rfl rfl rfl rfl h
theorem w79x {Ln : Nat} {xs : Nat → Int32} {d : Nat} {Q : Option Value → pmS → Prop} {v10 : Option Value} {v11 : Option Value} {v12 : Option Value} {v13 : Option Value} {v14 : Option Value} {v15 : Option Value} {v9 : Option Value} {l row : Int64} {dp sp : Int} {a : xA} {b : xB}
    (k1 : Q none (xS a b)) :
    pmWp (pmRo Ln xs) d 3 79 0 23 [some (.ref 34), some (.long l), none, some (xV dp), some (xV sp), some (.long row), none, some (.ref 3), some (xV 42), v9, v10, v11, v12, v13, v14, v15] [] (xS a b) Q := by
  refine x_iload xc79_23 rfl ?_
  refine x_bipush xc79_25 (by decide) ?_
  refine x_icge xc79_27 (xRk (by decide)) (xRk (by decide)) (fun _ => ?_) (fun h => absurd h (by omega))
  refine x_ret xc79_227 rfl ?_
  exact k1

theorem w79a {Ln : Nat} {xs : Nat → Int32} {d : Nat} {Q : Option Value → pmS → Prop} {v10 : Option Value} {v11 : Option Value} {v12 : Option Value} {v13 : Option Value} {v14 : Option Value} {v15 : Option Value} {v9 : Option Value} {l row : Int64} {dp sp lim bc i : Int} {a : xA} {b : xB} (hl : a 34 12 = lim) (hl0 : 0 ≤ lim ∧ lim ≤ 4) (hbc : a 34 13 = bc) (hbc0 : 0 ≤ bc ∧ bc ≤ 100000) (hdp : 0 ≤ dp ∧ dp ≤ 4) (hsp : 0 ≤ sp ∧ sp ≤ 400) (hi : 1 ≤ i ∧ i < 42) {dd f cc : Int} (hde : a 4 i = dd) (hdd : 64 ≤ dd ∧ dd ≤ 383) (hf : a 34 10 = f) (hf0 : 1 ≤ f ∧ f ≤ 3) (hcc : a 5 (dd / 64) = cc) (hcc0 : 1 ≤ cc ∧ cc ≤ 73)
    (k1 : (42 ≤ i) → Q none (xS a b))
    (k2 : (¬ 42 ≤ i) → (bc ≤ sp + cc) → pmWp (pmRo Ln xs) d 3 79 0 23 [some (.ref 34), some (.long l), none, some (xV dp), some (xV sp), some (.long row), none, some (.ref 3), some (xV (i + 1)), some (xV dd), some (xV (sp + cc)), v11, v12, v13, v14, v15] [] (xS a b) Q)
    (k3 : (¬ 42 ≤ i) → (¬ bc ≤ sp + cc) → pmCs (pmRo Ln xs) d 80 [.ref 3, .long l, xV f, xV dd] (xS a b) fun r σ' => pmWp (pmRo Ln xs) d 3 79 0 77 [some (.ref 34), some (.long l), none, some (xV dp), some (xV sp), some (.long row), none, some (.ref 3), some (xV i), some (xV dd), some (xV (sp + cc)), v11, v12, v13, v14, v15] (r.toList ++ []) σ' Q) :
    pmWp (pmRo Ln xs) d 3 79 0 23 [some (.ref 34), some (.long l), none, some (xV dp), some (xV sp), some (.long row), none, some (.ref 3), some (xV i), v9, v10, v11, v12, v13, v14, v15] [] (xS a b) Q := by
  refine x_iload xc79_23 rfl ?_
  refine x_bipush xc79_25 (by decide) ?_
  refine x_icge xc79_27 (xRk (by have g0 := hi; omega)) (xRk (by decide)) (fun h0 => ?_) (fun h0 => ?_)
  · refine x_ret xc79_227 rfl ?_
    exact k1 h0
  · refine x_aload xc79_30 rfl ?_
    refine x_gfr xc79_32 rfl rfl xz3 rfl ?_
    refine x_iload xc79_35 rfl ?_
    refine x_ial' (v := dd) xc79_37 xz4 rfl (by have g0 := hi; omega) (by have g0 := hi; omega) (by have g0 := hi; omega) hde ?_
    refine x_istore (pl' := [some (.ref 34), some (.long l), none, some (xV dp), some (xV sp), some (.long row), none, some (.ref 3), some (xV i), some (xV dd), v10, v11, v12, v13, v14, v15]) xc79_38 rfl rfl ?_
    refine x_iload xc79_40 rfl ?_
    refine x_aload xc79_42 rfl ?_
    refine x_gfr xc79_44 rfl rfl xz3 rfl ?_
    refine x_iload xc79_47 rfl ?_
    refine x_bipush xc79_49 (by decide) ?_
    refine x_ishr (M := 64) (by omega) (by omega) (by decide) (xRk (by have g0 := hdd; omega)) xc79_51 ?_
    refine x_ial' (v := cc) xc79_52 xz5 rfl (by have g0 := hdd; omega) (by have g0 := hdd; omega) (by have g0 := hdd; omega) hcc ?_
    refine x_iadd xc79_53 ?_
    refine x_istore (pl' := [some (.ref 34), some (.long l), none, some (xV dp), some (xV sp), some (.long row), none, some (.ref 3), some (xV i), some (xV dd), some (xV (sp + cc)), v11, v12, v13, v14, v15]) xc79_54 rfl rfl ?_
    refine x_iload xc79_56 rfl ?_
    refine x_aloadn xc79_58 rfl ?_
    refine x_gfi' (k := 13) (v := bc) xc79_59 rfl (Or.inl rfl) rfl xz34 hbc ?_
    refine x_icge xc79_62 (xRk (by have g0 := hsp; have g1 := hcc0; omega)) (xRk (by have g0 := hbc0; omega)) (fun h1 => ?_) (fun h1 => ?_)
    · refine x_iinc (pl' := [some (.ref 34), some (.long l), none, some (xV dp), some (xV sp), some (.long row), none, some (.ref 3), some (xV (i + 1)), some (xV dd), some (xV (sp + cc)), v11, v12, v13, v14, v15]) xc79_221 rfl rfl ?_
      refine x_goto xc79_224 ?_
      exact k2 h0 h1
    · refine x_aload xc79_65 rfl ?_
      refine x_lloadn xc79_67 rfl ?_
      refine x_aloadn xc79_68 rfl ?_
      refine x_gfi' (k := 10) (v := f) xc79_69 rfl (Or.inl rfl) rfl xz34 hf ?_
      refine x_iload xc79_72 rfl ?_
      refine x_cV (as := [.long l, xV f, xV dd]) (rest := []) xc79_74 rfl xi80 xz3 ⟨rfl, rfl⟩ rfl rfl ?_
      exact k3 h0 h1

theorem w79b {Ln : Nat} {xs : Nat → Int32} {d : Nat} {Q : Option Value → pmS → Prop} {v11 : Option Value} {v12 : Option Value} {v13 : Option Value} {v14 : Option Value} {v15 : Option Value} {l row : Int64} {dp sp i dd co : Int} {a : xA} {b : xB} (hi : 1 ≤ i ∧ i < 42) (hdd : 64 ≤ dd ∧ dd ≤ 383) (hco0 : 0 ≤ co ∧ co ≤ 500) {f z : Int} (hf : a 34 10 = f) (hz : z = 0 ∨ z = 1)
    (k1 : (¬ z = 0) → pmCs (pmRo Ln xs) d 81 [.ref 3, .long l, xV f, xV dd] (xS a b) fun r σ' => pmWp (pmRo Ln xs) d 3 79 0 95 [some (.ref 34), some (.long l), none, some (xV dp), some (xV sp), some (.long row), none, some (.ref 3), some (xV i), some (xV dd), some (xV co), v11, v12, v13, v14, v15] (r.toList ++ []) σ' Q)
    (k2 : (z = 0) → pmWp (pmRo Ln xs) d 3 79 0 23 [some (.ref 34), some (.long l), none, some (xV dp), some (xV sp), some (.long row), none, some (.ref 3), some (xV (i + 1)), some (xV dd), some (xV co), v11, v12, v13, v14, v15] [] (xS a b) Q) :
    pmWp (pmRo Ln xs) d 3 79 0 77 [some (.ref 34), some (.long l), none, some (xV dp), some (xV sp), some (.long row), none, some (.ref 3), some (xV i), some (xV dd), some (xV co), v11, v12, v13, v14, v15] [xV z] (xS a b) Q := by
  refine x_ifne xc79_77 (xRk (by have g0 := hz; omega)) (fun h0 => ?_) (fun h0 => ?_)
  · refine x_aload xc79_83 rfl ?_
    refine x_lloadn xc79_85 rfl ?_
    refine x_aloadn xc79_86 rfl ?_
    refine x_gfi' (k := 10) (v := f) xc79_87 rfl (Or.inl rfl) rfl xz34 hf ?_
    refine x_iload xc79_90 rfl ?_
    refine x_cV (as := [.long l, xV f, xV dd]) (rest := []) xc79_92 rfl xi81 xz3 ⟨rfl, rfl⟩ rfl rfl ?_
    exact k1 h0
  · replace h0 := Classical.not_not.mp h0
    refine x_goto xc79_80 ?_
    refine x_iinc (pl' := [some (.ref 34), some (.long l), none, some (xV dp), some (xV sp), some (.long row), none, some (.ref 3), some (xV (i + 1)), some (xV dd), some (xV co), v11, v12, v13, v14, v15]) xc79_221 rfl rfl ?_
    refine x_goto xc79_224 ?_
    exact k2 h0

theorem w79c {Ln : Nat} {xs : Nat → Int32} {d : Nat} {Q : Option Value → pmS → Prop} {v11 : Option Value} {v12 : Option Value} {v13 : Option Value} {v14 : Option Value} {v15 : Option Value} {l row : Int64} {dp sp i dd co : Int} {a : xA} {b : xB} (hi : 1 ≤ i ∧ i < 42) (hdd : 64 ≤ dd ∧ dd ≤ 383) (hco0 : 0 ≤ co ∧ co ≤ 500) {m : Int64} (hdp : 0 ≤ dp ∧ dp ≤ 4)
    (k1 : pmCs (pmRo Ln xs) d 73 [.ref 34, .long m, .ref 1000] (xS a b) fun r σ' => pmWp (pmRo Ln xs) d 3 79 0 119 [some (.ref 34), some (.long l), none, some (xV dp), some (xV sp), some (.long row), none, some (.ref 3), some (xV i), some (xV dd), some (xV co), some (.long m), none, some (.long (row ||| (xShL (Int64.ofInt dd) (9 * dp)))), none, v15] (r.toList ++ []) σ' Q) :
    pmWp (pmRo Ln xs) d 3 79 0 95 [some (.ref 34), some (.long l), none, some (xV dp), some (xV sp), some (.long row), none, some (.ref 3), some (xV i), some (xV dd), some (xV co), v11, v12, v13, v14, v15] [.long m] (xS a b) Q := by
  refine x_lstore (pl' := [some (.ref 34), some (.long l), none, some (xV dp), some (xV sp), some (.long row), none, some (.ref 3), some (xV i), some (xV dd), some (xV co), some (.long m), none, v13, v14, v15]) xc79_95 rfl rfl rfl ?_
  refine x_lload xc79_97 rfl ?_
  refine x_iload xc79_99 rfl ?_
  refine x_i2l (xRk (by have g0 := hdd; omega)) xc79_101 ?_
  refine x_bipush xc79_102 (by decide) ?_
  refine x_iloadn xc79_104 rfl ?_
  refine x_imul xc79_105 ?_
  refine x_lshl xc79_106 ?_
  refine x_lor xc79_107 ?_
  refine x_lstore (pl' := [some (.ref 34), some (.long l), none, some (xV dp), some (xV sp), some (.long row), none, some (.ref 3), some (xV i), some (xV dd), some (xV co), some (.long m), none, some (.long (row ||| (xShL (Int64.ofInt dd) (9 * dp)))), none, v15]) xc79_108 rfl rfl rfl ?_
  refine x_aloadn xc79_110 rfl ?_
  refine x_lload xc79_111 rfl ?_
  refine x_gst xc79_113 rfl ?_
  refine x_cV (as := [.long m, .ref 1000]) (rest := []) xc79_116 rfl xi73 xz34 ⟨rfl, rfl⟩ rfl rfl ?_
  exact k1

theorem w79d {Ln : Nat} {xs : Nat → Int32} {d : Nat} {Q : Option Value → pmS → Prop} {v15 : Option Value} {l row m lo : Int64} {dp sp i dd co : Int} {a : xA} {b : xB} (hi : 1 ≤ i ∧ i < 42) (hdd : 64 ≤ dd ∧ dd ≤ 383) (hco0 : 0 ≤ co ∧ co ≤ 500)
    (k1 : pmCs (pmRo Ln xs) d 74 [.ref 34, .long m, .ref 1000] (xS a b) fun r σ' => pmWp (pmRo Ln xs) d 3 79 0 128 [some (.ref 34), some (.long l), none, some (xV dp), some (xV sp), some (.long row), none, some (.ref 3), some (xV i), some (xV dd), some (xV co), some (.long m), none, some (.long lo), none, v15] (r.toList ++ []) σ' Q) :
    pmWp (pmRo Ln xs) d 3 79 0 119 [some (.ref 34), some (.long l), none, some (xV dp), some (xV sp), some (.long row), none, some (.ref 3), some (xV i), some (xV dd), some (xV co), some (.long m), none, some (.long lo), none, v15] [] (xS a b) Q := by
  refine x_aloadn xc79_119 rfl ?_
  refine x_lload xc79_120 rfl ?_
  refine x_gst xc79_122 rfl ?_
  refine x_cV (as := [.long m, .ref 1000]) (rest := []) xc79_125 rfl xi74 xz34 ⟨rfl, rfl⟩ rfl rfl ?_
  exact k1

theorem w79e {Ln : Nat} {xs : Nat → Int32} {d : Nat} {Q : Option Value → pmS → Prop} {v15 : Option Value} {l row m lo : Int64} {dp sp i dd co : Int} {a : xA} {b : xB} (hi : 1 ≤ i ∧ i < 42) (hdd : 64 ≤ dd ∧ dd ≤ 383) (hco0 : 0 ≤ co ∧ co ≤ 500)
    (k1 : pmCs (pmRo Ln xs) d 75 [.ref 34] (xS a b) fun r σ' => pmWp (pmRo Ln xs) d 3 79 0 132 [some (.ref 34), some (.long l), none, some (xV dp), some (xV sp), some (.long row), none, some (.ref 3), some (xV i), some (xV dd), some (xV co), some (.long m), none, some (.long lo), none, v15] (r.toList ++ []) σ' Q) :
    pmWp (pmRo Ln xs) d 3 79 0 128 [some (.ref 34), some (.long l), none, some (xV dp), some (xV sp), some (.long row), none, some (.ref 3), some (xV i), some (xV dd), some (xV co), some (.long m), none, some (.long lo), none, v15] [] (xS a b) Q := by
  refine x_aloadn xc79_128 rfl ?_
  refine x_cV (as := []) (rest := []) xc79_129 rfl xi75 xz34 ⟨rfl, rfl⟩ rfl rfl ?_
  exact k1

theorem w79f {Ln : Nat} {xs : Nat → Int32} {d : Nat} {Q : Option Value → pmS → Prop} {v15 : Option Value} {l row m lo : Int64} {dp sp i dd co : Int} {a : xA} {b : xB} (hi : 1 ≤ i ∧ i < 42) (hdd : 64 ≤ dd ∧ dd ≤ 383) (hco0 : 0 ≤ co ∧ co ≤ 500) {z lim : Int} (hz : 0 ≤ z ∧ z ≤ 2000000) (hl : a 34 12 = lim) (hl0 : 0 ≤ lim ∧ lim ≤ 4) (hdp : 0 ≤ dp ∧ dp ≤ 4)
    (k1 : (¬ z = 0) → (lim - dp ≤ z) → pmWp (pmRo Ln xs) d 3 79 0 23 [some (.ref 34), some (.long l), none, some (xV dp), some (xV sp), some (.long row), none, some (.ref 3), some (xV (i + 1)), some (xV dd), some (xV co), some (.long m), none, some (.long lo), none, some (xV z)] [] (xS a b) Q)
    (k2 : (¬ z = 0) → (¬ lim - dp ≤ z) → pmCs (pmRo Ln xs) d 73 [.ref 34, .long m, .ref 5] (xS a b) fun r σ' => pmWp (pmRo Ln xs) d 3 79 0 183 [some (.ref 34), some (.long l), none, some (xV dp), some (xV sp), some (.long row), none, some (.ref 3), some (xV i), some (xV dd), some (xV co), some (.long m), none, some (.long lo), none, some (xV z)] (r.toList ++ []) σ' Q)
    (k3 : (z = 0) → pmWp (pmRo Ln xs) d 3 79 0 23 [some (.ref 34), some (.long l), none, some (xV dp), some (xV sp), some (.long row), none, some (.ref 3), some (xV (i + 1)), some (xV dd), some (xV co), some (.long m), none, some (.long lo), none, some (xV z)] [] (xS (xU a 34 13 co) (xU b 34 14 (lo ||| (xShL (Int64.ofInt co) 36)))) Q) :
    pmWp (pmRo Ln xs) d 3 79 0 132 [some (.ref 34), some (.long l), none, some (xV dp), some (xV sp), some (.long row), none, some (.ref 3), some (xV i), some (xV dd), some (xV co), some (.long m), none, some (.long lo), none, v15] [xV z] (xS a b) Q := by
  refine x_istore (pl' := [some (.ref 34), some (.long l), none, some (xV dp), some (xV sp), some (.long row), none, some (.ref 3), some (xV i), some (xV dd), some (xV co), some (.long m), none, some (.long lo), none, some (xV z)]) xc79_132 rfl rfl ?_
  refine x_iload xc79_134 rfl ?_
  refine x_ifne xc79_136 (xRk (by have g0 := hz; omega)) (fun h0 => ?_) (fun h0 => ?_)
  · refine x_iload xc79_161 rfl ?_
    refine x_aloadn xc79_163 rfl ?_
    refine x_gfi' (k := 12) (v := lim) xc79_164 rfl (Or.inl rfl) rfl xz34 hl ?_
    refine x_iloadn xc79_167 rfl ?_
    refine x_isub xc79_168 ?_
    refine x_icge xc79_169 (xRk (by have g0 := hz; omega)) (xRk (by have g0 := hl0; have g1 := hdp; omega)) (fun h1 => ?_) (fun h1 => ?_)
    · refine x_iinc (pl' := [some (.ref 34), some (.long l), none, some (xV dp), some (xV sp), some (.long row), none, some (.ref 3), some (xV (i + 1)), some (xV dd), some (xV co), some (.long m), none, some (.long lo), none, some (xV z)]) xc79_221 rfl rfl ?_
      refine x_goto xc79_224 ?_
      exact k1 h0 h1
    · refine x_aloadn xc79_172 rfl ?_
      refine x_lload xc79_173 rfl ?_
      refine x_aload xc79_175 rfl ?_
      refine x_gfr xc79_177 rfl rfl xz3 rfl ?_
      refine x_cV (as := [.long m, .ref 5]) (rest := []) xc79_180 rfl xi73 xz34 ⟨rfl, rfl⟩ rfl rfl ?_
      exact k2 h0 h1
  · replace h0 := Classical.not_not.mp h0
    refine x_aloadn xc79_139 rfl ?_
    refine x_iload xc79_140 rfl ?_
    refine x_pfi (k := 13) xc79_142 rfl ⟨rfl, rfl⟩ rfl xz34 ?_
    refine x_aloadn xc79_145 rfl ?_
    refine x_lload xc79_146 rfl ?_
    refine x_iload xc79_148 rfl ?_
    refine x_i2l (xRk (by have g0 := hco0; omega)) xc79_150 ?_
    refine x_bipush xc79_151 (by decide) ?_
    refine x_lshl xc79_153 ?_
    refine x_lor xc79_154 ?_
    refine x_pfl (k := 14) xc79_155 rfl ⟨rfl, rfl⟩ rfl xz34 ?_
    refine x_goto xc79_158 ?_
    refine x_iinc (pl' := [some (.ref 34), some (.long l), none, some (xV dp), some (xV sp), some (.long row), none, some (.ref 3), some (xV (i + 1)), some (xV dd), some (xV co), some (.long m), none, some (.long lo), none, some (xV z)]) xc79_221 rfl rfl ?_
    refine x_goto xc79_224 ?_
    exact k3 h0

theorem w79g {Ln : Nat} {xs : Nat → Int32} {d : Nat} {Q : Option Value → pmS → Prop} {l row m lo : Int64} {dp sp i dd co : Int} {a : xA} {b : xB} (hi : 1 ≤ i ∧ i < 42) (hdd : 64 ≤ dd ∧ dd ≤ 383) (hco0 : 0 ≤ co ∧ co ≤ 500) {z : Int}
    (k1 : pmCs (pmRo Ln xs) d 74 [.ref 34, .long m, .ref 5] (xS a b) fun r σ' => pmWp (pmRo Ln xs) d 3 79 0 194 [some (.ref 34), some (.long l), none, some (xV dp), some (xV sp), some (.long row), none, some (.ref 3), some (xV i), some (xV dd), some (xV co), some (.long m), none, some (.long lo), none, some (xV z)] (r.toList ++ []) σ' Q) :
    pmWp (pmRo Ln xs) d 3 79 0 183 [some (.ref 34), some (.long l), none, some (xV dp), some (xV sp), some (.long row), none, some (.ref 3), some (xV i), some (xV dd), some (xV co), some (.long m), none, some (.long lo), none, some (xV z)] [] (xS a b) Q := by
  refine x_aloadn xc79_183 rfl ?_
  refine x_lload xc79_184 rfl ?_
  refine x_aload xc79_186 rfl ?_
  refine x_gfr xc79_188 rfl rfl xz3 rfl ?_
  refine x_cV (as := [.long m, .ref 5]) (rest := []) xc79_191 rfl xi74 xz34 ⟨rfl, rfl⟩ rfl rfl ?_
  exact k1

theorem w79h {Ln : Nat} {xs : Nat → Int32} {d : Nat} {Q : Option Value → pmS → Prop} {l row m lo : Int64} {dp sp i dd co : Int} {a : xA} {b : xB} (hi : 1 ≤ i ∧ i < 42) (hdd : 64 ≤ dd ∧ dd ≤ 383) (hco0 : 0 ≤ co ∧ co ≤ 500) {z : Int}
    (k1 : pmCs (pmRo Ln xs) d 75 [.ref 34] (xS a b) fun r σ' => pmWp (pmRo Ln xs) d 3 79 0 200 [some (.ref 34), some (.long l), none, some (xV dp), some (xV sp), some (.long row), none, some (.ref 3), some (xV i), some (xV dd), some (xV co), some (.long m), none, some (.long lo), none, some (xV z)] (r.toList ++ [xV co]) σ' Q) :
    pmWp (pmRo Ln xs) d 3 79 0 194 [some (.ref 34), some (.long l), none, some (xV dp), some (xV sp), some (.long row), none, some (.ref 3), some (xV i), some (xV dd), some (xV co), some (.long m), none, some (.long lo), none, some (xV z)] [] (xS a b) Q := by
  refine x_iload xc79_194 rfl ?_
  refine x_aloadn xc79_196 rfl ?_
  refine x_cV (as := []) (rest := [xV co]) xc79_197 rfl xi75 xz34 ⟨rfl, rfl⟩ rfl rfl ?_
  exact k1

theorem w79i {Ln : Nat} {xs : Nat → Int32} {d : Nat} {Q : Option Value → pmS → Prop} {l row m lo : Int64} {dp sp i dd co : Int} {a : xA} {b : xB} (hi : 1 ≤ i ∧ i < 42) (hdd : 64 ≤ dd ∧ dd ≤ 383) (hco0 : 0 ≤ co ∧ co ≤ 500) {z : Int} {y bc : Int} (hy : 0 ≤ y ∧ y ≤ 2000000) (hbc : a 34 13 = bc) (hbc0 : 0 ≤ bc ∧ bc ≤ 100000)
    (k1 : (bc ≤ co + y) → pmWp (pmRo Ln xs) d 3 79 0 23 [some (.ref 34), some (.long l), none, some (xV dp), some (xV sp), some (.long row), none, some (.ref 3), some (xV (i + 1)), some (xV dd), some (xV co), some (.long m), none, some (.long lo), none, some (xV z)] [] (xS a b) Q)
    (k2 : (¬ bc ≤ co + y) → pmCs (pmRo Ln xs) d 79 [.ref 34, .long m, xV (dp + 1), xV co, .long lo] (xS a b) fun r σ' => pmWp (pmRo Ln xs) d 3 79 0 221 [some (.ref 34), some (.long l), none, some (xV dp), some (xV sp), some (.long row), none, some (.ref 3), some (xV i), some (xV dd), some (xV co), some (.long m), none, some (.long lo), none, some (xV z)] (r.toList ++ []) σ' Q) :
    pmWp (pmRo Ln xs) d 3 79 0 200 [some (.ref 34), some (.long l), none, some (xV dp), some (xV sp), some (.long row), none, some (.ref 3), some (xV i), some (xV dd), some (xV co), some (.long m), none, some (.long lo), none, some (xV z)] [xV y, xV co] (xS a b) Q := by
  refine x_iadd xc79_200 ?_
  refine x_aloadn xc79_201 rfl ?_
  refine x_gfi' (k := 13) (v := bc) xc79_202 rfl (Or.inl rfl) rfl xz34 hbc ?_
  refine x_icge xc79_205 (xRk (by have g0 := hco0; have g1 := hy; omega)) (xRk (by have g0 := hbc0; omega)) (fun h0 => ?_) (fun h0 => ?_)
  · refine x_iinc (pl' := [some (.ref 34), some (.long l), none, some (xV dp), some (xV sp), some (.long row), none, some (.ref 3), some (xV (i + 1)), some (xV dd), some (xV co), some (.long m), none, some (.long lo), none, some (xV z)]) xc79_221 rfl rfl ?_
    refine x_goto xc79_224 ?_
    exact k1 h0
  · refine x_aloadn xc79_208 rfl ?_
    refine x_lload xc79_209 rfl ?_
    refine x_iloadn xc79_211 rfl ?_
    refine x_iconst xc79_212 ?_
    refine x_iadd xc79_213 ?_
    refine x_iload xc79_214 rfl ?_
    refine x_lload xc79_216 rfl ?_
    refine x_cS (as := [.ref 34, .long m, xV (dp + 1), xV co, .long lo]) (rest := []) xc79_218 rfl rfl xi79 ⟨rfl, rfl⟩ rfl rfl ?_
    exact k2 h0

theorem w79j {Ln : Nat} {xs : Nat → Int32} {d : Nat} {Q : Option Value → pmS → Prop} {l row m lo : Int64} {dp sp i dd co : Int} {a : xA} {b : xB} (hi : 1 ≤ i ∧ i < 42) (hdd : 64 ≤ dd ∧ dd ≤ 383) (hco0 : 0 ≤ co ∧ co ≤ 500) {z : Int}
    (k1 : pmWp (pmRo Ln xs) d 3 79 0 23 [some (.ref 34), some (.long l), none, some (xV dp), some (xV sp), some (.long row), none, some (.ref 3), some (xV (i + 1)), some (xV dd), some (xV co), some (.long m), none, some (.long lo), none, some (xV z)] [] (xS a b) Q) :
    pmWp (pmRo Ln xs) d 3 79 0 221 [some (.ref 34), some (.long l), none, some (xV dp), some (xV sp), some (.long row), none, some (.ref 3), some (xV i), some (xV dd), some (xV co), some (.long m), none, some (.long lo), none, some (xV z)] [] (xS a b) Q := by
  refine x_iinc (pl' := [some (.ref 34), some (.long l), none, some (xV dp), some (xV sp), some (.long row), none, some (.ref 3), some (xV (i + 1)), some (xV dd), some (xV co), some (.long m), none, some (.long lo), none, some (xV z)]) xc79_221 rfl rfl ?_
  refine x_goto xc79_224 ?_
  exact k1

end
end
section
/-! exact: the search for a plan -/
section
set_option maxRecDepth 100000


section
variable {Ln : Nat} {xs : Nat → Int32} {d : Nat} {Q : Option Value → pmS → Prop} {dr wp c pr : Int → Int} {n f wr : Int} {ts : List Int} {l : Int64} {a0 a a' : xA} {b b' : xB}
def u1 : Int → Int := fun _ => 1
/-- what the search stands on, in the class's heap -/
def uPs (dr wp c : Int → Int) (n wr : Int) (ts : List Int) (a0 a : xA) (b : xB) : Prop := xAr a ∧ uKs dr wp n a b ∧ (∀ k, a 6 k = a0 6 k) ∧ (∀ k, 0 ≤ k → 0 ≤ a 6 k ∧ a 6 k ≤ 99) ∧ (∀ k, 0 ≤ k → k < 7 → a 5 k = c k) ∧ a 9 wr = (ts.length : Int) ∧ ∀ (j : Nat) t, ts[j]? = some t → a 8 (wr * 40 + (j : Int)) = cT t
/-- and what never changes -/
def uPe (dr wp c pr : Int → Int) (f wr : Int) (ts : List Int) (a0 : xA) : Prop := uSe dr wp c u1 pr (uV a0 c) (uV a0 u1) f ts ∧ ts.length ≤ 40 ∧ (∀ t, t ∈ ts → uTv t) ∧ 0 ≤ wr ∧ wr ≤ 11
/-- nothing changed but the planner's notes, the best cost, the best -/
def uXc (a a' : xA) (b b' : xB) : Prop := (∀ q j, q ≠ 37 → q ≠ 38 → q ≠ 39 → q ≠ 40 → q ≠ 41 → q ≠ 42 → ¬ (q = 34 ∧ j = 13) → a' q j = a q j) ∧ ∀ q j, ¬ (q = 34 ∧ j = 14) → b' q j = b q j
theorem uXc_r : uXc a a b b := ⟨fun _ _ _ _ _ _ _ _ _ => rfl, fun _ _ _ => rfl⟩
theorem uXc_t {a'' : xA} {b'' : xB} (h : uXc a a' b b') (h' : uXc a' a'' b' b'') : uXc a a'' b b'' := ⟨fun q j e1 e2 e3 e4 e5 e6 e7 => (h'.1 q j e1 e2 e3 e4 e5 e6 e7).trans (h.1 q j e1 e2 e3 e4 e5 e6 e7), fun q j e => (h'.2 q j e).trans (h.2 q j e)⟩
theorem uXc_s (h : uSc a a') : uXc a a' b b := ⟨fun q j e1 e2 e3 e4 e5 e6 _ => h q j e1 e2 e3 e4 e5 e6, fun _ _ _ => rfl⟩
theorem uKs_f (hK : uKs dr wp n a b) (h3 : ∀ k, a' 3 k = a 3 k) (h4 : ∀ k, a' 4 k = a 4 k) (hb : b' 3 3 = b 3 3) : uKs dr wp n a' b' := by
  obtain ⟨k1, k2, k3, k4, k5⟩ := hK
  exact ⟨fun k k0 k9 => by rw [hb]; exact k1 k k0 k9, fun i i0 i5 => by rw [h3]; exact k2 i i0 i5, by rw [h3]; exact k3, k4, fun k k0 k6 => by rw [h4]; exact k5 k k0 k6⟩
theorem uPs_x (h : uPs dr wp c n wr ts a0 a b) (hA : xAr a') (hf : ∀ q j, q = 3 ∨ q = 4 ∨ q = 5 ∨ q = 6 ∨ q = 8 ∨ q = 9 → a' q j = a q j) (hb : b' 3 3 = b 3 3) : uPs dr wp c n wr ts a0 a' b' := by
  obtain ⟨k1, k2, k3, k4, k5, k6, k7⟩ := h
  refine ⟨hA, uKs_f k2 (fun k => hf 3 k (by decide)) (fun k => hf 4 k (by decide)) hb, fun k => (hf 6 k (by decide)).trans (k3 k), fun k k0 => by rw [hf 6 k (by decide)]; exact k4 k k0, fun k k0 k9 => (hf 5 k (by decide)).trans (k5 k k0 k9), (hf 9 wr (by decide)).trans k6, fun j t ht => (hf 8 _ (by decide)).trans (k7 j t ht)⟩
theorem uPs_xc (h : uPs dr wp c n wr ts a0 a b) (hx : uXc a a' b b') (hA : xAr a') : uPs dr wp c n wr ts a0 a' b' := uPs_x h hA (fun q j e => hx.1 q j (by omega) (by omega) (by omega) (by omega) (by omega) (by omega) (by omega)) (hx.2 3 3 (by decide))
theorem uRun_ne {α β : Type} {A : Int → α} {n1 : α → α} {a1 o1 : α → α → α} {B : Int → β} {n2 : β → β} {a2 o2 : β → β → β} (h : ¬ uRun A n1 a1 o1 ts [] = []) : ¬ uRun B n2 a2 o2 ts [] = [] := by
  have hr := uRun_rel (R := fun (_ : α) (_ : β) => True) (A1 := A) (n1 := n1) (a1 := a1) (o1 := o1) (A2 := B) (n2 := n2) (a2 := a2) (o2 := o2) (fun _ _ _ => trivial) (fun _ _ _ _ _ _ => trivial) (fun _ _ _ _ _ _ => trivial) ts (fun _ _ _ => trivial) [] [] trivial
  have hl := uF2_len hr
  intro e
  rw [e] at hl
  exact h (List.length_eq_zero_iff.mp hl)
/-- one measuring, weighing, folding -/
theorem uNd {cp : Nat} {cc : Int → Int} (hcc : (cp = 1000 ∧ cc = u1) ∨ (cp = 5 ∧ cc = c)) (hE : uPe dr wp c pr f wr ts a0) (hP : uPs dr wp c n wr ts a0 a b) (hf : a 34 10 = f) (hw : a 34 11 = wr) (hS : uOk f (uSl l)) (hd : 1 ≤ d) (hQ : ∀ a', uSc a a' → xAr a' → Q (some (xV (uH (uV a0 cc) cc wp f ts (uSl l)))) (xS a' b)) : pmCs (pmRo Ln xs) d 73 [.ref 34, .long l, .ref cp] (xS a b) fun r σ1 => ∃ a1, r = none ∧ σ1 = xS a1 b ∧ pmCs (pmRo Ln xs) d 74 [.ref 34, .long l, .ref cp] (xS a1 b) fun r σ2 => ∃ a2, r = none ∧ σ2 = xS a2 b ∧ pmCs (pmRo Ln xs) d 75 [.ref 34] (xS a2 b) Q := by
  obtain ⟨hA, hK, h6, hW, h5, h9, h8⟩ := hP
  obtain ⟨hSe, hl40, htv, hw0, hw1⟩ := hE
  have hf0 := hSe.2.2.1
  have hVo : uVo dr (uV a0 cc) cc := by
    rcases hcc with ⟨_, e⟩ | ⟨_, e⟩
    · rw [e]
      exact hSe.2.1
    · rw [e]
      exact hSe.1
  have hcb : ∀ k, 1 ≤ k → k < 6 → 1 ≤ cc k ∧ cc k ≤ 73 := fun k k0 k1 => hVo.2.2 k k0 (by omega)
  have hco : uCo a cc cp := by
    rcases hcc with ⟨e1, e2⟩ | ⟨e1, e2⟩
    · exact Or.inl ⟨e1, fun k _ _ => by rw [e2]; rfl⟩
    · exact Or.inr ⟨e1, fun k k0 k1 => by rw [e2]; exact h5 k k0 k1⟩
  have eV : uV a cc = uV a0 cc := by
    funext x y
    show a 6 _ * _ = a0 6 _ * _
    rw [h6]
  refine u73 (wp := wp) hA hf hf0 hS.1 hW hK.2.1 hco hcb hd (fun a1 s1 A1 g41 g40 => ⟨a1, rfl, rfl, ?_⟩)
  rw [eV] at g41 g40
  refine u74 (wp := wp) (a0 := a0) A1 ((s1 34 10 (by decide) (by decide) (by decide) (by decide) (by decide) (by decide)).trans hf) hf0 ((s1 34 11 (by decide) (by decide) (by decide) (by decide) (by decide) (by decide)).trans hw) ⟨hw0, hw1⟩ ((s1 9 wr (by decide) (by decide) (by decide) (by decide) (by decide) (by decide)).trans h9) hl40 hS.1 (fun k k0 => by rw [s1 6 k (by decide) (by decide) (by decide) (by decide) (by decide) (by decide)]; exact hW k k0) (uSc_c s1 hco) hcb (fun j t ht => (s1 8 _ (by decide) (by decide) (by decide) (by decide) (by decide) (by decide)).trans (h8 j t ht)) htv (fun k => (s1 6 k (by decide) (by decide) (by decide) (by decide) (by decide) (by decide)).trans (h6 k)) g41 g40 (fun x x0 x1 => ?_) (fun q q0 q1 => ?_) hd (fun a2 s2 A2 gy => ⟨a2, rfl, rfl, ?_⟩)
  · have := uHd_b hVo hf0 hS x0 x1
    exact ⟨⟨this.1, this.2.1⟩, this.2.2.2.1, by omega⟩
  · unfold uHt
    split
    · decide
    · have h1 := uAm_le (H := uHd (uV a0 cc) cc f (uSl l)) (wp := wp)
      have h2 := h1.2.2 (fun y y0 y1 => (uHd_b hVo hf0 hS y0 y1).1)
      have h3 := hcb 5 (by decide) (by decide)
      have hS1 := hS.1
      have h4 : 0 ≤ uMt (uV a0 cc) f (uSl l) q ∧ uMt (uV a0 cc) f (uSl l) q ≤ 100000 := by
        unfold uMt
        split
        · have := (hVo.1 (uSl l f - 1) (uSl l q - 1) (by omega) (by omega) (by omega) (by omega)).1
          omega
        · omega
      unfold uMax
      split <;> omega
  · have s2' : uSc a a2 := fun q j e1 e2 e3 e4 e5 e6 => (s2 q j e1 e2).trans (s1 q j e1 e2 e3 e4 e5 e6)
    refine u75 (A := uYN (uV a0 cc) cc wp f (uSl l)) A2 ((s2' 34 11 (by decide) (by decide) (by decide) (by decide) (by decide) (by decide)).trans hw) ⟨hw0, hw1⟩ ((s2' 9 wr (by decide) (by decide) (by decide) (by decide) (by decide) (by decide)).trans h9) hl40 (fun j t ht => (s2' 8 _ (by decide) (by decide) (by decide) (by decide) (by decide) (by decide)).trans (h8 j t ht)) htv gy (uRun_ne (hSe.2.2.2.2.1 (uSl l))) hd (fun a3 s3 A3 => hQ a3 (fun q j e1 e2 e3 e4 e5 e6 => (s3 q j e1 e2).trans (s2' q j e1 e2 e3 e4 e5 e6)) A3)
theorem uMin_l {x y : Int} : uMin x y ≤ x ∧ uMin x y ≤ y ∧ (uMin x y = x ∨ uMin x y = y) := by
  unfold uMin
  split <;> omega
theorem u78 {ro : Nat → Nat × (Nat → Int32)} (hc : ∀ i, 1 ≤ i → i ≤ 5 → 1 ≤ a 5 i ∧ a 5 i ≤ 73) (hd : 1 ≤ d) (hQ : ∀ ch, 1 ≤ ch ∧ ch ≤ 73 → (∀ i, 1 ≤ i → i ≤ 5 → ch ≤ a 5 i) → Q (some (xV ch)) (xS a b)) : pmCs ro d 78 [.ref 3] (xS a b) Q := by
  refine pmCs_deep (d := 1) (xg78 (w78 hc ?_)) hd
  have c1 := hc 1 (by decide) (by decide)
  have c2 := hc 2 (by decide) (by decide)
  have c3 := hc 3 (by decide) (by decide)
  have c4 := hc 4 (by decide) (by decide)
  have c5 := hc 5 (by decide) (by decide)
  have m1 := @uMin_l (a 5 1) (a 5 2)
  have m2 := @uMin_l (uMin (a 5 1) (a 5 2)) (a 5 3)
  have m3 := @uMin_l (uMin (uMin (a 5 1) (a 5 2)) (a 5 3)) (a 5 4)
  have m4 := @uMin_l (uMin (uMin (uMin (a 5 1) (a 5 2)) (a 5 3)) (a 5 4)) (a 5 5)
  refine hQ (uMin (uMin (uMin (uMin (a 5 1) (a 5 2)) (a 5 3)) (a 5 4)) (a 5 5)) ⟨by omega, by omega⟩ (fun i i0 i1 => ?_)
  have : i = 1 ∨ i = 2 ∨ i = 3 ∨ i = 4 ∨ i = 5 := by omega
  rcases this with e | e | e | e | e <;> (subst e; omega)
/-- extend -/
theorem u79 (hE : uPe dr wp c pr f wr ts a0) : ∀ (m : Nat) (dp sp : Int) (l row : Int64) (rl : List Int) (a : xA) (b : xB) (d : Nat) (Q : Option Value → pmS → Prop), m ≤ 4 → uPs dr wp c n wr ts a0 a b → a 34 10 = f → a 34 11 = wr → a 34 12 = dp + (m : Int) → dp = (rl.length : Int) → dp + (m : Int) ≤ 4 → (∀ k, k ∈ rl → 0 ≤ k ∧ k < 41) → uN row = uRw rl → uOk f (uSl l) → 0 ≤ sp ∧ sp ≤ 73 * dp → 0 ≤ a 34 13 ∧ a 34 13 ≤ 100000 → m + 2 ≤ d →
    (∀ a' b', uXc a a' b b' → xAr a' → (a' 34 13, b' 34 14) = uMg sp rl (a 34 13, b 34 14) (uOpt dr wp pr f ts m (uSl l)) → 0 ≤ a' 34 13 ∧ a' 34 13 ≤ 100000 → Q none (xS a' b')) → pmCs (pmRo Ln xs) d 79 [.ref 34, .long l, xV dp, xV sp, .long row] (xS a b) Q := by
  have hSe := hE.1
  have hf0 := hSe.2.2.1
  have hcc := hSe.2.2.2.2.2.1
  intro m
  induction m with
  | zero =>
    intro dp sp l row rl a b d Q hm4 hP hf hw hli hdp hd4 hrl hrow hS hsp hbc hd hQ
    refine pmCs_deep (d := 1) (xg79 (w79 hli ⟨by omega, by omega⟩ ⟨by omega, by omega⟩ (fun _ => hQ a b uXc_r hP.1 rfl hbc) (fun e => by omega) (fun _ _ => hQ a b uXc_r hP.1 rfl hbc))) (by omega)
  | succ m IH =>
    intro dp sp l row rl a b d Q hm4 hP hf hw hli hdp hd4 hrl hrow hS hsp hbc hd hQ
    obtain ⟨d, rfl⟩ : ∃ e, d = e + 1 := ⟨d - 1, by omega⟩
    refine xg79 (w79 hli ⟨by omega, by omega⟩ ⟨by omega, by omega⟩ (fun e => by omega) (fun _ _ => ?_) (fun _ e => by omega))
    -- the loop over codes
    have loop : ∀ (q k : Nat) (a1 : xA) (b1 : xB) (v9 v10 v11 v12 v13 v14 v15 : Option Value), 41 - k ≤ q → k ≤ 41 → uXc a a1 b b1 → xAr a1 → (a1 34 13, b1 34 14) = uMg sp rl (a 34 13, b 34 14) (uFo (uOne dr wp pr f ts m (uSl l)) k) → 0 ≤ a1 34 13 ∧ a1 34 13 ≤ 100000 →
        pmWp (pmRo Ln xs) d 3 79 0 23 [some (.ref 34), some (.long l), none, some (xV dp), some (xV sp), some (.long row), none, some (.ref 3), some (xV ((k : Int) + 1)), v9, v10, v11, v12, v13, v14, v15] [] (xS a1 b1) Q := by
      intro q
      induction q with
      | zero =>
        intro k a1 b1 v9 v10 v11 v12 v13 v14 v15 hq hk h1 h2 h3 h4
        have ek : k = 41 := by omega
        subst ek
        exact w79x (hQ a1 b1 h1 h2 h3 h4)
      | succ q ih =>
        intro k a1 b1 v9 v10 v11 v12 v13 v14 v15 hq hk h1 h2 h3 h4
        by_cases ek : k = 41
        · subst ek
          exact w79x (hQ a1 b1 h1 h2 h3 h4)
        have hP1 := uPs_xc hP h1 h2
        have hf1 : a1 34 10 = f := (h1.1 34 10 (by decide) (by decide) (by decide) (by decide) (by decide) (by decide) (by decide)).trans hf
        have hw1 : a1 34 11 = wr := (h1.1 34 11 (by decide) (by decide) (by decide) (by decide) (by decide) (by decide) (by decide)).trans hw
        have hl1 : a1 34 12 = dp + ((m + 1 : Nat) : Int) := (h1.1 34 12 (by decide) (by decide) (by decide) (by decide) (by decide) (by decide) (by decide)).trans hli
        have hkk : (0 : Int) ≤ (k : Int) ∧ (k : Int) < 41 := ⟨by omega, by omega⟩
        obtain ⟨d0, d1, d2, d3, d4⟩ := uD_p (k := (k : Int)) ⟨by omega, by omega⟩
        have hKe := @uK_e (k : Int)
        have hdd : 64 ≤ uD (k : Int) ∧ uD (k : Int) ≤ 383 := by
          have := d3 (by omega)
          omega
        have hde : a1 4 ((k : Int) + 1) = uD (k : Int) := hP1.2.1.2.2.2.2 k (by omega) (by omega)
        have hK5 : 1 ≤ uK (k : Int) ∧ uK (k : Int) ≤ 5 := by omega
        have hcs : a1 5 (uD (k : Int) / 64) = uCs pr (k : Int) := by
          rw [d2, hP1.2.2.2.2.1 _ (by omega) (by omega), hcc _ hK5.1 hK5.2]
          rfl
        have hcb := uCs_b hSe hkk
        -- on with the next code
        have nx : ∀ (a2 : xA) (b2 : xB) (v9 v10 v11 v12 v13 v14 v15 : Option Value), uXc a1 a2 b1 b2 → xAr a2 → (a2 34 13, b2 34 14) = uMg sp rl (a1 34 13, b1 34 14) (uOne dr wp pr f ts m (uSl l) k) → 0 ≤ a2 34 13 ∧ a2 34 13 ≤ 100000 →
            pmWp (pmRo Ln xs) d 3 79 0 23 [some (.ref 34), some (.long l), none, some (xV dp), some (xV sp), some (.long row), none, some (.ref 3), some (xV ((k : Int) + 1 + 1)), v9, v10, v11, v12, v13, v14, v15] [] (xS a2 b2) Q := by
          intro a2 b2 v9 v10 v11 v12 v13 v14 v15 g1 g2 g3 g4
          refine ih (k + 1) a2 b2 v9 v10 v11 v12 v13 v14 v15 (by omega) (by omega) (uXc_t h1 g1) g2 ?_ g4
          rw [uMg_s, ← h3]
          exact g3
        have same : ∀ a2 : xA, uSc a1 a2 → (a2 34 13, b1 34 14) = (a1 34 13, b1 34 14) := fun a2 s => by rw [s 34 13 (by decide) (by decide) (by decide) (by decide) (by decide) (by decide)]
        have same0 : ∀ a2 : xA, uSc a1 a2 → 0 ≤ a2 34 13 ∧ a2 34 13 ≤ 100000 := fun a2 s => by rw [s 34 13 (by decide) (by decide) (by decide) (by decide) (by decide) (by decide)]; exact h4
        refine w79a hl1 ⟨by omega, by omega⟩ rfl h4 ⟨by omega, by omega⟩ ⟨hsp.1, by omega⟩ ⟨by omega, by omega⟩ hde hdd hf1 hf0 hcs ⟨by omega, hcb.2⟩ (fun e => by omega) (fun e1 e2 => ?_) (fun e1 e2 => ?_)
        · exact nx a1 b1 _ _ _ _ _ _ _ uXc_r h2 (by rw [uMg_c (row := rl) hSe (by omega) e2]) h4
        · have e2 : sp + uCs pr (k : Int) < a1 34 13 := by omega
          have hco : 0 ≤ sp + uCs pr (k : Int) ∧ sp + uCs pr (k : Int) ≤ 500 := ⟨by omega, by omega⟩
          have hca : uCa dr wp n f (uSl l) k ↔ uCan dr wp f (uSl l) k := by
            unfold uCa
            rw [if_pos (by omega)]
            constructor
            · rintro (h | h)
              · omega
              · exact h.2
            · exact fun h => Or.inr ⟨hS.1, h⟩
          refine u80 hP1.1 hP1.2.1 ⟨by omega, by omega⟩ ⟨by omega, by omega⟩ (by omega) (fun hc => ?_) (fun hc => ?_)
          · rw [hca] at hc
            refine w79b ⟨by omega, by omega⟩ hdd hco hf1 (Or.inr rfl) (fun _ => ?_) (fun e => by omega)
            refine u81 ⟨by omega, by omega⟩ ⟨by omega, by omega⟩ (by omega) (fun l2 hl2 => ?_)
            have hS2 : uOk f (uApp f (uSl l) k) := uOk_app hf0 hS hkk hc
            -- the slots of the view behind the deed
            have hq : uQ (uSl l2) (uApp f (uSl l) k) := fun j j0 j1 => hl2 j j0 (by omega)
            have eH : ∀ (V : Int → Int → Int) (cc : Int → Int), uH V cc wp f ts (uSl l2) = uH V cc wp f ts (uApp f (uSl l) k) ∧ uHold f ts (uSl l2) = uHold f ts (uApp f (uSl l) k) ∧ uOpt dr wp pr f ts m (uSl l2) = uOpt dr wp pr f ts m (uApp f (uSl l) k) := fun V cc => ⟨uQ_H hq hf0 hSe.2.2.2.1, uQ_hold hq hf0 hSe.2.2.2.1, uQ_opt hf0 hSe.2.2.2.1 m _ _ hq⟩
            have hS2' : uOk f (uSl l2) := by
              obtain ⟨q1, q2, q3⟩ := hS2
              refine ⟨by rw [hl2 f (by omega) (by omega)]; exact q1, fun q q0 q4 => by rw [hl2 q q0 (by omega)]; exact q2 q q0 q4, fun x x0 x5 => by rw [hl2 (4 + x) (by omega) (by omega)]; exact q3 x x0 x5⟩
            refine w79c ⟨by omega, by omega⟩ hdd hco ⟨by omega, by omega⟩ ?_
            -- the row, one longer
            have hNr : uN (row ||| xShL (Int64.ofInt (uD (k : Int))) (9 * dp)) = uRw (rl ++ [(k : Int)]) := by
              have hb := uRw_b rl (fun x hx => by have := hrl x hx; omega)
              have e9 : (9 * dp).toNat = 9 * rl.length := by omega
              have ep : (512 : Nat) ^ rl.length = 2 ^ (9 * rl.length) := by
                rw [show (512 : Nat) = 2 ^ 9 from rfl, ← Nat.pow_mul]
              have hsm : (uD (k : Int)).toNat * 2 ^ (9 * rl.length) < 2 ^ 64 := by
                have h27 : 2 ^ (9 * rl.length) ≤ 2 ^ 27 := Nat.pow_le_pow_right (by decide) (by omega)
                have : (uD (k : Int)).toNat * 2 ^ (9 * rl.length) ≤ 448 * 2 ^ 27 := Nat.mul_le_mul (by omega) h27
                have e : 448 * 2 ^ 27 < 2 ^ 64 := by decide
                omega
              have hs := uN_shl (l := Int64.ofInt (uD (k : Int))) (k := 9 * dp) (by omega) (by omega) (by rw [uN_of d0 (by omega), e9]; exact hsm)
              rw [uN_of d0 (by omega), e9] at hs
              rw [uN_or (n := 9 * rl.length) (q := (uD (k : Int)).toNat) (by rw [hrow, ← ep]; exact hb) hs, hrow, uRw_s, ep]
            have hrl' : ∀ x, x ∈ rl ++ [(k : Int)] → 0 ≤ x ∧ x < 41 := fun x hx => by
              rcases List.mem_append.mp hx with h | h
              · exact hrl x h
              · rw [List.mem_singleton] at h
                omega
            refine pmCs_mono (uNd (Or.inl ⟨rfl, rfl⟩) hE hP1 hf1 hw1 hS2' (by omega) (Q := fun r σ => ∃ a2, r = some (xV (uH (uV a0 u1) u1 wp f ts (uSl l2))) ∧ σ = xS a2 b1 ∧ uSc a1 a2 ∧ xAr a2) (fun a2 s2 A2 => ⟨a2, rfl, rfl, s2, A2⟩)) ?_
            rintro r σ ⟨a2, rfl, rfl, h74⟩
            refine w79d ⟨by omega, by omega⟩ hdd hco ?_
            refine pmCs_mono h74 ?_
            rintro r σ ⟨a3, rfl, rfl, h75⟩
            refine w79e ⟨by omega, by omega⟩ hdd hco ?_
            refine pmCs_mono h75 ?_
            rintro r σ ⟨a4, rfl, rfl, s4, A4⟩
            have hz := uH_z (wp := wp) hSe.2.1 hf0 hS2 hSe.2.2.2.1 (hSe.2.2.2.2.1 (uApp f (uSl l) k))
            have hzb : uH (uV a0 u1) u1 wp f ts (uSl l2) ≤ 2000000 := Int.le_trans (uH_b hSe.2.1 hf0 hS2' hSe.2.2.2.1) (by decide)
            rw [(eH (uV a0 u1) u1).1] at hzb ⊢
            refine w79f ⟨by omega, by omega⟩ hdd hco ⟨hz.1, hzb⟩ ((s4 34 12 (by decide) (by decide) (by decide) (by decide) (by decide) (by decide)).trans hl1) ⟨by omega, by omega⟩ ⟨by omega, by omega⟩ (fun g1 g2 => ?_) (fun g1 g2 => ?_) (fun g1 => ?_)
            · have hh : uHold f ts (uApp f (uSl l) k) = false := by
                cases e : uHold f ts (uApp f (uSl l) k) with
                | false => rfl
                | true => exact absurd (hz.2.mpr e) g1
              exact nx a4 b1 _ _ _ _ _ _ _ (uXc_s s4) A4 ((same a4 s4).trans (uMg_u (row := rl) hSe hS hkk (by omega) hc hh (by omega)).symm) (same0 a4 s4)
            · have hh : uHold f ts (uApp f (uSl l) k) = false := by
                cases e : uHold f ts (uApp f (uSl l) k) with
                | false => rfl
                | true => exact absurd (hz.2.mpr e) g1
              have hP4 := uPs_xc hP1 (uXc_s (b := b1) s4) A4
              refine pmCs_mono (uNd (Or.inr ⟨rfl, rfl⟩) hE hP4 ((s4 34 10 (by decide) (by decide) (by decide) (by decide) (by decide) (by decide)).trans hf1) ((s4 34 11 (by decide) (by decide) (by decide) (by decide) (by decide) (by decide)).trans hw1) hS2' (by omega) (Q := fun r σ => ∃ a2, r = some (xV (uH (uV a0 c) c wp f ts (uSl l2))) ∧ σ = xS a2 b1 ∧ uSc a4 a2 ∧ xAr a2) (fun a2 s2 A2 => ⟨a2, rfl, rfl, s2, A2⟩)) ?_
              rintro r σ ⟨a5, rfl, rfl, h74'⟩
              refine w79g ⟨by omega, by omega⟩ hdd hco ?_
              refine pmCs_mono h74' ?_
              rintro r σ ⟨a6, rfl, rfl, h75'⟩
              refine w79h ⟨by omega, by omega⟩ hdd hco ?_
              refine pmCs_mono h75' ?_
              rintro r σ ⟨a7, rfl, rfl, s7', A7⟩
              have s7 : uSc a1 a7 := uSc_t s4 s7'
              have hz' := uH_z (wp := wp) hSe.1 hf0 hS2 hSe.2.2.2.1 (hSe.2.2.2.2.1 (uApp f (uSl l) k))
              have hzb' : uH (uV a0 c) c wp f ts (uSl l2) ≤ 2000000 := Int.le_trans (uH_b hSe.1 hf0 hS2' hSe.2.2.2.1) (by decide)
              rw [(eH (uV a0 c) c).1] at hzb' ⊢
              refine w79i ⟨by omega, by omega⟩ hdd hco ⟨hz'.1, hzb'⟩ (s7 34 13 (by decide) (by decide) (by decide) (by decide) (by decide) (by decide)) h4 (fun g3 => ?_) (fun g3 => ?_)
              · exact nx a7 b1 _ _ _ _ _ _ _ (uXc_s s7) A7 ((same a7 s7).trans (uMg_p (row := rl) hSe hS hkk (by omega) hc hh (by show a1 34 13 ≤ _; omega)).symm) (same0 a7 s7)
              · have hP7 := uPs_xc hP1 (uXc_s (b := b1) s7) A7
                refine IH (dp + 1) (sp + uCs pr (k : Int)) l2 _ (rl ++ [(k : Int)]) a7 b1 d _ (by omega) hP7 ((s7 34 10 (by decide) (by decide) (by decide) (by decide) (by decide) (by decide)).trans hf1) ((s7 34 11 (by decide) (by decide) (by decide) (by decide) (by decide) (by decide)).trans hw1) ((s7 34 12 (by decide) (by decide) (by decide) (by decide) (by decide) (by decide)).trans (by rw [hl1]; omega)) (by rw [List.length_append]; show dp + 1 = ((rl.length + 1 : Nat) : Int); omega) (by omega) hrl' hNr hS2' ⟨by omega, by omega⟩ (same0 a7 s7) (by omega) (fun a8 b8 x8 A8 hm8 hb8 => ?_)
                refine w79j ⟨by omega, by omega⟩ hdd hco ?_
                refine nx a8 b8 _ _ _ _ _ _ _ (uXc_t (uXc_s s7) x8) A8 ?_ hb8
                rw [hm8, same a7 s7, (eH (uV a0 c) c).2.2, uMg_r hc hh]
            · have hh : uHold f ts (uApp f (uSl l) k) = true := hz.2.mp g1
              have ep : (row ||| xShL (Int64.ofInt (uD (k : Int))) (9 * dp)) ||| xShL (Int64.ofInt (sp + uCs pr (k : Int))) 36 = uPl (rl ++ [(k : Int)]) (sp + uCs pr (k : Int)) := by
                apply uN_eq
                have hb := uRw_b (rl ++ [(k : Int)]) (fun x hx => by have := hrl' x hx; omega)
                have hl4 : (rl ++ [(k : Int)]).length ≤ 4 := by
                  rw [List.length_append]
                  show rl.length + 1 ≤ 4
                  omega
                have h4' : 512 ^ (rl ++ [(k : Int)]).length ≤ 2 ^ 36 := Nat.le_trans (Nat.pow_le_pow_right (by decide) hl4) (by decide)
                have hs := uN_shl (l := Int64.ofInt (sp + uCs pr (k : Int))) (k := 36) (by decide) (by decide) (by rw [uN_of hco.1 (by omega)]; have e : (36 : Int).toNat = 36 := rfl; rw [e]; omega)
                rw [uN_of hco.1 (by omega)] at hs
                rw [uN_or (n := 36) (q := (sp + uCs pr (k : Int)).toNat) (by rw [hNr]; omega) hs, hNr, uPl_N (fun x hx => by have := hrl' x hx; omega) hl4 hco.1 (by omega)]
              refine nx _ _ _ _ _ _ _ _ _ ⟨fun q j e1 e2 e3 e4 e5 e6 e7 => ?_, fun q j e => ?_⟩ (xAr_u A4 ⟨by omega, by omega⟩) ?_ (by rw [xUa]; omega)
              · have : xU a4 34 13 (sp + uCs pr (k : Int)) q j = a4 q j := if_neg e7
                rw [this]
                exact s4 q j e1 e2 e3 e4 e5 e6
              · exact if_neg e
              · rw [xUa, xUa, uMg_h (row := rl) hc hh e2, ep]
          · rw [hca] at hc
            refine w79b ⟨by omega, by omega⟩ hdd hco hf1 (Or.inl rfl) (fun e => absurd rfl e) (fun _ => ?_)
            exact nx a1 b1 _ _ _ _ _ _ _ uXc_r h2 (uMg_n (row := rl) hc).symm h4
    exact loop 41 0 a b none none none none none none none (by decide) (by decide) uXc_r hP.1 rfl hbc
end
end
end
section
/-! exact: the class, plans remembered, what is wanted -/
section
set_option maxRecDepth 100000
theorem xi77 : pmInf[77]? = some pmI_77 := rfl
theorem xi85 : pmInf[85]? = some pmI_85 := rfl
theorem xc77_0 : pmCode 77 0 = some (.lload_n 1) ∧ 0 + 1 = 1 := ⟨rfl, rfl⟩
theorem xc77_1 : pmCode 77 1 = some (.iload_n 3) ∧ 1 + 1 = 2 := ⟨rfl, rfl⟩
theorem xc77_2 : pmCode 77 2 = some .i2l ∧ 2 + 1 = 3 := ⟨rfl, rfl⟩
theorem xc77_3 : pmCode 77 3 = some (.bipush 36) ∧ 3 + 2 = 5 := ⟨rfl, rfl⟩
theorem xc77_5 : pmCode 77 5 = some .lshl ∧ 5 + 1 = 6 := ⟨rfl, rfl⟩
theorem xc77_6 : pmCode 77 6 = some .lor ∧ 6 + 1 = 7 := ⟨rfl, rfl⟩
theorem xc77_7 : pmCode 77 7 = some (.iload 4) ∧ 7 + 2 = 9 := ⟨rfl, rfl⟩
theorem xc77_9 : pmCode 77 9 = some .i2l ∧ 9 + 1 = 10 := ⟨rfl, rfl⟩
theorem xc77_10 : pmCode 77 10 = some (.bipush 38) ∧ 10 + 2 = 12 := ⟨rfl, rfl⟩
theorem xc77_12 : pmCode 77 12 = some .lshl ∧ 12 + 1 = 13 := ⟨rfl, rfl⟩
theorem xc77_13 : pmCode 77 13 = some .lor ∧ 13 + 1 = 14 := ⟨rfl, rfl⟩
theorem xc77_14 : pmCode 77 14 = some (.lstore 5) ∧ 14 + 2 = 16 := ⟨rfl, rfl⟩
theorem xc77_16 : pmCode 77 16 = some (.lload 5) ∧ 16 + 2 = 18 := ⟨rfl, rfl⟩
theorem xc77_18 : pmCode 77 18 = some (.ldc2_w 82) ∧ 18 + 3 = 21 := ⟨rfl, rfl⟩
theorem xc77_21 : pmCode 77 21 = some .lmul ∧ 21 + 1 = 22 := ⟨rfl, rfl⟩
theorem xc77_22 : pmCode 77 22 = some (.bipush 55) ∧ 22 + 2 = 24 := ⟨rfl, rfl⟩
theorem xc77_24 : pmCode 77 24 = some .lushr ∧ 24 + 1 = 25 := ⟨rfl, rfl⟩
theorem xc77_25 : pmCode 77 25 = some .l2i ∧ 25 + 1 = 26 := ⟨rfl, rfl⟩
theorem xc77_26 : pmCode 77 26 = some (.istore 7) ∧ 26 + 2 = 28 := ⟨rfl, rfl⟩
theorem xc77_28 : pmCode 77 28 = some (.aload_n 0) ∧ 28 + 1 = 29 := ⟨rfl, rfl⟩
theorem xc77_29 : pmCode 77 29 = some (.getfield 11) ∧ 29 + 3 = 32 := ⟨rfl, rfl⟩
theorem xc77_32 : pmCode 77 32 = some (.iload 7) ∧ 32 + 2 = 34 := ⟨rfl, rfl⟩
theorem xc77_34 : pmCode 77 34 = some .laload ∧ 34 + 1 = 35 := ⟨rfl, rfl⟩
theorem xc77_35 : pmCode 77 35 = some (.lload 5) ∧ 35 + 2 = 37 := ⟨rfl, rfl⟩
theorem xc77_37 : pmCode 77 37 = some .lcmp ∧ 37 + 1 = 38 := ⟨rfl, rfl⟩
theorem xc77_38 : pmCode 77 38 = some (.ifCond .ne 11) ∧ ((38 : Nat) : Int) + 11 = ((49 : Nat) : Int) ∧ 38 + 3 = 41 := ⟨rfl, rfl, rfl⟩
theorem xc77_41 : pmCode 77 41 = some (.aload_n 0) ∧ 41 + 1 = 42 := ⟨rfl, rfl⟩
theorem xc77_42 : pmCode 77 42 = some (.getfield 15) ∧ 42 + 3 = 45 := ⟨rfl, rfl⟩
theorem xc77_45 : pmCode 77 45 = some (.iload 7) ∧ 45 + 2 = 47 := ⟨rfl, rfl⟩
theorem xc77_47 : pmCode 77 47 = some .laload ∧ 47 + 1 = 48 := ⟨rfl, rfl⟩
theorem xc77_48 : pmCode 77 48 = some .lreturn := rfl
theorem xc77_49 : pmCode 77 49 = some (.aload_n 0) ∧ 49 + 1 = 50 := ⟨rfl, rfl⟩
theorem xc77_50 : pmCode 77 50 = some (.lconst 0) ∧ 50 + 1 = 51 := ⟨rfl, rfl⟩
theorem xc77_51 : pmCode 77 51 = some (.putfield 84) ∧ 51 + 3 = 54 := ⟨rfl, rfl⟩
theorem xc77_54 : pmCode 77 54 = some (.aload_n 0) ∧ 54 + 1 = 55 := ⟨rfl, rfl⟩
theorem xc77_55 : pmCode 77 55 = some (.ldc 88) ∧ 55 + 2 = 57 := ⟨rfl, rfl⟩
theorem xc77_57 : pmCode 77 57 = some (.putfield 89) ∧ 57 + 3 = 60 := ⟨rfl, rfl⟩
theorem xc77_60 : pmCode 77 60 = some (.aload_n 0) ∧ 60 + 1 = 61 := ⟨rfl, rfl⟩
theorem xc77_61 : pmCode 77 61 = some (.lload_n 1) ∧ 61 + 1 = 62 := ⟨rfl, rfl⟩
theorem xc77_62 : pmCode 77 62 = some (.iload_n 3) ∧ 62 + 1 = 63 := ⟨rfl, rfl⟩
theorem xc77_63 : pmCode 77 63 = some (.iload 4) ∧ 63 + 2 = 65 := ⟨rfl, rfl⟩
theorem xc77_65 : pmCode 77 65 = some (.invokevirtual 92) ∧ 65 + 3 = 68 := ⟨rfl, rfl⟩
theorem xc77_68 : pmCode 77 68 = some (.ifCond .eq 13) ∧ ((68 : Nat) : Int) + 13 = ((81 : Nat) : Int) ∧ 68 + 3 = 71 := ⟨rfl, rfl, rfl⟩
theorem xc77_71 : pmCode 77 71 = some (.aload_n 0) ∧ 71 + 1 = 72 := ⟨rfl, rfl⟩
theorem xc77_72 : pmCode 77 72 = some (.ldc2_w 57) ∧ 72 + 3 = 75 := ⟨rfl, rfl⟩
theorem xc77_75 : pmCode 77 75 = some (.putfield 84) ∧ 75 + 3 = 78 := ⟨rfl, rfl⟩
theorem xc77_78 : pmCode 77 78 = some (.goto 60) ∧ ((78 : Nat) : Int) + 60 = ((138 : Nat) : Int) := ⟨rfl, rfl⟩
theorem xc77_81 : pmCode 77 81 = some (.aload_n 0) ∧ 81 + 1 = 82 := ⟨rfl, rfl⟩
theorem xc77_82 : pmCode 77 82 = some (.getfield 37) ∧ 82 + 3 = 85 := ⟨rfl, rfl⟩
theorem xc77_85 : pmCode 77 85 = some (.invokevirtual 96) ∧ 85 + 3 = 88 := ⟨rfl, rfl⟩
theorem xc77_88 : pmCode 77 88 = some (.istore 8) ∧ 88 + 2 = 90 := ⟨rfl, rfl⟩
theorem xc77_90 : pmCode 77 90 = some (.aload_n 0) ∧ 90 + 1 = 91 := ⟨rfl, rfl⟩
theorem xc77_91 : pmCode 77 91 = some (.iconst 1) ∧ 91 + 1 = 92 := ⟨rfl, rfl⟩
theorem xc77_92 : pmCode 77 92 = some (.putfield 101) ∧ 92 + 3 = 95 := ⟨rfl, rfl⟩
theorem xc77_95 : pmCode 77 95 = some (.aload_n 0) ∧ 95 + 1 = 96 := ⟨rfl, rfl⟩
theorem xc77_96 : pmCode 77 96 = some (.getfield 101) ∧ 96 + 3 = 99 := ⟨rfl, rfl⟩
theorem xc77_99 : pmCode 77 99 = some (.iconst 4) ∧ 99 + 1 = 100 := ⟨rfl, rfl⟩
theorem xc77_100 : pmCode 77 100 = some (.if_icmp .gt 38) ∧ ((100 : Nat) : Int) + 38 = ((138 : Nat) : Int) ∧ 100 + 3 = 103 := ⟨rfl, rfl, rfl⟩
theorem xc77_103 : pmCode 77 103 = some (.aload_n 0) ∧ 103 + 1 = 104 := ⟨rfl, rfl⟩
theorem xc77_104 : pmCode 77 104 = some (.getfield 101) ∧ 104 + 3 = 107 := ⟨rfl, rfl⟩
theorem xc77_107 : pmCode 77 107 = some (.iload 8) ∧ 107 + 2 = 109 := ⟨rfl, rfl⟩
theorem xc77_109 : pmCode 77 109 = some .imul ∧ 109 + 1 = 110 := ⟨rfl, rfl⟩
theorem xc77_110 : pmCode 77 110 = some (.aload_n 0) ∧ 110 + 1 = 111 := ⟨rfl, rfl⟩
theorem xc77_111 : pmCode 77 111 = some (.getfield 89) ∧ 111 + 3 = 114 := ⟨rfl, rfl⟩
theorem xc77_114 : pmCode 77 114 = some (.if_icmp .ge 24) ∧ ((114 : Nat) : Int) + 24 = ((138 : Nat) : Int) ∧ 114 + 3 = 117 := ⟨rfl, rfl, rfl⟩
theorem xc77_117 : pmCode 77 117 = some (.aload_n 0) ∧ 117 + 1 = 118 := ⟨rfl, rfl⟩
theorem xc77_118 : pmCode 77 118 = some (.lload_n 1) ∧ 118 + 1 = 119 := ⟨rfl, rfl⟩
theorem xc77_119 : pmCode 77 119 = some (.iconst 0) ∧ 119 + 1 = 120 := ⟨rfl, rfl⟩
theorem xc77_120 : pmCode 77 120 = some (.iconst 0) ∧ 120 + 1 = 121 := ⟨rfl, rfl⟩
theorem xc77_121 : pmCode 77 121 = some (.lconst 0) ∧ 121 + 1 = 122 := ⟨rfl, rfl⟩
theorem xc77_122 : pmCode 77 122 = some (.invokestatic 104) ∧ 122 + 3 = 125 := ⟨rfl, rfl⟩
theorem xc77_125 : pmCode 77 125 = some (.aload_n 0) ∧ 125 + 1 = 126 := ⟨rfl, rfl⟩
theorem xc77_126 : pmCode 77 126 = some .dup ∧ 126 + 1 = 127 := ⟨rfl, rfl⟩
theorem xc77_127 : pmCode 77 127 = some (.getfield 101) ∧ 127 + 3 = 130 := ⟨rfl, rfl⟩
theorem xc77_130 : pmCode 77 130 = some (.iconst 1) ∧ 130 + 1 = 131 := ⟨rfl, rfl⟩
theorem xc77_131 : pmCode 77 131 = some .iadd ∧ 131 + 1 = 132 := ⟨rfl, rfl⟩
theorem xc77_132 : pmCode 77 132 = some (.putfield 101) ∧ 132 + 3 = 135 := ⟨rfl, rfl⟩
theorem xc77_135 : pmCode 77 135 = some (.goto (-40)) ∧ ((135 : Nat) : Int) + (-40) = ((95 : Nat) : Int) := ⟨rfl, rfl⟩
theorem xc77_138 : pmCode 77 138 = some (.aload_n 0) ∧ 138 + 1 = 139 := ⟨rfl, rfl⟩
theorem xc77_139 : pmCode 77 139 = some (.getfield 11) ∧ 139 + 3 = 142 := ⟨rfl, rfl⟩
theorem xc77_142 : pmCode 77 142 = some (.iload 7) ∧ 142 + 2 = 144 := ⟨rfl, rfl⟩
theorem xc77_144 : pmCode 77 144 = some (.lload 5) ∧ 144 + 2 = 146 := ⟨rfl, rfl⟩
theorem xc77_146 : pmCode 77 146 = some .lastore ∧ 146 + 1 = 147 := ⟨rfl, rfl⟩
theorem xc77_147 : pmCode 77 147 = some (.aload_n 0) ∧ 147 + 1 = 148 := ⟨rfl, rfl⟩
theorem xc77_148 : pmCode 77 148 = some (.getfield 15) ∧ 148 + 3 = 151 := ⟨rfl, rfl⟩
theorem xc77_151 : pmCode 77 151 = some (.iload 7) ∧ 151 + 2 = 153 := ⟨rfl, rfl⟩
theorem xc77_153 : pmCode 77 153 = some (.aload_n 0) ∧ 153 + 1 = 154 := ⟨rfl, rfl⟩
theorem xc77_154 : pmCode 77 154 = some (.getfield 84) ∧ 154 + 3 = 157 := ⟨rfl, rfl⟩
theorem xc77_157 : pmCode 77 157 = some .lastore ∧ 157 + 1 = 158 := ⟨rfl, rfl⟩
theorem xc77_158 : pmCode 77 158 = some (.aload_n 0) ∧ 158 + 1 = 159 := ⟨rfl, rfl⟩
theorem xc77_159 : pmCode 77 159 = some (.getfield 84) ∧ 159 + 3 = 162 := ⟨rfl, rfl⟩
theorem xc77_162 : pmCode 77 162 = some .lreturn := rfl
theorem xc85_0 : pmCode 85 0 = some (.iload_n 3) ∧ 0 + 1 = 1 := ⟨rfl, rfl⟩
theorem xc85_1 : pmCode 85 1 = some (.iconst 1) ∧ 1 + 1 = 2 := ⟨rfl, rfl⟩
theorem xc85_2 : pmCode 85 2 = some (.if_icmp .lt 8) ∧ ((2 : Nat) : Int) + 8 = ((10 : Nat) : Int) ∧ 2 + 3 = 5 := ⟨rfl, rfl, rfl⟩
theorem xc85_5 : pmCode 85 5 = some (.iload_n 3) ∧ 5 + 1 = 6 := ⟨rfl, rfl⟩
theorem xc85_6 : pmCode 85 6 = some (.iconst 4) ∧ 6 + 1 = 7 := ⟨rfl, rfl⟩
theorem xc85_7 : pmCode 85 7 = some (.if_icmp .lt 5) ∧ ((7 : Nat) : Int) + 5 = ((12 : Nat) : Int) ∧ 7 + 3 = 10 := ⟨rfl, rfl, rfl⟩
theorem xc85_10 : pmCode 85 10 = some (.iconst 0) ∧ 10 + 1 = 11 := ⟨rfl, rfl⟩
theorem xc85_11 : pmCode 85 11 = some .ireturn := rfl
theorem xc85_12 : pmCode 85 12 = some (.iconst 0) ∧ 12 + 1 = 13 := ⟨rfl, rfl⟩
theorem xc85_13 : pmCode 85 13 = some (.istore 4) ∧ 13 + 2 = 15 := ⟨rfl, rfl⟩
theorem xc85_15 : pmCode 85 15 = some (.iload 4) ∧ 15 + 2 = 17 := ⟨rfl, rfl⟩
theorem xc85_17 : pmCode 85 17 = some (.aload_n 0) ∧ 17 + 1 = 18 := ⟨rfl, rfl⟩
theorem xc85_18 : pmCode 85 18 = some (.getfield 41) ∧ 18 + 3 = 21 := ⟨rfl, rfl⟩
theorem xc85_21 : pmCode 85 21 = some (.getfield 45) ∧ 21 + 3 = 24 := ⟨rfl, rfl⟩
theorem xc85_24 : pmCode 85 24 = some (.iload_n 3) ∧ 24 + 1 = 25 := ⟨rfl, rfl⟩
theorem xc85_25 : pmCode 85 25 = some .iaload ∧ 25 + 1 = 26 := ⟨rfl, rfl⟩
theorem xc85_26 : pmCode 85 26 = some (.if_icmp .ge 67) ∧ ((26 : Nat) : Int) + 67 = ((93 : Nat) : Int) ∧ 26 + 3 = 29 := ⟨rfl, rfl, rfl⟩
theorem xc85_29 : pmCode 85 29 = some (.aload_n 0) ∧ 29 + 1 = 30 := ⟨rfl, rfl⟩
theorem xc85_30 : pmCode 85 30 = some (.getfield 41) ∧ 30 + 3 = 33 := ⟨rfl, rfl⟩
theorem xc85_33 : pmCode 85 33 = some (.getfield 50) ∧ 33 + 3 = 36 := ⟨rfl, rfl⟩
theorem xc85_36 : pmCode 85 36 = some (.iload_n 3) ∧ 36 + 1 = 37 := ⟨rfl, rfl⟩
theorem xc85_37 : pmCode 85 37 = some (.iconst 3) ∧ 37 + 1 = 38 := ⟨rfl, rfl⟩
theorem xc85_38 : pmCode 85 38 = some .imul ∧ 38 + 1 = 39 := ⟨rfl, rfl⟩
theorem xc85_39 : pmCode 85 39 = some (.iload 4) ∧ 39 + 2 = 41 := ⟨rfl, rfl⟩
theorem xc85_41 : pmCode 85 41 = some .iadd ∧ 41 + 1 = 42 := ⟨rfl, rfl⟩
theorem xc85_42 : pmCode 85 42 = some .iaload ∧ 42 + 1 = 43 := ⟨rfl, rfl⟩
theorem xc85_43 : pmCode 85 43 = some (.istore 5) ∧ 43 + 2 = 45 := ⟨rfl, rfl⟩
theorem xc85_45 : pmCode 85 45 = some (.aload_n 0) ∧ 45 + 1 = 46 := ⟨rfl, rfl⟩
theorem xc85_46 : pmCode 85 46 = some (.lload_n 1) ∧ 46 + 1 = 47 := ⟨rfl, rfl⟩
theorem xc85_47 : pmCode 85 47 = some (.iload_n 3) ∧ 47 + 1 = 48 := ⟨rfl, rfl⟩
theorem xc85_48 : pmCode 85 48 = some (.iload 5) ∧ 48 + 2 = 50 := ⟨rfl, rfl⟩
theorem xc85_50 : pmCode 85 50 = some (.invokevirtual 53) ∧ 50 + 3 = 53 := ⟨rfl, rfl⟩
theorem xc85_53 : pmCode 85 53 = some (.lstore 6) ∧ 53 + 2 = 55 := ⟨rfl, rfl⟩
theorem xc85_55 : pmCode 85 55 = some (.lload 6) ∧ 55 + 2 = 57 := ⟨rfl, rfl⟩
theorem xc85_57 : pmCode 85 57 = some (.lconst 0) ∧ 57 + 1 = 58 := ⟨rfl, rfl⟩
theorem xc85_58 : pmCode 85 58 = some .lcmp ∧ 58 + 1 = 59 := ⟨rfl, rfl⟩
theorem xc85_59 : pmCode 85 59 = some (.ifCond .eq 28) ∧ ((59 : Nat) : Int) + 28 = ((87 : Nat) : Int) ∧ 59 + 3 = 62 := ⟨rfl, rfl, rfl⟩
theorem xc85_62 : pmCode 85 62 = some (.lload 6) ∧ 62 + 2 = 64 := ⟨rfl, rfl⟩
theorem xc85_64 : pmCode 85 64 = some (.ldc2_w 57) ∧ 64 + 3 = 67 := ⟨rfl, rfl⟩
theorem xc85_67 : pmCode 85 67 = some .lcmp ∧ 67 + 1 = 68 := ⟨rfl, rfl⟩
theorem xc85_68 : pmCode 85 68 = some (.ifCond .eq 19) ∧ ((68 : Nat) : Int) + 19 = ((87 : Nat) : Int) ∧ 68 + 3 = 71 := ⟨rfl, rfl, rfl⟩
theorem xc85_71 : pmCode 85 71 = some (.lload 6) ∧ 71 + 2 = 73 := ⟨rfl, rfl⟩
theorem xc85_73 : pmCode 85 73 = some (.ldc2_w 59) ∧ 73 + 3 = 76 := ⟨rfl, rfl⟩
theorem xc85_76 : pmCode 85 76 = some .land ∧ 76 + 1 = 77 := ⟨rfl, rfl⟩
theorem xc85_77 : pmCode 85 77 = some .l2i ∧ 77 + 1 = 78 := ⟨rfl, rfl⟩
theorem xc85_78 : pmCode 85 78 = some (.iload 5) ∧ 78 + 2 = 80 := ⟨rfl, rfl⟩
theorem xc85_80 : pmCode 85 80 = some (.iconst 1) ∧ 80 + 1 = 81 := ⟨rfl, rfl⟩
theorem xc85_81 : pmCode 85 81 = some .iadd ∧ 81 + 1 = 82 := ⟨rfl, rfl⟩
theorem xc85_82 : pmCode 85 82 = some (.bipush 13) ∧ 82 + 2 = 84 := ⟨rfl, rfl⟩
theorem xc85_84 : pmCode 85 84 = some .ishl ∧ 84 + 1 = 85 := ⟨rfl, rfl⟩
theorem xc85_85 : pmCode 85 85 = some .ior ∧ 85 + 1 = 86 := ⟨rfl, rfl⟩
theorem xc85_86 : pmCode 85 86 = some .ireturn := rfl
theorem xc85_87 : pmCode 85 87 = some (.iinc 4 1) ∧ 87 + 3 = 90 := ⟨rfl, rfl⟩
theorem xc85_90 : pmCode 85 90 = some (.goto (-75)) ∧ ((90 : Nat) : Int) + (-75) = ((15 : Nat) : Int) := ⟨rfl, rfl⟩
theorem xc85_93 : pmCode 85 93 = some (.iconst 0) ∧ 93 + 1 = 94 := ⟨rfl, rfl⟩
theorem xc85_94 : pmCode 85 94 = some .ireturn := rfl
theorem uH55 (x : Int64) : 0 ≤ xL2 (xShr x 55) ∧ xL2 (xShr x 55) ≤ 511 := by
  have h1 := uN_shr (l := x) (k := 55) (by decide) (by decide)
  have h2 := @uN_lt x
  have e : (55 : Int).toNat = 55 := rfl
  rw [e] at h1
  rw [uN_l2 (by omega)]
  omega
theorem w77 {Ln : Nat} {xs : Nat → Int32} {d : Nat} {Q : Option Value → pmS → Prop} {l : Int64} {p k : Int} {a : xA} {b : xB} (hp : 0 ≤ p ∧ p ≤ 3) (hk : 0 ≤ k ∧ k ≤ 3) {key : Int64} {at0 : Int} (hkey : ((l ||| xShL (Int64.ofInt p) 36) ||| xShL (Int64.ofInt k) 38) = key)
    (k1 : pmWp (pmRo Ln xs) d 3 77 3 16 [some (.ref 34), some (.long l), none, some (xV p), some (xV k), some (.long ((l ||| (xShL (Int64.ofInt p) 36)) ||| (xShL (Int64.ofInt k) 38))), none, none, none] [] (xS a b) Q) :
    pmWp (pmRo Ln xs) d 3 77 3 0 [some (.ref 34), some (.long l), none, some (xV p), some (xV k), none, none, none, none] [] (xS a b) Q := by
  refine x_lloadn xc77_0 rfl ?_
  refine x_iloadn xc77_1 rfl ?_
  refine x_i2l (xRk (by have g0 := hp; omega)) xc77_2 ?_
  refine x_bipush xc77_3 (by decide) ?_
  refine x_lshl xc77_5 ?_
  refine x_lor xc77_6 ?_
  refine x_iload xc77_7 rfl ?_
  refine x_i2l (xRk (by have g0 := hk; omega)) xc77_9 ?_
  refine x_bipush xc77_10 (by decide) ?_
  refine x_lshl xc77_12 ?_
  refine x_lor xc77_13 ?_
  refine x_lstore (pl' := [some (.ref 34), some (.long l), none, some (xV p), some (xV k), some (.long ((l ||| (xShL (Int64.ofInt p) 36)) ||| (xShL (Int64.ofInt k) 38))), none, none, none]) xc77_14 rfl rfl rfl ?_
  exact k1

theorem xg77 {ro : Nat → Nat × (Nat → Int32)} {d : Nat} {Q : Option Value → pmS → Prop} {a : xA} {b : xB} {p k : Int} {l : Int64} (h : pmWp ro d 3 77 3 0 [some (.ref 34), some (.long l), none, some (xV p), some (xV k), none, none, none, none] [] (xS a b) Q) : pmCs ro (d + 1) 77 [.ref 34, .long l, xV p, xV k] (xS a b) Q := x_go xi77 rfl rfl rfl rfl rfl h
theorem w77a {Ln : Nat} {xs : Nat → Int32} {d : Nat} {Q : Option Value → pmS → Prop} {l key : Int64} {p k : Int} {a : xA} {b : xB}
    (k1 : pmWp (pmRo Ln xs) d 3 77 3 28 [some (.ref 34), some (.long l), none, some (xV p), some (xV k), some (.long key), none, some (xV (xL2 (xShr (key * (-7046029254386353131 : Int64)) 55))), none] [] (xS a b) Q) :
    pmWp (pmRo Ln xs) d 3 77 3 16 [some (.ref 34), some (.long l), none, some (xV p), some (xV k), some (.long key), none, none, none] [] (xS a b) Q := by
  refine x_lload xc77_16 rfl ?_
  refine x_ldc2 (l := (-7046029254386353131)) xc77_18 rfl ?_
  refine x_lmul xc77_21 ?_
  refine x_bipush xc77_22 (by decide) ?_
  refine x_lushr xc77_24 ?_
  refine x_l2i xc77_25 ?_
  refine x_istore (pl' := [some (.ref 34), some (.long l), none, some (xV p), some (xV k), some (.long key), none, some (xV (xL2 (xShr (key * (-7046029254386353131 : Int64)) 55))), none]) xc77_26 rfl rfl ?_
  exact k1

theorem w77b {Ln : Nat} {xs : Nat → Int32} {d : Nat} {Q : Option Value → pmS → Prop} {l key : Int64} {p k : Int} {a : xA} {b : xB} {at0 : Int} (hat : 0 ≤ at0 ∧ at0 ≤ 511)
    (k1 : (¬ xCmp (b 35 at0) key = 0) → pmCs (pmRo Ln xs) d 72 [.ref 34, .long l, xV p, xV k] (xS (xU a 34 13 100000) (xU b 34 14 (0 : Int64))) fun r σ' => pmWp (pmRo Ln xs) d 3 77 3 68 [some (.ref 34), some (.long l), none, some (xV p), some (xV k), some (.long key), none, some (xV at0), none] (r.toList ++ []) σ' Q)
    (k2 : (xCmp (b 35 at0) key = 0) → Q (some (.long (b 36 at0))) (xS a b)) :
    pmWp (pmRo Ln xs) d 3 77 3 28 [some (.ref 34), some (.long l), none, some (xV p), some (xV k), some (.long key), none, some (xV at0), none] [] (xS a b) Q := by
  refine x_aloadn xc77_28 rfl ?_
  refine x_gfr xc77_29 rfl rfl xz34 rfl ?_
  refine x_iload xc77_32 rfl ?_
  refine x_lal xc77_34 xz35 (by have g0 := hat; omega) (by have g0 := hat; omega) (by have g0 := hat; omega) ?_
  refine x_lload xc77_35 rfl ?_
  refine x_lcmp xc77_37 ?_
  refine x_ifne xc77_38 (xRk (by have g0 := xCmpB (b 35 at0) key; omega)) (fun h0 => ?_) (fun h0 => ?_)
  · refine x_aloadn xc77_49 rfl ?_
    refine x_lconst (l := 0) xc77_50 rfl ?_
    refine x_pfl (k := 14) xc77_51 rfl ⟨rfl, rfl⟩ rfl xz34 ?_
    refine x_aloadn xc77_54 rfl ?_
    refine x_ldc (z := 100000) xc77_55 rfl ?_
    refine x_pfi (k := 13) xc77_57 rfl ⟨rfl, rfl⟩ rfl xz34 ?_
    refine x_aloadn xc77_60 rfl ?_
    refine x_lloadn xc77_61 rfl ?_
    refine x_iloadn xc77_62 rfl ?_
    refine x_iload xc77_63 rfl ?_
    refine x_cV (as := [.long l, xV p, xV k]) (rest := []) xc77_65 rfl xi72 xz34 ⟨rfl, rfl⟩ rfl rfl ?_
    exact k1 h0
  · replace h0 := Classical.not_not.mp h0
    refine x_aloadn xc77_41 rfl ?_
    refine x_gfr xc77_42 rfl rfl xz34 rfl ?_
    refine x_iload xc77_45 rfl ?_
    refine x_lal xc77_47 xz36 (by have g0 := hat; omega) (by have g0 := hat; omega) (by have g0 := hat; omega) ?_
    refine x_lret xc77_48 rfl ?_
    exact k2 h0

theorem w77c {Ln : Nat} {xs : Nat → Int32} {d : Nat} {Q : Option Value → pmS → Prop} {l key : Int64} {p k : Int} {a : xA} {b : xB} {at0 : Int} (hat : 0 ≤ at0 ∧ at0 ≤ 511) {z : Int} (hz : z = 0 ∨ z = 1)
    (k1 : (z = 0) → pmCs (pmRo Ln xs) d 78 [.ref 3] (xS a b) fun r σ' => pmWp (pmRo Ln xs) d 3 77 3 88 [some (.ref 34), some (.long l), none, some (xV p), some (xV k), some (.long key), none, some (xV at0), none] (r.toList ++ []) σ' Q)
    (k2 : (¬ z = 0) → pmWp (pmRo Ln xs) d 3 77 3 138 [some (.ref 34), some (.long l), none, some (xV p), some (xV k), some (.long key), none, some (xV at0), none] [] (xS a (xU b 34 14 (-1 : Int64))) Q) :
    pmWp (pmRo Ln xs) d 3 77 3 68 [some (.ref 34), some (.long l), none, some (xV p), some (xV k), some (.long key), none, some (xV at0), none] [xV z] (xS a b) Q := by
  refine x_ifeq xc77_68 (xRk (by have g0 := hz; omega)) (fun h0 => ?_) (fun h0 => ?_)
  · refine x_aloadn xc77_81 rfl ?_
    refine x_gfr xc77_82 rfl rfl xz34 rfl ?_
    refine x_cV (as := []) (rest := []) xc77_85 rfl xi78 xz3 ⟨rfl, rfl⟩ rfl rfl ?_
    exact k1 h0
  · refine x_aloadn xc77_71 rfl ?_
    refine x_ldc2 (l := (-1)) xc77_72 rfl ?_
    refine x_pfl (k := 14) xc77_75 rfl ⟨rfl, rfl⟩ rfl xz34 ?_
    refine x_goto xc77_78 ?_
    exact k2 h0

theorem w77d {Ln : Nat} {xs : Nat → Int32} {d : Nat} {Q : Option Value → pmS → Prop} {l key : Int64} {p k : Int} {a : xA} {b : xB} {at0 : Int} (hat : 0 ≤ at0 ∧ at0 ≤ 511) {ch : Int}
    (k1 : pmWp (pmRo Ln xs) d 3 77 3 95 [some (.ref 34), some (.long l), none, some (xV p), some (xV k), some (.long key), none, some (xV at0), some (xV ch)] [] (xS (xU a 34 12 1) b) Q) :
    pmWp (pmRo Ln xs) d 3 77 3 88 [some (.ref 34), some (.long l), none, some (xV p), some (xV k), some (.long key), none, some (xV at0), none] [xV ch] (xS a b) Q := by
  refine x_istore (pl' := [some (.ref 34), some (.long l), none, some (xV p), some (xV k), some (.long key), none, some (xV at0), some (xV ch)]) xc77_88 rfl rfl ?_
  refine x_aloadn xc77_90 rfl ?_
  refine x_iconst xc77_91 ?_
  refine x_pfi (k := 12) xc77_92 rfl ⟨rfl, rfl⟩ rfl xz34 ?_
  exact k1

theorem w77e {Ln : Nat} {xs : Nat → Int32} {d : Nat} {Q : Option Value → pmS → Prop} {l key : Int64} {p k : Int} {a : xA} {b : xB} {at0 : Int} (hat : 0 ≤ at0 ∧ at0 ≤ 511) {ch lim bc : Int} (hch : 1 ≤ ch ∧ ch ≤ 73) (hl : a 34 12 = lim) (hl0 : 1 ≤ lim ∧ lim ≤ 5) (hbc : a 34 13 = bc) (hbc0 : 0 ≤ bc ∧ bc ≤ 100000) (hm : 0 ≤ lim * ch ∧ lim * ch ≤ 400)
    (k1 : (4 < lim) → pmWp (pmRo Ln xs) d 3 77 3 138 [some (.ref 34), some (.long l), none, some (xV p), some (xV k), some (.long key), none, some (xV at0), some (xV ch)] [] (xS a b) Q)
    (k2 : (¬ 4 < lim) → (bc ≤ lim * ch) → pmWp (pmRo Ln xs) d 3 77 3 138 [some (.ref 34), some (.long l), none, some (xV p), some (xV k), some (.long key), none, some (xV at0), some (xV ch)] [] (xS a b) Q)
    (k3 : (¬ 4 < lim) → (¬ bc ≤ lim * ch) → pmCs (pmRo Ln xs) d 79 [.ref 34, .long l, xV 0, xV 0, .long (0 : Int64)] (xS a b) fun r σ' => pmWp (pmRo Ln xs) d 3 77 3 125 [some (.ref 34), some (.long l), none, some (xV p), some (xV k), some (.long key), none, some (xV at0), some (xV ch)] (r.toList ++ []) σ' Q) :
    pmWp (pmRo Ln xs) d 3 77 3 95 [some (.ref 34), some (.long l), none, some (xV p), some (xV k), some (.long key), none, some (xV at0), some (xV ch)] [] (xS a b) Q := by
  refine x_aloadn xc77_95 rfl ?_
  refine x_gfi' (k := 12) (v := lim) xc77_96 rfl (Or.inl rfl) rfl xz34 hl ?_
  refine x_iconst xc77_99 ?_
  refine x_icgt xc77_100 (xRk (by have g0 := hl0; have g1 := hm; omega)) (xRk (by decide)) (fun h0 => ?_) (fun h0 => ?_)
  · exact k1 h0
  · refine x_aloadn xc77_103 rfl ?_
    refine x_gfi' (k := 12) (v := lim) xc77_104 rfl (Or.inl rfl) rfl xz34 hl ?_
    refine x_iload xc77_107 rfl ?_
    refine x_imul xc77_109 ?_
    refine x_aloadn xc77_110 rfl ?_
    refine x_gfi' (k := 13) (v := bc) xc77_111 rfl (Or.inl rfl) rfl xz34 hbc ?_
    refine x_icge xc77_114 (xRk (by have g0 := hl0; have g1 := hm; have g2 := hch; omega)) (xRk (by have g0 := hbc0; omega)) (fun h1 => ?_) (fun h1 => ?_)
    · exact k2 h0 h1
    · refine x_aloadn xc77_117 rfl ?_
      refine x_lloadn xc77_118 rfl ?_
      refine x_iconst xc77_119 ?_
      refine x_iconst xc77_120 ?_
      refine x_lconst (l := 0) xc77_121 rfl ?_
      refine x_cS (as := [.ref 34, .long l, xV 0, xV 0, .long (0 : Int64)]) (rest := []) xc77_122 rfl rfl xi79 ⟨rfl, rfl⟩ rfl rfl ?_
      exact k3 h0 h1

theorem w77f {Ln : Nat} {xs : Nat → Int32} {d : Nat} {Q : Option Value → pmS → Prop} {l key : Int64} {p k : Int} {a : xA} {b : xB} {at0 : Int} (hat : 0 ≤ at0 ∧ at0 ≤ 511) {ch lim : Int} (hl : a 34 12 = lim)
    (k1 : pmWp (pmRo Ln xs) d 3 77 3 95 [some (.ref 34), some (.long l), none, some (xV p), some (xV k), some (.long key), none, some (xV at0), some (xV ch)] [] (xS (xU a 34 12 (lim + 1)) b) Q) :
    pmWp (pmRo Ln xs) d 3 77 3 125 [some (.ref 34), some (.long l), none, some (xV p), some (xV k), some (.long key), none, some (xV at0), some (xV ch)] [] (xS a b) Q := by
  refine x_aloadn xc77_125 rfl ?_
  refine x_dup xc77_126 rfl ?_
  refine x_gfi' (k := 12) (v := lim) xc77_127 rfl (Or.inl rfl) rfl xz34 hl ?_
  refine x_iconst xc77_130 ?_
  refine x_iadd xc77_131 ?_
  refine x_pfi (k := 12) xc77_132 rfl ⟨rfl, rfl⟩ rfl xz34 ?_
  refine x_goto xc77_135 ?_
  exact k1

theorem w77g {Ln : Nat} {xs : Nat → Int32} {d : Nat} {Q : Option Value → pmS → Prop} {v8 : Option Value} {l key : Int64} {p k : Int} {a : xA} {b : xB} {at0 : Int} (hat : 0 ≤ at0 ∧ at0 ≤ 511)
    (k1 : Q (some (.long (b 34 14))) (xS a (xU (xU b 35 at0 key) 36 at0 (b 34 14)))) :
    pmWp (pmRo Ln xs) d 3 77 3 138 [some (.ref 34), some (.long l), none, some (xV p), some (xV k), some (.long key), none, some (xV at0), v8] [] (xS a b) Q := by
  refine x_aloadn xc77_138 rfl ?_
  refine x_gfr xc77_139 rfl rfl xz34 rfl ?_
  refine x_iload xc77_142 rfl ?_
  refine x_lload xc77_144 rfl ?_
  refine x_las xc77_146 xz35 (by have g0 := hat; omega) (by have g0 := hat; omega) (by have g0 := hat; omega) ?_
  refine x_aloadn xc77_147 rfl ?_
  refine x_gfr xc77_148 rfl rfl xz34 rfl ?_
  refine x_iload xc77_151 rfl ?_
  refine x_aloadn xc77_153 rfl ?_
  refine x_gfl' (k := 14) (v := b 34 14) xc77_154 rfl rfl rfl xz34 (by rw [xUn (by decide)]) ?_
  refine x_las xc77_157 xz36 (by have g0 := hat; omega) (by have g0 := hat; omega) (by have g0 := hat; omega) ?_
  refine x_aloadn xc77_158 rfl ?_
  refine x_gfl' (k := 14) (v := b 34 14) xc77_159 rfl rfl rfl xz34 (by rw [xUn (by decide), xUn (by decide)]) ?_
  refine x_lret xc77_162 rfl ?_
  exact k1

theorem w85 {Ln : Nat} {xs : Nat → Int32} {d : Nat} {Q : Option Value → pmS → Prop} {l : Int64} {p : Int} {a : xA} {b : xB} (hp : 1 ≤ p ∧ p ≤ 3)
    (k1 : (p < 1) → Q (some (xV 0)) (xS a b))
    (k2 : (¬ p < 1) → (p < 4) → pmWp (pmRo Ln xs) d 3 85 1 15 [some (.ref 34), some (.long l), none, some (xV p), some (xV 0), none, none, none] [] (xS a b) Q)
    (k3 : (¬ p < 1) → (¬ p < 4) → Q (some (xV 0)) (xS a b)) :
    pmWp (pmRo Ln xs) d 3 85 1 0 [some (.ref 34), some (.long l), none, some (xV p), none, none, none, none] [] (xS a b) Q := by
  refine x_iloadn xc85_0 rfl ?_
  refine x_iconst xc85_1 ?_
  refine x_iclt xc85_2 (xRk (by have g0 := hp; omega)) (xRk (by decide)) (fun h0 => ?_) (fun h0 => ?_)
  · refine x_iconst xc85_10 ?_
    refine x_iret xc85_11 (Or.inl rfl) ?_
    exact k1 h0
  · refine x_iloadn xc85_5 rfl ?_
    refine x_iconst xc85_6 ?_
    refine x_iclt xc85_7 (xRk (by have g0 := hp; omega)) (xRk (by decide)) (fun h1 => ?_) (fun h1 => ?_)
    · refine x_iconst xc85_12 ?_
      refine x_istore (pl' := [some (.ref 34), some (.long l), none, some (xV p), some (xV 0), none, none, none]) xc85_13 rfl rfl ?_
      exact k2 h0 h1
    · refine x_iconst xc85_10 ?_
      refine x_iret xc85_11 (Or.inl rfl) ?_
      exact k3 h0 h1

theorem xg85 {ro : Nat → Nat × (Nat → Int32)} {d : Nat} {Q : Option Value → pmS → Prop} {a : xA} {b : xB} {p : Int} {l : Int64} (h : pmWp ro d 3 85 1 0 [some (.ref 34), some (.long l), none, some (xV p), none, none, none, none] [] (xS a b) Q) : pmCs ro (d + 1) 85 [.ref 34, .long l, xV p] (xS a b) Q := x_go xi85 rfl rfl rfl rfl rfl h
theorem w85x {Ln : Nat} {xs : Nat → Int32} {d : Nat} {Q : Option Value → pmS → Prop} {v5 : Option Value} {v6 : Option Value} {l : Int64} {p cn : Int} {a : xA} {b : xB} (hp : 1 ≤ p ∧ p ≤ 3) (hc : a 12 p = cn) (hc0 : 0 ≤ cn ∧ cn ≤ 3)
    (k1 : Q (some (xV 0)) (xS a b)) :
    pmWp (pmRo Ln xs) d 3 85 1 15 [some (.ref 34), some (.long l), none, some (xV p), some (xV cn), v5, v6, none] [] (xS a b) Q := by
  refine x_iload xc85_15 rfl ?_
  refine x_aloadn xc85_17 rfl ?_
  refine x_gfr xc85_18 rfl rfl xz34 rfl ?_
  refine x_gfr xc85_21 rfl rfl xz7 rfl ?_
  refine x_iloadn xc85_24 rfl ?_
  refine x_ial' (v := cn) xc85_25 xz12 rfl (by have g0 := hp; omega) (by have g0 := hp; omega) (by have g0 := hp; omega) hc ?_
  refine x_icge xc85_26 (xRk (by have g0 := hc0; omega)) (xRk (by have g0 := hc0; omega)) (fun _ => ?_) (fun h => absurd h (by omega))
  refine x_iconst xc85_93 ?_
  refine x_iret xc85_94 (Or.inl rfl) ?_
  exact k1

theorem w85a {Ln : Nat} {xs : Nat → Int32} {d : Nat} {Q : Option Value → pmS → Prop} {v5 : Option Value} {v6 : Option Value} {l : Int64} {p cn i k : Int} {a : xA} {b : xB} (hp : 1 ≤ p ∧ p ≤ 3) (hc : a 12 p = cn) (hc0 : 0 ≤ cn ∧ cn ≤ 3) (hi : 0 ≤ i ∧ i < cn) (ho : a 11 (p * 3 + i) = k) (hk : 0 ≤ k ∧ k ≤ 2)
    (k1 : (cn ≤ i) → Q (some (xV 0)) (xS a b))
    (k2 : (¬ cn ≤ i) → pmCs (pmRo Ln xs) d 77 [.ref 34, .long l, xV p, xV k] (xS a b) fun r σ' => pmWp (pmRo Ln xs) d 3 85 1 53 [some (.ref 34), some (.long l), none, some (xV p), some (xV i), some (xV k), v6, none] (r.toList ++ []) σ' Q) :
    pmWp (pmRo Ln xs) d 3 85 1 15 [some (.ref 34), some (.long l), none, some (xV p), some (xV i), v5, v6, none] [] (xS a b) Q := by
  refine x_iload xc85_15 rfl ?_
  refine x_aloadn xc85_17 rfl ?_
  refine x_gfr xc85_18 rfl rfl xz34 rfl ?_
  refine x_gfr xc85_21 rfl rfl xz7 rfl ?_
  refine x_iloadn xc85_24 rfl ?_
  refine x_ial' (v := cn) xc85_25 xz12 rfl (by have g0 := hp; omega) (by have g0 := hp; omega) (by have g0 := hp; omega) hc ?_
  refine x_icge xc85_26 (xRk (by have g0 := hi; omega)) (xRk (by have g0 := hc0; omega)) (fun h0 => ?_) (fun h0 => ?_)
  · refine x_iconst xc85_93 ?_
    refine x_iret xc85_94 (Or.inl rfl) ?_
    exact k1 h0
  · refine x_aloadn xc85_29 rfl ?_
    refine x_gfr xc85_30 rfl rfl xz34 rfl ?_
    refine x_gfr xc85_33 rfl rfl xz7 rfl ?_
    refine x_iloadn xc85_36 rfl ?_
    refine x_iconst xc85_37 ?_
    refine x_imul xc85_38 ?_
    refine x_iload xc85_39 rfl ?_
    refine x_iadd xc85_41 ?_
    refine x_ial' (v := k) xc85_42 xz11 rfl (by have g0 := hp; have g1 := hi; omega) (by have g0 := hp; have g1 := hi; omega) (by have g0 := hp; have g1 := hi; omega) ho ?_
    refine x_istore (pl' := [some (.ref 34), some (.long l), none, some (xV p), some (xV i), some (xV k), v6, none]) xc85_43 rfl rfl ?_
    refine x_aloadn xc85_45 rfl ?_
    refine x_lloadn xc85_46 rfl ?_
    refine x_iloadn xc85_47 rfl ?_
    refine x_iload xc85_48 rfl ?_
    refine x_cV (as := [.long l, xV p, xV k]) (rest := []) xc85_50 rfl xi77 xz34 ⟨rfl, rfl⟩ rfl rfl ?_
    exact k2 h0

theorem w85b {Ln : Nat} {xs : Nat → Int32} {d : Nat} {Q : Option Value → pmS → Prop} {v6 : Option Value} {l z : Int64} {p i k : Int} {a : xA} {b : xB} (hp : 1 ≤ p ∧ p ≤ 3) (hi : 0 ≤ i ∧ i < 3) (hk : 0 ≤ k ∧ k ≤ 2)
    (k1 : (xCmp z (0 : Int64) = 0) → pmWp (pmRo Ln xs) d 3 85 1 15 [some (.ref 34), some (.long l), none, some (xV p), some (xV (i + 1)), some (xV k), some (.long z), none] [] (xS a b) Q)
    (k2 : (¬ xCmp z (0 : Int64) = 0) → (xCmp z (-1 : Int64) = 0) → pmWp (pmRo Ln xs) d 3 85 1 15 [some (.ref 34), some (.long l), none, some (xV p), some (xV (i + 1)), some (xV k), some (.long z), none] [] (xS a b) Q)
    (k3 : (¬ xCmp z (0 : Int64) = 0) → (¬ xCmp z (-1 : Int64) = 0) → Q (some (xV (xOr (xL2 (z &&& (511 : Int64))) ((k + 1) * 8192)))) (xS a b)) :
    pmWp (pmRo Ln xs) d 3 85 1 53 [some (.ref 34), some (.long l), none, some (xV p), some (xV i), some (xV k), v6, none] [.long z] (xS a b) Q := by
  refine x_lstore (pl' := [some (.ref 34), some (.long l), none, some (xV p), some (xV i), some (xV k), some (.long z), none]) xc85_53 rfl rfl rfl ?_
  refine x_lload xc85_55 rfl ?_
  refine x_lconst (l := 0) xc85_57 rfl ?_
  refine x_lcmp xc85_58 ?_
  refine x_ifeq xc85_59 (xRk (by have g0 := xCmpB z (0 : Int64); omega)) (fun h0 => ?_) (fun h0 => ?_)
  · refine x_iinc (pl' := [some (.ref 34), some (.long l), none, some (xV p), some (xV (i + 1)), some (xV k), some (.long z), none]) xc85_87 rfl rfl ?_
    refine x_goto xc85_90 ?_
    exact k1 h0
  · refine x_lload xc85_62 rfl ?_
    refine x_ldc2 (l := (-1)) xc85_64 rfl ?_
    refine x_lcmp xc85_67 ?_
    refine x_ifeq xc85_68 (xRk (by have g0 := xCmpB z (-1 : Int64); omega)) (fun h1 => ?_) (fun h1 => ?_)
    · refine x_iinc (pl' := [some (.ref 34), some (.long l), none, some (xV p), some (xV (i + 1)), some (xV k), some (.long z), none]) xc85_87 rfl rfl ?_
      refine x_goto xc85_90 ?_
      exact k2 h0 h1
    · refine x_lload xc85_71 rfl ?_
      refine x_ldc2 (l := 511) xc85_73 rfl ?_
      refine x_land xc85_76 ?_
      refine x_l2i xc85_77 ?_
      refine x_iload xc85_78 rfl ?_
      refine x_iconst xc85_80 ?_
      refine x_iadd xc85_81 ?_
      refine x_bipush xc85_82 (by decide) ?_
      refine x_ishl (M := 8192) (by omega) (by omega) (by decide) xc85_84 ?_
      refine x_ior xc85_85 ?_
      refine x_iret xc85_86 (Or.inl rfl) ?_
      exact k3 h0 h1

end
end
section
/-! the class, plans remembered, what is wanted -/
section
set_option maxRecDepth 100000


section
variable {Ln : Nat} {xs : Nat → Int32} {d : Nat} {Q : Option Value → pmS → Prop} {dr wp c pr cnt : Int → Int} {T : Int → List Int} {n p k : Int} {l : Int64} {a0 a a' : xA} {b b' : xB}
/-- the class, ready to plan: what stands, and what never changes -/
def uPg (dr wp c cnt : Int → Int) (T : Int → List Int) (n : Int) (a0 a : xA) (b : xB) : Prop := xAr a ∧ uKs dr wp n a b ∧ (∀ k, a 6 k = a0 6 k) ∧ (∀ k, 0 ≤ k → 0 ≤ a 6 k ∧ a 6 k ≤ 99) ∧ (∀ k, 0 ≤ k → k < 7 → a 5 k = c k) ∧ (∀ p k, 1 ≤ p → p ≤ 3 → 0 ≤ k → k < cnt p → a 9 (p * 3 + k) = ((T (p * 3 + k)).length : Int) ∧ ∀ (j : Nat) t, (T (p * 3 + k))[j]? = some t → a 8 ((p * 3 + k) * 40 + (j : Int)) = cT t) ∧ (∀ p, 1 ≤ p → p ≤ 3 → a 12 p = cnt p ∧ 0 ≤ cnt p ∧ cnt p ≤ 3) ∧ ∀ p i, 1 ≤ p → p ≤ 3 → 0 ≤ i → i < cnt p → 0 ≤ a 11 (p * 3 + i) ∧ a 11 (p * 3 + i) < cnt p
def uPf (dr wp c pr cnt : Int → Int) (T : Int → List Int) (a0 : xA) : Prop := ∀ p k, 1 ≤ p → p ≤ 3 → 0 ≤ k → k < cnt p → uPe dr wp c pr p (p * 3 + k) (T (p * 3 + k)) a0
theorem uPg_s (h : uPg dr wp c cnt T n a0 a b) (hp : 1 ≤ p ∧ p ≤ 3) (hk : 0 ≤ k ∧ k < cnt p) : uPs dr wp c n (p * 3 + k) (T (p * 3 + k)) a0 a b := by
  obtain ⟨h1, h2, h3, h4, h5, h6, h7, h8⟩ := h
  have := h6 p k hp.1 hp.2 hk.1 hk.2
  exact ⟨h1, h2, h3, h4, h5, this.1, this.2⟩
/-- what planning may change -/
def uPx (a a' : xA) (b b' : xB) : Prop := (∀ q j, q ≠ 37 → q ≠ 38 → q ≠ 39 → q ≠ 40 → q ≠ 41 → q ≠ 42 → q ≠ 34 → a' q j = a q j) ∧ ∀ q j, q ≠ 34 → q ≠ 35 → q ≠ 36 → b' q j = b q j
theorem uPx_r : uPx a a b b := ⟨fun _ _ _ _ _ _ _ _ _ => rfl, fun _ _ _ _ _ => rfl⟩
theorem uPx_t {a'' : xA} {b'' : xB} (h : uPx a a' b b') (h' : uPx a' a'' b' b'') : uPx a a'' b b'' := ⟨fun q j e1 e2 e3 e4 e5 e6 e7 => (h'.1 q j e1 e2 e3 e4 e5 e6 e7).trans (h.1 q j e1 e2 e3 e4 e5 e6 e7), fun q j e1 e2 e3 => (h'.2 q j e1 e2 e3).trans (h.2 q j e1 e2 e3)⟩
theorem uPx_c (h : uXc a a' b b') : uPx a a' b b' := ⟨fun q j e1 e2 e3 e4 e5 e6 e7 => h.1 q j e1 e2 e3 e4 e5 e6 (fun e => e7 e.1), fun q j e1 _ _ => h.2 q j (fun e => e1 e.1)⟩
theorem uPx_a {j v : Int} (h : uPx a a' b b') : uPx a (xU a' 34 j v) b b' := ⟨fun q i e1 e2 e3 e4 e5 e6 e7 => by rw [xUn e7]; exact h.1 q i e1 e2 e3 e4 e5 e6 e7, h.2⟩
theorem uPx_b {q : Nat} {j : Int} {v : Int64} (h : uPx a a' b b') (hq : q = 34 ∨ q = 35 ∨ q = 36) : uPx a a' b (xU b' q j v) := ⟨h.1, fun r i e1 e2 e3 => by rw [xUn (by omega)]; exact h.2 r i e1 e2 e3⟩
theorem uPg_x (h : uPg dr wp c cnt T n a0 a b) (hx : uPx a a' b b') (hA : xAr a') : uPg dr wp c cnt T n a0 a' b' := by
  obtain ⟨h1, h2, h3, h4, h5, h6, h7, h8⟩ := h
  have f : ∀ q j, q = 3 ∨ q = 4 ∨ q = 5 ∨ q = 6 ∨ q = 8 ∨ q = 9 ∨ q = 11 ∨ q = 12 → a' q j = a q j := fun q j e => hx.1 q j (by omega) (by omega) (by omega) (by omega) (by omega) (by omega) (by omega)
  refine ⟨hA, uKs_f h2 (fun k => f 3 k (by decide)) (fun k => f 4 k (by decide)) (hx.2 3 3 (by decide) (by decide) (by decide)), fun k => (f 6 k (by decide)).trans (h3 k), fun k k0 => by rw [f 6 k (by decide)]; exact h4 k k0, fun k k0 k1 => (f 5 k (by decide)).trans (h5 k k0 k1), fun p k p0 p1 k0 k1 => ?_, fun p p0 p1 => by rw [f 12 p (by decide)]; exact h7 p p0 p1, fun p i p0 p1 i0 i1 => by rw [f 11 _ (by decide)]; exact h8 p i p0 p1 i0 i1⟩
  obtain ⟨g1, g2⟩ := h6 p k p0 p1 k0 k1
  exact ⟨(f 9 _ (by decide)).trans g1, fun j t ht => (f 8 _ (by decide)).trans (g2 j t ht)⟩
/-- isSo -/
theorem u72 (hG : uPg dr wp c cnt T n a0 a b) (hF : uPf dr wp c pr cnt T a0) (hp : 1 ≤ p ∧ p ≤ 3) (hk : 0 ≤ k ∧ k < cnt p) (hS : uOk p (uSl l)) (hd : 2 ≤ d) (hQ : ∀ a' z, uPx a a' b b → xAr a' → a' 34 10 = p → a' 34 11 = p * 3 + k → a' 34 13 = a 34 13 → (z = 0 ∨ z = 1) → (z = 1 ↔ uHold p (T (p * 3 + k)) (uSl l) = true) → Q (some (xV z)) (xS a' b)) : pmCs (pmRo Ln xs) d 72 [.ref 34, .long l, xV p, xV k] (xS a b) Q := by
  have hE := hF p k hp.1 hp.2 hk.1 hk.2
  have hcn := hG.2.2.2.2.2.2.1 p hp.1 hp.2
  refine pmCs_deep (d := 2) (xg72 (w72 ?_)) hd
  have hx1 : uPx a (xU (xU a 34 10 p) 34 11 (p * 3 + k)) b b := uPx_a (uPx_a uPx_r)
  have hA1 : xAr (xU (xU a 34 10 p) 34 11 (p * 3 + k)) := xAr_u (xAr_u hG.1 ⟨by omega, by omega⟩) ⟨by omega, by omega⟩
  have hP := uPg_s (uPg_x hG hx1 hA1) hp hk
  refine pmCs_mono (uNd (n := n) (Or.inl ⟨rfl, rfl⟩) hE hP (by rw [xUk (by decide), xUa]) xUa hS (by decide) (Q := fun r σ => ∃ a2, r = some (xV (uH (uV a0 u1) u1 wp p (T (p * 3 + k)) (uSl l))) ∧ σ = xS a2 b ∧ uSc (xU (xU a 34 10 p) 34 11 (p * 3 + k)) a2 ∧ xAr a2) (fun a2 s2 A2 => ⟨a2, rfl, rfl, s2, A2⟩)) ?_
  rintro r σ ⟨a2, rfl, rfl, h74⟩
  refine w72b ?_
  refine pmCs_mono h74 ?_
  rintro r σ ⟨a3, rfl, rfl, h75⟩
  refine w72c ?_
  refine pmCs_mono h75 ?_
  rintro r σ ⟨a4, rfl, rfl, s4, A4⟩
  have hz := uH_z (wp := wp) hE.1.2.1 hp hS hE.1.2.2.2.1 (hE.1.2.2.2.2.1 (uSl l))
  have hzb := uH_b (wp := wp) hE.1.2.1 hp hS hE.1.2.2.2.1
  have hx4 : uPx a a4 b b := uPx_t hx1 (uPx_c (uXc_s s4))
  have e10 : a4 34 10 = p := (s4 34 10 (by decide) (by decide) (by decide) (by decide) (by decide) (by decide)).trans (by rw [xUk (by decide), xUa])
  have e11 : a4 34 11 = p * 3 + k := (s4 34 11 (by decide) (by decide) (by decide) (by decide) (by decide) (by decide)).trans xUa
  have e13 : a4 34 13 = a 34 13 := (s4 34 13 (by decide) (by decide) (by decide) (by decide) (by decide) (by decide)).trans (by rw [xUk (by decide), xUk (by decide)])
  refine w72d ⟨hz.1, by omega⟩ (fun e => hQ a4 0 hx4 A4 e10 e11 e13 (Or.inl rfl) ⟨fun g => by omega, fun g => absurd (hz.2.mpr g) e⟩) (fun e => hQ a4 1 hx4 A4 e10 e11 e13 (Or.inr rfl) ⟨fun _ => hz.2.mp e, fun _ => rfl⟩)
/-- the plan, as one number -/
noncomputable def uPlan (dr wp pr : Int → Int) (T : Int → List Int) (l : Int64) (p k : Int) : Int64 := bif uHold p (T (p * 3 + k)) (uSl l) then -1 else (uMg 0 [] (100000, 0) (uOpt dr wp pr p (T (p * 3 + k)) 4 (uSl l))).2
def uKey (l : Int64) (p k : Int) : Int64 := (l ||| xShL (Int64.ofInt p) 36) ||| xShL (Int64.ofInt k) 38
def uHi (l : Int64) : Prop := ∀ j, 9 ≤ j → j < 16 → uSl l j = 0
theorem uKey_s (hp : 0 ≤ p ∧ p ≤ 3) (hk : 0 ≤ k ∧ k ≤ 2) (h9 : uHi l) : (∀ j, 0 ≤ j → j < 9 → uSl (uKey l p k) j = uSl l j) ∧ uSl (uKey l p k) 9 = p + 4 * k := by
  constructor
  · intro j j0 j1
    unfold uKey
    rw [uOr9 hk.1 (by decide) (by decide) j0 j1, uOr9 hp.1 (by decide) (by decide) j0 j1]
  · have hv : uV4 l 9 = 0#4 := by
      apply BitVec.eq_of_toNat_eq
      have := h9 9 (by decide) (by decide)
      rw [uSl_V (by decide) (by decide)] at this
      have e : (0#4).toNat = 0 := rfl
      omega
    have hb : ∀ t : Nat, t < 4 → (uV4 (uKey l p k) 9).getLsbD t = (p.toNat.testBit t || (decide (2 ≤ t) && k.toNat.testBit (t - 2))) := by
      intro t ht
      have h0 := congrArg (fun q : BitVec 4 => q.getLsbD t) hv
      simp only [uV4_bit ht, BitVec.getLsbD_zero] at h0
      rw [uV4_bit ht]
      unfold uKey
      have e9 : (9 : Int).toNat = 9 := rfl
      rw [e9] at h0 ⊢
      have e36 : (36 : Int).toNat = 36 := rfl
      have e38 : (38 : Int).toNat = 38 := rfl
      rw [Int64.toBitVec_or, Int64.toBitVec_or, BitVec.getLsbD_or, BitVec.getLsbD_or, h0, uShL_bit (by decide) (by decide) (by omega), uShL_bit (by decide) (by decide) (by omega), uBc hp.1, uBc hk.1, e36, e38]
      rw [decide_eq_true (show 36 ≤ 4 * 9 + t by omega), decide_eq_true (show 4 * 9 + t - 36 < 64 by omega), show 4 * 9 + t - 36 = t by omega]
      by_cases c : 2 ≤ t
      · rw [decide_eq_true (show 38 ≤ 4 * 9 + t by omega), decide_eq_true (show 4 * 9 + t - 38 < 64 by omega), decide_eq_true c, show 4 * 9 + t - 38 = t - 2 by omega]
        simp
      · rw [decide_eq_false (show ¬ 38 ≤ 4 * 9 + t by omega), decide_eq_false c]
        simp
    have key : ∀ p : Fin 4, ∀ k : Fin 3, ∀ t : Fin 4, (p.val.testBit t.val || (decide (2 ≤ t.val) && k.val.testBit (t.val - 2))) = (BitVec.ofNat 4 (p.val + 4 * k.val)).getLsbD t.val := by decide
    have e : uV4 (uKey l p k) 9 = BitVec.ofNat 4 (p.toNat + 4 * k.toNat) := by
      apply BitVec.eq_of_getLsbD_eq
      intro t ht
      rw [hb t ht]
      exact key ⟨p.toNat, by omega⟩ ⟨k.toNat, by omega⟩ ⟨t, ht⟩
    rw [uSl_V (by decide) (by decide), e, BitVec.toNat_ofNat, Nat.mod_eq_of_lt (by omega)]
    omega
/-- what is remembered is so -/
def uMC (dr wp pr cnt : Int → Int) (T : Int → List Int) (b : xB) : Prop := ∀ j, 0 ≤ j → j < 512 → b 35 j = 0 ∨ ∀ l p k, 1 ≤ p → p ≤ 3 → 0 ≤ k → k < cnt p → uOk p (uSl l) → uHi l → uKey l p k = b 35 j → b 36 j = uPlan dr wp pr T l p k
theorem uPlan_c {l' : Int64} (hp : 1 ≤ p ∧ p ≤ 3) (ht : uTks (T (p * 3 + k))) (h : uQ (uSl l) (uSl l')) : uPlan dr wp pr T l p k = uPlan dr wp pr T l' p k := by
  unfold uPlan
  rw [uQ_hold h hp ht, uQ_opt hp ht 4 _ _ h]
theorem uKey_i {l' : Int64} {p' k' : Int} (hp : 1 ≤ p ∧ p ≤ 3) (hk : 0 ≤ k ∧ k ≤ 2) (h9 : uHi l) (hp' : 1 ≤ p' ∧ p' ≤ 3) (hk' : 0 ≤ k' ∧ k' ≤ 2) (h9' : uHi l') (h : uKey l p k = uKey l' p' k') : p = p' ∧ k = k' ∧ uQ (uSl l) (uSl l') := by
  obtain ⟨e1, e2⟩ := uKey_s (p := p) (k := k) ⟨by omega, by omega⟩ hk h9
  obtain ⟨f1, f2⟩ := uKey_s (p := p') (k := k') ⟨by omega, by omega⟩ hk' h9'
  rw [h, f2] at e2
  refine ⟨by omega, by omega, fun j j0 j1 => ?_⟩
  rw [← e1 j j0 j1, h, f1 j j0 j1]
/-- planOf -/
theorem u77 (hG : uPg dr wp c cnt T n a0 a b) (hF : uPf dr wp c pr cnt T a0) (hM : uMC dr wp pr cnt T b) (hp : 1 ≤ p ∧ p ≤ 3) (hk : 0 ≤ k ∧ k < cnt p) (hS : uOk p (uSl l)) (h9 : uHi l) (hd : 8 ≤ d) (hQ : ∀ a' b', uPx a a' b b' → xAr a' → uMC dr wp pr cnt T b' → Q (some (.long (uPlan dr wp pr T l p k))) (xS a' b')) : pmCs (pmRo Ln xs) d 77 [.ref 34, .long l, xV p, xV k] (xS a b) Q := by
  have hE := hF p k hp.1 hp.2 hk.1 hk.2
  have hSe := hE.1
  have hcn := hG.2.2.2.2.2.2.1 p hp.1 hp.2
  have hcc := hSe.2.2.2.2.2.1
  have hks := uKey_s (p := p) (k := k) ⟨by omega, by omega⟩ ⟨by omega, by omega⟩ h9
  refine pmCs_deep (d := 8) (xg77 (w77 (key := uKey l p k) (at0 := 0) ⟨by omega, by omega⟩ ⟨by omega, by omega⟩ rfl ?_)) hd
  refine w77a (key := uKey l p k) ?_
  obtain ⟨at0, ha⟩ : ∃ z, xL2 (xShr (uKey l p k * (-7046029254386353131 : Int64)) 55) = z := ⟨_, rfl⟩
  have hat := uH55 (uKey l p k * (-7046029254386353131 : Int64))
  rw [ha] at hat
  rw [ha]
  refine w77b hat (fun e => ?_) (fun e => ?_)
  · -- how it ends
    have fin : ∀ (a1 : xA) (b1 : xB) (v8 : Option Value), uPx a a1 b b1 → xAr a1 → b1 35 = b 35 → b1 36 = b 36 → b1 34 14 = uPlan dr wp pr T l p k → pmWp (pmRo Ln xs) 7 3 77 3 138 [some (.ref 34), some (.long l), none, some (xV p), some (xV k), some (.long (uKey l p k)), none, some (xV at0), v8] [] (xS a1 b1) Q := by
      intro a1 b1 v8 g1 g2 g3 g4 g5
      refine w77g hat ?_
      rw [g5]
      refine hQ _ _ (uPx_b (uPx_b g1 (by decide)) (by decide)) g2 (fun j j0 j1 => ?_)
      by_cases ej : j = at0
      · right
        intro l' p' k' p0 p1 k0 k1 hS' h9' hk'
        have hcn' := hG.2.2.2.2.2.2.1 p' p0 p1
        rw [ej, xUn (by decide), xUa] at hk'
        obtain ⟨q1, q2, q3⟩ := uKey_i ⟨p0, p1⟩ ⟨k0, by omega⟩ h9' hp ⟨by omega, by omega⟩ h9 hk'
        subst q1 q2
        rw [ej, xUa]
        exact (uPlan_c ⟨p0, p1⟩ (hF p' k' p0 p1 k0 k1).1.2.2.2.1 q3).symm
      · rw [xUn (by decide), xUk ej, xUk ej, xUn (by decide), g3, g4]
        exact hM j j0 j1
    have hx1 : uPx a (xU a 34 13 100000) b (xU b 34 14 0) := uPx_b (uPx_a uPx_r) (by decide)
    have hA1 : xAr (xU a 34 13 100000) := xAr_u hG.1 ⟨by decide, by decide⟩
    refine u72 (uPg_x hG hx1 hA1) hF hp hk hS (by decide) (fun a2 z x2 A2 e10 e11 e13 hz hzh => ?_)
    have x2' := uPx_t hx1 x2
    refine w77c hat hz (fun ez => ?_) (fun ez => ?_)
    · have hh : uHold p (T (p * 3 + k)) (uSl l) = false := by
        cases g : uHold p (T (p * 3 + k)) (uSl l) with
        | false => rfl
        | true =>
          have := hzh.mpr g
          omega
      have hG2 := uPg_x hG x2' A2
      have h5 : ∀ i, 1 ≤ i → i ≤ 5 → a2 5 i = 8 * pr i + 1 := fun i i0 i1 => (hG2.2.2.2.2.1 i (by omega) (by omega)).trans (hcc i i0 i1)
      refine u78 (fun i i0 i1 => by rw [h5 i i0 i1]; have := hSe.2.2.2.2.2.2.2 i i0 i1; omega) (by decide) (fun ch hch hche => ?_)
      refine w77d hat ?_
      have hPl : ∀ B : Int × Int64, B = uMg 0 [] (100000, 0) (uOpt dr wp pr p (T (p * 3 + k)) 4 (uSl l)) → B.2 = uPlan dr wp pr T l p k := by
        intro B hB
        unfold uPlan
        rw [hh, hB]
        rfl
      -- the loop over limits
      have loop : ∀ (q L : Nat) (a3 : xA) (b3 : xB), 5 - L ≤ q → L ≤ 4 → uPx a a3 b b3 → xAr a3 → b3 35 = b 35 → b3 36 = b 36 → a3 34 10 = p → a3 34 11 = p * 3 + k → a3 34 12 = (L : Int) + 1 → (a3 34 13, b3 34 14) = uMg 0 [] (100000, 0) (uOpt dr wp pr p (T (p * 3 + k)) L (uSl l)) → 0 ≤ a3 34 13 ∧ a3 34 13 ≤ 100000 →
          pmWp (pmRo Ln xs) 7 3 77 3 95 [some (.ref 34), some (.long l), none, some (xV p), some (xV k), some (.long (uKey l p k)), none, some (xV at0), some (xV ch)] [] (xS a3 b3) Q := by
        intro q
        induction q with
        | zero =>
          intro L a3 b3 hq hL
          omega
        | succ q ih =>
          intro L a3 b3 hq hL g1 g2 g3 g4 g5 g6 g7 g8 g9
          have hm : 0 ≤ ((L : Int) + 1) * ch ∧ ((L : Int) + 1) * ch ≤ 400 := ⟨Int.mul_nonneg (by omega) (by omega), Int.le_trans (Int.mul_le_mul (show ((L : Int) + 1) ≤ 5 by omega) hch.2 (by omega) (by decide)) (by decide)⟩
          refine w77e hat hch g7 ⟨by omega, by omega⟩ rfl g9 hm (fun e1 => ?_) (fun e1 e2 => ?_) (fun e1 e2 => ?_)
          · have eL : L = 4 := by omega
            subst eL
            exact fin a3 b3 _ g1 g2 g3 g4 (hPl _ g8)
          · have e3 : (uMg 0 [] (100000, 0) (uOpt dr wp pr p (T (p * 3 + k)) L (uSl l))).1 ≤ ((L : Int) + 1) * ch := by
              rw [← g8]
              exact e2
            have hend := uMg_end (B := ((100000 : Int), (0 : Int64))) hSe (ch := ch) (fun i i0 i1 => by rw [← h5 i i0 i1]; exact hche i i0 i1) hch.2 (by omega) (n := L) (by omega) rfl e3
            exact fin a3 b3 _ g1 g2 g3 g4 (hPl _ (g8.trans hend))
          · have hG3 := uPg_x hG g1 g2
            refine u79 (n := n) hE (L + 1) 0 0 l 0 [] a3 b3 7 _ (by omega) (uPg_s hG3 hp hk) g5 g6 (by rw [g7]; omega) rfl (by omega) (fun _ h => absurd h List.not_mem_nil) rfl hS ⟨by decide, by decide⟩ g9 (by omega) (fun a4 b4 x4 A4 hm4 hb4 => ?_)
            have e12 : a4 34 12 = (L : Int) + 1 := (x4.1 34 12 (by decide) (by decide) (by decide) (by decide) (by decide) (by decide) (by decide)).trans g7
            refine w77f hat e12 ?_
            by_cases eL : L = 3
            · subst eL
              -- one more turn of the loop, which ends it
              have hm5 : (0 : Int) ≤ ((3 : Nat) : Int) + 1 + 1 ∧ 0 ≤ (((3 : Nat) : Int) + 1 + 1) * ch ∧ (((3 : Nat) : Int) + 1 + 1) * ch ≤ 400 := ⟨by decide, by omega, by omega⟩
              refine w77e (lim := ((3 : Nat) : Int) + 1 + 1) hat hch xUa (by decide) rfl (by rw [xUk (by decide)]; exact hb4) hm5.2 (fun _ => ?_) (fun e => absurd (show (4 : Int) < ((3 : Nat) : Int) + 1 + 1 by decide) e) (fun e => absurd (show (4 : Int) < ((3 : Nat) : Int) + 1 + 1 by decide) e)
              refine fin _ b4 _ (uPx_a (uPx_t g1 (uPx_c x4))) (xAr_u A4 ⟨by decide, by decide⟩) ?_ ?_ (hPl (a4 34 13, b4 34 14) ?_)
              · funext j
                rw [x4.2 35 j (fun e => absurd e.1 (by decide)), g3]
              · funext j
                rw [x4.2 36 j (fun e => absurd e.1 (by decide)), g4]
              · show (a4 34 13, b4 34 14) = _
                rw [hm4, g8, uMg_bet, uBet_opt hSe (by decide)]
            · refine ih (L + 1) _ b4 (by omega) (by omega) (uPx_a (uPx_t g1 (uPx_c x4))) (xAr_u A4 ⟨by omega, by omega⟩) ?_ ?_ ?_ ?_ ?_ ?_ (by rw [xUk (by decide)]; exact hb4)
              · funext j
                rw [x4.2 35 j (fun e => absurd e.1 (by decide)), g3]
              · funext j
                rw [x4.2 36 j (fun e => absurd e.1 (by decide)), g4]
              · rw [xUk (by decide), x4.1 34 10 (by decide) (by decide) (by decide) (by decide) (by decide) (by decide) (by decide), g5]
              · rw [xUk (by decide), x4.1 34 11 (by decide) (by decide) (by decide) (by decide) (by decide) (by decide) (by decide), g6]
              · rw [xUa]
                omega
              · rw [xUk (by decide), hm4, g8, uMg_bet, uBet_opt hSe (by omega)]
      refine loop 5 0 _ _ (by decide) (by decide) (uPx_a x2') (xAr_u A2 ⟨by decide, by decide⟩) ?_ ?_ ?_ ?_ xUa ?_ ?_
      · funext j
        rw [xUn (by decide)]
      · funext j
        rw [xUn (by decide)]
      · rw [xUk (by decide)]
        exact e10
      · rw [xUk (by decide)]
        exact e11
      · rw [xUk (by decide), e13, xUa, xUa]
        rfl
      · rw [xUk (by decide), e13, xUa]
        decide
    · have hh : uHold p (T (p * 3 + k)) (uSl l) = true := hzh.mp (by omega)
      refine fin a2 _ _ (uPx_b x2' (by decide)) A2 ?_ ?_ ?_
      · funext j
        rw [xUn (by decide), xUn (by decide)]
      · funext j
        rw [xUn (by decide), xUn (by decide)]
      · rw [xUa]
        unfold uPlan
        rw [hh]
        rfl
  · rw [xCmp0] at e
    rcases hM at0 hat.1 (by omega) with h | h
    · exfalso
      rw [h] at e
      have h2 := hks.2
      rw [← e] at h2
      have h3 : uSl 0 9 = 0 := by decide
      omega
    · rw [h l p k hp.1 hp.2 hk.1 hk.2 hS h9 e.symm]
      exact hQ a b uPx_r hG.1 hM
end
end
end
