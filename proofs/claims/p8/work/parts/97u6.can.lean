/-! exact: the class, what a deed needs and what it changes -/
section
set_option maxRecDepth 100000
theorem xi80 : pmInf[80]? = some pmI_80 := rfl
theorem xc80_0 : pmCode 80 0 = some (.iload 4) ∧ 0 + 2 = 2 := ⟨rfl, rfl⟩
theorem xc80_2 : pmCode 80 2 = some (.bipush 6) ∧ 2 + 2 = 4 := ⟨rfl, rfl⟩
theorem xc80_4 : pmCode 80 4 = some .ishr ∧ 4 + 1 = 5 := ⟨rfl, rfl⟩
theorem xc80_5 : pmCode 80 5 = some (.istore 5) ∧ 5 + 2 = 7 := ⟨rfl, rfl⟩
theorem xc80_7 : pmCode 80 7 = some (.iload 4) ∧ 7 + 2 = 9 := ⟨rfl, rfl⟩
theorem xc80_9 : pmCode 80 9 = some (.iconst 3) ∧ 9 + 1 = 10 := ⟨rfl, rfl⟩
theorem xc80_10 : pmCode 80 10 = some .ishr ∧ 10 + 1 = 11 := ⟨rfl, rfl⟩
theorem xc80_11 : pmCode 80 11 = some (.bipush 7) ∧ 11 + 2 = 13 := ⟨rfl, rfl⟩
theorem xc80_13 : pmCode 80 13 = some .iand ∧ 13 + 1 = 14 := ⟨rfl, rfl⟩
theorem xc80_14 : pmCode 80 14 = some (.iconst 1) ∧ 14 + 1 = 15 := ⟨rfl, rfl⟩
theorem xc80_15 : pmCode 80 15 = some .isub ∧ 15 + 1 = 16 := ⟨rfl, rfl⟩
theorem xc80_16 : pmCode 80 16 = some (.istore 6) ∧ 16 + 2 = 18 := ⟨rfl, rfl⟩
theorem xc80_18 : pmCode 80 18 = some (.iload 4) ∧ 18 + 2 = 20 := ⟨rfl, rfl⟩
theorem xc80_20 : pmCode 80 20 = some (.bipush 7) ∧ 20 + 2 = 22 := ⟨rfl, rfl⟩
theorem xc80_22 : pmCode 80 22 = some .iand ∧ 22 + 1 = 23 := ⟨rfl, rfl⟩
theorem xc80_23 : pmCode 80 23 = some (.iconst 1) ∧ 23 + 1 = 24 := ⟨rfl, rfl⟩
theorem xc80_24 : pmCode 80 24 = some .isub ∧ 24 + 1 = 25 := ⟨rfl, rfl⟩
theorem xc80_25 : pmCode 80 25 = some (.istore 7) ∧ 25 + 2 = 27 := ⟨rfl, rfl⟩
theorem xc80_27 : pmCode 80 27 = some (.lload_n 1) ∧ 27 + 1 = 28 := ⟨rfl, rfl⟩
theorem xc80_28 : pmCode 80 28 = some (.iconst 4) ∧ 28 + 1 = 29 := ⟨rfl, rfl⟩
theorem xc80_29 : pmCode 80 29 = some (.iload_n 3) ∧ 29 + 1 = 30 := ⟨rfl, rfl⟩
theorem xc80_30 : pmCode 80 30 = some .imul ∧ 30 + 1 = 31 := ⟨rfl, rfl⟩
theorem xc80_31 : pmCode 80 31 = some .lushr ∧ 31 + 1 = 32 := ⟨rfl, rfl⟩
theorem xc80_32 : pmCode 80 32 = some .l2i ∧ 32 + 1 = 33 := ⟨rfl, rfl⟩
theorem xc80_33 : pmCode 80 33 = some (.bipush 15) ∧ 33 + 2 = 35 := ⟨rfl, rfl⟩
theorem xc80_35 : pmCode 80 35 = some .iand ∧ 35 + 1 = 36 := ⟨rfl, rfl⟩
theorem xc80_36 : pmCode 80 36 = some (.istore 8) ∧ 36 + 2 = 38 := ⟨rfl, rfl⟩
theorem xc80_38 : pmCode 80 38 = some (.iload 5) ∧ 38 + 2 = 40 := ⟨rfl, rfl⟩
theorem xc80_40 : pmCode 80 40 = some (.ifCond .eq 16) ∧ ((40 : Nat) : Int) + 16 = ((56 : Nat) : Int) ∧ 40 + 3 = 43 := ⟨rfl, rfl, rfl⟩
theorem xc80_43 : pmCode 80 43 = some (.iload 8) ∧ 43 + 2 = 45 := ⟨rfl, rfl⟩
theorem xc80_45 : pmCode 80 45 = some (.iconst 1) ∧ 45 + 1 = 46 := ⟨rfl, rfl⟩
theorem xc80_46 : pmCode 80 46 = some (.if_icmp .lt 10) ∧ ((46 : Nat) : Int) + 10 = ((56 : Nat) : Int) ∧ 46 + 3 = 49 := ⟨rfl, rfl, rfl⟩
theorem xc80_49 : pmCode 80 49 = some (.iload 8) ∧ 49 + 2 = 51 := ⟨rfl, rfl⟩
theorem xc80_51 : pmCode 80 51 = some (.bipush 7) ∧ 51 + 2 = 53 := ⟨rfl, rfl⟩
theorem xc80_53 : pmCode 80 53 = some (.if_icmp .le 14) ∧ ((53 : Nat) : Int) + 14 = ((67 : Nat) : Int) ∧ 53 + 3 = 56 := ⟨rfl, rfl, rfl⟩
theorem xc80_56 : pmCode 80 56 = some (.iload 5) ∧ 56 + 2 = 58 := ⟨rfl, rfl⟩
theorem xc80_58 : pmCode 80 58 = some (.ifCond .ne 7) ∧ ((58 : Nat) : Int) + 7 = ((65 : Nat) : Int) ∧ 58 + 3 = 61 := ⟨rfl, rfl, rfl⟩
theorem xc80_61 : pmCode 80 61 = some (.iconst 1) ∧ 61 + 1 = 62 := ⟨rfl, rfl⟩
theorem xc80_62 : pmCode 80 62 = some (.goto 4) ∧ ((62 : Nat) : Int) + 4 = ((66 : Nat) : Int) := ⟨rfl, rfl⟩
theorem xc80_65 : pmCode 80 65 = some (.iconst 0) ∧ 65 + 1 = 66 := ⟨rfl, rfl⟩
theorem xc80_66 : pmCode 80 66 = some .ireturn := rfl
theorem xc80_67 : pmCode 80 67 = some (.iload 5) ∧ 67 + 2 = 69 := ⟨rfl, rfl⟩
theorem xc80_69 : pmCode 80 69 = some (.iconst 1) ∧ 69 + 1 = 70 := ⟨rfl, rfl⟩
theorem xc80_70 : pmCode 80 70 = some (.if_icmp .ne 31) ∧ ((70 : Nat) : Int) + 31 = ((101 : Nat) : Int) ∧ 70 + 3 = 73 := ⟨rfl, rfl, rfl⟩
theorem xc80_73 : pmCode 80 73 = some (.aload_n 0) ∧ 73 + 1 = 74 := ⟨rfl, rfl⟩
theorem xc80_74 : pmCode 80 74 = some (.getfield 42) ∧ 74 + 3 = 77 := ⟨rfl, rfl⟩
theorem xc80_77 : pmCode 80 77 = some (.bipush 7) ∧ 77 + 2 = 79 := ⟨rfl, rfl⟩
theorem xc80_79 : pmCode 80 79 = some (.iload 8) ∧ 79 + 2 = 81 := ⟨rfl, rfl⟩
theorem xc80_81 : pmCode 80 81 = some (.iconst 1) ∧ 81 + 1 = 82 := ⟨rfl, rfl⟩
theorem xc80_82 : pmCode 80 82 = some .isub ∧ 82 + 1 = 83 := ⟨rfl, rfl⟩
theorem xc80_83 : pmCode 80 83 = some .imul ∧ 83 + 1 = 84 := ⟨rfl, rfl⟩
theorem xc80_84 : pmCode 80 84 = some (.iload 6) ∧ 84 + 2 = 86 := ⟨rfl, rfl⟩
theorem xc80_86 : pmCode 80 86 = some .iadd ∧ 86 + 1 = 87 := ⟨rfl, rfl⟩
theorem xc80_87 : pmCode 80 87 = some .lushr ∧ 87 + 1 = 88 := ⟨rfl, rfl⟩
theorem xc80_88 : pmCode 80 88 = some (.lconst 1) ∧ 88 + 1 = 89 := ⟨rfl, rfl⟩
theorem xc80_89 : pmCode 80 89 = some .land ∧ 89 + 1 = 90 := ⟨rfl, rfl⟩
theorem xc80_90 : pmCode 80 90 = some (.lconst 0) ∧ 90 + 1 = 91 := ⟨rfl, rfl⟩
theorem xc80_91 : pmCode 80 91 = some .lcmp ∧ 91 + 1 = 92 := ⟨rfl, rfl⟩
theorem xc80_92 : pmCode 80 92 = some (.ifCond .eq 7) ∧ ((92 : Nat) : Int) + 7 = ((99 : Nat) : Int) ∧ 92 + 3 = 95 := ⟨rfl, rfl, rfl⟩
theorem xc80_95 : pmCode 80 95 = some (.iconst 1) ∧ 95 + 1 = 96 := ⟨rfl, rfl⟩
theorem xc80_96 : pmCode 80 96 = some (.goto 4) ∧ ((96 : Nat) : Int) + 4 = ((100 : Nat) : Int) := ⟨rfl, rfl⟩
theorem xc80_99 : pmCode 80 99 = some (.iconst 0) ∧ 99 + 1 = 100 := ⟨rfl, rfl⟩
theorem xc80_100 : pmCode 80 100 = some .ireturn := rfl
theorem xc80_101 : pmCode 80 101 = some (.iload 5) ∧ 101 + 2 = 103 := ⟨rfl, rfl⟩
theorem xc80_103 : pmCode 80 103 = some (.iconst 5) ∧ 103 + 1 = 104 := ⟨rfl, rfl⟩
theorem xc80_104 : pmCode 80 104 = some (.if_icmp .ne 95) ∧ ((104 : Nat) : Int) + 95 = ((199 : Nat) : Int) ∧ 104 + 3 = 107 := ⟨rfl, rfl, rfl⟩
theorem xc80_107 : pmCode 80 107 = some (.iconst 0) ∧ 107 + 1 = 108 := ⟨rfl, rfl⟩
theorem xc80_108 : pmCode 80 108 = some (.istore 9) ∧ 108 + 2 = 110 := ⟨rfl, rfl⟩
theorem xc80_110 : pmCode 80 110 = some (.iconst 0) ∧ 110 + 1 = 111 := ⟨rfl, rfl⟩
theorem xc80_111 : pmCode 80 111 = some (.istore 10) ∧ 111 + 2 = 113 := ⟨rfl, rfl⟩
theorem xc80_113 : pmCode 80 113 = some (.iload 10) ∧ 113 + 2 = 115 := ⟨rfl, rfl⟩
theorem xc80_115 : pmCode 80 115 = some (.iconst 5) ∧ 115 + 1 = 116 := ⟨rfl, rfl⟩
theorem xc80_116 : pmCode 80 116 = some (.if_icmp .ge 51) ∧ ((116 : Nat) : Int) + 51 = ((167 : Nat) : Int) ∧ 116 + 3 = 119 := ⟨rfl, rfl, rfl⟩
theorem xc80_119 : pmCode 80 119 = some (.iload 9) ∧ 119 + 2 = 121 := ⟨rfl, rfl⟩
theorem xc80_121 : pmCode 80 121 = some (.aload_n 0) ∧ 121 + 1 = 122 := ⟨rfl, rfl⟩
theorem xc80_122 : pmCode 80 122 = some (.getfield 31) ∧ 122 + 3 = 125 := ⟨rfl, rfl⟩
theorem xc80_125 : pmCode 80 125 = some (.iload 10) ∧ 125 + 2 = 127 := ⟨rfl, rfl⟩
theorem xc80_127 : pmCode 80 127 = some .ishr ∧ 127 + 1 = 128 := ⟨rfl, rfl⟩
theorem xc80_128 : pmCode 80 128 = some (.iconst 1) ∧ 128 + 1 = 129 := ⟨rfl, rfl⟩
theorem xc80_129 : pmCode 80 129 = some .iand ∧ 129 + 1 = 130 := ⟨rfl, rfl⟩
theorem xc80_130 : pmCode 80 130 = some (.ifCond .eq 27) ∧ ((130 : Nat) : Int) + 27 = ((157 : Nat) : Int) ∧ 130 + 3 = 133 := ⟨rfl, rfl, rfl⟩
theorem xc80_133 : pmCode 80 133 = some (.lload_n 1) ∧ 133 + 1 = 134 := ⟨rfl, rfl⟩
theorem xc80_134 : pmCode 80 134 = some (.bipush 16) ∧ 134 + 2 = 136 := ⟨rfl, rfl⟩
theorem xc80_136 : pmCode 80 136 = some (.iconst 4) ∧ 136 + 1 = 137 := ⟨rfl, rfl⟩
theorem xc80_137 : pmCode 80 137 = some (.iload 10) ∧ 137 + 2 = 139 := ⟨rfl, rfl⟩
theorem xc80_139 : pmCode 80 139 = some .imul ∧ 139 + 1 = 140 := ⟨rfl, rfl⟩
theorem xc80_140 : pmCode 80 140 = some .iadd ∧ 140 + 1 = 141 := ⟨rfl, rfl⟩
theorem xc80_141 : pmCode 80 141 = some .lushr ∧ 141 + 1 = 142 := ⟨rfl, rfl⟩
theorem xc80_142 : pmCode 80 142 = some .l2i ∧ 142 + 1 = 143 := ⟨rfl, rfl⟩
theorem xc80_143 : pmCode 80 143 = some (.bipush 15) ∧ 143 + 2 = 145 := ⟨rfl, rfl⟩
theorem xc80_145 : pmCode 80 145 = some .iand ∧ 145 + 1 = 146 := ⟨rfl, rfl⟩
theorem xc80_146 : pmCode 80 146 = some (.bipush 9) ∧ 146 + 2 = 148 := ⟨rfl, rfl⟩
theorem xc80_148 : pmCode 80 148 = some (.iload_n 3) ∧ 148 + 1 = 149 := ⟨rfl, rfl⟩
theorem xc80_149 : pmCode 80 149 = some .iadd ∧ 149 + 1 = 150 := ⟨rfl, rfl⟩
theorem xc80_150 : pmCode 80 150 = some (.if_icmp .ne 7) ∧ ((150 : Nat) : Int) + 7 = ((157 : Nat) : Int) ∧ 150 + 3 = 153 := ⟨rfl, rfl, rfl⟩
theorem xc80_153 : pmCode 80 153 = some (.iconst 1) ∧ 153 + 1 = 154 := ⟨rfl, rfl⟩
theorem xc80_154 : pmCode 80 154 = some (.goto 4) ∧ ((154 : Nat) : Int) + 4 = ((158 : Nat) : Int) := ⟨rfl, rfl⟩
theorem xc80_157 : pmCode 80 157 = some (.iconst 0) ∧ 157 + 1 = 158 := ⟨rfl, rfl⟩
theorem xc80_158 : pmCode 80 158 = some .ior ∧ 158 + 1 = 159 := ⟨rfl, rfl⟩
theorem xc80_159 : pmCode 80 159 = some (.istore 9) ∧ 159 + 2 = 161 := ⟨rfl, rfl⟩
theorem xc80_161 : pmCode 80 161 = some (.iinc 10 1) ∧ 161 + 3 = 164 := ⟨rfl, rfl⟩
theorem xc80_164 : pmCode 80 164 = some (.goto (-51)) ∧ ((164 : Nat) : Int) + (-51) = ((113 : Nat) : Int) := ⟨rfl, rfl⟩
theorem xc80_167 : pmCode 80 167 = some (.iload 9) ∧ 167 + 2 = 169 := ⟨rfl, rfl⟩
theorem xc80_169 : pmCode 80 169 = some (.ifCond .eq 28) ∧ ((169 : Nat) : Int) + 28 = ((197 : Nat) : Int) ∧ 169 + 3 = 172 := ⟨rfl, rfl, rfl⟩
theorem xc80_172 : pmCode 80 172 = some (.iload 6) ∧ 172 + 2 = 174 := ⟨rfl, rfl⟩
theorem xc80_174 : pmCode 80 174 = some (.iload_n 3) ∧ 174 + 1 = 175 := ⟨rfl, rfl⟩
theorem xc80_175 : pmCode 80 175 = some (.if_icmp .eq 22) ∧ ((175 : Nat) : Int) + 22 = ((197 : Nat) : Int) ∧ 175 + 3 = 178 := ⟨rfl, rfl, rfl⟩
theorem xc80_178 : pmCode 80 178 = some (.lload_n 1) ∧ 178 + 1 = 179 := ⟨rfl, rfl⟩
theorem xc80_179 : pmCode 80 179 = some (.iconst 4) ∧ 179 + 1 = 180 := ⟨rfl, rfl⟩
theorem xc80_180 : pmCode 80 180 = some (.iload 6) ∧ 180 + 2 = 182 := ⟨rfl, rfl⟩
theorem xc80_182 : pmCode 80 182 = some .imul ∧ 182 + 1 = 183 := ⟨rfl, rfl⟩
theorem xc80_183 : pmCode 80 183 = some .lushr ∧ 183 + 1 = 184 := ⟨rfl, rfl⟩
theorem xc80_184 : pmCode 80 184 = some .l2i ∧ 184 + 1 = 185 := ⟨rfl, rfl⟩
theorem xc80_185 : pmCode 80 185 = some (.bipush 15) ∧ 185 + 2 = 187 := ⟨rfl, rfl⟩
theorem xc80_187 : pmCode 80 187 = some .iand ∧ 187 + 1 = 188 := ⟨rfl, rfl⟩
theorem xc80_188 : pmCode 80 188 = some (.iload 8) ∧ 188 + 2 = 190 := ⟨rfl, rfl⟩
theorem xc80_190 : pmCode 80 190 = some (.if_icmp .ne 7) ∧ ((190 : Nat) : Int) + 7 = ((197 : Nat) : Int) ∧ 190 + 3 = 193 := ⟨rfl, rfl, rfl⟩
theorem xc80_193 : pmCode 80 193 = some (.iconst 1) ∧ 193 + 1 = 194 := ⟨rfl, rfl⟩
theorem xc80_194 : pmCode 80 194 = some (.goto 4) ∧ ((194 : Nat) : Int) + 4 = ((198 : Nat) : Int) := ⟨rfl, rfl⟩
theorem xc80_197 : pmCode 80 197 = some (.iconst 0) ∧ 197 + 1 = 198 := ⟨rfl, rfl⟩
theorem xc80_198 : pmCode 80 198 = some .ireturn := rfl
theorem xc80_199 : pmCode 80 199 = some (.iload 5) ∧ 199 + 2 = 201 := ⟨rfl, rfl⟩
theorem xc80_201 : pmCode 80 201 = some (.iconst 4) ∧ 201 + 1 = 202 := ⟨rfl, rfl⟩
theorem xc80_202 : pmCode 80 202 = some (.if_icmp .eq 10) ∧ ((202 : Nat) : Int) + 10 = ((212 : Nat) : Int) ∧ 202 + 3 = 205 := ⟨rfl, rfl, rfl⟩
theorem xc80_205 : pmCode 80 205 = some (.iload 5) ∧ 205 + 2 = 207 := ⟨rfl, rfl⟩
theorem xc80_207 : pmCode 80 207 = some (.bipush 6) ∧ 207 + 2 = 209 := ⟨rfl, rfl⟩
theorem xc80_209 : pmCode 80 209 = some (.if_icmp .ne 26) ∧ ((209 : Nat) : Int) + 26 = ((235 : Nat) : Int) ∧ 209 + 3 = 212 := ⟨rfl, rfl, rfl⟩
theorem xc80_212 : pmCode 80 212 = some (.iload 7) ∧ 212 + 2 = 214 := ⟨rfl, rfl⟩
theorem xc80_214 : pmCode 80 214 = some (.iload_n 3) ∧ 214 + 1 = 215 := ⟨rfl, rfl⟩
theorem xc80_215 : pmCode 80 215 = some (.if_icmp .eq 18) ∧ ((215 : Nat) : Int) + 18 = ((233 : Nat) : Int) ∧ 215 + 3 = 218 := ⟨rfl, rfl, rfl⟩
theorem xc80_218 : pmCode 80 218 = some (.lload_n 1) ∧ 218 + 1 = 219 := ⟨rfl, rfl⟩
theorem xc80_219 : pmCode 80 219 = some (.iconst 4) ∧ 219 + 1 = 220 := ⟨rfl, rfl⟩
theorem xc80_220 : pmCode 80 220 = some (.iload 7) ∧ 220 + 2 = 222 := ⟨rfl, rfl⟩
theorem xc80_222 : pmCode 80 222 = some .imul ∧ 222 + 1 = 223 := ⟨rfl, rfl⟩
theorem xc80_223 : pmCode 80 223 = some .lushr ∧ 223 + 1 = 224 := ⟨rfl, rfl⟩
theorem xc80_224 : pmCode 80 224 = some .l2i ∧ 224 + 1 = 225 := ⟨rfl, rfl⟩
theorem xc80_225 : pmCode 80 225 = some (.bipush 15) ∧ 225 + 2 = 227 := ⟨rfl, rfl⟩
theorem xc80_227 : pmCode 80 227 = some .iand ∧ 227 + 1 = 228 := ⟨rfl, rfl⟩
theorem xc80_228 : pmCode 80 228 = some (.iload 8) ∧ 228 + 2 = 230 := ⟨rfl, rfl⟩
theorem xc80_230 : pmCode 80 230 = some (.if_icmp .eq 5) ∧ ((230 : Nat) : Int) + 5 = ((235 : Nat) : Int) ∧ 230 + 3 = 233 := ⟨rfl, rfl, rfl⟩
theorem xc80_233 : pmCode 80 233 = some (.iconst 0) ∧ 233 + 1 = 234 := ⟨rfl, rfl⟩
theorem xc80_234 : pmCode 80 234 = some .ireturn := rfl
theorem xc80_235 : pmCode 80 235 = some (.lload_n 1) ∧ 235 + 1 = 236 := ⟨rfl, rfl⟩
theorem xc80_236 : pmCode 80 236 = some (.bipush 16) ∧ 236 + 2 = 238 := ⟨rfl, rfl⟩
theorem xc80_238 : pmCode 80 238 = some (.iconst 4) ∧ 238 + 1 = 239 := ⟨rfl, rfl⟩
theorem xc80_239 : pmCode 80 239 = some (.iload 6) ∧ 239 + 2 = 241 := ⟨rfl, rfl⟩
theorem xc80_241 : pmCode 80 241 = some .imul ∧ 241 + 1 = 242 := ⟨rfl, rfl⟩
theorem xc80_242 : pmCode 80 242 = some .iadd ∧ 242 + 1 = 243 := ⟨rfl, rfl⟩
theorem xc80_243 : pmCode 80 243 = some .lushr ∧ 243 + 1 = 244 := ⟨rfl, rfl⟩
theorem xc80_244 : pmCode 80 244 = some .l2i ∧ 244 + 1 = 245 := ⟨rfl, rfl⟩
theorem xc80_245 : pmCode 80 245 = some (.bipush 15) ∧ 245 + 2 = 247 := ⟨rfl, rfl⟩
theorem xc80_247 : pmCode 80 247 = some .iand ∧ 247 + 1 = 248 := ⟨rfl, rfl⟩
theorem xc80_248 : pmCode 80 248 = some (.istore 9) ∧ 248 + 2 = 250 := ⟨rfl, rfl⟩
theorem xc80_250 : pmCode 80 250 = some (.iload 5) ∧ 250 + 2 = 252 := ⟨rfl, rfl⟩
theorem xc80_252 : pmCode 80 252 = some (.bipush 6) ∧ 252 + 2 = 254 := ⟨rfl, rfl⟩
theorem xc80_254 : pmCode 80 254 = some (.if_icmp .ne 24) ∧ ((254 : Nat) : Int) + 24 = ((278 : Nat) : Int) ∧ 254 + 3 = 257 := ⟨rfl, rfl, rfl⟩
theorem xc80_257 : pmCode 80 257 = some (.iload_n 3) ∧ 257 + 1 = 258 := ⟨rfl, rfl⟩
theorem xc80_258 : pmCode 80 258 = some (.ifCond .ne 16) ∧ ((258 : Nat) : Int) + 16 = ((274 : Nat) : Int) ∧ 258 + 3 = 261 := ⟨rfl, rfl, rfl⟩
theorem xc80_261 : pmCode 80 261 = some (.iload 6) ∧ 261 + 2 = 263 := ⟨rfl, rfl⟩
theorem xc80_263 : pmCode 80 263 = some (.aload_n 0) ∧ 263 + 1 = 264 := ⟨rfl, rfl⟩
theorem xc80_264 : pmCode 80 264 = some (.getfield 35) ∧ 264 + 3 = 267 := ⟨rfl, rfl⟩
theorem xc80_267 : pmCode 80 267 = some (.if_icmp .ge 7) ∧ ((267 : Nat) : Int) + 7 = ((274 : Nat) : Int) ∧ 267 + 3 = 270 := ⟨rfl, rfl, rfl⟩
theorem xc80_270 : pmCode 80 270 = some (.iconst 1) ∧ 270 + 1 = 271 := ⟨rfl, rfl⟩
theorem xc80_271 : pmCode 80 271 = some (.goto 32) ∧ ((271 : Nat) : Int) + 32 = ((303 : Nat) : Int) := ⟨rfl, rfl⟩
theorem xc80_274 : pmCode 80 274 = some (.iconst 0) ∧ 274 + 1 = 275 := ⟨rfl, rfl⟩
theorem xc80_275 : pmCode 80 275 = some (.goto 28) ∧ ((275 : Nat) : Int) + 28 = ((303 : Nat) : Int) := ⟨rfl, rfl⟩
theorem xc80_278 : pmCode 80 278 = some (.iload 9) ∧ 278 + 2 = 280 := ⟨rfl, rfl⟩
theorem xc80_280 : pmCode 80 280 = some (.iload 5) ∧ 280 + 2 = 282 := ⟨rfl, rfl⟩
theorem xc80_282 : pmCode 80 282 = some (.iconst 2) ∧ 282 + 1 = 283 := ⟨rfl, rfl⟩
theorem xc80_283 : pmCode 80 283 = some (.if_icmp .ne 8) ∧ ((283 : Nat) : Int) + 8 = ((291 : Nat) : Int) ∧ 283 + 3 = 286 := ⟨rfl, rfl, rfl⟩
theorem xc80_286 : pmCode 80 286 = some (.iload 8) ∧ 286 + 2 = 288 := ⟨rfl, rfl⟩
theorem xc80_288 : pmCode 80 288 = some (.goto 7) ∧ ((288 : Nat) : Int) + 7 = ((295 : Nat) : Int) := ⟨rfl, rfl⟩
theorem xc80_291 : pmCode 80 291 = some (.bipush 9) ∧ 291 + 2 = 293 := ⟨rfl, rfl⟩
theorem xc80_293 : pmCode 80 293 = some (.iload_n 3) ∧ 293 + 1 = 294 := ⟨rfl, rfl⟩
theorem xc80_294 : pmCode 80 294 = some .iadd ∧ 294 + 1 = 295 := ⟨rfl, rfl⟩
theorem xc80_295 : pmCode 80 295 = some (.if_icmp .ne 7) ∧ ((295 : Nat) : Int) + 7 = ((302 : Nat) : Int) ∧ 295 + 3 = 298 := ⟨rfl, rfl, rfl⟩
theorem xc80_298 : pmCode 80 298 = some (.iconst 1) ∧ 298 + 1 = 299 := ⟨rfl, rfl⟩
theorem xc80_299 : pmCode 80 299 = some (.goto 4) ∧ ((299 : Nat) : Int) + 4 = ((303 : Nat) : Int) := ⟨rfl, rfl⟩
theorem xc80_302 : pmCode 80 302 = some (.iconst 0) ∧ 302 + 1 = 303 := ⟨rfl, rfl⟩
theorem xc80_303 : pmCode 80 303 = some .ireturn := rfl
theorem w80 {ro : Nat → Nat × (Nat → Int32)} {d : Nat} {Q : Option Value → pmS → Prop} {p dd : Int} {l : Int64} {a : xA} {b : xB} (hA : xAr a) (hp : 0 ≤ p ∧ p ≤ 3) (hd : 0 ≤ dd ∧ dd ≤ 511) (hn : 0 ≤ a 3 5 ∧ a 3 5 ≤ 5)
    (k1 : (dd / 64 = 0) → Q (some (xV 1)) (xS a b))
    (k2 : (¬ dd / 64 = 0) → ((xL2 (xShr l (4 * p))) % 16 < 1) → Q (some (xV 0)) (xS a b))
    (k3 : (¬ dd / 64 = 0) → (¬ (xL2 (xShr l (4 * p))) % 16 < 1) → ((xL2 (xShr l (4 * p))) % 16 ≤ 7) → (¬ dd / 64 = 1) → (¬ dd / 64 = 5) → (dd / 64 = 4) → (dd % 8 - 1 = p) → Q (some (xV 0)) (xS a b))
    (k4 : (¬ dd / 64 = 0) → (¬ (xL2 (xShr l (4 * p))) % 16 < 1) → ((xL2 (xShr l (4 * p))) % 16 ≤ 7) → (¬ dd / 64 = 1) → (¬ dd / 64 = 5) → (dd / 64 = 4) → (¬ dd % 8 - 1 = p) → ((xL2 (xShr l (4 * (dd % 8 - 1)))) % 16 = (xL2 (xShr l (4 * p))) % 16) → (¬ (xL2 (xShr l (16 + (4 * ((dd / 8) % 8 - 1))))) % 16 = 9 + p) → Q (some (xV 0)) (xS a b))
    (k5 : (¬ dd / 64 = 0) → (¬ (xL2 (xShr l (4 * p))) % 16 < 1) → ((xL2 (xShr l (4 * p))) % 16 ≤ 7) → (¬ dd / 64 = 1) → (¬ dd / 64 = 5) → (dd / 64 = 4) → (¬ dd % 8 - 1 = p) → ((xL2 (xShr l (4 * (dd % 8 - 1)))) % 16 = (xL2 (xShr l (4 * p))) % 16) → (¬ ¬ (xL2 (xShr l (16 + (4 * ((dd / 8) % 8 - 1))))) % 16 = 9 + p) → Q (some (xV 1)) (xS a b))
    (k6 : (¬ dd / 64 = 0) → (¬ (xL2 (xShr l (4 * p))) % 16 < 1) → ((xL2 (xShr l (4 * p))) % 16 ≤ 7) → (¬ dd / 64 = 1) → (¬ dd / 64 = 5) → (dd / 64 = 4) → (¬ dd % 8 - 1 = p) → (¬ (xL2 (xShr l (4 * (dd % 8 - 1)))) % 16 = (xL2 (xShr l (4 * p))) % 16) → Q (some (xV 0)) (xS a b))
    (k7 : (¬ dd / 64 = 0) → (¬ (xL2 (xShr l (4 * p))) % 16 < 1) → ((xL2 (xShr l (4 * p))) % 16 ≤ 7) → (¬ dd / 64 = 1) → (¬ dd / 64 = 5) → (¬ dd / 64 = 4) → (¬ dd / 64 = 6) → (¬ dd / 64 = 2) → (¬ (xL2 (xShr l (16 + (4 * ((dd / 8) % 8 - 1))))) % 16 = 9 + p) → Q (some (xV 0)) (xS a b))
    (k8 : (¬ dd / 64 = 0) → (¬ (xL2 (xShr l (4 * p))) % 16 < 1) → ((xL2 (xShr l (4 * p))) % 16 ≤ 7) → (¬ dd / 64 = 1) → (¬ dd / 64 = 5) → (¬ dd / 64 = 4) → (¬ dd / 64 = 6) → (¬ dd / 64 = 2) → (¬ ¬ (xL2 (xShr l (16 + (4 * ((dd / 8) % 8 - 1))))) % 16 = 9 + p) → Q (some (xV 1)) (xS a b))
    (k9 : (¬ dd / 64 = 0) → (¬ (xL2 (xShr l (4 * p))) % 16 < 1) → ((xL2 (xShr l (4 * p))) % 16 ≤ 7) → (¬ dd / 64 = 1) → (¬ dd / 64 = 5) → (¬ dd / 64 = 4) → (¬ dd / 64 = 6) → (¬ ¬ dd / 64 = 2) → (¬ (xL2 (xShr l (16 + (4 * ((dd / 8) % 8 - 1))))) % 16 = (xL2 (xShr l (4 * p))) % 16) → Q (some (xV 0)) (xS a b))
    (k10 : (¬ dd / 64 = 0) → (¬ (xL2 (xShr l (4 * p))) % 16 < 1) → ((xL2 (xShr l (4 * p))) % 16 ≤ 7) → (¬ dd / 64 = 1) → (¬ dd / 64 = 5) → (¬ dd / 64 = 4) → (¬ dd / 64 = 6) → (¬ ¬ dd / 64 = 2) → (¬ ¬ (xL2 (xShr l (16 + (4 * ((dd / 8) % 8 - 1))))) % 16 = (xL2 (xShr l (4 * p))) % 16) → Q (some (xV 1)) (xS a b))
    (k11 : (¬ dd / 64 = 0) → (¬ (xL2 (xShr l (4 * p))) % 16 < 1) → ((xL2 (xShr l (4 * p))) % 16 ≤ 7) → (¬ dd / 64 = 1) → (¬ dd / 64 = 5) → (¬ dd / 64 = 4) → (¬ ¬ dd / 64 = 6) → (dd % 8 - 1 = p) → Q (some (xV 0)) (xS a b))
    (k12 : (¬ dd / 64 = 0) → (¬ (xL2 (xShr l (4 * p))) % 16 < 1) → ((xL2 (xShr l (4 * p))) % 16 ≤ 7) → (¬ dd / 64 = 1) → (¬ dd / 64 = 5) → (¬ dd / 64 = 4) → (¬ ¬ dd / 64 = 6) → (¬ dd % 8 - 1 = p) → ((xL2 (xShr l (4 * (dd % 8 - 1)))) % 16 = (xL2 (xShr l (4 * p))) % 16) → (¬ p = 0) → Q (some (xV 0)) (xS a b))
    (k13 : (¬ dd / 64 = 0) → (¬ (xL2 (xShr l (4 * p))) % 16 < 1) → ((xL2 (xShr l (4 * p))) % 16 ≤ 7) → (¬ dd / 64 = 1) → (¬ dd / 64 = 5) → (¬ dd / 64 = 4) → (¬ ¬ dd / 64 = 6) → (¬ dd % 8 - 1 = p) → ((xL2 (xShr l (4 * (dd % 8 - 1)))) % 16 = (xL2 (xShr l (4 * p))) % 16) → (¬ ¬ p = 0) → (a 3 5 ≤ (dd / 8) % 8 - 1) → Q (some (xV 0)) (xS a b))
    (k14 : (¬ dd / 64 = 0) → (¬ (xL2 (xShr l (4 * p))) % 16 < 1) → ((xL2 (xShr l (4 * p))) % 16 ≤ 7) → (¬ dd / 64 = 1) → (¬ dd / 64 = 5) → (¬ dd / 64 = 4) → (¬ ¬ dd / 64 = 6) → (¬ dd % 8 - 1 = p) → ((xL2 (xShr l (4 * (dd % 8 - 1)))) % 16 = (xL2 (xShr l (4 * p))) % 16) → (¬ ¬ p = 0) → (¬ a 3 5 ≤ (dd / 8) % 8 - 1) → Q (some (xV 1)) (xS a b))
    (k15 : (¬ dd / 64 = 0) → (¬ (xL2 (xShr l (4 * p))) % 16 < 1) → ((xL2 (xShr l (4 * p))) % 16 ≤ 7) → (¬ dd / 64 = 1) → (¬ dd / 64 = 5) → (¬ dd / 64 = 4) → (¬ ¬ dd / 64 = 6) → (¬ dd % 8 - 1 = p) → (¬ (xL2 (xShr l (4 * (dd % 8 - 1)))) % 16 = (xL2 (xShr l (4 * p))) % 16) → Q (some (xV 0)) (xS a b))
    (k16 : (¬ dd / 64 = 0) → (¬ (xL2 (xShr l (4 * p))) % 16 < 1) → ((xL2 (xShr l (4 * p))) % 16 ≤ 7) → (¬ dd / 64 = 1) → (¬ ¬ dd / 64 = 5) → pmWp ro d 5 80 2 113 [some (.ref 3), some (.long l), none, some (xV p), some (xV dd), some (xV (dd / 64)), some (xV ((dd / 8) % 8 - 1)), some (xV (dd % 8 - 1)), some (xV ((xL2 (xShr l (4 * p))) % 16)), some (xV 0), some (xV 0)] [] (xS a b) Q)
    (k17 : (¬ dd / 64 = 0) → (¬ (xL2 (xShr l (4 * p))) % 16 < 1) → ((xL2 (xShr l (4 * p))) % 16 ≤ 7) → (¬ ¬ dd / 64 = 1) → (xCmp ((xShr (b 3 3) (7 * ((xL2 (xShr l (4 * p))) % 16 - 1) + ((dd / 8) % 8 - 1))) &&& (1 : Int64)) (0 : Int64) = 0) → Q (some (xV 0)) (xS a b))
    (k18 : (¬ dd / 64 = 0) → (¬ (xL2 (xShr l (4 * p))) % 16 < 1) → ((xL2 (xShr l (4 * p))) % 16 ≤ 7) → (¬ ¬ dd / 64 = 1) → (¬ xCmp ((xShr (b 3 3) (7 * ((xL2 (xShr l (4 * p))) % 16 - 1) + ((dd / 8) % 8 - 1))) &&& (1 : Int64)) (0 : Int64) = 0) → Q (some (xV 1)) (xS a b))
    (k19 : (¬ dd / 64 = 0) → (¬ (xL2 (xShr l (4 * p))) % 16 < 1) → (¬ (xL2 (xShr l (4 * p))) % 16 ≤ 7) → Q (some (xV 0)) (xS a b)) :
    pmWp ro d 5 80 2 0 [some (.ref 3), some (.long l), none, some (xV p), some (xV dd), none, none, none, none, none, none] [] (xS a b) Q := by
  refine x_iload xc80_0 rfl ?_
  refine x_bipush xc80_2 (by decide) ?_
  refine x_ishr (M := 64) (by omega) (by omega) (by decide) (xRk (by have g0 := hd; omega)) xc80_4 ?_
  refine x_istore (pl' := [some (.ref 3), some (.long l), none, some (xV p), some (xV dd), some (xV (dd / 64)), none, none, none, none, none]) xc80_5 rfl rfl ?_
  refine x_iload xc80_7 rfl ?_
  refine x_iconst xc80_9 ?_
  refine x_ishr (M := 8) (by omega) (by omega) (by decide) (xRk (by have g0 := hd; omega)) xc80_10 ?_
  refine x_bipush xc80_11 (by decide) ?_
  refine x_iandm (M := 8) 3 (by decide) (by decide) (by decide) xc80_13 ?_
  refine x_iconst xc80_14 ?_
  refine x_isub xc80_15 ?_
  refine x_istore (pl' := [some (.ref 3), some (.long l), none, some (xV p), some (xV dd), some (xV (dd / 64)), some (xV ((dd / 8) % 8 - 1)), none, none, none, none]) xc80_16 rfl rfl ?_
  refine x_iload xc80_18 rfl ?_
  refine x_bipush xc80_20 (by decide) ?_
  refine x_iandm (M := 8) 3 (by decide) (by decide) (by decide) xc80_22 ?_
  refine x_iconst xc80_23 ?_
  refine x_isub xc80_24 ?_
  refine x_istore (pl' := [some (.ref 3), some (.long l), none, some (xV p), some (xV dd), some (xV (dd / 64)), some (xV ((dd / 8) % 8 - 1)), some (xV (dd % 8 - 1)), none, none, none]) xc80_25 rfl rfl ?_
  refine x_lloadn xc80_27 rfl ?_
  refine x_iconst xc80_28 ?_
  refine x_iloadn xc80_29 rfl ?_
  refine x_imul xc80_30 ?_
  refine x_lushr xc80_31 ?_
  refine x_l2i xc80_32 ?_
  refine x_bipush xc80_33 (by decide) ?_
  refine x_iandm (M := 16) 4 (by decide) (by decide) (by decide) xc80_35 ?_
  refine x_istore (pl' := [some (.ref 3), some (.long l), none, some (xV p), some (xV dd), some (xV (dd / 64)), some (xV ((dd / 8) % 8 - 1)), some (xV (dd % 8 - 1)), some (xV ((xL2 (xShr l (4 * p))) % 16)), none, none]) xc80_36 rfl rfl ?_
  refine x_iload xc80_38 rfl ?_
  refine x_ifeq xc80_40 (xRk (by have g0 := hd; omega)) (fun h0 => ?_) (fun h0 => ?_)
  · refine x_iload xc80_56 rfl ?_
    refine x_ifne xc80_58 (xRk (by have g0 := hd; omega)) (fun h => absurd h (by omega)) (fun _ => ?_)
    refine x_iconst xc80_61 ?_
    refine x_goto xc80_62 ?_
    refine x_iret xc80_66 (Or.inr ⟨rfl, (by omega)⟩) ?_
    exact k1 h0
  · refine x_iload xc80_43 rfl ?_
    refine x_iconst xc80_45 ?_
    refine x_iclt xc80_46 (xRk (by have g0 := xL2B (xShr l (4 * p)); omega)) (xRk (by decide)) (fun h2 => ?_) (fun h2 => ?_)
    · refine x_iload xc80_56 rfl ?_
      refine x_ifne xc80_58 (xRk (by have g0 := hd; omega)) (fun _ => ?_) (fun h => absurd h (by omega))
      refine x_iconst xc80_65 ?_
      refine x_iret xc80_66 (Or.inr ⟨rfl, (by omega)⟩) ?_
      exact k2 h0 h2
    · refine x_iload xc80_49 rfl ?_
      refine x_bipush xc80_51 (by decide) ?_
      refine x_icle xc80_53 (xRk (by have g0 := xL2B (xShr l (4 * p)); omega)) (xRk (by decide)) (fun h4 => ?_) (fun h4 => ?_)
      · refine x_iload xc80_67 rfl ?_
        refine x_iconst xc80_69 ?_
        refine x_icne xc80_70 (xRk (by have g0 := hd; omega)) (xRk (by decide)) (fun h5 => ?_) (fun h5 => ?_)
        · refine x_iload xc80_101 rfl ?_
          refine x_iconst xc80_103 ?_
          refine x_icne xc80_104 (xRk (by have g0 := hd; omega)) (xRk (by decide)) (fun h6 => ?_) (fun h6 => ?_)
          · refine x_iload xc80_199 rfl ?_
            refine x_iconst xc80_201 ?_
            refine x_iceq xc80_202 (xRk (by have g0 := hd; omega)) (xRk (by decide)) (fun h7 => ?_) (fun h7 => ?_)
            · refine x_iload xc80_212 rfl ?_
              refine x_iloadn xc80_214 rfl ?_
              refine x_iceq xc80_215 (xRk (by have g0 := hd; omega)) (xRk (by have g0 := hp; omega)) (fun h8 => ?_) (fun h8 => ?_)
              · refine x_iconst xc80_233 ?_
                refine x_iret xc80_234 (Or.inr ⟨rfl, (by omega)⟩) ?_
                exact k3 h0 h2 h4 h5 h6 h7 h8
              · refine x_lloadn xc80_218 rfl ?_
                refine x_iconst xc80_219 ?_
                refine x_iload xc80_220 rfl ?_
                refine x_imul xc80_222 ?_
                refine x_lushr xc80_223 ?_
                refine x_l2i xc80_224 ?_
                refine x_bipush xc80_225 (by decide) ?_
                refine x_iandm (M := 16) 4 (by decide) (by decide) (by decide) xc80_227 ?_
                refine x_iload xc80_228 rfl ?_
                refine x_iceq xc80_230 (xRk (by have g0 := xL2B (xShr l (4 * (dd % 8 - 1))); omega)) (xRk (by have g0 := xL2B (xShr l (4 * p)); omega)) (fun h9 => ?_) (fun h9 => ?_)
                · refine x_lloadn xc80_235 rfl ?_
                  refine x_bipush xc80_236 (by decide) ?_
                  refine x_iconst xc80_238 ?_
                  refine x_iload xc80_239 rfl ?_
                  refine x_imul xc80_241 ?_
                  refine x_iadd xc80_242 ?_
                  refine x_lushr xc80_243 ?_
                  refine x_l2i xc80_244 ?_
                  refine x_bipush xc80_245 (by decide) ?_
                  refine x_iandm (M := 16) 4 (by decide) (by decide) (by decide) xc80_247 ?_
                  refine x_istore (pl' := [some (.ref 3), some (.long l), none, some (xV p), some (xV dd), some (xV (dd / 64)), some (xV ((dd / 8) % 8 - 1)), some (xV (dd % 8 - 1)), some (xV ((xL2 (xShr l (4 * p))) % 16)), some (xV ((xL2 (xShr l (16 + (4 * ((dd / 8) % 8 - 1))))) % 16)), none]) xc80_248 rfl rfl ?_
                  refine x_iload xc80_250 rfl ?_
                  refine x_bipush xc80_252 (by decide) ?_
                  refine x_icne xc80_254 (xRk (by have g0 := hd; omega)) (xRk (by decide)) (fun _ => ?_) (fun h => absurd h (by omega))
                  refine x_iload xc80_278 rfl ?_
                  refine x_iload xc80_280 rfl ?_
                  refine x_iconst xc80_282 ?_
                  refine x_icne xc80_283 (xRk (by have g0 := hd; omega)) (xRk (by decide)) (fun _ => ?_) (fun h => absurd h (by omega))
                  refine x_bipush xc80_291 (by decide) ?_
                  refine x_iloadn xc80_293 rfl ?_
                  refine x_iadd xc80_294 ?_
                  refine x_icne xc80_295 (xRk (by have g0 := xL2B (xShr l (16 + (4 * ((dd / 8) % 8 - 1)))); omega)) (xRk (by have g0 := hp; omega)) (fun h12 => ?_) (fun h12 => ?_)
                  · refine x_iconst xc80_302 ?_
                    refine x_iret xc80_303 (Or.inr ⟨rfl, (by omega)⟩) ?_
                    exact k4 h0 h2 h4 h5 h6 h7 h8 h9 h12
                  · refine x_iconst xc80_298 ?_
                    refine x_goto xc80_299 ?_
                    refine x_iret xc80_303 (Or.inr ⟨rfl, (by omega)⟩) ?_
                    exact k5 h0 h2 h4 h5 h6 h7 h8 h9 h12
                · refine x_iconst xc80_233 ?_
                  refine x_iret xc80_234 (Or.inr ⟨rfl, (by omega)⟩) ?_
                  exact k6 h0 h2 h4 h5 h6 h7 h8 h9
            · refine x_iload xc80_205 rfl ?_
              refine x_bipush xc80_207 (by decide) ?_
              refine x_icne xc80_209 (xRk (by have g0 := hd; omega)) (xRk (by decide)) (fun h13 => ?_) (fun h13 => ?_)
              · refine x_lloadn xc80_235 rfl ?_
                refine x_bipush xc80_236 (by decide) ?_
                refine x_iconst xc80_238 ?_
                refine x_iload xc80_239 rfl ?_
                refine x_imul xc80_241 ?_
                refine x_iadd xc80_242 ?_
                refine x_lushr xc80_243 ?_
                refine x_l2i xc80_244 ?_
                refine x_bipush xc80_245 (by decide) ?_
                refine x_iandm (M := 16) 4 (by decide) (by decide) (by decide) xc80_247 ?_
                refine x_istore (pl' := [some (.ref 3), some (.long l), none, some (xV p), some (xV dd), some (xV (dd / 64)), some (xV ((dd / 8) % 8 - 1)), some (xV (dd % 8 - 1)), some (xV ((xL2 (xShr l (4 * p))) % 16)), some (xV ((xL2 (xShr l (16 + (4 * ((dd / 8) % 8 - 1))))) % 16)), none]) xc80_248 rfl rfl ?_
                refine x_iload xc80_250 rfl ?_
                refine x_bipush xc80_252 (by decide) ?_
                refine x_icne xc80_254 (xRk (by have g0 := hd; omega)) (xRk (by decide)) (fun _ => ?_) (fun h => absurd h (by omega))
                refine x_iload xc80_278 rfl ?_
                refine x_iload xc80_280 rfl ?_
                refine x_iconst xc80_282 ?_
                refine x_icne xc80_283 (xRk (by have g0 := hd; omega)) (xRk (by decide)) (fun h15 => ?_) (fun h15 => ?_)
                · refine x_bipush xc80_291 (by decide) ?_
                  refine x_iloadn xc80_293 rfl ?_
                  refine x_iadd xc80_294 ?_
                  refine x_icne xc80_295 (xRk (by have g0 := xL2B (xShr l (16 + (4 * ((dd / 8) % 8 - 1)))); omega)) (xRk (by have g0 := hp; omega)) (fun h16 => ?_) (fun h16 => ?_)
                  · refine x_iconst xc80_302 ?_
                    refine x_iret xc80_303 (Or.inr ⟨rfl, (by omega)⟩) ?_
                    exact k7 h0 h2 h4 h5 h6 h7 h13 h15 h16
                  · refine x_iconst xc80_298 ?_
                    refine x_goto xc80_299 ?_
                    refine x_iret xc80_303 (Or.inr ⟨rfl, (by omega)⟩) ?_
                    exact k8 h0 h2 h4 h5 h6 h7 h13 h15 h16
                · refine x_iload xc80_286 rfl ?_
                  refine x_goto xc80_288 ?_
                  refine x_icne xc80_295 (xRk (by have g0 := xL2B (xShr l (16 + (4 * ((dd / 8) % 8 - 1)))); omega)) (xRk (by have g0 := xL2B (xShr l (4 * p)); omega)) (fun h17 => ?_) (fun h17 => ?_)
                  · refine x_iconst xc80_302 ?_
                    refine x_iret xc80_303 (Or.inr ⟨rfl, (by omega)⟩) ?_
                    exact k9 h0 h2 h4 h5 h6 h7 h13 h15 h17
                  · refine x_iconst xc80_298 ?_
                    refine x_goto xc80_299 ?_
                    refine x_iret xc80_303 (Or.inr ⟨rfl, (by omega)⟩) ?_
                    exact k10 h0 h2 h4 h5 h6 h7 h13 h15 h17
              · refine x_iload xc80_212 rfl ?_
                refine x_iloadn xc80_214 rfl ?_
                refine x_iceq xc80_215 (xRk (by have g0 := hd; omega)) (xRk (by have g0 := hp; omega)) (fun h18 => ?_) (fun h18 => ?_)
                · refine x_iconst xc80_233 ?_
                  refine x_iret xc80_234 (Or.inr ⟨rfl, (by omega)⟩) ?_
                  exact k11 h0 h2 h4 h5 h6 h7 h13 h18
                · refine x_lloadn xc80_218 rfl ?_
                  refine x_iconst xc80_219 ?_
                  refine x_iload xc80_220 rfl ?_
                  refine x_imul xc80_222 ?_
                  refine x_lushr xc80_223 ?_
                  refine x_l2i xc80_224 ?_
                  refine x_bipush xc80_225 (by decide) ?_
                  refine x_iandm (M := 16) 4 (by decide) (by decide) (by decide) xc80_227 ?_
                  refine x_iload xc80_228 rfl ?_
                  refine x_iceq xc80_230 (xRk (by have g0 := xL2B (xShr l (4 * (dd % 8 - 1))); omega)) (xRk (by have g0 := xL2B (xShr l (4 * p)); omega)) (fun h19 => ?_) (fun h19 => ?_)
                  · refine x_lloadn xc80_235 rfl ?_
                    refine x_bipush xc80_236 (by decide) ?_
                    refine x_iconst xc80_238 ?_
                    refine x_iload xc80_239 rfl ?_
                    refine x_imul xc80_241 ?_
                    refine x_iadd xc80_242 ?_
                    refine x_lushr xc80_243 ?_
                    refine x_l2i xc80_244 ?_
                    refine x_bipush xc80_245 (by decide) ?_
                    refine x_iandm (M := 16) 4 (by decide) (by decide) (by decide) xc80_247 ?_
                    refine x_istore (pl' := [some (.ref 3), some (.long l), none, some (xV p), some (xV dd), some (xV (dd / 64)), some (xV ((dd / 8) % 8 - 1)), some (xV (dd % 8 - 1)), some (xV ((xL2 (xShr l (4 * p))) % 16)), some (xV ((xL2 (xShr l (16 + (4 * ((dd / 8) % 8 - 1))))) % 16)), none]) xc80_248 rfl rfl ?_
                    refine x_iload xc80_250 rfl ?_
                    refine x_bipush xc80_252 (by decide) ?_
                    refine x_icne xc80_254 (xRk (by have g0 := hd; omega)) (xRk (by decide)) (fun h => absurd h (by omega)) (fun _ => ?_)
                    refine x_iloadn xc80_257 rfl ?_
                    refine x_ifne xc80_258 (xRk (by have g0 := hp; omega)) (fun h21 => ?_) (fun h21 => ?_)
                    · refine x_iconst xc80_274 ?_
                      refine x_goto xc80_275 ?_
                      refine x_iret xc80_303 (Or.inr ⟨rfl, (by omega)⟩) ?_
                      exact k12 h0 h2 h4 h5 h6 h7 h13 h18 h19 h21
                    · refine x_iload xc80_261 rfl ?_
                      refine x_aloadn xc80_263 rfl ?_
                      refine x_gfi (k := 5) xc80_264 rfl (Or.inl rfl) rfl xz3 ?_
                      refine x_icge xc80_267 (xRk (by have g0 := hd; omega)) (xRk (by have g0 := hn; omega)) (fun h22 => ?_) (fun h22 => ?_)
                      · refine x_iconst xc80_274 ?_
                        refine x_goto xc80_275 ?_
                        refine x_iret xc80_303 (Or.inr ⟨rfl, (by omega)⟩) ?_
                        exact k13 h0 h2 h4 h5 h6 h7 h13 h18 h19 h21 h22
                      · refine x_iconst xc80_270 ?_
                        refine x_goto xc80_271 ?_
                        refine x_iret xc80_303 (Or.inr ⟨rfl, (by omega)⟩) ?_
                        exact k14 h0 h2 h4 h5 h6 h7 h13 h18 h19 h21 h22
                  · refine x_iconst xc80_233 ?_
                    refine x_iret xc80_234 (Or.inr ⟨rfl, (by omega)⟩) ?_
                    exact k15 h0 h2 h4 h5 h6 h7 h13 h18 h19
          · refine x_iconst xc80_107 ?_
            refine x_istore (pl' := [some (.ref 3), some (.long l), none, some (xV p), some (xV dd), some (xV (dd / 64)), some (xV ((dd / 8) % 8 - 1)), some (xV (dd % 8 - 1)), some (xV ((xL2 (xShr l (4 * p))) % 16)), some (xV 0), none]) xc80_108 rfl rfl ?_
            refine x_iconst xc80_110 ?_
            refine x_istore (pl' := [some (.ref 3), some (.long l), none, some (xV p), some (xV dd), some (xV (dd / 64)), some (xV ((dd / 8) % 8 - 1)), some (xV (dd % 8 - 1)), some (xV ((xL2 (xShr l (4 * p))) % 16)), some (xV 0), some (xV 0)]) xc80_111 rfl rfl ?_
            exact k16 h0 h2 h4 h5 h6
        · refine x_aloadn xc80_73 rfl ?_
          refine x_gfl (k := 3) xc80_74 rfl rfl rfl xz3 ?_
          refine x_bipush xc80_77 (by decide) ?_
          refine x_iload xc80_79 rfl ?_
          refine x_iconst xc80_81 ?_
          refine x_isub xc80_82 ?_
          refine x_imul xc80_83 ?_
          refine x_iload xc80_84 rfl ?_
          refine x_iadd xc80_86 ?_
          refine x_lushr xc80_87 ?_
          refine x_lconst (l := 1) xc80_88 rfl ?_
          refine x_land xc80_89 ?_
          refine x_lconst (l := 0) xc80_90 rfl ?_
          refine x_lcmp xc80_91 ?_
          refine x_ifeq xc80_92 (xRk (by have g0 := xCmpB ((xShr (b 3 3) (7 * ((xL2 (xShr l (4 * p))) % 16 - 1) + ((dd / 8) % 8 - 1))) &&& (1 : Int64)) (0 : Int64); omega)) (fun h23 => ?_) (fun h23 => ?_)
          · refine x_iconst xc80_99 ?_
            refine x_iret xc80_100 (Or.inr ⟨rfl, (by omega)⟩) ?_
            exact k17 h0 h2 h4 h5 h23
          · refine x_iconst xc80_95 ?_
            refine x_goto xc80_96 ?_
            refine x_iret xc80_100 (Or.inr ⟨rfl, (by omega)⟩) ?_
            exact k18 h0 h2 h4 h5 h23
      · refine x_iload xc80_56 rfl ?_
        refine x_ifne xc80_58 (xRk (by have g0 := hd; omega)) (fun _ => ?_) (fun h => absurd h (by omega))
        refine x_iconst xc80_65 ?_
        refine x_iret xc80_66 (Or.inr ⟨rfl, (by omega)⟩) ?_
        exact k19 h0 h2 h4

theorem xg80 {ro : Nat → Nat × (Nat → Int32)} {d : Nat} {Q : Option Value → pmS → Prop} {a : xA} {b : xB} {p dd : Int} {l : Int64} (h : pmWp ro d 5 80 2 0 [some (.ref 3), some (.long l), none, some (xV p), some (xV dd), none, none, none, none, none, none] [] (xS a b) Q) : pmCs ro (d + 1) 80 [.ref 3, .long l, xV p, xV dd] (xS a b) Q := x_go xi80 rfl rfl rfl rfl rfl h
theorem w80l {ro : Nat → Nat × (Nat → Int32)} {d : Nat} {Q : Option Value → pmS → Prop} {p dd : Int} {l : Int64} {a : xA} {b : xB} (hA : xAr a) (hp : 0 ≤ p ∧ p ≤ 3) (hd : 0 ≤ dd ∧ dd ≤ 511) {kk kx ky hr g i : Int} (hkk : 0 ≤ kk ∧ kk ≤ 7) (hkx : -1 ≤ kx ∧ kx ≤ 6) (hky : -1 ≤ ky ∧ ky ≤ 6) (hhr : 0 ≤ hr ∧ hr ≤ 15) (hg : g = 0 ∨ g = 1) (hi : 0 ≤ i ∧ i ≤ 5)
    (k1 : (5 ≤ i) → (g = 0) → Q (some (xV 0)) (xS a b))
    (k2 : (5 ≤ i) → (¬ g = 0) → (kx = p) → Q (some (xV 0)) (xS a b))
    (k3 : (5 ≤ i) → (¬ g = 0) → (¬ kx = p) → (¬ (xL2 (xShr l (4 * kx))) % 16 = hr) → Q (some (xV 0)) (xS a b))
    (k4 : (5 ≤ i) → (¬ g = 0) → (¬ kx = p) → (¬ ¬ (xL2 (xShr l (4 * kx))) % 16 = hr) → Q (some (xV 1)) (xS a b))
    (k5 : (¬ 5 ≤ i) → (((a 3 4) / ((2 ^ i.toNat : Nat) : Int)) % 2 = 0) → pmWp ro d 5 80 2 113 [some (.ref 3), some (.long l), none, some (xV p), some (xV dd), some (xV kk), some (xV kx), some (xV ky), some (xV hr), some (xV (xOr g 0)), some (xV (i + 1))] [] (xS a b) Q)
    (k6 : (¬ 5 ≤ i) → (¬ ((a 3 4) / ((2 ^ i.toNat : Nat) : Int)) % 2 = 0) → (¬ (xL2 (xShr l (16 + (4 * i)))) % 16 = 9 + p) → pmWp ro d 5 80 2 113 [some (.ref 3), some (.long l), none, some (xV p), some (xV dd), some (xV kk), some (xV kx), some (xV ky), some (xV hr), some (xV (xOr g 0)), some (xV (i + 1))] [] (xS a b) Q)
    (k7 : (¬ 5 ≤ i) → (¬ ((a 3 4) / ((2 ^ i.toNat : Nat) : Int)) % 2 = 0) → (¬ ¬ (xL2 (xShr l (16 + (4 * i)))) % 16 = 9 + p) → pmWp ro d 5 80 2 113 [some (.ref 3), some (.long l), none, some (xV p), some (xV dd), some (xV kk), some (xV kx), some (xV ky), some (xV hr), some (xV (xOr g 1)), some (xV (i + 1))] [] (xS a b) Q) :
    pmWp ro d 5 80 2 113 [some (.ref 3), some (.long l), none, some (xV p), some (xV dd), some (xV kk), some (xV kx), some (xV ky), some (xV hr), some (xV g), some (xV i)] [] (xS a b) Q := by
  refine x_iload xc80_113 rfl ?_
  refine x_iconst xc80_115 ?_
  refine x_icge xc80_116 (xRk (by have g0 := hi; omega)) (xRk (by decide)) (fun h0 => ?_) (fun h0 => ?_)
  · refine x_iload xc80_167 rfl ?_
    refine x_ifeq xc80_169 (xRk (by have g0 := hg; omega)) (fun h1 => ?_) (fun h1 => ?_)
    · refine x_iconst xc80_197 ?_
      refine x_iret xc80_198 (Or.inr ⟨rfl, (by omega)⟩) ?_
      exact k1 h0 h1
    · refine x_iload xc80_172 rfl ?_
      refine x_iloadn xc80_174 rfl ?_
      refine x_iceq xc80_175 (xRk (by have g0 := hkx; omega)) (xRk (by have g0 := hp; omega)) (fun h2 => ?_) (fun h2 => ?_)
      · refine x_iconst xc80_197 ?_
        refine x_iret xc80_198 (Or.inr ⟨rfl, (by omega)⟩) ?_
        exact k2 h0 h1 h2
      · refine x_lloadn xc80_178 rfl ?_
        refine x_iconst xc80_179 ?_
        refine x_iload xc80_180 rfl ?_
        refine x_imul xc80_182 ?_
        refine x_lushr xc80_183 ?_
        refine x_l2i xc80_184 ?_
        refine x_bipush xc80_185 (by decide) ?_
        refine x_iandm (M := 16) 4 (by decide) (by decide) (by decide) xc80_187 ?_
        refine x_iload xc80_188 rfl ?_
        refine x_icne xc80_190 (xRk (by have g0 := xL2B (xShr l (4 * kx)); omega)) (xRk (by have g0 := hhr; omega)) (fun h3 => ?_) (fun h3 => ?_)
        · refine x_iconst xc80_197 ?_
          refine x_iret xc80_198 (Or.inr ⟨rfl, (by omega)⟩) ?_
          exact k3 h0 h1 h2 h3
        · refine x_iconst xc80_193 ?_
          refine x_goto xc80_194 ?_
          refine x_iret xc80_198 (Or.inr ⟨rfl, (by omega)⟩) ?_
          exact k4 h0 h1 h2 h3
  · refine x_iload xc80_119 rfl ?_
    refine x_aloadn xc80_121 rfl ?_
    refine x_gfi (k := 4) xc80_122 rfl (Or.inl rfl) rfl xz3 ?_
    refine x_iload xc80_125 rfl ?_
    refine x_ishr (M := ((2 ^ i.toNat : Nat) : Int)) (by have g0 := hi; omega) (by have g0 := hi; omega) rfl (xRk (by have g0 := xRb (hA 3 4); omega)) xc80_127 ?_
    refine x_iconst xc80_128 ?_
    refine x_iandm (M := 2) 1 (by decide) (by decide) (by decide) xc80_129 ?_
    refine x_ifeq xc80_130 (xRk (by have g0 := xRb (hA 3 4); have g1 := hi; omega)) (fun h4 => ?_) (fun h4 => ?_)
    · refine x_iconst xc80_157 ?_
      refine x_ior xc80_158 ?_
      refine x_istore (pl' := [some (.ref 3), some (.long l), none, some (xV p), some (xV dd), some (xV kk), some (xV kx), some (xV ky), some (xV hr), some (xV (xOr g 0)), some (xV i)]) xc80_159 rfl rfl ?_
      refine x_iinc (pl' := [some (.ref 3), some (.long l), none, some (xV p), some (xV dd), some (xV kk), some (xV kx), some (xV ky), some (xV hr), some (xV (xOr g 0)), some (xV (i + 1))]) xc80_161 rfl rfl ?_
      refine x_goto xc80_164 ?_
      exact k5 h0 h4
    · refine x_lloadn xc80_133 rfl ?_
      refine x_bipush xc80_134 (by decide) ?_
      refine x_iconst xc80_136 ?_
      refine x_iload xc80_137 rfl ?_
      refine x_imul xc80_139 ?_
      refine x_iadd xc80_140 ?_
      refine x_lushr xc80_141 ?_
      refine x_l2i xc80_142 ?_
      refine x_bipush xc80_143 (by decide) ?_
      refine x_iandm (M := 16) 4 (by decide) (by decide) (by decide) xc80_145 ?_
      refine x_bipush xc80_146 (by decide) ?_
      refine x_iloadn xc80_148 rfl ?_
      refine x_iadd xc80_149 ?_
      refine x_icne xc80_150 (xRk (by have g0 := xL2B (xShr l (16 + (4 * i))); omega)) (xRk (by have g0 := hp; omega)) (fun h5 => ?_) (fun h5 => ?_)
      · refine x_iconst xc80_157 ?_
        refine x_ior xc80_158 ?_
        refine x_istore (pl' := [some (.ref 3), some (.long l), none, some (xV p), some (xV dd), some (xV kk), some (xV kx), some (xV ky), some (xV hr), some (xV (xOr g 0)), some (xV i)]) xc80_159 rfl rfl ?_
        refine x_iinc (pl' := [some (.ref 3), some (.long l), none, some (xV p), some (xV dd), some (xV kk), some (xV kx), some (xV ky), some (xV hr), some (xV (xOr g 0)), some (xV (i + 1))]) xc80_161 rfl rfl ?_
        refine x_goto xc80_164 ?_
        exact k6 h0 h4 h5
      · refine x_iconst xc80_153 ?_
        refine x_goto xc80_154 ?_
        refine x_ior xc80_158 ?_
        refine x_istore (pl' := [some (.ref 3), some (.long l), none, some (xV p), some (xV dd), some (xV kk), some (xV kx), some (xV ky), some (xV hr), some (xV (xOr g 1)), some (xV i)]) xc80_159 rfl rfl ?_
        refine x_iinc (pl' := [some (.ref 3), some (.long l), none, some (xV p), some (xV dd), some (xV kk), some (xV kx), some (xV ky), some (xV hr), some (xV (xOr g 1)), some (xV (i + 1))]) xc80_161 rfl rfl ?_
        refine x_goto xc80_164 ?_
        exact k7 h0 h4 h5

theorem uOr0 {g : Int} (h : g = 0 ∨ g = 1) : xOr g 0 = g := by
  rcases h with h | h <;> subst h <;> decide
theorem uOr1 {g : Int} (h : g = 0 ∨ g = 1) : xOr g 1 = 1 := by
  rcases h with h | h <;> subst h <;> decide
/-- a bit of a number's -/
def uBi (z i : Int) : Int := z / ((2 ^ i.toNat : Nat) : Int) % 2
/-- the class's doors, weapons, things, deeds -/
def uKs (dr wp : Int → Int) (n : Int) (a : xA) (b : xB) : Prop := (∀ k, 0 ≤ k → k < 49 → (xBit (b 3 3) k = true ↔ ¬ dr k = 0)) ∧ (∀ i, 0 ≤ i → i < 5 → (uBi (a 3 4) i = 0 ↔ wp i = 0)) ∧ a 3 5 = n ∧ (0 ≤ n ∧ n ≤ 5) ∧ ∀ k, -1 ≤ k → k < 61 → a 4 (k + 1) = uD k
theorem uK_e {k : Int} : uK k = if k < 0 then 0 else if k < 7 then 1 else if k < 12 then 2 else if k < 17 then 3 else if k < 37 then 4 else if k < 41 then 5 else 6 := rfl
theorem uX_e {k : Int} : uX k = if k < 0 then -1 else if k < 7 then k else if k < 12 then k - 7 else if k < 17 then k - 12 else if k < 37 then (k - 17) / 4 else if k < 41 then k - 37 else (k - 41) / 4 := rfl
theorem uY_e {k : Int} : uY k = if k < 17 then -1 else if k < 37 then (k - 17) % 4 else if k < 41 then -1 else (k - 41) % 4 := rfl
/-- a deed's number, its parts -/
theorem uD_p {k : Int} (h : -1 ≤ k ∧ k < 61) : 0 ≤ uD k ∧ uD k ≤ 447 ∧ uD k / 64 = uK k ∧ (0 ≤ k → uD k / 8 % 8 - 1 = uX k ∧ uD k % 8 - 1 = uY k) ∧ (k = -1 → uD k = 0) := by
  have e1 := @uK_e k
  have e2 := @uX_e k
  have e3 := @uY_e k
  unfold uD
  split at e1
  · rw [if_pos (by omega)]
    omega
  · rw [if_neg (by omega)]
    omega
theorem uX_b {k : Int} (h : 0 ≤ k ∧ k < 61) : 0 ≤ uX k ∧ (uK k = 1 → uX k < 7) ∧ (uK k = 2 ∨ uK k = 3 ∨ uK k = 4 ∨ uK k = 6 → uX k < 5) ∧ (uK k = 5 → uX k < 4) ∧ (uK k = 4 ∨ uK k = 6 → 0 ≤ uY k ∧ uY k < 4) ∧ (¬ (uK k = 4 ∨ uK k = 6) → uY k = -1) ∧ 1 ≤ uK k ∧ uK k ≤ 6 := by
  have e1 := @uK_e k
  have e2 := @uX_e k
  have e3 := @uY_e k
  omega
/-- a deed can be done (codes -1 to 60) -/
def uCa (dr wp : Int → Int) (n p : Int) (S : Int → Int) (k : Int) : Prop := k = -1 ∨ ((1 ≤ S p ∧ S p ≤ 7) ∧ (if k < 41 then uCan dr wp p S k else p = 0 ∧ uX k < n ∧ ¬ uY k = p ∧ S (uY k) = S p))
section
variable {ro : Nat → Nat × (Nat → Int32)} {d : Nat} {Q : Option Value → pmS → Prop} {dr wp : Int → Int} {n p k : Int} {l : Int64} {a : xA} {b : xB}
theorem u80l {kx hr : Int} (hA : xAr a) (hp : 0 ≤ p ∧ p ≤ 3) {dd kk ky : Int} (hd : 0 ≤ dd ∧ dd ≤ 511) (hkk : 0 ≤ kk ∧ kk ≤ 7) (hkx : 0 ≤ kx ∧ kx ≤ 3) (hky : -1 ≤ ky ∧ ky ≤ 6) (hhr : 0 ≤ hr ∧ hr ≤ 15) : ∀ (m : Nat) (i g : Int), 5 - i ≤ (m : Int) → 0 ≤ i ∧ i ≤ 5 → (g = 0 ∨ g = 1) → ((g = 1 ∨ ∃ j, i ≤ j ∧ j < 5 ∧ ¬ uBi (a 3 4) j = 0 ∧ uSl l (4 + j) = 9 + p) ∧ ¬ kx = p ∧ uSl l kx = hr → Q (some (xV 1)) (xS a b)) → (¬ ((g = 1 ∨ ∃ j, i ≤ j ∧ j < 5 ∧ ¬ uBi (a 3 4) j = 0 ∧ uSl l (4 + j) = 9 + p) ∧ ¬ kx = p ∧ uSl l kx = hr) → Q (some (xV 0)) (xS a b)) →
    pmWp ro d 5 80 2 113 [some (.ref 3), some (.long l), none, some (xV p), some (xV dd), some (xV kk), some (xV kx), some (xV ky), some (xV hr), some (xV g), some (xV i)] [] (xS a b) Q := by
  have eS : ∀ i, xL2 (xShr l (16 + (4 * i))) % 16 = uSl l (4 + i) := fun i => uSl_at (by omega)
  have eB : ∀ i, a 3 4 / ((2 ^ i.toNat : Nat) : Int) % 2 = uBi (a 3 4) i := fun i => rfl
  have eX : xL2 (xShr l (4 * kx)) % 16 = uSl l kx := rfl
  intro m
  induction m with
  | zero =>
    intro i g hm hi hg hT hF
    refine w80l hA hp hd hkk ⟨by omega, by omega⟩ hky hhr hg hi (fun e1 e2 => hF ?_) (fun e1 e2 e3 => hF ?_) (fun e1 e2 e3 e4 => hF ?_) (fun e1 e2 e3 e4 => hT ?_) (fun e => by omega) (fun e => by omega) (fun e => by omega)
    · rintro ⟨h | ⟨j, j0, j1, _⟩, _⟩ <;> omega
    · rintro ⟨_, h, _⟩
      exact h e3
    · rw [eX] at e4
      rintro ⟨_, _, h⟩
      exact e4 h
    · rw [eX] at e4
      exact ⟨Or.inl (hg.resolve_left e2), e3, Classical.not_not.mp e4⟩
  | succ m ih =>
    intro i g hm hi hg hT hF
    refine w80l hA hp hd hkk ⟨by omega, by omega⟩ hky hhr hg hi (fun e1 e2 => hF ?_) (fun e1 e2 e3 => hF ?_) (fun e1 e2 e3 e4 => hF ?_) (fun e1 e2 e3 e4 => hT ?_) (fun e1 e2 => ?_) (fun e1 e2 e3 => ?_) (fun e1 e2 e3 => ?_)
    · rintro ⟨h | ⟨j, j0, j1, _⟩, _⟩ <;> omega
    · rintro ⟨_, h, _⟩
      exact h e3
    · rw [eX] at e4
      rintro ⟨_, _, h⟩
      exact e4 h
    · rw [eX] at e4
      exact ⟨Or.inl (hg.resolve_left e2), e3, Classical.not_not.mp e4⟩
    · rw [eB] at e2
      rw [uOr0 hg]
      have hx : (g = 1 ∨ ∃ j, i ≤ j ∧ j < 5 ∧ ¬ uBi (a 3 4) j = 0 ∧ uSl l (4 + j) = 9 + p) ↔ (g = 1 ∨ ∃ j, i + 1 ≤ j ∧ j < 5 ∧ ¬ uBi (a 3 4) j = 0 ∧ uSl l (4 + j) = 9 + p) := by
        constructor
        · rintro (h | ⟨j, j0, j1, j2, j3⟩)
          · exact Or.inl h
          · refine Or.inr ⟨j, ?_, j1, j2, j3⟩
            by_cases c : j = i
            · subst c
              exact absurd e2 j2
            · omega
        · rintro (h | ⟨j, j0, j1, j2, j3⟩)
          · exact Or.inl h
          · exact Or.inr ⟨j, by omega, j1, j2, j3⟩
      exact ih (i + 1) g (by omega) (by omega) hg (fun h => hT ⟨hx.mpr h.1, h.2⟩) (fun h => hF fun h' => h ⟨hx.mp h'.1, h'.2⟩)
    · rw [eS] at e3
      rw [uOr0 hg]
      have hx : (g = 1 ∨ ∃ j, i ≤ j ∧ j < 5 ∧ ¬ uBi (a 3 4) j = 0 ∧ uSl l (4 + j) = 9 + p) ↔ (g = 1 ∨ ∃ j, i + 1 ≤ j ∧ j < 5 ∧ ¬ uBi (a 3 4) j = 0 ∧ uSl l (4 + j) = 9 + p) := by
        constructor
        · rintro (h | ⟨j, j0, j1, j2, j3⟩)
          · exact Or.inl h
          · refine Or.inr ⟨j, ?_, j1, j2, j3⟩
            by_cases c : j = i
            · subst c
              exact absurd j3 e3
            · omega
        · rintro (h | ⟨j, j0, j1, j2, j3⟩)
          · exact Or.inl h
          · exact Or.inr ⟨j, by omega, j1, j2, j3⟩
      exact ih (i + 1) g (by omega) (by omega) hg (fun h => hT ⟨hx.mpr h.1, h.2⟩) (fun h => hF fun h' => h ⟨hx.mp h'.1, h'.2⟩)
    · rw [eS] at e3
      rw [eB] at e2
      rw [uOr1 hg]
      have h1 : g = 1 ∨ ∃ j, i ≤ j ∧ j < 5 ∧ ¬ uBi (a 3 4) j = 0 ∧ uSl l (4 + j) = 9 + p := Or.inr ⟨i, Int.le_refl _, by omega, e2, Classical.not_not.mp e3⟩
      exact ih (i + 1) 1 (by omega) (by omega) (Or.inr rfl) (fun h => hT ⟨h1, h.2⟩) (fun h => hF fun h' => h ⟨Or.inl rfl, h'.2⟩)
theorem uArm_e (hK : uKs dr wp n a b) {S : Int → Int} : (∃ j, 0 ≤ j ∧ j < 5 ∧ ¬ uBi (a 3 4) j = 0 ∧ S (4 + j) = 9 + p) ↔ uArm wp S p := by
  have h := hK.2.1
  unfold uArm
  constructor
  · rintro ⟨j, j0, j1, j2, j3⟩
    rw [h j j0 j1] at j2
    have : j = 0 ∨ j = 1 ∨ j = 2 ∨ j = 3 ∨ j = 4 := by omega
    rcases this with e | e | e | e | e <;> subst e
    · exact Or.inl ⟨j2, j3⟩
    · exact Or.inr (Or.inl ⟨j2, j3⟩)
    · exact Or.inr (Or.inr (Or.inl ⟨j2, j3⟩))
    · exact Or.inr (Or.inr (Or.inr (Or.inl ⟨j2, j3⟩)))
    · exact Or.inr (Or.inr (Or.inr (Or.inr ⟨j2, j3⟩)))
  · rintro (⟨e1, e2⟩ | ⟨e1, e2⟩ | ⟨e1, e2⟩ | ⟨e1, e2⟩ | ⟨e1, e2⟩)
    · exact ⟨0, by decide, by decide, fun e => e1 ((h 0 (by decide) (by decide)).mp e), e2⟩
    · exact ⟨1, by decide, by decide, fun e => e1 ((h 1 (by decide) (by decide)).mp e), e2⟩
    · exact ⟨2, by decide, by decide, fun e => e1 ((h 2 (by decide) (by decide)).mp e), e2⟩
    · exact ⟨3, by decide, by decide, fun e => e1 ((h 3 (by decide) (by decide)).mp e), e2⟩
    · exact ⟨4, by decide, by decide, fun e => e1 ((h 4 (by decide) (by decide)).mp e), e2⟩
/-- canDo -/
theorem u80 (hA : xAr a) (hK : uKs dr wp n a b) (hp : 0 ≤ p ∧ p ≤ 3) (hk : -1 ≤ k ∧ k < 61) (hd : 1 ≤ d) (hT : uCa dr wp n p (uSl l) k → Q (some (xV 1)) (xS a b)) (hF : ¬ uCa dr wp n p (uSl l) k → Q (some (xV 0)) (xS a b)) : pmCs ro d 80 [.ref 3, .long l, xV p, xV (uD k)] (xS a b) Q := by
  obtain ⟨d0, d1, d2, d3, d4⟩ := uD_p hk
  have e1 : xL2 (xShr l (4 * p)) % 16 = uSl l p := rfl
  have hs := uSl_b (l := l) (j := p) (by omega) (by omega)
  by_cases hk0 : k = -1
  · have hz := d4 hk0
    refine pmCs_deep (d := 1) (xg80 (w80 hA hp ⟨d0, by omega⟩ (by rw [hK.2.2.1]; exact hK.2.2.2.1) (fun _ => hT (Or.inl hk0)) ?_ ?_ ?_ ?_ ?_ ?_ ?_ ?_ ?_ ?_ ?_ ?_ ?_ ?_ ?_ ?_ ?_ ?_)) hd
    all_goals (intro e; exfalso; omega)
  obtain ⟨d5, d6⟩ := d3 (by omega)
  have hb := uX_b (k := k) ⟨by omega, hk.2⟩
  have hKe := @uK_e k
  have e2 : xL2 (xShr l (4 * (uD k % 8 - 1))) % 16 = uSl l (uY k) := uSl_at (by rw [d6])
  have e3 : xL2 (xShr l (16 + (4 * (uD k / 8 % 8 - 1)))) % 16 = uSl l (4 + uX k) := uSl_at (by rw [d5]; omega)
  have hC : uCa dr wp n p (uSl l) k ↔ ((1 ≤ uSl l p ∧ uSl l p ≤ 7) ∧ (if k < 41 then uCan dr wp p (uSl l) k else p = 0 ∧ uX k < n ∧ ¬ uY k = p ∧ uSl l (uY k) = uSl l p)) := by
    unfold uCa
    constructor
    · rintro (h | h)
      · exact absurd h hk0
      · exact h
    · exact Or.inr
  rw [hC] at hT hF
  have hn := hK.2.2.1
  unfold uCan at hT hF
  refine pmCs_deep (d := 1) (xg80 (w80 hA hp ⟨d0, by omega⟩ (by rw [hK.2.2.1]; exact hK.2.2.2.1) ?_ ?_ ?_ ?_ ?_ ?_ ?_ ?_ ?_ ?_ ?_ ?_ ?_ ?_ ?_ ?_ ?_ ?_ ?_)) hd
  · intro q1
    exfalso
    omega
  · intro q1 q2
    rw [e1] at q2
    exact hF fun h => by omega
  · intro q1 q2 q3 q4 q5 q6 q7
    refine hF fun h => ?_
    have h := h.2
    rw [if_pos (by omega), if_neg (by omega), if_neg (by omega), if_neg (by omega), if_pos (by omega)] at h
    exact h.2.1 (by omega)
  · intro q1 q2 q3 q4 q5 q6 q7 q8 q9
    rw [e3] at q9
    refine hF fun h => ?_
    have h := h.2
    rw [if_pos (by omega), if_neg (by omega), if_neg (by omega), if_neg (by omega), if_pos (by omega)] at h
    exact q9 h.1
  · intro q1 q2 q3 q4 q5 q6 q7 q8 q9
    rw [e1] at q2 q3 q8
    rw [e2] at q8
    rw [e3] at q9
    refine hT ⟨by omega, ?_⟩
    rw [if_pos (by omega), if_neg (by omega), if_neg (by omega), if_neg (by omega), if_pos (by omega)]
    exact ⟨by omega, by omega, q8⟩
  · intro q1 q2 q3 q4 q5 q6 q7 q8
    rw [e1, e2] at q8
    refine hF fun h => ?_
    have h := h.2
    rw [if_pos (by omega), if_neg (by omega), if_neg (by omega), if_neg (by omega), if_pos (by omega)] at h
    exact q8 h.2.2
  · intro q1 q2 q3 q4 q5 q6 q7 q8 q9
    rw [e3] at q9
    refine hF fun h => ?_
    have h := h.2
    rw [if_pos (by omega), if_neg (by omega), if_neg (by omega), if_pos (by omega)] at h
    exact q9 h
  · intro q1 q2 q3 q4 q5 q6 q7 q8 q9
    rw [e1] at q2 q3
    rw [e3] at q9
    refine hT ⟨by omega, ?_⟩
    rw [if_pos (by omega), if_neg (by omega), if_neg (by omega), if_pos (by omega)]
    omega
  · intro q1 q2 q3 q4 q5 q6 q7 q8 q9
    rw [e1, e3] at q9
    refine hF fun h => ?_
    have h := h.2
    rw [if_pos (by omega), if_neg (by omega), if_pos (by omega)] at h
    exact q9 h
  · intro q1 q2 q3 q4 q5 q6 q7 q8 q9
    rw [e1] at q2 q3 q9
    rw [e3] at q9
    refine hT ⟨by omega, ?_⟩
    rw [if_pos (by omega), if_neg (by omega), if_pos (by omega)]
    omega
  · intro q1 q2 q3 q4 q5 q6 q7 q8
    refine hF fun h => ?_
    have h := h.2
    rw [if_neg (by omega)] at h
    exact h.2.2.1 (by omega)
  · intro q1 q2 q3 q4 q5 q6 q7 q8 q9 q10
    refine hF fun h => ?_
    have h := h.2
    rw [if_neg (by omega)] at h
    exact q10 h.1
  · intro q1 q2 q3 q4 q5 q6 q7 q8 q9 q10 q11
    refine hF fun h => ?_
    have h := h.2
    rw [if_neg (by omega)] at h
    omega
  · intro q1 q2 q3 q4 q5 q6 q7 q8 q9 q10 q11
    rw [e1] at q2 q3 q9
    rw [e2] at q9
    refine hT ⟨by omega, ?_⟩
    rw [if_neg (by omega)]
    exact ⟨by omega, by omega, by omega, q9⟩
  · intro q1 q2 q3 q4 q5 q6 q7 q8 q9
    rw [e1, e2] at q9
    refine hF fun h => ?_
    have h := h.2
    rw [if_neg (by omega)] at h
    exact q9 h.2.2.2
  · intro q1 q2 q3 q4 q5
    have q5 := Classical.not_not.mp q5
    rw [e1] at q2 q3
    rw [if_pos (by omega), if_neg (by omega), if_neg (by omega), if_neg (by omega), if_neg (by omega), ← uArm_e hK] at hT hF
    rw [d5, e1]
    refine u80l hA hp ⟨d0, by omega⟩ ⟨by omega, by omega⟩ ⟨by omega, by omega⟩ ⟨by omega, by omega⟩ hs 5 0 0 (by decide) (by decide) (Or.inl rfl) (fun h => hT ⟨by omega, h.2.1, h.2.2, ?_⟩) (fun h => hF fun h' => h ⟨Or.inr h'.2.2.2, h'.2.1, h'.2.2.1⟩)
    rcases h.1 with h | h
    · omega
    · exact h
  · intro q1 q2 q3 q4 q5
    rw [e1] at q2 q3 q5
    rw [d5] at q5
    refine hF fun h => ?_
    have h := h.2
    rw [if_pos (by omega), if_pos (by omega)] at h
    have hq := (hK.1 (7 * (uSl l p - 1) + uX k) (by omega) (by omega))
    rw [xCmp0, xBit_shr (by omega) (by omega)] at q5
    have hx : uX k = k := by
      have := @uX_e k
      omega
    rw [hx] at hq q5
    rw [← hq, q5] at h
    cases h
  · intro q1 q2 q3 q4 q5
    rw [e1] at q2 q3 q5
    rw [d5] at q5
    refine hT ⟨by omega, ?_⟩
    rw [if_pos (by omega), if_pos (by omega)]
    have hq := (hK.1 (7 * (uSl l p - 1) + uX k) (by omega) (by omega))
    rw [xCmp0, xBit_shr (by omega) (by omega)] at q5
    have hx : uX k = k := by
      have := @uX_e k
      omega
    rw [hx] at hq q5
    rw [← hq]
    simpa using q5
  · intro q1 q2 q3
    rw [e1] at q3
    exact hF fun h => by omega
end
end
