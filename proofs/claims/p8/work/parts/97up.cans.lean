/-! exact: the reference, what can be done -/
section
set_option maxRecDepth 100000
theorem xi206 : pmInf[206]? = some pmI_206 := rfl
theorem xi207 : pmInf[207]? = some pmI_207 := rfl
theorem xc206_0 : pmCode 206 0 = some (.aload_n 0) ∧ 0 + 1 = 1 := ⟨rfl, rfl⟩
theorem xc206_1 : pmCode 206 1 = some (.iload_n 1) ∧ 1 + 1 = 2 := ⟨rfl, rfl⟩
theorem xc206_2 : pmCode 206 2 = some (.invokevirtual 253) ∧ 2 + 3 = 5 := ⟨rfl, rfl⟩
theorem xc206_5 : pmCode 206 5 = some (.ifCond .ne 5) ∧ ((5 : Nat) : Int) + 5 = ((10 : Nat) : Int) ∧ 5 + 3 = 8 := ⟨rfl, rfl, rfl⟩
theorem xc206_8 : pmCode 206 8 = some (.iconst 0) ∧ 8 + 1 = 9 := ⟨rfl, rfl⟩
theorem xc206_9 : pmCode 206 9 = some .ireturn := rfl
theorem xc206_10 : pmCode 206 10 = some (.iload_n 2) ∧ 10 + 1 = 11 := ⟨rfl, rfl⟩
theorem xc206_11 : pmCode 206 11 = some (.invokestatic 276) ∧ 11 + 3 = 14 := ⟨rfl, rfl⟩
theorem xc206_14 : pmCode 206 14 = some (.istore_n 3) ∧ 14 + 1 = 15 := ⟨rfl, rfl⟩
theorem xc206_15 : pmCode 206 15 = some (.iload_n 2) ∧ 15 + 1 = 16 := ⟨rfl, rfl⟩
theorem xc206_16 : pmCode 206 16 = some (.invokestatic 282) ∧ 16 + 3 = 19 := ⟨rfl, rfl⟩
theorem xc206_19 : pmCode 206 19 = some (.istore 4) ∧ 19 + 2 = 21 := ⟨rfl, rfl⟩
theorem xc206_21 : pmCode 206 21 = some (.aload_n 0) ∧ 21 + 1 = 22 := ⟨rfl, rfl⟩
theorem xc206_22 : pmCode 206 22 = some (.getfield 7) ∧ 22 + 3 = 25 := ⟨rfl, rfl⟩
theorem xc206_25 : pmCode 206 25 = some (.iconst 0) ∧ 25 + 1 = 26 := ⟨rfl, rfl⟩
theorem xc206_26 : pmCode 206 26 = some (.iload_n 1) ∧ 26 + 1 = 27 := ⟨rfl, rfl⟩
theorem xc206_27 : pmCode 206 27 = some .iadd ∧ 27 + 1 = 28 := ⟨rfl, rfl⟩
theorem xc206_28 : pmCode 206 28 = some .iaload ∧ 28 + 1 = 29 := ⟨rfl, rfl⟩
theorem xc206_29 : pmCode 206 29 = some (.istore 5) ∧ 29 + 2 = 31 := ⟨rfl, rfl⟩
theorem xc206_31 : pmCode 206 31 = some (.iload_n 2) ∧ 31 + 1 = 32 := ⟨rfl, rfl⟩
theorem xc206_32 : pmCode 206 32 = some (.invokestatic 279) ∧ 32 + 3 = 35 := ⟨rfl, rfl⟩
theorem xc206_35 : pmCode 206 35 = some (.tableswitch 177 1 5 #[33, 46, 73, 102, 148]) ∧ ((35 : Nat) : Int) + 177 = ((212 : Nat) : Int) := ⟨rfl, rfl⟩
theorem xc206_68 : pmCode 206 68 = some (.aload_n 0) ∧ 68 + 1 = 69 := ⟨rfl, rfl⟩
theorem xc206_69 : pmCode 206 69 = some (.getfield 16) ∧ 69 + 3 = 72 := ⟨rfl, rfl⟩
theorem xc206_72 : pmCode 206 72 = some (.bipush 7) ∧ 72 + 2 = 74 := ⟨rfl, rfl⟩
theorem xc206_74 : pmCode 206 74 = some (.iload 5) ∧ 74 + 2 = 76 := ⟨rfl, rfl⟩
theorem xc206_76 : pmCode 206 76 = some .imul ∧ 76 + 1 = 77 := ⟨rfl, rfl⟩
theorem xc206_77 : pmCode 206 77 = some (.iload_n 3) ∧ 77 + 1 = 78 := ⟨rfl, rfl⟩
theorem xc206_78 : pmCode 206 78 = some .iadd ∧ 78 + 1 = 79 := ⟨rfl, rfl⟩
theorem xc206_79 : pmCode 206 79 = some .baload ∧ 79 + 1 = 80 := ⟨rfl, rfl⟩
theorem xc206_80 : pmCode 206 80 = some .ireturn := rfl
theorem xc206_81 : pmCode 206 81 = some (.iload_n 3) ∧ 81 + 1 = 82 := ⟨rfl, rfl⟩
theorem xc206_82 : pmCode 206 82 = some (.aload_n 0) ∧ 82 + 1 = 83 := ⟨rfl, rfl⟩
theorem xc206_83 : pmCode 206 83 = some (.getfield 127) ∧ 83 + 3 = 86 := ⟨rfl, rfl⟩
theorem xc206_86 : pmCode 206 86 = some (.if_icmp .ge 20) ∧ ((86 : Nat) : Int) + 20 = ((106 : Nat) : Int) ∧ 86 + 3 = 89 := ⟨rfl, rfl, rfl⟩
theorem xc206_89 : pmCode 206 89 = some (.aload_n 0) ∧ 89 + 1 = 90 := ⟨rfl, rfl⟩
theorem xc206_90 : pmCode 206 90 = some (.getfield 7) ∧ 90 + 3 = 93 := ⟨rfl, rfl⟩
theorem xc206_93 : pmCode 206 93 = some (.iconst 4) ∧ 93 + 1 = 94 := ⟨rfl, rfl⟩
theorem xc206_94 : pmCode 206 94 = some (.iload_n 3) ∧ 94 + 1 = 95 := ⟨rfl, rfl⟩
theorem xc206_95 : pmCode 206 95 = some .iadd ∧ 95 + 1 = 96 := ⟨rfl, rfl⟩
theorem xc206_96 : pmCode 206 96 = some .iaload ∧ 96 + 1 = 97 := ⟨rfl, rfl⟩
theorem xc206_97 : pmCode 206 97 = some (.iload 5) ∧ 97 + 2 = 99 := ⟨rfl, rfl⟩
theorem xc206_99 : pmCode 206 99 = some (.if_icmp .ne 7) ∧ ((99 : Nat) : Int) + 7 = ((106 : Nat) : Int) ∧ 99 + 3 = 102 := ⟨rfl, rfl, rfl⟩
theorem xc206_102 : pmCode 206 102 = some (.iconst 1) ∧ 102 + 1 = 103 := ⟨rfl, rfl⟩
theorem xc206_103 : pmCode 206 103 = some (.goto 4) ∧ ((103 : Nat) : Int) + 4 = ((107 : Nat) : Int) := ⟨rfl, rfl⟩
theorem xc206_106 : pmCode 206 106 = some (.iconst 0) ∧ 106 + 1 = 107 := ⟨rfl, rfl⟩
theorem xc206_107 : pmCode 206 107 = some .ireturn := rfl
theorem xc206_108 : pmCode 206 108 = some (.iload_n 3) ∧ 108 + 1 = 109 := ⟨rfl, rfl⟩
theorem xc206_109 : pmCode 206 109 = some (.aload_n 0) ∧ 109 + 1 = 110 := ⟨rfl, rfl⟩
theorem xc206_110 : pmCode 206 110 = some (.getfield 127) ∧ 110 + 3 = 113 := ⟨rfl, rfl⟩
theorem xc206_113 : pmCode 206 113 = some (.if_icmp .ge 22) ∧ ((113 : Nat) : Int) + 22 = ((135 : Nat) : Int) ∧ 113 + 3 = 116 := ⟨rfl, rfl, rfl⟩
theorem xc206_116 : pmCode 206 116 = some (.aload_n 0) ∧ 116 + 1 = 117 := ⟨rfl, rfl⟩
theorem xc206_117 : pmCode 206 117 = some (.getfield 7) ∧ 117 + 3 = 120 := ⟨rfl, rfl⟩
theorem xc206_120 : pmCode 206 120 = some (.iconst 4) ∧ 120 + 1 = 121 := ⟨rfl, rfl⟩
theorem xc206_121 : pmCode 206 121 = some (.iload_n 3) ∧ 121 + 1 = 122 := ⟨rfl, rfl⟩
theorem xc206_122 : pmCode 206 122 = some .iadd ∧ 122 + 1 = 123 := ⟨rfl, rfl⟩
theorem xc206_123 : pmCode 206 123 = some .iaload ∧ 123 + 1 = 124 := ⟨rfl, rfl⟩
theorem xc206_124 : pmCode 206 124 = some (.bipush 10) ∧ 124 + 2 = 126 := ⟨rfl, rfl⟩
theorem xc206_126 : pmCode 206 126 = some (.iload_n 1) ∧ 126 + 1 = 127 := ⟨rfl, rfl⟩
theorem xc206_127 : pmCode 206 127 = some .iadd ∧ 127 + 1 = 128 := ⟨rfl, rfl⟩
theorem xc206_128 : pmCode 206 128 = some (.if_icmp .ne 7) ∧ ((128 : Nat) : Int) + 7 = ((135 : Nat) : Int) ∧ 128 + 3 = 131 := ⟨rfl, rfl, rfl⟩
theorem xc206_131 : pmCode 206 131 = some (.iconst 1) ∧ 131 + 1 = 132 := ⟨rfl, rfl⟩
theorem xc206_132 : pmCode 206 132 = some (.goto 4) ∧ ((132 : Nat) : Int) + 4 = ((136 : Nat) : Int) := ⟨rfl, rfl⟩
theorem xc206_135 : pmCode 206 135 = some (.iconst 0) ∧ 135 + 1 = 136 := ⟨rfl, rfl⟩
theorem xc206_136 : pmCode 206 136 = some .ireturn := rfl
theorem xc206_137 : pmCode 206 137 = some (.iload_n 3) ∧ 137 + 1 = 138 := ⟨rfl, rfl⟩
theorem xc206_138 : pmCode 206 138 = some (.aload_n 0) ∧ 138 + 1 = 139 := ⟨rfl, rfl⟩
theorem xc206_139 : pmCode 206 139 = some (.getfield 127) ∧ 139 + 3 = 142 := ⟨rfl, rfl⟩
theorem xc206_142 : pmCode 206 142 = some (.if_icmp .ge 39) ∧ ((142 : Nat) : Int) + 39 = ((181 : Nat) : Int) ∧ 142 + 3 = 145 := ⟨rfl, rfl, rfl⟩
theorem xc206_145 : pmCode 206 145 = some (.aload_n 0) ∧ 145 + 1 = 146 := ⟨rfl, rfl⟩
theorem xc206_146 : pmCode 206 146 = some (.getfield 7) ∧ 146 + 3 = 149 := ⟨rfl, rfl⟩
theorem xc206_149 : pmCode 206 149 = some (.iconst 4) ∧ 149 + 1 = 150 := ⟨rfl, rfl⟩
theorem xc206_150 : pmCode 206 150 = some (.iload_n 3) ∧ 150 + 1 = 151 := ⟨rfl, rfl⟩
theorem xc206_151 : pmCode 206 151 = some .iadd ∧ 151 + 1 = 152 := ⟨rfl, rfl⟩
theorem xc206_152 : pmCode 206 152 = some .iaload ∧ 152 + 1 = 153 := ⟨rfl, rfl⟩
theorem xc206_153 : pmCode 206 153 = some (.bipush 10) ∧ 153 + 2 = 155 := ⟨rfl, rfl⟩
theorem xc206_155 : pmCode 206 155 = some (.iload_n 1) ∧ 155 + 1 = 156 := ⟨rfl, rfl⟩
theorem xc206_156 : pmCode 206 156 = some .iadd ∧ 156 + 1 = 157 := ⟨rfl, rfl⟩
theorem xc206_157 : pmCode 206 157 = some (.if_icmp .ne 24) ∧ ((157 : Nat) : Int) + 24 = ((181 : Nat) : Int) ∧ 157 + 3 = 160 := ⟨rfl, rfl, rfl⟩
theorem xc206_160 : pmCode 206 160 = some (.iload 4) ∧ 160 + 2 = 162 := ⟨rfl, rfl⟩
theorem xc206_162 : pmCode 206 162 = some (.iload_n 1) ∧ 162 + 1 = 163 := ⟨rfl, rfl⟩
theorem xc206_163 : pmCode 206 163 = some (.if_icmp .eq 18) ∧ ((163 : Nat) : Int) + 18 = ((181 : Nat) : Int) ∧ 163 + 3 = 166 := ⟨rfl, rfl, rfl⟩
theorem xc206_166 : pmCode 206 166 = some (.aload_n 0) ∧ 166 + 1 = 167 := ⟨rfl, rfl⟩
theorem xc206_167 : pmCode 206 167 = some (.iload 4) ∧ 167 + 2 = 169 := ⟨rfl, rfl⟩
theorem xc206_169 : pmCode 206 169 = some (.iload 5) ∧ 169 + 2 = 171 := ⟨rfl, rfl⟩
theorem xc206_171 : pmCode 206 171 = some (.invokevirtual 263) ∧ 171 + 3 = 174 := ⟨rfl, rfl⟩
theorem xc206_174 : pmCode 206 174 = some (.ifCond .eq 7) ∧ ((174 : Nat) : Int) + 7 = ((181 : Nat) : Int) ∧ 174 + 3 = 177 := ⟨rfl, rfl, rfl⟩
theorem xc206_177 : pmCode 206 177 = some (.iconst 1) ∧ 177 + 1 = 178 := ⟨rfl, rfl⟩
theorem xc206_178 : pmCode 206 178 = some (.goto 4) ∧ ((178 : Nat) : Int) + 4 = ((182 : Nat) : Int) := ⟨rfl, rfl⟩
theorem xc206_181 : pmCode 206 181 = some (.iconst 0) ∧ 181 + 1 = 182 := ⟨rfl, rfl⟩
theorem xc206_182 : pmCode 206 182 = some .ireturn := rfl
theorem xc206_183 : pmCode 206 183 = some (.iload_n 3) ∧ 183 + 1 = 184 := ⟨rfl, rfl⟩
theorem xc206_184 : pmCode 206 184 = some (.iload_n 1) ∧ 184 + 1 = 185 := ⟨rfl, rfl⟩
theorem xc206_185 : pmCode 206 185 = some (.if_icmp .eq 25) ∧ ((185 : Nat) : Int) + 25 = ((210 : Nat) : Int) ∧ 185 + 3 = 188 := ⟨rfl, rfl, rfl⟩
theorem xc206_188 : pmCode 206 188 = some (.aload_n 0) ∧ 188 + 1 = 189 := ⟨rfl, rfl⟩
theorem xc206_189 : pmCode 206 189 = some (.iload_n 3) ∧ 189 + 1 = 190 := ⟨rfl, rfl⟩
theorem xc206_190 : pmCode 206 190 = some (.iload 5) ∧ 190 + 2 = 192 := ⟨rfl, rfl⟩
theorem xc206_192 : pmCode 206 192 = some (.invokevirtual 263) ∧ 192 + 3 = 195 := ⟨rfl, rfl⟩
theorem xc206_195 : pmCode 206 195 = some (.ifCond .eq 15) ∧ ((195 : Nat) : Int) + 15 = ((210 : Nat) : Int) ∧ 195 + 3 = 198 := ⟨rfl, rfl, rfl⟩
theorem xc206_198 : pmCode 206 198 = some (.aload_n 0) ∧ 198 + 1 = 199 := ⟨rfl, rfl⟩
theorem xc206_199 : pmCode 206 199 = some (.iload_n 1) ∧ 199 + 1 = 200 := ⟨rfl, rfl⟩
theorem xc206_200 : pmCode 206 200 = some (.invokevirtual 348) ∧ 200 + 3 = 203 := ⟨rfl, rfl⟩
theorem xc206_203 : pmCode 206 203 = some (.ifCond .eq 7) ∧ ((203 : Nat) : Int) + 7 = ((210 : Nat) : Int) ∧ 203 + 3 = 206 := ⟨rfl, rfl, rfl⟩
theorem xc206_206 : pmCode 206 206 = some (.iconst 1) ∧ 206 + 1 = 207 := ⟨rfl, rfl⟩
theorem xc206_207 : pmCode 206 207 = some (.goto 4) ∧ ((207 : Nat) : Int) + 4 = ((211 : Nat) : Int) := ⟨rfl, rfl⟩
theorem xc206_210 : pmCode 206 210 = some (.iconst 0) ∧ 210 + 1 = 211 := ⟨rfl, rfl⟩
theorem xc206_211 : pmCode 206 211 = some .ireturn := rfl
theorem xc206_212 : pmCode 206 212 = some (.iload_n 1) ∧ 212 + 1 = 213 := ⟨rfl, rfl⟩
theorem xc206_213 : pmCode 206 213 = some (.ifCond .ne 31) ∧ ((213 : Nat) : Int) + 31 = ((244 : Nat) : Int) ∧ 213 + 3 = 216 := ⟨rfl, rfl, rfl⟩
theorem xc206_216 : pmCode 206 216 = some (.iload_n 3) ∧ 216 + 1 = 217 := ⟨rfl, rfl⟩
theorem xc206_217 : pmCode 206 217 = some (.aload_n 0) ∧ 217 + 1 = 218 := ⟨rfl, rfl⟩
theorem xc206_218 : pmCode 206 218 = some (.getfield 127) ∧ 218 + 3 = 221 := ⟨rfl, rfl⟩
theorem xc206_221 : pmCode 206 221 = some (.if_icmp .ge 23) ∧ ((221 : Nat) : Int) + 23 = ((244 : Nat) : Int) ∧ 221 + 3 = 224 := ⟨rfl, rfl, rfl⟩
theorem xc206_224 : pmCode 206 224 = some (.iload 4) ∧ 224 + 2 = 226 := ⟨rfl, rfl⟩
theorem xc206_226 : pmCode 206 226 = some (.ifCond .le 18) ∧ ((226 : Nat) : Int) + 18 = ((244 : Nat) : Int) ∧ 226 + 3 = 229 := ⟨rfl, rfl, rfl⟩
theorem xc206_229 : pmCode 206 229 = some (.aload_n 0) ∧ 229 + 1 = 230 := ⟨rfl, rfl⟩
theorem xc206_230 : pmCode 206 230 = some (.iload 4) ∧ 230 + 2 = 232 := ⟨rfl, rfl⟩
theorem xc206_232 : pmCode 206 232 = some (.iload 5) ∧ 232 + 2 = 234 := ⟨rfl, rfl⟩
theorem xc206_234 : pmCode 206 234 = some (.invokevirtual 263) ∧ 234 + 3 = 237 := ⟨rfl, rfl⟩
theorem xc206_237 : pmCode 206 237 = some (.ifCond .eq 7) ∧ ((237 : Nat) : Int) + 7 = ((244 : Nat) : Int) ∧ 237 + 3 = 240 := ⟨rfl, rfl, rfl⟩
theorem xc206_240 : pmCode 206 240 = some (.iconst 1) ∧ 240 + 1 = 241 := ⟨rfl, rfl⟩
theorem xc206_241 : pmCode 206 241 = some (.goto 4) ∧ ((241 : Nat) : Int) + 4 = ((245 : Nat) : Int) := ⟨rfl, rfl⟩
theorem xc206_244 : pmCode 206 244 = some (.iconst 0) ∧ 244 + 1 = 245 := ⟨rfl, rfl⟩
theorem xc206_245 : pmCode 206 245 = some .ireturn := rfl
theorem xc207_0 : pmCode 207 0 = some (.iconst 0) ∧ 0 + 1 = 1 := ⟨rfl, rfl⟩
theorem xc207_1 : pmCode 207 1 = some (.istore_n 2) ∧ 1 + 1 = 2 := ⟨rfl, rfl⟩
theorem xc207_2 : pmCode 207 2 = some (.iload_n 2) ∧ 2 + 1 = 3 := ⟨rfl, rfl⟩
theorem xc207_3 : pmCode 207 3 = some (.aload_n 0) ∧ 3 + 1 = 4 := ⟨rfl, rfl⟩
theorem xc207_4 : pmCode 207 4 = some (.getfield 127) ∧ 4 + 3 = 7 := ⟨rfl, rfl⟩
theorem xc207_7 : pmCode 207 7 = some (.if_icmp .ge 35) ∧ ((7 : Nat) : Int) + 35 = ((42 : Nat) : Int) ∧ 7 + 3 = 10 := ⟨rfl, rfl, rfl⟩
theorem xc207_10 : pmCode 207 10 = some (.aload_n 0) ∧ 10 + 1 = 11 := ⟨rfl, rfl⟩
theorem xc207_11 : pmCode 207 11 = some (.getfield 20) ∧ 11 + 3 = 14 := ⟨rfl, rfl⟩
theorem xc207_14 : pmCode 207 14 = some (.iload_n 2) ∧ 14 + 1 = 15 := ⟨rfl, rfl⟩
theorem xc207_15 : pmCode 207 15 = some .baload ∧ 15 + 1 = 16 := ⟨rfl, rfl⟩
theorem xc207_16 : pmCode 207 16 = some (.ifCond .eq 20) ∧ ((16 : Nat) : Int) + 20 = ((36 : Nat) : Int) ∧ 16 + 3 = 19 := ⟨rfl, rfl, rfl⟩
theorem xc207_19 : pmCode 207 19 = some (.aload_n 0) ∧ 19 + 1 = 20 := ⟨rfl, rfl⟩
theorem xc207_20 : pmCode 207 20 = some (.getfield 7) ∧ 20 + 3 = 23 := ⟨rfl, rfl⟩
theorem xc207_23 : pmCode 207 23 = some (.iconst 4) ∧ 23 + 1 = 24 := ⟨rfl, rfl⟩
theorem xc207_24 : pmCode 207 24 = some (.iload_n 2) ∧ 24 + 1 = 25 := ⟨rfl, rfl⟩
theorem xc207_25 : pmCode 207 25 = some .iadd ∧ 25 + 1 = 26 := ⟨rfl, rfl⟩
theorem xc207_26 : pmCode 207 26 = some .iaload ∧ 26 + 1 = 27 := ⟨rfl, rfl⟩
theorem xc207_27 : pmCode 207 27 = some (.bipush 10) ∧ 27 + 2 = 29 := ⟨rfl, rfl⟩
theorem xc207_29 : pmCode 207 29 = some (.iload_n 1) ∧ 29 + 1 = 30 := ⟨rfl, rfl⟩
theorem xc207_30 : pmCode 207 30 = some .iadd ∧ 30 + 1 = 31 := ⟨rfl, rfl⟩
theorem xc207_31 : pmCode 207 31 = some (.if_icmp .ne 5) ∧ ((31 : Nat) : Int) + 5 = ((36 : Nat) : Int) ∧ 31 + 3 = 34 := ⟨rfl, rfl, rfl⟩
theorem xc207_34 : pmCode 207 34 = some (.iconst 1) ∧ 34 + 1 = 35 := ⟨rfl, rfl⟩
theorem xc207_35 : pmCode 207 35 = some .ireturn := rfl
theorem xc207_36 : pmCode 207 36 = some (.iinc 2 1) ∧ 36 + 3 = 39 := ⟨rfl, rfl⟩
theorem xc207_39 : pmCode 207 39 = some (.goto (-37)) ∧ ((39 : Nat) : Int) + (-37) = ((2 : Nat) : Int) := ⟨rfl, rfl⟩
theorem xc207_42 : pmCode 207 42 = some (.iconst 0) ∧ 42 + 1 = 43 := ⟨rfl, rfl⟩
theorem xc207_43 : pmCode 207 43 = some .ireturn := rfl
theorem w207 {ro : Nat → Nat × (Nat → Int32)} {d : Nat} {Q : Option Value → pmS → Prop} {p : Int} {a : xA} {b : xB} (hp : 0 ≤ p ∧ p ≤ 3)
    (k1 : pmWp ro d 12 207 2 2 [some (.ref 87), some (xV p), some (xV 0)] [] (xS a b) Q) :
    pmWp ro d 12 207 2 0 [some (.ref 87), some (xV p), none] [] (xS a b) Q := by
  refine x_iconst xc207_0 ?_
  refine x_istoren (pl' := [some (.ref 87), some (xV p), some (xV 0)]) xc207_1 rfl rfl ?_
  exact k1

theorem xg207 {ro : Nat → Nat × (Nat → Int32)} {d : Nat} {Q : Option Value → pmS → Prop} {a : xA} {b : xB} {p : Int} (h : pmWp ro d 12 207 2 0 [some (.ref 87), some (xV p), none] [] (xS a b) Q) : pmCs ro (d + 1) 207 [.ref 87, xV p] (xS a b) Q := x_go xi207 rfl rfl rfl rfl rfl h
theorem w207l {ro : Nat → Nat × (Nat → Int32)} {d : Nat} {Q : Option Value → pmS → Prop} {p x n : Int} {a : xA} {b : xB} (hA : xAr a) (hp : 0 ≤ p ∧ p ≤ 3) (hn : a 87 2 = n) (hn0 : 0 ≤ n ∧ n ≤ 5) (hx : 0 ≤ x ∧ x ≤ n)
    (k1 : (n ≤ x) → Q (some (xV 0)) (xS a b))
    (k2 : (¬ n ≤ x) → (a 91 x = 0) → pmWp ro d 12 207 2 2 [some (.ref 87), some (xV p), some (xV (x + 1))] [] (xS a b) Q)
    (k3 : (¬ n ≤ x) → (¬ a 91 x = 0) → (¬ a 88 (4 + x) = 10 + p) → pmWp ro d 12 207 2 2 [some (.ref 87), some (xV p), some (xV (x + 1))] [] (xS a b) Q)
    (k4 : (¬ n ≤ x) → (¬ a 91 x = 0) → (a 88 (4 + x) = 10 + p) → Q (some (xV 1)) (xS a b)) :
    pmWp ro d 12 207 2 2 [some (.ref 87), some (xV p), some (xV x)] [] (xS a b) Q := by
  refine x_iloadn xc207_2 rfl ?_
  refine x_aloadn xc207_3 rfl ?_
  refine x_gfi' (k := 2) (v := n) xc207_4 rfl (Or.inl rfl) rfl xz87 hn ?_
  refine x_icge xc207_7 (xRk (by have g0 := hx; omega)) (xRk (by have g0 := hn0; omega)) (fun h0 => ?_) (fun h0 => ?_)
  · refine x_iconst xc207_42 ?_
    refine x_iret xc207_43 (Or.inr ⟨rfl, (by omega)⟩) ?_
    exact k1 h0
  · refine x_aloadn xc207_10 rfl ?_
    refine x_gfr xc207_11 rfl rfl xz87 rfl ?_
    refine x_iloadn xc207_14 rfl ?_
    refine x_bal xc207_15 xz91 (Or.inl rfl) (by have g0 := hx; omega) (by have g0 := hx; omega) (by have g0 := hx; omega) ?_
    refine x_ifeq xc207_16 (xRk (by have g0 := hx; have g1 := xRb (hA 91 x); omega)) (fun h1 => ?_) (fun h1 => ?_)
    · refine x_iinc (pl' := [some (.ref 87), some (xV p), some (xV (x + 1))]) xc207_36 rfl rfl ?_
      refine x_goto xc207_39 ?_
      exact k2 h0 h1
    · refine x_aloadn xc207_19 rfl ?_
      refine x_gfr xc207_20 rfl rfl xz87 rfl ?_
      refine x_iconst xc207_23 ?_
      refine x_iloadn xc207_24 rfl ?_
      refine x_iadd xc207_25 ?_
      refine x_ial xc207_26 xz88 rfl (by have g0 := hx; omega) (by have g0 := hx; omega) (by have g0 := hx; omega) ?_
      refine x_bipush xc207_27 (by decide) ?_
      refine x_iloadn xc207_29 rfl ?_
      refine x_iadd xc207_30 ?_
      refine x_icne xc207_31 (xRk (by have g0 := hx; have g1 := xRb (hA 88 (4 + x)); omega)) (xRk (by have g0 := hp; omega)) (fun h2 => ?_) (fun h2 => ?_)
      · refine x_iinc (pl' := [some (.ref 87), some (xV p), some (xV (x + 1))]) xc207_36 rfl rfl ?_
        refine x_goto xc207_39 ?_
        exact k3 h0 h1 h2
      · replace h2 := Classical.not_not.mp h2
        refine x_iconst xc207_34 ?_
        refine x_iret xc207_35 (Or.inr ⟨rfl, (by omega)⟩) ?_
        exact k4 h0 h1 h2

theorem xg206 {ro : Nat → Nat × (Nat → Int32)} {d : Nat} {Q : Option Value → pmS → Prop} {a : xA} {b : xB} {p k : Int} (h : pmWp ro d 12 206 2 0 [some (.ref 87), some (xV p), some (xV k), none, none, none] [] (xS a b) Q) : pmCs ro (d + 1) 206 [.ref 87, xV p, xV k] (xS a b) Q := x_go xi206 rfl rfl rfl rfl rfl h
theorem w206_1 {ro : Nat → Nat × (Nat → Int32)} {d : Nat} {Q : Option Value → pmS → Prop} {p k n rm : Int} {a : xA} {b : xB} (hA : xAr a) (hp : 0 ≤ p ∧ p ≤ 3) (hr : a 88 (0 + p) = rm) (hr0 : 0 ≤ rm ∧ rm ≤ 6) (hn : a 87 2 = n) (hn0 : 0 ≤ n ∧ n ≤ 5) (h90 : ∀ k, 0 ≤ k → k < 49 → 0 ≤ a 90 k ∧ a 90 k ≤ 1) (hk : 0 ≤ k ∧ k < 61) (hkk : uK k = 1) (hxk : 0 ≤ uX k ∧ uX k < 7) (hyk : uY k = -1) (hd : 1 ≤ d)
    (k1 : (¬ a 88 p = 7) → Q (some (xV (a 90 (7 * rm + (uX k))))) (xS a b))
    (k2 : (a 88 p = 7) → Q (some (xV 0)) (xS a b)) :
    pmWp ro d 12 206 2 0 [some (.ref 87), some (xV p), some (xV k), none, none, none] [] (xS a b) Q := by
  refine x_aloadn xc206_0 rfl ?_
  refine x_iloadn xc206_1 rfl ?_
  refine x_cV (as := [xV p]) (rest := []) xc206_2 rfl xi176 xz87 ⟨rfl, rfl⟩ rfl rfl ?_
  refine rk176 (by omega) hA (by have g0 := hp; omega) (fun h0 => ?_) (fun h1 => ?_)
  · refine x_ifne xc206_5 (xRk (by decide)) (fun _ => ?_) (fun h => absurd h (by omega))
    refine x_iloadn xc206_10 rfl ?_
    refine x_cS (as := [xV k]) (rest := []) xc206_11 rfl rfl xi192 ⟨rfl, rfl⟩ rfl rfl ?_
    refine rk192 (by omega) ⟨by omega, by omega⟩ ?_
    refine x_istoren (pl' := [some (.ref 87), some (xV p), some (xV k), some (xV (uX k)), none, none]) xc206_14 rfl rfl ?_
    refine x_iloadn xc206_15 rfl ?_
    refine x_cS (as := [xV k]) (rest := []) xc206_16 rfl rfl xi194 ⟨rfl, rfl⟩ rfl rfl ?_
    refine rk194 (by omega) ⟨by omega, by omega⟩ ?_
    refine x_istore (pl' := [some (.ref 87), some (xV p), some (xV k), some (xV (uX k)), some (xV (uY k)), none]) xc206_19 rfl rfl ?_
    refine x_aloadn xc206_21 rfl ?_
    refine x_gfr xc206_22 rfl rfl xz87 rfl ?_
    refine x_iconst xc206_25 ?_
    refine x_iloadn xc206_26 rfl ?_
    refine x_iadd xc206_27 ?_
    refine x_ial' (v := rm) xc206_28 xz88 rfl (by have g0 := hp; omega) (by have g0 := hp; omega) (by have g0 := hp; omega) hr ?_
    refine x_istore (pl' := [some (.ref 87), some (xV p), some (xV k), some (xV (uX k)), some (xV (uY k)), some (xV rm)]) xc206_29 rfl rfl ?_
    refine x_iloadn xc206_31 rfl ?_
    refine x_cS (as := [xV k]) (rest := []) xc206_32 rfl rfl xi193 ⟨rfl, rfl⟩ rfl rfl ?_
    refine rk193 (by omega) ⟨by omega, by omega⟩ ?_
    refine x_sw (c := 1) (t := 68) (by omega) xc206_35.1 rfl ?_
    refine x_aloadn xc206_68 rfl ?_
    refine x_gfr xc206_69 rfl rfl xz87 rfl ?_
    refine x_bipush xc206_72 (by decide) ?_
    refine x_iload xc206_74 rfl ?_
    refine x_imul xc206_76 ?_
    refine x_iloadn xc206_77 rfl ?_
    refine x_iadd xc206_78 ?_
    refine x_bal xc206_79 xz90 (Or.inl rfl) (by have g0 := hr0; have g1 := hxk; omega) (by have g0 := hr0; have g1 := hxk; omega) (by have g0 := hr0; have g1 := hxk; omega) ?_
    refine x_iret xc206_80 (Or.inr ⟨rfl, (by have g0 := hr0; have g1 := hxk; have g2 := h90 (7 * rm + (uX k)) (by omega) (by omega); omega)⟩) ?_
    exact k1 h0
  · refine x_ifne xc206_5 (xRk (by decide)) (fun h => absurd h (by omega)) (fun _ => ?_)
    refine x_iconst xc206_8 ?_
    refine x_iret xc206_9 (Or.inr ⟨rfl, (by omega)⟩) ?_
    exact k2 h1

theorem w206_2 {ro : Nat → Nat × (Nat → Int32)} {d : Nat} {Q : Option Value → pmS → Prop} {p k n rm : Int} {a : xA} {b : xB} (hA : xAr a) (hp : 0 ≤ p ∧ p ≤ 3) (hr : a 88 (0 + p) = rm) (hr0 : 0 ≤ rm ∧ rm ≤ 6) (hn : a 87 2 = n) (hn0 : 0 ≤ n ∧ n ≤ 5) (hk : 0 ≤ k ∧ k < 61) (hkk : uK k = 2) (hxk : 0 ≤ uX k ∧ uX k < 5) (hyk : uY k = -1) (hd : 1 ≤ d)
    (k1 : (¬ a 88 p = 7) → (n ≤ uX k) → Q (some (xV 0)) (xS a b))
    (k2 : (¬ a 88 p = 7) → (¬ n ≤ uX k) → (¬ a 88 (4 + (uX k)) = rm) → Q (some (xV 0)) (xS a b))
    (k3 : (¬ a 88 p = 7) → (¬ n ≤ uX k) → (a 88 (4 + (uX k)) = rm) → Q (some (xV 1)) (xS a b))
    (k4 : (a 88 p = 7) → Q (some (xV 0)) (xS a b)) :
    pmWp ro d 12 206 2 0 [some (.ref 87), some (xV p), some (xV k), none, none, none] [] (xS a b) Q := by
  refine x_aloadn xc206_0 rfl ?_
  refine x_iloadn xc206_1 rfl ?_
  refine x_cV (as := [xV p]) (rest := []) xc206_2 rfl xi176 xz87 ⟨rfl, rfl⟩ rfl rfl ?_
  refine rk176 (by omega) hA (by have g0 := hp; omega) (fun h0 => ?_) (fun h1 => ?_)
  · refine x_ifne xc206_5 (xRk (by decide)) (fun _ => ?_) (fun h => absurd h (by omega))
    refine x_iloadn xc206_10 rfl ?_
    refine x_cS (as := [xV k]) (rest := []) xc206_11 rfl rfl xi192 ⟨rfl, rfl⟩ rfl rfl ?_
    refine rk192 (by omega) ⟨by omega, by omega⟩ ?_
    refine x_istoren (pl' := [some (.ref 87), some (xV p), some (xV k), some (xV (uX k)), none, none]) xc206_14 rfl rfl ?_
    refine x_iloadn xc206_15 rfl ?_
    refine x_cS (as := [xV k]) (rest := []) xc206_16 rfl rfl xi194 ⟨rfl, rfl⟩ rfl rfl ?_
    refine rk194 (by omega) ⟨by omega, by omega⟩ ?_
    refine x_istore (pl' := [some (.ref 87), some (xV p), some (xV k), some (xV (uX k)), some (xV (uY k)), none]) xc206_19 rfl rfl ?_
    refine x_aloadn xc206_21 rfl ?_
    refine x_gfr xc206_22 rfl rfl xz87 rfl ?_
    refine x_iconst xc206_25 ?_
    refine x_iloadn xc206_26 rfl ?_
    refine x_iadd xc206_27 ?_
    refine x_ial' (v := rm) xc206_28 xz88 rfl (by have g0 := hp; omega) (by have g0 := hp; omega) (by have g0 := hp; omega) hr ?_
    refine x_istore (pl' := [some (.ref 87), some (xV p), some (xV k), some (xV (uX k)), some (xV (uY k)), some (xV rm)]) xc206_29 rfl rfl ?_
    refine x_iloadn xc206_31 rfl ?_
    refine x_cS (as := [xV k]) (rest := []) xc206_32 rfl rfl xi193 ⟨rfl, rfl⟩ rfl rfl ?_
    refine rk193 (by omega) ⟨by omega, by omega⟩ ?_
    have h3 : ¬ uK k = 1 := by omega
    refine x_sw (c := 2) (t := 81) (by omega) xc206_35.1 rfl ?_
    refine x_iloadn xc206_81 rfl ?_
    refine x_aloadn xc206_82 rfl ?_
    refine x_gfi' (k := 2) (v := n) xc206_83 rfl (Or.inl rfl) rfl xz87 hn ?_
    refine x_icge xc206_86 (xRk (by have g0 := hxk; omega)) (xRk (by have g0 := hn0; omega)) (fun h5 => ?_) (fun h5 => ?_)
    · refine x_iconst xc206_106 ?_
      refine x_iret xc206_107 (Or.inr ⟨rfl, (by omega)⟩) ?_
      exact k1 h0 h5
    · refine x_aloadn xc206_89 rfl ?_
      refine x_gfr xc206_90 rfl rfl xz87 rfl ?_
      refine x_iconst xc206_93 ?_
      refine x_iloadn xc206_94 rfl ?_
      refine x_iadd xc206_95 ?_
      refine x_ial xc206_96 xz88 rfl (by have g0 := hxk; omega) (by have g0 := hxk; omega) (by have g0 := hxk; omega) ?_
      refine x_iload xc206_97 rfl ?_
      refine x_icne xc206_99 (xRk (by have g0 := hxk; have g1 := xRb (hA 88 (4 + (uX k))); omega)) (xRk (by have g0 := hr0; omega)) (fun h6 => ?_) (fun h6 => ?_)
      · refine x_iconst xc206_106 ?_
        refine x_iret xc206_107 (Or.inr ⟨rfl, (by omega)⟩) ?_
        exact k2 h0 h5 h6
      · replace h6 := Classical.not_not.mp h6
        refine x_iconst xc206_102 ?_
        refine x_goto xc206_103 ?_
        refine x_iret xc206_107 (Or.inr ⟨rfl, (by omega)⟩) ?_
        exact k3 h0 h5 h6
  · refine x_ifne xc206_5 (xRk (by decide)) (fun h => absurd h (by omega)) (fun _ => ?_)
    refine x_iconst xc206_8 ?_
    refine x_iret xc206_9 (Or.inr ⟨rfl, (by omega)⟩) ?_
    exact k4 h1

theorem w206_3 {ro : Nat → Nat × (Nat → Int32)} {d : Nat} {Q : Option Value → pmS → Prop} {p k n rm : Int} {a : xA} {b : xB} (hA : xAr a) (hp : 0 ≤ p ∧ p ≤ 3) (hr : a 88 (0 + p) = rm) (hr0 : 0 ≤ rm ∧ rm ≤ 6) (hn : a 87 2 = n) (hn0 : 0 ≤ n ∧ n ≤ 5) (hk : 0 ≤ k ∧ k < 61) (hkk : uK k = 3) (hxk : 0 ≤ uX k ∧ uX k < 5) (hyk : uY k = -1) (hd : 1 ≤ d)
    (k1 : (¬ a 88 p = 7) → (n ≤ uX k) → Q (some (xV 0)) (xS a b))
    (k2 : (¬ a 88 p = 7) → (¬ n ≤ uX k) → (¬ a 88 (4 + (uX k)) = 10 + p) → Q (some (xV 0)) (xS a b))
    (k3 : (¬ a 88 p = 7) → (¬ n ≤ uX k) → (a 88 (4 + (uX k)) = 10 + p) → Q (some (xV 1)) (xS a b))
    (k4 : (a 88 p = 7) → Q (some (xV 0)) (xS a b)) :
    pmWp ro d 12 206 2 0 [some (.ref 87), some (xV p), some (xV k), none, none, none] [] (xS a b) Q := by
  refine x_aloadn xc206_0 rfl ?_
  refine x_iloadn xc206_1 rfl ?_
  refine x_cV (as := [xV p]) (rest := []) xc206_2 rfl xi176 xz87 ⟨rfl, rfl⟩ rfl rfl ?_
  refine rk176 (by omega) hA (by have g0 := hp; omega) (fun h0 => ?_) (fun h1 => ?_)
  · refine x_ifne xc206_5 (xRk (by decide)) (fun _ => ?_) (fun h => absurd h (by omega))
    refine x_iloadn xc206_10 rfl ?_
    refine x_cS (as := [xV k]) (rest := []) xc206_11 rfl rfl xi192 ⟨rfl, rfl⟩ rfl rfl ?_
    refine rk192 (by omega) ⟨by omega, by omega⟩ ?_
    refine x_istoren (pl' := [some (.ref 87), some (xV p), some (xV k), some (xV (uX k)), none, none]) xc206_14 rfl rfl ?_
    refine x_iloadn xc206_15 rfl ?_
    refine x_cS (as := [xV k]) (rest := []) xc206_16 rfl rfl xi194 ⟨rfl, rfl⟩ rfl rfl ?_
    refine rk194 (by omega) ⟨by omega, by omega⟩ ?_
    refine x_istore (pl' := [some (.ref 87), some (xV p), some (xV k), some (xV (uX k)), some (xV (uY k)), none]) xc206_19 rfl rfl ?_
    refine x_aloadn xc206_21 rfl ?_
    refine x_gfr xc206_22 rfl rfl xz87 rfl ?_
    refine x_iconst xc206_25 ?_
    refine x_iloadn xc206_26 rfl ?_
    refine x_iadd xc206_27 ?_
    refine x_ial' (v := rm) xc206_28 xz88 rfl (by have g0 := hp; omega) (by have g0 := hp; omega) (by have g0 := hp; omega) hr ?_
    refine x_istore (pl' := [some (.ref 87), some (xV p), some (xV k), some (xV (uX k)), some (xV (uY k)), some (xV rm)]) xc206_29 rfl rfl ?_
    refine x_iloadn xc206_31 rfl ?_
    refine x_cS (as := [xV k]) (rest := []) xc206_32 rfl rfl xi193 ⟨rfl, rfl⟩ rfl rfl ?_
    refine rk193 (by omega) ⟨by omega, by omega⟩ ?_
    have h3 : ¬ uK k = 1 := by omega
    have h4 : ¬ uK k = 2 := by omega
    refine x_sw (c := 3) (t := 108) (by omega) xc206_35.1 rfl ?_
    refine x_iloadn xc206_108 rfl ?_
    refine x_aloadn xc206_109 rfl ?_
    refine x_gfi' (k := 2) (v := n) xc206_110 rfl (Or.inl rfl) rfl xz87 hn ?_
    refine x_icge xc206_113 (xRk (by have g0 := hxk; omega)) (xRk (by have g0 := hn0; omega)) (fun h6 => ?_) (fun h6 => ?_)
    · refine x_iconst xc206_135 ?_
      refine x_iret xc206_136 (Or.inr ⟨rfl, (by omega)⟩) ?_
      exact k1 h0 h6
    · refine x_aloadn xc206_116 rfl ?_
      refine x_gfr xc206_117 rfl rfl xz87 rfl ?_
      refine x_iconst xc206_120 ?_
      refine x_iloadn xc206_121 rfl ?_
      refine x_iadd xc206_122 ?_
      refine x_ial xc206_123 xz88 rfl (by have g0 := hxk; omega) (by have g0 := hxk; omega) (by have g0 := hxk; omega) ?_
      refine x_bipush xc206_124 (by decide) ?_
      refine x_iloadn xc206_126 rfl ?_
      refine x_iadd xc206_127 ?_
      refine x_icne xc206_128 (xRk (by have g0 := hxk; have g1 := xRb (hA 88 (4 + (uX k))); omega)) (xRk (by have g0 := hp; omega)) (fun h7 => ?_) (fun h7 => ?_)
      · refine x_iconst xc206_135 ?_
        refine x_iret xc206_136 (Or.inr ⟨rfl, (by omega)⟩) ?_
        exact k2 h0 h6 h7
      · replace h7 := Classical.not_not.mp h7
        refine x_iconst xc206_131 ?_
        refine x_goto xc206_132 ?_
        refine x_iret xc206_136 (Or.inr ⟨rfl, (by omega)⟩) ?_
        exact k3 h0 h6 h7
  · refine x_ifne xc206_5 (xRk (by decide)) (fun h => absurd h (by omega)) (fun _ => ?_)
    refine x_iconst xc206_8 ?_
    refine x_iret xc206_9 (Or.inr ⟨rfl, (by omega)⟩) ?_
    exact k4 h1

theorem w206_4 {ro : Nat → Nat × (Nat → Int32)} {d : Nat} {Q : Option Value → pmS → Prop} {p k n rm : Int} {a : xA} {b : xB} (hA : xAr a) (hp : 0 ≤ p ∧ p ≤ 3) (hr : a 88 (0 + p) = rm) (hr0 : 0 ≤ rm ∧ rm ≤ 6) (hn : a 87 2 = n) (hn0 : 0 ≤ n ∧ n ≤ 5) (hk : 0 ≤ k ∧ k < 61) (hkk : uK k = 4) (hxk : 0 ≤ uX k ∧ uX k < 5) (hyk : 0 ≤ uY k ∧ uY k < 4) (hd : 1 ≤ d)
    (k1 : (¬ a 88 p = 7) → (n ≤ uX k) → Q (some (xV 0)) (xS a b))
    (k2 : (¬ a 88 p = 7) → (¬ n ≤ uX k) → (¬ a 88 (4 + (uX k)) = 10 + p) → Q (some (xV 0)) (xS a b))
    (k3 : (¬ a 88 p = 7) → (¬ n ≤ uX k) → (a 88 (4 + (uX k)) = 10 + p) → (uY k = p) → Q (some (xV 0)) (xS a b))
    (k4 : (¬ a 88 p = 7) → (¬ n ≤ uX k) → (a 88 (4 + (uX k)) = 10 + p) → (¬ uY k = p) → ((0 ≤ uY k ∧ uY k < 4) ∧ a 88 (uY k) = rm) → Q (some (xV 1)) (xS a b))
    (k5 : (¬ a 88 p = 7) → (¬ n ≤ uX k) → (a 88 (4 + (uX k)) = 10 + p) → (¬ uY k = p) → (¬ ((0 ≤ uY k ∧ uY k < 4) ∧ a 88 (uY k) = rm)) → Q (some (xV 0)) (xS a b))
    (k6 : (a 88 p = 7) → Q (some (xV 0)) (xS a b)) :
    pmWp ro d 12 206 2 0 [some (.ref 87), some (xV p), some (xV k), none, none, none] [] (xS a b) Q := by
  refine x_aloadn xc206_0 rfl ?_
  refine x_iloadn xc206_1 rfl ?_
  refine x_cV (as := [xV p]) (rest := []) xc206_2 rfl xi176 xz87 ⟨rfl, rfl⟩ rfl rfl ?_
  refine rk176 (by omega) hA (by have g0 := hp; omega) (fun h0 => ?_) (fun h1 => ?_)
  · refine x_ifne xc206_5 (xRk (by decide)) (fun _ => ?_) (fun h => absurd h (by omega))
    refine x_iloadn xc206_10 rfl ?_
    refine x_cS (as := [xV k]) (rest := []) xc206_11 rfl rfl xi192 ⟨rfl, rfl⟩ rfl rfl ?_
    refine rk192 (by omega) ⟨by omega, by omega⟩ ?_
    refine x_istoren (pl' := [some (.ref 87), some (xV p), some (xV k), some (xV (uX k)), none, none]) xc206_14 rfl rfl ?_
    refine x_iloadn xc206_15 rfl ?_
    refine x_cS (as := [xV k]) (rest := []) xc206_16 rfl rfl xi194 ⟨rfl, rfl⟩ rfl rfl ?_
    refine rk194 (by omega) ⟨by omega, by omega⟩ ?_
    refine x_istore (pl' := [some (.ref 87), some (xV p), some (xV k), some (xV (uX k)), some (xV (uY k)), none]) xc206_19 rfl rfl ?_
    refine x_aloadn xc206_21 rfl ?_
    refine x_gfr xc206_22 rfl rfl xz87 rfl ?_
    refine x_iconst xc206_25 ?_
    refine x_iloadn xc206_26 rfl ?_
    refine x_iadd xc206_27 ?_
    refine x_ial' (v := rm) xc206_28 xz88 rfl (by have g0 := hp; omega) (by have g0 := hp; omega) (by have g0 := hp; omega) hr ?_
    refine x_istore (pl' := [some (.ref 87), some (xV p), some (xV k), some (xV (uX k)), some (xV (uY k)), some (xV rm)]) xc206_29 rfl rfl ?_
    refine x_iloadn xc206_31 rfl ?_
    refine x_cS (as := [xV k]) (rest := []) xc206_32 rfl rfl xi193 ⟨rfl, rfl⟩ rfl rfl ?_
    refine rk193 (by omega) ⟨by omega, by omega⟩ ?_
    have h3 : ¬ uK k = 1 := by omega
    have h4 : ¬ uK k = 2 := by omega
    have h5 : ¬ uK k = 3 := by omega
    refine x_sw (c := 4) (t := 137) (by omega) xc206_35.1 rfl ?_
    refine x_iloadn xc206_137 rfl ?_
    refine x_aloadn xc206_138 rfl ?_
    refine x_gfi' (k := 2) (v := n) xc206_139 rfl (Or.inl rfl) rfl xz87 hn ?_
    refine x_icge xc206_142 (xRk (by have g0 := hxk; omega)) (xRk (by have g0 := hn0; omega)) (fun h7 => ?_) (fun h7 => ?_)
    · refine x_iconst xc206_181 ?_
      refine x_iret xc206_182 (Or.inr ⟨rfl, (by omega)⟩) ?_
      exact k1 h0 h7
    · refine x_aloadn xc206_145 rfl ?_
      refine x_gfr xc206_146 rfl rfl xz87 rfl ?_
      refine x_iconst xc206_149 ?_
      refine x_iloadn xc206_150 rfl ?_
      refine x_iadd xc206_151 ?_
      refine x_ial xc206_152 xz88 rfl (by have g0 := hxk; omega) (by have g0 := hxk; omega) (by have g0 := hxk; omega) ?_
      refine x_bipush xc206_153 (by decide) ?_
      refine x_iloadn xc206_155 rfl ?_
      refine x_iadd xc206_156 ?_
      refine x_icne xc206_157 (xRk (by have g0 := hxk; have g1 := xRb (hA 88 (4 + (uX k))); omega)) (xRk (by have g0 := hp; omega)) (fun h8 => ?_) (fun h8 => ?_)
      · refine x_iconst xc206_181 ?_
        refine x_iret xc206_182 (Or.inr ⟨rfl, (by omega)⟩) ?_
        exact k2 h0 h7 h8
      · replace h8 := Classical.not_not.mp h8
        refine x_iload xc206_160 rfl ?_
        refine x_iloadn xc206_162 rfl ?_
        refine x_iceq xc206_163 (xRk (by have g0 := hyk; omega)) (xRk (by have g0 := hp; omega)) (fun h9 => ?_) (fun h9 => ?_)
        · refine x_iconst xc206_181 ?_
          refine x_iret xc206_182 (Or.inr ⟨rfl, (by omega)⟩) ?_
          exact k3 h0 h7 h8 h9
        · refine x_aloadn xc206_166 rfl ?_
          refine x_iload xc206_167 rfl ?_
          refine x_iload xc206_169 rfl ?_
          refine x_cV (as := [xV (uY k), xV rm]) (rest := []) xc206_171 rfl xi180 xz87 ⟨rfl, rfl⟩ rfl rfl ?_
          refine rk180 (by omega) hA (by have g0 := hyk; omega) (by have g0 := hr0; omega) (fun h10 => ?_) (fun h11 => ?_)
          · refine x_ifeq xc206_174 (xRk (by decide)) (fun h => absurd h (by omega)) (fun _ => ?_)
            refine x_iconst xc206_177 ?_
            refine x_goto xc206_178 ?_
            refine x_iret xc206_182 (Or.inr ⟨rfl, (by omega)⟩) ?_
            exact k4 h0 h7 h8 h9 h10
          · refine x_ifeq xc206_174 (xRk (by decide)) (fun _ => ?_) (fun h => absurd h (by omega))
            refine x_iconst xc206_181 ?_
            refine x_iret xc206_182 (Or.inr ⟨rfl, (by omega)⟩) ?_
            exact k5 h0 h7 h8 h9 h11
  · refine x_ifne xc206_5 (xRk (by decide)) (fun h => absurd h (by omega)) (fun _ => ?_)
    refine x_iconst xc206_8 ?_
    refine x_iret xc206_9 (Or.inr ⟨rfl, (by omega)⟩) ?_
    exact k6 h1

theorem w206_5 {ro : Nat → Nat × (Nat → Int32)} {d : Nat} {Q : Option Value → pmS → Prop} {p k n rm : Int} {a : xA} {b : xB} (hA : xAr a) (hp : 0 ≤ p ∧ p ≤ 3) (hr : a 88 (0 + p) = rm) (hr0 : 0 ≤ rm ∧ rm ≤ 6) (hn : a 87 2 = n) (hn0 : 0 ≤ n ∧ n ≤ 5) (hk : 0 ≤ k ∧ k < 61) (hkk : uK k = 5) (hxk : 0 ≤ uX k ∧ uX k < 4) (hyk : uY k = -1) (hd : 1 ≤ d)
    (k1 : (¬ a 88 p = 7) → (uX k = p) → Q (some (xV 0)) (xS a b))
    (k2 : (¬ a 88 p = 7) → (¬ uX k = p) → ((0 ≤ uX k ∧ uX k < 4) ∧ a 88 (uX k) = rm) → pmCs ro d 207 [.ref 87, xV p] (xS a b) fun r σ' => pmWp ro d 12 206 2 203 [some (.ref 87), some (xV p), some (xV k), some (xV (uX k)), some (xV (uY k)), some (xV rm)] (r.toList ++ []) σ' Q)
    (k3 : (¬ a 88 p = 7) → (¬ uX k = p) → (¬ ((0 ≤ uX k ∧ uX k < 4) ∧ a 88 (uX k) = rm)) → Q (some (xV 0)) (xS a b))
    (k4 : (a 88 p = 7) → Q (some (xV 0)) (xS a b)) :
    pmWp ro d 12 206 2 0 [some (.ref 87), some (xV p), some (xV k), none, none, none] [] (xS a b) Q := by
  refine x_aloadn xc206_0 rfl ?_
  refine x_iloadn xc206_1 rfl ?_
  refine x_cV (as := [xV p]) (rest := []) xc206_2 rfl xi176 xz87 ⟨rfl, rfl⟩ rfl rfl ?_
  refine rk176 (by omega) hA (by have g0 := hp; omega) (fun h0 => ?_) (fun h1 => ?_)
  · refine x_ifne xc206_5 (xRk (by decide)) (fun _ => ?_) (fun h => absurd h (by omega))
    refine x_iloadn xc206_10 rfl ?_
    refine x_cS (as := [xV k]) (rest := []) xc206_11 rfl rfl xi192 ⟨rfl, rfl⟩ rfl rfl ?_
    refine rk192 (by omega) ⟨by omega, by omega⟩ ?_
    refine x_istoren (pl' := [some (.ref 87), some (xV p), some (xV k), some (xV (uX k)), none, none]) xc206_14 rfl rfl ?_
    refine x_iloadn xc206_15 rfl ?_
    refine x_cS (as := [xV k]) (rest := []) xc206_16 rfl rfl xi194 ⟨rfl, rfl⟩ rfl rfl ?_
    refine rk194 (by omega) ⟨by omega, by omega⟩ ?_
    refine x_istore (pl' := [some (.ref 87), some (xV p), some (xV k), some (xV (uX k)), some (xV (uY k)), none]) xc206_19 rfl rfl ?_
    refine x_aloadn xc206_21 rfl ?_
    refine x_gfr xc206_22 rfl rfl xz87 rfl ?_
    refine x_iconst xc206_25 ?_
    refine x_iloadn xc206_26 rfl ?_
    refine x_iadd xc206_27 ?_
    refine x_ial' (v := rm) xc206_28 xz88 rfl (by have g0 := hp; omega) (by have g0 := hp; omega) (by have g0 := hp; omega) hr ?_
    refine x_istore (pl' := [some (.ref 87), some (xV p), some (xV k), some (xV (uX k)), some (xV (uY k)), some (xV rm)]) xc206_29 rfl rfl ?_
    refine x_iloadn xc206_31 rfl ?_
    refine x_cS (as := [xV k]) (rest := []) xc206_32 rfl rfl xi193 ⟨rfl, rfl⟩ rfl rfl ?_
    refine rk193 (by omega) ⟨by omega, by omega⟩ ?_
    have h3 : ¬ uK k = 1 := by omega
    have h4 : ¬ uK k = 2 := by omega
    have h5 : ¬ uK k = 3 := by omega
    have h6 : ¬ uK k = 4 := by omega
    refine x_sw (c := 5) (t := 183) (by omega) xc206_35.1 rfl ?_
    refine x_iloadn xc206_183 rfl ?_
    refine x_iloadn xc206_184 rfl ?_
    refine x_iceq xc206_185 (xRk (by have g0 := hxk; omega)) (xRk (by have g0 := hp; omega)) (fun h8 => ?_) (fun h8 => ?_)
    · refine x_iconst xc206_210 ?_
      refine x_iret xc206_211 (Or.inr ⟨rfl, (by omega)⟩) ?_
      exact k1 h0 h8
    · refine x_aloadn xc206_188 rfl ?_
      refine x_iloadn xc206_189 rfl ?_
      refine x_iload xc206_190 rfl ?_
      refine x_cV (as := [xV (uX k), xV rm]) (rest := []) xc206_192 rfl xi180 xz87 ⟨rfl, rfl⟩ rfl rfl ?_
      refine rk180 (by omega) hA (by have g0 := hxk; omega) (by have g0 := hr0; omega) (fun h9 => ?_) (fun h10 => ?_)
      · refine x_ifeq xc206_195 (xRk (by decide)) (fun h => absurd h (by omega)) (fun _ => ?_)
        refine x_aloadn xc206_198 rfl ?_
        refine x_iloadn xc206_199 rfl ?_
        refine x_cV (as := [xV p]) (rest := []) xc206_200 rfl xi207 xz87 ⟨rfl, rfl⟩ rfl rfl ?_
        exact k2 h0 h8 h9
      · refine x_ifeq xc206_195 (xRk (by decide)) (fun _ => ?_) (fun h => absurd h (by omega))
        refine x_iconst xc206_210 ?_
        refine x_iret xc206_211 (Or.inr ⟨rfl, (by omega)⟩) ?_
        exact k3 h0 h8 h10
  · refine x_ifne xc206_5 (xRk (by decide)) (fun h => absurd h (by omega)) (fun _ => ?_)
    refine x_iconst xc206_8 ?_
    refine x_iret xc206_9 (Or.inr ⟨rfl, (by omega)⟩) ?_
    exact k4 h1

theorem w206_6 {ro : Nat → Nat × (Nat → Int32)} {d : Nat} {Q : Option Value → pmS → Prop} {p k n rm : Int} {a : xA} {b : xB} (hA : xAr a) (hp : 0 ≤ p ∧ p ≤ 3) (hr : a 88 (0 + p) = rm) (hr0 : 0 ≤ rm ∧ rm ≤ 6) (hn : a 87 2 = n) (hn0 : 0 ≤ n ∧ n ≤ 5) (hk : 0 ≤ k ∧ k < 61) (hkk : uK k = 6) (hxk : 0 ≤ uX k ∧ uX k < 5) (hyk : 0 ≤ uY k ∧ uY k < 4) (hd : 1 ≤ d)
    (k1 : (¬ a 88 p = 7) → (¬ p = 0) → Q (some (xV 0)) (xS a b))
    (k2 : (¬ a 88 p = 7) → (p = 0) → (n ≤ uX k) → Q (some (xV 0)) (xS a b))
    (k3 : (¬ a 88 p = 7) → (p = 0) → (¬ n ≤ uX k) → (uY k ≤ 0) → Q (some (xV 0)) (xS a b))
    (k4 : (¬ a 88 p = 7) → (p = 0) → (¬ n ≤ uX k) → (¬ uY k ≤ 0) → ((0 ≤ uY k ∧ uY k < 4) ∧ a 88 (uY k) = rm) → Q (some (xV 1)) (xS a b))
    (k5 : (¬ a 88 p = 7) → (p = 0) → (¬ n ≤ uX k) → (¬ uY k ≤ 0) → (¬ ((0 ≤ uY k ∧ uY k < 4) ∧ a 88 (uY k) = rm)) → Q (some (xV 0)) (xS a b))
    (k6 : (a 88 p = 7) → Q (some (xV 0)) (xS a b)) :
    pmWp ro d 12 206 2 0 [some (.ref 87), some (xV p), some (xV k), none, none, none] [] (xS a b) Q := by
  refine x_aloadn xc206_0 rfl ?_
  refine x_iloadn xc206_1 rfl ?_
  refine x_cV (as := [xV p]) (rest := []) xc206_2 rfl xi176 xz87 ⟨rfl, rfl⟩ rfl rfl ?_
  refine rk176 (by omega) hA (by have g0 := hp; omega) (fun h0 => ?_) (fun h1 => ?_)
  · refine x_ifne xc206_5 (xRk (by decide)) (fun _ => ?_) (fun h => absurd h (by omega))
    refine x_iloadn xc206_10 rfl ?_
    refine x_cS (as := [xV k]) (rest := []) xc206_11 rfl rfl xi192 ⟨rfl, rfl⟩ rfl rfl ?_
    refine rk192 (by omega) ⟨by omega, by omega⟩ ?_
    refine x_istoren (pl' := [some (.ref 87), some (xV p), some (xV k), some (xV (uX k)), none, none]) xc206_14 rfl rfl ?_
    refine x_iloadn xc206_15 rfl ?_
    refine x_cS (as := [xV k]) (rest := []) xc206_16 rfl rfl xi194 ⟨rfl, rfl⟩ rfl rfl ?_
    refine rk194 (by omega) ⟨by omega, by omega⟩ ?_
    refine x_istore (pl' := [some (.ref 87), some (xV p), some (xV k), some (xV (uX k)), some (xV (uY k)), none]) xc206_19 rfl rfl ?_
    refine x_aloadn xc206_21 rfl ?_
    refine x_gfr xc206_22 rfl rfl xz87 rfl ?_
    refine x_iconst xc206_25 ?_
    refine x_iloadn xc206_26 rfl ?_
    refine x_iadd xc206_27 ?_
    refine x_ial' (v := rm) xc206_28 xz88 rfl (by have g0 := hp; omega) (by have g0 := hp; omega) (by have g0 := hp; omega) hr ?_
    refine x_istore (pl' := [some (.ref 87), some (xV p), some (xV k), some (xV (uX k)), some (xV (uY k)), some (xV rm)]) xc206_29 rfl rfl ?_
    refine x_iloadn xc206_31 rfl ?_
    refine x_cS (as := [xV k]) (rest := []) xc206_32 rfl rfl xi193 ⟨rfl, rfl⟩ rfl rfl ?_
    refine rk193 (by omega) ⟨by omega, by omega⟩ ?_
    have h3 : ¬ uK k = 1 := by omega
    have h4 : ¬ uK k = 2 := by omega
    have h5 : ¬ uK k = 3 := by omega
    have h6 : ¬ uK k = 4 := by omega
    have h7 : ¬ uK k = 5 := by omega
    refine x_tsd xc206_35 (xRk (by have g0 := hkk; omega)) (by omega) ?_
    refine x_iloadn xc206_212 rfl ?_
    refine x_ifne xc206_213 (xRk (by have g0 := hp; omega)) (fun h8 => ?_) (fun h8 => ?_)
    · refine x_iconst xc206_244 ?_
      refine x_iret xc206_245 (Or.inr ⟨rfl, (by omega)⟩) ?_
      exact k1 h0 h8
    · replace h8 := Classical.not_not.mp h8
      refine x_iloadn xc206_216 rfl ?_
      refine x_aloadn xc206_217 rfl ?_
      refine x_gfi' (k := 2) (v := n) xc206_218 rfl (Or.inl rfl) rfl xz87 hn ?_
      refine x_icge xc206_221 (xRk (by have g0 := hxk; omega)) (xRk (by have g0 := hn0; omega)) (fun h9 => ?_) (fun h9 => ?_)
      · refine x_iconst xc206_244 ?_
        refine x_iret xc206_245 (Or.inr ⟨rfl, (by omega)⟩) ?_
        exact k2 h0 h8 h9
      · refine x_iload xc206_224 rfl ?_
        refine x_ifle xc206_226 (xRk (by have g0 := hyk; omega)) (fun h10 => ?_) (fun h10 => ?_)
        · refine x_iconst xc206_244 ?_
          refine x_iret xc206_245 (Or.inr ⟨rfl, (by omega)⟩) ?_
          exact k3 h0 h8 h9 h10
        · refine x_aloadn xc206_229 rfl ?_
          refine x_iload xc206_230 rfl ?_
          refine x_iload xc206_232 rfl ?_
          refine x_cV (as := [xV (uY k), xV rm]) (rest := []) xc206_234 rfl xi180 xz87 ⟨rfl, rfl⟩ rfl rfl ?_
          refine rk180 (by omega) hA (by have g0 := hyk; omega) (by have g0 := hr0; omega) (fun h11 => ?_) (fun h12 => ?_)
          · refine x_ifeq xc206_237 (xRk (by decide)) (fun h => absurd h (by omega)) (fun _ => ?_)
            refine x_iconst xc206_240 ?_
            refine x_goto xc206_241 ?_
            refine x_iret xc206_245 (Or.inr ⟨rfl, (by omega)⟩) ?_
            exact k4 h0 h8 h9 h10 h11
          · refine x_ifeq xc206_237 (xRk (by decide)) (fun _ => ?_) (fun h => absurd h (by omega))
            refine x_iconst xc206_244 ?_
            refine x_iret xc206_245 (Or.inr ⟨rfl, (by omega)⟩) ?_
            exact k5 h0 h8 h9 h10 h12
  · refine x_ifne xc206_5 (xRk (by decide)) (fun h => absurd h (by omega)) (fun _ => ?_)
    refine x_iconst xc206_8 ?_
    refine x_iret xc206_9 (Or.inr ⟨rfl, (by omega)⟩) ?_
    exact k6 h1

theorem w206z {ro : Nat → Nat × (Nat → Int32)} {d : Nat} {Q : Option Value → pmS → Prop} {p k x y rm z : Int} {a : xA} {b : xB} (hz : z = 0 ∨ z = 1)
    (k1 : (z = 0) → Q (some (xV 0)) (xS a b))
    (k2 : (¬ z = 0) → Q (some (xV 1)) (xS a b)) :
    pmWp ro d 12 206 2 203 [some (.ref 87), some (xV p), some (xV k), some (xV x), some (xV y), some (xV rm)] [xV z] (xS a b) Q := by
  refine x_ifeq xc206_203 (xRk (by have g0 := hz; omega)) (fun h0 => ?_) (fun h0 => ?_)
  · refine x_iconst xc206_210 ?_
    refine x_iret xc206_211 (Or.inr ⟨rfl, (by omega)⟩) ?_
    exact k1 h0
  · refine x_iconst xc206_206 ?_
    refine x_goto xc206_207 ?_
    refine x_iret xc206_211 (Or.inr ⟨rfl, (by omega)⟩) ?_
    exact k2 h0

theorem w206_0 {ro : Nat → Nat × (Nat → Int32)} {d : Nat} {Q : Option Value → pmS → Prop} {p k : Int} {a : xA} {b : xB} (hA : xAr a) (hp : 0 ≤ p ∧ p ≤ 3) (hk : 0 ≤ k ∧ k < 61) (hr : a 88 p = 7) (hd : 1 ≤ d)
    (k1 : (¬ a 88 p = 7) → pmWp ro d 12 206 2 10 [some (.ref 87), some (xV p), some (xV k), none, none, none] [] (xS a b) Q)
    (k2 : (a 88 p = 7) → Q (some (xV 0)) (xS a b)) :
    pmWp ro d 12 206 2 0 [some (.ref 87), some (xV p), some (xV k), none, none, none] [] (xS a b) Q := by
  refine x_aloadn xc206_0 rfl ?_
  refine x_iloadn xc206_1 rfl ?_
  refine x_cV (as := [xV p]) (rest := []) xc206_2 rfl xi176 xz87 ⟨rfl, rfl⟩ rfl rfl ?_
  refine rk176 (by omega) hA (by have g0 := hp; omega) (fun h0 => ?_) (fun h1 => ?_)
  · refine x_ifne xc206_5 (xRk (by decide)) (fun _ => ?_) (fun h => absurd h (by omega))
    exact k1 h0
  · refine x_ifne xc206_5 (xRk (by decide)) (fun h => absurd h (by omega)) (fun _ => ?_)
    refine x_iconst xc206_8 ?_
    refine x_iret xc206_9 (Or.inr ⟨rfl, (by omega)⟩) ?_
    exact k2 h1

end
