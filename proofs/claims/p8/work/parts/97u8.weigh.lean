/-! exact: the class, what a wish costs at least -/
section
set_option maxRecDepth 100000
theorem xi74 : pmInf[74]? = some pmI_74 := rfl
theorem xi75 : pmInf[75]? = some pmI_75 := rfl
theorem xc74_0 : pmCode 74 0 = some (.iconst 0) ∧ 0 + 1 = 1 := ⟨rfl, rfl⟩
theorem xc74_1 : pmCode 74 1 = some (.bipush 7) ∧ 1 + 2 = 3 := ⟨rfl, rfl⟩
theorem xc74_3 : pmCode 74 3 = some (.lload_n 1) ∧ 3 + 1 = 4 := ⟨rfl, rfl⟩
theorem xc74_4 : pmCode 74 4 = some (.iconst 4) ∧ 4 + 1 = 5 := ⟨rfl, rfl⟩
theorem xc74_5 : pmCode 74 5 = some (.aload_n 0) ∧ 5 + 1 = 6 := ⟨rfl, rfl⟩
theorem xc74_6 : pmCode 74 6 = some (.getfield 61) ∧ 6 + 3 = 9 := ⟨rfl, rfl⟩
theorem xc74_9 : pmCode 74 9 = some .imul ∧ 9 + 1 = 10 := ⟨rfl, rfl⟩
theorem xc74_10 : pmCode 74 10 = some .lushr ∧ 10 + 1 = 11 := ⟨rfl, rfl⟩
theorem xc74_11 : pmCode 74 11 = some .l2i ∧ 11 + 1 = 12 := ⟨rfl, rfl⟩
theorem xc74_12 : pmCode 74 12 = some (.bipush 15) ∧ 12 + 2 = 14 := ⟨rfl, rfl⟩
theorem xc74_14 : pmCode 74 14 = some .iand ∧ 14 + 1 = 15 := ⟨rfl, rfl⟩
theorem xc74_15 : pmCode 74 15 = some (.invokestatic 120) ∧ 15 + 3 = 18 := ⟨rfl, rfl⟩
theorem xc74_18 : pmCode 74 18 = some (.iconst 1) ∧ 18 + 1 = 19 := ⟨rfl, rfl⟩
theorem xc74_19 : pmCode 74 19 = some .isub ∧ 19 + 1 = 20 := ⟨rfl, rfl⟩
theorem xc74_20 : pmCode 74 20 = some (.invokestatic 126) ∧ 20 + 3 = 23 := ⟨rfl, rfl⟩
theorem xc74_23 : pmCode 74 23 = some (.istore 4) ∧ 23 + 2 = 25 := ⟨rfl, rfl⟩
theorem xc74_25 : pmCode 74 25 = some (.aload_n 3) ∧ 25 + 1 = 26 := ⟨rfl, rfl⟩
theorem xc74_26 : pmCode 74 26 = some (.iconst 3) ∧ 26 + 1 = 27 := ⟨rfl, rfl⟩
theorem xc74_27 : pmCode 74 27 = some .iaload ∧ 27 + 1 = 28 := ⟨rfl, rfl⟩
theorem xc74_28 : pmCode 74 28 = some (.aload_n 3) ∧ 28 + 1 = 29 := ⟨rfl, rfl⟩
theorem xc74_29 : pmCode 74 29 = some (.iconst 4) ∧ 29 + 1 = 30 := ⟨rfl, rfl⟩
theorem xc74_30 : pmCode 74 30 = some .iaload ∧ 30 + 1 = 31 := ⟨rfl, rfl⟩
theorem xc74_31 : pmCode 74 31 = some (.invokestatic 120) ∧ 31 + 3 = 34 := ⟨rfl, rfl⟩
theorem xc74_34 : pmCode 74 34 = some (.istore 5) ∧ 34 + 2 = 36 := ⟨rfl, rfl⟩
theorem xc74_36 : pmCode 74 36 = some (.aload_n 3) ∧ 36 + 1 = 37 := ⟨rfl, rfl⟩
theorem xc74_37 : pmCode 74 37 = some (.iconst 3) ∧ 37 + 1 = 38 := ⟨rfl, rfl⟩
theorem xc74_38 : pmCode 74 38 = some .iaload ∧ 38 + 1 = 39 := ⟨rfl, rfl⟩
theorem xc74_39 : pmCode 74 39 = some (.aload_n 3) ∧ 39 + 1 = 40 := ⟨rfl, rfl⟩
theorem xc74_40 : pmCode 74 40 = some (.iconst 4) ∧ 40 + 1 = 41 := ⟨rfl, rfl⟩
theorem xc74_41 : pmCode 74 41 = some .iaload ∧ 41 + 1 = 42 := ⟨rfl, rfl⟩
theorem xc74_42 : pmCode 74 42 = some (.aload_n 3) ∧ 42 + 1 = 43 := ⟨rfl, rfl⟩
theorem xc74_43 : pmCode 74 43 = some (.iconst 5) ∧ 43 + 1 = 44 := ⟨rfl, rfl⟩
theorem xc74_44 : pmCode 74 44 = some .iaload ∧ 44 + 1 = 45 := ⟨rfl, rfl⟩
theorem xc74_45 : pmCode 74 45 = some .iadd ∧ 45 + 1 = 46 := ⟨rfl, rfl⟩
theorem xc74_46 : pmCode 74 46 = some (.invokestatic 120) ∧ 46 + 3 = 49 := ⟨rfl, rfl⟩
theorem xc74_49 : pmCode 74 49 = some (.istore 6) ∧ 49 + 2 = 51 := ⟨rfl, rfl⟩
theorem xc74_51 : pmCode 74 51 = some (.iconst 0) ∧ 51 + 1 = 52 := ⟨rfl, rfl⟩
theorem xc74_52 : pmCode 74 52 = some (.istore 7) ∧ 52 + 2 = 54 := ⟨rfl, rfl⟩
theorem xc74_54 : pmCode 74 54 = some (.iload 7) ∧ 54 + 2 = 56 := ⟨rfl, rfl⟩
theorem xc74_56 : pmCode 74 56 = some (.aload_n 0) ∧ 56 + 1 = 57 := ⟨rfl, rfl⟩
theorem xc74_57 : pmCode 74 57 = some (.getfield 41) ∧ 57 + 3 = 60 := ⟨rfl, rfl⟩
theorem xc74_60 : pmCode 74 60 = some (.getfield 135) ∧ 60 + 3 = 63 := ⟨rfl, rfl⟩
theorem xc74_63 : pmCode 74 63 = some (.aload_n 0) ∧ 63 + 1 = 64 := ⟨rfl, rfl⟩
theorem xc74_64 : pmCode 74 64 = some (.getfield 65) ∧ 64 + 3 = 67 := ⟨rfl, rfl⟩
theorem xc74_67 : pmCode 74 67 = some .iaload ∧ 67 + 1 = 68 := ⟨rfl, rfl⟩
theorem xc74_68 : pmCode 74 68 = some (.if_icmp .ge 517) ∧ ((68 : Nat) : Int) + 517 = ((585 : Nat) : Int) ∧ 68 + 3 = 71 := ⟨rfl, rfl, rfl⟩
theorem xc74_71 : pmCode 74 71 = some (.aload_n 0) ∧ 71 + 1 = 72 := ⟨rfl, rfl⟩
theorem xc74_72 : pmCode 74 72 = some (.getfield 41) ∧ 72 + 3 = 75 := ⟨rfl, rfl⟩
theorem xc74_75 : pmCode 74 75 = some (.getfield 138) ∧ 75 + 3 = 78 := ⟨rfl, rfl⟩
theorem xc74_78 : pmCode 74 78 = some (.aload_n 0) ∧ 78 + 1 = 79 := ⟨rfl, rfl⟩
theorem xc74_79 : pmCode 74 79 = some (.getfield 65) ∧ 79 + 3 = 82 := ⟨rfl, rfl⟩
theorem xc74_82 : pmCode 74 82 = some (.bipush 40) ∧ 82 + 2 = 84 := ⟨rfl, rfl⟩
theorem xc74_84 : pmCode 74 84 = some .imul ∧ 84 + 1 = 85 := ⟨rfl, rfl⟩
theorem xc74_85 : pmCode 74 85 = some (.iload 7) ∧ 85 + 2 = 87 := ⟨rfl, rfl⟩
theorem xc74_87 : pmCode 74 87 = some .iadd ∧ 87 + 1 = 88 := ⟨rfl, rfl⟩
theorem xc74_88 : pmCode 74 88 = some .iaload ∧ 88 + 1 = 89 := ⟨rfl, rfl⟩
theorem xc74_89 : pmCode 74 89 = some (.istore 8) ∧ 89 + 2 = 91 := ⟨rfl, rfl⟩
theorem xc74_91 : pmCode 74 91 = some (.iload 8) ∧ 91 + 2 = 93 := ⟨rfl, rfl⟩
theorem xc74_93 : pmCode 74 93 = some (.iconst 3) ∧ 93 + 1 = 94 := ⟨rfl, rfl⟩
theorem xc74_94 : pmCode 74 94 = some .ishr ∧ 94 + 1 = 95 := ⟨rfl, rfl⟩
theorem xc74_95 : pmCode 74 95 = some (.bipush 7) ∧ 95 + 2 = 97 := ⟨rfl, rfl⟩
theorem xc74_97 : pmCode 74 97 = some .iand ∧ 97 + 1 = 98 := ⟨rfl, rfl⟩
theorem xc74_98 : pmCode 74 98 = some (.istore 9) ∧ 98 + 2 = 100 := ⟨rfl, rfl⟩
theorem xc74_100 : pmCode 74 100 = some (.iload 8) ∧ 100 + 2 = 102 := ⟨rfl, rfl⟩
theorem xc74_102 : pmCode 74 102 = some (.bipush 7) ∧ 102 + 2 = 104 := ⟨rfl, rfl⟩
theorem xc74_104 : pmCode 74 104 = some .iand ∧ 104 + 1 = 105 := ⟨rfl, rfl⟩
theorem xc74_105 : pmCode 74 105 = some (.istore 10) ∧ 105 + 2 = 107 := ⟨rfl, rfl⟩
theorem xc74_107 : pmCode 74 107 = some (.iload 8) ∧ 107 + 2 = 109 := ⟨rfl, rfl⟩
theorem xc74_109 : pmCode 74 109 = some (.bipush 6) ∧ 109 + 2 = 111 := ⟨rfl, rfl⟩
theorem xc74_111 : pmCode 74 111 = some .ishr ∧ 111 + 1 = 112 := ⟨rfl, rfl⟩
theorem xc74_112 : pmCode 74 112 = some (.istore 11) ∧ 112 + 2 = 114 := ⟨rfl, rfl⟩
theorem xc74_114 : pmCode 74 114 = some (.iload 5) ∧ 114 + 2 = 116 := ⟨rfl, rfl⟩
theorem xc74_116 : pmCode 74 116 = some (.istore 14) ∧ 116 + 2 = 118 := ⟨rfl, rfl⟩
theorem xc74_118 : pmCode 74 118 = some (.iload 11) ∧ 118 + 2 = 120 := ⟨rfl, rfl⟩
theorem xc74_120 : pmCode 74 120 = some (.ifCond .eq 18) ∧ ((120 : Nat) : Int) + 18 = ((138 : Nat) : Int) ∧ 120 + 3 = 123 := ⟨rfl, rfl, rfl⟩
theorem xc74_123 : pmCode 74 123 = some (.iload 11) ∧ 123 + 2 = 125 := ⟨rfl, rfl⟩
theorem xc74_125 : pmCode 74 125 = some (.iconst 4) ∧ 125 + 1 = 126 := ⟨rfl, rfl⟩
theorem xc74_126 : pmCode 74 126 = some (.if_icmp .ne 46) ∧ ((126 : Nat) : Int) + 46 = ((172 : Nat) : Int) ∧ 126 + 3 = 129 := ⟨rfl, rfl, rfl⟩
theorem xc74_129 : pmCode 74 129 = some (.iload 9) ∧ 129 + 2 = 131 := ⟨rfl, rfl⟩
theorem xc74_131 : pmCode 74 131 = some (.aload_n 0) ∧ 131 + 1 = 132 := ⟨rfl, rfl⟩
theorem xc74_132 : pmCode 74 132 = some (.getfield 61) ∧ 132 + 3 = 135 := ⟨rfl, rfl⟩
theorem xc74_135 : pmCode 74 135 = some (.if_icmp .ne 37) ∧ ((135 : Nat) : Int) + 37 = ((172 : Nat) : Int) ∧ 135 + 3 = 138 := ⟨rfl, rfl, rfl⟩
theorem xc74_138 : pmCode 74 138 = some (.aload_n 0) ∧ 138 + 1 = 139 := ⟨rfl, rfl⟩
theorem xc74_139 : pmCode 74 139 = some (.getfield 31) ∧ 139 + 3 = 142 := ⟨rfl, rfl⟩
theorem xc74_142 : pmCode 74 142 = some (.iload 11) ∧ 142 + 2 = 144 := ⟨rfl, rfl⟩
theorem xc74_144 : pmCode 74 144 = some (.ifCond .ne 8) ∧ ((144 : Nat) : Int) + 8 = ((152 : Nat) : Int) ∧ 144 + 3 = 147 := ⟨rfl, rfl, rfl⟩
theorem xc74_147 : pmCode 74 147 = some (.iload 9) ∧ 147 + 2 = 149 := ⟨rfl, rfl⟩
theorem xc74_149 : pmCode 74 149 = some (.goto 5) ∧ ((149 : Nat) : Int) + 5 = ((154 : Nat) : Int) := ⟨rfl, rfl⟩
theorem xc74_152 : pmCode 74 152 = some (.iload 10) ∧ 152 + 2 = 154 := ⟨rfl, rfl⟩
theorem xc74_154 : pmCode 74 154 = some .iaload ∧ 154 + 1 = 155 := ⟨rfl, rfl⟩
theorem xc74_155 : pmCode 74 155 = some (.istore 13) ∧ 155 + 2 = 157 := ⟨rfl, rfl⟩
theorem xc74_157 : pmCode 74 157 = some (.iload 13) ∧ 157 + 2 = 159 := ⟨rfl, rfl⟩
theorem xc74_159 : pmCode 74 159 = some (.ifCond .ne 7) ∧ ((159 : Nat) : Int) + 7 = ((166 : Nat) : Int) ∧ 159 + 3 = 162 := ⟨rfl, rfl, rfl⟩
theorem xc74_162 : pmCode 74 162 = some (.iconst 1) ∧ 162 + 1 = 163 := ⟨rfl, rfl⟩
theorem xc74_163 : pmCode 74 163 = some (.goto 4) ∧ ((163 : Nat) : Int) + 4 = ((167 : Nat) : Int) := ⟨rfl, rfl⟩
theorem xc74_166 : pmCode 74 166 = some (.iconst 0) ∧ 166 + 1 = 167 := ⟨rfl, rfl⟩
theorem xc74_167 : pmCode 74 167 = some (.istore 12) ∧ 167 + 2 = 169 := ⟨rfl, rfl⟩
theorem xc74_169 : pmCode 74 169 = some (.goto 374) ∧ ((169 : Nat) : Int) + 374 = ((543 : Nat) : Int) := ⟨rfl, rfl⟩
theorem xc74_172 : pmCode 74 172 = some (.iload 11) ∧ 172 + 2 = 174 := ⟨rfl, rfl⟩
theorem xc74_174 : pmCode 74 174 = some (.iconst 1) ∧ 174 + 1 = 175 := ⟨rfl, rfl⟩
theorem xc74_175 : pmCode 74 175 = some (.if_icmp .ne 47) ∧ ((175 : Nat) : Int) + 47 = ((222 : Nat) : Int) ∧ 175 + 3 = 178 := ⟨rfl, rfl, rfl⟩
theorem xc74_178 : pmCode 74 178 = some (.iload 4) ∧ 178 + 2 = 180 := ⟨rfl, rfl⟩
theorem xc74_180 : pmCode 74 180 = some (.iload 9) ∧ 180 + 2 = 182 := ⟨rfl, rfl⟩
theorem xc74_182 : pmCode 74 182 = some (.if_icmp .ne 7) ∧ ((182 : Nat) : Int) + 7 = ((189 : Nat) : Int) ∧ 182 + 3 = 185 := ⟨rfl, rfl, rfl⟩
theorem xc74_185 : pmCode 74 185 = some (.iconst 1) ∧ 185 + 1 = 186 := ⟨rfl, rfl⟩
theorem xc74_186 : pmCode 74 186 = some (.goto 4) ∧ ((186 : Nat) : Int) + 4 = ((190 : Nat) : Int) := ⟨rfl, rfl⟩
theorem xc74_189 : pmCode 74 189 = some (.iconst 0) ∧ 189 + 1 = 190 := ⟨rfl, rfl⟩
theorem xc74_190 : pmCode 74 190 = some (.istore 12) ∧ 190 + 2 = 192 := ⟨rfl, rfl⟩
theorem xc74_192 : pmCode 74 192 = some (.aload_n 0) ∧ 192 + 1 = 193 := ⟨rfl, rfl⟩
theorem xc74_193 : pmCode 74 193 = some (.getfield 37) ∧ 193 + 3 = 196 := ⟨rfl, rfl⟩
theorem xc74_196 : pmCode 74 196 = some (.getfield 129) ∧ 196 + 3 = 199 := ⟨rfl, rfl⟩
theorem xc74_199 : pmCode 74 199 = some (.bipush 7) ∧ 199 + 2 = 201 := ⟨rfl, rfl⟩
theorem xc74_201 : pmCode 74 201 = some (.iload 4) ∧ 201 + 2 = 203 := ⟨rfl, rfl⟩
theorem xc74_203 : pmCode 74 203 = some .imul ∧ 203 + 1 = 204 := ⟨rfl, rfl⟩
theorem xc74_204 : pmCode 74 204 = some (.iload 9) ∧ 204 + 2 = 206 := ⟨rfl, rfl⟩
theorem xc74_206 : pmCode 74 206 = some .iadd ∧ 206 + 1 = 207 := ⟨rfl, rfl⟩
theorem xc74_207 : pmCode 74 207 = some .iaload ∧ 207 + 1 = 208 := ⟨rfl, rfl⟩
theorem xc74_208 : pmCode 74 208 = some (.aload_n 3) ∧ 208 + 1 = 209 := ⟨rfl, rfl⟩
theorem xc74_209 : pmCode 74 209 = some (.iconst 1) ∧ 209 + 1 = 210 := ⟨rfl, rfl⟩
theorem xc74_210 : pmCode 74 210 = some .iaload ∧ 210 + 1 = 211 := ⟨rfl, rfl⟩
theorem xc74_211 : pmCode 74 211 = some .imul ∧ 211 + 1 = 212 := ⟨rfl, rfl⟩
theorem xc74_212 : pmCode 74 212 = some (.istore 13) ∧ 212 + 2 = 214 := ⟨rfl, rfl⟩
theorem xc74_214 : pmCode 74 214 = some (.aload_n 3) ∧ 214 + 1 = 215 := ⟨rfl, rfl⟩
theorem xc74_215 : pmCode 74 215 = some (.iconst 1) ∧ 215 + 1 = 216 := ⟨rfl, rfl⟩
theorem xc74_216 : pmCode 74 216 = some .iaload ∧ 216 + 1 = 217 := ⟨rfl, rfl⟩
theorem xc74_217 : pmCode 74 217 = some (.istore 14) ∧ 217 + 2 = 219 := ⟨rfl, rfl⟩
theorem xc74_219 : pmCode 74 219 = some (.goto 324) ∧ ((219 : Nat) : Int) + 324 = ((543 : Nat) : Int) := ⟨rfl, rfl⟩
theorem xc74_222 : pmCode 74 222 = some (.iload 11) ∧ 222 + 2 = 224 := ⟨rfl, rfl⟩
theorem xc74_224 : pmCode 74 224 = some (.iconst 2) ∧ 224 + 1 = 225 := ⟨rfl, rfl⟩
theorem xc74_225 : pmCode 74 225 = some (.if_icmp .ne 41) ∧ ((225 : Nat) : Int) + 41 = ((266 : Nat) : Int) ∧ 225 + 3 = 228 := ⟨rfl, rfl, rfl⟩
theorem xc74_228 : pmCode 74 228 = some (.lload_n 1) ∧ 228 + 1 = 229 := ⟨rfl, rfl⟩
theorem xc74_229 : pmCode 74 229 = some (.iconst 4) ∧ 229 + 1 = 230 := ⟨rfl, rfl⟩
theorem xc74_230 : pmCode 74 230 = some (.iload 9) ∧ 230 + 2 = 232 := ⟨rfl, rfl⟩
theorem xc74_232 : pmCode 74 232 = some .imul ∧ 232 + 1 = 233 := ⟨rfl, rfl⟩
theorem xc74_233 : pmCode 74 233 = some .lushr ∧ 233 + 1 = 234 := ⟨rfl, rfl⟩
theorem xc74_234 : pmCode 74 234 = some .l2i ∧ 234 + 1 = 235 := ⟨rfl, rfl⟩
theorem xc74_235 : pmCode 74 235 = some (.bipush 15) ∧ 235 + 2 = 237 := ⟨rfl, rfl⟩
theorem xc74_237 : pmCode 74 237 = some .iand ∧ 237 + 1 = 238 := ⟨rfl, rfl⟩
theorem xc74_238 : pmCode 74 238 = some (.bipush 8) ∧ 238 + 2 = 240 := ⟨rfl, rfl⟩
theorem xc74_240 : pmCode 74 240 = some (.if_icmp .ne 7) ∧ ((240 : Nat) : Int) + 7 = ((247 : Nat) : Int) ∧ 240 + 3 = 243 := ⟨rfl, rfl, rfl⟩
theorem xc74_243 : pmCode 74 243 = some (.iconst 1) ∧ 243 + 1 = 244 := ⟨rfl, rfl⟩
theorem xc74_244 : pmCode 74 244 = some (.goto 4) ∧ ((244 : Nat) : Int) + 4 = ((248 : Nat) : Int) := ⟨rfl, rfl⟩
theorem xc74_247 : pmCode 74 247 = some (.iconst 0) ∧ 247 + 1 = 248 := ⟨rfl, rfl⟩
theorem xc74_248 : pmCode 74 248 = some (.istore 12) ∧ 248 + 2 = 250 := ⟨rfl, rfl⟩
theorem xc74_250 : pmCode 74 250 = some (.aload_n 0) ∧ 250 + 1 = 251 := ⟨rfl, rfl⟩
theorem xc74_251 : pmCode 74 251 = some (.getfield 28) ∧ 251 + 3 = 254 := ⟨rfl, rfl⟩
theorem xc74_254 : pmCode 74 254 = some (.iload 9) ∧ 254 + 2 = 256 := ⟨rfl, rfl⟩
theorem xc74_256 : pmCode 74 256 = some .iaload ∧ 256 + 1 = 257 := ⟨rfl, rfl⟩
theorem xc74_257 : pmCode 74 257 = some (.istore 13) ∧ 257 + 2 = 259 := ⟨rfl, rfl⟩
theorem xc74_259 : pmCode 74 259 = some (.ldc 88) ∧ 259 + 2 = 261 := ⟨rfl, rfl⟩
theorem xc74_261 : pmCode 74 261 = some (.istore 14) ∧ 261 + 2 = 263 := ⟨rfl, rfl⟩
theorem xc74_263 : pmCode 74 263 = some (.goto 280) ∧ ((263 : Nat) : Int) + 280 = ((543 : Nat) : Int) := ⟨rfl, rfl⟩
theorem xc74_266 : pmCode 74 266 = some (.iload 11) ∧ 266 + 2 = 268 := ⟨rfl, rfl⟩
theorem xc74_268 : pmCode 74 268 = some (.iconst 3) ∧ 268 + 1 = 269 := ⟨rfl, rfl⟩
theorem xc74_269 : pmCode 74 269 = some (.if_icmp .ne 145) ∧ ((269 : Nat) : Int) + 145 = ((414 : Nat) : Int) ∧ 269 + 3 = 272 := ⟨rfl, rfl, rfl⟩
theorem xc74_272 : pmCode 74 272 = some (.lload_n 1) ∧ 272 + 1 = 273 := ⟨rfl, rfl⟩
theorem xc74_273 : pmCode 74 273 = some (.bipush 16) ∧ 273 + 2 = 275 := ⟨rfl, rfl⟩
theorem xc74_275 : pmCode 74 275 = some (.iconst 4) ∧ 275 + 1 = 276 := ⟨rfl, rfl⟩
theorem xc74_276 : pmCode 74 276 = some (.iload 9) ∧ 276 + 2 = 278 := ⟨rfl, rfl⟩
theorem xc74_278 : pmCode 74 278 = some .imul ∧ 278 + 1 = 279 := ⟨rfl, rfl⟩
theorem xc74_279 : pmCode 74 279 = some .iadd ∧ 279 + 1 = 280 := ⟨rfl, rfl⟩
theorem xc74_280 : pmCode 74 280 = some .lushr ∧ 280 + 1 = 281 := ⟨rfl, rfl⟩
theorem xc74_281 : pmCode 74 281 = some .l2i ∧ 281 + 1 = 282 := ⟨rfl, rfl⟩
theorem xc74_282 : pmCode 74 282 = some (.bipush 15) ∧ 282 + 2 = 284 := ⟨rfl, rfl⟩
theorem xc74_284 : pmCode 74 284 = some .iand ∧ 284 + 1 = 285 := ⟨rfl, rfl⟩
theorem xc74_285 : pmCode 74 285 = some (.istore 15) ∧ 285 + 2 = 287 := ⟨rfl, rfl⟩
theorem xc74_287 : pmCode 74 287 = some (.iload 15) ∧ 287 + 2 = 289 := ⟨rfl, rfl⟩
theorem xc74_289 : pmCode 74 289 = some (.iload 10) ∧ 289 + 2 = 291 := ⟨rfl, rfl⟩
theorem xc74_291 : pmCode 74 291 = some (.iconst 1) ∧ 291 + 1 = 292 := ⟨rfl, rfl⟩
theorem xc74_292 : pmCode 74 292 = some .iadd ∧ 292 + 1 = 293 := ⟨rfl, rfl⟩
theorem xc74_293 : pmCode 74 293 = some (.if_icmp .ne 7) ∧ ((293 : Nat) : Int) + 7 = ((300 : Nat) : Int) ∧ 293 + 3 = 296 := ⟨rfl, rfl, rfl⟩
theorem xc74_296 : pmCode 74 296 = some (.iconst 1) ∧ 296 + 1 = 297 := ⟨rfl, rfl⟩
theorem xc74_297 : pmCode 74 297 = some (.goto 4) ∧ ((297 : Nat) : Int) + 4 = ((301 : Nat) : Int) := ⟨rfl, rfl⟩
theorem xc74_300 : pmCode 74 300 = some (.iconst 0) ∧ 300 + 1 = 301 := ⟨rfl, rfl⟩
theorem xc74_301 : pmCode 74 301 = some (.istore 12) ∧ 301 + 2 = 303 := ⟨rfl, rfl⟩
theorem xc74_303 : pmCode 74 303 = some (.iload 15) ∧ 303 + 2 = 305 := ⟨rfl, rfl⟩
theorem xc74_305 : pmCode 74 305 = some (.bipush 9) ∧ 305 + 2 = 307 := ⟨rfl, rfl⟩
theorem xc74_307 : pmCode 74 307 = some (.if_icmp .lt 31) ∧ ((307 : Nat) : Int) + 31 = ((338 : Nat) : Int) ∧ 307 + 3 = 310 := ⟨rfl, rfl, rfl⟩
theorem xc74_310 : pmCode 74 310 = some (.iload 15) ∧ 310 + 2 = 312 := ⟨rfl, rfl⟩
theorem xc74_312 : pmCode 74 312 = some (.bipush 9) ∧ 312 + 2 = 314 := ⟨rfl, rfl⟩
theorem xc74_314 : pmCode 74 314 = some (.aload_n 0) ∧ 314 + 1 = 315 := ⟨rfl, rfl⟩
theorem xc74_315 : pmCode 74 315 = some (.getfield 61) ∧ 315 + 3 = 318 := ⟨rfl, rfl⟩
theorem xc74_318 : pmCode 74 318 = some .iadd ∧ 318 + 1 = 319 := ⟨rfl, rfl⟩
theorem xc74_319 : pmCode 74 319 = some (.if_icmp .eq 19) ∧ ((319 : Nat) : Int) + 19 = ((338 : Nat) : Int) ∧ 319 + 3 = 322 := ⟨rfl, rfl, rfl⟩
theorem xc74_322 : pmCode 74 322 = some (.aload_n 0) ∧ 322 + 1 = 323 := ⟨rfl, rfl⟩
theorem xc74_323 : pmCode 74 323 = some (.getfield 34) ∧ 323 + 3 = 326 := ⟨rfl, rfl⟩
theorem xc74_326 : pmCode 74 326 = some (.iload 9) ∧ 326 + 2 = 328 := ⟨rfl, rfl⟩
theorem xc74_328 : pmCode 74 328 = some .iaload ∧ 328 + 1 = 329 := ⟨rfl, rfl⟩
theorem xc74_329 : pmCode 74 329 = some (.iload 10) ∧ 329 + 2 = 331 := ⟨rfl, rfl⟩
theorem xc74_331 : pmCode 74 331 = some (.if_icmp .ne 7) ∧ ((331 : Nat) : Int) + 7 = ((338 : Nat) : Int) ∧ 331 + 3 = 334 := ⟨rfl, rfl, rfl⟩
theorem xc74_334 : pmCode 74 334 = some (.iconst 1) ∧ 334 + 1 = 335 := ⟨rfl, rfl⟩
theorem xc74_335 : pmCode 74 335 = some (.goto 4) ∧ ((335 : Nat) : Int) + 4 = ((339 : Nat) : Int) := ⟨rfl, rfl⟩
theorem xc74_338 : pmCode 74 338 = some (.iconst 0) ∧ 338 + 1 = 339 := ⟨rfl, rfl⟩
theorem xc74_339 : pmCode 74 339 = some (.istore 16) ∧ 339 + 2 = 341 := ⟨rfl, rfl⟩
theorem xc74_341 : pmCode 74 341 = some (.aload_n 0) ∧ 341 + 1 = 342 := ⟨rfl, rfl⟩
theorem xc74_342 : pmCode 74 342 = some (.getfield 31) ∧ 342 + 3 = 345 := ⟨rfl, rfl⟩
theorem xc74_345 : pmCode 74 345 = some (.iload 9) ∧ 345 + 2 = 347 := ⟨rfl, rfl⟩
theorem xc74_347 : pmCode 74 347 = some .iaload ∧ 347 + 1 = 348 := ⟨rfl, rfl⟩
theorem xc74_348 : pmCode 74 348 = some (.aload_n 0) ∧ 348 + 1 = 349 := ⟨rfl, rfl⟩
theorem xc74_349 : pmCode 74 349 = some (.getfield 37) ∧ 349 + 3 = 352 := ⟨rfl, rfl⟩
theorem xc74_352 : pmCode 74 352 = some (.getfield 129) ∧ 352 + 3 = 355 := ⟨rfl, rfl⟩
theorem xc74_355 : pmCode 74 355 = some (.bipush 7) ∧ 355 + 2 = 357 := ⟨rfl, rfl⟩
theorem xc74_357 : pmCode 74 357 = some (.aload_n 0) ∧ 357 + 1 = 358 := ⟨rfl, rfl⟩
theorem xc74_358 : pmCode 74 358 = some (.getfield 34) ∧ 358 + 3 = 361 := ⟨rfl, rfl⟩
theorem xc74_361 : pmCode 74 361 = some (.iload 9) ∧ 361 + 2 = 363 := ⟨rfl, rfl⟩
theorem xc74_363 : pmCode 74 363 = some .iaload ∧ 363 + 1 = 364 := ⟨rfl, rfl⟩
theorem xc74_364 : pmCode 74 364 = some .imul ∧ 364 + 1 = 365 := ⟨rfl, rfl⟩
theorem xc74_365 : pmCode 74 365 = some (.iload 10) ∧ 365 + 2 = 367 := ⟨rfl, rfl⟩
theorem xc74_367 : pmCode 74 367 = some .iadd ∧ 367 + 1 = 368 := ⟨rfl, rfl⟩
theorem xc74_368 : pmCode 74 368 = some .iaload ∧ 368 + 1 = 369 := ⟨rfl, rfl⟩
theorem xc74_369 : pmCode 74 369 = some (.aload_n 3) ∧ 369 + 1 = 370 := ⟨rfl, rfl⟩
theorem xc74_370 : pmCode 74 370 = some (.iconst 1) ∧ 370 + 1 = 371 := ⟨rfl, rfl⟩
theorem xc74_371 : pmCode 74 371 = some .iaload ∧ 371 + 1 = 372 := ⟨rfl, rfl⟩
theorem xc74_372 : pmCode 74 372 = some .imul ∧ 372 + 1 = 373 := ⟨rfl, rfl⟩
theorem xc74_373 : pmCode 74 373 = some .iadd ∧ 373 + 1 = 374 := ⟨rfl, rfl⟩
theorem xc74_374 : pmCode 74 374 = some (.iload 6) ∧ 374 + 2 = 376 := ⟨rfl, rfl⟩
theorem xc74_376 : pmCode 74 376 = some .iadd ∧ 376 + 1 = 377 := ⟨rfl, rfl⟩
theorem xc74_377 : pmCode 74 377 = some (.istore 17) ∧ 377 + 2 = 379 := ⟨rfl, rfl⟩
theorem xc74_379 : pmCode 74 379 = some (.iload 16) ∧ 379 + 2 = 381 := ⟨rfl, rfl⟩
theorem xc74_381 : pmCode 74 381 = some (.ifCond .eq 17) ∧ ((381 : Nat) : Int) + 17 = ((398 : Nat) : Int) ∧ 381 + 3 = 384 := ⟨rfl, rfl, rfl⟩
theorem xc74_384 : pmCode 74 384 = some (.aload_n 0) ∧ 384 + 1 = 385 := ⟨rfl, rfl⟩
theorem xc74_385 : pmCode 74 385 = some (.getfield 31) ∧ 385 + 3 = 388 := ⟨rfl, rfl⟩
theorem xc74_388 : pmCode 74 388 = some (.iload 9) ∧ 388 + 2 = 390 := ⟨rfl, rfl⟩
theorem xc74_390 : pmCode 74 390 = some .iaload ∧ 390 + 1 = 391 := ⟨rfl, rfl⟩
theorem xc74_391 : pmCode 74 391 = some (.aload_n 3) ∧ 391 + 1 = 392 := ⟨rfl, rfl⟩
theorem xc74_392 : pmCode 74 392 = some (.iconst 2) ∧ 392 + 1 = 393 := ⟨rfl, rfl⟩
theorem xc74_393 : pmCode 74 393 = some .iaload ∧ 393 + 1 = 394 := ⟨rfl, rfl⟩
theorem xc74_394 : pmCode 74 394 = some .isub ∧ 394 + 1 = 395 := ⟨rfl, rfl⟩
theorem xc74_395 : pmCode 74 395 = some (.goto 5) ∧ ((395 : Nat) : Int) + 5 = ((400 : Nat) : Int) := ⟨rfl, rfl⟩
theorem xc74_398 : pmCode 74 398 = some (.iload 17) ∧ 398 + 2 = 400 := ⟨rfl, rfl⟩
theorem xc74_400 : pmCode 74 400 = some (.istore 13) ∧ 400 + 2 = 402 := ⟨rfl, rfl⟩
theorem xc74_402 : pmCode 74 402 = some (.aload_n 0) ∧ 402 + 1 = 403 := ⟨rfl, rfl⟩
theorem xc74_403 : pmCode 74 403 = some (.getfield 31) ∧ 403 + 3 = 406 := ⟨rfl, rfl⟩
theorem xc74_406 : pmCode 74 406 = some (.iload 9) ∧ 406 + 2 = 408 := ⟨rfl, rfl⟩
theorem xc74_408 : pmCode 74 408 = some .iaload ∧ 408 + 1 = 409 := ⟨rfl, rfl⟩
theorem xc74_409 : pmCode 74 409 = some (.istore 14) ∧ 409 + 2 = 411 := ⟨rfl, rfl⟩
theorem xc74_411 : pmCode 74 411 = some (.goto 132) ∧ ((411 : Nat) : Int) + 132 = ((543 : Nat) : Int) := ⟨rfl, rfl⟩
theorem xc74_414 : pmCode 74 414 = some (.iload 11) ∧ 414 + 2 = 416 := ⟨rfl, rfl⟩
theorem xc74_416 : pmCode 74 416 = some (.iconst 4) ∧ 416 + 1 = 417 := ⟨rfl, rfl⟩
theorem xc74_417 : pmCode 74 417 = some (.if_icmp .ne 162) ∧ ((417 : Nat) : Int) + 162 = ((579 : Nat) : Int) ∧ 417 + 3 = 420 := ⟨rfl, rfl, rfl⟩
theorem xc74_420 : pmCode 74 420 = some (.lload_n 1) ∧ 420 + 1 = 421 := ⟨rfl, rfl⟩
theorem xc74_421 : pmCode 74 421 = some (.iconst 4) ∧ 421 + 1 = 422 := ⟨rfl, rfl⟩
theorem xc74_422 : pmCode 74 422 = some (.iload 9) ∧ 422 + 2 = 424 := ⟨rfl, rfl⟩
theorem xc74_424 : pmCode 74 424 = some .imul ∧ 424 + 1 = 425 := ⟨rfl, rfl⟩
theorem xc74_425 : pmCode 74 425 = some .lushr ∧ 425 + 1 = 426 := ⟨rfl, rfl⟩
theorem xc74_426 : pmCode 74 426 = some .l2i ∧ 426 + 1 = 427 := ⟨rfl, rfl⟩
theorem xc74_427 : pmCode 74 427 = some (.bipush 15) ∧ 427 + 2 = 429 := ⟨rfl, rfl⟩
theorem xc74_429 : pmCode 74 429 = some .iand ∧ 429 + 1 = 430 := ⟨rfl, rfl⟩
theorem xc74_430 : pmCode 74 430 = some (.iconst 1) ∧ 430 + 1 = 431 := ⟨rfl, rfl⟩
theorem xc74_431 : pmCode 74 431 = some .isub ∧ 431 + 1 = 432 := ⟨rfl, rfl⟩
theorem xc74_432 : pmCode 74 432 = some (.istore 15) ∧ 432 + 2 = 434 := ⟨rfl, rfl⟩
theorem xc74_434 : pmCode 74 434 = some (.iload 15) ∧ 434 + 2 = 436 := ⟨rfl, rfl⟩
theorem xc74_436 : pmCode 74 436 = some (.ifCond .lt 14) ∧ ((436 : Nat) : Int) + 14 = ((450 : Nat) : Int) ∧ 436 + 3 = 439 := ⟨rfl, rfl, rfl⟩
theorem xc74_439 : pmCode 74 439 = some (.iload 15) ∧ 439 + 2 = 441 := ⟨rfl, rfl⟩
theorem xc74_441 : pmCode 74 441 = some (.bipush 7) ∧ 441 + 2 = 443 := ⟨rfl, rfl⟩
theorem xc74_443 : pmCode 74 443 = some (.if_icmp .ge 7) ∧ ((443 : Nat) : Int) + 7 = ((450 : Nat) : Int) ∧ 443 + 3 = 446 := ⟨rfl, rfl, rfl⟩
theorem xc74_446 : pmCode 74 446 = some (.iconst 1) ∧ 446 + 1 = 447 := ⟨rfl, rfl⟩
theorem xc74_447 : pmCode 74 447 = some (.goto 4) ∧ ((447 : Nat) : Int) + 4 = ((451 : Nat) : Int) := ⟨rfl, rfl⟩
theorem xc74_450 : pmCode 74 450 = some (.iconst 0) ∧ 450 + 1 = 451 := ⟨rfl, rfl⟩
theorem xc74_451 : pmCode 74 451 = some (.istore 16) ∧ 451 + 2 = 453 := ⟨rfl, rfl⟩
theorem xc74_453 : pmCode 74 453 = some (.iload 16) ∧ 453 + 2 = 455 := ⟨rfl, rfl⟩
theorem xc74_455 : pmCode 74 455 = some (.ifCond .eq 31) ∧ ((455 : Nat) : Int) + 31 = ((486 : Nat) : Int) ∧ 455 + 3 = 458 := ⟨rfl, rfl, rfl⟩
theorem xc74_458 : pmCode 74 458 = some (.aload_n 0) ∧ 458 + 1 = 459 := ⟨rfl, rfl⟩
theorem xc74_459 : pmCode 74 459 = some (.getfield 37) ∧ 459 + 3 = 462 := ⟨rfl, rfl⟩
theorem xc74_462 : pmCode 74 462 = some (.getfield 129) ∧ 462 + 3 = 465 := ⟨rfl, rfl⟩
theorem xc74_465 : pmCode 74 465 = some (.bipush 7) ∧ 465 + 2 = 467 := ⟨rfl, rfl⟩
theorem xc74_467 : pmCode 74 467 = some (.aload_n 0) ∧ 467 + 1 = 468 := ⟨rfl, rfl⟩
theorem xc74_468 : pmCode 74 468 = some (.getfield 34) ∧ 468 + 3 = 471 := ⟨rfl, rfl⟩
theorem xc74_471 : pmCode 74 471 = some (.iload 10) ∧ 471 + 2 = 473 := ⟨rfl, rfl⟩
theorem xc74_473 : pmCode 74 473 = some .iaload ∧ 473 + 1 = 474 := ⟨rfl, rfl⟩
theorem xc74_474 : pmCode 74 474 = some .imul ∧ 474 + 1 = 475 := ⟨rfl, rfl⟩
theorem xc74_475 : pmCode 74 475 = some (.iload 15) ∧ 475 + 2 = 477 := ⟨rfl, rfl⟩
theorem xc74_477 : pmCode 74 477 = some .iadd ∧ 477 + 1 = 478 := ⟨rfl, rfl⟩
theorem xc74_478 : pmCode 74 478 = some .iaload ∧ 478 + 1 = 479 := ⟨rfl, rfl⟩
theorem xc74_479 : pmCode 74 479 = some (.aload_n 3) ∧ 479 + 1 = 480 := ⟨rfl, rfl⟩
theorem xc74_480 : pmCode 74 480 = some (.iconst 1) ∧ 480 + 1 = 481 := ⟨rfl, rfl⟩
theorem xc74_481 : pmCode 74 481 = some .iaload ∧ 481 + 1 = 482 := ⟨rfl, rfl⟩
theorem xc74_482 : pmCode 74 482 = some .imul ∧ 482 + 1 = 483 := ⟨rfl, rfl⟩
theorem xc74_483 : pmCode 74 483 = some (.goto 5) ∧ ((483 : Nat) : Int) + 5 = ((488 : Nat) : Int) := ⟨rfl, rfl⟩
theorem xc74_486 : pmCode 74 486 = some (.ldc 88) ∧ 486 + 2 = 488 := ⟨rfl, rfl⟩
theorem xc74_488 : pmCode 74 488 = some (.istore 17) ∧ 488 + 2 = 490 := ⟨rfl, rfl⟩
theorem xc74_490 : pmCode 74 490 = some (.lload_n 1) ∧ 490 + 1 = 491 := ⟨rfl, rfl⟩
theorem xc74_491 : pmCode 74 491 = some (.bipush 16) ∧ 491 + 2 = 493 := ⟨rfl, rfl⟩
theorem xc74_493 : pmCode 74 493 = some (.iconst 4) ∧ 493 + 1 = 494 := ⟨rfl, rfl⟩
theorem xc74_494 : pmCode 74 494 = some (.iload 10) ∧ 494 + 2 = 496 := ⟨rfl, rfl⟩
theorem xc74_496 : pmCode 74 496 = some .imul ∧ 496 + 1 = 497 := ⟨rfl, rfl⟩
theorem xc74_497 : pmCode 74 497 = some .iadd ∧ 497 + 1 = 498 := ⟨rfl, rfl⟩
theorem xc74_498 : pmCode 74 498 = some .lushr ∧ 498 + 1 = 499 := ⟨rfl, rfl⟩
theorem xc74_499 : pmCode 74 499 = some .l2i ∧ 499 + 1 = 500 := ⟨rfl, rfl⟩
theorem xc74_500 : pmCode 74 500 = some (.bipush 15) ∧ 500 + 2 = 502 := ⟨rfl, rfl⟩
theorem xc74_502 : pmCode 74 502 = some .iand ∧ 502 + 1 = 503 := ⟨rfl, rfl⟩
theorem xc74_503 : pmCode 74 503 = some (.bipush 9) ∧ 503 + 2 = 505 := ⟨rfl, rfl⟩
theorem xc74_505 : pmCode 74 505 = some (.iload 9) ∧ 505 + 2 = 507 := ⟨rfl, rfl⟩
theorem xc74_507 : pmCode 74 507 = some .iadd ∧ 507 + 1 = 508 := ⟨rfl, rfl⟩
theorem xc74_508 : pmCode 74 508 = some (.if_icmp .ne 7) ∧ ((508 : Nat) : Int) + 7 = ((515 : Nat) : Int) ∧ 508 + 3 = 511 := ⟨rfl, rfl, rfl⟩
theorem xc74_511 : pmCode 74 511 = some (.iconst 1) ∧ 511 + 1 = 512 := ⟨rfl, rfl⟩
theorem xc74_512 : pmCode 74 512 = some (.goto 4) ∧ ((512 : Nat) : Int) + 4 = ((516 : Nat) : Int) := ⟨rfl, rfl⟩
theorem xc74_515 : pmCode 74 515 = some (.iconst 0) ∧ 515 + 1 = 516 := ⟨rfl, rfl⟩
theorem xc74_516 : pmCode 74 516 = some (.istore 12) ∧ 516 + 2 = 518 := ⟨rfl, rfl⟩
theorem xc74_518 : pmCode 74 518 = some (.aload_n 0) ∧ 518 + 1 = 519 := ⟨rfl, rfl⟩
theorem xc74_519 : pmCode 74 519 = some (.getfield 31) ∧ 519 + 3 = 522 := ⟨rfl, rfl⟩
theorem xc74_522 : pmCode 74 522 = some (.iload 10) ∧ 522 + 2 = 524 := ⟨rfl, rfl⟩
theorem xc74_524 : pmCode 74 524 = some .iaload ∧ 524 + 1 = 525 := ⟨rfl, rfl⟩
theorem xc74_525 : pmCode 74 525 = some (.iload 17) ∧ 525 + 2 = 527 := ⟨rfl, rfl⟩
theorem xc74_527 : pmCode 74 527 = some .iadd ∧ 527 + 1 = 528 := ⟨rfl, rfl⟩
theorem xc74_528 : pmCode 74 528 = some (.aload_n 3) ∧ 528 + 1 = 529 := ⟨rfl, rfl⟩
theorem xc74_529 : pmCode 74 529 = some (.iconst 4) ∧ 529 + 1 = 530 := ⟨rfl, rfl⟩
theorem xc74_530 : pmCode 74 530 = some .iaload ∧ 530 + 1 = 531 := ⟨rfl, rfl⟩
theorem xc74_531 : pmCode 74 531 = some .iadd ∧ 531 + 1 = 532 := ⟨rfl, rfl⟩
theorem xc74_532 : pmCode 74 532 = some (.istore 13) ∧ 532 + 2 = 534 := ⟨rfl, rfl⟩
theorem xc74_534 : pmCode 74 534 = some (.aload_n 0) ∧ 534 + 1 = 535 := ⟨rfl, rfl⟩
theorem xc74_535 : pmCode 74 535 = some (.getfield 28) ∧ 535 + 3 = 538 := ⟨rfl, rfl⟩
theorem xc74_538 : pmCode 74 538 = some (.iload 9) ∧ 538 + 2 = 540 := ⟨rfl, rfl⟩
theorem xc74_540 : pmCode 74 540 = some .iaload ∧ 540 + 1 = 541 := ⟨rfl, rfl⟩
theorem xc74_541 : pmCode 74 541 = some (.istore 14) ∧ 541 + 2 = 543 := ⟨rfl, rfl⟩
theorem xc74_543 : pmCode 74 543 = some (.aload_n 0) ∧ 543 + 1 = 544 := ⟨rfl, rfl⟩
theorem xc74_544 : pmCode 74 544 = some (.getfield 18) ∧ 544 + 3 = 547 := ⟨rfl, rfl⟩
theorem xc74_547 : pmCode 74 547 = some (.iload 7) ∧ 547 + 2 = 549 := ⟨rfl, rfl⟩
theorem xc74_549 : pmCode 74 549 = some (.iload 12) ∧ 549 + 2 = 551 := ⟨rfl, rfl⟩
theorem xc74_551 : pmCode 74 551 = some (.ifCond .eq 7) ∧ ((551 : Nat) : Int) + 7 = ((558 : Nat) : Int) ∧ 551 + 3 = 554 := ⟨rfl, rfl, rfl⟩
theorem xc74_554 : pmCode 74 554 = some (.iconst 0) ∧ 554 + 1 = 555 := ⟨rfl, rfl⟩
theorem xc74_555 : pmCode 74 555 = some (.goto 5) ∧ ((555 : Nat) : Int) + 5 = ((560 : Nat) : Int) := ⟨rfl, rfl⟩
theorem xc74_558 : pmCode 74 558 = some (.iload 13) ∧ 558 + 2 = 560 := ⟨rfl, rfl⟩
theorem xc74_560 : pmCode 74 560 = some .iastore ∧ 560 + 1 = 561 := ⟨rfl, rfl⟩
theorem xc74_561 : pmCode 74 561 = some (.aload_n 0) ∧ 561 + 1 = 562 := ⟨rfl, rfl⟩
theorem xc74_562 : pmCode 74 562 = some (.getfield 22) ∧ 562 + 3 = 565 := ⟨rfl, rfl⟩
theorem xc74_565 : pmCode 74 565 = some (.iload 7) ∧ 565 + 2 = 567 := ⟨rfl, rfl⟩
theorem xc74_567 : pmCode 74 567 = some (.iload 12) ∧ 567 + 2 = 569 := ⟨rfl, rfl⟩
theorem xc74_569 : pmCode 74 569 = some (.ifCond .eq 8) ∧ ((569 : Nat) : Int) + 8 = ((577 : Nat) : Int) ∧ 569 + 3 = 572 := ⟨rfl, rfl, rfl⟩
theorem xc74_572 : pmCode 74 572 = some (.iload 14) ∧ 572 + 2 = 574 := ⟨rfl, rfl⟩
theorem xc74_574 : pmCode 74 574 = some (.goto 4) ∧ ((574 : Nat) : Int) + 4 = ((578 : Nat) : Int) := ⟨rfl, rfl⟩
theorem xc74_577 : pmCode 74 577 = some (.iconst 0) ∧ 577 + 1 = 578 := ⟨rfl, rfl⟩
theorem xc74_578 : pmCode 74 578 = some .iastore ∧ 578 + 1 = 579 := ⟨rfl, rfl⟩
theorem xc74_579 : pmCode 74 579 = some (.iinc 7 1) ∧ 579 + 3 = 582 := ⟨rfl, rfl⟩
theorem xc74_582 : pmCode 74 582 = some (.goto (-528)) ∧ ((582 : Nat) : Int) + (-528) = ((54 : Nat) : Int) := ⟨rfl, rfl⟩
theorem xc74_585 : pmCode 74 585 = some .return_ := rfl
theorem xc75_0 : pmCode 75 0 = some (.iconst 0) ∧ 0 + 1 = 1 := ⟨rfl, rfl⟩
theorem xc75_1 : pmCode 75 1 = some (.istore_n 1) ∧ 1 + 1 = 2 := ⟨rfl, rfl⟩
theorem xc75_2 : pmCode 75 2 = some (.iconst 0) ∧ 2 + 1 = 3 := ⟨rfl, rfl⟩
theorem xc75_3 : pmCode 75 3 = some (.istore_n 2) ∧ 3 + 1 = 4 := ⟨rfl, rfl⟩
theorem xc75_4 : pmCode 75 4 = some (.iload_n 2) ∧ 4 + 1 = 5 := ⟨rfl, rfl⟩
theorem xc75_5 : pmCode 75 5 = some (.aload_n 0) ∧ 5 + 1 = 6 := ⟨rfl, rfl⟩
theorem xc75_6 : pmCode 75 6 = some (.getfield 41) ∧ 6 + 3 = 9 := ⟨rfl, rfl⟩
theorem xc75_9 : pmCode 75 9 = some (.getfield 135) ∧ 9 + 3 = 12 := ⟨rfl, rfl⟩
theorem xc75_12 : pmCode 75 12 = some (.aload_n 0) ∧ 12 + 1 = 13 := ⟨rfl, rfl⟩
theorem xc75_13 : pmCode 75 13 = some (.getfield 65) ∧ 13 + 3 = 16 := ⟨rfl, rfl⟩
theorem xc75_16 : pmCode 75 16 = some .iaload ∧ 16 + 1 = 17 := ⟨rfl, rfl⟩
theorem xc75_17 : pmCode 75 17 = some (.if_icmp .ge 245) ∧ ((17 : Nat) : Int) + 245 = ((262 : Nat) : Int) ∧ 17 + 3 = 20 := ⟨rfl, rfl, rfl⟩
theorem xc75_20 : pmCode 75 20 = some (.aload_n 0) ∧ 20 + 1 = 21 := ⟨rfl, rfl⟩
theorem xc75_21 : pmCode 75 21 = some (.getfield 41) ∧ 21 + 3 = 24 := ⟨rfl, rfl⟩
theorem xc75_24 : pmCode 75 24 = some (.getfield 138) ∧ 24 + 3 = 27 := ⟨rfl, rfl⟩
theorem xc75_27 : pmCode 75 27 = some (.aload_n 0) ∧ 27 + 1 = 28 := ⟨rfl, rfl⟩
theorem xc75_28 : pmCode 75 28 = some (.getfield 65) ∧ 28 + 3 = 31 := ⟨rfl, rfl⟩
theorem xc75_31 : pmCode 75 31 = some (.bipush 40) ∧ 31 + 2 = 33 := ⟨rfl, rfl⟩
theorem xc75_33 : pmCode 75 33 = some .imul ∧ 33 + 1 = 34 := ⟨rfl, rfl⟩
theorem xc75_34 : pmCode 75 34 = some (.iload_n 2) ∧ 34 + 1 = 35 := ⟨rfl, rfl⟩
theorem xc75_35 : pmCode 75 35 = some .iadd ∧ 35 + 1 = 36 := ⟨rfl, rfl⟩
theorem xc75_36 : pmCode 75 36 = some .iaload ∧ 36 + 1 = 37 := ⟨rfl, rfl⟩
theorem xc75_37 : pmCode 75 37 = some (.bipush 6) ∧ 37 + 2 = 39 := ⟨rfl, rfl⟩
theorem xc75_39 : pmCode 75 39 = some .ishr ∧ 39 + 1 = 40 := ⟨rfl, rfl⟩
theorem xc75_40 : pmCode 75 40 = some (.istore_n 3) ∧ 40 + 1 = 41 := ⟨rfl, rfl⟩
theorem xc75_41 : pmCode 75 41 = some (.iload_n 3) ∧ 41 + 1 = 42 := ⟨rfl, rfl⟩
theorem xc75_42 : pmCode 75 42 = some (.iconst 5) ∧ 42 + 1 = 43 := ⟨rfl, rfl⟩
theorem xc75_43 : pmCode 75 43 = some (.if_icmp .ge 33) ∧ ((43 : Nat) : Int) + 33 = ((76 : Nat) : Int) ∧ 43 + 3 = 46 := ⟨rfl, rfl, rfl⟩
theorem xc75_46 : pmCode 75 46 = some (.aload_n 0) ∧ 46 + 1 = 47 := ⟨rfl, rfl⟩
theorem xc75_47 : pmCode 75 47 = some (.getfield 18) ∧ 47 + 3 = 50 := ⟨rfl, rfl⟩
theorem xc75_50 : pmCode 75 50 = some (.iload_n 1) ∧ 50 + 1 = 51 := ⟨rfl, rfl⟩
theorem xc75_51 : pmCode 75 51 = some (.aload_n 0) ∧ 51 + 1 = 52 := ⟨rfl, rfl⟩
theorem xc75_52 : pmCode 75 52 = some (.getfield 18) ∧ 52 + 3 = 55 := ⟨rfl, rfl⟩
theorem xc75_55 : pmCode 75 55 = some (.iload_n 2) ∧ 55 + 1 = 56 := ⟨rfl, rfl⟩
theorem xc75_56 : pmCode 75 56 = some .iaload ∧ 56 + 1 = 57 := ⟨rfl, rfl⟩
theorem xc75_57 : pmCode 75 57 = some .iastore ∧ 57 + 1 = 58 := ⟨rfl, rfl⟩
theorem xc75_58 : pmCode 75 58 = some (.aload_n 0) ∧ 58 + 1 = 59 := ⟨rfl, rfl⟩
theorem xc75_59 : pmCode 75 59 = some (.getfield 22) ∧ 59 + 3 = 62 := ⟨rfl, rfl⟩
theorem xc75_62 : pmCode 75 62 = some (.iload_n 1) ∧ 62 + 1 = 63 := ⟨rfl, rfl⟩
theorem xc75_63 : pmCode 75 63 = some (.aload_n 0) ∧ 63 + 1 = 64 := ⟨rfl, rfl⟩
theorem xc75_64 : pmCode 75 64 = some (.getfield 22) ∧ 64 + 3 = 67 := ⟨rfl, rfl⟩
theorem xc75_67 : pmCode 75 67 = some (.iload_n 2) ∧ 67 + 1 = 68 := ⟨rfl, rfl⟩
theorem xc75_68 : pmCode 75 68 = some .iaload ∧ 68 + 1 = 69 := ⟨rfl, rfl⟩
theorem xc75_69 : pmCode 75 69 = some .iastore ∧ 69 + 1 = 70 := ⟨rfl, rfl⟩
theorem xc75_70 : pmCode 75 70 = some (.iinc 1 1) ∧ 70 + 3 = 73 := ⟨rfl, rfl⟩
theorem xc75_73 : pmCode 75 73 = some (.goto 183) ∧ ((73 : Nat) : Int) + 183 = ((256 : Nat) : Int) := ⟨rfl, rfl⟩
theorem xc75_76 : pmCode 75 76 = some (.iload_n 3) ∧ 76 + 1 = 77 := ⟨rfl, rfl⟩
theorem xc75_77 : pmCode 75 77 = some (.iconst 5) ∧ 77 + 1 = 78 := ⟨rfl, rfl⟩
theorem xc75_78 : pmCode 75 78 = some (.if_icmp .ne 47) ∧ ((78 : Nat) : Int) + 47 = ((125 : Nat) : Int) ∧ 78 + 3 = 81 := ⟨rfl, rfl, rfl⟩
theorem xc75_81 : pmCode 75 81 = some (.iload_n 1) ∧ 81 + 1 = 82 := ⟨rfl, rfl⟩
theorem xc75_82 : pmCode 75 82 = some (.iconst 1) ∧ 82 + 1 = 83 := ⟨rfl, rfl⟩
theorem xc75_83 : pmCode 75 83 = some (.if_icmp .lt 42) ∧ ((83 : Nat) : Int) + 42 = ((125 : Nat) : Int) ∧ 83 + 3 = 86 := ⟨rfl, rfl, rfl⟩
theorem xc75_86 : pmCode 75 86 = some (.aload_n 0) ∧ 86 + 1 = 87 := ⟨rfl, rfl⟩
theorem xc75_87 : pmCode 75 87 = some (.getfield 18) ∧ 87 + 3 = 90 := ⟨rfl, rfl⟩
theorem xc75_90 : pmCode 75 90 = some (.iload_n 1) ∧ 90 + 1 = 91 := ⟨rfl, rfl⟩
theorem xc75_91 : pmCode 75 91 = some (.iconst 1) ∧ 91 + 1 = 92 := ⟨rfl, rfl⟩
theorem xc75_92 : pmCode 75 92 = some .isub ∧ 92 + 1 = 93 := ⟨rfl, rfl⟩
theorem xc75_93 : pmCode 75 93 = some .iaload ∧ 93 + 1 = 94 := ⟨rfl, rfl⟩
theorem xc75_94 : pmCode 75 94 = some (.istore 4) ∧ 94 + 2 = 96 := ⟨rfl, rfl⟩
theorem xc75_96 : pmCode 75 96 = some (.aload_n 0) ∧ 96 + 1 = 97 := ⟨rfl, rfl⟩
theorem xc75_97 : pmCode 75 97 = some (.getfield 18) ∧ 97 + 3 = 100 := ⟨rfl, rfl⟩
theorem xc75_100 : pmCode 75 100 = some (.iload_n 1) ∧ 100 + 1 = 101 := ⟨rfl, rfl⟩
theorem xc75_101 : pmCode 75 101 = some (.iconst 1) ∧ 101 + 1 = 102 := ⟨rfl, rfl⟩
theorem xc75_102 : pmCode 75 102 = some .isub ∧ 102 + 1 = 103 := ⟨rfl, rfl⟩
theorem xc75_103 : pmCode 75 103 = some (.aload_n 0) ∧ 103 + 1 = 104 := ⟨rfl, rfl⟩
theorem xc75_104 : pmCode 75 104 = some (.getfield 22) ∧ 104 + 3 = 107 := ⟨rfl, rfl⟩
theorem xc75_107 : pmCode 75 107 = some (.iload_n 1) ∧ 107 + 1 = 108 := ⟨rfl, rfl⟩
theorem xc75_108 : pmCode 75 108 = some (.iconst 1) ∧ 108 + 1 = 109 := ⟨rfl, rfl⟩
theorem xc75_109 : pmCode 75 109 = some .isub ∧ 109 + 1 = 110 := ⟨rfl, rfl⟩
theorem xc75_110 : pmCode 75 110 = some .iaload ∧ 110 + 1 = 111 := ⟨rfl, rfl⟩
theorem xc75_111 : pmCode 75 111 = some .iastore ∧ 111 + 1 = 112 := ⟨rfl, rfl⟩
theorem xc75_112 : pmCode 75 112 = some (.aload_n 0) ∧ 112 + 1 = 113 := ⟨rfl, rfl⟩
theorem xc75_113 : pmCode 75 113 = some (.getfield 22) ∧ 113 + 3 = 116 := ⟨rfl, rfl⟩
theorem xc75_116 : pmCode 75 116 = some (.iload_n 1) ∧ 116 + 1 = 117 := ⟨rfl, rfl⟩
theorem xc75_117 : pmCode 75 117 = some (.iconst 1) ∧ 117 + 1 = 118 := ⟨rfl, rfl⟩
theorem xc75_118 : pmCode 75 118 = some .isub ∧ 118 + 1 = 119 := ⟨rfl, rfl⟩
theorem xc75_119 : pmCode 75 119 = some (.iload 4) ∧ 119 + 2 = 121 := ⟨rfl, rfl⟩
theorem xc75_121 : pmCode 75 121 = some .iastore ∧ 121 + 1 = 122 := ⟨rfl, rfl⟩
theorem xc75_122 : pmCode 75 122 = some (.goto 134) ∧ ((122 : Nat) : Int) + 134 = ((256 : Nat) : Int) := ⟨rfl, rfl⟩
theorem xc75_125 : pmCode 75 125 = some (.iload_n 3) ∧ 125 + 1 = 126 := ⟨rfl, rfl⟩
theorem xc75_126 : pmCode 75 126 = some (.bipush 6) ∧ 126 + 2 = 128 := ⟨rfl, rfl⟩
theorem xc75_128 : pmCode 75 128 = some (.if_icmp .ne 64) ∧ ((128 : Nat) : Int) + 64 = ((192 : Nat) : Int) ∧ 128 + 3 = 131 := ⟨rfl, rfl, rfl⟩
theorem xc75_131 : pmCode 75 131 = some (.iload_n 1) ∧ 131 + 1 = 132 := ⟨rfl, rfl⟩
theorem xc75_132 : pmCode 75 132 = some (.iconst 2) ∧ 132 + 1 = 133 := ⟨rfl, rfl⟩
theorem xc75_133 : pmCode 75 133 = some (.if_icmp .lt 59) ∧ ((133 : Nat) : Int) + 59 = ((192 : Nat) : Int) ∧ 133 + 3 = 136 := ⟨rfl, rfl, rfl⟩
theorem xc75_136 : pmCode 75 136 = some (.iinc 1 (-1)) ∧ 136 + 3 = 139 := ⟨rfl, rfl⟩
theorem xc75_139 : pmCode 75 139 = some (.aload_n 0) ∧ 139 + 1 = 140 := ⟨rfl, rfl⟩
theorem xc75_140 : pmCode 75 140 = some (.getfield 18) ∧ 140 + 3 = 143 := ⟨rfl, rfl⟩
theorem xc75_143 : pmCode 75 143 = some (.iload_n 1) ∧ 143 + 1 = 144 := ⟨rfl, rfl⟩
theorem xc75_144 : pmCode 75 144 = some (.iconst 1) ∧ 144 + 1 = 145 := ⟨rfl, rfl⟩
theorem xc75_145 : pmCode 75 145 = some .isub ∧ 145 + 1 = 146 := ⟨rfl, rfl⟩
theorem xc75_146 : pmCode 75 146 = some (.aload_n 0) ∧ 146 + 1 = 147 := ⟨rfl, rfl⟩
theorem xc75_147 : pmCode 75 147 = some (.getfield 18) ∧ 147 + 3 = 150 := ⟨rfl, rfl⟩
theorem xc75_150 : pmCode 75 150 = some (.iload_n 1) ∧ 150 + 1 = 151 := ⟨rfl, rfl⟩
theorem xc75_151 : pmCode 75 151 = some (.iconst 1) ∧ 151 + 1 = 152 := ⟨rfl, rfl⟩
theorem xc75_152 : pmCode 75 152 = some .isub ∧ 152 + 1 = 153 := ⟨rfl, rfl⟩
theorem xc75_153 : pmCode 75 153 = some .iaload ∧ 153 + 1 = 154 := ⟨rfl, rfl⟩
theorem xc75_154 : pmCode 75 154 = some (.aload_n 0) ∧ 154 + 1 = 155 := ⟨rfl, rfl⟩
theorem xc75_155 : pmCode 75 155 = some (.getfield 18) ∧ 155 + 3 = 158 := ⟨rfl, rfl⟩
theorem xc75_158 : pmCode 75 158 = some (.iload_n 1) ∧ 158 + 1 = 159 := ⟨rfl, rfl⟩
theorem xc75_159 : pmCode 75 159 = some .iaload ∧ 159 + 1 = 160 := ⟨rfl, rfl⟩
theorem xc75_160 : pmCode 75 160 = some (.invokestatic 126) ∧ 160 + 3 = 163 := ⟨rfl, rfl⟩
theorem xc75_163 : pmCode 75 163 = some .iastore ∧ 163 + 1 = 164 := ⟨rfl, rfl⟩
theorem xc75_164 : pmCode 75 164 = some (.aload_n 0) ∧ 164 + 1 = 165 := ⟨rfl, rfl⟩
theorem xc75_165 : pmCode 75 165 = some (.getfield 22) ∧ 165 + 3 = 168 := ⟨rfl, rfl⟩
theorem xc75_168 : pmCode 75 168 = some (.iload_n 1) ∧ 168 + 1 = 169 := ⟨rfl, rfl⟩
theorem xc75_169 : pmCode 75 169 = some (.iconst 1) ∧ 169 + 1 = 170 := ⟨rfl, rfl⟩
theorem xc75_170 : pmCode 75 170 = some .isub ∧ 170 + 1 = 171 := ⟨rfl, rfl⟩
theorem xc75_171 : pmCode 75 171 = some (.aload_n 0) ∧ 171 + 1 = 172 := ⟨rfl, rfl⟩
theorem xc75_172 : pmCode 75 172 = some (.getfield 22) ∧ 172 + 3 = 175 := ⟨rfl, rfl⟩
theorem xc75_175 : pmCode 75 175 = some (.iload_n 1) ∧ 175 + 1 = 176 := ⟨rfl, rfl⟩
theorem xc75_176 : pmCode 75 176 = some (.iconst 1) ∧ 176 + 1 = 177 := ⟨rfl, rfl⟩
theorem xc75_177 : pmCode 75 177 = some .isub ∧ 177 + 1 = 178 := ⟨rfl, rfl⟩
theorem xc75_178 : pmCode 75 178 = some .iaload ∧ 178 + 1 = 179 := ⟨rfl, rfl⟩
theorem xc75_179 : pmCode 75 179 = some (.aload_n 0) ∧ 179 + 1 = 180 := ⟨rfl, rfl⟩
theorem xc75_180 : pmCode 75 180 = some (.getfield 22) ∧ 180 + 3 = 183 := ⟨rfl, rfl⟩
theorem xc75_183 : pmCode 75 183 = some (.iload_n 1) ∧ 183 + 1 = 184 := ⟨rfl, rfl⟩
theorem xc75_184 : pmCode 75 184 = some .iaload ∧ 184 + 1 = 185 := ⟨rfl, rfl⟩
theorem xc75_185 : pmCode 75 185 = some (.invokestatic 120) ∧ 185 + 3 = 188 := ⟨rfl, rfl⟩
theorem xc75_188 : pmCode 75 188 = some .iastore ∧ 188 + 1 = 189 := ⟨rfl, rfl⟩
theorem xc75_189 : pmCode 75 189 = some (.goto 67) ∧ ((189 : Nat) : Int) + 67 = ((256 : Nat) : Int) := ⟨rfl, rfl⟩
theorem xc75_192 : pmCode 75 192 = some (.iload_n 3) ∧ 192 + 1 = 193 := ⟨rfl, rfl⟩
theorem xc75_193 : pmCode 75 193 = some (.bipush 7) ∧ 193 + 2 = 195 := ⟨rfl, rfl⟩
theorem xc75_195 : pmCode 75 195 = some (.if_icmp .ne 61) ∧ ((195 : Nat) : Int) + 61 = ((256 : Nat) : Int) ∧ 195 + 3 = 198 := ⟨rfl, rfl, rfl⟩
theorem xc75_198 : pmCode 75 198 = some (.iload_n 1) ∧ 198 + 1 = 199 := ⟨rfl, rfl⟩
theorem xc75_199 : pmCode 75 199 = some (.iconst 2) ∧ 199 + 1 = 200 := ⟨rfl, rfl⟩
theorem xc75_200 : pmCode 75 200 = some (.if_icmp .lt 56) ∧ ((200 : Nat) : Int) + 56 = ((256 : Nat) : Int) ∧ 200 + 3 = 203 := ⟨rfl, rfl, rfl⟩
theorem xc75_203 : pmCode 75 203 = some (.iinc 1 (-1)) ∧ 203 + 3 = 206 := ⟨rfl, rfl⟩
theorem xc75_206 : pmCode 75 206 = some (.aload_n 0) ∧ 206 + 1 = 207 := ⟨rfl, rfl⟩
theorem xc75_207 : pmCode 75 207 = some (.getfield 18) ∧ 207 + 3 = 210 := ⟨rfl, rfl⟩
theorem xc75_210 : pmCode 75 210 = some (.iload_n 1) ∧ 210 + 1 = 211 := ⟨rfl, rfl⟩
theorem xc75_211 : pmCode 75 211 = some (.iconst 1) ∧ 211 + 1 = 212 := ⟨rfl, rfl⟩
theorem xc75_212 : pmCode 75 212 = some .isub ∧ 212 + 1 = 213 := ⟨rfl, rfl⟩
theorem xc75_213 : pmCode 75 213 = some (.aload_n 0) ∧ 213 + 1 = 214 := ⟨rfl, rfl⟩
theorem xc75_214 : pmCode 75 214 = some (.getfield 18) ∧ 214 + 3 = 217 := ⟨rfl, rfl⟩
theorem xc75_217 : pmCode 75 217 = some (.iload_n 1) ∧ 217 + 1 = 218 := ⟨rfl, rfl⟩
theorem xc75_218 : pmCode 75 218 = some (.iconst 1) ∧ 218 + 1 = 219 := ⟨rfl, rfl⟩
theorem xc75_219 : pmCode 75 219 = some .isub ∧ 219 + 1 = 220 := ⟨rfl, rfl⟩
theorem xc75_220 : pmCode 75 220 = some .iaload ∧ 220 + 1 = 221 := ⟨rfl, rfl⟩
theorem xc75_221 : pmCode 75 221 = some (.aload_n 0) ∧ 221 + 1 = 222 := ⟨rfl, rfl⟩
theorem xc75_222 : pmCode 75 222 = some (.getfield 18) ∧ 222 + 3 = 225 := ⟨rfl, rfl⟩
theorem xc75_225 : pmCode 75 225 = some (.iload_n 1) ∧ 225 + 1 = 226 := ⟨rfl, rfl⟩
theorem xc75_226 : pmCode 75 226 = some .iaload ∧ 226 + 1 = 227 := ⟨rfl, rfl⟩
theorem xc75_227 : pmCode 75 227 = some (.invokestatic 120) ∧ 227 + 3 = 230 := ⟨rfl, rfl⟩
theorem xc75_230 : pmCode 75 230 = some .iastore ∧ 230 + 1 = 231 := ⟨rfl, rfl⟩
theorem xc75_231 : pmCode 75 231 = some (.aload_n 0) ∧ 231 + 1 = 232 := ⟨rfl, rfl⟩
theorem xc75_232 : pmCode 75 232 = some (.getfield 22) ∧ 232 + 3 = 235 := ⟨rfl, rfl⟩
theorem xc75_235 : pmCode 75 235 = some (.iload_n 1) ∧ 235 + 1 = 236 := ⟨rfl, rfl⟩
theorem xc75_236 : pmCode 75 236 = some (.iconst 1) ∧ 236 + 1 = 237 := ⟨rfl, rfl⟩
theorem xc75_237 : pmCode 75 237 = some .isub ∧ 237 + 1 = 238 := ⟨rfl, rfl⟩
theorem xc75_238 : pmCode 75 238 = some (.aload_n 0) ∧ 238 + 1 = 239 := ⟨rfl, rfl⟩
theorem xc75_239 : pmCode 75 239 = some (.getfield 22) ∧ 239 + 3 = 242 := ⟨rfl, rfl⟩
theorem xc75_242 : pmCode 75 242 = some (.iload_n 1) ∧ 242 + 1 = 243 := ⟨rfl, rfl⟩
theorem xc75_243 : pmCode 75 243 = some (.iconst 1) ∧ 243 + 1 = 244 := ⟨rfl, rfl⟩
theorem xc75_244 : pmCode 75 244 = some .isub ∧ 244 + 1 = 245 := ⟨rfl, rfl⟩
theorem xc75_245 : pmCode 75 245 = some .iaload ∧ 245 + 1 = 246 := ⟨rfl, rfl⟩
theorem xc75_246 : pmCode 75 246 = some (.aload_n 0) ∧ 246 + 1 = 247 := ⟨rfl, rfl⟩
theorem xc75_247 : pmCode 75 247 = some (.getfield 22) ∧ 247 + 3 = 250 := ⟨rfl, rfl⟩
theorem xc75_250 : pmCode 75 250 = some (.iload_n 1) ∧ 250 + 1 = 251 := ⟨rfl, rfl⟩
theorem xc75_251 : pmCode 75 251 = some .iaload ∧ 251 + 1 = 252 := ⟨rfl, rfl⟩
theorem xc75_252 : pmCode 75 252 = some (.invokestatic 126) ∧ 252 + 3 = 255 := ⟨rfl, rfl⟩
theorem xc75_255 : pmCode 75 255 = some .iastore ∧ 255 + 1 = 256 := ⟨rfl, rfl⟩
theorem xc75_256 : pmCode 75 256 = some (.iinc 2 1) ∧ 256 + 3 = 259 := ⟨rfl, rfl⟩
theorem xc75_259 : pmCode 75 259 = some (.goto (-255)) ∧ ((259 : Nat) : Int) + (-255) = ((4 : Nat) : Int) := ⟨rfl, rfl⟩
theorem xc75_262 : pmCode 75 262 = some (.aload_n 0) ∧ 262 + 1 = 263 := ⟨rfl, rfl⟩
theorem xc75_263 : pmCode 75 263 = some (.getfield 18) ∧ 263 + 3 = 266 := ⟨rfl, rfl⟩
theorem xc75_266 : pmCode 75 266 = some (.iconst 0) ∧ 266 + 1 = 267 := ⟨rfl, rfl⟩
theorem xc75_267 : pmCode 75 267 = some .iaload ∧ 267 + 1 = 268 := ⟨rfl, rfl⟩
theorem xc75_268 : pmCode 75 268 = some .ireturn := rfl
theorem w74 {Ln : Nat} {xs : Nat → Int32} {d : Nat} {Q : Option Value → pmS → Prop} {l : Int64} {cp : Nat} {c : Int → Int} {f wr n : Int} {a : xA} {b : xB} (hf : a 34 10 = f) (hf0 : 1 ≤ f ∧ f ≤ 3) (hw : a 34 11 = wr) (hw0 : 0 ≤ wr ∧ wr ≤ 11) (hn : a 9 wr = n) (hn0 : 0 ≤ n ∧ n ≤ 40) (hW : ∀ k, 0 ≤ k → 0 ≤ a 6 k ∧ a 6 k ≤ 99) (hco : uCo a c cp) (hcb : ∀ k, 1 ≤ k → k < 6 → 1 ≤ c k ∧ c k ≤ 73)
    (k1 : pmWp (pmRo Ln xs) d 3 74 0 54 [some (.ref 34), some (.long l), none, some (.ref cp), some (xV (if 0 < (if (xL2 (xShr l (4 * f))) % 16 < 7 then (xL2 (xShr l (4 * f))) % 16 else 7) - 1 then (if (xL2 (xShr l (4 * f))) % 16 < 7 then (xL2 (xShr l (4 * f))) % 16 else 7) - 1 else 0)), some (xV (if c 4 < c 3 then c 4 else c 3)), some (xV (if c 4 + (c 5) < c 3 then c 4 + (c 5) else c 3)), some (xV 0), none, none, none, none, none, none, none, none, none, none] [] (xS a b) Q) :
    pmWp (pmRo Ln xs) d 3 74 0 0 [some (.ref 34), some (.long l), none, some (.ref cp), none, none, none, none, none, none, none, none, none, none, none, none, none, none] [] (xS a b) Q := by
  refine x_iconst xc74_0 ?_
  refine x_bipush xc74_1 (by decide) ?_
  refine x_lloadn xc74_3 rfl ?_
  refine x_iconst xc74_4 ?_
  refine x_aloadn xc74_5 rfl ?_
  refine x_gfi' (k := 10) (v := f) xc74_6 rfl (Or.inl rfl) rfl xz34 hf ?_
  refine x_imul xc74_9 ?_
  refine x_lushr xc74_10 ?_
  refine x_l2i xc74_11 ?_
  refine x_bipush xc74_12 (by decide) ?_
  refine x_iandm (M := 16) 4 (by decide) (by decide) (by decide) xc74_14 ?_
  refine x_min xc74_15 rfl (xRk (by decide)) (xRk (by have g0 := xL2B (xShr l (4 * f)); omega)) rfl ?_
  refine x_iconst xc74_18 ?_
  refine x_isub xc74_19 ?_
  refine x_max xc74_20 rfl (xRk (by decide)) (xRk (by have g0 := xL2B (xShr l (4 * f)); omega)) rfl ?_
  refine x_istore (pl' := [some (.ref 34), some (.long l), none, some (.ref cp), some (xV (if 0 < (if (xL2 (xShr l (4 * f))) % 16 < 7 then (xL2 (xShr l (4 * f))) % 16 else 7) - 1 then (if (xL2 (xShr l (4 * f))) % 16 < 7 then (xL2 (xShr l (4 * f))) % 16 else 7) - 1 else 0)), none, none, none, none, none, none, none, none, none, none, none, none, none]) xc74_23 rfl rfl ?_
  refine x_aloadn xc74_25 rfl ?_
  refine x_iconst xc74_26 ?_
  refine x_ialc hco xc74_27 (by omega) (by omega) ?_
  refine x_aloadn xc74_28 rfl ?_
  refine x_iconst xc74_29 ?_
  refine x_ialc hco xc74_30 (by omega) (by omega) ?_
  refine x_min xc74_31 rfl (xRk (by have g0 := hcb 3 (by omega) (by omega); omega)) (xRk (by have g0 := hcb 4 (by omega) (by omega); omega)) rfl ?_
  refine x_istore (pl' := [some (.ref 34), some (.long l), none, some (.ref cp), some (xV (if 0 < (if (xL2 (xShr l (4 * f))) % 16 < 7 then (xL2 (xShr l (4 * f))) % 16 else 7) - 1 then (if (xL2 (xShr l (4 * f))) % 16 < 7 then (xL2 (xShr l (4 * f))) % 16 else 7) - 1 else 0)), some (xV (if c 4 < c 3 then c 4 else c 3)), none, none, none, none, none, none, none, none, none, none, none, none]) xc74_34 rfl rfl ?_
  refine x_aloadn xc74_36 rfl ?_
  refine x_iconst xc74_37 ?_
  refine x_ialc hco xc74_38 (by omega) (by omega) ?_
  refine x_aloadn xc74_39 rfl ?_
  refine x_iconst xc74_40 ?_
  refine x_ialc hco xc74_41 (by omega) (by omega) ?_
  refine x_aloadn xc74_42 rfl ?_
  refine x_iconst xc74_43 ?_
  refine x_ialc hco xc74_44 (by omega) (by omega) ?_
  refine x_iadd xc74_45 ?_
  refine x_min xc74_46 rfl (xRk (by have g0 := hcb 3 (by omega) (by omega); omega)) (xRk (by have g0 := hcb 4 (by omega) (by omega); have g1 := hcb 5 (by omega) (by omega); omega)) rfl ?_
  refine x_istore (pl' := [some (.ref 34), some (.long l), none, some (.ref cp), some (xV (if 0 < (if (xL2 (xShr l (4 * f))) % 16 < 7 then (xL2 (xShr l (4 * f))) % 16 else 7) - 1 then (if (xL2 (xShr l (4 * f))) % 16 < 7 then (xL2 (xShr l (4 * f))) % 16 else 7) - 1 else 0)), some (xV (if c 4 < c 3 then c 4 else c 3)), some (xV (if c 4 + (c 5) < c 3 then c 4 + (c 5) else c 3)), none, none, none, none, none, none, none, none, none, none, none]) xc74_49 rfl rfl ?_
  refine x_iconst xc74_51 ?_
  refine x_istore (pl' := [some (.ref 34), some (.long l), none, some (.ref cp), some (xV (if 0 < (if (xL2 (xShr l (4 * f))) % 16 < 7 then (xL2 (xShr l (4 * f))) % 16 else 7) - 1 then (if (xL2 (xShr l (4 * f))) % 16 < 7 then (xL2 (xShr l (4 * f))) % 16 else 7) - 1 else 0)), some (xV (if c 4 < c 3 then c 4 else c 3)), some (xV (if c 4 + (c 5) < c 3 then c 4 + (c 5) else c 3)), some (xV 0), none, none, none, none, none, none, none, none, none, none]) xc74_52 rfl rfl ?_
  exact k1

theorem xg74 {ro : Nat → Nat × (Nat → Int32)} {d : Nat} {Q : Option Value → pmS → Prop} {a : xA} {b : xB} {l : Int64} {cp : Nat} (h : pmWp ro d 3 74 0 0 [some (.ref 34), some (.long l), none, some (.ref cp), none, none, none, none, none, none, none, none, none, none, none, none, none, none] [] (xS a b) Q) : pmCs ro (d + 1) 74 [.ref 34, .long l, .ref cp] (xS a b) Q := x_go xi74 rfl rfl rfl rfl rfl h
theorem w74x {Ln : Nat} {xs : Nat → Int32} {d : Nat} {Q : Option Value → pmS → Prop} {v10 : Option Value} {v11 : Option Value} {v12 : Option Value} {v13 : Option Value} {v14 : Option Value} {v15 : Option Value} {v16 : Option Value} {v17 : Option Value} {v8 : Option Value} {v9 : Option Value} {l : Int64} {cp : Nat} {c : Int → Int} {f wr n : Int} {a : xA} {b : xB} (hf : a 34 10 = f) (hf0 : 1 ≤ f ∧ f ≤ 3) (hw : a 34 11 = wr) (hw0 : 0 ≤ wr ∧ wr ≤ 11) (hn : a 9 wr = n) (hn0 : 0 ≤ n ∧ n ≤ 40) (hW : ∀ k, 0 ≤ k → 0 ≤ a 6 k ∧ a 6 k ≤ 99) (hco : uCo a c cp) (hcb : ∀ k, 1 ≤ k → k < 6 → 1 ≤ c k ∧ c k ≤ 73) {h lose lay : Int} (hh : 0 ≤ h ∧ h ≤ 6) (hlo : 0 ≤ lose ∧ lose ≤ 1000) (hla : 0 ≤ lay ∧ lay ≤ 1000)
    (k1 : Q none (xS a b)) :
    pmWp (pmRo Ln xs) d 3 74 0 54 [some (.ref 34), some (.long l), none, some (.ref cp), some (xV h), some (xV lose), some (xV lay), some (xV n), v8, v9, v10, v11, v12, v13, v14, v15, v16, v17] [] (xS a b) Q := by
  refine x_iload xc74_54 rfl ?_
  refine x_aloadn xc74_56 rfl ?_
  refine x_gfr xc74_57 rfl rfl xz34 rfl ?_
  refine x_gfr xc74_60 rfl rfl xz7 rfl ?_
  refine x_aloadn xc74_63 rfl ?_
  refine x_gfi' (k := 11) (v := wr) xc74_64 rfl (Or.inl rfl) rfl xz34 hw ?_
  refine x_ial' (v := n) xc74_67 xz9 rfl (by have g0 := hw0; omega) (by have g0 := hw0; omega) (by have g0 := hw0; omega) hn ?_
  refine x_icge xc74_68 (xRk (by have g0 := hn0; omega)) (xRk (by have g0 := hn0; omega)) (fun _ => ?_) (fun h => absurd h (by omega))
  refine x_ret xc74_585 rfl ?_
  exact k1

theorem w74l {Ln : Nat} {xs : Nat → Int32} {d : Nat} {Q : Option Value → pmS → Prop} {v10 : Option Value} {v11 : Option Value} {v12 : Option Value} {v13 : Option Value} {v14 : Option Value} {v15 : Option Value} {v16 : Option Value} {v17 : Option Value} {v8 : Option Value} {v9 : Option Value} {l : Int64} {cp : Nat} {c : Int → Int} {f wr n : Int} {a : xA} {b : xB} (hf : a 34 10 = f) (hf0 : 1 ≤ f ∧ f ≤ 3) (hw : a 34 11 = wr) (hw0 : 0 ≤ wr ∧ wr ≤ 11) (hn : a 9 wr = n) (hn0 : 0 ≤ n ∧ n ≤ 40) (hW : ∀ k, 0 ≤ k → 0 ≤ a 6 k ∧ a 6 k ≤ 99) (hco : uCo a c cp) (hcb : ∀ k, 1 ≤ k → k < 6 → 1 ≤ c k ∧ c k ≤ 73) {tk i h lose lay : Int} (htok : a 8 (wr * 40 + i) = tk) (htk : 0 ≤ tk ∧ tk ≤ 511 ∧ (tk / 64 = 0 → tk / 8 % 8 ≤ 4) ∧ (tk / 64 = 1 → tk / 8 % 8 ≤ 6) ∧ (tk / 64 = 2 → tk / 8 % 8 ≤ 3) ∧ (tk / 64 = 3 → tk / 8 % 8 ≤ 4 ∧ tk % 8 ≤ 6) ∧ (tk / 64 = 4 → tk / 8 % 8 ≤ 3 ∧ tk % 8 ≤ 4)) (hi : 0 ≤ i ∧ i < n) (hh : 0 ≤ h ∧ h ≤ 6) (hlo : 0 ≤ lose ∧ lose ≤ 1000) (hla : 0 ≤ lay ∧ lay ≤ 1000) (h40 : ∀ k, 0 ≤ k → k < 4 → 0 ≤ a 40 k ∧ a 40 k ≤ 200000) (h41 : ∀ k, 0 ≤ k → k < 5 → 0 ≤ a 41 k ∧ a 41 k ≤ 100000) (h42 : ∀ k, 0 ≤ k → k < 5 → 0 ≤ a 42 k ∧ a 42 k ≤ 6)
    (k1 : (n ≤ i) → Q none (xS a b))
    (k2 : (¬ n ≤ i) → (tk / 64 = 0) → (¬ a 41 ((tk / 8) % 8) = 0) → pmWp (pmRo Ln xs) d 3 74 0 54 [some (.ref 34), some (.long l), none, some (.ref cp), some (xV h), some (xV lose), some (xV lay), some (xV (i + 1)), some (xV tk), some (xV ((tk / 8) % 8)), some (xV (tk % 8)), some (xV (tk / 64)), some (xV 0), some (xV (a 41 ((tk / 8) % 8))), some (xV lose), v15, v16, v17] [] (xS (xU (xU a 37 i (a 41 ((tk / 8) % 8))) 38 i 0) b) Q)
    (k3 : (¬ n ≤ i) → (tk / 64 = 0) → (a 41 ((tk / 8) % 8) = 0) → pmWp (pmRo Ln xs) d 3 74 0 54 [some (.ref 34), some (.long l), none, some (.ref cp), some (xV h), some (xV lose), some (xV lay), some (xV (i + 1)), some (xV tk), some (xV ((tk / 8) % 8)), some (xV (tk % 8)), some (xV (tk / 64)), some (xV 1), some (xV (a 41 ((tk / 8) % 8))), some (xV lose), v15, v16, v17] [] (xS (xU (xU a 37 i 0) 38 i lose) b) Q)
    (k4 : (¬ n ≤ i) → (¬ tk / 64 = 0) → (¬ tk / 64 = 4) → (¬ tk / 64 = 1) → (¬ tk / 64 = 2) → (¬ tk / 64 = 3) → pmWp (pmRo Ln xs) d 3 74 0 54 [some (.ref 34), some (.long l), none, some (.ref cp), some (xV h), some (xV lose), some (xV lay), some (xV (i + 1)), some (xV tk), some (xV ((tk / 8) % 8)), some (xV (tk % 8)), some (xV (tk / 64)), v12, v13, some (xV lose), v15, v16, v17] [] (xS a b) Q)
    (k5 : (¬ n ≤ i) → (¬ tk / 64 = 0) → (¬ tk / 64 = 4) → (¬ tk / 64 = 1) → (¬ tk / 64 = 2) → (tk / 64 = 3) → (¬ (xL2 (xShr l (16 + (4 * ((tk / 8) % 8))))) % 16 = tk % 8 + 1) → ((xL2 (xShr l (16 + (4 * ((tk / 8) % 8))))) % 16 < 9) → pmWp (pmRo Ln xs) d 3 74 0 54 [some (.ref 34), some (.long l), none, some (.ref cp), some (xV h), some (xV lose), some (xV lay), some (xV (i + 1)), some (xV tk), some (xV ((tk / 8) % 8)), some (xV (tk % 8)), some (xV (tk / 64)), some (xV 0), some (xV (a 41 ((tk / 8) % 8) + ((a 6 (7 * (a 42 ((tk / 8) % 8)) + (tk % 8))) * (c 1)) + lay)), some (xV (a 41 ((tk / 8) % 8))), some (xV ((xL2 (xShr l (16 + (4 * ((tk / 8) % 8))))) % 16)), some (xV 0), some (xV (a 41 ((tk / 8) % 8) + ((a 6 (7 * (a 42 ((tk / 8) % 8)) + (tk % 8))) * (c 1)) + lay))] [] (xS (xU (xU a 37 i (a 41 ((tk / 8) % 8) + ((a 6 (7 * (a 42 ((tk / 8) % 8)) + (tk % 8))) * (c 1)) + lay)) 38 i 0) b) Q)
    (k6 : (¬ n ≤ i) → (¬ tk / 64 = 0) → (¬ tk / 64 = 4) → (¬ tk / 64 = 1) → (¬ tk / 64 = 2) → (tk / 64 = 3) → (¬ (xL2 (xShr l (16 + (4 * ((tk / 8) % 8))))) % 16 = tk % 8 + 1) → (¬ (xL2 (xShr l (16 + (4 * ((tk / 8) % 8))))) % 16 < 9) → ((xL2 (xShr l (16 + (4 * ((tk / 8) % 8))))) % 16 = 9 + f) → pmWp (pmRo Ln xs) d 3 74 0 54 [some (.ref 34), some (.long l), none, some (.ref cp), some (xV h), some (xV lose), some (xV lay), some (xV (i + 1)), some (xV tk), some (xV ((tk / 8) % 8)), some (xV (tk % 8)), some (xV (tk / 64)), some (xV 0), some (xV (a 41 ((tk / 8) % 8) + ((a 6 (7 * (a 42 ((tk / 8) % 8)) + (tk % 8))) * (c 1)) + lay)), some (xV (a 41 ((tk / 8) % 8))), some (xV ((xL2 (xShr l (16 + (4 * ((tk / 8) % 8))))) % 16)), some (xV 0), some (xV (a 41 ((tk / 8) % 8) + ((a 6 (7 * (a 42 ((tk / 8) % 8)) + (tk % 8))) * (c 1)) + lay))] [] (xS (xU (xU a 37 i (a 41 ((tk / 8) % 8) + ((a 6 (7 * (a 42 ((tk / 8) % 8)) + (tk % 8))) * (c 1)) + lay)) 38 i 0) b) Q)
    (k7 : (¬ n ≤ i) → (¬ tk / 64 = 0) → (¬ tk / 64 = 4) → (¬ tk / 64 = 1) → (¬ tk / 64 = 2) → (tk / 64 = 3) → (¬ (xL2 (xShr l (16 + (4 * ((tk / 8) % 8))))) % 16 = tk % 8 + 1) → (¬ (xL2 (xShr l (16 + (4 * ((tk / 8) % 8))))) % 16 < 9) → (¬ (xL2 (xShr l (16 + (4 * ((tk / 8) % 8))))) % 16 = 9 + f) → (¬ a 42 ((tk / 8) % 8) = tk % 8) → pmWp (pmRo Ln xs) d 3 74 0 54 [some (.ref 34), some (.long l), none, some (.ref cp), some (xV h), some (xV lose), some (xV lay), some (xV (i + 1)), some (xV tk), some (xV ((tk / 8) % 8)), some (xV (tk % 8)), some (xV (tk / 64)), some (xV 0), some (xV (a 41 ((tk / 8) % 8) + ((a 6 (7 * (a 42 ((tk / 8) % 8)) + (tk % 8))) * (c 1)) + lay)), some (xV (a 41 ((tk / 8) % 8))), some (xV ((xL2 (xShr l (16 + (4 * ((tk / 8) % 8))))) % 16)), some (xV 0), some (xV (a 41 ((tk / 8) % 8) + ((a 6 (7 * (a 42 ((tk / 8) % 8)) + (tk % 8))) * (c 1)) + lay))] [] (xS (xU (xU a 37 i (a 41 ((tk / 8) % 8) + ((a 6 (7 * (a 42 ((tk / 8) % 8)) + (tk % 8))) * (c 1)) + lay)) 38 i 0) b) Q)
    (k8 : (¬ n ≤ i) → (¬ tk / 64 = 0) → (¬ tk / 64 = 4) → (¬ tk / 64 = 1) → (¬ tk / 64 = 2) → (tk / 64 = 3) → (¬ (xL2 (xShr l (16 + (4 * ((tk / 8) % 8))))) % 16 = tk % 8 + 1) → (¬ (xL2 (xShr l (16 + (4 * ((tk / 8) % 8))))) % 16 < 9) → (¬ (xL2 (xShr l (16 + (4 * ((tk / 8) % 8))))) % 16 = 9 + f) → (a 42 ((tk / 8) % 8) = tk % 8) → pmWp (pmRo Ln xs) d 3 74 0 54 [some (.ref 34), some (.long l), none, some (.ref cp), some (xV h), some (xV lose), some (xV lay), some (xV (i + 1)), some (xV tk), some (xV ((tk / 8) % 8)), some (xV (tk % 8)), some (xV (tk / 64)), some (xV 0), some (xV (a 41 ((tk / 8) % 8) - (c 2))), some (xV (a 41 ((tk / 8) % 8))), some (xV ((xL2 (xShr l (16 + (4 * ((tk / 8) % 8))))) % 16)), some (xV 1), some (xV (a 41 ((tk / 8) % 8) + ((a 6 (7 * (a 42 ((tk / 8) % 8)) + (tk % 8))) * (c 1)) + lay))] [] (xS (xU (xU a 37 i (a 41 ((tk / 8) % 8) - (c 2))) 38 i 0) b) Q)
    (k9 : (¬ n ≤ i) → (¬ tk / 64 = 0) → (¬ tk / 64 = 4) → (¬ tk / 64 = 1) → (¬ tk / 64 = 2) → (tk / 64 = 3) → ((xL2 (xShr l (16 + (4 * ((tk / 8) % 8))))) % 16 = tk % 8 + 1) → ((xL2 (xShr l (16 + (4 * ((tk / 8) % 8))))) % 16 < 9) → pmWp (pmRo Ln xs) d 3 74 0 54 [some (.ref 34), some (.long l), none, some (.ref cp), some (xV h), some (xV lose), some (xV lay), some (xV (i + 1)), some (xV tk), some (xV ((tk / 8) % 8)), some (xV (tk % 8)), some (xV (tk / 64)), some (xV 1), some (xV (a 41 ((tk / 8) % 8) + ((a 6 (7 * (a 42 ((tk / 8) % 8)) + (tk % 8))) * (c 1)) + lay)), some (xV (a 41 ((tk / 8) % 8))), some (xV ((xL2 (xShr l (16 + (4 * ((tk / 8) % 8))))) % 16)), some (xV 0), some (xV (a 41 ((tk / 8) % 8) + ((a 6 (7 * (a 42 ((tk / 8) % 8)) + (tk % 8))) * (c 1)) + lay))] [] (xS (xU (xU a 37 i 0) 38 i (a 41 ((tk / 8) % 8))) b) Q)
    (k10 : (¬ n ≤ i) → (¬ tk / 64 = 0) → (¬ tk / 64 = 4) → (¬ tk / 64 = 1) → (¬ tk / 64 = 2) → (tk / 64 = 3) → ((xL2 (xShr l (16 + (4 * ((tk / 8) % 8))))) % 16 = tk % 8 + 1) → (¬ (xL2 (xShr l (16 + (4 * ((tk / 8) % 8))))) % 16 < 9) → ((xL2 (xShr l (16 + (4 * ((tk / 8) % 8))))) % 16 = 9 + f) → pmWp (pmRo Ln xs) d 3 74 0 54 [some (.ref 34), some (.long l), none, some (.ref cp), some (xV h), some (xV lose), some (xV lay), some (xV (i + 1)), some (xV tk), some (xV ((tk / 8) % 8)), some (xV (tk % 8)), some (xV (tk / 64)), some (xV 1), some (xV (a 41 ((tk / 8) % 8) + ((a 6 (7 * (a 42 ((tk / 8) % 8)) + (tk % 8))) * (c 1)) + lay)), some (xV (a 41 ((tk / 8) % 8))), some (xV ((xL2 (xShr l (16 + (4 * ((tk / 8) % 8))))) % 16)), some (xV 0), some (xV (a 41 ((tk / 8) % 8) + ((a 6 (7 * (a 42 ((tk / 8) % 8)) + (tk % 8))) * (c 1)) + lay))] [] (xS (xU (xU a 37 i 0) 38 i (a 41 ((tk / 8) % 8))) b) Q)
    (k11 : (¬ n ≤ i) → (¬ tk / 64 = 0) → (¬ tk / 64 = 4) → (¬ tk / 64 = 1) → (¬ tk / 64 = 2) → (tk / 64 = 3) → ((xL2 (xShr l (16 + (4 * ((tk / 8) % 8))))) % 16 = tk % 8 + 1) → (¬ (xL2 (xShr l (16 + (4 * ((tk / 8) % 8))))) % 16 < 9) → (¬ (xL2 (xShr l (16 + (4 * ((tk / 8) % 8))))) % 16 = 9 + f) → (¬ a 42 ((tk / 8) % 8) = tk % 8) → pmWp (pmRo Ln xs) d 3 74 0 54 [some (.ref 34), some (.long l), none, some (.ref cp), some (xV h), some (xV lose), some (xV lay), some (xV (i + 1)), some (xV tk), some (xV ((tk / 8) % 8)), some (xV (tk % 8)), some (xV (tk / 64)), some (xV 1), some (xV (a 41 ((tk / 8) % 8) + ((a 6 (7 * (a 42 ((tk / 8) % 8)) + (tk % 8))) * (c 1)) + lay)), some (xV (a 41 ((tk / 8) % 8))), some (xV ((xL2 (xShr l (16 + (4 * ((tk / 8) % 8))))) % 16)), some (xV 0), some (xV (a 41 ((tk / 8) % 8) + ((a 6 (7 * (a 42 ((tk / 8) % 8)) + (tk % 8))) * (c 1)) + lay))] [] (xS (xU (xU a 37 i 0) 38 i (a 41 ((tk / 8) % 8))) b) Q)
    (k12 : (¬ n ≤ i) → (¬ tk / 64 = 0) → (¬ tk / 64 = 4) → (¬ tk / 64 = 1) → (¬ tk / 64 = 2) → (tk / 64 = 3) → ((xL2 (xShr l (16 + (4 * ((tk / 8) % 8))))) % 16 = tk % 8 + 1) → (¬ (xL2 (xShr l (16 + (4 * ((tk / 8) % 8))))) % 16 < 9) → (¬ (xL2 (xShr l (16 + (4 * ((tk / 8) % 8))))) % 16 = 9 + f) → (a 42 ((tk / 8) % 8) = tk % 8) → pmWp (pmRo Ln xs) d 3 74 0 54 [some (.ref 34), some (.long l), none, some (.ref cp), some (xV h), some (xV lose), some (xV lay), some (xV (i + 1)), some (xV tk), some (xV ((tk / 8) % 8)), some (xV (tk % 8)), some (xV (tk / 64)), some (xV 1), some (xV (a 41 ((tk / 8) % 8) - (c 2))), some (xV (a 41 ((tk / 8) % 8))), some (xV ((xL2 (xShr l (16 + (4 * ((tk / 8) % 8))))) % 16)), some (xV 1), some (xV (a 41 ((tk / 8) % 8) + ((a 6 (7 * (a 42 ((tk / 8) % 8)) + (tk % 8))) * (c 1)) + lay))] [] (xS (xU (xU a 37 i 0) 38 i (a 41 ((tk / 8) % 8))) b) Q)
    (k13 : (¬ n ≤ i) → (¬ tk / 64 = 0) → (¬ tk / 64 = 4) → (¬ tk / 64 = 1) → (tk / 64 = 2) → (¬ (xL2 (xShr l (4 * ((tk / 8) % 8)))) % 16 = 8) → pmWp (pmRo Ln xs) d 3 74 0 54 [some (.ref 34), some (.long l), none, some (.ref cp), some (xV h), some (xV lose), some (xV lay), some (xV (i + 1)), some (xV tk), some (xV ((tk / 8) % 8)), some (xV (tk % 8)), some (xV (tk / 64)), some (xV 0), some (xV (a 40 ((tk / 8) % 8))), some (xV 100000), v15, v16, v17] [] (xS (xU (xU a 37 i (a 40 ((tk / 8) % 8))) 38 i 0) b) Q)
    (k14 : (¬ n ≤ i) → (¬ tk / 64 = 0) → (¬ tk / 64 = 4) → (¬ tk / 64 = 1) → (tk / 64 = 2) → ((xL2 (xShr l (4 * ((tk / 8) % 8)))) % 16 = 8) → pmWp (pmRo Ln xs) d 3 74 0 54 [some (.ref 34), some (.long l), none, some (.ref cp), some (xV h), some (xV lose), some (xV lay), some (xV (i + 1)), some (xV tk), some (xV ((tk / 8) % 8)), some (xV (tk % 8)), some (xV (tk / 64)), some (xV 1), some (xV (a 40 ((tk / 8) % 8))), some (xV 100000), v15, v16, v17] [] (xS (xU (xU a 37 i 0) 38 i 100000) b) Q)
    (k15 : (¬ n ≤ i) → (¬ tk / 64 = 0) → (¬ tk / 64 = 4) → (tk / 64 = 1) → (¬ h = (tk / 8) % 8) → pmWp (pmRo Ln xs) d 3 74 0 54 [some (.ref 34), some (.long l), none, some (.ref cp), some (xV h), some (xV lose), some (xV lay), some (xV (i + 1)), some (xV tk), some (xV ((tk / 8) % 8)), some (xV (tk % 8)), some (xV (tk / 64)), some (xV 0), some (xV ((a 6 (7 * h + ((tk / 8) % 8))) * (c 1))), some (xV (c 1)), v15, v16, v17] [] (xS (xU (xU a 37 i ((a 6 (7 * h + ((tk / 8) % 8))) * (c 1))) 38 i 0) b) Q)
    (k16 : (¬ n ≤ i) → (¬ tk / 64 = 0) → (¬ tk / 64 = 4) → (tk / 64 = 1) → (h = (tk / 8) % 8) → pmWp (pmRo Ln xs) d 3 74 0 54 [some (.ref 34), some (.long l), none, some (.ref cp), some (xV h), some (xV lose), some (xV lay), some (xV (i + 1)), some (xV tk), some (xV ((tk / 8) % 8)), some (xV (tk % 8)), some (xV (tk / 64)), some (xV 1), some (xV ((a 6 (7 * h + ((tk / 8) % 8))) * (c 1))), some (xV (c 1)), v15, v16, v17] [] (xS (xU (xU a 37 i 0) 38 i (c 1)) b) Q)
    (k17 : (¬ n ≤ i) → (¬ tk / 64 = 0) → (tk / 64 = 4) → (¬ (tk / 8) % 8 = f) → ((xL2 (xShr l (4 * ((tk / 8) % 8)))) % 16 - 1 < 0) → (¬ (xL2 (xShr l (16 + (4 * (tk % 8))))) % 16 = 9 + ((tk / 8) % 8)) → pmWp (pmRo Ln xs) d 3 74 0 54 [some (.ref 34), some (.long l), none, some (.ref cp), some (xV h), some (xV lose), some (xV lay), some (xV (i + 1)), some (xV tk), some (xV ((tk / 8) % 8)), some (xV (tk % 8)), some (xV (tk / 64)), some (xV 0), some (xV (a 41 (tk % 8) + 100000 + (c 4))), some (xV (a 40 ((tk / 8) % 8))), some (xV ((xL2 (xShr l (4 * ((tk / 8) % 8)))) % 16 - 1)), some (xV 0), some (xV 100000)] [] (xS (xU (xU a 37 i (a 41 (tk % 8) + 100000 + (c 4))) 38 i 0) b) Q)
    (k18 : (¬ n ≤ i) → (¬ tk / 64 = 0) → (tk / 64 = 4) → (¬ (tk / 8) % 8 = f) → ((xL2 (xShr l (4 * ((tk / 8) % 8)))) % 16 - 1 < 0) → ((xL2 (xShr l (16 + (4 * (tk % 8))))) % 16 = 9 + ((tk / 8) % 8)) → pmWp (pmRo Ln xs) d 3 74 0 54 [some (.ref 34), some (.long l), none, some (.ref cp), some (xV h), some (xV lose), some (xV lay), some (xV (i + 1)), some (xV tk), some (xV ((tk / 8) % 8)), some (xV (tk % 8)), some (xV (tk / 64)), some (xV 1), some (xV (a 41 (tk % 8) + 100000 + (c 4))), some (xV (a 40 ((tk / 8) % 8))), some (xV ((xL2 (xShr l (4 * ((tk / 8) % 8)))) % 16 - 1)), some (xV 0), some (xV 100000)] [] (xS (xU (xU a 37 i 0) 38 i (a 40 ((tk / 8) % 8))) b) Q)
    (k19 : (¬ n ≤ i) → (¬ tk / 64 = 0) → (tk / 64 = 4) → (¬ (tk / 8) % 8 = f) → (¬ (xL2 (xShr l (4 * ((tk / 8) % 8)))) % 16 - 1 < 0) → (7 ≤ (xL2 (xShr l (4 * ((tk / 8) % 8)))) % 16 - 1) → (¬ (xL2 (xShr l (16 + (4 * (tk % 8))))) % 16 = 9 + ((tk / 8) % 8)) → pmWp (pmRo Ln xs) d 3 74 0 54 [some (.ref 34), some (.long l), none, some (.ref cp), some (xV h), some (xV lose), some (xV lay), some (xV (i + 1)), some (xV tk), some (xV ((tk / 8) % 8)), some (xV (tk % 8)), some (xV (tk / 64)), some (xV 0), some (xV (a 41 (tk % 8) + 100000 + (c 4))), some (xV (a 40 ((tk / 8) % 8))), some (xV ((xL2 (xShr l (4 * ((tk / 8) % 8)))) % 16 - 1)), some (xV 0), some (xV 100000)] [] (xS (xU (xU a 37 i (a 41 (tk % 8) + 100000 + (c 4))) 38 i 0) b) Q)
    (k20 : (¬ n ≤ i) → (¬ tk / 64 = 0) → (tk / 64 = 4) → (¬ (tk / 8) % 8 = f) → (¬ (xL2 (xShr l (4 * ((tk / 8) % 8)))) % 16 - 1 < 0) → (7 ≤ (xL2 (xShr l (4 * ((tk / 8) % 8)))) % 16 - 1) → ((xL2 (xShr l (16 + (4 * (tk % 8))))) % 16 = 9 + ((tk / 8) % 8)) → pmWp (pmRo Ln xs) d 3 74 0 54 [some (.ref 34), some (.long l), none, some (.ref cp), some (xV h), some (xV lose), some (xV lay), some (xV (i + 1)), some (xV tk), some (xV ((tk / 8) % 8)), some (xV (tk % 8)), some (xV (tk / 64)), some (xV 1), some (xV (a 41 (tk % 8) + 100000 + (c 4))), some (xV (a 40 ((tk / 8) % 8))), some (xV ((xL2 (xShr l (4 * ((tk / 8) % 8)))) % 16 - 1)), some (xV 0), some (xV 100000)] [] (xS (xU (xU a 37 i 0) 38 i (a 40 ((tk / 8) % 8))) b) Q)
    (k21 : (¬ n ≤ i) → (¬ tk / 64 = 0) → (tk / 64 = 4) → (¬ (tk / 8) % 8 = f) → (¬ (xL2 (xShr l (4 * ((tk / 8) % 8)))) % 16 - 1 < 0) → (¬ 7 ≤ (xL2 (xShr l (4 * ((tk / 8) % 8)))) % 16 - 1) → (¬ (xL2 (xShr l (16 + (4 * (tk % 8))))) % 16 = 9 + ((tk / 8) % 8)) → pmWp (pmRo Ln xs) d 3 74 0 54 [some (.ref 34), some (.long l), none, some (.ref cp), some (xV h), some (xV lose), some (xV lay), some (xV (i + 1)), some (xV tk), some (xV ((tk / 8) % 8)), some (xV (tk % 8)), some (xV (tk / 64)), some (xV 0), some (xV (a 41 (tk % 8) + ((a 6 (7 * (a 42 (tk % 8)) + ((xL2 (xShr l (4 * ((tk / 8) % 8)))) % 16 - 1))) * (c 1)) + (c 4))), some (xV (a 40 ((tk / 8) % 8))), some (xV ((xL2 (xShr l (4 * ((tk / 8) % 8)))) % 16 - 1)), some (xV 1), some (xV ((a 6 (7 * (a 42 (tk % 8)) + ((xL2 (xShr l (4 * ((tk / 8) % 8)))) % 16 - 1))) * (c 1)))] [] (xS (xU (xU a 37 i (a 41 (tk % 8) + ((a 6 (7 * (a 42 (tk % 8)) + ((xL2 (xShr l (4 * ((tk / 8) % 8)))) % 16 - 1))) * (c 1)) + (c 4))) 38 i 0) b) Q)
    (k22 : (¬ n ≤ i) → (¬ tk / 64 = 0) → (tk / 64 = 4) → (¬ (tk / 8) % 8 = f) → (¬ (xL2 (xShr l (4 * ((tk / 8) % 8)))) % 16 - 1 < 0) → (¬ 7 ≤ (xL2 (xShr l (4 * ((tk / 8) % 8)))) % 16 - 1) → ((xL2 (xShr l (16 + (4 * (tk % 8))))) % 16 = 9 + ((tk / 8) % 8)) → pmWp (pmRo Ln xs) d 3 74 0 54 [some (.ref 34), some (.long l), none, some (.ref cp), some (xV h), some (xV lose), some (xV lay), some (xV (i + 1)), some (xV tk), some (xV ((tk / 8) % 8)), some (xV (tk % 8)), some (xV (tk / 64)), some (xV 1), some (xV (a 41 (tk % 8) + ((a 6 (7 * (a 42 (tk % 8)) + ((xL2 (xShr l (4 * ((tk / 8) % 8)))) % 16 - 1))) * (c 1)) + (c 4))), some (xV (a 40 ((tk / 8) % 8))), some (xV ((xL2 (xShr l (4 * ((tk / 8) % 8)))) % 16 - 1)), some (xV 1), some (xV ((a 6 (7 * (a 42 (tk % 8)) + ((xL2 (xShr l (4 * ((tk / 8) % 8)))) % 16 - 1))) * (c 1)))] [] (xS (xU (xU a 37 i 0) 38 i (a 40 ((tk / 8) % 8))) b) Q)
    (k23 : (¬ n ≤ i) → (¬ tk / 64 = 0) → (tk / 64 = 4) → ((tk / 8) % 8 = f) → (¬ a 41 (tk % 8) = 0) → pmWp (pmRo Ln xs) d 3 74 0 54 [some (.ref 34), some (.long l), none, some (.ref cp), some (xV h), some (xV lose), some (xV lay), some (xV (i + 1)), some (xV tk), some (xV ((tk / 8) % 8)), some (xV (tk % 8)), some (xV (tk / 64)), some (xV 0), some (xV (a 41 (tk % 8))), some (xV lose), v15, v16, v17] [] (xS (xU (xU a 37 i (a 41 (tk % 8))) 38 i 0) b) Q)
    (k24 : (¬ n ≤ i) → (¬ tk / 64 = 0) → (tk / 64 = 4) → ((tk / 8) % 8 = f) → (a 41 (tk % 8) = 0) → pmWp (pmRo Ln xs) d 3 74 0 54 [some (.ref 34), some (.long l), none, some (.ref cp), some (xV h), some (xV lose), some (xV lay), some (xV (i + 1)), some (xV tk), some (xV ((tk / 8) % 8)), some (xV (tk % 8)), some (xV (tk / 64)), some (xV 1), some (xV (a 41 (tk % 8))), some (xV lose), v15, v16, v17] [] (xS (xU (xU a 37 i 0) 38 i lose) b) Q) :
    pmWp (pmRo Ln xs) d 3 74 0 54 [some (.ref 34), some (.long l), none, some (.ref cp), some (xV h), some (xV lose), some (xV lay), some (xV i), v8, v9, v10, v11, v12, v13, v14, v15, v16, v17] [] (xS a b) Q := by
  refine x_iload xc74_54 rfl ?_
  refine x_aloadn xc74_56 rfl ?_
  refine x_gfr xc74_57 rfl rfl xz34 rfl ?_
  refine x_gfr xc74_60 rfl rfl xz7 rfl ?_
  refine x_aloadn xc74_63 rfl ?_
  refine x_gfi' (k := 11) (v := wr) xc74_64 rfl (Or.inl rfl) rfl xz34 hw ?_
  refine x_ial' (v := n) xc74_67 xz9 rfl (by have g0 := hw0; omega) (by have g0 := hw0; omega) (by have g0 := hw0; omega) hn ?_
  refine x_icge xc74_68 (xRk (by have g0 := hi; omega)) (xRk (by have g0 := hn0; omega)) (fun h0 => ?_) (fun h0 => ?_)
  · refine x_ret xc74_585 rfl ?_
    exact k1 h0
  · refine x_aloadn xc74_71 rfl ?_
    refine x_gfr xc74_72 rfl rfl xz34 rfl ?_
    refine x_gfr xc74_75 rfl rfl xz7 rfl ?_
    refine x_aloadn xc74_78 rfl ?_
    refine x_gfi' (k := 11) (v := wr) xc74_79 rfl (Or.inl rfl) rfl xz34 hw ?_
    refine x_bipush xc74_82 (by decide) ?_
    refine x_imul xc74_84 ?_
    refine x_iload xc74_85 rfl ?_
    refine x_iadd xc74_87 ?_
    refine x_ial' (v := tk) xc74_88 xz8 rfl (by have g0 := hw0; have g1 := hi; omega) (by have g0 := hw0; have g1 := hi; omega) (by have g0 := hw0; have g1 := hi; omega) htok ?_
    refine x_istore (pl' := [some (.ref 34), some (.long l), none, some (.ref cp), some (xV h), some (xV lose), some (xV lay), some (xV i), some (xV tk), v9, v10, v11, v12, v13, v14, v15, v16, v17]) xc74_89 rfl rfl ?_
    refine x_iload xc74_91 rfl ?_
    refine x_iconst xc74_93 ?_
    refine x_ishr (M := 8) (by omega) (by omega) (by decide) (xRk (by have g0 := htk; omega)) xc74_94 ?_
    refine x_bipush xc74_95 (by decide) ?_
    refine x_iandm (M := 8) 3 (by decide) (by decide) (by decide) xc74_97 ?_
    refine x_istore (pl' := [some (.ref 34), some (.long l), none, some (.ref cp), some (xV h), some (xV lose), some (xV lay), some (xV i), some (xV tk), some (xV ((tk / 8) % 8)), v10, v11, v12, v13, v14, v15, v16, v17]) xc74_98 rfl rfl ?_
    refine x_iload xc74_100 rfl ?_
    refine x_bipush xc74_102 (by decide) ?_
    refine x_iandm (M := 8) 3 (by decide) (by decide) (by decide) xc74_104 ?_
    refine x_istore (pl' := [some (.ref 34), some (.long l), none, some (.ref cp), some (xV h), some (xV lose), some (xV lay), some (xV i), some (xV tk), some (xV ((tk / 8) % 8)), some (xV (tk % 8)), v11, v12, v13, v14, v15, v16, v17]) xc74_105 rfl rfl ?_
    refine x_iload xc74_107 rfl ?_
    refine x_bipush xc74_109 (by decide) ?_
    refine x_ishr (M := 64) (by omega) (by omega) (by decide) (xRk (by have g0 := htk; omega)) xc74_111 ?_
    refine x_istore (pl' := [some (.ref 34), some (.long l), none, some (.ref cp), some (xV h), some (xV lose), some (xV lay), some (xV i), some (xV tk), some (xV ((tk / 8) % 8)), some (xV (tk % 8)), some (xV (tk / 64)), v12, v13, v14, v15, v16, v17]) xc74_112 rfl rfl ?_
    refine x_iload xc74_114 rfl ?_
    refine x_istore (pl' := [some (.ref 34), some (.long l), none, some (.ref cp), some (xV h), some (xV lose), some (xV lay), some (xV i), some (xV tk), some (xV ((tk / 8) % 8)), some (xV (tk % 8)), some (xV (tk / 64)), v12, v13, some (xV lose), v15, v16, v17]) xc74_116 rfl rfl ?_
    refine x_iload xc74_118 rfl ?_
    refine x_ifeq xc74_120 (xRk (by have g0 := htk; omega)) (fun h1 => ?_) (fun h1 => ?_)
    · refine x_aloadn xc74_138 rfl ?_
      refine x_gfr xc74_139 rfl rfl xz34 rfl ?_
      refine x_iload xc74_142 rfl ?_
      refine x_ifne xc74_144 (xRk (by have g0 := htk; omega)) (fun h => absurd h (by omega)) (fun _ => ?_)
      refine x_iload xc74_147 rfl ?_
      refine x_goto xc74_149 ?_
      refine x_ial xc74_154 xz41 rfl (by have g0 := htk; omega) (by have g0 := htk; omega) (by have g0 := htk; omega) ?_
      refine x_istore (pl' := [some (.ref 34), some (.long l), none, some (.ref cp), some (xV h), some (xV lose), some (xV lay), some (xV i), some (xV tk), some (xV ((tk / 8) % 8)), some (xV (tk % 8)), some (xV (tk / 64)), v12, some (xV (a 41 ((tk / 8) % 8))), some (xV lose), v15, v16, v17]) xc74_155 rfl rfl ?_
      refine x_iload xc74_157 rfl ?_
      refine x_ifne xc74_159 (xRk (by have g0 := htk; have g1 := h41 ((tk / 8) % 8) (by omega) (by omega); omega)) (fun h3 => ?_) (fun h3 => ?_)
      · refine x_iconst xc74_166 ?_
        refine x_istore (pl' := [some (.ref 34), some (.long l), none, some (.ref cp), some (xV h), some (xV lose), some (xV lay), some (xV i), some (xV tk), some (xV ((tk / 8) % 8)), some (xV (tk % 8)), some (xV (tk / 64)), some (xV 0), some (xV (a 41 ((tk / 8) % 8))), some (xV lose), v15, v16, v17]) xc74_167 rfl rfl ?_
        refine x_goto xc74_169 ?_
        refine x_aloadn xc74_543 rfl ?_
        refine x_gfr xc74_544 rfl rfl xz34 rfl ?_
        refine x_iload xc74_547 rfl ?_
        refine x_iload xc74_549 rfl ?_
        refine x_ifeq xc74_551 (xRk (by decide)) (fun _ => ?_) (fun h => absurd h (by omega))
        refine x_iload xc74_558 rfl ?_
        refine x_ias xc74_560 xz37 (by have g0 := hi; omega) (by have g0 := hi; omega) (by have g0 := hi; omega) ?_
        refine x_aloadn xc74_561 rfl ?_
        refine x_gfr xc74_562 rfl rfl xz34 rfl ?_
        refine x_iload xc74_565 rfl ?_
        refine x_iload xc74_567 rfl ?_
        refine x_ifeq xc74_569 (xRk (by decide)) (fun _ => ?_) (fun h => absurd h (by omega))
        refine x_iconst xc74_577 ?_
        refine x_ias xc74_578 xz38 (by have g0 := hi; omega) (by have g0 := hi; omega) (by have g0 := hi; omega) ?_
        refine x_iinc (pl' := [some (.ref 34), some (.long l), none, some (.ref cp), some (xV h), some (xV lose), some (xV lay), some (xV (i + 1)), some (xV tk), some (xV ((tk / 8) % 8)), some (xV (tk % 8)), some (xV (tk / 64)), some (xV 0), some (xV (a 41 ((tk / 8) % 8))), some (xV lose), v15, v16, v17]) xc74_579 rfl rfl ?_
        refine x_goto xc74_582 ?_
        exact k2 h0 h1 h3
      · replace h3 := Classical.not_not.mp h3
        refine x_iconst xc74_162 ?_
        refine x_goto xc74_163 ?_
        refine x_istore (pl' := [some (.ref 34), some (.long l), none, some (.ref cp), some (xV h), some (xV lose), some (xV lay), some (xV i), some (xV tk), some (xV ((tk / 8) % 8)), some (xV (tk % 8)), some (xV (tk / 64)), some (xV 1), some (xV (a 41 ((tk / 8) % 8))), some (xV lose), v15, v16, v17]) xc74_167 rfl rfl ?_
        refine x_goto xc74_169 ?_
        refine x_aloadn xc74_543 rfl ?_
        refine x_gfr xc74_544 rfl rfl xz34 rfl ?_
        refine x_iload xc74_547 rfl ?_
        refine x_iload xc74_549 rfl ?_
        refine x_ifeq xc74_551 (xRk (by decide)) (fun h => absurd h (by omega)) (fun _ => ?_)
        refine x_iconst xc74_554 ?_
        refine x_goto xc74_555 ?_
        refine x_ias xc74_560 xz37 (by have g0 := hi; omega) (by have g0 := hi; omega) (by have g0 := hi; omega) ?_
        refine x_aloadn xc74_561 rfl ?_
        refine x_gfr xc74_562 rfl rfl xz34 rfl ?_
        refine x_iload xc74_565 rfl ?_
        refine x_iload xc74_567 rfl ?_
        refine x_ifeq xc74_569 (xRk (by decide)) (fun h => absurd h (by omega)) (fun _ => ?_)
        refine x_iload xc74_572 rfl ?_
        refine x_goto xc74_574 ?_
        refine x_ias xc74_578 xz38 (by have g0 := hi; omega) (by have g0 := hi; omega) (by have g0 := hi; omega) ?_
        refine x_iinc (pl' := [some (.ref 34), some (.long l), none, some (.ref cp), some (xV h), some (xV lose), some (xV lay), some (xV (i + 1)), some (xV tk), some (xV ((tk / 8) % 8)), some (xV (tk % 8)), some (xV (tk / 64)), some (xV 1), some (xV (a 41 ((tk / 8) % 8))), some (xV lose), v15, v16, v17]) xc74_579 rfl rfl ?_
        refine x_goto xc74_582 ?_
        exact k3 h0 h1 h3
    · refine x_iload xc74_123 rfl ?_
      refine x_iconst xc74_125 ?_
      refine x_icne xc74_126 (xRk (by have g0 := htk; omega)) (xRk (by decide)) (fun h8 => ?_) (fun h8 => ?_)
      · refine x_iload xc74_172 rfl ?_
        refine x_iconst xc74_174 ?_
        refine x_icne xc74_175 (xRk (by have g0 := htk; omega)) (xRk (by decide)) (fun h9 => ?_) (fun h9 => ?_)
        · refine x_iload xc74_222 rfl ?_
          refine x_iconst xc74_224 ?_
          refine x_icne xc74_225 (xRk (by have g0 := htk; omega)) (xRk (by decide)) (fun h10 => ?_) (fun h10 => ?_)
          · refine x_iload xc74_266 rfl ?_
            refine x_iconst xc74_268 ?_
            refine x_icne xc74_269 (xRk (by have g0 := htk; omega)) (xRk (by decide)) (fun h11 => ?_) (fun h11 => ?_)
            · refine x_iload xc74_414 rfl ?_
              refine x_iconst xc74_416 ?_
              refine x_icne xc74_417 (xRk (by have g0 := htk; omega)) (xRk (by decide)) (fun _ => ?_) (fun h => absurd h (by omega))
              refine x_iinc (pl' := [some (.ref 34), some (.long l), none, some (.ref cp), some (xV h), some (xV lose), some (xV lay), some (xV (i + 1)), some (xV tk), some (xV ((tk / 8) % 8)), some (xV (tk % 8)), some (xV (tk / 64)), v12, v13, some (xV lose), v15, v16, v17]) xc74_579 rfl rfl ?_
              refine x_goto xc74_582 ?_
              exact k4 h0 h1 h8 h9 h10 h11
            · replace h11 := Classical.not_not.mp h11
              refine x_lloadn xc74_272 rfl ?_
              refine x_bipush xc74_273 (by decide) ?_
              refine x_iconst xc74_275 ?_
              refine x_iload xc74_276 rfl ?_
              refine x_imul xc74_278 ?_
              refine x_iadd xc74_279 ?_
              refine x_lushr xc74_280 ?_
              refine x_l2i xc74_281 ?_
              refine x_bipush xc74_282 (by decide) ?_
              refine x_iandm (M := 16) 4 (by decide) (by decide) (by decide) xc74_284 ?_
              refine x_istore (pl' := [some (.ref 34), some (.long l), none, some (.ref cp), some (xV h), some (xV lose), some (xV lay), some (xV i), some (xV tk), some (xV ((tk / 8) % 8)), some (xV (tk % 8)), some (xV (tk / 64)), v12, v13, some (xV lose), some (xV ((xL2 (xShr l (16 + (4 * ((tk / 8) % 8))))) % 16)), v16, v17]) xc74_285 rfl rfl ?_
              refine x_iload xc74_287 rfl ?_
              refine x_iload xc74_289 rfl ?_
              refine x_iconst xc74_291 ?_
              refine x_iadd xc74_292 ?_
              refine x_icne xc74_293 (xRk (by have g0 := xL2B (xShr l (16 + (4 * ((tk / 8) % 8)))); omega)) (xRk (by have g0 := htk; omega)) (fun h13 => ?_) (fun h13 => ?_)
              · refine x_iconst xc74_300 ?_
                refine x_istore (pl' := [some (.ref 34), some (.long l), none, some (.ref cp), some (xV h), some (xV lose), some (xV lay), some (xV i), some (xV tk), some (xV ((tk / 8) % 8)), some (xV (tk % 8)), some (xV (tk / 64)), some (xV 0), v13, some (xV lose), some (xV ((xL2 (xShr l (16 + (4 * ((tk / 8) % 8))))) % 16)), v16, v17]) xc74_301 rfl rfl ?_
                refine x_iload xc74_303 rfl ?_
                refine x_bipush xc74_305 (by decide) ?_
                refine x_iclt xc74_307 (xRk (by have g0 := xL2B (xShr l (16 + (4 * ((tk / 8) % 8)))); omega)) (xRk (by decide)) (fun h14 => ?_) (fun h14 => ?_)
                · refine x_iconst xc74_338 ?_
                  refine x_istore (pl' := [some (.ref 34), some (.long l), none, some (.ref cp), some (xV h), some (xV lose), some (xV lay), some (xV i), some (xV tk), some (xV ((tk / 8) % 8)), some (xV (tk % 8)), some (xV (tk / 64)), some (xV 0), v13, some (xV lose), some (xV ((xL2 (xShr l (16 + (4 * ((tk / 8) % 8))))) % 16)), some (xV 0), v17]) xc74_339 rfl rfl ?_
                  refine x_aloadn xc74_341 rfl ?_
                  refine x_gfr xc74_342 rfl rfl xz34 rfl ?_
                  refine x_iload xc74_345 rfl ?_
                  refine x_ial xc74_347 xz41 rfl (by have g0 := htk; omega) (by have g0 := htk; omega) (by have g0 := htk; omega) ?_
                  refine x_aloadn xc74_348 rfl ?_
                  refine x_gfr xc74_349 rfl rfl xz34 rfl ?_
                  refine x_gfr xc74_352 rfl rfl xz3 rfl ?_
                  refine x_bipush xc74_355 (by decide) ?_
                  refine x_aloadn xc74_357 rfl ?_
                  refine x_gfr xc74_358 rfl rfl xz34 rfl ?_
                  refine x_iload xc74_361 rfl ?_
                  refine x_ial xc74_363 xz42 rfl (by have g0 := htk; omega) (by have g0 := htk; omega) (by have g0 := htk; omega) ?_
                  refine x_imul xc74_364 ?_
                  refine x_iload xc74_365 rfl ?_
                  refine x_iadd xc74_367 ?_
                  refine x_ial xc74_368 xz6 rfl (by have g0 := htk; have g1 := h42 ((tk / 8) % 8) (by omega) (by omega); omega) (by have g0 := htk; have g1 := h42 ((tk / 8) % 8) (by omega) (by omega); omega) (by have g0 := htk; have g1 := h42 ((tk / 8) % 8) (by omega) (by omega); omega) ?_
                  refine x_aloadn xc74_369 rfl ?_
                  refine x_iconst xc74_370 ?_
                  refine x_ialc hco xc74_371 (by omega) (by omega) ?_
                  refine x_imul xc74_372 ?_
                  refine x_iadd xc74_373 ?_
                  refine x_iload xc74_374 rfl ?_
                  refine x_iadd xc74_376 ?_
                  refine x_istore (pl' := [some (.ref 34), some (.long l), none, some (.ref cp), some (xV h), some (xV lose), some (xV lay), some (xV i), some (xV tk), some (xV ((tk / 8) % 8)), some (xV (tk % 8)), some (xV (tk / 64)), some (xV 0), v13, some (xV lose), some (xV ((xL2 (xShr l (16 + (4 * ((tk / 8) % 8))))) % 16)), some (xV 0), some (xV (a 41 ((tk / 8) % 8) + ((a 6 (7 * (a 42 ((tk / 8) % 8)) + (tk % 8))) * (c 1)) + lay))]) xc74_377 rfl rfl ?_
                  refine x_iload xc74_379 rfl ?_
                  refine x_ifeq xc74_381 (xRk (by decide)) (fun _ => ?_) (fun h => absurd h (by omega))
                  refine x_iload xc74_398 rfl ?_
                  refine x_istore (pl' := [some (.ref 34), some (.long l), none, some (.ref cp), some (xV h), some (xV lose), some (xV lay), some (xV i), some (xV tk), some (xV ((tk / 8) % 8)), some (xV (tk % 8)), some (xV (tk / 64)), some (xV 0), some (xV (a 41 ((tk / 8) % 8) + ((a 6 (7 * (a 42 ((tk / 8) % 8)) + (tk % 8))) * (c 1)) + lay)), some (xV lose), some (xV ((xL2 (xShr l (16 + (4 * ((tk / 8) % 8))))) % 16)), some (xV 0), some (xV (a 41 ((tk / 8) % 8) + ((a 6 (7 * (a 42 ((tk / 8) % 8)) + (tk % 8))) * (c 1)) + lay))]) xc74_400 rfl rfl ?_
                  refine x_aloadn xc74_402 rfl ?_
                  refine x_gfr xc74_403 rfl rfl xz34 rfl ?_
                  refine x_iload xc74_406 rfl ?_
                  refine x_ial xc74_408 xz41 rfl (by have g0 := htk; omega) (by have g0 := htk; omega) (by have g0 := htk; omega) ?_
                  refine x_istore (pl' := [some (.ref 34), some (.long l), none, some (.ref cp), some (xV h), some (xV lose), some (xV lay), some (xV i), some (xV tk), some (xV ((tk / 8) % 8)), some (xV (tk % 8)), some (xV (tk / 64)), some (xV 0), some (xV (a 41 ((tk / 8) % 8) + ((a 6 (7 * (a 42 ((tk / 8) % 8)) + (tk % 8))) * (c 1)) + lay)), some (xV (a 41 ((tk / 8) % 8))), some (xV ((xL2 (xShr l (16 + (4 * ((tk / 8) % 8))))) % 16)), some (xV 0), some (xV (a 41 ((tk / 8) % 8) + ((a 6 (7 * (a 42 ((tk / 8) % 8)) + (tk % 8))) * (c 1)) + lay))]) xc74_409 rfl rfl ?_
                  refine x_goto xc74_411 ?_
                  refine x_aloadn xc74_543 rfl ?_
                  refine x_gfr xc74_544 rfl rfl xz34 rfl ?_
                  refine x_iload xc74_547 rfl ?_
                  refine x_iload xc74_549 rfl ?_
                  refine x_ifeq xc74_551 (xRk (by decide)) (fun _ => ?_) (fun h => absurd h (by omega))
                  refine x_iload xc74_558 rfl ?_
                  refine x_ias xc74_560 xz37 (by have g0 := hi; omega) (by have g0 := hi; omega) (by have g0 := hi; omega) ?_
                  refine x_aloadn xc74_561 rfl ?_
                  refine x_gfr xc74_562 rfl rfl xz34 rfl ?_
                  refine x_iload xc74_565 rfl ?_
                  refine x_iload xc74_567 rfl ?_
                  refine x_ifeq xc74_569 (xRk (by decide)) (fun _ => ?_) (fun h => absurd h (by omega))
                  refine x_iconst xc74_577 ?_
                  refine x_ias xc74_578 xz38 (by have g0 := hi; omega) (by have g0 := hi; omega) (by have g0 := hi; omega) ?_
                  refine x_iinc (pl' := [some (.ref 34), some (.long l), none, some (.ref cp), some (xV h), some (xV lose), some (xV lay), some (xV (i + 1)), some (xV tk), some (xV ((tk / 8) % 8)), some (xV (tk % 8)), some (xV (tk / 64)), some (xV 0), some (xV (a 41 ((tk / 8) % 8) + ((a 6 (7 * (a 42 ((tk / 8) % 8)) + (tk % 8))) * (c 1)) + lay)), some (xV (a 41 ((tk / 8) % 8))), some (xV ((xL2 (xShr l (16 + (4 * ((tk / 8) % 8))))) % 16)), some (xV 0), some (xV (a 41 ((tk / 8) % 8) + ((a 6 (7 * (a 42 ((tk / 8) % 8)) + (tk % 8))) * (c 1)) + lay))]) xc74_579 rfl rfl ?_
                  refine x_goto xc74_582 ?_
                  exact k5 h0 h1 h8 h9 h10 h11 h13 h14
                · refine x_iload xc74_310 rfl ?_
                  refine x_bipush xc74_312 (by decide) ?_
                  refine x_aloadn xc74_314 rfl ?_
                  refine x_gfi' (k := 10) (v := f) xc74_315 rfl (Or.inl rfl) rfl xz34 hf ?_
                  refine x_iadd xc74_318 ?_
                  refine x_iceq xc74_319 (xRk (by have g0 := xL2B (xShr l (16 + (4 * ((tk / 8) % 8)))); omega)) (xRk (by have g0 := hf0; omega)) (fun h18 => ?_) (fun h18 => ?_)
                  · refine x_iconst xc74_338 ?_
                    refine x_istore (pl' := [some (.ref 34), some (.long l), none, some (.ref cp), some (xV h), some (xV lose), some (xV lay), some (xV i), some (xV tk), some (xV ((tk / 8) % 8)), some (xV (tk % 8)), some (xV (tk / 64)), some (xV 0), v13, some (xV lose), some (xV ((xL2 (xShr l (16 + (4 * ((tk / 8) % 8))))) % 16)), some (xV 0), v17]) xc74_339 rfl rfl ?_
                    refine x_aloadn xc74_341 rfl ?_
                    refine x_gfr xc74_342 rfl rfl xz34 rfl ?_
                    refine x_iload xc74_345 rfl ?_
                    refine x_ial xc74_347 xz41 rfl (by have g0 := htk; omega) (by have g0 := htk; omega) (by have g0 := htk; omega) ?_
                    refine x_aloadn xc74_348 rfl ?_
                    refine x_gfr xc74_349 rfl rfl xz34 rfl ?_
                    refine x_gfr xc74_352 rfl rfl xz3 rfl ?_
                    refine x_bipush xc74_355 (by decide) ?_
                    refine x_aloadn xc74_357 rfl ?_
                    refine x_gfr xc74_358 rfl rfl xz34 rfl ?_
                    refine x_iload xc74_361 rfl ?_
                    refine x_ial xc74_363 xz42 rfl (by have g0 := htk; omega) (by have g0 := htk; omega) (by have g0 := htk; omega) ?_
                    refine x_imul xc74_364 ?_
                    refine x_iload xc74_365 rfl ?_
                    refine x_iadd xc74_367 ?_
                    refine x_ial xc74_368 xz6 rfl (by have g0 := htk; have g1 := h42 ((tk / 8) % 8) (by omega) (by omega); omega) (by have g0 := htk; have g1 := h42 ((tk / 8) % 8) (by omega) (by omega); omega) (by have g0 := htk; have g1 := h42 ((tk / 8) % 8) (by omega) (by omega); omega) ?_
                    refine x_aloadn xc74_369 rfl ?_
                    refine x_iconst xc74_370 ?_
                    refine x_ialc hco xc74_371 (by omega) (by omega) ?_
                    refine x_imul xc74_372 ?_
                    refine x_iadd xc74_373 ?_
                    refine x_iload xc74_374 rfl ?_
                    refine x_iadd xc74_376 ?_
                    refine x_istore (pl' := [some (.ref 34), some (.long l), none, some (.ref cp), some (xV h), some (xV lose), some (xV lay), some (xV i), some (xV tk), some (xV ((tk / 8) % 8)), some (xV (tk % 8)), some (xV (tk / 64)), some (xV 0), v13, some (xV lose), some (xV ((xL2 (xShr l (16 + (4 * ((tk / 8) % 8))))) % 16)), some (xV 0), some (xV (a 41 ((tk / 8) % 8) + ((a 6 (7 * (a 42 ((tk / 8) % 8)) + (tk % 8))) * (c 1)) + lay))]) xc74_377 rfl rfl ?_
                    refine x_iload xc74_379 rfl ?_
                    refine x_ifeq xc74_381 (xRk (by decide)) (fun _ => ?_) (fun h => absurd h (by omega))
                    refine x_iload xc74_398 rfl ?_
                    refine x_istore (pl' := [some (.ref 34), some (.long l), none, some (.ref cp), some (xV h), some (xV lose), some (xV lay), some (xV i), some (xV tk), some (xV ((tk / 8) % 8)), some (xV (tk % 8)), some (xV (tk / 64)), some (xV 0), some (xV (a 41 ((tk / 8) % 8) + ((a 6 (7 * (a 42 ((tk / 8) % 8)) + (tk % 8))) * (c 1)) + lay)), some (xV lose), some (xV ((xL2 (xShr l (16 + (4 * ((tk / 8) % 8))))) % 16)), some (xV 0), some (xV (a 41 ((tk / 8) % 8) + ((a 6 (7 * (a 42 ((tk / 8) % 8)) + (tk % 8))) * (c 1)) + lay))]) xc74_400 rfl rfl ?_
                    refine x_aloadn xc74_402 rfl ?_
                    refine x_gfr xc74_403 rfl rfl xz34 rfl ?_
                    refine x_iload xc74_406 rfl ?_
                    refine x_ial xc74_408 xz41 rfl (by have g0 := htk; omega) (by have g0 := htk; omega) (by have g0 := htk; omega) ?_
                    refine x_istore (pl' := [some (.ref 34), some (.long l), none, some (.ref cp), some (xV h), some (xV lose), some (xV lay), some (xV i), some (xV tk), some (xV ((tk / 8) % 8)), some (xV (tk % 8)), some (xV (tk / 64)), some (xV 0), some (xV (a 41 ((tk / 8) % 8) + ((a 6 (7 * (a 42 ((tk / 8) % 8)) + (tk % 8))) * (c 1)) + lay)), some (xV (a 41 ((tk / 8) % 8))), some (xV ((xL2 (xShr l (16 + (4 * ((tk / 8) % 8))))) % 16)), some (xV 0), some (xV (a 41 ((tk / 8) % 8) + ((a 6 (7 * (a 42 ((tk / 8) % 8)) + (tk % 8))) * (c 1)) + lay))]) xc74_409 rfl rfl ?_
                    refine x_goto xc74_411 ?_
                    refine x_aloadn xc74_543 rfl ?_
                    refine x_gfr xc74_544 rfl rfl xz34 rfl ?_
                    refine x_iload xc74_547 rfl ?_
                    refine x_iload xc74_549 rfl ?_
                    refine x_ifeq xc74_551 (xRk (by decide)) (fun _ => ?_) (fun h => absurd h (by omega))
                    refine x_iload xc74_558 rfl ?_
                    refine x_ias xc74_560 xz37 (by have g0 := hi; omega) (by have g0 := hi; omega) (by have g0 := hi; omega) ?_
                    refine x_aloadn xc74_561 rfl ?_
                    refine x_gfr xc74_562 rfl rfl xz34 rfl ?_
                    refine x_iload xc74_565 rfl ?_
                    refine x_iload xc74_567 rfl ?_
                    refine x_ifeq xc74_569 (xRk (by decide)) (fun _ => ?_) (fun h => absurd h (by omega))
                    refine x_iconst xc74_577 ?_
                    refine x_ias xc74_578 xz38 (by have g0 := hi; omega) (by have g0 := hi; omega) (by have g0 := hi; omega) ?_
                    refine x_iinc (pl' := [some (.ref 34), some (.long l), none, some (.ref cp), some (xV h), some (xV lose), some (xV lay), some (xV (i + 1)), some (xV tk), some (xV ((tk / 8) % 8)), some (xV (tk % 8)), some (xV (tk / 64)), some (xV 0), some (xV (a 41 ((tk / 8) % 8) + ((a 6 (7 * (a 42 ((tk / 8) % 8)) + (tk % 8))) * (c 1)) + lay)), some (xV (a 41 ((tk / 8) % 8))), some (xV ((xL2 (xShr l (16 + (4 * ((tk / 8) % 8))))) % 16)), some (xV 0), some (xV (a 41 ((tk / 8) % 8) + ((a 6 (7 * (a 42 ((tk / 8) % 8)) + (tk % 8))) * (c 1)) + lay))]) xc74_579 rfl rfl ?_
                    refine x_goto xc74_582 ?_
                    exact k6 h0 h1 h8 h9 h10 h11 h13 h14 h18
                  · refine x_aloadn xc74_322 rfl ?_
                    refine x_gfr xc74_323 rfl rfl xz34 rfl ?_
                    refine x_iload xc74_326 rfl ?_
                    refine x_ial xc74_328 xz42 rfl (by have g0 := htk; omega) (by have g0 := htk; omega) (by have g0 := htk; omega) ?_
                    refine x_iload xc74_329 rfl ?_
                    refine x_icne xc74_331 (xRk (by have g0 := htk; have g1 := h42 ((tk / 8) % 8) (by omega) (by omega); omega)) (xRk (by have g0 := htk; omega)) (fun h22 => ?_) (fun h22 => ?_)
                    · refine x_iconst xc74_338 ?_
                      refine x_istore (pl' := [some (.ref 34), some (.long l), none, some (.ref cp), some (xV h), some (xV lose), some (xV lay), some (xV i), some (xV tk), some (xV ((tk / 8) % 8)), some (xV (tk % 8)), some (xV (tk / 64)), some (xV 0), v13, some (xV lose), some (xV ((xL2 (xShr l (16 + (4 * ((tk / 8) % 8))))) % 16)), some (xV 0), v17]) xc74_339 rfl rfl ?_
                      refine x_aloadn xc74_341 rfl ?_
                      refine x_gfr xc74_342 rfl rfl xz34 rfl ?_
                      refine x_iload xc74_345 rfl ?_
                      refine x_ial xc74_347 xz41 rfl (by have g0 := htk; omega) (by have g0 := htk; omega) (by have g0 := htk; omega) ?_
                      refine x_aloadn xc74_348 rfl ?_
                      refine x_gfr xc74_349 rfl rfl xz34 rfl ?_
                      refine x_gfr xc74_352 rfl rfl xz3 rfl ?_
                      refine x_bipush xc74_355 (by decide) ?_
                      refine x_aloadn xc74_357 rfl ?_
                      refine x_gfr xc74_358 rfl rfl xz34 rfl ?_
                      refine x_iload xc74_361 rfl ?_
                      refine x_ial xc74_363 xz42 rfl (by have g0 := htk; omega) (by have g0 := htk; omega) (by have g0 := htk; omega) ?_
                      refine x_imul xc74_364 ?_
                      refine x_iload xc74_365 rfl ?_
                      refine x_iadd xc74_367 ?_
                      refine x_ial xc74_368 xz6 rfl (by have g0 := htk; have g1 := h42 ((tk / 8) % 8) (by omega) (by omega); omega) (by have g0 := htk; have g1 := h42 ((tk / 8) % 8) (by omega) (by omega); omega) (by have g0 := htk; have g1 := h42 ((tk / 8) % 8) (by omega) (by omega); omega) ?_
                      refine x_aloadn xc74_369 rfl ?_
                      refine x_iconst xc74_370 ?_
                      refine x_ialc hco xc74_371 (by omega) (by omega) ?_
                      refine x_imul xc74_372 ?_
                      refine x_iadd xc74_373 ?_
                      refine x_iload xc74_374 rfl ?_
                      refine x_iadd xc74_376 ?_
                      refine x_istore (pl' := [some (.ref 34), some (.long l), none, some (.ref cp), some (xV h), some (xV lose), some (xV lay), some (xV i), some (xV tk), some (xV ((tk / 8) % 8)), some (xV (tk % 8)), some (xV (tk / 64)), some (xV 0), v13, some (xV lose), some (xV ((xL2 (xShr l (16 + (4 * ((tk / 8) % 8))))) % 16)), some (xV 0), some (xV (a 41 ((tk / 8) % 8) + ((a 6 (7 * (a 42 ((tk / 8) % 8)) + (tk % 8))) * (c 1)) + lay))]) xc74_377 rfl rfl ?_
                      refine x_iload xc74_379 rfl ?_
                      refine x_ifeq xc74_381 (xRk (by decide)) (fun _ => ?_) (fun h => absurd h (by omega))
                      refine x_iload xc74_398 rfl ?_
                      refine x_istore (pl' := [some (.ref 34), some (.long l), none, some (.ref cp), some (xV h), some (xV lose), some (xV lay), some (xV i), some (xV tk), some (xV ((tk / 8) % 8)), some (xV (tk % 8)), some (xV (tk / 64)), some (xV 0), some (xV (a 41 ((tk / 8) % 8) + ((a 6 (7 * (a 42 ((tk / 8) % 8)) + (tk % 8))) * (c 1)) + lay)), some (xV lose), some (xV ((xL2 (xShr l (16 + (4 * ((tk / 8) % 8))))) % 16)), some (xV 0), some (xV (a 41 ((tk / 8) % 8) + ((a 6 (7 * (a 42 ((tk / 8) % 8)) + (tk % 8))) * (c 1)) + lay))]) xc74_400 rfl rfl ?_
                      refine x_aloadn xc74_402 rfl ?_
                      refine x_gfr xc74_403 rfl rfl xz34 rfl ?_
                      refine x_iload xc74_406 rfl ?_
                      refine x_ial xc74_408 xz41 rfl (by have g0 := htk; omega) (by have g0 := htk; omega) (by have g0 := htk; omega) ?_
                      refine x_istore (pl' := [some (.ref 34), some (.long l), none, some (.ref cp), some (xV h), some (xV lose), some (xV lay), some (xV i), some (xV tk), some (xV ((tk / 8) % 8)), some (xV (tk % 8)), some (xV (tk / 64)), some (xV 0), some (xV (a 41 ((tk / 8) % 8) + ((a 6 (7 * (a 42 ((tk / 8) % 8)) + (tk % 8))) * (c 1)) + lay)), some (xV (a 41 ((tk / 8) % 8))), some (xV ((xL2 (xShr l (16 + (4 * ((tk / 8) % 8))))) % 16)), some (xV 0), some (xV (a 41 ((tk / 8) % 8) + ((a 6 (7 * (a 42 ((tk / 8) % 8)) + (tk % 8))) * (c 1)) + lay))]) xc74_409 rfl rfl ?_
                      refine x_goto xc74_411 ?_
                      refine x_aloadn xc74_543 rfl ?_
                      refine x_gfr xc74_544 rfl rfl xz34 rfl ?_
                      refine x_iload xc74_547 rfl ?_
                      refine x_iload xc74_549 rfl ?_
                      refine x_ifeq xc74_551 (xRk (by decide)) (fun _ => ?_) (fun h => absurd h (by omega))
                      refine x_iload xc74_558 rfl ?_
                      refine x_ias xc74_560 xz37 (by have g0 := hi; omega) (by have g0 := hi; omega) (by have g0 := hi; omega) ?_
                      refine x_aloadn xc74_561 rfl ?_
                      refine x_gfr xc74_562 rfl rfl xz34 rfl ?_
                      refine x_iload xc74_565 rfl ?_
                      refine x_iload xc74_567 rfl ?_
                      refine x_ifeq xc74_569 (xRk (by decide)) (fun _ => ?_) (fun h => absurd h (by omega))
                      refine x_iconst xc74_577 ?_
                      refine x_ias xc74_578 xz38 (by have g0 := hi; omega) (by have g0 := hi; omega) (by have g0 := hi; omega) ?_
                      refine x_iinc (pl' := [some (.ref 34), some (.long l), none, some (.ref cp), some (xV h), some (xV lose), some (xV lay), some (xV (i + 1)), some (xV tk), some (xV ((tk / 8) % 8)), some (xV (tk % 8)), some (xV (tk / 64)), some (xV 0), some (xV (a 41 ((tk / 8) % 8) + ((a 6 (7 * (a 42 ((tk / 8) % 8)) + (tk % 8))) * (c 1)) + lay)), some (xV (a 41 ((tk / 8) % 8))), some (xV ((xL2 (xShr l (16 + (4 * ((tk / 8) % 8))))) % 16)), some (xV 0), some (xV (a 41 ((tk / 8) % 8) + ((a 6 (7 * (a 42 ((tk / 8) % 8)) + (tk % 8))) * (c 1)) + lay))]) xc74_579 rfl rfl ?_
                      refine x_goto xc74_582 ?_
                      exact k7 h0 h1 h8 h9 h10 h11 h13 h14 h18 h22
                    · replace h22 := Classical.not_not.mp h22
                      refine x_iconst xc74_334 ?_
                      refine x_goto xc74_335 ?_
                      refine x_istore (pl' := [some (.ref 34), some (.long l), none, some (.ref cp), some (xV h), some (xV lose), some (xV lay), some (xV i), some (xV tk), some (xV ((tk / 8) % 8)), some (xV (tk % 8)), some (xV (tk / 64)), some (xV 0), v13, some (xV lose), some (xV ((xL2 (xShr l (16 + (4 * ((tk / 8) % 8))))) % 16)), some (xV 1), v17]) xc74_339 rfl rfl ?_
                      refine x_aloadn xc74_341 rfl ?_
                      refine x_gfr xc74_342 rfl rfl xz34 rfl ?_
                      refine x_iload xc74_345 rfl ?_
                      refine x_ial xc74_347 xz41 rfl (by have g0 := htk; omega) (by have g0 := htk; omega) (by have g0 := htk; omega) ?_
                      refine x_aloadn xc74_348 rfl ?_
                      refine x_gfr xc74_349 rfl rfl xz34 rfl ?_
                      refine x_gfr xc74_352 rfl rfl xz3 rfl ?_
                      refine x_bipush xc74_355 (by decide) ?_
                      refine x_aloadn xc74_357 rfl ?_
                      refine x_gfr xc74_358 rfl rfl xz34 rfl ?_
                      refine x_iload xc74_361 rfl ?_
                      refine x_ial xc74_363 xz42 rfl (by have g0 := htk; omega) (by have g0 := htk; omega) (by have g0 := htk; omega) ?_
                      refine x_imul xc74_364 ?_
                      refine x_iload xc74_365 rfl ?_
                      refine x_iadd xc74_367 ?_
                      refine x_ial xc74_368 xz6 rfl (by have g0 := htk; have g1 := h42 ((tk / 8) % 8) (by omega) (by omega); omega) (by have g0 := htk; have g1 := h42 ((tk / 8) % 8) (by omega) (by omega); omega) (by have g0 := htk; have g1 := h42 ((tk / 8) % 8) (by omega) (by omega); omega) ?_
                      refine x_aloadn xc74_369 rfl ?_
                      refine x_iconst xc74_370 ?_
                      refine x_ialc hco xc74_371 (by omega) (by omega) ?_
                      refine x_imul xc74_372 ?_
                      refine x_iadd xc74_373 ?_
                      refine x_iload xc74_374 rfl ?_
                      refine x_iadd xc74_376 ?_
                      refine x_istore (pl' := [some (.ref 34), some (.long l), none, some (.ref cp), some (xV h), some (xV lose), some (xV lay), some (xV i), some (xV tk), some (xV ((tk / 8) % 8)), some (xV (tk % 8)), some (xV (tk / 64)), some (xV 0), v13, some (xV lose), some (xV ((xL2 (xShr l (16 + (4 * ((tk / 8) % 8))))) % 16)), some (xV 1), some (xV (a 41 ((tk / 8) % 8) + ((a 6 (7 * (a 42 ((tk / 8) % 8)) + (tk % 8))) * (c 1)) + lay))]) xc74_377 rfl rfl ?_
                      refine x_iload xc74_379 rfl ?_
                      refine x_ifeq xc74_381 (xRk (by decide)) (fun h => absurd h (by omega)) (fun _ => ?_)
                      refine x_aloadn xc74_384 rfl ?_
                      refine x_gfr xc74_385 rfl rfl xz34 rfl ?_
                      refine x_iload xc74_388 rfl ?_
                      refine x_ial xc74_390 xz41 rfl (by have g0 := htk; omega) (by have g0 := htk; omega) (by have g0 := htk; omega) ?_
                      refine x_aloadn xc74_391 rfl ?_
                      refine x_iconst xc74_392 ?_
                      refine x_ialc hco xc74_393 (by omega) (by omega) ?_
                      refine x_isub xc74_394 ?_
                      refine x_goto xc74_395 ?_
                      refine x_istore (pl' := [some (.ref 34), some (.long l), none, some (.ref cp), some (xV h), some (xV lose), some (xV lay), some (xV i), some (xV tk), some (xV ((tk / 8) % 8)), some (xV (tk % 8)), some (xV (tk / 64)), some (xV 0), some (xV (a 41 ((tk / 8) % 8) - (c 2))), some (xV lose), some (xV ((xL2 (xShr l (16 + (4 * ((tk / 8) % 8))))) % 16)), some (xV 1), some (xV (a 41 ((tk / 8) % 8) + ((a 6 (7 * (a 42 ((tk / 8) % 8)) + (tk % 8))) * (c 1)) + lay))]) xc74_400 rfl rfl ?_
                      refine x_aloadn xc74_402 rfl ?_
                      refine x_gfr xc74_403 rfl rfl xz34 rfl ?_
                      refine x_iload xc74_406 rfl ?_
                      refine x_ial xc74_408 xz41 rfl (by have g0 := htk; omega) (by have g0 := htk; omega) (by have g0 := htk; omega) ?_
                      refine x_istore (pl' := [some (.ref 34), some (.long l), none, some (.ref cp), some (xV h), some (xV lose), some (xV lay), some (xV i), some (xV tk), some (xV ((tk / 8) % 8)), some (xV (tk % 8)), some (xV (tk / 64)), some (xV 0), some (xV (a 41 ((tk / 8) % 8) - (c 2))), some (xV (a 41 ((tk / 8) % 8))), some (xV ((xL2 (xShr l (16 + (4 * ((tk / 8) % 8))))) % 16)), some (xV 1), some (xV (a 41 ((tk / 8) % 8) + ((a 6 (7 * (a 42 ((tk / 8) % 8)) + (tk % 8))) * (c 1)) + lay))]) xc74_409 rfl rfl ?_
                      refine x_goto xc74_411 ?_
                      refine x_aloadn xc74_543 rfl ?_
                      refine x_gfr xc74_544 rfl rfl xz34 rfl ?_
                      refine x_iload xc74_547 rfl ?_
                      refine x_iload xc74_549 rfl ?_
                      refine x_ifeq xc74_551 (xRk (by decide)) (fun _ => ?_) (fun h => absurd h (by omega))
                      refine x_iload xc74_558 rfl ?_
                      refine x_ias xc74_560 xz37 (by have g0 := hi; omega) (by have g0 := hi; omega) (by have g0 := hi; omega) ?_
                      refine x_aloadn xc74_561 rfl ?_
                      refine x_gfr xc74_562 rfl rfl xz34 rfl ?_
                      refine x_iload xc74_565 rfl ?_
                      refine x_iload xc74_567 rfl ?_
                      refine x_ifeq xc74_569 (xRk (by decide)) (fun _ => ?_) (fun h => absurd h (by omega))
                      refine x_iconst xc74_577 ?_
                      refine x_ias xc74_578 xz38 (by have g0 := hi; omega) (by have g0 := hi; omega) (by have g0 := hi; omega) ?_
                      refine x_iinc (pl' := [some (.ref 34), some (.long l), none, some (.ref cp), some (xV h), some (xV lose), some (xV lay), some (xV (i + 1)), some (xV tk), some (xV ((tk / 8) % 8)), some (xV (tk % 8)), some (xV (tk / 64)), some (xV 0), some (xV (a 41 ((tk / 8) % 8) - (c 2))), some (xV (a 41 ((tk / 8) % 8))), some (xV ((xL2 (xShr l (16 + (4 * ((tk / 8) % 8))))) % 16)), some (xV 1), some (xV (a 41 ((tk / 8) % 8) + ((a 6 (7 * (a 42 ((tk / 8) % 8)) + (tk % 8))) * (c 1)) + lay))]) xc74_579 rfl rfl ?_
                      refine x_goto xc74_582 ?_
                      exact k8 h0 h1 h8 h9 h10 h11 h13 h14 h18 h22
              · replace h13 := Classical.not_not.mp h13
                refine x_iconst xc74_296 ?_
                refine x_goto xc74_297 ?_
                refine x_istore (pl' := [some (.ref 34), some (.long l), none, some (.ref cp), some (xV h), some (xV lose), some (xV lay), some (xV i), some (xV tk), some (xV ((tk / 8) % 8)), some (xV (tk % 8)), some (xV (tk / 64)), some (xV 1), v13, some (xV lose), some (xV ((xL2 (xShr l (16 + (4 * ((tk / 8) % 8))))) % 16)), v16, v17]) xc74_301 rfl rfl ?_
                refine x_iload xc74_303 rfl ?_
                refine x_bipush xc74_305 (by decide) ?_
                refine x_iclt xc74_307 (xRk (by have g0 := xL2B (xShr l (16 + (4 * ((tk / 8) % 8)))); omega)) (xRk (by decide)) (fun h29 => ?_) (fun h29 => ?_)
                · refine x_iconst xc74_338 ?_
                  refine x_istore (pl' := [some (.ref 34), some (.long l), none, some (.ref cp), some (xV h), some (xV lose), some (xV lay), some (xV i), some (xV tk), some (xV ((tk / 8) % 8)), some (xV (tk % 8)), some (xV (tk / 64)), some (xV 1), v13, some (xV lose), some (xV ((xL2 (xShr l (16 + (4 * ((tk / 8) % 8))))) % 16)), some (xV 0), v17]) xc74_339 rfl rfl ?_
                  refine x_aloadn xc74_341 rfl ?_
                  refine x_gfr xc74_342 rfl rfl xz34 rfl ?_
                  refine x_iload xc74_345 rfl ?_
                  refine x_ial xc74_347 xz41 rfl (by have g0 := htk; omega) (by have g0 := htk; omega) (by have g0 := htk; omega) ?_
                  refine x_aloadn xc74_348 rfl ?_
                  refine x_gfr xc74_349 rfl rfl xz34 rfl ?_
                  refine x_gfr xc74_352 rfl rfl xz3 rfl ?_
                  refine x_bipush xc74_355 (by decide) ?_
                  refine x_aloadn xc74_357 rfl ?_
                  refine x_gfr xc74_358 rfl rfl xz34 rfl ?_
                  refine x_iload xc74_361 rfl ?_
                  refine x_ial xc74_363 xz42 rfl (by have g0 := htk; omega) (by have g0 := htk; omega) (by have g0 := htk; omega) ?_
                  refine x_imul xc74_364 ?_
                  refine x_iload xc74_365 rfl ?_
                  refine x_iadd xc74_367 ?_
                  refine x_ial xc74_368 xz6 rfl (by have g0 := htk; have g1 := h42 ((tk / 8) % 8) (by omega) (by omega); omega) (by have g0 := htk; have g1 := h42 ((tk / 8) % 8) (by omega) (by omega); omega) (by have g0 := htk; have g1 := h42 ((tk / 8) % 8) (by omega) (by omega); omega) ?_
                  refine x_aloadn xc74_369 rfl ?_
                  refine x_iconst xc74_370 ?_
                  refine x_ialc hco xc74_371 (by omega) (by omega) ?_
                  refine x_imul xc74_372 ?_
                  refine x_iadd xc74_373 ?_
                  refine x_iload xc74_374 rfl ?_
                  refine x_iadd xc74_376 ?_
                  refine x_istore (pl' := [some (.ref 34), some (.long l), none, some (.ref cp), some (xV h), some (xV lose), some (xV lay), some (xV i), some (xV tk), some (xV ((tk / 8) % 8)), some (xV (tk % 8)), some (xV (tk / 64)), some (xV 1), v13, some (xV lose), some (xV ((xL2 (xShr l (16 + (4 * ((tk / 8) % 8))))) % 16)), some (xV 0), some (xV (a 41 ((tk / 8) % 8) + ((a 6 (7 * (a 42 ((tk / 8) % 8)) + (tk % 8))) * (c 1)) + lay))]) xc74_377 rfl rfl ?_
                  refine x_iload xc74_379 rfl ?_
                  refine x_ifeq xc74_381 (xRk (by decide)) (fun _ => ?_) (fun h => absurd h (by omega))
                  refine x_iload xc74_398 rfl ?_
                  refine x_istore (pl' := [some (.ref 34), some (.long l), none, some (.ref cp), some (xV h), some (xV lose), some (xV lay), some (xV i), some (xV tk), some (xV ((tk / 8) % 8)), some (xV (tk % 8)), some (xV (tk / 64)), some (xV 1), some (xV (a 41 ((tk / 8) % 8) + ((a 6 (7 * (a 42 ((tk / 8) % 8)) + (tk % 8))) * (c 1)) + lay)), some (xV lose), some (xV ((xL2 (xShr l (16 + (4 * ((tk / 8) % 8))))) % 16)), some (xV 0), some (xV (a 41 ((tk / 8) % 8) + ((a 6 (7 * (a 42 ((tk / 8) % 8)) + (tk % 8))) * (c 1)) + lay))]) xc74_400 rfl rfl ?_
                  refine x_aloadn xc74_402 rfl ?_
                  refine x_gfr xc74_403 rfl rfl xz34 rfl ?_
                  refine x_iload xc74_406 rfl ?_
                  refine x_ial xc74_408 xz41 rfl (by have g0 := htk; omega) (by have g0 := htk; omega) (by have g0 := htk; omega) ?_
                  refine x_istore (pl' := [some (.ref 34), some (.long l), none, some (.ref cp), some (xV h), some (xV lose), some (xV lay), some (xV i), some (xV tk), some (xV ((tk / 8) % 8)), some (xV (tk % 8)), some (xV (tk / 64)), some (xV 1), some (xV (a 41 ((tk / 8) % 8) + ((a 6 (7 * (a 42 ((tk / 8) % 8)) + (tk % 8))) * (c 1)) + lay)), some (xV (a 41 ((tk / 8) % 8))), some (xV ((xL2 (xShr l (16 + (4 * ((tk / 8) % 8))))) % 16)), some (xV 0), some (xV (a 41 ((tk / 8) % 8) + ((a 6 (7 * (a 42 ((tk / 8) % 8)) + (tk % 8))) * (c 1)) + lay))]) xc74_409 rfl rfl ?_
                  refine x_goto xc74_411 ?_
                  refine x_aloadn xc74_543 rfl ?_
                  refine x_gfr xc74_544 rfl rfl xz34 rfl ?_
                  refine x_iload xc74_547 rfl ?_
                  refine x_iload xc74_549 rfl ?_
                  refine x_ifeq xc74_551 (xRk (by decide)) (fun h => absurd h (by omega)) (fun _ => ?_)
                  refine x_iconst xc74_554 ?_
                  refine x_goto xc74_555 ?_
                  refine x_ias xc74_560 xz37 (by have g0 := hi; omega) (by have g0 := hi; omega) (by have g0 := hi; omega) ?_
                  refine x_aloadn xc74_561 rfl ?_
                  refine x_gfr xc74_562 rfl rfl xz34 rfl ?_
                  refine x_iload xc74_565 rfl ?_
                  refine x_iload xc74_567 rfl ?_
                  refine x_ifeq xc74_569 (xRk (by decide)) (fun h => absurd h (by omega)) (fun _ => ?_)
                  refine x_iload xc74_572 rfl ?_
                  refine x_goto xc74_574 ?_
                  refine x_ias xc74_578 xz38 (by have g0 := hi; omega) (by have g0 := hi; omega) (by have g0 := hi; omega) ?_
                  refine x_iinc (pl' := [some (.ref 34), some (.long l), none, some (.ref cp), some (xV h), some (xV lose), some (xV lay), some (xV (i + 1)), some (xV tk), some (xV ((tk / 8) % 8)), some (xV (tk % 8)), some (xV (tk / 64)), some (xV 1), some (xV (a 41 ((tk / 8) % 8) + ((a 6 (7 * (a 42 ((tk / 8) % 8)) + (tk % 8))) * (c 1)) + lay)), some (xV (a 41 ((tk / 8) % 8))), some (xV ((xL2 (xShr l (16 + (4 * ((tk / 8) % 8))))) % 16)), some (xV 0), some (xV (a 41 ((tk / 8) % 8) + ((a 6 (7 * (a 42 ((tk / 8) % 8)) + (tk % 8))) * (c 1)) + lay))]) xc74_579 rfl rfl ?_
                  refine x_goto xc74_582 ?_
                  exact k9 h0 h1 h8 h9 h10 h11 h13 h29
                · refine x_iload xc74_310 rfl ?_
                  refine x_bipush xc74_312 (by decide) ?_
                  refine x_aloadn xc74_314 rfl ?_
                  refine x_gfi' (k := 10) (v := f) xc74_315 rfl (Or.inl rfl) rfl xz34 hf ?_
                  refine x_iadd xc74_318 ?_
                  refine x_iceq xc74_319 (xRk (by have g0 := xL2B (xShr l (16 + (4 * ((tk / 8) % 8)))); omega)) (xRk (by have g0 := hf0; omega)) (fun h33 => ?_) (fun h33 => ?_)
                  · refine x_iconst xc74_338 ?_
                    refine x_istore (pl' := [some (.ref 34), some (.long l), none, some (.ref cp), some (xV h), some (xV lose), some (xV lay), some (xV i), some (xV tk), some (xV ((tk / 8) % 8)), some (xV (tk % 8)), some (xV (tk / 64)), some (xV 1), v13, some (xV lose), some (xV ((xL2 (xShr l (16 + (4 * ((tk / 8) % 8))))) % 16)), some (xV 0), v17]) xc74_339 rfl rfl ?_
                    refine x_aloadn xc74_341 rfl ?_
                    refine x_gfr xc74_342 rfl rfl xz34 rfl ?_
                    refine x_iload xc74_345 rfl ?_
                    refine x_ial xc74_347 xz41 rfl (by have g0 := htk; omega) (by have g0 := htk; omega) (by have g0 := htk; omega) ?_
                    refine x_aloadn xc74_348 rfl ?_
                    refine x_gfr xc74_349 rfl rfl xz34 rfl ?_
                    refine x_gfr xc74_352 rfl rfl xz3 rfl ?_
                    refine x_bipush xc74_355 (by decide) ?_
                    refine x_aloadn xc74_357 rfl ?_
                    refine x_gfr xc74_358 rfl rfl xz34 rfl ?_
                    refine x_iload xc74_361 rfl ?_
                    refine x_ial xc74_363 xz42 rfl (by have g0 := htk; omega) (by have g0 := htk; omega) (by have g0 := htk; omega) ?_
                    refine x_imul xc74_364 ?_
                    refine x_iload xc74_365 rfl ?_
                    refine x_iadd xc74_367 ?_
                    refine x_ial xc74_368 xz6 rfl (by have g0 := htk; have g1 := h42 ((tk / 8) % 8) (by omega) (by omega); omega) (by have g0 := htk; have g1 := h42 ((tk / 8) % 8) (by omega) (by omega); omega) (by have g0 := htk; have g1 := h42 ((tk / 8) % 8) (by omega) (by omega); omega) ?_
                    refine x_aloadn xc74_369 rfl ?_
                    refine x_iconst xc74_370 ?_
                    refine x_ialc hco xc74_371 (by omega) (by omega) ?_
                    refine x_imul xc74_372 ?_
                    refine x_iadd xc74_373 ?_
                    refine x_iload xc74_374 rfl ?_
                    refine x_iadd xc74_376 ?_
                    refine x_istore (pl' := [some (.ref 34), some (.long l), none, some (.ref cp), some (xV h), some (xV lose), some (xV lay), some (xV i), some (xV tk), some (xV ((tk / 8) % 8)), some (xV (tk % 8)), some (xV (tk / 64)), some (xV 1), v13, some (xV lose), some (xV ((xL2 (xShr l (16 + (4 * ((tk / 8) % 8))))) % 16)), some (xV 0), some (xV (a 41 ((tk / 8) % 8) + ((a 6 (7 * (a 42 ((tk / 8) % 8)) + (tk % 8))) * (c 1)) + lay))]) xc74_377 rfl rfl ?_
                    refine x_iload xc74_379 rfl ?_
                    refine x_ifeq xc74_381 (xRk (by decide)) (fun _ => ?_) (fun h => absurd h (by omega))
                    refine x_iload xc74_398 rfl ?_
                    refine x_istore (pl' := [some (.ref 34), some (.long l), none, some (.ref cp), some (xV h), some (xV lose), some (xV lay), some (xV i), some (xV tk), some (xV ((tk / 8) % 8)), some (xV (tk % 8)), some (xV (tk / 64)), some (xV 1), some (xV (a 41 ((tk / 8) % 8) + ((a 6 (7 * (a 42 ((tk / 8) % 8)) + (tk % 8))) * (c 1)) + lay)), some (xV lose), some (xV ((xL2 (xShr l (16 + (4 * ((tk / 8) % 8))))) % 16)), some (xV 0), some (xV (a 41 ((tk / 8) % 8) + ((a 6 (7 * (a 42 ((tk / 8) % 8)) + (tk % 8))) * (c 1)) + lay))]) xc74_400 rfl rfl ?_
                    refine x_aloadn xc74_402 rfl ?_
                    refine x_gfr xc74_403 rfl rfl xz34 rfl ?_
                    refine x_iload xc74_406 rfl ?_
                    refine x_ial xc74_408 xz41 rfl (by have g0 := htk; omega) (by have g0 := htk; omega) (by have g0 := htk; omega) ?_
                    refine x_istore (pl' := [some (.ref 34), some (.long l), none, some (.ref cp), some (xV h), some (xV lose), some (xV lay), some (xV i), some (xV tk), some (xV ((tk / 8) % 8)), some (xV (tk % 8)), some (xV (tk / 64)), some (xV 1), some (xV (a 41 ((tk / 8) % 8) + ((a 6 (7 * (a 42 ((tk / 8) % 8)) + (tk % 8))) * (c 1)) + lay)), some (xV (a 41 ((tk / 8) % 8))), some (xV ((xL2 (xShr l (16 + (4 * ((tk / 8) % 8))))) % 16)), some (xV 0), some (xV (a 41 ((tk / 8) % 8) + ((a 6 (7 * (a 42 ((tk / 8) % 8)) + (tk % 8))) * (c 1)) + lay))]) xc74_409 rfl rfl ?_
                    refine x_goto xc74_411 ?_
                    refine x_aloadn xc74_543 rfl ?_
                    refine x_gfr xc74_544 rfl rfl xz34 rfl ?_
                    refine x_iload xc74_547 rfl ?_
                    refine x_iload xc74_549 rfl ?_
                    refine x_ifeq xc74_551 (xRk (by decide)) (fun h => absurd h (by omega)) (fun _ => ?_)
                    refine x_iconst xc74_554 ?_
                    refine x_goto xc74_555 ?_
                    refine x_ias xc74_560 xz37 (by have g0 := hi; omega) (by have g0 := hi; omega) (by have g0 := hi; omega) ?_
                    refine x_aloadn xc74_561 rfl ?_
                    refine x_gfr xc74_562 rfl rfl xz34 rfl ?_
                    refine x_iload xc74_565 rfl ?_
                    refine x_iload xc74_567 rfl ?_
                    refine x_ifeq xc74_569 (xRk (by decide)) (fun h => absurd h (by omega)) (fun _ => ?_)
                    refine x_iload xc74_572 rfl ?_
                    refine x_goto xc74_574 ?_
                    refine x_ias xc74_578 xz38 (by have g0 := hi; omega) (by have g0 := hi; omega) (by have g0 := hi; omega) ?_
                    refine x_iinc (pl' := [some (.ref 34), some (.long l), none, some (.ref cp), some (xV h), some (xV lose), some (xV lay), some (xV (i + 1)), some (xV tk), some (xV ((tk / 8) % 8)), some (xV (tk % 8)), some (xV (tk / 64)), some (xV 1), some (xV (a 41 ((tk / 8) % 8) + ((a 6 (7 * (a 42 ((tk / 8) % 8)) + (tk % 8))) * (c 1)) + lay)), some (xV (a 41 ((tk / 8) % 8))), some (xV ((xL2 (xShr l (16 + (4 * ((tk / 8) % 8))))) % 16)), some (xV 0), some (xV (a 41 ((tk / 8) % 8) + ((a 6 (7 * (a 42 ((tk / 8) % 8)) + (tk % 8))) * (c 1)) + lay))]) xc74_579 rfl rfl ?_
                    refine x_goto xc74_582 ?_
                    exact k10 h0 h1 h8 h9 h10 h11 h13 h29 h33
                  · refine x_aloadn xc74_322 rfl ?_
                    refine x_gfr xc74_323 rfl rfl xz34 rfl ?_
                    refine x_iload xc74_326 rfl ?_
                    refine x_ial xc74_328 xz42 rfl (by have g0 := htk; omega) (by have g0 := htk; omega) (by have g0 := htk; omega) ?_
                    refine x_iload xc74_329 rfl ?_
                    refine x_icne xc74_331 (xRk (by have g0 := htk; have g1 := h42 ((tk / 8) % 8) (by omega) (by omega); omega)) (xRk (by have g0 := htk; omega)) (fun h37 => ?_) (fun h37 => ?_)
                    · refine x_iconst xc74_338 ?_
                      refine x_istore (pl' := [some (.ref 34), some (.long l), none, some (.ref cp), some (xV h), some (xV lose), some (xV lay), some (xV i), some (xV tk), some (xV ((tk / 8) % 8)), some (xV (tk % 8)), some (xV (tk / 64)), some (xV 1), v13, some (xV lose), some (xV ((xL2 (xShr l (16 + (4 * ((tk / 8) % 8))))) % 16)), some (xV 0), v17]) xc74_339 rfl rfl ?_
                      refine x_aloadn xc74_341 rfl ?_
                      refine x_gfr xc74_342 rfl rfl xz34 rfl ?_
                      refine x_iload xc74_345 rfl ?_
                      refine x_ial xc74_347 xz41 rfl (by have g0 := htk; omega) (by have g0 := htk; omega) (by have g0 := htk; omega) ?_
                      refine x_aloadn xc74_348 rfl ?_
                      refine x_gfr xc74_349 rfl rfl xz34 rfl ?_
                      refine x_gfr xc74_352 rfl rfl xz3 rfl ?_
                      refine x_bipush xc74_355 (by decide) ?_
                      refine x_aloadn xc74_357 rfl ?_
                      refine x_gfr xc74_358 rfl rfl xz34 rfl ?_
                      refine x_iload xc74_361 rfl ?_
                      refine x_ial xc74_363 xz42 rfl (by have g0 := htk; omega) (by have g0 := htk; omega) (by have g0 := htk; omega) ?_
                      refine x_imul xc74_364 ?_
                      refine x_iload xc74_365 rfl ?_
                      refine x_iadd xc74_367 ?_
                      refine x_ial xc74_368 xz6 rfl (by have g0 := htk; have g1 := h42 ((tk / 8) % 8) (by omega) (by omega); omega) (by have g0 := htk; have g1 := h42 ((tk / 8) % 8) (by omega) (by omega); omega) (by have g0 := htk; have g1 := h42 ((tk / 8) % 8) (by omega) (by omega); omega) ?_
                      refine x_aloadn xc74_369 rfl ?_
                      refine x_iconst xc74_370 ?_
                      refine x_ialc hco xc74_371 (by omega) (by omega) ?_
                      refine x_imul xc74_372 ?_
                      refine x_iadd xc74_373 ?_
                      refine x_iload xc74_374 rfl ?_
                      refine x_iadd xc74_376 ?_
                      refine x_istore (pl' := [some (.ref 34), some (.long l), none, some (.ref cp), some (xV h), some (xV lose), some (xV lay), some (xV i), some (xV tk), some (xV ((tk / 8) % 8)), some (xV (tk % 8)), some (xV (tk / 64)), some (xV 1), v13, some (xV lose), some (xV ((xL2 (xShr l (16 + (4 * ((tk / 8) % 8))))) % 16)), some (xV 0), some (xV (a 41 ((tk / 8) % 8) + ((a 6 (7 * (a 42 ((tk / 8) % 8)) + (tk % 8))) * (c 1)) + lay))]) xc74_377 rfl rfl ?_
                      refine x_iload xc74_379 rfl ?_
                      refine x_ifeq xc74_381 (xRk (by decide)) (fun _ => ?_) (fun h => absurd h (by omega))
                      refine x_iload xc74_398 rfl ?_
                      refine x_istore (pl' := [some (.ref 34), some (.long l), none, some (.ref cp), some (xV h), some (xV lose), some (xV lay), some (xV i), some (xV tk), some (xV ((tk / 8) % 8)), some (xV (tk % 8)), some (xV (tk / 64)), some (xV 1), some (xV (a 41 ((tk / 8) % 8) + ((a 6 (7 * (a 42 ((tk / 8) % 8)) + (tk % 8))) * (c 1)) + lay)), some (xV lose), some (xV ((xL2 (xShr l (16 + (4 * ((tk / 8) % 8))))) % 16)), some (xV 0), some (xV (a 41 ((tk / 8) % 8) + ((a 6 (7 * (a 42 ((tk / 8) % 8)) + (tk % 8))) * (c 1)) + lay))]) xc74_400 rfl rfl ?_
                      refine x_aloadn xc74_402 rfl ?_
                      refine x_gfr xc74_403 rfl rfl xz34 rfl ?_
                      refine x_iload xc74_406 rfl ?_
                      refine x_ial xc74_408 xz41 rfl (by have g0 := htk; omega) (by have g0 := htk; omega) (by have g0 := htk; omega) ?_
                      refine x_istore (pl' := [some (.ref 34), some (.long l), none, some (.ref cp), some (xV h), some (xV lose), some (xV lay), some (xV i), some (xV tk), some (xV ((tk / 8) % 8)), some (xV (tk % 8)), some (xV (tk / 64)), some (xV 1), some (xV (a 41 ((tk / 8) % 8) + ((a 6 (7 * (a 42 ((tk / 8) % 8)) + (tk % 8))) * (c 1)) + lay)), some (xV (a 41 ((tk / 8) % 8))), some (xV ((xL2 (xShr l (16 + (4 * ((tk / 8) % 8))))) % 16)), some (xV 0), some (xV (a 41 ((tk / 8) % 8) + ((a 6 (7 * (a 42 ((tk / 8) % 8)) + (tk % 8))) * (c 1)) + lay))]) xc74_409 rfl rfl ?_
                      refine x_goto xc74_411 ?_
                      refine x_aloadn xc74_543 rfl ?_
                      refine x_gfr xc74_544 rfl rfl xz34 rfl ?_
                      refine x_iload xc74_547 rfl ?_
                      refine x_iload xc74_549 rfl ?_
                      refine x_ifeq xc74_551 (xRk (by decide)) (fun h => absurd h (by omega)) (fun _ => ?_)
                      refine x_iconst xc74_554 ?_
                      refine x_goto xc74_555 ?_
                      refine x_ias xc74_560 xz37 (by have g0 := hi; omega) (by have g0 := hi; omega) (by have g0 := hi; omega) ?_
                      refine x_aloadn xc74_561 rfl ?_
                      refine x_gfr xc74_562 rfl rfl xz34 rfl ?_
                      refine x_iload xc74_565 rfl ?_
                      refine x_iload xc74_567 rfl ?_
                      refine x_ifeq xc74_569 (xRk (by decide)) (fun h => absurd h (by omega)) (fun _ => ?_)
                      refine x_iload xc74_572 rfl ?_
                      refine x_goto xc74_574 ?_
                      refine x_ias xc74_578 xz38 (by have g0 := hi; omega) (by have g0 := hi; omega) (by have g0 := hi; omega) ?_
                      refine x_iinc (pl' := [some (.ref 34), some (.long l), none, some (.ref cp), some (xV h), some (xV lose), some (xV lay), some (xV (i + 1)), some (xV tk), some (xV ((tk / 8) % 8)), some (xV (tk % 8)), some (xV (tk / 64)), some (xV 1), some (xV (a 41 ((tk / 8) % 8) + ((a 6 (7 * (a 42 ((tk / 8) % 8)) + (tk % 8))) * (c 1)) + lay)), some (xV (a 41 ((tk / 8) % 8))), some (xV ((xL2 (xShr l (16 + (4 * ((tk / 8) % 8))))) % 16)), some (xV 0), some (xV (a 41 ((tk / 8) % 8) + ((a 6 (7 * (a 42 ((tk / 8) % 8)) + (tk % 8))) * (c 1)) + lay))]) xc74_579 rfl rfl ?_
                      refine x_goto xc74_582 ?_
                      exact k11 h0 h1 h8 h9 h10 h11 h13 h29 h33 h37
                    · replace h37 := Classical.not_not.mp h37
                      refine x_iconst xc74_334 ?_
                      refine x_goto xc74_335 ?_
                      refine x_istore (pl' := [some (.ref 34), some (.long l), none, some (.ref cp), some (xV h), some (xV lose), some (xV lay), some (xV i), some (xV tk), some (xV ((tk / 8) % 8)), some (xV (tk % 8)), some (xV (tk / 64)), some (xV 1), v13, some (xV lose), some (xV ((xL2 (xShr l (16 + (4 * ((tk / 8) % 8))))) % 16)), some (xV 1), v17]) xc74_339 rfl rfl ?_
                      refine x_aloadn xc74_341 rfl ?_
                      refine x_gfr xc74_342 rfl rfl xz34 rfl ?_
                      refine x_iload xc74_345 rfl ?_
                      refine x_ial xc74_347 xz41 rfl (by have g0 := htk; omega) (by have g0 := htk; omega) (by have g0 := htk; omega) ?_
                      refine x_aloadn xc74_348 rfl ?_
                      refine x_gfr xc74_349 rfl rfl xz34 rfl ?_
                      refine x_gfr xc74_352 rfl rfl xz3 rfl ?_
                      refine x_bipush xc74_355 (by decide) ?_
                      refine x_aloadn xc74_357 rfl ?_
                      refine x_gfr xc74_358 rfl rfl xz34 rfl ?_
                      refine x_iload xc74_361 rfl ?_
                      refine x_ial xc74_363 xz42 rfl (by have g0 := htk; omega) (by have g0 := htk; omega) (by have g0 := htk; omega) ?_
                      refine x_imul xc74_364 ?_
                      refine x_iload xc74_365 rfl ?_
                      refine x_iadd xc74_367 ?_
                      refine x_ial xc74_368 xz6 rfl (by have g0 := htk; have g1 := h42 ((tk / 8) % 8) (by omega) (by omega); omega) (by have g0 := htk; have g1 := h42 ((tk / 8) % 8) (by omega) (by omega); omega) (by have g0 := htk; have g1 := h42 ((tk / 8) % 8) (by omega) (by omega); omega) ?_
                      refine x_aloadn xc74_369 rfl ?_
                      refine x_iconst xc74_370 ?_
                      refine x_ialc hco xc74_371 (by omega) (by omega) ?_
                      refine x_imul xc74_372 ?_
                      refine x_iadd xc74_373 ?_
                      refine x_iload xc74_374 rfl ?_
                      refine x_iadd xc74_376 ?_
                      refine x_istore (pl' := [some (.ref 34), some (.long l), none, some (.ref cp), some (xV h), some (xV lose), some (xV lay), some (xV i), some (xV tk), some (xV ((tk / 8) % 8)), some (xV (tk % 8)), some (xV (tk / 64)), some (xV 1), v13, some (xV lose), some (xV ((xL2 (xShr l (16 + (4 * ((tk / 8) % 8))))) % 16)), some (xV 1), some (xV (a 41 ((tk / 8) % 8) + ((a 6 (7 * (a 42 ((tk / 8) % 8)) + (tk % 8))) * (c 1)) + lay))]) xc74_377 rfl rfl ?_
                      refine x_iload xc74_379 rfl ?_
                      refine x_ifeq xc74_381 (xRk (by decide)) (fun h => absurd h (by omega)) (fun _ => ?_)
                      refine x_aloadn xc74_384 rfl ?_
                      refine x_gfr xc74_385 rfl rfl xz34 rfl ?_
                      refine x_iload xc74_388 rfl ?_
                      refine x_ial xc74_390 xz41 rfl (by have g0 := htk; omega) (by have g0 := htk; omega) (by have g0 := htk; omega) ?_
                      refine x_aloadn xc74_391 rfl ?_
                      refine x_iconst xc74_392 ?_
                      refine x_ialc hco xc74_393 (by omega) (by omega) ?_
                      refine x_isub xc74_394 ?_
                      refine x_goto xc74_395 ?_
                      refine x_istore (pl' := [some (.ref 34), some (.long l), none, some (.ref cp), some (xV h), some (xV lose), some (xV lay), some (xV i), some (xV tk), some (xV ((tk / 8) % 8)), some (xV (tk % 8)), some (xV (tk / 64)), some (xV 1), some (xV (a 41 ((tk / 8) % 8) - (c 2))), some (xV lose), some (xV ((xL2 (xShr l (16 + (4 * ((tk / 8) % 8))))) % 16)), some (xV 1), some (xV (a 41 ((tk / 8) % 8) + ((a 6 (7 * (a 42 ((tk / 8) % 8)) + (tk % 8))) * (c 1)) + lay))]) xc74_400 rfl rfl ?_
                      refine x_aloadn xc74_402 rfl ?_
                      refine x_gfr xc74_403 rfl rfl xz34 rfl ?_
                      refine x_iload xc74_406 rfl ?_
                      refine x_ial xc74_408 xz41 rfl (by have g0 := htk; omega) (by have g0 := htk; omega) (by have g0 := htk; omega) ?_
                      refine x_istore (pl' := [some (.ref 34), some (.long l), none, some (.ref cp), some (xV h), some (xV lose), some (xV lay), some (xV i), some (xV tk), some (xV ((tk / 8) % 8)), some (xV (tk % 8)), some (xV (tk / 64)), some (xV 1), some (xV (a 41 ((tk / 8) % 8) - (c 2))), some (xV (a 41 ((tk / 8) % 8))), some (xV ((xL2 (xShr l (16 + (4 * ((tk / 8) % 8))))) % 16)), some (xV 1), some (xV (a 41 ((tk / 8) % 8) + ((a 6 (7 * (a 42 ((tk / 8) % 8)) + (tk % 8))) * (c 1)) + lay))]) xc74_409 rfl rfl ?_
                      refine x_goto xc74_411 ?_
                      refine x_aloadn xc74_543 rfl ?_
                      refine x_gfr xc74_544 rfl rfl xz34 rfl ?_
                      refine x_iload xc74_547 rfl ?_
                      refine x_iload xc74_549 rfl ?_
                      refine x_ifeq xc74_551 (xRk (by decide)) (fun h => absurd h (by omega)) (fun _ => ?_)
                      refine x_iconst xc74_554 ?_
                      refine x_goto xc74_555 ?_
                      refine x_ias xc74_560 xz37 (by have g0 := hi; omega) (by have g0 := hi; omega) (by have g0 := hi; omega) ?_
                      refine x_aloadn xc74_561 rfl ?_
                      refine x_gfr xc74_562 rfl rfl xz34 rfl ?_
                      refine x_iload xc74_565 rfl ?_
                      refine x_iload xc74_567 rfl ?_
                      refine x_ifeq xc74_569 (xRk (by decide)) (fun h => absurd h (by omega)) (fun _ => ?_)
                      refine x_iload xc74_572 rfl ?_
                      refine x_goto xc74_574 ?_
                      refine x_ias xc74_578 xz38 (by have g0 := hi; omega) (by have g0 := hi; omega) (by have g0 := hi; omega) ?_
                      refine x_iinc (pl' := [some (.ref 34), some (.long l), none, some (.ref cp), some (xV h), some (xV lose), some (xV lay), some (xV (i + 1)), some (xV tk), some (xV ((tk / 8) % 8)), some (xV (tk % 8)), some (xV (tk / 64)), some (xV 1), some (xV (a 41 ((tk / 8) % 8) - (c 2))), some (xV (a 41 ((tk / 8) % 8))), some (xV ((xL2 (xShr l (16 + (4 * ((tk / 8) % 8))))) % 16)), some (xV 1), some (xV (a 41 ((tk / 8) % 8) + ((a 6 (7 * (a 42 ((tk / 8) % 8)) + (tk % 8))) * (c 1)) + lay))]) xc74_579 rfl rfl ?_
                      refine x_goto xc74_582 ?_
                      exact k12 h0 h1 h8 h9 h10 h11 h13 h29 h33 h37
          · replace h10 := Classical.not_not.mp h10
            refine x_lloadn xc74_228 rfl ?_
            refine x_iconst xc74_229 ?_
            refine x_iload xc74_230 rfl ?_
            refine x_imul xc74_232 ?_
            refine x_lushr xc74_233 ?_
            refine x_l2i xc74_234 ?_
            refine x_bipush xc74_235 (by decide) ?_
            refine x_iandm (M := 16) 4 (by decide) (by decide) (by decide) xc74_237 ?_
            refine x_bipush xc74_238 (by decide) ?_
            refine x_icne xc74_240 (xRk (by have g0 := xL2B (xShr l (4 * ((tk / 8) % 8))); omega)) (xRk (by decide)) (fun h44 => ?_) (fun h44 => ?_)
            · refine x_iconst xc74_247 ?_
              refine x_istore (pl' := [some (.ref 34), some (.long l), none, some (.ref cp), some (xV h), some (xV lose), some (xV lay), some (xV i), some (xV tk), some (xV ((tk / 8) % 8)), some (xV (tk % 8)), some (xV (tk / 64)), some (xV 0), v13, some (xV lose), v15, v16, v17]) xc74_248 rfl rfl ?_
              refine x_aloadn xc74_250 rfl ?_
              refine x_gfr xc74_251 rfl rfl xz34 rfl ?_
              refine x_iload xc74_254 rfl ?_
              refine x_ial xc74_256 xz40 rfl (by have g0 := htk; omega) (by have g0 := htk; omega) (by have g0 := htk; omega) ?_
              refine x_istore (pl' := [some (.ref 34), some (.long l), none, some (.ref cp), some (xV h), some (xV lose), some (xV lay), some (xV i), some (xV tk), some (xV ((tk / 8) % 8)), some (xV (tk % 8)), some (xV (tk / 64)), some (xV 0), some (xV (a 40 ((tk / 8) % 8))), some (xV lose), v15, v16, v17]) xc74_257 rfl rfl ?_
              refine x_ldc (z := 100000) xc74_259 rfl ?_
              refine x_istore (pl' := [some (.ref 34), some (.long l), none, some (.ref cp), some (xV h), some (xV lose), some (xV lay), some (xV i), some (xV tk), some (xV ((tk / 8) % 8)), some (xV (tk % 8)), some (xV (tk / 64)), some (xV 0), some (xV (a 40 ((tk / 8) % 8))), some (xV 100000), v15, v16, v17]) xc74_261 rfl rfl ?_
              refine x_goto xc74_263 ?_
              refine x_aloadn xc74_543 rfl ?_
              refine x_gfr xc74_544 rfl rfl xz34 rfl ?_
              refine x_iload xc74_547 rfl ?_
              refine x_iload xc74_549 rfl ?_
              refine x_ifeq xc74_551 (xRk (by decide)) (fun _ => ?_) (fun h => absurd h (by omega))
              refine x_iload xc74_558 rfl ?_
              refine x_ias xc74_560 xz37 (by have g0 := hi; omega) (by have g0 := hi; omega) (by have g0 := hi; omega) ?_
              refine x_aloadn xc74_561 rfl ?_
              refine x_gfr xc74_562 rfl rfl xz34 rfl ?_
              refine x_iload xc74_565 rfl ?_
              refine x_iload xc74_567 rfl ?_
              refine x_ifeq xc74_569 (xRk (by decide)) (fun _ => ?_) (fun h => absurd h (by omega))
              refine x_iconst xc74_577 ?_
              refine x_ias xc74_578 xz38 (by have g0 := hi; omega) (by have g0 := hi; omega) (by have g0 := hi; omega) ?_
              refine x_iinc (pl' := [some (.ref 34), some (.long l), none, some (.ref cp), some (xV h), some (xV lose), some (xV lay), some (xV (i + 1)), some (xV tk), some (xV ((tk / 8) % 8)), some (xV (tk % 8)), some (xV (tk / 64)), some (xV 0), some (xV (a 40 ((tk / 8) % 8))), some (xV 100000), v15, v16, v17]) xc74_579 rfl rfl ?_
              refine x_goto xc74_582 ?_
              exact k13 h0 h1 h8 h9 h10 h44
            · replace h44 := Classical.not_not.mp h44
              refine x_iconst xc74_243 ?_
              refine x_goto xc74_244 ?_
              refine x_istore (pl' := [some (.ref 34), some (.long l), none, some (.ref cp), some (xV h), some (xV lose), some (xV lay), some (xV i), some (xV tk), some (xV ((tk / 8) % 8)), some (xV (tk % 8)), some (xV (tk / 64)), some (xV 1), v13, some (xV lose), v15, v16, v17]) xc74_248 rfl rfl ?_
              refine x_aloadn xc74_250 rfl ?_
              refine x_gfr xc74_251 rfl rfl xz34 rfl ?_
              refine x_iload xc74_254 rfl ?_
              refine x_ial xc74_256 xz40 rfl (by have g0 := htk; omega) (by have g0 := htk; omega) (by have g0 := htk; omega) ?_
              refine x_istore (pl' := [some (.ref 34), some (.long l), none, some (.ref cp), some (xV h), some (xV lose), some (xV lay), some (xV i), some (xV tk), some (xV ((tk / 8) % 8)), some (xV (tk % 8)), some (xV (tk / 64)), some (xV 1), some (xV (a 40 ((tk / 8) % 8))), some (xV lose), v15, v16, v17]) xc74_257 rfl rfl ?_
              refine x_ldc (z := 100000) xc74_259 rfl ?_
              refine x_istore (pl' := [some (.ref 34), some (.long l), none, some (.ref cp), some (xV h), some (xV lose), some (xV lay), some (xV i), some (xV tk), some (xV ((tk / 8) % 8)), some (xV (tk % 8)), some (xV (tk / 64)), some (xV 1), some (xV (a 40 ((tk / 8) % 8))), some (xV 100000), v15, v16, v17]) xc74_261 rfl rfl ?_
              refine x_goto xc74_263 ?_
              refine x_aloadn xc74_543 rfl ?_
              refine x_gfr xc74_544 rfl rfl xz34 rfl ?_
              refine x_iload xc74_547 rfl ?_
              refine x_iload xc74_549 rfl ?_
              refine x_ifeq xc74_551 (xRk (by decide)) (fun h => absurd h (by omega)) (fun _ => ?_)
              refine x_iconst xc74_554 ?_
              refine x_goto xc74_555 ?_
              refine x_ias xc74_560 xz37 (by have g0 := hi; omega) (by have g0 := hi; omega) (by have g0 := hi; omega) ?_
              refine x_aloadn xc74_561 rfl ?_
              refine x_gfr xc74_562 rfl rfl xz34 rfl ?_
              refine x_iload xc74_565 rfl ?_
              refine x_iload xc74_567 rfl ?_
              refine x_ifeq xc74_569 (xRk (by decide)) (fun h => absurd h (by omega)) (fun _ => ?_)
              refine x_iload xc74_572 rfl ?_
              refine x_goto xc74_574 ?_
              refine x_ias xc74_578 xz38 (by have g0 := hi; omega) (by have g0 := hi; omega) (by have g0 := hi; omega) ?_
              refine x_iinc (pl' := [some (.ref 34), some (.long l), none, some (.ref cp), some (xV h), some (xV lose), some (xV lay), some (xV (i + 1)), some (xV tk), some (xV ((tk / 8) % 8)), some (xV (tk % 8)), some (xV (tk / 64)), some (xV 1), some (xV (a 40 ((tk / 8) % 8))), some (xV 100000), v15, v16, v17]) xc74_579 rfl rfl ?_
              refine x_goto xc74_582 ?_
              exact k14 h0 h1 h8 h9 h10 h44
        · replace h9 := Classical.not_not.mp h9
          refine x_iload xc74_178 rfl ?_
          refine x_iload xc74_180 rfl ?_
          refine x_icne xc74_182 (xRk (by have g0 := hh; omega)) (xRk (by have g0 := htk; omega)) (fun h49 => ?_) (fun h49 => ?_)
          · refine x_iconst xc74_189 ?_
            refine x_istore (pl' := [some (.ref 34), some (.long l), none, some (.ref cp), some (xV h), some (xV lose), some (xV lay), some (xV i), some (xV tk), some (xV ((tk / 8) % 8)), some (xV (tk % 8)), some (xV (tk / 64)), some (xV 0), v13, some (xV lose), v15, v16, v17]) xc74_190 rfl rfl ?_
            refine x_aloadn xc74_192 rfl ?_
            refine x_gfr xc74_193 rfl rfl xz34 rfl ?_
            refine x_gfr xc74_196 rfl rfl xz3 rfl ?_
            refine x_bipush xc74_199 (by decide) ?_
            refine x_iload xc74_201 rfl ?_
            refine x_imul xc74_203 ?_
            refine x_iload xc74_204 rfl ?_
            refine x_iadd xc74_206 ?_
            refine x_ial xc74_207 xz6 rfl (by have g0 := hh; have g1 := htk; omega) (by have g0 := hh; have g1 := htk; omega) (by have g0 := hh; have g1 := htk; omega) ?_
            refine x_aloadn xc74_208 rfl ?_
            refine x_iconst xc74_209 ?_
            refine x_ialc hco xc74_210 (by omega) (by omega) ?_
            refine x_imul xc74_211 ?_
            refine x_istore (pl' := [some (.ref 34), some (.long l), none, some (.ref cp), some (xV h), some (xV lose), some (xV lay), some (xV i), some (xV tk), some (xV ((tk / 8) % 8)), some (xV (tk % 8)), some (xV (tk / 64)), some (xV 0), some (xV ((a 6 (7 * h + ((tk / 8) % 8))) * (c 1))), some (xV lose), v15, v16, v17]) xc74_212 rfl rfl ?_
            refine x_aloadn xc74_214 rfl ?_
            refine x_iconst xc74_215 ?_
            refine x_ialc hco xc74_216 (by omega) (by omega) ?_
            refine x_istore (pl' := [some (.ref 34), some (.long l), none, some (.ref cp), some (xV h), some (xV lose), some (xV lay), some (xV i), some (xV tk), some (xV ((tk / 8) % 8)), some (xV (tk % 8)), some (xV (tk / 64)), some (xV 0), some (xV ((a 6 (7 * h + ((tk / 8) % 8))) * (c 1))), some (xV (c 1)), v15, v16, v17]) xc74_217 rfl rfl ?_
            refine x_goto xc74_219 ?_
            refine x_aloadn xc74_543 rfl ?_
            refine x_gfr xc74_544 rfl rfl xz34 rfl ?_
            refine x_iload xc74_547 rfl ?_
            refine x_iload xc74_549 rfl ?_
            refine x_ifeq xc74_551 (xRk (by decide)) (fun _ => ?_) (fun h => absurd h (by omega))
            refine x_iload xc74_558 rfl ?_
            refine x_ias xc74_560 xz37 (by have g0 := hi; omega) (by have g0 := hi; omega) (by have g0 := hi; omega) ?_
            refine x_aloadn xc74_561 rfl ?_
            refine x_gfr xc74_562 rfl rfl xz34 rfl ?_
            refine x_iload xc74_565 rfl ?_
            refine x_iload xc74_567 rfl ?_
            refine x_ifeq xc74_569 (xRk (by decide)) (fun _ => ?_) (fun h => absurd h (by omega))
            refine x_iconst xc74_577 ?_
            refine x_ias xc74_578 xz38 (by have g0 := hi; omega) (by have g0 := hi; omega) (by have g0 := hi; omega) ?_
            refine x_iinc (pl' := [some (.ref 34), some (.long l), none, some (.ref cp), some (xV h), some (xV lose), some (xV lay), some (xV (i + 1)), some (xV tk), some (xV ((tk / 8) % 8)), some (xV (tk % 8)), some (xV (tk / 64)), some (xV 0), some (xV ((a 6 (7 * h + ((tk / 8) % 8))) * (c 1))), some (xV (c 1)), v15, v16, v17]) xc74_579 rfl rfl ?_
            refine x_goto xc74_582 ?_
            exact k15 h0 h1 h8 h9 h49
          · replace h49 := Classical.not_not.mp h49
            refine x_iconst xc74_185 ?_
            refine x_goto xc74_186 ?_
            refine x_istore (pl' := [some (.ref 34), some (.long l), none, some (.ref cp), some (xV h), some (xV lose), some (xV lay), some (xV i), some (xV tk), some (xV ((tk / 8) % 8)), some (xV (tk % 8)), some (xV (tk / 64)), some (xV 1), v13, some (xV lose), v15, v16, v17]) xc74_190 rfl rfl ?_
            refine x_aloadn xc74_192 rfl ?_
            refine x_gfr xc74_193 rfl rfl xz34 rfl ?_
            refine x_gfr xc74_196 rfl rfl xz3 rfl ?_
            refine x_bipush xc74_199 (by decide) ?_
            refine x_iload xc74_201 rfl ?_
            refine x_imul xc74_203 ?_
            refine x_iload xc74_204 rfl ?_
            refine x_iadd xc74_206 ?_
            refine x_ial xc74_207 xz6 rfl (by have g0 := hh; have g1 := htk; omega) (by have g0 := hh; have g1 := htk; omega) (by have g0 := hh; have g1 := htk; omega) ?_
            refine x_aloadn xc74_208 rfl ?_
            refine x_iconst xc74_209 ?_
            refine x_ialc hco xc74_210 (by omega) (by omega) ?_
            refine x_imul xc74_211 ?_
            refine x_istore (pl' := [some (.ref 34), some (.long l), none, some (.ref cp), some (xV h), some (xV lose), some (xV lay), some (xV i), some (xV tk), some (xV ((tk / 8) % 8)), some (xV (tk % 8)), some (xV (tk / 64)), some (xV 1), some (xV ((a 6 (7 * h + ((tk / 8) % 8))) * (c 1))), some (xV lose), v15, v16, v17]) xc74_212 rfl rfl ?_
            refine x_aloadn xc74_214 rfl ?_
            refine x_iconst xc74_215 ?_
            refine x_ialc hco xc74_216 (by omega) (by omega) ?_
            refine x_istore (pl' := [some (.ref 34), some (.long l), none, some (.ref cp), some (xV h), some (xV lose), some (xV lay), some (xV i), some (xV tk), some (xV ((tk / 8) % 8)), some (xV (tk % 8)), some (xV (tk / 64)), some (xV 1), some (xV ((a 6 (7 * h + ((tk / 8) % 8))) * (c 1))), some (xV (c 1)), v15, v16, v17]) xc74_217 rfl rfl ?_
            refine x_goto xc74_219 ?_
            refine x_aloadn xc74_543 rfl ?_
            refine x_gfr xc74_544 rfl rfl xz34 rfl ?_
            refine x_iload xc74_547 rfl ?_
            refine x_iload xc74_549 rfl ?_
            refine x_ifeq xc74_551 (xRk (by decide)) (fun h => absurd h (by omega)) (fun _ => ?_)
            refine x_iconst xc74_554 ?_
            refine x_goto xc74_555 ?_
            refine x_ias xc74_560 xz37 (by have g0 := hi; omega) (by have g0 := hi; omega) (by have g0 := hi; omega) ?_
            refine x_aloadn xc74_561 rfl ?_
            refine x_gfr xc74_562 rfl rfl xz34 rfl ?_
            refine x_iload xc74_565 rfl ?_
            refine x_iload xc74_567 rfl ?_
            refine x_ifeq xc74_569 (xRk (by decide)) (fun h => absurd h (by omega)) (fun _ => ?_)
            refine x_iload xc74_572 rfl ?_
            refine x_goto xc74_574 ?_
            refine x_ias xc74_578 xz38 (by have g0 := hi; omega) (by have g0 := hi; omega) (by have g0 := hi; omega) ?_
            refine x_iinc (pl' := [some (.ref 34), some (.long l), none, some (.ref cp), some (xV h), some (xV lose), some (xV lay), some (xV (i + 1)), some (xV tk), some (xV ((tk / 8) % 8)), some (xV (tk % 8)), some (xV (tk / 64)), some (xV 1), some (xV ((a 6 (7 * h + ((tk / 8) % 8))) * (c 1))), some (xV (c 1)), v15, v16, v17]) xc74_579 rfl rfl ?_
            refine x_goto xc74_582 ?_
            exact k16 h0 h1 h8 h9 h49
      · replace h8 := Classical.not_not.mp h8
        refine x_iload xc74_129 rfl ?_
        refine x_aloadn xc74_131 rfl ?_
        refine x_gfi' (k := 10) (v := f) xc74_132 rfl (Or.inl rfl) rfl xz34 hf ?_
        refine x_icne xc74_135 (xRk (by have g0 := htk; omega)) (xRk (by have g0 := hf0; omega)) (fun h54 => ?_) (fun h54 => ?_)
        · refine x_iload xc74_172 rfl ?_
          refine x_iconst xc74_174 ?_
          refine x_icne xc74_175 (xRk (by have g0 := htk; omega)) (xRk (by decide)) (fun _ => ?_) (fun h => absurd h (by omega))
          refine x_iload xc74_222 rfl ?_
          refine x_iconst xc74_224 ?_
          refine x_icne xc74_225 (xRk (by have g0 := htk; omega)) (xRk (by decide)) (fun _ => ?_) (fun h => absurd h (by omega))
          refine x_iload xc74_266 rfl ?_
          refine x_iconst xc74_268 ?_
          refine x_icne xc74_269 (xRk (by have g0 := htk; omega)) (xRk (by decide)) (fun _ => ?_) (fun h => absurd h (by omega))
          refine x_iload xc74_414 rfl ?_
          refine x_iconst xc74_416 ?_
          refine x_icne xc74_417 (xRk (by have g0 := htk; omega)) (xRk (by decide)) (fun h => absurd h (by omega)) (fun _ => ?_)
          refine x_lloadn xc74_420 rfl ?_
          refine x_iconst xc74_421 ?_
          refine x_iload xc74_422 rfl ?_
          refine x_imul xc74_424 ?_
          refine x_lushr xc74_425 ?_
          refine x_l2i xc74_426 ?_
          refine x_bipush xc74_427 (by decide) ?_
          refine x_iandm (M := 16) 4 (by decide) (by decide) (by decide) xc74_429 ?_
          refine x_iconst xc74_430 ?_
          refine x_isub xc74_431 ?_
          refine x_istore (pl' := [some (.ref 34), some (.long l), none, some (.ref cp), some (xV h), some (xV lose), some (xV lay), some (xV i), some (xV tk), some (xV ((tk / 8) % 8)), some (xV (tk % 8)), some (xV (tk / 64)), v12, v13, some (xV lose), some (xV ((xL2 (xShr l (4 * ((tk / 8) % 8)))) % 16 - 1)), v16, v17]) xc74_432 rfl rfl ?_
          refine x_iload xc74_434 rfl ?_
          refine x_iflt xc74_436 (xRk (by have g0 := xL2B (xShr l (4 * ((tk / 8) % 8))); omega)) (fun h59 => ?_) (fun h59 => ?_)
          · refine x_iconst xc74_450 ?_
            refine x_istore (pl' := [some (.ref 34), some (.long l), none, some (.ref cp), some (xV h), some (xV lose), some (xV lay), some (xV i), some (xV tk), some (xV ((tk / 8) % 8)), some (xV (tk % 8)), some (xV (tk / 64)), v12, v13, some (xV lose), some (xV ((xL2 (xShr l (4 * ((tk / 8) % 8)))) % 16 - 1)), some (xV 0), v17]) xc74_451 rfl rfl ?_
            refine x_iload xc74_453 rfl ?_
            refine x_ifeq xc74_455 (xRk (by decide)) (fun _ => ?_) (fun h => absurd h (by omega))
            refine x_ldc (z := 100000) xc74_486 rfl ?_
            refine x_istore (pl' := [some (.ref 34), some (.long l), none, some (.ref cp), some (xV h), some (xV lose), some (xV lay), some (xV i), some (xV tk), some (xV ((tk / 8) % 8)), some (xV (tk % 8)), some (xV (tk / 64)), v12, v13, some (xV lose), some (xV ((xL2 (xShr l (4 * ((tk / 8) % 8)))) % 16 - 1)), some (xV 0), some (xV 100000)]) xc74_488 rfl rfl ?_
            refine x_lloadn xc74_490 rfl ?_
            refine x_bipush xc74_491 (by decide) ?_
            refine x_iconst xc74_493 ?_
            refine x_iload xc74_494 rfl ?_
            refine x_imul xc74_496 ?_
            refine x_iadd xc74_497 ?_
            refine x_lushr xc74_498 ?_
            refine x_l2i xc74_499 ?_
            refine x_bipush xc74_500 (by decide) ?_
            refine x_iandm (M := 16) 4 (by decide) (by decide) (by decide) xc74_502 ?_
            refine x_bipush xc74_503 (by decide) ?_
            refine x_iload xc74_505 rfl ?_
            refine x_iadd xc74_507 ?_
            refine x_icne xc74_508 (xRk (by have g0 := xL2B (xShr l (16 + (4 * (tk % 8)))); omega)) (xRk (by have g0 := htk; omega)) (fun h61 => ?_) (fun h61 => ?_)
            · refine x_iconst xc74_515 ?_
              refine x_istore (pl' := [some (.ref 34), some (.long l), none, some (.ref cp), some (xV h), some (xV lose), some (xV lay), some (xV i), some (xV tk), some (xV ((tk / 8) % 8)), some (xV (tk % 8)), some (xV (tk / 64)), some (xV 0), v13, some (xV lose), some (xV ((xL2 (xShr l (4 * ((tk / 8) % 8)))) % 16 - 1)), some (xV 0), some (xV 100000)]) xc74_516 rfl rfl ?_
              refine x_aloadn xc74_518 rfl ?_
              refine x_gfr xc74_519 rfl rfl xz34 rfl ?_
              refine x_iload xc74_522 rfl ?_
              refine x_ial xc74_524 xz41 rfl (by have g0 := htk; omega) (by have g0 := htk; omega) (by have g0 := htk; omega) ?_
              refine x_iload xc74_525 rfl ?_
              refine x_iadd xc74_527 ?_
              refine x_aloadn xc74_528 rfl ?_
              refine x_iconst xc74_529 ?_
              refine x_ialc hco xc74_530 (by omega) (by omega) ?_
              refine x_iadd xc74_531 ?_
              refine x_istore (pl' := [some (.ref 34), some (.long l), none, some (.ref cp), some (xV h), some (xV lose), some (xV lay), some (xV i), some (xV tk), some (xV ((tk / 8) % 8)), some (xV (tk % 8)), some (xV (tk / 64)), some (xV 0), some (xV (a 41 (tk % 8) + 100000 + (c 4))), some (xV lose), some (xV ((xL2 (xShr l (4 * ((tk / 8) % 8)))) % 16 - 1)), some (xV 0), some (xV 100000)]) xc74_532 rfl rfl ?_
              refine x_aloadn xc74_534 rfl ?_
              refine x_gfr xc74_535 rfl rfl xz34 rfl ?_
              refine x_iload xc74_538 rfl ?_
              refine x_ial xc74_540 xz40 rfl (by have g0 := htk; omega) (by have g0 := htk; omega) (by have g0 := htk; omega) ?_
              refine x_istore (pl' := [some (.ref 34), some (.long l), none, some (.ref cp), some (xV h), some (xV lose), some (xV lay), some (xV i), some (xV tk), some (xV ((tk / 8) % 8)), some (xV (tk % 8)), some (xV (tk / 64)), some (xV 0), some (xV (a 41 (tk % 8) + 100000 + (c 4))), some (xV (a 40 ((tk / 8) % 8))), some (xV ((xL2 (xShr l (4 * ((tk / 8) % 8)))) % 16 - 1)), some (xV 0), some (xV 100000)]) xc74_541 rfl rfl ?_
              refine x_aloadn xc74_543 rfl ?_
              refine x_gfr xc74_544 rfl rfl xz34 rfl ?_
              refine x_iload xc74_547 rfl ?_
              refine x_iload xc74_549 rfl ?_
              refine x_ifeq xc74_551 (xRk (by decide)) (fun _ => ?_) (fun h => absurd h (by omega))
              refine x_iload xc74_558 rfl ?_
              refine x_ias xc74_560 xz37 (by have g0 := hi; omega) (by have g0 := hi; omega) (by have g0 := hi; omega) ?_
              refine x_aloadn xc74_561 rfl ?_
              refine x_gfr xc74_562 rfl rfl xz34 rfl ?_
              refine x_iload xc74_565 rfl ?_
              refine x_iload xc74_567 rfl ?_
              refine x_ifeq xc74_569 (xRk (by decide)) (fun _ => ?_) (fun h => absurd h (by omega))
              refine x_iconst xc74_577 ?_
              refine x_ias xc74_578 xz38 (by have g0 := hi; omega) (by have g0 := hi; omega) (by have g0 := hi; omega) ?_
              refine x_iinc (pl' := [some (.ref 34), some (.long l), none, some (.ref cp), some (xV h), some (xV lose), some (xV lay), some (xV (i + 1)), some (xV tk), some (xV ((tk / 8) % 8)), some (xV (tk % 8)), some (xV (tk / 64)), some (xV 0), some (xV (a 41 (tk % 8) + 100000 + (c 4))), some (xV (a 40 ((tk / 8) % 8))), some (xV ((xL2 (xShr l (4 * ((tk / 8) % 8)))) % 16 - 1)), some (xV 0), some (xV 100000)]) xc74_579 rfl rfl ?_
              refine x_goto xc74_582 ?_
              exact k17 h0 h1 h8 h54 h59 h61
            · replace h61 := Classical.not_not.mp h61
              refine x_iconst xc74_511 ?_
              refine x_goto xc74_512 ?_
              refine x_istore (pl' := [some (.ref 34), some (.long l), none, some (.ref cp), some (xV h), some (xV lose), some (xV lay), some (xV i), some (xV tk), some (xV ((tk / 8) % 8)), some (xV (tk % 8)), some (xV (tk / 64)), some (xV 1), v13, some (xV lose), some (xV ((xL2 (xShr l (4 * ((tk / 8) % 8)))) % 16 - 1)), some (xV 0), some (xV 100000)]) xc74_516 rfl rfl ?_
              refine x_aloadn xc74_518 rfl ?_
              refine x_gfr xc74_519 rfl rfl xz34 rfl ?_
              refine x_iload xc74_522 rfl ?_
              refine x_ial xc74_524 xz41 rfl (by have g0 := htk; omega) (by have g0 := htk; omega) (by have g0 := htk; omega) ?_
              refine x_iload xc74_525 rfl ?_
              refine x_iadd xc74_527 ?_
              refine x_aloadn xc74_528 rfl ?_
              refine x_iconst xc74_529 ?_
              refine x_ialc hco xc74_530 (by omega) (by omega) ?_
              refine x_iadd xc74_531 ?_
              refine x_istore (pl' := [some (.ref 34), some (.long l), none, some (.ref cp), some (xV h), some (xV lose), some (xV lay), some (xV i), some (xV tk), some (xV ((tk / 8) % 8)), some (xV (tk % 8)), some (xV (tk / 64)), some (xV 1), some (xV (a 41 (tk % 8) + 100000 + (c 4))), some (xV lose), some (xV ((xL2 (xShr l (4 * ((tk / 8) % 8)))) % 16 - 1)), some (xV 0), some (xV 100000)]) xc74_532 rfl rfl ?_
              refine x_aloadn xc74_534 rfl ?_
              refine x_gfr xc74_535 rfl rfl xz34 rfl ?_
              refine x_iload xc74_538 rfl ?_
              refine x_ial xc74_540 xz40 rfl (by have g0 := htk; omega) (by have g0 := htk; omega) (by have g0 := htk; omega) ?_
              refine x_istore (pl' := [some (.ref 34), some (.long l), none, some (.ref cp), some (xV h), some (xV lose), some (xV lay), some (xV i), some (xV tk), some (xV ((tk / 8) % 8)), some (xV (tk % 8)), some (xV (tk / 64)), some (xV 1), some (xV (a 41 (tk % 8) + 100000 + (c 4))), some (xV (a 40 ((tk / 8) % 8))), some (xV ((xL2 (xShr l (4 * ((tk / 8) % 8)))) % 16 - 1)), some (xV 0), some (xV 100000)]) xc74_541 rfl rfl ?_
              refine x_aloadn xc74_543 rfl ?_
              refine x_gfr xc74_544 rfl rfl xz34 rfl ?_
              refine x_iload xc74_547 rfl ?_
              refine x_iload xc74_549 rfl ?_
              refine x_ifeq xc74_551 (xRk (by decide)) (fun h => absurd h (by omega)) (fun _ => ?_)
              refine x_iconst xc74_554 ?_
              refine x_goto xc74_555 ?_
              refine x_ias xc74_560 xz37 (by have g0 := hi; omega) (by have g0 := hi; omega) (by have g0 := hi; omega) ?_
              refine x_aloadn xc74_561 rfl ?_
              refine x_gfr xc74_562 rfl rfl xz34 rfl ?_
              refine x_iload xc74_565 rfl ?_
              refine x_iload xc74_567 rfl ?_
              refine x_ifeq xc74_569 (xRk (by decide)) (fun h => absurd h (by omega)) (fun _ => ?_)
              refine x_iload xc74_572 rfl ?_
              refine x_goto xc74_574 ?_
              refine x_ias xc74_578 xz38 (by have g0 := hi; omega) (by have g0 := hi; omega) (by have g0 := hi; omega) ?_
              refine x_iinc (pl' := [some (.ref 34), some (.long l), none, some (.ref cp), some (xV h), some (xV lose), some (xV lay), some (xV (i + 1)), some (xV tk), some (xV ((tk / 8) % 8)), some (xV (tk % 8)), some (xV (tk / 64)), some (xV 1), some (xV (a 41 (tk % 8) + 100000 + (c 4))), some (xV (a 40 ((tk / 8) % 8))), some (xV ((xL2 (xShr l (4 * ((tk / 8) % 8)))) % 16 - 1)), some (xV 0), some (xV 100000)]) xc74_579 rfl rfl ?_
              refine x_goto xc74_582 ?_
              exact k18 h0 h1 h8 h54 h59 h61
          · refine x_iload xc74_439 rfl ?_
            refine x_bipush xc74_441 (by decide) ?_
            refine x_icge xc74_443 (xRk (by have g0 := xL2B (xShr l (4 * ((tk / 8) % 8))); omega)) (xRk (by decide)) (fun h66 => ?_) (fun h66 => ?_)
            · refine x_iconst xc74_450 ?_
              refine x_istore (pl' := [some (.ref 34), some (.long l), none, some (.ref cp), some (xV h), some (xV lose), some (xV lay), some (xV i), some (xV tk), some (xV ((tk / 8) % 8)), some (xV (tk % 8)), some (xV (tk / 64)), v12, v13, some (xV lose), some (xV ((xL2 (xShr l (4 * ((tk / 8) % 8)))) % 16 - 1)), some (xV 0), v17]) xc74_451 rfl rfl ?_
              refine x_iload xc74_453 rfl ?_
              refine x_ifeq xc74_455 (xRk (by decide)) (fun _ => ?_) (fun h => absurd h (by omega))
              refine x_ldc (z := 100000) xc74_486 rfl ?_
              refine x_istore (pl' := [some (.ref 34), some (.long l), none, some (.ref cp), some (xV h), some (xV lose), some (xV lay), some (xV i), some (xV tk), some (xV ((tk / 8) % 8)), some (xV (tk % 8)), some (xV (tk / 64)), v12, v13, some (xV lose), some (xV ((xL2 (xShr l (4 * ((tk / 8) % 8)))) % 16 - 1)), some (xV 0), some (xV 100000)]) xc74_488 rfl rfl ?_
              refine x_lloadn xc74_490 rfl ?_
              refine x_bipush xc74_491 (by decide) ?_
              refine x_iconst xc74_493 ?_
              refine x_iload xc74_494 rfl ?_
              refine x_imul xc74_496 ?_
              refine x_iadd xc74_497 ?_
              refine x_lushr xc74_498 ?_
              refine x_l2i xc74_499 ?_
              refine x_bipush xc74_500 (by decide) ?_
              refine x_iandm (M := 16) 4 (by decide) (by decide) (by decide) xc74_502 ?_
              refine x_bipush xc74_503 (by decide) ?_
              refine x_iload xc74_505 rfl ?_
              refine x_iadd xc74_507 ?_
              refine x_icne xc74_508 (xRk (by have g0 := xL2B (xShr l (16 + (4 * (tk % 8)))); omega)) (xRk (by have g0 := htk; omega)) (fun h68 => ?_) (fun h68 => ?_)
              · refine x_iconst xc74_515 ?_
                refine x_istore (pl' := [some (.ref 34), some (.long l), none, some (.ref cp), some (xV h), some (xV lose), some (xV lay), some (xV i), some (xV tk), some (xV ((tk / 8) % 8)), some (xV (tk % 8)), some (xV (tk / 64)), some (xV 0), v13, some (xV lose), some (xV ((xL2 (xShr l (4 * ((tk / 8) % 8)))) % 16 - 1)), some (xV 0), some (xV 100000)]) xc74_516 rfl rfl ?_
                refine x_aloadn xc74_518 rfl ?_
                refine x_gfr xc74_519 rfl rfl xz34 rfl ?_
                refine x_iload xc74_522 rfl ?_
                refine x_ial xc74_524 xz41 rfl (by have g0 := htk; omega) (by have g0 := htk; omega) (by have g0 := htk; omega) ?_
                refine x_iload xc74_525 rfl ?_
                refine x_iadd xc74_527 ?_
                refine x_aloadn xc74_528 rfl ?_
                refine x_iconst xc74_529 ?_
                refine x_ialc hco xc74_530 (by omega) (by omega) ?_
                refine x_iadd xc74_531 ?_
                refine x_istore (pl' := [some (.ref 34), some (.long l), none, some (.ref cp), some (xV h), some (xV lose), some (xV lay), some (xV i), some (xV tk), some (xV ((tk / 8) % 8)), some (xV (tk % 8)), some (xV (tk / 64)), some (xV 0), some (xV (a 41 (tk % 8) + 100000 + (c 4))), some (xV lose), some (xV ((xL2 (xShr l (4 * ((tk / 8) % 8)))) % 16 - 1)), some (xV 0), some (xV 100000)]) xc74_532 rfl rfl ?_
                refine x_aloadn xc74_534 rfl ?_
                refine x_gfr xc74_535 rfl rfl xz34 rfl ?_
                refine x_iload xc74_538 rfl ?_
                refine x_ial xc74_540 xz40 rfl (by have g0 := htk; omega) (by have g0 := htk; omega) (by have g0 := htk; omega) ?_
                refine x_istore (pl' := [some (.ref 34), some (.long l), none, some (.ref cp), some (xV h), some (xV lose), some (xV lay), some (xV i), some (xV tk), some (xV ((tk / 8) % 8)), some (xV (tk % 8)), some (xV (tk / 64)), some (xV 0), some (xV (a 41 (tk % 8) + 100000 + (c 4))), some (xV (a 40 ((tk / 8) % 8))), some (xV ((xL2 (xShr l (4 * ((tk / 8) % 8)))) % 16 - 1)), some (xV 0), some (xV 100000)]) xc74_541 rfl rfl ?_
                refine x_aloadn xc74_543 rfl ?_
                refine x_gfr xc74_544 rfl rfl xz34 rfl ?_
                refine x_iload xc74_547 rfl ?_
                refine x_iload xc74_549 rfl ?_
                refine x_ifeq xc74_551 (xRk (by decide)) (fun _ => ?_) (fun h => absurd h (by omega))
                refine x_iload xc74_558 rfl ?_
                refine x_ias xc74_560 xz37 (by have g0 := hi; omega) (by have g0 := hi; omega) (by have g0 := hi; omega) ?_
                refine x_aloadn xc74_561 rfl ?_
                refine x_gfr xc74_562 rfl rfl xz34 rfl ?_
                refine x_iload xc74_565 rfl ?_
                refine x_iload xc74_567 rfl ?_
                refine x_ifeq xc74_569 (xRk (by decide)) (fun _ => ?_) (fun h => absurd h (by omega))
                refine x_iconst xc74_577 ?_
                refine x_ias xc74_578 xz38 (by have g0 := hi; omega) (by have g0 := hi; omega) (by have g0 := hi; omega) ?_
                refine x_iinc (pl' := [some (.ref 34), some (.long l), none, some (.ref cp), some (xV h), some (xV lose), some (xV lay), some (xV (i + 1)), some (xV tk), some (xV ((tk / 8) % 8)), some (xV (tk % 8)), some (xV (tk / 64)), some (xV 0), some (xV (a 41 (tk % 8) + 100000 + (c 4))), some (xV (a 40 ((tk / 8) % 8))), some (xV ((xL2 (xShr l (4 * ((tk / 8) % 8)))) % 16 - 1)), some (xV 0), some (xV 100000)]) xc74_579 rfl rfl ?_
                refine x_goto xc74_582 ?_
                exact k19 h0 h1 h8 h54 h59 h66 h68
              · replace h68 := Classical.not_not.mp h68
                refine x_iconst xc74_511 ?_
                refine x_goto xc74_512 ?_
                refine x_istore (pl' := [some (.ref 34), some (.long l), none, some (.ref cp), some (xV h), some (xV lose), some (xV lay), some (xV i), some (xV tk), some (xV ((tk / 8) % 8)), some (xV (tk % 8)), some (xV (tk / 64)), some (xV 1), v13, some (xV lose), some (xV ((xL2 (xShr l (4 * ((tk / 8) % 8)))) % 16 - 1)), some (xV 0), some (xV 100000)]) xc74_516 rfl rfl ?_
                refine x_aloadn xc74_518 rfl ?_
                refine x_gfr xc74_519 rfl rfl xz34 rfl ?_
                refine x_iload xc74_522 rfl ?_
                refine x_ial xc74_524 xz41 rfl (by have g0 := htk; omega) (by have g0 := htk; omega) (by have g0 := htk; omega) ?_
                refine x_iload xc74_525 rfl ?_
                refine x_iadd xc74_527 ?_
                refine x_aloadn xc74_528 rfl ?_
                refine x_iconst xc74_529 ?_
                refine x_ialc hco xc74_530 (by omega) (by omega) ?_
                refine x_iadd xc74_531 ?_
                refine x_istore (pl' := [some (.ref 34), some (.long l), none, some (.ref cp), some (xV h), some (xV lose), some (xV lay), some (xV i), some (xV tk), some (xV ((tk / 8) % 8)), some (xV (tk % 8)), some (xV (tk / 64)), some (xV 1), some (xV (a 41 (tk % 8) + 100000 + (c 4))), some (xV lose), some (xV ((xL2 (xShr l (4 * ((tk / 8) % 8)))) % 16 - 1)), some (xV 0), some (xV 100000)]) xc74_532 rfl rfl ?_
                refine x_aloadn xc74_534 rfl ?_
                refine x_gfr xc74_535 rfl rfl xz34 rfl ?_
                refine x_iload xc74_538 rfl ?_
                refine x_ial xc74_540 xz40 rfl (by have g0 := htk; omega) (by have g0 := htk; omega) (by have g0 := htk; omega) ?_
                refine x_istore (pl' := [some (.ref 34), some (.long l), none, some (.ref cp), some (xV h), some (xV lose), some (xV lay), some (xV i), some (xV tk), some (xV ((tk / 8) % 8)), some (xV (tk % 8)), some (xV (tk / 64)), some (xV 1), some (xV (a 41 (tk % 8) + 100000 + (c 4))), some (xV (a 40 ((tk / 8) % 8))), some (xV ((xL2 (xShr l (4 * ((tk / 8) % 8)))) % 16 - 1)), some (xV 0), some (xV 100000)]) xc74_541 rfl rfl ?_
                refine x_aloadn xc74_543 rfl ?_
                refine x_gfr xc74_544 rfl rfl xz34 rfl ?_
                refine x_iload xc74_547 rfl ?_
                refine x_iload xc74_549 rfl ?_
                refine x_ifeq xc74_551 (xRk (by decide)) (fun h => absurd h (by omega)) (fun _ => ?_)
                refine x_iconst xc74_554 ?_
                refine x_goto xc74_555 ?_
                refine x_ias xc74_560 xz37 (by have g0 := hi; omega) (by have g0 := hi; omega) (by have g0 := hi; omega) ?_
                refine x_aloadn xc74_561 rfl ?_
                refine x_gfr xc74_562 rfl rfl xz34 rfl ?_
                refine x_iload xc74_565 rfl ?_
                refine x_iload xc74_567 rfl ?_
                refine x_ifeq xc74_569 (xRk (by decide)) (fun h => absurd h (by omega)) (fun _ => ?_)
                refine x_iload xc74_572 rfl ?_
                refine x_goto xc74_574 ?_
                refine x_ias xc74_578 xz38 (by have g0 := hi; omega) (by have g0 := hi; omega) (by have g0 := hi; omega) ?_
                refine x_iinc (pl' := [some (.ref 34), some (.long l), none, some (.ref cp), some (xV h), some (xV lose), some (xV lay), some (xV (i + 1)), some (xV tk), some (xV ((tk / 8) % 8)), some (xV (tk % 8)), some (xV (tk / 64)), some (xV 1), some (xV (a 41 (tk % 8) + 100000 + (c 4))), some (xV (a 40 ((tk / 8) % 8))), some (xV ((xL2 (xShr l (4 * ((tk / 8) % 8)))) % 16 - 1)), some (xV 0), some (xV 100000)]) xc74_579 rfl rfl ?_
                refine x_goto xc74_582 ?_
                exact k20 h0 h1 h8 h54 h59 h66 h68
            · refine x_iconst xc74_446 ?_
              refine x_goto xc74_447 ?_
              refine x_istore (pl' := [some (.ref 34), some (.long l), none, some (.ref cp), some (xV h), some (xV lose), some (xV lay), some (xV i), some (xV tk), some (xV ((tk / 8) % 8)), some (xV (tk % 8)), some (xV (tk / 64)), v12, v13, some (xV lose), some (xV ((xL2 (xShr l (4 * ((tk / 8) % 8)))) % 16 - 1)), some (xV 1), v17]) xc74_451 rfl rfl ?_
              refine x_iload xc74_453 rfl ?_
              refine x_ifeq xc74_455 (xRk (by decide)) (fun h => absurd h (by omega)) (fun _ => ?_)
              refine x_aloadn xc74_458 rfl ?_
              refine x_gfr xc74_459 rfl rfl xz34 rfl ?_
              refine x_gfr xc74_462 rfl rfl xz3 rfl ?_
              refine x_bipush xc74_465 (by decide) ?_
              refine x_aloadn xc74_467 rfl ?_
              refine x_gfr xc74_468 rfl rfl xz34 rfl ?_
              refine x_iload xc74_471 rfl ?_
              refine x_ial xc74_473 xz42 rfl (by have g0 := htk; omega) (by have g0 := htk; omega) (by have g0 := htk; omega) ?_
              refine x_imul xc74_474 ?_
              refine x_iload xc74_475 rfl ?_
              refine x_iadd xc74_477 ?_
              refine x_ial xc74_478 xz6 rfl (by have g0 := htk; have g1 := h42 (tk % 8) (by omega) (by omega); have g2 := xL2B (xShr l (4 * ((tk / 8) % 8))); omega) (by have g0 := htk; have g1 := h42 (tk % 8) (by omega) (by omega); have g2 := xL2B (xShr l (4 * ((tk / 8) % 8))); omega) (by have g0 := htk; have g1 := h42 (tk % 8) (by omega) (by omega); have g2 := xL2B (xShr l (4 * ((tk / 8) % 8))); omega) ?_
              refine x_aloadn xc74_479 rfl ?_
              refine x_iconst xc74_480 ?_
              refine x_ialc hco xc74_481 (by omega) (by omega) ?_
              refine x_imul xc74_482 ?_
              refine x_goto xc74_483 ?_
              refine x_istore (pl' := [some (.ref 34), some (.long l), none, some (.ref cp), some (xV h), some (xV lose), some (xV lay), some (xV i), some (xV tk), some (xV ((tk / 8) % 8)), some (xV (tk % 8)), some (xV (tk / 64)), v12, v13, some (xV lose), some (xV ((xL2 (xShr l (4 * ((tk / 8) % 8)))) % 16 - 1)), some (xV 1), some (xV ((a 6 (7 * (a 42 (tk % 8)) + ((xL2 (xShr l (4 * ((tk / 8) % 8)))) % 16 - 1))) * (c 1)))]) xc74_488 rfl rfl ?_
              refine x_lloadn xc74_490 rfl ?_
              refine x_bipush xc74_491 (by decide) ?_
              refine x_iconst xc74_493 ?_
              refine x_iload xc74_494 rfl ?_
              refine x_imul xc74_496 ?_
              refine x_iadd xc74_497 ?_
              refine x_lushr xc74_498 ?_
              refine x_l2i xc74_499 ?_
              refine x_bipush xc74_500 (by decide) ?_
              refine x_iandm (M := 16) 4 (by decide) (by decide) (by decide) xc74_502 ?_
              refine x_bipush xc74_503 (by decide) ?_
              refine x_iload xc74_505 rfl ?_
              refine x_iadd xc74_507 ?_
              refine x_icne xc74_508 (xRk (by have g0 := xL2B (xShr l (16 + (4 * (tk % 8)))); omega)) (xRk (by have g0 := htk; omega)) (fun h74 => ?_) (fun h74 => ?_)
              · refine x_iconst xc74_515 ?_
                refine x_istore (pl' := [some (.ref 34), some (.long l), none, some (.ref cp), some (xV h), some (xV lose), some (xV lay), some (xV i), some (xV tk), some (xV ((tk / 8) % 8)), some (xV (tk % 8)), some (xV (tk / 64)), some (xV 0), v13, some (xV lose), some (xV ((xL2 (xShr l (4 * ((tk / 8) % 8)))) % 16 - 1)), some (xV 1), some (xV ((a 6 (7 * (a 42 (tk % 8)) + ((xL2 (xShr l (4 * ((tk / 8) % 8)))) % 16 - 1))) * (c 1)))]) xc74_516 rfl rfl ?_
                refine x_aloadn xc74_518 rfl ?_
                refine x_gfr xc74_519 rfl rfl xz34 rfl ?_
                refine x_iload xc74_522 rfl ?_
                refine x_ial xc74_524 xz41 rfl (by have g0 := htk; omega) (by have g0 := htk; omega) (by have g0 := htk; omega) ?_
                refine x_iload xc74_525 rfl ?_
                refine x_iadd xc74_527 ?_
                refine x_aloadn xc74_528 rfl ?_
                refine x_iconst xc74_529 ?_
                refine x_ialc hco xc74_530 (by omega) (by omega) ?_
                refine x_iadd xc74_531 ?_
                refine x_istore (pl' := [some (.ref 34), some (.long l), none, some (.ref cp), some (xV h), some (xV lose), some (xV lay), some (xV i), some (xV tk), some (xV ((tk / 8) % 8)), some (xV (tk % 8)), some (xV (tk / 64)), some (xV 0), some (xV (a 41 (tk % 8) + ((a 6 (7 * (a 42 (tk % 8)) + ((xL2 (xShr l (4 * ((tk / 8) % 8)))) % 16 - 1))) * (c 1)) + (c 4))), some (xV lose), some (xV ((xL2 (xShr l (4 * ((tk / 8) % 8)))) % 16 - 1)), some (xV 1), some (xV ((a 6 (7 * (a 42 (tk % 8)) + ((xL2 (xShr l (4 * ((tk / 8) % 8)))) % 16 - 1))) * (c 1)))]) xc74_532 rfl rfl ?_
                refine x_aloadn xc74_534 rfl ?_
                refine x_gfr xc74_535 rfl rfl xz34 rfl ?_
                refine x_iload xc74_538 rfl ?_
                refine x_ial xc74_540 xz40 rfl (by have g0 := htk; omega) (by have g0 := htk; omega) (by have g0 := htk; omega) ?_
                refine x_istore (pl' := [some (.ref 34), some (.long l), none, some (.ref cp), some (xV h), some (xV lose), some (xV lay), some (xV i), some (xV tk), some (xV ((tk / 8) % 8)), some (xV (tk % 8)), some (xV (tk / 64)), some (xV 0), some (xV (a 41 (tk % 8) + ((a 6 (7 * (a 42 (tk % 8)) + ((xL2 (xShr l (4 * ((tk / 8) % 8)))) % 16 - 1))) * (c 1)) + (c 4))), some (xV (a 40 ((tk / 8) % 8))), some (xV ((xL2 (xShr l (4 * ((tk / 8) % 8)))) % 16 - 1)), some (xV 1), some (xV ((a 6 (7 * (a 42 (tk % 8)) + ((xL2 (xShr l (4 * ((tk / 8) % 8)))) % 16 - 1))) * (c 1)))]) xc74_541 rfl rfl ?_
                refine x_aloadn xc74_543 rfl ?_
                refine x_gfr xc74_544 rfl rfl xz34 rfl ?_
                refine x_iload xc74_547 rfl ?_
                refine x_iload xc74_549 rfl ?_
                refine x_ifeq xc74_551 (xRk (by decide)) (fun _ => ?_) (fun h => absurd h (by omega))
                refine x_iload xc74_558 rfl ?_
                refine x_ias xc74_560 xz37 (by have g0 := hi; omega) (by have g0 := hi; omega) (by have g0 := hi; omega) ?_
                refine x_aloadn xc74_561 rfl ?_
                refine x_gfr xc74_562 rfl rfl xz34 rfl ?_
                refine x_iload xc74_565 rfl ?_
                refine x_iload xc74_567 rfl ?_
                refine x_ifeq xc74_569 (xRk (by decide)) (fun _ => ?_) (fun h => absurd h (by omega))
                refine x_iconst xc74_577 ?_
                refine x_ias xc74_578 xz38 (by have g0 := hi; omega) (by have g0 := hi; omega) (by have g0 := hi; omega) ?_
                refine x_iinc (pl' := [some (.ref 34), some (.long l), none, some (.ref cp), some (xV h), some (xV lose), some (xV lay), some (xV (i + 1)), some (xV tk), some (xV ((tk / 8) % 8)), some (xV (tk % 8)), some (xV (tk / 64)), some (xV 0), some (xV (a 41 (tk % 8) + ((a 6 (7 * (a 42 (tk % 8)) + ((xL2 (xShr l (4 * ((tk / 8) % 8)))) % 16 - 1))) * (c 1)) + (c 4))), some (xV (a 40 ((tk / 8) % 8))), some (xV ((xL2 (xShr l (4 * ((tk / 8) % 8)))) % 16 - 1)), some (xV 1), some (xV ((a 6 (7 * (a 42 (tk % 8)) + ((xL2 (xShr l (4 * ((tk / 8) % 8)))) % 16 - 1))) * (c 1)))]) xc74_579 rfl rfl ?_
                refine x_goto xc74_582 ?_
                exact k21 h0 h1 h8 h54 h59 h66 h74
              · replace h74 := Classical.not_not.mp h74
                refine x_iconst xc74_511 ?_
                refine x_goto xc74_512 ?_
                refine x_istore (pl' := [some (.ref 34), some (.long l), none, some (.ref cp), some (xV h), some (xV lose), some (xV lay), some (xV i), some (xV tk), some (xV ((tk / 8) % 8)), some (xV (tk % 8)), some (xV (tk / 64)), some (xV 1), v13, some (xV lose), some (xV ((xL2 (xShr l (4 * ((tk / 8) % 8)))) % 16 - 1)), some (xV 1), some (xV ((a 6 (7 * (a 42 (tk % 8)) + ((xL2 (xShr l (4 * ((tk / 8) % 8)))) % 16 - 1))) * (c 1)))]) xc74_516 rfl rfl ?_
                refine x_aloadn xc74_518 rfl ?_
                refine x_gfr xc74_519 rfl rfl xz34 rfl ?_
                refine x_iload xc74_522 rfl ?_
                refine x_ial xc74_524 xz41 rfl (by have g0 := htk; omega) (by have g0 := htk; omega) (by have g0 := htk; omega) ?_
                refine x_iload xc74_525 rfl ?_
                refine x_iadd xc74_527 ?_
                refine x_aloadn xc74_528 rfl ?_
                refine x_iconst xc74_529 ?_
                refine x_ialc hco xc74_530 (by omega) (by omega) ?_
                refine x_iadd xc74_531 ?_
                refine x_istore (pl' := [some (.ref 34), some (.long l), none, some (.ref cp), some (xV h), some (xV lose), some (xV lay), some (xV i), some (xV tk), some (xV ((tk / 8) % 8)), some (xV (tk % 8)), some (xV (tk / 64)), some (xV 1), some (xV (a 41 (tk % 8) + ((a 6 (7 * (a 42 (tk % 8)) + ((xL2 (xShr l (4 * ((tk / 8) % 8)))) % 16 - 1))) * (c 1)) + (c 4))), some (xV lose), some (xV ((xL2 (xShr l (4 * ((tk / 8) % 8)))) % 16 - 1)), some (xV 1), some (xV ((a 6 (7 * (a 42 (tk % 8)) + ((xL2 (xShr l (4 * ((tk / 8) % 8)))) % 16 - 1))) * (c 1)))]) xc74_532 rfl rfl ?_
                refine x_aloadn xc74_534 rfl ?_
                refine x_gfr xc74_535 rfl rfl xz34 rfl ?_
                refine x_iload xc74_538 rfl ?_
                refine x_ial xc74_540 xz40 rfl (by have g0 := htk; omega) (by have g0 := htk; omega) (by have g0 := htk; omega) ?_
                refine x_istore (pl' := [some (.ref 34), some (.long l), none, some (.ref cp), some (xV h), some (xV lose), some (xV lay), some (xV i), some (xV tk), some (xV ((tk / 8) % 8)), some (xV (tk % 8)), some (xV (tk / 64)), some (xV 1), some (xV (a 41 (tk % 8) + ((a 6 (7 * (a 42 (tk % 8)) + ((xL2 (xShr l (4 * ((tk / 8) % 8)))) % 16 - 1))) * (c 1)) + (c 4))), some (xV (a 40 ((tk / 8) % 8))), some (xV ((xL2 (xShr l (4 * ((tk / 8) % 8)))) % 16 - 1)), some (xV 1), some (xV ((a 6 (7 * (a 42 (tk % 8)) + ((xL2 (xShr l (4 * ((tk / 8) % 8)))) % 16 - 1))) * (c 1)))]) xc74_541 rfl rfl ?_
                refine x_aloadn xc74_543 rfl ?_
                refine x_gfr xc74_544 rfl rfl xz34 rfl ?_
                refine x_iload xc74_547 rfl ?_
                refine x_iload xc74_549 rfl ?_
                refine x_ifeq xc74_551 (xRk (by decide)) (fun h => absurd h (by omega)) (fun _ => ?_)
                refine x_iconst xc74_554 ?_
                refine x_goto xc74_555 ?_
                refine x_ias xc74_560 xz37 (by have g0 := hi; omega) (by have g0 := hi; omega) (by have g0 := hi; omega) ?_
                refine x_aloadn xc74_561 rfl ?_
                refine x_gfr xc74_562 rfl rfl xz34 rfl ?_
                refine x_iload xc74_565 rfl ?_
                refine x_iload xc74_567 rfl ?_
                refine x_ifeq xc74_569 (xRk (by decide)) (fun h => absurd h (by omega)) (fun _ => ?_)
                refine x_iload xc74_572 rfl ?_
                refine x_goto xc74_574 ?_
                refine x_ias xc74_578 xz38 (by have g0 := hi; omega) (by have g0 := hi; omega) (by have g0 := hi; omega) ?_
                refine x_iinc (pl' := [some (.ref 34), some (.long l), none, some (.ref cp), some (xV h), some (xV lose), some (xV lay), some (xV (i + 1)), some (xV tk), some (xV ((tk / 8) % 8)), some (xV (tk % 8)), some (xV (tk / 64)), some (xV 1), some (xV (a 41 (tk % 8) + ((a 6 (7 * (a 42 (tk % 8)) + ((xL2 (xShr l (4 * ((tk / 8) % 8)))) % 16 - 1))) * (c 1)) + (c 4))), some (xV (a 40 ((tk / 8) % 8))), some (xV ((xL2 (xShr l (4 * ((tk / 8) % 8)))) % 16 - 1)), some (xV 1), some (xV ((a 6 (7 * (a 42 (tk % 8)) + ((xL2 (xShr l (4 * ((tk / 8) % 8)))) % 16 - 1))) * (c 1)))]) xc74_579 rfl rfl ?_
                refine x_goto xc74_582 ?_
                exact k22 h0 h1 h8 h54 h59 h66 h74
        · replace h54 := Classical.not_not.mp h54
          refine x_aloadn xc74_138 rfl ?_
          refine x_gfr xc74_139 rfl rfl xz34 rfl ?_
          refine x_iload xc74_142 rfl ?_
          refine x_ifne xc74_144 (xRk (by have g0 := htk; omega)) (fun _ => ?_) (fun h => absurd h (by omega))
          refine x_iload xc74_152 rfl ?_
          refine x_ial xc74_154 xz41 rfl (by have g0 := htk; omega) (by have g0 := htk; omega) (by have g0 := htk; omega) ?_
          refine x_istore (pl' := [some (.ref 34), some (.long l), none, some (.ref cp), some (xV h), some (xV lose), some (xV lay), some (xV i), some (xV tk), some (xV ((tk / 8) % 8)), some (xV (tk % 8)), some (xV (tk / 64)), v12, some (xV (a 41 (tk % 8))), some (xV lose), v15, v16, v17]) xc74_155 rfl rfl ?_
          refine x_iload xc74_157 rfl ?_
          refine x_ifne xc74_159 (xRk (by have g0 := htk; have g1 := h41 (tk % 8) (by omega) (by omega); omega)) (fun h80 => ?_) (fun h80 => ?_)
          · refine x_iconst xc74_166 ?_
            refine x_istore (pl' := [some (.ref 34), some (.long l), none, some (.ref cp), some (xV h), some (xV lose), some (xV lay), some (xV i), some (xV tk), some (xV ((tk / 8) % 8)), some (xV (tk % 8)), some (xV (tk / 64)), some (xV 0), some (xV (a 41 (tk % 8))), some (xV lose), v15, v16, v17]) xc74_167 rfl rfl ?_
            refine x_goto xc74_169 ?_
            refine x_aloadn xc74_543 rfl ?_
            refine x_gfr xc74_544 rfl rfl xz34 rfl ?_
            refine x_iload xc74_547 rfl ?_
            refine x_iload xc74_549 rfl ?_
            refine x_ifeq xc74_551 (xRk (by decide)) (fun _ => ?_) (fun h => absurd h (by omega))
            refine x_iload xc74_558 rfl ?_
            refine x_ias xc74_560 xz37 (by have g0 := hi; omega) (by have g0 := hi; omega) (by have g0 := hi; omega) ?_
            refine x_aloadn xc74_561 rfl ?_
            refine x_gfr xc74_562 rfl rfl xz34 rfl ?_
            refine x_iload xc74_565 rfl ?_
            refine x_iload xc74_567 rfl ?_
            refine x_ifeq xc74_569 (xRk (by decide)) (fun _ => ?_) (fun h => absurd h (by omega))
            refine x_iconst xc74_577 ?_
            refine x_ias xc74_578 xz38 (by have g0 := hi; omega) (by have g0 := hi; omega) (by have g0 := hi; omega) ?_
            refine x_iinc (pl' := [some (.ref 34), some (.long l), none, some (.ref cp), some (xV h), some (xV lose), some (xV lay), some (xV (i + 1)), some (xV tk), some (xV ((tk / 8) % 8)), some (xV (tk % 8)), some (xV (tk / 64)), some (xV 0), some (xV (a 41 (tk % 8))), some (xV lose), v15, v16, v17]) xc74_579 rfl rfl ?_
            refine x_goto xc74_582 ?_
            exact k23 h0 h1 h8 h54 h80
          · replace h80 := Classical.not_not.mp h80
            refine x_iconst xc74_162 ?_
            refine x_goto xc74_163 ?_
            refine x_istore (pl' := [some (.ref 34), some (.long l), none, some (.ref cp), some (xV h), some (xV lose), some (xV lay), some (xV i), some (xV tk), some (xV ((tk / 8) % 8)), some (xV (tk % 8)), some (xV (tk / 64)), some (xV 1), some (xV (a 41 (tk % 8))), some (xV lose), v15, v16, v17]) xc74_167 rfl rfl ?_
            refine x_goto xc74_169 ?_
            refine x_aloadn xc74_543 rfl ?_
            refine x_gfr xc74_544 rfl rfl xz34 rfl ?_
            refine x_iload xc74_547 rfl ?_
            refine x_iload xc74_549 rfl ?_
            refine x_ifeq xc74_551 (xRk (by decide)) (fun h => absurd h (by omega)) (fun _ => ?_)
            refine x_iconst xc74_554 ?_
            refine x_goto xc74_555 ?_
            refine x_ias xc74_560 xz37 (by have g0 := hi; omega) (by have g0 := hi; omega) (by have g0 := hi; omega) ?_
            refine x_aloadn xc74_561 rfl ?_
            refine x_gfr xc74_562 rfl rfl xz34 rfl ?_
            refine x_iload xc74_565 rfl ?_
            refine x_iload xc74_567 rfl ?_
            refine x_ifeq xc74_569 (xRk (by decide)) (fun h => absurd h (by omega)) (fun _ => ?_)
            refine x_iload xc74_572 rfl ?_
            refine x_goto xc74_574 ?_
            refine x_ias xc74_578 xz38 (by have g0 := hi; omega) (by have g0 := hi; omega) (by have g0 := hi; omega) ?_
            refine x_iinc (pl' := [some (.ref 34), some (.long l), none, some (.ref cp), some (xV h), some (xV lose), some (xV lay), some (xV (i + 1)), some (xV tk), some (xV ((tk / 8) % 8)), some (xV (tk % 8)), some (xV (tk / 64)), some (xV 1), some (xV (a 41 (tk % 8))), some (xV lose), v15, v16, v17]) xc74_579 rfl rfl ?_
            refine x_goto xc74_582 ?_
            exact k24 h0 h1 h8 h54 h80

theorem w75x {Ln : Nat} {xs : Nat → Int32} {d : Nat} {Q : Option Value → pmS → Prop} {v3 : Option Value} {v4 : Option Value} {wr n top : Int} {a : xA} {b : xB} (hA : xAr a) (hw : a 34 11 = wr) (hw0 : 0 ≤ wr ∧ wr ≤ 11) (hn : a 9 wr = n) (hn0 : 0 ≤ n ∧ n ≤ 40) (htop : 0 ≤ top ∧ top ≤ n)
    (k1 : Q (some (xV (a 37 0))) (xS a b)) :
    pmWp (pmRo Ln xs) d 3 75 1 4 [some (.ref 34), some (xV top), some (xV n), v3, v4] [] (xS a b) Q := by
  refine x_iloadn xc75_4 rfl ?_
  refine x_aloadn xc75_5 rfl ?_
  refine x_gfr xc75_6 rfl rfl xz34 rfl ?_
  refine x_gfr xc75_9 rfl rfl xz7 rfl ?_
  refine x_aloadn xc75_12 rfl ?_
  refine x_gfi' (k := 11) (v := wr) xc75_13 rfl (Or.inl rfl) rfl xz34 hw ?_
  refine x_ial' (v := n) xc75_16 xz9 rfl (by have g0 := hw0; omega) (by have g0 := hw0; omega) (by have g0 := hw0; omega) hn ?_
  refine x_icge xc75_17 (xRk (by have g0 := hn0; omega)) (xRk (by have g0 := hn0; omega)) (fun _ => ?_) (fun h => absurd h (by omega))
  refine x_aloadn xc75_262 rfl ?_
  refine x_gfr xc75_263 rfl rfl xz34 rfl ?_
  refine x_iconst xc75_266 ?_
  refine x_ial xc75_267 xz37 rfl (by omega) (by omega) (by omega) ?_
  refine x_iret xc75_268 (Or.inl rfl) ?_
  exact k1

theorem w75l {Ln : Nat} {xs : Nat → Int32} {d : Nat} {Q : Option Value → pmS → Prop} {v3 : Option Value} {v4 : Option Value} {wr n tk i top : Int} {a : xA} {b : xB} (hA : xAr a) (hw : a 34 11 = wr) (hw0 : 0 ≤ wr ∧ wr ≤ 11) (hn : a 9 wr = n) (hn0 : 0 ≤ n ∧ n ≤ 40) (htok : a 8 (wr * 40 + i) = tk) (htk : 0 ≤ tk ∧ tk ≤ 511) (hi : 0 ≤ i ∧ i < n) (htop : 0 ≤ top ∧ top ≤ i)
    (k1 : (n ≤ i) → Q (some (xV (a 37 0))) (xS a b))
    (k2 : (¬ n ≤ i) → (5 ≤ tk / 64) → (¬ tk / 64 = 5) → (¬ tk / 64 = 6) → (¬ tk / 64 = 7) → pmWp (pmRo Ln xs) d 3 75 1 4 [some (.ref 34), some (xV top), some (xV (i + 1)), some (xV (tk / 64)), v4] [] (xS a b) Q)
    (k3 : (¬ n ≤ i) → (5 ≤ tk / 64) → (¬ tk / 64 = 5) → (¬ tk / 64 = 6) → (tk / 64 = 7) → (top < 2) → pmWp (pmRo Ln xs) d 3 75 1 4 [some (.ref 34), some (xV top), some (xV (i + 1)), some (xV (tk / 64)), v4] [] (xS a b) Q)
    (k4 : (¬ n ≤ i) → (5 ≤ tk / 64) → (¬ tk / 64 = 5) → (¬ tk / 64 = 6) → (tk / 64 = 7) → (¬ top < 2) → pmWp (pmRo Ln xs) d 3 75 1 4 [some (.ref 34), some (xV (top + (-1))), some (xV (i + 1)), some (xV (tk / 64)), v4] [] (xS (xU (xU a 37 (top + (-1) - 1) (if a 37 (top + (-1)) < a 37 (top + (-1) - 1) then a 37 (top + (-1)) else a 37 (top + (-1) - 1))) 38 (top + (-1) - 1) (if a 38 (top + (-1) - 1) < a 38 (top + (-1)) then a 38 (top + (-1)) else a 38 (top + (-1) - 1))) b) Q)
    (k5 : (¬ n ≤ i) → (5 ≤ tk / 64) → (¬ tk / 64 = 5) → (tk / 64 = 6) → (top < 2) → pmWp (pmRo Ln xs) d 3 75 1 4 [some (.ref 34), some (xV top), some (xV (i + 1)), some (xV (tk / 64)), v4] [] (xS a b) Q)
    (k6 : (¬ n ≤ i) → (5 ≤ tk / 64) → (¬ tk / 64 = 5) → (tk / 64 = 6) → (¬ top < 2) → pmWp (pmRo Ln xs) d 3 75 1 4 [some (.ref 34), some (xV (top + (-1))), some (xV (i + 1)), some (xV (tk / 64)), v4] [] (xS (xU (xU a 37 (top + (-1) - 1) (if a 37 (top + (-1) - 1) < a 37 (top + (-1)) then a 37 (top + (-1)) else a 37 (top + (-1) - 1))) 38 (top + (-1) - 1) (if a 38 (top + (-1)) < a 38 (top + (-1) - 1) then a 38 (top + (-1)) else a 38 (top + (-1) - 1))) b) Q)
    (k7 : (¬ n ≤ i) → (5 ≤ tk / 64) → (tk / 64 = 5) → (top < 1) → pmWp (pmRo Ln xs) d 3 75 1 4 [some (.ref 34), some (xV top), some (xV (i + 1)), some (xV (tk / 64)), v4] [] (xS a b) Q)
    (k8 : (¬ n ≤ i) → (5 ≤ tk / 64) → (tk / 64 = 5) → (¬ top < 1) → pmWp (pmRo Ln xs) d 3 75 1 4 [some (.ref 34), some (xV top), some (xV (i + 1)), some (xV (tk / 64)), some (xV (a 37 (top - 1)))] [] (xS (xU (xU a 37 (top - 1) (a 38 (top - 1))) 38 (top - 1) (a 37 (top - 1))) b) Q)
    (k9 : (¬ n ≤ i) → (¬ 5 ≤ tk / 64) → pmWp (pmRo Ln xs) d 3 75 1 4 [some (.ref 34), some (xV (top + 1)), some (xV (i + 1)), some (xV (tk / 64)), v4] [] (xS (xU (xU a 37 top (a 37 i)) 38 top (a 38 i)) b) Q) :
    pmWp (pmRo Ln xs) d 3 75 1 4 [some (.ref 34), some (xV top), some (xV i), v3, v4] [] (xS a b) Q := by
  refine x_iloadn xc75_4 rfl ?_
  refine x_aloadn xc75_5 rfl ?_
  refine x_gfr xc75_6 rfl rfl xz34 rfl ?_
  refine x_gfr xc75_9 rfl rfl xz7 rfl ?_
  refine x_aloadn xc75_12 rfl ?_
  refine x_gfi' (k := 11) (v := wr) xc75_13 rfl (Or.inl rfl) rfl xz34 hw ?_
  refine x_ial' (v := n) xc75_16 xz9 rfl (by have g0 := hw0; omega) (by have g0 := hw0; omega) (by have g0 := hw0; omega) hn ?_
  refine x_icge xc75_17 (xRk (by have g0 := hi; omega)) (xRk (by have g0 := hn0; omega)) (fun h0 => ?_) (fun h0 => ?_)
  · refine x_aloadn xc75_262 rfl ?_
    refine x_gfr xc75_263 rfl rfl xz34 rfl ?_
    refine x_iconst xc75_266 ?_
    refine x_ial xc75_267 xz37 rfl (by omega) (by omega) (by omega) ?_
    refine x_iret xc75_268 (Or.inl rfl) ?_
    exact k1 h0
  · refine x_aloadn xc75_20 rfl ?_
    refine x_gfr xc75_21 rfl rfl xz34 rfl ?_
    refine x_gfr xc75_24 rfl rfl xz7 rfl ?_
    refine x_aloadn xc75_27 rfl ?_
    refine x_gfi' (k := 11) (v := wr) xc75_28 rfl (Or.inl rfl) rfl xz34 hw ?_
    refine x_bipush xc75_31 (by decide) ?_
    refine x_imul xc75_33 ?_
    refine x_iloadn xc75_34 rfl ?_
    refine x_iadd xc75_35 ?_
    refine x_ial' (v := tk) xc75_36 xz8 rfl (by have g0 := hw0; have g1 := hi; omega) (by have g0 := hw0; have g1 := hi; omega) (by have g0 := hw0; have g1 := hi; omega) htok ?_
    refine x_bipush xc75_37 (by decide) ?_
    refine x_ishr (M := 64) (by omega) (by omega) (by decide) (xRk (by have g0 := htk; omega)) xc75_39 ?_
    refine x_istoren (pl' := [some (.ref 34), some (xV top), some (xV i), some (xV (tk / 64)), v4]) xc75_40 rfl rfl ?_
    refine x_iloadn xc75_41 rfl ?_
    refine x_iconst xc75_42 ?_
    refine x_icge xc75_43 (xRk (by have g0 := htk; omega)) (xRk (by decide)) (fun h1 => ?_) (fun h1 => ?_)
    · refine x_iloadn xc75_76 rfl ?_
      refine x_iconst xc75_77 ?_
      refine x_icne xc75_78 (xRk (by have g0 := htk; omega)) (xRk (by decide)) (fun h2 => ?_) (fun h2 => ?_)
      · refine x_iloadn xc75_125 rfl ?_
        refine x_bipush xc75_126 (by decide) ?_
        refine x_icne xc75_128 (xRk (by have g0 := htk; omega)) (xRk (by decide)) (fun h3 => ?_) (fun h3 => ?_)
        · refine x_iloadn xc75_192 rfl ?_
          refine x_bipush xc75_193 (by decide) ?_
          refine x_icne xc75_195 (xRk (by have g0 := htk; omega)) (xRk (by decide)) (fun h4 => ?_) (fun h4 => ?_)
          · refine x_iinc (pl' := [some (.ref 34), some (xV top), some (xV (i + 1)), some (xV (tk / 64)), v4]) xc75_256 rfl rfl ?_
            refine x_goto xc75_259 ?_
            exact k2 h0 h1 h2 h3 h4
          · replace h4 := Classical.not_not.mp h4
            refine x_iloadn xc75_198 rfl ?_
            refine x_iconst xc75_199 ?_
            refine x_iclt xc75_200 (xRk (by have g0 := htop; omega)) (xRk (by decide)) (fun h5 => ?_) (fun h5 => ?_)
            · refine x_iinc (pl' := [some (.ref 34), some (xV top), some (xV (i + 1)), some (xV (tk / 64)), v4]) xc75_256 rfl rfl ?_
              refine x_goto xc75_259 ?_
              exact k3 h0 h1 h2 h3 h4 h5
            · refine x_iinc (pl' := [some (.ref 34), some (xV (top + (-1))), some (xV i), some (xV (tk / 64)), v4]) xc75_203 rfl rfl ?_
              refine x_aloadn xc75_206 rfl ?_
              refine x_gfr xc75_207 rfl rfl xz34 rfl ?_
              refine x_iloadn xc75_210 rfl ?_
              refine x_iconst xc75_211 ?_
              refine x_isub xc75_212 ?_
              refine x_aloadn xc75_213 rfl ?_
              refine x_gfr xc75_214 rfl rfl xz34 rfl ?_
              refine x_iloadn xc75_217 rfl ?_
              refine x_iconst xc75_218 ?_
              refine x_isub xc75_219 ?_
              refine x_ial xc75_220 xz37 rfl (by have g0 := htop; omega) (by have g0 := htop; omega) (by have g0 := htop; omega) ?_
              refine x_aloadn xc75_221 rfl ?_
              refine x_gfr xc75_222 rfl rfl xz34 rfl ?_
              refine x_iloadn xc75_225 rfl ?_
              refine x_ial xc75_226 xz37 rfl (by have g0 := htop; omega) (by have g0 := htop; omega) (by have g0 := htop; omega) ?_
              refine x_min xc75_227 rfl (xRk (by have g0 := htop; have g1 := xRb (hA 37 (top + (-1) - 1)); omega)) (xRk (by have g0 := htop; have g1 := xRb (hA 37 (top + (-1))); omega)) rfl ?_
              refine x_ias xc75_230 xz37 (by have g0 := htop; omega) (by have g0 := htop; omega) (by have g0 := htop; omega) ?_
              refine x_aloadn xc75_231 rfl ?_
              refine x_gfr xc75_232 rfl rfl xz34 rfl ?_
              refine x_iloadn xc75_235 rfl ?_
              refine x_iconst xc75_236 ?_
              refine x_isub xc75_237 ?_
              refine x_aloadn xc75_238 rfl ?_
              refine x_gfr xc75_239 rfl rfl xz34 rfl ?_
              refine x_iloadn xc75_242 rfl ?_
              refine x_iconst xc75_243 ?_
              refine x_isub xc75_244 ?_
              refine x_ial' (v := a 38 (top + (-1) - 1)) xc75_245 xz38 rfl (by have g0 := htop; omega) (by have g0 := htop; omega) (by have g0 := htop; omega) (by rw [xUn (by decide)]) ?_
              refine x_aloadn xc75_246 rfl ?_
              refine x_gfr xc75_247 rfl rfl xz34 rfl ?_
              refine x_iloadn xc75_250 rfl ?_
              refine x_ial' (v := a 38 (top + (-1))) xc75_251 xz38 rfl (by have g0 := htop; omega) (by have g0 := htop; omega) (by have g0 := htop; omega) (by rw [xUn (by decide)]) ?_
              refine x_max xc75_252 rfl (xRk (by have g0 := htop; have g1 := xRb (hA 38 (top + (-1) - 1)); omega)) (xRk (by have g0 := htop; have g1 := xRb (hA 38 (top + (-1))); omega)) rfl ?_
              refine x_ias xc75_255 xz38 (by have g0 := htop; omega) (by have g0 := htop; omega) (by have g0 := htop; omega) ?_
              refine x_iinc (pl' := [some (.ref 34), some (xV (top + (-1))), some (xV (i + 1)), some (xV (tk / 64)), v4]) xc75_256 rfl rfl ?_
              refine x_goto xc75_259 ?_
              exact k4 h0 h1 h2 h3 h4 h5
        · replace h3 := Classical.not_not.mp h3
          refine x_iloadn xc75_131 rfl ?_
          refine x_iconst xc75_132 ?_
          refine x_iclt xc75_133 (xRk (by have g0 := htop; omega)) (xRk (by decide)) (fun h6 => ?_) (fun h6 => ?_)
          · refine x_iloadn xc75_192 rfl ?_
            refine x_bipush xc75_193 (by decide) ?_
            refine x_icne xc75_195 (xRk (by have g0 := htk; omega)) (xRk (by decide)) (fun _ => ?_) (fun h => absurd h (by omega))
            refine x_iinc (pl' := [some (.ref 34), some (xV top), some (xV (i + 1)), some (xV (tk / 64)), v4]) xc75_256 rfl rfl ?_
            refine x_goto xc75_259 ?_
            exact k5 h0 h1 h2 h3 h6
          · refine x_iinc (pl' := [some (.ref 34), some (xV (top + (-1))), some (xV i), some (xV (tk / 64)), v4]) xc75_136 rfl rfl ?_
            refine x_aloadn xc75_139 rfl ?_
            refine x_gfr xc75_140 rfl rfl xz34 rfl ?_
            refine x_iloadn xc75_143 rfl ?_
            refine x_iconst xc75_144 ?_
            refine x_isub xc75_145 ?_
            refine x_aloadn xc75_146 rfl ?_
            refine x_gfr xc75_147 rfl rfl xz34 rfl ?_
            refine x_iloadn xc75_150 rfl ?_
            refine x_iconst xc75_151 ?_
            refine x_isub xc75_152 ?_
            refine x_ial xc75_153 xz37 rfl (by have g0 := htop; omega) (by have g0 := htop; omega) (by have g0 := htop; omega) ?_
            refine x_aloadn xc75_154 rfl ?_
            refine x_gfr xc75_155 rfl rfl xz34 rfl ?_
            refine x_iloadn xc75_158 rfl ?_
            refine x_ial xc75_159 xz37 rfl (by have g0 := htop; omega) (by have g0 := htop; omega) (by have g0 := htop; omega) ?_
            refine x_max xc75_160 rfl (xRk (by have g0 := htop; have g1 := xRb (hA 37 (top + (-1) - 1)); omega)) (xRk (by have g0 := htop; have g1 := xRb (hA 37 (top + (-1))); omega)) rfl ?_
            refine x_ias xc75_163 xz37 (by have g0 := htop; omega) (by have g0 := htop; omega) (by have g0 := htop; omega) ?_
            refine x_aloadn xc75_164 rfl ?_
            refine x_gfr xc75_165 rfl rfl xz34 rfl ?_
            refine x_iloadn xc75_168 rfl ?_
            refine x_iconst xc75_169 ?_
            refine x_isub xc75_170 ?_
            refine x_aloadn xc75_171 rfl ?_
            refine x_gfr xc75_172 rfl rfl xz34 rfl ?_
            refine x_iloadn xc75_175 rfl ?_
            refine x_iconst xc75_176 ?_
            refine x_isub xc75_177 ?_
            refine x_ial' (v := a 38 (top + (-1) - 1)) xc75_178 xz38 rfl (by have g0 := htop; omega) (by have g0 := htop; omega) (by have g0 := htop; omega) (by rw [xUn (by decide)]) ?_
            refine x_aloadn xc75_179 rfl ?_
            refine x_gfr xc75_180 rfl rfl xz34 rfl ?_
            refine x_iloadn xc75_183 rfl ?_
            refine x_ial' (v := a 38 (top + (-1))) xc75_184 xz38 rfl (by have g0 := htop; omega) (by have g0 := htop; omega) (by have g0 := htop; omega) (by rw [xUn (by decide)]) ?_
            refine x_min xc75_185 rfl (xRk (by have g0 := htop; have g1 := xRb (hA 38 (top + (-1) - 1)); omega)) (xRk (by have g0 := htop; have g1 := xRb (hA 38 (top + (-1))); omega)) rfl ?_
            refine x_ias xc75_188 xz38 (by have g0 := htop; omega) (by have g0 := htop; omega) (by have g0 := htop; omega) ?_
            refine x_goto xc75_189 ?_
            refine x_iinc (pl' := [some (.ref 34), some (xV (top + (-1))), some (xV (i + 1)), some (xV (tk / 64)), v4]) xc75_256 rfl rfl ?_
            refine x_goto xc75_259 ?_
            exact k6 h0 h1 h2 h3 h6
      · replace h2 := Classical.not_not.mp h2
        refine x_iloadn xc75_81 rfl ?_
        refine x_iconst xc75_82 ?_
        refine x_iclt xc75_83 (xRk (by have g0 := htop; omega)) (xRk (by decide)) (fun h8 => ?_) (fun h8 => ?_)
        · refine x_iloadn xc75_125 rfl ?_
          refine x_bipush xc75_126 (by decide) ?_
          refine x_icne xc75_128 (xRk (by have g0 := htk; omega)) (xRk (by decide)) (fun _ => ?_) (fun h => absurd h (by omega))
          refine x_iloadn xc75_192 rfl ?_
          refine x_bipush xc75_193 (by decide) ?_
          refine x_icne xc75_195 (xRk (by have g0 := htk; omega)) (xRk (by decide)) (fun _ => ?_) (fun h => absurd h (by omega))
          refine x_iinc (pl' := [some (.ref 34), some (xV top), some (xV (i + 1)), some (xV (tk / 64)), v4]) xc75_256 rfl rfl ?_
          refine x_goto xc75_259 ?_
          exact k7 h0 h1 h2 h8
        · refine x_aloadn xc75_86 rfl ?_
          refine x_gfr xc75_87 rfl rfl xz34 rfl ?_
          refine x_iloadn xc75_90 rfl ?_
          refine x_iconst xc75_91 ?_
          refine x_isub xc75_92 ?_
          refine x_ial xc75_93 xz37 rfl (by have g0 := htop; omega) (by have g0 := htop; omega) (by have g0 := htop; omega) ?_
          refine x_istore (pl' := [some (.ref 34), some (xV top), some (xV i), some (xV (tk / 64)), some (xV (a 37 (top - 1)))]) xc75_94 rfl rfl ?_
          refine x_aloadn xc75_96 rfl ?_
          refine x_gfr xc75_97 rfl rfl xz34 rfl ?_
          refine x_iloadn xc75_100 rfl ?_
          refine x_iconst xc75_101 ?_
          refine x_isub xc75_102 ?_
          refine x_aloadn xc75_103 rfl ?_
          refine x_gfr xc75_104 rfl rfl xz34 rfl ?_
          refine x_iloadn xc75_107 rfl ?_
          refine x_iconst xc75_108 ?_
          refine x_isub xc75_109 ?_
          refine x_ial xc75_110 xz38 rfl (by have g0 := htop; omega) (by have g0 := htop; omega) (by have g0 := htop; omega) ?_
          refine x_ias xc75_111 xz37 (by have g0 := htop; omega) (by have g0 := htop; omega) (by have g0 := htop; omega) ?_
          refine x_aloadn xc75_112 rfl ?_
          refine x_gfr xc75_113 rfl rfl xz34 rfl ?_
          refine x_iloadn xc75_116 rfl ?_
          refine x_iconst xc75_117 ?_
          refine x_isub xc75_118 ?_
          refine x_iload xc75_119 rfl ?_
          refine x_ias xc75_121 xz38 (by have g0 := htop; omega) (by have g0 := htop; omega) (by have g0 := htop; omega) ?_
          refine x_goto xc75_122 ?_
          refine x_iinc (pl' := [some (.ref 34), some (xV top), some (xV (i + 1)), some (xV (tk / 64)), some (xV (a 37 (top - 1)))]) xc75_256 rfl rfl ?_
          refine x_goto xc75_259 ?_
          exact k8 h0 h1 h2 h8
    · refine x_aloadn xc75_46 rfl ?_
      refine x_gfr xc75_47 rfl rfl xz34 rfl ?_
      refine x_iloadn xc75_50 rfl ?_
      refine x_aloadn xc75_51 rfl ?_
      refine x_gfr xc75_52 rfl rfl xz34 rfl ?_
      refine x_iloadn xc75_55 rfl ?_
      refine x_ial xc75_56 xz37 rfl (by have g0 := hi; omega) (by have g0 := hi; omega) (by have g0 := hi; omega) ?_
      refine x_ias xc75_57 xz37 (by have g0 := htop; omega) (by have g0 := htop; omega) (by have g0 := htop; omega) ?_
      refine x_aloadn xc75_58 rfl ?_
      refine x_gfr xc75_59 rfl rfl xz34 rfl ?_
      refine x_iloadn xc75_62 rfl ?_
      refine x_aloadn xc75_63 rfl ?_
      refine x_gfr xc75_64 rfl rfl xz34 rfl ?_
      refine x_iloadn xc75_67 rfl ?_
      refine x_ial' (v := a 38 i) xc75_68 xz38 rfl (by have g0 := hi; omega) (by have g0 := hi; omega) (by have g0 := hi; omega) (by rw [xUn (by decide)]) ?_
      refine x_ias xc75_69 xz38 (by have g0 := htop; omega) (by have g0 := htop; omega) (by have g0 := htop; omega) ?_
      refine x_iinc (pl' := [some (.ref 34), some (xV (top + 1)), some (xV i), some (xV (tk / 64)), v4]) xc75_70 rfl rfl ?_
      refine x_goto xc75_73 ?_
      refine x_iinc (pl' := [some (.ref 34), some (xV (top + 1)), some (xV (i + 1)), some (xV (tk / 64)), v4]) xc75_256 rfl rfl ?_
      refine x_goto xc75_259 ?_
      exact k9 h0 h1

theorem w75 {Ln : Nat} {xs : Nat → Int32} {d : Nat} {Q : Option Value → pmS → Prop} {a : xA} {b : xB}
    (k1 : pmWp (pmRo Ln xs) d 3 75 1 4 [some (.ref 34), some (xV 0), some (xV 0), none, none] [] (xS a b) Q) :
    pmWp (pmRo Ln xs) d 3 75 1 0 [some (.ref 34), none, none, none, none] [] (xS a b) Q := by
  refine x_iconst xc75_0 ?_
  refine x_istoren (pl' := [some (.ref 34), some (xV 0), none, none, none]) xc75_1 rfl rfl ?_
  refine x_iconst xc75_2 ?_
  refine x_istoren (pl' := [some (.ref 34), some (xV 0), some (xV 0), none, none]) xc75_3 rfl rfl ?_
  exact k1

theorem xg75 {ro : Nat → Nat × (Nat → Int32)} {d : Nat} {Q : Option Value → pmS → Prop} {a : xA} {b : xB} (h : pmWp ro d 3 75 1 0 [some (.ref 34), none, none, none, none] [] (xS a b) Q) : pmCs ro (d + 1) 75 [.ref 34] (xS a b) Q := x_go xi75 rfl rfl rfl rfl rfl h
end
