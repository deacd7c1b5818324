/-! exact: the class, what a deed changes; what it costs at least -/
section
set_option maxRecDepth 100000
theorem xi73 : pmInf[73]? = some pmI_73 := rfl
theorem xi81 : pmInf[81]? = some pmI_81 := rfl
theorem xc73_0 : pmCode 73 0 = some (.iconst 0) ∧ 0 + 1 = 1 := ⟨rfl, rfl⟩
theorem xc73_1 : pmCode 73 1 = some (.bipush 7) ∧ 1 + 2 = 3 := ⟨rfl, rfl⟩
theorem xc73_3 : pmCode 73 3 = some (.lload_n 1) ∧ 3 + 1 = 4 := ⟨rfl, rfl⟩
theorem xc73_4 : pmCode 73 4 = some (.iconst 4) ∧ 4 + 1 = 5 := ⟨rfl, rfl⟩
theorem xc73_5 : pmCode 73 5 = some (.aload_n 0) ∧ 5 + 1 = 6 := ⟨rfl, rfl⟩
theorem xc73_6 : pmCode 73 6 = some (.getfield 61) ∧ 6 + 3 = 9 := ⟨rfl, rfl⟩
theorem xc73_9 : pmCode 73 9 = some .imul ∧ 9 + 1 = 10 := ⟨rfl, rfl⟩
theorem xc73_10 : pmCode 73 10 = some .lushr ∧ 10 + 1 = 11 := ⟨rfl, rfl⟩
theorem xc73_11 : pmCode 73 11 = some .l2i ∧ 11 + 1 = 12 := ⟨rfl, rfl⟩
theorem xc73_12 : pmCode 73 12 = some (.bipush 15) ∧ 12 + 2 = 14 := ⟨rfl, rfl⟩
theorem xc73_14 : pmCode 73 14 = some .iand ∧ 14 + 1 = 15 := ⟨rfl, rfl⟩
theorem xc73_15 : pmCode 73 15 = some (.invokestatic 120) ∧ 15 + 3 = 18 := ⟨rfl, rfl⟩
theorem xc73_18 : pmCode 73 18 = some (.iconst 1) ∧ 18 + 1 = 19 := ⟨rfl, rfl⟩
theorem xc73_19 : pmCode 73 19 = some .isub ∧ 19 + 1 = 20 := ⟨rfl, rfl⟩
theorem xc73_20 : pmCode 73 20 = some (.invokestatic 126) ∧ 20 + 3 = 23 := ⟨rfl, rfl⟩
theorem xc73_23 : pmCode 73 23 = some (.istore 4) ∧ 23 + 2 = 25 := ⟨rfl, rfl⟩
theorem xc73_25 : pmCode 73 25 = some (.iconst 0) ∧ 25 + 1 = 26 := ⟨rfl, rfl⟩
theorem xc73_26 : pmCode 73 26 = some (.istore 5) ∧ 26 + 2 = 28 := ⟨rfl, rfl⟩
theorem xc73_28 : pmCode 73 28 = some (.iload 5) ∧ 28 + 2 = 30 := ⟨rfl, rfl⟩
theorem xc73_30 : pmCode 73 30 = some (.iconst 4) ∧ 30 + 1 = 31 := ⟨rfl, rfl⟩
theorem xc73_31 : pmCode 73 31 = some (.if_icmp .ge 67) ∧ ((31 : Nat) : Int) + 67 = ((98 : Nat) : Int) ∧ 31 + 3 = 34 := ⟨rfl, rfl, rfl⟩
theorem xc73_34 : pmCode 73 34 = some (.lload_n 1) ∧ 34 + 1 = 35 := ⟨rfl, rfl⟩
theorem xc73_35 : pmCode 73 35 = some (.iconst 4) ∧ 35 + 1 = 36 := ⟨rfl, rfl⟩
theorem xc73_36 : pmCode 73 36 = some (.iload 5) ∧ 36 + 2 = 38 := ⟨rfl, rfl⟩
theorem xc73_38 : pmCode 73 38 = some .imul ∧ 38 + 1 = 39 := ⟨rfl, rfl⟩
theorem xc73_39 : pmCode 73 39 = some .lushr ∧ 39 + 1 = 40 := ⟨rfl, rfl⟩
theorem xc73_40 : pmCode 73 40 = some .l2i ∧ 40 + 1 = 41 := ⟨rfl, rfl⟩
theorem xc73_41 : pmCode 73 41 = some (.bipush 15) ∧ 41 + 2 = 43 := ⟨rfl, rfl⟩
theorem xc73_43 : pmCode 73 43 = some .iand ∧ 43 + 1 = 44 := ⟨rfl, rfl⟩
theorem xc73_44 : pmCode 73 44 = some (.iconst 1) ∧ 44 + 1 = 45 := ⟨rfl, rfl⟩
theorem xc73_45 : pmCode 73 45 = some .isub ∧ 45 + 1 = 46 := ⟨rfl, rfl⟩
theorem xc73_46 : pmCode 73 46 = some (.istore 6) ∧ 46 + 2 = 48 := ⟨rfl, rfl⟩
theorem xc73_48 : pmCode 73 48 = some (.aload_n 0) ∧ 48 + 1 = 49 := ⟨rfl, rfl⟩
theorem xc73_49 : pmCode 73 49 = some (.getfield 25) ∧ 49 + 3 = 52 := ⟨rfl, rfl⟩
theorem xc73_52 : pmCode 73 52 = some (.iload 5) ∧ 52 + 2 = 54 := ⟨rfl, rfl⟩
theorem xc73_54 : pmCode 73 54 = some (.iload 6) ∧ 54 + 2 = 56 := ⟨rfl, rfl⟩
theorem xc73_56 : pmCode 73 56 = some (.ifCond .lt 33) ∧ ((56 : Nat) : Int) + 33 = ((89 : Nat) : Int) ∧ 56 + 3 = 59 := ⟨rfl, rfl, rfl⟩
theorem xc73_59 : pmCode 73 59 = some (.iload 6) ∧ 59 + 2 = 61 := ⟨rfl, rfl⟩
theorem xc73_61 : pmCode 73 61 = some (.bipush 7) ∧ 61 + 2 = 63 := ⟨rfl, rfl⟩
theorem xc73_63 : pmCode 73 63 = some (.if_icmp .ge 26) ∧ ((63 : Nat) : Int) + 26 = ((89 : Nat) : Int) ∧ 63 + 3 = 66 := ⟨rfl, rfl, rfl⟩
theorem xc73_66 : pmCode 73 66 = some (.aload_n 0) ∧ 66 + 1 = 67 := ⟨rfl, rfl⟩
theorem xc73_67 : pmCode 73 67 = some (.getfield 37) ∧ 67 + 3 = 70 := ⟨rfl, rfl⟩
theorem xc73_70 : pmCode 73 70 = some (.getfield 129) ∧ 70 + 3 = 73 := ⟨rfl, rfl⟩
theorem xc73_73 : pmCode 73 73 = some (.bipush 7) ∧ 73 + 2 = 75 := ⟨rfl, rfl⟩
theorem xc73_75 : pmCode 73 75 = some (.iload 4) ∧ 75 + 2 = 77 := ⟨rfl, rfl⟩
theorem xc73_77 : pmCode 73 77 = some .imul ∧ 77 + 1 = 78 := ⟨rfl, rfl⟩
theorem xc73_78 : pmCode 73 78 = some (.iload 6) ∧ 78 + 2 = 80 := ⟨rfl, rfl⟩
theorem xc73_80 : pmCode 73 80 = some .iadd ∧ 80 + 1 = 81 := ⟨rfl, rfl⟩
theorem xc73_81 : pmCode 73 81 = some .iaload ∧ 81 + 1 = 82 := ⟨rfl, rfl⟩
theorem xc73_82 : pmCode 73 82 = some (.aload_n 3) ∧ 82 + 1 = 83 := ⟨rfl, rfl⟩
theorem xc73_83 : pmCode 73 83 = some (.iconst 1) ∧ 83 + 1 = 84 := ⟨rfl, rfl⟩
theorem xc73_84 : pmCode 73 84 = some .iaload ∧ 84 + 1 = 85 := ⟨rfl, rfl⟩
theorem xc73_85 : pmCode 73 85 = some .imul ∧ 85 + 1 = 86 := ⟨rfl, rfl⟩
theorem xc73_86 : pmCode 73 86 = some (.goto 5) ∧ ((86 : Nat) : Int) + 5 = ((91 : Nat) : Int) := ⟨rfl, rfl⟩
theorem xc73_89 : pmCode 73 89 = some (.ldc 88) ∧ 89 + 2 = 91 := ⟨rfl, rfl⟩
theorem xc73_91 : pmCode 73 91 = some .iastore ∧ 91 + 1 = 92 := ⟨rfl, rfl⟩
theorem xc73_92 : pmCode 73 92 = some (.iinc 5 1) ∧ 92 + 3 = 95 := ⟨rfl, rfl⟩
theorem xc73_95 : pmCode 73 95 = some (.goto (-67)) ∧ ((95 : Nat) : Int) + (-67) = ((28 : Nat) : Int) := ⟨rfl, rfl⟩
theorem xc73_98 : pmCode 73 98 = some (.ldc 88) ∧ 98 + 2 = 100 := ⟨rfl, rfl⟩
theorem xc73_100 : pmCode 73 100 = some (.istore 5) ∧ 100 + 2 = 102 := ⟨rfl, rfl⟩
theorem xc73_102 : pmCode 73 102 = some (.iconst 0) ∧ 102 + 1 = 103 := ⟨rfl, rfl⟩
theorem xc73_103 : pmCode 73 103 = some (.istore 6) ∧ 103 + 2 = 105 := ⟨rfl, rfl⟩
theorem xc73_105 : pmCode 73 105 = some (.iload 6) ∧ 105 + 2 = 107 := ⟨rfl, rfl⟩
theorem xc73_107 : pmCode 73 107 = some (.iconst 5) ∧ 107 + 1 = 108 := ⟨rfl, rfl⟩
theorem xc73_108 : pmCode 73 108 = some (.if_icmp .ge 234) ∧ ((108 : Nat) : Int) + 234 = ((342 : Nat) : Int) ∧ 108 + 3 = 111 := ⟨rfl, rfl, rfl⟩
theorem xc73_111 : pmCode 73 111 = some (.lload_n 1) ∧ 111 + 1 = 112 := ⟨rfl, rfl⟩
theorem xc73_112 : pmCode 73 112 = some (.bipush 16) ∧ 112 + 2 = 114 := ⟨rfl, rfl⟩
theorem xc73_114 : pmCode 73 114 = some (.iconst 4) ∧ 114 + 1 = 115 := ⟨rfl, rfl⟩
theorem xc73_115 : pmCode 73 115 = some (.iload 6) ∧ 115 + 2 = 117 := ⟨rfl, rfl⟩
theorem xc73_117 : pmCode 73 117 = some .imul ∧ 117 + 1 = 118 := ⟨rfl, rfl⟩
theorem xc73_118 : pmCode 73 118 = some .iadd ∧ 118 + 1 = 119 := ⟨rfl, rfl⟩
theorem xc73_119 : pmCode 73 119 = some .lushr ∧ 119 + 1 = 120 := ⟨rfl, rfl⟩
theorem xc73_120 : pmCode 73 120 = some .l2i ∧ 120 + 1 = 121 := ⟨rfl, rfl⟩
theorem xc73_121 : pmCode 73 121 = some (.bipush 15) ∧ 121 + 2 = 123 := ⟨rfl, rfl⟩
theorem xc73_123 : pmCode 73 123 = some .iand ∧ 123 + 1 = 124 := ⟨rfl, rfl⟩
theorem xc73_124 : pmCode 73 124 = some (.istore 7) ∧ 124 + 2 = 126 := ⟨rfl, rfl⟩
theorem xc73_126 : pmCode 73 126 = some (.aload_n 0) ∧ 126 + 1 = 127 := ⟨rfl, rfl⟩
theorem xc73_127 : pmCode 73 127 = some (.getfield 34) ∧ 127 + 3 = 130 := ⟨rfl, rfl⟩
theorem xc73_130 : pmCode 73 130 = some (.iload 6) ∧ 130 + 2 = 132 := ⟨rfl, rfl⟩
theorem xc73_132 : pmCode 73 132 = some (.iload 4) ∧ 132 + 2 = 134 := ⟨rfl, rfl⟩
theorem xc73_134 : pmCode 73 134 = some .iastore ∧ 134 + 1 = 135 := ⟨rfl, rfl⟩
theorem xc73_135 : pmCode 73 135 = some (.aload_n 0) ∧ 135 + 1 = 136 := ⟨rfl, rfl⟩
theorem xc73_136 : pmCode 73 136 = some (.getfield 31) ∧ 136 + 3 = 139 := ⟨rfl, rfl⟩
theorem xc73_139 : pmCode 73 139 = some (.iload 6) ∧ 139 + 2 = 141 := ⟨rfl, rfl⟩
theorem xc73_141 : pmCode 73 141 = some (.ldc 88) ∧ 141 + 2 = 143 := ⟨rfl, rfl⟩
theorem xc73_143 : pmCode 73 143 = some .iastore ∧ 143 + 1 = 144 := ⟨rfl, rfl⟩
theorem xc73_144 : pmCode 73 144 = some (.iload 7) ∧ 144 + 2 = 146 := ⟨rfl, rfl⟩
theorem xc73_146 : pmCode 73 146 = some (.bipush 9) ∧ 146 + 2 = 148 := ⟨rfl, rfl⟩
theorem xc73_148 : pmCode 73 148 = some (.aload_n 0) ∧ 148 + 1 = 149 := ⟨rfl, rfl⟩
theorem xc73_149 : pmCode 73 149 = some (.getfield 61) ∧ 149 + 3 = 152 := ⟨rfl, rfl⟩
theorem xc73_152 : pmCode 73 152 = some .iadd ∧ 152 + 1 = 153 := ⟨rfl, rfl⟩
theorem xc73_153 : pmCode 73 153 = some (.if_icmp .ne 14) ∧ ((153 : Nat) : Int) + 14 = ((167 : Nat) : Int) ∧ 153 + 3 = 156 := ⟨rfl, rfl, rfl⟩
theorem xc73_156 : pmCode 73 156 = some (.aload_n 0) ∧ 156 + 1 = 157 := ⟨rfl, rfl⟩
theorem xc73_157 : pmCode 73 157 = some (.getfield 31) ∧ 157 + 3 = 160 := ⟨rfl, rfl⟩
theorem xc73_160 : pmCode 73 160 = some (.iload 6) ∧ 160 + 2 = 162 := ⟨rfl, rfl⟩
theorem xc73_162 : pmCode 73 162 = some (.iconst 0) ∧ 162 + 1 = 163 := ⟨rfl, rfl⟩
theorem xc73_163 : pmCode 73 163 = some .iastore ∧ 163 + 1 = 164 := ⟨rfl, rfl⟩
theorem xc73_164 : pmCode 73 164 = some (.goto 143) ∧ ((164 : Nat) : Int) + 143 = ((307 : Nat) : Int) := ⟨rfl, rfl⟩
theorem xc73_167 : pmCode 73 167 = some (.iload 7) ∧ 167 + 2 = 169 := ⟨rfl, rfl⟩
theorem xc73_169 : pmCode 73 169 = some (.bipush 9) ∧ 169 + 2 = 171 := ⟨rfl, rfl⟩
theorem xc73_171 : pmCode 73 171 = some (.if_icmp .lt 79) ∧ ((171 : Nat) : Int) + 79 = ((250 : Nat) : Int) ∧ 171 + 3 = 174 := ⟨rfl, rfl, rfl⟩
theorem xc73_174 : pmCode 73 174 = some (.iload 7) ∧ 174 + 2 = 176 := ⟨rfl, rfl⟩
theorem xc73_176 : pmCode 73 176 = some (.bipush 13) ∧ 176 + 2 = 178 := ⟨rfl, rfl⟩
theorem xc73_178 : pmCode 73 178 = some (.if_icmp .ge 72) ∧ ((178 : Nat) : Int) + 72 = ((250 : Nat) : Int) ∧ 178 + 3 = 181 := ⟨rfl, rfl, rfl⟩
theorem xc73_181 : pmCode 73 181 = some (.aload_n 0) ∧ 181 + 1 = 182 := ⟨rfl, rfl⟩
theorem xc73_182 : pmCode 73 182 = some (.getfield 25) ∧ 182 + 3 = 185 := ⟨rfl, rfl⟩
theorem xc73_185 : pmCode 73 185 = some (.iload 7) ∧ 185 + 2 = 187 := ⟨rfl, rfl⟩
theorem xc73_187 : pmCode 73 187 = some (.bipush 9) ∧ 187 + 2 = 189 := ⟨rfl, rfl⟩
theorem xc73_189 : pmCode 73 189 = some .isub ∧ 189 + 1 = 190 := ⟨rfl, rfl⟩
theorem xc73_190 : pmCode 73 190 = some .iaload ∧ 190 + 1 = 191 := ⟨rfl, rfl⟩
theorem xc73_191 : pmCode 73 191 = some (.ldc 88) ∧ 191 + 2 = 193 := ⟨rfl, rfl⟩
theorem xc73_193 : pmCode 73 193 = some (.if_icmp .ge 57) ∧ ((193 : Nat) : Int) + 57 = ((250 : Nat) : Int) ∧ 193 + 3 = 196 := ⟨rfl, rfl, rfl⟩
theorem xc73_196 : pmCode 73 196 = some (.aload_n 0) ∧ 196 + 1 = 197 := ⟨rfl, rfl⟩
theorem xc73_197 : pmCode 73 197 = some (.getfield 34) ∧ 197 + 3 = 200 := ⟨rfl, rfl⟩
theorem xc73_200 : pmCode 73 200 = some (.iload 6) ∧ 200 + 2 = 202 := ⟨rfl, rfl⟩
theorem xc73_202 : pmCode 73 202 = some (.iconst 0) ∧ 202 + 1 = 203 := ⟨rfl, rfl⟩
theorem xc73_203 : pmCode 73 203 = some (.lload_n 1) ∧ 203 + 1 = 204 := ⟨rfl, rfl⟩
theorem xc73_204 : pmCode 73 204 = some (.iconst 4) ∧ 204 + 1 = 205 := ⟨rfl, rfl⟩
theorem xc73_205 : pmCode 73 205 = some (.iload 7) ∧ 205 + 2 = 207 := ⟨rfl, rfl⟩
theorem xc73_207 : pmCode 73 207 = some (.bipush 9) ∧ 207 + 2 = 209 := ⟨rfl, rfl⟩
theorem xc73_209 : pmCode 73 209 = some .isub ∧ 209 + 1 = 210 := ⟨rfl, rfl⟩
theorem xc73_210 : pmCode 73 210 = some .imul ∧ 210 + 1 = 211 := ⟨rfl, rfl⟩
theorem xc73_211 : pmCode 73 211 = some .lushr ∧ 211 + 1 = 212 := ⟨rfl, rfl⟩
theorem xc73_212 : pmCode 73 212 = some .l2i ∧ 212 + 1 = 213 := ⟨rfl, rfl⟩
theorem xc73_213 : pmCode 73 213 = some (.bipush 15) ∧ 213 + 2 = 215 := ⟨rfl, rfl⟩
theorem xc73_215 : pmCode 73 215 = some .iand ∧ 215 + 1 = 216 := ⟨rfl, rfl⟩
theorem xc73_216 : pmCode 73 216 = some (.iconst 1) ∧ 216 + 1 = 217 := ⟨rfl, rfl⟩
theorem xc73_217 : pmCode 73 217 = some .isub ∧ 217 + 1 = 218 := ⟨rfl, rfl⟩
theorem xc73_218 : pmCode 73 218 = some (.invokestatic 126) ∧ 218 + 3 = 221 := ⟨rfl, rfl⟩
theorem xc73_221 : pmCode 73 221 = some .iastore ∧ 221 + 1 = 222 := ⟨rfl, rfl⟩
theorem xc73_222 : pmCode 73 222 = some (.aload_n 0) ∧ 222 + 1 = 223 := ⟨rfl, rfl⟩
theorem xc73_223 : pmCode 73 223 = some (.getfield 31) ∧ 223 + 3 = 226 := ⟨rfl, rfl⟩
theorem xc73_226 : pmCode 73 226 = some (.iload 6) ∧ 226 + 2 = 228 := ⟨rfl, rfl⟩
theorem xc73_228 : pmCode 73 228 = some (.aload_n 0) ∧ 228 + 1 = 229 := ⟨rfl, rfl⟩
theorem xc73_229 : pmCode 73 229 = some (.getfield 25) ∧ 229 + 3 = 232 := ⟨rfl, rfl⟩
theorem xc73_232 : pmCode 73 232 = some (.iload 7) ∧ 232 + 2 = 234 := ⟨rfl, rfl⟩
theorem xc73_234 : pmCode 73 234 = some (.bipush 9) ∧ 234 + 2 = 236 := ⟨rfl, rfl⟩
theorem xc73_236 : pmCode 73 236 = some .isub ∧ 236 + 1 = 237 := ⟨rfl, rfl⟩
theorem xc73_237 : pmCode 73 237 = some .iaload ∧ 237 + 1 = 238 := ⟨rfl, rfl⟩
theorem xc73_238 : pmCode 73 238 = some (.aload_n 3) ∧ 238 + 1 = 239 := ⟨rfl, rfl⟩
theorem xc73_239 : pmCode 73 239 = some (.iconst 5) ∧ 239 + 1 = 240 := ⟨rfl, rfl⟩
theorem xc73_240 : pmCode 73 240 = some .iaload ∧ 240 + 1 = 241 := ⟨rfl, rfl⟩
theorem xc73_241 : pmCode 73 241 = some .iadd ∧ 241 + 1 = 242 := ⟨rfl, rfl⟩
theorem xc73_242 : pmCode 73 242 = some (.aload_n 3) ∧ 242 + 1 = 243 := ⟨rfl, rfl⟩
theorem xc73_243 : pmCode 73 243 = some (.iconst 2) ∧ 243 + 1 = 244 := ⟨rfl, rfl⟩
theorem xc73_244 : pmCode 73 244 = some .iaload ∧ 244 + 1 = 245 := ⟨rfl, rfl⟩
theorem xc73_245 : pmCode 73 245 = some .iadd ∧ 245 + 1 = 246 := ⟨rfl, rfl⟩
theorem xc73_246 : pmCode 73 246 = some .iastore ∧ 246 + 1 = 247 := ⟨rfl, rfl⟩
theorem xc73_247 : pmCode 73 247 = some (.goto 60) ∧ ((247 : Nat) : Int) + 60 = ((307 : Nat) : Int) := ⟨rfl, rfl⟩
theorem xc73_250 : pmCode 73 250 = some (.iload 7) ∧ 250 + 2 = 252 := ⟨rfl, rfl⟩
theorem xc73_252 : pmCode 73 252 = some (.iconst 1) ∧ 252 + 1 = 253 := ⟨rfl, rfl⟩
theorem xc73_253 : pmCode 73 253 = some (.if_icmp .lt 54) ∧ ((253 : Nat) : Int) + 54 = ((307 : Nat) : Int) ∧ 253 + 3 = 256 := ⟨rfl, rfl, rfl⟩
theorem xc73_256 : pmCode 73 256 = some (.iload 7) ∧ 256 + 2 = 258 := ⟨rfl, rfl⟩
theorem xc73_258 : pmCode 73 258 = some (.bipush 7) ∧ 258 + 2 = 260 := ⟨rfl, rfl⟩
theorem xc73_260 : pmCode 73 260 = some (.if_icmp .gt 47) ∧ ((260 : Nat) : Int) + 47 = ((307 : Nat) : Int) ∧ 260 + 3 = 263 := ⟨rfl, rfl, rfl⟩
theorem xc73_263 : pmCode 73 263 = some (.aload_n 0) ∧ 263 + 1 = 264 := ⟨rfl, rfl⟩
theorem xc73_264 : pmCode 73 264 = some (.getfield 34) ∧ 264 + 3 = 267 := ⟨rfl, rfl⟩
theorem xc73_267 : pmCode 73 267 = some (.iload 6) ∧ 267 + 2 = 269 := ⟨rfl, rfl⟩
theorem xc73_269 : pmCode 73 269 = some (.iload 7) ∧ 269 + 2 = 271 := ⟨rfl, rfl⟩
theorem xc73_271 : pmCode 73 271 = some (.iconst 1) ∧ 271 + 1 = 272 := ⟨rfl, rfl⟩
theorem xc73_272 : pmCode 73 272 = some .isub ∧ 272 + 1 = 273 := ⟨rfl, rfl⟩
theorem xc73_273 : pmCode 73 273 = some .iastore ∧ 273 + 1 = 274 := ⟨rfl, rfl⟩
theorem xc73_274 : pmCode 73 274 = some (.aload_n 0) ∧ 274 + 1 = 275 := ⟨rfl, rfl⟩
theorem xc73_275 : pmCode 73 275 = some (.getfield 31) ∧ 275 + 3 = 278 := ⟨rfl, rfl⟩
theorem xc73_278 : pmCode 73 278 = some (.iload 6) ∧ 278 + 2 = 280 := ⟨rfl, rfl⟩
theorem xc73_280 : pmCode 73 280 = some (.aload_n 0) ∧ 280 + 1 = 281 := ⟨rfl, rfl⟩
theorem xc73_281 : pmCode 73 281 = some (.getfield 37) ∧ 281 + 3 = 284 := ⟨rfl, rfl⟩
theorem xc73_284 : pmCode 73 284 = some (.getfield 129) ∧ 284 + 3 = 287 := ⟨rfl, rfl⟩
theorem xc73_287 : pmCode 73 287 = some (.bipush 7) ∧ 287 + 2 = 289 := ⟨rfl, rfl⟩
theorem xc73_289 : pmCode 73 289 = some (.iload 4) ∧ 289 + 2 = 291 := ⟨rfl, rfl⟩
theorem xc73_291 : pmCode 73 291 = some .imul ∧ 291 + 1 = 292 := ⟨rfl, rfl⟩
theorem xc73_292 : pmCode 73 292 = some (.iload 7) ∧ 292 + 2 = 294 := ⟨rfl, rfl⟩
theorem xc73_294 : pmCode 73 294 = some .iadd ∧ 294 + 1 = 295 := ⟨rfl, rfl⟩
theorem xc73_295 : pmCode 73 295 = some (.iconst 1) ∧ 295 + 1 = 296 := ⟨rfl, rfl⟩
theorem xc73_296 : pmCode 73 296 = some .isub ∧ 296 + 1 = 297 := ⟨rfl, rfl⟩
theorem xc73_297 : pmCode 73 297 = some .iaload ∧ 297 + 1 = 298 := ⟨rfl, rfl⟩
theorem xc73_298 : pmCode 73 298 = some (.aload_n 3) ∧ 298 + 1 = 299 := ⟨rfl, rfl⟩
theorem xc73_299 : pmCode 73 299 = some (.iconst 1) ∧ 299 + 1 = 300 := ⟨rfl, rfl⟩
theorem xc73_300 : pmCode 73 300 = some .iaload ∧ 300 + 1 = 301 := ⟨rfl, rfl⟩
theorem xc73_301 : pmCode 73 301 = some .imul ∧ 301 + 1 = 302 := ⟨rfl, rfl⟩
theorem xc73_302 : pmCode 73 302 = some (.aload_n 3) ∧ 302 + 1 = 303 := ⟨rfl, rfl⟩
theorem xc73_303 : pmCode 73 303 = some (.iconst 2) ∧ 303 + 1 = 304 := ⟨rfl, rfl⟩
theorem xc73_304 : pmCode 73 304 = some .iaload ∧ 304 + 1 = 305 := ⟨rfl, rfl⟩
theorem xc73_305 : pmCode 73 305 = some .iadd ∧ 305 + 1 = 306 := ⟨rfl, rfl⟩
theorem xc73_306 : pmCode 73 306 = some .iastore ∧ 306 + 1 = 307 := ⟨rfl, rfl⟩
theorem xc73_307 : pmCode 73 307 = some (.aload_n 0) ∧ 307 + 1 = 308 := ⟨rfl, rfl⟩
theorem xc73_308 : pmCode 73 308 = some (.getfield 37) ∧ 308 + 3 = 311 := ⟨rfl, rfl⟩
theorem xc73_311 : pmCode 73 311 = some (.getfield 132) ∧ 311 + 3 = 314 := ⟨rfl, rfl⟩
theorem xc73_314 : pmCode 73 314 = some (.iload 6) ∧ 314 + 2 = 316 := ⟨rfl, rfl⟩
theorem xc73_316 : pmCode 73 316 = some .ishr ∧ 316 + 1 = 317 := ⟨rfl, rfl⟩
theorem xc73_317 : pmCode 73 317 = some (.iconst 1) ∧ 317 + 1 = 318 := ⟨rfl, rfl⟩
theorem xc73_318 : pmCode 73 318 = some .iand ∧ 318 + 1 = 319 := ⟨rfl, rfl⟩
theorem xc73_319 : pmCode 73 319 = some (.ifCond .eq 17) ∧ ((319 : Nat) : Int) + 17 = ((336 : Nat) : Int) ∧ 319 + 3 = 322 := ⟨rfl, rfl, rfl⟩
theorem xc73_322 : pmCode 73 322 = some (.iload 5) ∧ 322 + 2 = 324 := ⟨rfl, rfl⟩
theorem xc73_324 : pmCode 73 324 = some (.aload_n 0) ∧ 324 + 1 = 325 := ⟨rfl, rfl⟩
theorem xc73_325 : pmCode 73 325 = some (.getfield 31) ∧ 325 + 3 = 328 := ⟨rfl, rfl⟩
theorem xc73_328 : pmCode 73 328 = some (.iload 6) ∧ 328 + 2 = 330 := ⟨rfl, rfl⟩
theorem xc73_330 : pmCode 73 330 = some .iaload ∧ 330 + 1 = 331 := ⟨rfl, rfl⟩
theorem xc73_331 : pmCode 73 331 = some (.invokestatic 120) ∧ 331 + 3 = 334 := ⟨rfl, rfl⟩
theorem xc73_334 : pmCode 73 334 = some (.istore 5) ∧ 334 + 2 = 336 := ⟨rfl, rfl⟩
theorem xc73_336 : pmCode 73 336 = some (.iinc 6 1) ∧ 336 + 3 = 339 := ⟨rfl, rfl⟩
theorem xc73_339 : pmCode 73 339 = some (.goto (-234)) ∧ ((339 : Nat) : Int) + (-234) = ((105 : Nat) : Int) := ⟨rfl, rfl⟩
theorem xc73_342 : pmCode 73 342 = some (.iconst 0) ∧ 342 + 1 = 343 := ⟨rfl, rfl⟩
theorem xc73_343 : pmCode 73 343 = some (.istore 6) ∧ 343 + 2 = 345 := ⟨rfl, rfl⟩
theorem xc73_345 : pmCode 73 345 = some (.iload 6) ∧ 345 + 2 = 347 := ⟨rfl, rfl⟩
theorem xc73_347 : pmCode 73 347 = some (.iconst 4) ∧ 347 + 1 = 348 := ⟨rfl, rfl⟩
theorem xc73_348 : pmCode 73 348 = some (.if_icmp .ge 46) ∧ ((348 : Nat) : Int) + 46 = ((394 : Nat) : Int) ∧ 348 + 3 = 351 := ⟨rfl, rfl, rfl⟩
theorem xc73_351 : pmCode 73 351 = some (.aload_n 0) ∧ 351 + 1 = 352 := ⟨rfl, rfl⟩
theorem xc73_352 : pmCode 73 352 = some (.getfield 28) ∧ 352 + 3 = 355 := ⟨rfl, rfl⟩
theorem xc73_355 : pmCode 73 355 = some (.iload 6) ∧ 355 + 2 = 357 := ⟨rfl, rfl⟩
theorem xc73_357 : pmCode 73 357 = some (.iload 6) ∧ 357 + 2 = 359 := ⟨rfl, rfl⟩
theorem xc73_359 : pmCode 73 359 = some (.aload_n 0) ∧ 359 + 1 = 360 := ⟨rfl, rfl⟩
theorem xc73_360 : pmCode 73 360 = some (.getfield 61) ∧ 360 + 3 = 363 := ⟨rfl, rfl⟩
theorem xc73_363 : pmCode 73 363 = some (.if_icmp .ne 8) ∧ ((363 : Nat) : Int) + 8 = ((371 : Nat) : Int) ∧ 363 + 3 = 366 := ⟨rfl, rfl, rfl⟩
theorem xc73_366 : pmCode 73 366 = some (.ldc 88) ∧ 366 + 2 = 368 := ⟨rfl, rfl⟩
theorem xc73_368 : pmCode 73 368 = some (.goto 19) ∧ ((368 : Nat) : Int) + 19 = ((387 : Nat) : Int) := ⟨rfl, rfl⟩
theorem xc73_371 : pmCode 73 371 = some (.iload 5) ∧ 371 + 2 = 373 := ⟨rfl, rfl⟩
theorem xc73_373 : pmCode 73 373 = some (.aload_n 0) ∧ 373 + 1 = 374 := ⟨rfl, rfl⟩
theorem xc73_374 : pmCode 73 374 = some (.getfield 25) ∧ 374 + 3 = 377 := ⟨rfl, rfl⟩
theorem xc73_377 : pmCode 73 377 = some (.iload 6) ∧ 377 + 2 = 379 := ⟨rfl, rfl⟩
theorem xc73_379 : pmCode 73 379 = some .iaload ∧ 379 + 1 = 380 := ⟨rfl, rfl⟩
theorem xc73_380 : pmCode 73 380 = some (.invokestatic 126) ∧ 380 + 3 = 383 := ⟨rfl, rfl⟩
theorem xc73_383 : pmCode 73 383 = some (.aload_n 3) ∧ 383 + 1 = 384 := ⟨rfl, rfl⟩
theorem xc73_384 : pmCode 73 384 = some (.iconst 5) ∧ 384 + 1 = 385 := ⟨rfl, rfl⟩
theorem xc73_385 : pmCode 73 385 = some .iaload ∧ 385 + 1 = 386 := ⟨rfl, rfl⟩
theorem xc73_386 : pmCode 73 386 = some .iadd ∧ 386 + 1 = 387 := ⟨rfl, rfl⟩
theorem xc73_387 : pmCode 73 387 = some .iastore ∧ 387 + 1 = 388 := ⟨rfl, rfl⟩
theorem xc73_388 : pmCode 73 388 = some (.iinc 6 1) ∧ 388 + 3 = 391 := ⟨rfl, rfl⟩
theorem xc73_391 : pmCode 73 391 = some (.goto (-46)) ∧ ((391 : Nat) : Int) + (-46) = ((345 : Nat) : Int) := ⟨rfl, rfl⟩
theorem xc73_394 : pmCode 73 394 = some .return_ := rfl
theorem xc81_0 : pmCode 81 0 = some (.iload 4) ∧ 0 + 2 = 2 := ⟨rfl, rfl⟩
theorem xc81_2 : pmCode 81 2 = some (.bipush 6) ∧ 2 + 2 = 4 := ⟨rfl, rfl⟩
theorem xc81_4 : pmCode 81 4 = some .ishr ∧ 4 + 1 = 5 := ⟨rfl, rfl⟩
theorem xc81_5 : pmCode 81 5 = some (.istore 5) ∧ 5 + 2 = 7 := ⟨rfl, rfl⟩
theorem xc81_7 : pmCode 81 7 = some (.iload 4) ∧ 7 + 2 = 9 := ⟨rfl, rfl⟩
theorem xc81_9 : pmCode 81 9 = some (.iconst 3) ∧ 9 + 1 = 10 := ⟨rfl, rfl⟩
theorem xc81_10 : pmCode 81 10 = some .ishr ∧ 10 + 1 = 11 := ⟨rfl, rfl⟩
theorem xc81_11 : pmCode 81 11 = some (.bipush 7) ∧ 11 + 2 = 13 := ⟨rfl, rfl⟩
theorem xc81_13 : pmCode 81 13 = some .iand ∧ 13 + 1 = 14 := ⟨rfl, rfl⟩
theorem xc81_14 : pmCode 81 14 = some (.iconst 1) ∧ 14 + 1 = 15 := ⟨rfl, rfl⟩
theorem xc81_15 : pmCode 81 15 = some .isub ∧ 15 + 1 = 16 := ⟨rfl, rfl⟩
theorem xc81_16 : pmCode 81 16 = some (.istore 6) ∧ 16 + 2 = 18 := ⟨rfl, rfl⟩
theorem xc81_18 : pmCode 81 18 = some (.lload_n 1) ∧ 18 + 1 = 19 := ⟨rfl, rfl⟩
theorem xc81_19 : pmCode 81 19 = some (.iconst 4) ∧ 19 + 1 = 20 := ⟨rfl, rfl⟩
theorem xc81_20 : pmCode 81 20 = some (.iload_n 3) ∧ 20 + 1 = 21 := ⟨rfl, rfl⟩
theorem xc81_21 : pmCode 81 21 = some .imul ∧ 21 + 1 = 22 := ⟨rfl, rfl⟩
theorem xc81_22 : pmCode 81 22 = some .lushr ∧ 22 + 1 = 23 := ⟨rfl, rfl⟩
theorem xc81_23 : pmCode 81 23 = some .l2i ∧ 23 + 1 = 24 := ⟨rfl, rfl⟩
theorem xc81_24 : pmCode 81 24 = some (.bipush 15) ∧ 24 + 2 = 26 := ⟨rfl, rfl⟩
theorem xc81_26 : pmCode 81 26 = some .iand ∧ 26 + 1 = 27 := ⟨rfl, rfl⟩
theorem xc81_27 : pmCode 81 27 = some (.istore 7) ∧ 27 + 2 = 29 := ⟨rfl, rfl⟩
theorem xc81_29 : pmCode 81 29 = some (.iload 5) ∧ 29 + 2 = 31 := ⟨rfl, rfl⟩
theorem xc81_31 : pmCode 81 31 = some (.iconst 1) ∧ 31 + 1 = 32 := ⟨rfl, rfl⟩
theorem xc81_32 : pmCode 81 32 = some (.if_icmp .ne 27) ∧ ((32 : Nat) : Int) + 27 = ((59 : Nat) : Int) ∧ 32 + 3 = 35 := ⟨rfl, rfl, rfl⟩
theorem xc81_35 : pmCode 81 35 = some (.lload_n 1) ∧ 35 + 1 = 36 := ⟨rfl, rfl⟩
theorem xc81_36 : pmCode 81 36 = some (.ldc2_w 46) ∧ 36 + 3 = 39 := ⟨rfl, rfl⟩
theorem xc81_39 : pmCode 81 39 = some (.iconst 4) ∧ 39 + 1 = 40 := ⟨rfl, rfl⟩
theorem xc81_40 : pmCode 81 40 = some (.iload_n 3) ∧ 40 + 1 = 41 := ⟨rfl, rfl⟩
theorem xc81_41 : pmCode 81 41 = some .imul ∧ 41 + 1 = 42 := ⟨rfl, rfl⟩
theorem xc81_42 : pmCode 81 42 = some .lshl ∧ 42 + 1 = 43 := ⟨rfl, rfl⟩
theorem xc81_43 : pmCode 81 43 = some (.ldc2_w 48) ∧ 43 + 3 = 46 := ⟨rfl, rfl⟩
theorem xc81_46 : pmCode 81 46 = some .lxor ∧ 46 + 1 = 47 := ⟨rfl, rfl⟩
theorem xc81_47 : pmCode 81 47 = some .land ∧ 47 + 1 = 48 := ⟨rfl, rfl⟩
theorem xc81_48 : pmCode 81 48 = some (.iload 6) ∧ 48 + 2 = 50 := ⟨rfl, rfl⟩
theorem xc81_50 : pmCode 81 50 = some (.iconst 1) ∧ 50 + 1 = 51 := ⟨rfl, rfl⟩
theorem xc81_51 : pmCode 81 51 = some .iadd ∧ 51 + 1 = 52 := ⟨rfl, rfl⟩
theorem xc81_52 : pmCode 81 52 = some .i2l ∧ 52 + 1 = 53 := ⟨rfl, rfl⟩
theorem xc81_53 : pmCode 81 53 = some (.iconst 4) ∧ 53 + 1 = 54 := ⟨rfl, rfl⟩
theorem xc81_54 : pmCode 81 54 = some (.iload_n 3) ∧ 54 + 1 = 55 := ⟨rfl, rfl⟩
theorem xc81_55 : pmCode 81 55 = some .imul ∧ 55 + 1 = 56 := ⟨rfl, rfl⟩
theorem xc81_56 : pmCode 81 56 = some .lshl ∧ 56 + 1 = 57 := ⟨rfl, rfl⟩
theorem xc81_57 : pmCode 81 57 = some .lor ∧ 57 + 1 = 58 := ⟨rfl, rfl⟩
theorem xc81_58 : pmCode 81 58 = some .lreturn := rfl
theorem xc81_59 : pmCode 81 59 = some (.iload 5) ∧ 59 + 2 = 61 := ⟨rfl, rfl⟩
theorem xc81_61 : pmCode 81 61 = some (.iconst 5) ∧ 61 + 1 = 62 := ⟨rfl, rfl⟩
theorem xc81_62 : pmCode 81 62 = some (.if_icmp .ne 86) ∧ ((62 : Nat) : Int) + 86 = ((148 : Nat) : Int) ∧ 62 + 3 = 65 := ⟨rfl, rfl, rfl⟩
theorem xc81_65 : pmCode 81 65 = some (.lload_n 1) ∧ 65 + 1 = 66 := ⟨rfl, rfl⟩
theorem xc81_66 : pmCode 81 66 = some (.ldc2_w 46) ∧ 66 + 3 = 69 := ⟨rfl, rfl⟩
theorem xc81_69 : pmCode 81 69 = some (.iconst 4) ∧ 69 + 1 = 70 := ⟨rfl, rfl⟩
theorem xc81_70 : pmCode 81 70 = some (.iload 6) ∧ 70 + 2 = 72 := ⟨rfl, rfl⟩
theorem xc81_72 : pmCode 81 72 = some .imul ∧ 72 + 1 = 73 := ⟨rfl, rfl⟩
theorem xc81_73 : pmCode 81 73 = some .lshl ∧ 73 + 1 = 74 := ⟨rfl, rfl⟩
theorem xc81_74 : pmCode 81 74 = some (.ldc2_w 48) ∧ 74 + 3 = 77 := ⟨rfl, rfl⟩
theorem xc81_77 : pmCode 81 77 = some .lxor ∧ 77 + 1 = 78 := ⟨rfl, rfl⟩
theorem xc81_78 : pmCode 81 78 = some .land ∧ 78 + 1 = 79 := ⟨rfl, rfl⟩
theorem xc81_79 : pmCode 81 79 = some (.ldc2_w 50) ∧ 79 + 3 = 82 := ⟨rfl, rfl⟩
theorem xc81_82 : pmCode 81 82 = some (.iconst 4) ∧ 82 + 1 = 83 := ⟨rfl, rfl⟩
theorem xc81_83 : pmCode 81 83 = some (.iload 6) ∧ 83 + 2 = 85 := ⟨rfl, rfl⟩
theorem xc81_85 : pmCode 81 85 = some .imul ∧ 85 + 1 = 86 := ⟨rfl, rfl⟩
theorem xc81_86 : pmCode 81 86 = some .lshl ∧ 86 + 1 = 87 := ⟨rfl, rfl⟩
theorem xc81_87 : pmCode 81 87 = some .lor ∧ 87 + 1 = 88 := ⟨rfl, rfl⟩
theorem xc81_88 : pmCode 81 88 = some (.lstore 8) ∧ 88 + 2 = 90 := ⟨rfl, rfl⟩
theorem xc81_90 : pmCode 81 90 = some (.bipush 16) ∧ 90 + 2 = 92 := ⟨rfl, rfl⟩
theorem xc81_92 : pmCode 81 92 = some (.istore 10) ∧ 92 + 2 = 94 := ⟨rfl, rfl⟩
theorem xc81_94 : pmCode 81 94 = some (.iload 10) ∧ 94 + 2 = 96 := ⟨rfl, rfl⟩
theorem xc81_96 : pmCode 81 96 = some (.bipush 36) ∧ 96 + 2 = 98 := ⟨rfl, rfl⟩
theorem xc81_98 : pmCode 81 98 = some (.if_icmp .ge 47) ∧ ((98 : Nat) : Int) + 47 = ((145 : Nat) : Int) ∧ 98 + 3 = 101 := ⟨rfl, rfl, rfl⟩
theorem xc81_101 : pmCode 81 101 = some (.lload_n 1) ∧ 101 + 1 = 102 := ⟨rfl, rfl⟩
theorem xc81_102 : pmCode 81 102 = some (.iload 10) ∧ 102 + 2 = 104 := ⟨rfl, rfl⟩
theorem xc81_104 : pmCode 81 104 = some .lushr ∧ 104 + 1 = 105 := ⟨rfl, rfl⟩
theorem xc81_105 : pmCode 81 105 = some .l2i ∧ 105 + 1 = 106 := ⟨rfl, rfl⟩
theorem xc81_106 : pmCode 81 106 = some (.bipush 15) ∧ 106 + 2 = 108 := ⟨rfl, rfl⟩
theorem xc81_108 : pmCode 81 108 = some .iand ∧ 108 + 1 = 109 := ⟨rfl, rfl⟩
theorem xc81_109 : pmCode 81 109 = some (.bipush 9) ∧ 109 + 2 = 111 := ⟨rfl, rfl⟩
theorem xc81_111 : pmCode 81 111 = some (.iload 6) ∧ 111 + 2 = 113 := ⟨rfl, rfl⟩
theorem xc81_113 : pmCode 81 113 = some .iadd ∧ 113 + 1 = 114 := ⟨rfl, rfl⟩
theorem xc81_114 : pmCode 81 114 = some (.if_icmp .ne 25) ∧ ((114 : Nat) : Int) + 25 = ((139 : Nat) : Int) ∧ 114 + 3 = 117 := ⟨rfl, rfl, rfl⟩
theorem xc81_117 : pmCode 81 117 = some (.lload 8) ∧ 117 + 2 = 119 := ⟨rfl, rfl⟩
theorem xc81_119 : pmCode 81 119 = some (.ldc2_w 46) ∧ 119 + 3 = 122 := ⟨rfl, rfl⟩
theorem xc81_122 : pmCode 81 122 = some (.iload 10) ∧ 122 + 2 = 124 := ⟨rfl, rfl⟩
theorem xc81_124 : pmCode 81 124 = some .lshl ∧ 124 + 1 = 125 := ⟨rfl, rfl⟩
theorem xc81_125 : pmCode 81 125 = some (.ldc2_w 48) ∧ 125 + 3 = 128 := ⟨rfl, rfl⟩
theorem xc81_128 : pmCode 81 128 = some .lxor ∧ 128 + 1 = 129 := ⟨rfl, rfl⟩
theorem xc81_129 : pmCode 81 129 = some .land ∧ 129 + 1 = 130 := ⟨rfl, rfl⟩
theorem xc81_130 : pmCode 81 130 = some (.iload 7) ∧ 130 + 2 = 132 := ⟨rfl, rfl⟩
theorem xc81_132 : pmCode 81 132 = some .i2l ∧ 132 + 1 = 133 := ⟨rfl, rfl⟩
theorem xc81_133 : pmCode 81 133 = some (.iload 10) ∧ 133 + 2 = 135 := ⟨rfl, rfl⟩
theorem xc81_135 : pmCode 81 135 = some .lshl ∧ 135 + 1 = 136 := ⟨rfl, rfl⟩
theorem xc81_136 : pmCode 81 136 = some .lor ∧ 136 + 1 = 137 := ⟨rfl, rfl⟩
theorem xc81_137 : pmCode 81 137 = some (.lstore 8) ∧ 137 + 2 = 139 := ⟨rfl, rfl⟩
theorem xc81_139 : pmCode 81 139 = some (.iinc 10 4) ∧ 139 + 3 = 142 := ⟨rfl, rfl⟩
theorem xc81_142 : pmCode 81 142 = some (.goto (-48)) ∧ ((142 : Nat) : Int) + (-48) = ((94 : Nat) : Int) := ⟨rfl, rfl⟩
theorem xc81_145 : pmCode 81 145 = some (.lload 8) ∧ 145 + 2 = 147 := ⟨rfl, rfl⟩
theorem xc81_147 : pmCode 81 147 = some .lreturn := rfl
theorem xc81_148 : pmCode 81 148 = some (.iload 5) ∧ 148 + 2 = 150 := ⟨rfl, rfl⟩
theorem xc81_150 : pmCode 81 150 = some (.ifCond .eq 10) ∧ ((150 : Nat) : Int) + 10 = ((160 : Nat) : Int) ∧ 150 + 3 = 153 := ⟨rfl, rfl, rfl⟩
theorem xc81_153 : pmCode 81 153 = some (.iload 5) ∧ 153 + 2 = 155 := ⟨rfl, rfl⟩
theorem xc81_155 : pmCode 81 155 = some (.bipush 6) ∧ 155 + 2 = 157 := ⟨rfl, rfl⟩
theorem xc81_157 : pmCode 81 157 = some (.if_icmp .ne 5) ∧ ((157 : Nat) : Int) + 5 = ((162 : Nat) : Int) ∧ 157 + 3 = 160 := ⟨rfl, rfl, rfl⟩
theorem xc81_160 : pmCode 81 160 = some (.lload_n 1) ∧ 160 + 1 = 161 := ⟨rfl, rfl⟩
theorem xc81_161 : pmCode 81 161 = some .lreturn := rfl
theorem xc81_162 : pmCode 81 162 = some (.iload 5) ∧ 162 + 2 = 164 := ⟨rfl, rfl⟩
theorem xc81_164 : pmCode 81 164 = some (.iconst 2) ∧ 164 + 1 = 165 := ⟨rfl, rfl⟩
theorem xc81_165 : pmCode 81 165 = some (.if_icmp .ne 10) ∧ ((165 : Nat) : Int) + 10 = ((175 : Nat) : Int) ∧ 165 + 3 = 168 := ⟨rfl, rfl, rfl⟩
theorem xc81_168 : pmCode 81 168 = some (.bipush 9) ∧ 168 + 2 = 170 := ⟨rfl, rfl⟩
theorem xc81_170 : pmCode 81 170 = some (.iload_n 3) ∧ 170 + 1 = 171 := ⟨rfl, rfl⟩
theorem xc81_171 : pmCode 81 171 = some .iadd ∧ 171 + 1 = 172 := ⟨rfl, rfl⟩
theorem xc81_172 : pmCode 81 172 = some (.goto 24) ∧ ((172 : Nat) : Int) + 24 = ((196 : Nat) : Int) := ⟨rfl, rfl⟩
theorem xc81_175 : pmCode 81 175 = some (.iload 5) ∧ 175 + 2 = 177 := ⟨rfl, rfl⟩
theorem xc81_177 : pmCode 81 177 = some (.iconst 3) ∧ 177 + 1 = 178 := ⟨rfl, rfl⟩
theorem xc81_178 : pmCode 81 178 = some (.if_icmp .ne 8) ∧ ((178 : Nat) : Int) + 8 = ((186 : Nat) : Int) ∧ 178 + 3 = 181 := ⟨rfl, rfl, rfl⟩
theorem xc81_181 : pmCode 81 181 = some (.iload 7) ∧ 181 + 2 = 183 := ⟨rfl, rfl⟩
theorem xc81_183 : pmCode 81 183 = some (.goto 13) ∧ ((183 : Nat) : Int) + 13 = ((196 : Nat) : Int) := ⟨rfl, rfl⟩
theorem xc81_186 : pmCode 81 186 = some (.bipush 9) ∧ 186 + 2 = 188 := ⟨rfl, rfl⟩
theorem xc81_188 : pmCode 81 188 = some (.iload 4) ∧ 188 + 2 = 190 := ⟨rfl, rfl⟩
theorem xc81_190 : pmCode 81 190 = some (.bipush 7) ∧ 190 + 2 = 192 := ⟨rfl, rfl⟩
theorem xc81_192 : pmCode 81 192 = some .iand ∧ 192 + 1 = 193 := ⟨rfl, rfl⟩
theorem xc81_193 : pmCode 81 193 = some .iadd ∧ 193 + 1 = 194 := ⟨rfl, rfl⟩
theorem xc81_194 : pmCode 81 194 = some (.iconst 1) ∧ 194 + 1 = 195 := ⟨rfl, rfl⟩
theorem xc81_195 : pmCode 81 195 = some .isub ∧ 195 + 1 = 196 := ⟨rfl, rfl⟩
theorem xc81_196 : pmCode 81 196 = some (.istore 8) ∧ 196 + 2 = 198 := ⟨rfl, rfl⟩
theorem xc81_198 : pmCode 81 198 = some (.lload_n 1) ∧ 198 + 1 = 199 := ⟨rfl, rfl⟩
theorem xc81_199 : pmCode 81 199 = some (.ldc2_w 46) ∧ 199 + 3 = 202 := ⟨rfl, rfl⟩
theorem xc81_202 : pmCode 81 202 = some (.bipush 16) ∧ 202 + 2 = 204 := ⟨rfl, rfl⟩
theorem xc81_204 : pmCode 81 204 = some (.iconst 4) ∧ 204 + 1 = 205 := ⟨rfl, rfl⟩
theorem xc81_205 : pmCode 81 205 = some (.iload 6) ∧ 205 + 2 = 207 := ⟨rfl, rfl⟩
theorem xc81_207 : pmCode 81 207 = some .imul ∧ 207 + 1 = 208 := ⟨rfl, rfl⟩
theorem xc81_208 : pmCode 81 208 = some .iadd ∧ 208 + 1 = 209 := ⟨rfl, rfl⟩
theorem xc81_209 : pmCode 81 209 = some .lshl ∧ 209 + 1 = 210 := ⟨rfl, rfl⟩
theorem xc81_210 : pmCode 81 210 = some (.ldc2_w 48) ∧ 210 + 3 = 213 := ⟨rfl, rfl⟩
theorem xc81_213 : pmCode 81 213 = some .lxor ∧ 213 + 1 = 214 := ⟨rfl, rfl⟩
theorem xc81_214 : pmCode 81 214 = some .land ∧ 214 + 1 = 215 := ⟨rfl, rfl⟩
theorem xc81_215 : pmCode 81 215 = some (.iload 8) ∧ 215 + 2 = 217 := ⟨rfl, rfl⟩
theorem xc81_217 : pmCode 81 217 = some .i2l ∧ 217 + 1 = 218 := ⟨rfl, rfl⟩
theorem xc81_218 : pmCode 81 218 = some (.bipush 16) ∧ 218 + 2 = 220 := ⟨rfl, rfl⟩
theorem xc81_220 : pmCode 81 220 = some (.iconst 4) ∧ 220 + 1 = 221 := ⟨rfl, rfl⟩
theorem xc81_221 : pmCode 81 221 = some (.iload 6) ∧ 221 + 2 = 223 := ⟨rfl, rfl⟩
theorem xc81_223 : pmCode 81 223 = some .imul ∧ 223 + 1 = 224 := ⟨rfl, rfl⟩
theorem xc81_224 : pmCode 81 224 = some .iadd ∧ 224 + 1 = 225 := ⟨rfl, rfl⟩
theorem xc81_225 : pmCode 81 225 = some .lshl ∧ 225 + 1 = 226 := ⟨rfl, rfl⟩
theorem xc81_226 : pmCode 81 226 = some .lor ∧ 226 + 1 = 227 := ⟨rfl, rfl⟩
theorem xc81_227 : pmCode 81 227 = some .lreturn := rfl
theorem w81 {ro : Nat → Nat × (Nat → Int32)} {d : Nat} {Q : Option Value → pmS → Prop} {p dd : Int} {l : Int64} {a : xA} {b : xB} (hp : 0 ≤ p ∧ p ≤ 3) (hd : 0 ≤ dd ∧ dd ≤ 511)
    (k1 : (¬ dd / 64 = 1) → (¬ dd / 64 = 5) → (dd / 64 = 0) → Q (some (.long l)) (xS a b))
    (k2 : (¬ dd / 64 = 1) → (¬ dd / 64 = 5) → (¬ dd / 64 = 0) → (¬ dd / 64 = 6) → (¬ dd / 64 = 2) → (¬ dd / 64 = 3) → Q (some (.long ((l &&& ((xShL (15 : Int64) (16 + (4 * ((dd / 8) % 8 - 1)))) ^^^ (-1 : Int64))) ||| (xShL (Int64.ofInt (9 + (dd % 8) - 1)) (16 + (4 * ((dd / 8) % 8 - 1))))))) (xS a b))
    (k3 : (¬ dd / 64 = 1) → (¬ dd / 64 = 5) → (¬ dd / 64 = 0) → (¬ dd / 64 = 6) → (¬ dd / 64 = 2) → (¬ ¬ dd / 64 = 3) → Q (some (.long ((l &&& ((xShL (15 : Int64) (16 + (4 * ((dd / 8) % 8 - 1)))) ^^^ (-1 : Int64))) ||| (xShL (Int64.ofInt ((xL2 (xShr l (4 * p))) % 16)) (16 + (4 * ((dd / 8) % 8 - 1))))))) (xS a b))
    (k4 : (¬ dd / 64 = 1) → (¬ dd / 64 = 5) → (¬ dd / 64 = 0) → (¬ dd / 64 = 6) → (¬ ¬ dd / 64 = 2) → Q (some (.long ((l &&& ((xShL (15 : Int64) (16 + (4 * ((dd / 8) % 8 - 1)))) ^^^ (-1 : Int64))) ||| (xShL (Int64.ofInt (9 + p)) (16 + (4 * ((dd / 8) % 8 - 1))))))) (xS a b))
    (k5 : (¬ dd / 64 = 1) → (¬ dd / 64 = 5) → (¬ dd / 64 = 0) → (¬ ¬ dd / 64 = 6) → Q (some (.long l)) (xS a b))
    (k6 : (¬ dd / 64 = 1) → (¬ ¬ dd / 64 = 5) → pmWp ro d 5 81 3 94 [some (.ref 3), some (.long l), none, some (xV p), some (xV dd), some (xV (dd / 64)), some (xV ((dd / 8) % 8 - 1)), some (xV ((xL2 (xShr l (4 * p))) % 16)), some (.long ((l &&& ((xShL (15 : Int64) (4 * ((dd / 8) % 8 - 1))) ^^^ (-1 : Int64))) ||| (xShL (8 : Int64) (4 * ((dd / 8) % 8 - 1))))), none, some (xV 16)] [] (xS a b) Q)
    (k7 : (¬ ¬ dd / 64 = 1) → Q (some (.long ((l &&& ((xShL (15 : Int64) (4 * p)) ^^^ (-1 : Int64))) ||| (xShL (Int64.ofInt ((dd / 8) % 8 - 1 + 1)) (4 * p))))) (xS a b)) :
    pmWp ro d 5 81 3 0 [some (.ref 3), some (.long l), none, some (xV p), some (xV dd), none, none, none, none, none, none] [] (xS a b) Q := by
  refine x_iload xc81_0 rfl ?_
  refine x_bipush xc81_2 (by decide) ?_
  refine x_ishr (M := 64) (by omega) (by omega) (by decide) (xRk (by have g0 := hd; omega)) xc81_4 ?_
  refine x_istore (pl' := [some (.ref 3), some (.long l), none, some (xV p), some (xV dd), some (xV (dd / 64)), none, none, none, none, none]) xc81_5 rfl rfl ?_
  refine x_iload xc81_7 rfl ?_
  refine x_iconst xc81_9 ?_
  refine x_ishr (M := 8) (by omega) (by omega) (by decide) (xRk (by have g0 := hd; omega)) xc81_10 ?_
  refine x_bipush xc81_11 (by decide) ?_
  refine x_iandm (M := 8) 3 (by decide) (by decide) (by decide) xc81_13 ?_
  refine x_iconst xc81_14 ?_
  refine x_isub xc81_15 ?_
  refine x_istore (pl' := [some (.ref 3), some (.long l), none, some (xV p), some (xV dd), some (xV (dd / 64)), some (xV ((dd / 8) % 8 - 1)), none, none, none, none]) xc81_16 rfl rfl ?_
  refine x_lloadn xc81_18 rfl ?_
  refine x_iconst xc81_19 ?_
  refine x_iloadn xc81_20 rfl ?_
  refine x_imul xc81_21 ?_
  refine x_lushr xc81_22 ?_
  refine x_l2i xc81_23 ?_
  refine x_bipush xc81_24 (by decide) ?_
  refine x_iandm (M := 16) 4 (by decide) (by decide) (by decide) xc81_26 ?_
  refine x_istore (pl' := [some (.ref 3), some (.long l), none, some (xV p), some (xV dd), some (xV (dd / 64)), some (xV ((dd / 8) % 8 - 1)), some (xV ((xL2 (xShr l (4 * p))) % 16)), none, none, none]) xc81_27 rfl rfl ?_
  refine x_iload xc81_29 rfl ?_
  refine x_iconst xc81_31 ?_
  refine x_icne xc81_32 (xRk (by have g0 := hd; omega)) (xRk (by decide)) (fun h0 => ?_) (fun h0 => ?_)
  · refine x_iload xc81_59 rfl ?_
    refine x_iconst xc81_61 ?_
    refine x_icne xc81_62 (xRk (by have g0 := hd; omega)) (xRk (by decide)) (fun h1 => ?_) (fun h1 => ?_)
    · refine x_iload xc81_148 rfl ?_
      refine x_ifeq xc81_150 (xRk (by have g0 := hd; omega)) (fun h2 => ?_) (fun h2 => ?_)
      · refine x_lloadn xc81_160 rfl ?_
        refine x_lret xc81_161 rfl ?_
        exact k1 h0 h1 h2
      · refine x_iload xc81_153 rfl ?_
        refine x_bipush xc81_155 (by decide) ?_
        refine x_icne xc81_157 (xRk (by have g0 := hd; omega)) (xRk (by decide)) (fun h3 => ?_) (fun h3 => ?_)
        · refine x_iload xc81_162 rfl ?_
          refine x_iconst xc81_164 ?_
          refine x_icne xc81_165 (xRk (by have g0 := hd; omega)) (xRk (by decide)) (fun h4 => ?_) (fun h4 => ?_)
          · refine x_iload xc81_175 rfl ?_
            refine x_iconst xc81_177 ?_
            refine x_icne xc81_178 (xRk (by have g0 := hd; omega)) (xRk (by decide)) (fun h5 => ?_) (fun h5 => ?_)
            · refine x_bipush xc81_186 (by decide) ?_
              refine x_iload xc81_188 rfl ?_
              refine x_bipush xc81_190 (by decide) ?_
              refine x_iandm (M := 8) 3 (by decide) (by decide) (by decide) xc81_192 ?_
              refine x_iadd xc81_193 ?_
              refine x_iconst xc81_194 ?_
              refine x_isub xc81_195 ?_
              refine x_istore (pl' := [some (.ref 3), some (.long l), none, some (xV p), some (xV dd), some (xV (dd / 64)), some (xV ((dd / 8) % 8 - 1)), some (xV ((xL2 (xShr l (4 * p))) % 16)), some (xV (9 + (dd % 8) - 1)), none, none]) xc81_196 rfl rfl ?_
              refine x_lloadn xc81_198 rfl ?_
              refine x_ldc2 (l := 15) xc81_199 rfl ?_
              refine x_bipush xc81_202 (by decide) ?_
              refine x_iconst xc81_204 ?_
              refine x_iload xc81_205 rfl ?_
              refine x_imul xc81_207 ?_
              refine x_iadd xc81_208 ?_
              refine x_lshl xc81_209 ?_
              refine x_ldc2 (l := (-1)) xc81_210 rfl ?_
              refine x_lxor xc81_213 ?_
              refine x_land xc81_214 ?_
              refine x_iload xc81_215 rfl ?_
              refine x_i2l (xRk (by have g0 := hd; omega)) xc81_217 ?_
              refine x_bipush xc81_218 (by decide) ?_
              refine x_iconst xc81_220 ?_
              refine x_iload xc81_221 rfl ?_
              refine x_imul xc81_223 ?_
              refine x_iadd xc81_224 ?_
              refine x_lshl xc81_225 ?_
              refine x_lor xc81_226 ?_
              refine x_lret xc81_227 rfl ?_
              exact k2 h0 h1 h2 h3 h4 h5
            · refine x_iload xc81_181 rfl ?_
              refine x_goto xc81_183 ?_
              refine x_istore (pl' := [some (.ref 3), some (.long l), none, some (xV p), some (xV dd), some (xV (dd / 64)), some (xV ((dd / 8) % 8 - 1)), some (xV ((xL2 (xShr l (4 * p))) % 16)), some (xV ((xL2 (xShr l (4 * p))) % 16)), none, none]) xc81_196 rfl rfl ?_
              refine x_lloadn xc81_198 rfl ?_
              refine x_ldc2 (l := 15) xc81_199 rfl ?_
              refine x_bipush xc81_202 (by decide) ?_
              refine x_iconst xc81_204 ?_
              refine x_iload xc81_205 rfl ?_
              refine x_imul xc81_207 ?_
              refine x_iadd xc81_208 ?_
              refine x_lshl xc81_209 ?_
              refine x_ldc2 (l := (-1)) xc81_210 rfl ?_
              refine x_lxor xc81_213 ?_
              refine x_land xc81_214 ?_
              refine x_iload xc81_215 rfl ?_
              refine x_i2l (xRk (by have g0 := xL2B (xShr l (4 * p)); omega)) xc81_217 ?_
              refine x_bipush xc81_218 (by decide) ?_
              refine x_iconst xc81_220 ?_
              refine x_iload xc81_221 rfl ?_
              refine x_imul xc81_223 ?_
              refine x_iadd xc81_224 ?_
              refine x_lshl xc81_225 ?_
              refine x_lor xc81_226 ?_
              refine x_lret xc81_227 rfl ?_
              exact k3 h0 h1 h2 h3 h4 h5
          · refine x_bipush xc81_168 (by decide) ?_
            refine x_iloadn xc81_170 rfl ?_
            refine x_iadd xc81_171 ?_
            refine x_goto xc81_172 ?_
            refine x_istore (pl' := [some (.ref 3), some (.long l), none, some (xV p), some (xV dd), some (xV (dd / 64)), some (xV ((dd / 8) % 8 - 1)), some (xV ((xL2 (xShr l (4 * p))) % 16)), some (xV (9 + p)), none, none]) xc81_196 rfl rfl ?_
            refine x_lloadn xc81_198 rfl ?_
            refine x_ldc2 (l := 15) xc81_199 rfl ?_
            refine x_bipush xc81_202 (by decide) ?_
            refine x_iconst xc81_204 ?_
            refine x_iload xc81_205 rfl ?_
            refine x_imul xc81_207 ?_
            refine x_iadd xc81_208 ?_
            refine x_lshl xc81_209 ?_
            refine x_ldc2 (l := (-1)) xc81_210 rfl ?_
            refine x_lxor xc81_213 ?_
            refine x_land xc81_214 ?_
            refine x_iload xc81_215 rfl ?_
            refine x_i2l (xRk (by have g0 := hp; omega)) xc81_217 ?_
            refine x_bipush xc81_218 (by decide) ?_
            refine x_iconst xc81_220 ?_
            refine x_iload xc81_221 rfl ?_
            refine x_imul xc81_223 ?_
            refine x_iadd xc81_224 ?_
            refine x_lshl xc81_225 ?_
            refine x_lor xc81_226 ?_
            refine x_lret xc81_227 rfl ?_
            exact k4 h0 h1 h2 h3 h4
        · refine x_lloadn xc81_160 rfl ?_
          refine x_lret xc81_161 rfl ?_
          exact k5 h0 h1 h2 h3
    · refine x_lloadn xc81_65 rfl ?_
      refine x_ldc2 (l := 15) xc81_66 rfl ?_
      refine x_iconst xc81_69 ?_
      refine x_iload xc81_70 rfl ?_
      refine x_imul xc81_72 ?_
      refine x_lshl xc81_73 ?_
      refine x_ldc2 (l := (-1)) xc81_74 rfl ?_
      refine x_lxor xc81_77 ?_
      refine x_land xc81_78 ?_
      refine x_ldc2 (l := 8) xc81_79 rfl ?_
      refine x_iconst xc81_82 ?_
      refine x_iload xc81_83 rfl ?_
      refine x_imul xc81_85 ?_
      refine x_lshl xc81_86 ?_
      refine x_lor xc81_87 ?_
      refine x_lstore (pl' := [some (.ref 3), some (.long l), none, some (xV p), some (xV dd), some (xV (dd / 64)), some (xV ((dd / 8) % 8 - 1)), some (xV ((xL2 (xShr l (4 * p))) % 16)), some (.long ((l &&& ((xShL (15 : Int64) (4 * ((dd / 8) % 8 - 1))) ^^^ (-1 : Int64))) ||| (xShL (8 : Int64) (4 * ((dd / 8) % 8 - 1))))), none, none]) xc81_88 rfl rfl rfl ?_
      refine x_bipush xc81_90 (by decide) ?_
      refine x_istore (pl' := [some (.ref 3), some (.long l), none, some (xV p), some (xV dd), some (xV (dd / 64)), some (xV ((dd / 8) % 8 - 1)), some (xV ((xL2 (xShr l (4 * p))) % 16)), some (.long ((l &&& ((xShL (15 : Int64) (4 * ((dd / 8) % 8 - 1))) ^^^ (-1 : Int64))) ||| (xShL (8 : Int64) (4 * ((dd / 8) % 8 - 1))))), none, some (xV 16)]) xc81_92 rfl rfl ?_
      exact k6 h0 h1
  · refine x_lloadn xc81_35 rfl ?_
    refine x_ldc2 (l := 15) xc81_36 rfl ?_
    refine x_iconst xc81_39 ?_
    refine x_iloadn xc81_40 rfl ?_
    refine x_imul xc81_41 ?_
    refine x_lshl xc81_42 ?_
    refine x_ldc2 (l := (-1)) xc81_43 rfl ?_
    refine x_lxor xc81_46 ?_
    refine x_land xc81_47 ?_
    refine x_iload xc81_48 rfl ?_
    refine x_iconst xc81_50 ?_
    refine x_iadd xc81_51 ?_
    refine x_i2l (xRk (by have g0 := hd; omega)) xc81_52 ?_
    refine x_iconst xc81_53 ?_
    refine x_iloadn xc81_54 rfl ?_
    refine x_imul xc81_55 ?_
    refine x_lshl xc81_56 ?_
    refine x_lor xc81_57 ?_
    refine x_lret xc81_58 rfl ?_
    exact k7 h0

theorem xg81 {ro : Nat → Nat × (Nat → Int32)} {d : Nat} {Q : Option Value → pmS → Prop} {a : xA} {b : xB} {p dd : Int} {l : Int64} (h : pmWp ro d 5 81 3 0 [some (.ref 3), some (.long l), none, some (xV p), some (xV dd), none, none, none, none, none, none] [] (xS a b) Q) : pmCs ro (d + 1) 81 [.ref 3, .long l, xV p, xV dd] (xS a b) Q := x_go xi81 rfl rfl rfl rfl rfl h
theorem w81l {ro : Nat → Nat × (Nat → Int32)} {d : Nat} {Q : Option Value → pmS → Prop} {p dd : Int} {l : Int64} {a : xA} {b : xB} (hp : 0 ≤ p ∧ p ≤ 3) (hd : 0 ≤ dd ∧ dd ≤ 511) {m : Int64} {kk kx hr i : Int} (hkk : 0 ≤ kk ∧ kk ≤ 7) (hkx : -1 ≤ kx ∧ kx ≤ 6) (hhr : 0 ≤ hr ∧ hr ≤ 15) (hi : 16 ≤ i ∧ i ≤ 36)
    (k1 : (36 ≤ i) → Q (some (.long m)) (xS a b))
    (k2 : (¬ 36 ≤ i) → (¬ (xL2 (xShr l i)) % 16 = 9 + kx) → pmWp ro d 5 81 3 94 [some (.ref 3), some (.long l), none, some (xV p), some (xV dd), some (xV kk), some (xV kx), some (xV hr), some (.long m), none, some (xV (i + 4))] [] (xS a b) Q)
    (k3 : (¬ 36 ≤ i) → (¬ ¬ (xL2 (xShr l i)) % 16 = 9 + kx) → pmWp ro d 5 81 3 94 [some (.ref 3), some (.long l), none, some (xV p), some (xV dd), some (xV kk), some (xV kx), some (xV hr), some (.long ((m &&& ((xShL (15 : Int64) i) ^^^ (-1 : Int64))) ||| (xShL (Int64.ofInt hr) i))), none, some (xV (i + 4))] [] (xS a b) Q) :
    pmWp ro d 5 81 3 94 [some (.ref 3), some (.long l), none, some (xV p), some (xV dd), some (xV kk), some (xV kx), some (xV hr), some (.long m), none, some (xV i)] [] (xS a b) Q := by
  refine x_iload xc81_94 rfl ?_
  refine x_bipush xc81_96 (by decide) ?_
  refine x_icge xc81_98 (xRk (by have g0 := hi; omega)) (xRk (by decide)) (fun h0 => ?_) (fun h0 => ?_)
  · refine x_lload xc81_145 rfl ?_
    refine x_lret xc81_147 rfl ?_
    exact k1 h0
  · refine x_lloadn xc81_101 rfl ?_
    refine x_iload xc81_102 rfl ?_
    refine x_lushr xc81_104 ?_
    refine x_l2i xc81_105 ?_
    refine x_bipush xc81_106 (by decide) ?_
    refine x_iandm (M := 16) 4 (by decide) (by decide) (by decide) xc81_108 ?_
    refine x_bipush xc81_109 (by decide) ?_
    refine x_iload xc81_111 rfl ?_
    refine x_iadd xc81_113 ?_
    refine x_icne xc81_114 (xRk (by have g0 := xL2B (xShr l i); omega)) (xRk (by have g0 := hkx; omega)) (fun h1 => ?_) (fun h1 => ?_)
    · refine x_iinc (pl' := [some (.ref 3), some (.long l), none, some (xV p), some (xV dd), some (xV kk), some (xV kx), some (xV hr), some (.long m), none, some (xV (i + 4))]) xc81_139 rfl rfl ?_
      refine x_goto xc81_142 ?_
      exact k2 h0 h1
    · refine x_lload xc81_117 rfl ?_
      refine x_ldc2 (l := 15) xc81_119 rfl ?_
      refine x_iload xc81_122 rfl ?_
      refine x_lshl xc81_124 ?_
      refine x_ldc2 (l := (-1)) xc81_125 rfl ?_
      refine x_lxor xc81_128 ?_
      refine x_land xc81_129 ?_
      refine x_iload xc81_130 rfl ?_
      refine x_i2l (xRk (by have g0 := hhr; omega)) xc81_132 ?_
      refine x_iload xc81_133 rfl ?_
      refine x_lshl xc81_135 ?_
      refine x_lor xc81_136 ?_
      refine x_lstore (pl' := [some (.ref 3), some (.long l), none, some (xV p), some (xV dd), some (xV kk), some (xV kx), some (xV hr), some (.long ((m &&& ((xShL (15 : Int64) i) ^^^ (-1 : Int64))) ||| (xShL (Int64.ofInt hr) i))), none, some (xV i)]) xc81_137 rfl rfl rfl ?_
      refine x_iinc (pl' := [some (.ref 3), some (.long l), none, some (xV p), some (xV dd), some (xV kk), some (xV kx), some (xV hr), some (.long ((m &&& ((xShL (15 : Int64) i) ^^^ (-1 : Int64))) ||| (xShL (Int64.ofInt hr) i))), none, some (xV (i + 4))]) xc81_139 rfl rfl ?_
      refine x_goto xc81_142 ?_
      exact k3 h0 h1

/-- the row of prices, whichever -/
def uCo (a : xA) (c : Int → Int) (cp : Nat) : Prop := (cp = 1000 ∧ ∀ k, 0 ≤ k → k < 7 → c k = 1) ∨ (cp = 5 ∧ ∀ k, 0 ≤ k → k < 7 → a 5 k = c k)
theorem uCo_u {a : xA} {c : Int → Int} {cp p : Nat} {k v : Int} (hp : (5 : Nat) ≠ p) (h : uCo a c cp) : uCo (xU a p k v) c cp := by
  rcases h with h | ⟨h1, h2⟩
  · exact Or.inl h
  · exact Or.inr ⟨h1, fun j j0 j1 => by rw [xUn hp]; exact h2 j j0 j1⟩
theorem x_ialc {Ln : Nat} {xs : Nat → Int32} {d o m rt pc t : Nat} {pl : pmL} {st : List Value} {a : xA} {b : xB} {Q : Option Value → pmS → Prop} {c : Int → Int} {cp : Nat} {k : Int} (h : uCo a c cp) (hc : pmCode m pc = some .iaload ∧ pc + 1 = t) (h0 : 0 ≤ k) (h1 : k < 7) (hw : pmWp (pmRo Ln xs) d o m rt t pl (xV (c k) :: st) (xS a b) Q) : pmWp (pmRo Ln xs) d o m rt pc pl (xV k :: .ref cp :: st) (xS a b) Q := by
  rcases h with ⟨rfl, h2⟩ | ⟨rfl, h2⟩
  · obtain ⟨g1, rfl⟩ := hc
    refine pmWp_1 g1 (st' := xV (c k) :: st) ?_ hw
    have hin : pmIn (Int32.ofInt k) (pmRo Ln xs 1000).1 := xIn h0 (show k < ((7 : Nat) : Int) by omega) (by omega)
    simp only [pmStep, xV]
    rw [if_pos (by decide), if_pos hin, h2 k h0 h1]
    rfl
  · exact x_ial' hc xz5 rfl h0 h1 (by omega) (h2 k h0 h1) hw
theorem w73 {Ln : Nat} {xs : Nat → Int32} {d : Nat} {Q : Option Value → pmS → Prop} {l : Int64} {cp : Nat} {c : Int → Int} {f : Int} {a : xA} {b : xB} (hA : xAr a) (hf : a 34 10 = f) (hf0 : 1 ≤ f ∧ f ≤ 3) (hW : ∀ k, 0 ≤ k → 0 ≤ a 6 k ∧ a 6 k ≤ 99) (hco : uCo a c cp) (hcb : ∀ k, 1 ≤ k → k < 6 → 1 ≤ c k ∧ c k ≤ 73)
    (k1 : pmWp (pmRo Ln xs) d 3 73 0 28 [some (.ref 34), some (.long l), none, some (.ref cp), some (xV (if 0 < (if (xL2 (xShr l (4 * f))) % 16 < 7 then (xL2 (xShr l (4 * f))) % 16 else 7) - 1 then (if (xL2 (xShr l (4 * f))) % 16 < 7 then (xL2 (xShr l (4 * f))) % 16 else 7) - 1 else 0)), some (xV 0), none, none] [] (xS a b) Q) :
    pmWp (pmRo Ln xs) d 3 73 0 0 [some (.ref 34), some (.long l), none, some (.ref cp), none, none, none, none] [] (xS a b) Q := by
  refine x_iconst xc73_0 ?_
  refine x_bipush xc73_1 (by decide) ?_
  refine x_lloadn xc73_3 rfl ?_
  refine x_iconst xc73_4 ?_
  refine x_aloadn xc73_5 rfl ?_
  refine x_gfi' (k := 10) (v := f) xc73_6 rfl (Or.inl rfl) rfl xz34 hf ?_
  refine x_imul xc73_9 ?_
  refine x_lushr xc73_10 ?_
  refine x_l2i xc73_11 ?_
  refine x_bipush xc73_12 (by decide) ?_
  refine x_iandm (M := 16) 4 (by decide) (by decide) (by decide) xc73_14 ?_
  refine x_min xc73_15 rfl (xRk (by decide)) (xRk (by have g0 := xL2B (xShr l (4 * f)); omega)) rfl ?_
  refine x_iconst xc73_18 ?_
  refine x_isub xc73_19 ?_
  refine x_max xc73_20 rfl (xRk (by decide)) (xRk (by have g0 := xL2B (xShr l (4 * f)); omega)) rfl ?_
  refine x_istore (pl' := [some (.ref 34), some (.long l), none, some (.ref cp), some (xV (if 0 < (if (xL2 (xShr l (4 * f))) % 16 < 7 then (xL2 (xShr l (4 * f))) % 16 else 7) - 1 then (if (xL2 (xShr l (4 * f))) % 16 < 7 then (xL2 (xShr l (4 * f))) % 16 else 7) - 1 else 0)), none, none, none]) xc73_23 rfl rfl ?_
  refine x_iconst xc73_25 ?_
  refine x_istore (pl' := [some (.ref 34), some (.long l), none, some (.ref cp), some (xV (if 0 < (if (xL2 (xShr l (4 * f))) % 16 < 7 then (xL2 (xShr l (4 * f))) % 16 else 7) - 1 then (if (xL2 (xShr l (4 * f))) % 16 < 7 then (xL2 (xShr l (4 * f))) % 16 else 7) - 1 else 0)), some (xV 0), none, none]) xc73_26 rfl rfl ?_
  exact k1

theorem xg73 {ro : Nat → Nat × (Nat → Int32)} {d : Nat} {Q : Option Value → pmS → Prop} {a : xA} {b : xB} {l : Int64} {cp : Nat} (h : pmWp ro d 3 73 0 0 [some (.ref 34), some (.long l), none, some (.ref cp), none, none, none, none] [] (xS a b) Q) : pmCs ro (d + 1) 73 [.ref 34, .long l, .ref cp] (xS a b) Q := x_go xi73 rfl rfl rfl rfl rfl h
theorem w73n {Ln : Nat} {xs : Nat → Int32} {d : Nat} {Q : Option Value → pmS → Prop} {v0 : Option Value} {v1 : Option Value} {l : Int64} {cp : Nat} {c : Int → Int} {f h : Int} {a : xA} {b : xB} (hA : xAr a) (hf : a 34 10 = f) (hf0 : 1 ≤ f ∧ f ≤ 3) (hh : 0 ≤ h ∧ h ≤ 6) (hW : ∀ k, 0 ≤ k → 0 ≤ a 6 k ∧ a 6 k ≤ 99) (hco : uCo a c cp) (hcb : ∀ k, 1 ≤ k → k < 6 → 1 ≤ c k ∧ c k ≤ 73) {q : Int} (hq : 0 ≤ q ∧ q ≤ 4)
    (k1 : (4 ≤ q) → pmWp (pmRo Ln xs) d 3 73 0 105 [some (.ref 34), some (.long l), none, some (.ref cp), some (xV h), some (xV 100000), some (xV 0), v1] [] (xS a b) Q)
    (k2 : (¬ 4 ≤ q) → ((xL2 (xShr l (4 * q))) % 16 - 1 < 0) → pmWp (pmRo Ln xs) d 3 73 0 28 [some (.ref 34), some (.long l), none, some (.ref cp), some (xV h), some (xV (q + 1)), some (xV ((xL2 (xShr l (4 * q))) % 16 - 1)), v1] [] (xS (xU a 39 q 100000) b) Q)
    (k3 : (¬ 4 ≤ q) → (¬ (xL2 (xShr l (4 * q))) % 16 - 1 < 0) → (7 ≤ (xL2 (xShr l (4 * q))) % 16 - 1) → pmWp (pmRo Ln xs) d 3 73 0 28 [some (.ref 34), some (.long l), none, some (.ref cp), some (xV h), some (xV (q + 1)), some (xV ((xL2 (xShr l (4 * q))) % 16 - 1)), v1] [] (xS (xU a 39 q 100000) b) Q)
    (k4 : (¬ 4 ≤ q) → (¬ (xL2 (xShr l (4 * q))) % 16 - 1 < 0) → (¬ 7 ≤ (xL2 (xShr l (4 * q))) % 16 - 1) → pmWp (pmRo Ln xs) d 3 73 0 28 [some (.ref 34), some (.long l), none, some (.ref cp), some (xV h), some (xV (q + 1)), some (xV ((xL2 (xShr l (4 * q))) % 16 - 1)), v1] [] (xS (xU a 39 q ((a 6 (7 * h + ((xL2 (xShr l (4 * q))) % 16 - 1))) * (c 1))) b) Q) :
    pmWp (pmRo Ln xs) d 3 73 0 28 [some (.ref 34), some (.long l), none, some (.ref cp), some (xV h), some (xV q), v0, v1] [] (xS a b) Q := by
  refine x_iload xc73_28 rfl ?_
  refine x_iconst xc73_30 ?_
  refine x_icge xc73_31 (xRk (by have g0 := hq; omega)) (xRk (by decide)) (fun h0 => ?_) (fun h0 => ?_)
  · refine x_ldc (z := 100000) xc73_98 rfl ?_
    refine x_istore (pl' := [some (.ref 34), some (.long l), none, some (.ref cp), some (xV h), some (xV 100000), v0, v1]) xc73_100 rfl rfl ?_
    refine x_iconst xc73_102 ?_
    refine x_istore (pl' := [some (.ref 34), some (.long l), none, some (.ref cp), some (xV h), some (xV 100000), some (xV 0), v1]) xc73_103 rfl rfl ?_
    exact k1 h0
  · refine x_lloadn xc73_34 rfl ?_
    refine x_iconst xc73_35 ?_
    refine x_iload xc73_36 rfl ?_
    refine x_imul xc73_38 ?_
    refine x_lushr xc73_39 ?_
    refine x_l2i xc73_40 ?_
    refine x_bipush xc73_41 (by decide) ?_
    refine x_iandm (M := 16) 4 (by decide) (by decide) (by decide) xc73_43 ?_
    refine x_iconst xc73_44 ?_
    refine x_isub xc73_45 ?_
    refine x_istore (pl' := [some (.ref 34), some (.long l), none, some (.ref cp), some (xV h), some (xV q), some (xV ((xL2 (xShr l (4 * q))) % 16 - 1)), v1]) xc73_46 rfl rfl ?_
    refine x_aloadn xc73_48 rfl ?_
    refine x_gfr xc73_49 rfl rfl xz34 rfl ?_
    refine x_iload xc73_52 rfl ?_
    refine x_iload xc73_54 rfl ?_
    refine x_iflt xc73_56 (xRk (by have g0 := xL2B (xShr l (4 * q)); omega)) (fun h1 => ?_) (fun h1 => ?_)
    · refine x_ldc (z := 100000) xc73_89 rfl ?_
      refine x_ias xc73_91 xz39 (by have g0 := hq; omega) (by have g0 := hq; omega) (by have g0 := hq; omega) ?_
      refine x_iinc (pl' := [some (.ref 34), some (.long l), none, some (.ref cp), some (xV h), some (xV (q + 1)), some (xV ((xL2 (xShr l (4 * q))) % 16 - 1)), v1]) xc73_92 rfl rfl ?_
      refine x_goto xc73_95 ?_
      exact k2 h0 h1
    · refine x_iload xc73_59 rfl ?_
      refine x_bipush xc73_61 (by decide) ?_
      refine x_icge xc73_63 (xRk (by have g0 := xL2B (xShr l (4 * q)); omega)) (xRk (by decide)) (fun h2 => ?_) (fun h2 => ?_)
      · refine x_ldc (z := 100000) xc73_89 rfl ?_
        refine x_ias xc73_91 xz39 (by have g0 := hq; omega) (by have g0 := hq; omega) (by have g0 := hq; omega) ?_
        refine x_iinc (pl' := [some (.ref 34), some (.long l), none, some (.ref cp), some (xV h), some (xV (q + 1)), some (xV ((xL2 (xShr l (4 * q))) % 16 - 1)), v1]) xc73_92 rfl rfl ?_
        refine x_goto xc73_95 ?_
        exact k3 h0 h1 h2
      · refine x_aloadn xc73_66 rfl ?_
        refine x_gfr xc73_67 rfl rfl xz34 rfl ?_
        refine x_gfr xc73_70 rfl rfl xz3 rfl ?_
        refine x_bipush xc73_73 (by decide) ?_
        refine x_iload xc73_75 rfl ?_
        refine x_imul xc73_77 ?_
        refine x_iload xc73_78 rfl ?_
        refine x_iadd xc73_80 ?_
        refine x_ial xc73_81 xz6 rfl (by have g0 := hh; have g1 := xL2B (xShr l (4 * q)); omega) (by have g0 := hh; have g1 := xL2B (xShr l (4 * q)); omega) (by have g0 := hh; have g1 := xL2B (xShr l (4 * q)); omega) ?_
        refine x_aloadn xc73_82 rfl ?_
        refine x_iconst xc73_83 ?_
        refine x_ialc hco xc73_84 (by omega) (by omega) ?_
        refine x_imul xc73_85 ?_
        refine x_goto xc73_86 ?_
        refine x_ias xc73_91 xz39 (by have g0 := hq; omega) (by have g0 := hq; omega) (by have g0 := hq; omega) ?_
        refine x_iinc (pl' := [some (.ref 34), some (.long l), none, some (.ref cp), some (xV h), some (xV (q + 1)), some (xV ((xL2 (xShr l (4 * q))) % 16 - 1)), v1]) xc73_92 rfl rfl ?_
        refine x_goto xc73_95 ?_
        exact k4 h0 h1 h2

theorem w73h {Ln : Nat} {xs : Nat → Int32} {d : Nat} {Q : Option Value → pmS → Prop} {v1 : Option Value} {l : Int64} {cp : Nat} {c : Int → Int} {f h : Int} {a : xA} {b : xB} (hA : xAr a) (hf : a 34 10 = f) (hf0 : 1 ≤ f ∧ f ≤ 3) (hh : 0 ≤ h ∧ h ≤ 6) (hW : ∀ k, 0 ≤ k → 0 ≤ a 6 k ∧ a 6 k ≤ 99) (hco : uCo a c cp) (hcb : ∀ k, 1 ≤ k → k < 6 → 1 ≤ c k ∧ c k ≤ 73) {t x : Int} (ht : 0 ≤ t ∧ t ≤ 100000) (hx : 0 ≤ x ∧ x ≤ 5) (h39 : ∀ k, 0 ≤ k → k < 4 → 0 ≤ a 39 k ∧ a 39 k ≤ 100000)
    (k1 : (5 ≤ x) → pmWp (pmRo Ln xs) d 3 73 0 345 [some (.ref 34), some (.long l), none, some (.ref cp), some (xV h), some (xV t), some (xV 0), v1] [] (xS a b) Q)
    (k2 : (¬ 5 ≤ x) → (¬ (xL2 (xShr l (16 + (4 * x)))) % 16 = 9 + f) → ((xL2 (xShr l (16 + (4 * x)))) % 16 < 9) → ((xL2 (xShr l (16 + (4 * x)))) % 16 < 1) → pmWp (pmRo Ln xs) d 3 73 0 307 [some (.ref 34), some (.long l), none, some (.ref cp), some (xV h), some (xV t), some (xV x), some (xV ((xL2 (xShr l (16 + (4 * x)))) % 16))] [] (xS (xU (xU a 42 x h) 41 x 100000) b) Q)
    (k3 : (¬ 5 ≤ x) → (¬ (xL2 (xShr l (16 + (4 * x)))) % 16 = 9 + f) → ((xL2 (xShr l (16 + (4 * x)))) % 16 < 9) → (¬ (xL2 (xShr l (16 + (4 * x)))) % 16 < 1) → (7 < (xL2 (xShr l (16 + (4 * x)))) % 16) → pmWp (pmRo Ln xs) d 3 73 0 307 [some (.ref 34), some (.long l), none, some (.ref cp), some (xV h), some (xV t), some (xV x), some (xV ((xL2 (xShr l (16 + (4 * x)))) % 16))] [] (xS (xU (xU a 42 x h) 41 x 100000) b) Q)
    (k4 : (¬ 5 ≤ x) → (¬ (xL2 (xShr l (16 + (4 * x)))) % 16 = 9 + f) → ((xL2 (xShr l (16 + (4 * x)))) % 16 < 9) → (¬ (xL2 (xShr l (16 + (4 * x)))) % 16 < 1) → (¬ 7 < (xL2 (xShr l (16 + (4 * x)))) % 16) → pmWp (pmRo Ln xs) d 3 73 0 307 [some (.ref 34), some (.long l), none, some (.ref cp), some (xV h), some (xV t), some (xV x), some (xV ((xL2 (xShr l (16 + (4 * x)))) % 16))] [] (xS (xU (xU (xU (xU a 42 x h) 41 x 100000) 42 x ((xL2 (xShr l (16 + (4 * x)))) % 16 - 1)) 41 x ((a 6 (7 * h + ((xL2 (xShr l (16 + (4 * x)))) % 16) - 1)) * (c 1) + (c 2))) b) Q)
    (k5 : (¬ 5 ≤ x) → (¬ (xL2 (xShr l (16 + (4 * x)))) % 16 = 9 + f) → (¬ (xL2 (xShr l (16 + (4 * x)))) % 16 < 9) → (13 ≤ (xL2 (xShr l (16 + (4 * x)))) % 16) → ((xL2 (xShr l (16 + (4 * x)))) % 16 < 1) → pmWp (pmRo Ln xs) d 3 73 0 307 [some (.ref 34), some (.long l), none, some (.ref cp), some (xV h), some (xV t), some (xV x), some (xV ((xL2 (xShr l (16 + (4 * x)))) % 16))] [] (xS (xU (xU a 42 x h) 41 x 100000) b) Q)
    (k6 : (¬ 5 ≤ x) → (¬ (xL2 (xShr l (16 + (4 * x)))) % 16 = 9 + f) → (¬ (xL2 (xShr l (16 + (4 * x)))) % 16 < 9) → (13 ≤ (xL2 (xShr l (16 + (4 * x)))) % 16) → (¬ (xL2 (xShr l (16 + (4 * x)))) % 16 < 1) → (7 < (xL2 (xShr l (16 + (4 * x)))) % 16) → pmWp (pmRo Ln xs) d 3 73 0 307 [some (.ref 34), some (.long l), none, some (.ref cp), some (xV h), some (xV t), some (xV x), some (xV ((xL2 (xShr l (16 + (4 * x)))) % 16))] [] (xS (xU (xU a 42 x h) 41 x 100000) b) Q)
    (k7 : (¬ 5 ≤ x) → (¬ (xL2 (xShr l (16 + (4 * x)))) % 16 = 9 + f) → (¬ (xL2 (xShr l (16 + (4 * x)))) % 16 < 9) → (13 ≤ (xL2 (xShr l (16 + (4 * x)))) % 16) → (¬ (xL2 (xShr l (16 + (4 * x)))) % 16 < 1) → (¬ 7 < (xL2 (xShr l (16 + (4 * x)))) % 16) → pmWp (pmRo Ln xs) d 3 73 0 307 [some (.ref 34), some (.long l), none, some (.ref cp), some (xV h), some (xV t), some (xV x), some (xV ((xL2 (xShr l (16 + (4 * x)))) % 16))] [] (xS (xU (xU (xU (xU a 42 x h) 41 x 100000) 42 x ((xL2 (xShr l (16 + (4 * x)))) % 16 - 1)) 41 x ((a 6 (7 * h + ((xL2 (xShr l (16 + (4 * x)))) % 16) - 1)) * (c 1) + (c 2))) b) Q)
    (k8 : (¬ 5 ≤ x) → (¬ (xL2 (xShr l (16 + (4 * x)))) % 16 = 9 + f) → (¬ (xL2 (xShr l (16 + (4 * x)))) % 16 < 9) → (¬ 13 ≤ (xL2 (xShr l (16 + (4 * x)))) % 16) → (100000 ≤ a 39 ((xL2 (xShr l (16 + (4 * x)))) % 16 - 9)) → ((xL2 (xShr l (16 + (4 * x)))) % 16 < 1) → pmWp (pmRo Ln xs) d 3 73 0 307 [some (.ref 34), some (.long l), none, some (.ref cp), some (xV h), some (xV t), some (xV x), some (xV ((xL2 (xShr l (16 + (4 * x)))) % 16))] [] (xS (xU (xU a 42 x h) 41 x 100000) b) Q)
    (k9 : (¬ 5 ≤ x) → (¬ (xL2 (xShr l (16 + (4 * x)))) % 16 = 9 + f) → (¬ (xL2 (xShr l (16 + (4 * x)))) % 16 < 9) → (¬ 13 ≤ (xL2 (xShr l (16 + (4 * x)))) % 16) → (100000 ≤ a 39 ((xL2 (xShr l (16 + (4 * x)))) % 16 - 9)) → (¬ (xL2 (xShr l (16 + (4 * x)))) % 16 < 1) → (7 < (xL2 (xShr l (16 + (4 * x)))) % 16) → pmWp (pmRo Ln xs) d 3 73 0 307 [some (.ref 34), some (.long l), none, some (.ref cp), some (xV h), some (xV t), some (xV x), some (xV ((xL2 (xShr l (16 + (4 * x)))) % 16))] [] (xS (xU (xU a 42 x h) 41 x 100000) b) Q)
    (k10 : (¬ 5 ≤ x) → (¬ (xL2 (xShr l (16 + (4 * x)))) % 16 = 9 + f) → (¬ (xL2 (xShr l (16 + (4 * x)))) % 16 < 9) → (¬ 13 ≤ (xL2 (xShr l (16 + (4 * x)))) % 16) → (100000 ≤ a 39 ((xL2 (xShr l (16 + (4 * x)))) % 16 - 9)) → (¬ (xL2 (xShr l (16 + (4 * x)))) % 16 < 1) → (¬ 7 < (xL2 (xShr l (16 + (4 * x)))) % 16) → pmWp (pmRo Ln xs) d 3 73 0 307 [some (.ref 34), some (.long l), none, some (.ref cp), some (xV h), some (xV t), some (xV x), some (xV ((xL2 (xShr l (16 + (4 * x)))) % 16))] [] (xS (xU (xU (xU (xU a 42 x h) 41 x 100000) 42 x ((xL2 (xShr l (16 + (4 * x)))) % 16 - 1)) 41 x ((a 6 (7 * h + ((xL2 (xShr l (16 + (4 * x)))) % 16) - 1)) * (c 1) + (c 2))) b) Q)
    (k11 : (¬ 5 ≤ x) → (¬ (xL2 (xShr l (16 + (4 * x)))) % 16 = 9 + f) → (¬ (xL2 (xShr l (16 + (4 * x)))) % 16 < 9) → (¬ 13 ≤ (xL2 (xShr l (16 + (4 * x)))) % 16) → (¬ 100000 ≤ a 39 ((xL2 (xShr l (16 + (4 * x)))) % 16 - 9)) → pmWp (pmRo Ln xs) d 3 73 0 307 [some (.ref 34), some (.long l), none, some (.ref cp), some (xV h), some (xV t), some (xV x), some (xV ((xL2 (xShr l (16 + (4 * x)))) % 16))] [] (xS (xU (xU (xU (xU a 42 x h) 41 x 100000) 42 x (if 0 < (xL2 (xShr l (4 * ((xL2 (xShr l (16 + (4 * x)))) % 16 - 9)))) % 16 - 1 then (xL2 (xShr l (4 * ((xL2 (xShr l (16 + (4 * x)))) % 16 - 9)))) % 16 - 1 else 0)) 41 x (a 39 ((xL2 (xShr l (16 + (4 * x)))) % 16 - 9) + (c 5) + (c 2))) b) Q)
    (k12 : (¬ 5 ≤ x) → (¬ ¬ (xL2 (xShr l (16 + (4 * x)))) % 16 = 9 + f) → pmWp (pmRo Ln xs) d 3 73 0 307 [some (.ref 34), some (.long l), none, some (.ref cp), some (xV h), some (xV t), some (xV x), some (xV ((xL2 (xShr l (16 + (4 * x)))) % 16))] [] (xS (xU (xU (xU a 42 x h) 41 x 100000) 41 x 0) b) Q) :
    pmWp (pmRo Ln xs) d 3 73 0 105 [some (.ref 34), some (.long l), none, some (.ref cp), some (xV h), some (xV t), some (xV x), v1] [] (xS a b) Q := by
  refine x_iload xc73_105 rfl ?_
  refine x_iconst xc73_107 ?_
  refine x_icge xc73_108 (xRk (by have g0 := hx; omega)) (xRk (by decide)) (fun h0 => ?_) (fun h0 => ?_)
  · refine x_iconst xc73_342 ?_
    refine x_istore (pl' := [some (.ref 34), some (.long l), none, some (.ref cp), some (xV h), some (xV t), some (xV 0), v1]) xc73_343 rfl rfl ?_
    exact k1 h0
  · refine x_lloadn xc73_111 rfl ?_
    refine x_bipush xc73_112 (by decide) ?_
    refine x_iconst xc73_114 ?_
    refine x_iload xc73_115 rfl ?_
    refine x_imul xc73_117 ?_
    refine x_iadd xc73_118 ?_
    refine x_lushr xc73_119 ?_
    refine x_l2i xc73_120 ?_
    refine x_bipush xc73_121 (by decide) ?_
    refine x_iandm (M := 16) 4 (by decide) (by decide) (by decide) xc73_123 ?_
    refine x_istore (pl' := [some (.ref 34), some (.long l), none, some (.ref cp), some (xV h), some (xV t), some (xV x), some (xV ((xL2 (xShr l (16 + (4 * x)))) % 16))]) xc73_124 rfl rfl ?_
    refine x_aloadn xc73_126 rfl ?_
    refine x_gfr xc73_127 rfl rfl xz34 rfl ?_
    refine x_iload xc73_130 rfl ?_
    refine x_iload xc73_132 rfl ?_
    refine x_ias xc73_134 xz42 (by have g0 := hx; omega) (by have g0 := hx; omega) (by have g0 := hx; omega) ?_
    refine x_aloadn xc73_135 rfl ?_
    refine x_gfr xc73_136 rfl rfl xz34 rfl ?_
    refine x_iload xc73_139 rfl ?_
    refine x_ldc (z := 100000) xc73_141 rfl ?_
    refine x_ias xc73_143 xz41 (by have g0 := hx; omega) (by have g0 := hx; omega) (by have g0 := hx; omega) ?_
    refine x_iload xc73_144 rfl ?_
    refine x_bipush xc73_146 (by decide) ?_
    refine x_aloadn xc73_148 rfl ?_
    refine x_gfi' (k := 10) (v := f) xc73_149 rfl (Or.inl rfl) rfl xz34 (by rw [xUn (by decide), xUn (by decide), hf]) ?_
    refine x_iadd xc73_152 ?_
    refine x_icne xc73_153 (xRk (by have g0 := xL2B (xShr l (16 + (4 * x))); omega)) (xRk (by have g0 := hf0; omega)) (fun h1 => ?_) (fun h1 => ?_)
    · refine x_iload xc73_167 rfl ?_
      refine x_bipush xc73_169 (by decide) ?_
      refine x_iclt xc73_171 (xRk (by have g0 := xL2B (xShr l (16 + (4 * x))); omega)) (xRk (by decide)) (fun h2 => ?_) (fun h2 => ?_)
      · refine x_iload xc73_250 rfl ?_
        refine x_iconst xc73_252 ?_
        refine x_iclt xc73_253 (xRk (by have g0 := xL2B (xShr l (16 + (4 * x))); omega)) (xRk (by decide)) (fun h3 => ?_) (fun h3 => ?_)
        · exact k2 h0 h1 h2 h3
        · refine x_iload xc73_256 rfl ?_
          refine x_bipush xc73_258 (by decide) ?_
          refine x_icgt xc73_260 (xRk (by have g0 := xL2B (xShr l (16 + (4 * x))); omega)) (xRk (by decide)) (fun h4 => ?_) (fun h4 => ?_)
          · exact k3 h0 h1 h2 h3 h4
          · refine x_aloadn xc73_263 rfl ?_
            refine x_gfr xc73_264 rfl rfl xz34 rfl ?_
            refine x_iload xc73_267 rfl ?_
            refine x_iload xc73_269 rfl ?_
            refine x_iconst xc73_271 ?_
            refine x_isub xc73_272 ?_
            refine x_ias xc73_273 xz42 (by have g0 := hx; omega) (by have g0 := hx; omega) (by have g0 := hx; omega) ?_
            refine x_aloadn xc73_274 rfl ?_
            refine x_gfr xc73_275 rfl rfl xz34 rfl ?_
            refine x_iload xc73_278 rfl ?_
            refine x_aloadn xc73_280 rfl ?_
            refine x_gfr xc73_281 rfl rfl xz34 rfl ?_
            refine x_gfr xc73_284 rfl rfl xz3 rfl ?_
            refine x_bipush xc73_287 (by decide) ?_
            refine x_iload xc73_289 rfl ?_
            refine x_imul xc73_291 ?_
            refine x_iload xc73_292 rfl ?_
            refine x_iadd xc73_294 ?_
            refine x_iconst xc73_295 ?_
            refine x_isub xc73_296 ?_
            refine x_ial' (v := a 6 (7 * h + ((xL2 (xShr l (16 + (4 * x)))) % 16) - 1)) xc73_297 xz6 rfl (by have g0 := hh; have g1 := xL2B (xShr l (16 + (4 * x))); omega) (by have g0 := hh; have g1 := xL2B (xShr l (16 + (4 * x))); omega) (by have g0 := hh; have g1 := xL2B (xShr l (16 + (4 * x))); omega) (by rw [xUn (by decide), xUn (by decide), xUn (by decide)]) ?_
            refine x_aloadn xc73_298 rfl ?_
            refine x_iconst xc73_299 ?_
            refine x_ialc (uCo_u (by decide) (uCo_u (by decide) (uCo_u (by decide) hco))) xc73_300 (by omega) (by omega) ?_
            refine x_imul xc73_301 ?_
            refine x_aloadn xc73_302 rfl ?_
            refine x_iconst xc73_303 ?_
            refine x_ialc (uCo_u (by decide) (uCo_u (by decide) (uCo_u (by decide) hco))) xc73_304 (by omega) (by omega) ?_
            refine x_iadd xc73_305 ?_
            refine x_ias xc73_306 xz41 (by have g0 := hx; omega) (by have g0 := hx; omega) (by have g0 := hx; omega) ?_
            exact k4 h0 h1 h2 h3 h4
      · refine x_iload xc73_174 rfl ?_
        refine x_bipush xc73_176 (by decide) ?_
        refine x_icge xc73_178 (xRk (by have g0 := xL2B (xShr l (16 + (4 * x))); omega)) (xRk (by decide)) (fun h5 => ?_) (fun h5 => ?_)
        · refine x_iload xc73_250 rfl ?_
          refine x_iconst xc73_252 ?_
          refine x_iclt xc73_253 (xRk (by have g0 := xL2B (xShr l (16 + (4 * x))); omega)) (xRk (by decide)) (fun h6 => ?_) (fun h6 => ?_)
          · exact k5 h0 h1 h2 h5 h6
          · refine x_iload xc73_256 rfl ?_
            refine x_bipush xc73_258 (by decide) ?_
            refine x_icgt xc73_260 (xRk (by have g0 := xL2B (xShr l (16 + (4 * x))); omega)) (xRk (by decide)) (fun h7 => ?_) (fun h7 => ?_)
            · exact k6 h0 h1 h2 h5 h6 h7
            · refine x_aloadn xc73_263 rfl ?_
              refine x_gfr xc73_264 rfl rfl xz34 rfl ?_
              refine x_iload xc73_267 rfl ?_
              refine x_iload xc73_269 rfl ?_
              refine x_iconst xc73_271 ?_
              refine x_isub xc73_272 ?_
              refine x_ias xc73_273 xz42 (by have g0 := hx; omega) (by have g0 := hx; omega) (by have g0 := hx; omega) ?_
              refine x_aloadn xc73_274 rfl ?_
              refine x_gfr xc73_275 rfl rfl xz34 rfl ?_
              refine x_iload xc73_278 rfl ?_
              refine x_aloadn xc73_280 rfl ?_
              refine x_gfr xc73_281 rfl rfl xz34 rfl ?_
              refine x_gfr xc73_284 rfl rfl xz3 rfl ?_
              refine x_bipush xc73_287 (by decide) ?_
              refine x_iload xc73_289 rfl ?_
              refine x_imul xc73_291 ?_
              refine x_iload xc73_292 rfl ?_
              refine x_iadd xc73_294 ?_
              refine x_iconst xc73_295 ?_
              refine x_isub xc73_296 ?_
              refine x_ial' (v := a 6 (7 * h + ((xL2 (xShr l (16 + (4 * x)))) % 16) - 1)) xc73_297 xz6 rfl (by have g0 := hh; have g1 := xL2B (xShr l (16 + (4 * x))); omega) (by have g0 := hh; have g1 := xL2B (xShr l (16 + (4 * x))); omega) (by have g0 := hh; have g1 := xL2B (xShr l (16 + (4 * x))); omega) (by rw [xUn (by decide), xUn (by decide), xUn (by decide)]) ?_
              refine x_aloadn xc73_298 rfl ?_
              refine x_iconst xc73_299 ?_
              refine x_ialc (uCo_u (by decide) (uCo_u (by decide) (uCo_u (by decide) hco))) xc73_300 (by omega) (by omega) ?_
              refine x_imul xc73_301 ?_
              refine x_aloadn xc73_302 rfl ?_
              refine x_iconst xc73_303 ?_
              refine x_ialc (uCo_u (by decide) (uCo_u (by decide) (uCo_u (by decide) hco))) xc73_304 (by omega) (by omega) ?_
              refine x_iadd xc73_305 ?_
              refine x_ias xc73_306 xz41 (by have g0 := hx; omega) (by have g0 := hx; omega) (by have g0 := hx; omega) ?_
              exact k7 h0 h1 h2 h5 h6 h7
        · refine x_aloadn xc73_181 rfl ?_
          refine x_gfr xc73_182 rfl rfl xz34 rfl ?_
          refine x_iload xc73_185 rfl ?_
          refine x_bipush xc73_187 (by decide) ?_
          refine x_isub xc73_189 ?_
          refine x_ial' (v := a 39 ((xL2 (xShr l (16 + (4 * x)))) % 16 - 9)) xc73_190 xz39 rfl (by have g0 := xL2B (xShr l (16 + (4 * x))); omega) (by have g0 := xL2B (xShr l (16 + (4 * x))); omega) (by have g0 := xL2B (xShr l (16 + (4 * x))); omega) (by rw [xUn (by decide), xUn (by decide)]) ?_
          refine x_ldc (z := 100000) xc73_191 rfl ?_
          refine x_icge xc73_193 (xRk (by have g0 := xL2B (xShr l (16 + (4 * x))); have g1 := h39 ((xL2 (xShr l (16 + (4 * x)))) % 16 - 9) (by omega) (by omega); omega)) (xRk (by decide)) (fun h8 => ?_) (fun h8 => ?_)
          · refine x_iload xc73_250 rfl ?_
            refine x_iconst xc73_252 ?_
            refine x_iclt xc73_253 (xRk (by have g0 := xL2B (xShr l (16 + (4 * x))); omega)) (xRk (by decide)) (fun h9 => ?_) (fun h9 => ?_)
            · exact k8 h0 h1 h2 h5 h8 h9
            · refine x_iload xc73_256 rfl ?_
              refine x_bipush xc73_258 (by decide) ?_
              refine x_icgt xc73_260 (xRk (by have g0 := xL2B (xShr l (16 + (4 * x))); omega)) (xRk (by decide)) (fun h10 => ?_) (fun h10 => ?_)
              · exact k9 h0 h1 h2 h5 h8 h9 h10
              · refine x_aloadn xc73_263 rfl ?_
                refine x_gfr xc73_264 rfl rfl xz34 rfl ?_
                refine x_iload xc73_267 rfl ?_
                refine x_iload xc73_269 rfl ?_
                refine x_iconst xc73_271 ?_
                refine x_isub xc73_272 ?_
                refine x_ias xc73_273 xz42 (by have g0 := hx; omega) (by have g0 := hx; omega) (by have g0 := hx; omega) ?_
                refine x_aloadn xc73_274 rfl ?_
                refine x_gfr xc73_275 rfl rfl xz34 rfl ?_
                refine x_iload xc73_278 rfl ?_
                refine x_aloadn xc73_280 rfl ?_
                refine x_gfr xc73_281 rfl rfl xz34 rfl ?_
                refine x_gfr xc73_284 rfl rfl xz3 rfl ?_
                refine x_bipush xc73_287 (by decide) ?_
                refine x_iload xc73_289 rfl ?_
                refine x_imul xc73_291 ?_
                refine x_iload xc73_292 rfl ?_
                refine x_iadd xc73_294 ?_
                refine x_iconst xc73_295 ?_
                refine x_isub xc73_296 ?_
                refine x_ial' (v := a 6 (7 * h + ((xL2 (xShr l (16 + (4 * x)))) % 16) - 1)) xc73_297 xz6 rfl (by have g0 := hh; have g1 := xL2B (xShr l (16 + (4 * x))); omega) (by have g0 := hh; have g1 := xL2B (xShr l (16 + (4 * x))); omega) (by have g0 := hh; have g1 := xL2B (xShr l (16 + (4 * x))); omega) (by rw [xUn (by decide), xUn (by decide), xUn (by decide)]) ?_
                refine x_aloadn xc73_298 rfl ?_
                refine x_iconst xc73_299 ?_
                refine x_ialc (uCo_u (by decide) (uCo_u (by decide) (uCo_u (by decide) hco))) xc73_300 (by omega) (by omega) ?_
                refine x_imul xc73_301 ?_
                refine x_aloadn xc73_302 rfl ?_
                refine x_iconst xc73_303 ?_
                refine x_ialc (uCo_u (by decide) (uCo_u (by decide) (uCo_u (by decide) hco))) xc73_304 (by omega) (by omega) ?_
                refine x_iadd xc73_305 ?_
                refine x_ias xc73_306 xz41 (by have g0 := hx; omega) (by have g0 := hx; omega) (by have g0 := hx; omega) ?_
                exact k10 h0 h1 h2 h5 h8 h9 h10
          · refine x_aloadn xc73_196 rfl ?_
            refine x_gfr xc73_197 rfl rfl xz34 rfl ?_
            refine x_iload xc73_200 rfl ?_
            refine x_iconst xc73_202 ?_
            refine x_lloadn xc73_203 rfl ?_
            refine x_iconst xc73_204 ?_
            refine x_iload xc73_205 rfl ?_
            refine x_bipush xc73_207 (by decide) ?_
            refine x_isub xc73_209 ?_
            refine x_imul xc73_210 ?_
            refine x_lushr xc73_211 ?_
            refine x_l2i xc73_212 ?_
            refine x_bipush xc73_213 (by decide) ?_
            refine x_iandm (M := 16) 4 (by decide) (by decide) (by decide) xc73_215 ?_
            refine x_iconst xc73_216 ?_
            refine x_isub xc73_217 ?_
            refine x_max xc73_218 rfl (xRk (by decide)) (xRk (by have g0 := xL2B (xShr l (4 * ((xL2 (xShr l (16 + (4 * x)))) % 16 - 9))); omega)) rfl ?_
            refine x_ias xc73_221 xz42 (by have g0 := hx; omega) (by have g0 := hx; omega) (by have g0 := hx; omega) ?_
            refine x_aloadn xc73_222 rfl ?_
            refine x_gfr xc73_223 rfl rfl xz34 rfl ?_
            refine x_iload xc73_226 rfl ?_
            refine x_aloadn xc73_228 rfl ?_
            refine x_gfr xc73_229 rfl rfl xz34 rfl ?_
            refine x_iload xc73_232 rfl ?_
            refine x_bipush xc73_234 (by decide) ?_
            refine x_isub xc73_236 ?_
            refine x_ial' (v := a 39 ((xL2 (xShr l (16 + (4 * x)))) % 16 - 9)) xc73_237 xz39 rfl (by have g0 := xL2B (xShr l (16 + (4 * x))); omega) (by have g0 := xL2B (xShr l (16 + (4 * x))); omega) (by have g0 := xL2B (xShr l (16 + (4 * x))); omega) (by rw [xUn (by decide), xUn (by decide), xUn (by decide)]) ?_
            refine x_aloadn xc73_238 rfl ?_
            refine x_iconst xc73_239 ?_
            refine x_ialc (uCo_u (by decide) (uCo_u (by decide) (uCo_u (by decide) hco))) xc73_240 (by omega) (by omega) ?_
            refine x_iadd xc73_241 ?_
            refine x_aloadn xc73_242 rfl ?_
            refine x_iconst xc73_243 ?_
            refine x_ialc (uCo_u (by decide) (uCo_u (by decide) (uCo_u (by decide) hco))) xc73_244 (by omega) (by omega) ?_
            refine x_iadd xc73_245 ?_
            refine x_ias xc73_246 xz41 (by have g0 := hx; omega) (by have g0 := hx; omega) (by have g0 := hx; omega) ?_
            refine x_goto xc73_247 ?_
            exact k11 h0 h1 h2 h5 h8
    · refine x_aloadn xc73_156 rfl ?_
      refine x_gfr xc73_157 rfl rfl xz34 rfl ?_
      refine x_iload xc73_160 rfl ?_
      refine x_iconst xc73_162 ?_
      refine x_ias xc73_163 xz41 (by have g0 := hx; omega) (by have g0 := hx; omega) (by have g0 := hx; omega) ?_
      refine x_goto xc73_164 ?_
      exact k12 h0 h1

theorem w73j {Ln : Nat} {xs : Nat → Int32} {d : Nat} {Q : Option Value → pmS → Prop} {v1 : Option Value} {l : Int64} {cp : Nat} {c : Int → Int} {f h : Int} {a : xA} {b : xB} (hA : xAr a) (hf : a 34 10 = f) (hf0 : 1 ≤ f ∧ f ≤ 3) (hh : 0 ≤ h ∧ h ≤ 6) (hW : ∀ k, 0 ≤ k → 0 ≤ a 6 k ∧ a 6 k ≤ 99) (hco : uCo a c cp) (hcb : ∀ k, 1 ≤ k → k < 6 → 1 ≤ c k ∧ c k ≤ 73) {t x : Int} (ht : 0 ≤ t ∧ t ≤ 100000) (hx : 0 ≤ x ∧ x < 5)
    (k1 : (((a 3 4) / ((2 ^ x.toNat : Nat) : Int)) % 2 = 0) → pmWp (pmRo Ln xs) d 3 73 0 105 [some (.ref 34), some (.long l), none, some (.ref cp), some (xV h), some (xV t), some (xV (x + 1)), v1] [] (xS a b) Q)
    (k2 : (¬ ((a 3 4) / ((2 ^ x.toNat : Nat) : Int)) % 2 = 0) → pmWp (pmRo Ln xs) d 3 73 0 105 [some (.ref 34), some (.long l), none, some (.ref cp), some (xV h), some (xV (if a 41 x < t then a 41 x else t)), some (xV (x + 1)), v1] [] (xS a b) Q) :
    pmWp (pmRo Ln xs) d 3 73 0 307 [some (.ref 34), some (.long l), none, some (.ref cp), some (xV h), some (xV t), some (xV x), v1] [] (xS a b) Q := by
  refine x_aloadn xc73_307 rfl ?_
  refine x_gfr xc73_308 rfl rfl xz34 rfl ?_
  refine x_gfi (k := 4) xc73_311 rfl (Or.inl rfl) rfl xz3 ?_
  refine x_iload xc73_314 rfl ?_
  refine x_ishr (M := ((2 ^ x.toNat : Nat) : Int)) (by have g0 := hx; omega) (by have g0 := hx; omega) rfl (xRk (by have g0 := xRb (hA 3 4); omega)) xc73_316 ?_
  refine x_iconst xc73_317 ?_
  refine x_iandm (M := 2) 1 (by decide) (by decide) (by decide) xc73_318 ?_
  refine x_ifeq xc73_319 (xRk (by have g0 := xRb (hA 3 4); have g1 := hx; omega)) (fun h0 => ?_) (fun h0 => ?_)
  · refine x_iinc (pl' := [some (.ref 34), some (.long l), none, some (.ref cp), some (xV h), some (xV t), some (xV (x + 1)), v1]) xc73_336 rfl rfl ?_
    refine x_goto xc73_339 ?_
    exact k1 h0
  · refine x_iload xc73_322 rfl ?_
    refine x_aloadn xc73_324 rfl ?_
    refine x_gfr xc73_325 rfl rfl xz34 rfl ?_
    refine x_iload xc73_328 rfl ?_
    refine x_ial xc73_330 xz41 rfl (by have g0 := hx; omega) (by have g0 := hx; omega) (by have g0 := hx; omega) ?_
    refine x_min xc73_331 rfl (xRk (by have g0 := ht; omega)) (xRk (by have g0 := hx; have g1 := xRb (hA 41 x); omega)) rfl ?_
    refine x_istore (pl' := [some (.ref 34), some (.long l), none, some (.ref cp), some (xV h), some (xV (if a 41 x < t then a 41 x else t)), some (xV x), v1]) xc73_334 rfl rfl ?_
    refine x_iinc (pl' := [some (.ref 34), some (.long l), none, some (.ref cp), some (xV h), some (xV (if a 41 x < t then a 41 x else t)), some (xV (x + 1)), v1]) xc73_336 rfl rfl ?_
    refine x_goto xc73_339 ?_
    exact k2 h0

theorem w73i {Ln : Nat} {xs : Nat → Int32} {d : Nat} {Q : Option Value → pmS → Prop} {v1 : Option Value} {l : Int64} {cp : Nat} {c : Int → Int} {f h : Int} {a : xA} {b : xB} (hA : xAr a) (hf : a 34 10 = f) (hf0 : 1 ≤ f ∧ f ≤ 3) (hh : 0 ≤ h ∧ h ≤ 6) (hW : ∀ k, 0 ≤ k → 0 ≤ a 6 k ∧ a 6 k ≤ 99) (hco : uCo a c cp) (hcb : ∀ k, 1 ≤ k → k < 6 → 1 ≤ c k ∧ c k ≤ 73) {t q : Int} (ht : 0 ≤ t ∧ t ≤ 100000) (hq : 0 ≤ q ∧ q ≤ 4) (h39 : ∀ k, 0 ≤ k → k < 4 → 0 ≤ a 39 k ∧ a 39 k ≤ 100000)
    (k1 : (4 ≤ q) → Q none (xS a b))
    (k2 : (¬ 4 ≤ q) → (¬ q = f) → pmWp (pmRo Ln xs) d 3 73 0 345 [some (.ref 34), some (.long l), none, some (.ref cp), some (xV h), some (xV t), some (xV (q + 1)), v1] [] (xS (xU a 40 q ((if t < a 39 q then a 39 q else t) + (c 5))) b) Q)
    (k3 : (¬ 4 ≤ q) → (¬ ¬ q = f) → pmWp (pmRo Ln xs) d 3 73 0 345 [some (.ref 34), some (.long l), none, some (.ref cp), some (xV h), some (xV t), some (xV (q + 1)), v1] [] (xS (xU a 40 q 100000) b) Q) :
    pmWp (pmRo Ln xs) d 3 73 0 345 [some (.ref 34), some (.long l), none, some (.ref cp), some (xV h), some (xV t), some (xV q), v1] [] (xS a b) Q := by
  refine x_iload xc73_345 rfl ?_
  refine x_iconst xc73_347 ?_
  refine x_icge xc73_348 (xRk (by have g0 := hq; omega)) (xRk (by decide)) (fun h0 => ?_) (fun h0 => ?_)
  · refine x_ret xc73_394 rfl ?_
    exact k1 h0
  · refine x_aloadn xc73_351 rfl ?_
    refine x_gfr xc73_352 rfl rfl xz34 rfl ?_
    refine x_iload xc73_355 rfl ?_
    refine x_iload xc73_357 rfl ?_
    refine x_aloadn xc73_359 rfl ?_
    refine x_gfi' (k := 10) (v := f) xc73_360 rfl (Or.inl rfl) rfl xz34 hf ?_
    refine x_icne xc73_363 (xRk (by have g0 := hq; omega)) (xRk (by have g0 := hf0; omega)) (fun h1 => ?_) (fun h1 => ?_)
    · refine x_iload xc73_371 rfl ?_
      refine x_aloadn xc73_373 rfl ?_
      refine x_gfr xc73_374 rfl rfl xz34 rfl ?_
      refine x_iload xc73_377 rfl ?_
      refine x_ial xc73_379 xz39 rfl (by have g0 := hq; omega) (by have g0 := hq; omega) (by have g0 := hq; omega) ?_
      refine x_max xc73_380 rfl (xRk (by have g0 := ht; omega)) (xRk (by have g0 := hq; have g1 := h39 q (by omega) (by omega); omega)) rfl ?_
      refine x_aloadn xc73_383 rfl ?_
      refine x_iconst xc73_384 ?_
      refine x_ialc hco xc73_385 (by omega) (by omega) ?_
      refine x_iadd xc73_386 ?_
      refine x_ias xc73_387 xz40 (by have g0 := hq; omega) (by have g0 := hq; omega) (by have g0 := hq; omega) ?_
      refine x_iinc (pl' := [some (.ref 34), some (.long l), none, some (.ref cp), some (xV h), some (xV t), some (xV (q + 1)), v1]) xc73_388 rfl rfl ?_
      refine x_goto xc73_391 ?_
      exact k2 h0 h1
    · refine x_ldc (z := 100000) xc73_366 rfl ?_
      refine x_goto xc73_368 ?_
      refine x_ias xc73_387 xz40 (by have g0 := hq; omega) (by have g0 := hq; omega) (by have g0 := hq; omega) ?_
      refine x_iinc (pl' := [some (.ref 34), some (.long l), none, some (.ref cp), some (xV h), some (xV t), some (xV (q + 1)), v1]) xc73_388 rfl rfl ?_
      refine x_goto xc73_391 ?_
      exact k3 h0 h1

section
variable {Ln : Nat} {xs : Nat → Int32} {ro : Nat → Nat × (Nat → Int32)} {d : Nat} {Q : Option Value → pmS → Prop} {dr wp : Int → Int} {n p k : Int} {l : Int64} {a : xA} {b : xB}
theorem u81l {m : Int64} {p kx hr kk dd : Int} (hp : 0 ≤ p ∧ p ≤ 3) (hd : 0 ≤ dd ∧ dd ≤ 511) (hkk : 0 ≤ kk ∧ kk ≤ 7) (hkx : 0 ≤ kx ∧ kx ≤ 3) (hhr : 0 ≤ hr ∧ hr ≤ 15) : ∀ (t : Nat) (i : Int) (m : Int64), 5 - i ≤ (t : Int) → 0 ≤ i ∧ i ≤ 5 → (∀ m', (∀ j, 0 ≤ j → j < 16 → uSl m' j = if 4 + i ≤ j ∧ j < 9 ∧ uSl l j = 9 + kx then hr else uSl m j) → Q (some (.long m')) (xS a b)) →
    pmWp ro d 5 81 3 94 [some (.ref 3), some (.long l), none, some (xV p), some (xV dd), some (xV kk), some (xV kx), some (xV hr), some (.long m), none, some (xV (16 + 4 * i))] [] (xS a b) Q := by
  intro t
  induction t with
  | zero =>
    intro i m ht hi hQ
    refine w81l hp hd hkk ⟨by omega, by omega⟩ hhr (by omega) (fun _ => hQ m fun j j0 j1 => ?_) (fun e => by omega) (fun e => by omega)
    rw [if_neg (by omega)]
  | succ t ih =>
    intro i m ht hi hQ
    have es : xL2 (xShr l (16 + 4 * i)) % 16 = uSl l (4 + i) := uSl_at (by omega)
    refine w81l hp hd hkk ⟨by omega, by omega⟩ hhr (by omega) (fun _ => hQ m fun j j0 j1 => ?_) (fun e1 e2 => ?_) (fun e1 e2 => ?_)
    · rw [if_neg (by omega)]
    · rw [es] at e2
      rw [show 16 + 4 * i + 4 = 16 + 4 * (i + 1) by omega]
      refine ih (i + 1) m (by omega) (by omega) fun m' hm' => hQ m' fun j j0 j1 => ?_
      rw [hm' j j0 j1]
      by_cases c : j = 4 + i
      · subst c
        rw [if_neg (by omega), if_neg (fun e => e2 e.2.2)]
      · by_cases c2 : 4 + i ≤ j ∧ j < 9 ∧ uSl l j = 9 + kx
        · rw [if_pos c2, if_pos ⟨by omega, c2.2⟩]
        · rw [if_neg c2, if_neg (fun e => c2 ⟨by omega, e.2⟩)]
    · rw [es] at e2
      rw [show 16 + 4 * i + 4 = 16 + 4 * (i + 1) by omega]
      refine ih (i + 1) _ (by omega) (by omega) fun m' hm' => hQ m' fun j j0 j1 => ?_
      rw [hm' j j0 j1, uWith (i := 4 + i) (by omega) (by omega) hhr.1 (by omega) j0 j1 (by omega)]
      by_cases c : j = 4 + i
      · rw [if_neg (by omega), if_pos c, if_pos ⟨by omega, by omega, by rw [c]; exact Classical.not_not.mp e2⟩]
      · rw [if_neg c]
        by_cases c2 : 4 + i ≤ j ∧ j < 9 ∧ uSl l j = 9 + kx
        · rw [if_pos c2, if_pos ⟨by omega, c2.2⟩]
        · rw [if_neg c2, if_neg (fun e => c2 ⟨by omega, e.2⟩)]
theorem uApp_no {f k : Int} {S : Int → Int} (h : k < 0 ∨ 41 ≤ k) : uApp f S k = S := by
  unfold uApp
  rcases h with h | h
  · rw [if_pos h]
  · rw [if_neg (by omega), if_neg (by omega), if_neg (by omega), if_neg (by omega), if_neg (by omega), if_neg (by omega)]
theorem uApp_go {f k : Int} {S : Int → Int} (h : 0 ≤ k ∧ k < 7) : uApp f S k = uP S f (k + 1) := by
  unfold uApp
  rw [if_neg (by omega), if_pos (by omega)]
theorem uApp_ta {f k : Int} {S : Int → Int} (h : 7 ≤ k ∧ k < 12) : uApp f S k = uP S (4 + uX k) (9 + f) := by
  unfold uApp
  rw [if_neg (by omega), if_neg (by omega), if_pos (by omega)]
theorem uApp_dr {f k : Int} {S : Int → Int} (h : 12 ≤ k ∧ k < 17) : uApp f S k = uP S (4 + uX k) (S f) := by
  unfold uApp
  rw [if_neg (by omega), if_neg (by omega), if_neg (by omega), if_pos (by omega)]
theorem uApp_gi {f k : Int} {S : Int → Int} (h : 17 ≤ k ∧ k < 37) : uApp f S k = uP S (4 + uX k) (9 + uY k) := by
  unfold uApp
  rw [if_neg (by omega), if_neg (by omega), if_neg (by omega), if_neg (by omega), if_pos (by omega)]
theorem uApp_hi {f k : Int} {S : Int → Int} (h : 37 ≤ k ∧ k < 41) : uApp f S k = fun j => if j = uX k then 8 else if 4 ≤ j ∧ j < 9 ∧ S j = 9 + uX k then S f else S j := by
  unfold uApp
  rw [if_neg (by omega), if_neg (by omega), if_neg (by omega), if_neg (by omega), if_neg (by omega), if_pos (by omega)]
/-- applied -/
theorem u81 (hp : 0 ≤ p ∧ p ≤ 3) (hk : -1 ≤ k ∧ k < 61) (hd : 1 ≤ d) (hQ : ∀ l', (∀ j, 0 ≤ j → j < 16 → uSl l' j = uApp p (uSl l) k j) → Q (some (.long l')) (xS a b)) : pmCs ro d 81 [.ref 3, .long l, xV p, xV (uD k)] (xS a b) Q := by
  obtain ⟨d0, d1, d2, d3, d4⟩ := uD_p hk
  have e1 : xL2 (xShr l (4 * p)) % 16 = uSl l p := rfl
  have hs := uSl_b (l := l) (j := p) (by omega) (by omega)
  have hKe := @uK_e k
  have hXe := @uX_e k
  by_cases hk0 : k = -1
  · have hz := d4 hk0
    refine pmCs_deep (d := 1) (xg81 (w81 hp ⟨d0, by omega⟩ (fun _ _ _ => hQ l fun j j0 j1 => ?_) ?_ ?_ ?_ ?_ ?_ ?_)) hd
    · rw [uApp_no (by omega)]
    all_goals (intros; exfalso; omega)
  obtain ⟨d5, d6⟩ := d3 (by omega)
  have hb := uX_b (k := k) ⟨by omega, hk.2⟩
  refine pmCs_deep (d := 1) (xg81 (w81 hp ⟨d0, by omega⟩ ?_ ?_ ?_ ?_ ?_ ?_ ?_)) hd
  · intro q1 q2 q3
    exfalso
    omega
  · intro q1 q2 q3 q4 q5 q6
    refine hQ _ fun j j0 j1 => ?_
    rw [uWith (i := 4 + uX k) (by omega) (by omega) (by omega) (by omega) j0 j1 (by rw [d5]; omega)]
    rw [uApp_gi (by omega)]
    unfold uP
    rw [show 9 + uD k % 8 - 1 = 9 + uY k by omega]
  · intro q1 q2 q3 q4 q5 q6
    refine hQ _ fun j j0 j1 => ?_
    rw [e1, uWith (i := 4 + uX k) (by omega) (by omega) hs.1 (by omega) j0 j1 (by rw [d5]; omega)]
    rw [uApp_dr (by omega)]
    rfl
  · intro q1 q2 q3 q4 q5
    refine hQ _ fun j j0 j1 => ?_
    rw [uWith (i := 4 + uX k) (by omega) (by omega) (by omega) (by omega) j0 j1 (by rw [d5]; omega)]
    rw [uApp_ta (by omega)]
    rfl
  · intro q1 q2 q3 q4
    refine hQ l fun j j0 j1 => ?_
    rw [uApp_no (by omega)]
  · intro q1 q2
    have h0 := u81l (ro := ro) (d := 0) (Q := Q) (l := l) (a := a) (b := b) (m := l) (p := p) (kx := uX k) (hr := uSl l p) (kk := uD k / 64) (dd := uD k) hp ⟨d0, by omega⟩ ⟨by omega, by omega⟩ ⟨by omega, by omega⟩ hs 5 0 ((l &&& (xShL (15 : Int64) (4 * (uD k / 8 % 8 - 1)) ^^^ (-1 : Int64))) ||| xShL (8 : Int64) (4 * (uD k / 8 % 8 - 1))) (by decide) (by decide) (fun m' hm' => hQ m' fun j j0 j1 => ?_)
    · rw [← d5] at h0
      exact h0
    · rw [hm' j j0 j1, uApp_hi (by omega)]
      have hw := uWith (l := l) (i := uX k) (c := 8) (j := j) (k := 4 * (uD k / 8 % 8 - 1)) (by omega) (by omega) (by decide) (by decide) j0 j1 (by rw [d5])
      have hw : uSl ((l &&& (xShL (15 : Int64) (4 * (uD k / 8 % 8 - 1)) ^^^ (-1 : Int64))) ||| xShL (8 : Int64) (4 * (uD k / 8 % 8 - 1))) j = _ := hw
      rw [hw]
      show _ = if j = uX k then 8 else if 4 ≤ j ∧ j < 9 ∧ uSl l j = 9 + uX k then uSl l p else uSl l j
      by_cases c : j = uX k
      · rw [if_neg (by omega), if_pos c, if_pos c]
      · rw [if_neg c, if_neg c]
        by_cases c2 : 4 ≤ j ∧ j < 9 ∧ uSl l j = 9 + uX k
        · rw [if_pos ⟨by omega, c2.2⟩, if_pos c2]
        · rw [if_neg (fun e => c2 ⟨by omega, e.2⟩), if_neg c2]
  · intro q1
    refine hQ _ fun j j0 j1 => ?_
    rw [uWith (i := p) (by omega) (by omega) (by omega) (by omega) j0 j1 rfl]
    rw [uApp_go (by omega)]
    unfold uP
    rw [show uD k / 8 % 8 - 1 + 1 = k + 1 by omega]
/-- only the planner's notes changed -/
def uSc (a a' : xA) : Prop := ∀ q j, q ≠ 37 → q ≠ 38 → q ≠ 39 → q ≠ 40 → q ≠ 41 → q ≠ 42 → a' q j = a q j
theorem uSc_r : uSc a a := fun _ _ _ _ _ _ _ _ => rfl
theorem uSc_t {a' a'' : xA} (h : uSc a a') (h' : uSc a' a'') : uSc a a'' := fun q j e1 e2 e3 e4 e5 e6 => (h' q j e1 e2 e3 e4 e5 e6).trans (h q j e1 e2 e3 e4 e5 e6)
theorem uSc_u {a' : xA} {q : Nat} {j v : Int} (h : uSc a a') (hq : q = 37 ∨ q = 38 ∨ q = 39 ∨ q = 40 ∨ q = 41 ∨ q = 42) : uSc a (xU a' q j v) := fun r i e1 e2 e3 e4 e5 e6 => by
  rw [xUn (by omega)]
  exact h r i e1 e2 e3 e4 e5 e6
theorem uSc_c {a' : xA} {c : Int → Int} {cp : Nat} (h : uSc a a') (hc : uCo a c cp) : uCo a' c cp := by
  rcases hc with h' | ⟨h1, h2⟩
  · exact Or.inl h'
  · exact Or.inr ⟨h1, fun k k0 k1 => by rw [h 5 k (by decide) (by decide) (by decide) (by decide) (by decide) (by decide)]; exact h2 k k0 k1⟩
theorem uWc {w c : Int} (h1 : 0 ≤ w ∧ w ≤ 99) (h2 : 1 ≤ c ∧ c ≤ 73) : 0 ≤ w * c ∧ w * c ≤ 7227 := ⟨Int.mul_nonneg h1.1 (by omega), Int.le_trans (Int.mul_le_mul h1.2 h2.2 (by omega) (by decide)) (by decide)⟩
/-- ways and the price of a way -/
def uV (a : xA) (c : Int → Int) : Int → Int → Int := fun x y => a 6 (7 * x + y) * c 1
/-- measure -/
theorem u73 {c : Int → Int} {cp : Nat} {f : Int} (hA : xAr a) (hf : a 34 10 = f) (hf0 : 1 ≤ f ∧ f ≤ 3) (hS : 1 ≤ uSl l f ∧ uSl l f ≤ 7) (hW : ∀ k, 0 ≤ k → 0 ≤ a 6 k ∧ a 6 k ≤ 99) (hwp : ∀ i, 0 ≤ i → i < 5 → (uBi (a 3 4) i = 0 ↔ wp i = 0)) (hco : uCo a c cp) (hcb : ∀ k, 1 ≤ k → k < 6 → 1 ≤ c k ∧ c k ≤ 73) (hd : 1 ≤ d)
    (hQ : ∀ a', uSc a a' → xAr a' → (∀ x, 0 ≤ x → x < 5 → a' 41 x = uHd (uV a c) c f (uSl l) x ∧ a' 42 x = uSr (uV a c) f (uSl l) x) → (∀ q, 0 ≤ q → q < 4 → a' 40 q = uHt (uV a c) c wp f (uSl l) q) → Q none (xS a' b)) : pmCs (pmRo Ln xs) d 73 [.ref 34, .long l, .ref cp] (xS a b) Q := by
  have e1 : xL2 (xShr l (4 * f)) % 16 = uSl l f := rfl
  have es : ∀ x, xL2 (xShr l (16 + (4 * x))) % 16 = uSl l (4 + x) := fun x => uSl_at (by omega)
  have hh : (if 0 < (if uSl l f < 7 then uSl l f else 7) - 1 then (if uSl l f < 7 then uSl l f else 7) - 1 else 0) = uSl l f - 1 := by
    split <;> split <;> omega
  have hc1 := hcb 1 (by decide) (by decide)
  have hc2 := hcb 2 (by decide) (by decide)
  have hc5 := hcb 5 (by decide) (by decide)
  have fr : ∀ a1 : xA, uSc a a1 → a1 34 10 = f ∧ (∀ k, a1 6 k = a 6 k) ∧ (∀ k, 0 ≤ k → 0 ≤ a1 6 k ∧ a1 6 k ≤ 99) ∧ a1 3 4 = a 3 4 := fun a1 h => by
    have h6 : ∀ k, a1 6 k = a 6 k := fun k => h 6 k (by decide) (by decide) (by decide) (by decide) (by decide) (by decide)
    exact ⟨(h 34 10 (by decide) (by decide) (by decide) (by decide) (by decide) (by decide)).trans hf, h6, fun k k0 => by rw [h6]; exact hW k k0, h 3 4 (by decide) (by decide) (by decide) (by decide) (by decide) (by decide)⟩
  have hMb : ∀ q, 0 ≤ q → q < 4 → 0 ≤ uMt (uV a c) f (uSl l) q ∧ uMt (uV a c) f (uSl l) q ≤ 100000 ∧ ((1 ≤ uSl l q ∧ uSl l q ≤ 7) → uMt (uV a c) f (uSl l) q ≤ 7227) := by
    intro q q0 q1
    unfold uMt uV
    split
    · have := uWc (hW (7 * (uSl l f - 1) + (uSl l q - 1)) (by omega)) hc1
      omega
    · omega
  -- the third loop
  have l3 : ∀ (m : Nat) (q : Int) (a1 : xA) (v1 : Option Value), 4 - q ≤ (m : Int) → 0 ≤ q ∧ q ≤ 4 → uSc a a1 → xAr a1 → (∀ j, 0 ≤ j → j < 4 → a1 39 j = uMt (uV a c) f (uSl l) j) → (∀ x, 0 ≤ x → x < 5 → a1 41 x = uHd (uV a c) c f (uSl l) x ∧ a1 42 x = uSr (uV a c) f (uSl l) x) → (0 ≤ uAm (uHd (uV a c) c f (uSl l)) wp ∧ uAm (uHd (uV a c) c f (uSl l)) wp ≤ 100000) → (∀ j, 0 ≤ j → j < q → a1 40 j = uHt (uV a c) c wp f (uSl l) j) →
      pmWp (pmRo Ln xs) 0 3 73 0 345 [some (.ref 34), some (.long l), none, some (.ref cp), some (xV (uSl l f - 1)), some (xV (uAm (uHd (uV a c) c f (uSl l)) wp)), some (xV q), v1] [] (xS a1 b) Q := by
    intro m
    induction m with
    | zero =>
      intro q a1 v1 hm hq h1 h2 h3 h4 h5 h6
      obtain ⟨g1, g2, g3, g4⟩ := fr a1 h1
      refine w73i h2 g1 hf0 (by omega) g3 (uSc_c h1 hco) hcb h5 hq (fun k k0 k1 => by rw [h3 k k0 k1]; have := hMb k k0 k1; omega) (fun _ => hQ a1 h1 h2 h4 fun j j0 j1 => h6 j j0 (by omega)) (fun e => by omega) (fun e => by omega)
    | succ m ih =>
      intro q a1 v1 hm hq h1 h2 h3 h4 h5 h6
      obtain ⟨g1, g2, g3, g4⟩ := fr a1 h1
      refine w73i h2 g1 hf0 (by omega) g3 (uSc_c h1 hco) hcb h5 hq (fun k k0 k1 => by rw [h3 k k0 k1]; have := hMb k k0 k1; omega) (fun _ => hQ a1 h1 h2 h4 fun j j0 j1 => h6 j j0 (by omega)) (fun e1 e2 => ?_) (fun e1 e2 => ?_)
      · have hb := hMb q hq.1 (by omega)
        rw [h3 q hq.1 (by omega)]
        refine ih (q + 1) _ v1 (by omega) (by omega) (uSc_u h1 (by omega)) (xAr_u h2 ⟨by split <;> omega, by split <;> omega⟩) (fun j j0 j1 => by rw [xUn (by decide)]; exact h3 j j0 j1) (fun x x0 x1 => by rw [xUn (by decide), xUn (by decide)]; exact h4 x x0 x1) h5 (fun j j0 j1 => ?_)
        by_cases g : j = q
        · subst g
          rw [xUa]
          unfold uHt uMax
          rw [if_neg e2]
        · rw [xUk g]
          exact h6 j j0 (by omega)
      · refine ih (q + 1) _ v1 (by omega) (by omega) (uSc_u h1 (by omega)) (xAr_u h2 ⟨by decide, by decide⟩) (fun j j0 j1 => by rw [xUn (by decide)]; exact h3 j j0 j1) (fun x x0 x1 => by rw [xUn (by decide), xUn (by decide)]; exact h4 x x0 x1) h5 (fun j j0 j1 => ?_)
        by_cases g : j = q
        · subst g
          rw [xUa]
          unfold uHt
          rw [if_pos (Classical.not_not.mp e2)]
        · rw [xUk g]
          exact h6 j j0 (by omega)
  -- what a thing's two notes are put to
  have hHb : ∀ x, 0 ≤ x → x < 5 → 0 ≤ uHd (uV a c) c f (uSl l) x ∧ uHd (uV a c) c f (uSl l) x ≤ 100000 := by
    intro x x0 x1
    have hp := uSl_b (l := l) (j := 4 + x) (by omega) (by omega)
    unfold uHd
    split
    · omega
    split
    · rename_i g1 g2
      have hq := hMb (uSl l (4 + x) - 9) (by omega) (by omega)
      have : uMt (uV a c) f (uSl l) (uSl l (4 + x) - 9) ≤ 7227 := by
        by_cases e : 1 ≤ uSl l (uSl l (4 + x) - 9) ∧ uSl l (uSl l (4 + x) - 9) ≤ 7
        · exact hq.2.2 e
        · unfold uMt at g2
          rw [if_neg e] at g2
          omega
      omega
    split
    · have := uWc (hW (7 * (uSl l f - 1) + (uSl l (4 + x) - 1)) (by omega)) hc1
      unfold uV
      omega
    · omega
  -- the least of weapons, step by step
  let H := uHd (uV a c) c f (uSl l)
  let T : Nat → Int := fun m => match m with
    | 0 => 100000
    | 1 => uA1 H wp 100000 0
    | 2 => uA1 H wp (uA1 H wp 100000 0) 1
    | 3 => uA1 H wp (uA1 H wp (uA1 H wp 100000 0) 1) 2
    | 4 => uA1 H wp (uA1 H wp (uA1 H wp (uA1 H wp 100000 0) 1) 2) 3
    | _ => uAm H wp
  have hTs : ∀ x : Nat, x < 5 → T (x + 1) = uA1 H wp (T x) x := by
    intro x hx
    match x, hx with
    | 0, _ => rfl
    | 1, _ => rfl
    | 2, _ => rfl
    | 3, _ => rfl
    | 4, _ => rfl
  have hTb : ∀ x : Nat, x ≤ 5 → 0 ≤ T x ∧ T x ≤ 100000 := by
    intro x
    induction x with
    | zero => exact fun _ => ⟨show (0 : Int) ≤ 100000 by decide, Int.le_refl _⟩
    | succ x ih =>
      intro hx
      have h0 := ih (by omega)
      have h1 := hHb x (by omega) (by omega)
      rw [hTs x (by omega)]
      unfold uA1 uMin
      split
      · exact h0
      · show 0 ≤ (if uHd (uV a c) c f (uSl l) x < T x then uHd (uV a c) c f (uSl l) x else T x) ∧ _ ≤ _
        split <;> omega
  -- the second loop
  have l2 : ∀ (m : Nat) (x : Nat) (a1 : xA) (v1 : Option Value), 5 - x ≤ m → x ≤ 5 → uSc a a1 → xAr a1 → (∀ j, 0 ≤ j → j < 4 → a1 39 j = uMt (uV a c) f (uSl l) j) → (∀ j : Int, 0 ≤ j → j < x → a1 41 j = uHd (uV a c) c f (uSl l) j ∧ a1 42 j = uSr (uV a c) f (uSl l) j) →
      pmWp (pmRo Ln xs) 0 3 73 0 105 [some (.ref 34), some (.long l), none, some (.ref cp), some (xV (uSl l f - 1)), some (xV (T x)), some (xV (x : Int)), v1] [] (xS a1 b) Q := by
    intro m
    induction m with
    | zero =>
      intro x a1 v1 hm hx h1 h2 h3 h4
      have e : x = 5 := by omega
      subst e
      obtain ⟨g1, g2, g3, g4⟩ := fr a1 h1
      refine w73h h2 g1 hf0 (by omega) g3 (uSc_c h1 hco) hcb (hTb 5 (by decide)) ⟨by decide, by decide⟩ (fun k k0 k1 => by rw [h3 k k0 k1]; have := hMb k k0 k1; omega) (fun _ => l3 4 0 a1 v1 (by decide) (by decide) h1 h2 h3 (fun j j0 j1 => h4 j j0 (by omega)) (hTb 5 (by decide)) (fun j j0 j1 => by omega)) ?_ ?_ ?_ ?_ ?_ ?_ ?_ ?_ ?_ ?_ ?_
      all_goals (intro e; exfalso; omega)
    | succ m ih =>
      intro x a1 v1 hm hx h1 h2 h3 h4
      obtain ⟨g1, g2, g3, g4⟩ := fr a1 h1
      -- behind the two notes
      have nx : ∀ (a2 : xA) (v2 : Option Value), x < 5 → uSc a a2 → xAr a2 → (∀ j, a2 39 j = a1 39 j) → (∀ j : Int, ¬ j = x → a2 41 j = a1 41 j ∧ a2 42 j = a1 42 j) → a2 41 x = uHd (uV a c) c f (uSl l) x → a2 42 x = uSr (uV a c) f (uSl l) x →
          pmWp (pmRo Ln xs) 0 3 73 0 307 [some (.ref 34), some (.long l), none, some (.ref cp), some (xV (uSl l f - 1)), some (xV (T x)), some (xV (x : Int)), v2] [] (xS a2 b) Q := by
        intro a2 v2 hx5 k1 k2 k3 k4 k5 k6
        obtain ⟨q1, q2, q3, q4⟩ := fr a2 k1
        have h5 : ∀ j : Int, 0 ≤ j → j < ((x + 1 : Nat) : Int) → a2 41 j = uHd (uV a c) c f (uSl l) j ∧ a2 42 j = uSr (uV a c) f (uSl l) j := by
          intro j j0 j1
          by_cases c : j = x
          · rw [c]
            exact ⟨k5, k6⟩
          · rw [(k4 j c).1, (k4 j c).2]
            exact h4 j j0 (by omega)
        have eB : a2 3 4 / ((2 ^ ((x : Int)).toNat : Nat) : Int) % 2 = uBi (a 3 4) x := by
          rw [q4]
          rfl
        have hw := hwp x (by omega) (by omega)
        have hT1 := hTs x hx5
        refine w73j k2 q1 hf0 (by omega) q3 (uSc_c k1 hco) hcb (hTb x (by omega)) ⟨by omega, by omega⟩ (fun e => ?_) (fun e => ?_)
        · rw [eB, hw] at e
          have eT : T (x + 1) = T x := by
            rw [hT1]
            unfold uA1
            rw [if_pos e]
          have := ih (x + 1) a2 v2 (by omega) (by omega) k1 k2 (fun j j0 j1 => by rw [k3]; exact h3 j j0 j1) h5
          rw [eT] at this
          exact this
        · rw [eB, hw] at e
          have eT : T (x + 1) = if a2 41 x < T x then a2 41 x else T x := by
            rw [hT1, k5]
            unfold uA1 uMin
            rw [if_neg e]
          have := ih (x + 1) a2 v2 (by omega) (by omega) k1 k2 (fun j j0 j1 => by rw [k3]; exact h3 j j0 j1) h5
          rw [eT] at this
          exact this
      have hpx := uSl_b (l := l) (j := 4 + (x : Int)) (by omega) (by omega)
      have hx4 : x < 5 ∨ x = 5 := by omega
      have i1 : ∀ q j w, (q = 41 ∨ q = 42) → xR w → uSc a (xU a1 q j w) ∧ xAr (xU a1 q j w) := fun q j w hq hw => ⟨uSc_u h1 (by omega), xAr_u h2 hw⟩
      have hbe := hHb x (by omega)
      refine w73h h2 g1 hf0 (by omega) g3 (uSc_c h1 hco) hcb (hTb x (by omega)) ⟨by omega, by omega⟩ (fun k k0 k1 => by rw [h3 k k0 k1]; have := hMb k k0 k1; omega) (fun e => ?_) ?_ ?_ ?_ ?_ ?_ ?_ ?_ ?_ ?_ ?_ ?_
      · have e : x = 5 := by omega
        subst e
        exact l3 4 0 a1 v1 (by decide) (by decide) h1 h2 h3 (fun j j0 j1 => h4 j j0 (by omega)) (hTb 5 (by decide)) (fun j j0 j1 => by omega)
      · intro e1 e2 e3 e4
        rw [es] at e2 e3 e4
        refine nx _ _ (by omega) (uSc_u (uSc_u h1 (by omega)) (by omega)) (xAr_u (xAr_u h2 ⟨by omega, by omega⟩) ⟨by decide, by decide⟩) (fun j => by rw [xUn (by decide), xUn (by decide)]) (fun j hj => ⟨by rw [xUk hj, xUn (by decide)], by rw [xUn (by decide), xUk hj]⟩) ?_ ?_
        · rw [xUa]
          unfold uHd
          rw [if_neg e2, if_neg (by omega), if_neg (by omega)]
        · rw [xUn (by decide), xUa]
          unfold uSr
          rw [if_neg e2, if_neg (by omega), if_neg (by omega)]
      · intro e1 e2 e3 e4 e5
        rw [es] at e2 e3 e4 e5
        refine nx _ _ (by omega) (uSc_u (uSc_u h1 (by omega)) (by omega)) (xAr_u (xAr_u h2 ⟨by omega, by omega⟩) ⟨by decide, by decide⟩) (fun j => by rw [xUn (by decide), xUn (by decide)]) (fun j hj => ⟨by rw [xUk hj, xUn (by decide)], by rw [xUn (by decide), xUk hj]⟩) ?_ ?_
        · rw [xUa]
          unfold uHd
          rw [if_neg e2, if_neg (by omega), if_neg (by omega)]
        · rw [xUn (by decide), xUa]
          unfold uSr
          rw [if_neg e2, if_neg (by omega), if_neg (by omega)]
      · intro e1 e2 e3 e4 e5
        rw [es] at e2 e3 e4 e5
        have hv : a1 6 (7 * (uSl l f - 1) + uSl l (4 + (x : Int)) - 1) * c 1 + c 2 = uV a c (uSl l f - 1) (uSl l (4 + (x : Int)) - 1) + c 2 := by
          rw [g2, show 7 * (uSl l f - 1) + uSl l (4 + (x : Int)) - 1 = 7 * (uSl l f - 1) + (uSl l (4 + (x : Int)) - 1) by omega]
          rfl
        have hu : uHd (uV a c) c f (uSl l) x = uV a c (uSl l f - 1) (uSl l (4 + (x : Int)) - 1) + c 2 := by
          unfold uHd
          rw [if_neg e2, if_neg (by omega), if_pos (by omega)]
        have hb := hHb x (by omega) (by omega)
        rw [es, hv]
        refine nx _ _ (by omega) (uSc_u (uSc_u (uSc_u (uSc_u h1 (by omega)) (by omega)) (by omega)) (by omega)) (xAr_u (xAr_u (xAr_u (xAr_u h2 ⟨by omega, by omega⟩) ⟨by decide, by decide⟩) ⟨by omega, by omega⟩) ⟨by omega, by omega⟩) (fun j => by rw [xUn (by decide), xUn (by decide), xUn (by decide), xUn (by decide)]) (fun j hj => ⟨by rw [xUk hj, xUn (by decide), xUk hj, xUn (by decide)], by rw [xUn (by decide), xUk hj, xUn (by decide), xUk hj]⟩) ?_ ?_
        · rw [xUa, hu]
        · rw [xUn (by decide), xUa]
          unfold uSr
          rw [if_neg e2, if_neg (by omega), if_pos (by omega)]
      · intro e1 e2 e3 e4 e5
        rw [es] at e2 e3 e4 e5
        exfalso
        omega
      · intro e1 e2 e3 e4 e5 e6
        rw [es] at e2 e3 e4 e5 e6
        refine nx _ _ (by omega) (uSc_u (uSc_u h1 (by omega)) (by omega)) (xAr_u (xAr_u h2 ⟨by omega, by omega⟩) ⟨by decide, by decide⟩) (fun j => by rw [xUn (by decide), xUn (by decide)]) (fun j hj => ⟨by rw [xUk hj, xUn (by decide)], by rw [xUn (by decide), xUk hj]⟩) ?_ ?_
        · rw [xUa]
          unfold uHd
          rw [if_neg e2, if_neg (by omega), if_neg (by omega)]
        · rw [xUn (by decide), xUa]
          unfold uSr
          rw [if_neg e2, if_neg (by omega), if_neg (by omega)]
      · intro e1 e2 e3 e4 e5 e6
        rw [es] at e2 e3 e4 e5 e6
        exfalso
        omega
      · intro e1 e2 e3 e4 e5 e6
        rw [es] at e2 e3 e4 e5 e6
        exfalso
        omega
      · intro e1 e2 e3 e4 e5 e6 e7
        rw [es] at e2 e3 e4 e5 e6 e7
        have hM := h3 (uSl l (4 + (x : Int)) - 9) (by omega) (by omega)
        refine nx _ _ (by omega) (uSc_u (uSc_u h1 (by omega)) (by omega)) (xAr_u (xAr_u h2 ⟨by omega, by omega⟩) ⟨by decide, by decide⟩) (fun j => by rw [xUn (by decide), xUn (by decide)]) (fun j hj => ⟨by rw [xUk hj, xUn (by decide)], by rw [xUn (by decide), xUk hj]⟩) ?_ ?_
        · rw [xUa]
          unfold uHd
          rw [if_neg e2, if_neg (by omega), if_neg (by omega)]
        · rw [xUn (by decide), xUa]
          unfold uSr
          rw [if_neg e2, if_neg (by omega), if_neg (by omega)]
      · intro e1 e2 e3 e4 e5 e6 e7
        rw [es] at e2 e3 e4 e5 e6 e7
        exfalso
        omega
      · intro e1 e2 e3 e4 e5
        rw [es] at e2 e3 e4 e5
        have hM := h3 (uSl l (4 + (x : Int)) - 9) (by omega) (by omega)
        have em : xL2 (xShr l (4 * (uSl l (4 + (x : Int)) - 9))) % 16 = uSl l (uSl l (4 + (x : Int)) - 9) := rfl
        have hk : 1 ≤ uSl l (uSl l (4 + (x : Int)) - 9) ∧ uSl l (uSl l (4 + (x : Int)) - 9) ≤ 7 := by
          rw [hM] at e5
          unfold uMt at e5
          by_cases g : 1 ≤ uSl l (uSl l (4 + (x : Int)) - 9) ∧ uSl l (uSl l (4 + (x : Int)) - 9) ≤ 7
          · exact g
          · rw [if_neg g] at e5
            omega
        have hu : uHd (uV a c) c f (uSl l) x = uMt (uV a c) f (uSl l) (uSl l (4 + (x : Int)) - 9) + c 5 + c 2 := by
          unfold uHd
          rw [if_neg e2, if_pos ⟨by omega, by omega, by omega⟩]
        have hb := hHb x (by omega) (by omega)
        rw [es, em, hM, show (if 0 < uSl l (uSl l (4 + (x : Int)) - 9) - 1 then uSl l (uSl l (4 + (x : Int)) - 9) - 1 else 0) = uSl l (uSl l (4 + (x : Int)) - 9) - 1 by split <;> omega]
        refine nx _ _ (by omega) (uSc_u (uSc_u (uSc_u (uSc_u h1 (by omega)) (by omega)) (by omega)) (by omega)) (xAr_u (xAr_u (xAr_u (xAr_u h2 ⟨by omega, by omega⟩) ⟨by decide, by decide⟩) ⟨by omega, by omega⟩) ⟨by omega, by omega⟩) (fun j => by rw [xUn (by decide), xUn (by decide), xUn (by decide), xUn (by decide)]) (fun j hj => ⟨by rw [xUk hj, xUn (by decide), xUk hj, xUn (by decide)], by rw [xUn (by decide), xUk hj, xUn (by decide), xUk hj]⟩) ?_ ?_
        · rw [xUa, hu]
        · rw [xUn (by decide), xUa]
          unfold uSr
          rw [if_neg e2, if_pos ⟨by omega, by omega, by omega⟩]
      · intro e1 e2
        rw [es] at e2
        have e2 := Classical.not_not.mp e2
        refine nx _ _ (by omega) (uSc_u (uSc_u (uSc_u h1 (by omega)) (by omega)) (by omega)) (xAr_u (xAr_u (xAr_u h2 ⟨by omega, by omega⟩) ⟨by decide, by decide⟩) ⟨by decide, by decide⟩) (fun j => by rw [xUn (by decide), xUn (by decide), xUn (by decide)]) (fun j hj => ⟨by rw [xUk hj, xUk hj, xUn (by decide)], by rw [xUn (by decide), xUn (by decide), xUk hj]⟩) ?_ ?_
        · rw [xUa]
          unfold uHd
          rw [if_pos e2]
        · rw [xUn (by decide), xUn (by decide), xUa]
          unfold uSr
          rw [if_pos e2]
  refine pmCs_deep (d := 1) (xg73 (w73 hA hf hf0 hW hco hcb ?_)) hd
  rw [e1, hh]
  -- the first loop
  have l1 : ∀ (m : Nat) (q : Int) (a1 : xA) (v0 v1 : Option Value), 4 - q ≤ (m : Int) → 0 ≤ q ∧ q ≤ 4 → uSc a a1 → xAr a1 → (∀ j, 0 ≤ j → j < q → a1 39 j = uMt (uV a c) f (uSl l) j) →
      pmWp (pmRo Ln xs) 0 3 73 0 28 [some (.ref 34), some (.long l), none, some (.ref cp), some (xV (uSl l f - 1)), some (xV q), v0, v1] [] (xS a1 b) Q := by
    intro m
    induction m with
    | zero =>
      intro q a1 v0 v1 hm hq h1 h2 h3
      obtain ⟨g1, g2, g3, g4⟩ := fr a1 h1
      exact w73n h2 g1 hf0 (by omega) g3 (uSc_c h1 hco) hcb hq (fun _ => l2 5 0 a1 v1 (by decide) (by decide) h1 h2 (fun j j0 j1 => h3 j j0 (by omega)) (fun j j0 j1 => by omega)) (fun e => by omega) (fun e => by omega) (fun e => by omega)
    | succ m ih =>
      intro q a1 v0 v1 hm hq h1 h2 h3
      obtain ⟨g1, g2, g3, g4⟩ := fr a1 h1
      have eq : xL2 (xShr l (4 * q)) % 16 = uSl l q := rfl
      have nx : ∀ v, q < 4 → v = uMt (uV a c) f (uSl l) q → ∀ v2, pmWp (pmRo Ln xs) 0 3 73 0 28 [some (.ref 34), some (.long l), none, some (.ref cp), some (xV (uSl l f - 1)), some (xV (q + 1)), v2, v1] [] (xS (xU a1 39 q v) b) Q := by
        intro v q4 hv v2
        have hb := hMb q hq.1 q4
        refine ih (q + 1) _ v2 v1 (by omega) (by omega) (uSc_u h1 (by omega)) (xAr_u h2 ⟨by omega, by omega⟩) (fun j j0 j1 => ?_)
        by_cases g : j = q
        · subst g
          rw [xUa, hv]
        · rw [xUk g]
          exact h3 j j0 (by omega)
      refine w73n h2 g1 hf0 (by omega) g3 (uSc_c h1 hco) hcb hq (fun _ => l2 5 0 a1 v1 (by decide) (by decide) h1 h2 (fun j j0 j1 => h3 j j0 (by omega)) (fun j j0 j1 => by omega)) (fun e1 e2 => ?_) (fun e1 e2 e3 => ?_) (fun e1 e2 e3 => ?_)
      · rw [eq] at e2
        refine nx 100000 (by omega) ?_ _
        unfold uMt
        rw [if_neg (by omega)]
      · rw [eq] at e3
        refine nx 100000 (by omega) ?_ _
        unfold uMt
        rw [if_neg (by omega)]
      · rw [eq] at e2 e3
        rw [eq]
        refine nx _ (by omega) ?_ _
        unfold uMt
        rw [if_pos (by omega), g2]
        rfl
  exact l1 4 0 a none none (by decide) (by decide) uSc_r hA (fun j j0 j1 => by omega)
end
end
