/-! exact: the reference, what is heard (as a frame) -/
section
set_option maxRecDepth 100000
theorem xi212 : pmInf[212]? = some pmI_212 := rfl
theorem xi213 : pmInf[213]? = some pmI_213 := rfl
theorem xi214 : pmInf[214]? = some pmI_214 := rfl
theorem xc212_0 : pmCode 212 0 = some (.aload_n 0) ∧ 0 + 1 = 1 := ⟨rfl, rfl⟩
theorem xc212_1 : pmCode 212 1 = some (.getfield 7) ∧ 1 + 3 = 4 := ⟨rfl, rfl⟩
theorem xc212_4 : pmCode 212 4 = some (.bipush 114) ∧ 4 + 2 = 6 := ⟨rfl, rfl⟩
theorem xc212_6 : pmCode 212 6 = some .iaload ∧ 6 + 1 = 7 := ⟨rfl, rfl⟩
theorem xc212_7 : pmCode 212 7 = some (.iconst 1) ∧ 7 + 1 = 8 := ⟨rfl, rfl⟩
theorem xc212_8 : pmCode 212 8 = some .iadd ∧ 8 + 1 = 9 := ⟨rfl, rfl⟩
theorem xc212_9 : pmCode 212 9 = some (.istore 4) ∧ 9 + 2 = 11 := ⟨rfl, rfl⟩
theorem xc212_11 : pmCode 212 11 = some (.iconst 0) ∧ 11 + 1 = 12 := ⟨rfl, rfl⟩
theorem xc212_12 : pmCode 212 12 = some (.istore 5) ∧ 12 + 2 = 14 := ⟨rfl, rfl⟩
theorem xc212_14 : pmCode 212 14 = some (.iload 5) ∧ 14 + 2 = 16 := ⟨rfl, rfl⟩
theorem xc212_16 : pmCode 212 16 = some (.iconst 4) ∧ 16 + 1 = 17 := ⟨rfl, rfl⟩
theorem xc212_17 : pmCode 212 17 = some (.aload_n 0) ∧ 17 + 1 = 18 := ⟨rfl, rfl⟩
theorem xc212_18 : pmCode 212 18 = some (.getfield 247) ∧ 18 + 3 = 21 := ⟨rfl, rfl⟩
theorem xc212_21 : pmCode 212 21 = some .imul ∧ 21 + 1 = 22 := ⟨rfl, rfl⟩
theorem xc212_22 : pmCode 212 22 = some (.if_icmp .ge 344) ∧ ((22 : Nat) : Int) + 344 = ((366 : Nat) : Int) ∧ 22 + 3 = 25 := ⟨rfl, rfl, rfl⟩
theorem xc212_25 : pmCode 212 25 = some (.bipush 41) ∧ 25 + 2 = 27 := ⟨rfl, rfl⟩
theorem xc212_27 : pmCode 212 27 = some (.iconst 3) ∧ 27 + 1 = 28 := ⟨rfl, rfl⟩
theorem xc212_28 : pmCode 212 28 = some (.iload 5) ∧ 28 + 2 = 30 := ⟨rfl, rfl⟩
theorem xc212_30 : pmCode 212 30 = some .imul ∧ 30 + 1 = 31 := ⟨rfl, rfl⟩
theorem xc212_31 : pmCode 212 31 = some .iadd ∧ 31 + 1 = 32 := ⟨rfl, rfl⟩
theorem xc212_32 : pmCode 212 32 = some (.istore 6) ∧ 32 + 2 = 34 := ⟨rfl, rfl⟩
theorem xc212_34 : pmCode 212 34 = some (.iload 5) ∧ 34 + 2 = 36 := ⟨rfl, rfl⟩
theorem xc212_36 : pmCode 212 36 = some (.iconst 4) ∧ 36 + 1 = 37 := ⟨rfl, rfl⟩
theorem xc212_37 : pmCode 212 37 = some .irem ∧ 37 + 1 = 38 := ⟨rfl, rfl⟩
theorem xc212_38 : pmCode 212 38 = some (.aload_n 0) ∧ 38 + 1 = 39 := ⟨rfl, rfl⟩
theorem xc212_39 : pmCode 212 39 = some (.getfield 48) ∧ 39 + 3 = 42 := ⟨rfl, rfl⟩
theorem xc212_42 : pmCode 212 42 = some (.iload 5) ∧ 42 + 2 = 44 := ⟨rfl, rfl⟩
theorem xc212_44 : pmCode 212 44 = some (.iconst 4) ∧ 44 + 1 = 45 := ⟨rfl, rfl⟩
theorem xc212_45 : pmCode 212 45 = some .idiv ∧ 45 + 1 = 46 := ⟨rfl, rfl⟩
theorem xc212_46 : pmCode 212 46 = some .iaload ∧ 46 + 1 = 47 := ⟨rfl, rfl⟩
theorem xc212_47 : pmCode 212 47 = some (.if_icmp .ge 313) ∧ ((47 : Nat) : Int) + 313 = ((360 : Nat) : Int) ∧ 47 + 3 = 50 := ⟨rfl, rfl, rfl⟩
theorem xc212_50 : pmCode 212 50 = some (.aload_n 0) ∧ 50 + 1 = 51 := ⟨rfl, rfl⟩
theorem xc212_51 : pmCode 212 51 = some (.getfield 7) ∧ 51 + 3 = 54 := ⟨rfl, rfl⟩
theorem xc212_54 : pmCode 212 54 = some (.iload 6) ∧ 54 + 2 = 56 := ⟨rfl, rfl⟩
theorem xc212_56 : pmCode 212 56 = some (.iconst 2) ∧ 56 + 1 = 57 := ⟨rfl, rfl⟩
theorem xc212_57 : pmCode 212 57 = some .iadd ∧ 57 + 1 = 58 := ⟨rfl, rfl⟩
theorem xc212_58 : pmCode 212 58 = some .iaload ∧ 58 + 1 = 59 := ⟨rfl, rfl⟩
theorem xc212_59 : pmCode 212 59 = some (.ifCond .eq 6) ∧ ((59 : Nat) : Int) + 6 = ((65 : Nat) : Int) ∧ 59 + 3 = 62 := ⟨rfl, rfl, rfl⟩
theorem xc212_62 : pmCode 212 62 = some (.goto 298) ∧ ((62 : Nat) : Int) + 298 = ((360 : Nat) : Int) := ⟨rfl, rfl⟩
theorem xc212_65 : pmCode 212 65 = some (.aload_n 0) ∧ 65 + 1 = 66 := ⟨rfl, rfl⟩
theorem xc212_66 : pmCode 212 66 = some (.iconst 2) ∧ 66 + 1 = 67 := ⟨rfl, rfl⟩
theorem xc212_67 : pmCode 212 67 = some (.iload 5) ∧ 67 + 2 = 69 := ⟨rfl, rfl⟩
theorem xc212_69 : pmCode 212 69 = some .imul ∧ 69 + 1 = 70 := ⟨rfl, rfl⟩
theorem xc212_70 : pmCode 212 70 = some (.iload_n 1) ∧ 70 + 1 = 71 := ⟨rfl, rfl⟩
theorem xc212_71 : pmCode 212 71 = some (.iload_n 2) ∧ 71 + 1 = 72 := ⟨rfl, rfl⟩
theorem xc212_72 : pmCode 212 72 = some (.iload_n 3) ∧ 72 + 1 = 73 := ⟨rfl, rfl⟩
theorem xc212_73 : pmCode 212 73 = some (.invokevirtual 360) ∧ 73 + 3 = 76 := ⟨rfl, rfl⟩
theorem xc212_76 : pmCode 212 76 = some (.istore 7) ∧ 76 + 2 = 78 := ⟨rfl, rfl⟩
theorem xc212_78 : pmCode 212 78 = some (.aload_n 0) ∧ 78 + 1 = 79 := ⟨rfl, rfl⟩
theorem xc212_79 : pmCode 212 79 = some (.getfield 51) ∧ 79 + 3 = 82 := ⟨rfl, rfl⟩
theorem xc212_82 : pmCode 212 82 = some (.iload 5) ∧ 82 + 2 = 84 := ⟨rfl, rfl⟩
theorem xc212_84 : pmCode 212 84 = some .iaload ∧ 84 + 1 = 85 := ⟨rfl, rfl⟩
theorem xc212_85 : pmCode 212 85 = some (.bipush 97) ∧ 85 + 2 = 87 := ⟨rfl, rfl⟩
theorem xc212_87 : pmCode 212 87 = some (.if_icmp .eq 15) ∧ ((87 : Nat) : Int) + 15 = ((102 : Nat) : Int) ∧ 87 + 3 = 90 := ⟨rfl, rfl, rfl⟩
theorem xc212_90 : pmCode 212 90 = some (.aload_n 0) ∧ 90 + 1 = 91 := ⟨rfl, rfl⟩
theorem xc212_91 : pmCode 212 91 = some (.getfield 51) ∧ 91 + 3 = 94 := ⟨rfl, rfl⟩
theorem xc212_94 : pmCode 212 94 = some (.iload 5) ∧ 94 + 2 = 96 := ⟨rfl, rfl⟩
theorem xc212_96 : pmCode 212 96 = some .iaload ∧ 96 + 1 = 97 := ⟨rfl, rfl⟩
theorem xc212_97 : pmCode 212 97 = some (.bipush 114) ∧ 97 + 2 = 99 := ⟨rfl, rfl⟩
theorem xc212_99 : pmCode 212 99 = some (.if_icmp .ne 7) ∧ ((99 : Nat) : Int) + 7 = ((106 : Nat) : Int) ∧ 99 + 3 = 102 := ⟨rfl, rfl, rfl⟩
theorem xc212_102 : pmCode 212 102 = some (.iconst 1) ∧ 102 + 1 = 103 := ⟨rfl, rfl⟩
theorem xc212_103 : pmCode 212 103 = some (.goto 4) ∧ ((103 : Nat) : Int) + 4 = ((107 : Nat) : Int) := ⟨rfl, rfl⟩
theorem xc212_106 : pmCode 212 106 = some (.iconst 0) ∧ 106 + 1 = 107 := ⟨rfl, rfl⟩
theorem xc212_107 : pmCode 212 107 = some (.istore 8) ∧ 107 + 2 = 109 := ⟨rfl, rfl⟩
theorem xc212_109 : pmCode 212 109 = some (.iload 8) ∧ 109 + 2 = 111 := ⟨rfl, rfl⟩
theorem xc212_111 : pmCode 212 111 = some (.ifCond .eq 23) ∧ ((111 : Nat) : Int) + 23 = ((134 : Nat) : Int) ∧ 111 + 3 = 114 := ⟨rfl, rfl, rfl⟩
theorem xc212_114 : pmCode 212 114 = some (.aload_n 0) ∧ 114 + 1 = 115 := ⟨rfl, rfl⟩
theorem xc212_115 : pmCode 212 115 = some (.iconst 2) ∧ 115 + 1 = 116 := ⟨rfl, rfl⟩
theorem xc212_116 : pmCode 212 116 = some (.iload 5) ∧ 116 + 2 = 118 := ⟨rfl, rfl⟩
theorem xc212_118 : pmCode 212 118 = some .imul ∧ 118 + 1 = 119 := ⟨rfl, rfl⟩
theorem xc212_119 : pmCode 212 119 = some (.iconst 1) ∧ 119 + 1 = 120 := ⟨rfl, rfl⟩
theorem xc212_120 : pmCode 212 120 = some .iadd ∧ 120 + 1 = 121 := ⟨rfl, rfl⟩
theorem xc212_121 : pmCode 212 121 = some (.iload_n 1) ∧ 121 + 1 = 122 := ⟨rfl, rfl⟩
theorem xc212_122 : pmCode 212 122 = some (.iload_n 2) ∧ 122 + 1 = 123 := ⟨rfl, rfl⟩
theorem xc212_123 : pmCode 212 123 = some (.iload_n 3) ∧ 123 + 1 = 124 := ⟨rfl, rfl⟩
theorem xc212_124 : pmCode 212 124 = some (.invokevirtual 360) ∧ 124 + 3 = 127 := ⟨rfl, rfl⟩
theorem xc212_127 : pmCode 212 127 = some (.ifCond .eq 7) ∧ ((127 : Nat) : Int) + 7 = ((134 : Nat) : Int) ∧ 127 + 3 = 130 := ⟨rfl, rfl, rfl⟩
theorem xc212_130 : pmCode 212 130 = some (.iconst 1) ∧ 130 + 1 = 131 := ⟨rfl, rfl⟩
theorem xc212_131 : pmCode 212 131 = some (.goto 4) ∧ ((131 : Nat) : Int) + 4 = ((135 : Nat) : Int) := ⟨rfl, rfl⟩
theorem xc212_134 : pmCode 212 134 = some (.iconst 0) ∧ 134 + 1 = 135 := ⟨rfl, rfl⟩
theorem xc212_135 : pmCode 212 135 = some (.istore 9) ∧ 135 + 2 = 137 := ⟨rfl, rfl⟩
theorem xc212_137 : pmCode 212 137 = some (.aload_n 0) ∧ 137 + 1 = 138 := ⟨rfl, rfl⟩
theorem xc212_138 : pmCode 212 138 = some (.getfield 51) ∧ 138 + 3 = 141 := ⟨rfl, rfl⟩
theorem xc212_141 : pmCode 212 141 = some (.iload 5) ∧ 141 + 2 = 143 := ⟨rfl, rfl⟩
theorem xc212_143 : pmCode 212 143 = some .iaload ∧ 143 + 1 = 144 := ⟨rfl, rfl⟩
theorem xc212_144 : pmCode 212 144 = some (.lookupswitch 193 #[(97, 59), (110, 36), (114, 115)]) := rfl
theorem xc212_180 : pmCode 212 180 = some (.aload_n 0) ∧ 180 + 1 = 181 := ⟨rfl, rfl⟩
theorem xc212_181 : pmCode 212 181 = some (.getfield 7) ∧ 181 + 3 = 184 := ⟨rfl, rfl⟩
theorem xc212_184 : pmCode 212 184 = some (.iload 6) ∧ 184 + 2 = 186 := ⟨rfl, rfl⟩
theorem xc212_186 : pmCode 212 186 = some (.iconst 2) ∧ 186 + 1 = 187 := ⟨rfl, rfl⟩
theorem xc212_187 : pmCode 212 187 = some .iadd ∧ 187 + 1 = 188 := ⟨rfl, rfl⟩
theorem xc212_188 : pmCode 212 188 = some (.iload 7) ∧ 188 + 2 = 190 := ⟨rfl, rfl⟩
theorem xc212_190 : pmCode 212 190 = some (.ifCond .eq 8) ∧ ((190 : Nat) : Int) + 8 = ((198 : Nat) : Int) ∧ 190 + 3 = 193 := ⟨rfl, rfl, rfl⟩
theorem xc212_193 : pmCode 212 193 = some (.iload 4) ∧ 193 + 2 = 195 := ⟨rfl, rfl⟩
theorem xc212_195 : pmCode 212 195 = some (.goto 4) ∧ ((195 : Nat) : Int) + 4 = ((199 : Nat) : Int) := ⟨rfl, rfl⟩
theorem xc212_198 : pmCode 212 198 = some (.iconst 0) ∧ 198 + 1 = 199 := ⟨rfl, rfl⟩
theorem xc212_199 : pmCode 212 199 = some .iastore ∧ 199 + 1 = 200 := ⟨rfl, rfl⟩
theorem xc212_200 : pmCode 212 200 = some (.goto 160) ∧ ((200 : Nat) : Int) + 160 = ((360 : Nat) : Int) := ⟨rfl, rfl⟩
theorem xc212_203 : pmCode 212 203 = some (.aload_n 0) ∧ 203 + 1 = 204 := ⟨rfl, rfl⟩
theorem xc212_204 : pmCode 212 204 = some (.getfield 7) ∧ 204 + 3 = 207 := ⟨rfl, rfl⟩
theorem xc212_207 : pmCode 212 207 = some (.iload 6) ∧ 207 + 2 = 209 := ⟨rfl, rfl⟩
theorem xc212_209 : pmCode 212 209 = some (.iconst 2) ∧ 209 + 1 = 210 := ⟨rfl, rfl⟩
theorem xc212_210 : pmCode 212 210 = some .iadd ∧ 210 + 1 = 211 := ⟨rfl, rfl⟩
theorem xc212_211 : pmCode 212 211 = some (.iload 9) ∧ 211 + 2 = 213 := ⟨rfl, rfl⟩
theorem xc212_213 : pmCode 212 213 = some (.ifCond .eq 18) ∧ ((213 : Nat) : Int) + 18 = ((231 : Nat) : Int) ∧ 213 + 3 = 216 := ⟨rfl, rfl, rfl⟩
theorem xc212_216 : pmCode 212 216 = some (.aload_n 0) ∧ 216 + 1 = 217 := ⟨rfl, rfl⟩
theorem xc212_217 : pmCode 212 217 = some (.getfield 7) ∧ 217 + 3 = 220 := ⟨rfl, rfl⟩
theorem xc212_220 : pmCode 212 220 = some (.iload 6) ∧ 220 + 2 = 222 := ⟨rfl, rfl⟩
theorem xc212_222 : pmCode 212 222 = some .iaload ∧ 222 + 1 = 223 := ⟨rfl, rfl⟩
theorem xc212_223 : pmCode 212 223 = some (.ifCond .ne 8) ∧ ((223 : Nat) : Int) + 8 = ((231 : Nat) : Int) ∧ 223 + 3 = 226 := ⟨rfl, rfl, rfl⟩
theorem xc212_226 : pmCode 212 226 = some (.iload 4) ∧ 226 + 2 = 228 := ⟨rfl, rfl⟩
theorem xc212_228 : pmCode 212 228 = some (.goto 4) ∧ ((228 : Nat) : Int) + 4 = ((232 : Nat) : Int) := ⟨rfl, rfl⟩
theorem xc212_231 : pmCode 212 231 = some (.iconst 0) ∧ 231 + 1 = 232 := ⟨rfl, rfl⟩
theorem xc212_232 : pmCode 212 232 = some .iastore ∧ 232 + 1 = 233 := ⟨rfl, rfl⟩
theorem xc212_233 : pmCode 212 233 = some (.aload_n 0) ∧ 233 + 1 = 234 := ⟨rfl, rfl⟩
theorem xc212_234 : pmCode 212 234 = some (.getfield 7) ∧ 234 + 3 = 237 := ⟨rfl, rfl⟩
theorem xc212_237 : pmCode 212 237 = some (.iload 6) ∧ 237 + 2 = 239 := ⟨rfl, rfl⟩
theorem xc212_239 : pmCode 212 239 = some (.iload 7) ∧ 239 + 2 = 241 := ⟨rfl, rfl⟩
theorem xc212_241 : pmCode 212 241 = some (.ifCond .eq 7) ∧ ((241 : Nat) : Int) + 7 = ((248 : Nat) : Int) ∧ 241 + 3 = 244 := ⟨rfl, rfl, rfl⟩
theorem xc212_244 : pmCode 212 244 = some (.iconst 1) ∧ 244 + 1 = 245 := ⟨rfl, rfl⟩
theorem xc212_245 : pmCode 212 245 = some (.goto 10) ∧ ((245 : Nat) : Int) + 10 = ((255 : Nat) : Int) := ⟨rfl, rfl⟩
theorem xc212_248 : pmCode 212 248 = some (.aload_n 0) ∧ 248 + 1 = 249 := ⟨rfl, rfl⟩
theorem xc212_249 : pmCode 212 249 = some (.getfield 7) ∧ 249 + 3 = 252 := ⟨rfl, rfl⟩
theorem xc212_252 : pmCode 212 252 = some (.iload 6) ∧ 252 + 2 = 254 := ⟨rfl, rfl⟩
theorem xc212_254 : pmCode 212 254 = some .iaload ∧ 254 + 1 = 255 := ⟨rfl, rfl⟩
theorem xc212_255 : pmCode 212 255 = some .iastore ∧ 255 + 1 = 256 := ⟨rfl, rfl⟩
theorem xc212_256 : pmCode 212 256 = some (.goto 104) ∧ ((256 : Nat) : Int) + 104 = ((360 : Nat) : Int) := ⟨rfl, rfl⟩
theorem xc212_259 : pmCode 212 259 = some (.aload_n 0) ∧ 259 + 1 = 260 := ⟨rfl, rfl⟩
theorem xc212_260 : pmCode 212 260 = some (.getfield 7) ∧ 260 + 3 = 263 := ⟨rfl, rfl⟩
theorem xc212_263 : pmCode 212 263 = some (.iload 6) ∧ 263 + 2 = 265 := ⟨rfl, rfl⟩
theorem xc212_265 : pmCode 212 265 = some (.iconst 1) ∧ 265 + 1 = 266 := ⟨rfl, rfl⟩
theorem xc212_266 : pmCode 212 266 = some .iadd ∧ 266 + 1 = 267 := ⟨rfl, rfl⟩
theorem xc212_267 : pmCode 212 267 = some (.iload 9) ∧ 267 + 2 = 269 := ⟨rfl, rfl⟩
theorem xc212_269 : pmCode 212 269 = some (.ifCond .eq 7) ∧ ((269 : Nat) : Int) + 7 = ((276 : Nat) : Int) ∧ 269 + 3 = 272 := ⟨rfl, rfl, rfl⟩
theorem xc212_272 : pmCode 212 272 = some (.iconst 0) ∧ 272 + 1 = 273 := ⟨rfl, rfl⟩
theorem xc212_273 : pmCode 212 273 = some (.goto 12) ∧ ((273 : Nat) : Int) + 12 = ((285 : Nat) : Int) := ⟨rfl, rfl⟩
theorem xc212_276 : pmCode 212 276 = some (.aload_n 0) ∧ 276 + 1 = 277 := ⟨rfl, rfl⟩
theorem xc212_277 : pmCode 212 277 = some (.getfield 7) ∧ 277 + 3 = 280 := ⟨rfl, rfl⟩
theorem xc212_280 : pmCode 212 280 = some (.iload 6) ∧ 280 + 2 = 282 := ⟨rfl, rfl⟩
theorem xc212_282 : pmCode 212 282 = some (.iconst 1) ∧ 282 + 1 = 283 := ⟨rfl, rfl⟩
theorem xc212_283 : pmCode 212 283 = some .iadd ∧ 283 + 1 = 284 := ⟨rfl, rfl⟩
theorem xc212_284 : pmCode 212 284 = some .iaload ∧ 284 + 1 = 285 := ⟨rfl, rfl⟩
theorem xc212_285 : pmCode 212 285 = some .iastore ∧ 285 + 1 = 286 := ⟨rfl, rfl⟩
theorem xc212_286 : pmCode 212 286 = some (.aload_n 0) ∧ 286 + 1 = 287 := ⟨rfl, rfl⟩
theorem xc212_287 : pmCode 212 287 = some (.getfield 7) ∧ 287 + 3 = 290 := ⟨rfl, rfl⟩
theorem xc212_290 : pmCode 212 290 = some (.iload 6) ∧ 290 + 2 = 292 := ⟨rfl, rfl⟩
theorem xc212_292 : pmCode 212 292 = some (.iconst 1) ∧ 292 + 1 = 293 := ⟨rfl, rfl⟩
theorem xc212_293 : pmCode 212 293 = some .iadd ∧ 293 + 1 = 294 := ⟨rfl, rfl⟩
theorem xc212_294 : pmCode 212 294 = some (.iload 7) ∧ 294 + 2 = 296 := ⟨rfl, rfl⟩
theorem xc212_296 : pmCode 212 296 = some (.ifCond .eq 28) ∧ ((296 : Nat) : Int) + 28 = ((324 : Nat) : Int) ∧ 296 + 3 = 299 := ⟨rfl, rfl, rfl⟩
theorem xc212_299 : pmCode 212 299 = some (.aload_n 0) ∧ 299 + 1 = 300 := ⟨rfl, rfl⟩
theorem xc212_300 : pmCode 212 300 = some (.getfield 7) ∧ 300 + 3 = 303 := ⟨rfl, rfl⟩
theorem xc212_303 : pmCode 212 303 = some (.iload 6) ∧ 303 + 2 = 305 := ⟨rfl, rfl⟩
theorem xc212_305 : pmCode 212 305 = some (.iconst 1) ∧ 305 + 1 = 306 := ⟨rfl, rfl⟩
theorem xc212_306 : pmCode 212 306 = some .iadd ∧ 306 + 1 = 307 := ⟨rfl, rfl⟩
theorem xc212_307 : pmCode 212 307 = some .iaload ∧ 307 + 1 = 308 := ⟨rfl, rfl⟩
theorem xc212_308 : pmCode 212 308 = some (.ifCond .ne 16) ∧ ((308 : Nat) : Int) + 16 = ((324 : Nat) : Int) ∧ 308 + 3 = 311 := ⟨rfl, rfl, rfl⟩
theorem xc212_311 : pmCode 212 311 = some (.iload 4) ∧ 311 + 2 = 313 := ⟨rfl, rfl⟩
theorem xc212_313 : pmCode 212 313 = some (.aload_n 0) ∧ 313 + 1 = 314 := ⟨rfl, rfl⟩
theorem xc212_314 : pmCode 212 314 = some (.getfield 66) ∧ 314 + 3 = 317 := ⟨rfl, rfl⟩
theorem xc212_317 : pmCode 212 317 = some (.iload 5) ∧ 317 + 2 = 319 := ⟨rfl, rfl⟩
theorem xc212_319 : pmCode 212 319 = some .iaload ∧ 319 + 1 = 320 := ⟨rfl, rfl⟩
theorem xc212_320 : pmCode 212 320 = some .iadd ∧ 320 + 1 = 321 := ⟨rfl, rfl⟩
theorem xc212_321 : pmCode 212 321 = some (.goto 12) ∧ ((321 : Nat) : Int) + 12 = ((333 : Nat) : Int) := ⟨rfl, rfl⟩
theorem xc212_324 : pmCode 212 324 = some (.aload_n 0) ∧ 324 + 1 = 325 := ⟨rfl, rfl⟩
theorem xc212_325 : pmCode 212 325 = some (.getfield 7) ∧ 325 + 3 = 328 := ⟨rfl, rfl⟩
theorem xc212_328 : pmCode 212 328 = some (.iload 6) ∧ 328 + 2 = 330 := ⟨rfl, rfl⟩
theorem xc212_330 : pmCode 212 330 = some (.iconst 1) ∧ 330 + 1 = 331 := ⟨rfl, rfl⟩
theorem xc212_331 : pmCode 212 331 = some .iadd ∧ 331 + 1 = 332 := ⟨rfl, rfl⟩
theorem xc212_332 : pmCode 212 332 = some .iaload ∧ 332 + 1 = 333 := ⟨rfl, rfl⟩
theorem xc212_333 : pmCode 212 333 = some .iastore ∧ 333 + 1 = 334 := ⟨rfl, rfl⟩
theorem xc212_334 : pmCode 212 334 = some (.goto 26) ∧ ((334 : Nat) : Int) + 26 = ((360 : Nat) : Int) := ⟨rfl, rfl⟩
theorem xc212_337 : pmCode 212 337 = some (.aload_n 0) ∧ 337 + 1 = 338 := ⟨rfl, rfl⟩
theorem xc212_338 : pmCode 212 338 = some (.getfield 7) ∧ 338 + 3 = 341 := ⟨rfl, rfl⟩
theorem xc212_341 : pmCode 212 341 = some (.iload 6) ∧ 341 + 2 = 343 := ⟨rfl, rfl⟩
theorem xc212_343 : pmCode 212 343 = some (.iload 7) ∧ 343 + 2 = 345 := ⟨rfl, rfl⟩
theorem xc212_345 : pmCode 212 345 = some (.ifCond .eq 7) ∧ ((345 : Nat) : Int) + 7 = ((352 : Nat) : Int) ∧ 345 + 3 = 348 := ⟨rfl, rfl, rfl⟩
theorem xc212_348 : pmCode 212 348 = some (.iconst 1) ∧ 348 + 1 = 349 := ⟨rfl, rfl⟩
theorem xc212_349 : pmCode 212 349 = some (.goto 10) ∧ ((349 : Nat) : Int) + 10 = ((359 : Nat) : Int) := ⟨rfl, rfl⟩
theorem xc212_352 : pmCode 212 352 = some (.aload_n 0) ∧ 352 + 1 = 353 := ⟨rfl, rfl⟩
theorem xc212_353 : pmCode 212 353 = some (.getfield 7) ∧ 353 + 3 = 356 := ⟨rfl, rfl⟩
theorem xc212_356 : pmCode 212 356 = some (.iload 6) ∧ 356 + 2 = 358 := ⟨rfl, rfl⟩
theorem xc212_358 : pmCode 212 358 = some .iaload ∧ 358 + 1 = 359 := ⟨rfl, rfl⟩
theorem xc212_359 : pmCode 212 359 = some .iastore ∧ 359 + 1 = 360 := ⟨rfl, rfl⟩
theorem xc212_360 : pmCode 212 360 = some (.iinc 5 1) ∧ 360 + 3 = 363 := ⟨rfl, rfl⟩
theorem xc212_363 : pmCode 212 363 = some (.goto (-349)) ∧ ((363 : Nat) : Int) + (-349) = ((14 : Nat) : Int) := ⟨rfl, rfl⟩
theorem xc212_366 : pmCode 212 366 = some .return_ := rfl
theorem xc213_0 : pmCode 213 0 = some (.aload_n 0) ∧ 0 + 1 = 1 := ⟨rfl, rfl⟩
theorem xc213_1 : pmCode 213 1 = some (.getfield 54) ∧ 1 + 3 = 4 := ⟨rfl, rfl⟩
theorem xc213_4 : pmCode 213 4 = some (.iload_n 1) ∧ 4 + 1 = 5 := ⟨rfl, rfl⟩
theorem xc213_5 : pmCode 213 5 = some .iaload ∧ 5 + 1 = 6 := ⟨rfl, rfl⟩
theorem xc213_6 : pmCode 213 6 = some (.iload_n 3) ∧ 6 + 1 = 7 := ⟨rfl, rfl⟩
theorem xc213_7 : pmCode 213 7 = some (.invokestatic 279) ∧ 7 + 3 = 10 := ⟨rfl, rfl⟩
theorem xc213_10 : pmCode 213 10 = some (.if_icmp .ne 17) ∧ ((10 : Nat) : Int) + 17 = ((27 : Nat) : Int) ∧ 10 + 3 = 13 := ⟨rfl, rfl, rfl⟩
theorem xc213_13 : pmCode 213 13 = some (.aload_n 0) ∧ 13 + 1 = 14 := ⟨rfl, rfl⟩
theorem xc213_14 : pmCode 213 14 = some (.getfield 69) ∧ 14 + 3 = 17 := ⟨rfl, rfl⟩
theorem xc213_17 : pmCode 213 17 = some (.iload_n 1) ∧ 17 + 1 = 18 := ⟨rfl, rfl⟩
theorem xc213_18 : pmCode 213 18 = some .baload ∧ 18 + 1 = 19 := ⟨rfl, rfl⟩
theorem xc213_19 : pmCode 213 19 = some (.ifCond .eq 10) ∧ ((19 : Nat) : Int) + 10 = ((29 : Nat) : Int) ∧ 19 + 3 = 22 := ⟨rfl, rfl, rfl⟩
theorem xc213_22 : pmCode 213 22 = some (.iload 4) ∧ 22 + 2 = 24 := ⟨rfl, rfl⟩
theorem xc213_24 : pmCode 213 24 = some (.ifCond .eq 5) ∧ ((24 : Nat) : Int) + 5 = ((29 : Nat) : Int) ∧ 24 + 3 = 27 := ⟨rfl, rfl, rfl⟩
theorem xc213_27 : pmCode 213 27 = some (.iconst 0) ∧ 27 + 1 = 28 := ⟨rfl, rfl⟩
theorem xc213_28 : pmCode 213 28 = some .ireturn := rfl
theorem xc213_29 : pmCode 213 29 = some (.aload_n 0) ∧ 29 + 1 = 30 := ⟨rfl, rfl⟩
theorem xc213_30 : pmCode 213 30 = some (.getfield 57) ∧ 30 + 3 = 33 := ⟨rfl, rfl⟩
theorem xc213_33 : pmCode 213 33 = some (.iload_n 1) ∧ 33 + 1 = 34 := ⟨rfl, rfl⟩
theorem xc213_34 : pmCode 213 34 = some .iaload ∧ 34 + 1 = 35 := ⟨rfl, rfl⟩
theorem xc213_35 : pmCode 213 35 = some (.iconst (-1)) ∧ 35 + 1 = 36 := ⟨rfl, rfl⟩
theorem xc213_36 : pmCode 213 36 = some (.if_icmp .eq 15) ∧ ((36 : Nat) : Int) + 15 = ((51 : Nat) : Int) ∧ 36 + 3 = 39 := ⟨rfl, rfl, rfl⟩
theorem xc213_39 : pmCode 213 39 = some (.aload_n 0) ∧ 39 + 1 = 40 := ⟨rfl, rfl⟩
theorem xc213_40 : pmCode 213 40 = some (.getfield 57) ∧ 40 + 3 = 43 := ⟨rfl, rfl⟩
theorem xc213_43 : pmCode 213 43 = some (.iload_n 1) ∧ 43 + 1 = 44 := ⟨rfl, rfl⟩
theorem xc213_44 : pmCode 213 44 = some .iaload ∧ 44 + 1 = 45 := ⟨rfl, rfl⟩
theorem xc213_45 : pmCode 213 45 = some (.iload_n 2) ∧ 45 + 1 = 46 := ⟨rfl, rfl⟩
theorem xc213_46 : pmCode 213 46 = some (.if_icmp .eq 5) ∧ ((46 : Nat) : Int) + 5 = ((51 : Nat) : Int) ∧ 46 + 3 = 49 := ⟨rfl, rfl, rfl⟩
theorem xc213_49 : pmCode 213 49 = some (.iconst 0) ∧ 49 + 1 = 50 := ⟨rfl, rfl⟩
theorem xc213_50 : pmCode 213 50 = some .ireturn := rfl
theorem xc213_51 : pmCode 213 51 = some (.aload_n 0) ∧ 51 + 1 = 52 := ⟨rfl, rfl⟩
theorem xc213_52 : pmCode 213 52 = some (.getfield 60) ∧ 52 + 3 = 55 := ⟨rfl, rfl⟩
theorem xc213_55 : pmCode 213 55 = some (.iload_n 1) ∧ 55 + 1 = 56 := ⟨rfl, rfl⟩
theorem xc213_56 : pmCode 213 56 = some .iaload ∧ 56 + 1 = 57 := ⟨rfl, rfl⟩
theorem xc213_57 : pmCode 213 57 = some (.iconst (-1)) ∧ 57 + 1 = 58 := ⟨rfl, rfl⟩
theorem xc213_58 : pmCode 213 58 = some (.if_icmp .eq 18) ∧ ((58 : Nat) : Int) + 18 = ((76 : Nat) : Int) ∧ 58 + 3 = 61 := ⟨rfl, rfl, rfl⟩
theorem xc213_61 : pmCode 213 61 = some (.aload_n 0) ∧ 61 + 1 = 62 := ⟨rfl, rfl⟩
theorem xc213_62 : pmCode 213 62 = some (.getfield 60) ∧ 62 + 3 = 65 := ⟨rfl, rfl⟩
theorem xc213_65 : pmCode 213 65 = some (.iload_n 1) ∧ 65 + 1 = 66 := ⟨rfl, rfl⟩
theorem xc213_66 : pmCode 213 66 = some .iaload ∧ 66 + 1 = 67 := ⟨rfl, rfl⟩
theorem xc213_67 : pmCode 213 67 = some (.iload_n 3) ∧ 67 + 1 = 68 := ⟨rfl, rfl⟩
theorem xc213_68 : pmCode 213 68 = some (.invokestatic 276) ∧ 68 + 3 = 71 := ⟨rfl, rfl⟩
theorem xc213_71 : pmCode 213 71 = some (.if_icmp .eq 5) ∧ ((71 : Nat) : Int) + 5 = ((76 : Nat) : Int) ∧ 71 + 3 = 74 := ⟨rfl, rfl, rfl⟩
theorem xc213_74 : pmCode 213 74 = some (.iconst 0) ∧ 74 + 1 = 75 := ⟨rfl, rfl⟩
theorem xc213_75 : pmCode 213 75 = some .ireturn := rfl
theorem xc213_76 : pmCode 213 76 = some (.aload_n 0) ∧ 76 + 1 = 77 := ⟨rfl, rfl⟩
theorem xc213_77 : pmCode 213 77 = some (.getfield 63) ∧ 77 + 3 = 80 := ⟨rfl, rfl⟩
theorem xc213_80 : pmCode 213 80 = some (.iload_n 1) ∧ 80 + 1 = 81 := ⟨rfl, rfl⟩
theorem xc213_81 : pmCode 213 81 = some .iaload ∧ 81 + 1 = 82 := ⟨rfl, rfl⟩
theorem xc213_82 : pmCode 213 82 = some (.iconst (-1)) ∧ 82 + 1 = 83 := ⟨rfl, rfl⟩
theorem xc213_83 : pmCode 213 83 = some (.if_icmp .eq 16) ∧ ((83 : Nat) : Int) + 16 = ((99 : Nat) : Int) ∧ 83 + 3 = 86 := ⟨rfl, rfl, rfl⟩
theorem xc213_86 : pmCode 213 86 = some (.aload_n 0) ∧ 86 + 1 = 87 := ⟨rfl, rfl⟩
theorem xc213_87 : pmCode 213 87 = some (.getfield 63) ∧ 87 + 3 = 90 := ⟨rfl, rfl⟩
theorem xc213_90 : pmCode 213 90 = some (.iload_n 1) ∧ 90 + 1 = 91 := ⟨rfl, rfl⟩
theorem xc213_91 : pmCode 213 91 = some .iaload ∧ 91 + 1 = 92 := ⟨rfl, rfl⟩
theorem xc213_92 : pmCode 213 92 = some (.iload_n 3) ∧ 92 + 1 = 93 := ⟨rfl, rfl⟩
theorem xc213_93 : pmCode 213 93 = some (.invokestatic 282) ∧ 93 + 3 = 96 := ⟨rfl, rfl⟩
theorem xc213_96 : pmCode 213 96 = some (.if_icmp .ne 7) ∧ ((96 : Nat) : Int) + 7 = ((103 : Nat) : Int) ∧ 96 + 3 = 99 := ⟨rfl, rfl, rfl⟩
theorem xc213_99 : pmCode 213 99 = some (.iconst 1) ∧ 99 + 1 = 100 := ⟨rfl, rfl⟩
theorem xc213_100 : pmCode 213 100 = some (.goto 4) ∧ ((100 : Nat) : Int) + 4 = ((104 : Nat) : Int) := ⟨rfl, rfl⟩
theorem xc213_103 : pmCode 213 103 = some (.iconst 0) ∧ 103 + 1 = 104 := ⟨rfl, rfl⟩
theorem xc213_104 : pmCode 213 104 = some .ireturn := rfl
theorem xc214_0 : pmCode 214 0 = some (.aload_n 0) ∧ 0 + 1 = 1 := ⟨rfl, rfl⟩
theorem xc214_1 : pmCode 214 1 = some (.getfield 7) ∧ 1 + 3 = 4 := ⟨rfl, rfl⟩
theorem xc214_4 : pmCode 214 4 = some (.bipush 114) ∧ 4 + 2 = 6 := ⟨rfl, rfl⟩
theorem xc214_6 : pmCode 214 6 = some (.aload_n 0) ∧ 6 + 1 = 7 := ⟨rfl, rfl⟩
theorem xc214_7 : pmCode 214 7 = some (.getfield 7) ∧ 7 + 3 = 10 := ⟨rfl, rfl⟩
theorem xc214_10 : pmCode 214 10 = some (.bipush 114) ∧ 10 + 2 = 12 := ⟨rfl, rfl⟩
theorem xc214_12 : pmCode 214 12 = some .iaload ∧ 12 + 1 = 13 := ⟨rfl, rfl⟩
theorem xc214_13 : pmCode 214 13 = some (.iconst 1) ∧ 13 + 1 = 14 := ⟨rfl, rfl⟩
theorem xc214_14 : pmCode 214 14 = some .iadd ∧ 14 + 1 = 15 := ⟨rfl, rfl⟩
theorem xc214_15 : pmCode 214 15 = some .iastore ∧ 15 + 1 = 16 := ⟨rfl, rfl⟩
theorem xc214_16 : pmCode 214 16 = some (.aload_n 0) ∧ 16 + 1 = 17 := ⟨rfl, rfl⟩
theorem xc214_17 : pmCode 214 17 = some (.getfield 7) ∧ 17 + 3 = 20 := ⟨rfl, rfl⟩
theorem xc214_20 : pmCode 214 20 = some (.bipush 115) ∧ 20 + 2 = 22 := ⟨rfl, rfl⟩
theorem xc214_22 : pmCode 214 22 = some (.iconst 0) ∧ 22 + 1 = 23 := ⟨rfl, rfl⟩
theorem xc214_23 : pmCode 214 23 = some .iastore ∧ 23 + 1 = 24 := ⟨rfl, rfl⟩
theorem xc214_24 : pmCode 214 24 = some (.iconst 0) ∧ 24 + 1 = 25 := ⟨rfl, rfl⟩
theorem xc214_25 : pmCode 214 25 = some (.istore_n 1) ∧ 25 + 1 = 26 := ⟨rfl, rfl⟩
theorem xc214_26 : pmCode 214 26 = some (.iload_n 1) ∧ 26 + 1 = 27 := ⟨rfl, rfl⟩
theorem xc214_27 : pmCode 214 27 = some (.iconst 4) ∧ 27 + 1 = 28 := ⟨rfl, rfl⟩
theorem xc214_28 : pmCode 214 28 = some (.aload_n 0) ∧ 28 + 1 = 29 := ⟨rfl, rfl⟩
theorem xc214_29 : pmCode 214 29 = some (.getfield 247) ∧ 29 + 3 = 32 := ⟨rfl, rfl⟩
theorem xc214_32 : pmCode 214 32 = some .imul ∧ 32 + 1 = 33 := ⟨rfl, rfl⟩
theorem xc214_33 : pmCode 214 33 = some (.if_icmp .ge 159) ∧ ((33 : Nat) : Int) + 159 = ((192 : Nat) : Int) ∧ 33 + 3 = 36 := ⟨rfl, rfl, rfl⟩
theorem xc214_36 : pmCode 214 36 = some (.bipush 41) ∧ 36 + 2 = 38 := ⟨rfl, rfl⟩
theorem xc214_38 : pmCode 214 38 = some (.iconst 3) ∧ 38 + 1 = 39 := ⟨rfl, rfl⟩
theorem xc214_39 : pmCode 214 39 = some (.iload_n 1) ∧ 39 + 1 = 40 := ⟨rfl, rfl⟩
theorem xc214_40 : pmCode 214 40 = some .imul ∧ 40 + 1 = 41 := ⟨rfl, rfl⟩
theorem xc214_41 : pmCode 214 41 = some .iadd ∧ 41 + 1 = 42 := ⟨rfl, rfl⟩
theorem xc214_42 : pmCode 214 42 = some (.istore_n 2) ∧ 42 + 1 = 43 := ⟨rfl, rfl⟩
theorem xc214_43 : pmCode 214 43 = some (.iload_n 1) ∧ 43 + 1 = 44 := ⟨rfl, rfl⟩
theorem xc214_44 : pmCode 214 44 = some (.iconst 4) ∧ 44 + 1 = 45 := ⟨rfl, rfl⟩
theorem xc214_45 : pmCode 214 45 = some .irem ∧ 45 + 1 = 46 := ⟨rfl, rfl⟩
theorem xc214_46 : pmCode 214 46 = some (.aload_n 0) ∧ 46 + 1 = 47 := ⟨rfl, rfl⟩
theorem xc214_47 : pmCode 214 47 = some (.getfield 48) ∧ 47 + 3 = 50 := ⟨rfl, rfl⟩
theorem xc214_50 : pmCode 214 50 = some (.iload_n 1) ∧ 50 + 1 = 51 := ⟨rfl, rfl⟩
theorem xc214_51 : pmCode 214 51 = some (.iconst 4) ∧ 51 + 1 = 52 := ⟨rfl, rfl⟩
theorem xc214_52 : pmCode 214 52 = some .idiv ∧ 52 + 1 = 53 := ⟨rfl, rfl⟩
theorem xc214_53 : pmCode 214 53 = some .iaload ∧ 53 + 1 = 54 := ⟨rfl, rfl⟩
theorem xc214_54 : pmCode 214 54 = some (.if_icmp .ge 132) ∧ ((54 : Nat) : Int) + 132 = ((186 : Nat) : Int) ∧ 54 + 3 = 57 := ⟨rfl, rfl, rfl⟩
theorem xc214_57 : pmCode 214 57 = some (.aload_n 0) ∧ 57 + 1 = 58 := ⟨rfl, rfl⟩
theorem xc214_58 : pmCode 214 58 = some (.getfield 7) ∧ 58 + 3 = 61 := ⟨rfl, rfl⟩
theorem xc214_61 : pmCode 214 61 = some (.iload_n 2) ∧ 61 + 1 = 62 := ⟨rfl, rfl⟩
theorem xc214_62 : pmCode 214 62 = some (.iconst 2) ∧ 62 + 1 = 63 := ⟨rfl, rfl⟩
theorem xc214_63 : pmCode 214 63 = some .iadd ∧ 63 + 1 = 64 := ⟨rfl, rfl⟩
theorem xc214_64 : pmCode 214 64 = some .iaload ∧ 64 + 1 = 65 := ⟨rfl, rfl⟩
theorem xc214_65 : pmCode 214 65 = some (.ifCond .eq 6) ∧ ((65 : Nat) : Int) + 6 = ((71 : Nat) : Int) ∧ 65 + 3 = 68 := ⟨rfl, rfl, rfl⟩
theorem xc214_68 : pmCode 214 68 = some (.goto 118) ∧ ((68 : Nat) : Int) + 118 = ((186 : Nat) : Int) := ⟨rfl, rfl⟩
theorem xc214_71 : pmCode 214 71 = some (.aload_n 0) ∧ 71 + 1 = 72 := ⟨rfl, rfl⟩
theorem xc214_72 : pmCode 214 72 = some (.getfield 51) ∧ 72 + 3 = 75 := ⟨rfl, rfl⟩
theorem xc214_75 : pmCode 214 75 = some (.iload_n 1) ∧ 75 + 1 = 76 := ⟨rfl, rfl⟩
theorem xc214_76 : pmCode 214 76 = some .iaload ∧ 76 + 1 = 77 := ⟨rfl, rfl⟩
theorem xc214_77 : pmCode 214 77 = some (.bipush 114) ∧ 77 + 2 = 79 := ⟨rfl, rfl⟩
theorem xc214_79 : pmCode 214 79 = some (.if_icmp .ne 36) ∧ ((79 : Nat) : Int) + 36 = ((115 : Nat) : Int) ∧ 79 + 3 = 82 := ⟨rfl, rfl, rfl⟩
theorem xc214_82 : pmCode 214 82 = some (.aload_n 0) ∧ 82 + 1 = 83 := ⟨rfl, rfl⟩
theorem xc214_83 : pmCode 214 83 = some (.getfield 7) ∧ 83 + 3 = 86 := ⟨rfl, rfl⟩
theorem xc214_86 : pmCode 214 86 = some (.iload_n 2) ∧ 86 + 1 = 87 := ⟨rfl, rfl⟩
theorem xc214_87 : pmCode 214 87 = some (.iconst 1) ∧ 87 + 1 = 88 := ⟨rfl, rfl⟩
theorem xc214_88 : pmCode 214 88 = some .iadd ∧ 88 + 1 = 89 := ⟨rfl, rfl⟩
theorem xc214_89 : pmCode 214 89 = some .iaload ∧ 89 + 1 = 90 := ⟨rfl, rfl⟩
theorem xc214_90 : pmCode 214 90 = some (.ifCond .eq 25) ∧ ((90 : Nat) : Int) + 25 = ((115 : Nat) : Int) ∧ 90 + 3 = 93 := ⟨rfl, rfl, rfl⟩
theorem xc214_93 : pmCode 214 93 = some (.aload_n 0) ∧ 93 + 1 = 94 := ⟨rfl, rfl⟩
theorem xc214_94 : pmCode 214 94 = some (.getfield 7) ∧ 94 + 3 = 97 := ⟨rfl, rfl⟩
theorem xc214_97 : pmCode 214 97 = some (.bipush 114) ∧ 97 + 2 = 99 := ⟨rfl, rfl⟩
theorem xc214_99 : pmCode 214 99 = some .iaload ∧ 99 + 1 = 100 := ⟨rfl, rfl⟩
theorem xc214_100 : pmCode 214 100 = some (.aload_n 0) ∧ 100 + 1 = 101 := ⟨rfl, rfl⟩
theorem xc214_101 : pmCode 214 101 = some (.getfield 7) ∧ 101 + 3 = 104 := ⟨rfl, rfl⟩
theorem xc214_104 : pmCode 214 104 = some (.iload_n 2) ∧ 104 + 1 = 105 := ⟨rfl, rfl⟩
theorem xc214_105 : pmCode 214 105 = some (.iconst 1) ∧ 105 + 1 = 106 := ⟨rfl, rfl⟩
theorem xc214_106 : pmCode 214 106 = some .iadd ∧ 106 + 1 = 107 := ⟨rfl, rfl⟩
theorem xc214_107 : pmCode 214 107 = some .iaload ∧ 107 + 1 = 108 := ⟨rfl, rfl⟩
theorem xc214_108 : pmCode 214 108 = some (.if_icmp .lt 7) ∧ ((108 : Nat) : Int) + 7 = ((115 : Nat) : Int) ∧ 108 + 3 = 111 := ⟨rfl, rfl, rfl⟩
theorem xc214_111 : pmCode 214 111 = some (.iconst 1) ∧ 111 + 1 = 112 := ⟨rfl, rfl⟩
theorem xc214_112 : pmCode 214 112 = some (.goto 4) ∧ ((112 : Nat) : Int) + 4 = ((116 : Nat) : Int) := ⟨rfl, rfl⟩
theorem xc214_115 : pmCode 214 115 = some (.iconst 0) ∧ 115 + 1 = 116 := ⟨rfl, rfl⟩
theorem xc214_116 : pmCode 214 116 = some (.istore_n 3) ∧ 116 + 1 = 117 := ⟨rfl, rfl⟩
theorem xc214_117 : pmCode 214 117 = some (.iload_n 3) ∧ 117 + 1 = 118 := ⟨rfl, rfl⟩
theorem xc214_118 : pmCode 214 118 = some (.ifCond .ne 39) ∧ ((118 : Nat) : Int) + 39 = ((157 : Nat) : Int) ∧ 118 + 3 = 121 := ⟨rfl, rfl, rfl⟩
theorem xc214_121 : pmCode 214 121 = some (.aload_n 0) ∧ 121 + 1 = 122 := ⟨rfl, rfl⟩
theorem xc214_122 : pmCode 214 122 = some (.getfield 51) ∧ 122 + 3 = 125 := ⟨rfl, rfl⟩
theorem xc214_125 : pmCode 214 125 = some (.iload_n 1) ∧ 125 + 1 = 126 := ⟨rfl, rfl⟩
theorem xc214_126 : pmCode 214 126 = some .iaload ∧ 126 + 1 = 127 := ⟨rfl, rfl⟩
theorem xc214_127 : pmCode 214 127 = some (.bipush 101) ∧ 127 + 2 = 129 := ⟨rfl, rfl⟩
theorem xc214_129 : pmCode 214 129 = some (.if_icmp .ne 32) ∧ ((129 : Nat) : Int) + 32 = ((161 : Nat) : Int) ∧ 129 + 3 = 132 := ⟨rfl, rfl, rfl⟩
theorem xc214_132 : pmCode 214 132 = some (.aload_n 0) ∧ 132 + 1 = 133 := ⟨rfl, rfl⟩
theorem xc214_133 : pmCode 214 133 = some (.getfield 7) ∧ 133 + 3 = 136 := ⟨rfl, rfl⟩
theorem xc214_136 : pmCode 214 136 = some (.iload_n 2) ∧ 136 + 1 = 137 := ⟨rfl, rfl⟩
theorem xc214_137 : pmCode 214 137 = some .iaload ∧ 137 + 1 = 138 := ⟨rfl, rfl⟩
theorem xc214_138 : pmCode 214 138 = some (.ifCond .ne 23) ∧ ((138 : Nat) : Int) + 23 = ((161 : Nat) : Int) ∧ 138 + 3 = 141 := ⟨rfl, rfl, rfl⟩
theorem xc214_141 : pmCode 214 141 = some (.aload_n 0) ∧ 141 + 1 = 142 := ⟨rfl, rfl⟩
theorem xc214_142 : pmCode 214 142 = some (.getfield 7) ∧ 142 + 3 = 145 := ⟨rfl, rfl⟩
theorem xc214_145 : pmCode 214 145 = some (.bipush 114) ∧ 145 + 2 = 147 := ⟨rfl, rfl⟩
theorem xc214_147 : pmCode 214 147 = some .iaload ∧ 147 + 1 = 148 := ⟨rfl, rfl⟩
theorem xc214_148 : pmCode 214 148 = some (.aload_n 0) ∧ 148 + 1 = 149 := ⟨rfl, rfl⟩
theorem xc214_149 : pmCode 214 149 = some (.getfield 66) ∧ 149 + 3 = 152 := ⟨rfl, rfl⟩
theorem xc214_152 : pmCode 214 152 = some (.iload_n 1) ∧ 152 + 1 = 153 := ⟨rfl, rfl⟩
theorem xc214_153 : pmCode 214 153 = some .iaload ∧ 153 + 1 = 154 := ⟨rfl, rfl⟩
theorem xc214_154 : pmCode 214 154 = some (.if_icmp .lt 7) ∧ ((154 : Nat) : Int) + 7 = ((161 : Nat) : Int) ∧ 154 + 3 = 157 := ⟨rfl, rfl, rfl⟩
theorem xc214_157 : pmCode 214 157 = some (.iconst 1) ∧ 157 + 1 = 158 := ⟨rfl, rfl⟩
theorem xc214_158 : pmCode 214 158 = some (.goto 4) ∧ ((158 : Nat) : Int) + 4 = ((162 : Nat) : Int) := ⟨rfl, rfl⟩
theorem xc214_161 : pmCode 214 161 = some (.iconst 0) ∧ 161 + 1 = 162 := ⟨rfl, rfl⟩
theorem xc214_162 : pmCode 214 162 = some (.istore_n 3) ∧ 162 + 1 = 163 := ⟨rfl, rfl⟩
theorem xc214_163 : pmCode 214 163 = some (.aload_n 0) ∧ 163 + 1 = 164 := ⟨rfl, rfl⟩
theorem xc214_164 : pmCode 214 164 = some (.getfield 7) ∧ 164 + 3 = 167 := ⟨rfl, rfl⟩
theorem xc214_167 : pmCode 214 167 = some (.iload_n 2) ∧ 167 + 1 = 168 := ⟨rfl, rfl⟩
theorem xc214_168 : pmCode 214 168 = some (.iconst 2) ∧ 168 + 1 = 169 := ⟨rfl, rfl⟩
theorem xc214_169 : pmCode 214 169 = some .iadd ∧ 169 + 1 = 170 := ⟨rfl, rfl⟩
theorem xc214_170 : pmCode 214 170 = some (.iload_n 3) ∧ 170 + 1 = 171 := ⟨rfl, rfl⟩
theorem xc214_171 : pmCode 214 171 = some (.ifCond .eq 13) ∧ ((171 : Nat) : Int) + 13 = ((184 : Nat) : Int) ∧ 171 + 3 = 174 := ⟨rfl, rfl, rfl⟩
theorem xc214_174 : pmCode 214 174 = some (.aload_n 0) ∧ 174 + 1 = 175 := ⟨rfl, rfl⟩
theorem xc214_175 : pmCode 214 175 = some (.getfield 7) ∧ 175 + 3 = 178 := ⟨rfl, rfl⟩
theorem xc214_178 : pmCode 214 178 = some (.bipush 114) ∧ 178 + 2 = 180 := ⟨rfl, rfl⟩
theorem xc214_180 : pmCode 214 180 = some .iaload ∧ 180 + 1 = 181 := ⟨rfl, rfl⟩
theorem xc214_181 : pmCode 214 181 = some (.goto 4) ∧ ((181 : Nat) : Int) + 4 = ((185 : Nat) : Int) := ⟨rfl, rfl⟩
theorem xc214_184 : pmCode 214 184 = some (.iconst 0) ∧ 184 + 1 = 185 := ⟨rfl, rfl⟩
theorem xc214_185 : pmCode 214 185 = some .iastore ∧ 185 + 1 = 186 := ⟨rfl, rfl⟩
theorem xc214_186 : pmCode 214 186 = some (.iinc 1 1) ∧ 186 + 3 = 189 := ⟨rfl, rfl⟩
theorem xc214_189 : pmCode 214 189 = some (.goto (-163)) ∧ ((189 : Nat) : Int) + (-163) = ((26 : Nat) : Int) := ⟨rfl, rfl⟩
theorem xc214_192 : pmCode 214 192 = some .return_ := rfl
theorem x_lsd {ro : Nat → Nat × (Nat → Int32)} {d o m rt pc t : Nat} {pl : pmL} {st : List Value} {a : xA} {b : xB} {Q : Option Value → pmS → Prop} {z k1 o1 k2 o2 k3 o3 dd : Int} (hc : pmCode m pc = some (.lookupswitch dd #[(k1, o1), (k2, o2), (k3, o3)])) (hz : xR z) (h1 : ¬ z = k1) (h2 : ¬ z = k2) (h3 : ¬ z = k3) (hs : (decide (k1 < k2) && (decide (k2 < k3) && true)) = true) (ht : (pc : Int) + dd = (t : Int)) (hw : pmWp ro d o m rt t pl st (xS a b) Q) : pmWp ro d o m rt pc pl (xV z :: st) (xS a b) Q := by
  refine pmWp_1 hc (pc' := t) (pl' := pl) (st' := st) ?_ hw
  simp only [pmStep, xV]
  rw [xI hz]
  have e1 : (([(k1, o1), (k2, o2), (k3, o3)] : List (Int × Int)).zip (([(k1, o1), (k2, o2), (k3, o3)] : List (Int × Int)).drop 1)).all (fun (a, next) => decide (a.1 < next.1)) = true := hs
  rw [if_pos e1]
  have e2 : Op.lookupswitch.offset [(k1, o1), (k2, o2), (k3, o3)] dd z = dd := by
    show (if k1 = z then o1 else if k2 = z then o2 else if k3 = z then o3 else dd) = dd
    rw [if_neg (fun e => h1 e.symm), if_neg (fun e => h2 e.symm), if_neg (fun e => h3 e.symm)]
  rw [e2]
  unfold pmJp
  rw [ht]
  rfl
theorem w213 {ro : Nat → Nat × (Nat → Int32)} {d : Nat} {Q : Option Value → pmS → Prop} {c2 p k sn : Int} {a : xA} {b : xB} (hA : xAr a) (hc2 : 0 ≤ c2 ∧ c2 ≤ 47) (hp : 0 ≤ p ∧ p ≤ 3) (hk : 0 ≤ k ∧ k < 61) (hsn : 0 ≤ sn ∧ sn ≤ 15) (hkk : 0 ≤ uK k ∧ uK k ≤ 6) (hxk : -1 ≤ uX k ∧ uX k ≤ 6) (hyk : -1 ≤ uY k ∧ uY k ≤ 3) (hd : 1 ≤ d)
    (k1 : (¬ a 102 c2 = uK k) → Q (some (xV 0)) (xS a b))
    (k2 : (a 102 c2 = uK k) → (a 107 c2 = 0) → (a 103 c2 = -1) → (a 104 c2 = -1) → (a 105 c2 = -1) → Q (some (xV 1)) (xS a b))
    (k3 : (a 102 c2 = uK k) → (a 107 c2 = 0) → (a 103 c2 = -1) → (a 104 c2 = -1) → (¬ a 105 c2 = -1) → (¬ a 105 c2 = uY k) → Q (some (xV 0)) (xS a b))
    (k4 : (a 102 c2 = uK k) → (a 107 c2 = 0) → (a 103 c2 = -1) → (a 104 c2 = -1) → (¬ a 105 c2 = -1) → (a 105 c2 = uY k) → Q (some (xV 1)) (xS a b))
    (k5 : (a 102 c2 = uK k) → (a 107 c2 = 0) → (a 103 c2 = -1) → (¬ a 104 c2 = -1) → (a 104 c2 = uX k) → (a 105 c2 = -1) → Q (some (xV 1)) (xS a b))
    (k6 : (a 102 c2 = uK k) → (a 107 c2 = 0) → (a 103 c2 = -1) → (¬ a 104 c2 = -1) → (a 104 c2 = uX k) → (¬ a 105 c2 = -1) → (¬ a 105 c2 = uY k) → Q (some (xV 0)) (xS a b))
    (k7 : (a 102 c2 = uK k) → (a 107 c2 = 0) → (a 103 c2 = -1) → (¬ a 104 c2 = -1) → (a 104 c2 = uX k) → (¬ a 105 c2 = -1) → (a 105 c2 = uY k) → Q (some (xV 1)) (xS a b))
    (k8 : (a 102 c2 = uK k) → (a 107 c2 = 0) → (a 103 c2 = -1) → (¬ a 104 c2 = -1) → (¬ a 104 c2 = uX k) → Q (some (xV 0)) (xS a b))
    (k9 : (a 102 c2 = uK k) → (a 107 c2 = 0) → (¬ a 103 c2 = -1) → (a 103 c2 = p) → (a 104 c2 = -1) → (a 105 c2 = -1) → Q (some (xV 1)) (xS a b))
    (k10 : (a 102 c2 = uK k) → (a 107 c2 = 0) → (¬ a 103 c2 = -1) → (a 103 c2 = p) → (a 104 c2 = -1) → (¬ a 105 c2 = -1) → (¬ a 105 c2 = uY k) → Q (some (xV 0)) (xS a b))
    (k11 : (a 102 c2 = uK k) → (a 107 c2 = 0) → (¬ a 103 c2 = -1) → (a 103 c2 = p) → (a 104 c2 = -1) → (¬ a 105 c2 = -1) → (a 105 c2 = uY k) → Q (some (xV 1)) (xS a b))
    (k12 : (a 102 c2 = uK k) → (a 107 c2 = 0) → (¬ a 103 c2 = -1) → (a 103 c2 = p) → (¬ a 104 c2 = -1) → (a 104 c2 = uX k) → (a 105 c2 = -1) → Q (some (xV 1)) (xS a b))
    (k13 : (a 102 c2 = uK k) → (a 107 c2 = 0) → (¬ a 103 c2 = -1) → (a 103 c2 = p) → (¬ a 104 c2 = -1) → (a 104 c2 = uX k) → (¬ a 105 c2 = -1) → (¬ a 105 c2 = uY k) → Q (some (xV 0)) (xS a b))
    (k14 : (a 102 c2 = uK k) → (a 107 c2 = 0) → (¬ a 103 c2 = -1) → (a 103 c2 = p) → (¬ a 104 c2 = -1) → (a 104 c2 = uX k) → (¬ a 105 c2 = -1) → (a 105 c2 = uY k) → Q (some (xV 1)) (xS a b))
    (k15 : (a 102 c2 = uK k) → (a 107 c2 = 0) → (¬ a 103 c2 = -1) → (a 103 c2 = p) → (¬ a 104 c2 = -1) → (¬ a 104 c2 = uX k) → Q (some (xV 0)) (xS a b))
    (k16 : (a 102 c2 = uK k) → (a 107 c2 = 0) → (¬ a 103 c2 = -1) → (¬ a 103 c2 = p) → Q (some (xV 0)) (xS a b))
    (k17 : (a 102 c2 = uK k) → (¬ a 107 c2 = 0) → (sn = 0) → (a 103 c2 = -1) → (a 104 c2 = -1) → (a 105 c2 = -1) → Q (some (xV 1)) (xS a b))
    (k18 : (a 102 c2 = uK k) → (¬ a 107 c2 = 0) → (sn = 0) → (a 103 c2 = -1) → (a 104 c2 = -1) → (¬ a 105 c2 = -1) → (¬ a 105 c2 = uY k) → Q (some (xV 0)) (xS a b))
    (k19 : (a 102 c2 = uK k) → (¬ a 107 c2 = 0) → (sn = 0) → (a 103 c2 = -1) → (a 104 c2 = -1) → (¬ a 105 c2 = -1) → (a 105 c2 = uY k) → Q (some (xV 1)) (xS a b))
    (k20 : (a 102 c2 = uK k) → (¬ a 107 c2 = 0) → (sn = 0) → (a 103 c2 = -1) → (¬ a 104 c2 = -1) → (a 104 c2 = uX k) → (a 105 c2 = -1) → Q (some (xV 1)) (xS a b))
    (k21 : (a 102 c2 = uK k) → (¬ a 107 c2 = 0) → (sn = 0) → (a 103 c2 = -1) → (¬ a 104 c2 = -1) → (a 104 c2 = uX k) → (¬ a 105 c2 = -1) → (¬ a 105 c2 = uY k) → Q (some (xV 0)) (xS a b))
    (k22 : (a 102 c2 = uK k) → (¬ a 107 c2 = 0) → (sn = 0) → (a 103 c2 = -1) → (¬ a 104 c2 = -1) → (a 104 c2 = uX k) → (¬ a 105 c2 = -1) → (a 105 c2 = uY k) → Q (some (xV 1)) (xS a b))
    (k23 : (a 102 c2 = uK k) → (¬ a 107 c2 = 0) → (sn = 0) → (a 103 c2 = -1) → (¬ a 104 c2 = -1) → (¬ a 104 c2 = uX k) → Q (some (xV 0)) (xS a b))
    (k24 : (a 102 c2 = uK k) → (¬ a 107 c2 = 0) → (sn = 0) → (¬ a 103 c2 = -1) → (a 103 c2 = p) → (a 104 c2 = -1) → (a 105 c2 = -1) → Q (some (xV 1)) (xS a b))
    (k25 : (a 102 c2 = uK k) → (¬ a 107 c2 = 0) → (sn = 0) → (¬ a 103 c2 = -1) → (a 103 c2 = p) → (a 104 c2 = -1) → (¬ a 105 c2 = -1) → (¬ a 105 c2 = uY k) → Q (some (xV 0)) (xS a b))
    (k26 : (a 102 c2 = uK k) → (¬ a 107 c2 = 0) → (sn = 0) → (¬ a 103 c2 = -1) → (a 103 c2 = p) → (a 104 c2 = -1) → (¬ a 105 c2 = -1) → (a 105 c2 = uY k) → Q (some (xV 1)) (xS a b))
    (k27 : (a 102 c2 = uK k) → (¬ a 107 c2 = 0) → (sn = 0) → (¬ a 103 c2 = -1) → (a 103 c2 = p) → (¬ a 104 c2 = -1) → (a 104 c2 = uX k) → (a 105 c2 = -1) → Q (some (xV 1)) (xS a b))
    (k28 : (a 102 c2 = uK k) → (¬ a 107 c2 = 0) → (sn = 0) → (¬ a 103 c2 = -1) → (a 103 c2 = p) → (¬ a 104 c2 = -1) → (a 104 c2 = uX k) → (¬ a 105 c2 = -1) → (¬ a 105 c2 = uY k) → Q (some (xV 0)) (xS a b))
    (k29 : (a 102 c2 = uK k) → (¬ a 107 c2 = 0) → (sn = 0) → (¬ a 103 c2 = -1) → (a 103 c2 = p) → (¬ a 104 c2 = -1) → (a 104 c2 = uX k) → (¬ a 105 c2 = -1) → (a 105 c2 = uY k) → Q (some (xV 1)) (xS a b))
    (k30 : (a 102 c2 = uK k) → (¬ a 107 c2 = 0) → (sn = 0) → (¬ a 103 c2 = -1) → (a 103 c2 = p) → (¬ a 104 c2 = -1) → (¬ a 104 c2 = uX k) → Q (some (xV 0)) (xS a b))
    (k31 : (a 102 c2 = uK k) → (¬ a 107 c2 = 0) → (sn = 0) → (¬ a 103 c2 = -1) → (¬ a 103 c2 = p) → Q (some (xV 0)) (xS a b))
    (k32 : (a 102 c2 = uK k) → (¬ a 107 c2 = 0) → (¬ sn = 0) → Q (some (xV 0)) (xS a b)) :
    pmWp ro d 12 213 2 0 [some (.ref 87), some (xV c2), some (xV p), some (xV k), some (xV sn)] [] (xS a b) Q := by
  refine x_aloadn xc213_0 rfl ?_
  refine x_gfr xc213_1 rfl rfl xz87 rfl ?_
  refine x_iloadn xc213_4 rfl ?_
  refine x_ial xc213_5 xz102 rfl (by have g0 := hc2; omega) (by have g0 := hc2; omega) (by have g0 := hc2; omega) ?_
  refine x_iloadn xc213_6 rfl ?_
  refine x_cS (as := [xV k]) (rest := [xV (a 102 c2)]) xc213_7 rfl rfl xi193 ⟨rfl, rfl⟩ rfl rfl ?_
  refine rk193 (by omega) ⟨by omega, by omega⟩ ?_
  refine x_icne xc213_10 (xRk (by have g0 := hc2; have g1 := xRb (hA 102 c2); omega)) (xRk (by have g0 := hkk; omega)) (fun h0 => ?_) (fun h0 => ?_)
  · refine x_iconst xc213_27 ?_
    refine x_iret xc213_28 (Or.inr ⟨rfl, (by omega)⟩) ?_
    exact k1 h0
  · replace h0 := Classical.not_not.mp h0
    refine x_aloadn xc213_13 rfl ?_
    refine x_gfr xc213_14 rfl rfl xz87 rfl ?_
    refine x_iloadn xc213_17 rfl ?_
    refine x_bal xc213_18 xz107 (Or.inl rfl) (by have g0 := hc2; omega) (by have g0 := hc2; omega) (by have g0 := hc2; omega) ?_
    refine x_ifeq xc213_19 (xRk (by have g0 := hc2; have g1 := xRb (hA 107 c2); omega)) (fun h1 => ?_) (fun h1 => ?_)
    · refine x_aloadn xc213_29 rfl ?_
      refine x_gfr xc213_30 rfl rfl xz87 rfl ?_
      refine x_iloadn xc213_33 rfl ?_
      refine x_ial xc213_34 xz103 rfl (by have g0 := hc2; omega) (by have g0 := hc2; omega) (by have g0 := hc2; omega) ?_
      refine x_iconst xc213_35 ?_
      refine x_iceq xc213_36 (xRk (by have g0 := hc2; have g1 := xRb (hA 103 c2); omega)) (xRk (by decide)) (fun h2 => ?_) (fun h2 => ?_)
      · refine x_aloadn xc213_51 rfl ?_
        refine x_gfr xc213_52 rfl rfl xz87 rfl ?_
        refine x_iloadn xc213_55 rfl ?_
        refine x_ial xc213_56 xz104 rfl (by have g0 := hc2; omega) (by have g0 := hc2; omega) (by have g0 := hc2; omega) ?_
        refine x_iconst xc213_57 ?_
        refine x_iceq xc213_58 (xRk (by have g0 := hc2; have g1 := xRb (hA 104 c2); omega)) (xRk (by decide)) (fun h3 => ?_) (fun h3 => ?_)
        · refine x_aloadn xc213_76 rfl ?_
          refine x_gfr xc213_77 rfl rfl xz87 rfl ?_
          refine x_iloadn xc213_80 rfl ?_
          refine x_ial xc213_81 xz105 rfl (by have g0 := hc2; omega) (by have g0 := hc2; omega) (by have g0 := hc2; omega) ?_
          refine x_iconst xc213_82 ?_
          refine x_iceq xc213_83 (xRk (by have g0 := hc2; have g1 := xRb (hA 105 c2); omega)) (xRk (by decide)) (fun h4 => ?_) (fun h4 => ?_)
          · refine x_iconst xc213_99 ?_
            refine x_goto xc213_100 ?_
            refine x_iret xc213_104 (Or.inr ⟨rfl, (by omega)⟩) ?_
            exact k2 h0 h1 h2 h3 h4
          · refine x_aloadn xc213_86 rfl ?_
            refine x_gfr xc213_87 rfl rfl xz87 rfl ?_
            refine x_iloadn xc213_90 rfl ?_
            refine x_ial xc213_91 xz105 rfl (by have g0 := hc2; omega) (by have g0 := hc2; omega) (by have g0 := hc2; omega) ?_
            refine x_iloadn xc213_92 rfl ?_
            refine x_cS (as := [xV k]) (rest := [xV (a 105 c2)]) xc213_93 rfl rfl xi194 ⟨rfl, rfl⟩ rfl rfl ?_
            refine rk194 (by omega) ⟨by omega, by omega⟩ ?_
            refine x_icne xc213_96 (xRk (by have g0 := hc2; have g1 := xRb (hA 105 c2); omega)) (xRk (by have g0 := hyk; omega)) (fun h5 => ?_) (fun h5 => ?_)
            · refine x_iconst xc213_103 ?_
              refine x_iret xc213_104 (Or.inr ⟨rfl, (by omega)⟩) ?_
              exact k3 h0 h1 h2 h3 h4 h5
            · replace h5 := Classical.not_not.mp h5
              refine x_iconst xc213_99 ?_
              refine x_goto xc213_100 ?_
              refine x_iret xc213_104 (Or.inr ⟨rfl, (by omega)⟩) ?_
              exact k4 h0 h1 h2 h3 h4 h5
        · refine x_aloadn xc213_61 rfl ?_
          refine x_gfr xc213_62 rfl rfl xz87 rfl ?_
          refine x_iloadn xc213_65 rfl ?_
          refine x_ial xc213_66 xz104 rfl (by have g0 := hc2; omega) (by have g0 := hc2; omega) (by have g0 := hc2; omega) ?_
          refine x_iloadn xc213_67 rfl ?_
          refine x_cS (as := [xV k]) (rest := [xV (a 104 c2)]) xc213_68 rfl rfl xi192 ⟨rfl, rfl⟩ rfl rfl ?_
          refine rk192 (by omega) ⟨by omega, by omega⟩ ?_
          refine x_iceq xc213_71 (xRk (by have g0 := hc2; have g1 := xRb (hA 104 c2); omega)) (xRk (by have g0 := hxk; omega)) (fun h6 => ?_) (fun h6 => ?_)
          · refine x_aloadn xc213_76 rfl ?_
            refine x_gfr xc213_77 rfl rfl xz87 rfl ?_
            refine x_iloadn xc213_80 rfl ?_
            refine x_ial xc213_81 xz105 rfl (by have g0 := hc2; omega) (by have g0 := hc2; omega) (by have g0 := hc2; omega) ?_
            refine x_iconst xc213_82 ?_
            refine x_iceq xc213_83 (xRk (by have g0 := hc2; have g1 := xRb (hA 105 c2); omega)) (xRk (by decide)) (fun h7 => ?_) (fun h7 => ?_)
            · refine x_iconst xc213_99 ?_
              refine x_goto xc213_100 ?_
              refine x_iret xc213_104 (Or.inr ⟨rfl, (by omega)⟩) ?_
              exact k5 h0 h1 h2 h3 h6 h7
            · refine x_aloadn xc213_86 rfl ?_
              refine x_gfr xc213_87 rfl rfl xz87 rfl ?_
              refine x_iloadn xc213_90 rfl ?_
              refine x_ial xc213_91 xz105 rfl (by have g0 := hc2; omega) (by have g0 := hc2; omega) (by have g0 := hc2; omega) ?_
              refine x_iloadn xc213_92 rfl ?_
              refine x_cS (as := [xV k]) (rest := [xV (a 105 c2)]) xc213_93 rfl rfl xi194 ⟨rfl, rfl⟩ rfl rfl ?_
              refine rk194 (by omega) ⟨by omega, by omega⟩ ?_
              refine x_icne xc213_96 (xRk (by have g0 := hc2; have g1 := xRb (hA 105 c2); omega)) (xRk (by have g0 := hyk; omega)) (fun h8 => ?_) (fun h8 => ?_)
              · refine x_iconst xc213_103 ?_
                refine x_iret xc213_104 (Or.inr ⟨rfl, (by omega)⟩) ?_
                exact k6 h0 h1 h2 h3 h6 h7 h8
              · replace h8 := Classical.not_not.mp h8
                refine x_iconst xc213_99 ?_
                refine x_goto xc213_100 ?_
                refine x_iret xc213_104 (Or.inr ⟨rfl, (by omega)⟩) ?_
                exact k7 h0 h1 h2 h3 h6 h7 h8
          · refine x_iconst xc213_74 ?_
            refine x_iret xc213_75 (Or.inr ⟨rfl, (by omega)⟩) ?_
            exact k8 h0 h1 h2 h3 h6
      · refine x_aloadn xc213_39 rfl ?_
        refine x_gfr xc213_40 rfl rfl xz87 rfl ?_
        refine x_iloadn xc213_43 rfl ?_
        refine x_ial xc213_44 xz103 rfl (by have g0 := hc2; omega) (by have g0 := hc2; omega) (by have g0 := hc2; omega) ?_
        refine x_iloadn xc213_45 rfl ?_
        refine x_iceq xc213_46 (xRk (by have g0 := hc2; have g1 := xRb (hA 103 c2); omega)) (xRk (by have g0 := hp; omega)) (fun h9 => ?_) (fun h9 => ?_)
        · refine x_aloadn xc213_51 rfl ?_
          refine x_gfr xc213_52 rfl rfl xz87 rfl ?_
          refine x_iloadn xc213_55 rfl ?_
          refine x_ial xc213_56 xz104 rfl (by have g0 := hc2; omega) (by have g0 := hc2; omega) (by have g0 := hc2; omega) ?_
          refine x_iconst xc213_57 ?_
          refine x_iceq xc213_58 (xRk (by have g0 := hc2; have g1 := xRb (hA 104 c2); omega)) (xRk (by decide)) (fun h10 => ?_) (fun h10 => ?_)
          · refine x_aloadn xc213_76 rfl ?_
            refine x_gfr xc213_77 rfl rfl xz87 rfl ?_
            refine x_iloadn xc213_80 rfl ?_
            refine x_ial xc213_81 xz105 rfl (by have g0 := hc2; omega) (by have g0 := hc2; omega) (by have g0 := hc2; omega) ?_
            refine x_iconst xc213_82 ?_
            refine x_iceq xc213_83 (xRk (by have g0 := hc2; have g1 := xRb (hA 105 c2); omega)) (xRk (by decide)) (fun h11 => ?_) (fun h11 => ?_)
            · refine x_iconst xc213_99 ?_
              refine x_goto xc213_100 ?_
              refine x_iret xc213_104 (Or.inr ⟨rfl, (by omega)⟩) ?_
              exact k9 h0 h1 h2 h9 h10 h11
            · refine x_aloadn xc213_86 rfl ?_
              refine x_gfr xc213_87 rfl rfl xz87 rfl ?_
              refine x_iloadn xc213_90 rfl ?_
              refine x_ial xc213_91 xz105 rfl (by have g0 := hc2; omega) (by have g0 := hc2; omega) (by have g0 := hc2; omega) ?_
              refine x_iloadn xc213_92 rfl ?_
              refine x_cS (as := [xV k]) (rest := [xV (a 105 c2)]) xc213_93 rfl rfl xi194 ⟨rfl, rfl⟩ rfl rfl ?_
              refine rk194 (by omega) ⟨by omega, by omega⟩ ?_
              refine x_icne xc213_96 (xRk (by have g0 := hc2; have g1 := xRb (hA 105 c2); omega)) (xRk (by have g0 := hyk; omega)) (fun h12 => ?_) (fun h12 => ?_)
              · refine x_iconst xc213_103 ?_
                refine x_iret xc213_104 (Or.inr ⟨rfl, (by omega)⟩) ?_
                exact k10 h0 h1 h2 h9 h10 h11 h12
              · replace h12 := Classical.not_not.mp h12
                refine x_iconst xc213_99 ?_
                refine x_goto xc213_100 ?_
                refine x_iret xc213_104 (Or.inr ⟨rfl, (by omega)⟩) ?_
                exact k11 h0 h1 h2 h9 h10 h11 h12
          · refine x_aloadn xc213_61 rfl ?_
            refine x_gfr xc213_62 rfl rfl xz87 rfl ?_
            refine x_iloadn xc213_65 rfl ?_
            refine x_ial xc213_66 xz104 rfl (by have g0 := hc2; omega) (by have g0 := hc2; omega) (by have g0 := hc2; omega) ?_
            refine x_iloadn xc213_67 rfl ?_
            refine x_cS (as := [xV k]) (rest := [xV (a 104 c2)]) xc213_68 rfl rfl xi192 ⟨rfl, rfl⟩ rfl rfl ?_
            refine rk192 (by omega) ⟨by omega, by omega⟩ ?_
            refine x_iceq xc213_71 (xRk (by have g0 := hc2; have g1 := xRb (hA 104 c2); omega)) (xRk (by have g0 := hxk; omega)) (fun h13 => ?_) (fun h13 => ?_)
            · refine x_aloadn xc213_76 rfl ?_
              refine x_gfr xc213_77 rfl rfl xz87 rfl ?_
              refine x_iloadn xc213_80 rfl ?_
              refine x_ial xc213_81 xz105 rfl (by have g0 := hc2; omega) (by have g0 := hc2; omega) (by have g0 := hc2; omega) ?_
              refine x_iconst xc213_82 ?_
              refine x_iceq xc213_83 (xRk (by have g0 := hc2; have g1 := xRb (hA 105 c2); omega)) (xRk (by decide)) (fun h14 => ?_) (fun h14 => ?_)
              · refine x_iconst xc213_99 ?_
                refine x_goto xc213_100 ?_
                refine x_iret xc213_104 (Or.inr ⟨rfl, (by omega)⟩) ?_
                exact k12 h0 h1 h2 h9 h10 h13 h14
              · refine x_aloadn xc213_86 rfl ?_
                refine x_gfr xc213_87 rfl rfl xz87 rfl ?_
                refine x_iloadn xc213_90 rfl ?_
                refine x_ial xc213_91 xz105 rfl (by have g0 := hc2; omega) (by have g0 := hc2; omega) (by have g0 := hc2; omega) ?_
                refine x_iloadn xc213_92 rfl ?_
                refine x_cS (as := [xV k]) (rest := [xV (a 105 c2)]) xc213_93 rfl rfl xi194 ⟨rfl, rfl⟩ rfl rfl ?_
                refine rk194 (by omega) ⟨by omega, by omega⟩ ?_
                refine x_icne xc213_96 (xRk (by have g0 := hc2; have g1 := xRb (hA 105 c2); omega)) (xRk (by have g0 := hyk; omega)) (fun h15 => ?_) (fun h15 => ?_)
                · refine x_iconst xc213_103 ?_
                  refine x_iret xc213_104 (Or.inr ⟨rfl, (by omega)⟩) ?_
                  exact k13 h0 h1 h2 h9 h10 h13 h14 h15
                · replace h15 := Classical.not_not.mp h15
                  refine x_iconst xc213_99 ?_
                  refine x_goto xc213_100 ?_
                  refine x_iret xc213_104 (Or.inr ⟨rfl, (by omega)⟩) ?_
                  exact k14 h0 h1 h2 h9 h10 h13 h14 h15
            · refine x_iconst xc213_74 ?_
              refine x_iret xc213_75 (Or.inr ⟨rfl, (by omega)⟩) ?_
              exact k15 h0 h1 h2 h9 h10 h13
        · refine x_iconst xc213_49 ?_
          refine x_iret xc213_50 (Or.inr ⟨rfl, (by omega)⟩) ?_
          exact k16 h0 h1 h2 h9
    · refine x_iload xc213_22 rfl ?_
      refine x_ifeq xc213_24 (xRk (by have g0 := hsn; omega)) (fun h16 => ?_) (fun h16 => ?_)
      · refine x_aloadn xc213_29 rfl ?_
        refine x_gfr xc213_30 rfl rfl xz87 rfl ?_
        refine x_iloadn xc213_33 rfl ?_
        refine x_ial xc213_34 xz103 rfl (by have g0 := hc2; omega) (by have g0 := hc2; omega) (by have g0 := hc2; omega) ?_
        refine x_iconst xc213_35 ?_
        refine x_iceq xc213_36 (xRk (by have g0 := hc2; have g1 := xRb (hA 103 c2); omega)) (xRk (by decide)) (fun h17 => ?_) (fun h17 => ?_)
        · refine x_aloadn xc213_51 rfl ?_
          refine x_gfr xc213_52 rfl rfl xz87 rfl ?_
          refine x_iloadn xc213_55 rfl ?_
          refine x_ial xc213_56 xz104 rfl (by have g0 := hc2; omega) (by have g0 := hc2; omega) (by have g0 := hc2; omega) ?_
          refine x_iconst xc213_57 ?_
          refine x_iceq xc213_58 (xRk (by have g0 := hc2; have g1 := xRb (hA 104 c2); omega)) (xRk (by decide)) (fun h18 => ?_) (fun h18 => ?_)
          · refine x_aloadn xc213_76 rfl ?_
            refine x_gfr xc213_77 rfl rfl xz87 rfl ?_
            refine x_iloadn xc213_80 rfl ?_
            refine x_ial xc213_81 xz105 rfl (by have g0 := hc2; omega) (by have g0 := hc2; omega) (by have g0 := hc2; omega) ?_
            refine x_iconst xc213_82 ?_
            refine x_iceq xc213_83 (xRk (by have g0 := hc2; have g1 := xRb (hA 105 c2); omega)) (xRk (by decide)) (fun h19 => ?_) (fun h19 => ?_)
            · refine x_iconst xc213_99 ?_
              refine x_goto xc213_100 ?_
              refine x_iret xc213_104 (Or.inr ⟨rfl, (by omega)⟩) ?_
              exact k17 h0 h1 h16 h17 h18 h19
            · refine x_aloadn xc213_86 rfl ?_
              refine x_gfr xc213_87 rfl rfl xz87 rfl ?_
              refine x_iloadn xc213_90 rfl ?_
              refine x_ial xc213_91 xz105 rfl (by have g0 := hc2; omega) (by have g0 := hc2; omega) (by have g0 := hc2; omega) ?_
              refine x_iloadn xc213_92 rfl ?_
              refine x_cS (as := [xV k]) (rest := [xV (a 105 c2)]) xc213_93 rfl rfl xi194 ⟨rfl, rfl⟩ rfl rfl ?_
              refine rk194 (by omega) ⟨by omega, by omega⟩ ?_
              refine x_icne xc213_96 (xRk (by have g0 := hc2; have g1 := xRb (hA 105 c2); omega)) (xRk (by have g0 := hyk; omega)) (fun h20 => ?_) (fun h20 => ?_)
              · refine x_iconst xc213_103 ?_
                refine x_iret xc213_104 (Or.inr ⟨rfl, (by omega)⟩) ?_
                exact k18 h0 h1 h16 h17 h18 h19 h20
              · replace h20 := Classical.not_not.mp h20
                refine x_iconst xc213_99 ?_
                refine x_goto xc213_100 ?_
                refine x_iret xc213_104 (Or.inr ⟨rfl, (by omega)⟩) ?_
                exact k19 h0 h1 h16 h17 h18 h19 h20
          · refine x_aloadn xc213_61 rfl ?_
            refine x_gfr xc213_62 rfl rfl xz87 rfl ?_
            refine x_iloadn xc213_65 rfl ?_
            refine x_ial xc213_66 xz104 rfl (by have g0 := hc2; omega) (by have g0 := hc2; omega) (by have g0 := hc2; omega) ?_
            refine x_iloadn xc213_67 rfl ?_
            refine x_cS (as := [xV k]) (rest := [xV (a 104 c2)]) xc213_68 rfl rfl xi192 ⟨rfl, rfl⟩ rfl rfl ?_
            refine rk192 (by omega) ⟨by omega, by omega⟩ ?_
            refine x_iceq xc213_71 (xRk (by have g0 := hc2; have g1 := xRb (hA 104 c2); omega)) (xRk (by have g0 := hxk; omega)) (fun h21 => ?_) (fun h21 => ?_)
            · refine x_aloadn xc213_76 rfl ?_
              refine x_gfr xc213_77 rfl rfl xz87 rfl ?_
              refine x_iloadn xc213_80 rfl ?_
              refine x_ial xc213_81 xz105 rfl (by have g0 := hc2; omega) (by have g0 := hc2; omega) (by have g0 := hc2; omega) ?_
              refine x_iconst xc213_82 ?_
              refine x_iceq xc213_83 (xRk (by have g0 := hc2; have g1 := xRb (hA 105 c2); omega)) (xRk (by decide)) (fun h22 => ?_) (fun h22 => ?_)
              · refine x_iconst xc213_99 ?_
                refine x_goto xc213_100 ?_
                refine x_iret xc213_104 (Or.inr ⟨rfl, (by omega)⟩) ?_
                exact k20 h0 h1 h16 h17 h18 h21 h22
              · refine x_aloadn xc213_86 rfl ?_
                refine x_gfr xc213_87 rfl rfl xz87 rfl ?_
                refine x_iloadn xc213_90 rfl ?_
                refine x_ial xc213_91 xz105 rfl (by have g0 := hc2; omega) (by have g0 := hc2; omega) (by have g0 := hc2; omega) ?_
                refine x_iloadn xc213_92 rfl ?_
                refine x_cS (as := [xV k]) (rest := [xV (a 105 c2)]) xc213_93 rfl rfl xi194 ⟨rfl, rfl⟩ rfl rfl ?_
                refine rk194 (by omega) ⟨by omega, by omega⟩ ?_
                refine x_icne xc213_96 (xRk (by have g0 := hc2; have g1 := xRb (hA 105 c2); omega)) (xRk (by have g0 := hyk; omega)) (fun h23 => ?_) (fun h23 => ?_)
                · refine x_iconst xc213_103 ?_
                  refine x_iret xc213_104 (Or.inr ⟨rfl, (by omega)⟩) ?_
                  exact k21 h0 h1 h16 h17 h18 h21 h22 h23
                · replace h23 := Classical.not_not.mp h23
                  refine x_iconst xc213_99 ?_
                  refine x_goto xc213_100 ?_
                  refine x_iret xc213_104 (Or.inr ⟨rfl, (by omega)⟩) ?_
                  exact k22 h0 h1 h16 h17 h18 h21 h22 h23
            · refine x_iconst xc213_74 ?_
              refine x_iret xc213_75 (Or.inr ⟨rfl, (by omega)⟩) ?_
              exact k23 h0 h1 h16 h17 h18 h21
        · refine x_aloadn xc213_39 rfl ?_
          refine x_gfr xc213_40 rfl rfl xz87 rfl ?_
          refine x_iloadn xc213_43 rfl ?_
          refine x_ial xc213_44 xz103 rfl (by have g0 := hc2; omega) (by have g0 := hc2; omega) (by have g0 := hc2; omega) ?_
          refine x_iloadn xc213_45 rfl ?_
          refine x_iceq xc213_46 (xRk (by have g0 := hc2; have g1 := xRb (hA 103 c2); omega)) (xRk (by have g0 := hp; omega)) (fun h24 => ?_) (fun h24 => ?_)
          · refine x_aloadn xc213_51 rfl ?_
            refine x_gfr xc213_52 rfl rfl xz87 rfl ?_
            refine x_iloadn xc213_55 rfl ?_
            refine x_ial xc213_56 xz104 rfl (by have g0 := hc2; omega) (by have g0 := hc2; omega) (by have g0 := hc2; omega) ?_
            refine x_iconst xc213_57 ?_
            refine x_iceq xc213_58 (xRk (by have g0 := hc2; have g1 := xRb (hA 104 c2); omega)) (xRk (by decide)) (fun h25 => ?_) (fun h25 => ?_)
            · refine x_aloadn xc213_76 rfl ?_
              refine x_gfr xc213_77 rfl rfl xz87 rfl ?_
              refine x_iloadn xc213_80 rfl ?_
              refine x_ial xc213_81 xz105 rfl (by have g0 := hc2; omega) (by have g0 := hc2; omega) (by have g0 := hc2; omega) ?_
              refine x_iconst xc213_82 ?_
              refine x_iceq xc213_83 (xRk (by have g0 := hc2; have g1 := xRb (hA 105 c2); omega)) (xRk (by decide)) (fun h26 => ?_) (fun h26 => ?_)
              · refine x_iconst xc213_99 ?_
                refine x_goto xc213_100 ?_
                refine x_iret xc213_104 (Or.inr ⟨rfl, (by omega)⟩) ?_
                exact k24 h0 h1 h16 h17 h24 h25 h26
              · refine x_aloadn xc213_86 rfl ?_
                refine x_gfr xc213_87 rfl rfl xz87 rfl ?_
                refine x_iloadn xc213_90 rfl ?_
                refine x_ial xc213_91 xz105 rfl (by have g0 := hc2; omega) (by have g0 := hc2; omega) (by have g0 := hc2; omega) ?_
                refine x_iloadn xc213_92 rfl ?_
                refine x_cS (as := [xV k]) (rest := [xV (a 105 c2)]) xc213_93 rfl rfl xi194 ⟨rfl, rfl⟩ rfl rfl ?_
                refine rk194 (by omega) ⟨by omega, by omega⟩ ?_
                refine x_icne xc213_96 (xRk (by have g0 := hc2; have g1 := xRb (hA 105 c2); omega)) (xRk (by have g0 := hyk; omega)) (fun h27 => ?_) (fun h27 => ?_)
                · refine x_iconst xc213_103 ?_
                  refine x_iret xc213_104 (Or.inr ⟨rfl, (by omega)⟩) ?_
                  exact k25 h0 h1 h16 h17 h24 h25 h26 h27
                · replace h27 := Classical.not_not.mp h27
                  refine x_iconst xc213_99 ?_
                  refine x_goto xc213_100 ?_
                  refine x_iret xc213_104 (Or.inr ⟨rfl, (by omega)⟩) ?_
                  exact k26 h0 h1 h16 h17 h24 h25 h26 h27
            · refine x_aloadn xc213_61 rfl ?_
              refine x_gfr xc213_62 rfl rfl xz87 rfl ?_
              refine x_iloadn xc213_65 rfl ?_
              refine x_ial xc213_66 xz104 rfl (by have g0 := hc2; omega) (by have g0 := hc2; omega) (by have g0 := hc2; omega) ?_
              refine x_iloadn xc213_67 rfl ?_
              refine x_cS (as := [xV k]) (rest := [xV (a 104 c2)]) xc213_68 rfl rfl xi192 ⟨rfl, rfl⟩ rfl rfl ?_
              refine rk192 (by omega) ⟨by omega, by omega⟩ ?_
              refine x_iceq xc213_71 (xRk (by have g0 := hc2; have g1 := xRb (hA 104 c2); omega)) (xRk (by have g0 := hxk; omega)) (fun h28 => ?_) (fun h28 => ?_)
              · refine x_aloadn xc213_76 rfl ?_
                refine x_gfr xc213_77 rfl rfl xz87 rfl ?_
                refine x_iloadn xc213_80 rfl ?_
                refine x_ial xc213_81 xz105 rfl (by have g0 := hc2; omega) (by have g0 := hc2; omega) (by have g0 := hc2; omega) ?_
                refine x_iconst xc213_82 ?_
                refine x_iceq xc213_83 (xRk (by have g0 := hc2; have g1 := xRb (hA 105 c2); omega)) (xRk (by decide)) (fun h29 => ?_) (fun h29 => ?_)
                · refine x_iconst xc213_99 ?_
                  refine x_goto xc213_100 ?_
                  refine x_iret xc213_104 (Or.inr ⟨rfl, (by omega)⟩) ?_
                  exact k27 h0 h1 h16 h17 h24 h25 h28 h29
                · refine x_aloadn xc213_86 rfl ?_
                  refine x_gfr xc213_87 rfl rfl xz87 rfl ?_
                  refine x_iloadn xc213_90 rfl ?_
                  refine x_ial xc213_91 xz105 rfl (by have g0 := hc2; omega) (by have g0 := hc2; omega) (by have g0 := hc2; omega) ?_
                  refine x_iloadn xc213_92 rfl ?_
                  refine x_cS (as := [xV k]) (rest := [xV (a 105 c2)]) xc213_93 rfl rfl xi194 ⟨rfl, rfl⟩ rfl rfl ?_
                  refine rk194 (by omega) ⟨by omega, by omega⟩ ?_
                  refine x_icne xc213_96 (xRk (by have g0 := hc2; have g1 := xRb (hA 105 c2); omega)) (xRk (by have g0 := hyk; omega)) (fun h30 => ?_) (fun h30 => ?_)
                  · refine x_iconst xc213_103 ?_
                    refine x_iret xc213_104 (Or.inr ⟨rfl, (by omega)⟩) ?_
                    exact k28 h0 h1 h16 h17 h24 h25 h28 h29 h30
                  · replace h30 := Classical.not_not.mp h30
                    refine x_iconst xc213_99 ?_
                    refine x_goto xc213_100 ?_
                    refine x_iret xc213_104 (Or.inr ⟨rfl, (by omega)⟩) ?_
                    exact k29 h0 h1 h16 h17 h24 h25 h28 h29 h30
              · refine x_iconst xc213_74 ?_
                refine x_iret xc213_75 (Or.inr ⟨rfl, (by omega)⟩) ?_
                exact k30 h0 h1 h16 h17 h24 h25 h28
          · refine x_iconst xc213_49 ?_
            refine x_iret xc213_50 (Or.inr ⟨rfl, (by omega)⟩) ?_
            exact k31 h0 h1 h16 h17 h24
      · refine x_iconst xc213_27 ?_
        refine x_iret xc213_28 (Or.inr ⟨rfl, (by omega)⟩) ?_
        exact k32 h0 h1 h16

theorem xg213 {ro : Nat → Nat × (Nat → Int32)} {d : Nat} {Q : Option Value → pmS → Prop} {a : xA} {b : xB} {c2 p k sn : Int} (h : pmWp ro d 12 213 2 0 [some (.ref 87), some (xV c2), some (xV p), some (xV k), some (xV sn)] [] (xS a b) Q) : pmCs ro (d + 1) 213 [.ref 87, xV c2, xV p, xV k, xV sn] (xS a b) Q := x_go xi213 rfl rfl rfl rfl rfl h
theorem rk213 {ro : Nat → Nat × (Nat → Int32)} {d : Nat} {Q : Option Value → pmS → Prop} {c2 p k sn : Int} {a : xA} {b : xB} (hA : xAr a) (hc2 : 0 ≤ c2 ∧ c2 ≤ 47) (hp : 0 ≤ p ∧ p ≤ 3) (hk : 0 ≤ k ∧ k < 61) (hsn : 0 ≤ sn ∧ sn ≤ 15) (hd : 2 ≤ d) (hT : Q (some (xV 1)) (xS a b)) (hF : Q (some (xV 0)) (xS a b)) : pmCs ro d 213 [.ref 87, xV c2, xV p, xV k, xV sn] (xS a b) Q := by
  refine pmCs_deep (d := 2) (xg213 (w213 hA hc2 hp hk hsn (uKb ⟨by omega, hk.2⟩) (uXb ⟨by omega, hk.2⟩) (uYb ⟨by omega, hk.2⟩) (by decide) ?_ ?_ ?_ ?_ ?_ ?_ ?_ ?_ ?_ ?_ ?_ ?_ ?_ ?_ ?_ ?_ ?_ ?_ ?_ ?_ ?_ ?_ ?_ ?_ ?_ ?_ ?_ ?_ ?_ ?_ ?_ ?_)) hd
  · intro _
    exact hF
  · intro _ _ _ _ _
    exact hT
  · intro _ _ _ _ _ _
    exact hF
  · intro _ _ _ _ _ _
    exact hT
  · intro _ _ _ _ _ _
    exact hT
  · intro _ _ _ _ _ _ _
    exact hF
  · intro _ _ _ _ _ _ _
    exact hT
  · intro _ _ _ _ _
    exact hF
  · intro _ _ _ _ _ _
    exact hT
  · intro _ _ _ _ _ _ _
    exact hF
  · intro _ _ _ _ _ _ _
    exact hT
  · intro _ _ _ _ _ _ _
    exact hT
  · intro _ _ _ _ _ _ _ _
    exact hF
  · intro _ _ _ _ _ _ _ _
    exact hT
  · intro _ _ _ _ _ _
    exact hF
  · intro _ _ _ _
    exact hF
  · intro _ _ _ _ _ _
    exact hT
  · intro _ _ _ _ _ _ _
    exact hF
  · intro _ _ _ _ _ _ _
    exact hT
  · intro _ _ _ _ _ _ _
    exact hT
  · intro _ _ _ _ _ _ _ _
    exact hF
  · intro _ _ _ _ _ _ _ _
    exact hT
  · intro _ _ _ _ _ _
    exact hF
  · intro _ _ _ _ _ _ _
    exact hT
  · intro _ _ _ _ _ _ _ _
    exact hF
  · intro _ _ _ _ _ _ _ _
    exact hT
  · intro _ _ _ _ _ _ _ _
    exact hT
  · intro _ _ _ _ _ _ _ _ _
    exact hF
  · intro _ _ _ _ _ _ _ _ _
    exact hT
  · intro _ _ _ _ _ _ _
    exact hF
  · intro _ _ _ _ _
    exact hF
  · intro _ _ _
    exact hF

theorem w212 {ro : Nat → Nat × (Nat → Int32)} {d : Nat} {Q : Option Value → pmS → Prop} {p k sn tn : Int} {a : xA} {b : xB} (htn : a 88 114 = tn) (htn0 : 0 ≤ tn ∧ tn ≤ 99)
    (k1 : pmWp ro d 12 212 0 14 [some (.ref 87), some (xV p), some (xV k), some (xV sn), some (xV (tn + 1)), some (xV 0), none, none, none, none] [] (xS a b) Q) :
    pmWp ro d 12 212 0 0 [some (.ref 87), some (xV p), some (xV k), some (xV sn), none, none, none, none, none, none] [] (xS a b) Q := by
  refine x_aloadn xc212_0 rfl ?_
  refine x_gfr xc212_1 rfl rfl xz87 rfl ?_
  refine x_bipush xc212_4 (by decide) ?_
  refine x_ial' (v := tn) xc212_6 xz88 rfl (by omega) (by omega) (by omega) htn ?_
  refine x_iconst xc212_7 ?_
  refine x_iadd xc212_8 ?_
  refine x_istore (pl' := [some (.ref 87), some (xV p), some (xV k), some (xV sn), some (xV (tn + 1)), none, none, none, none, none]) xc212_9 rfl rfl ?_
  refine x_iconst xc212_11 ?_
  refine x_istore (pl' := [some (.ref 87), some (xV p), some (xV k), some (xV sn), some (xV (tn + 1)), some (xV 0), none, none, none, none]) xc212_12 rfl rfl ?_
  exact k1

theorem xg212 {ro : Nat → Nat × (Nat → Int32)} {d : Nat} {Q : Option Value → pmS → Prop} {a : xA} {b : xB} {p k sn : Int} (h : pmWp ro d 12 212 0 0 [some (.ref 87), some (xV p), some (xV k), some (xV sn), none, none, none, none, none, none] [] (xS a b) Q) : pmCs ro (d + 1) 212 [.ref 87, xV p, xV k, xV sn] (xS a b) Q := x_go xi212 rfl rfl rfl rfl rfl h
theorem w212c {ro : Nat → Nat × (Nat → Int32)} {d : Nat} {Q : Option Value → pmS → Prop} {v6 : Option Value} {v7 : Option Value} {v8 : Option Value} {v9 : Option Value} {p k sn tn c lw : Int} {a : xA} {b : xB} (hA : xAr a) (hp : 0 ≤ p ∧ p ≤ 3) (hk : 0 ≤ k ∧ k < 61) (hsn : 0 ≤ sn ∧ sn ≤ 15) (htn : 0 ≤ tn ∧ tn ≤ 100) (hc : 0 ≤ c ∧ c ≤ 4 * lw) (hlw : a 87 3 = lw) (hlw0 : 0 ≤ lw ∧ lw ≤ 6) (hd : 1 ≤ d)
    (k1 : (4 * lw ≤ c) → Q none (xS a b))
    (k2 : (¬ 4 * lw ≤ c) → (a 100 (c / 4) ≤ c % 4) → pmWp ro d 12 212 0 360 [some (.ref 87), some (xV p), some (xV k), some (xV sn), some (xV tn), some (xV c), some (xV (41 + (3 * c))), v7, v8, v9] [] (xS a b) Q)
    (k3 : (¬ 4 * lw ≤ c) → (¬ a 100 (c / 4) ≤ c % 4) → (a 88 (41 + (3 * c) + 2) = 0) → pmWp ro d 12 212 0 65 [some (.ref 87), some (xV p), some (xV k), some (xV sn), some (xV tn), some (xV c), some (xV (41 + (3 * c))), v7, v8, v9] [] (xS a b) Q)
    (k4 : (¬ 4 * lw ≤ c) → (¬ a 100 (c / 4) ≤ c % 4) → (¬ a 88 (41 + (3 * c) + 2) = 0) → pmWp ro d 12 212 0 360 [some (.ref 87), some (xV p), some (xV k), some (xV sn), some (xV tn), some (xV c), some (xV (41 + (3 * c))), v7, v8, v9] [] (xS a b) Q) :
    pmWp ro d 12 212 0 14 [some (.ref 87), some (xV p), some (xV k), some (xV sn), some (xV tn), some (xV c), v6, v7, v8, v9] [] (xS a b) Q := by
  refine x_iload xc212_14 rfl ?_
  refine x_iconst xc212_16 ?_
  refine x_aloadn xc212_17 rfl ?_
  refine x_gfi' (k := 3) (v := lw) xc212_18 rfl (Or.inl rfl) rfl xz87 hlw ?_
  refine x_imul xc212_21 ?_
  refine x_icge xc212_22 (xRk (by have g0 := hc; have g1 := hlw0; omega)) (xRk (by have g0 := hlw0; omega)) (fun h0 => ?_) (fun h0 => ?_)
  · refine x_ret xc212_366 rfl ?_
    exact k1 h0
  · refine x_bipush xc212_25 (by decide) ?_
    refine x_iconst xc212_27 ?_
    refine x_iload xc212_28 rfl ?_
    refine x_imul xc212_30 ?_
    refine x_iadd xc212_31 ?_
    refine x_istore (pl' := [some (.ref 87), some (xV p), some (xV k), some (xV sn), some (xV tn), some (xV c), some (xV (41 + (3 * c))), v7, v8, v9]) xc212_32 rfl rfl ?_
    refine x_iload xc212_34 rfl ?_
    refine x_iconst xc212_36 ?_
    refine x_irem (by have g0 := hc; have g1 := hlw0; omega) (xRk (by have g0 := hc; have g1 := hlw0; omega)) (by omega) (xRk (by decide)) xc212_37 ?_
    refine x_aloadn xc212_38 rfl ?_
    refine x_gfr xc212_39 rfl rfl xz87 rfl ?_
    refine x_iload xc212_42 rfl ?_
    refine x_iconst xc212_44 ?_
    refine x_idiv (by have g0 := hc; have g1 := hlw0; omega) (xRk (by have g0 := hc; have g1 := hlw0; omega)) (by omega) (xRk (by decide)) xc212_45 ?_
    refine x_ial xc212_46 xz100 rfl (by have g0 := hc; have g1 := hlw0; omega) (by have g0 := hc; have g1 := hlw0; omega) (by have g0 := hc; have g1 := hlw0; omega) ?_
    refine x_icge xc212_47 (xRk (by have g0 := hc; have g1 := hlw0; omega)) (xRk (by have g0 := hc; have g1 := hlw0; have g2 := xRb (hA 100 (c / 4)); omega)) (fun h1 => ?_) (fun h1 => ?_)
    · exact k2 h0 h1
    · refine x_aloadn xc212_50 rfl ?_
      refine x_gfr xc212_51 rfl rfl xz87 rfl ?_
      refine x_iload xc212_54 rfl ?_
      refine x_iconst xc212_56 ?_
      refine x_iadd xc212_57 ?_
      refine x_ial xc212_58 xz88 rfl (by have g0 := hc; have g1 := hlw0; omega) (by have g0 := hc; have g1 := hlw0; omega) (by have g0 := hc; have g1 := hlw0; omega) ?_
      refine x_ifeq xc212_59 (xRk (by have g0 := hc; have g1 := hlw0; have g2 := xRb (hA 88 (41 + (3 * c) + 2)); omega)) (fun h2 => ?_) (fun h2 => ?_)
      · exact k3 h0 h1 h2
      · refine x_goto xc212_62 ?_
        exact k4 h0 h1 h2

theorem w212d {ro : Nat → Nat × (Nat → Int32)} {d : Nat} {Q : Option Value → pmS → Prop} {v7 : Option Value} {v8 : Option Value} {v9 : Option Value} {p k sn tn c at0 : Int} {a : xA} {b : xB} (hA : xAr a) (hp : 0 ≤ p ∧ p ≤ 3) (hk : 0 ≤ k ∧ k < 61) (hsn : 0 ≤ sn ∧ sn ≤ 15) (htn : 0 ≤ tn ∧ tn ≤ 100) (hc : 0 ≤ c ∧ c < 24) (hat : 41 ≤ at0 ∧ at0 ≤ 110) (hd : 2 ≤ d)
    (k1 : (a 101 c = 97) → pmWp ro d 12 212 0 137 [some (.ref 87), some (xV p), some (xV k), some (xV sn), some (xV tn), some (xV c), some (xV at0), some (xV 1), some (xV 1), some (xV 1)] [] (xS a b) Q)
    (k2 : (a 101 c = 97) → pmWp ro d 12 212 0 137 [some (.ref 87), some (xV p), some (xV k), some (xV sn), some (xV tn), some (xV c), some (xV at0), some (xV 1), some (xV 1), some (xV 0)] [] (xS a b) Q)
    (k3 : (¬ a 101 c = 97) → (¬ a 101 c = 114) → pmWp ro d 12 212 0 137 [some (.ref 87), some (xV p), some (xV k), some (xV sn), some (xV tn), some (xV c), some (xV at0), some (xV 1), some (xV 0), some (xV 0)] [] (xS a b) Q)
    (k4 : (¬ a 101 c = 97) → (a 101 c = 114) → pmWp ro d 12 212 0 137 [some (.ref 87), some (xV p), some (xV k), some (xV sn), some (xV tn), some (xV c), some (xV at0), some (xV 1), some (xV 1), some (xV 1)] [] (xS a b) Q)
    (k5 : (¬ a 101 c = 97) → (a 101 c = 114) → pmWp ro d 12 212 0 137 [some (.ref 87), some (xV p), some (xV k), some (xV sn), some (xV tn), some (xV c), some (xV at0), some (xV 1), some (xV 1), some (xV 0)] [] (xS a b) Q)
    (k6 : (a 101 c = 97) → pmWp ro d 12 212 0 137 [some (.ref 87), some (xV p), some (xV k), some (xV sn), some (xV tn), some (xV c), some (xV at0), some (xV 0), some (xV 1), some (xV 1)] [] (xS a b) Q)
    (k7 : (a 101 c = 97) → pmWp ro d 12 212 0 137 [some (.ref 87), some (xV p), some (xV k), some (xV sn), some (xV tn), some (xV c), some (xV at0), some (xV 0), some (xV 1), some (xV 0)] [] (xS a b) Q)
    (k8 : (¬ a 101 c = 97) → (¬ a 101 c = 114) → pmWp ro d 12 212 0 137 [some (.ref 87), some (xV p), some (xV k), some (xV sn), some (xV tn), some (xV c), some (xV at0), some (xV 0), some (xV 0), some (xV 0)] [] (xS a b) Q)
    (k9 : (¬ a 101 c = 97) → (a 101 c = 114) → pmWp ro d 12 212 0 137 [some (.ref 87), some (xV p), some (xV k), some (xV sn), some (xV tn), some (xV c), some (xV at0), some (xV 0), some (xV 1), some (xV 1)] [] (xS a b) Q)
    (k10 : (¬ a 101 c = 97) → (a 101 c = 114) → pmWp ro d 12 212 0 137 [some (.ref 87), some (xV p), some (xV k), some (xV sn), some (xV tn), some (xV c), some (xV at0), some (xV 0), some (xV 1), some (xV 0)] [] (xS a b) Q) :
    pmWp ro d 12 212 0 65 [some (.ref 87), some (xV p), some (xV k), some (xV sn), some (xV tn), some (xV c), some (xV at0), v7, v8, v9] [] (xS a b) Q := by
  refine x_aloadn xc212_65 rfl ?_
  refine x_iconst xc212_66 ?_
  refine x_iload xc212_67 rfl ?_
  refine x_imul xc212_69 ?_
  refine x_iloadn xc212_70 rfl ?_
  refine x_iloadn xc212_71 rfl ?_
  refine x_iloadn xc212_72 rfl ?_
  refine x_cV (as := [xV (2 * c), xV p, xV k, xV sn]) (rest := []) xc212_73 rfl xi213 xz87 ⟨rfl, rfl⟩ rfl rfl ?_
  refine rk213 hA (by omega) (by omega) (by omega) (by omega) (by omega) ?_ ?_
  · refine x_istore (pl' := [some (.ref 87), some (xV p), some (xV k), some (xV sn), some (xV tn), some (xV c), some (xV at0), some (xV 1), v8, v9]) xc212_76 rfl rfl ?_
    refine x_aloadn xc212_78 rfl ?_
    refine x_gfr xc212_79 rfl rfl xz87 rfl ?_
    refine x_iload xc212_82 rfl ?_
    refine x_ial xc212_84 xz101 rfl (by have g0 := hc; omega) (by have g0 := hc; omega) (by have g0 := hc; omega) ?_
    refine x_bipush xc212_85 (by decide) ?_
    refine x_iceq xc212_87 (xRk (by have g0 := hc; have g1 := xRb (hA 101 c); omega)) (xRk (by decide)) (fun h0 => ?_) (fun h0 => ?_)
    · refine x_iconst xc212_102 ?_
      refine x_goto xc212_103 ?_
      refine x_istore (pl' := [some (.ref 87), some (xV p), some (xV k), some (xV sn), some (xV tn), some (xV c), some (xV at0), some (xV 1), some (xV 1), v9]) xc212_107 rfl rfl ?_
      refine x_iload xc212_109 rfl ?_
      refine x_ifeq xc212_111 (xRk (by decide)) (fun h => absurd h (by omega)) (fun _ => ?_)
      refine x_aloadn xc212_114 rfl ?_
      refine x_iconst xc212_115 ?_
      refine x_iload xc212_116 rfl ?_
      refine x_imul xc212_118 ?_
      refine x_iconst xc212_119 ?_
      refine x_iadd xc212_120 ?_
      refine x_iloadn xc212_121 rfl ?_
      refine x_iloadn xc212_122 rfl ?_
      refine x_iloadn xc212_123 rfl ?_
      refine x_cV (as := [xV (2 * c + 1), xV p, xV k, xV sn]) (rest := []) xc212_124 rfl xi213 xz87 ⟨rfl, rfl⟩ rfl rfl ?_
      refine rk213 hA (by omega) (by omega) (by omega) (by omega) (by omega) ?_ ?_
      · refine x_ifeq xc212_127 (xRk (by decide)) (fun h => absurd h (by omega)) (fun _ => ?_)
        refine x_iconst xc212_130 ?_
        refine x_goto xc212_131 ?_
        refine x_istore (pl' := [some (.ref 87), some (xV p), some (xV k), some (xV sn), some (xV tn), some (xV c), some (xV at0), some (xV 1), some (xV 1), some (xV 1)]) xc212_135 rfl rfl ?_
        exact k1 h0
      · refine x_ifeq xc212_127 (xRk (by decide)) (fun _ => ?_) (fun h => absurd h (by omega))
        refine x_iconst xc212_134 ?_
        refine x_istore (pl' := [some (.ref 87), some (xV p), some (xV k), some (xV sn), some (xV tn), some (xV c), some (xV at0), some (xV 1), some (xV 1), some (xV 0)]) xc212_135 rfl rfl ?_
        exact k2 h0
    · refine x_aloadn xc212_90 rfl ?_
      refine x_gfr xc212_91 rfl rfl xz87 rfl ?_
      refine x_iload xc212_94 rfl ?_
      refine x_ial xc212_96 xz101 rfl (by have g0 := hc; omega) (by have g0 := hc; omega) (by have g0 := hc; omega) ?_
      refine x_bipush xc212_97 (by decide) ?_
      refine x_icne xc212_99 (xRk (by have g0 := hc; have g1 := xRb (hA 101 c); omega)) (xRk (by decide)) (fun h4 => ?_) (fun h4 => ?_)
      · refine x_iconst xc212_106 ?_
        refine x_istore (pl' := [some (.ref 87), some (xV p), some (xV k), some (xV sn), some (xV tn), some (xV c), some (xV at0), some (xV 1), some (xV 0), v9]) xc212_107 rfl rfl ?_
        refine x_iload xc212_109 rfl ?_
        refine x_ifeq xc212_111 (xRk (by decide)) (fun _ => ?_) (fun h => absurd h (by omega))
        refine x_iconst xc212_134 ?_
        refine x_istore (pl' := [some (.ref 87), some (xV p), some (xV k), some (xV sn), some (xV tn), some (xV c), some (xV at0), some (xV 1), some (xV 0), some (xV 0)]) xc212_135 rfl rfl ?_
        exact k3 h0 h4
      · replace h4 := Classical.not_not.mp h4
        refine x_iconst xc212_102 ?_
        refine x_goto xc212_103 ?_
        refine x_istore (pl' := [some (.ref 87), some (xV p), some (xV k), some (xV sn), some (xV tn), some (xV c), some (xV at0), some (xV 1), some (xV 1), v9]) xc212_107 rfl rfl ?_
        refine x_iload xc212_109 rfl ?_
        refine x_ifeq xc212_111 (xRk (by decide)) (fun h => absurd h (by omega)) (fun _ => ?_)
        refine x_aloadn xc212_114 rfl ?_
        refine x_iconst xc212_115 ?_
        refine x_iload xc212_116 rfl ?_
        refine x_imul xc212_118 ?_
        refine x_iconst xc212_119 ?_
        refine x_iadd xc212_120 ?_
        refine x_iloadn xc212_121 rfl ?_
        refine x_iloadn xc212_122 rfl ?_
        refine x_iloadn xc212_123 rfl ?_
        refine x_cV (as := [xV (2 * c + 1), xV p, xV k, xV sn]) (rest := []) xc212_124 rfl xi213 xz87 ⟨rfl, rfl⟩ rfl rfl ?_
        refine rk213 hA (by omega) (by omega) (by omega) (by omega) (by omega) ?_ ?_
        · refine x_ifeq xc212_127 (xRk (by decide)) (fun h => absurd h (by omega)) (fun _ => ?_)
          refine x_iconst xc212_130 ?_
          refine x_goto xc212_131 ?_
          refine x_istore (pl' := [some (.ref 87), some (xV p), some (xV k), some (xV sn), some (xV tn), some (xV c), some (xV at0), some (xV 1), some (xV 1), some (xV 1)]) xc212_135 rfl rfl ?_
          exact k4 h0 h4
        · refine x_ifeq xc212_127 (xRk (by decide)) (fun _ => ?_) (fun h => absurd h (by omega))
          refine x_iconst xc212_134 ?_
          refine x_istore (pl' := [some (.ref 87), some (xV p), some (xV k), some (xV sn), some (xV tn), some (xV c), some (xV at0), some (xV 1), some (xV 1), some (xV 0)]) xc212_135 rfl rfl ?_
          exact k5 h0 h4
  · refine x_istore (pl' := [some (.ref 87), some (xV p), some (xV k), some (xV sn), some (xV tn), some (xV c), some (xV at0), some (xV 0), v8, v9]) xc212_76 rfl rfl ?_
    refine x_aloadn xc212_78 rfl ?_
    refine x_gfr xc212_79 rfl rfl xz87 rfl ?_
    refine x_iload xc212_82 rfl ?_
    refine x_ial xc212_84 xz101 rfl (by have g0 := hc; omega) (by have g0 := hc; omega) (by have g0 := hc; omega) ?_
    refine x_bipush xc212_85 (by decide) ?_
    refine x_iceq xc212_87 (xRk (by have g0 := hc; have g1 := xRb (hA 101 c); omega)) (xRk (by decide)) (fun h9 => ?_) (fun h9 => ?_)
    · refine x_iconst xc212_102 ?_
      refine x_goto xc212_103 ?_
      refine x_istore (pl' := [some (.ref 87), some (xV p), some (xV k), some (xV sn), some (xV tn), some (xV c), some (xV at0), some (xV 0), some (xV 1), v9]) xc212_107 rfl rfl ?_
      refine x_iload xc212_109 rfl ?_
      refine x_ifeq xc212_111 (xRk (by decide)) (fun h => absurd h (by omega)) (fun _ => ?_)
      refine x_aloadn xc212_114 rfl ?_
      refine x_iconst xc212_115 ?_
      refine x_iload xc212_116 rfl ?_
      refine x_imul xc212_118 ?_
      refine x_iconst xc212_119 ?_
      refine x_iadd xc212_120 ?_
      refine x_iloadn xc212_121 rfl ?_
      refine x_iloadn xc212_122 rfl ?_
      refine x_iloadn xc212_123 rfl ?_
      refine x_cV (as := [xV (2 * c + 1), xV p, xV k, xV sn]) (rest := []) xc212_124 rfl xi213 xz87 ⟨rfl, rfl⟩ rfl rfl ?_
      refine rk213 hA (by omega) (by omega) (by omega) (by omega) (by omega) ?_ ?_
      · refine x_ifeq xc212_127 (xRk (by decide)) (fun h => absurd h (by omega)) (fun _ => ?_)
        refine x_iconst xc212_130 ?_
        refine x_goto xc212_131 ?_
        refine x_istore (pl' := [some (.ref 87), some (xV p), some (xV k), some (xV sn), some (xV tn), some (xV c), some (xV at0), some (xV 0), some (xV 1), some (xV 1)]) xc212_135 rfl rfl ?_
        exact k6 h9
      · refine x_ifeq xc212_127 (xRk (by decide)) (fun _ => ?_) (fun h => absurd h (by omega))
        refine x_iconst xc212_134 ?_
        refine x_istore (pl' := [some (.ref 87), some (xV p), some (xV k), some (xV sn), some (xV tn), some (xV c), some (xV at0), some (xV 0), some (xV 1), some (xV 0)]) xc212_135 rfl rfl ?_
        exact k7 h9
    · refine x_aloadn xc212_90 rfl ?_
      refine x_gfr xc212_91 rfl rfl xz87 rfl ?_
      refine x_iload xc212_94 rfl ?_
      refine x_ial xc212_96 xz101 rfl (by have g0 := hc; omega) (by have g0 := hc; omega) (by have g0 := hc; omega) ?_
      refine x_bipush xc212_97 (by decide) ?_
      refine x_icne xc212_99 (xRk (by have g0 := hc; have g1 := xRb (hA 101 c); omega)) (xRk (by decide)) (fun h13 => ?_) (fun h13 => ?_)
      · refine x_iconst xc212_106 ?_
        refine x_istore (pl' := [some (.ref 87), some (xV p), some (xV k), some (xV sn), some (xV tn), some (xV c), some (xV at0), some (xV 0), some (xV 0), v9]) xc212_107 rfl rfl ?_
        refine x_iload xc212_109 rfl ?_
        refine x_ifeq xc212_111 (xRk (by decide)) (fun _ => ?_) (fun h => absurd h (by omega))
        refine x_iconst xc212_134 ?_
        refine x_istore (pl' := [some (.ref 87), some (xV p), some (xV k), some (xV sn), some (xV tn), some (xV c), some (xV at0), some (xV 0), some (xV 0), some (xV 0)]) xc212_135 rfl rfl ?_
        exact k8 h9 h13
      · replace h13 := Classical.not_not.mp h13
        refine x_iconst xc212_102 ?_
        refine x_goto xc212_103 ?_
        refine x_istore (pl' := [some (.ref 87), some (xV p), some (xV k), some (xV sn), some (xV tn), some (xV c), some (xV at0), some (xV 0), some (xV 1), v9]) xc212_107 rfl rfl ?_
        refine x_iload xc212_109 rfl ?_
        refine x_ifeq xc212_111 (xRk (by decide)) (fun h => absurd h (by omega)) (fun _ => ?_)
        refine x_aloadn xc212_114 rfl ?_
        refine x_iconst xc212_115 ?_
        refine x_iload xc212_116 rfl ?_
        refine x_imul xc212_118 ?_
        refine x_iconst xc212_119 ?_
        refine x_iadd xc212_120 ?_
        refine x_iloadn xc212_121 rfl ?_
        refine x_iloadn xc212_122 rfl ?_
        refine x_iloadn xc212_123 rfl ?_
        refine x_cV (as := [xV (2 * c + 1), xV p, xV k, xV sn]) (rest := []) xc212_124 rfl xi213 xz87 ⟨rfl, rfl⟩ rfl rfl ?_
        refine rk213 hA (by omega) (by omega) (by omega) (by omega) (by omega) ?_ ?_
        · refine x_ifeq xc212_127 (xRk (by decide)) (fun h => absurd h (by omega)) (fun _ => ?_)
          refine x_iconst xc212_130 ?_
          refine x_goto xc212_131 ?_
          refine x_istore (pl' := [some (.ref 87), some (xV p), some (xV k), some (xV sn), some (xV tn), some (xV c), some (xV at0), some (xV 0), some (xV 1), some (xV 1)]) xc212_135 rfl rfl ?_
          exact k9 h9 h13
        · refine x_ifeq xc212_127 (xRk (by decide)) (fun _ => ?_) (fun h => absurd h (by omega))
          refine x_iconst xc212_134 ?_
          refine x_istore (pl' := [some (.ref 87), some (xV p), some (xV k), some (xV sn), some (xV tn), some (xV c), some (xV at0), some (xV 0), some (xV 1), some (xV 0)]) xc212_135 rfl rfl ?_
          exact k10 h9 h13

theorem w212e {ro : Nat → Nat × (Nat → Int32)} {d : Nat} {Q : Option Value → pmS → Prop} {p k sn tn c at0 z1 z2 z3 : Int} {a : xA} {b : xB} (hA : xAr a) (htn : 0 ≤ tn ∧ tn ≤ 100) (hc : 0 ≤ c ∧ c < 24) (hat : 41 ≤ at0 ∧ at0 ≤ 110) (hz1 : z1 = 0 ∨ z1 = 1) (hz3 : z3 = 0 ∨ z3 = 1) (hnb : ∀ c, 0 ≤ c → c < 24 → 0 ≤ a 106 c ∧ a 106 c ≤ 99)
    (k1 : (a 101 c = 97) → (z3 = 0) → (z1 = 0) → pmWp ro d 12 212 0 360 [some (.ref 87), some (xV p), some (xV k), some (xV sn), some (xV tn), some (xV c), some (xV at0), some (xV z1), some (xV z2), some (xV z3)] [] (xS (xU (xU a 88 (at0 + 2) 0) 88 at0 ((xU a 88 (at0 + 2) 0) 88 at0)) b) Q)
    (k2 : (a 101 c = 97) → (z3 = 0) → (¬ z1 = 0) → pmWp ro d 12 212 0 360 [some (.ref 87), some (xV p), some (xV k), some (xV sn), some (xV tn), some (xV c), some (xV at0), some (xV z1), some (xV z2), some (xV z3)] [] (xS (xU (xU a 88 (at0 + 2) 0) 88 at0 1) b) Q)
    (k3 : (a 101 c = 97) → (¬ z3 = 0) → (¬ a 88 at0 = 0) → (z1 = 0) → pmWp ro d 12 212 0 360 [some (.ref 87), some (xV p), some (xV k), some (xV sn), some (xV tn), some (xV c), some (xV at0), some (xV z1), some (xV z2), some (xV z3)] [] (xS (xU (xU a 88 (at0 + 2) 0) 88 at0 ((xU a 88 (at0 + 2) 0) 88 at0)) b) Q)
    (k4 : (a 101 c = 97) → (¬ z3 = 0) → (¬ a 88 at0 = 0) → (¬ z1 = 0) → pmWp ro d 12 212 0 360 [some (.ref 87), some (xV p), some (xV k), some (xV sn), some (xV tn), some (xV c), some (xV at0), some (xV z1), some (xV z2), some (xV z3)] [] (xS (xU (xU a 88 (at0 + 2) 0) 88 at0 1) b) Q)
    (k5 : (a 101 c = 97) → (¬ z3 = 0) → (a 88 at0 = 0) → (z1 = 0) → pmWp ro d 12 212 0 360 [some (.ref 87), some (xV p), some (xV k), some (xV sn), some (xV tn), some (xV c), some (xV at0), some (xV z1), some (xV z2), some (xV z3)] [] (xS (xU (xU a 88 (at0 + 2) tn) 88 at0 ((xU a 88 (at0 + 2) tn) 88 at0)) b) Q)
    (k6 : (a 101 c = 97) → (¬ z3 = 0) → (a 88 at0 = 0) → (¬ z1 = 0) → pmWp ro d 12 212 0 360 [some (.ref 87), some (xV p), some (xV k), some (xV sn), some (xV tn), some (xV c), some (xV at0), some (xV z1), some (xV z2), some (xV z3)] [] (xS (xU (xU a 88 (at0 + 2) tn) 88 at0 1) b) Q)
    (k7 : (¬ a 101 c = 97) → (a 101 c = 110) → (z1 = 0) → pmWp ro d 12 212 0 360 [some (.ref 87), some (xV p), some (xV k), some (xV sn), some (xV tn), some (xV c), some (xV at0), some (xV z1), some (xV z2), some (xV z3)] [] (xS (xU a 88 (at0 + 2) 0) b) Q)
    (k8 : (¬ a 101 c = 97) → (a 101 c = 110) → (¬ z1 = 0) → pmWp ro d 12 212 0 360 [some (.ref 87), some (xV p), some (xV k), some (xV sn), some (xV tn), some (xV c), some (xV at0), some (xV z1), some (xV z2), some (xV z3)] [] (xS (xU a 88 (at0 + 2) tn) b) Q)
    (k9 : (¬ a 101 c = 97) → (¬ a 101 c = 110) → (a 101 c = 114) → (z3 = 0) → (z1 = 0) → pmWp ro d 12 212 0 360 [some (.ref 87), some (xV p), some (xV k), some (xV sn), some (xV tn), some (xV c), some (xV at0), some (xV z1), some (xV z2), some (xV z3)] [] (xS (xU (xU a 88 (at0 + 1) (a 88 (at0 + 1))) 88 (at0 + 1) (a 88 (at0 + 1))) b) Q)
    (k10 : (¬ a 101 c = 97) → (¬ a 101 c = 110) → (a 101 c = 114) → (z3 = 0) → (¬ z1 = 0) → (¬ a 88 (at0 + 1) = 0) → pmWp ro d 12 212 0 360 [some (.ref 87), some (xV p), some (xV k), some (xV sn), some (xV tn), some (xV c), some (xV at0), some (xV z1), some (xV z2), some (xV z3)] [] (xS (xU (xU a 88 (at0 + 1) (a 88 (at0 + 1))) 88 (at0 + 1) (a 88 (at0 + 1))) b) Q)
    (k11 : (¬ a 101 c = 97) → (¬ a 101 c = 110) → (a 101 c = 114) → (z3 = 0) → (¬ z1 = 0) → (a 88 (at0 + 1) = 0) → pmWp ro d 12 212 0 360 [some (.ref 87), some (xV p), some (xV k), some (xV sn), some (xV tn), some (xV c), some (xV at0), some (xV z1), some (xV z2), some (xV z3)] [] (xS (xU (xU a 88 (at0 + 1) (a 88 (at0 + 1))) 88 (at0 + 1) (tn + (a 106 c))) b) Q)
    (k12 : (¬ a 101 c = 97) → (¬ a 101 c = 110) → (a 101 c = 114) → (¬ z3 = 0) → (z1 = 0) → pmWp ro d 12 212 0 360 [some (.ref 87), some (xV p), some (xV k), some (xV sn), some (xV tn), some (xV c), some (xV at0), some (xV z1), some (xV z2), some (xV z3)] [] (xS (xU (xU a 88 (at0 + 1) 0) 88 (at0 + 1) 0) b) Q)
    (k13 : (¬ a 101 c = 97) → (¬ a 101 c = 110) → (a 101 c = 114) → (¬ z3 = 0) → (¬ z1 = 0) → pmWp ro d 12 212 0 360 [some (.ref 87), some (xV p), some (xV k), some (xV sn), some (xV tn), some (xV c), some (xV at0), some (xV z1), some (xV z2), some (xV z3)] [] (xS (xU (xU a 88 (at0 + 1) 0) 88 (at0 + 1) (tn + (a 106 c))) b) Q)
    (k14 : (¬ a 101 c = 97) → (¬ a 101 c = 110) → (¬ a 101 c = 114) → (z1 = 0) → pmWp ro d 12 212 0 360 [some (.ref 87), some (xV p), some (xV k), some (xV sn), some (xV tn), some (xV c), some (xV at0), some (xV z1), some (xV z2), some (xV z3)] [] (xS (xU a 88 at0 (a 88 at0)) b) Q)
    (k15 : (¬ a 101 c = 97) → (¬ a 101 c = 110) → (¬ a 101 c = 114) → (¬ z1 = 0) → pmWp ro d 12 212 0 360 [some (.ref 87), some (xV p), some (xV k), some (xV sn), some (xV tn), some (xV c), some (xV at0), some (xV z1), some (xV z2), some (xV z3)] [] (xS (xU a 88 at0 1) b) Q) :
    pmWp ro d 12 212 0 137 [some (.ref 87), some (xV p), some (xV k), some (xV sn), some (xV tn), some (xV c), some (xV at0), some (xV z1), some (xV z2), some (xV z3)] [] (xS a b) Q := by
  refine x_aloadn xc212_137 rfl ?_
  refine x_gfr xc212_138 rfl rfl xz87 rfl ?_
  refine x_iload xc212_141 rfl ?_
  refine x_ial xc212_143 xz101 rfl (by have g0 := hc; omega) (by have g0 := hc; omega) (by have g0 := hc; omega) ?_
  by_cases h0 : a 101 c = 97
  · refine x_sw (c := 97) (t := 203) h0 xc212_144 rfl ?_
    refine x_aloadn xc212_203 rfl ?_
    refine x_gfr xc212_204 rfl rfl xz87 rfl ?_
    refine x_iload xc212_207 rfl ?_
    refine x_iconst xc212_209 ?_
    refine x_iadd xc212_210 ?_
    refine x_iload xc212_211 rfl ?_
    refine x_ifeq xc212_213 (xRk (by have g0 := hz3; omega)) (fun h1 => ?_) (fun h1 => ?_)
    · refine x_iconst xc212_231 ?_
      refine x_ias xc212_232 xz88 (by have g0 := hat; omega) (by have g0 := hat; omega) (by have g0 := hat; omega) ?_
      refine x_aloadn xc212_233 rfl ?_
      refine x_gfr xc212_234 rfl rfl xz87 rfl ?_
      refine x_iload xc212_237 rfl ?_
      refine x_iload xc212_239 rfl ?_
      refine x_ifeq xc212_241 (xRk (by have g0 := hz1; omega)) (fun h2 => ?_) (fun h2 => ?_)
      · refine x_aloadn xc212_248 rfl ?_
        refine x_gfr xc212_249 rfl rfl xz87 rfl ?_
        refine x_iload xc212_252 rfl ?_
        refine x_ial xc212_254 xz88 rfl (by have g0 := hat; omega) (by have g0 := hat; omega) (by have g0 := hat; omega) ?_
        refine x_ias xc212_255 xz88 (by have g0 := hat; omega) (by have g0 := hat; omega) (by have g0 := hat; omega) ?_
        refine x_goto xc212_256 ?_
        exact k1 h0 h1 h2
      · refine x_iconst xc212_244 ?_
        refine x_goto xc212_245 ?_
        refine x_ias xc212_255 xz88 (by have g0 := hat; omega) (by have g0 := hat; omega) (by have g0 := hat; omega) ?_
        refine x_goto xc212_256 ?_
        exact k2 h0 h1 h2
    · refine x_aloadn xc212_216 rfl ?_
      refine x_gfr xc212_217 rfl rfl xz87 rfl ?_
      refine x_iload xc212_220 rfl ?_
      refine x_ial xc212_222 xz88 rfl (by have g0 := hat; omega) (by have g0 := hat; omega) (by have g0 := hat; omega) ?_
      refine x_ifne xc212_223 (xRk (by have g0 := hat; have g1 := xRb (hA 88 at0); omega)) (fun h3 => ?_) (fun h3 => ?_)
      · refine x_iconst xc212_231 ?_
        refine x_ias xc212_232 xz88 (by have g0 := hat; omega) (by have g0 := hat; omega) (by have g0 := hat; omega) ?_
        refine x_aloadn xc212_233 rfl ?_
        refine x_gfr xc212_234 rfl rfl xz87 rfl ?_
        refine x_iload xc212_237 rfl ?_
        refine x_iload xc212_239 rfl ?_
        refine x_ifeq xc212_241 (xRk (by have g0 := hz1; omega)) (fun h4 => ?_) (fun h4 => ?_)
        · refine x_aloadn xc212_248 rfl ?_
          refine x_gfr xc212_249 rfl rfl xz87 rfl ?_
          refine x_iload xc212_252 rfl ?_
          refine x_ial xc212_254 xz88 rfl (by have g0 := hat; omega) (by have g0 := hat; omega) (by have g0 := hat; omega) ?_
          refine x_ias xc212_255 xz88 (by have g0 := hat; omega) (by have g0 := hat; omega) (by have g0 := hat; omega) ?_
          refine x_goto xc212_256 ?_
          exact k3 h0 h1 h3 h4
        · refine x_iconst xc212_244 ?_
          refine x_goto xc212_245 ?_
          refine x_ias xc212_255 xz88 (by have g0 := hat; omega) (by have g0 := hat; omega) (by have g0 := hat; omega) ?_
          refine x_goto xc212_256 ?_
          exact k4 h0 h1 h3 h4
      · replace h3 := Classical.not_not.mp h3
        refine x_iload xc212_226 rfl ?_
        refine x_goto xc212_228 ?_
        refine x_ias xc212_232 xz88 (by have g0 := hat; omega) (by have g0 := hat; omega) (by have g0 := hat; omega) ?_
        refine x_aloadn xc212_233 rfl ?_
        refine x_gfr xc212_234 rfl rfl xz87 rfl ?_
        refine x_iload xc212_237 rfl ?_
        refine x_iload xc212_239 rfl ?_
        refine x_ifeq xc212_241 (xRk (by have g0 := hz1; omega)) (fun h5 => ?_) (fun h5 => ?_)
        · refine x_aloadn xc212_248 rfl ?_
          refine x_gfr xc212_249 rfl rfl xz87 rfl ?_
          refine x_iload xc212_252 rfl ?_
          refine x_ial xc212_254 xz88 rfl (by have g0 := hat; omega) (by have g0 := hat; omega) (by have g0 := hat; omega) ?_
          refine x_ias xc212_255 xz88 (by have g0 := hat; omega) (by have g0 := hat; omega) (by have g0 := hat; omega) ?_
          refine x_goto xc212_256 ?_
          exact k5 h0 h1 h3 h5
        · refine x_iconst xc212_244 ?_
          refine x_goto xc212_245 ?_
          refine x_ias xc212_255 xz88 (by have g0 := hat; omega) (by have g0 := hat; omega) (by have g0 := hat; omega) ?_
          refine x_goto xc212_256 ?_
          exact k6 h0 h1 h3 h5
  by_cases h6 : a 101 c = 110
  · refine x_sw (c := 110) (t := 180) h6 xc212_144 rfl ?_
    refine x_aloadn xc212_180 rfl ?_
    refine x_gfr xc212_181 rfl rfl xz87 rfl ?_
    refine x_iload xc212_184 rfl ?_
    refine x_iconst xc212_186 ?_
    refine x_iadd xc212_187 ?_
    refine x_iload xc212_188 rfl ?_
    refine x_ifeq xc212_190 (xRk (by have g0 := hz1; omega)) (fun h7 => ?_) (fun h7 => ?_)
    · refine x_iconst xc212_198 ?_
      refine x_ias xc212_199 xz88 (by have g0 := hat; omega) (by have g0 := hat; omega) (by have g0 := hat; omega) ?_
      refine x_goto xc212_200 ?_
      exact k7 h0 h6 h7
    · refine x_iload xc212_193 rfl ?_
      refine x_goto xc212_195 ?_
      refine x_ias xc212_199 xz88 (by have g0 := hat; omega) (by have g0 := hat; omega) (by have g0 := hat; omega) ?_
      refine x_goto xc212_200 ?_
      exact k8 h0 h6 h7
  by_cases h8 : a 101 c = 114
  · refine x_sw (c := 114) (t := 259) h8 xc212_144 rfl ?_
    refine x_aloadn xc212_259 rfl ?_
    refine x_gfr xc212_260 rfl rfl xz87 rfl ?_
    refine x_iload xc212_263 rfl ?_
    refine x_iconst xc212_265 ?_
    refine x_iadd xc212_266 ?_
    refine x_iload xc212_267 rfl ?_
    refine x_ifeq xc212_269 (xRk (by have g0 := hz3; omega)) (fun h9 => ?_) (fun h9 => ?_)
    · refine x_aloadn xc212_276 rfl ?_
      refine x_gfr xc212_277 rfl rfl xz87 rfl ?_
      refine x_iload xc212_280 rfl ?_
      refine x_iconst xc212_282 ?_
      refine x_iadd xc212_283 ?_
      refine x_ial xc212_284 xz88 rfl (by have g0 := hat; omega) (by have g0 := hat; omega) (by have g0 := hat; omega) ?_
      refine x_ias xc212_285 xz88 (by have g0 := hat; omega) (by have g0 := hat; omega) (by have g0 := hat; omega) ?_
      refine x_aloadn xc212_286 rfl ?_
      refine x_gfr xc212_287 rfl rfl xz87 rfl ?_
      refine x_iload xc212_290 rfl ?_
      refine x_iconst xc212_292 ?_
      refine x_iadd xc212_293 ?_
      refine x_iload xc212_294 rfl ?_
      refine x_ifeq xc212_296 (xRk (by have g0 := hz1; omega)) (fun h10 => ?_) (fun h10 => ?_)
      · refine x_aloadn xc212_324 rfl ?_
        refine x_gfr xc212_325 rfl rfl xz87 rfl ?_
        refine x_iload xc212_328 rfl ?_
        refine x_iconst xc212_330 ?_
        refine x_iadd xc212_331 ?_
        refine x_ial' (v := a 88 (at0 + 1)) xc212_332 xz88 rfl (by have g0 := hat; omega) (by have g0 := hat; omega) (by have g0 := hat; omega) (by rw [xUa]) ?_
        refine x_ias xc212_333 xz88 (by have g0 := hat; omega) (by have g0 := hat; omega) (by have g0 := hat; omega) ?_
        refine x_goto xc212_334 ?_
        exact k9 h0 h6 h8 h9 h10
      · refine x_aloadn xc212_299 rfl ?_
        refine x_gfr xc212_300 rfl rfl xz87 rfl ?_
        refine x_iload xc212_303 rfl ?_
        refine x_iconst xc212_305 ?_
        refine x_iadd xc212_306 ?_
        refine x_ial' (v := a 88 (at0 + 1)) xc212_307 xz88 rfl (by have g0 := hat; omega) (by have g0 := hat; omega) (by have g0 := hat; omega) (by rw [xUa]) ?_
        refine x_ifne xc212_308 (xRk (by have g0 := hat; have g1 := xRb (hA 88 (at0 + 1)); omega)) (fun h11 => ?_) (fun h11 => ?_)
        · refine x_aloadn xc212_324 rfl ?_
          refine x_gfr xc212_325 rfl rfl xz87 rfl ?_
          refine x_iload xc212_328 rfl ?_
          refine x_iconst xc212_330 ?_
          refine x_iadd xc212_331 ?_
          refine x_ial' (v := a 88 (at0 + 1)) xc212_332 xz88 rfl (by have g0 := hat; omega) (by have g0 := hat; omega) (by have g0 := hat; omega) (by rw [xUa]) ?_
          refine x_ias xc212_333 xz88 (by have g0 := hat; omega) (by have g0 := hat; omega) (by have g0 := hat; omega) ?_
          refine x_goto xc212_334 ?_
          exact k10 h0 h6 h8 h9 h10 h11
        · replace h11 := Classical.not_not.mp h11
          refine x_iload xc212_311 rfl ?_
          refine x_aloadn xc212_313 rfl ?_
          refine x_gfr xc212_314 rfl rfl xz87 rfl ?_
          refine x_iload xc212_317 rfl ?_
          refine x_ial' (v := a 106 c) xc212_319 xz106 rfl (by have g0 := hc; omega) (by have g0 := hc; omega) (by have g0 := hc; omega) (by rw [xUn (by decide)]) ?_
          refine x_iadd xc212_320 ?_
          refine x_goto xc212_321 ?_
          refine x_ias xc212_333 xz88 (by have g0 := hat; omega) (by have g0 := hat; omega) (by have g0 := hat; omega) ?_
          refine x_goto xc212_334 ?_
          exact k11 h0 h6 h8 h9 h10 h11
    · refine x_iconst xc212_272 ?_
      refine x_goto xc212_273 ?_
      refine x_ias xc212_285 xz88 (by have g0 := hat; omega) (by have g0 := hat; omega) (by have g0 := hat; omega) ?_
      refine x_aloadn xc212_286 rfl ?_
      refine x_gfr xc212_287 rfl rfl xz87 rfl ?_
      refine x_iload xc212_290 rfl ?_
      refine x_iconst xc212_292 ?_
      refine x_iadd xc212_293 ?_
      refine x_iload xc212_294 rfl ?_
      refine x_ifeq xc212_296 (xRk (by have g0 := hz1; omega)) (fun h12 => ?_) (fun h12 => ?_)
      · refine x_aloadn xc212_324 rfl ?_
        refine x_gfr xc212_325 rfl rfl xz87 rfl ?_
        refine x_iload xc212_328 rfl ?_
        refine x_iconst xc212_330 ?_
        refine x_iadd xc212_331 ?_
        refine x_ial' (v := 0) xc212_332 xz88 rfl (by have g0 := hat; omega) (by have g0 := hat; omega) (by have g0 := hat; omega) (by rw [xUa]) ?_
        refine x_ias xc212_333 xz88 (by have g0 := hat; omega) (by have g0 := hat; omega) (by have g0 := hat; omega) ?_
        refine x_goto xc212_334 ?_
        exact k12 h0 h6 h8 h9 h12
      · refine x_aloadn xc212_299 rfl ?_
        refine x_gfr xc212_300 rfl rfl xz87 rfl ?_
        refine x_iload xc212_303 rfl ?_
        refine x_iconst xc212_305 ?_
        refine x_iadd xc212_306 ?_
        refine x_ial' (v := 0) xc212_307 xz88 rfl (by have g0 := hat; omega) (by have g0 := hat; omega) (by have g0 := hat; omega) (by rw [xUa]) ?_
        refine x_ifne xc212_308 (xRk (by decide)) (fun h => absurd h (by omega)) (fun _ => ?_)
        refine x_iload xc212_311 rfl ?_
        refine x_aloadn xc212_313 rfl ?_
        refine x_gfr xc212_314 rfl rfl xz87 rfl ?_
        refine x_iload xc212_317 rfl ?_
        refine x_ial' (v := a 106 c) xc212_319 xz106 rfl (by have g0 := hc; omega) (by have g0 := hc; omega) (by have g0 := hc; omega) (by rw [xUn (by decide)]) ?_
        refine x_iadd xc212_320 ?_
        refine x_goto xc212_321 ?_
        refine x_ias xc212_333 xz88 (by have g0 := hat; omega) (by have g0 := hat; omega) (by have g0 := hat; omega) ?_
        refine x_goto xc212_334 ?_
        exact k13 h0 h6 h8 h9 h12
  refine x_lsd (t := 337) xc212_144 (xRk (by have g0 := hc; have g1 := xRb (hA 101 c); omega)) (by omega) (by omega) (by omega) rfl rfl ?_
  refine x_aloadn xc212_337 rfl ?_
  refine x_gfr xc212_338 rfl rfl xz87 rfl ?_
  refine x_iload xc212_341 rfl ?_
  refine x_iload xc212_343 rfl ?_
  refine x_ifeq xc212_345 (xRk (by have g0 := hz1; omega)) (fun h14 => ?_) (fun h14 => ?_)
  · refine x_aloadn xc212_352 rfl ?_
    refine x_gfr xc212_353 rfl rfl xz87 rfl ?_
    refine x_iload xc212_356 rfl ?_
    refine x_ial xc212_358 xz88 rfl (by have g0 := hat; omega) (by have g0 := hat; omega) (by have g0 := hat; omega) ?_
    refine x_ias xc212_359 xz88 (by have g0 := hat; omega) (by have g0 := hat; omega) (by have g0 := hat; omega) ?_
    exact k14 h0 h6 h8 h14
  · refine x_iconst xc212_348 ?_
    refine x_goto xc212_349 ?_
    refine x_ias xc212_359 xz88 (by have g0 := hat; omega) (by have g0 := hat; omega) (by have g0 := hat; omega) ?_
    exact k15 h0 h6 h8 h14

theorem w212f {ro : Nat → Nat × (Nat → Int32)} {d : Nat} {Q : Option Value → pmS → Prop} {v6 : Option Value} {v7 : Option Value} {v8 : Option Value} {v9 : Option Value} {p k sn tn c : Int} {a : xA} {b : xB} (hc : 0 ≤ c ∧ c < 24)
    (k1 : pmWp ro d 12 212 0 14 [some (.ref 87), some (xV p), some (xV k), some (xV sn), some (xV tn), some (xV (c + 1)), v6, v7, v8, v9] [] (xS a b) Q) :
    pmWp ro d 12 212 0 360 [some (.ref 87), some (xV p), some (xV k), some (xV sn), some (xV tn), some (xV c), v6, v7, v8, v9] [] (xS a b) Q := by
  refine x_iinc (pl' := [some (.ref 87), some (xV p), some (xV k), some (xV sn), some (xV tn), some (xV (c + 1)), v6, v7, v8, v9]) xc212_360 rfl rfl ?_
  refine x_goto xc212_363 ?_
  exact k1

theorem w214 {ro : Nat → Nat × (Nat → Int32)} {d : Nat} {Q : Option Value → pmS → Prop} {tn : Int} {a : xA} {b : xB} (htn : a 88 114 = tn) (htn0 : 0 ≤ tn ∧ tn ≤ 99)
    (k1 : pmWp ro d 12 214 0 26 [some (.ref 87), some (xV 0), none, none] [] (xS (xU (xU a 88 114 (tn + 1)) 88 115 0) b) Q) :
    pmWp ro d 12 214 0 0 [some (.ref 87), none, none, none] [] (xS a b) Q := by
  refine x_aloadn xc214_0 rfl ?_
  refine x_gfr xc214_1 rfl rfl xz87 rfl ?_
  refine x_bipush xc214_4 (by decide) ?_
  refine x_aloadn xc214_6 rfl ?_
  refine x_gfr xc214_7 rfl rfl xz87 rfl ?_
  refine x_bipush xc214_10 (by decide) ?_
  refine x_ial' (v := tn) xc214_12 xz88 rfl (by omega) (by omega) (by omega) htn ?_
  refine x_iconst xc214_13 ?_
  refine x_iadd xc214_14 ?_
  refine x_ias xc214_15 xz88 (by omega) (by omega) (by omega) ?_
  refine x_aloadn xc214_16 rfl ?_
  refine x_gfr xc214_17 rfl rfl xz87 rfl ?_
  refine x_bipush xc214_20 (by decide) ?_
  refine x_iconst xc214_22 ?_
  refine x_ias xc214_23 xz88 (by omega) (by omega) (by omega) ?_
  refine x_iconst xc214_24 ?_
  refine x_istoren (pl' := [some (.ref 87), some (xV 0), none, none]) xc214_25 rfl rfl ?_
  exact k1

theorem xg214 {ro : Nat → Nat × (Nat → Int32)} {d : Nat} {Q : Option Value → pmS → Prop} {a : xA} {b : xB} (h : pmWp ro d 12 214 0 0 [some (.ref 87), none, none, none] [] (xS a b) Q) : pmCs ro (d + 1) 214 [.ref 87] (xS a b) Q := x_go xi214 rfl rfl rfl rfl rfl h
theorem w214c {ro : Nat → Nat × (Nat → Int32)} {d : Nat} {Q : Option Value → pmS → Prop} {v2 : Option Value} {v3 : Option Value} {tn c lw : Int} {a : xA} {b : xB} (hA : xAr a) (htn : a 88 114 = tn) (htn0 : 0 ≤ tn ∧ tn ≤ 100) (hc : 0 ≤ c ∧ c ≤ 4 * lw) (hlw : a 87 3 = lw) (hlw0 : 0 ≤ lw ∧ lw ≤ 6) (hnb : ∀ c, 0 ≤ c → c < 24 → 0 ≤ a 106 c ∧ a 106 c ≤ 99)
    (k1 : (4 * lw ≤ c) → Q none (xS a b))
    (k2 : (¬ 4 * lw ≤ c) → (a 100 (c / 4) ≤ c % 4) → pmWp ro d 12 214 0 186 [some (.ref 87), some (xV c), some (xV (41 + (3 * c))), v3] [] (xS a b) Q)
    (k3 : (¬ 4 * lw ≤ c) → (¬ a 100 (c / 4) ≤ c % 4) → (a 88 (41 + (3 * c) + 2) = 0) → (¬ a 101 c = 114) → (¬ a 101 c = 101) → pmWp ro d 12 214 0 186 [some (.ref 87), some (xV c), some (xV (41 + (3 * c))), some (xV 0)] [] (xS (xU a 88 (41 + (3 * c) + 2) 0) b) Q)
    (k4 : (¬ 4 * lw ≤ c) → (¬ a 100 (c / 4) ≤ c % 4) → (a 88 (41 + (3 * c) + 2) = 0) → (¬ a 101 c = 114) → (a 101 c = 101) → (¬ a 88 (41 + (3 * c)) = 0) → pmWp ro d 12 214 0 186 [some (.ref 87), some (xV c), some (xV (41 + (3 * c))), some (xV 0)] [] (xS (xU a 88 (41 + (3 * c) + 2) 0) b) Q)
    (k5 : (¬ 4 * lw ≤ c) → (¬ a 100 (c / 4) ≤ c % 4) → (a 88 (41 + (3 * c) + 2) = 0) → (¬ a 101 c = 114) → (a 101 c = 101) → (a 88 (41 + (3 * c)) = 0) → (tn < a 106 c) → pmWp ro d 12 214 0 186 [some (.ref 87), some (xV c), some (xV (41 + (3 * c))), some (xV 0)] [] (xS (xU a 88 (41 + (3 * c) + 2) 0) b) Q)
    (k6 : (¬ 4 * lw ≤ c) → (¬ a 100 (c / 4) ≤ c % 4) → (a 88 (41 + (3 * c) + 2) = 0) → (¬ a 101 c = 114) → (a 101 c = 101) → (a 88 (41 + (3 * c)) = 0) → (¬ tn < a 106 c) → pmWp ro d 12 214 0 186 [some (.ref 87), some (xV c), some (xV (41 + (3 * c))), some (xV 1)] [] (xS (xU a 88 (41 + (3 * c) + 2) tn) b) Q)
    (k7 : (¬ 4 * lw ≤ c) → (¬ a 100 (c / 4) ≤ c % 4) → (a 88 (41 + (3 * c) + 2) = 0) → (a 101 c = 114) → (a 88 (41 + (3 * c) + 1) = 0) → pmWp ro d 12 214 0 186 [some (.ref 87), some (xV c), some (xV (41 + (3 * c))), some (xV 0)] [] (xS (xU a 88 (41 + (3 * c) + 2) 0) b) Q)
    (k8 : (¬ 4 * lw ≤ c) → (¬ a 100 (c / 4) ≤ c % 4) → (a 88 (41 + (3 * c) + 2) = 0) → (a 101 c = 114) → (¬ a 88 (41 + (3 * c) + 1) = 0) → (tn < a 88 (41 + (3 * c) + 1)) → pmWp ro d 12 214 0 186 [some (.ref 87), some (xV c), some (xV (41 + (3 * c))), some (xV 0)] [] (xS (xU a 88 (41 + (3 * c) + 2) 0) b) Q)
    (k9 : (¬ 4 * lw ≤ c) → (¬ a 100 (c / 4) ≤ c % 4) → (a 88 (41 + (3 * c) + 2) = 0) → (a 101 c = 114) → (¬ a 88 (41 + (3 * c) + 1) = 0) → (¬ tn < a 88 (41 + (3 * c) + 1)) → pmWp ro d 12 214 0 186 [some (.ref 87), some (xV c), some (xV (41 + (3 * c))), some (xV 1)] [] (xS (xU a 88 (41 + (3 * c) + 2) tn) b) Q)
    (k10 : (¬ 4 * lw ≤ c) → (¬ a 100 (c / 4) ≤ c % 4) → (¬ a 88 (41 + (3 * c) + 2) = 0) → pmWp ro d 12 214 0 186 [some (.ref 87), some (xV c), some (xV (41 + (3 * c))), v3] [] (xS a b) Q) :
    pmWp ro d 12 214 0 26 [some (.ref 87), some (xV c), v2, v3] [] (xS a b) Q := by
  refine x_iloadn xc214_26 rfl ?_
  refine x_iconst xc214_27 ?_
  refine x_aloadn xc214_28 rfl ?_
  refine x_gfi' (k := 3) (v := lw) xc214_29 rfl (Or.inl rfl) rfl xz87 hlw ?_
  refine x_imul xc214_32 ?_
  refine x_icge xc214_33 (xRk (by have g0 := hc; have g1 := hlw0; omega)) (xRk (by have g0 := hlw0; omega)) (fun h0 => ?_) (fun h0 => ?_)
  · refine x_ret xc214_192 rfl ?_
    exact k1 h0
  · refine x_bipush xc214_36 (by decide) ?_
    refine x_iconst xc214_38 ?_
    refine x_iloadn xc214_39 rfl ?_
    refine x_imul xc214_40 ?_
    refine x_iadd xc214_41 ?_
    refine x_istoren (pl' := [some (.ref 87), some (xV c), some (xV (41 + (3 * c))), v3]) xc214_42 rfl rfl ?_
    refine x_iloadn xc214_43 rfl ?_
    refine x_iconst xc214_44 ?_
    refine x_irem (by have g0 := hc; have g1 := hlw0; omega) (xRk (by have g0 := hc; have g1 := hlw0; omega)) (by omega) (xRk (by decide)) xc214_45 ?_
    refine x_aloadn xc214_46 rfl ?_
    refine x_gfr xc214_47 rfl rfl xz87 rfl ?_
    refine x_iloadn xc214_50 rfl ?_
    refine x_iconst xc214_51 ?_
    refine x_idiv (by have g0 := hc; have g1 := hlw0; omega) (xRk (by have g0 := hc; have g1 := hlw0; omega)) (by omega) (xRk (by decide)) xc214_52 ?_
    refine x_ial xc214_53 xz100 rfl (by have g0 := hc; have g1 := hlw0; omega) (by have g0 := hc; have g1 := hlw0; omega) (by have g0 := hc; have g1 := hlw0; omega) ?_
    refine x_icge xc214_54 (xRk (by have g0 := hc; have g1 := hlw0; omega)) (xRk (by have g0 := hc; have g1 := hlw0; have g2 := xRb (hA 100 (c / 4)); omega)) (fun h1 => ?_) (fun h1 => ?_)
    · exact k2 h0 h1
    · refine x_aloadn xc214_57 rfl ?_
      refine x_gfr xc214_58 rfl rfl xz87 rfl ?_
      refine x_iloadn xc214_61 rfl ?_
      refine x_iconst xc214_62 ?_
      refine x_iadd xc214_63 ?_
      refine x_ial xc214_64 xz88 rfl (by have g0 := hc; have g1 := hlw0; omega) (by have g0 := hc; have g1 := hlw0; omega) (by have g0 := hc; have g1 := hlw0; omega) ?_
      refine x_ifeq xc214_65 (xRk (by have g0 := hc; have g1 := hlw0; have g2 := xRb (hA 88 (41 + (3 * c) + 2)); omega)) (fun h2 => ?_) (fun h2 => ?_)
      · refine x_aloadn xc214_71 rfl ?_
        refine x_gfr xc214_72 rfl rfl xz87 rfl ?_
        refine x_iloadn xc214_75 rfl ?_
        refine x_ial xc214_76 xz101 rfl (by have g0 := hc; have g1 := hlw0; omega) (by have g0 := hc; have g1 := hlw0; omega) (by have g0 := hc; have g1 := hlw0; omega) ?_
        refine x_bipush xc214_77 (by decide) ?_
        refine x_icne xc214_79 (xRk (by have g0 := hc; have g1 := hlw0; have g2 := xRb (hA 101 c); omega)) (xRk (by decide)) (fun h3 => ?_) (fun h3 => ?_)
        · refine x_iconst xc214_115 ?_
          refine x_istoren (pl' := [some (.ref 87), some (xV c), some (xV (41 + (3 * c))), some (xV 0)]) xc214_116 rfl rfl ?_
          refine x_iloadn xc214_117 rfl ?_
          refine x_ifne xc214_118 (xRk (by decide)) (fun h => absurd h (by omega)) (fun _ => ?_)
          refine x_aloadn xc214_121 rfl ?_
          refine x_gfr xc214_122 rfl rfl xz87 rfl ?_
          refine x_iloadn xc214_125 rfl ?_
          refine x_ial xc214_126 xz101 rfl (by have g0 := hc; have g1 := hlw0; omega) (by have g0 := hc; have g1 := hlw0; omega) (by have g0 := hc; have g1 := hlw0; omega) ?_
          refine x_bipush xc214_127 (by decide) ?_
          refine x_icne xc214_129 (xRk (by have g0 := hc; have g1 := hlw0; have g2 := xRb (hA 101 c); omega)) (xRk (by decide)) (fun h5 => ?_) (fun h5 => ?_)
          · refine x_iconst xc214_161 ?_
            refine x_istoren (pl' := [some (.ref 87), some (xV c), some (xV (41 + (3 * c))), some (xV 0)]) xc214_162 rfl rfl ?_
            refine x_aloadn xc214_163 rfl ?_
            refine x_gfr xc214_164 rfl rfl xz87 rfl ?_
            refine x_iloadn xc214_167 rfl ?_
            refine x_iconst xc214_168 ?_
            refine x_iadd xc214_169 ?_
            refine x_iloadn xc214_170 rfl ?_
            refine x_ifeq xc214_171 (xRk (by decide)) (fun _ => ?_) (fun h => absurd h (by omega))
            refine x_iconst xc214_184 ?_
            refine x_ias xc214_185 xz88 (by have g0 := hc; have g1 := hlw0; omega) (by have g0 := hc; have g1 := hlw0; omega) (by have g0 := hc; have g1 := hlw0; omega) ?_
            exact k3 h0 h1 h2 h3 h5
          · replace h5 := Classical.not_not.mp h5
            refine x_aloadn xc214_132 rfl ?_
            refine x_gfr xc214_133 rfl rfl xz87 rfl ?_
            refine x_iloadn xc214_136 rfl ?_
            refine x_ial xc214_137 xz88 rfl (by have g0 := hc; have g1 := hlw0; omega) (by have g0 := hc; have g1 := hlw0; omega) (by have g0 := hc; have g1 := hlw0; omega) ?_
            refine x_ifne xc214_138 (xRk (by have g0 := hc; have g1 := hlw0; have g2 := xRb (hA 88 (41 + (3 * c))); omega)) (fun h7 => ?_) (fun h7 => ?_)
            · refine x_iconst xc214_161 ?_
              refine x_istoren (pl' := [some (.ref 87), some (xV c), some (xV (41 + (3 * c))), some (xV 0)]) xc214_162 rfl rfl ?_
              refine x_aloadn xc214_163 rfl ?_
              refine x_gfr xc214_164 rfl rfl xz87 rfl ?_
              refine x_iloadn xc214_167 rfl ?_
              refine x_iconst xc214_168 ?_
              refine x_iadd xc214_169 ?_
              refine x_iloadn xc214_170 rfl ?_
              refine x_ifeq xc214_171 (xRk (by decide)) (fun _ => ?_) (fun h => absurd h (by omega))
              refine x_iconst xc214_184 ?_
              refine x_ias xc214_185 xz88 (by have g0 := hc; have g1 := hlw0; omega) (by have g0 := hc; have g1 := hlw0; omega) (by have g0 := hc; have g1 := hlw0; omega) ?_
              exact k4 h0 h1 h2 h3 h5 h7
            · replace h7 := Classical.not_not.mp h7
              refine x_aloadn xc214_141 rfl ?_
              refine x_gfr xc214_142 rfl rfl xz87 rfl ?_
              refine x_bipush xc214_145 (by decide) ?_
              refine x_ial' (v := tn) xc214_147 xz88 rfl (by omega) (by omega) (by omega) htn ?_
              refine x_aloadn xc214_148 rfl ?_
              refine x_gfr xc214_149 rfl rfl xz87 rfl ?_
              refine x_iloadn xc214_152 rfl ?_
              refine x_ial xc214_153 xz106 rfl (by have g0 := hc; have g1 := hlw0; omega) (by have g0 := hc; have g1 := hlw0; omega) (by have g0 := hc; have g1 := hlw0; omega) ?_
              refine x_iclt xc214_154 (xRk (by have g0 := htn0; omega)) (xRk (by have g0 := hc; have g1 := hlw0; have g2 := hnb c (by omega) (by omega); omega)) (fun h9 => ?_) (fun h9 => ?_)
              · refine x_iconst xc214_161 ?_
                refine x_istoren (pl' := [some (.ref 87), some (xV c), some (xV (41 + (3 * c))), some (xV 0)]) xc214_162 rfl rfl ?_
                refine x_aloadn xc214_163 rfl ?_
                refine x_gfr xc214_164 rfl rfl xz87 rfl ?_
                refine x_iloadn xc214_167 rfl ?_
                refine x_iconst xc214_168 ?_
                refine x_iadd xc214_169 ?_
                refine x_iloadn xc214_170 rfl ?_
                refine x_ifeq xc214_171 (xRk (by decide)) (fun _ => ?_) (fun h => absurd h (by omega))
                refine x_iconst xc214_184 ?_
                refine x_ias xc214_185 xz88 (by have g0 := hc; have g1 := hlw0; omega) (by have g0 := hc; have g1 := hlw0; omega) (by have g0 := hc; have g1 := hlw0; omega) ?_
                exact k5 h0 h1 h2 h3 h5 h7 h9
              · refine x_iconst xc214_157 ?_
                refine x_goto xc214_158 ?_
                refine x_istoren (pl' := [some (.ref 87), some (xV c), some (xV (41 + (3 * c))), some (xV 1)]) xc214_162 rfl rfl ?_
                refine x_aloadn xc214_163 rfl ?_
                refine x_gfr xc214_164 rfl rfl xz87 rfl ?_
                refine x_iloadn xc214_167 rfl ?_
                refine x_iconst xc214_168 ?_
                refine x_iadd xc214_169 ?_
                refine x_iloadn xc214_170 rfl ?_
                refine x_ifeq xc214_171 (xRk (by decide)) (fun h => absurd h (by omega)) (fun _ => ?_)
                refine x_aloadn xc214_174 rfl ?_
                refine x_gfr xc214_175 rfl rfl xz87 rfl ?_
                refine x_bipush xc214_178 (by decide) ?_
                refine x_ial' (v := tn) xc214_180 xz88 rfl (by omega) (by omega) (by omega) htn ?_
                refine x_goto xc214_181 ?_
                refine x_ias xc214_185 xz88 (by have g0 := hc; have g1 := hlw0; omega) (by have g0 := hc; have g1 := hlw0; omega) (by have g0 := hc; have g1 := hlw0; omega) ?_
                exact k6 h0 h1 h2 h3 h5 h7 h9
        · replace h3 := Classical.not_not.mp h3
          refine x_aloadn xc214_82 rfl ?_
          refine x_gfr xc214_83 rfl rfl xz87 rfl ?_
          refine x_iloadn xc214_86 rfl ?_
          refine x_iconst xc214_87 ?_
          refine x_iadd xc214_88 ?_
          refine x_ial xc214_89 xz88 rfl (by have g0 := hc; have g1 := hlw0; omega) (by have g0 := hc; have g1 := hlw0; omega) (by have g0 := hc; have g1 := hlw0; omega) ?_
          refine x_ifeq xc214_90 (xRk (by have g0 := hc; have g1 := hlw0; have g2 := xRb (hA 88 (41 + (3 * c) + 1)); omega)) (fun h12 => ?_) (fun h12 => ?_)
          · refine x_iconst xc214_115 ?_
            refine x_istoren (pl' := [some (.ref 87), some (xV c), some (xV (41 + (3 * c))), some (xV 0)]) xc214_116 rfl rfl ?_
            refine x_iloadn xc214_117 rfl ?_
            refine x_ifne xc214_118 (xRk (by decide)) (fun h => absurd h (by omega)) (fun _ => ?_)
            refine x_aloadn xc214_121 rfl ?_
            refine x_gfr xc214_122 rfl rfl xz87 rfl ?_
            refine x_iloadn xc214_125 rfl ?_
            refine x_ial xc214_126 xz101 rfl (by have g0 := hc; have g1 := hlw0; omega) (by have g0 := hc; have g1 := hlw0; omega) (by have g0 := hc; have g1 := hlw0; omega) ?_
            refine x_bipush xc214_127 (by decide) ?_
            refine x_icne xc214_129 (xRk (by have g0 := hc; have g1 := hlw0; have g2 := xRb (hA 101 c); omega)) (xRk (by decide)) (fun _ => ?_) (fun h => absurd h (by omega))
            refine x_iconst xc214_161 ?_
            refine x_istoren (pl' := [some (.ref 87), some (xV c), some (xV (41 + (3 * c))), some (xV 0)]) xc214_162 rfl rfl ?_
            refine x_aloadn xc214_163 rfl ?_
            refine x_gfr xc214_164 rfl rfl xz87 rfl ?_
            refine x_iloadn xc214_167 rfl ?_
            refine x_iconst xc214_168 ?_
            refine x_iadd xc214_169 ?_
            refine x_iloadn xc214_170 rfl ?_
            refine x_ifeq xc214_171 (xRk (by decide)) (fun _ => ?_) (fun h => absurd h (by omega))
            refine x_iconst xc214_184 ?_
            refine x_ias xc214_185 xz88 (by have g0 := hc; have g1 := hlw0; omega) (by have g0 := hc; have g1 := hlw0; omega) (by have g0 := hc; have g1 := hlw0; omega) ?_
            exact k7 h0 h1 h2 h3 h12
          · refine x_aloadn xc214_93 rfl ?_
            refine x_gfr xc214_94 rfl rfl xz87 rfl ?_
            refine x_bipush xc214_97 (by decide) ?_
            refine x_ial' (v := tn) xc214_99 xz88 rfl (by omega) (by omega) (by omega) htn ?_
            refine x_aloadn xc214_100 rfl ?_
            refine x_gfr xc214_101 rfl rfl xz87 rfl ?_
            refine x_iloadn xc214_104 rfl ?_
            refine x_iconst xc214_105 ?_
            refine x_iadd xc214_106 ?_
            refine x_ial xc214_107 xz88 rfl (by have g0 := hc; have g1 := hlw0; omega) (by have g0 := hc; have g1 := hlw0; omega) (by have g0 := hc; have g1 := hlw0; omega) ?_
            refine x_iclt xc214_108 (xRk (by have g0 := htn0; omega)) (xRk (by have g0 := hc; have g1 := hlw0; have g2 := xRb (hA 88 (41 + (3 * c) + 1)); omega)) (fun h16 => ?_) (fun h16 => ?_)
            · refine x_iconst xc214_115 ?_
              refine x_istoren (pl' := [some (.ref 87), some (xV c), some (xV (41 + (3 * c))), some (xV 0)]) xc214_116 rfl rfl ?_
              refine x_iloadn xc214_117 rfl ?_
              refine x_ifne xc214_118 (xRk (by decide)) (fun h => absurd h (by omega)) (fun _ => ?_)
              refine x_aloadn xc214_121 rfl ?_
              refine x_gfr xc214_122 rfl rfl xz87 rfl ?_
              refine x_iloadn xc214_125 rfl ?_
              refine x_ial xc214_126 xz101 rfl (by have g0 := hc; have g1 := hlw0; omega) (by have g0 := hc; have g1 := hlw0; omega) (by have g0 := hc; have g1 := hlw0; omega) ?_
              refine x_bipush xc214_127 (by decide) ?_
              refine x_icne xc214_129 (xRk (by have g0 := hc; have g1 := hlw0; have g2 := xRb (hA 101 c); omega)) (xRk (by decide)) (fun _ => ?_) (fun h => absurd h (by omega))
              refine x_iconst xc214_161 ?_
              refine x_istoren (pl' := [some (.ref 87), some (xV c), some (xV (41 + (3 * c))), some (xV 0)]) xc214_162 rfl rfl ?_
              refine x_aloadn xc214_163 rfl ?_
              refine x_gfr xc214_164 rfl rfl xz87 rfl ?_
              refine x_iloadn xc214_167 rfl ?_
              refine x_iconst xc214_168 ?_
              refine x_iadd xc214_169 ?_
              refine x_iloadn xc214_170 rfl ?_
              refine x_ifeq xc214_171 (xRk (by decide)) (fun _ => ?_) (fun h => absurd h (by omega))
              refine x_iconst xc214_184 ?_
              refine x_ias xc214_185 xz88 (by have g0 := hc; have g1 := hlw0; omega) (by have g0 := hc; have g1 := hlw0; omega) (by have g0 := hc; have g1 := hlw0; omega) ?_
              exact k8 h0 h1 h2 h3 h12 h16
            · refine x_iconst xc214_111 ?_
              refine x_goto xc214_112 ?_
              refine x_istoren (pl' := [some (.ref 87), some (xV c), some (xV (41 + (3 * c))), some (xV 1)]) xc214_116 rfl rfl ?_
              refine x_iloadn xc214_117 rfl ?_
              refine x_ifne xc214_118 (xRk (by decide)) (fun _ => ?_) (fun h => absurd h (by omega))
              refine x_iconst xc214_157 ?_
              refine x_goto xc214_158 ?_
              refine x_istoren (pl' := [some (.ref 87), some (xV c), some (xV (41 + (3 * c))), some (xV 1)]) xc214_162 rfl rfl ?_
              refine x_aloadn xc214_163 rfl ?_
              refine x_gfr xc214_164 rfl rfl xz87 rfl ?_
              refine x_iloadn xc214_167 rfl ?_
              refine x_iconst xc214_168 ?_
              refine x_iadd xc214_169 ?_
              refine x_iloadn xc214_170 rfl ?_
              refine x_ifeq xc214_171 (xRk (by decide)) (fun h => absurd h (by omega)) (fun _ => ?_)
              refine x_aloadn xc214_174 rfl ?_
              refine x_gfr xc214_175 rfl rfl xz87 rfl ?_
              refine x_bipush xc214_178 (by decide) ?_
              refine x_ial' (v := tn) xc214_180 xz88 rfl (by omega) (by omega) (by omega) htn ?_
              refine x_goto xc214_181 ?_
              refine x_ias xc214_185 xz88 (by have g0 := hc; have g1 := hlw0; omega) (by have g0 := hc; have g1 := hlw0; omega) (by have g0 := hc; have g1 := hlw0; omega) ?_
              exact k9 h0 h1 h2 h3 h12 h16
      · refine x_goto xc214_68 ?_
        exact k10 h0 h1 h2

theorem w214f {ro : Nat → Nat × (Nat → Int32)} {d : Nat} {Q : Option Value → pmS → Prop} {v2 : Option Value} {v3 : Option Value} {c : Int} {a : xA} {b : xB} (hc : 0 ≤ c ∧ c < 24)
    (k1 : pmWp ro d 12 214 0 26 [some (.ref 87), some (xV (c + 1)), v2, v3] [] (xS a b) Q) :
    pmWp ro d 12 214 0 186 [some (.ref 87), some (xV c), v2, v3] [] (xS a b) Q := by
  refine x_iinc (pl' := [some (.ref 87), some (xV (c + 1)), v2, v3]) xc214_186 rfl rfl ?_
  refine x_goto xc214_189 ?_
  exact k1

end
