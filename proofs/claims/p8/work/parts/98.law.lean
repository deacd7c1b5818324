/-! the law, exactly -/
section
set_option maxRecDepth 100000
theorem xi107 : pmInf[107]? = some pmI_107 := rfl
theorem xi109 : pmInf[109]? = some pmI_109 := rfl
theorem xi201 : pmInf[201]? = some pmI_201 := rfl
theorem xi203 : pmInf[203]? = some pmI_203 := rfl
theorem xc246_18 : pmCode 246 18 = some (.iload_n 3) ∧ 18 + 1 = 19 := ⟨rfl, rfl⟩
theorem xc246_19 : pmCode 246 19 = some (.aload_n 0) ∧ 19 + 1 = 20 := ⟨rfl, rfl⟩
theorem xc246_20 : pmCode 246 20 = some .arraylength ∧ 20 + 1 = 21 := ⟨rfl, rfl⟩
theorem xc246_21 : pmCode 246 21 = some (.bipush 6) ∧ 21 + 2 = 23 := ⟨rfl, rfl⟩
theorem xc246_23 : pmCode 246 23 = some .isub ∧ 23 + 1 = 24 := ⟨rfl, rfl⟩
theorem xc246_24 : pmCode 246 24 = some (.if_icmp .gt 1211) ∧ ((24 : Nat) : Int) + 1211 = ((1235 : Nat) : Int) ∧ 24 + 3 = 27 := ⟨rfl, rfl, rfl⟩
theorem xc246_27 : pmCode 246 27 = some (.aload_n 0) ∧ 27 + 1 = 28 := ⟨rfl, rfl⟩
theorem xc246_28 : pmCode 246 28 = some (.iload_n 3) ∧ 28 + 1 = 29 := ⟨rfl, rfl⟩
theorem xc246_29 : pmCode 246 29 = some .iaload ∧ 29 + 1 = 30 := ⟨rfl, rfl⟩
theorem xc246_30 : pmCode 246 30 = some (.bipush 31) ∧ 30 + 2 = 32 := ⟨rfl, rfl⟩
theorem xc246_32 : pmCode 246 32 = some .iand ∧ 32 + 1 = 33 := ⟨rfl, rfl⟩
theorem xc246_33 : pmCode 246 33 = some (.tableswitch 1196 0 30 #[139, 172, 205, 254, 303, 372, 405, 468, 511, 534, 547, 606, 639, 682, 705, 748, 781, 814, 837, 860, 883, 896, 929, 952, 975, 1028, 1051, 1094, 1127, 1150, 1173]) ∧ ((33 : Nat) : Int) + 1196 = ((1229 : Nat) : Int) := ⟨rfl, rfl⟩
theorem xc246_172 : pmCode 246 172 = some (.aload_n 1) ∧ 172 + 1 = 173 := ⟨rfl, rfl⟩
theorem xc246_173 : pmCode 246 173 = some (.aload_n 0) ∧ 173 + 1 = 174 := ⟨rfl, rfl⟩
theorem xc246_174 : pmCode 246 174 = some (.iload_n 3) ∧ 174 + 1 = 175 := ⟨rfl, rfl⟩
theorem xc246_175 : pmCode 246 175 = some (.iconst 1) ∧ 175 + 1 = 176 := ⟨rfl, rfl⟩
theorem xc246_176 : pmCode 246 176 = some .iadd ∧ 176 + 1 = 177 := ⟨rfl, rfl⟩
theorem xc246_177 : pmCode 246 177 = some .iaload ∧ 177 + 1 = 178 := ⟨rfl, rfl⟩
theorem xc246_178 : pmCode 246 178 = some (.aload_n 0) ∧ 178 + 1 = 179 := ⟨rfl, rfl⟩
theorem xc246_179 : pmCode 246 179 = some (.iload_n 3) ∧ 179 + 1 = 180 := ⟨rfl, rfl⟩
theorem xc246_180 : pmCode 246 180 = some (.iconst 2) ∧ 180 + 1 = 181 := ⟨rfl, rfl⟩
theorem xc246_181 : pmCode 246 181 = some .iadd ∧ 181 + 1 = 182 := ⟨rfl, rfl⟩
theorem xc246_182 : pmCode 246 182 = some .iaload ∧ 182 + 1 = 183 := ⟨rfl, rfl⟩
theorem xc246_183 : pmCode 246 183 = some (.invokevirtual 13) ∧ 183 + 3 = 186 := ⟨rfl, rfl⟩
theorem xc246_186 : pmCode 246 186 = some .pop ∧ 186 + 1 = 187 := ⟨rfl, rfl⟩
theorem xc246_187 : pmCode 246 187 = some (.aload_n 2) ∧ 187 + 1 = 188 := ⟨rfl, rfl⟩
theorem xc246_188 : pmCode 246 188 = some (.aload_n 0) ∧ 188 + 1 = 189 := ⟨rfl, rfl⟩
theorem xc246_189 : pmCode 246 189 = some (.iload_n 3) ∧ 189 + 1 = 190 := ⟨rfl, rfl⟩
theorem xc246_190 : pmCode 246 190 = some (.iconst 1) ∧ 190 + 1 = 191 := ⟨rfl, rfl⟩
theorem xc246_191 : pmCode 246 191 = some .iadd ∧ 191 + 1 = 192 := ⟨rfl, rfl⟩
theorem xc246_192 : pmCode 246 192 = some .iaload ∧ 192 + 1 = 193 := ⟨rfl, rfl⟩
theorem xc246_193 : pmCode 246 193 = some (.aload_n 0) ∧ 193 + 1 = 194 := ⟨rfl, rfl⟩
theorem xc246_194 : pmCode 246 194 = some (.iload_n 3) ∧ 194 + 1 = 195 := ⟨rfl, rfl⟩
theorem xc246_195 : pmCode 246 195 = some (.iconst 2) ∧ 195 + 1 = 196 := ⟨rfl, rfl⟩
theorem xc246_196 : pmCode 246 196 = some .iadd ∧ 196 + 1 = 197 := ⟨rfl, rfl⟩
theorem xc246_197 : pmCode 246 197 = some .iaload ∧ 197 + 1 = 198 := ⟨rfl, rfl⟩
theorem xc246_198 : pmCode 246 198 = some (.invokevirtual 17) ∧ 198 + 3 = 201 := ⟨rfl, rfl⟩
theorem xc246_201 : pmCode 246 201 = some .pop ∧ 201 + 1 = 202 := ⟨rfl, rfl⟩
theorem xc246_202 : pmCode 246 202 = some (.goto 1027) ∧ ((202 : Nat) : Int) + 1027 = ((1229 : Nat) : Int) := ⟨rfl, rfl⟩
theorem xc246_205 : pmCode 246 205 = some (.aload_n 1) ∧ 205 + 1 = 206 := ⟨rfl, rfl⟩
theorem xc246_206 : pmCode 246 206 = some (.aload_n 0) ∧ 206 + 1 = 207 := ⟨rfl, rfl⟩
theorem xc246_207 : pmCode 246 207 = some (.iload_n 3) ∧ 207 + 1 = 208 := ⟨rfl, rfl⟩
theorem xc246_208 : pmCode 246 208 = some (.iconst 1) ∧ 208 + 1 = 209 := ⟨rfl, rfl⟩
theorem xc246_209 : pmCode 246 209 = some .iadd ∧ 209 + 1 = 210 := ⟨rfl, rfl⟩
theorem xc246_210 : pmCode 246 210 = some .iaload ∧ 210 + 1 = 211 := ⟨rfl, rfl⟩
theorem xc246_211 : pmCode 246 211 = some (.aload_n 0) ∧ 211 + 1 = 212 := ⟨rfl, rfl⟩
theorem xc246_212 : pmCode 246 212 = some (.iload_n 3) ∧ 212 + 1 = 213 := ⟨rfl, rfl⟩
theorem xc246_213 : pmCode 246 213 = some (.iconst 2) ∧ 213 + 1 = 214 := ⟨rfl, rfl⟩
theorem xc246_214 : pmCode 246 214 = some .iadd ∧ 214 + 1 = 215 := ⟨rfl, rfl⟩
theorem xc246_215 : pmCode 246 215 = some .iaload ∧ 215 + 1 = 216 := ⟨rfl, rfl⟩
theorem xc246_216 : pmCode 246 216 = some (.invokevirtual 18) ∧ 216 + 3 = 219 := ⟨rfl, rfl⟩
theorem xc246_219 : pmCode 246 219 = some .pop ∧ 219 + 1 = 220 := ⟨rfl, rfl⟩
theorem xc246_220 : pmCode 246 220 = some (.aload_n 2) ∧ 220 + 1 = 221 := ⟨rfl, rfl⟩
theorem xc246_221 : pmCode 246 221 = some (.aload_n 0) ∧ 221 + 1 = 222 := ⟨rfl, rfl⟩
theorem xc246_222 : pmCode 246 222 = some (.iload_n 3) ∧ 222 + 1 = 223 := ⟨rfl, rfl⟩
theorem xc246_223 : pmCode 246 223 = some (.iconst 1) ∧ 223 + 1 = 224 := ⟨rfl, rfl⟩
theorem xc246_224 : pmCode 246 224 = some .iadd ∧ 224 + 1 = 225 := ⟨rfl, rfl⟩
theorem xc246_225 : pmCode 246 225 = some .iaload ∧ 225 + 1 = 226 := ⟨rfl, rfl⟩
theorem xc246_226 : pmCode 246 226 = some (.aload_n 0) ∧ 226 + 1 = 227 := ⟨rfl, rfl⟩
theorem xc246_227 : pmCode 246 227 = some (.iload_n 3) ∧ 227 + 1 = 228 := ⟨rfl, rfl⟩
theorem xc246_228 : pmCode 246 228 = some (.iconst 2) ∧ 228 + 1 = 229 := ⟨rfl, rfl⟩
theorem xc246_229 : pmCode 246 229 = some .iadd ∧ 229 + 1 = 230 := ⟨rfl, rfl⟩
theorem xc246_230 : pmCode 246 230 = some .iaload ∧ 230 + 1 = 231 := ⟨rfl, rfl⟩
theorem xc246_231 : pmCode 246 231 = some (.invokevirtual 21) ∧ 231 + 3 = 234 := ⟨rfl, rfl⟩
theorem xc246_234 : pmCode 246 234 = some .pop ∧ 234 + 1 = 235 := ⟨rfl, rfl⟩
theorem xc246_235 : pmCode 246 235 = some (.goto 994) ∧ ((235 : Nat) : Int) + 994 = ((1229 : Nat) : Int) := ⟨rfl, rfl⟩
theorem xc246_238 : pmCode 246 238 = some (.aload_n 1) ∧ 238 + 1 = 239 := ⟨rfl, rfl⟩
theorem xc246_239 : pmCode 246 239 = some (.aload_n 0) ∧ 239 + 1 = 240 := ⟨rfl, rfl⟩
theorem xc246_240 : pmCode 246 240 = some (.iload_n 3) ∧ 240 + 1 = 241 := ⟨rfl, rfl⟩
theorem xc246_241 : pmCode 246 241 = some (.iconst 1) ∧ 241 + 1 = 242 := ⟨rfl, rfl⟩
theorem xc246_242 : pmCode 246 242 = some .iadd ∧ 242 + 1 = 243 := ⟨rfl, rfl⟩
theorem xc246_243 : pmCode 246 243 = some .iaload ∧ 243 + 1 = 244 := ⟨rfl, rfl⟩
theorem xc246_244 : pmCode 246 244 = some (.aload_n 0) ∧ 244 + 1 = 245 := ⟨rfl, rfl⟩
theorem xc246_245 : pmCode 246 245 = some (.iload_n 3) ∧ 245 + 1 = 246 := ⟨rfl, rfl⟩
theorem xc246_246 : pmCode 246 246 = some (.iconst 2) ∧ 246 + 1 = 247 := ⟨rfl, rfl⟩
theorem xc246_247 : pmCode 246 247 = some .iadd ∧ 247 + 1 = 248 := ⟨rfl, rfl⟩
theorem xc246_248 : pmCode 246 248 = some .iaload ∧ 248 + 1 = 249 := ⟨rfl, rfl⟩
theorem xc246_249 : pmCode 246 249 = some (.ifCond .eq 7) ∧ ((249 : Nat) : Int) + 7 = ((256 : Nat) : Int) ∧ 249 + 3 = 252 := ⟨rfl, rfl, rfl⟩
theorem xc246_252 : pmCode 246 252 = some (.iconst 1) ∧ 252 + 1 = 253 := ⟨rfl, rfl⟩
theorem xc246_253 : pmCode 246 253 = some (.goto 4) ∧ ((253 : Nat) : Int) + 4 = ((257 : Nat) : Int) := ⟨rfl, rfl⟩
theorem xc246_256 : pmCode 246 256 = some (.iconst 0) ∧ 256 + 1 = 257 := ⟨rfl, rfl⟩
theorem xc246_257 : pmCode 246 257 = some (.invokevirtual 22) ∧ 257 + 3 = 260 := ⟨rfl, rfl⟩
theorem xc246_260 : pmCode 246 260 = some .pop ∧ 260 + 1 = 261 := ⟨rfl, rfl⟩
theorem xc246_261 : pmCode 246 261 = some (.aload_n 2) ∧ 261 + 1 = 262 := ⟨rfl, rfl⟩
theorem xc246_262 : pmCode 246 262 = some (.aload_n 0) ∧ 262 + 1 = 263 := ⟨rfl, rfl⟩
theorem xc246_263 : pmCode 246 263 = some (.iload_n 3) ∧ 263 + 1 = 264 := ⟨rfl, rfl⟩
theorem xc246_264 : pmCode 246 264 = some (.iconst 1) ∧ 264 + 1 = 265 := ⟨rfl, rfl⟩
theorem xc246_265 : pmCode 246 265 = some .iadd ∧ 265 + 1 = 266 := ⟨rfl, rfl⟩
theorem xc246_266 : pmCode 246 266 = some .iaload ∧ 266 + 1 = 267 := ⟨rfl, rfl⟩
theorem xc246_267 : pmCode 246 267 = some (.aload_n 0) ∧ 267 + 1 = 268 := ⟨rfl, rfl⟩
theorem xc246_268 : pmCode 246 268 = some (.iload_n 3) ∧ 268 + 1 = 269 := ⟨rfl, rfl⟩
theorem xc246_269 : pmCode 246 269 = some (.iconst 2) ∧ 269 + 1 = 270 := ⟨rfl, rfl⟩
theorem xc246_270 : pmCode 246 270 = some .iadd ∧ 270 + 1 = 271 := ⟨rfl, rfl⟩
theorem xc246_271 : pmCode 246 271 = some .iaload ∧ 271 + 1 = 272 := ⟨rfl, rfl⟩
theorem xc246_272 : pmCode 246 272 = some (.ifCond .eq 7) ∧ ((272 : Nat) : Int) + 7 = ((279 : Nat) : Int) ∧ 272 + 3 = 275 := ⟨rfl, rfl, rfl⟩
theorem xc246_275 : pmCode 246 275 = some (.iconst 1) ∧ 275 + 1 = 276 := ⟨rfl, rfl⟩
theorem xc246_276 : pmCode 246 276 = some (.goto 4) ∧ ((276 : Nat) : Int) + 4 = ((280 : Nat) : Int) := ⟨rfl, rfl⟩
theorem xc246_279 : pmCode 246 279 = some (.iconst 0) ∧ 279 + 1 = 280 := ⟨rfl, rfl⟩
theorem xc246_280 : pmCode 246 280 = some (.invokevirtual 26) ∧ 280 + 3 = 283 := ⟨rfl, rfl⟩
theorem xc246_283 : pmCode 246 283 = some .pop ∧ 283 + 1 = 284 := ⟨rfl, rfl⟩
theorem xc246_284 : pmCode 246 284 = some (.goto 945) ∧ ((284 : Nat) : Int) + 945 = ((1229 : Nat) : Int) := ⟨rfl, rfl⟩
theorem xc246_287 : pmCode 246 287 = some (.aload_n 1) ∧ 287 + 1 = 288 := ⟨rfl, rfl⟩
theorem xc246_288 : pmCode 246 288 = some (.aload_n 0) ∧ 288 + 1 = 289 := ⟨rfl, rfl⟩
theorem xc246_289 : pmCode 246 289 = some (.iload_n 3) ∧ 289 + 1 = 290 := ⟨rfl, rfl⟩
theorem xc246_290 : pmCode 246 290 = some (.iconst 1) ∧ 290 + 1 = 291 := ⟨rfl, rfl⟩
theorem xc246_291 : pmCode 246 291 = some .iadd ∧ 291 + 1 = 292 := ⟨rfl, rfl⟩
theorem xc246_292 : pmCode 246 292 = some .iaload ∧ 292 + 1 = 293 := ⟨rfl, rfl⟩
theorem xc246_293 : pmCode 246 293 = some (.aload_n 0) ∧ 293 + 1 = 294 := ⟨rfl, rfl⟩
theorem xc246_294 : pmCode 246 294 = some (.iload_n 3) ∧ 294 + 1 = 295 := ⟨rfl, rfl⟩
theorem xc246_295 : pmCode 246 295 = some (.iconst 2) ∧ 295 + 1 = 296 := ⟨rfl, rfl⟩
theorem xc246_296 : pmCode 246 296 = some .iadd ∧ 296 + 1 = 297 := ⟨rfl, rfl⟩
theorem xc246_297 : pmCode 246 297 = some .iaload ∧ 297 + 1 = 298 := ⟨rfl, rfl⟩
theorem xc246_298 : pmCode 246 298 = some (.ifCond .eq 7) ∧ ((298 : Nat) : Int) + 7 = ((305 : Nat) : Int) ∧ 298 + 3 = 301 := ⟨rfl, rfl, rfl⟩
theorem xc246_301 : pmCode 246 301 = some (.iconst 1) ∧ 301 + 1 = 302 := ⟨rfl, rfl⟩
theorem xc246_302 : pmCode 246 302 = some (.goto 4) ∧ ((302 : Nat) : Int) + 4 = ((306 : Nat) : Int) := ⟨rfl, rfl⟩
theorem xc246_305 : pmCode 246 305 = some (.iconst 0) ∧ 305 + 1 = 306 := ⟨rfl, rfl⟩
theorem xc246_306 : pmCode 246 306 = some (.invokevirtual 27) ∧ 306 + 3 = 309 := ⟨rfl, rfl⟩
theorem xc246_309 : pmCode 246 309 = some .pop ∧ 309 + 1 = 310 := ⟨rfl, rfl⟩
theorem xc246_310 : pmCode 246 310 = some (.aload_n 2) ∧ 310 + 1 = 311 := ⟨rfl, rfl⟩
theorem xc246_311 : pmCode 246 311 = some (.aload_n 0) ∧ 311 + 1 = 312 := ⟨rfl, rfl⟩
theorem xc246_312 : pmCode 246 312 = some (.iload_n 3) ∧ 312 + 1 = 313 := ⟨rfl, rfl⟩
theorem xc246_313 : pmCode 246 313 = some (.iconst 1) ∧ 313 + 1 = 314 := ⟨rfl, rfl⟩
theorem xc246_314 : pmCode 246 314 = some .iadd ∧ 314 + 1 = 315 := ⟨rfl, rfl⟩
theorem xc246_315 : pmCode 246 315 = some .iaload ∧ 315 + 1 = 316 := ⟨rfl, rfl⟩
theorem xc246_316 : pmCode 246 316 = some (.aload_n 0) ∧ 316 + 1 = 317 := ⟨rfl, rfl⟩
theorem xc246_317 : pmCode 246 317 = some (.iload_n 3) ∧ 317 + 1 = 318 := ⟨rfl, rfl⟩
theorem xc246_318 : pmCode 246 318 = some (.iconst 2) ∧ 318 + 1 = 319 := ⟨rfl, rfl⟩
theorem xc246_319 : pmCode 246 319 = some .iadd ∧ 319 + 1 = 320 := ⟨rfl, rfl⟩
theorem xc246_320 : pmCode 246 320 = some .iaload ∧ 320 + 1 = 321 := ⟨rfl, rfl⟩
theorem xc246_321 : pmCode 246 321 = some (.ifCond .eq 7) ∧ ((321 : Nat) : Int) + 7 = ((328 : Nat) : Int) ∧ 321 + 3 = 324 := ⟨rfl, rfl, rfl⟩
theorem xc246_324 : pmCode 246 324 = some (.iconst 1) ∧ 324 + 1 = 325 := ⟨rfl, rfl⟩
theorem xc246_325 : pmCode 246 325 = some (.goto 4) ∧ ((325 : Nat) : Int) + 4 = ((329 : Nat) : Int) := ⟨rfl, rfl⟩
theorem xc246_328 : pmCode 246 328 = some (.iconst 0) ∧ 328 + 1 = 329 := ⟨rfl, rfl⟩
theorem xc246_329 : pmCode 246 329 = some (.invokevirtual 30) ∧ 329 + 3 = 332 := ⟨rfl, rfl⟩
theorem xc246_332 : pmCode 246 332 = some .pop ∧ 332 + 1 = 333 := ⟨rfl, rfl⟩
theorem xc246_333 : pmCode 246 333 = some (.goto 896) ∧ ((333 : Nat) : Int) + 896 = ((1229 : Nat) : Int) := ⟨rfl, rfl⟩
theorem xc246_336 : pmCode 246 336 = some (.aload_n 1) ∧ 336 + 1 = 337 := ⟨rfl, rfl⟩
theorem xc246_337 : pmCode 246 337 = some (.aload_n 0) ∧ 337 + 1 = 338 := ⟨rfl, rfl⟩
theorem xc246_338 : pmCode 246 338 = some (.iload_n 3) ∧ 338 + 1 = 339 := ⟨rfl, rfl⟩
theorem xc246_339 : pmCode 246 339 = some (.iconst 1) ∧ 339 + 1 = 340 := ⟨rfl, rfl⟩
theorem xc246_340 : pmCode 246 340 = some .iadd ∧ 340 + 1 = 341 := ⟨rfl, rfl⟩
theorem xc246_341 : pmCode 246 341 = some .iaload ∧ 341 + 1 = 342 := ⟨rfl, rfl⟩
theorem xc246_342 : pmCode 246 342 = some (.aload_n 0) ∧ 342 + 1 = 343 := ⟨rfl, rfl⟩
theorem xc246_343 : pmCode 246 343 = some (.iload_n 3) ∧ 343 + 1 = 344 := ⟨rfl, rfl⟩
theorem xc246_344 : pmCode 246 344 = some (.iconst 2) ∧ 344 + 1 = 345 := ⟨rfl, rfl⟩
theorem xc246_345 : pmCode 246 345 = some .iadd ∧ 345 + 1 = 346 := ⟨rfl, rfl⟩
theorem xc246_346 : pmCode 246 346 = some .iaload ∧ 346 + 1 = 347 := ⟨rfl, rfl⟩
theorem xc246_347 : pmCode 246 347 = some (.ifCond .eq 7) ∧ ((347 : Nat) : Int) + 7 = ((354 : Nat) : Int) ∧ 347 + 3 = 350 := ⟨rfl, rfl, rfl⟩
theorem xc246_350 : pmCode 246 350 = some (.iconst 1) ∧ 350 + 1 = 351 := ⟨rfl, rfl⟩
theorem xc246_351 : pmCode 246 351 = some (.goto 4) ∧ ((351 : Nat) : Int) + 4 = ((355 : Nat) : Int) := ⟨rfl, rfl⟩
theorem xc246_354 : pmCode 246 354 = some (.iconst 0) ∧ 354 + 1 = 355 := ⟨rfl, rfl⟩
theorem xc246_355 : pmCode 246 355 = some (.aload_n 0) ∧ 355 + 1 = 356 := ⟨rfl, rfl⟩
theorem xc246_356 : pmCode 246 356 = some (.iload_n 3) ∧ 356 + 1 = 357 := ⟨rfl, rfl⟩
theorem xc246_357 : pmCode 246 357 = some (.iconst 3) ∧ 357 + 1 = 358 := ⟨rfl, rfl⟩
theorem xc246_358 : pmCode 246 358 = some .iadd ∧ 358 + 1 = 359 := ⟨rfl, rfl⟩
theorem xc246_359 : pmCode 246 359 = some .iaload ∧ 359 + 1 = 360 := ⟨rfl, rfl⟩
theorem xc246_360 : pmCode 246 360 = some (.aload_n 0) ∧ 360 + 1 = 361 := ⟨rfl, rfl⟩
theorem xc246_361 : pmCode 246 361 = some (.iload_n 3) ∧ 361 + 1 = 362 := ⟨rfl, rfl⟩
theorem xc246_362 : pmCode 246 362 = some (.iconst 4) ∧ 362 + 1 = 363 := ⟨rfl, rfl⟩
theorem xc246_363 : pmCode 246 363 = some .iadd ∧ 363 + 1 = 364 := ⟨rfl, rfl⟩
theorem xc246_364 : pmCode 246 364 = some .iaload ∧ 364 + 1 = 365 := ⟨rfl, rfl⟩
theorem xc246_365 : pmCode 246 365 = some (.invokevirtual 31) ∧ 365 + 3 = 368 := ⟨rfl, rfl⟩
theorem xc246_368 : pmCode 246 368 = some .pop ∧ 368 + 1 = 369 := ⟨rfl, rfl⟩
theorem xc246_369 : pmCode 246 369 = some (.aload_n 2) ∧ 369 + 1 = 370 := ⟨rfl, rfl⟩
theorem xc246_370 : pmCode 246 370 = some (.aload_n 0) ∧ 370 + 1 = 371 := ⟨rfl, rfl⟩
theorem xc246_371 : pmCode 246 371 = some (.iload_n 3) ∧ 371 + 1 = 372 := ⟨rfl, rfl⟩
theorem xc246_372 : pmCode 246 372 = some (.iconst 1) ∧ 372 + 1 = 373 := ⟨rfl, rfl⟩
theorem xc246_373 : pmCode 246 373 = some .iadd ∧ 373 + 1 = 374 := ⟨rfl, rfl⟩
theorem xc246_374 : pmCode 246 374 = some .iaload ∧ 374 + 1 = 375 := ⟨rfl, rfl⟩
theorem xc246_375 : pmCode 246 375 = some (.aload_n 0) ∧ 375 + 1 = 376 := ⟨rfl, rfl⟩
theorem xc246_376 : pmCode 246 376 = some (.iload_n 3) ∧ 376 + 1 = 377 := ⟨rfl, rfl⟩
theorem xc246_377 : pmCode 246 377 = some (.iconst 2) ∧ 377 + 1 = 378 := ⟨rfl, rfl⟩
theorem xc246_378 : pmCode 246 378 = some .iadd ∧ 378 + 1 = 379 := ⟨rfl, rfl⟩
theorem xc246_379 : pmCode 246 379 = some .iaload ∧ 379 + 1 = 380 := ⟨rfl, rfl⟩
theorem xc246_380 : pmCode 246 380 = some (.ifCond .eq 7) ∧ ((380 : Nat) : Int) + 7 = ((387 : Nat) : Int) ∧ 380 + 3 = 383 := ⟨rfl, rfl, rfl⟩
theorem xc246_383 : pmCode 246 383 = some (.iconst 1) ∧ 383 + 1 = 384 := ⟨rfl, rfl⟩
theorem xc246_384 : pmCode 246 384 = some (.goto 4) ∧ ((384 : Nat) : Int) + 4 = ((388 : Nat) : Int) := ⟨rfl, rfl⟩
theorem xc246_387 : pmCode 246 387 = some (.iconst 0) ∧ 387 + 1 = 388 := ⟨rfl, rfl⟩
theorem xc246_388 : pmCode 246 388 = some (.aload_n 0) ∧ 388 + 1 = 389 := ⟨rfl, rfl⟩
theorem xc246_389 : pmCode 246 389 = some (.iload_n 3) ∧ 389 + 1 = 390 := ⟨rfl, rfl⟩
theorem xc246_390 : pmCode 246 390 = some (.iconst 3) ∧ 390 + 1 = 391 := ⟨rfl, rfl⟩
theorem xc246_391 : pmCode 246 391 = some .iadd ∧ 391 + 1 = 392 := ⟨rfl, rfl⟩
theorem xc246_392 : pmCode 246 392 = some .iaload ∧ 392 + 1 = 393 := ⟨rfl, rfl⟩
theorem xc246_393 : pmCode 246 393 = some (.aload_n 0) ∧ 393 + 1 = 394 := ⟨rfl, rfl⟩
theorem xc246_394 : pmCode 246 394 = some (.iload_n 3) ∧ 394 + 1 = 395 := ⟨rfl, rfl⟩
theorem xc246_395 : pmCode 246 395 = some (.iconst 4) ∧ 395 + 1 = 396 := ⟨rfl, rfl⟩
theorem xc246_396 : pmCode 246 396 = some .iadd ∧ 396 + 1 = 397 := ⟨rfl, rfl⟩
theorem xc246_397 : pmCode 246 397 = some .iaload ∧ 397 + 1 = 398 := ⟨rfl, rfl⟩
theorem xc246_398 : pmCode 246 398 = some (.invokevirtual 35) ∧ 398 + 3 = 401 := ⟨rfl, rfl⟩
theorem xc246_401 : pmCode 246 401 = some .pop ∧ 401 + 1 = 402 := ⟨rfl, rfl⟩
theorem xc246_402 : pmCode 246 402 = some (.goto 827) ∧ ((402 : Nat) : Int) + 827 = ((1229 : Nat) : Int) := ⟨rfl, rfl⟩
theorem xc246_405 : pmCode 246 405 = some (.aload_n 1) ∧ 405 + 1 = 406 := ⟨rfl, rfl⟩
theorem xc246_406 : pmCode 246 406 = some (.aload_n 0) ∧ 406 + 1 = 407 := ⟨rfl, rfl⟩
theorem xc246_407 : pmCode 246 407 = some (.iload_n 3) ∧ 407 + 1 = 408 := ⟨rfl, rfl⟩
theorem xc246_408 : pmCode 246 408 = some (.iconst 1) ∧ 408 + 1 = 409 := ⟨rfl, rfl⟩
theorem xc246_409 : pmCode 246 409 = some .iadd ∧ 409 + 1 = 410 := ⟨rfl, rfl⟩
theorem xc246_410 : pmCode 246 410 = some .iaload ∧ 410 + 1 = 411 := ⟨rfl, rfl⟩
theorem xc246_411 : pmCode 246 411 = some (.aload_n 0) ∧ 411 + 1 = 412 := ⟨rfl, rfl⟩
theorem xc246_412 : pmCode 246 412 = some (.iload_n 3) ∧ 412 + 1 = 413 := ⟨rfl, rfl⟩
theorem xc246_413 : pmCode 246 413 = some (.iconst 2) ∧ 413 + 1 = 414 := ⟨rfl, rfl⟩
theorem xc246_414 : pmCode 246 414 = some .iadd ∧ 414 + 1 = 415 := ⟨rfl, rfl⟩
theorem xc246_415 : pmCode 246 415 = some .iaload ∧ 415 + 1 = 416 := ⟨rfl, rfl⟩
theorem xc246_416 : pmCode 246 416 = some (.invokevirtual 36) ∧ 416 + 3 = 419 := ⟨rfl, rfl⟩
theorem xc246_419 : pmCode 246 419 = some .pop ∧ 419 + 1 = 420 := ⟨rfl, rfl⟩
theorem xc246_420 : pmCode 246 420 = some (.aload_n 2) ∧ 420 + 1 = 421 := ⟨rfl, rfl⟩
theorem xc246_421 : pmCode 246 421 = some (.aload_n 0) ∧ 421 + 1 = 422 := ⟨rfl, rfl⟩
theorem xc246_422 : pmCode 246 422 = some (.iload_n 3) ∧ 422 + 1 = 423 := ⟨rfl, rfl⟩
theorem xc246_423 : pmCode 246 423 = some (.iconst 1) ∧ 423 + 1 = 424 := ⟨rfl, rfl⟩
theorem xc246_424 : pmCode 246 424 = some .iadd ∧ 424 + 1 = 425 := ⟨rfl, rfl⟩
theorem xc246_425 : pmCode 246 425 = some .iaload ∧ 425 + 1 = 426 := ⟨rfl, rfl⟩
theorem xc246_426 : pmCode 246 426 = some (.aload_n 0) ∧ 426 + 1 = 427 := ⟨rfl, rfl⟩
theorem xc246_427 : pmCode 246 427 = some (.iload_n 3) ∧ 427 + 1 = 428 := ⟨rfl, rfl⟩
theorem xc246_428 : pmCode 246 428 = some (.iconst 2) ∧ 428 + 1 = 429 := ⟨rfl, rfl⟩
theorem xc246_429 : pmCode 246 429 = some .iadd ∧ 429 + 1 = 430 := ⟨rfl, rfl⟩
theorem xc246_430 : pmCode 246 430 = some .iaload ∧ 430 + 1 = 431 := ⟨rfl, rfl⟩
theorem xc246_431 : pmCode 246 431 = some (.invokevirtual 39) ∧ 431 + 3 = 434 := ⟨rfl, rfl⟩
theorem xc246_434 : pmCode 246 434 = some .pop ∧ 434 + 1 = 435 := ⟨rfl, rfl⟩
theorem xc246_435 : pmCode 246 435 = some (.goto 794) ∧ ((435 : Nat) : Int) + 794 = ((1229 : Nat) : Int) := ⟨rfl, rfl⟩
theorem xc246_438 : pmCode 246 438 = some (.aload_n 1) ∧ 438 + 1 = 439 := ⟨rfl, rfl⟩
theorem xc246_439 : pmCode 246 439 = some (.aload_n 0) ∧ 439 + 1 = 440 := ⟨rfl, rfl⟩
theorem xc246_440 : pmCode 246 440 = some (.iload_n 3) ∧ 440 + 1 = 441 := ⟨rfl, rfl⟩
theorem xc246_441 : pmCode 246 441 = some (.iconst 1) ∧ 441 + 1 = 442 := ⟨rfl, rfl⟩
theorem xc246_442 : pmCode 246 442 = some .iadd ∧ 442 + 1 = 443 := ⟨rfl, rfl⟩
theorem xc246_443 : pmCode 246 443 = some .iaload ∧ 443 + 1 = 444 := ⟨rfl, rfl⟩
theorem xc246_444 : pmCode 246 444 = some (.aload_n 0) ∧ 444 + 1 = 445 := ⟨rfl, rfl⟩
theorem xc246_445 : pmCode 246 445 = some (.iload_n 3) ∧ 445 + 1 = 446 := ⟨rfl, rfl⟩
theorem xc246_446 : pmCode 246 446 = some (.iconst 2) ∧ 446 + 1 = 447 := ⟨rfl, rfl⟩
theorem xc246_447 : pmCode 246 447 = some .iadd ∧ 447 + 1 = 448 := ⟨rfl, rfl⟩
theorem xc246_448 : pmCode 246 448 = some .iaload ∧ 448 + 1 = 449 := ⟨rfl, rfl⟩
theorem xc246_449 : pmCode 246 449 = some (.aload_n 0) ∧ 449 + 1 = 450 := ⟨rfl, rfl⟩
theorem xc246_450 : pmCode 246 450 = some (.iload_n 3) ∧ 450 + 1 = 451 := ⟨rfl, rfl⟩
theorem xc246_451 : pmCode 246 451 = some (.iconst 3) ∧ 451 + 1 = 452 := ⟨rfl, rfl⟩
theorem xc246_452 : pmCode 246 452 = some .iadd ∧ 452 + 1 = 453 := ⟨rfl, rfl⟩
theorem xc246_453 : pmCode 246 453 = some .iaload ∧ 453 + 1 = 454 := ⟨rfl, rfl⟩
theorem xc246_454 : pmCode 246 454 = some (.aload_n 0) ∧ 454 + 1 = 455 := ⟨rfl, rfl⟩
theorem xc246_455 : pmCode 246 455 = some (.iload_n 3) ∧ 455 + 1 = 456 := ⟨rfl, rfl⟩
theorem xc246_456 : pmCode 246 456 = some (.iconst 4) ∧ 456 + 1 = 457 := ⟨rfl, rfl⟩
theorem xc246_457 : pmCode 246 457 = some .iadd ∧ 457 + 1 = 458 := ⟨rfl, rfl⟩
theorem xc246_458 : pmCode 246 458 = some .iaload ∧ 458 + 1 = 459 := ⟨rfl, rfl⟩
theorem xc246_459 : pmCode 246 459 = some (.aload_n 0) ∧ 459 + 1 = 460 := ⟨rfl, rfl⟩
theorem xc246_460 : pmCode 246 460 = some (.iload_n 3) ∧ 460 + 1 = 461 := ⟨rfl, rfl⟩
theorem xc246_461 : pmCode 246 461 = some (.iconst 5) ∧ 461 + 1 = 462 := ⟨rfl, rfl⟩
theorem xc246_462 : pmCode 246 462 = some .iadd ∧ 462 + 1 = 463 := ⟨rfl, rfl⟩
theorem xc246_463 : pmCode 246 463 = some .iaload ∧ 463 + 1 = 464 := ⟨rfl, rfl⟩
theorem xc246_464 : pmCode 246 464 = some (.invokevirtual 40) ∧ 464 + 3 = 467 := ⟨rfl, rfl⟩
theorem xc246_467 : pmCode 246 467 = some (.aload_n 2) ∧ 467 + 1 = 468 := ⟨rfl, rfl⟩
theorem xc246_468 : pmCode 246 468 = some (.aload_n 0) ∧ 468 + 1 = 469 := ⟨rfl, rfl⟩
theorem xc246_469 : pmCode 246 469 = some (.iload_n 3) ∧ 469 + 1 = 470 := ⟨rfl, rfl⟩
theorem xc246_470 : pmCode 246 470 = some (.iconst 1) ∧ 470 + 1 = 471 := ⟨rfl, rfl⟩
theorem xc246_471 : pmCode 246 471 = some .iadd ∧ 471 + 1 = 472 := ⟨rfl, rfl⟩
theorem xc246_472 : pmCode 246 472 = some .iaload ∧ 472 + 1 = 473 := ⟨rfl, rfl⟩
theorem xc246_473 : pmCode 246 473 = some (.aload_n 0) ∧ 473 + 1 = 474 := ⟨rfl, rfl⟩
theorem xc246_474 : pmCode 246 474 = some (.iload_n 3) ∧ 474 + 1 = 475 := ⟨rfl, rfl⟩
theorem xc246_475 : pmCode 246 475 = some (.iconst 2) ∧ 475 + 1 = 476 := ⟨rfl, rfl⟩
theorem xc246_476 : pmCode 246 476 = some .iadd ∧ 476 + 1 = 477 := ⟨rfl, rfl⟩
theorem xc246_477 : pmCode 246 477 = some .iaload ∧ 477 + 1 = 478 := ⟨rfl, rfl⟩
theorem xc246_478 : pmCode 246 478 = some (.aload_n 0) ∧ 478 + 1 = 479 := ⟨rfl, rfl⟩
theorem xc246_479 : pmCode 246 479 = some (.iload_n 3) ∧ 479 + 1 = 480 := ⟨rfl, rfl⟩
theorem xc246_480 : pmCode 246 480 = some (.iconst 3) ∧ 480 + 1 = 481 := ⟨rfl, rfl⟩
theorem xc246_481 : pmCode 246 481 = some .iadd ∧ 481 + 1 = 482 := ⟨rfl, rfl⟩
theorem xc246_482 : pmCode 246 482 = some .iaload ∧ 482 + 1 = 483 := ⟨rfl, rfl⟩
theorem xc246_483 : pmCode 246 483 = some (.aload_n 0) ∧ 483 + 1 = 484 := ⟨rfl, rfl⟩
theorem xc246_484 : pmCode 246 484 = some (.iload_n 3) ∧ 484 + 1 = 485 := ⟨rfl, rfl⟩
theorem xc246_485 : pmCode 246 485 = some (.iconst 4) ∧ 485 + 1 = 486 := ⟨rfl, rfl⟩
theorem xc246_486 : pmCode 246 486 = some .iadd ∧ 486 + 1 = 487 := ⟨rfl, rfl⟩
theorem xc246_487 : pmCode 246 487 = some .iaload ∧ 487 + 1 = 488 := ⟨rfl, rfl⟩
theorem xc246_488 : pmCode 246 488 = some (.aload_n 0) ∧ 488 + 1 = 489 := ⟨rfl, rfl⟩
theorem xc246_489 : pmCode 246 489 = some (.iload_n 3) ∧ 489 + 1 = 490 := ⟨rfl, rfl⟩
theorem xc246_490 : pmCode 246 490 = some (.iconst 5) ∧ 490 + 1 = 491 := ⟨rfl, rfl⟩
theorem xc246_491 : pmCode 246 491 = some .iadd ∧ 491 + 1 = 492 := ⟨rfl, rfl⟩
theorem xc246_492 : pmCode 246 492 = some .iaload ∧ 492 + 1 = 493 := ⟨rfl, rfl⟩
theorem xc246_493 : pmCode 246 493 = some (.invokevirtual 44) ∧ 493 + 3 = 496 := ⟨rfl, rfl⟩
theorem xc246_496 : pmCode 246 496 = some (.if_icmp .eq 733) ∧ ((496 : Nat) : Int) + 733 = ((1229 : Nat) : Int) ∧ 496 + 3 = 499 := ⟨rfl, rfl, rfl⟩
theorem xc246_499 : pmCode 246 499 = some (.iconst 0) ∧ 499 + 1 = 500 := ⟨rfl, rfl⟩
theorem xc246_500 : pmCode 246 500 = some .ireturn := rfl
theorem xc246_501 : pmCode 246 501 = some (.aload_n 1) ∧ 501 + 1 = 502 := ⟨rfl, rfl⟩
theorem xc246_502 : pmCode 246 502 = some (.aload_n 0) ∧ 502 + 1 = 503 := ⟨rfl, rfl⟩
theorem xc246_503 : pmCode 246 503 = some (.iload_n 3) ∧ 503 + 1 = 504 := ⟨rfl, rfl⟩
theorem xc246_504 : pmCode 246 504 = some (.iconst 1) ∧ 504 + 1 = 505 := ⟨rfl, rfl⟩
theorem xc246_505 : pmCode 246 505 = some .iadd ∧ 505 + 1 = 506 := ⟨rfl, rfl⟩
theorem xc246_506 : pmCode 246 506 = some .iaload ∧ 506 + 1 = 507 := ⟨rfl, rfl⟩
theorem xc246_507 : pmCode 246 507 = some (.aload_n 0) ∧ 507 + 1 = 508 := ⟨rfl, rfl⟩
theorem xc246_508 : pmCode 246 508 = some (.iload_n 3) ∧ 508 + 1 = 509 := ⟨rfl, rfl⟩
theorem xc246_509 : pmCode 246 509 = some (.iconst 2) ∧ 509 + 1 = 510 := ⟨rfl, rfl⟩
theorem xc246_510 : pmCode 246 510 = some .iadd ∧ 510 + 1 = 511 := ⟨rfl, rfl⟩
theorem xc246_511 : pmCode 246 511 = some .iaload ∧ 511 + 1 = 512 := ⟨rfl, rfl⟩
theorem xc246_512 : pmCode 246 512 = some (.aload_n 0) ∧ 512 + 1 = 513 := ⟨rfl, rfl⟩
theorem xc246_513 : pmCode 246 513 = some (.iload_n 3) ∧ 513 + 1 = 514 := ⟨rfl, rfl⟩
theorem xc246_514 : pmCode 246 514 = some (.iconst 3) ∧ 514 + 1 = 515 := ⟨rfl, rfl⟩
theorem xc246_515 : pmCode 246 515 = some .iadd ∧ 515 + 1 = 516 := ⟨rfl, rfl⟩
theorem xc246_516 : pmCode 246 516 = some .iaload ∧ 516 + 1 = 517 := ⟨rfl, rfl⟩
theorem xc246_517 : pmCode 246 517 = some (.invokevirtual 45) ∧ 517 + 3 = 520 := ⟨rfl, rfl⟩
theorem xc246_520 : pmCode 246 520 = some .pop ∧ 520 + 1 = 521 := ⟨rfl, rfl⟩
theorem xc246_521 : pmCode 246 521 = some (.aload_n 2) ∧ 521 + 1 = 522 := ⟨rfl, rfl⟩
theorem xc246_522 : pmCode 246 522 = some (.aload_n 0) ∧ 522 + 1 = 523 := ⟨rfl, rfl⟩
theorem xc246_523 : pmCode 246 523 = some (.iload_n 3) ∧ 523 + 1 = 524 := ⟨rfl, rfl⟩
theorem xc246_524 : pmCode 246 524 = some (.iconst 1) ∧ 524 + 1 = 525 := ⟨rfl, rfl⟩
theorem xc246_525 : pmCode 246 525 = some .iadd ∧ 525 + 1 = 526 := ⟨rfl, rfl⟩
theorem xc246_526 : pmCode 246 526 = some .iaload ∧ 526 + 1 = 527 := ⟨rfl, rfl⟩
theorem xc246_527 : pmCode 246 527 = some (.aload_n 0) ∧ 527 + 1 = 528 := ⟨rfl, rfl⟩
theorem xc246_528 : pmCode 246 528 = some (.iload_n 3) ∧ 528 + 1 = 529 := ⟨rfl, rfl⟩
theorem xc246_529 : pmCode 246 529 = some (.iconst 2) ∧ 529 + 1 = 530 := ⟨rfl, rfl⟩
theorem xc246_530 : pmCode 246 530 = some .iadd ∧ 530 + 1 = 531 := ⟨rfl, rfl⟩
theorem xc246_531 : pmCode 246 531 = some .iaload ∧ 531 + 1 = 532 := ⟨rfl, rfl⟩
theorem xc246_532 : pmCode 246 532 = some (.aload_n 0) ∧ 532 + 1 = 533 := ⟨rfl, rfl⟩
theorem xc246_533 : pmCode 246 533 = some (.iload_n 3) ∧ 533 + 1 = 534 := ⟨rfl, rfl⟩
theorem xc246_534 : pmCode 246 534 = some (.iconst 3) ∧ 534 + 1 = 535 := ⟨rfl, rfl⟩
theorem xc246_535 : pmCode 246 535 = some .iadd ∧ 535 + 1 = 536 := ⟨rfl, rfl⟩
theorem xc246_536 : pmCode 246 536 = some .iaload ∧ 536 + 1 = 537 := ⟨rfl, rfl⟩
theorem xc246_537 : pmCode 246 537 = some (.invokevirtual 49) ∧ 537 + 3 = 540 := ⟨rfl, rfl⟩
theorem xc246_540 : pmCode 246 540 = some .pop ∧ 540 + 1 = 541 := ⟨rfl, rfl⟩
theorem xc246_541 : pmCode 246 541 = some (.goto 688) ∧ ((541 : Nat) : Int) + 688 = ((1229 : Nat) : Int) := ⟨rfl, rfl⟩
theorem xc246_544 : pmCode 246 544 = some (.aload_n 1) ∧ 544 + 1 = 545 := ⟨rfl, rfl⟩
theorem xc246_545 : pmCode 246 545 = some (.aload_n 0) ∧ 545 + 1 = 546 := ⟨rfl, rfl⟩
theorem xc246_546 : pmCode 246 546 = some (.iload_n 3) ∧ 546 + 1 = 547 := ⟨rfl, rfl⟩
theorem xc246_547 : pmCode 246 547 = some (.iconst 1) ∧ 547 + 1 = 548 := ⟨rfl, rfl⟩
theorem xc246_548 : pmCode 246 548 = some .iadd ∧ 548 + 1 = 549 := ⟨rfl, rfl⟩
theorem xc246_549 : pmCode 246 549 = some .iaload ∧ 549 + 1 = 550 := ⟨rfl, rfl⟩
theorem xc246_550 : pmCode 246 550 = some (.invokevirtual 50) ∧ 550 + 3 = 553 := ⟨rfl, rfl⟩
theorem xc246_553 : pmCode 246 553 = some .pop ∧ 553 + 1 = 554 := ⟨rfl, rfl⟩
theorem xc246_554 : pmCode 246 554 = some (.aload_n 2) ∧ 554 + 1 = 555 := ⟨rfl, rfl⟩
theorem xc246_555 : pmCode 246 555 = some (.aload_n 0) ∧ 555 + 1 = 556 := ⟨rfl, rfl⟩
theorem xc246_556 : pmCode 246 556 = some (.iload_n 3) ∧ 556 + 1 = 557 := ⟨rfl, rfl⟩
theorem xc246_557 : pmCode 246 557 = some (.iconst 1) ∧ 557 + 1 = 558 := ⟨rfl, rfl⟩
theorem xc246_558 : pmCode 246 558 = some .iadd ∧ 558 + 1 = 559 := ⟨rfl, rfl⟩
theorem xc246_559 : pmCode 246 559 = some .iaload ∧ 559 + 1 = 560 := ⟨rfl, rfl⟩
theorem xc246_560 : pmCode 246 560 = some (.invokevirtual 54) ∧ 560 + 3 = 563 := ⟨rfl, rfl⟩
theorem xc246_563 : pmCode 246 563 = some .pop ∧ 563 + 1 = 564 := ⟨rfl, rfl⟩
theorem xc246_564 : pmCode 246 564 = some (.goto 665) ∧ ((564 : Nat) : Int) + 665 = ((1229 : Nat) : Int) := ⟨rfl, rfl⟩
theorem xc246_567 : pmCode 246 567 = some (.aload_n 1) ∧ 567 + 1 = 568 := ⟨rfl, rfl⟩
theorem xc246_568 : pmCode 246 568 = some (.invokevirtual 55) ∧ 568 + 3 = 571 := ⟨rfl, rfl⟩
theorem xc246_571 : pmCode 246 571 = some .pop ∧ 571 + 1 = 572 := ⟨rfl, rfl⟩
theorem xc246_572 : pmCode 246 572 = some (.aload_n 2) ∧ 572 + 1 = 573 := ⟨rfl, rfl⟩
theorem xc246_573 : pmCode 246 573 = some (.invokevirtual 59) ∧ 573 + 3 = 576 := ⟨rfl, rfl⟩
theorem xc246_576 : pmCode 246 576 = some .pop ∧ 576 + 1 = 577 := ⟨rfl, rfl⟩
theorem xc246_577 : pmCode 246 577 = some (.goto 652) ∧ ((577 : Nat) : Int) + 652 = ((1229 : Nat) : Int) := ⟨rfl, rfl⟩
theorem xc246_580 : pmCode 246 580 = some (.aload_n 1) ∧ 580 + 1 = 581 := ⟨rfl, rfl⟩
theorem xc246_581 : pmCode 246 581 = some (.aload_n 0) ∧ 581 + 1 = 582 := ⟨rfl, rfl⟩
theorem xc246_582 : pmCode 246 582 = some (.iload_n 3) ∧ 582 + 1 = 583 := ⟨rfl, rfl⟩
theorem xc246_583 : pmCode 246 583 = some (.iconst 1) ∧ 583 + 1 = 584 := ⟨rfl, rfl⟩
theorem xc246_584 : pmCode 246 584 = some .iadd ∧ 584 + 1 = 585 := ⟨rfl, rfl⟩
theorem xc246_585 : pmCode 246 585 = some .iaload ∧ 585 + 1 = 586 := ⟨rfl, rfl⟩
theorem xc246_586 : pmCode 246 586 = some (.aload_n 0) ∧ 586 + 1 = 587 := ⟨rfl, rfl⟩
theorem xc246_587 : pmCode 246 587 = some (.iload_n 3) ∧ 587 + 1 = 588 := ⟨rfl, rfl⟩
theorem xc246_588 : pmCode 246 588 = some (.iconst 2) ∧ 588 + 1 = 589 := ⟨rfl, rfl⟩
theorem xc246_589 : pmCode 246 589 = some .iadd ∧ 589 + 1 = 590 := ⟨rfl, rfl⟩
theorem xc246_590 : pmCode 246 590 = some .iaload ∧ 590 + 1 = 591 := ⟨rfl, rfl⟩
theorem xc246_591 : pmCode 246 591 = some (.ifCond .eq 7) ∧ ((591 : Nat) : Int) + 7 = ((598 : Nat) : Int) ∧ 591 + 3 = 594 := ⟨rfl, rfl, rfl⟩
theorem xc246_594 : pmCode 246 594 = some (.iconst 1) ∧ 594 + 1 = 595 := ⟨rfl, rfl⟩
theorem xc246_595 : pmCode 246 595 = some (.goto 4) ∧ ((595 : Nat) : Int) + 4 = ((599 : Nat) : Int) := ⟨rfl, rfl⟩
theorem xc246_598 : pmCode 246 598 = some (.iconst 0) ∧ 598 + 1 = 599 := ⟨rfl, rfl⟩
theorem xc246_599 : pmCode 246 599 = some (.aload_n 0) ∧ 599 + 1 = 600 := ⟨rfl, rfl⟩
theorem xc246_600 : pmCode 246 600 = some (.iload_n 3) ∧ 600 + 1 = 601 := ⟨rfl, rfl⟩
theorem xc246_601 : pmCode 246 601 = some (.iconst 3) ∧ 601 + 1 = 602 := ⟨rfl, rfl⟩
theorem xc246_602 : pmCode 246 602 = some .iadd ∧ 602 + 1 = 603 := ⟨rfl, rfl⟩
theorem xc246_603 : pmCode 246 603 = some .iaload ∧ 603 + 1 = 604 := ⟨rfl, rfl⟩
theorem xc246_604 : pmCode 246 604 = some (.invokevirtual 60) ∧ 604 + 3 = 607 := ⟨rfl, rfl⟩
theorem xc246_607 : pmCode 246 607 = some .pop ∧ 607 + 1 = 608 := ⟨rfl, rfl⟩
theorem xc246_608 : pmCode 246 608 = some (.aload_n 2) ∧ 608 + 1 = 609 := ⟨rfl, rfl⟩
theorem xc246_609 : pmCode 246 609 = some (.aload_n 0) ∧ 609 + 1 = 610 := ⟨rfl, rfl⟩
theorem xc246_610 : pmCode 246 610 = some (.iload_n 3) ∧ 610 + 1 = 611 := ⟨rfl, rfl⟩
theorem xc246_611 : pmCode 246 611 = some (.iconst 1) ∧ 611 + 1 = 612 := ⟨rfl, rfl⟩
theorem xc246_612 : pmCode 246 612 = some .iadd ∧ 612 + 1 = 613 := ⟨rfl, rfl⟩
theorem xc246_613 : pmCode 246 613 = some .iaload ∧ 613 + 1 = 614 := ⟨rfl, rfl⟩
theorem xc246_614 : pmCode 246 614 = some (.aload_n 0) ∧ 614 + 1 = 615 := ⟨rfl, rfl⟩
theorem xc246_615 : pmCode 246 615 = some (.iload_n 3) ∧ 615 + 1 = 616 := ⟨rfl, rfl⟩
theorem xc246_616 : pmCode 246 616 = some (.iconst 2) ∧ 616 + 1 = 617 := ⟨rfl, rfl⟩
theorem xc246_617 : pmCode 246 617 = some .iadd ∧ 617 + 1 = 618 := ⟨rfl, rfl⟩
theorem xc246_618 : pmCode 246 618 = some .iaload ∧ 618 + 1 = 619 := ⟨rfl, rfl⟩
theorem xc246_619 : pmCode 246 619 = some (.ifCond .eq 7) ∧ ((619 : Nat) : Int) + 7 = ((626 : Nat) : Int) ∧ 619 + 3 = 622 := ⟨rfl, rfl, rfl⟩
theorem xc246_622 : pmCode 246 622 = some (.iconst 1) ∧ 622 + 1 = 623 := ⟨rfl, rfl⟩
theorem xc246_623 : pmCode 246 623 = some (.goto 4) ∧ ((623 : Nat) : Int) + 4 = ((627 : Nat) : Int) := ⟨rfl, rfl⟩
theorem xc246_626 : pmCode 246 626 = some (.iconst 0) ∧ 626 + 1 = 627 := ⟨rfl, rfl⟩
theorem xc246_627 : pmCode 246 627 = some (.aload_n 0) ∧ 627 + 1 = 628 := ⟨rfl, rfl⟩
theorem xc246_628 : pmCode 246 628 = some (.iload_n 3) ∧ 628 + 1 = 629 := ⟨rfl, rfl⟩
theorem xc246_629 : pmCode 246 629 = some (.iconst 3) ∧ 629 + 1 = 630 := ⟨rfl, rfl⟩
theorem xc246_630 : pmCode 246 630 = some .iadd ∧ 630 + 1 = 631 := ⟨rfl, rfl⟩
theorem xc246_631 : pmCode 246 631 = some .iaload ∧ 631 + 1 = 632 := ⟨rfl, rfl⟩
theorem xc246_632 : pmCode 246 632 = some (.invokevirtual 64) ∧ 632 + 3 = 635 := ⟨rfl, rfl⟩
theorem xc246_635 : pmCode 246 635 = some .pop ∧ 635 + 1 = 636 := ⟨rfl, rfl⟩
theorem xc246_636 : pmCode 246 636 = some (.goto 593) ∧ ((636 : Nat) : Int) + 593 = ((1229 : Nat) : Int) := ⟨rfl, rfl⟩
theorem xc246_639 : pmCode 246 639 = some (.aload_n 1) ∧ 639 + 1 = 640 := ⟨rfl, rfl⟩
theorem xc246_640 : pmCode 246 640 = some (.aload_n 0) ∧ 640 + 1 = 641 := ⟨rfl, rfl⟩
theorem xc246_641 : pmCode 246 641 = some (.iload_n 3) ∧ 641 + 1 = 642 := ⟨rfl, rfl⟩
theorem xc246_642 : pmCode 246 642 = some (.iconst 1) ∧ 642 + 1 = 643 := ⟨rfl, rfl⟩
theorem xc246_643 : pmCode 246 643 = some .iadd ∧ 643 + 1 = 644 := ⟨rfl, rfl⟩
theorem xc246_644 : pmCode 246 644 = some .iaload ∧ 644 + 1 = 645 := ⟨rfl, rfl⟩
theorem xc246_645 : pmCode 246 645 = some (.aload_n 0) ∧ 645 + 1 = 646 := ⟨rfl, rfl⟩
theorem xc246_646 : pmCode 246 646 = some (.iload_n 3) ∧ 646 + 1 = 647 := ⟨rfl, rfl⟩
theorem xc246_647 : pmCode 246 647 = some (.iconst 2) ∧ 647 + 1 = 648 := ⟨rfl, rfl⟩
theorem xc246_648 : pmCode 246 648 = some .iadd ∧ 648 + 1 = 649 := ⟨rfl, rfl⟩
theorem xc246_649 : pmCode 246 649 = some .iaload ∧ 649 + 1 = 650 := ⟨rfl, rfl⟩
theorem xc246_650 : pmCode 246 650 = some (.invokevirtual 65) ∧ 650 + 3 = 653 := ⟨rfl, rfl⟩
theorem xc246_653 : pmCode 246 653 = some .pop ∧ 653 + 1 = 654 := ⟨rfl, rfl⟩
theorem xc246_654 : pmCode 246 654 = some (.aload_n 2) ∧ 654 + 1 = 655 := ⟨rfl, rfl⟩
theorem xc246_655 : pmCode 246 655 = some (.aload_n 0) ∧ 655 + 1 = 656 := ⟨rfl, rfl⟩
theorem xc246_656 : pmCode 246 656 = some (.iload_n 3) ∧ 656 + 1 = 657 := ⟨rfl, rfl⟩
theorem xc246_657 : pmCode 246 657 = some (.iconst 1) ∧ 657 + 1 = 658 := ⟨rfl, rfl⟩
theorem xc246_658 : pmCode 246 658 = some .iadd ∧ 658 + 1 = 659 := ⟨rfl, rfl⟩
theorem xc246_659 : pmCode 246 659 = some .iaload ∧ 659 + 1 = 660 := ⟨rfl, rfl⟩
theorem xc246_660 : pmCode 246 660 = some (.aload_n 0) ∧ 660 + 1 = 661 := ⟨rfl, rfl⟩
theorem xc246_661 : pmCode 246 661 = some (.iload_n 3) ∧ 661 + 1 = 662 := ⟨rfl, rfl⟩
theorem xc246_662 : pmCode 246 662 = some (.iconst 2) ∧ 662 + 1 = 663 := ⟨rfl, rfl⟩
theorem xc246_663 : pmCode 246 663 = some .iadd ∧ 663 + 1 = 664 := ⟨rfl, rfl⟩
theorem xc246_664 : pmCode 246 664 = some .iaload ∧ 664 + 1 = 665 := ⟨rfl, rfl⟩
theorem xc246_665 : pmCode 246 665 = some (.invokevirtual 69) ∧ 665 + 3 = 668 := ⟨rfl, rfl⟩
theorem xc246_668 : pmCode 246 668 = some .pop ∧ 668 + 1 = 669 := ⟨rfl, rfl⟩
theorem xc246_669 : pmCode 246 669 = some (.goto 560) ∧ ((669 : Nat) : Int) + 560 = ((1229 : Nat) : Int) := ⟨rfl, rfl⟩
theorem xc246_672 : pmCode 246 672 = some (.aload_n 1) ∧ 672 + 1 = 673 := ⟨rfl, rfl⟩
theorem xc246_673 : pmCode 246 673 = some (.aload_n 0) ∧ 673 + 1 = 674 := ⟨rfl, rfl⟩
theorem xc246_674 : pmCode 246 674 = some (.iload_n 3) ∧ 674 + 1 = 675 := ⟨rfl, rfl⟩
theorem xc246_675 : pmCode 246 675 = some (.iconst 1) ∧ 675 + 1 = 676 := ⟨rfl, rfl⟩
theorem xc246_676 : pmCode 246 676 = some .iadd ∧ 676 + 1 = 677 := ⟨rfl, rfl⟩
theorem xc246_677 : pmCode 246 677 = some .iaload ∧ 677 + 1 = 678 := ⟨rfl, rfl⟩
theorem xc246_678 : pmCode 246 678 = some (.aload_n 0) ∧ 678 + 1 = 679 := ⟨rfl, rfl⟩
theorem xc246_679 : pmCode 246 679 = some (.iload_n 3) ∧ 679 + 1 = 680 := ⟨rfl, rfl⟩
theorem xc246_680 : pmCode 246 680 = some (.iconst 2) ∧ 680 + 1 = 681 := ⟨rfl, rfl⟩
theorem xc246_681 : pmCode 246 681 = some .iadd ∧ 681 + 1 = 682 := ⟨rfl, rfl⟩
theorem xc246_682 : pmCode 246 682 = some .iaload ∧ 682 + 1 = 683 := ⟨rfl, rfl⟩
theorem xc246_683 : pmCode 246 683 = some (.aload_n 0) ∧ 683 + 1 = 684 := ⟨rfl, rfl⟩
theorem xc246_684 : pmCode 246 684 = some (.iload_n 3) ∧ 684 + 1 = 685 := ⟨rfl, rfl⟩
theorem xc246_685 : pmCode 246 685 = some (.iconst 3) ∧ 685 + 1 = 686 := ⟨rfl, rfl⟩
theorem xc246_686 : pmCode 246 686 = some .iadd ∧ 686 + 1 = 687 := ⟨rfl, rfl⟩
theorem xc246_687 : pmCode 246 687 = some .iaload ∧ 687 + 1 = 688 := ⟨rfl, rfl⟩
theorem xc246_688 : pmCode 246 688 = some (.invokevirtual 70) ∧ 688 + 3 = 691 := ⟨rfl, rfl⟩
theorem xc246_691 : pmCode 246 691 = some .pop ∧ 691 + 1 = 692 := ⟨rfl, rfl⟩
theorem xc246_692 : pmCode 246 692 = some (.aload_n 2) ∧ 692 + 1 = 693 := ⟨rfl, rfl⟩
theorem xc246_693 : pmCode 246 693 = some (.aload_n 0) ∧ 693 + 1 = 694 := ⟨rfl, rfl⟩
theorem xc246_694 : pmCode 246 694 = some (.iload_n 3) ∧ 694 + 1 = 695 := ⟨rfl, rfl⟩
theorem xc246_695 : pmCode 246 695 = some (.iconst 1) ∧ 695 + 1 = 696 := ⟨rfl, rfl⟩
theorem xc246_696 : pmCode 246 696 = some .iadd ∧ 696 + 1 = 697 := ⟨rfl, rfl⟩
theorem xc246_697 : pmCode 246 697 = some .iaload ∧ 697 + 1 = 698 := ⟨rfl, rfl⟩
theorem xc246_698 : pmCode 246 698 = some (.aload_n 0) ∧ 698 + 1 = 699 := ⟨rfl, rfl⟩
theorem xc246_699 : pmCode 246 699 = some (.iload_n 3) ∧ 699 + 1 = 700 := ⟨rfl, rfl⟩
theorem xc246_700 : pmCode 246 700 = some (.iconst 2) ∧ 700 + 1 = 701 := ⟨rfl, rfl⟩
theorem xc246_701 : pmCode 246 701 = some .iadd ∧ 701 + 1 = 702 := ⟨rfl, rfl⟩
theorem xc246_702 : pmCode 246 702 = some .iaload ∧ 702 + 1 = 703 := ⟨rfl, rfl⟩
theorem xc246_703 : pmCode 246 703 = some (.aload_n 0) ∧ 703 + 1 = 704 := ⟨rfl, rfl⟩
theorem xc246_704 : pmCode 246 704 = some (.iload_n 3) ∧ 704 + 1 = 705 := ⟨rfl, rfl⟩
theorem xc246_705 : pmCode 246 705 = some (.iconst 3) ∧ 705 + 1 = 706 := ⟨rfl, rfl⟩
theorem xc246_706 : pmCode 246 706 = some .iadd ∧ 706 + 1 = 707 := ⟨rfl, rfl⟩
theorem xc246_707 : pmCode 246 707 = some .iaload ∧ 707 + 1 = 708 := ⟨rfl, rfl⟩
theorem xc246_708 : pmCode 246 708 = some (.invokevirtual 73) ∧ 708 + 3 = 711 := ⟨rfl, rfl⟩
theorem xc246_711 : pmCode 246 711 = some .pop ∧ 711 + 1 = 712 := ⟨rfl, rfl⟩
theorem xc246_712 : pmCode 246 712 = some (.goto 517) ∧ ((712 : Nat) : Int) + 517 = ((1229 : Nat) : Int) := ⟨rfl, rfl⟩
theorem xc246_715 : pmCode 246 715 = some (.aload_n 1) ∧ 715 + 1 = 716 := ⟨rfl, rfl⟩
theorem xc246_716 : pmCode 246 716 = some (.aload_n 0) ∧ 716 + 1 = 717 := ⟨rfl, rfl⟩
theorem xc246_717 : pmCode 246 717 = some (.iload_n 3) ∧ 717 + 1 = 718 := ⟨rfl, rfl⟩
theorem xc246_718 : pmCode 246 718 = some (.iconst 1) ∧ 718 + 1 = 719 := ⟨rfl, rfl⟩
theorem xc246_719 : pmCode 246 719 = some .iadd ∧ 719 + 1 = 720 := ⟨rfl, rfl⟩
theorem xc246_720 : pmCode 246 720 = some .iaload ∧ 720 + 1 = 721 := ⟨rfl, rfl⟩
theorem xc246_721 : pmCode 246 721 = some (.invokevirtual 74) ∧ 721 + 3 = 724 := ⟨rfl, rfl⟩
theorem xc246_724 : pmCode 246 724 = some .pop ∧ 724 + 1 = 725 := ⟨rfl, rfl⟩
theorem xc246_725 : pmCode 246 725 = some (.aload_n 2) ∧ 725 + 1 = 726 := ⟨rfl, rfl⟩
theorem xc246_726 : pmCode 246 726 = some (.aload_n 0) ∧ 726 + 1 = 727 := ⟨rfl, rfl⟩
theorem xc246_727 : pmCode 246 727 = some (.iload_n 3) ∧ 727 + 1 = 728 := ⟨rfl, rfl⟩
theorem xc246_728 : pmCode 246 728 = some (.iconst 1) ∧ 728 + 1 = 729 := ⟨rfl, rfl⟩
theorem xc246_729 : pmCode 246 729 = some .iadd ∧ 729 + 1 = 730 := ⟨rfl, rfl⟩
theorem xc246_730 : pmCode 246 730 = some .iaload ∧ 730 + 1 = 731 := ⟨rfl, rfl⟩
theorem xc246_731 : pmCode 246 731 = some (.invokevirtual 77) ∧ 731 + 3 = 734 := ⟨rfl, rfl⟩
theorem xc246_734 : pmCode 246 734 = some .pop ∧ 734 + 1 = 735 := ⟨rfl, rfl⟩
theorem xc246_735 : pmCode 246 735 = some (.goto 494) ∧ ((735 : Nat) : Int) + 494 = ((1229 : Nat) : Int) := ⟨rfl, rfl⟩
theorem xc246_738 : pmCode 246 738 = some (.aload_n 1) ∧ 738 + 1 = 739 := ⟨rfl, rfl⟩
theorem xc246_739 : pmCode 246 739 = some (.aload_n 0) ∧ 739 + 1 = 740 := ⟨rfl, rfl⟩
theorem xc246_740 : pmCode 246 740 = some (.iload_n 3) ∧ 740 + 1 = 741 := ⟨rfl, rfl⟩
theorem xc246_741 : pmCode 246 741 = some (.iconst 1) ∧ 741 + 1 = 742 := ⟨rfl, rfl⟩
theorem xc246_742 : pmCode 246 742 = some .iadd ∧ 742 + 1 = 743 := ⟨rfl, rfl⟩
theorem xc246_743 : pmCode 246 743 = some .iaload ∧ 743 + 1 = 744 := ⟨rfl, rfl⟩
theorem xc246_744 : pmCode 246 744 = some (.aload_n 0) ∧ 744 + 1 = 745 := ⟨rfl, rfl⟩
theorem xc246_745 : pmCode 246 745 = some (.iload_n 3) ∧ 745 + 1 = 746 := ⟨rfl, rfl⟩
theorem xc246_746 : pmCode 246 746 = some (.iconst 2) ∧ 746 + 1 = 747 := ⟨rfl, rfl⟩
theorem xc246_747 : pmCode 246 747 = some .iadd ∧ 747 + 1 = 748 := ⟨rfl, rfl⟩
theorem xc246_748 : pmCode 246 748 = some .iaload ∧ 748 + 1 = 749 := ⟨rfl, rfl⟩
theorem xc246_749 : pmCode 246 749 = some (.aload_n 0) ∧ 749 + 1 = 750 := ⟨rfl, rfl⟩
theorem xc246_750 : pmCode 246 750 = some (.iload_n 3) ∧ 750 + 1 = 751 := ⟨rfl, rfl⟩
theorem xc246_751 : pmCode 246 751 = some (.iconst 3) ∧ 751 + 1 = 752 := ⟨rfl, rfl⟩
theorem xc246_752 : pmCode 246 752 = some .iadd ∧ 752 + 1 = 753 := ⟨rfl, rfl⟩
theorem xc246_753 : pmCode 246 753 = some .iaload ∧ 753 + 1 = 754 := ⟨rfl, rfl⟩
theorem xc246_754 : pmCode 246 754 = some (.invokevirtual 78) ∧ 754 + 3 = 757 := ⟨rfl, rfl⟩
theorem xc246_757 : pmCode 246 757 = some .pop ∧ 757 + 1 = 758 := ⟨rfl, rfl⟩
theorem xc246_758 : pmCode 246 758 = some (.aload_n 2) ∧ 758 + 1 = 759 := ⟨rfl, rfl⟩
theorem xc246_759 : pmCode 246 759 = some (.aload_n 0) ∧ 759 + 1 = 760 := ⟨rfl, rfl⟩
theorem xc246_760 : pmCode 246 760 = some (.iload_n 3) ∧ 760 + 1 = 761 := ⟨rfl, rfl⟩
theorem xc246_761 : pmCode 246 761 = some (.iconst 1) ∧ 761 + 1 = 762 := ⟨rfl, rfl⟩
theorem xc246_762 : pmCode 246 762 = some .iadd ∧ 762 + 1 = 763 := ⟨rfl, rfl⟩
theorem xc246_763 : pmCode 246 763 = some .iaload ∧ 763 + 1 = 764 := ⟨rfl, rfl⟩
theorem xc246_764 : pmCode 246 764 = some (.aload_n 0) ∧ 764 + 1 = 765 := ⟨rfl, rfl⟩
theorem xc246_765 : pmCode 246 765 = some (.iload_n 3) ∧ 765 + 1 = 766 := ⟨rfl, rfl⟩
theorem xc246_766 : pmCode 246 766 = some (.iconst 2) ∧ 766 + 1 = 767 := ⟨rfl, rfl⟩
theorem xc246_767 : pmCode 246 767 = some .iadd ∧ 767 + 1 = 768 := ⟨rfl, rfl⟩
theorem xc246_768 : pmCode 246 768 = some .iaload ∧ 768 + 1 = 769 := ⟨rfl, rfl⟩
theorem xc246_769 : pmCode 246 769 = some (.aload_n 0) ∧ 769 + 1 = 770 := ⟨rfl, rfl⟩
theorem xc246_770 : pmCode 246 770 = some (.iload_n 3) ∧ 770 + 1 = 771 := ⟨rfl, rfl⟩
theorem xc246_771 : pmCode 246 771 = some (.iconst 3) ∧ 771 + 1 = 772 := ⟨rfl, rfl⟩
theorem xc246_772 : pmCode 246 772 = some .iadd ∧ 772 + 1 = 773 := ⟨rfl, rfl⟩
theorem xc246_773 : pmCode 246 773 = some .iaload ∧ 773 + 1 = 774 := ⟨rfl, rfl⟩
theorem xc246_774 : pmCode 246 774 = some (.invokevirtual 81) ∧ 774 + 3 = 777 := ⟨rfl, rfl⟩
theorem xc246_777 : pmCode 246 777 = some .pop ∧ 777 + 1 = 778 := ⟨rfl, rfl⟩
theorem xc246_778 : pmCode 246 778 = some (.goto 451) ∧ ((778 : Nat) : Int) + 451 = ((1229 : Nat) : Int) := ⟨rfl, rfl⟩
theorem xc246_781 : pmCode 246 781 = some (.aload_n 1) ∧ 781 + 1 = 782 := ⟨rfl, rfl⟩
theorem xc246_782 : pmCode 246 782 = some (.aload_n 0) ∧ 782 + 1 = 783 := ⟨rfl, rfl⟩
theorem xc246_783 : pmCode 246 783 = some (.iload_n 3) ∧ 783 + 1 = 784 := ⟨rfl, rfl⟩
theorem xc246_784 : pmCode 246 784 = some (.iconst 1) ∧ 784 + 1 = 785 := ⟨rfl, rfl⟩
theorem xc246_785 : pmCode 246 785 = some .iadd ∧ 785 + 1 = 786 := ⟨rfl, rfl⟩
theorem xc246_786 : pmCode 246 786 = some .iaload ∧ 786 + 1 = 787 := ⟨rfl, rfl⟩
theorem xc246_787 : pmCode 246 787 = some (.aload_n 0) ∧ 787 + 1 = 788 := ⟨rfl, rfl⟩
theorem xc246_788 : pmCode 246 788 = some (.iload_n 3) ∧ 788 + 1 = 789 := ⟨rfl, rfl⟩
theorem xc246_789 : pmCode 246 789 = some (.iconst 2) ∧ 789 + 1 = 790 := ⟨rfl, rfl⟩
theorem xc246_790 : pmCode 246 790 = some .iadd ∧ 790 + 1 = 791 := ⟨rfl, rfl⟩
theorem xc246_791 : pmCode 246 791 = some .iaload ∧ 791 + 1 = 792 := ⟨rfl, rfl⟩
theorem xc246_792 : pmCode 246 792 = some (.invokevirtual 82) ∧ 792 + 3 = 795 := ⟨rfl, rfl⟩
theorem xc246_795 : pmCode 246 795 = some .pop ∧ 795 + 1 = 796 := ⟨rfl, rfl⟩
theorem xc246_796 : pmCode 246 796 = some (.aload_n 2) ∧ 796 + 1 = 797 := ⟨rfl, rfl⟩
theorem xc246_797 : pmCode 246 797 = some (.aload_n 0) ∧ 797 + 1 = 798 := ⟨rfl, rfl⟩
theorem xc246_798 : pmCode 246 798 = some (.iload_n 3) ∧ 798 + 1 = 799 := ⟨rfl, rfl⟩
theorem xc246_799 : pmCode 246 799 = some (.iconst 1) ∧ 799 + 1 = 800 := ⟨rfl, rfl⟩
theorem xc246_800 : pmCode 246 800 = some .iadd ∧ 800 + 1 = 801 := ⟨rfl, rfl⟩
theorem xc246_801 : pmCode 246 801 = some .iaload ∧ 801 + 1 = 802 := ⟨rfl, rfl⟩
theorem xc246_802 : pmCode 246 802 = some (.aload_n 0) ∧ 802 + 1 = 803 := ⟨rfl, rfl⟩
theorem xc246_803 : pmCode 246 803 = some (.iload_n 3) ∧ 803 + 1 = 804 := ⟨rfl, rfl⟩
theorem xc246_804 : pmCode 246 804 = some (.iconst 2) ∧ 804 + 1 = 805 := ⟨rfl, rfl⟩
theorem xc246_805 : pmCode 246 805 = some .iadd ∧ 805 + 1 = 806 := ⟨rfl, rfl⟩
theorem xc246_806 : pmCode 246 806 = some .iaload ∧ 806 + 1 = 807 := ⟨rfl, rfl⟩
theorem xc246_807 : pmCode 246 807 = some (.invokevirtual 85) ∧ 807 + 3 = 810 := ⟨rfl, rfl⟩
theorem xc246_810 : pmCode 246 810 = some .pop ∧ 810 + 1 = 811 := ⟨rfl, rfl⟩
theorem xc246_811 : pmCode 246 811 = some (.goto 418) ∧ ((811 : Nat) : Int) + 418 = ((1229 : Nat) : Int) := ⟨rfl, rfl⟩
theorem xc246_814 : pmCode 246 814 = some (.aload_n 1) ∧ 814 + 1 = 815 := ⟨rfl, rfl⟩
theorem xc246_815 : pmCode 246 815 = some (.aload_n 0) ∧ 815 + 1 = 816 := ⟨rfl, rfl⟩
theorem xc246_816 : pmCode 246 816 = some (.iload_n 3) ∧ 816 + 1 = 817 := ⟨rfl, rfl⟩
theorem xc246_817 : pmCode 246 817 = some (.iconst 1) ∧ 817 + 1 = 818 := ⟨rfl, rfl⟩
theorem xc246_818 : pmCode 246 818 = some .iadd ∧ 818 + 1 = 819 := ⟨rfl, rfl⟩
theorem xc246_819 : pmCode 246 819 = some .iaload ∧ 819 + 1 = 820 := ⟨rfl, rfl⟩
theorem xc246_820 : pmCode 246 820 = some (.aload_n 0) ∧ 820 + 1 = 821 := ⟨rfl, rfl⟩
theorem xc246_821 : pmCode 246 821 = some (.iload_n 3) ∧ 821 + 1 = 822 := ⟨rfl, rfl⟩
theorem xc246_822 : pmCode 246 822 = some (.iconst 2) ∧ 822 + 1 = 823 := ⟨rfl, rfl⟩
theorem xc246_823 : pmCode 246 823 = some .iadd ∧ 823 + 1 = 824 := ⟨rfl, rfl⟩
theorem xc246_824 : pmCode 246 824 = some .iaload ∧ 824 + 1 = 825 := ⟨rfl, rfl⟩
theorem xc246_825 : pmCode 246 825 = some (.invokevirtual 86) ∧ 825 + 3 = 828 := ⟨rfl, rfl⟩
theorem xc246_828 : pmCode 246 828 = some .pop ∧ 828 + 1 = 829 := ⟨rfl, rfl⟩
theorem xc246_829 : pmCode 246 829 = some (.aload_n 2) ∧ 829 + 1 = 830 := ⟨rfl, rfl⟩
theorem xc246_830 : pmCode 246 830 = some (.aload_n 0) ∧ 830 + 1 = 831 := ⟨rfl, rfl⟩
theorem xc246_831 : pmCode 246 831 = some (.iload_n 3) ∧ 831 + 1 = 832 := ⟨rfl, rfl⟩
theorem xc246_832 : pmCode 246 832 = some (.iconst 1) ∧ 832 + 1 = 833 := ⟨rfl, rfl⟩
theorem xc246_833 : pmCode 246 833 = some .iadd ∧ 833 + 1 = 834 := ⟨rfl, rfl⟩
theorem xc246_834 : pmCode 246 834 = some .iaload ∧ 834 + 1 = 835 := ⟨rfl, rfl⟩
theorem xc246_835 : pmCode 246 835 = some (.aload_n 0) ∧ 835 + 1 = 836 := ⟨rfl, rfl⟩
theorem xc246_836 : pmCode 246 836 = some (.iload_n 3) ∧ 836 + 1 = 837 := ⟨rfl, rfl⟩
theorem xc246_837 : pmCode 246 837 = some (.iconst 2) ∧ 837 + 1 = 838 := ⟨rfl, rfl⟩
theorem xc246_838 : pmCode 246 838 = some .iadd ∧ 838 + 1 = 839 := ⟨rfl, rfl⟩
theorem xc246_839 : pmCode 246 839 = some .iaload ∧ 839 + 1 = 840 := ⟨rfl, rfl⟩
theorem xc246_840 : pmCode 246 840 = some (.invokevirtual 89) ∧ 840 + 3 = 843 := ⟨rfl, rfl⟩
theorem xc246_843 : pmCode 246 843 = some .pop ∧ 843 + 1 = 844 := ⟨rfl, rfl⟩
theorem xc246_844 : pmCode 246 844 = some (.goto 385) ∧ ((844 : Nat) : Int) + 385 = ((1229 : Nat) : Int) := ⟨rfl, rfl⟩
theorem xc246_847 : pmCode 246 847 = some (.aload_n 1) ∧ 847 + 1 = 848 := ⟨rfl, rfl⟩
theorem xc246_848 : pmCode 246 848 = some (.aload_n 0) ∧ 848 + 1 = 849 := ⟨rfl, rfl⟩
theorem xc246_849 : pmCode 246 849 = some (.iload_n 3) ∧ 849 + 1 = 850 := ⟨rfl, rfl⟩
theorem xc246_850 : pmCode 246 850 = some (.iconst 1) ∧ 850 + 1 = 851 := ⟨rfl, rfl⟩
theorem xc246_851 : pmCode 246 851 = some .iadd ∧ 851 + 1 = 852 := ⟨rfl, rfl⟩
theorem xc246_852 : pmCode 246 852 = some .iaload ∧ 852 + 1 = 853 := ⟨rfl, rfl⟩
theorem xc246_853 : pmCode 246 853 = some (.invokevirtual 90) ∧ 853 + 3 = 856 := ⟨rfl, rfl⟩
theorem xc246_856 : pmCode 246 856 = some .pop ∧ 856 + 1 = 857 := ⟨rfl, rfl⟩
theorem xc246_857 : pmCode 246 857 = some (.aload_n 2) ∧ 857 + 1 = 858 := ⟨rfl, rfl⟩
theorem xc246_858 : pmCode 246 858 = some (.aload_n 0) ∧ 858 + 1 = 859 := ⟨rfl, rfl⟩
theorem xc246_859 : pmCode 246 859 = some (.iload_n 3) ∧ 859 + 1 = 860 := ⟨rfl, rfl⟩
theorem xc246_860 : pmCode 246 860 = some (.iconst 1) ∧ 860 + 1 = 861 := ⟨rfl, rfl⟩
theorem xc246_861 : pmCode 246 861 = some .iadd ∧ 861 + 1 = 862 := ⟨rfl, rfl⟩
theorem xc246_862 : pmCode 246 862 = some .iaload ∧ 862 + 1 = 863 := ⟨rfl, rfl⟩
theorem xc246_863 : pmCode 246 863 = some (.invokevirtual 93) ∧ 863 + 3 = 866 := ⟨rfl, rfl⟩
theorem xc246_866 : pmCode 246 866 = some .pop ∧ 866 + 1 = 867 := ⟨rfl, rfl⟩
theorem xc246_867 : pmCode 246 867 = some (.goto 362) ∧ ((867 : Nat) : Int) + 362 = ((1229 : Nat) : Int) := ⟨rfl, rfl⟩
theorem xc246_870 : pmCode 246 870 = some (.aload_n 1) ∧ 870 + 1 = 871 := ⟨rfl, rfl⟩
theorem xc246_871 : pmCode 246 871 = some (.aload_n 0) ∧ 871 + 1 = 872 := ⟨rfl, rfl⟩
theorem xc246_872 : pmCode 246 872 = some (.iload_n 3) ∧ 872 + 1 = 873 := ⟨rfl, rfl⟩
theorem xc246_873 : pmCode 246 873 = some (.iconst 1) ∧ 873 + 1 = 874 := ⟨rfl, rfl⟩
theorem xc246_874 : pmCode 246 874 = some .iadd ∧ 874 + 1 = 875 := ⟨rfl, rfl⟩
theorem xc246_875 : pmCode 246 875 = some .iaload ∧ 875 + 1 = 876 := ⟨rfl, rfl⟩
theorem xc246_876 : pmCode 246 876 = some (.invokevirtual 94) ∧ 876 + 3 = 879 := ⟨rfl, rfl⟩
theorem xc246_879 : pmCode 246 879 = some .pop ∧ 879 + 1 = 880 := ⟨rfl, rfl⟩
theorem xc246_880 : pmCode 246 880 = some (.aload_n 2) ∧ 880 + 1 = 881 := ⟨rfl, rfl⟩
theorem xc246_881 : pmCode 246 881 = some (.aload_n 0) ∧ 881 + 1 = 882 := ⟨rfl, rfl⟩
theorem xc246_882 : pmCode 246 882 = some (.iload_n 3) ∧ 882 + 1 = 883 := ⟨rfl, rfl⟩
theorem xc246_883 : pmCode 246 883 = some (.iconst 1) ∧ 883 + 1 = 884 := ⟨rfl, rfl⟩
theorem xc246_884 : pmCode 246 884 = some .iadd ∧ 884 + 1 = 885 := ⟨rfl, rfl⟩
theorem xc246_885 : pmCode 246 885 = some .iaload ∧ 885 + 1 = 886 := ⟨rfl, rfl⟩
theorem xc246_886 : pmCode 246 886 = some (.invokevirtual 97) ∧ 886 + 3 = 889 := ⟨rfl, rfl⟩
theorem xc246_889 : pmCode 246 889 = some .pop ∧ 889 + 1 = 890 := ⟨rfl, rfl⟩
theorem xc246_890 : pmCode 246 890 = some (.goto 339) ∧ ((890 : Nat) : Int) + 339 = ((1229 : Nat) : Int) := ⟨rfl, rfl⟩
theorem xc246_893 : pmCode 246 893 = some (.aload_n 1) ∧ 893 + 1 = 894 := ⟨rfl, rfl⟩
theorem xc246_894 : pmCode 246 894 = some (.aload_n 0) ∧ 894 + 1 = 895 := ⟨rfl, rfl⟩
theorem xc246_895 : pmCode 246 895 = some (.iload_n 3) ∧ 895 + 1 = 896 := ⟨rfl, rfl⟩
theorem xc246_896 : pmCode 246 896 = some (.iconst 1) ∧ 896 + 1 = 897 := ⟨rfl, rfl⟩
theorem xc246_897 : pmCode 246 897 = some .iadd ∧ 897 + 1 = 898 := ⟨rfl, rfl⟩
theorem xc246_898 : pmCode 246 898 = some .iaload ∧ 898 + 1 = 899 := ⟨rfl, rfl⟩
theorem xc246_899 : pmCode 246 899 = some (.invokevirtual 98) ∧ 899 + 3 = 902 := ⟨rfl, rfl⟩
theorem xc246_902 : pmCode 246 902 = some .pop ∧ 902 + 1 = 903 := ⟨rfl, rfl⟩
theorem xc246_903 : pmCode 246 903 = some (.aload_n 2) ∧ 903 + 1 = 904 := ⟨rfl, rfl⟩
theorem xc246_904 : pmCode 246 904 = some (.aload_n 0) ∧ 904 + 1 = 905 := ⟨rfl, rfl⟩
theorem xc246_905 : pmCode 246 905 = some (.iload_n 3) ∧ 905 + 1 = 906 := ⟨rfl, rfl⟩
theorem xc246_906 : pmCode 246 906 = some (.iconst 1) ∧ 906 + 1 = 907 := ⟨rfl, rfl⟩
theorem xc246_907 : pmCode 246 907 = some .iadd ∧ 907 + 1 = 908 := ⟨rfl, rfl⟩
theorem xc246_908 : pmCode 246 908 = some .iaload ∧ 908 + 1 = 909 := ⟨rfl, rfl⟩
theorem xc246_909 : pmCode 246 909 = some (.invokevirtual 101) ∧ 909 + 3 = 912 := ⟨rfl, rfl⟩
theorem xc246_912 : pmCode 246 912 = some .pop ∧ 912 + 1 = 913 := ⟨rfl, rfl⟩
theorem xc246_913 : pmCode 246 913 = some (.goto 316) ∧ ((913 : Nat) : Int) + 316 = ((1229 : Nat) : Int) := ⟨rfl, rfl⟩
theorem xc246_916 : pmCode 246 916 = some (.aload_n 1) ∧ 916 + 1 = 917 := ⟨rfl, rfl⟩
theorem xc246_917 : pmCode 246 917 = some (.invokevirtual 102) ∧ 917 + 3 = 920 := ⟨rfl, rfl⟩
theorem xc246_920 : pmCode 246 920 = some .pop ∧ 920 + 1 = 921 := ⟨rfl, rfl⟩
theorem xc246_921 : pmCode 246 921 = some (.aload_n 2) ∧ 921 + 1 = 922 := ⟨rfl, rfl⟩
theorem xc246_922 : pmCode 246 922 = some (.invokevirtual 106) ∧ 922 + 3 = 925 := ⟨rfl, rfl⟩
theorem xc246_925 : pmCode 246 925 = some .pop ∧ 925 + 1 = 926 := ⟨rfl, rfl⟩
theorem xc246_926 : pmCode 246 926 = some (.goto 303) ∧ ((926 : Nat) : Int) + 303 = ((1229 : Nat) : Int) := ⟨rfl, rfl⟩
theorem xc246_929 : pmCode 246 929 = some (.aload_n 1) ∧ 929 + 1 = 930 := ⟨rfl, rfl⟩
theorem xc246_930 : pmCode 246 930 = some (.aload_n 0) ∧ 930 + 1 = 931 := ⟨rfl, rfl⟩
theorem xc246_931 : pmCode 246 931 = some (.iload_n 3) ∧ 931 + 1 = 932 := ⟨rfl, rfl⟩
theorem xc246_932 : pmCode 246 932 = some (.iconst 1) ∧ 932 + 1 = 933 := ⟨rfl, rfl⟩
theorem xc246_933 : pmCode 246 933 = some .iadd ∧ 933 + 1 = 934 := ⟨rfl, rfl⟩
theorem xc246_934 : pmCode 246 934 = some .iaload ∧ 934 + 1 = 935 := ⟨rfl, rfl⟩
theorem xc246_935 : pmCode 246 935 = some (.aload_n 0) ∧ 935 + 1 = 936 := ⟨rfl, rfl⟩
theorem xc246_936 : pmCode 246 936 = some (.iload_n 3) ∧ 936 + 1 = 937 := ⟨rfl, rfl⟩
theorem xc246_937 : pmCode 246 937 = some (.iconst 2) ∧ 937 + 1 = 938 := ⟨rfl, rfl⟩
theorem xc246_938 : pmCode 246 938 = some .iadd ∧ 938 + 1 = 939 := ⟨rfl, rfl⟩
theorem xc246_939 : pmCode 246 939 = some .iaload ∧ 939 + 1 = 940 := ⟨rfl, rfl⟩
theorem xc246_940 : pmCode 246 940 = some (.invokevirtual 107) ∧ 940 + 3 = 943 := ⟨rfl, rfl⟩
theorem xc246_943 : pmCode 246 943 = some .pop ∧ 943 + 1 = 944 := ⟨rfl, rfl⟩
theorem xc246_944 : pmCode 246 944 = some (.aload_n 2) ∧ 944 + 1 = 945 := ⟨rfl, rfl⟩
theorem xc246_945 : pmCode 246 945 = some (.aload_n 0) ∧ 945 + 1 = 946 := ⟨rfl, rfl⟩
theorem xc246_946 : pmCode 246 946 = some (.iload_n 3) ∧ 946 + 1 = 947 := ⟨rfl, rfl⟩
theorem xc246_947 : pmCode 246 947 = some (.iconst 1) ∧ 947 + 1 = 948 := ⟨rfl, rfl⟩
theorem xc246_948 : pmCode 246 948 = some .iadd ∧ 948 + 1 = 949 := ⟨rfl, rfl⟩
theorem xc246_949 : pmCode 246 949 = some .iaload ∧ 949 + 1 = 950 := ⟨rfl, rfl⟩
theorem xc246_950 : pmCode 246 950 = some (.aload_n 0) ∧ 950 + 1 = 951 := ⟨rfl, rfl⟩
theorem xc246_951 : pmCode 246 951 = some (.iload_n 3) ∧ 951 + 1 = 952 := ⟨rfl, rfl⟩
theorem xc246_952 : pmCode 246 952 = some (.iconst 2) ∧ 952 + 1 = 953 := ⟨rfl, rfl⟩
theorem xc246_953 : pmCode 246 953 = some .iadd ∧ 953 + 1 = 954 := ⟨rfl, rfl⟩
theorem xc246_954 : pmCode 246 954 = some .iaload ∧ 954 + 1 = 955 := ⟨rfl, rfl⟩
theorem xc246_955 : pmCode 246 955 = some (.invokevirtual 110) ∧ 955 + 3 = 958 := ⟨rfl, rfl⟩
theorem xc246_958 : pmCode 246 958 = some .pop ∧ 958 + 1 = 959 := ⟨rfl, rfl⟩
theorem xc246_959 : pmCode 246 959 = some (.goto 270) ∧ ((959 : Nat) : Int) + 270 = ((1229 : Nat) : Int) := ⟨rfl, rfl⟩
theorem xc246_962 : pmCode 246 962 = some (.aload_n 1) ∧ 962 + 1 = 963 := ⟨rfl, rfl⟩
theorem xc246_963 : pmCode 246 963 = some (.aload_n 0) ∧ 963 + 1 = 964 := ⟨rfl, rfl⟩
theorem xc246_964 : pmCode 246 964 = some (.iload_n 3) ∧ 964 + 1 = 965 := ⟨rfl, rfl⟩
theorem xc246_965 : pmCode 246 965 = some (.iconst 1) ∧ 965 + 1 = 966 := ⟨rfl, rfl⟩
theorem xc246_966 : pmCode 246 966 = some .iadd ∧ 966 + 1 = 967 := ⟨rfl, rfl⟩
theorem xc246_967 : pmCode 246 967 = some .iaload ∧ 967 + 1 = 968 := ⟨rfl, rfl⟩
theorem xc246_968 : pmCode 246 968 = some (.invokevirtual 111) ∧ 968 + 3 = 971 := ⟨rfl, rfl⟩
theorem xc246_971 : pmCode 246 971 = some .pop ∧ 971 + 1 = 972 := ⟨rfl, rfl⟩
theorem xc246_972 : pmCode 246 972 = some (.aload_n 2) ∧ 972 + 1 = 973 := ⟨rfl, rfl⟩
theorem xc246_973 : pmCode 246 973 = some (.aload_n 0) ∧ 973 + 1 = 974 := ⟨rfl, rfl⟩
theorem xc246_974 : pmCode 246 974 = some (.iload_n 3) ∧ 974 + 1 = 975 := ⟨rfl, rfl⟩
theorem xc246_975 : pmCode 246 975 = some (.iconst 1) ∧ 975 + 1 = 976 := ⟨rfl, rfl⟩
theorem xc246_976 : pmCode 246 976 = some .iadd ∧ 976 + 1 = 977 := ⟨rfl, rfl⟩
theorem xc246_977 : pmCode 246 977 = some .iaload ∧ 977 + 1 = 978 := ⟨rfl, rfl⟩
theorem xc246_978 : pmCode 246 978 = some (.invokevirtual 114) ∧ 978 + 3 = 981 := ⟨rfl, rfl⟩
theorem xc246_981 : pmCode 246 981 = some .pop ∧ 981 + 1 = 982 := ⟨rfl, rfl⟩
theorem xc246_982 : pmCode 246 982 = some (.goto 247) ∧ ((982 : Nat) : Int) + 247 = ((1229 : Nat) : Int) := ⟨rfl, rfl⟩
theorem xc246_985 : pmCode 246 985 = some (.aload_n 1) ∧ 985 + 1 = 986 := ⟨rfl, rfl⟩
theorem xc246_986 : pmCode 246 986 = some (.aload_n 0) ∧ 986 + 1 = 987 := ⟨rfl, rfl⟩
theorem xc246_987 : pmCode 246 987 = some (.iload_n 3) ∧ 987 + 1 = 988 := ⟨rfl, rfl⟩
theorem xc246_988 : pmCode 246 988 = some (.iconst 1) ∧ 988 + 1 = 989 := ⟨rfl, rfl⟩
theorem xc246_989 : pmCode 246 989 = some .iadd ∧ 989 + 1 = 990 := ⟨rfl, rfl⟩
theorem xc246_990 : pmCode 246 990 = some .iaload ∧ 990 + 1 = 991 := ⟨rfl, rfl⟩
theorem xc246_991 : pmCode 246 991 = some (.invokevirtual 115) ∧ 991 + 3 = 994 := ⟨rfl, rfl⟩
theorem xc246_994 : pmCode 246 994 = some .pop ∧ 994 + 1 = 995 := ⟨rfl, rfl⟩
theorem xc246_995 : pmCode 246 995 = some (.aload_n 2) ∧ 995 + 1 = 996 := ⟨rfl, rfl⟩
theorem xc246_996 : pmCode 246 996 = some (.aload_n 0) ∧ 996 + 1 = 997 := ⟨rfl, rfl⟩
theorem xc246_997 : pmCode 246 997 = some (.iload_n 3) ∧ 997 + 1 = 998 := ⟨rfl, rfl⟩
theorem xc246_998 : pmCode 246 998 = some (.iconst 1) ∧ 998 + 1 = 999 := ⟨rfl, rfl⟩
theorem xc246_999 : pmCode 246 999 = some .iadd ∧ 999 + 1 = 1000 := ⟨rfl, rfl⟩
theorem xc246_1000 : pmCode 246 1000 = some .iaload ∧ 1000 + 1 = 1001 := ⟨rfl, rfl⟩
theorem xc246_1001 : pmCode 246 1001 = some (.invokevirtual 118) ∧ 1001 + 3 = 1004 := ⟨rfl, rfl⟩
theorem xc246_1004 : pmCode 246 1004 = some .pop ∧ 1004 + 1 = 1005 := ⟨rfl, rfl⟩
theorem xc246_1005 : pmCode 246 1005 = some (.goto 224) ∧ ((1005 : Nat) : Int) + 224 = ((1229 : Nat) : Int) := ⟨rfl, rfl⟩
theorem xc246_1008 : pmCode 246 1008 = some (.aload_n 1) ∧ 1008 + 1 = 1009 := ⟨rfl, rfl⟩
theorem xc246_1009 : pmCode 246 1009 = some (.aload_n 0) ∧ 1009 + 1 = 1010 := ⟨rfl, rfl⟩
theorem xc246_1010 : pmCode 246 1010 = some (.iload_n 3) ∧ 1010 + 1 = 1011 := ⟨rfl, rfl⟩
theorem xc246_1011 : pmCode 246 1011 = some (.iconst 1) ∧ 1011 + 1 = 1012 := ⟨rfl, rfl⟩
theorem xc246_1012 : pmCode 246 1012 = some .iadd ∧ 1012 + 1 = 1013 := ⟨rfl, rfl⟩
theorem xc246_1013 : pmCode 246 1013 = some .iaload ∧ 1013 + 1 = 1014 := ⟨rfl, rfl⟩
theorem xc246_1014 : pmCode 246 1014 = some (.aload_n 0) ∧ 1014 + 1 = 1015 := ⟨rfl, rfl⟩
theorem xc246_1015 : pmCode 246 1015 = some (.iload_n 3) ∧ 1015 + 1 = 1016 := ⟨rfl, rfl⟩
theorem xc246_1016 : pmCode 246 1016 = some (.iconst 2) ∧ 1016 + 1 = 1017 := ⟨rfl, rfl⟩
theorem xc246_1017 : pmCode 246 1017 = some .iadd ∧ 1017 + 1 = 1018 := ⟨rfl, rfl⟩
theorem xc246_1018 : pmCode 246 1018 = some .iaload ∧ 1018 + 1 = 1019 := ⟨rfl, rfl⟩
theorem xc246_1019 : pmCode 246 1019 = some (.aload_n 0) ∧ 1019 + 1 = 1020 := ⟨rfl, rfl⟩
theorem xc246_1020 : pmCode 246 1020 = some (.iload_n 3) ∧ 1020 + 1 = 1021 := ⟨rfl, rfl⟩
theorem xc246_1021 : pmCode 246 1021 = some (.iconst 3) ∧ 1021 + 1 = 1022 := ⟨rfl, rfl⟩
theorem xc246_1022 : pmCode 246 1022 = some .iadd ∧ 1022 + 1 = 1023 := ⟨rfl, rfl⟩
theorem xc246_1023 : pmCode 246 1023 = some .iaload ∧ 1023 + 1 = 1024 := ⟨rfl, rfl⟩
theorem xc246_1024 : pmCode 246 1024 = some (.aload_n 0) ∧ 1024 + 1 = 1025 := ⟨rfl, rfl⟩
theorem xc246_1025 : pmCode 246 1025 = some (.iload_n 3) ∧ 1025 + 1 = 1026 := ⟨rfl, rfl⟩
theorem xc246_1026 : pmCode 246 1026 = some (.iconst 4) ∧ 1026 + 1 = 1027 := ⟨rfl, rfl⟩
theorem xc246_1027 : pmCode 246 1027 = some .iadd ∧ 1027 + 1 = 1028 := ⟨rfl, rfl⟩
theorem xc246_1028 : pmCode 246 1028 = some .iaload ∧ 1028 + 1 = 1029 := ⟨rfl, rfl⟩
theorem xc246_1029 : pmCode 246 1029 = some (.invokevirtual 119) ∧ 1029 + 3 = 1032 := ⟨rfl, rfl⟩
theorem xc246_1032 : pmCode 246 1032 = some .pop ∧ 1032 + 1 = 1033 := ⟨rfl, rfl⟩
theorem xc246_1033 : pmCode 246 1033 = some (.aload_n 2) ∧ 1033 + 1 = 1034 := ⟨rfl, rfl⟩
theorem xc246_1034 : pmCode 246 1034 = some (.aload_n 0) ∧ 1034 + 1 = 1035 := ⟨rfl, rfl⟩
theorem xc246_1035 : pmCode 246 1035 = some (.iload_n 3) ∧ 1035 + 1 = 1036 := ⟨rfl, rfl⟩
theorem xc246_1036 : pmCode 246 1036 = some (.iconst 1) ∧ 1036 + 1 = 1037 := ⟨rfl, rfl⟩
theorem xc246_1037 : pmCode 246 1037 = some .iadd ∧ 1037 + 1 = 1038 := ⟨rfl, rfl⟩
theorem xc246_1038 : pmCode 246 1038 = some .iaload ∧ 1038 + 1 = 1039 := ⟨rfl, rfl⟩
theorem xc246_1039 : pmCode 246 1039 = some (.aload_n 0) ∧ 1039 + 1 = 1040 := ⟨rfl, rfl⟩
theorem xc246_1040 : pmCode 246 1040 = some (.iload_n 3) ∧ 1040 + 1 = 1041 := ⟨rfl, rfl⟩
theorem xc246_1041 : pmCode 246 1041 = some (.iconst 2) ∧ 1041 + 1 = 1042 := ⟨rfl, rfl⟩
theorem xc246_1042 : pmCode 246 1042 = some .iadd ∧ 1042 + 1 = 1043 := ⟨rfl, rfl⟩
theorem xc246_1043 : pmCode 246 1043 = some .iaload ∧ 1043 + 1 = 1044 := ⟨rfl, rfl⟩
theorem xc246_1044 : pmCode 246 1044 = some (.aload_n 0) ∧ 1044 + 1 = 1045 := ⟨rfl, rfl⟩
theorem xc246_1045 : pmCode 246 1045 = some (.iload_n 3) ∧ 1045 + 1 = 1046 := ⟨rfl, rfl⟩
theorem xc246_1046 : pmCode 246 1046 = some (.iconst 3) ∧ 1046 + 1 = 1047 := ⟨rfl, rfl⟩
theorem xc246_1047 : pmCode 246 1047 = some .iadd ∧ 1047 + 1 = 1048 := ⟨rfl, rfl⟩
theorem xc246_1048 : pmCode 246 1048 = some .iaload ∧ 1048 + 1 = 1049 := ⟨rfl, rfl⟩
theorem xc246_1049 : pmCode 246 1049 = some (.aload_n 0) ∧ 1049 + 1 = 1050 := ⟨rfl, rfl⟩
theorem xc246_1050 : pmCode 246 1050 = some (.iload_n 3) ∧ 1050 + 1 = 1051 := ⟨rfl, rfl⟩
theorem xc246_1051 : pmCode 246 1051 = some (.iconst 4) ∧ 1051 + 1 = 1052 := ⟨rfl, rfl⟩
theorem xc246_1052 : pmCode 246 1052 = some .iadd ∧ 1052 + 1 = 1053 := ⟨rfl, rfl⟩
theorem xc246_1053 : pmCode 246 1053 = some .iaload ∧ 1053 + 1 = 1054 := ⟨rfl, rfl⟩
theorem xc246_1054 : pmCode 246 1054 = some (.invokevirtual 123) ∧ 1054 + 3 = 1057 := ⟨rfl, rfl⟩
theorem xc246_1057 : pmCode 246 1057 = some .pop ∧ 1057 + 1 = 1058 := ⟨rfl, rfl⟩
theorem xc246_1058 : pmCode 246 1058 = some (.goto 171) ∧ ((1058 : Nat) : Int) + 171 = ((1229 : Nat) : Int) := ⟨rfl, rfl⟩
theorem xc246_1061 : pmCode 246 1061 = some (.aload_n 1) ∧ 1061 + 1 = 1062 := ⟨rfl, rfl⟩
theorem xc246_1062 : pmCode 246 1062 = some (.aload_n 0) ∧ 1062 + 1 = 1063 := ⟨rfl, rfl⟩
theorem xc246_1063 : pmCode 246 1063 = some (.iload_n 3) ∧ 1063 + 1 = 1064 := ⟨rfl, rfl⟩
theorem xc246_1064 : pmCode 246 1064 = some (.iconst 1) ∧ 1064 + 1 = 1065 := ⟨rfl, rfl⟩
theorem xc246_1065 : pmCode 246 1065 = some .iadd ∧ 1065 + 1 = 1066 := ⟨rfl, rfl⟩
theorem xc246_1066 : pmCode 246 1066 = some .iaload ∧ 1066 + 1 = 1067 := ⟨rfl, rfl⟩
theorem xc246_1067 : pmCode 246 1067 = some (.invokevirtual 124) ∧ 1067 + 3 = 1070 := ⟨rfl, rfl⟩
theorem xc246_1070 : pmCode 246 1070 = some .pop ∧ 1070 + 1 = 1071 := ⟨rfl, rfl⟩
theorem xc246_1071 : pmCode 246 1071 = some (.aload_n 2) ∧ 1071 + 1 = 1072 := ⟨rfl, rfl⟩
theorem xc246_1072 : pmCode 246 1072 = some (.aload_n 0) ∧ 1072 + 1 = 1073 := ⟨rfl, rfl⟩
theorem xc246_1073 : pmCode 246 1073 = some (.iload_n 3) ∧ 1073 + 1 = 1074 := ⟨rfl, rfl⟩
theorem xc246_1074 : pmCode 246 1074 = some (.iconst 1) ∧ 1074 + 1 = 1075 := ⟨rfl, rfl⟩
theorem xc246_1075 : pmCode 246 1075 = some .iadd ∧ 1075 + 1 = 1076 := ⟨rfl, rfl⟩
theorem xc246_1076 : pmCode 246 1076 = some .iaload ∧ 1076 + 1 = 1077 := ⟨rfl, rfl⟩
theorem xc246_1077 : pmCode 246 1077 = some (.invokevirtual 127) ∧ 1077 + 3 = 1080 := ⟨rfl, rfl⟩
theorem xc246_1080 : pmCode 246 1080 = some .pop ∧ 1080 + 1 = 1081 := ⟨rfl, rfl⟩
theorem xc246_1081 : pmCode 246 1081 = some (.goto 148) ∧ ((1081 : Nat) : Int) + 148 = ((1229 : Nat) : Int) := ⟨rfl, rfl⟩
theorem xc246_1084 : pmCode 246 1084 = some (.aload_n 1) ∧ 1084 + 1 = 1085 := ⟨rfl, rfl⟩
theorem xc246_1085 : pmCode 246 1085 = some (.aload_n 0) ∧ 1085 + 1 = 1086 := ⟨rfl, rfl⟩
theorem xc246_1086 : pmCode 246 1086 = some (.iload_n 3) ∧ 1086 + 1 = 1087 := ⟨rfl, rfl⟩
theorem xc246_1087 : pmCode 246 1087 = some (.iconst 1) ∧ 1087 + 1 = 1088 := ⟨rfl, rfl⟩
theorem xc246_1088 : pmCode 246 1088 = some .iadd ∧ 1088 + 1 = 1089 := ⟨rfl, rfl⟩
theorem xc246_1089 : pmCode 246 1089 = some .iaload ∧ 1089 + 1 = 1090 := ⟨rfl, rfl⟩
theorem xc246_1090 : pmCode 246 1090 = some (.aload_n 0) ∧ 1090 + 1 = 1091 := ⟨rfl, rfl⟩
theorem xc246_1091 : pmCode 246 1091 = some (.iload_n 3) ∧ 1091 + 1 = 1092 := ⟨rfl, rfl⟩
theorem xc246_1092 : pmCode 246 1092 = some (.iconst 2) ∧ 1092 + 1 = 1093 := ⟨rfl, rfl⟩
theorem xc246_1093 : pmCode 246 1093 = some .iadd ∧ 1093 + 1 = 1094 := ⟨rfl, rfl⟩
theorem xc246_1094 : pmCode 246 1094 = some .iaload ∧ 1094 + 1 = 1095 := ⟨rfl, rfl⟩
theorem xc246_1095 : pmCode 246 1095 = some (.aload_n 0) ∧ 1095 + 1 = 1096 := ⟨rfl, rfl⟩
theorem xc246_1096 : pmCode 246 1096 = some (.iload_n 3) ∧ 1096 + 1 = 1097 := ⟨rfl, rfl⟩
theorem xc246_1097 : pmCode 246 1097 = some (.iconst 3) ∧ 1097 + 1 = 1098 := ⟨rfl, rfl⟩
theorem xc246_1098 : pmCode 246 1098 = some .iadd ∧ 1098 + 1 = 1099 := ⟨rfl, rfl⟩
theorem xc246_1099 : pmCode 246 1099 = some .iaload ∧ 1099 + 1 = 1100 := ⟨rfl, rfl⟩
theorem xc246_1100 : pmCode 246 1100 = some (.invokevirtual 128) ∧ 1100 + 3 = 1103 := ⟨rfl, rfl⟩
theorem xc246_1103 : pmCode 246 1103 = some .pop ∧ 1103 + 1 = 1104 := ⟨rfl, rfl⟩
theorem xc246_1104 : pmCode 246 1104 = some (.aload_n 2) ∧ 1104 + 1 = 1105 := ⟨rfl, rfl⟩
theorem xc246_1105 : pmCode 246 1105 = some (.aload_n 0) ∧ 1105 + 1 = 1106 := ⟨rfl, rfl⟩
theorem xc246_1106 : pmCode 246 1106 = some (.iload_n 3) ∧ 1106 + 1 = 1107 := ⟨rfl, rfl⟩
theorem xc246_1107 : pmCode 246 1107 = some (.iconst 1) ∧ 1107 + 1 = 1108 := ⟨rfl, rfl⟩
theorem xc246_1108 : pmCode 246 1108 = some .iadd ∧ 1108 + 1 = 1109 := ⟨rfl, rfl⟩
theorem xc246_1109 : pmCode 246 1109 = some .iaload ∧ 1109 + 1 = 1110 := ⟨rfl, rfl⟩
theorem xc246_1110 : pmCode 246 1110 = some (.aload_n 0) ∧ 1110 + 1 = 1111 := ⟨rfl, rfl⟩
theorem xc246_1111 : pmCode 246 1111 = some (.iload_n 3) ∧ 1111 + 1 = 1112 := ⟨rfl, rfl⟩
theorem xc246_1112 : pmCode 246 1112 = some (.iconst 2) ∧ 1112 + 1 = 1113 := ⟨rfl, rfl⟩
theorem xc246_1113 : pmCode 246 1113 = some .iadd ∧ 1113 + 1 = 1114 := ⟨rfl, rfl⟩
theorem xc246_1114 : pmCode 246 1114 = some .iaload ∧ 1114 + 1 = 1115 := ⟨rfl, rfl⟩
theorem xc246_1115 : pmCode 246 1115 = some (.aload_n 0) ∧ 1115 + 1 = 1116 := ⟨rfl, rfl⟩
theorem xc246_1116 : pmCode 246 1116 = some (.iload_n 3) ∧ 1116 + 1 = 1117 := ⟨rfl, rfl⟩
theorem xc246_1117 : pmCode 246 1117 = some (.iconst 3) ∧ 1117 + 1 = 1118 := ⟨rfl, rfl⟩
theorem xc246_1118 : pmCode 246 1118 = some .iadd ∧ 1118 + 1 = 1119 := ⟨rfl, rfl⟩
theorem xc246_1119 : pmCode 246 1119 = some .iaload ∧ 1119 + 1 = 1120 := ⟨rfl, rfl⟩
theorem xc246_1120 : pmCode 246 1120 = some (.invokevirtual 131) ∧ 1120 + 3 = 1123 := ⟨rfl, rfl⟩
theorem xc246_1123 : pmCode 246 1123 = some .pop ∧ 1123 + 1 = 1124 := ⟨rfl, rfl⟩
theorem xc246_1124 : pmCode 246 1124 = some (.goto 105) ∧ ((1124 : Nat) : Int) + 105 = ((1229 : Nat) : Int) := ⟨rfl, rfl⟩
theorem xc246_1127 : pmCode 246 1127 = some (.aload_n 1) ∧ 1127 + 1 = 1128 := ⟨rfl, rfl⟩
theorem xc246_1128 : pmCode 246 1128 = some (.aload_n 0) ∧ 1128 + 1 = 1129 := ⟨rfl, rfl⟩
theorem xc246_1129 : pmCode 246 1129 = some (.iload_n 3) ∧ 1129 + 1 = 1130 := ⟨rfl, rfl⟩
theorem xc246_1130 : pmCode 246 1130 = some (.iconst 1) ∧ 1130 + 1 = 1131 := ⟨rfl, rfl⟩
theorem xc246_1131 : pmCode 246 1131 = some .iadd ∧ 1131 + 1 = 1132 := ⟨rfl, rfl⟩
theorem xc246_1132 : pmCode 246 1132 = some .iaload ∧ 1132 + 1 = 1133 := ⟨rfl, rfl⟩
theorem xc246_1133 : pmCode 246 1133 = some (.aload_n 0) ∧ 1133 + 1 = 1134 := ⟨rfl, rfl⟩
theorem xc246_1134 : pmCode 246 1134 = some (.iload_n 3) ∧ 1134 + 1 = 1135 := ⟨rfl, rfl⟩
theorem xc246_1135 : pmCode 246 1135 = some (.iconst 2) ∧ 1135 + 1 = 1136 := ⟨rfl, rfl⟩
theorem xc246_1136 : pmCode 246 1136 = some .iadd ∧ 1136 + 1 = 1137 := ⟨rfl, rfl⟩
theorem xc246_1137 : pmCode 246 1137 = some .iaload ∧ 1137 + 1 = 1138 := ⟨rfl, rfl⟩
theorem xc246_1138 : pmCode 246 1138 = some (.invokevirtual 132) ∧ 1138 + 3 = 1141 := ⟨rfl, rfl⟩
theorem xc246_1141 : pmCode 246 1141 = some .pop ∧ 1141 + 1 = 1142 := ⟨rfl, rfl⟩
theorem xc246_1142 : pmCode 246 1142 = some (.aload_n 2) ∧ 1142 + 1 = 1143 := ⟨rfl, rfl⟩
theorem xc246_1143 : pmCode 246 1143 = some (.aload_n 0) ∧ 1143 + 1 = 1144 := ⟨rfl, rfl⟩
theorem xc246_1144 : pmCode 246 1144 = some (.iload_n 3) ∧ 1144 + 1 = 1145 := ⟨rfl, rfl⟩
theorem xc246_1145 : pmCode 246 1145 = some (.iconst 1) ∧ 1145 + 1 = 1146 := ⟨rfl, rfl⟩
theorem xc246_1146 : pmCode 246 1146 = some .iadd ∧ 1146 + 1 = 1147 := ⟨rfl, rfl⟩
theorem xc246_1147 : pmCode 246 1147 = some .iaload ∧ 1147 + 1 = 1148 := ⟨rfl, rfl⟩
theorem xc246_1148 : pmCode 246 1148 = some (.aload_n 0) ∧ 1148 + 1 = 1149 := ⟨rfl, rfl⟩
theorem xc246_1149 : pmCode 246 1149 = some (.iload_n 3) ∧ 1149 + 1 = 1150 := ⟨rfl, rfl⟩
theorem xc246_1150 : pmCode 246 1150 = some (.iconst 2) ∧ 1150 + 1 = 1151 := ⟨rfl, rfl⟩
theorem xc246_1151 : pmCode 246 1151 = some .iadd ∧ 1151 + 1 = 1152 := ⟨rfl, rfl⟩
theorem xc246_1152 : pmCode 246 1152 = some .iaload ∧ 1152 + 1 = 1153 := ⟨rfl, rfl⟩
theorem xc246_1153 : pmCode 246 1153 = some (.invokevirtual 135) ∧ 1153 + 3 = 1156 := ⟨rfl, rfl⟩
theorem xc246_1156 : pmCode 246 1156 = some .pop ∧ 1156 + 1 = 1157 := ⟨rfl, rfl⟩
theorem xc246_1157 : pmCode 246 1157 = some (.goto 72) ∧ ((1157 : Nat) : Int) + 72 = ((1229 : Nat) : Int) := ⟨rfl, rfl⟩
theorem xc246_1160 : pmCode 246 1160 = some (.aload_n 1) ∧ 1160 + 1 = 1161 := ⟨rfl, rfl⟩
theorem xc246_1161 : pmCode 246 1161 = some (.aload_n 0) ∧ 1161 + 1 = 1162 := ⟨rfl, rfl⟩
theorem xc246_1162 : pmCode 246 1162 = some (.iload_n 3) ∧ 1162 + 1 = 1163 := ⟨rfl, rfl⟩
theorem xc246_1163 : pmCode 246 1163 = some (.iconst 1) ∧ 1163 + 1 = 1164 := ⟨rfl, rfl⟩
theorem xc246_1164 : pmCode 246 1164 = some .iadd ∧ 1164 + 1 = 1165 := ⟨rfl, rfl⟩
theorem xc246_1165 : pmCode 246 1165 = some .iaload ∧ 1165 + 1 = 1166 := ⟨rfl, rfl⟩
theorem xc246_1166 : pmCode 246 1166 = some (.invokevirtual 136) ∧ 1166 + 3 = 1169 := ⟨rfl, rfl⟩
theorem xc246_1169 : pmCode 246 1169 = some .pop ∧ 1169 + 1 = 1170 := ⟨rfl, rfl⟩
theorem xc246_1170 : pmCode 246 1170 = some (.aload_n 2) ∧ 1170 + 1 = 1171 := ⟨rfl, rfl⟩
theorem xc246_1171 : pmCode 246 1171 = some (.aload_n 0) ∧ 1171 + 1 = 1172 := ⟨rfl, rfl⟩
theorem xc246_1172 : pmCode 246 1172 = some (.iload_n 3) ∧ 1172 + 1 = 1173 := ⟨rfl, rfl⟩
theorem xc246_1173 : pmCode 246 1173 = some (.iconst 1) ∧ 1173 + 1 = 1174 := ⟨rfl, rfl⟩
theorem xc246_1174 : pmCode 246 1174 = some .iadd ∧ 1174 + 1 = 1175 := ⟨rfl, rfl⟩
theorem xc246_1175 : pmCode 246 1175 = some .iaload ∧ 1175 + 1 = 1176 := ⟨rfl, rfl⟩
theorem xc246_1176 : pmCode 246 1176 = some (.invokevirtual 139) ∧ 1176 + 3 = 1179 := ⟨rfl, rfl⟩
theorem xc246_1179 : pmCode 246 1179 = some .pop ∧ 1179 + 1 = 1180 := ⟨rfl, rfl⟩
theorem xc246_1180 : pmCode 246 1180 = some (.goto 49) ∧ ((1180 : Nat) : Int) + 49 = ((1229 : Nat) : Int) := ⟨rfl, rfl⟩
theorem xc246_1183 : pmCode 246 1183 = some (.aload_n 1) ∧ 1183 + 1 = 1184 := ⟨rfl, rfl⟩
theorem xc246_1184 : pmCode 246 1184 = some (.aload_n 0) ∧ 1184 + 1 = 1185 := ⟨rfl, rfl⟩
theorem xc246_1185 : pmCode 246 1185 = some (.iload_n 3) ∧ 1185 + 1 = 1186 := ⟨rfl, rfl⟩
theorem xc246_1186 : pmCode 246 1186 = some (.iconst 1) ∧ 1186 + 1 = 1187 := ⟨rfl, rfl⟩
theorem xc246_1187 : pmCode 246 1187 = some .iadd ∧ 1187 + 1 = 1188 := ⟨rfl, rfl⟩
theorem xc246_1188 : pmCode 246 1188 = some .iaload ∧ 1188 + 1 = 1189 := ⟨rfl, rfl⟩
theorem xc246_1189 : pmCode 246 1189 = some (.invokevirtual 140) ∧ 1189 + 3 = 1192 := ⟨rfl, rfl⟩
theorem xc246_1192 : pmCode 246 1192 = some .pop ∧ 1192 + 1 = 1193 := ⟨rfl, rfl⟩
theorem xc246_1193 : pmCode 246 1193 = some (.aload_n 2) ∧ 1193 + 1 = 1194 := ⟨rfl, rfl⟩
theorem xc246_1194 : pmCode 246 1194 = some (.aload_n 0) ∧ 1194 + 1 = 1195 := ⟨rfl, rfl⟩
theorem xc246_1195 : pmCode 246 1195 = some (.iload_n 3) ∧ 1195 + 1 = 1196 := ⟨rfl, rfl⟩
theorem xc246_1196 : pmCode 246 1196 = some (.iconst 1) ∧ 1196 + 1 = 1197 := ⟨rfl, rfl⟩
theorem xc246_1197 : pmCode 246 1197 = some .iadd ∧ 1197 + 1 = 1198 := ⟨rfl, rfl⟩
theorem xc246_1198 : pmCode 246 1198 = some .iaload ∧ 1198 + 1 = 1199 := ⟨rfl, rfl⟩
theorem xc246_1199 : pmCode 246 1199 = some (.invokevirtual 143) ∧ 1199 + 3 = 1202 := ⟨rfl, rfl⟩
theorem xc246_1202 : pmCode 246 1202 = some .pop ∧ 1202 + 1 = 1203 := ⟨rfl, rfl⟩
theorem xc246_1203 : pmCode 246 1203 = some (.goto 26) ∧ ((1203 : Nat) : Int) + 26 = ((1229 : Nat) : Int) := ⟨rfl, rfl⟩
theorem xc246_1206 : pmCode 246 1206 = some (.aload_n 1) ∧ 1206 + 1 = 1207 := ⟨rfl, rfl⟩
theorem xc246_1207 : pmCode 246 1207 = some (.aload_n 0) ∧ 1207 + 1 = 1208 := ⟨rfl, rfl⟩
theorem xc246_1208 : pmCode 246 1208 = some (.iload_n 3) ∧ 1208 + 1 = 1209 := ⟨rfl, rfl⟩
theorem xc246_1209 : pmCode 246 1209 = some (.iconst 1) ∧ 1209 + 1 = 1210 := ⟨rfl, rfl⟩
theorem xc246_1210 : pmCode 246 1210 = some .iadd ∧ 1210 + 1 = 1211 := ⟨rfl, rfl⟩
theorem xc246_1211 : pmCode 246 1211 = some .iaload ∧ 1211 + 1 = 1212 := ⟨rfl, rfl⟩
theorem xc246_1212 : pmCode 246 1212 = some (.invokevirtual 144) ∧ 1212 + 3 = 1215 := ⟨rfl, rfl⟩
theorem xc246_1215 : pmCode 246 1215 = some .pop ∧ 1215 + 1 = 1216 := ⟨rfl, rfl⟩
theorem xc246_1216 : pmCode 246 1216 = some (.aload_n 2) ∧ 1216 + 1 = 1217 := ⟨rfl, rfl⟩
theorem xc246_1217 : pmCode 246 1217 = some (.aload_n 0) ∧ 1217 + 1 = 1218 := ⟨rfl, rfl⟩
theorem xc246_1218 : pmCode 246 1218 = some (.iload_n 3) ∧ 1218 + 1 = 1219 := ⟨rfl, rfl⟩
theorem xc246_1219 : pmCode 246 1219 = some (.iconst 1) ∧ 1219 + 1 = 1220 := ⟨rfl, rfl⟩
theorem xc246_1220 : pmCode 246 1220 = some .iadd ∧ 1220 + 1 = 1221 := ⟨rfl, rfl⟩
theorem xc246_1221 : pmCode 246 1221 = some .iaload ∧ 1221 + 1 = 1222 := ⟨rfl, rfl⟩
theorem xc246_1222 : pmCode 246 1222 = some (.invokevirtual 147) ∧ 1222 + 3 = 1225 := ⟨rfl, rfl⟩
theorem xc246_1225 : pmCode 246 1225 = some .pop ∧ 1225 + 1 = 1226 := ⟨rfl, rfl⟩
theorem xc246_1226 : pmCode 246 1226 = some (.goto 3) ∧ ((1226 : Nat) : Int) + 3 = ((1229 : Nat) : Int) := ⟨rfl, rfl⟩
theorem xc246_1229 : pmCode 246 1229 = some (.iinc 3 6) ∧ 1229 + 3 = 1232 := ⟨rfl, rfl⟩
theorem xc246_1232 : pmCode 246 1232 = some (.goto (-1214)) ∧ ((1232 : Nat) : Int) + (-1214) = ((18 : Nat) : Int) := ⟨rfl, rfl⟩
theorem xc246_1235 : pmCode 246 1235 = some (.iconst 1) ∧ 1235 + 1 = 1236 := ⟨rfl, rfl⟩
theorem xc246_1236 : pmCode 246 1236 = some .ireturn := rfl
theorem wlh {Ln : Nat} {xs : Nat → Int32} {d : Nat} {Q : Option Value → pmS → Prop} {i : Int} {a : xA} {b : xB} (hLn : Ln ≤ 3072) (h0 : 0 ≤ i) (hi : i ≤ 3072)
    (k1 : ((Ln : Int) - 6 < i) → Q (some (xV 1)) (xS a b))
    (k2 : (¬ (Ln : Int) - 6 < i) → (((xs i.toNat).toInt) % 32 = 0) → pmWp (pmRo Ln xs) d 13 246 2 172 [some (.ref 1001), some (.ref 0), some (.ref 87), some (xV i)] [] (xS a b) Q)
    (k3 : (¬ (Ln : Int) - 6 < i) → (¬ ((xs i.toNat).toInt) % 32 = 0) → (((xs i.toNat).toInt) % 32 = 1) → pmWp (pmRo Ln xs) d 13 246 2 205 [some (.ref 1001), some (.ref 0), some (.ref 87), some (xV i)] [] (xS a b) Q)
    (k4 : (¬ (Ln : Int) - 6 < i) → (¬ ((xs i.toNat).toInt) % 32 = 0) → (¬ ((xs i.toNat).toInt) % 32 = 1) → (((xs i.toNat).toInt) % 32 = 2) → pmWp (pmRo Ln xs) d 13 246 2 238 [some (.ref 1001), some (.ref 0), some (.ref 87), some (xV i)] [] (xS a b) Q)
    (k5 : (¬ (Ln : Int) - 6 < i) → (¬ ((xs i.toNat).toInt) % 32 = 0) → (¬ ((xs i.toNat).toInt) % 32 = 1) → (¬ ((xs i.toNat).toInt) % 32 = 2) → (((xs i.toNat).toInt) % 32 = 3) → pmWp (pmRo Ln xs) d 13 246 2 287 [some (.ref 1001), some (.ref 0), some (.ref 87), some (xV i)] [] (xS a b) Q)
    (k6 : (¬ (Ln : Int) - 6 < i) → (¬ ((xs i.toNat).toInt) % 32 = 0) → (¬ ((xs i.toNat).toInt) % 32 = 1) → (¬ ((xs i.toNat).toInt) % 32 = 2) → (¬ ((xs i.toNat).toInt) % 32 = 3) → (((xs i.toNat).toInt) % 32 = 4) → pmWp (pmRo Ln xs) d 13 246 2 336 [some (.ref 1001), some (.ref 0), some (.ref 87), some (xV i)] [] (xS a b) Q)
    (k7 : (¬ (Ln : Int) - 6 < i) → (¬ ((xs i.toNat).toInt) % 32 = 0) → (¬ ((xs i.toNat).toInt) % 32 = 1) → (¬ ((xs i.toNat).toInt) % 32 = 2) → (¬ ((xs i.toNat).toInt) % 32 = 3) → (¬ ((xs i.toNat).toInt) % 32 = 4) → (((xs i.toNat).toInt) % 32 = 5) → pmWp (pmRo Ln xs) d 13 246 2 405 [some (.ref 1001), some (.ref 0), some (.ref 87), some (xV i)] [] (xS a b) Q)
    (k8 : (¬ (Ln : Int) - 6 < i) → (¬ ((xs i.toNat).toInt) % 32 = 0) → (¬ ((xs i.toNat).toInt) % 32 = 1) → (¬ ((xs i.toNat).toInt) % 32 = 2) → (¬ ((xs i.toNat).toInt) % 32 = 3) → (¬ ((xs i.toNat).toInt) % 32 = 4) → (¬ ((xs i.toNat).toInt) % 32 = 5) → (((xs i.toNat).toInt) % 32 = 6) → pmWp (pmRo Ln xs) d 13 246 2 438 [some (.ref 1001), some (.ref 0), some (.ref 87), some (xV i)] [] (xS a b) Q)
    (k9 : (¬ (Ln : Int) - 6 < i) → (¬ ((xs i.toNat).toInt) % 32 = 0) → (¬ ((xs i.toNat).toInt) % 32 = 1) → (¬ ((xs i.toNat).toInt) % 32 = 2) → (¬ ((xs i.toNat).toInt) % 32 = 3) → (¬ ((xs i.toNat).toInt) % 32 = 4) → (¬ ((xs i.toNat).toInt) % 32 = 5) → (¬ ((xs i.toNat).toInt) % 32 = 6) → (((xs i.toNat).toInt) % 32 = 7) → pmWp (pmRo Ln xs) d 13 246 2 501 [some (.ref 1001), some (.ref 0), some (.ref 87), some (xV i)] [] (xS a b) Q)
    (k10 : (¬ (Ln : Int) - 6 < i) → (¬ ((xs i.toNat).toInt) % 32 = 0) → (¬ ((xs i.toNat).toInt) % 32 = 1) → (¬ ((xs i.toNat).toInt) % 32 = 2) → (¬ ((xs i.toNat).toInt) % 32 = 3) → (¬ ((xs i.toNat).toInt) % 32 = 4) → (¬ ((xs i.toNat).toInt) % 32 = 5) → (¬ ((xs i.toNat).toInt) % 32 = 6) → (¬ ((xs i.toNat).toInt) % 32 = 7) → (((xs i.toNat).toInt) % 32 = 8) → pmWp (pmRo Ln xs) d 13 246 2 544 [some (.ref 1001), some (.ref 0), some (.ref 87), some (xV i)] [] (xS a b) Q)
    (k11 : (¬ (Ln : Int) - 6 < i) → (¬ ((xs i.toNat).toInt) % 32 = 0) → (¬ ((xs i.toNat).toInt) % 32 = 1) → (¬ ((xs i.toNat).toInt) % 32 = 2) → (¬ ((xs i.toNat).toInt) % 32 = 3) → (¬ ((xs i.toNat).toInt) % 32 = 4) → (¬ ((xs i.toNat).toInt) % 32 = 5) → (¬ ((xs i.toNat).toInt) % 32 = 6) → (¬ ((xs i.toNat).toInt) % 32 = 7) → (¬ ((xs i.toNat).toInt) % 32 = 8) → (((xs i.toNat).toInt) % 32 = 9) → pmWp (pmRo Ln xs) d 13 246 2 567 [some (.ref 1001), some (.ref 0), some (.ref 87), some (xV i)] [] (xS a b) Q)
    (k12 : (¬ (Ln : Int) - 6 < i) → (¬ ((xs i.toNat).toInt) % 32 = 0) → (¬ ((xs i.toNat).toInt) % 32 = 1) → (¬ ((xs i.toNat).toInt) % 32 = 2) → (¬ ((xs i.toNat).toInt) % 32 = 3) → (¬ ((xs i.toNat).toInt) % 32 = 4) → (¬ ((xs i.toNat).toInt) % 32 = 5) → (¬ ((xs i.toNat).toInt) % 32 = 6) → (¬ ((xs i.toNat).toInt) % 32 = 7) → (¬ ((xs i.toNat).toInt) % 32 = 8) → (¬ ((xs i.toNat).toInt) % 32 = 9) → (((xs i.toNat).toInt) % 32 = 10) → pmWp (pmRo Ln xs) d 13 246 2 580 [some (.ref 1001), some (.ref 0), some (.ref 87), some (xV i)] [] (xS a b) Q)
    (k13 : (¬ (Ln : Int) - 6 < i) → (¬ ((xs i.toNat).toInt) % 32 = 0) → (¬ ((xs i.toNat).toInt) % 32 = 1) → (¬ ((xs i.toNat).toInt) % 32 = 2) → (¬ ((xs i.toNat).toInt) % 32 = 3) → (¬ ((xs i.toNat).toInt) % 32 = 4) → (¬ ((xs i.toNat).toInt) % 32 = 5) → (¬ ((xs i.toNat).toInt) % 32 = 6) → (¬ ((xs i.toNat).toInt) % 32 = 7) → (¬ ((xs i.toNat).toInt) % 32 = 8) → (¬ ((xs i.toNat).toInt) % 32 = 9) → (¬ ((xs i.toNat).toInt) % 32 = 10) → (((xs i.toNat).toInt) % 32 = 11) → pmWp (pmRo Ln xs) d 13 246 2 639 [some (.ref 1001), some (.ref 0), some (.ref 87), some (xV i)] [] (xS a b) Q)
    (k14 : (¬ (Ln : Int) - 6 < i) → (¬ ((xs i.toNat).toInt) % 32 = 0) → (¬ ((xs i.toNat).toInt) % 32 = 1) → (¬ ((xs i.toNat).toInt) % 32 = 2) → (¬ ((xs i.toNat).toInt) % 32 = 3) → (¬ ((xs i.toNat).toInt) % 32 = 4) → (¬ ((xs i.toNat).toInt) % 32 = 5) → (¬ ((xs i.toNat).toInt) % 32 = 6) → (¬ ((xs i.toNat).toInt) % 32 = 7) → (¬ ((xs i.toNat).toInt) % 32 = 8) → (¬ ((xs i.toNat).toInt) % 32 = 9) → (¬ ((xs i.toNat).toInt) % 32 = 10) → (¬ ((xs i.toNat).toInt) % 32 = 11) → (((xs i.toNat).toInt) % 32 = 12) → pmWp (pmRo Ln xs) d 13 246 2 672 [some (.ref 1001), some (.ref 0), some (.ref 87), some (xV i)] [] (xS a b) Q)
    (k15 : (¬ (Ln : Int) - 6 < i) → (¬ ((xs i.toNat).toInt) % 32 = 0) → (¬ ((xs i.toNat).toInt) % 32 = 1) → (¬ ((xs i.toNat).toInt) % 32 = 2) → (¬ ((xs i.toNat).toInt) % 32 = 3) → (¬ ((xs i.toNat).toInt) % 32 = 4) → (¬ ((xs i.toNat).toInt) % 32 = 5) → (¬ ((xs i.toNat).toInt) % 32 = 6) → (¬ ((xs i.toNat).toInt) % 32 = 7) → (¬ ((xs i.toNat).toInt) % 32 = 8) → (¬ ((xs i.toNat).toInt) % 32 = 9) → (¬ ((xs i.toNat).toInt) % 32 = 10) → (¬ ((xs i.toNat).toInt) % 32 = 11) → (¬ ((xs i.toNat).toInt) % 32 = 12) → (((xs i.toNat).toInt) % 32 = 13) → pmWp (pmRo Ln xs) d 13 246 2 715 [some (.ref 1001), some (.ref 0), some (.ref 87), some (xV i)] [] (xS a b) Q)
    (k16 : (¬ (Ln : Int) - 6 < i) → (¬ ((xs i.toNat).toInt) % 32 = 0) → (¬ ((xs i.toNat).toInt) % 32 = 1) → (¬ ((xs i.toNat).toInt) % 32 = 2) → (¬ ((xs i.toNat).toInt) % 32 = 3) → (¬ ((xs i.toNat).toInt) % 32 = 4) → (¬ ((xs i.toNat).toInt) % 32 = 5) → (¬ ((xs i.toNat).toInt) % 32 = 6) → (¬ ((xs i.toNat).toInt) % 32 = 7) → (¬ ((xs i.toNat).toInt) % 32 = 8) → (¬ ((xs i.toNat).toInt) % 32 = 9) → (¬ ((xs i.toNat).toInt) % 32 = 10) → (¬ ((xs i.toNat).toInt) % 32 = 11) → (¬ ((xs i.toNat).toInt) % 32 = 12) → (¬ ((xs i.toNat).toInt) % 32 = 13) → (((xs i.toNat).toInt) % 32 = 14) → pmWp (pmRo Ln xs) d 13 246 2 738 [some (.ref 1001), some (.ref 0), some (.ref 87), some (xV i)] [] (xS a b) Q)
    (k17 : (¬ (Ln : Int) - 6 < i) → (¬ ((xs i.toNat).toInt) % 32 = 0) → (¬ ((xs i.toNat).toInt) % 32 = 1) → (¬ ((xs i.toNat).toInt) % 32 = 2) → (¬ ((xs i.toNat).toInt) % 32 = 3) → (¬ ((xs i.toNat).toInt) % 32 = 4) → (¬ ((xs i.toNat).toInt) % 32 = 5) → (¬ ((xs i.toNat).toInt) % 32 = 6) → (¬ ((xs i.toNat).toInt) % 32 = 7) → (¬ ((xs i.toNat).toInt) % 32 = 8) → (¬ ((xs i.toNat).toInt) % 32 = 9) → (¬ ((xs i.toNat).toInt) % 32 = 10) → (¬ ((xs i.toNat).toInt) % 32 = 11) → (¬ ((xs i.toNat).toInt) % 32 = 12) → (¬ ((xs i.toNat).toInt) % 32 = 13) → (¬ ((xs i.toNat).toInt) % 32 = 14) → (((xs i.toNat).toInt) % 32 = 15) → pmWp (pmRo Ln xs) d 13 246 2 781 [some (.ref 1001), some (.ref 0), some (.ref 87), some (xV i)] [] (xS a b) Q)
    (k18 : (¬ (Ln : Int) - 6 < i) → (¬ ((xs i.toNat).toInt) % 32 = 0) → (¬ ((xs i.toNat).toInt) % 32 = 1) → (¬ ((xs i.toNat).toInt) % 32 = 2) → (¬ ((xs i.toNat).toInt) % 32 = 3) → (¬ ((xs i.toNat).toInt) % 32 = 4) → (¬ ((xs i.toNat).toInt) % 32 = 5) → (¬ ((xs i.toNat).toInt) % 32 = 6) → (¬ ((xs i.toNat).toInt) % 32 = 7) → (¬ ((xs i.toNat).toInt) % 32 = 8) → (¬ ((xs i.toNat).toInt) % 32 = 9) → (¬ ((xs i.toNat).toInt) % 32 = 10) → (¬ ((xs i.toNat).toInt) % 32 = 11) → (¬ ((xs i.toNat).toInt) % 32 = 12) → (¬ ((xs i.toNat).toInt) % 32 = 13) → (¬ ((xs i.toNat).toInt) % 32 = 14) → (¬ ((xs i.toNat).toInt) % 32 = 15) → (((xs i.toNat).toInt) % 32 = 16) → pmWp (pmRo Ln xs) d 13 246 2 814 [some (.ref 1001), some (.ref 0), some (.ref 87), some (xV i)] [] (xS a b) Q)
    (k19 : (¬ (Ln : Int) - 6 < i) → (¬ ((xs i.toNat).toInt) % 32 = 0) → (¬ ((xs i.toNat).toInt) % 32 = 1) → (¬ ((xs i.toNat).toInt) % 32 = 2) → (¬ ((xs i.toNat).toInt) % 32 = 3) → (¬ ((xs i.toNat).toInt) % 32 = 4) → (¬ ((xs i.toNat).toInt) % 32 = 5) → (¬ ((xs i.toNat).toInt) % 32 = 6) → (¬ ((xs i.toNat).toInt) % 32 = 7) → (¬ ((xs i.toNat).toInt) % 32 = 8) → (¬ ((xs i.toNat).toInt) % 32 = 9) → (¬ ((xs i.toNat).toInt) % 32 = 10) → (¬ ((xs i.toNat).toInt) % 32 = 11) → (¬ ((xs i.toNat).toInt) % 32 = 12) → (¬ ((xs i.toNat).toInt) % 32 = 13) → (¬ ((xs i.toNat).toInt) % 32 = 14) → (¬ ((xs i.toNat).toInt) % 32 = 15) → (¬ ((xs i.toNat).toInt) % 32 = 16) → (((xs i.toNat).toInt) % 32 = 17) → pmWp (pmRo Ln xs) d 13 246 2 847 [some (.ref 1001), some (.ref 0), some (.ref 87), some (xV i)] [] (xS a b) Q)
    (k20 : (¬ (Ln : Int) - 6 < i) → (¬ ((xs i.toNat).toInt) % 32 = 0) → (¬ ((xs i.toNat).toInt) % 32 = 1) → (¬ ((xs i.toNat).toInt) % 32 = 2) → (¬ ((xs i.toNat).toInt) % 32 = 3) → (¬ ((xs i.toNat).toInt) % 32 = 4) → (¬ ((xs i.toNat).toInt) % 32 = 5) → (¬ ((xs i.toNat).toInt) % 32 = 6) → (¬ ((xs i.toNat).toInt) % 32 = 7) → (¬ ((xs i.toNat).toInt) % 32 = 8) → (¬ ((xs i.toNat).toInt) % 32 = 9) → (¬ ((xs i.toNat).toInt) % 32 = 10) → (¬ ((xs i.toNat).toInt) % 32 = 11) → (¬ ((xs i.toNat).toInt) % 32 = 12) → (¬ ((xs i.toNat).toInt) % 32 = 13) → (¬ ((xs i.toNat).toInt) % 32 = 14) → (¬ ((xs i.toNat).toInt) % 32 = 15) → (¬ ((xs i.toNat).toInt) % 32 = 16) → (¬ ((xs i.toNat).toInt) % 32 = 17) → (((xs i.toNat).toInt) % 32 = 18) → pmWp (pmRo Ln xs) d 13 246 2 870 [some (.ref 1001), some (.ref 0), some (.ref 87), some (xV i)] [] (xS a b) Q)
    (k21 : (¬ (Ln : Int) - 6 < i) → (¬ ((xs i.toNat).toInt) % 32 = 0) → (¬ ((xs i.toNat).toInt) % 32 = 1) → (¬ ((xs i.toNat).toInt) % 32 = 2) → (¬ ((xs i.toNat).toInt) % 32 = 3) → (¬ ((xs i.toNat).toInt) % 32 = 4) → (¬ ((xs i.toNat).toInt) % 32 = 5) → (¬ ((xs i.toNat).toInt) % 32 = 6) → (¬ ((xs i.toNat).toInt) % 32 = 7) → (¬ ((xs i.toNat).toInt) % 32 = 8) → (¬ ((xs i.toNat).toInt) % 32 = 9) → (¬ ((xs i.toNat).toInt) % 32 = 10) → (¬ ((xs i.toNat).toInt) % 32 = 11) → (¬ ((xs i.toNat).toInt) % 32 = 12) → (¬ ((xs i.toNat).toInt) % 32 = 13) → (¬ ((xs i.toNat).toInt) % 32 = 14) → (¬ ((xs i.toNat).toInt) % 32 = 15) → (¬ ((xs i.toNat).toInt) % 32 = 16) → (¬ ((xs i.toNat).toInt) % 32 = 17) → (¬ ((xs i.toNat).toInt) % 32 = 18) → (((xs i.toNat).toInt) % 32 = 19) → pmWp (pmRo Ln xs) d 13 246 2 893 [some (.ref 1001), some (.ref 0), some (.ref 87), some (xV i)] [] (xS a b) Q)
    (k22 : (¬ (Ln : Int) - 6 < i) → (¬ ((xs i.toNat).toInt) % 32 = 0) → (¬ ((xs i.toNat).toInt) % 32 = 1) → (¬ ((xs i.toNat).toInt) % 32 = 2) → (¬ ((xs i.toNat).toInt) % 32 = 3) → (¬ ((xs i.toNat).toInt) % 32 = 4) → (¬ ((xs i.toNat).toInt) % 32 = 5) → (¬ ((xs i.toNat).toInt) % 32 = 6) → (¬ ((xs i.toNat).toInt) % 32 = 7) → (¬ ((xs i.toNat).toInt) % 32 = 8) → (¬ ((xs i.toNat).toInt) % 32 = 9) → (¬ ((xs i.toNat).toInt) % 32 = 10) → (¬ ((xs i.toNat).toInt) % 32 = 11) → (¬ ((xs i.toNat).toInt) % 32 = 12) → (¬ ((xs i.toNat).toInt) % 32 = 13) → (¬ ((xs i.toNat).toInt) % 32 = 14) → (¬ ((xs i.toNat).toInt) % 32 = 15) → (¬ ((xs i.toNat).toInt) % 32 = 16) → (¬ ((xs i.toNat).toInt) % 32 = 17) → (¬ ((xs i.toNat).toInt) % 32 = 18) → (¬ ((xs i.toNat).toInt) % 32 = 19) → (((xs i.toNat).toInt) % 32 = 20) → pmWp (pmRo Ln xs) d 13 246 2 916 [some (.ref 1001), some (.ref 0), some (.ref 87), some (xV i)] [] (xS a b) Q)
    (k23 : (¬ (Ln : Int) - 6 < i) → (¬ ((xs i.toNat).toInt) % 32 = 0) → (¬ ((xs i.toNat).toInt) % 32 = 1) → (¬ ((xs i.toNat).toInt) % 32 = 2) → (¬ ((xs i.toNat).toInt) % 32 = 3) → (¬ ((xs i.toNat).toInt) % 32 = 4) → (¬ ((xs i.toNat).toInt) % 32 = 5) → (¬ ((xs i.toNat).toInt) % 32 = 6) → (¬ ((xs i.toNat).toInt) % 32 = 7) → (¬ ((xs i.toNat).toInt) % 32 = 8) → (¬ ((xs i.toNat).toInt) % 32 = 9) → (¬ ((xs i.toNat).toInt) % 32 = 10) → (¬ ((xs i.toNat).toInt) % 32 = 11) → (¬ ((xs i.toNat).toInt) % 32 = 12) → (¬ ((xs i.toNat).toInt) % 32 = 13) → (¬ ((xs i.toNat).toInt) % 32 = 14) → (¬ ((xs i.toNat).toInt) % 32 = 15) → (¬ ((xs i.toNat).toInt) % 32 = 16) → (¬ ((xs i.toNat).toInt) % 32 = 17) → (¬ ((xs i.toNat).toInt) % 32 = 18) → (¬ ((xs i.toNat).toInt) % 32 = 19) → (¬ ((xs i.toNat).toInt) % 32 = 20) → (((xs i.toNat).toInt) % 32 = 21) → pmWp (pmRo Ln xs) d 13 246 2 929 [some (.ref 1001), some (.ref 0), some (.ref 87), some (xV i)] [] (xS a b) Q)
    (k24 : (¬ (Ln : Int) - 6 < i) → (¬ ((xs i.toNat).toInt) % 32 = 0) → (¬ ((xs i.toNat).toInt) % 32 = 1) → (¬ ((xs i.toNat).toInt) % 32 = 2) → (¬ ((xs i.toNat).toInt) % 32 = 3) → (¬ ((xs i.toNat).toInt) % 32 = 4) → (¬ ((xs i.toNat).toInt) % 32 = 5) → (¬ ((xs i.toNat).toInt) % 32 = 6) → (¬ ((xs i.toNat).toInt) % 32 = 7) → (¬ ((xs i.toNat).toInt) % 32 = 8) → (¬ ((xs i.toNat).toInt) % 32 = 9) → (¬ ((xs i.toNat).toInt) % 32 = 10) → (¬ ((xs i.toNat).toInt) % 32 = 11) → (¬ ((xs i.toNat).toInt) % 32 = 12) → (¬ ((xs i.toNat).toInt) % 32 = 13) → (¬ ((xs i.toNat).toInt) % 32 = 14) → (¬ ((xs i.toNat).toInt) % 32 = 15) → (¬ ((xs i.toNat).toInt) % 32 = 16) → (¬ ((xs i.toNat).toInt) % 32 = 17) → (¬ ((xs i.toNat).toInt) % 32 = 18) → (¬ ((xs i.toNat).toInt) % 32 = 19) → (¬ ((xs i.toNat).toInt) % 32 = 20) → (¬ ((xs i.toNat).toInt) % 32 = 21) → (((xs i.toNat).toInt) % 32 = 22) → pmWp (pmRo Ln xs) d 13 246 2 962 [some (.ref 1001), some (.ref 0), some (.ref 87), some (xV i)] [] (xS a b) Q)
    (k25 : (¬ (Ln : Int) - 6 < i) → (¬ ((xs i.toNat).toInt) % 32 = 0) → (¬ ((xs i.toNat).toInt) % 32 = 1) → (¬ ((xs i.toNat).toInt) % 32 = 2) → (¬ ((xs i.toNat).toInt) % 32 = 3) → (¬ ((xs i.toNat).toInt) % 32 = 4) → (¬ ((xs i.toNat).toInt) % 32 = 5) → (¬ ((xs i.toNat).toInt) % 32 = 6) → (¬ ((xs i.toNat).toInt) % 32 = 7) → (¬ ((xs i.toNat).toInt) % 32 = 8) → (¬ ((xs i.toNat).toInt) % 32 = 9) → (¬ ((xs i.toNat).toInt) % 32 = 10) → (¬ ((xs i.toNat).toInt) % 32 = 11) → (¬ ((xs i.toNat).toInt) % 32 = 12) → (¬ ((xs i.toNat).toInt) % 32 = 13) → (¬ ((xs i.toNat).toInt) % 32 = 14) → (¬ ((xs i.toNat).toInt) % 32 = 15) → (¬ ((xs i.toNat).toInt) % 32 = 16) → (¬ ((xs i.toNat).toInt) % 32 = 17) → (¬ ((xs i.toNat).toInt) % 32 = 18) → (¬ ((xs i.toNat).toInt) % 32 = 19) → (¬ ((xs i.toNat).toInt) % 32 = 20) → (¬ ((xs i.toNat).toInt) % 32 = 21) → (¬ ((xs i.toNat).toInt) % 32 = 22) → (((xs i.toNat).toInt) % 32 = 23) → pmWp (pmRo Ln xs) d 13 246 2 985 [some (.ref 1001), some (.ref 0), some (.ref 87), some (xV i)] [] (xS a b) Q)
    (k26 : (¬ (Ln : Int) - 6 < i) → (¬ ((xs i.toNat).toInt) % 32 = 0) → (¬ ((xs i.toNat).toInt) % 32 = 1) → (¬ ((xs i.toNat).toInt) % 32 = 2) → (¬ ((xs i.toNat).toInt) % 32 = 3) → (¬ ((xs i.toNat).toInt) % 32 = 4) → (¬ ((xs i.toNat).toInt) % 32 = 5) → (¬ ((xs i.toNat).toInt) % 32 = 6) → (¬ ((xs i.toNat).toInt) % 32 = 7) → (¬ ((xs i.toNat).toInt) % 32 = 8) → (¬ ((xs i.toNat).toInt) % 32 = 9) → (¬ ((xs i.toNat).toInt) % 32 = 10) → (¬ ((xs i.toNat).toInt) % 32 = 11) → (¬ ((xs i.toNat).toInt) % 32 = 12) → (¬ ((xs i.toNat).toInt) % 32 = 13) → (¬ ((xs i.toNat).toInt) % 32 = 14) → (¬ ((xs i.toNat).toInt) % 32 = 15) → (¬ ((xs i.toNat).toInt) % 32 = 16) → (¬ ((xs i.toNat).toInt) % 32 = 17) → (¬ ((xs i.toNat).toInt) % 32 = 18) → (¬ ((xs i.toNat).toInt) % 32 = 19) → (¬ ((xs i.toNat).toInt) % 32 = 20) → (¬ ((xs i.toNat).toInt) % 32 = 21) → (¬ ((xs i.toNat).toInt) % 32 = 22) → (¬ ((xs i.toNat).toInt) % 32 = 23) → (((xs i.toNat).toInt) % 32 = 24) → pmWp (pmRo Ln xs) d 13 246 2 1008 [some (.ref 1001), some (.ref 0), some (.ref 87), some (xV i)] [] (xS a b) Q)
    (k27 : (¬ (Ln : Int) - 6 < i) → (¬ ((xs i.toNat).toInt) % 32 = 0) → (¬ ((xs i.toNat).toInt) % 32 = 1) → (¬ ((xs i.toNat).toInt) % 32 = 2) → (¬ ((xs i.toNat).toInt) % 32 = 3) → (¬ ((xs i.toNat).toInt) % 32 = 4) → (¬ ((xs i.toNat).toInt) % 32 = 5) → (¬ ((xs i.toNat).toInt) % 32 = 6) → (¬ ((xs i.toNat).toInt) % 32 = 7) → (¬ ((xs i.toNat).toInt) % 32 = 8) → (¬ ((xs i.toNat).toInt) % 32 = 9) → (¬ ((xs i.toNat).toInt) % 32 = 10) → (¬ ((xs i.toNat).toInt) % 32 = 11) → (¬ ((xs i.toNat).toInt) % 32 = 12) → (¬ ((xs i.toNat).toInt) % 32 = 13) → (¬ ((xs i.toNat).toInt) % 32 = 14) → (¬ ((xs i.toNat).toInt) % 32 = 15) → (¬ ((xs i.toNat).toInt) % 32 = 16) → (¬ ((xs i.toNat).toInt) % 32 = 17) → (¬ ((xs i.toNat).toInt) % 32 = 18) → (¬ ((xs i.toNat).toInt) % 32 = 19) → (¬ ((xs i.toNat).toInt) % 32 = 20) → (¬ ((xs i.toNat).toInt) % 32 = 21) → (¬ ((xs i.toNat).toInt) % 32 = 22) → (¬ ((xs i.toNat).toInt) % 32 = 23) → (¬ ((xs i.toNat).toInt) % 32 = 24) → (((xs i.toNat).toInt) % 32 = 25) → pmWp (pmRo Ln xs) d 13 246 2 1061 [some (.ref 1001), some (.ref 0), some (.ref 87), some (xV i)] [] (xS a b) Q)
    (k28 : (¬ (Ln : Int) - 6 < i) → (¬ ((xs i.toNat).toInt) % 32 = 0) → (¬ ((xs i.toNat).toInt) % 32 = 1) → (¬ ((xs i.toNat).toInt) % 32 = 2) → (¬ ((xs i.toNat).toInt) % 32 = 3) → (¬ ((xs i.toNat).toInt) % 32 = 4) → (¬ ((xs i.toNat).toInt) % 32 = 5) → (¬ ((xs i.toNat).toInt) % 32 = 6) → (¬ ((xs i.toNat).toInt) % 32 = 7) → (¬ ((xs i.toNat).toInt) % 32 = 8) → (¬ ((xs i.toNat).toInt) % 32 = 9) → (¬ ((xs i.toNat).toInt) % 32 = 10) → (¬ ((xs i.toNat).toInt) % 32 = 11) → (¬ ((xs i.toNat).toInt) % 32 = 12) → (¬ ((xs i.toNat).toInt) % 32 = 13) → (¬ ((xs i.toNat).toInt) % 32 = 14) → (¬ ((xs i.toNat).toInt) % 32 = 15) → (¬ ((xs i.toNat).toInt) % 32 = 16) → (¬ ((xs i.toNat).toInt) % 32 = 17) → (¬ ((xs i.toNat).toInt) % 32 = 18) → (¬ ((xs i.toNat).toInt) % 32 = 19) → (¬ ((xs i.toNat).toInt) % 32 = 20) → (¬ ((xs i.toNat).toInt) % 32 = 21) → (¬ ((xs i.toNat).toInt) % 32 = 22) → (¬ ((xs i.toNat).toInt) % 32 = 23) → (¬ ((xs i.toNat).toInt) % 32 = 24) → (¬ ((xs i.toNat).toInt) % 32 = 25) → (((xs i.toNat).toInt) % 32 = 26) → pmWp (pmRo Ln xs) d 13 246 2 1084 [some (.ref 1001), some (.ref 0), some (.ref 87), some (xV i)] [] (xS a b) Q)
    (k29 : (¬ (Ln : Int) - 6 < i) → (¬ ((xs i.toNat).toInt) % 32 = 0) → (¬ ((xs i.toNat).toInt) % 32 = 1) → (¬ ((xs i.toNat).toInt) % 32 = 2) → (¬ ((xs i.toNat).toInt) % 32 = 3) → (¬ ((xs i.toNat).toInt) % 32 = 4) → (¬ ((xs i.toNat).toInt) % 32 = 5) → (¬ ((xs i.toNat).toInt) % 32 = 6) → (¬ ((xs i.toNat).toInt) % 32 = 7) → (¬ ((xs i.toNat).toInt) % 32 = 8) → (¬ ((xs i.toNat).toInt) % 32 = 9) → (¬ ((xs i.toNat).toInt) % 32 = 10) → (¬ ((xs i.toNat).toInt) % 32 = 11) → (¬ ((xs i.toNat).toInt) % 32 = 12) → (¬ ((xs i.toNat).toInt) % 32 = 13) → (¬ ((xs i.toNat).toInt) % 32 = 14) → (¬ ((xs i.toNat).toInt) % 32 = 15) → (¬ ((xs i.toNat).toInt) % 32 = 16) → (¬ ((xs i.toNat).toInt) % 32 = 17) → (¬ ((xs i.toNat).toInt) % 32 = 18) → (¬ ((xs i.toNat).toInt) % 32 = 19) → (¬ ((xs i.toNat).toInt) % 32 = 20) → (¬ ((xs i.toNat).toInt) % 32 = 21) → (¬ ((xs i.toNat).toInt) % 32 = 22) → (¬ ((xs i.toNat).toInt) % 32 = 23) → (¬ ((xs i.toNat).toInt) % 32 = 24) → (¬ ((xs i.toNat).toInt) % 32 = 25) → (¬ ((xs i.toNat).toInt) % 32 = 26) → (((xs i.toNat).toInt) % 32 = 27) → pmWp (pmRo Ln xs) d 13 246 2 1127 [some (.ref 1001), some (.ref 0), some (.ref 87), some (xV i)] [] (xS a b) Q)
    (k30 : (¬ (Ln : Int) - 6 < i) → (¬ ((xs i.toNat).toInt) % 32 = 0) → (¬ ((xs i.toNat).toInt) % 32 = 1) → (¬ ((xs i.toNat).toInt) % 32 = 2) → (¬ ((xs i.toNat).toInt) % 32 = 3) → (¬ ((xs i.toNat).toInt) % 32 = 4) → (¬ ((xs i.toNat).toInt) % 32 = 5) → (¬ ((xs i.toNat).toInt) % 32 = 6) → (¬ ((xs i.toNat).toInt) % 32 = 7) → (¬ ((xs i.toNat).toInt) % 32 = 8) → (¬ ((xs i.toNat).toInt) % 32 = 9) → (¬ ((xs i.toNat).toInt) % 32 = 10) → (¬ ((xs i.toNat).toInt) % 32 = 11) → (¬ ((xs i.toNat).toInt) % 32 = 12) → (¬ ((xs i.toNat).toInt) % 32 = 13) → (¬ ((xs i.toNat).toInt) % 32 = 14) → (¬ ((xs i.toNat).toInt) % 32 = 15) → (¬ ((xs i.toNat).toInt) % 32 = 16) → (¬ ((xs i.toNat).toInt) % 32 = 17) → (¬ ((xs i.toNat).toInt) % 32 = 18) → (¬ ((xs i.toNat).toInt) % 32 = 19) → (¬ ((xs i.toNat).toInt) % 32 = 20) → (¬ ((xs i.toNat).toInt) % 32 = 21) → (¬ ((xs i.toNat).toInt) % 32 = 22) → (¬ ((xs i.toNat).toInt) % 32 = 23) → (¬ ((xs i.toNat).toInt) % 32 = 24) → (¬ ((xs i.toNat).toInt) % 32 = 25) → (¬ ((xs i.toNat).toInt) % 32 = 26) → (¬ ((xs i.toNat).toInt) % 32 = 27) → (((xs i.toNat).toInt) % 32 = 28) → pmWp (pmRo Ln xs) d 13 246 2 1160 [some (.ref 1001), some (.ref 0), some (.ref 87), some (xV i)] [] (xS a b) Q)
    (k31 : (¬ (Ln : Int) - 6 < i) → (¬ ((xs i.toNat).toInt) % 32 = 0) → (¬ ((xs i.toNat).toInt) % 32 = 1) → (¬ ((xs i.toNat).toInt) % 32 = 2) → (¬ ((xs i.toNat).toInt) % 32 = 3) → (¬ ((xs i.toNat).toInt) % 32 = 4) → (¬ ((xs i.toNat).toInt) % 32 = 5) → (¬ ((xs i.toNat).toInt) % 32 = 6) → (¬ ((xs i.toNat).toInt) % 32 = 7) → (¬ ((xs i.toNat).toInt) % 32 = 8) → (¬ ((xs i.toNat).toInt) % 32 = 9) → (¬ ((xs i.toNat).toInt) % 32 = 10) → (¬ ((xs i.toNat).toInt) % 32 = 11) → (¬ ((xs i.toNat).toInt) % 32 = 12) → (¬ ((xs i.toNat).toInt) % 32 = 13) → (¬ ((xs i.toNat).toInt) % 32 = 14) → (¬ ((xs i.toNat).toInt) % 32 = 15) → (¬ ((xs i.toNat).toInt) % 32 = 16) → (¬ ((xs i.toNat).toInt) % 32 = 17) → (¬ ((xs i.toNat).toInt) % 32 = 18) → (¬ ((xs i.toNat).toInt) % 32 = 19) → (¬ ((xs i.toNat).toInt) % 32 = 20) → (¬ ((xs i.toNat).toInt) % 32 = 21) → (¬ ((xs i.toNat).toInt) % 32 = 22) → (¬ ((xs i.toNat).toInt) % 32 = 23) → (¬ ((xs i.toNat).toInt) % 32 = 24) → (¬ ((xs i.toNat).toInt) % 32 = 25) → (¬ ((xs i.toNat).toInt) % 32 = 26) → (¬ ((xs i.toNat).toInt) % 32 = 27) → (¬ ((xs i.toNat).toInt) % 32 = 28) → (((xs i.toNat).toInt) % 32 = 29) → pmWp (pmRo Ln xs) d 13 246 2 1183 [some (.ref 1001), some (.ref 0), some (.ref 87), some (xV i)] [] (xS a b) Q)
    (k32 : (¬ (Ln : Int) - 6 < i) → (¬ ((xs i.toNat).toInt) % 32 = 0) → (¬ ((xs i.toNat).toInt) % 32 = 1) → (¬ ((xs i.toNat).toInt) % 32 = 2) → (¬ ((xs i.toNat).toInt) % 32 = 3) → (¬ ((xs i.toNat).toInt) % 32 = 4) → (¬ ((xs i.toNat).toInt) % 32 = 5) → (¬ ((xs i.toNat).toInt) % 32 = 6) → (¬ ((xs i.toNat).toInt) % 32 = 7) → (¬ ((xs i.toNat).toInt) % 32 = 8) → (¬ ((xs i.toNat).toInt) % 32 = 9) → (¬ ((xs i.toNat).toInt) % 32 = 10) → (¬ ((xs i.toNat).toInt) % 32 = 11) → (¬ ((xs i.toNat).toInt) % 32 = 12) → (¬ ((xs i.toNat).toInt) % 32 = 13) → (¬ ((xs i.toNat).toInt) % 32 = 14) → (¬ ((xs i.toNat).toInt) % 32 = 15) → (¬ ((xs i.toNat).toInt) % 32 = 16) → (¬ ((xs i.toNat).toInt) % 32 = 17) → (¬ ((xs i.toNat).toInt) % 32 = 18) → (¬ ((xs i.toNat).toInt) % 32 = 19) → (¬ ((xs i.toNat).toInt) % 32 = 20) → (¬ ((xs i.toNat).toInt) % 32 = 21) → (¬ ((xs i.toNat).toInt) % 32 = 22) → (¬ ((xs i.toNat).toInt) % 32 = 23) → (¬ ((xs i.toNat).toInt) % 32 = 24) → (¬ ((xs i.toNat).toInt) % 32 = 25) → (¬ ((xs i.toNat).toInt) % 32 = 26) → (¬ ((xs i.toNat).toInt) % 32 = 27) → (¬ ((xs i.toNat).toInt) % 32 = 28) → (¬ ((xs i.toNat).toInt) % 32 = 29) → (((xs i.toNat).toInt) % 32 = 30) → pmWp (pmRo Ln xs) d 13 246 2 1206 [some (.ref 1001), some (.ref 0), some (.ref 87), some (xV i)] [] (xS a b) Q)
    (k33 : (¬ (Ln : Int) - 6 < i) → (¬ ((xs i.toNat).toInt) % 32 = 0) → (¬ ((xs i.toNat).toInt) % 32 = 1) → (¬ ((xs i.toNat).toInt) % 32 = 2) → (¬ ((xs i.toNat).toInt) % 32 = 3) → (¬ ((xs i.toNat).toInt) % 32 = 4) → (¬ ((xs i.toNat).toInt) % 32 = 5) → (¬ ((xs i.toNat).toInt) % 32 = 6) → (¬ ((xs i.toNat).toInt) % 32 = 7) → (¬ ((xs i.toNat).toInt) % 32 = 8) → (¬ ((xs i.toNat).toInt) % 32 = 9) → (¬ ((xs i.toNat).toInt) % 32 = 10) → (¬ ((xs i.toNat).toInt) % 32 = 11) → (¬ ((xs i.toNat).toInt) % 32 = 12) → (¬ ((xs i.toNat).toInt) % 32 = 13) → (¬ ((xs i.toNat).toInt) % 32 = 14) → (¬ ((xs i.toNat).toInt) % 32 = 15) → (¬ ((xs i.toNat).toInt) % 32 = 16) → (¬ ((xs i.toNat).toInt) % 32 = 17) → (¬ ((xs i.toNat).toInt) % 32 = 18) → (¬ ((xs i.toNat).toInt) % 32 = 19) → (¬ ((xs i.toNat).toInt) % 32 = 20) → (¬ ((xs i.toNat).toInt) % 32 = 21) → (¬ ((xs i.toNat).toInt) % 32 = 22) → (¬ ((xs i.toNat).toInt) % 32 = 23) → (¬ ((xs i.toNat).toInt) % 32 = 24) → (¬ ((xs i.toNat).toInt) % 32 = 25) → (¬ ((xs i.toNat).toInt) % 32 = 26) → (¬ ((xs i.toNat).toInt) % 32 = 27) → (¬ ((xs i.toNat).toInt) % 32 = 28) → (¬ ((xs i.toNat).toInt) % 32 = 29) → (¬ ((xs i.toNat).toInt) % 32 = 30) → pmWp (pmRo Ln xs) d 13 246 2 1229 [some (.ref 1001), some (.ref 0), some (.ref 87), some (xV i)] [] (xS a b) Q) :
    pmWp (pmRo Ln xs) d 13 246 2 18 [some (.ref 1001), some (.ref 0), some (.ref 87), some (xV i)] [] (xS a b) Q := by
  refine x_iloadn xc246_18 rfl ?_
  refine x_aloadn xc246_19 rfl ?_
  refine x_salen xc246_20 hLn ?_
  refine x_bipush xc246_21 (by decide) ?_
  refine x_isub xc246_23 ?_
  refine x_icgt xc246_24 (xRk (by omega)) (xRk (by omega)) (fun h0 => ?_) (fun h0 => ?_)
  · refine x_iconst xc246_1235 ?_
    refine x_iret xc246_1236 (Or.inr ⟨rfl, (by omega)⟩) ?_
    exact k1 h0
  · refine x_aloadn xc246_27 rfl ?_
    refine x_iloadn xc246_28 rfl ?_
    refine x_sld xc246_29 (by omega) (by omega) (by omega) ?_
    refine x_bipush xc246_30 (by decide) ?_
    refine x_iandm (M := 32) 5 (by decide) (by decide) (by decide) xc246_32 ?_
    by_cases h1 : ((xs i.toNat).toInt) % 32 = 0
    · refine x_sw (c := 0) (t := 172) h1 xc246_33.1 rfl ?_
      exact k2 h0 h1
    by_cases h2 : ((xs i.toNat).toInt) % 32 = 1
    · refine x_sw (c := 1) (t := 205) h2 xc246_33.1 rfl ?_
      exact k3 h0 h1 h2
    by_cases h3 : ((xs i.toNat).toInt) % 32 = 2
    · refine x_sw (c := 2) (t := 238) h3 xc246_33.1 rfl ?_
      exact k4 h0 h1 h2 h3
    by_cases h4 : ((xs i.toNat).toInt) % 32 = 3
    · refine x_sw (c := 3) (t := 287) h4 xc246_33.1 rfl ?_
      exact k5 h0 h1 h2 h3 h4
    by_cases h5 : ((xs i.toNat).toInt) % 32 = 4
    · refine x_sw (c := 4) (t := 336) h5 xc246_33.1 rfl ?_
      exact k6 h0 h1 h2 h3 h4 h5
    by_cases h6 : ((xs i.toNat).toInt) % 32 = 5
    · refine x_sw (c := 5) (t := 405) h6 xc246_33.1 rfl ?_
      exact k7 h0 h1 h2 h3 h4 h5 h6
    by_cases h7 : ((xs i.toNat).toInt) % 32 = 6
    · refine x_sw (c := 6) (t := 438) h7 xc246_33.1 rfl ?_
      exact k8 h0 h1 h2 h3 h4 h5 h6 h7
    by_cases h8 : ((xs i.toNat).toInt) % 32 = 7
    · refine x_sw (c := 7) (t := 501) h8 xc246_33.1 rfl ?_
      exact k9 h0 h1 h2 h3 h4 h5 h6 h7 h8
    by_cases h9 : ((xs i.toNat).toInt) % 32 = 8
    · refine x_sw (c := 8) (t := 544) h9 xc246_33.1 rfl ?_
      exact k10 h0 h1 h2 h3 h4 h5 h6 h7 h8 h9
    by_cases h10 : ((xs i.toNat).toInt) % 32 = 9
    · refine x_sw (c := 9) (t := 567) h10 xc246_33.1 rfl ?_
      exact k11 h0 h1 h2 h3 h4 h5 h6 h7 h8 h9 h10
    by_cases h11 : ((xs i.toNat).toInt) % 32 = 10
    · refine x_sw (c := 10) (t := 580) h11 xc246_33.1 rfl ?_
      exact k12 h0 h1 h2 h3 h4 h5 h6 h7 h8 h9 h10 h11
    by_cases h12 : ((xs i.toNat).toInt) % 32 = 11
    · refine x_sw (c := 11) (t := 639) h12 xc246_33.1 rfl ?_
      exact k13 h0 h1 h2 h3 h4 h5 h6 h7 h8 h9 h10 h11 h12
    by_cases h13 : ((xs i.toNat).toInt) % 32 = 12
    · refine x_sw (c := 12) (t := 672) h13 xc246_33.1 rfl ?_
      exact k14 h0 h1 h2 h3 h4 h5 h6 h7 h8 h9 h10 h11 h12 h13
    by_cases h14 : ((xs i.toNat).toInt) % 32 = 13
    · refine x_sw (c := 13) (t := 715) h14 xc246_33.1 rfl ?_
      exact k15 h0 h1 h2 h3 h4 h5 h6 h7 h8 h9 h10 h11 h12 h13 h14
    by_cases h15 : ((xs i.toNat).toInt) % 32 = 14
    · refine x_sw (c := 14) (t := 738) h15 xc246_33.1 rfl ?_
      exact k16 h0 h1 h2 h3 h4 h5 h6 h7 h8 h9 h10 h11 h12 h13 h14 h15
    by_cases h16 : ((xs i.toNat).toInt) % 32 = 15
    · refine x_sw (c := 15) (t := 781) h16 xc246_33.1 rfl ?_
      exact k17 h0 h1 h2 h3 h4 h5 h6 h7 h8 h9 h10 h11 h12 h13 h14 h15 h16
    by_cases h17 : ((xs i.toNat).toInt) % 32 = 16
    · refine x_sw (c := 16) (t := 814) h17 xc246_33.1 rfl ?_
      exact k18 h0 h1 h2 h3 h4 h5 h6 h7 h8 h9 h10 h11 h12 h13 h14 h15 h16 h17
    by_cases h18 : ((xs i.toNat).toInt) % 32 = 17
    · refine x_sw (c := 17) (t := 847) h18 xc246_33.1 rfl ?_
      exact k19 h0 h1 h2 h3 h4 h5 h6 h7 h8 h9 h10 h11 h12 h13 h14 h15 h16 h17 h18
    by_cases h19 : ((xs i.toNat).toInt) % 32 = 18
    · refine x_sw (c := 18) (t := 870) h19 xc246_33.1 rfl ?_
      exact k20 h0 h1 h2 h3 h4 h5 h6 h7 h8 h9 h10 h11 h12 h13 h14 h15 h16 h17 h18 h19
    by_cases h20 : ((xs i.toNat).toInt) % 32 = 19
    · refine x_sw (c := 19) (t := 893) h20 xc246_33.1 rfl ?_
      exact k21 h0 h1 h2 h3 h4 h5 h6 h7 h8 h9 h10 h11 h12 h13 h14 h15 h16 h17 h18 h19 h20
    by_cases h21 : ((xs i.toNat).toInt) % 32 = 20
    · refine x_sw (c := 20) (t := 916) h21 xc246_33.1 rfl ?_
      exact k22 h0 h1 h2 h3 h4 h5 h6 h7 h8 h9 h10 h11 h12 h13 h14 h15 h16 h17 h18 h19 h20 h21
    by_cases h22 : ((xs i.toNat).toInt) % 32 = 21
    · refine x_sw (c := 21) (t := 929) h22 xc246_33.1 rfl ?_
      exact k23 h0 h1 h2 h3 h4 h5 h6 h7 h8 h9 h10 h11 h12 h13 h14 h15 h16 h17 h18 h19 h20 h21 h22
    by_cases h23 : ((xs i.toNat).toInt) % 32 = 22
    · refine x_sw (c := 22) (t := 962) h23 xc246_33.1 rfl ?_
      exact k24 h0 h1 h2 h3 h4 h5 h6 h7 h8 h9 h10 h11 h12 h13 h14 h15 h16 h17 h18 h19 h20 h21 h22 h23
    by_cases h24 : ((xs i.toNat).toInt) % 32 = 23
    · refine x_sw (c := 23) (t := 985) h24 xc246_33.1 rfl ?_
      exact k25 h0 h1 h2 h3 h4 h5 h6 h7 h8 h9 h10 h11 h12 h13 h14 h15 h16 h17 h18 h19 h20 h21 h22 h23 h24
    by_cases h25 : ((xs i.toNat).toInt) % 32 = 24
    · refine x_sw (c := 24) (t := 1008) h25 xc246_33.1 rfl ?_
      exact k26 h0 h1 h2 h3 h4 h5 h6 h7 h8 h9 h10 h11 h12 h13 h14 h15 h16 h17 h18 h19 h20 h21 h22 h23 h24 h25
    by_cases h26 : ((xs i.toNat).toInt) % 32 = 25
    · refine x_sw (c := 25) (t := 1061) h26 xc246_33.1 rfl ?_
      exact k27 h0 h1 h2 h3 h4 h5 h6 h7 h8 h9 h10 h11 h12 h13 h14 h15 h16 h17 h18 h19 h20 h21 h22 h23 h24 h25 h26
    by_cases h27 : ((xs i.toNat).toInt) % 32 = 26
    · refine x_sw (c := 26) (t := 1084) h27 xc246_33.1 rfl ?_
      exact k28 h0 h1 h2 h3 h4 h5 h6 h7 h8 h9 h10 h11 h12 h13 h14 h15 h16 h17 h18 h19 h20 h21 h22 h23 h24 h25 h26 h27
    by_cases h28 : ((xs i.toNat).toInt) % 32 = 27
    · refine x_sw (c := 27) (t := 1127) h28 xc246_33.1 rfl ?_
      exact k29 h0 h1 h2 h3 h4 h5 h6 h7 h8 h9 h10 h11 h12 h13 h14 h15 h16 h17 h18 h19 h20 h21 h22 h23 h24 h25 h26 h27 h28
    by_cases h29 : ((xs i.toNat).toInt) % 32 = 28
    · refine x_sw (c := 28) (t := 1160) h29 xc246_33.1 rfl ?_
      exact k30 h0 h1 h2 h3 h4 h5 h6 h7 h8 h9 h10 h11 h12 h13 h14 h15 h16 h17 h18 h19 h20 h21 h22 h23 h24 h25 h26 h27 h28 h29
    by_cases h30 : ((xs i.toNat).toInt) % 32 = 29
    · refine x_sw (c := 29) (t := 1183) h30 xc246_33.1 rfl ?_
      exact k31 h0 h1 h2 h3 h4 h5 h6 h7 h8 h9 h10 h11 h12 h13 h14 h15 h16 h17 h18 h19 h20 h21 h22 h23 h24 h25 h26 h27 h28 h29 h30
    by_cases h31 : ((xs i.toNat).toInt) % 32 = 30
    · refine x_sw (c := 30) (t := 1206) h31 xc246_33.1 rfl ?_
      exact k32 h0 h1 h2 h3 h4 h5 h6 h7 h8 h9 h10 h11 h12 h13 h14 h15 h16 h17 h18 h19 h20 h21 h22 h23 h24 h25 h26 h27 h28 h29 h30 h31
    refine x_tsd xc246_33 (xRk (by have g0 := aB32 (xs i.toNat); omega)) (by omega) ?_
    exact k33 h0 h1 h2 h3 h4 h5 h6 h7 h8 h9 h10 h11 h12 h13 h14 h15 h16 h17 h18 h19 h20 h21 h22 h23 h24 h25 h26 h27 h28 h29 h30 h31

theorem wld {Ln : Nat} {xs : Nat → Int32} {d : Nat} {Q : Option Value → pmS → Prop} {i : Int} {a : xA} {b : xB} (hLn : Ln ≤ 3072) (h0 : 0 ≤ i) (hi : i ≤ 3072)
    (k1 : pmWp (pmRo Ln xs) d 13 246 2 18 [some (.ref 1001), some (.ref 0), some (.ref 87), some (xV (i + 6))] [] (xS a b) Q) :
    pmWp (pmRo Ln xs) d 13 246 2 1229 [some (.ref 1001), some (.ref 0), some (.ref 87), some (xV i)] [] (xS a b) Q := by
  refine x_iinc (pl' := [some (.ref 1001), some (.ref 0), some (.ref 87), some (xV (i + 6))]) xc246_1229 rfl rfl ?_
  refine x_goto xc246_1232 ?_
  exact k1

/-- one call on both: what comes of it -/
def xStep (ro : Nat → Nat × (Nat → Int32)) (d mm : Nat) (as : List Value) (mm' : Nat) (as' : List Value) (Inv : xA → xB → Prop) (Ans : Int → Int → Prop) (a : xA) (b : xB) : Prop := pmCs ro d mm as (xS a b) fun r σ1 => ∃ z a1 b1, r = some (xV z) ∧ xR z ∧ σ1 = xS a1 b1 ∧ pmCs ro d mm' as' (xS a1 b1) fun r' σ2 => ∃ z' a2 b2, r' = some (xV z') ∧ xR z' ∧ σ2 = xS a2 b2 ∧ Inv a2 b2 ∧ Ans z z'
theorem wl1_0 {Ln : Nat} {xs : Nat → Int32} {d : Nat} {Q : Option Value → pmS → Prop} {i : Int} {a : xA} {b : xB} (hLn : Ln ≤ 3072) (h0 : 0 ≤ i) (h6 : i + 6 ≤ (Ln : Int))
    (k1 : pmCs (pmRo Ln xs) d 13 [.ref 0, xV ((xs (i + 1).toNat).toInt), xV ((xs (i + 2).toNat).toInt)] (xS a b) fun r σ' => pmWp (pmRo Ln xs) d 13 246 2 186 [some (.ref 1001), some (.ref 0), some (.ref 87), some (xV i)] (r.toList ++ []) σ' Q) :
    pmWp (pmRo Ln xs) d 13 246 2 172 [some (.ref 1001), some (.ref 0), some (.ref 87), some (xV i)] [] (xS a b) Q := by
  refine x_aloadn xc246_172 rfl ?_
  refine x_aloadn xc246_173 rfl ?_
  refine x_iloadn xc246_174 rfl ?_
  refine x_iconst xc246_175 ?_
  refine x_iadd xc246_176 ?_
  refine x_sld xc246_177 (by omega) (by omega) (by omega) ?_
  refine x_aloadn xc246_178 rfl ?_
  refine x_iloadn xc246_179 rfl ?_
  refine x_iconst xc246_180 ?_
  refine x_iadd xc246_181 ?_
  refine x_sld xc246_182 (by omega) (by omega) (by omega) ?_
  refine x_cV (as := [xV ((xs (i + 1).toNat).toInt), xV ((xs (i + 2).toNat).toInt)]) (rest := []) xc246_183 rfl xi13 xz0 ⟨rfl, rfl⟩ rfl rfl ?_
  exact k1

theorem wl2_0_0 {Ln : Nat} {xs : Nat → Int32} {d : Nat} {Q : Option Value → pmS → Prop} {i : Int} {a : xA} {b : xB} (hLn : Ln ≤ 3072) (h0 : 0 ≤ i) (h6 : i + 6 ≤ (Ln : Int)) {z : Int} (h_z : xR z)
    (k1 : pmCs (pmRo Ln xs) d 137 [.ref 87, xV ((xs (i + 1).toNat).toInt), xV ((xs (i + 2).toNat).toInt)] (xS a b) fun r σ' => pmWp (pmRo Ln xs) d 13 246 2 201 [some (.ref 1001), some (.ref 0), some (.ref 87), some (xV i)] (r.toList ++ []) σ' Q) :
    pmWp (pmRo Ln xs) d 13 246 2 186 [some (.ref 1001), some (.ref 0), some (.ref 87), some (xV i)] [xV z] (xS a b) Q := by
  refine x_pop xc246_186 rfl ?_
  refine x_aloadn xc246_187 rfl ?_
  refine x_aloadn xc246_188 rfl ?_
  refine x_iloadn xc246_189 rfl ?_
  refine x_iconst xc246_190 ?_
  refine x_iadd xc246_191 ?_
  refine x_sld xc246_192 (by omega) (by omega) (by omega) ?_
  refine x_aloadn xc246_193 rfl ?_
  refine x_iloadn xc246_194 rfl ?_
  refine x_iconst xc246_195 ?_
  refine x_iadd xc246_196 ?_
  refine x_sld xc246_197 (by omega) (by omega) (by omega) ?_
  refine x_cV (as := [xV ((xs (i + 1).toNat).toInt), xV ((xs (i + 2).toNat).toInt)]) (rest := []) xc246_198 rfl xi137 xz87 ⟨rfl, rfl⟩ rfl rfl ?_
  exact k1

theorem wl3_0_0 {Ln : Nat} {xs : Nat → Int32} {d : Nat} {Q : Option Value → pmS → Prop} {i : Int} {a : xA} {b : xB} (hLn : Ln ≤ 3072) (h0 : 0 ≤ i) (h6 : i + 6 ≤ (Ln : Int)) {z z' : Int} (h_z : xR z) (h_z' : xR z')
    (k1 : pmWp (pmRo Ln xs) d 13 246 2 1229 [some (.ref 1001), some (.ref 0), some (.ref 87), some (xV i)] [] (xS a b) Q) :
    pmWp (pmRo Ln xs) d 13 246 2 201 [some (.ref 1001), some (.ref 0), some (.ref 87), some (xV i)] [xV z'] (xS a b) Q := by
  refine x_pop xc246_201 rfl ?_
  refine x_goto xc246_202 ?_
  exact k1

def xHyp0 (Ln : Nat) (xs : Nat → Int32) (Inv : xA → xB → Prop) : Prop := ∀ v0 : Int, xR v0 → ∀ v1 : Int, xR v1 → ∀ a b, Inv a b → xStep (pmRo Ln xs) 59 13 [.ref 0, xV v0, xV v1] 137 [.ref 87, xV v0, xV v1] Inv (fun _ _ => True) a b
theorem xcase0 {Ln : Nat} {xs : Nat → Int32} {Q : Option Value → pmS → Prop} {Inv : xA → xB → Prop} {i : Int} {a : xA} {b : xB} (hLn : Ln ≤ 3072) (h0 : 0 ≤ i) (h6 : i + 6 ≤ (Ln : Int)) (hS : xHyp0 Ln xs Inv) (hI : Inv a b) (hN : ∀ a' b', Inv a' b' → pmWp (pmRo Ln xs) 59 13 246 2 1229 [some (.ref 1001), some (.ref 0), some (.ref 87), some (xV i)] [] (xS a' b') Q) : pmWp (pmRo Ln xs) 59 13 246 2 172 [some (.ref 1001), some (.ref 0), some (.ref 87), some (xV i)] [] (xS a b) Q := by
  refine wl1_0 hLn h0 h6 ?_
  · refine pmCs_mono (hS _ (aB32 _) _ (aB32 _) a b hI) ?_
    rintro r σ1 ⟨z, a1, b1, rfl, hz, rfl, h2⟩
    refine wl2_0_0 hLn h0 h6 hz ?_
    · refine pmCs_mono h2 ?_
      rintro r' σ2 ⟨z', a2, b2, rfl, hz', rfl, hI2, hans⟩
      exact wl3_0_0 hLn h0 h6 hz hz' (hN a2 b2 hI2)

theorem wl1_1 {Ln : Nat} {xs : Nat → Int32} {d : Nat} {Q : Option Value → pmS → Prop} {i : Int} {a : xA} {b : xB} (hLn : Ln ≤ 3072) (h0 : 0 ≤ i) (h6 : i + 6 ≤ (Ln : Int))
    (k1 : pmCs (pmRo Ln xs) d 17 [.ref 0, xV ((xs (i + 1).toNat).toInt), xV ((xs (i + 2).toNat).toInt)] (xS a b) fun r σ' => pmWp (pmRo Ln xs) d 13 246 2 219 [some (.ref 1001), some (.ref 0), some (.ref 87), some (xV i)] (r.toList ++ []) σ' Q) :
    pmWp (pmRo Ln xs) d 13 246 2 205 [some (.ref 1001), some (.ref 0), some (.ref 87), some (xV i)] [] (xS a b) Q := by
  refine x_aloadn xc246_205 rfl ?_
  refine x_aloadn xc246_206 rfl ?_
  refine x_iloadn xc246_207 rfl ?_
  refine x_iconst xc246_208 ?_
  refine x_iadd xc246_209 ?_
  refine x_sld xc246_210 (by omega) (by omega) (by omega) ?_
  refine x_aloadn xc246_211 rfl ?_
  refine x_iloadn xc246_212 rfl ?_
  refine x_iconst xc246_213 ?_
  refine x_iadd xc246_214 ?_
  refine x_sld xc246_215 (by omega) (by omega) (by omega) ?_
  refine x_cV (as := [xV ((xs (i + 1).toNat).toInt), xV ((xs (i + 2).toNat).toInt)]) (rest := []) xc246_216 rfl xi17 xz0 ⟨rfl, rfl⟩ rfl rfl ?_
  exact k1

theorem wl2_1_0 {Ln : Nat} {xs : Nat → Int32} {d : Nat} {Q : Option Value → pmS → Prop} {i : Int} {a : xA} {b : xB} (hLn : Ln ≤ 3072) (h0 : 0 ≤ i) (h6 : i + 6 ≤ (Ln : Int)) {z : Int} (h_z : xR z)
    (k1 : pmCs (pmRo Ln xs) d 139 [.ref 87, xV ((xs (i + 1).toNat).toInt), xV ((xs (i + 2).toNat).toInt)] (xS a b) fun r σ' => pmWp (pmRo Ln xs) d 13 246 2 234 [some (.ref 1001), some (.ref 0), some (.ref 87), some (xV i)] (r.toList ++ []) σ' Q) :
    pmWp (pmRo Ln xs) d 13 246 2 219 [some (.ref 1001), some (.ref 0), some (.ref 87), some (xV i)] [xV z] (xS a b) Q := by
  refine x_pop xc246_219 rfl ?_
  refine x_aloadn xc246_220 rfl ?_
  refine x_aloadn xc246_221 rfl ?_
  refine x_iloadn xc246_222 rfl ?_
  refine x_iconst xc246_223 ?_
  refine x_iadd xc246_224 ?_
  refine x_sld xc246_225 (by omega) (by omega) (by omega) ?_
  refine x_aloadn xc246_226 rfl ?_
  refine x_iloadn xc246_227 rfl ?_
  refine x_iconst xc246_228 ?_
  refine x_iadd xc246_229 ?_
  refine x_sld xc246_230 (by omega) (by omega) (by omega) ?_
  refine x_cV (as := [xV ((xs (i + 1).toNat).toInt), xV ((xs (i + 2).toNat).toInt)]) (rest := []) xc246_231 rfl xi139 xz87 ⟨rfl, rfl⟩ rfl rfl ?_
  exact k1

theorem wl3_1_0 {Ln : Nat} {xs : Nat → Int32} {d : Nat} {Q : Option Value → pmS → Prop} {i : Int} {a : xA} {b : xB} (hLn : Ln ≤ 3072) (h0 : 0 ≤ i) (h6 : i + 6 ≤ (Ln : Int)) {z z' : Int} (h_z : xR z) (h_z' : xR z')
    (k1 : pmWp (pmRo Ln xs) d 13 246 2 1229 [some (.ref 1001), some (.ref 0), some (.ref 87), some (xV i)] [] (xS a b) Q) :
    pmWp (pmRo Ln xs) d 13 246 2 234 [some (.ref 1001), some (.ref 0), some (.ref 87), some (xV i)] [xV z'] (xS a b) Q := by
  refine x_pop xc246_234 rfl ?_
  refine x_goto xc246_235 ?_
  exact k1

def xHyp1 (Ln : Nat) (xs : Nat → Int32) (Inv : xA → xB → Prop) : Prop := ∀ v0 : Int, xR v0 → ∀ v1 : Int, xR v1 → ∀ a b, Inv a b → xStep (pmRo Ln xs) 59 17 [.ref 0, xV v0, xV v1] 139 [.ref 87, xV v0, xV v1] Inv (fun _ _ => True) a b
theorem xcase1 {Ln : Nat} {xs : Nat → Int32} {Q : Option Value → pmS → Prop} {Inv : xA → xB → Prop} {i : Int} {a : xA} {b : xB} (hLn : Ln ≤ 3072) (h0 : 0 ≤ i) (h6 : i + 6 ≤ (Ln : Int)) (hS : xHyp1 Ln xs Inv) (hI : Inv a b) (hN : ∀ a' b', Inv a' b' → pmWp (pmRo Ln xs) 59 13 246 2 1229 [some (.ref 1001), some (.ref 0), some (.ref 87), some (xV i)] [] (xS a' b') Q) : pmWp (pmRo Ln xs) 59 13 246 2 205 [some (.ref 1001), some (.ref 0), some (.ref 87), some (xV i)] [] (xS a b) Q := by
  refine wl1_1 hLn h0 h6 ?_
  · refine pmCs_mono (hS _ (aB32 _) _ (aB32 _) a b hI) ?_
    rintro r σ1 ⟨z, a1, b1, rfl, hz, rfl, h2⟩
    refine wl2_1_0 hLn h0 h6 hz ?_
    · refine pmCs_mono h2 ?_
      rintro r' σ2 ⟨z', a2, b2, rfl, hz', rfl, hI2, hans⟩
      exact wl3_1_0 hLn h0 h6 hz hz' (hN a2 b2 hI2)

theorem wl1_2 {Ln : Nat} {xs : Nat → Int32} {d : Nat} {Q : Option Value → pmS → Prop} {i : Int} {a : xA} {b : xB} (hLn : Ln ≤ 3072) (h0 : 0 ≤ i) (h6 : i + 6 ≤ (Ln : Int))
    (k1 : ((xs (i + 2).toNat).toInt = 0) → pmCs (pmRo Ln xs) d 20 [.ref 0, xV ((xs (i + 1).toNat).toInt), xV 0] (xS a b) fun r σ' => pmWp (pmRo Ln xs) d 13 246 2 260 [some (.ref 1001), some (.ref 0), some (.ref 87), some (xV i)] (r.toList ++ []) σ' Q)
    (k2 : (¬ (xs (i + 2).toNat).toInt = 0) → pmCs (pmRo Ln xs) d 20 [.ref 0, xV ((xs (i + 1).toNat).toInt), xV 1] (xS a b) fun r σ' => pmWp (pmRo Ln xs) d 13 246 2 260 [some (.ref 1001), some (.ref 0), some (.ref 87), some (xV i)] (r.toList ++ []) σ' Q) :
    pmWp (pmRo Ln xs) d 13 246 2 238 [some (.ref 1001), some (.ref 0), some (.ref 87), some (xV i)] [] (xS a b) Q := by
  refine x_aloadn xc246_238 rfl ?_
  refine x_aloadn xc246_239 rfl ?_
  refine x_iloadn xc246_240 rfl ?_
  refine x_iconst xc246_241 ?_
  refine x_iadd xc246_242 ?_
  refine x_sld xc246_243 (by omega) (by omega) (by omega) ?_
  refine x_aloadn xc246_244 rfl ?_
  refine x_iloadn xc246_245 rfl ?_
  refine x_iconst xc246_246 ?_
  refine x_iadd xc246_247 ?_
  refine x_sld xc246_248 (by omega) (by omega) (by omega) ?_
  refine x_ifeq xc246_249 (xRk (by have g0 := aB32 (xs (i + 2).toNat); omega)) (fun h0 => ?_) (fun h0 => ?_)
  · refine x_iconst xc246_256 ?_
    refine x_cV (as := [xV ((xs (i + 1).toNat).toInt), xV 0]) (rest := []) xc246_257 rfl xi20 xz0 ⟨rfl, rfl⟩ rfl rfl ?_
    exact k1 h0
  · refine x_iconst xc246_252 ?_
    refine x_goto xc246_253 ?_
    refine x_cV (as := [xV ((xs (i + 1).toNat).toInt), xV 1]) (rest := []) xc246_257 rfl xi20 xz0 ⟨rfl, rfl⟩ rfl rfl ?_
    exact k2 h0

theorem wl2_2_0 {Ln : Nat} {xs : Nat → Int32} {d : Nat} {Q : Option Value → pmS → Prop} {i : Int} {a : xA} {b : xB} (hLn : Ln ≤ 3072) (h0 : 0 ≤ i) (h6 : i + 6 ≤ (Ln : Int)) {z : Int} (h_z : xR z) (c0 : (xs (i + 2).toNat).toInt = 0)
    (k1 : ((xs (i + 2).toNat).toInt = 0) → pmCs (pmRo Ln xs) d 141 [.ref 87, xV ((xs (i + 1).toNat).toInt), xV 0] (xS a b) fun r σ' => pmWp (pmRo Ln xs) d 13 246 2 283 [some (.ref 1001), some (.ref 0), some (.ref 87), some (xV i)] (r.toList ++ []) σ' Q)
    (k2 : (¬ (xs (i + 2).toNat).toInt = 0) → pmCs (pmRo Ln xs) d 141 [.ref 87, xV ((xs (i + 1).toNat).toInt), xV 1] (xS a b) fun r σ' => pmWp (pmRo Ln xs) d 13 246 2 283 [some (.ref 1001), some (.ref 0), some (.ref 87), some (xV i)] (r.toList ++ []) σ' Q) :
    pmWp (pmRo Ln xs) d 13 246 2 260 [some (.ref 1001), some (.ref 0), some (.ref 87), some (xV i)] [xV z] (xS a b) Q := by
  refine x_pop xc246_260 rfl ?_
  refine x_aloadn xc246_261 rfl ?_
  refine x_aloadn xc246_262 rfl ?_
  refine x_iloadn xc246_263 rfl ?_
  refine x_iconst xc246_264 ?_
  refine x_iadd xc246_265 ?_
  refine x_sld xc246_266 (by omega) (by omega) (by omega) ?_
  refine x_aloadn xc246_267 rfl ?_
  refine x_iloadn xc246_268 rfl ?_
  refine x_iconst xc246_269 ?_
  refine x_iadd xc246_270 ?_
  refine x_sld xc246_271 (by omega) (by omega) (by omega) ?_
  refine x_ifeq xc246_272 (xRk (by have g0 := aB32 (xs (i + 2).toNat); omega)) (fun h0 => ?_) (fun h0 => ?_)
  · refine x_iconst xc246_279 ?_
    refine x_cV (as := [xV ((xs (i + 1).toNat).toInt), xV 0]) (rest := []) xc246_280 rfl xi141 xz87 ⟨rfl, rfl⟩ rfl rfl ?_
    exact k1 h0
  · refine x_iconst xc246_275 ?_
    refine x_goto xc246_276 ?_
    refine x_cV (as := [xV ((xs (i + 1).toNat).toInt), xV 1]) (rest := []) xc246_280 rfl xi141 xz87 ⟨rfl, rfl⟩ rfl rfl ?_
    exact k2 h0

theorem wl3_2_0 {Ln : Nat} {xs : Nat → Int32} {d : Nat} {Q : Option Value → pmS → Prop} {i : Int} {a : xA} {b : xB} (hLn : Ln ≤ 3072) (h0 : 0 ≤ i) (h6 : i + 6 ≤ (Ln : Int)) {z z' : Int} (h_z : xR z) (h_z' : xR z')
    (k1 : pmWp (pmRo Ln xs) d 13 246 2 1229 [some (.ref 1001), some (.ref 0), some (.ref 87), some (xV i)] [] (xS a b) Q) :
    pmWp (pmRo Ln xs) d 13 246 2 283 [some (.ref 1001), some (.ref 0), some (.ref 87), some (xV i)] [xV z'] (xS a b) Q := by
  refine x_pop xc246_283 rfl ?_
  refine x_goto xc246_284 ?_
  exact k1

theorem wl2_2_1 {Ln : Nat} {xs : Nat → Int32} {d : Nat} {Q : Option Value → pmS → Prop} {i : Int} {a : xA} {b : xB} (hLn : Ln ≤ 3072) (h0 : 0 ≤ i) (h6 : i + 6 ≤ (Ln : Int)) {z : Int} (h_z : xR z) (c0 : ¬ (xs (i + 2).toNat).toInt = 0)
    (k1 : ((xs (i + 2).toNat).toInt = 0) → pmCs (pmRo Ln xs) d 141 [.ref 87, xV ((xs (i + 1).toNat).toInt), xV 0] (xS a b) fun r σ' => pmWp (pmRo Ln xs) d 13 246 2 283 [some (.ref 1001), some (.ref 0), some (.ref 87), some (xV i)] (r.toList ++ []) σ' Q)
    (k2 : (¬ (xs (i + 2).toNat).toInt = 0) → pmCs (pmRo Ln xs) d 141 [.ref 87, xV ((xs (i + 1).toNat).toInt), xV 1] (xS a b) fun r σ' => pmWp (pmRo Ln xs) d 13 246 2 283 [some (.ref 1001), some (.ref 0), some (.ref 87), some (xV i)] (r.toList ++ []) σ' Q) :
    pmWp (pmRo Ln xs) d 13 246 2 260 [some (.ref 1001), some (.ref 0), some (.ref 87), some (xV i)] [xV z] (xS a b) Q := by
  refine x_pop xc246_260 rfl ?_
  refine x_aloadn xc246_261 rfl ?_
  refine x_aloadn xc246_262 rfl ?_
  refine x_iloadn xc246_263 rfl ?_
  refine x_iconst xc246_264 ?_
  refine x_iadd xc246_265 ?_
  refine x_sld xc246_266 (by omega) (by omega) (by omega) ?_
  refine x_aloadn xc246_267 rfl ?_
  refine x_iloadn xc246_268 rfl ?_
  refine x_iconst xc246_269 ?_
  refine x_iadd xc246_270 ?_
  refine x_sld xc246_271 (by omega) (by omega) (by omega) ?_
  refine x_ifeq xc246_272 (xRk (by have g0 := aB32 (xs (i + 2).toNat); omega)) (fun h0 => ?_) (fun h0 => ?_)
  · refine x_iconst xc246_279 ?_
    refine x_cV (as := [xV ((xs (i + 1).toNat).toInt), xV 0]) (rest := []) xc246_280 rfl xi141 xz87 ⟨rfl, rfl⟩ rfl rfl ?_
    exact k1 h0
  · refine x_iconst xc246_275 ?_
    refine x_goto xc246_276 ?_
    refine x_cV (as := [xV ((xs (i + 1).toNat).toInt), xV 1]) (rest := []) xc246_280 rfl xi141 xz87 ⟨rfl, rfl⟩ rfl rfl ?_
    exact k2 h0

theorem wl3_2_1 {Ln : Nat} {xs : Nat → Int32} {d : Nat} {Q : Option Value → pmS → Prop} {i : Int} {a : xA} {b : xB} (hLn : Ln ≤ 3072) (h0 : 0 ≤ i) (h6 : i + 6 ≤ (Ln : Int)) {z z' : Int} (h_z : xR z) (h_z' : xR z')
    (k1 : pmWp (pmRo Ln xs) d 13 246 2 1229 [some (.ref 1001), some (.ref 0), some (.ref 87), some (xV i)] [] (xS a b) Q) :
    pmWp (pmRo Ln xs) d 13 246 2 283 [some (.ref 1001), some (.ref 0), some (.ref 87), some (xV i)] [xV z'] (xS a b) Q := by
  refine x_pop xc246_283 rfl ?_
  refine x_goto xc246_284 ?_
  exact k1

def xHyp2 (Ln : Nat) (xs : Nat → Int32) (Inv : xA → xB → Prop) : Prop := ∀ v0 : Int, xR v0 → ∀ v1 : Int, (v1 = 0 ∨ v1 = 1) → ∀ a b, Inv a b → xStep (pmRo Ln xs) 59 20 [.ref 0, xV v0, xV v1] 141 [.ref 87, xV v0, xV v1] Inv (fun _ _ => True) a b
theorem xcase2 {Ln : Nat} {xs : Nat → Int32} {Q : Option Value → pmS → Prop} {Inv : xA → xB → Prop} {i : Int} {a : xA} {b : xB} (hLn : Ln ≤ 3072) (h0 : 0 ≤ i) (h6 : i + 6 ≤ (Ln : Int)) (hS : xHyp2 Ln xs Inv) (hI : Inv a b) (hN : ∀ a' b', Inv a' b' → pmWp (pmRo Ln xs) 59 13 246 2 1229 [some (.ref 1001), some (.ref 0), some (.ref 87), some (xV i)] [] (xS a' b') Q) : pmWp (pmRo Ln xs) 59 13 246 2 238 [some (.ref 1001), some (.ref 0), some (.ref 87), some (xV i)] [] (xS a b) Q := by
  refine wl1_2 hLn h0 h6 ?_ ?_
  · intro c0
    refine pmCs_mono (hS _ (aB32 _) _ (Or.inl rfl) a b hI) ?_
    rintro r σ1 ⟨z, a1, b1, rfl, hz, rfl, h2⟩
    refine wl2_2_0 hLn h0 h6 hz c0 ?_ ?_
    · intro _
      refine pmCs_mono h2 ?_
      rintro r' σ2 ⟨z', a2, b2, rfl, hz', rfl, hI2, hans⟩
      exact wl3_2_0 hLn h0 h6 hz hz' (hN a2 b2 hI2)
    · intro e0
      exfalso
      omega
  · intro c0
    refine pmCs_mono (hS _ (aB32 _) _ (Or.inr rfl) a b hI) ?_
    rintro r σ1 ⟨z, a1, b1, rfl, hz, rfl, h2⟩
    refine wl2_2_1 hLn h0 h6 hz c0 ?_ ?_
    · intro e0
      exfalso
      omega
    · intro _
      refine pmCs_mono h2 ?_
      rintro r' σ2 ⟨z', a2, b2, rfl, hz', rfl, hI2, hans⟩
      exact wl3_2_1 hLn h0 h6 hz hz' (hN a2 b2 hI2)

theorem wl1_3 {Ln : Nat} {xs : Nat → Int32} {d : Nat} {Q : Option Value → pmS → Prop} {i : Int} {a : xA} {b : xB} (hLn : Ln ≤ 3072) (h0 : 0 ≤ i) (h6 : i + 6 ≤ (Ln : Int))
    (k1 : ((xs (i + 2).toNat).toInt = 0) → pmCs (pmRo Ln xs) d 23 [.ref 0, xV ((xs (i + 1).toNat).toInt), xV 0] (xS a b) fun r σ' => pmWp (pmRo Ln xs) d 13 246 2 309 [some (.ref 1001), some (.ref 0), some (.ref 87), some (xV i)] (r.toList ++ []) σ' Q)
    (k2 : (¬ (xs (i + 2).toNat).toInt = 0) → pmCs (pmRo Ln xs) d 23 [.ref 0, xV ((xs (i + 1).toNat).toInt), xV 1] (xS a b) fun r σ' => pmWp (pmRo Ln xs) d 13 246 2 309 [some (.ref 1001), some (.ref 0), some (.ref 87), some (xV i)] (r.toList ++ []) σ' Q) :
    pmWp (pmRo Ln xs) d 13 246 2 287 [some (.ref 1001), some (.ref 0), some (.ref 87), some (xV i)] [] (xS a b) Q := by
  refine x_aloadn xc246_287 rfl ?_
  refine x_aloadn xc246_288 rfl ?_
  refine x_iloadn xc246_289 rfl ?_
  refine x_iconst xc246_290 ?_
  refine x_iadd xc246_291 ?_
  refine x_sld xc246_292 (by omega) (by omega) (by omega) ?_
  refine x_aloadn xc246_293 rfl ?_
  refine x_iloadn xc246_294 rfl ?_
  refine x_iconst xc246_295 ?_
  refine x_iadd xc246_296 ?_
  refine x_sld xc246_297 (by omega) (by omega) (by omega) ?_
  refine x_ifeq xc246_298 (xRk (by have g0 := aB32 (xs (i + 2).toNat); omega)) (fun h0 => ?_) (fun h0 => ?_)
  · refine x_iconst xc246_305 ?_
    refine x_cV (as := [xV ((xs (i + 1).toNat).toInt), xV 0]) (rest := []) xc246_306 rfl xi23 xz0 ⟨rfl, rfl⟩ rfl rfl ?_
    exact k1 h0
  · refine x_iconst xc246_301 ?_
    refine x_goto xc246_302 ?_
    refine x_cV (as := [xV ((xs (i + 1).toNat).toInt), xV 1]) (rest := []) xc246_306 rfl xi23 xz0 ⟨rfl, rfl⟩ rfl rfl ?_
    exact k2 h0

theorem wl2_3_0 {Ln : Nat} {xs : Nat → Int32} {d : Nat} {Q : Option Value → pmS → Prop} {i : Int} {a : xA} {b : xB} (hLn : Ln ≤ 3072) (h0 : 0 ≤ i) (h6 : i + 6 ≤ (Ln : Int)) {z : Int} (h_z : xR z) (c0 : (xs (i + 2).toNat).toInt = 0)
    (k1 : ((xs (i + 2).toNat).toInt = 0) → pmCs (pmRo Ln xs) d 142 [.ref 87, xV ((xs (i + 1).toNat).toInt), xV 0] (xS a b) fun r σ' => pmWp (pmRo Ln xs) d 13 246 2 332 [some (.ref 1001), some (.ref 0), some (.ref 87), some (xV i)] (r.toList ++ []) σ' Q)
    (k2 : (¬ (xs (i + 2).toNat).toInt = 0) → pmCs (pmRo Ln xs) d 142 [.ref 87, xV ((xs (i + 1).toNat).toInt), xV 1] (xS a b) fun r σ' => pmWp (pmRo Ln xs) d 13 246 2 332 [some (.ref 1001), some (.ref 0), some (.ref 87), some (xV i)] (r.toList ++ []) σ' Q) :
    pmWp (pmRo Ln xs) d 13 246 2 309 [some (.ref 1001), some (.ref 0), some (.ref 87), some (xV i)] [xV z] (xS a b) Q := by
  refine x_pop xc246_309 rfl ?_
  refine x_aloadn xc246_310 rfl ?_
  refine x_aloadn xc246_311 rfl ?_
  refine x_iloadn xc246_312 rfl ?_
  refine x_iconst xc246_313 ?_
  refine x_iadd xc246_314 ?_
  refine x_sld xc246_315 (by omega) (by omega) (by omega) ?_
  refine x_aloadn xc246_316 rfl ?_
  refine x_iloadn xc246_317 rfl ?_
  refine x_iconst xc246_318 ?_
  refine x_iadd xc246_319 ?_
  refine x_sld xc246_320 (by omega) (by omega) (by omega) ?_
  refine x_ifeq xc246_321 (xRk (by have g0 := aB32 (xs (i + 2).toNat); omega)) (fun h0 => ?_) (fun h0 => ?_)
  · refine x_iconst xc246_328 ?_
    refine x_cV (as := [xV ((xs (i + 1).toNat).toInt), xV 0]) (rest := []) xc246_329 rfl xi142 xz87 ⟨rfl, rfl⟩ rfl rfl ?_
    exact k1 h0
  · refine x_iconst xc246_324 ?_
    refine x_goto xc246_325 ?_
    refine x_cV (as := [xV ((xs (i + 1).toNat).toInt), xV 1]) (rest := []) xc246_329 rfl xi142 xz87 ⟨rfl, rfl⟩ rfl rfl ?_
    exact k2 h0

theorem wl3_3_0 {Ln : Nat} {xs : Nat → Int32} {d : Nat} {Q : Option Value → pmS → Prop} {i : Int} {a : xA} {b : xB} (hLn : Ln ≤ 3072) (h0 : 0 ≤ i) (h6 : i + 6 ≤ (Ln : Int)) {z z' : Int} (h_z : xR z) (h_z' : xR z')
    (k1 : pmWp (pmRo Ln xs) d 13 246 2 1229 [some (.ref 1001), some (.ref 0), some (.ref 87), some (xV i)] [] (xS a b) Q) :
    pmWp (pmRo Ln xs) d 13 246 2 332 [some (.ref 1001), some (.ref 0), some (.ref 87), some (xV i)] [xV z'] (xS a b) Q := by
  refine x_pop xc246_332 rfl ?_
  refine x_goto xc246_333 ?_
  exact k1

theorem wl2_3_1 {Ln : Nat} {xs : Nat → Int32} {d : Nat} {Q : Option Value → pmS → Prop} {i : Int} {a : xA} {b : xB} (hLn : Ln ≤ 3072) (h0 : 0 ≤ i) (h6 : i + 6 ≤ (Ln : Int)) {z : Int} (h_z : xR z) (c0 : ¬ (xs (i + 2).toNat).toInt = 0)
    (k1 : ((xs (i + 2).toNat).toInt = 0) → pmCs (pmRo Ln xs) d 142 [.ref 87, xV ((xs (i + 1).toNat).toInt), xV 0] (xS a b) fun r σ' => pmWp (pmRo Ln xs) d 13 246 2 332 [some (.ref 1001), some (.ref 0), some (.ref 87), some (xV i)] (r.toList ++ []) σ' Q)
    (k2 : (¬ (xs (i + 2).toNat).toInt = 0) → pmCs (pmRo Ln xs) d 142 [.ref 87, xV ((xs (i + 1).toNat).toInt), xV 1] (xS a b) fun r σ' => pmWp (pmRo Ln xs) d 13 246 2 332 [some (.ref 1001), some (.ref 0), some (.ref 87), some (xV i)] (r.toList ++ []) σ' Q) :
    pmWp (pmRo Ln xs) d 13 246 2 309 [some (.ref 1001), some (.ref 0), some (.ref 87), some (xV i)] [xV z] (xS a b) Q := by
  refine x_pop xc246_309 rfl ?_
  refine x_aloadn xc246_310 rfl ?_
  refine x_aloadn xc246_311 rfl ?_
  refine x_iloadn xc246_312 rfl ?_
  refine x_iconst xc246_313 ?_
  refine x_iadd xc246_314 ?_
  refine x_sld xc246_315 (by omega) (by omega) (by omega) ?_
  refine x_aloadn xc246_316 rfl ?_
  refine x_iloadn xc246_317 rfl ?_
  refine x_iconst xc246_318 ?_
  refine x_iadd xc246_319 ?_
  refine x_sld xc246_320 (by omega) (by omega) (by omega) ?_
  refine x_ifeq xc246_321 (xRk (by have g0 := aB32 (xs (i + 2).toNat); omega)) (fun h0 => ?_) (fun h0 => ?_)
  · refine x_iconst xc246_328 ?_
    refine x_cV (as := [xV ((xs (i + 1).toNat).toInt), xV 0]) (rest := []) xc246_329 rfl xi142 xz87 ⟨rfl, rfl⟩ rfl rfl ?_
    exact k1 h0
  · refine x_iconst xc246_324 ?_
    refine x_goto xc246_325 ?_
    refine x_cV (as := [xV ((xs (i + 1).toNat).toInt), xV 1]) (rest := []) xc246_329 rfl xi142 xz87 ⟨rfl, rfl⟩ rfl rfl ?_
    exact k2 h0

theorem wl3_3_1 {Ln : Nat} {xs : Nat → Int32} {d : Nat} {Q : Option Value → pmS → Prop} {i : Int} {a : xA} {b : xB} (hLn : Ln ≤ 3072) (h0 : 0 ≤ i) (h6 : i + 6 ≤ (Ln : Int)) {z z' : Int} (h_z : xR z) (h_z' : xR z')
    (k1 : pmWp (pmRo Ln xs) d 13 246 2 1229 [some (.ref 1001), some (.ref 0), some (.ref 87), some (xV i)] [] (xS a b) Q) :
    pmWp (pmRo Ln xs) d 13 246 2 332 [some (.ref 1001), some (.ref 0), some (.ref 87), some (xV i)] [xV z'] (xS a b) Q := by
  refine x_pop xc246_332 rfl ?_
  refine x_goto xc246_333 ?_
  exact k1

def xHyp3 (Ln : Nat) (xs : Nat → Int32) (Inv : xA → xB → Prop) : Prop := ∀ v0 : Int, xR v0 → ∀ v1 : Int, (v1 = 0 ∨ v1 = 1) → ∀ a b, Inv a b → xStep (pmRo Ln xs) 59 23 [.ref 0, xV v0, xV v1] 142 [.ref 87, xV v0, xV v1] Inv (fun _ _ => True) a b
theorem xcase3 {Ln : Nat} {xs : Nat → Int32} {Q : Option Value → pmS → Prop} {Inv : xA → xB → Prop} {i : Int} {a : xA} {b : xB} (hLn : Ln ≤ 3072) (h0 : 0 ≤ i) (h6 : i + 6 ≤ (Ln : Int)) (hS : xHyp3 Ln xs Inv) (hI : Inv a b) (hN : ∀ a' b', Inv a' b' → pmWp (pmRo Ln xs) 59 13 246 2 1229 [some (.ref 1001), some (.ref 0), some (.ref 87), some (xV i)] [] (xS a' b') Q) : pmWp (pmRo Ln xs) 59 13 246 2 287 [some (.ref 1001), some (.ref 0), some (.ref 87), some (xV i)] [] (xS a b) Q := by
  refine wl1_3 hLn h0 h6 ?_ ?_
  · intro c0
    refine pmCs_mono (hS _ (aB32 _) _ (Or.inl rfl) a b hI) ?_
    rintro r σ1 ⟨z, a1, b1, rfl, hz, rfl, h2⟩
    refine wl2_3_0 hLn h0 h6 hz c0 ?_ ?_
    · intro _
      refine pmCs_mono h2 ?_
      rintro r' σ2 ⟨z', a2, b2, rfl, hz', rfl, hI2, hans⟩
      exact wl3_3_0 hLn h0 h6 hz hz' (hN a2 b2 hI2)
    · intro e0
      exfalso
      omega
  · intro c0
    refine pmCs_mono (hS _ (aB32 _) _ (Or.inr rfl) a b hI) ?_
    rintro r σ1 ⟨z, a1, b1, rfl, hz, rfl, h2⟩
    refine wl2_3_1 hLn h0 h6 hz c0 ?_ ?_
    · intro e0
      exfalso
      omega
    · intro _
      refine pmCs_mono h2 ?_
      rintro r' σ2 ⟨z', a2, b2, rfl, hz', rfl, hI2, hans⟩
      exact wl3_3_1 hLn h0 h6 hz hz' (hN a2 b2 hI2)

theorem wl1_4 {Ln : Nat} {xs : Nat → Int32} {d : Nat} {Q : Option Value → pmS → Prop} {i : Int} {a : xA} {b : xB} (hLn : Ln ≤ 3072) (h0 : 0 ≤ i) (h6 : i + 6 ≤ (Ln : Int))
    (k1 : ((xs (i + 2).toNat).toInt = 0) → pmCs (pmRo Ln xs) d 25 [.ref 0, xV ((xs (i + 1).toNat).toInt), xV 0, xV ((xs (i + 3).toNat).toInt), xV ((xs (i + 4).toNat).toInt)] (xS a b) fun r σ' => pmWp (pmRo Ln xs) d 13 246 2 368 [some (.ref 1001), some (.ref 0), some (.ref 87), some (xV i)] (r.toList ++ []) σ' Q)
    (k2 : (¬ (xs (i + 2).toNat).toInt = 0) → pmCs (pmRo Ln xs) d 25 [.ref 0, xV ((xs (i + 1).toNat).toInt), xV 1, xV ((xs (i + 3).toNat).toInt), xV ((xs (i + 4).toNat).toInt)] (xS a b) fun r σ' => pmWp (pmRo Ln xs) d 13 246 2 368 [some (.ref 1001), some (.ref 0), some (.ref 87), some (xV i)] (r.toList ++ []) σ' Q) :
    pmWp (pmRo Ln xs) d 13 246 2 336 [some (.ref 1001), some (.ref 0), some (.ref 87), some (xV i)] [] (xS a b) Q := by
  refine x_aloadn xc246_336 rfl ?_
  refine x_aloadn xc246_337 rfl ?_
  refine x_iloadn xc246_338 rfl ?_
  refine x_iconst xc246_339 ?_
  refine x_iadd xc246_340 ?_
  refine x_sld xc246_341 (by omega) (by omega) (by omega) ?_
  refine x_aloadn xc246_342 rfl ?_
  refine x_iloadn xc246_343 rfl ?_
  refine x_iconst xc246_344 ?_
  refine x_iadd xc246_345 ?_
  refine x_sld xc246_346 (by omega) (by omega) (by omega) ?_
  refine x_ifeq xc246_347 (xRk (by have g0 := aB32 (xs (i + 2).toNat); omega)) (fun h0 => ?_) (fun h0 => ?_)
  · refine x_iconst xc246_354 ?_
    refine x_aloadn xc246_355 rfl ?_
    refine x_iloadn xc246_356 rfl ?_
    refine x_iconst xc246_357 ?_
    refine x_iadd xc246_358 ?_
    refine x_sld xc246_359 (by omega) (by omega) (by omega) ?_
    refine x_aloadn xc246_360 rfl ?_
    refine x_iloadn xc246_361 rfl ?_
    refine x_iconst xc246_362 ?_
    refine x_iadd xc246_363 ?_
    refine x_sld xc246_364 (by omega) (by omega) (by omega) ?_
    refine x_cV (as := [xV ((xs (i + 1).toNat).toInt), xV 0, xV ((xs (i + 3).toNat).toInt), xV ((xs (i + 4).toNat).toInt)]) (rest := []) xc246_365 rfl xi25 xz0 ⟨rfl, rfl⟩ rfl rfl ?_
    exact k1 h0
  · refine x_iconst xc246_350 ?_
    refine x_goto xc246_351 ?_
    refine x_aloadn xc246_355 rfl ?_
    refine x_iloadn xc246_356 rfl ?_
    refine x_iconst xc246_357 ?_
    refine x_iadd xc246_358 ?_
    refine x_sld xc246_359 (by omega) (by omega) (by omega) ?_
    refine x_aloadn xc246_360 rfl ?_
    refine x_iloadn xc246_361 rfl ?_
    refine x_iconst xc246_362 ?_
    refine x_iadd xc246_363 ?_
    refine x_sld xc246_364 (by omega) (by omega) (by omega) ?_
    refine x_cV (as := [xV ((xs (i + 1).toNat).toInt), xV 1, xV ((xs (i + 3).toNat).toInt), xV ((xs (i + 4).toNat).toInt)]) (rest := []) xc246_365 rfl xi25 xz0 ⟨rfl, rfl⟩ rfl rfl ?_
    exact k2 h0

theorem wl2_4_0 {Ln : Nat} {xs : Nat → Int32} {d : Nat} {Q : Option Value → pmS → Prop} {i : Int} {a : xA} {b : xB} (hLn : Ln ≤ 3072) (h0 : 0 ≤ i) (h6 : i + 6 ≤ (Ln : Int)) {z : Int} (h_z : xR z) (c0 : (xs (i + 2).toNat).toInt = 0)
    (k1 : ((xs (i + 2).toNat).toInt = 0) → pmCs (pmRo Ln xs) d 145 [.ref 87, xV ((xs (i + 1).toNat).toInt), xV 0, xV ((xs (i + 3).toNat).toInt), xV ((xs (i + 4).toNat).toInt)] (xS a b) fun r σ' => pmWp (pmRo Ln xs) d 13 246 2 401 [some (.ref 1001), some (.ref 0), some (.ref 87), some (xV i)] (r.toList ++ []) σ' Q)
    (k2 : (¬ (xs (i + 2).toNat).toInt = 0) → pmCs (pmRo Ln xs) d 145 [.ref 87, xV ((xs (i + 1).toNat).toInt), xV 1, xV ((xs (i + 3).toNat).toInt), xV ((xs (i + 4).toNat).toInt)] (xS a b) fun r σ' => pmWp (pmRo Ln xs) d 13 246 2 401 [some (.ref 1001), some (.ref 0), some (.ref 87), some (xV i)] (r.toList ++ []) σ' Q) :
    pmWp (pmRo Ln xs) d 13 246 2 368 [some (.ref 1001), some (.ref 0), some (.ref 87), some (xV i)] [xV z] (xS a b) Q := by
  refine x_pop xc246_368 rfl ?_
  refine x_aloadn xc246_369 rfl ?_
  refine x_aloadn xc246_370 rfl ?_
  refine x_iloadn xc246_371 rfl ?_
  refine x_iconst xc246_372 ?_
  refine x_iadd xc246_373 ?_
  refine x_sld xc246_374 (by omega) (by omega) (by omega) ?_
  refine x_aloadn xc246_375 rfl ?_
  refine x_iloadn xc246_376 rfl ?_
  refine x_iconst xc246_377 ?_
  refine x_iadd xc246_378 ?_
  refine x_sld xc246_379 (by omega) (by omega) (by omega) ?_
  refine x_ifeq xc246_380 (xRk (by have g0 := aB32 (xs (i + 2).toNat); omega)) (fun h0 => ?_) (fun h0 => ?_)
  · refine x_iconst xc246_387 ?_
    refine x_aloadn xc246_388 rfl ?_
    refine x_iloadn xc246_389 rfl ?_
    refine x_iconst xc246_390 ?_
    refine x_iadd xc246_391 ?_
    refine x_sld xc246_392 (by omega) (by omega) (by omega) ?_
    refine x_aloadn xc246_393 rfl ?_
    refine x_iloadn xc246_394 rfl ?_
    refine x_iconst xc246_395 ?_
    refine x_iadd xc246_396 ?_
    refine x_sld xc246_397 (by omega) (by omega) (by omega) ?_
    refine x_cV (as := [xV ((xs (i + 1).toNat).toInt), xV 0, xV ((xs (i + 3).toNat).toInt), xV ((xs (i + 4).toNat).toInt)]) (rest := []) xc246_398 rfl xi145 xz87 ⟨rfl, rfl⟩ rfl rfl ?_
    exact k1 h0
  · refine x_iconst xc246_383 ?_
    refine x_goto xc246_384 ?_
    refine x_aloadn xc246_388 rfl ?_
    refine x_iloadn xc246_389 rfl ?_
    refine x_iconst xc246_390 ?_
    refine x_iadd xc246_391 ?_
    refine x_sld xc246_392 (by omega) (by omega) (by omega) ?_
    refine x_aloadn xc246_393 rfl ?_
    refine x_iloadn xc246_394 rfl ?_
    refine x_iconst xc246_395 ?_
    refine x_iadd xc246_396 ?_
    refine x_sld xc246_397 (by omega) (by omega) (by omega) ?_
    refine x_cV (as := [xV ((xs (i + 1).toNat).toInt), xV 1, xV ((xs (i + 3).toNat).toInt), xV ((xs (i + 4).toNat).toInt)]) (rest := []) xc246_398 rfl xi145 xz87 ⟨rfl, rfl⟩ rfl rfl ?_
    exact k2 h0

theorem wl3_4_0 {Ln : Nat} {xs : Nat → Int32} {d : Nat} {Q : Option Value → pmS → Prop} {i : Int} {a : xA} {b : xB} (hLn : Ln ≤ 3072) (h0 : 0 ≤ i) (h6 : i + 6 ≤ (Ln : Int)) {z z' : Int} (h_z : xR z) (h_z' : xR z')
    (k1 : pmWp (pmRo Ln xs) d 13 246 2 1229 [some (.ref 1001), some (.ref 0), some (.ref 87), some (xV i)] [] (xS a b) Q) :
    pmWp (pmRo Ln xs) d 13 246 2 401 [some (.ref 1001), some (.ref 0), some (.ref 87), some (xV i)] [xV z'] (xS a b) Q := by
  refine x_pop xc246_401 rfl ?_
  refine x_goto xc246_402 ?_
  exact k1

theorem wl2_4_1 {Ln : Nat} {xs : Nat → Int32} {d : Nat} {Q : Option Value → pmS → Prop} {i : Int} {a : xA} {b : xB} (hLn : Ln ≤ 3072) (h0 : 0 ≤ i) (h6 : i + 6 ≤ (Ln : Int)) {z : Int} (h_z : xR z) (c0 : ¬ (xs (i + 2).toNat).toInt = 0)
    (k1 : ((xs (i + 2).toNat).toInt = 0) → pmCs (pmRo Ln xs) d 145 [.ref 87, xV ((xs (i + 1).toNat).toInt), xV 0, xV ((xs (i + 3).toNat).toInt), xV ((xs (i + 4).toNat).toInt)] (xS a b) fun r σ' => pmWp (pmRo Ln xs) d 13 246 2 401 [some (.ref 1001), some (.ref 0), some (.ref 87), some (xV i)] (r.toList ++ []) σ' Q)
    (k2 : (¬ (xs (i + 2).toNat).toInt = 0) → pmCs (pmRo Ln xs) d 145 [.ref 87, xV ((xs (i + 1).toNat).toInt), xV 1, xV ((xs (i + 3).toNat).toInt), xV ((xs (i + 4).toNat).toInt)] (xS a b) fun r σ' => pmWp (pmRo Ln xs) d 13 246 2 401 [some (.ref 1001), some (.ref 0), some (.ref 87), some (xV i)] (r.toList ++ []) σ' Q) :
    pmWp (pmRo Ln xs) d 13 246 2 368 [some (.ref 1001), some (.ref 0), some (.ref 87), some (xV i)] [xV z] (xS a b) Q := by
  refine x_pop xc246_368 rfl ?_
  refine x_aloadn xc246_369 rfl ?_
  refine x_aloadn xc246_370 rfl ?_
  refine x_iloadn xc246_371 rfl ?_
  refine x_iconst xc246_372 ?_
  refine x_iadd xc246_373 ?_
  refine x_sld xc246_374 (by omega) (by omega) (by omega) ?_
  refine x_aloadn xc246_375 rfl ?_
  refine x_iloadn xc246_376 rfl ?_
  refine x_iconst xc246_377 ?_
  refine x_iadd xc246_378 ?_
  refine x_sld xc246_379 (by omega) (by omega) (by omega) ?_
  refine x_ifeq xc246_380 (xRk (by have g0 := aB32 (xs (i + 2).toNat); omega)) (fun h0 => ?_) (fun h0 => ?_)
  · refine x_iconst xc246_387 ?_
    refine x_aloadn xc246_388 rfl ?_
    refine x_iloadn xc246_389 rfl ?_
    refine x_iconst xc246_390 ?_
    refine x_iadd xc246_391 ?_
    refine x_sld xc246_392 (by omega) (by omega) (by omega) ?_
    refine x_aloadn xc246_393 rfl ?_
    refine x_iloadn xc246_394 rfl ?_
    refine x_iconst xc246_395 ?_
    refine x_iadd xc246_396 ?_
    refine x_sld xc246_397 (by omega) (by omega) (by omega) ?_
    refine x_cV (as := [xV ((xs (i + 1).toNat).toInt), xV 0, xV ((xs (i + 3).toNat).toInt), xV ((xs (i + 4).toNat).toInt)]) (rest := []) xc246_398 rfl xi145 xz87 ⟨rfl, rfl⟩ rfl rfl ?_
    exact k1 h0
  · refine x_iconst xc246_383 ?_
    refine x_goto xc246_384 ?_
    refine x_aloadn xc246_388 rfl ?_
    refine x_iloadn xc246_389 rfl ?_
    refine x_iconst xc246_390 ?_
    refine x_iadd xc246_391 ?_
    refine x_sld xc246_392 (by omega) (by omega) (by omega) ?_
    refine x_aloadn xc246_393 rfl ?_
    refine x_iloadn xc246_394 rfl ?_
    refine x_iconst xc246_395 ?_
    refine x_iadd xc246_396 ?_
    refine x_sld xc246_397 (by omega) (by omega) (by omega) ?_
    refine x_cV (as := [xV ((xs (i + 1).toNat).toInt), xV 1, xV ((xs (i + 3).toNat).toInt), xV ((xs (i + 4).toNat).toInt)]) (rest := []) xc246_398 rfl xi145 xz87 ⟨rfl, rfl⟩ rfl rfl ?_
    exact k2 h0

theorem wl3_4_1 {Ln : Nat} {xs : Nat → Int32} {d : Nat} {Q : Option Value → pmS → Prop} {i : Int} {a : xA} {b : xB} (hLn : Ln ≤ 3072) (h0 : 0 ≤ i) (h6 : i + 6 ≤ (Ln : Int)) {z z' : Int} (h_z : xR z) (h_z' : xR z')
    (k1 : pmWp (pmRo Ln xs) d 13 246 2 1229 [some (.ref 1001), some (.ref 0), some (.ref 87), some (xV i)] [] (xS a b) Q) :
    pmWp (pmRo Ln xs) d 13 246 2 401 [some (.ref 1001), some (.ref 0), some (.ref 87), some (xV i)] [xV z'] (xS a b) Q := by
  refine x_pop xc246_401 rfl ?_
  refine x_goto xc246_402 ?_
  exact k1

def xHyp4 (Ln : Nat) (xs : Nat → Int32) (Inv : xA → xB → Prop) : Prop := ∀ v0 : Int, xR v0 → ∀ v1 : Int, (v1 = 0 ∨ v1 = 1) → ∀ v2 : Int, xR v2 → ∀ v3 : Int, xR v3 → ∀ a b, Inv a b → xStep (pmRo Ln xs) 59 25 [.ref 0, xV v0, xV v1, xV v2, xV v3] 145 [.ref 87, xV v0, xV v1, xV v2, xV v3] Inv (fun _ _ => True) a b
theorem xcase4 {Ln : Nat} {xs : Nat → Int32} {Q : Option Value → pmS → Prop} {Inv : xA → xB → Prop} {i : Int} {a : xA} {b : xB} (hLn : Ln ≤ 3072) (h0 : 0 ≤ i) (h6 : i + 6 ≤ (Ln : Int)) (hS : xHyp4 Ln xs Inv) (hI : Inv a b) (hN : ∀ a' b', Inv a' b' → pmWp (pmRo Ln xs) 59 13 246 2 1229 [some (.ref 1001), some (.ref 0), some (.ref 87), some (xV i)] [] (xS a' b') Q) : pmWp (pmRo Ln xs) 59 13 246 2 336 [some (.ref 1001), some (.ref 0), some (.ref 87), some (xV i)] [] (xS a b) Q := by
  refine wl1_4 hLn h0 h6 ?_ ?_
  · intro c0
    refine pmCs_mono (hS _ (aB32 _) _ (Or.inl rfl) _ (aB32 _) _ (aB32 _) a b hI) ?_
    rintro r σ1 ⟨z, a1, b1, rfl, hz, rfl, h2⟩
    refine wl2_4_0 hLn h0 h6 hz c0 ?_ ?_
    · intro _
      refine pmCs_mono h2 ?_
      rintro r' σ2 ⟨z', a2, b2, rfl, hz', rfl, hI2, hans⟩
      exact wl3_4_0 hLn h0 h6 hz hz' (hN a2 b2 hI2)
    · intro e0
      exfalso
      omega
  · intro c0
    refine pmCs_mono (hS _ (aB32 _) _ (Or.inr rfl) _ (aB32 _) _ (aB32 _) a b hI) ?_
    rintro r σ1 ⟨z, a1, b1, rfl, hz, rfl, h2⟩
    refine wl2_4_1 hLn h0 h6 hz c0 ?_ ?_
    · intro e0
      exfalso
      omega
    · intro _
      refine pmCs_mono h2 ?_
      rintro r' σ2 ⟨z', a2, b2, rfl, hz', rfl, hI2, hans⟩
      exact wl3_4_1 hLn h0 h6 hz hz' (hN a2 b2 hI2)

theorem wl1_5 {Ln : Nat} {xs : Nat → Int32} {d : Nat} {Q : Option Value → pmS → Prop} {i : Int} {a : xA} {b : xB} (hLn : Ln ≤ 3072) (h0 : 0 ≤ i) (h6 : i + 6 ≤ (Ln : Int))
    (k1 : pmCs (pmRo Ln xs) d 28 [.ref 0, xV ((xs (i + 1).toNat).toInt), xV ((xs (i + 2).toNat).toInt)] (xS a b) fun r σ' => pmWp (pmRo Ln xs) d 13 246 2 419 [some (.ref 1001), some (.ref 0), some (.ref 87), some (xV i)] (r.toList ++ []) σ' Q) :
    pmWp (pmRo Ln xs) d 13 246 2 405 [some (.ref 1001), some (.ref 0), some (.ref 87), some (xV i)] [] (xS a b) Q := by
  refine x_aloadn xc246_405 rfl ?_
  refine x_aloadn xc246_406 rfl ?_
  refine x_iloadn xc246_407 rfl ?_
  refine x_iconst xc246_408 ?_
  refine x_iadd xc246_409 ?_
  refine x_sld xc246_410 (by omega) (by omega) (by omega) ?_
  refine x_aloadn xc246_411 rfl ?_
  refine x_iloadn xc246_412 rfl ?_
  refine x_iconst xc246_413 ?_
  refine x_iadd xc246_414 ?_
  refine x_sld xc246_415 (by omega) (by omega) (by omega) ?_
  refine x_cV (as := [xV ((xs (i + 1).toNat).toInt), xV ((xs (i + 2).toNat).toInt)]) (rest := []) xc246_416 rfl xi28 xz0 ⟨rfl, rfl⟩ rfl rfl ?_
  exact k1

theorem wl2_5_0 {Ln : Nat} {xs : Nat → Int32} {d : Nat} {Q : Option Value → pmS → Prop} {i : Int} {a : xA} {b : xB} (hLn : Ln ≤ 3072) (h0 : 0 ≤ i) (h6 : i + 6 ≤ (Ln : Int)) {z : Int} (h_z : xR z)
    (k1 : pmCs (pmRo Ln xs) d 150 [.ref 87, xV ((xs (i + 1).toNat).toInt), xV ((xs (i + 2).toNat).toInt)] (xS a b) fun r σ' => pmWp (pmRo Ln xs) d 13 246 2 434 [some (.ref 1001), some (.ref 0), some (.ref 87), some (xV i)] (r.toList ++ []) σ' Q) :
    pmWp (pmRo Ln xs) d 13 246 2 419 [some (.ref 1001), some (.ref 0), some (.ref 87), some (xV i)] [xV z] (xS a b) Q := by
  refine x_pop xc246_419 rfl ?_
  refine x_aloadn xc246_420 rfl ?_
  refine x_aloadn xc246_421 rfl ?_
  refine x_iloadn xc246_422 rfl ?_
  refine x_iconst xc246_423 ?_
  refine x_iadd xc246_424 ?_
  refine x_sld xc246_425 (by omega) (by omega) (by omega) ?_
  refine x_aloadn xc246_426 rfl ?_
  refine x_iloadn xc246_427 rfl ?_
  refine x_iconst xc246_428 ?_
  refine x_iadd xc246_429 ?_
  refine x_sld xc246_430 (by omega) (by omega) (by omega) ?_
  refine x_cV (as := [xV ((xs (i + 1).toNat).toInt), xV ((xs (i + 2).toNat).toInt)]) (rest := []) xc246_431 rfl xi150 xz87 ⟨rfl, rfl⟩ rfl rfl ?_
  exact k1

theorem wl3_5_0 {Ln : Nat} {xs : Nat → Int32} {d : Nat} {Q : Option Value → pmS → Prop} {i : Int} {a : xA} {b : xB} (hLn : Ln ≤ 3072) (h0 : 0 ≤ i) (h6 : i + 6 ≤ (Ln : Int)) {z z' : Int} (h_z : xR z) (h_z' : xR z')
    (k1 : pmWp (pmRo Ln xs) d 13 246 2 1229 [some (.ref 1001), some (.ref 0), some (.ref 87), some (xV i)] [] (xS a b) Q) :
    pmWp (pmRo Ln xs) d 13 246 2 434 [some (.ref 1001), some (.ref 0), some (.ref 87), some (xV i)] [xV z'] (xS a b) Q := by
  refine x_pop xc246_434 rfl ?_
  refine x_goto xc246_435 ?_
  exact k1

def xHyp5 (Ln : Nat) (xs : Nat → Int32) (Inv : xA → xB → Prop) : Prop := ∀ v0 : Int, xR v0 → ∀ v1 : Int, xR v1 → ∀ a b, Inv a b → xStep (pmRo Ln xs) 59 28 [.ref 0, xV v0, xV v1] 150 [.ref 87, xV v0, xV v1] Inv (fun _ _ => True) a b
theorem xcase5 {Ln : Nat} {xs : Nat → Int32} {Q : Option Value → pmS → Prop} {Inv : xA → xB → Prop} {i : Int} {a : xA} {b : xB} (hLn : Ln ≤ 3072) (h0 : 0 ≤ i) (h6 : i + 6 ≤ (Ln : Int)) (hS : xHyp5 Ln xs Inv) (hI : Inv a b) (hN : ∀ a' b', Inv a' b' → pmWp (pmRo Ln xs) 59 13 246 2 1229 [some (.ref 1001), some (.ref 0), some (.ref 87), some (xV i)] [] (xS a' b') Q) : pmWp (pmRo Ln xs) 59 13 246 2 405 [some (.ref 1001), some (.ref 0), some (.ref 87), some (xV i)] [] (xS a b) Q := by
  refine wl1_5 hLn h0 h6 ?_
  · refine pmCs_mono (hS _ (aB32 _) _ (aB32 _) a b hI) ?_
    rintro r σ1 ⟨z, a1, b1, rfl, hz, rfl, h2⟩
    refine wl2_5_0 hLn h0 h6 hz ?_
    · refine pmCs_mono h2 ?_
      rintro r' σ2 ⟨z', a2, b2, rfl, hz', rfl, hI2, hans⟩
      exact wl3_5_0 hLn h0 h6 hz hz' (hN a2 b2 hI2)

theorem wl1_6 {Ln : Nat} {xs : Nat → Int32} {d : Nat} {Q : Option Value → pmS → Prop} {i : Int} {a : xA} {b : xB} (hLn : Ln ≤ 3072) (h0 : 0 ≤ i) (h6 : i + 6 ≤ (Ln : Int))
    (k1 : pmCs (pmRo Ln xs) d 29 [.ref 0, xV ((xs (i + 1).toNat).toInt), xV ((xs (i + 2).toNat).toInt), xV ((xs (i + 3).toNat).toInt), xV ((xs (i + 4).toNat).toInt), xV ((xs (i + 5).toNat).toInt)] (xS a b) fun r σ' => pmWp (pmRo Ln xs) d 13 246 2 467 [some (.ref 1001), some (.ref 0), some (.ref 87), some (xV i)] (r.toList ++ []) σ' Q) :
    pmWp (pmRo Ln xs) d 13 246 2 438 [some (.ref 1001), some (.ref 0), some (.ref 87), some (xV i)] [] (xS a b) Q := by
  refine x_aloadn xc246_438 rfl ?_
  refine x_aloadn xc246_439 rfl ?_
  refine x_iloadn xc246_440 rfl ?_
  refine x_iconst xc246_441 ?_
  refine x_iadd xc246_442 ?_
  refine x_sld xc246_443 (by omega) (by omega) (by omega) ?_
  refine x_aloadn xc246_444 rfl ?_
  refine x_iloadn xc246_445 rfl ?_
  refine x_iconst xc246_446 ?_
  refine x_iadd xc246_447 ?_
  refine x_sld xc246_448 (by omega) (by omega) (by omega) ?_
  refine x_aloadn xc246_449 rfl ?_
  refine x_iloadn xc246_450 rfl ?_
  refine x_iconst xc246_451 ?_
  refine x_iadd xc246_452 ?_
  refine x_sld xc246_453 (by omega) (by omega) (by omega) ?_
  refine x_aloadn xc246_454 rfl ?_
  refine x_iloadn xc246_455 rfl ?_
  refine x_iconst xc246_456 ?_
  refine x_iadd xc246_457 ?_
  refine x_sld xc246_458 (by omega) (by omega) (by omega) ?_
  refine x_aloadn xc246_459 rfl ?_
  refine x_iloadn xc246_460 rfl ?_
  refine x_iconst xc246_461 ?_
  refine x_iadd xc246_462 ?_
  refine x_sld xc246_463 (by omega) (by omega) (by omega) ?_
  refine x_cV (as := [xV ((xs (i + 1).toNat).toInt), xV ((xs (i + 2).toNat).toInt), xV ((xs (i + 3).toNat).toInt), xV ((xs (i + 4).toNat).toInt), xV ((xs (i + 5).toNat).toInt)]) (rest := []) xc246_464 rfl xi29 xz0 ⟨rfl, rfl⟩ rfl rfl ?_
  exact k1

theorem wl2_6_0 {Ln : Nat} {xs : Nat → Int32} {d : Nat} {Q : Option Value → pmS → Prop} {i : Int} {a : xA} {b : xB} (hLn : Ln ≤ 3072) (h0 : 0 ≤ i) (h6 : i + 6 ≤ (Ln : Int)) {z : Int} (h_z : xR z)
    (k1 : pmCs (pmRo Ln xs) d 151 [.ref 87, xV ((xs (i + 1).toNat).toInt), xV ((xs (i + 2).toNat).toInt), xV ((xs (i + 3).toNat).toInt), xV ((xs (i + 4).toNat).toInt), xV ((xs (i + 5).toNat).toInt)] (xS a b) fun r σ' => pmWp (pmRo Ln xs) d 13 246 2 496 [some (.ref 1001), some (.ref 0), some (.ref 87), some (xV i)] (r.toList ++ [xV z]) σ' Q) :
    pmWp (pmRo Ln xs) d 13 246 2 467 [some (.ref 1001), some (.ref 0), some (.ref 87), some (xV i)] [xV z] (xS a b) Q := by
  refine x_aloadn xc246_467 rfl ?_
  refine x_aloadn xc246_468 rfl ?_
  refine x_iloadn xc246_469 rfl ?_
  refine x_iconst xc246_470 ?_
  refine x_iadd xc246_471 ?_
  refine x_sld xc246_472 (by omega) (by omega) (by omega) ?_
  refine x_aloadn xc246_473 rfl ?_
  refine x_iloadn xc246_474 rfl ?_
  refine x_iconst xc246_475 ?_
  refine x_iadd xc246_476 ?_
  refine x_sld xc246_477 (by omega) (by omega) (by omega) ?_
  refine x_aloadn xc246_478 rfl ?_
  refine x_iloadn xc246_479 rfl ?_
  refine x_iconst xc246_480 ?_
  refine x_iadd xc246_481 ?_
  refine x_sld xc246_482 (by omega) (by omega) (by omega) ?_
  refine x_aloadn xc246_483 rfl ?_
  refine x_iloadn xc246_484 rfl ?_
  refine x_iconst xc246_485 ?_
  refine x_iadd xc246_486 ?_
  refine x_sld xc246_487 (by omega) (by omega) (by omega) ?_
  refine x_aloadn xc246_488 rfl ?_
  refine x_iloadn xc246_489 rfl ?_
  refine x_iconst xc246_490 ?_
  refine x_iadd xc246_491 ?_
  refine x_sld xc246_492 (by omega) (by omega) (by omega) ?_
  refine x_cV (as := [xV ((xs (i + 1).toNat).toInt), xV ((xs (i + 2).toNat).toInt), xV ((xs (i + 3).toNat).toInt), xV ((xs (i + 4).toNat).toInt), xV ((xs (i + 5).toNat).toInt)]) (rest := [xV z]) xc246_493 rfl xi151 xz87 ⟨rfl, rfl⟩ rfl rfl ?_
  exact k1

theorem wl3_6_0 {Ln : Nat} {xs : Nat → Int32} {d : Nat} {Q : Option Value → pmS → Prop} {i : Int} {a : xA} {b : xB} (hLn : Ln ≤ 3072) (h0 : 0 ≤ i) (h6 : i + 6 ≤ (Ln : Int)) {z z' : Int} (h_z : xR z) (h_z' : xR z')
    (k1 : (z = z') → pmWp (pmRo Ln xs) d 13 246 2 1229 [some (.ref 1001), some (.ref 0), some (.ref 87), some (xV i)] [] (xS a b) Q)
    (k2 : (¬ z = z') → Q (some (xV 0)) (xS a b)) :
    pmWp (pmRo Ln xs) d 13 246 2 496 [some (.ref 1001), some (.ref 0), some (.ref 87), some (xV i)] [xV z', xV z] (xS a b) Q := by
  refine x_iceq xc246_496 (xRk (by have g0 := xRb h_z; omega)) (xRk (by have g0 := xRb h_z'; omega)) (fun h0 => ?_) (fun h0 => ?_)
  · exact k1 h0
  · refine x_iconst xc246_499 ?_
    refine x_iret xc246_500 (Or.inr ⟨rfl, (by omega)⟩) ?_
    exact k2 h0

def xHyp6 (Ln : Nat) (xs : Nat → Int32) (Inv : xA → xB → Prop) : Prop := ∀ v0 : Int, xR v0 → ∀ v1 : Int, xR v1 → ∀ v2 : Int, xR v2 → ∀ v3 : Int, xR v3 → ∀ v4 : Int, xR v4 → ∀ a b, Inv a b → xStep (pmRo Ln xs) 59 29 [.ref 0, xV v0, xV v1, xV v2, xV v3, xV v4] 151 [.ref 87, xV v0, xV v1, xV v2, xV v3, xV v4] Inv (fun z z' => z = z') a b
theorem xcase6 {Ln : Nat} {xs : Nat → Int32} {Q : Option Value → pmS → Prop} {Inv : xA → xB → Prop} {i : Int} {a : xA} {b : xB} (hLn : Ln ≤ 3072) (h0 : 0 ≤ i) (h6 : i + 6 ≤ (Ln : Int)) (hS : xHyp6 Ln xs Inv) (hI : Inv a b) (hN : ∀ a' b', Inv a' b' → pmWp (pmRo Ln xs) 59 13 246 2 1229 [some (.ref 1001), some (.ref 0), some (.ref 87), some (xV i)] [] (xS a' b') Q) : pmWp (pmRo Ln xs) 59 13 246 2 438 [some (.ref 1001), some (.ref 0), some (.ref 87), some (xV i)] [] (xS a b) Q := by
  refine wl1_6 hLn h0 h6 ?_
  · refine pmCs_mono (hS _ (aB32 _) _ (aB32 _) _ (aB32 _) _ (aB32 _) _ (aB32 _) a b hI) ?_
    rintro r σ1 ⟨z, a1, b1, rfl, hz, rfl, h2⟩
    refine wl2_6_0 hLn h0 h6 hz ?_
    · refine pmCs_mono h2 ?_
      rintro r' σ2 ⟨z', a2, b2, rfl, hz', rfl, hI2, hans⟩
      exact wl3_6_0 hLn h0 h6 hz hz' (fun _ => hN a2 b2 hI2) (fun hne => absurd hans (by first | exact hne | (intro e; exact hne e)))

theorem wl1_7 {Ln : Nat} {xs : Nat → Int32} {d : Nat} {Q : Option Value → pmS → Prop} {i : Int} {a : xA} {b : xB} (hLn : Ln ≤ 3072) (h0 : 0 ≤ i) (h6 : i + 6 ≤ (Ln : Int))
    (k1 : pmCs (pmRo Ln xs) d 31 [.ref 0, xV ((xs (i + 1).toNat).toInt), xV ((xs (i + 2).toNat).toInt), xV ((xs (i + 3).toNat).toInt)] (xS a b) fun r σ' => pmWp (pmRo Ln xs) d 13 246 2 520 [some (.ref 1001), some (.ref 0), some (.ref 87), some (xV i)] (r.toList ++ []) σ' Q) :
    pmWp (pmRo Ln xs) d 13 246 2 501 [some (.ref 1001), some (.ref 0), some (.ref 87), some (xV i)] [] (xS a b) Q := by
  refine x_aloadn xc246_501 rfl ?_
  refine x_aloadn xc246_502 rfl ?_
  refine x_iloadn xc246_503 rfl ?_
  refine x_iconst xc246_504 ?_
  refine x_iadd xc246_505 ?_
  refine x_sld xc246_506 (by omega) (by omega) (by omega) ?_
  refine x_aloadn xc246_507 rfl ?_
  refine x_iloadn xc246_508 rfl ?_
  refine x_iconst xc246_509 ?_
  refine x_iadd xc246_510 ?_
  refine x_sld xc246_511 (by omega) (by omega) (by omega) ?_
  refine x_aloadn xc246_512 rfl ?_
  refine x_iloadn xc246_513 rfl ?_
  refine x_iconst xc246_514 ?_
  refine x_iadd xc246_515 ?_
  refine x_sld xc246_516 (by omega) (by omega) (by omega) ?_
  refine x_cV (as := [xV ((xs (i + 1).toNat).toInt), xV ((xs (i + 2).toNat).toInt), xV ((xs (i + 3).toNat).toInt)]) (rest := []) xc246_517 rfl xi31 xz0 ⟨rfl, rfl⟩ rfl rfl ?_
  exact k1

theorem wl2_7_0 {Ln : Nat} {xs : Nat → Int32} {d : Nat} {Q : Option Value → pmS → Prop} {i : Int} {a : xA} {b : xB} (hLn : Ln ≤ 3072) (h0 : 0 ≤ i) (h6 : i + 6 ≤ (Ln : Int)) {z : Int} (h_z : xR z)
    (k1 : pmCs (pmRo Ln xs) d 153 [.ref 87, xV ((xs (i + 1).toNat).toInt), xV ((xs (i + 2).toNat).toInt), xV ((xs (i + 3).toNat).toInt)] (xS a b) fun r σ' => pmWp (pmRo Ln xs) d 13 246 2 540 [some (.ref 1001), some (.ref 0), some (.ref 87), some (xV i)] (r.toList ++ []) σ' Q) :
    pmWp (pmRo Ln xs) d 13 246 2 520 [some (.ref 1001), some (.ref 0), some (.ref 87), some (xV i)] [xV z] (xS a b) Q := by
  refine x_pop xc246_520 rfl ?_
  refine x_aloadn xc246_521 rfl ?_
  refine x_aloadn xc246_522 rfl ?_
  refine x_iloadn xc246_523 rfl ?_
  refine x_iconst xc246_524 ?_
  refine x_iadd xc246_525 ?_
  refine x_sld xc246_526 (by omega) (by omega) (by omega) ?_
  refine x_aloadn xc246_527 rfl ?_
  refine x_iloadn xc246_528 rfl ?_
  refine x_iconst xc246_529 ?_
  refine x_iadd xc246_530 ?_
  refine x_sld xc246_531 (by omega) (by omega) (by omega) ?_
  refine x_aloadn xc246_532 rfl ?_
  refine x_iloadn xc246_533 rfl ?_
  refine x_iconst xc246_534 ?_
  refine x_iadd xc246_535 ?_
  refine x_sld xc246_536 (by omega) (by omega) (by omega) ?_
  refine x_cV (as := [xV ((xs (i + 1).toNat).toInt), xV ((xs (i + 2).toNat).toInt), xV ((xs (i + 3).toNat).toInt)]) (rest := []) xc246_537 rfl xi153 xz87 ⟨rfl, rfl⟩ rfl rfl ?_
  exact k1

theorem wl3_7_0 {Ln : Nat} {xs : Nat → Int32} {d : Nat} {Q : Option Value → pmS → Prop} {i : Int} {a : xA} {b : xB} (hLn : Ln ≤ 3072) (h0 : 0 ≤ i) (h6 : i + 6 ≤ (Ln : Int)) {z z' : Int} (h_z : xR z) (h_z' : xR z')
    (k1 : pmWp (pmRo Ln xs) d 13 246 2 1229 [some (.ref 1001), some (.ref 0), some (.ref 87), some (xV i)] [] (xS a b) Q) :
    pmWp (pmRo Ln xs) d 13 246 2 540 [some (.ref 1001), some (.ref 0), some (.ref 87), some (xV i)] [xV z'] (xS a b) Q := by
  refine x_pop xc246_540 rfl ?_
  refine x_goto xc246_541 ?_
  exact k1

def xHyp7 (Ln : Nat) (xs : Nat → Int32) (Inv : xA → xB → Prop) : Prop := ∀ v0 : Int, xR v0 → ∀ v1 : Int, xR v1 → ∀ v2 : Int, xR v2 → ∀ a b, Inv a b → xStep (pmRo Ln xs) 59 31 [.ref 0, xV v0, xV v1, xV v2] 153 [.ref 87, xV v0, xV v1, xV v2] Inv (fun _ _ => True) a b
theorem xcase7 {Ln : Nat} {xs : Nat → Int32} {Q : Option Value → pmS → Prop} {Inv : xA → xB → Prop} {i : Int} {a : xA} {b : xB} (hLn : Ln ≤ 3072) (h0 : 0 ≤ i) (h6 : i + 6 ≤ (Ln : Int)) (hS : xHyp7 Ln xs Inv) (hI : Inv a b) (hN : ∀ a' b', Inv a' b' → pmWp (pmRo Ln xs) 59 13 246 2 1229 [some (.ref 1001), some (.ref 0), some (.ref 87), some (xV i)] [] (xS a' b') Q) : pmWp (pmRo Ln xs) 59 13 246 2 501 [some (.ref 1001), some (.ref 0), some (.ref 87), some (xV i)] [] (xS a b) Q := by
  refine wl1_7 hLn h0 h6 ?_
  · refine pmCs_mono (hS _ (aB32 _) _ (aB32 _) _ (aB32 _) a b hI) ?_
    rintro r σ1 ⟨z, a1, b1, rfl, hz, rfl, h2⟩
    refine wl2_7_0 hLn h0 h6 hz ?_
    · refine pmCs_mono h2 ?_
      rintro r' σ2 ⟨z', a2, b2, rfl, hz', rfl, hI2, hans⟩
      exact wl3_7_0 hLn h0 h6 hz hz' (hN a2 b2 hI2)

theorem wl1_8 {Ln : Nat} {xs : Nat → Int32} {d : Nat} {Q : Option Value → pmS → Prop} {i : Int} {a : xA} {b : xB} (hLn : Ln ≤ 3072) (h0 : 0 ≤ i) (h6 : i + 6 ≤ (Ln : Int))
    (k1 : pmCs (pmRo Ln xs) d 47 [.ref 0, xV ((xs (i + 1).toNat).toInt)] (xS a b) fun r σ' => pmWp (pmRo Ln xs) d 13 246 2 553 [some (.ref 1001), some (.ref 0), some (.ref 87), some (xV i)] (r.toList ++ []) σ' Q) :
    pmWp (pmRo Ln xs) d 13 246 2 544 [some (.ref 1001), some (.ref 0), some (.ref 87), some (xV i)] [] (xS a b) Q := by
  refine x_aloadn xc246_544 rfl ?_
  refine x_aloadn xc246_545 rfl ?_
  refine x_iloadn xc246_546 rfl ?_
  refine x_iconst xc246_547 ?_
  refine x_iadd xc246_548 ?_
  refine x_sld xc246_549 (by omega) (by omega) (by omega) ?_
  refine x_cV (as := [xV ((xs (i + 1).toNat).toInt)]) (rest := []) xc246_550 rfl xi47 xz0 ⟨rfl, rfl⟩ rfl rfl ?_
  exact k1

theorem wl2_8_0 {Ln : Nat} {xs : Nat → Int32} {d : Nat} {Q : Option Value → pmS → Prop} {i : Int} {a : xA} {b : xB} (hLn : Ln ≤ 3072) (h0 : 0 ≤ i) (h6 : i + 6 ≤ (Ln : Int)) {z : Int} (h_z : xR z)
    (k1 : pmCs (pmRo Ln xs) d 166 [.ref 87, xV ((xs (i + 1).toNat).toInt)] (xS a b) fun r σ' => pmWp (pmRo Ln xs) d 13 246 2 563 [some (.ref 1001), some (.ref 0), some (.ref 87), some (xV i)] (r.toList ++ []) σ' Q) :
    pmWp (pmRo Ln xs) d 13 246 2 553 [some (.ref 1001), some (.ref 0), some (.ref 87), some (xV i)] [xV z] (xS a b) Q := by
  refine x_pop xc246_553 rfl ?_
  refine x_aloadn xc246_554 rfl ?_
  refine x_aloadn xc246_555 rfl ?_
  refine x_iloadn xc246_556 rfl ?_
  refine x_iconst xc246_557 ?_
  refine x_iadd xc246_558 ?_
  refine x_sld xc246_559 (by omega) (by omega) (by omega) ?_
  refine x_cV (as := [xV ((xs (i + 1).toNat).toInt)]) (rest := []) xc246_560 rfl xi166 xz87 ⟨rfl, rfl⟩ rfl rfl ?_
  exact k1

theorem wl3_8_0 {Ln : Nat} {xs : Nat → Int32} {d : Nat} {Q : Option Value → pmS → Prop} {i : Int} {a : xA} {b : xB} (hLn : Ln ≤ 3072) (h0 : 0 ≤ i) (h6 : i + 6 ≤ (Ln : Int)) {z z' : Int} (h_z : xR z) (h_z' : xR z')
    (k1 : pmWp (pmRo Ln xs) d 13 246 2 1229 [some (.ref 1001), some (.ref 0), some (.ref 87), some (xV i)] [] (xS a b) Q) :
    pmWp (pmRo Ln xs) d 13 246 2 563 [some (.ref 1001), some (.ref 0), some (.ref 87), some (xV i)] [xV z'] (xS a b) Q := by
  refine x_pop xc246_563 rfl ?_
  refine x_goto xc246_564 ?_
  exact k1

def xHyp8 (Ln : Nat) (xs : Nat → Int32) (Inv : xA → xB → Prop) : Prop := ∀ v0 : Int, xR v0 → ∀ a b, Inv a b → xStep (pmRo Ln xs) 59 47 [.ref 0, xV v0] 166 [.ref 87, xV v0] Inv (fun _ _ => True) a b
theorem xcase8 {Ln : Nat} {xs : Nat → Int32} {Q : Option Value → pmS → Prop} {Inv : xA → xB → Prop} {i : Int} {a : xA} {b : xB} (hLn : Ln ≤ 3072) (h0 : 0 ≤ i) (h6 : i + 6 ≤ (Ln : Int)) (hS : xHyp8 Ln xs Inv) (hI : Inv a b) (hN : ∀ a' b', Inv a' b' → pmWp (pmRo Ln xs) 59 13 246 2 1229 [some (.ref 1001), some (.ref 0), some (.ref 87), some (xV i)] [] (xS a' b') Q) : pmWp (pmRo Ln xs) 59 13 246 2 544 [some (.ref 1001), some (.ref 0), some (.ref 87), some (xV i)] [] (xS a b) Q := by
  refine wl1_8 hLn h0 h6 ?_
  · refine pmCs_mono (hS _ (aB32 _) a b hI) ?_
    rintro r σ1 ⟨z, a1, b1, rfl, hz, rfl, h2⟩
    refine wl2_8_0 hLn h0 h6 hz ?_
    · refine pmCs_mono h2 ?_
      rintro r' σ2 ⟨z', a2, b2, rfl, hz', rfl, hI2, hans⟩
      exact wl3_8_0 hLn h0 h6 hz hz' (hN a2 b2 hI2)

theorem wl1_9 {Ln : Nat} {xs : Nat → Int32} {d : Nat} {Q : Option Value → pmS → Prop} {i : Int} {a : xA} {b : xB} (hLn : Ln ≤ 3072) (h0 : 0 ≤ i) (h6 : i + 6 ≤ (Ln : Int))
    (k1 : pmCs (pmRo Ln xs) d 57 [.ref 0] (xS a b) fun r σ' => pmWp (pmRo Ln xs) d 13 246 2 571 [some (.ref 1001), some (.ref 0), some (.ref 87), some (xV i)] (r.toList ++ []) σ' Q) :
    pmWp (pmRo Ln xs) d 13 246 2 567 [some (.ref 1001), some (.ref 0), some (.ref 87), some (xV i)] [] (xS a b) Q := by
  refine x_aloadn xc246_567 rfl ?_
  refine x_cV (as := []) (rest := []) xc246_568 rfl xi57 xz0 ⟨rfl, rfl⟩ rfl rfl ?_
  exact k1

theorem wl2_9_0 {Ln : Nat} {xs : Nat → Int32} {d : Nat} {Q : Option Value → pmS → Prop} {i : Int} {a : xA} {b : xB} (hLn : Ln ≤ 3072) (h0 : 0 ≤ i) (h6 : i + 6 ≤ (Ln : Int)) {z : Int} (h_z : xR z)
    (k1 : pmCs (pmRo Ln xs) d 173 [.ref 87] (xS a b) fun r σ' => pmWp (pmRo Ln xs) d 13 246 2 576 [some (.ref 1001), some (.ref 0), some (.ref 87), some (xV i)] (r.toList ++ []) σ' Q) :
    pmWp (pmRo Ln xs) d 13 246 2 571 [some (.ref 1001), some (.ref 0), some (.ref 87), some (xV i)] [xV z] (xS a b) Q := by
  refine x_pop xc246_571 rfl ?_
  refine x_aloadn xc246_572 rfl ?_
  refine x_cV (as := []) (rest := []) xc246_573 rfl xi173 xz87 ⟨rfl, rfl⟩ rfl rfl ?_
  exact k1

theorem wl3_9_0 {Ln : Nat} {xs : Nat → Int32} {d : Nat} {Q : Option Value → pmS → Prop} {i : Int} {a : xA} {b : xB} (hLn : Ln ≤ 3072) (h0 : 0 ≤ i) (h6 : i + 6 ≤ (Ln : Int)) {z z' : Int} (h_z : xR z) (h_z' : xR z')
    (k1 : pmWp (pmRo Ln xs) d 13 246 2 1229 [some (.ref 1001), some (.ref 0), some (.ref 87), some (xV i)] [] (xS a b) Q) :
    pmWp (pmRo Ln xs) d 13 246 2 576 [some (.ref 1001), some (.ref 0), some (.ref 87), some (xV i)] [xV z'] (xS a b) Q := by
  refine x_pop xc246_576 rfl ?_
  refine x_goto xc246_577 ?_
  exact k1

def xHyp9 (Ln : Nat) (xs : Nat → Int32) (Inv : xA → xB → Prop) : Prop := ∀ a b, Inv a b → xStep (pmRo Ln xs) 59 57 [.ref 0] 173 [.ref 87] Inv (fun _ _ => True) a b
theorem xcase9 {Ln : Nat} {xs : Nat → Int32} {Q : Option Value → pmS → Prop} {Inv : xA → xB → Prop} {i : Int} {a : xA} {b : xB} (hLn : Ln ≤ 3072) (h0 : 0 ≤ i) (h6 : i + 6 ≤ (Ln : Int)) (hS : xHyp9 Ln xs Inv) (hI : Inv a b) (hN : ∀ a' b', Inv a' b' → pmWp (pmRo Ln xs) 59 13 246 2 1229 [some (.ref 1001), some (.ref 0), some (.ref 87), some (xV i)] [] (xS a' b') Q) : pmWp (pmRo Ln xs) 59 13 246 2 567 [some (.ref 1001), some (.ref 0), some (.ref 87), some (xV i)] [] (xS a b) Q := by
  refine wl1_9 hLn h0 h6 ?_
  · refine pmCs_mono (hS  a b hI) ?_
    rintro r σ1 ⟨z, a1, b1, rfl, hz, rfl, h2⟩
    refine wl2_9_0 hLn h0 h6 hz ?_
    · refine pmCs_mono h2 ?_
      rintro r' σ2 ⟨z', a2, b2, rfl, hz', rfl, hI2, hans⟩
      exact wl3_9_0 hLn h0 h6 hz hz' (hN a2 b2 hI2)

theorem wl1_10 {Ln : Nat} {xs : Nat → Int32} {d : Nat} {Q : Option Value → pmS → Prop} {i : Int} {a : xA} {b : xB} (hLn : Ln ≤ 3072) (h0 : 0 ≤ i) (h6 : i + 6 ≤ (Ln : Int))
    (k1 : ((xs (i + 2).toNat).toInt = 0) → pmCs (pmRo Ln xs) d 68 [.ref 0, xV ((xs (i + 1).toNat).toInt), xV 0, xV ((xs (i + 3).toNat).toInt)] (xS a b) fun r σ' => pmWp (pmRo Ln xs) d 13 246 2 607 [some (.ref 1001), some (.ref 0), some (.ref 87), some (xV i)] (r.toList ++ []) σ' Q)
    (k2 : (¬ (xs (i + 2).toNat).toInt = 0) → pmCs (pmRo Ln xs) d 68 [.ref 0, xV ((xs (i + 1).toNat).toInt), xV 1, xV ((xs (i + 3).toNat).toInt)] (xS a b) fun r σ' => pmWp (pmRo Ln xs) d 13 246 2 607 [some (.ref 1001), some (.ref 0), some (.ref 87), some (xV i)] (r.toList ++ []) σ' Q) :
    pmWp (pmRo Ln xs) d 13 246 2 580 [some (.ref 1001), some (.ref 0), some (.ref 87), some (xV i)] [] (xS a b) Q := by
  refine x_aloadn xc246_580 rfl ?_
  refine x_aloadn xc246_581 rfl ?_
  refine x_iloadn xc246_582 rfl ?_
  refine x_iconst xc246_583 ?_
  refine x_iadd xc246_584 ?_
  refine x_sld xc246_585 (by omega) (by omega) (by omega) ?_
  refine x_aloadn xc246_586 rfl ?_
  refine x_iloadn xc246_587 rfl ?_
  refine x_iconst xc246_588 ?_
  refine x_iadd xc246_589 ?_
  refine x_sld xc246_590 (by omega) (by omega) (by omega) ?_
  refine x_ifeq xc246_591 (xRk (by have g0 := aB32 (xs (i + 2).toNat); omega)) (fun h0 => ?_) (fun h0 => ?_)
  · refine x_iconst xc246_598 ?_
    refine x_aloadn xc246_599 rfl ?_
    refine x_iloadn xc246_600 rfl ?_
    refine x_iconst xc246_601 ?_
    refine x_iadd xc246_602 ?_
    refine x_sld xc246_603 (by omega) (by omega) (by omega) ?_
    refine x_cV (as := [xV ((xs (i + 1).toNat).toInt), xV 0, xV ((xs (i + 3).toNat).toInt)]) (rest := []) xc246_604 rfl xi68 xz0 ⟨rfl, rfl⟩ rfl rfl ?_
    exact k1 h0
  · refine x_iconst xc246_594 ?_
    refine x_goto xc246_595 ?_
    refine x_aloadn xc246_599 rfl ?_
    refine x_iloadn xc246_600 rfl ?_
    refine x_iconst xc246_601 ?_
    refine x_iadd xc246_602 ?_
    refine x_sld xc246_603 (by omega) (by omega) (by omega) ?_
    refine x_cV (as := [xV ((xs (i + 1).toNat).toInt), xV 1, xV ((xs (i + 3).toNat).toInt)]) (rest := []) xc246_604 rfl xi68 xz0 ⟨rfl, rfl⟩ rfl rfl ?_
    exact k2 h0

theorem wl2_10_0 {Ln : Nat} {xs : Nat → Int32} {d : Nat} {Q : Option Value → pmS → Prop} {i : Int} {a : xA} {b : xB} (hLn : Ln ≤ 3072) (h0 : 0 ≤ i) (h6 : i + 6 ≤ (Ln : Int)) {z : Int} (h_z : xR z) (c0 : (xs (i + 2).toNat).toInt = 0)
    (k1 : ((xs (i + 2).toNat).toInt = 0) → pmCs (pmRo Ln xs) d 182 [.ref 87, xV ((xs (i + 1).toNat).toInt), xV 0, xV ((xs (i + 3).toNat).toInt)] (xS a b) fun r σ' => pmWp (pmRo Ln xs) d 13 246 2 635 [some (.ref 1001), some (.ref 0), some (.ref 87), some (xV i)] (r.toList ++ []) σ' Q)
    (k2 : (¬ (xs (i + 2).toNat).toInt = 0) → pmCs (pmRo Ln xs) d 182 [.ref 87, xV ((xs (i + 1).toNat).toInt), xV 1, xV ((xs (i + 3).toNat).toInt)] (xS a b) fun r σ' => pmWp (pmRo Ln xs) d 13 246 2 635 [some (.ref 1001), some (.ref 0), some (.ref 87), some (xV i)] (r.toList ++ []) σ' Q) :
    pmWp (pmRo Ln xs) d 13 246 2 607 [some (.ref 1001), some (.ref 0), some (.ref 87), some (xV i)] [xV z] (xS a b) Q := by
  refine x_pop xc246_607 rfl ?_
  refine x_aloadn xc246_608 rfl ?_
  refine x_aloadn xc246_609 rfl ?_
  refine x_iloadn xc246_610 rfl ?_
  refine x_iconst xc246_611 ?_
  refine x_iadd xc246_612 ?_
  refine x_sld xc246_613 (by omega) (by omega) (by omega) ?_
  refine x_aloadn xc246_614 rfl ?_
  refine x_iloadn xc246_615 rfl ?_
  refine x_iconst xc246_616 ?_
  refine x_iadd xc246_617 ?_
  refine x_sld xc246_618 (by omega) (by omega) (by omega) ?_
  refine x_ifeq xc246_619 (xRk (by have g0 := aB32 (xs (i + 2).toNat); omega)) (fun h0 => ?_) (fun h0 => ?_)
  · refine x_iconst xc246_626 ?_
    refine x_aloadn xc246_627 rfl ?_
    refine x_iloadn xc246_628 rfl ?_
    refine x_iconst xc246_629 ?_
    refine x_iadd xc246_630 ?_
    refine x_sld xc246_631 (by omega) (by omega) (by omega) ?_
    refine x_cV (as := [xV ((xs (i + 1).toNat).toInt), xV 0, xV ((xs (i + 3).toNat).toInt)]) (rest := []) xc246_632 rfl xi182 xz87 ⟨rfl, rfl⟩ rfl rfl ?_
    exact k1 h0
  · refine x_iconst xc246_622 ?_
    refine x_goto xc246_623 ?_
    refine x_aloadn xc246_627 rfl ?_
    refine x_iloadn xc246_628 rfl ?_
    refine x_iconst xc246_629 ?_
    refine x_iadd xc246_630 ?_
    refine x_sld xc246_631 (by omega) (by omega) (by omega) ?_
    refine x_cV (as := [xV ((xs (i + 1).toNat).toInt), xV 1, xV ((xs (i + 3).toNat).toInt)]) (rest := []) xc246_632 rfl xi182 xz87 ⟨rfl, rfl⟩ rfl rfl ?_
    exact k2 h0

theorem wl3_10_0 {Ln : Nat} {xs : Nat → Int32} {d : Nat} {Q : Option Value → pmS → Prop} {i : Int} {a : xA} {b : xB} (hLn : Ln ≤ 3072) (h0 : 0 ≤ i) (h6 : i + 6 ≤ (Ln : Int)) {z z' : Int} (h_z : xR z) (h_z' : xR z')
    (k1 : pmWp (pmRo Ln xs) d 13 246 2 1229 [some (.ref 1001), some (.ref 0), some (.ref 87), some (xV i)] [] (xS a b) Q) :
    pmWp (pmRo Ln xs) d 13 246 2 635 [some (.ref 1001), some (.ref 0), some (.ref 87), some (xV i)] [xV z'] (xS a b) Q := by
  refine x_pop xc246_635 rfl ?_
  refine x_goto xc246_636 ?_
  exact k1

theorem wl2_10_1 {Ln : Nat} {xs : Nat → Int32} {d : Nat} {Q : Option Value → pmS → Prop} {i : Int} {a : xA} {b : xB} (hLn : Ln ≤ 3072) (h0 : 0 ≤ i) (h6 : i + 6 ≤ (Ln : Int)) {z : Int} (h_z : xR z) (c0 : ¬ (xs (i + 2).toNat).toInt = 0)
    (k1 : ((xs (i + 2).toNat).toInt = 0) → pmCs (pmRo Ln xs) d 182 [.ref 87, xV ((xs (i + 1).toNat).toInt), xV 0, xV ((xs (i + 3).toNat).toInt)] (xS a b) fun r σ' => pmWp (pmRo Ln xs) d 13 246 2 635 [some (.ref 1001), some (.ref 0), some (.ref 87), some (xV i)] (r.toList ++ []) σ' Q)
    (k2 : (¬ (xs (i + 2).toNat).toInt = 0) → pmCs (pmRo Ln xs) d 182 [.ref 87, xV ((xs (i + 1).toNat).toInt), xV 1, xV ((xs (i + 3).toNat).toInt)] (xS a b) fun r σ' => pmWp (pmRo Ln xs) d 13 246 2 635 [some (.ref 1001), some (.ref 0), some (.ref 87), some (xV i)] (r.toList ++ []) σ' Q) :
    pmWp (pmRo Ln xs) d 13 246 2 607 [some (.ref 1001), some (.ref 0), some (.ref 87), some (xV i)] [xV z] (xS a b) Q := by
  refine x_pop xc246_607 rfl ?_
  refine x_aloadn xc246_608 rfl ?_
  refine x_aloadn xc246_609 rfl ?_
  refine x_iloadn xc246_610 rfl ?_
  refine x_iconst xc246_611 ?_
  refine x_iadd xc246_612 ?_
  refine x_sld xc246_613 (by omega) (by omega) (by omega) ?_
  refine x_aloadn xc246_614 rfl ?_
  refine x_iloadn xc246_615 rfl ?_
  refine x_iconst xc246_616 ?_
  refine x_iadd xc246_617 ?_
  refine x_sld xc246_618 (by omega) (by omega) (by omega) ?_
  refine x_ifeq xc246_619 (xRk (by have g0 := aB32 (xs (i + 2).toNat); omega)) (fun h0 => ?_) (fun h0 => ?_)
  · refine x_iconst xc246_626 ?_
    refine x_aloadn xc246_627 rfl ?_
    refine x_iloadn xc246_628 rfl ?_
    refine x_iconst xc246_629 ?_
    refine x_iadd xc246_630 ?_
    refine x_sld xc246_631 (by omega) (by omega) (by omega) ?_
    refine x_cV (as := [xV ((xs (i + 1).toNat).toInt), xV 0, xV ((xs (i + 3).toNat).toInt)]) (rest := []) xc246_632 rfl xi182 xz87 ⟨rfl, rfl⟩ rfl rfl ?_
    exact k1 h0
  · refine x_iconst xc246_622 ?_
    refine x_goto xc246_623 ?_
    refine x_aloadn xc246_627 rfl ?_
    refine x_iloadn xc246_628 rfl ?_
    refine x_iconst xc246_629 ?_
    refine x_iadd xc246_630 ?_
    refine x_sld xc246_631 (by omega) (by omega) (by omega) ?_
    refine x_cV (as := [xV ((xs (i + 1).toNat).toInt), xV 1, xV ((xs (i + 3).toNat).toInt)]) (rest := []) xc246_632 rfl xi182 xz87 ⟨rfl, rfl⟩ rfl rfl ?_
    exact k2 h0

theorem wl3_10_1 {Ln : Nat} {xs : Nat → Int32} {d : Nat} {Q : Option Value → pmS → Prop} {i : Int} {a : xA} {b : xB} (hLn : Ln ≤ 3072) (h0 : 0 ≤ i) (h6 : i + 6 ≤ (Ln : Int)) {z z' : Int} (h_z : xR z) (h_z' : xR z')
    (k1 : pmWp (pmRo Ln xs) d 13 246 2 1229 [some (.ref 1001), some (.ref 0), some (.ref 87), some (xV i)] [] (xS a b) Q) :
    pmWp (pmRo Ln xs) d 13 246 2 635 [some (.ref 1001), some (.ref 0), some (.ref 87), some (xV i)] [xV z'] (xS a b) Q := by
  refine x_pop xc246_635 rfl ?_
  refine x_goto xc246_636 ?_
  exact k1

def xHyp10 (Ln : Nat) (xs : Nat → Int32) (Inv : xA → xB → Prop) : Prop := ∀ v0 : Int, xR v0 → ∀ v1 : Int, (v1 = 0 ∨ v1 = 1) → ∀ v2 : Int, xR v2 → ∀ a b, Inv a b → xStep (pmRo Ln xs) 59 68 [.ref 0, xV v0, xV v1, xV v2] 182 [.ref 87, xV v0, xV v1, xV v2] Inv (fun _ _ => True) a b
theorem xcase10 {Ln : Nat} {xs : Nat → Int32} {Q : Option Value → pmS → Prop} {Inv : xA → xB → Prop} {i : Int} {a : xA} {b : xB} (hLn : Ln ≤ 3072) (h0 : 0 ≤ i) (h6 : i + 6 ≤ (Ln : Int)) (hS : xHyp10 Ln xs Inv) (hI : Inv a b) (hN : ∀ a' b', Inv a' b' → pmWp (pmRo Ln xs) 59 13 246 2 1229 [some (.ref 1001), some (.ref 0), some (.ref 87), some (xV i)] [] (xS a' b') Q) : pmWp (pmRo Ln xs) 59 13 246 2 580 [some (.ref 1001), some (.ref 0), some (.ref 87), some (xV i)] [] (xS a b) Q := by
  refine wl1_10 hLn h0 h6 ?_ ?_
  · intro c0
    refine pmCs_mono (hS _ (aB32 _) _ (Or.inl rfl) _ (aB32 _) a b hI) ?_
    rintro r σ1 ⟨z, a1, b1, rfl, hz, rfl, h2⟩
    refine wl2_10_0 hLn h0 h6 hz c0 ?_ ?_
    · intro _
      refine pmCs_mono h2 ?_
      rintro r' σ2 ⟨z', a2, b2, rfl, hz', rfl, hI2, hans⟩
      exact wl3_10_0 hLn h0 h6 hz hz' (hN a2 b2 hI2)
    · intro e0
      exfalso
      omega
  · intro c0
    refine pmCs_mono (hS _ (aB32 _) _ (Or.inr rfl) _ (aB32 _) a b hI) ?_
    rintro r σ1 ⟨z, a1, b1, rfl, hz, rfl, h2⟩
    refine wl2_10_1 hLn h0 h6 hz c0 ?_ ?_
    · intro e0
      exfalso
      omega
    · intro _
      refine pmCs_mono h2 ?_
      rintro r' σ2 ⟨z', a2, b2, rfl, hz', rfl, hI2, hans⟩
      exact wl3_10_1 hLn h0 h6 hz hz' (hN a2 b2 hI2)

theorem wl1_11 {Ln : Nat} {xs : Nat → Int32} {d : Nat} {Q : Option Value → pmS → Prop} {i : Int} {a : xA} {b : xB} (hLn : Ln ≤ 3072) (h0 : 0 ≤ i) (h6 : i + 6 ≤ (Ln : Int))
    (k1 : pmCs (pmRo Ln xs) d 70 [.ref 0, xV ((xs (i + 1).toNat).toInt), xV ((xs (i + 2).toNat).toInt)] (xS a b) fun r σ' => pmWp (pmRo Ln xs) d 13 246 2 653 [some (.ref 1001), some (.ref 0), some (.ref 87), some (xV i)] (r.toList ++ []) σ' Q) :
    pmWp (pmRo Ln xs) d 13 246 2 639 [some (.ref 1001), some (.ref 0), some (.ref 87), some (xV i)] [] (xS a b) Q := by
  refine x_aloadn xc246_639 rfl ?_
  refine x_aloadn xc246_640 rfl ?_
  refine x_iloadn xc246_641 rfl ?_
  refine x_iconst xc246_642 ?_
  refine x_iadd xc246_643 ?_
  refine x_sld xc246_644 (by omega) (by omega) (by omega) ?_
  refine x_aloadn xc246_645 rfl ?_
  refine x_iloadn xc246_646 rfl ?_
  refine x_iconst xc246_647 ?_
  refine x_iadd xc246_648 ?_
  refine x_sld xc246_649 (by omega) (by omega) (by omega) ?_
  refine x_cV (as := [xV ((xs (i + 1).toNat).toInt), xV ((xs (i + 2).toNat).toInt)]) (rest := []) xc246_650 rfl xi70 xz0 ⟨rfl, rfl⟩ rfl rfl ?_
  exact k1

theorem wl2_11_0 {Ln : Nat} {xs : Nat → Int32} {d : Nat} {Q : Option Value → pmS → Prop} {i : Int} {a : xA} {b : xB} (hLn : Ln ≤ 3072) (h0 : 0 ≤ i) (h6 : i + 6 ≤ (Ln : Int)) {z : Int} (h_z : xR z)
    (k1 : pmCs (pmRo Ln xs) d 183 [.ref 87, xV ((xs (i + 1).toNat).toInt), xV ((xs (i + 2).toNat).toInt)] (xS a b) fun r σ' => pmWp (pmRo Ln xs) d 13 246 2 668 [some (.ref 1001), some (.ref 0), some (.ref 87), some (xV i)] (r.toList ++ []) σ' Q) :
    pmWp (pmRo Ln xs) d 13 246 2 653 [some (.ref 1001), some (.ref 0), some (.ref 87), some (xV i)] [xV z] (xS a b) Q := by
  refine x_pop xc246_653 rfl ?_
  refine x_aloadn xc246_654 rfl ?_
  refine x_aloadn xc246_655 rfl ?_
  refine x_iloadn xc246_656 rfl ?_
  refine x_iconst xc246_657 ?_
  refine x_iadd xc246_658 ?_
  refine x_sld xc246_659 (by omega) (by omega) (by omega) ?_
  refine x_aloadn xc246_660 rfl ?_
  refine x_iloadn xc246_661 rfl ?_
  refine x_iconst xc246_662 ?_
  refine x_iadd xc246_663 ?_
  refine x_sld xc246_664 (by omega) (by omega) (by omega) ?_
  refine x_cV (as := [xV ((xs (i + 1).toNat).toInt), xV ((xs (i + 2).toNat).toInt)]) (rest := []) xc246_665 rfl xi183 xz87 ⟨rfl, rfl⟩ rfl rfl ?_
  exact k1

theorem wl3_11_0 {Ln : Nat} {xs : Nat → Int32} {d : Nat} {Q : Option Value → pmS → Prop} {i : Int} {a : xA} {b : xB} (hLn : Ln ≤ 3072) (h0 : 0 ≤ i) (h6 : i + 6 ≤ (Ln : Int)) {z z' : Int} (h_z : xR z) (h_z' : xR z')
    (k1 : pmWp (pmRo Ln xs) d 13 246 2 1229 [some (.ref 1001), some (.ref 0), some (.ref 87), some (xV i)] [] (xS a b) Q) :
    pmWp (pmRo Ln xs) d 13 246 2 668 [some (.ref 1001), some (.ref 0), some (.ref 87), some (xV i)] [xV z'] (xS a b) Q := by
  refine x_pop xc246_668 rfl ?_
  refine x_goto xc246_669 ?_
  exact k1

def xHyp11 (Ln : Nat) (xs : Nat → Int32) (Inv : xA → xB → Prop) : Prop := ∀ v0 : Int, xR v0 → ∀ v1 : Int, xR v1 → ∀ a b, Inv a b → xStep (pmRo Ln xs) 59 70 [.ref 0, xV v0, xV v1] 183 [.ref 87, xV v0, xV v1] Inv (fun _ _ => True) a b
theorem xcase11 {Ln : Nat} {xs : Nat → Int32} {Q : Option Value → pmS → Prop} {Inv : xA → xB → Prop} {i : Int} {a : xA} {b : xB} (hLn : Ln ≤ 3072) (h0 : 0 ≤ i) (h6 : i + 6 ≤ (Ln : Int)) (hS : xHyp11 Ln xs Inv) (hI : Inv a b) (hN : ∀ a' b', Inv a' b' → pmWp (pmRo Ln xs) 59 13 246 2 1229 [some (.ref 1001), some (.ref 0), some (.ref 87), some (xV i)] [] (xS a' b') Q) : pmWp (pmRo Ln xs) 59 13 246 2 639 [some (.ref 1001), some (.ref 0), some (.ref 87), some (xV i)] [] (xS a b) Q := by
  refine wl1_11 hLn h0 h6 ?_
  · refine pmCs_mono (hS _ (aB32 _) _ (aB32 _) a b hI) ?_
    rintro r σ1 ⟨z, a1, b1, rfl, hz, rfl, h2⟩
    refine wl2_11_0 hLn h0 h6 hz ?_
    · refine pmCs_mono h2 ?_
      rintro r' σ2 ⟨z', a2, b2, rfl, hz', rfl, hI2, hans⟩
      exact wl3_11_0 hLn h0 h6 hz hz' (hN a2 b2 hI2)

theorem wl1_12 {Ln : Nat} {xs : Nat → Int32} {d : Nat} {Q : Option Value → pmS → Prop} {i : Int} {a : xA} {b : xB} (hLn : Ln ≤ 3072) (h0 : 0 ≤ i) (h6 : i + 6 ≤ (Ln : Int))
    (k1 : pmCs (pmRo Ln xs) d 76 [.ref 0, xV ((xs (i + 1).toNat).toInt), xV ((xs (i + 2).toNat).toInt), xV ((xs (i + 3).toNat).toInt)] (xS a b) fun r σ' => pmWp (pmRo Ln xs) d 13 246 2 691 [some (.ref 1001), some (.ref 0), some (.ref 87), some (xV i)] (r.toList ++ []) σ' Q) :
    pmWp (pmRo Ln xs) d 13 246 2 672 [some (.ref 1001), some (.ref 0), some (.ref 87), some (xV i)] [] (xS a b) Q := by
  refine x_aloadn xc246_672 rfl ?_
  refine x_aloadn xc246_673 rfl ?_
  refine x_iloadn xc246_674 rfl ?_
  refine x_iconst xc246_675 ?_
  refine x_iadd xc246_676 ?_
  refine x_sld xc246_677 (by omega) (by omega) (by omega) ?_
  refine x_aloadn xc246_678 rfl ?_
  refine x_iloadn xc246_679 rfl ?_
  refine x_iconst xc246_680 ?_
  refine x_iadd xc246_681 ?_
  refine x_sld xc246_682 (by omega) (by omega) (by omega) ?_
  refine x_aloadn xc246_683 rfl ?_
  refine x_iloadn xc246_684 rfl ?_
  refine x_iconst xc246_685 ?_
  refine x_iadd xc246_686 ?_
  refine x_sld xc246_687 (by omega) (by omega) (by omega) ?_
  refine x_cV (as := [xV ((xs (i + 1).toNat).toInt), xV ((xs (i + 2).toNat).toInt), xV ((xs (i + 3).toNat).toInt)]) (rest := []) xc246_688 rfl xi76 xz0 ⟨rfl, rfl⟩ rfl rfl ?_
  exact k1

theorem wl2_12_0 {Ln : Nat} {xs : Nat → Int32} {d : Nat} {Q : Option Value → pmS → Prop} {i : Int} {a : xA} {b : xB} (hLn : Ln ≤ 3072) (h0 : 0 ≤ i) (h6 : i + 6 ≤ (Ln : Int)) {z : Int} (h_z : xR z)
    (k1 : pmCs (pmRo Ln xs) d 189 [.ref 87, xV ((xs (i + 1).toNat).toInt), xV ((xs (i + 2).toNat).toInt), xV ((xs (i + 3).toNat).toInt)] (xS a b) fun r σ' => pmWp (pmRo Ln xs) d 13 246 2 711 [some (.ref 1001), some (.ref 0), some (.ref 87), some (xV i)] (r.toList ++ []) σ' Q) :
    pmWp (pmRo Ln xs) d 13 246 2 691 [some (.ref 1001), some (.ref 0), some (.ref 87), some (xV i)] [xV z] (xS a b) Q := by
  refine x_pop xc246_691 rfl ?_
  refine x_aloadn xc246_692 rfl ?_
  refine x_aloadn xc246_693 rfl ?_
  refine x_iloadn xc246_694 rfl ?_
  refine x_iconst xc246_695 ?_
  refine x_iadd xc246_696 ?_
  refine x_sld xc246_697 (by omega) (by omega) (by omega) ?_
  refine x_aloadn xc246_698 rfl ?_
  refine x_iloadn xc246_699 rfl ?_
  refine x_iconst xc246_700 ?_
  refine x_iadd xc246_701 ?_
  refine x_sld xc246_702 (by omega) (by omega) (by omega) ?_
  refine x_aloadn xc246_703 rfl ?_
  refine x_iloadn xc246_704 rfl ?_
  refine x_iconst xc246_705 ?_
  refine x_iadd xc246_706 ?_
  refine x_sld xc246_707 (by omega) (by omega) (by omega) ?_
  refine x_cV (as := [xV ((xs (i + 1).toNat).toInt), xV ((xs (i + 2).toNat).toInt), xV ((xs (i + 3).toNat).toInt)]) (rest := []) xc246_708 rfl xi189 xz87 ⟨rfl, rfl⟩ rfl rfl ?_
  exact k1

theorem wl3_12_0 {Ln : Nat} {xs : Nat → Int32} {d : Nat} {Q : Option Value → pmS → Prop} {i : Int} {a : xA} {b : xB} (hLn : Ln ≤ 3072) (h0 : 0 ≤ i) (h6 : i + 6 ≤ (Ln : Int)) {z z' : Int} (h_z : xR z) (h_z' : xR z')
    (k1 : pmWp (pmRo Ln xs) d 13 246 2 1229 [some (.ref 1001), some (.ref 0), some (.ref 87), some (xV i)] [] (xS a b) Q) :
    pmWp (pmRo Ln xs) d 13 246 2 711 [some (.ref 1001), some (.ref 0), some (.ref 87), some (xV i)] [xV z'] (xS a b) Q := by
  refine x_pop xc246_711 rfl ?_
  refine x_goto xc246_712 ?_
  exact k1

def xHyp12 (Ln : Nat) (xs : Nat → Int32) (Inv : xA → xB → Prop) : Prop := ∀ v0 : Int, xR v0 → ∀ v1 : Int, xR v1 → ∀ v2 : Int, xR v2 → ∀ a b, Inv a b → xStep (pmRo Ln xs) 59 76 [.ref 0, xV v0, xV v1, xV v2] 189 [.ref 87, xV v0, xV v1, xV v2] Inv (fun _ _ => True) a b
theorem xcase12 {Ln : Nat} {xs : Nat → Int32} {Q : Option Value → pmS → Prop} {Inv : xA → xB → Prop} {i : Int} {a : xA} {b : xB} (hLn : Ln ≤ 3072) (h0 : 0 ≤ i) (h6 : i + 6 ≤ (Ln : Int)) (hS : xHyp12 Ln xs Inv) (hI : Inv a b) (hN : ∀ a' b', Inv a' b' → pmWp (pmRo Ln xs) 59 13 246 2 1229 [some (.ref 1001), some (.ref 0), some (.ref 87), some (xV i)] [] (xS a' b') Q) : pmWp (pmRo Ln xs) 59 13 246 2 672 [some (.ref 1001), some (.ref 0), some (.ref 87), some (xV i)] [] (xS a b) Q := by
  refine wl1_12 hLn h0 h6 ?_
  · refine pmCs_mono (hS _ (aB32 _) _ (aB32 _) _ (aB32 _) a b hI) ?_
    rintro r σ1 ⟨z, a1, b1, rfl, hz, rfl, h2⟩
    refine wl2_12_0 hLn h0 h6 hz ?_
    · refine pmCs_mono h2 ?_
      rintro r' σ2 ⟨z', a2, b2, rfl, hz', rfl, hI2, hans⟩
      exact wl3_12_0 hLn h0 h6 hz hz' (hN a2 b2 hI2)

theorem wl1_13 {Ln : Nat} {xs : Nat → Int32} {d : Nat} {Q : Option Value → pmS → Prop} {i : Int} {a : xA} {b : xB} (hLn : Ln ≤ 3072) (h0 : 0 ≤ i) (h6 : i + 6 ≤ (Ln : Int))
    (k1 : pmCs (pmRo Ln xs) d 84 [.ref 0, xV ((xs (i + 1).toNat).toInt)] (xS a b) fun r σ' => pmWp (pmRo Ln xs) d 13 246 2 724 [some (.ref 1001), some (.ref 0), some (.ref 87), some (xV i)] (r.toList ++ []) σ' Q) :
    pmWp (pmRo Ln xs) d 13 246 2 715 [some (.ref 1001), some (.ref 0), some (.ref 87), some (xV i)] [] (xS a b) Q := by
  refine x_aloadn xc246_715 rfl ?_
  refine x_aloadn xc246_716 rfl ?_
  refine x_iloadn xc246_717 rfl ?_
  refine x_iconst xc246_718 ?_
  refine x_iadd xc246_719 ?_
  refine x_sld xc246_720 (by omega) (by omega) (by omega) ?_
  refine x_cV (as := [xV ((xs (i + 1).toNat).toInt)]) (rest := []) xc246_721 rfl xi84 xz0 ⟨rfl, rfl⟩ rfl rfl ?_
  exact k1

theorem wl2_13_0 {Ln : Nat} {xs : Nat → Int32} {d : Nat} {Q : Option Value → pmS → Prop} {i : Int} {a : xA} {b : xB} (hLn : Ln ≤ 3072) (h0 : 0 ≤ i) (h6 : i + 6 ≤ (Ln : Int)) {z : Int} (h_z : xR z)
    (k1 : pmCs (pmRo Ln xs) d 197 [.ref 87, xV ((xs (i + 1).toNat).toInt)] (xS a b) fun r σ' => pmWp (pmRo Ln xs) d 13 246 2 734 [some (.ref 1001), some (.ref 0), some (.ref 87), some (xV i)] (r.toList ++ []) σ' Q) :
    pmWp (pmRo Ln xs) d 13 246 2 724 [some (.ref 1001), some (.ref 0), some (.ref 87), some (xV i)] [xV z] (xS a b) Q := by
  refine x_pop xc246_724 rfl ?_
  refine x_aloadn xc246_725 rfl ?_
  refine x_aloadn xc246_726 rfl ?_
  refine x_iloadn xc246_727 rfl ?_
  refine x_iconst xc246_728 ?_
  refine x_iadd xc246_729 ?_
  refine x_sld xc246_730 (by omega) (by omega) (by omega) ?_
  refine x_cV (as := [xV ((xs (i + 1).toNat).toInt)]) (rest := []) xc246_731 rfl xi197 xz87 ⟨rfl, rfl⟩ rfl rfl ?_
  exact k1

theorem wl3_13_0 {Ln : Nat} {xs : Nat → Int32} {d : Nat} {Q : Option Value → pmS → Prop} {i : Int} {a : xA} {b : xB} (hLn : Ln ≤ 3072) (h0 : 0 ≤ i) (h6 : i + 6 ≤ (Ln : Int)) {z z' : Int} (h_z : xR z) (h_z' : xR z')
    (k1 : pmWp (pmRo Ln xs) d 13 246 2 1229 [some (.ref 1001), some (.ref 0), some (.ref 87), some (xV i)] [] (xS a b) Q) :
    pmWp (pmRo Ln xs) d 13 246 2 734 [some (.ref 1001), some (.ref 0), some (.ref 87), some (xV i)] [xV z'] (xS a b) Q := by
  refine x_pop xc246_734 rfl ?_
  refine x_goto xc246_735 ?_
  exact k1

def xHyp13 (Ln : Nat) (xs : Nat → Int32) (Inv : xA → xB → Prop) : Prop := ∀ v0 : Int, xR v0 → ∀ a b, Inv a b → xStep (pmRo Ln xs) 59 84 [.ref 0, xV v0] 197 [.ref 87, xV v0] Inv (fun _ _ => True) a b
theorem xcase13 {Ln : Nat} {xs : Nat → Int32} {Q : Option Value → pmS → Prop} {Inv : xA → xB → Prop} {i : Int} {a : xA} {b : xB} (hLn : Ln ≤ 3072) (h0 : 0 ≤ i) (h6 : i + 6 ≤ (Ln : Int)) (hS : xHyp13 Ln xs Inv) (hI : Inv a b) (hN : ∀ a' b', Inv a' b' → pmWp (pmRo Ln xs) 59 13 246 2 1229 [some (.ref 1001), some (.ref 0), some (.ref 87), some (xV i)] [] (xS a' b') Q) : pmWp (pmRo Ln xs) 59 13 246 2 715 [some (.ref 1001), some (.ref 0), some (.ref 87), some (xV i)] [] (xS a b) Q := by
  refine wl1_13 hLn h0 h6 ?_
  · refine pmCs_mono (hS _ (aB32 _) a b hI) ?_
    rintro r σ1 ⟨z, a1, b1, rfl, hz, rfl, h2⟩
    refine wl2_13_0 hLn h0 h6 hz ?_
    · refine pmCs_mono h2 ?_
      rintro r' σ2 ⟨z', a2, b2, rfl, hz', rfl, hI2, hans⟩
      exact wl3_13_0 hLn h0 h6 hz hz' (hN a2 b2 hI2)

theorem wl1_14 {Ln : Nat} {xs : Nat → Int32} {d : Nat} {Q : Option Value → pmS → Prop} {i : Int} {a : xA} {b : xB} (hLn : Ln ≤ 3072) (h0 : 0 ≤ i) (h6 : i + 6 ≤ (Ln : Int))
    (k1 : pmCs (pmRo Ln xs) d 87 [.ref 0, xV ((xs (i + 1).toNat).toInt), xV ((xs (i + 2).toNat).toInt), xV ((xs (i + 3).toNat).toInt)] (xS a b) fun r σ' => pmWp (pmRo Ln xs) d 13 246 2 757 [some (.ref 1001), some (.ref 0), some (.ref 87), some (xV i)] (r.toList ++ []) σ' Q) :
    pmWp (pmRo Ln xs) d 13 246 2 738 [some (.ref 1001), some (.ref 0), some (.ref 87), some (xV i)] [] (xS a b) Q := by
  refine x_aloadn xc246_738 rfl ?_
  refine x_aloadn xc246_739 rfl ?_
  refine x_iloadn xc246_740 rfl ?_
  refine x_iconst xc246_741 ?_
  refine x_iadd xc246_742 ?_
  refine x_sld xc246_743 (by omega) (by omega) (by omega) ?_
  refine x_aloadn xc246_744 rfl ?_
  refine x_iloadn xc246_745 rfl ?_
  refine x_iconst xc246_746 ?_
  refine x_iadd xc246_747 ?_
  refine x_sld xc246_748 (by omega) (by omega) (by omega) ?_
  refine x_aloadn xc246_749 rfl ?_
  refine x_iloadn xc246_750 rfl ?_
  refine x_iconst xc246_751 ?_
  refine x_iadd xc246_752 ?_
  refine x_sld xc246_753 (by omega) (by omega) (by omega) ?_
  refine x_cV (as := [xV ((xs (i + 1).toNat).toInt), xV ((xs (i + 2).toNat).toInt), xV ((xs (i + 3).toNat).toInt)]) (rest := []) xc246_754 rfl xi87 xz0 ⟨rfl, rfl⟩ rfl rfl ?_
  exact k1

theorem wl2_14_0 {Ln : Nat} {xs : Nat → Int32} {d : Nat} {Q : Option Value → pmS → Prop} {i : Int} {a : xA} {b : xB} (hLn : Ln ≤ 3072) (h0 : 0 ≤ i) (h6 : i + 6 ≤ (Ln : Int)) {z : Int} (h_z : xR z)
    (k1 : pmCs (pmRo Ln xs) d 204 [.ref 87, xV ((xs (i + 1).toNat).toInt), xV ((xs (i + 2).toNat).toInt), xV ((xs (i + 3).toNat).toInt)] (xS a b) fun r σ' => pmWp (pmRo Ln xs) d 13 246 2 777 [some (.ref 1001), some (.ref 0), some (.ref 87), some (xV i)] (r.toList ++ []) σ' Q) :
    pmWp (pmRo Ln xs) d 13 246 2 757 [some (.ref 1001), some (.ref 0), some (.ref 87), some (xV i)] [xV z] (xS a b) Q := by
  refine x_pop xc246_757 rfl ?_
  refine x_aloadn xc246_758 rfl ?_
  refine x_aloadn xc246_759 rfl ?_
  refine x_iloadn xc246_760 rfl ?_
  refine x_iconst xc246_761 ?_
  refine x_iadd xc246_762 ?_
  refine x_sld xc246_763 (by omega) (by omega) (by omega) ?_
  refine x_aloadn xc246_764 rfl ?_
  refine x_iloadn xc246_765 rfl ?_
  refine x_iconst xc246_766 ?_
  refine x_iadd xc246_767 ?_
  refine x_sld xc246_768 (by omega) (by omega) (by omega) ?_
  refine x_aloadn xc246_769 rfl ?_
  refine x_iloadn xc246_770 rfl ?_
  refine x_iconst xc246_771 ?_
  refine x_iadd xc246_772 ?_
  refine x_sld xc246_773 (by omega) (by omega) (by omega) ?_
  refine x_cV (as := [xV ((xs (i + 1).toNat).toInt), xV ((xs (i + 2).toNat).toInt), xV ((xs (i + 3).toNat).toInt)]) (rest := []) xc246_774 rfl xi204 xz87 ⟨rfl, rfl⟩ rfl rfl ?_
  exact k1

theorem wl3_14_0 {Ln : Nat} {xs : Nat → Int32} {d : Nat} {Q : Option Value → pmS → Prop} {i : Int} {a : xA} {b : xB} (hLn : Ln ≤ 3072) (h0 : 0 ≤ i) (h6 : i + 6 ≤ (Ln : Int)) {z z' : Int} (h_z : xR z) (h_z' : xR z')
    (k1 : pmWp (pmRo Ln xs) d 13 246 2 1229 [some (.ref 1001), some (.ref 0), some (.ref 87), some (xV i)] [] (xS a b) Q) :
    pmWp (pmRo Ln xs) d 13 246 2 777 [some (.ref 1001), some (.ref 0), some (.ref 87), some (xV i)] [xV z'] (xS a b) Q := by
  refine x_pop xc246_777 rfl ?_
  refine x_goto xc246_778 ?_
  exact k1

def xHyp14 (Ln : Nat) (xs : Nat → Int32) (Inv : xA → xB → Prop) : Prop := ∀ v0 : Int, xR v0 → ∀ v1 : Int, xR v1 → ∀ v2 : Int, xR v2 → ∀ a b, Inv a b → xStep (pmRo Ln xs) 59 87 [.ref 0, xV v0, xV v1, xV v2] 204 [.ref 87, xV v0, xV v1, xV v2] Inv (fun _ _ => True) a b
theorem xcase14 {Ln : Nat} {xs : Nat → Int32} {Q : Option Value → pmS → Prop} {Inv : xA → xB → Prop} {i : Int} {a : xA} {b : xB} (hLn : Ln ≤ 3072) (h0 : 0 ≤ i) (h6 : i + 6 ≤ (Ln : Int)) (hS : xHyp14 Ln xs Inv) (hI : Inv a b) (hN : ∀ a' b', Inv a' b' → pmWp (pmRo Ln xs) 59 13 246 2 1229 [some (.ref 1001), some (.ref 0), some (.ref 87), some (xV i)] [] (xS a' b') Q) : pmWp (pmRo Ln xs) 59 13 246 2 738 [some (.ref 1001), some (.ref 0), some (.ref 87), some (xV i)] [] (xS a b) Q := by
  refine wl1_14 hLn h0 h6 ?_
  · refine pmCs_mono (hS _ (aB32 _) _ (aB32 _) _ (aB32 _) a b hI) ?_
    rintro r σ1 ⟨z, a1, b1, rfl, hz, rfl, h2⟩
    refine wl2_14_0 hLn h0 h6 hz ?_
    · refine pmCs_mono h2 ?_
      rintro r' σ2 ⟨z', a2, b2, rfl, hz', rfl, hI2, hans⟩
      exact wl3_14_0 hLn h0 h6 hz hz' (hN a2 b2 hI2)

theorem wl1_15 {Ln : Nat} {xs : Nat → Int32} {d : Nat} {Q : Option Value → pmS → Prop} {i : Int} {a : xA} {b : xB} (hLn : Ln ≤ 3072) (h0 : 0 ≤ i) (h6 : i + 6 ≤ (Ln : Int))
    (k1 : pmCs (pmRo Ln xs) d 100 [.ref 0, xV ((xs (i + 1).toNat).toInt), xV ((xs (i + 2).toNat).toInt)] (xS a b) fun r σ' => pmWp (pmRo Ln xs) d 13 246 2 795 [some (.ref 1001), some (.ref 0), some (.ref 87), some (xV i)] (r.toList ++ []) σ' Q) :
    pmWp (pmRo Ln xs) d 13 246 2 781 [some (.ref 1001), some (.ref 0), some (.ref 87), some (xV i)] [] (xS a b) Q := by
  refine x_aloadn xc246_781 rfl ?_
  refine x_aloadn xc246_782 rfl ?_
  refine x_iloadn xc246_783 rfl ?_
  refine x_iconst xc246_784 ?_
  refine x_iadd xc246_785 ?_
  refine x_sld xc246_786 (by omega) (by omega) (by omega) ?_
  refine x_aloadn xc246_787 rfl ?_
  refine x_iloadn xc246_788 rfl ?_
  refine x_iconst xc246_789 ?_
  refine x_iadd xc246_790 ?_
  refine x_sld xc246_791 (by omega) (by omega) (by omega) ?_
  refine x_cV (as := [xV ((xs (i + 1).toNat).toInt), xV ((xs (i + 2).toNat).toInt)]) (rest := []) xc246_792 rfl xi100 xz0 ⟨rfl, rfl⟩ rfl rfl ?_
  exact k1

theorem wl2_15_0 {Ln : Nat} {xs : Nat → Int32} {d : Nat} {Q : Option Value → pmS → Prop} {i : Int} {a : xA} {b : xB} (hLn : Ln ≤ 3072) (h0 : 0 ≤ i) (h6 : i + 6 ≤ (Ln : Int)) {z : Int} (h_z : xR z)
    (k1 : pmCs (pmRo Ln xs) d 215 [.ref 87, xV ((xs (i + 1).toNat).toInt), xV ((xs (i + 2).toNat).toInt)] (xS a b) fun r σ' => pmWp (pmRo Ln xs) d 13 246 2 810 [some (.ref 1001), some (.ref 0), some (.ref 87), some (xV i)] (r.toList ++ []) σ' Q) :
    pmWp (pmRo Ln xs) d 13 246 2 795 [some (.ref 1001), some (.ref 0), some (.ref 87), some (xV i)] [xV z] (xS a b) Q := by
  refine x_pop xc246_795 rfl ?_
  refine x_aloadn xc246_796 rfl ?_
  refine x_aloadn xc246_797 rfl ?_
  refine x_iloadn xc246_798 rfl ?_
  refine x_iconst xc246_799 ?_
  refine x_iadd xc246_800 ?_
  refine x_sld xc246_801 (by omega) (by omega) (by omega) ?_
  refine x_aloadn xc246_802 rfl ?_
  refine x_iloadn xc246_803 rfl ?_
  refine x_iconst xc246_804 ?_
  refine x_iadd xc246_805 ?_
  refine x_sld xc246_806 (by omega) (by omega) (by omega) ?_
  refine x_cV (as := [xV ((xs (i + 1).toNat).toInt), xV ((xs (i + 2).toNat).toInt)]) (rest := []) xc246_807 rfl xi215 xz87 ⟨rfl, rfl⟩ rfl rfl ?_
  exact k1

theorem wl3_15_0 {Ln : Nat} {xs : Nat → Int32} {d : Nat} {Q : Option Value → pmS → Prop} {i : Int} {a : xA} {b : xB} (hLn : Ln ≤ 3072) (h0 : 0 ≤ i) (h6 : i + 6 ≤ (Ln : Int)) {z z' : Int} (h_z : xR z) (h_z' : xR z')
    (k1 : pmWp (pmRo Ln xs) d 13 246 2 1229 [some (.ref 1001), some (.ref 0), some (.ref 87), some (xV i)] [] (xS a b) Q) :
    pmWp (pmRo Ln xs) d 13 246 2 810 [some (.ref 1001), some (.ref 0), some (.ref 87), some (xV i)] [xV z'] (xS a b) Q := by
  refine x_pop xc246_810 rfl ?_
  refine x_goto xc246_811 ?_
  exact k1

def xHyp15 (Ln : Nat) (xs : Nat → Int32) (Inv : xA → xB → Prop) : Prop := ∀ v0 : Int, xR v0 → ∀ v1 : Int, xR v1 → ∀ a b, Inv a b → xStep (pmRo Ln xs) 59 100 [.ref 0, xV v0, xV v1] 215 [.ref 87, xV v0, xV v1] Inv (fun _ _ => True) a b
theorem xcase15 {Ln : Nat} {xs : Nat → Int32} {Q : Option Value → pmS → Prop} {Inv : xA → xB → Prop} {i : Int} {a : xA} {b : xB} (hLn : Ln ≤ 3072) (h0 : 0 ≤ i) (h6 : i + 6 ≤ (Ln : Int)) (hS : xHyp15 Ln xs Inv) (hI : Inv a b) (hN : ∀ a' b', Inv a' b' → pmWp (pmRo Ln xs) 59 13 246 2 1229 [some (.ref 1001), some (.ref 0), some (.ref 87), some (xV i)] [] (xS a' b') Q) : pmWp (pmRo Ln xs) 59 13 246 2 781 [some (.ref 1001), some (.ref 0), some (.ref 87), some (xV i)] [] (xS a b) Q := by
  refine wl1_15 hLn h0 h6 ?_
  · refine pmCs_mono (hS _ (aB32 _) _ (aB32 _) a b hI) ?_
    rintro r σ1 ⟨z, a1, b1, rfl, hz, rfl, h2⟩
    refine wl2_15_0 hLn h0 h6 hz ?_
    · refine pmCs_mono h2 ?_
      rintro r' σ2 ⟨z', a2, b2, rfl, hz', rfl, hI2, hans⟩
      exact wl3_15_0 hLn h0 h6 hz hz' (hN a2 b2 hI2)

theorem wl1_16 {Ln : Nat} {xs : Nat → Int32} {d : Nat} {Q : Option Value → pmS → Prop} {i : Int} {a : xA} {b : xB} (hLn : Ln ≤ 3072) (h0 : 0 ≤ i) (h6 : i + 6 ≤ (Ln : Int))
    (k1 : pmCs (pmRo Ln xs) d 106 [.ref 0, xV ((xs (i + 1).toNat).toInt), xV ((xs (i + 2).toNat).toInt)] (xS a b) fun r σ' => pmWp (pmRo Ln xs) d 13 246 2 828 [some (.ref 1001), some (.ref 0), some (.ref 87), some (xV i)] (r.toList ++ []) σ' Q) :
    pmWp (pmRo Ln xs) d 13 246 2 814 [some (.ref 1001), some (.ref 0), some (.ref 87), some (xV i)] [] (xS a b) Q := by
  refine x_aloadn xc246_814 rfl ?_
  refine x_aloadn xc246_815 rfl ?_
  refine x_iloadn xc246_816 rfl ?_
  refine x_iconst xc246_817 ?_
  refine x_iadd xc246_818 ?_
  refine x_sld xc246_819 (by omega) (by omega) (by omega) ?_
  refine x_aloadn xc246_820 rfl ?_
  refine x_iloadn xc246_821 rfl ?_
  refine x_iconst xc246_822 ?_
  refine x_iadd xc246_823 ?_
  refine x_sld xc246_824 (by omega) (by omega) (by omega) ?_
  refine x_cV (as := [xV ((xs (i + 1).toNat).toInt), xV ((xs (i + 2).toNat).toInt)]) (rest := []) xc246_825 rfl xi106 xz0 ⟨rfl, rfl⟩ rfl rfl ?_
  exact k1

theorem wl2_16_0 {Ln : Nat} {xs : Nat → Int32} {d : Nat} {Q : Option Value → pmS → Prop} {i : Int} {a : xA} {b : xB} (hLn : Ln ≤ 3072) (h0 : 0 ≤ i) (h6 : i + 6 ≤ (Ln : Int)) {z : Int} (h_z : xR z)
    (k1 : pmCs (pmRo Ln xs) d 222 [.ref 87, xV ((xs (i + 1).toNat).toInt), xV ((xs (i + 2).toNat).toInt)] (xS a b) fun r σ' => pmWp (pmRo Ln xs) d 13 246 2 843 [some (.ref 1001), some (.ref 0), some (.ref 87), some (xV i)] (r.toList ++ []) σ' Q) :
    pmWp (pmRo Ln xs) d 13 246 2 828 [some (.ref 1001), some (.ref 0), some (.ref 87), some (xV i)] [xV z] (xS a b) Q := by
  refine x_pop xc246_828 rfl ?_
  refine x_aloadn xc246_829 rfl ?_
  refine x_aloadn xc246_830 rfl ?_
  refine x_iloadn xc246_831 rfl ?_
  refine x_iconst xc246_832 ?_
  refine x_iadd xc246_833 ?_
  refine x_sld xc246_834 (by omega) (by omega) (by omega) ?_
  refine x_aloadn xc246_835 rfl ?_
  refine x_iloadn xc246_836 rfl ?_
  refine x_iconst xc246_837 ?_
  refine x_iadd xc246_838 ?_
  refine x_sld xc246_839 (by omega) (by omega) (by omega) ?_
  refine x_cV (as := [xV ((xs (i + 1).toNat).toInt), xV ((xs (i + 2).toNat).toInt)]) (rest := []) xc246_840 rfl xi222 xz87 ⟨rfl, rfl⟩ rfl rfl ?_
  exact k1

theorem wl3_16_0 {Ln : Nat} {xs : Nat → Int32} {d : Nat} {Q : Option Value → pmS → Prop} {i : Int} {a : xA} {b : xB} (hLn : Ln ≤ 3072) (h0 : 0 ≤ i) (h6 : i + 6 ≤ (Ln : Int)) {z z' : Int} (h_z : xR z) (h_z' : xR z')
    (k1 : pmWp (pmRo Ln xs) d 13 246 2 1229 [some (.ref 1001), some (.ref 0), some (.ref 87), some (xV i)] [] (xS a b) Q) :
    pmWp (pmRo Ln xs) d 13 246 2 843 [some (.ref 1001), some (.ref 0), some (.ref 87), some (xV i)] [xV z'] (xS a b) Q := by
  refine x_pop xc246_843 rfl ?_
  refine x_goto xc246_844 ?_
  exact k1

def xHyp16 (Ln : Nat) (xs : Nat → Int32) (Inv : xA → xB → Prop) : Prop := ∀ v0 : Int, xR v0 → ∀ v1 : Int, xR v1 → ∀ a b, Inv a b → xStep (pmRo Ln xs) 59 106 [.ref 0, xV v0, xV v1] 222 [.ref 87, xV v0, xV v1] Inv (fun _ _ => True) a b
theorem xcase16 {Ln : Nat} {xs : Nat → Int32} {Q : Option Value → pmS → Prop} {Inv : xA → xB → Prop} {i : Int} {a : xA} {b : xB} (hLn : Ln ≤ 3072) (h0 : 0 ≤ i) (h6 : i + 6 ≤ (Ln : Int)) (hS : xHyp16 Ln xs Inv) (hI : Inv a b) (hN : ∀ a' b', Inv a' b' → pmWp (pmRo Ln xs) 59 13 246 2 1229 [some (.ref 1001), some (.ref 0), some (.ref 87), some (xV i)] [] (xS a' b') Q) : pmWp (pmRo Ln xs) 59 13 246 2 814 [some (.ref 1001), some (.ref 0), some (.ref 87), some (xV i)] [] (xS a b) Q := by
  refine wl1_16 hLn h0 h6 ?_
  · refine pmCs_mono (hS _ (aB32 _) _ (aB32 _) a b hI) ?_
    rintro r σ1 ⟨z, a1, b1, rfl, hz, rfl, h2⟩
    refine wl2_16_0 hLn h0 h6 hz ?_
    · refine pmCs_mono h2 ?_
      rintro r' σ2 ⟨z', a2, b2, rfl, hz', rfl, hI2, hans⟩
      exact wl3_16_0 hLn h0 h6 hz hz' (hN a2 b2 hI2)

theorem wl1_17 {Ln : Nat} {xs : Nat → Int32} {d : Nat} {Q : Option Value → pmS → Prop} {i : Int} {a : xA} {b : xB} (hLn : Ln ≤ 3072) (h0 : 0 ≤ i) (h6 : i + 6 ≤ (Ln : Int))
    (k1 : pmCs (pmRo Ln xs) d 107 [.ref 0, xV ((xs (i + 1).toNat).toInt)] (xS a b) fun r σ' => pmWp (pmRo Ln xs) d 13 246 2 856 [some (.ref 1001), some (.ref 0), some (.ref 87), some (xV i)] (r.toList ++ []) σ' Q) :
    pmWp (pmRo Ln xs) d 13 246 2 847 [some (.ref 1001), some (.ref 0), some (.ref 87), some (xV i)] [] (xS a b) Q := by
  refine x_aloadn xc246_847 rfl ?_
  refine x_aloadn xc246_848 rfl ?_
  refine x_iloadn xc246_849 rfl ?_
  refine x_iconst xc246_850 ?_
  refine x_iadd xc246_851 ?_
  refine x_sld xc246_852 (by omega) (by omega) (by omega) ?_
  refine x_cV (as := [xV ((xs (i + 1).toNat).toInt)]) (rest := []) xc246_853 rfl xi107 xz0 ⟨rfl, rfl⟩ rfl rfl ?_
  exact k1

theorem wl2_17_0 {Ln : Nat} {xs : Nat → Int32} {d : Nat} {Q : Option Value → pmS → Prop} {i : Int} {a : xA} {b : xB} (hLn : Ln ≤ 3072) (h0 : 0 ≤ i) (h6 : i + 6 ≤ (Ln : Int)) {z : Int} (h_z : xR z)
    (k1 : pmCs (pmRo Ln xs) d 201 [.ref 87, xV ((xs (i + 1).toNat).toInt)] (xS a b) fun r σ' => pmWp (pmRo Ln xs) d 13 246 2 866 [some (.ref 1001), some (.ref 0), some (.ref 87), some (xV i)] (r.toList ++ []) σ' Q) :
    pmWp (pmRo Ln xs) d 13 246 2 856 [some (.ref 1001), some (.ref 0), some (.ref 87), some (xV i)] [xV z] (xS a b) Q := by
  refine x_pop xc246_856 rfl ?_
  refine x_aloadn xc246_857 rfl ?_
  refine x_aloadn xc246_858 rfl ?_
  refine x_iloadn xc246_859 rfl ?_
  refine x_iconst xc246_860 ?_
  refine x_iadd xc246_861 ?_
  refine x_sld xc246_862 (by omega) (by omega) (by omega) ?_
  refine x_cV (as := [xV ((xs (i + 1).toNat).toInt)]) (rest := []) xc246_863 rfl xi201 xz87 ⟨rfl, rfl⟩ rfl rfl ?_
  exact k1

theorem wl3_17_0 {Ln : Nat} {xs : Nat → Int32} {d : Nat} {Q : Option Value → pmS → Prop} {i : Int} {a : xA} {b : xB} (hLn : Ln ≤ 3072) (h0 : 0 ≤ i) (h6 : i + 6 ≤ (Ln : Int)) {z z' : Int} (h_z : xR z) (h_z' : xR z')
    (k1 : pmWp (pmRo Ln xs) d 13 246 2 1229 [some (.ref 1001), some (.ref 0), some (.ref 87), some (xV i)] [] (xS a b) Q) :
    pmWp (pmRo Ln xs) d 13 246 2 866 [some (.ref 1001), some (.ref 0), some (.ref 87), some (xV i)] [xV z'] (xS a b) Q := by
  refine x_pop xc246_866 rfl ?_
  refine x_goto xc246_867 ?_
  exact k1

def xHyp17 (Ln : Nat) (xs : Nat → Int32) (Inv : xA → xB → Prop) : Prop := ∀ v0 : Int, xR v0 → ∀ a b, Inv a b → xStep (pmRo Ln xs) 59 107 [.ref 0, xV v0] 201 [.ref 87, xV v0] Inv (fun _ _ => True) a b
theorem xcase17 {Ln : Nat} {xs : Nat → Int32} {Q : Option Value → pmS → Prop} {Inv : xA → xB → Prop} {i : Int} {a : xA} {b : xB} (hLn : Ln ≤ 3072) (h0 : 0 ≤ i) (h6 : i + 6 ≤ (Ln : Int)) (hS : xHyp17 Ln xs Inv) (hI : Inv a b) (hN : ∀ a' b', Inv a' b' → pmWp (pmRo Ln xs) 59 13 246 2 1229 [some (.ref 1001), some (.ref 0), some (.ref 87), some (xV i)] [] (xS a' b') Q) : pmWp (pmRo Ln xs) 59 13 246 2 847 [some (.ref 1001), some (.ref 0), some (.ref 87), some (xV i)] [] (xS a b) Q := by
  refine wl1_17 hLn h0 h6 ?_
  · refine pmCs_mono (hS _ (aB32 _) a b hI) ?_
    rintro r σ1 ⟨z, a1, b1, rfl, hz, rfl, h2⟩
    refine wl2_17_0 hLn h0 h6 hz ?_
    · refine pmCs_mono h2 ?_
      rintro r' σ2 ⟨z', a2, b2, rfl, hz', rfl, hI2, hans⟩
      exact wl3_17_0 hLn h0 h6 hz hz' (hN a2 b2 hI2)

theorem wl1_18 {Ln : Nat} {xs : Nat → Int32} {d : Nat} {Q : Option Value → pmS → Prop} {i : Int} {a : xA} {b : xB} (hLn : Ln ≤ 3072) (h0 : 0 ≤ i) (h6 : i + 6 ≤ (Ln : Int))
    (k1 : pmCs (pmRo Ln xs) d 109 [.ref 0, xV ((xs (i + 1).toNat).toInt)] (xS a b) fun r σ' => pmWp (pmRo Ln xs) d 13 246 2 879 [some (.ref 1001), some (.ref 0), some (.ref 87), some (xV i)] (r.toList ++ []) σ' Q) :
    pmWp (pmRo Ln xs) d 13 246 2 870 [some (.ref 1001), some (.ref 0), some (.ref 87), some (xV i)] [] (xS a b) Q := by
  refine x_aloadn xc246_870 rfl ?_
  refine x_aloadn xc246_871 rfl ?_
  refine x_iloadn xc246_872 rfl ?_
  refine x_iconst xc246_873 ?_
  refine x_iadd xc246_874 ?_
  refine x_sld xc246_875 (by omega) (by omega) (by omega) ?_
  refine x_cV (as := [xV ((xs (i + 1).toNat).toInt)]) (rest := []) xc246_876 rfl xi109 xz0 ⟨rfl, rfl⟩ rfl rfl ?_
  exact k1

theorem wl2_18_0 {Ln : Nat} {xs : Nat → Int32} {d : Nat} {Q : Option Value → pmS → Prop} {i : Int} {a : xA} {b : xB} (hLn : Ln ≤ 3072) (h0 : 0 ≤ i) (h6 : i + 6 ≤ (Ln : Int)) {z : Int} (h_z : xR z)
    (k1 : pmCs (pmRo Ln xs) d 203 [.ref 87, xV ((xs (i + 1).toNat).toInt)] (xS a b) fun r σ' => pmWp (pmRo Ln xs) d 13 246 2 889 [some (.ref 1001), some (.ref 0), some (.ref 87), some (xV i)] (r.toList ++ []) σ' Q) :
    pmWp (pmRo Ln xs) d 13 246 2 879 [some (.ref 1001), some (.ref 0), some (.ref 87), some (xV i)] [xV z] (xS a b) Q := by
  refine x_pop xc246_879 rfl ?_
  refine x_aloadn xc246_880 rfl ?_
  refine x_aloadn xc246_881 rfl ?_
  refine x_iloadn xc246_882 rfl ?_
  refine x_iconst xc246_883 ?_
  refine x_iadd xc246_884 ?_
  refine x_sld xc246_885 (by omega) (by omega) (by omega) ?_
  refine x_cV (as := [xV ((xs (i + 1).toNat).toInt)]) (rest := []) xc246_886 rfl xi203 xz87 ⟨rfl, rfl⟩ rfl rfl ?_
  exact k1

theorem wl3_18_0 {Ln : Nat} {xs : Nat → Int32} {d : Nat} {Q : Option Value → pmS → Prop} {i : Int} {a : xA} {b : xB} (hLn : Ln ≤ 3072) (h0 : 0 ≤ i) (h6 : i + 6 ≤ (Ln : Int)) {z z' : Int} (h_z : xR z) (h_z' : xR z')
    (k1 : pmWp (pmRo Ln xs) d 13 246 2 1229 [some (.ref 1001), some (.ref 0), some (.ref 87), some (xV i)] [] (xS a b) Q) :
    pmWp (pmRo Ln xs) d 13 246 2 889 [some (.ref 1001), some (.ref 0), some (.ref 87), some (xV i)] [xV z'] (xS a b) Q := by
  refine x_pop xc246_889 rfl ?_
  refine x_goto xc246_890 ?_
  exact k1

def xHyp18 (Ln : Nat) (xs : Nat → Int32) (Inv : xA → xB → Prop) : Prop := ∀ v0 : Int, xR v0 → ∀ a b, Inv a b → xStep (pmRo Ln xs) 59 109 [.ref 0, xV v0] 203 [.ref 87, xV v0] Inv (fun _ _ => True) a b
theorem xcase18 {Ln : Nat} {xs : Nat → Int32} {Q : Option Value → pmS → Prop} {Inv : xA → xB → Prop} {i : Int} {a : xA} {b : xB} (hLn : Ln ≤ 3072) (h0 : 0 ≤ i) (h6 : i + 6 ≤ (Ln : Int)) (hS : xHyp18 Ln xs Inv) (hI : Inv a b) (hN : ∀ a' b', Inv a' b' → pmWp (pmRo Ln xs) 59 13 246 2 1229 [some (.ref 1001), some (.ref 0), some (.ref 87), some (xV i)] [] (xS a' b') Q) : pmWp (pmRo Ln xs) 59 13 246 2 870 [some (.ref 1001), some (.ref 0), some (.ref 87), some (xV i)] [] (xS a b) Q := by
  refine wl1_18 hLn h0 h6 ?_
  · refine pmCs_mono (hS _ (aB32 _) a b hI) ?_
    rintro r σ1 ⟨z, a1, b1, rfl, hz, rfl, h2⟩
    refine wl2_18_0 hLn h0 h6 hz ?_
    · refine pmCs_mono h2 ?_
      rintro r' σ2 ⟨z', a2, b2, rfl, hz', rfl, hI2, hans⟩
      exact wl3_18_0 hLn h0 h6 hz hz' (hN a2 b2 hI2)

theorem wl1_19 {Ln : Nat} {xs : Nat → Int32} {d : Nat} {Q : Option Value → pmS → Prop} {i : Int} {a : xA} {b : xB} (hLn : Ln ≤ 3072) (h0 : 0 ≤ i) (h6 : i + 6 ≤ (Ln : Int))
    (k1 : pmCs (pmRo Ln xs) d 110 [.ref 0, xV ((xs (i + 1).toNat).toInt)] (xS a b) fun r σ' => pmWp (pmRo Ln xs) d 13 246 2 902 [some (.ref 1001), some (.ref 0), some (.ref 87), some (xV i)] (r.toList ++ []) σ' Q) :
    pmWp (pmRo Ln xs) d 13 246 2 893 [some (.ref 1001), some (.ref 0), some (.ref 87), some (xV i)] [] (xS a b) Q := by
  refine x_aloadn xc246_893 rfl ?_
  refine x_aloadn xc246_894 rfl ?_
  refine x_iloadn xc246_895 rfl ?_
  refine x_iconst xc246_896 ?_
  refine x_iadd xc246_897 ?_
  refine x_sld xc246_898 (by omega) (by omega) (by omega) ?_
  refine x_cV (as := [xV ((xs (i + 1).toNat).toInt)]) (rest := []) xc246_899 rfl xi110 xz0 ⟨rfl, rfl⟩ rfl rfl ?_
  exact k1

theorem wl2_19_0 {Ln : Nat} {xs : Nat → Int32} {d : Nat} {Q : Option Value → pmS → Prop} {i : Int} {a : xA} {b : xB} (hLn : Ln ≤ 3072) (h0 : 0 ≤ i) (h6 : i + 6 ≤ (Ln : Int)) {z : Int} (h_z : xR z)
    (k1 : pmCs (pmRo Ln xs) d 223 [.ref 87, xV ((xs (i + 1).toNat).toInt)] (xS a b) fun r σ' => pmWp (pmRo Ln xs) d 13 246 2 912 [some (.ref 1001), some (.ref 0), some (.ref 87), some (xV i)] (r.toList ++ []) σ' Q) :
    pmWp (pmRo Ln xs) d 13 246 2 902 [some (.ref 1001), some (.ref 0), some (.ref 87), some (xV i)] [xV z] (xS a b) Q := by
  refine x_pop xc246_902 rfl ?_
  refine x_aloadn xc246_903 rfl ?_
  refine x_aloadn xc246_904 rfl ?_
  refine x_iloadn xc246_905 rfl ?_
  refine x_iconst xc246_906 ?_
  refine x_iadd xc246_907 ?_
  refine x_sld xc246_908 (by omega) (by omega) (by omega) ?_
  refine x_cV (as := [xV ((xs (i + 1).toNat).toInt)]) (rest := []) xc246_909 rfl xi223 xz87 ⟨rfl, rfl⟩ rfl rfl ?_
  exact k1

theorem wl3_19_0 {Ln : Nat} {xs : Nat → Int32} {d : Nat} {Q : Option Value → pmS → Prop} {i : Int} {a : xA} {b : xB} (hLn : Ln ≤ 3072) (h0 : 0 ≤ i) (h6 : i + 6 ≤ (Ln : Int)) {z z' : Int} (h_z : xR z) (h_z' : xR z')
    (k1 : pmWp (pmRo Ln xs) d 13 246 2 1229 [some (.ref 1001), some (.ref 0), some (.ref 87), some (xV i)] [] (xS a b) Q) :
    pmWp (pmRo Ln xs) d 13 246 2 912 [some (.ref 1001), some (.ref 0), some (.ref 87), some (xV i)] [xV z'] (xS a b) Q := by
  refine x_pop xc246_912 rfl ?_
  refine x_goto xc246_913 ?_
  exact k1

def xHyp19 (Ln : Nat) (xs : Nat → Int32) (Inv : xA → xB → Prop) : Prop := ∀ v0 : Int, xR v0 → ∀ a b, Inv a b → xStep (pmRo Ln xs) 59 110 [.ref 0, xV v0] 223 [.ref 87, xV v0] Inv (fun _ _ => True) a b
theorem xcase19 {Ln : Nat} {xs : Nat → Int32} {Q : Option Value → pmS → Prop} {Inv : xA → xB → Prop} {i : Int} {a : xA} {b : xB} (hLn : Ln ≤ 3072) (h0 : 0 ≤ i) (h6 : i + 6 ≤ (Ln : Int)) (hS : xHyp19 Ln xs Inv) (hI : Inv a b) (hN : ∀ a' b', Inv a' b' → pmWp (pmRo Ln xs) 59 13 246 2 1229 [some (.ref 1001), some (.ref 0), some (.ref 87), some (xV i)] [] (xS a' b') Q) : pmWp (pmRo Ln xs) 59 13 246 2 893 [some (.ref 1001), some (.ref 0), some (.ref 87), some (xV i)] [] (xS a b) Q := by
  refine wl1_19 hLn h0 h6 ?_
  · refine pmCs_mono (hS _ (aB32 _) a b hI) ?_
    rintro r σ1 ⟨z, a1, b1, rfl, hz, rfl, h2⟩
    refine wl2_19_0 hLn h0 h6 hz ?_
    · refine pmCs_mono h2 ?_
      rintro r' σ2 ⟨z', a2, b2, rfl, hz', rfl, hI2, hans⟩
      exact wl3_19_0 hLn h0 h6 hz hz' (hN a2 b2 hI2)

theorem wl1_20 {Ln : Nat} {xs : Nat → Int32} {d : Nat} {Q : Option Value → pmS → Prop} {i : Int} {a : xA} {b : xB} (hLn : Ln ≤ 3072) (h0 : 0 ≤ i) (h6 : i + 6 ≤ (Ln : Int))
    (k1 : pmCs (pmRo Ln xs) d 114 [.ref 0] (xS a b) fun r σ' => pmWp (pmRo Ln xs) d 13 246 2 920 [some (.ref 1001), some (.ref 0), some (.ref 87), some (xV i)] (r.toList ++ []) σ' Q) :
    pmWp (pmRo Ln xs) d 13 246 2 916 [some (.ref 1001), some (.ref 0), some (.ref 87), some (xV i)] [] (xS a b) Q := by
  refine x_aloadn xc246_916 rfl ?_
  refine x_cV (as := []) (rest := []) xc246_917 rfl xi114 xz0 ⟨rfl, rfl⟩ rfl rfl ?_
  exact k1

theorem wl2_20_0 {Ln : Nat} {xs : Nat → Int32} {d : Nat} {Q : Option Value → pmS → Prop} {i : Int} {a : xA} {b : xB} (hLn : Ln ≤ 3072) (h0 : 0 ≤ i) (h6 : i + 6 ≤ (Ln : Int)) {z : Int} (h_z : xR z)
    (k1 : pmCs (pmRo Ln xs) d 230 [.ref 87] (xS a b) fun r σ' => pmWp (pmRo Ln xs) d 13 246 2 925 [some (.ref 1001), some (.ref 0), some (.ref 87), some (xV i)] (r.toList ++ []) σ' Q) :
    pmWp (pmRo Ln xs) d 13 246 2 920 [some (.ref 1001), some (.ref 0), some (.ref 87), some (xV i)] [xV z] (xS a b) Q := by
  refine x_pop xc246_920 rfl ?_
  refine x_aloadn xc246_921 rfl ?_
  refine x_cV (as := []) (rest := []) xc246_922 rfl xi230 xz87 ⟨rfl, rfl⟩ rfl rfl ?_
  exact k1

theorem wl3_20_0 {Ln : Nat} {xs : Nat → Int32} {d : Nat} {Q : Option Value → pmS → Prop} {i : Int} {a : xA} {b : xB} (hLn : Ln ≤ 3072) (h0 : 0 ≤ i) (h6 : i + 6 ≤ (Ln : Int)) {z z' : Int} (h_z : xR z) (h_z' : xR z')
    (k1 : pmWp (pmRo Ln xs) d 13 246 2 1229 [some (.ref 1001), some (.ref 0), some (.ref 87), some (xV i)] [] (xS a b) Q) :
    pmWp (pmRo Ln xs) d 13 246 2 925 [some (.ref 1001), some (.ref 0), some (.ref 87), some (xV i)] [xV z'] (xS a b) Q := by
  refine x_pop xc246_925 rfl ?_
  refine x_goto xc246_926 ?_
  exact k1

def xHyp20 (Ln : Nat) (xs : Nat → Int32) (Inv : xA → xB → Prop) : Prop := ∀ a b, Inv a b → xStep (pmRo Ln xs) 59 114 [.ref 0] 230 [.ref 87] Inv (fun _ _ => True) a b
theorem xcase20 {Ln : Nat} {xs : Nat → Int32} {Q : Option Value → pmS → Prop} {Inv : xA → xB → Prop} {i : Int} {a : xA} {b : xB} (hLn : Ln ≤ 3072) (h0 : 0 ≤ i) (h6 : i + 6 ≤ (Ln : Int)) (hS : xHyp20 Ln xs Inv) (hI : Inv a b) (hN : ∀ a' b', Inv a' b' → pmWp (pmRo Ln xs) 59 13 246 2 1229 [some (.ref 1001), some (.ref 0), some (.ref 87), some (xV i)] [] (xS a' b') Q) : pmWp (pmRo Ln xs) 59 13 246 2 916 [some (.ref 1001), some (.ref 0), some (.ref 87), some (xV i)] [] (xS a b) Q := by
  refine wl1_20 hLn h0 h6 ?_
  · refine pmCs_mono (hS  a b hI) ?_
    rintro r σ1 ⟨z, a1, b1, rfl, hz, rfl, h2⟩
    refine wl2_20_0 hLn h0 h6 hz ?_
    · refine pmCs_mono h2 ?_
      rintro r' σ2 ⟨z', a2, b2, rfl, hz', rfl, hI2, hans⟩
      exact wl3_20_0 hLn h0 h6 hz hz' (hN a2 b2 hI2)

theorem wl1_21 {Ln : Nat} {xs : Nat → Int32} {d : Nat} {Q : Option Value → pmS → Prop} {i : Int} {a : xA} {b : xB} (hLn : Ln ≤ 3072) (h0 : 0 ≤ i) (h6 : i + 6 ≤ (Ln : Int))
    (k1 : pmCs (pmRo Ln xs) d 115 [.ref 0, xV ((xs (i + 1).toNat).toInt), xV ((xs (i + 2).toNat).toInt)] (xS a b) fun r σ' => pmWp (pmRo Ln xs) d 13 246 2 943 [some (.ref 1001), some (.ref 0), some (.ref 87), some (xV i)] (r.toList ++ []) σ' Q) :
    pmWp (pmRo Ln xs) d 13 246 2 929 [some (.ref 1001), some (.ref 0), some (.ref 87), some (xV i)] [] (xS a b) Q := by
  refine x_aloadn xc246_929 rfl ?_
  refine x_aloadn xc246_930 rfl ?_
  refine x_iloadn xc246_931 rfl ?_
  refine x_iconst xc246_932 ?_
  refine x_iadd xc246_933 ?_
  refine x_sld xc246_934 (by omega) (by omega) (by omega) ?_
  refine x_aloadn xc246_935 rfl ?_
  refine x_iloadn xc246_936 rfl ?_
  refine x_iconst xc246_937 ?_
  refine x_iadd xc246_938 ?_
  refine x_sld xc246_939 (by omega) (by omega) (by omega) ?_
  refine x_cV (as := [xV ((xs (i + 1).toNat).toInt), xV ((xs (i + 2).toNat).toInt)]) (rest := []) xc246_940 rfl xi115 xz0 ⟨rfl, rfl⟩ rfl rfl ?_
  exact k1

theorem wl2_21_0 {Ln : Nat} {xs : Nat → Int32} {d : Nat} {Q : Option Value → pmS → Prop} {i : Int} {a : xA} {b : xB} (hLn : Ln ≤ 3072) (h0 : 0 ≤ i) (h6 : i + 6 ≤ (Ln : Int)) {z : Int} (h_z : xR z)
    (k1 : pmCs (pmRo Ln xs) d 231 [.ref 87, xV ((xs (i + 1).toNat).toInt), xV ((xs (i + 2).toNat).toInt)] (xS a b) fun r σ' => pmWp (pmRo Ln xs) d 13 246 2 958 [some (.ref 1001), some (.ref 0), some (.ref 87), some (xV i)] (r.toList ++ []) σ' Q) :
    pmWp (pmRo Ln xs) d 13 246 2 943 [some (.ref 1001), some (.ref 0), some (.ref 87), some (xV i)] [xV z] (xS a b) Q := by
  refine x_pop xc246_943 rfl ?_
  refine x_aloadn xc246_944 rfl ?_
  refine x_aloadn xc246_945 rfl ?_
  refine x_iloadn xc246_946 rfl ?_
  refine x_iconst xc246_947 ?_
  refine x_iadd xc246_948 ?_
  refine x_sld xc246_949 (by omega) (by omega) (by omega) ?_
  refine x_aloadn xc246_950 rfl ?_
  refine x_iloadn xc246_951 rfl ?_
  refine x_iconst xc246_952 ?_
  refine x_iadd xc246_953 ?_
  refine x_sld xc246_954 (by omega) (by omega) (by omega) ?_
  refine x_cV (as := [xV ((xs (i + 1).toNat).toInt), xV ((xs (i + 2).toNat).toInt)]) (rest := []) xc246_955 rfl xi231 xz87 ⟨rfl, rfl⟩ rfl rfl ?_
  exact k1

theorem wl3_21_0 {Ln : Nat} {xs : Nat → Int32} {d : Nat} {Q : Option Value → pmS → Prop} {i : Int} {a : xA} {b : xB} (hLn : Ln ≤ 3072) (h0 : 0 ≤ i) (h6 : i + 6 ≤ (Ln : Int)) {z z' : Int} (h_z : xR z) (h_z' : xR z')
    (k1 : pmWp (pmRo Ln xs) d 13 246 2 1229 [some (.ref 1001), some (.ref 0), some (.ref 87), some (xV i)] [] (xS a b) Q) :
    pmWp (pmRo Ln xs) d 13 246 2 958 [some (.ref 1001), some (.ref 0), some (.ref 87), some (xV i)] [xV z'] (xS a b) Q := by
  refine x_pop xc246_958 rfl ?_
  refine x_goto xc246_959 ?_
  exact k1

def xHyp21 (Ln : Nat) (xs : Nat → Int32) (Inv : xA → xB → Prop) : Prop := ∀ v0 : Int, xR v0 → ∀ v1 : Int, xR v1 → ∀ a b, Inv a b → xStep (pmRo Ln xs) 59 115 [.ref 0, xV v0, xV v1] 231 [.ref 87, xV v0, xV v1] Inv (fun _ _ => True) a b
theorem xcase21 {Ln : Nat} {xs : Nat → Int32} {Q : Option Value → pmS → Prop} {Inv : xA → xB → Prop} {i : Int} {a : xA} {b : xB} (hLn : Ln ≤ 3072) (h0 : 0 ≤ i) (h6 : i + 6 ≤ (Ln : Int)) (hS : xHyp21 Ln xs Inv) (hI : Inv a b) (hN : ∀ a' b', Inv a' b' → pmWp (pmRo Ln xs) 59 13 246 2 1229 [some (.ref 1001), some (.ref 0), some (.ref 87), some (xV i)] [] (xS a' b') Q) : pmWp (pmRo Ln xs) 59 13 246 2 929 [some (.ref 1001), some (.ref 0), some (.ref 87), some (xV i)] [] (xS a b) Q := by
  refine wl1_21 hLn h0 h6 ?_
  · refine pmCs_mono (hS _ (aB32 _) _ (aB32 _) a b hI) ?_
    rintro r σ1 ⟨z, a1, b1, rfl, hz, rfl, h2⟩
    refine wl2_21_0 hLn h0 h6 hz ?_
    · refine pmCs_mono h2 ?_
      rintro r' σ2 ⟨z', a2, b2, rfl, hz', rfl, hI2, hans⟩
      exact wl3_21_0 hLn h0 h6 hz hz' (hN a2 b2 hI2)

theorem wl1_22 {Ln : Nat} {xs : Nat → Int32} {d : Nat} {Q : Option Value → pmS → Prop} {i : Int} {a : xA} {b : xB} (hLn : Ln ≤ 3072) (h0 : 0 ≤ i) (h6 : i + 6 ≤ (Ln : Int))
    (k1 : pmCs (pmRo Ln xs) d 116 [.ref 0, xV ((xs (i + 1).toNat).toInt)] (xS a b) fun r σ' => pmWp (pmRo Ln xs) d 13 246 2 971 [some (.ref 1001), some (.ref 0), some (.ref 87), some (xV i)] (r.toList ++ []) σ' Q) :
    pmWp (pmRo Ln xs) d 13 246 2 962 [some (.ref 1001), some (.ref 0), some (.ref 87), some (xV i)] [] (xS a b) Q := by
  refine x_aloadn xc246_962 rfl ?_
  refine x_aloadn xc246_963 rfl ?_
  refine x_iloadn xc246_964 rfl ?_
  refine x_iconst xc246_965 ?_
  refine x_iadd xc246_966 ?_
  refine x_sld xc246_967 (by omega) (by omega) (by omega) ?_
  refine x_cV (as := [xV ((xs (i + 1).toNat).toInt)]) (rest := []) xc246_968 rfl xi116 xz0 ⟨rfl, rfl⟩ rfl rfl ?_
  exact k1

theorem wl2_22_0 {Ln : Nat} {xs : Nat → Int32} {d : Nat} {Q : Option Value → pmS → Prop} {i : Int} {a : xA} {b : xB} (hLn : Ln ≤ 3072) (h0 : 0 ≤ i) (h6 : i + 6 ≤ (Ln : Int)) {z : Int} (h_z : xR z)
    (k1 : pmCs (pmRo Ln xs) d 232 [.ref 87, xV ((xs (i + 1).toNat).toInt)] (xS a b) fun r σ' => pmWp (pmRo Ln xs) d 13 246 2 981 [some (.ref 1001), some (.ref 0), some (.ref 87), some (xV i)] (r.toList ++ []) σ' Q) :
    pmWp (pmRo Ln xs) d 13 246 2 971 [some (.ref 1001), some (.ref 0), some (.ref 87), some (xV i)] [xV z] (xS a b) Q := by
  refine x_pop xc246_971 rfl ?_
  refine x_aloadn xc246_972 rfl ?_
  refine x_aloadn xc246_973 rfl ?_
  refine x_iloadn xc246_974 rfl ?_
  refine x_iconst xc246_975 ?_
  refine x_iadd xc246_976 ?_
  refine x_sld xc246_977 (by omega) (by omega) (by omega) ?_
  refine x_cV (as := [xV ((xs (i + 1).toNat).toInt)]) (rest := []) xc246_978 rfl xi232 xz87 ⟨rfl, rfl⟩ rfl rfl ?_
  exact k1

theorem wl3_22_0 {Ln : Nat} {xs : Nat → Int32} {d : Nat} {Q : Option Value → pmS → Prop} {i : Int} {a : xA} {b : xB} (hLn : Ln ≤ 3072) (h0 : 0 ≤ i) (h6 : i + 6 ≤ (Ln : Int)) {z z' : Int} (h_z : xR z) (h_z' : xR z')
    (k1 : pmWp (pmRo Ln xs) d 13 246 2 1229 [some (.ref 1001), some (.ref 0), some (.ref 87), some (xV i)] [] (xS a b) Q) :
    pmWp (pmRo Ln xs) d 13 246 2 981 [some (.ref 1001), some (.ref 0), some (.ref 87), some (xV i)] [xV z'] (xS a b) Q := by
  refine x_pop xc246_981 rfl ?_
  refine x_goto xc246_982 ?_
  exact k1

def xHyp22 (Ln : Nat) (xs : Nat → Int32) (Inv : xA → xB → Prop) : Prop := ∀ v0 : Int, xR v0 → ∀ a b, Inv a b → xStep (pmRo Ln xs) 59 116 [.ref 0, xV v0] 232 [.ref 87, xV v0] Inv (fun _ _ => True) a b
theorem xcase22 {Ln : Nat} {xs : Nat → Int32} {Q : Option Value → pmS → Prop} {Inv : xA → xB → Prop} {i : Int} {a : xA} {b : xB} (hLn : Ln ≤ 3072) (h0 : 0 ≤ i) (h6 : i + 6 ≤ (Ln : Int)) (hS : xHyp22 Ln xs Inv) (hI : Inv a b) (hN : ∀ a' b', Inv a' b' → pmWp (pmRo Ln xs) 59 13 246 2 1229 [some (.ref 1001), some (.ref 0), some (.ref 87), some (xV i)] [] (xS a' b') Q) : pmWp (pmRo Ln xs) 59 13 246 2 962 [some (.ref 1001), some (.ref 0), some (.ref 87), some (xV i)] [] (xS a b) Q := by
  refine wl1_22 hLn h0 h6 ?_
  · refine pmCs_mono (hS _ (aB32 _) a b hI) ?_
    rintro r σ1 ⟨z, a1, b1, rfl, hz, rfl, h2⟩
    refine wl2_22_0 hLn h0 h6 hz ?_
    · refine pmCs_mono h2 ?_
      rintro r' σ2 ⟨z', a2, b2, rfl, hz', rfl, hI2, hans⟩
      exact wl3_22_0 hLn h0 h6 hz hz' (hN a2 b2 hI2)

theorem wl1_23 {Ln : Nat} {xs : Nat → Int32} {d : Nat} {Q : Option Value → pmS → Prop} {i : Int} {a : xA} {b : xB} (hLn : Ln ≤ 3072) (h0 : 0 ≤ i) (h6 : i + 6 ≤ (Ln : Int))
    (k1 : pmCs (pmRo Ln xs) d 119 [.ref 0, xV ((xs (i + 1).toNat).toInt)] (xS a b) fun r σ' => pmWp (pmRo Ln xs) d 13 246 2 994 [some (.ref 1001), some (.ref 0), some (.ref 87), some (xV i)] (r.toList ++ []) σ' Q) :
    pmWp (pmRo Ln xs) d 13 246 2 985 [some (.ref 1001), some (.ref 0), some (.ref 87), some (xV i)] [] (xS a b) Q := by
  refine x_aloadn xc246_985 rfl ?_
  refine x_aloadn xc246_986 rfl ?_
  refine x_iloadn xc246_987 rfl ?_
  refine x_iconst xc246_988 ?_
  refine x_iadd xc246_989 ?_
  refine x_sld xc246_990 (by omega) (by omega) (by omega) ?_
  refine x_cV (as := [xV ((xs (i + 1).toNat).toInt)]) (rest := []) xc246_991 rfl xi119 xz0 ⟨rfl, rfl⟩ rfl rfl ?_
  exact k1

theorem wl2_23_0 {Ln : Nat} {xs : Nat → Int32} {d : Nat} {Q : Option Value → pmS → Prop} {i : Int} {a : xA} {b : xB} (hLn : Ln ≤ 3072) (h0 : 0 ≤ i) (h6 : i + 6 ≤ (Ln : Int)) {z : Int} (h_z : xR z)
    (k1 : pmCs (pmRo Ln xs) d 236 [.ref 87, xV ((xs (i + 1).toNat).toInt)] (xS a b) fun r σ' => pmWp (pmRo Ln xs) d 13 246 2 1004 [some (.ref 1001), some (.ref 0), some (.ref 87), some (xV i)] (r.toList ++ []) σ' Q) :
    pmWp (pmRo Ln xs) d 13 246 2 994 [some (.ref 1001), some (.ref 0), some (.ref 87), some (xV i)] [xV z] (xS a b) Q := by
  refine x_pop xc246_994 rfl ?_
  refine x_aloadn xc246_995 rfl ?_
  refine x_aloadn xc246_996 rfl ?_
  refine x_iloadn xc246_997 rfl ?_
  refine x_iconst xc246_998 ?_
  refine x_iadd xc246_999 ?_
  refine x_sld xc246_1000 (by omega) (by omega) (by omega) ?_
  refine x_cV (as := [xV ((xs (i + 1).toNat).toInt)]) (rest := []) xc246_1001 rfl xi236 xz87 ⟨rfl, rfl⟩ rfl rfl ?_
  exact k1

theorem wl3_23_0 {Ln : Nat} {xs : Nat → Int32} {d : Nat} {Q : Option Value → pmS → Prop} {i : Int} {a : xA} {b : xB} (hLn : Ln ≤ 3072) (h0 : 0 ≤ i) (h6 : i + 6 ≤ (Ln : Int)) {z z' : Int} (h_z : xR z) (h_z' : xR z')
    (k1 : pmWp (pmRo Ln xs) d 13 246 2 1229 [some (.ref 1001), some (.ref 0), some (.ref 87), some (xV i)] [] (xS a b) Q) :
    pmWp (pmRo Ln xs) d 13 246 2 1004 [some (.ref 1001), some (.ref 0), some (.ref 87), some (xV i)] [xV z'] (xS a b) Q := by
  refine x_pop xc246_1004 rfl ?_
  refine x_goto xc246_1005 ?_
  exact k1

def xHyp23 (Ln : Nat) (xs : Nat → Int32) (Inv : xA → xB → Prop) : Prop := ∀ v0 : Int, xR v0 → ∀ a b, Inv a b → xStep (pmRo Ln xs) 59 119 [.ref 0, xV v0] 236 [.ref 87, xV v0] Inv (fun _ _ => True) a b
theorem xcase23 {Ln : Nat} {xs : Nat → Int32} {Q : Option Value → pmS → Prop} {Inv : xA → xB → Prop} {i : Int} {a : xA} {b : xB} (hLn : Ln ≤ 3072) (h0 : 0 ≤ i) (h6 : i + 6 ≤ (Ln : Int)) (hS : xHyp23 Ln xs Inv) (hI : Inv a b) (hN : ∀ a' b', Inv a' b' → pmWp (pmRo Ln xs) 59 13 246 2 1229 [some (.ref 1001), some (.ref 0), some (.ref 87), some (xV i)] [] (xS a' b') Q) : pmWp (pmRo Ln xs) 59 13 246 2 985 [some (.ref 1001), some (.ref 0), some (.ref 87), some (xV i)] [] (xS a b) Q := by
  refine wl1_23 hLn h0 h6 ?_
  · refine pmCs_mono (hS _ (aB32 _) a b hI) ?_
    rintro r σ1 ⟨z, a1, b1, rfl, hz, rfl, h2⟩
    refine wl2_23_0 hLn h0 h6 hz ?_
    · refine pmCs_mono h2 ?_
      rintro r' σ2 ⟨z', a2, b2, rfl, hz', rfl, hI2, hans⟩
      exact wl3_23_0 hLn h0 h6 hz hz' (hN a2 b2 hI2)

theorem wl1_24 {Ln : Nat} {xs : Nat → Int32} {d : Nat} {Q : Option Value → pmS → Prop} {i : Int} {a : xA} {b : xB} (hLn : Ln ≤ 3072) (h0 : 0 ≤ i) (h6 : i + 6 ≤ (Ln : Int))
    (k1 : pmCs (pmRo Ln xs) d 120 [.ref 0, xV ((xs (i + 1).toNat).toInt), xV ((xs (i + 2).toNat).toInt), xV ((xs (i + 3).toNat).toInt), xV ((xs (i + 4).toNat).toInt)] (xS a b) fun r σ' => pmWp (pmRo Ln xs) d 13 246 2 1032 [some (.ref 1001), some (.ref 0), some (.ref 87), some (xV i)] (r.toList ++ []) σ' Q) :
    pmWp (pmRo Ln xs) d 13 246 2 1008 [some (.ref 1001), some (.ref 0), some (.ref 87), some (xV i)] [] (xS a b) Q := by
  refine x_aloadn xc246_1008 rfl ?_
  refine x_aloadn xc246_1009 rfl ?_
  refine x_iloadn xc246_1010 rfl ?_
  refine x_iconst xc246_1011 ?_
  refine x_iadd xc246_1012 ?_
  refine x_sld xc246_1013 (by omega) (by omega) (by omega) ?_
  refine x_aloadn xc246_1014 rfl ?_
  refine x_iloadn xc246_1015 rfl ?_
  refine x_iconst xc246_1016 ?_
  refine x_iadd xc246_1017 ?_
  refine x_sld xc246_1018 (by omega) (by omega) (by omega) ?_
  refine x_aloadn xc246_1019 rfl ?_
  refine x_iloadn xc246_1020 rfl ?_
  refine x_iconst xc246_1021 ?_
  refine x_iadd xc246_1022 ?_
  refine x_sld xc246_1023 (by omega) (by omega) (by omega) ?_
  refine x_aloadn xc246_1024 rfl ?_
  refine x_iloadn xc246_1025 rfl ?_
  refine x_iconst xc246_1026 ?_
  refine x_iadd xc246_1027 ?_
  refine x_sld xc246_1028 (by omega) (by omega) (by omega) ?_
  refine x_cV (as := [xV ((xs (i + 1).toNat).toInt), xV ((xs (i + 2).toNat).toInt), xV ((xs (i + 3).toNat).toInt), xV ((xs (i + 4).toNat).toInt)]) (rest := []) xc246_1029 rfl xi120 xz0 ⟨rfl, rfl⟩ rfl rfl ?_
  exact k1

theorem wl2_24_0 {Ln : Nat} {xs : Nat → Int32} {d : Nat} {Q : Option Value → pmS → Prop} {i : Int} {a : xA} {b : xB} (hLn : Ln ≤ 3072) (h0 : 0 ≤ i) (h6 : i + 6 ≤ (Ln : Int)) {z : Int} (h_z : xR z)
    (k1 : pmCs (pmRo Ln xs) d 237 [.ref 87, xV ((xs (i + 1).toNat).toInt), xV ((xs (i + 2).toNat).toInt), xV ((xs (i + 3).toNat).toInt), xV ((xs (i + 4).toNat).toInt)] (xS a b) fun r σ' => pmWp (pmRo Ln xs) d 13 246 2 1057 [some (.ref 1001), some (.ref 0), some (.ref 87), some (xV i)] (r.toList ++ []) σ' Q) :
    pmWp (pmRo Ln xs) d 13 246 2 1032 [some (.ref 1001), some (.ref 0), some (.ref 87), some (xV i)] [xV z] (xS a b) Q := by
  refine x_pop xc246_1032 rfl ?_
  refine x_aloadn xc246_1033 rfl ?_
  refine x_aloadn xc246_1034 rfl ?_
  refine x_iloadn xc246_1035 rfl ?_
  refine x_iconst xc246_1036 ?_
  refine x_iadd xc246_1037 ?_
  refine x_sld xc246_1038 (by omega) (by omega) (by omega) ?_
  refine x_aloadn xc246_1039 rfl ?_
  refine x_iloadn xc246_1040 rfl ?_
  refine x_iconst xc246_1041 ?_
  refine x_iadd xc246_1042 ?_
  refine x_sld xc246_1043 (by omega) (by omega) (by omega) ?_
  refine x_aloadn xc246_1044 rfl ?_
  refine x_iloadn xc246_1045 rfl ?_
  refine x_iconst xc246_1046 ?_
  refine x_iadd xc246_1047 ?_
  refine x_sld xc246_1048 (by omega) (by omega) (by omega) ?_
  refine x_aloadn xc246_1049 rfl ?_
  refine x_iloadn xc246_1050 rfl ?_
  refine x_iconst xc246_1051 ?_
  refine x_iadd xc246_1052 ?_
  refine x_sld xc246_1053 (by omega) (by omega) (by omega) ?_
  refine x_cV (as := [xV ((xs (i + 1).toNat).toInt), xV ((xs (i + 2).toNat).toInt), xV ((xs (i + 3).toNat).toInt), xV ((xs (i + 4).toNat).toInt)]) (rest := []) xc246_1054 rfl xi237 xz87 ⟨rfl, rfl⟩ rfl rfl ?_
  exact k1

theorem wl3_24_0 {Ln : Nat} {xs : Nat → Int32} {d : Nat} {Q : Option Value → pmS → Prop} {i : Int} {a : xA} {b : xB} (hLn : Ln ≤ 3072) (h0 : 0 ≤ i) (h6 : i + 6 ≤ (Ln : Int)) {z z' : Int} (h_z : xR z) (h_z' : xR z')
    (k1 : pmWp (pmRo Ln xs) d 13 246 2 1229 [some (.ref 1001), some (.ref 0), some (.ref 87), some (xV i)] [] (xS a b) Q) :
    pmWp (pmRo Ln xs) d 13 246 2 1057 [some (.ref 1001), some (.ref 0), some (.ref 87), some (xV i)] [xV z'] (xS a b) Q := by
  refine x_pop xc246_1057 rfl ?_
  refine x_goto xc246_1058 ?_
  exact k1

def xHyp24 (Ln : Nat) (xs : Nat → Int32) (Inv : xA → xB → Prop) : Prop := ∀ v0 : Int, xR v0 → ∀ v1 : Int, xR v1 → ∀ v2 : Int, xR v2 → ∀ v3 : Int, xR v3 → ∀ a b, Inv a b → xStep (pmRo Ln xs) 59 120 [.ref 0, xV v0, xV v1, xV v2, xV v3] 237 [.ref 87, xV v0, xV v1, xV v2, xV v3] Inv (fun _ _ => True) a b
theorem xcase24 {Ln : Nat} {xs : Nat → Int32} {Q : Option Value → pmS → Prop} {Inv : xA → xB → Prop} {i : Int} {a : xA} {b : xB} (hLn : Ln ≤ 3072) (h0 : 0 ≤ i) (h6 : i + 6 ≤ (Ln : Int)) (hS : xHyp24 Ln xs Inv) (hI : Inv a b) (hN : ∀ a' b', Inv a' b' → pmWp (pmRo Ln xs) 59 13 246 2 1229 [some (.ref 1001), some (.ref 0), some (.ref 87), some (xV i)] [] (xS a' b') Q) : pmWp (pmRo Ln xs) 59 13 246 2 1008 [some (.ref 1001), some (.ref 0), some (.ref 87), some (xV i)] [] (xS a b) Q := by
  refine wl1_24 hLn h0 h6 ?_
  · refine pmCs_mono (hS _ (aB32 _) _ (aB32 _) _ (aB32 _) _ (aB32 _) a b hI) ?_
    rintro r σ1 ⟨z, a1, b1, rfl, hz, rfl, h2⟩
    refine wl2_24_0 hLn h0 h6 hz ?_
    · refine pmCs_mono h2 ?_
      rintro r' σ2 ⟨z', a2, b2, rfl, hz', rfl, hI2, hans⟩
      exact wl3_24_0 hLn h0 h6 hz hz' (hN a2 b2 hI2)

theorem wl1_25 {Ln : Nat} {xs : Nat → Int32} {d : Nat} {Q : Option Value → pmS → Prop} {i : Int} {a : xA} {b : xB} (hLn : Ln ≤ 3072) (h0 : 0 ≤ i) (h6 : i + 6 ≤ (Ln : Int))
    (k1 : pmCs (pmRo Ln xs) d 124 [.ref 0, xV ((xs (i + 1).toNat).toInt)] (xS a b) fun r σ' => pmWp (pmRo Ln xs) d 13 246 2 1070 [some (.ref 1001), some (.ref 0), some (.ref 87), some (xV i)] (r.toList ++ []) σ' Q) :
    pmWp (pmRo Ln xs) d 13 246 2 1061 [some (.ref 1001), some (.ref 0), some (.ref 87), some (xV i)] [] (xS a b) Q := by
  refine x_aloadn xc246_1061 rfl ?_
  refine x_aloadn xc246_1062 rfl ?_
  refine x_iloadn xc246_1063 rfl ?_
  refine x_iconst xc246_1064 ?_
  refine x_iadd xc246_1065 ?_
  refine x_sld xc246_1066 (by omega) (by omega) (by omega) ?_
  refine x_cV (as := [xV ((xs (i + 1).toNat).toInt)]) (rest := []) xc246_1067 rfl xi124 xz0 ⟨rfl, rfl⟩ rfl rfl ?_
  exact k1

theorem wl2_25_0 {Ln : Nat} {xs : Nat → Int32} {d : Nat} {Q : Option Value → pmS → Prop} {i : Int} {a : xA} {b : xB} (hLn : Ln ≤ 3072) (h0 : 0 ≤ i) (h6 : i + 6 ≤ (Ln : Int)) {z : Int} (h_z : xR z)
    (k1 : pmCs (pmRo Ln xs) d 239 [.ref 87, xV ((xs (i + 1).toNat).toInt)] (xS a b) fun r σ' => pmWp (pmRo Ln xs) d 13 246 2 1080 [some (.ref 1001), some (.ref 0), some (.ref 87), some (xV i)] (r.toList ++ []) σ' Q) :
    pmWp (pmRo Ln xs) d 13 246 2 1070 [some (.ref 1001), some (.ref 0), some (.ref 87), some (xV i)] [xV z] (xS a b) Q := by
  refine x_pop xc246_1070 rfl ?_
  refine x_aloadn xc246_1071 rfl ?_
  refine x_aloadn xc246_1072 rfl ?_
  refine x_iloadn xc246_1073 rfl ?_
  refine x_iconst xc246_1074 ?_
  refine x_iadd xc246_1075 ?_
  refine x_sld xc246_1076 (by omega) (by omega) (by omega) ?_
  refine x_cV (as := [xV ((xs (i + 1).toNat).toInt)]) (rest := []) xc246_1077 rfl xi239 xz87 ⟨rfl, rfl⟩ rfl rfl ?_
  exact k1

theorem wl3_25_0 {Ln : Nat} {xs : Nat → Int32} {d : Nat} {Q : Option Value → pmS → Prop} {i : Int} {a : xA} {b : xB} (hLn : Ln ≤ 3072) (h0 : 0 ≤ i) (h6 : i + 6 ≤ (Ln : Int)) {z z' : Int} (h_z : xR z) (h_z' : xR z')
    (k1 : pmWp (pmRo Ln xs) d 13 246 2 1229 [some (.ref 1001), some (.ref 0), some (.ref 87), some (xV i)] [] (xS a b) Q) :
    pmWp (pmRo Ln xs) d 13 246 2 1080 [some (.ref 1001), some (.ref 0), some (.ref 87), some (xV i)] [xV z'] (xS a b) Q := by
  refine x_pop xc246_1080 rfl ?_
  refine x_goto xc246_1081 ?_
  exact k1

def xHyp25 (Ln : Nat) (xs : Nat → Int32) (Inv : xA → xB → Prop) : Prop := ∀ v0 : Int, xR v0 → ∀ a b, Inv a b → xStep (pmRo Ln xs) 59 124 [.ref 0, xV v0] 239 [.ref 87, xV v0] Inv (fun _ _ => True) a b
theorem xcase25 {Ln : Nat} {xs : Nat → Int32} {Q : Option Value → pmS → Prop} {Inv : xA → xB → Prop} {i : Int} {a : xA} {b : xB} (hLn : Ln ≤ 3072) (h0 : 0 ≤ i) (h6 : i + 6 ≤ (Ln : Int)) (hS : xHyp25 Ln xs Inv) (hI : Inv a b) (hN : ∀ a' b', Inv a' b' → pmWp (pmRo Ln xs) 59 13 246 2 1229 [some (.ref 1001), some (.ref 0), some (.ref 87), some (xV i)] [] (xS a' b') Q) : pmWp (pmRo Ln xs) 59 13 246 2 1061 [some (.ref 1001), some (.ref 0), some (.ref 87), some (xV i)] [] (xS a b) Q := by
  refine wl1_25 hLn h0 h6 ?_
  · refine pmCs_mono (hS _ (aB32 _) a b hI) ?_
    rintro r σ1 ⟨z, a1, b1, rfl, hz, rfl, h2⟩
    refine wl2_25_0 hLn h0 h6 hz ?_
    · refine pmCs_mono h2 ?_
      rintro r' σ2 ⟨z', a2, b2, rfl, hz', rfl, hI2, hans⟩
      exact wl3_25_0 hLn h0 h6 hz hz' (hN a2 b2 hI2)

theorem wl1_26 {Ln : Nat} {xs : Nat → Int32} {d : Nat} {Q : Option Value → pmS → Prop} {i : Int} {a : xA} {b : xB} (hLn : Ln ≤ 3072) (h0 : 0 ≤ i) (h6 : i + 6 ≤ (Ln : Int))
    (k1 : pmCs (pmRo Ln xs) d 127 [.ref 0, xV ((xs (i + 1).toNat).toInt), xV ((xs (i + 2).toNat).toInt), xV ((xs (i + 3).toNat).toInt)] (xS a b) fun r σ' => pmWp (pmRo Ln xs) d 13 246 2 1103 [some (.ref 1001), some (.ref 0), some (.ref 87), some (xV i)] (r.toList ++ []) σ' Q) :
    pmWp (pmRo Ln xs) d 13 246 2 1084 [some (.ref 1001), some (.ref 0), some (.ref 87), some (xV i)] [] (xS a b) Q := by
  refine x_aloadn xc246_1084 rfl ?_
  refine x_aloadn xc246_1085 rfl ?_
  refine x_iloadn xc246_1086 rfl ?_
  refine x_iconst xc246_1087 ?_
  refine x_iadd xc246_1088 ?_
  refine x_sld xc246_1089 (by omega) (by omega) (by omega) ?_
  refine x_aloadn xc246_1090 rfl ?_
  refine x_iloadn xc246_1091 rfl ?_
  refine x_iconst xc246_1092 ?_
  refine x_iadd xc246_1093 ?_
  refine x_sld xc246_1094 (by omega) (by omega) (by omega) ?_
  refine x_aloadn xc246_1095 rfl ?_
  refine x_iloadn xc246_1096 rfl ?_
  refine x_iconst xc246_1097 ?_
  refine x_iadd xc246_1098 ?_
  refine x_sld xc246_1099 (by omega) (by omega) (by omega) ?_
  refine x_cV (as := [xV ((xs (i + 1).toNat).toInt), xV ((xs (i + 2).toNat).toInt), xV ((xs (i + 3).toNat).toInt)]) (rest := []) xc246_1100 rfl xi127 xz0 ⟨rfl, rfl⟩ rfl rfl ?_
  exact k1

theorem wl2_26_0 {Ln : Nat} {xs : Nat → Int32} {d : Nat} {Q : Option Value → pmS → Prop} {i : Int} {a : xA} {b : xB} (hLn : Ln ≤ 3072) (h0 : 0 ≤ i) (h6 : i + 6 ≤ (Ln : Int)) {z : Int} (h_z : xR z)
    (k1 : pmCs (pmRo Ln xs) d 240 [.ref 87, xV ((xs (i + 1).toNat).toInt), xV ((xs (i + 2).toNat).toInt), xV ((xs (i + 3).toNat).toInt)] (xS a b) fun r σ' => pmWp (pmRo Ln xs) d 13 246 2 1123 [some (.ref 1001), some (.ref 0), some (.ref 87), some (xV i)] (r.toList ++ []) σ' Q) :
    pmWp (pmRo Ln xs) d 13 246 2 1103 [some (.ref 1001), some (.ref 0), some (.ref 87), some (xV i)] [xV z] (xS a b) Q := by
  refine x_pop xc246_1103 rfl ?_
  refine x_aloadn xc246_1104 rfl ?_
  refine x_aloadn xc246_1105 rfl ?_
  refine x_iloadn xc246_1106 rfl ?_
  refine x_iconst xc246_1107 ?_
  refine x_iadd xc246_1108 ?_
  refine x_sld xc246_1109 (by omega) (by omega) (by omega) ?_
  refine x_aloadn xc246_1110 rfl ?_
  refine x_iloadn xc246_1111 rfl ?_
  refine x_iconst xc246_1112 ?_
  refine x_iadd xc246_1113 ?_
  refine x_sld xc246_1114 (by omega) (by omega) (by omega) ?_
  refine x_aloadn xc246_1115 rfl ?_
  refine x_iloadn xc246_1116 rfl ?_
  refine x_iconst xc246_1117 ?_
  refine x_iadd xc246_1118 ?_
  refine x_sld xc246_1119 (by omega) (by omega) (by omega) ?_
  refine x_cV (as := [xV ((xs (i + 1).toNat).toInt), xV ((xs (i + 2).toNat).toInt), xV ((xs (i + 3).toNat).toInt)]) (rest := []) xc246_1120 rfl xi240 xz87 ⟨rfl, rfl⟩ rfl rfl ?_
  exact k1

theorem wl3_26_0 {Ln : Nat} {xs : Nat → Int32} {d : Nat} {Q : Option Value → pmS → Prop} {i : Int} {a : xA} {b : xB} (hLn : Ln ≤ 3072) (h0 : 0 ≤ i) (h6 : i + 6 ≤ (Ln : Int)) {z z' : Int} (h_z : xR z) (h_z' : xR z')
    (k1 : pmWp (pmRo Ln xs) d 13 246 2 1229 [some (.ref 1001), some (.ref 0), some (.ref 87), some (xV i)] [] (xS a b) Q) :
    pmWp (pmRo Ln xs) d 13 246 2 1123 [some (.ref 1001), some (.ref 0), some (.ref 87), some (xV i)] [xV z'] (xS a b) Q := by
  refine x_pop xc246_1123 rfl ?_
  refine x_goto xc246_1124 ?_
  exact k1

def xHyp26 (Ln : Nat) (xs : Nat → Int32) (Inv : xA → xB → Prop) : Prop := ∀ v0 : Int, xR v0 → ∀ v1 : Int, xR v1 → ∀ v2 : Int, xR v2 → ∀ a b, Inv a b → xStep (pmRo Ln xs) 59 127 [.ref 0, xV v0, xV v1, xV v2] 240 [.ref 87, xV v0, xV v1, xV v2] Inv (fun _ _ => True) a b
theorem xcase26 {Ln : Nat} {xs : Nat → Int32} {Q : Option Value → pmS → Prop} {Inv : xA → xB → Prop} {i : Int} {a : xA} {b : xB} (hLn : Ln ≤ 3072) (h0 : 0 ≤ i) (h6 : i + 6 ≤ (Ln : Int)) (hS : xHyp26 Ln xs Inv) (hI : Inv a b) (hN : ∀ a' b', Inv a' b' → pmWp (pmRo Ln xs) 59 13 246 2 1229 [some (.ref 1001), some (.ref 0), some (.ref 87), some (xV i)] [] (xS a' b') Q) : pmWp (pmRo Ln xs) 59 13 246 2 1084 [some (.ref 1001), some (.ref 0), some (.ref 87), some (xV i)] [] (xS a b) Q := by
  refine wl1_26 hLn h0 h6 ?_
  · refine pmCs_mono (hS _ (aB32 _) _ (aB32 _) _ (aB32 _) a b hI) ?_
    rintro r σ1 ⟨z, a1, b1, rfl, hz, rfl, h2⟩
    refine wl2_26_0 hLn h0 h6 hz ?_
    · refine pmCs_mono h2 ?_
      rintro r' σ2 ⟨z', a2, b2, rfl, hz', rfl, hI2, hans⟩
      exact wl3_26_0 hLn h0 h6 hz hz' (hN a2 b2 hI2)

theorem wl1_27 {Ln : Nat} {xs : Nat → Int32} {d : Nat} {Q : Option Value → pmS → Prop} {i : Int} {a : xA} {b : xB} (hLn : Ln ≤ 3072) (h0 : 0 ≤ i) (h6 : i + 6 ≤ (Ln : Int))
    (k1 : pmCs (pmRo Ln xs) d 129 [.ref 0, xV ((xs (i + 1).toNat).toInt), xV ((xs (i + 2).toNat).toInt)] (xS a b) fun r σ' => pmWp (pmRo Ln xs) d 13 246 2 1141 [some (.ref 1001), some (.ref 0), some (.ref 87), some (xV i)] (r.toList ++ []) σ' Q) :
    pmWp (pmRo Ln xs) d 13 246 2 1127 [some (.ref 1001), some (.ref 0), some (.ref 87), some (xV i)] [] (xS a b) Q := by
  refine x_aloadn xc246_1127 rfl ?_
  refine x_aloadn xc246_1128 rfl ?_
  refine x_iloadn xc246_1129 rfl ?_
  refine x_iconst xc246_1130 ?_
  refine x_iadd xc246_1131 ?_
  refine x_sld xc246_1132 (by omega) (by omega) (by omega) ?_
  refine x_aloadn xc246_1133 rfl ?_
  refine x_iloadn xc246_1134 rfl ?_
  refine x_iconst xc246_1135 ?_
  refine x_iadd xc246_1136 ?_
  refine x_sld xc246_1137 (by omega) (by omega) (by omega) ?_
  refine x_cV (as := [xV ((xs (i + 1).toNat).toInt), xV ((xs (i + 2).toNat).toInt)]) (rest := []) xc246_1138 rfl xi129 xz0 ⟨rfl, rfl⟩ rfl rfl ?_
  exact k1

theorem wl2_27_0 {Ln : Nat} {xs : Nat → Int32} {d : Nat} {Q : Option Value → pmS → Prop} {i : Int} {a : xA} {b : xB} (hLn : Ln ≤ 3072) (h0 : 0 ≤ i) (h6 : i + 6 ≤ (Ln : Int)) {z : Int} (h_z : xR z)
    (k1 : pmCs (pmRo Ln xs) d 241 [.ref 87, xV ((xs (i + 1).toNat).toInt), xV ((xs (i + 2).toNat).toInt)] (xS a b) fun r σ' => pmWp (pmRo Ln xs) d 13 246 2 1156 [some (.ref 1001), some (.ref 0), some (.ref 87), some (xV i)] (r.toList ++ []) σ' Q) :
    pmWp (pmRo Ln xs) d 13 246 2 1141 [some (.ref 1001), some (.ref 0), some (.ref 87), some (xV i)] [xV z] (xS a b) Q := by
  refine x_pop xc246_1141 rfl ?_
  refine x_aloadn xc246_1142 rfl ?_
  refine x_aloadn xc246_1143 rfl ?_
  refine x_iloadn xc246_1144 rfl ?_
  refine x_iconst xc246_1145 ?_
  refine x_iadd xc246_1146 ?_
  refine x_sld xc246_1147 (by omega) (by omega) (by omega) ?_
  refine x_aloadn xc246_1148 rfl ?_
  refine x_iloadn xc246_1149 rfl ?_
  refine x_iconst xc246_1150 ?_
  refine x_iadd xc246_1151 ?_
  refine x_sld xc246_1152 (by omega) (by omega) (by omega) ?_
  refine x_cV (as := [xV ((xs (i + 1).toNat).toInt), xV ((xs (i + 2).toNat).toInt)]) (rest := []) xc246_1153 rfl xi241 xz87 ⟨rfl, rfl⟩ rfl rfl ?_
  exact k1

theorem wl3_27_0 {Ln : Nat} {xs : Nat → Int32} {d : Nat} {Q : Option Value → pmS → Prop} {i : Int} {a : xA} {b : xB} (hLn : Ln ≤ 3072) (h0 : 0 ≤ i) (h6 : i + 6 ≤ (Ln : Int)) {z z' : Int} (h_z : xR z) (h_z' : xR z')
    (k1 : pmWp (pmRo Ln xs) d 13 246 2 1229 [some (.ref 1001), some (.ref 0), some (.ref 87), some (xV i)] [] (xS a b) Q) :
    pmWp (pmRo Ln xs) d 13 246 2 1156 [some (.ref 1001), some (.ref 0), some (.ref 87), some (xV i)] [xV z'] (xS a b) Q := by
  refine x_pop xc246_1156 rfl ?_
  refine x_goto xc246_1157 ?_
  exact k1

def xHyp27 (Ln : Nat) (xs : Nat → Int32) (Inv : xA → xB → Prop) : Prop := ∀ v0 : Int, xR v0 → ∀ v1 : Int, xR v1 → ∀ a b, Inv a b → xStep (pmRo Ln xs) 59 129 [.ref 0, xV v0, xV v1] 241 [.ref 87, xV v0, xV v1] Inv (fun _ _ => True) a b
theorem xcase27 {Ln : Nat} {xs : Nat → Int32} {Q : Option Value → pmS → Prop} {Inv : xA → xB → Prop} {i : Int} {a : xA} {b : xB} (hLn : Ln ≤ 3072) (h0 : 0 ≤ i) (h6 : i + 6 ≤ (Ln : Int)) (hS : xHyp27 Ln xs Inv) (hI : Inv a b) (hN : ∀ a' b', Inv a' b' → pmWp (pmRo Ln xs) 59 13 246 2 1229 [some (.ref 1001), some (.ref 0), some (.ref 87), some (xV i)] [] (xS a' b') Q) : pmWp (pmRo Ln xs) 59 13 246 2 1127 [some (.ref 1001), some (.ref 0), some (.ref 87), some (xV i)] [] (xS a b) Q := by
  refine wl1_27 hLn h0 h6 ?_
  · refine pmCs_mono (hS _ (aB32 _) _ (aB32 _) a b hI) ?_
    rintro r σ1 ⟨z, a1, b1, rfl, hz, rfl, h2⟩
    refine wl2_27_0 hLn h0 h6 hz ?_
    · refine pmCs_mono h2 ?_
      rintro r' σ2 ⟨z', a2, b2, rfl, hz', rfl, hI2, hans⟩
      exact wl3_27_0 hLn h0 h6 hz hz' (hN a2 b2 hI2)

theorem wl1_28 {Ln : Nat} {xs : Nat → Int32} {d : Nat} {Q : Option Value → pmS → Prop} {i : Int} {a : xA} {b : xB} (hLn : Ln ≤ 3072) (h0 : 0 ≤ i) (h6 : i + 6 ≤ (Ln : Int))
    (k1 : pmCs (pmRo Ln xs) d 132 [.ref 0, xV ((xs (i + 1).toNat).toInt)] (xS a b) fun r σ' => pmWp (pmRo Ln xs) d 13 246 2 1169 [some (.ref 1001), some (.ref 0), some (.ref 87), some (xV i)] (r.toList ++ []) σ' Q) :
    pmWp (pmRo Ln xs) d 13 246 2 1160 [some (.ref 1001), some (.ref 0), some (.ref 87), some (xV i)] [] (xS a b) Q := by
  refine x_aloadn xc246_1160 rfl ?_
  refine x_aloadn xc246_1161 rfl ?_
  refine x_iloadn xc246_1162 rfl ?_
  refine x_iconst xc246_1163 ?_
  refine x_iadd xc246_1164 ?_
  refine x_sld xc246_1165 (by omega) (by omega) (by omega) ?_
  refine x_cV (as := [xV ((xs (i + 1).toNat).toInt)]) (rest := []) xc246_1166 rfl xi132 xz0 ⟨rfl, rfl⟩ rfl rfl ?_
  exact k1

theorem wl2_28_0 {Ln : Nat} {xs : Nat → Int32} {d : Nat} {Q : Option Value → pmS → Prop} {i : Int} {a : xA} {b : xB} (hLn : Ln ≤ 3072) (h0 : 0 ≤ i) (h6 : i + 6 ≤ (Ln : Int)) {z : Int} (h_z : xR z)
    (k1 : pmCs (pmRo Ln xs) d 243 [.ref 87, xV ((xs (i + 1).toNat).toInt)] (xS a b) fun r σ' => pmWp (pmRo Ln xs) d 13 246 2 1179 [some (.ref 1001), some (.ref 0), some (.ref 87), some (xV i)] (r.toList ++ []) σ' Q) :
    pmWp (pmRo Ln xs) d 13 246 2 1169 [some (.ref 1001), some (.ref 0), some (.ref 87), some (xV i)] [xV z] (xS a b) Q := by
  refine x_pop xc246_1169 rfl ?_
  refine x_aloadn xc246_1170 rfl ?_
  refine x_aloadn xc246_1171 rfl ?_
  refine x_iloadn xc246_1172 rfl ?_
  refine x_iconst xc246_1173 ?_
  refine x_iadd xc246_1174 ?_
  refine x_sld xc246_1175 (by omega) (by omega) (by omega) ?_
  refine x_cV (as := [xV ((xs (i + 1).toNat).toInt)]) (rest := []) xc246_1176 rfl xi243 xz87 ⟨rfl, rfl⟩ rfl rfl ?_
  exact k1

theorem wl3_28_0 {Ln : Nat} {xs : Nat → Int32} {d : Nat} {Q : Option Value → pmS → Prop} {i : Int} {a : xA} {b : xB} (hLn : Ln ≤ 3072) (h0 : 0 ≤ i) (h6 : i + 6 ≤ (Ln : Int)) {z z' : Int} (h_z : xR z) (h_z' : xR z')
    (k1 : pmWp (pmRo Ln xs) d 13 246 2 1229 [some (.ref 1001), some (.ref 0), some (.ref 87), some (xV i)] [] (xS a b) Q) :
    pmWp (pmRo Ln xs) d 13 246 2 1179 [some (.ref 1001), some (.ref 0), some (.ref 87), some (xV i)] [xV z'] (xS a b) Q := by
  refine x_pop xc246_1179 rfl ?_
  refine x_goto xc246_1180 ?_
  exact k1

def xHyp28 (Ln : Nat) (xs : Nat → Int32) (Inv : xA → xB → Prop) : Prop := ∀ v0 : Int, xR v0 → ∀ a b, Inv a b → xStep (pmRo Ln xs) 59 132 [.ref 0, xV v0] 243 [.ref 87, xV v0] Inv (fun _ _ => True) a b
theorem xcase28 {Ln : Nat} {xs : Nat → Int32} {Q : Option Value → pmS → Prop} {Inv : xA → xB → Prop} {i : Int} {a : xA} {b : xB} (hLn : Ln ≤ 3072) (h0 : 0 ≤ i) (h6 : i + 6 ≤ (Ln : Int)) (hS : xHyp28 Ln xs Inv) (hI : Inv a b) (hN : ∀ a' b', Inv a' b' → pmWp (pmRo Ln xs) 59 13 246 2 1229 [some (.ref 1001), some (.ref 0), some (.ref 87), some (xV i)] [] (xS a' b') Q) : pmWp (pmRo Ln xs) 59 13 246 2 1160 [some (.ref 1001), some (.ref 0), some (.ref 87), some (xV i)] [] (xS a b) Q := by
  refine wl1_28 hLn h0 h6 ?_
  · refine pmCs_mono (hS _ (aB32 _) a b hI) ?_
    rintro r σ1 ⟨z, a1, b1, rfl, hz, rfl, h2⟩
    refine wl2_28_0 hLn h0 h6 hz ?_
    · refine pmCs_mono h2 ?_
      rintro r' σ2 ⟨z', a2, b2, rfl, hz', rfl, hI2, hans⟩
      exact wl3_28_0 hLn h0 h6 hz hz' (hN a2 b2 hI2)

theorem wl1_29 {Ln : Nat} {xs : Nat → Int32} {d : Nat} {Q : Option Value → pmS → Prop} {i : Int} {a : xA} {b : xB} (hLn : Ln ≤ 3072) (h0 : 0 ≤ i) (h6 : i + 6 ≤ (Ln : Int))
    (k1 : pmCs (pmRo Ln xs) d 133 [.ref 0, xV ((xs (i + 1).toNat).toInt)] (xS a b) fun r σ' => pmWp (pmRo Ln xs) d 13 246 2 1192 [some (.ref 1001), some (.ref 0), some (.ref 87), some (xV i)] (r.toList ++ []) σ' Q) :
    pmWp (pmRo Ln xs) d 13 246 2 1183 [some (.ref 1001), some (.ref 0), some (.ref 87), some (xV i)] [] (xS a b) Q := by
  refine x_aloadn xc246_1183 rfl ?_
  refine x_aloadn xc246_1184 rfl ?_
  refine x_iloadn xc246_1185 rfl ?_
  refine x_iconst xc246_1186 ?_
  refine x_iadd xc246_1187 ?_
  refine x_sld xc246_1188 (by omega) (by omega) (by omega) ?_
  refine x_cV (as := [xV ((xs (i + 1).toNat).toInt)]) (rest := []) xc246_1189 rfl xi133 xz0 ⟨rfl, rfl⟩ rfl rfl ?_
  exact k1

theorem wl2_29_0 {Ln : Nat} {xs : Nat → Int32} {d : Nat} {Q : Option Value → pmS → Prop} {i : Int} {a : xA} {b : xB} (hLn : Ln ≤ 3072) (h0 : 0 ≤ i) (h6 : i + 6 ≤ (Ln : Int)) {z : Int} (h_z : xR z)
    (k1 : pmCs (pmRo Ln xs) d 244 [.ref 87, xV ((xs (i + 1).toNat).toInt)] (xS a b) fun r σ' => pmWp (pmRo Ln xs) d 13 246 2 1202 [some (.ref 1001), some (.ref 0), some (.ref 87), some (xV i)] (r.toList ++ []) σ' Q) :
    pmWp (pmRo Ln xs) d 13 246 2 1192 [some (.ref 1001), some (.ref 0), some (.ref 87), some (xV i)] [xV z] (xS a b) Q := by
  refine x_pop xc246_1192 rfl ?_
  refine x_aloadn xc246_1193 rfl ?_
  refine x_aloadn xc246_1194 rfl ?_
  refine x_iloadn xc246_1195 rfl ?_
  refine x_iconst xc246_1196 ?_
  refine x_iadd xc246_1197 ?_
  refine x_sld xc246_1198 (by omega) (by omega) (by omega) ?_
  refine x_cV (as := [xV ((xs (i + 1).toNat).toInt)]) (rest := []) xc246_1199 rfl xi244 xz87 ⟨rfl, rfl⟩ rfl rfl ?_
  exact k1

theorem wl3_29_0 {Ln : Nat} {xs : Nat → Int32} {d : Nat} {Q : Option Value → pmS → Prop} {i : Int} {a : xA} {b : xB} (hLn : Ln ≤ 3072) (h0 : 0 ≤ i) (h6 : i + 6 ≤ (Ln : Int)) {z z' : Int} (h_z : xR z) (h_z' : xR z')
    (k1 : pmWp (pmRo Ln xs) d 13 246 2 1229 [some (.ref 1001), some (.ref 0), some (.ref 87), some (xV i)] [] (xS a b) Q) :
    pmWp (pmRo Ln xs) d 13 246 2 1202 [some (.ref 1001), some (.ref 0), some (.ref 87), some (xV i)] [xV z'] (xS a b) Q := by
  refine x_pop xc246_1202 rfl ?_
  refine x_goto xc246_1203 ?_
  exact k1

def xHyp29 (Ln : Nat) (xs : Nat → Int32) (Inv : xA → xB → Prop) : Prop := ∀ v0 : Int, xR v0 → ∀ a b, Inv a b → xStep (pmRo Ln xs) 59 133 [.ref 0, xV v0] 244 [.ref 87, xV v0] Inv (fun _ _ => True) a b
theorem xcase29 {Ln : Nat} {xs : Nat → Int32} {Q : Option Value → pmS → Prop} {Inv : xA → xB → Prop} {i : Int} {a : xA} {b : xB} (hLn : Ln ≤ 3072) (h0 : 0 ≤ i) (h6 : i + 6 ≤ (Ln : Int)) (hS : xHyp29 Ln xs Inv) (hI : Inv a b) (hN : ∀ a' b', Inv a' b' → pmWp (pmRo Ln xs) 59 13 246 2 1229 [some (.ref 1001), some (.ref 0), some (.ref 87), some (xV i)] [] (xS a' b') Q) : pmWp (pmRo Ln xs) 59 13 246 2 1183 [some (.ref 1001), some (.ref 0), some (.ref 87), some (xV i)] [] (xS a b) Q := by
  refine wl1_29 hLn h0 h6 ?_
  · refine pmCs_mono (hS _ (aB32 _) a b hI) ?_
    rintro r σ1 ⟨z, a1, b1, rfl, hz, rfl, h2⟩
    refine wl2_29_0 hLn h0 h6 hz ?_
    · refine pmCs_mono h2 ?_
      rintro r' σ2 ⟨z', a2, b2, rfl, hz', rfl, hI2, hans⟩
      exact wl3_29_0 hLn h0 h6 hz hz' (hN a2 b2 hI2)

theorem wl1_30 {Ln : Nat} {xs : Nat → Int32} {d : Nat} {Q : Option Value → pmS → Prop} {i : Int} {a : xA} {b : xB} (hLn : Ln ≤ 3072) (h0 : 0 ≤ i) (h6 : i + 6 ≤ (Ln : Int))
    (k1 : pmCs (pmRo Ln xs) d 134 [.ref 0, xV ((xs (i + 1).toNat).toInt)] (xS a b) fun r σ' => pmWp (pmRo Ln xs) d 13 246 2 1215 [some (.ref 1001), some (.ref 0), some (.ref 87), some (xV i)] (r.toList ++ []) σ' Q) :
    pmWp (pmRo Ln xs) d 13 246 2 1206 [some (.ref 1001), some (.ref 0), some (.ref 87), some (xV i)] [] (xS a b) Q := by
  refine x_aloadn xc246_1206 rfl ?_
  refine x_aloadn xc246_1207 rfl ?_
  refine x_iloadn xc246_1208 rfl ?_
  refine x_iconst xc246_1209 ?_
  refine x_iadd xc246_1210 ?_
  refine x_sld xc246_1211 (by omega) (by omega) (by omega) ?_
  refine x_cV (as := [xV ((xs (i + 1).toNat).toInt)]) (rest := []) xc246_1212 rfl xi134 xz0 ⟨rfl, rfl⟩ rfl rfl ?_
  exact k1

theorem wl2_30_0 {Ln : Nat} {xs : Nat → Int32} {d : Nat} {Q : Option Value → pmS → Prop} {i : Int} {a : xA} {b : xB} (hLn : Ln ≤ 3072) (h0 : 0 ≤ i) (h6 : i + 6 ≤ (Ln : Int)) {z : Int} (h_z : xR z)
    (k1 : pmCs (pmRo Ln xs) d 245 [.ref 87, xV ((xs (i + 1).toNat).toInt)] (xS a b) fun r σ' => pmWp (pmRo Ln xs) d 13 246 2 1225 [some (.ref 1001), some (.ref 0), some (.ref 87), some (xV i)] (r.toList ++ []) σ' Q) :
    pmWp (pmRo Ln xs) d 13 246 2 1215 [some (.ref 1001), some (.ref 0), some (.ref 87), some (xV i)] [xV z] (xS a b) Q := by
  refine x_pop xc246_1215 rfl ?_
  refine x_aloadn xc246_1216 rfl ?_
  refine x_aloadn xc246_1217 rfl ?_
  refine x_iloadn xc246_1218 rfl ?_
  refine x_iconst xc246_1219 ?_
  refine x_iadd xc246_1220 ?_
  refine x_sld xc246_1221 (by omega) (by omega) (by omega) ?_
  refine x_cV (as := [xV ((xs (i + 1).toNat).toInt)]) (rest := []) xc246_1222 rfl xi245 xz87 ⟨rfl, rfl⟩ rfl rfl ?_
  exact k1

theorem wl3_30_0 {Ln : Nat} {xs : Nat → Int32} {d : Nat} {Q : Option Value → pmS → Prop} {i : Int} {a : xA} {b : xB} (hLn : Ln ≤ 3072) (h0 : 0 ≤ i) (h6 : i + 6 ≤ (Ln : Int)) {z z' : Int} (h_z : xR z) (h_z' : xR z')
    (k1 : pmWp (pmRo Ln xs) d 13 246 2 1229 [some (.ref 1001), some (.ref 0), some (.ref 87), some (xV i)] [] (xS a b) Q) :
    pmWp (pmRo Ln xs) d 13 246 2 1225 [some (.ref 1001), some (.ref 0), some (.ref 87), some (xV i)] [xV z'] (xS a b) Q := by
  refine x_pop xc246_1225 rfl ?_
  refine x_goto xc246_1226 ?_
  exact k1

def xHyp30 (Ln : Nat) (xs : Nat → Int32) (Inv : xA → xB → Prop) : Prop := ∀ v0 : Int, xR v0 → ∀ a b, Inv a b → xStep (pmRo Ln xs) 59 134 [.ref 0, xV v0] 245 [.ref 87, xV v0] Inv (fun _ _ => True) a b
theorem xcase30 {Ln : Nat} {xs : Nat → Int32} {Q : Option Value → pmS → Prop} {Inv : xA → xB → Prop} {i : Int} {a : xA} {b : xB} (hLn : Ln ≤ 3072) (h0 : 0 ≤ i) (h6 : i + 6 ≤ (Ln : Int)) (hS : xHyp30 Ln xs Inv) (hI : Inv a b) (hN : ∀ a' b', Inv a' b' → pmWp (pmRo Ln xs) 59 13 246 2 1229 [some (.ref 1001), some (.ref 0), some (.ref 87), some (xV i)] [] (xS a' b') Q) : pmWp (pmRo Ln xs) 59 13 246 2 1206 [some (.ref 1001), some (.ref 0), some (.ref 87), some (xV i)] [] (xS a b) Q := by
  refine wl1_30 hLn h0 h6 ?_
  · refine pmCs_mono (hS _ (aB32 _) a b hI) ?_
    rintro r σ1 ⟨z, a1, b1, rfl, hz, rfl, h2⟩
    refine wl2_30_0 hLn h0 h6 hz ?_
    · refine pmCs_mono h2 ?_
      rintro r' σ2 ⟨z', a2, b2, rfl, hz', rfl, hI2, hans⟩
      exact wl3_30_0 hLn h0 h6 hz hz' (hN a2 b2 hI2)

theorem xLoop {Ln : Nat} {xs : Nat → Int32} {Q : Option Value → pmS → Prop} {Inv : xA → xB → Prop} (hLn : Ln ≤ 3072) (hS0 : xHyp0 Ln xs Inv) (hS1 : xHyp1 Ln xs Inv) (hS2 : xHyp2 Ln xs Inv) (hS3 : xHyp3 Ln xs Inv) (hS4 : xHyp4 Ln xs Inv) (hS5 : xHyp5 Ln xs Inv) (hS6 : xHyp6 Ln xs Inv) (hS7 : xHyp7 Ln xs Inv) (hS8 : xHyp8 Ln xs Inv) (hS9 : xHyp9 Ln xs Inv) (hS10 : xHyp10 Ln xs Inv) (hS11 : xHyp11 Ln xs Inv) (hS12 : xHyp12 Ln xs Inv) (hS13 : xHyp13 Ln xs Inv) (hS14 : xHyp14 Ln xs Inv) (hS15 : xHyp15 Ln xs Inv) (hS16 : xHyp16 Ln xs Inv) (hS17 : xHyp17 Ln xs Inv) (hS18 : xHyp18 Ln xs Inv) (hS19 : xHyp19 Ln xs Inv) (hS20 : xHyp20 Ln xs Inv) (hS21 : xHyp21 Ln xs Inv) (hS22 : xHyp22 Ln xs Inv) (hS23 : xHyp23 Ln xs Inv) (hS24 : xHyp24 Ln xs Inv) (hS25 : xHyp25 Ln xs Inv) (hS26 : xHyp26 Ln xs Inv) (hS27 : xHyp27 Ln xs Inv) (hS28 : xHyp28 Ln xs Inv) (hS29 : xHyp29 Ln xs Inv) (hS30 : xHyp30 Ln xs Inv) (hQ : ∀ a b, Inv a b → Q (some (xV 1)) (xS a b)) : ∀ (n : Nat) (i : Int) (a : xA) (b : xB), 0 ≤ i → i ≤ 3072 → (Ln : Int) - i ≤ n → Inv a b → pmWp (pmRo Ln xs) 59 13 246 2 18 [some (.ref 1001), some (.ref 0), some (.ref 87), some (xV i)] [] (xS a b) Q := by
  intro n
  induction n with
  | zero =>
    intro i a b h0 h1 h2 hI
    refine wlh hLn h0 h1 (fun _ => hQ a b hI) (by intro e0 e1; exfalso; omega) (by intro e0 e1 e2; exfalso; omega) (by intro e0 e1 e2 e3; exfalso; omega) (by intro e0 e1 e2 e3 e4; exfalso; omega) (by intro e0 e1 e2 e3 e4 e5; exfalso; omega) (by intro e0 e1 e2 e3 e4 e5 e6; exfalso; omega) (by intro e0 e1 e2 e3 e4 e5 e6 e7; exfalso; omega) (by intro e0 e1 e2 e3 e4 e5 e6 e7 e8; exfalso; omega) (by intro e0 e1 e2 e3 e4 e5 e6 e7 e8 e9; exfalso; omega) (by intro e0 e1 e2 e3 e4 e5 e6 e7 e8 e9 e10; exfalso; omega) (by intro e0 e1 e2 e3 e4 e5 e6 e7 e8 e9 e10 e11; exfalso; omega) (by intro e0 e1 e2 e3 e4 e5 e6 e7 e8 e9 e10 e11 e12; exfalso; omega) (by intro e0 e1 e2 e3 e4 e5 e6 e7 e8 e9 e10 e11 e12 e13; exfalso; omega) (by intro e0 e1 e2 e3 e4 e5 e6 e7 e8 e9 e10 e11 e12 e13 e14; exfalso; omega) (by intro e0 e1 e2 e3 e4 e5 e6 e7 e8 e9 e10 e11 e12 e13 e14 e15; exfalso; omega) (by intro e0 e1 e2 e3 e4 e5 e6 e7 e8 e9 e10 e11 e12 e13 e14 e15 e16; exfalso; omega) (by intro e0 e1 e2 e3 e4 e5 e6 e7 e8 e9 e10 e11 e12 e13 e14 e15 e16 e17; exfalso; omega) (by intro e0 e1 e2 e3 e4 e5 e6 e7 e8 e9 e10 e11 e12 e13 e14 e15 e16 e17 e18; exfalso; omega) (by intro e0 e1 e2 e3 e4 e5 e6 e7 e8 e9 e10 e11 e12 e13 e14 e15 e16 e17 e18 e19; exfalso; omega) (by intro e0 e1 e2 e3 e4 e5 e6 e7 e8 e9 e10 e11 e12 e13 e14 e15 e16 e17 e18 e19 e20; exfalso; omega) (by intro e0 e1 e2 e3 e4 e5 e6 e7 e8 e9 e10 e11 e12 e13 e14 e15 e16 e17 e18 e19 e20 e21; exfalso; omega) (by intro e0 e1 e2 e3 e4 e5 e6 e7 e8 e9 e10 e11 e12 e13 e14 e15 e16 e17 e18 e19 e20 e21 e22; exfalso; omega) (by intro e0 e1 e2 e3 e4 e5 e6 e7 e8 e9 e10 e11 e12 e13 e14 e15 e16 e17 e18 e19 e20 e21 e22 e23; exfalso; omega) (by intro e0 e1 e2 e3 e4 e5 e6 e7 e8 e9 e10 e11 e12 e13 e14 e15 e16 e17 e18 e19 e20 e21 e22 e23 e24; exfalso; omega) (by intro e0 e1 e2 e3 e4 e5 e6 e7 e8 e9 e10 e11 e12 e13 e14 e15 e16 e17 e18 e19 e20 e21 e22 e23 e24 e25; exfalso; omega) (by intro e0 e1 e2 e3 e4 e5 e6 e7 e8 e9 e10 e11 e12 e13 e14 e15 e16 e17 e18 e19 e20 e21 e22 e23 e24 e25 e26; exfalso; omega) (by intro e0 e1 e2 e3 e4 e5 e6 e7 e8 e9 e10 e11 e12 e13 e14 e15 e16 e17 e18 e19 e20 e21 e22 e23 e24 e25 e26 e27; exfalso; omega) (by intro e0 e1 e2 e3 e4 e5 e6 e7 e8 e9 e10 e11 e12 e13 e14 e15 e16 e17 e18 e19 e20 e21 e22 e23 e24 e25 e26 e27 e28; exfalso; omega) (by intro e0 e1 e2 e3 e4 e5 e6 e7 e8 e9 e10 e11 e12 e13 e14 e15 e16 e17 e18 e19 e20 e21 e22 e23 e24 e25 e26 e27 e28 e29; exfalso; omega) (by intro e0 e1 e2 e3 e4 e5 e6 e7 e8 e9 e10 e11 e12 e13 e14 e15 e16 e17 e18 e19 e20 e21 e22 e23 e24 e25 e26 e27 e28 e29 e30; exfalso; omega) (by intro e0 e1 e2 e3 e4 e5 e6 e7 e8 e9 e10 e11 e12 e13 e14 e15 e16 e17 e18 e19 e20 e21 e22 e23 e24 e25 e26 e27 e28 e29 e30 e31; exfalso; omega) (by intro e0 e1 e2 e3 e4 e5 e6 e7 e8 e9 e10 e11 e12 e13 e14 e15 e16 e17 e18 e19 e20 e21 e22 e23 e24 e25 e26 e27 e28 e29 e30 e31; exfalso; omega)
  | succ n ih =>
    intro i a b h0 h1 h2 hI
    have hD : ∀ a' b', Inv a' b' → i + 6 ≤ (Ln : Int) → pmWp (pmRo Ln xs) 59 13 246 2 1229 [some (.ref 1001), some (.ref 0), some (.ref 87), some (xV i)] [] (xS a' b') Q := fun a' b' hI' h6 => wld hLn h0 h1 (ih (i + 6) a' b' (by omega) (by omega) (by omega) hI')
    refine wlh hLn h0 h1 (fun _ => hQ a b hI) (by intro e0 e1; exact xcase0 hLn h0 (by omega) hS0 hI (fun a' b' hI' => hD a' b' hI' (by omega))) (by intro e0 e1 e2; exact xcase1 hLn h0 (by omega) hS1 hI (fun a' b' hI' => hD a' b' hI' (by omega))) (by intro e0 e1 e2 e3; exact xcase2 hLn h0 (by omega) hS2 hI (fun a' b' hI' => hD a' b' hI' (by omega))) (by intro e0 e1 e2 e3 e4; exact xcase3 hLn h0 (by omega) hS3 hI (fun a' b' hI' => hD a' b' hI' (by omega))) (by intro e0 e1 e2 e3 e4 e5; exact xcase4 hLn h0 (by omega) hS4 hI (fun a' b' hI' => hD a' b' hI' (by omega))) (by intro e0 e1 e2 e3 e4 e5 e6; exact xcase5 hLn h0 (by omega) hS5 hI (fun a' b' hI' => hD a' b' hI' (by omega))) (by intro e0 e1 e2 e3 e4 e5 e6 e7; exact xcase6 hLn h0 (by omega) hS6 hI (fun a' b' hI' => hD a' b' hI' (by omega))) (by intro e0 e1 e2 e3 e4 e5 e6 e7 e8; exact xcase7 hLn h0 (by omega) hS7 hI (fun a' b' hI' => hD a' b' hI' (by omega))) (by intro e0 e1 e2 e3 e4 e5 e6 e7 e8 e9; exact xcase8 hLn h0 (by omega) hS8 hI (fun a' b' hI' => hD a' b' hI' (by omega))) (by intro e0 e1 e2 e3 e4 e5 e6 e7 e8 e9 e10; exact xcase9 hLn h0 (by omega) hS9 hI (fun a' b' hI' => hD a' b' hI' (by omega))) (by intro e0 e1 e2 e3 e4 e5 e6 e7 e8 e9 e10 e11; exact xcase10 hLn h0 (by omega) hS10 hI (fun a' b' hI' => hD a' b' hI' (by omega))) (by intro e0 e1 e2 e3 e4 e5 e6 e7 e8 e9 e10 e11 e12; exact xcase11 hLn h0 (by omega) hS11 hI (fun a' b' hI' => hD a' b' hI' (by omega))) (by intro e0 e1 e2 e3 e4 e5 e6 e7 e8 e9 e10 e11 e12 e13; exact xcase12 hLn h0 (by omega) hS12 hI (fun a' b' hI' => hD a' b' hI' (by omega))) (by intro e0 e1 e2 e3 e4 e5 e6 e7 e8 e9 e10 e11 e12 e13 e14; exact xcase13 hLn h0 (by omega) hS13 hI (fun a' b' hI' => hD a' b' hI' (by omega))) (by intro e0 e1 e2 e3 e4 e5 e6 e7 e8 e9 e10 e11 e12 e13 e14 e15; exact xcase14 hLn h0 (by omega) hS14 hI (fun a' b' hI' => hD a' b' hI' (by omega))) (by intro e0 e1 e2 e3 e4 e5 e6 e7 e8 e9 e10 e11 e12 e13 e14 e15 e16; exact xcase15 hLn h0 (by omega) hS15 hI (fun a' b' hI' => hD a' b' hI' (by omega))) (by intro e0 e1 e2 e3 e4 e5 e6 e7 e8 e9 e10 e11 e12 e13 e14 e15 e16 e17; exact xcase16 hLn h0 (by omega) hS16 hI (fun a' b' hI' => hD a' b' hI' (by omega))) (by intro e0 e1 e2 e3 e4 e5 e6 e7 e8 e9 e10 e11 e12 e13 e14 e15 e16 e17 e18; exact xcase17 hLn h0 (by omega) hS17 hI (fun a' b' hI' => hD a' b' hI' (by omega))) (by intro e0 e1 e2 e3 e4 e5 e6 e7 e8 e9 e10 e11 e12 e13 e14 e15 e16 e17 e18 e19; exact xcase18 hLn h0 (by omega) hS18 hI (fun a' b' hI' => hD a' b' hI' (by omega))) (by intro e0 e1 e2 e3 e4 e5 e6 e7 e8 e9 e10 e11 e12 e13 e14 e15 e16 e17 e18 e19 e20; exact xcase19 hLn h0 (by omega) hS19 hI (fun a' b' hI' => hD a' b' hI' (by omega))) (by intro e0 e1 e2 e3 e4 e5 e6 e7 e8 e9 e10 e11 e12 e13 e14 e15 e16 e17 e18 e19 e20 e21; exact xcase20 hLn h0 (by omega) hS20 hI (fun a' b' hI' => hD a' b' hI' (by omega))) (by intro e0 e1 e2 e3 e4 e5 e6 e7 e8 e9 e10 e11 e12 e13 e14 e15 e16 e17 e18 e19 e20 e21 e22; exact xcase21 hLn h0 (by omega) hS21 hI (fun a' b' hI' => hD a' b' hI' (by omega))) (by intro e0 e1 e2 e3 e4 e5 e6 e7 e8 e9 e10 e11 e12 e13 e14 e15 e16 e17 e18 e19 e20 e21 e22 e23; exact xcase22 hLn h0 (by omega) hS22 hI (fun a' b' hI' => hD a' b' hI' (by omega))) (by intro e0 e1 e2 e3 e4 e5 e6 e7 e8 e9 e10 e11 e12 e13 e14 e15 e16 e17 e18 e19 e20 e21 e22 e23 e24; exact xcase23 hLn h0 (by omega) hS23 hI (fun a' b' hI' => hD a' b' hI' (by omega))) (by intro e0 e1 e2 e3 e4 e5 e6 e7 e8 e9 e10 e11 e12 e13 e14 e15 e16 e17 e18 e19 e20 e21 e22 e23 e24 e25; exact xcase24 hLn h0 (by omega) hS24 hI (fun a' b' hI' => hD a' b' hI' (by omega))) (by intro e0 e1 e2 e3 e4 e5 e6 e7 e8 e9 e10 e11 e12 e13 e14 e15 e16 e17 e18 e19 e20 e21 e22 e23 e24 e25 e26; exact xcase25 hLn h0 (by omega) hS25 hI (fun a' b' hI' => hD a' b' hI' (by omega))) (by intro e0 e1 e2 e3 e4 e5 e6 e7 e8 e9 e10 e11 e12 e13 e14 e15 e16 e17 e18 e19 e20 e21 e22 e23 e24 e25 e26 e27; exact xcase26 hLn h0 (by omega) hS26 hI (fun a' b' hI' => hD a' b' hI' (by omega))) (by intro e0 e1 e2 e3 e4 e5 e6 e7 e8 e9 e10 e11 e12 e13 e14 e15 e16 e17 e18 e19 e20 e21 e22 e23 e24 e25 e26 e27 e28; exact xcase27 hLn h0 (by omega) hS27 hI (fun a' b' hI' => hD a' b' hI' (by omega))) (by intro e0 e1 e2 e3 e4 e5 e6 e7 e8 e9 e10 e11 e12 e13 e14 e15 e16 e17 e18 e19 e20 e21 e22 e23 e24 e25 e26 e27 e28 e29; exact xcase28 hLn h0 (by omega) hS28 hI (fun a' b' hI' => hD a' b' hI' (by omega))) (by intro e0 e1 e2 e3 e4 e5 e6 e7 e8 e9 e10 e11 e12 e13 e14 e15 e16 e17 e18 e19 e20 e21 e22 e23 e24 e25 e26 e27 e28 e29 e30; exact xcase29 hLn h0 (by omega) hS29 hI (fun a' b' hI' => hD a' b' hI' (by omega))) (by intro e0 e1 e2 e3 e4 e5 e6 e7 e8 e9 e10 e11 e12 e13 e14 e15 e16 e17 e18 e19 e20 e21 e22 e23 e24 e25 e26 e27 e28 e29 e30 e31; exact xcase30 hLn h0 (by omega) hS30 hI (fun a' b' hI' => hD a' b' hI' (by omega))) (by intro e0 e1 e2 e3 e4 e5 e6 e7 e8 e9 e10 e11 e12 e13 e14 e15 e16 e17 e18 e19 e20 e21 e22 e23 e24 e25 e26 e27 e28 e29 e30 e31; exact hD a b hI (by omega))

end
