section
/-! exact: the reference plans -/
section
set_option maxRecDepth 100000
theorem xi190 : pmInf[190]? = some pmI_190 := rfl
theorem xc190_0 : pmCode 190 0 = some (.aload_n 0) ∧ 0 + 1 = 1 := ⟨rfl, rfl⟩
theorem xc190_1 : pmCode 190 1 = some (.iconst 0) ∧ 1 + 1 = 2 := ⟨rfl, rfl⟩
theorem xc190_2 : pmCode 190 2 = some (.putfield 288) ∧ 2 + 3 = 5 := ⟨rfl, rfl⟩
theorem xc190_5 : pmCode 190 5 = some (.iconst 0) ∧ 5 + 1 = 6 := ⟨rfl, rfl⟩
theorem xc190_6 : pmCode 190 6 = some (.istore_n 3) ∧ 6 + 1 = 7 := ⟨rfl, rfl⟩
theorem xc190_7 : pmCode 190 7 = some (.aload_n 0) ∧ 7 + 1 = 8 := ⟨rfl, rfl⟩
theorem xc190_8 : pmCode 190 8 = some (.getfield 84) ∧ 8 + 3 = 11 := ⟨rfl, rfl⟩
theorem xc190_11 : pmCode 190 11 = some (.iconst 0) ∧ 11 + 1 = 12 := ⟨rfl, rfl⟩
theorem xc190_12 : pmCode 190 12 = some (.iconst 0) ∧ 12 + 1 = 13 := ⟨rfl, rfl⟩
theorem xc190_13 : pmCode 190 13 = some .iastore ∧ 13 + 1 = 14 := ⟨rfl, rfl⟩
theorem xc190_14 : pmCode 190 14 = some (.aload_n 0) ∧ 14 + 1 = 15 := ⟨rfl, rfl⟩
theorem xc190_15 : pmCode 190 15 = some (.getfield 87) ∧ 15 + 3 = 18 := ⟨rfl, rfl⟩
theorem xc190_18 : pmCode 190 18 = some (.iconst 0) ∧ 18 + 1 = 19 := ⟨rfl, rfl⟩
theorem xc190_19 : pmCode 190 19 = some (.iconst 0) ∧ 19 + 1 = 20 := ⟨rfl, rfl⟩
theorem xc190_20 : pmCode 190 20 = some .iastore ∧ 20 + 1 = 21 := ⟨rfl, rfl⟩
theorem xc190_21 : pmCode 190 21 = some (.iload_n 3) ∧ 21 + 1 = 22 := ⟨rfl, rfl⟩
theorem xc190_22 : pmCode 190 22 = some (.ifCond .lt 211) ∧ ((22 : Nat) : Int) + 211 = ((233 : Nat) : Int) ∧ 22 + 3 = 25 := ⟨rfl, rfl, rfl⟩
theorem xc190_25 : pmCode 190 25 = some (.aload_n 0) ∧ 25 + 1 = 26 := ⟨rfl, rfl⟩
theorem xc190_26 : pmCode 190 26 = some (.getfield 84) ∧ 26 + 3 = 29 := ⟨rfl, rfl⟩
theorem xc190_29 : pmCode 190 29 = some (.iload_n 3) ∧ 29 + 1 = 30 := ⟨rfl, rfl⟩
theorem xc190_30 : pmCode 190 30 = some .iaload ∧ 30 + 1 = 31 := ⟨rfl, rfl⟩
theorem xc190_31 : pmCode 190 31 = some (.istore 4) ∧ 31 + 2 = 33 := ⟨rfl, rfl⟩
theorem xc190_33 : pmCode 190 33 = some (.aload_n 0) ∧ 33 + 1 = 34 := ⟨rfl, rfl⟩
theorem xc190_34 : pmCode 190 34 = some (.getfield 84) ∧ 34 + 3 = 37 := ⟨rfl, rfl⟩
theorem xc190_37 : pmCode 190 37 = some (.iload_n 3) ∧ 37 + 1 = 38 := ⟨rfl, rfl⟩
theorem xc190_38 : pmCode 190 38 = some (.iload 4) ∧ 38 + 2 = 40 := ⟨rfl, rfl⟩
theorem xc190_40 : pmCode 190 40 = some (.iconst 1) ∧ 40 + 1 = 41 := ⟨rfl, rfl⟩
theorem xc190_41 : pmCode 190 41 = some .iadd ∧ 41 + 1 = 42 := ⟨rfl, rfl⟩
theorem xc190_42 : pmCode 190 42 = some .iastore ∧ 42 + 1 = 43 := ⟨rfl, rfl⟩
theorem xc190_43 : pmCode 190 43 = some (.iload 4) ∧ 43 + 2 = 45 := ⟨rfl, rfl⟩
theorem xc190_45 : pmCode 190 45 = some (.bipush 40) ∧ 45 + 2 = 47 := ⟨rfl, rfl⟩
theorem xc190_47 : pmCode 190 47 = some (.if_icmp .le 10) ∧ ((47 : Nat) : Int) + 10 = ((57 : Nat) : Int) ∧ 47 + 3 = 50 := ⟨rfl, rfl, rfl⟩
theorem xc190_50 : pmCode 190 50 = some (.iload_n 3) ∧ 50 + 1 = 51 := ⟨rfl, rfl⟩
theorem xc190_51 : pmCode 190 51 = some (.iconst 1) ∧ 51 + 1 = 52 := ⟨rfl, rfl⟩
theorem xc190_52 : pmCode 190 52 = some .isub ∧ 52 + 1 = 53 := ⟨rfl, rfl⟩
theorem xc190_53 : pmCode 190 53 = some (.istore_n 3) ∧ 53 + 1 = 54 := ⟨rfl, rfl⟩
theorem xc190_54 : pmCode 190 54 = some (.goto (-33)) ∧ ((54 : Nat) : Int) + (-33) = ((21 : Nat) : Int) := ⟨rfl, rfl⟩
theorem xc190_57 : pmCode 190 57 = some (.aload_n 0) ∧ 57 + 1 = 58 := ⟨rfl, rfl⟩
theorem xc190_58 : pmCode 190 58 = some (.iload_n 3) ∧ 58 + 1 = 59 := ⟨rfl, rfl⟩
theorem xc190_59 : pmCode 190 59 = some (.iload_n 1) ∧ 59 + 1 = 60 := ⟨rfl, rfl⟩
theorem xc190_60 : pmCode 190 60 = some (.iload 4) ∧ 60 + 2 = 62 := ⟨rfl, rfl⟩
theorem xc190_62 : pmCode 190 62 = some (.invokevirtual 291) ∧ 62 + 3 = 65 := ⟨rfl, rfl⟩
theorem xc190_65 : pmCode 190 65 = some (.ifCond .ne 6) ∧ ((65 : Nat) : Int) + 6 = ((71 : Nat) : Int) ∧ 65 + 3 = 68 := ⟨rfl, rfl, rfl⟩
theorem xc190_68 : pmCode 190 68 = some (.goto (-47)) ∧ ((68 : Nat) : Int) + (-47) = ((21 : Nat) : Int) := ⟨rfl, rfl⟩
theorem xc190_71 : pmCode 190 71 = some (.aload_n 0) ∧ 71 + 1 = 72 := ⟨rfl, rfl⟩
theorem xc190_72 : pmCode 190 72 = some (.getfield 87) ∧ 72 + 3 = 75 := ⟨rfl, rfl⟩
theorem xc190_75 : pmCode 190 75 = some (.iload_n 3) ∧ 75 + 1 = 76 := ⟨rfl, rfl⟩
theorem xc190_76 : pmCode 190 76 = some .iaload ∧ 76 + 1 = 77 := ⟨rfl, rfl⟩
theorem xc190_77 : pmCode 190 77 = some (.aload_n 0) ∧ 77 + 1 = 78 := ⟨rfl, rfl⟩
theorem xc190_78 : pmCode 190 78 = some (.getfield 23) ∧ 78 + 3 = 81 := ⟨rfl, rfl⟩
theorem xc190_81 : pmCode 190 81 = some (.iload 4) ∧ 81 + 2 = 83 := ⟨rfl, rfl⟩
theorem xc190_83 : pmCode 190 83 = some (.invokestatic 279) ∧ 83 + 3 = 86 := ⟨rfl, rfl⟩
theorem xc190_86 : pmCode 190 86 = some .iaload ∧ 86 + 1 = 87 := ⟨rfl, rfl⟩
theorem xc190_87 : pmCode 190 87 = some .iadd ∧ 87 + 1 = 88 := ⟨rfl, rfl⟩
theorem xc190_88 : pmCode 190 88 = some (.istore 5) ∧ 88 + 2 = 90 := ⟨rfl, rfl⟩
theorem xc190_90 : pmCode 190 90 = some (.iload_n 3) ∧ 90 + 1 = 91 := ⟨rfl, rfl⟩
theorem xc190_91 : pmCode 190 91 = some (.iconst 1) ∧ 91 + 1 = 92 := ⟨rfl, rfl⟩
theorem xc190_92 : pmCode 190 92 = some .iadd ∧ 92 + 1 = 93 := ⟨rfl, rfl⟩
theorem xc190_93 : pmCode 190 93 = some (.istore 6) ∧ 93 + 2 = 95 := ⟨rfl, rfl⟩
theorem xc190_95 : pmCode 190 95 = some (.aload_n 0) ∧ 95 + 1 = 96 := ⟨rfl, rfl⟩
theorem xc190_96 : pmCode 190 96 = some (.getfield 288) ∧ 96 + 3 = 99 := ⟨rfl, rfl⟩
theorem xc190_99 : pmCode 190 99 = some (.ifCond .le 33) ∧ ((99 : Nat) : Int) + 33 = ((132 : Nat) : Int) ∧ 99 + 3 = 102 := ⟨rfl, rfl, rfl⟩
theorem xc190_102 : pmCode 190 102 = some (.iload 5) ∧ 102 + 2 = 104 := ⟨rfl, rfl⟩
theorem xc190_104 : pmCode 190 104 = some (.aload_n 0) ∧ 104 + 1 = 105 := ⟨rfl, rfl⟩
theorem xc190_105 : pmCode 190 105 = some (.getfield 294) ∧ 105 + 3 = 108 := ⟨rfl, rfl⟩
theorem xc190_108 : pmCode 190 108 = some (.if_icmp .gt (-87)) ∧ ((108 : Nat) : Int) + (-87) = ((21 : Nat) : Int) ∧ 108 + 3 = 111 := ⟨rfl, rfl, rfl⟩
theorem xc190_111 : pmCode 190 111 = some (.iload 5) ∧ 111 + 2 = 113 := ⟨rfl, rfl⟩
theorem xc190_113 : pmCode 190 113 = some (.aload_n 0) ∧ 113 + 1 = 114 := ⟨rfl, rfl⟩
theorem xc190_114 : pmCode 190 114 = some (.getfield 294) ∧ 114 + 3 = 117 := ⟨rfl, rfl⟩
theorem xc190_117 : pmCode 190 117 = some (.if_icmp .ne 15) ∧ ((117 : Nat) : Int) + 15 = ((132 : Nat) : Int) ∧ 117 + 3 = 120 := ⟨rfl, rfl, rfl⟩
theorem xc190_120 : pmCode 190 120 = some (.iload 6) ∧ 120 + 2 = 122 := ⟨rfl, rfl⟩
theorem xc190_122 : pmCode 190 122 = some (.aload_n 0) ∧ 122 + 1 = 123 := ⟨rfl, rfl⟩
theorem xc190_123 : pmCode 190 123 = some (.getfield 288) ∧ 123 + 3 = 126 := ⟨rfl, rfl⟩
theorem xc190_126 : pmCode 190 126 = some (.if_icmp .lt 6) ∧ ((126 : Nat) : Int) + 6 = ((132 : Nat) : Int) ∧ 126 + 3 = 129 := ⟨rfl, rfl, rfl⟩
theorem xc190_129 : pmCode 190 129 = some (.goto (-108)) ∧ ((129 : Nat) : Int) + (-108) = ((21 : Nat) : Int) := ⟨rfl, rfl⟩
theorem xc190_132 : pmCode 190 132 = some (.aload_n 0) ∧ 132 + 1 = 133 := ⟨rfl, rfl⟩
theorem xc190_133 : pmCode 190 133 = some (.iload_n 3) ∧ 133 + 1 = 134 := ⟨rfl, rfl⟩
theorem xc190_134 : pmCode 190 134 = some (.iload_n 1) ∧ 134 + 1 = 135 := ⟨rfl, rfl⟩
theorem xc190_135 : pmCode 190 135 = some (.iload 4) ∧ 135 + 2 = 137 := ⟨rfl, rfl⟩
theorem xc190_137 : pmCode 190 137 = some (.invokevirtual 297) ∧ 137 + 3 = 140 := ⟨rfl, rfl⟩
theorem xc190_140 : pmCode 190 140 = some (.aload_n 0) ∧ 140 + 1 = 141 := ⟨rfl, rfl⟩
theorem xc190_141 : pmCode 190 141 = some (.getfield 78) ∧ 141 + 3 = 144 := ⟨rfl, rfl⟩
theorem xc190_144 : pmCode 190 144 = some (.iload_n 3) ∧ 144 + 1 = 145 := ⟨rfl, rfl⟩
theorem xc190_145 : pmCode 190 145 = some (.iload 4) ∧ 145 + 2 = 147 := ⟨rfl, rfl⟩
theorem xc190_147 : pmCode 190 147 = some .iastore ∧ 147 + 1 = 148 := ⟨rfl, rfl⟩
theorem xc190_148 : pmCode 190 148 = some (.aload_n 0) ∧ 148 + 1 = 149 := ⟨rfl, rfl⟩
theorem xc190_149 : pmCode 190 149 = some (.iload 6) ∧ 149 + 2 = 151 := ⟨rfl, rfl⟩
theorem xc190_151 : pmCode 190 151 = some (.iload_n 1) ∧ 151 + 1 = 152 := ⟨rfl, rfl⟩
theorem xc190_152 : pmCode 190 152 = some (.iload_n 2) ∧ 152 + 1 = 153 := ⟨rfl, rfl⟩
theorem xc190_153 : pmCode 190 153 = some (.invokevirtual 300) ∧ 153 + 3 = 156 := ⟨rfl, rfl⟩
theorem xc190_156 : pmCode 190 156 = some (.ifCond .eq 48) ∧ ((156 : Nat) : Int) + 48 = ((204 : Nat) : Int) ∧ 156 + 3 = 159 := ⟨rfl, rfl, rfl⟩
theorem xc190_159 : pmCode 190 159 = some (.aload_n 0) ∧ 159 + 1 = 160 := ⟨rfl, rfl⟩
theorem xc190_160 : pmCode 190 160 = some (.iload 5) ∧ 160 + 2 = 162 := ⟨rfl, rfl⟩
theorem xc190_162 : pmCode 190 162 = some (.putfield 294) ∧ 162 + 3 = 165 := ⟨rfl, rfl⟩
theorem xc190_165 : pmCode 190 165 = some (.aload_n 0) ∧ 165 + 1 = 166 := ⟨rfl, rfl⟩
theorem xc190_166 : pmCode 190 166 = some (.iload 6) ∧ 166 + 2 = 168 := ⟨rfl, rfl⟩
theorem xc190_168 : pmCode 190 168 = some (.putfield 288) ∧ 168 + 3 = 171 := ⟨rfl, rfl⟩
theorem xc190_171 : pmCode 190 171 = some (.iconst 0) ∧ 171 + 1 = 172 := ⟨rfl, rfl⟩
theorem xc190_172 : pmCode 190 172 = some (.istore 7) ∧ 172 + 2 = 174 := ⟨rfl, rfl⟩
theorem xc190_174 : pmCode 190 174 = some (.iload 7) ∧ 174 + 2 = 176 := ⟨rfl, rfl⟩
theorem xc190_176 : pmCode 190 176 = some (.iload 6) ∧ 176 + 2 = 178 := ⟨rfl, rfl⟩
theorem xc190_178 : pmCode 190 178 = some (.if_icmp .ge 23) ∧ ((178 : Nat) : Int) + 23 = ((201 : Nat) : Int) ∧ 178 + 3 = 181 := ⟨rfl, rfl, rfl⟩
theorem xc190_181 : pmCode 190 181 = some (.aload_n 0) ∧ 181 + 1 = 182 := ⟨rfl, rfl⟩
theorem xc190_182 : pmCode 190 182 = some (.getfield 81) ∧ 182 + 3 = 185 := ⟨rfl, rfl⟩
theorem xc190_185 : pmCode 190 185 = some (.iload 7) ∧ 185 + 2 = 187 := ⟨rfl, rfl⟩
theorem xc190_187 : pmCode 190 187 = some (.aload_n 0) ∧ 187 + 1 = 188 := ⟨rfl, rfl⟩
theorem xc190_188 : pmCode 190 188 = some (.getfield 78) ∧ 188 + 3 = 191 := ⟨rfl, rfl⟩
theorem xc190_191 : pmCode 190 191 = some (.iload 7) ∧ 191 + 2 = 193 := ⟨rfl, rfl⟩
theorem xc190_193 : pmCode 190 193 = some .iaload ∧ 193 + 1 = 194 := ⟨rfl, rfl⟩
theorem xc190_194 : pmCode 190 194 = some .iastore ∧ 194 + 1 = 195 := ⟨rfl, rfl⟩
theorem xc190_195 : pmCode 190 195 = some (.iinc 7 1) ∧ 195 + 3 = 198 := ⟨rfl, rfl⟩
theorem xc190_198 : pmCode 190 198 = some (.goto (-24)) ∧ ((198 : Nat) : Int) + (-24) = ((174 : Nat) : Int) := ⟨rfl, rfl⟩
theorem xc190_201 : pmCode 190 201 = some (.goto 29) ∧ ((201 : Nat) : Int) + 29 = ((230 : Nat) : Int) := ⟨rfl, rfl⟩
theorem xc190_204 : pmCode 190 204 = some (.iload 6) ∧ 204 + 2 = 206 := ⟨rfl, rfl⟩
theorem xc190_206 : pmCode 190 206 = some (.iconst 4) ∧ 206 + 1 = 207 := ⟨rfl, rfl⟩
theorem xc190_207 : pmCode 190 207 = some (.if_icmp .ge 23) ∧ ((207 : Nat) : Int) + 23 = ((230 : Nat) : Int) ∧ 207 + 3 = 210 := ⟨rfl, rfl, rfl⟩
theorem xc190_210 : pmCode 190 210 = some (.iload 6) ∧ 210 + 2 = 212 := ⟨rfl, rfl⟩
theorem xc190_212 : pmCode 190 212 = some (.istore_n 3) ∧ 212 + 1 = 213 := ⟨rfl, rfl⟩
theorem xc190_213 : pmCode 190 213 = some (.aload_n 0) ∧ 213 + 1 = 214 := ⟨rfl, rfl⟩
theorem xc190_214 : pmCode 190 214 = some (.getfield 84) ∧ 214 + 3 = 217 := ⟨rfl, rfl⟩
theorem xc190_217 : pmCode 190 217 = some (.iload 6) ∧ 217 + 2 = 219 := ⟨rfl, rfl⟩
theorem xc190_219 : pmCode 190 219 = some (.iconst 0) ∧ 219 + 1 = 220 := ⟨rfl, rfl⟩
theorem xc190_220 : pmCode 190 220 = some .iastore ∧ 220 + 1 = 221 := ⟨rfl, rfl⟩
theorem xc190_221 : pmCode 190 221 = some (.aload_n 0) ∧ 221 + 1 = 222 := ⟨rfl, rfl⟩
theorem xc190_222 : pmCode 190 222 = some (.getfield 87) ∧ 222 + 3 = 225 := ⟨rfl, rfl⟩
theorem xc190_225 : pmCode 190 225 = some (.iload 6) ∧ 225 + 2 = 227 := ⟨rfl, rfl⟩
theorem xc190_227 : pmCode 190 227 = some (.iload 5) ∧ 227 + 2 = 229 := ⟨rfl, rfl⟩
theorem xc190_229 : pmCode 190 229 = some .iastore ∧ 229 + 1 = 230 := ⟨rfl, rfl⟩
theorem xc190_230 : pmCode 190 230 = some (.goto (-209)) ∧ ((230 : Nat) : Int) + (-209) = ((21 : Nat) : Int) := ⟨rfl, rfl⟩
theorem xc190_233 : pmCode 190 233 = some (.aload_n 0) ∧ 233 + 1 = 234 := ⟨rfl, rfl⟩
theorem xc190_234 : pmCode 190 234 = some (.getfield 288) ∧ 234 + 3 = 237 := ⟨rfl, rfl⟩
theorem xc190_237 : pmCode 190 237 = some (.ifCond .le 7) ∧ ((237 : Nat) : Int) + 7 = ((244 : Nat) : Int) ∧ 237 + 3 = 240 := ⟨rfl, rfl, rfl⟩
theorem xc190_240 : pmCode 190 240 = some (.iconst 1) ∧ 240 + 1 = 241 := ⟨rfl, rfl⟩
theorem xc190_241 : pmCode 190 241 = some (.goto 4) ∧ ((241 : Nat) : Int) + 4 = ((245 : Nat) : Int) := ⟨rfl, rfl⟩
theorem xc190_244 : pmCode 190 244 = some (.iconst 0) ∧ 244 + 1 = 245 := ⟨rfl, rfl⟩
theorem xc190_245 : pmCode 190 245 = some .ireturn := rfl
theorem w190 {ro : Nat → Nat × (Nat → Int32)} {d : Nat} {Q : Option Value → pmS → Prop} {f k : Int} {a : xA} {b : xB}
    (k1 : pmWp ro d 12 190 2 21 [some (.ref 87), some (xV f), some (xV k), some (xV 0), none, none, none, none] [] (xS (xU (xU (xU a 87 34 0) 112 0 0) 113 0 0) b) Q) :
    pmWp ro d 12 190 2 0 [some (.ref 87), some (xV f), some (xV k), none, none, none, none, none] [] (xS a b) Q := by
  refine x_aloadn xc190_0 rfl ?_
  refine x_iconst xc190_1 ?_
  refine x_pfi (k := 34) xc190_2 rfl ⟨rfl, rfl⟩ rfl xz87 ?_
  refine x_iconst xc190_5 ?_
  refine x_istoren (pl' := [some (.ref 87), some (xV f), some (xV k), some (xV 0), none, none, none, none]) xc190_6 rfl rfl ?_
  refine x_aloadn xc190_7 rfl ?_
  refine x_gfr xc190_8 rfl rfl xz87 rfl ?_
  refine x_iconst xc190_11 ?_
  refine x_iconst xc190_12 ?_
  refine x_ias xc190_13 xz112 (by omega) (by omega) (by omega) ?_
  refine x_aloadn xc190_14 rfl ?_
  refine x_gfr xc190_15 rfl rfl xz87 rfl ?_
  refine x_iconst xc190_18 ?_
  refine x_iconst xc190_19 ?_
  refine x_ias xc190_20 xz113 (by omega) (by omega) (by omega) ?_
  exact k1

theorem xg190 {ro : Nat → Nat × (Nat → Int32)} {d : Nat} {Q : Option Value → pmS → Prop} {a : xA} {b : xB} {f k : Int} (h : pmWp ro d 12 190 2 0 [some (.ref 87), some (xV f), some (xV k), none, none, none, none, none] [] (xS a b) Q) : pmCs ro (d + 1) 190 [.ref 87, xV f, xV k] (xS a b) Q := x_go xi190 rfl rfl rfl rfl rfl h
theorem w190x {ro : Nat → Nat × (Nat → Int32)} {d : Nat} {Q : Option Value → pmS → Prop} {v4 : Option Value} {v5 : Option Value} {v6 : Option Value} {v7 : Option Value} {f k m : Int} {a : xA} {b : xB} (hm : a 87 34 = m) (hm0 : 0 ≤ m ∧ m ≤ 4)
    (k1 : (m ≤ 0) → Q (some (xV 0)) (xS a b))
    (k2 : (¬ m ≤ 0) → Q (some (xV 1)) (xS a b)) :
    pmWp ro d 12 190 2 21 [some (.ref 87), some (xV f), some (xV k), some (xV (-1)), v4, v5, v6, v7] [] (xS a b) Q := by
  refine x_iloadn xc190_21 rfl ?_
  refine x_iflt xc190_22 (xRk (by decide)) (fun _ => ?_) (fun h => absurd h (by omega))
  refine x_aloadn xc190_233 rfl ?_
  refine x_gfi' (k := 34) (v := m) xc190_234 rfl (Or.inl rfl) rfl xz87 hm ?_
  refine x_ifle xc190_237 (xRk (by have g0 := hm0; omega)) (fun h1 => ?_) (fun h1 => ?_)
  · refine x_iconst xc190_244 ?_
    refine x_iret xc190_245 (Or.inr ⟨rfl, (by omega)⟩) ?_
    exact k1 h1
  · refine x_iconst xc190_240 ?_
    refine x_goto xc190_241 ?_
    refine x_iret xc190_245 (Or.inr ⟨rfl, (by omega)⟩) ?_
    exact k2 h1

theorem w190a {ro : Nat → Nat × (Nat → Int32)} {d : Nat} {Q : Option Value → pmS → Prop} {v4 : Option Value} {v5 : Option Value} {v6 : Option Value} {v7 : Option Value} {f k lv c : Int} {a : xA} {b : xB} (hlv : 0 ≤ lv ∧ lv ≤ 3) (hc : a 112 lv = c) (hc0 : 0 ≤ c ∧ c ≤ 41)
    (k1 : (c ≤ 40) → pmCs ro d 191 [.ref 87, xV lv, xV f, xV c] (xS (xU a 112 lv (c + 1)) b) fun r σ' => pmWp ro d 12 190 2 65 [some (.ref 87), some (xV f), some (xV k), some (xV lv), some (xV c), v5, v6, v7] (r.toList ++ []) σ' Q)
    (k2 : (¬ c ≤ 40) → pmWp ro d 12 190 2 21 [some (.ref 87), some (xV f), some (xV k), some (xV (lv - 1)), some (xV c), v5, v6, v7] [] (xS (xU a 112 lv (c + 1)) b) Q) :
    pmWp ro d 12 190 2 21 [some (.ref 87), some (xV f), some (xV k), some (xV lv), v4, v5, v6, v7] [] (xS a b) Q := by
  refine x_iloadn xc190_21 rfl ?_
  refine x_iflt xc190_22 (xRk (by have g0 := hlv; omega)) (fun h => absurd h (by omega)) (fun _ => ?_)
  refine x_aloadn xc190_25 rfl ?_
  refine x_gfr xc190_26 rfl rfl xz87 rfl ?_
  refine x_iloadn xc190_29 rfl ?_
  refine x_ial' (v := c) xc190_30 xz112 rfl (by have g0 := hlv; omega) (by have g0 := hlv; omega) (by have g0 := hlv; omega) hc ?_
  refine x_istore (pl' := [some (.ref 87), some (xV f), some (xV k), some (xV lv), some (xV c), v5, v6, v7]) xc190_31 rfl rfl ?_
  refine x_aloadn xc190_33 rfl ?_
  refine x_gfr xc190_34 rfl rfl xz87 rfl ?_
  refine x_iloadn xc190_37 rfl ?_
  refine x_iload xc190_38 rfl ?_
  refine x_iconst xc190_40 ?_
  refine x_iadd xc190_41 ?_
  refine x_ias xc190_42 xz112 (by have g0 := hlv; omega) (by have g0 := hlv; omega) (by have g0 := hlv; omega) ?_
  refine x_iload xc190_43 rfl ?_
  refine x_bipush xc190_45 (by decide) ?_
  refine x_icle xc190_47 (xRk (by have g0 := hc0; omega)) (xRk (by decide)) (fun h1 => ?_) (fun h1 => ?_)
  · refine x_aloadn xc190_57 rfl ?_
    refine x_iloadn xc190_58 rfl ?_
    refine x_iloadn xc190_59 rfl ?_
    refine x_iload xc190_60 rfl ?_
    refine x_cV (as := [xV lv, xV f, xV c]) (rest := []) xc190_62 rfl xi191 xz87 ⟨rfl, rfl⟩ rfl rfl ?_
    exact k1 h1
  · refine x_iloadn xc190_50 rfl ?_
    refine x_iconst xc190_51 ?_
    refine x_isub xc190_52 ?_
    refine x_istoren (pl' := [some (.ref 87), some (xV f), some (xV k), some (xV (lv - 1)), some (xV c), v5, v6, v7]) xc190_53 rfl rfl ?_
    refine x_goto xc190_54 ?_
    exact k2 h1

theorem w190b {ro : Nat → Nat × (Nat → Int32)} {d : Nat} {Q : Option Value → pmS → Prop} {v5 : Option Value} {v6 : Option Value} {v7 : Option Value} {f k lv c z co pc m bc : Int} {a : xA} {b : xB} (hd : 1 ≤ d) (hz : z = 0 ∨ z = 1) (hlv : 0 ≤ lv ∧ lv ≤ 3) (hc0 : 0 ≤ c ∧ c ≤ 40) (hkc : 1 ≤ uK c ∧ uK c ≤ 5) (hco : a 113 lv = co) (hco0 : 0 ≤ co ∧ co ≤ 36) (hpc : a 92 (uK c) = pc) (hpc0 : 1 ≤ pc ∧ pc ≤ 9) (hm : a 87 34 = m) (hm0 : 0 ≤ m ∧ m ≤ 4) (hbc : a 87 33 = bc) (hbc0 : -2147483648 ≤ bc ∧ bc ≤ 2147483647)
    (k1 : (¬ z = 0) → (m ≤ 0) → pmCs ro d 196 [.ref 87, xV lv, xV f, xV c] (xS a b) fun r σ' => pmWp ro d 12 190 2 140 [some (.ref 87), some (xV f), some (xV k), some (xV lv), some (xV c), some (xV (co + pc)), some (xV (lv + 1)), v7] (r.toList ++ []) σ' Q)
    (k2 : (¬ z = 0) → (¬ m ≤ 0) → (bc < co + pc) → pmWp ro d 12 190 2 21 [some (.ref 87), some (xV f), some (xV k), some (xV lv), some (xV c), some (xV (co + pc)), some (xV (lv + 1)), v7] [] (xS a b) Q)
    (k3 : (¬ z = 0) → (¬ m ≤ 0) → (¬ bc < co + pc) → (¬ co + pc = bc) → pmCs ro d 196 [.ref 87, xV lv, xV f, xV c] (xS a b) fun r σ' => pmWp ro d 12 190 2 140 [some (.ref 87), some (xV f), some (xV k), some (xV lv), some (xV c), some (xV (co + pc)), some (xV (lv + 1)), v7] (r.toList ++ []) σ' Q)
    (k4 : (¬ z = 0) → (¬ m ≤ 0) → (¬ bc < co + pc) → (co + pc = bc) → (lv + 1 < m) → pmCs ro d 196 [.ref 87, xV lv, xV f, xV c] (xS a b) fun r σ' => pmWp ro d 12 190 2 140 [some (.ref 87), some (xV f), some (xV k), some (xV lv), some (xV c), some (xV (co + pc)), some (xV (lv + 1)), v7] (r.toList ++ []) σ' Q)
    (k5 : (¬ z = 0) → (¬ m ≤ 0) → (¬ bc < co + pc) → (co + pc = bc) → (¬ lv + 1 < m) → pmWp ro d 12 190 2 21 [some (.ref 87), some (xV f), some (xV k), some (xV lv), some (xV c), some (xV (co + pc)), some (xV (lv + 1)), v7] [] (xS a b) Q)
    (k6 : (z = 0) → pmWp ro d 12 190 2 21 [some (.ref 87), some (xV f), some (xV k), some (xV lv), some (xV c), v5, v6, v7] [] (xS a b) Q) :
    pmWp ro d 12 190 2 65 [some (.ref 87), some (xV f), some (xV k), some (xV lv), some (xV c), v5, v6, v7] [xV z] (xS a b) Q := by
  refine x_ifne xc190_65 (xRk (by have g0 := hz; omega)) (fun h0 => ?_) (fun h0 => ?_)
  · refine x_aloadn xc190_71 rfl ?_
    refine x_gfr xc190_72 rfl rfl xz87 rfl ?_
    refine x_iloadn xc190_75 rfl ?_
    refine x_ial' (v := co) xc190_76 xz113 rfl (by have g0 := hlv; omega) (by have g0 := hlv; omega) (by have g0 := hlv; omega) hco ?_
    refine x_aloadn xc190_77 rfl ?_
    refine x_gfr xc190_78 rfl rfl xz87 rfl ?_
    refine x_iload xc190_81 rfl ?_
    refine x_cS (as := [xV c]) (rest := [.ref 92, xV co]) xc190_83 rfl rfl xi193 ⟨rfl, rfl⟩ rfl rfl ?_
    refine rk193 (by omega) ⟨by omega, by omega⟩ ?_
    refine x_ial' (v := pc) xc190_86 xz92 rfl (by have g0 := hkc; omega) (by have g0 := hkc; omega) (by have g0 := hkc; omega) hpc ?_
    refine x_iadd xc190_87 ?_
    refine x_istore (pl' := [some (.ref 87), some (xV f), some (xV k), some (xV lv), some (xV c), some (xV (co + pc)), v6, v7]) xc190_88 rfl rfl ?_
    refine x_iloadn xc190_90 rfl ?_
    refine x_iconst xc190_91 ?_
    refine x_iadd xc190_92 ?_
    refine x_istore (pl' := [some (.ref 87), some (xV f), some (xV k), some (xV lv), some (xV c), some (xV (co + pc)), some (xV (lv + 1)), v7]) xc190_93 rfl rfl ?_
    refine x_aloadn xc190_95 rfl ?_
    refine x_gfi' (k := 34) (v := m) xc190_96 rfl (Or.inl rfl) rfl xz87 hm ?_
    refine x_ifle xc190_99 (xRk (by have g0 := hm0; omega)) (fun h1 => ?_) (fun h1 => ?_)
    · refine x_aloadn xc190_132 rfl ?_
      refine x_iloadn xc190_133 rfl ?_
      refine x_iloadn xc190_134 rfl ?_
      refine x_iload xc190_135 rfl ?_
      refine x_cV (as := [xV lv, xV f, xV c]) (rest := []) xc190_137 rfl xi196 xz87 ⟨rfl, rfl⟩ rfl rfl ?_
      exact k1 h0 h1
    · refine x_iload xc190_102 rfl ?_
      refine x_aloadn xc190_104 rfl ?_
      refine x_gfi' (k := 33) (v := bc) xc190_105 rfl (Or.inl rfl) rfl xz87 hbc ?_
      refine x_icgt xc190_108 (xRk (by have g0 := hco0; have g1 := hpc0; omega)) (xRk (by have g0 := hbc0; omega)) (fun h2 => ?_) (fun h2 => ?_)
      · exact k2 h0 h1 h2
      · refine x_iload xc190_111 rfl ?_
        refine x_aloadn xc190_113 rfl ?_
        refine x_gfi' (k := 33) (v := bc) xc190_114 rfl (Or.inl rfl) rfl xz87 hbc ?_
        refine x_icne xc190_117 (xRk (by have g0 := hco0; have g1 := hpc0; omega)) (xRk (by have g0 := hbc0; omega)) (fun h3 => ?_) (fun h3 => ?_)
        · refine x_aloadn xc190_132 rfl ?_
          refine x_iloadn xc190_133 rfl ?_
          refine x_iloadn xc190_134 rfl ?_
          refine x_iload xc190_135 rfl ?_
          refine x_cV (as := [xV lv, xV f, xV c]) (rest := []) xc190_137 rfl xi196 xz87 ⟨rfl, rfl⟩ rfl rfl ?_
          exact k3 h0 h1 h2 h3
        · replace h3 := Classical.not_not.mp h3
          refine x_iload xc190_120 rfl ?_
          refine x_aloadn xc190_122 rfl ?_
          refine x_gfi' (k := 34) (v := m) xc190_123 rfl (Or.inl rfl) rfl xz87 hm ?_
          refine x_iclt xc190_126 (xRk (by have g0 := hlv; omega)) (xRk (by have g0 := hm0; omega)) (fun h4 => ?_) (fun h4 => ?_)
          · refine x_aloadn xc190_132 rfl ?_
            refine x_iloadn xc190_133 rfl ?_
            refine x_iloadn xc190_134 rfl ?_
            refine x_iload xc190_135 rfl ?_
            refine x_cV (as := [xV lv, xV f, xV c]) (rest := []) xc190_137 rfl xi196 xz87 ⟨rfl, rfl⟩ rfl rfl ?_
            exact k4 h0 h1 h2 h3 h4
          · refine x_goto xc190_129 ?_
            exact k5 h0 h1 h2 h3 h4
  · replace h0 := Classical.not_not.mp h0
    refine x_goto xc190_68 ?_
    exact k6 h0

theorem w190c {ro : Nat → Nat × (Nat → Int32)} {d : Nat} {Q : Option Value → pmS → Prop} {v7 : Option Value} {f k lv c co nn : Int} {a : xA} {b : xB} (hlv : 0 ≤ lv ∧ lv ≤ 3) (hnn : 1 ≤ nn ∧ nn ≤ 4)
    (k1 : pmCs ro d 187 [.ref 87, xV nn, xV f, xV k] (xS (xU a 110 lv c) b) fun r σ' => pmWp ro d 12 190 2 156 [some (.ref 87), some (xV f), some (xV k), some (xV lv), some (xV c), some (xV co), some (xV nn), v7] (r.toList ++ []) σ' Q) :
    pmWp ro d 12 190 2 140 [some (.ref 87), some (xV f), some (xV k), some (xV lv), some (xV c), some (xV co), some (xV nn), v7] [] (xS a b) Q := by
  refine x_aloadn xc190_140 rfl ?_
  refine x_gfr xc190_141 rfl rfl xz87 rfl ?_
  refine x_iloadn xc190_144 rfl ?_
  refine x_iload xc190_145 rfl ?_
  refine x_ias xc190_147 xz110 (by have g0 := hlv; omega) (by have g0 := hlv; omega) (by have g0 := hlv; omega) ?_
  refine x_aloadn xc190_148 rfl ?_
  refine x_iload xc190_149 rfl ?_
  refine x_iloadn xc190_151 rfl ?_
  refine x_iloadn xc190_152 rfl ?_
  refine x_cV (as := [xV nn, xV f, xV k]) (rest := []) xc190_153 rfl xi187 xz87 ⟨rfl, rfl⟩ rfl rfl ?_
  exact k1

theorem w190d {ro : Nat → Nat × (Nat → Int32)} {d : Nat} {Q : Option Value → pmS → Prop} {v7 : Option Value} {f k lv c co nn z : Int} {a : xA} {b : xB} (hlv : 0 ≤ lv ∧ lv ≤ 3) (hnn : 1 ≤ nn ∧ nn ≤ 4) (hz : z = 0 ∨ z = 1)
    (k1 : (z = 0) → (4 ≤ nn) → pmWp ro d 12 190 2 21 [some (.ref 87), some (xV f), some (xV k), some (xV lv), some (xV c), some (xV co), some (xV nn), v7] [] (xS a b) Q)
    (k2 : (z = 0) → (¬ 4 ≤ nn) → pmWp ro d 12 190 2 21 [some (.ref 87), some (xV f), some (xV k), some (xV nn), some (xV c), some (xV co), some (xV nn), v7] [] (xS (xU (xU a 112 nn 0) 113 nn co) b) Q)
    (k3 : (¬ z = 0) → pmWp ro d 12 190 2 174 [some (.ref 87), some (xV f), some (xV k), some (xV lv), some (xV c), some (xV co), some (xV nn), some (xV 0)] [] (xS (xU (xU a 87 33 co) 87 34 nn) b) Q) :
    pmWp ro d 12 190 2 156 [some (.ref 87), some (xV f), some (xV k), some (xV lv), some (xV c), some (xV co), some (xV nn), v7] [xV z] (xS a b) Q := by
  refine x_ifeq xc190_156 (xRk (by have g0 := hz; omega)) (fun h0 => ?_) (fun h0 => ?_)
  · refine x_iload xc190_204 rfl ?_
    refine x_iconst xc190_206 ?_
    refine x_icge xc190_207 (xRk (by have g0 := hnn; omega)) (xRk (by decide)) (fun h1 => ?_) (fun h1 => ?_)
    · refine x_goto xc190_230 ?_
      exact k1 h0 h1
    · refine x_iload xc190_210 rfl ?_
      refine x_istoren (pl' := [some (.ref 87), some (xV f), some (xV k), some (xV nn), some (xV c), some (xV co), some (xV nn), v7]) xc190_212 rfl rfl ?_
      refine x_aloadn xc190_213 rfl ?_
      refine x_gfr xc190_214 rfl rfl xz87 rfl ?_
      refine x_iload xc190_217 rfl ?_
      refine x_iconst xc190_219 ?_
      refine x_ias xc190_220 xz112 (by have g0 := hnn; omega) (by have g0 := hnn; omega) (by have g0 := hnn; omega) ?_
      refine x_aloadn xc190_221 rfl ?_
      refine x_gfr xc190_222 rfl rfl xz87 rfl ?_
      refine x_iload xc190_225 rfl ?_
      refine x_iload xc190_227 rfl ?_
      refine x_ias xc190_229 xz113 (by have g0 := hnn; omega) (by have g0 := hnn; omega) (by have g0 := hnn; omega) ?_
      refine x_goto xc190_230 ?_
      exact k2 h0 h1
  · refine x_aloadn xc190_159 rfl ?_
    refine x_iload xc190_160 rfl ?_
    refine x_pfi (k := 33) xc190_162 rfl ⟨rfl, rfl⟩ rfl xz87 ?_
    refine x_aloadn xc190_165 rfl ?_
    refine x_iload xc190_166 rfl ?_
    refine x_pfi (k := 34) xc190_168 rfl ⟨rfl, rfl⟩ rfl xz87 ?_
    refine x_iconst xc190_171 ?_
    refine x_istore (pl' := [some (.ref 87), some (xV f), some (xV k), some (xV lv), some (xV c), some (xV co), some (xV nn), some (xV 0)]) xc190_172 rfl rfl ?_
    exact k3 h0

theorem w190e {ro : Nat → Nat × (Nat → Int32)} {d : Nat} {Q : Option Value → pmS → Prop} {f k lv c co nn i : Int} {a : xA} {b : xB} (hlv : 0 ≤ lv ∧ lv ≤ 3) (hnn : 1 ≤ nn ∧ nn ≤ 4) (hi : 0 ≤ i ∧ i ≤ nn)
    (k1 : (nn ≤ i) → pmWp ro d 12 190 2 21 [some (.ref 87), some (xV f), some (xV k), some (xV lv), some (xV c), some (xV co), some (xV nn), some (xV i)] [] (xS a b) Q)
    (k2 : (¬ nn ≤ i) → pmWp ro d 12 190 2 174 [some (.ref 87), some (xV f), some (xV k), some (xV lv), some (xV c), some (xV co), some (xV nn), some (xV (i + 1))] [] (xS (xU a 111 i (a 110 i)) b) Q) :
    pmWp ro d 12 190 2 174 [some (.ref 87), some (xV f), some (xV k), some (xV lv), some (xV c), some (xV co), some (xV nn), some (xV i)] [] (xS a b) Q := by
  refine x_iload xc190_174 rfl ?_
  refine x_iload xc190_176 rfl ?_
  refine x_icge xc190_178 (xRk (by have g0 := hi; omega)) (xRk (by have g0 := hnn; omega)) (fun h0 => ?_) (fun h0 => ?_)
  · refine x_goto xc190_201 ?_
    refine x_goto xc190_230 ?_
    exact k1 h0
  · refine x_aloadn xc190_181 rfl ?_
    refine x_gfr xc190_182 rfl rfl xz87 rfl ?_
    refine x_iload xc190_185 rfl ?_
    refine x_aloadn xc190_187 rfl ?_
    refine x_gfr xc190_188 rfl rfl xz87 rfl ?_
    refine x_iload xc190_191 rfl ?_
    refine x_ial xc190_193 xz110 rfl (by have g0 := hi; omega) (by have g0 := hi; omega) (by have g0 := hi; omega) ?_
    refine x_ias xc190_194 xz111 (by have g0 := hi; omega) (by have g0 := hi; omega) (by have g0 := hi; omega) ?_
    refine x_iinc (pl' := [some (.ref 87), some (xV f), some (xV k), some (xV lv), some (xV c), some (xV co), some (xV nn), some (xV (i + 1))]) xc190_195 rfl rfl ?_
    refine x_goto xc190_198 ?_
    exact k2 h0

end
end
section
/-! the reference plans -/
section
set_option maxRecDepth 100000


section
variable {ro : Nat → Nat × (Nat → Int32)} {d : Nat} {Q : Option Value → pmS → Prop} {dr wp pr : Int → Int} {n f k lv w : Int} {S : Int → Int} {a a' : xA} {b : xB} {ts : List Int}
def uBn (p : Bool) : Int := bif p then 1 else 0
theorem uBn_b {p : Bool} : 0 ≤ uBn p ∧ uBn p ≤ 1 := by
  cases p <;> decide
theorem uBn_z {p : Bool} : (uBn p = 0 ↔ p = false) ∧ (uBn p = 1 ↔ p = true) := by
  cases p <;> decide
/-- how deep a row of codes lies, where it runs safely -/
def uDl : List Int → Nat → Option Nat
  | [], d => some d
  | c :: cs, d => if c / 256 < 5 then uDl cs (d + 1) else if c / 256 = 7 then (if 1 ≤ d then uDl cs d else none) else (if 2 ≤ d then uDl cs (d - 1) else none)
/-- isHeld -/
theorem u187 (hA : xAr a) (hM : uMd f (10 * lv) a S) (hlv : 0 ≤ lv ∧ lv ≤ 4) (hf : 1 ≤ f ∧ f ≤ 3) (hk : 0 ≤ k ∧ k ≤ 2) (hS : uOk f S) (hlen : a 98 (3 * f + k) = (ts.length : Int)) (hl40 : ts.length ≤ 40) (hcd : ∀ (j : Nat) t, ts[j]? = some t → a 99 (60 * (3 * f + k) + (j : Int)) = t) (htv : ∀ t, t ∈ ts → uTv t) (hdl : uDl ts 0 ≠ none) (hne : ¬ uRun (uAt f S) (fun x => !x) (fun x y => x && y) (fun x y => x || y) ts [] = []) (h109 : ∀ j, 0 ≤ j → j < 60 → 0 ≤ a 109 j ∧ a 109 j ≤ 1) (hd : 2 ≤ d)
    (hQ : ∀ a' z, (∀ q j, q ≠ 109 → a' q j = a q j) → xAr a' → (∀ j, 0 ≤ j → j < 60 → 0 ≤ a' 109 j ∧ a' 109 j ≤ 1) → (z = 0 ∨ z = 1) → (z = 1 ↔ uHold f ts S = true) → Q (some (xV z)) (xS a' b)) : pmCs ro d 187 [.ref 87, xV lv, xV f, xV k] (xS a b) Q := by
  refine pmCs_deep (d := 2) (xg187 (w187 hlv hf hk ?_)) hd
  have loop : ∀ (m i : Nat) (nn : Int) (a1 : xA) (st : List Bool) (v7 : Option Value), ts.length - i ≤ m → i ≤ ts.length → (∀ q j, q ≠ 109 → a1 q j = a q j) → xAr a1 → (∀ j, 0 ≤ j → j < 60 → 0 ≤ a1 109 j ∧ a1 109 j ≤ 1) → nn = (st.length : Int) → st.length ≤ i → (∀ (j : Nat) p, st.reverse[j]? = some p → a1 109 (j : Int) = uBn p) → uDl (ts.drop i) st.length ≠ none → uRun (uAt f S) (fun x => !x) (fun x y => x && y) (fun x y => x || y) (ts.drop i) st = uRun (uAt f S) (fun x => !x) (fun x y => x && y) (fun x y => x || y) ts [] →
      pmWp ro 1 12 187 2 17 [some (.ref 87), some (xV lv), some (xV f), some (xV k), some (xV (3 * f + k)), some (xV nn), some (xV (60 * (3 * f + k) + (i : Int))), v7] [] (xS a1 b) Q := by
    intro m
    induction m with
    | zero =>
      intro i nn a1 st v7 hm hi h1 h2 h3 h4 h5 h6 h7 h8
      have ei : i = ts.length := by omega
      subst ei
      rw [List.drop_length] at h8
      have h8 : st = uRun (uAt f S) (fun x => !x) (fun x y => x && y) (fun x y => x || y) ts [] := h8
      have e0 := h6 0 _ (uBot_rev (e := false) st (by rw [h8]; exact hne))
      have e0 : a1 109 0 = uBn (uBot false st) := e0
      refine w187x hlv hf hk ⟨by omega, by omega⟩ ((h1 98 _ (by decide)).trans hlen) ⟨by omega, by omega⟩ ⟨by omega, by omega⟩ (h3 0 (by decide) (by decide)) ?_
      refine hQ a1 _ h1 h2 h3 (by have := h3 0 (by decide) (by decide); omega) ?_
      rw [e0, uBn_z.2, h8]
      exact Iff.rfl
    | succ m ih =>
      intro i nn a1 st v7 hm hi h1 h2 h3 h4 h5 h6 h7 h8
      by_cases ei : i = ts.length
      · subst ei
        rw [List.drop_length] at h8
        have h8 : st = uRun (uAt f S) (fun x => !x) (fun x y => x && y) (fun x y => x || y) ts [] := h8
        have e0 := h6 0 _ (uBot_rev (e := false) st (by rw [h8]; exact hne))
        have e0 : a1 109 0 = uBn (uBot false st) := e0
        refine w187x hlv hf hk ⟨by omega, by omega⟩ ((h1 98 _ (by decide)).trans hlen) ⟨by omega, by omega⟩ ⟨by omega, by omega⟩ (h3 0 (by decide) (by decide)) ?_
        refine hQ a1 _ h1 h2 h3 (by have := h3 0 (by decide) (by decide); omega) ?_
        rw [e0, uBn_z.2, h8]
        exact Iff.rfl
      · have hlt : i < ts.length := by omega
        obtain ⟨t, ht⟩ : ∃ t, ts[i]? = some t := ⟨_, List.getElem?_eq_some_iff.mpr ⟨hlt, rfl⟩⟩
        have htv' := htv t (List.mem_of_getElem? ht)
        have ht0 := htv'.1.1
        have h256 : t / 256 < 5 ∨ t = 1280 ∨ t = 1536 ∨ t = 1792 := htv'.2
        have hdr : ts.drop i = t :: ts.drop (i + 1) := by
          rw [List.drop_eq_getElem_cons hlt]
          congr 1
          exact (List.getElem?_eq_some_iff.mp ht).2
        rw [hdr, uRun_cons] at h8
        rw [hdr] at h7
        unfold uDl at h7
        have hcd1 : a1 99 (60 * (3 * f + k) + (i : Int)) = t := (h1 99 _ (by decide)).trans (hcd i t ht)
        have hlen1 : a1 98 (3 * f + k) = (ts.length : Int) := (h1 98 _ (by decide)).trans hlen
        have ei1 : 60 * (3 * f + k) + (i : Int) + 1 = 60 * (3 * f + k) + ((i + 1 : Nat) : Int) := by omega
        -- behind a code: the stack's top put
        have nx : ∀ (p : Bool) (r : List Bool) (x q nn' : Int) (v7 : Option Value), x = uBn p → q = (r.length : Int) → nn' = q + 1 → r.length ≤ i → (∀ (j : Nat) y, j < r.length → r.reverse[j]? = some y → a1 109 (j : Int) = uBn y) → uDl (ts.drop (i + 1)) (r.length + 1) ≠ none → uRun (uAt f S) (fun x => !x) (fun x y => x && y) (fun x y => x || y) (ts.drop (i + 1)) (p :: r) = uRun (uAt f S) (fun x => !x) (fun x y => x && y) (fun x y => x || y) ts [] →
            pmWp ro 1 12 187 2 17 [some (.ref 87), some (xV lv), some (xV f), some (xV k), some (xV (3 * f + k)), some (xV nn'), some (xV (60 * (3 * f + k) + (i : Int) + 1)), v7] [] (xS (xU a1 109 q x) b) Q := by
          intro p r x q nn' v7 e1 e2 e3 e4 e5 e6 e7
          have hx := @uBn_b p
          rw [ei1]
          refine ih (i + 1) nn' _ (p :: r) v7 (by omega) (by omega) (fun q' j hq => by rw [xUn hq]; exact h1 q' j hq) (xAr_u h2 ⟨by omega, by omega⟩) (fun j j0 j1 => ?_) (by rw [List.length_cons]; omega) (by rw [List.length_cons]; omega) (fun j y hy => ?_) e6 e7
          · by_cases c : j = q
            · rw [c, xUa]
              omega
            · rw [xUk c]
              exact h3 j j0 j1
          · rw [List.reverse_cons] at hy
            rcases uSnoc hy with ⟨g1, g2⟩ | ⟨g1, g2⟩
            · rw [List.length_reverse] at g2
              rw [xUk (by omega)]
              exact e5 j y g2 g1
            · rw [List.length_reverse] at g1
              rw [show (j : Int) = q by omega, xUa, g2, e1]
        by_cases h5' : t / 256 < 5
        · rw [if_pos h5'] at h8 h7
          refine w187t hlv hf hk ⟨by omega, by omega⟩ hlen1 ⟨by omega, by omega⟩ ⟨by omega, by omega⟩ ⟨by omega, by omega⟩ hcd1 ⟨by omega, by omega⟩ ⟨by omega, by omega⟩ h3 (fun e => by omega) (fun _ => ?_)
          refine u188 h2 (S := S) ⟨(h1 108 _ (by decide)).trans hM.1, fun x x0 x1 => (h1 108 _ (by decide)).trans (hM.2.1 x x0 x1), fun q q0 q1 => (h1 108 _ (by decide)).trans (hM.2.2 q q0 q1)⟩ ⟨by omega, by omega⟩ hf hS htv'.1 h5' (by decide) (fun z hz hza => ?_)
          refine w187b ⟨by omega, by omega⟩ hz ?_
          refine nx (uAt f S t) st z nn (nn + 1) _ ?_ h4 rfl h5 (fun j y _ hy => h6 j y hy) h7 h8
          cases e : uAt f S t with
          | true => exact hza.mpr e
          | false =>
            rcases hz with g | g
            · exact g
            · rw [hza, e] at g
              cases g
        · rw [if_neg h5'] at h8 h7
          by_cases t7 : t = 1792
          · rw [if_pos (by omega)] at h8 h7
            match st, h4, h5, h6, h7, h8 with
            | [], _, _, _, h7, _ =>
              rw [if_neg (by decide)] at h7
              exact absurd rfl h7
            | x :: r, h4, h5, h6, h7, h8 =>
              rw [if_pos (by rw [List.length_cons]; omega)] at h7
              rw [List.length_cons] at h4 h5
              have k0 := h6 r.length x (by rw [List.reverse_cons, List.getElem?_append_right (by rw [List.length_reverse]; exact Nat.le_refl _), List.length_reverse, Nat.sub_self]; rfl)
              rw [show ((r.length : Nat) : Int) = nn - 1 by omega] at k0
              have low : ∀ (j : Nat) y, j < r.length → r.reverse[j]? = some y → a1 109 (j : Int) = uBn y := fun j y hj hy => h6 j y (by rw [List.reverse_cons, List.getElem?_append_left (by rw [List.length_reverse]; exact hj)]; exact hy)
              refine w187n hlv hf hk ⟨by omega, by omega⟩ hlen1 ⟨by omega, by omega⟩ ⟨by omega, by omega⟩ ⟨by omega, by omega⟩ hcd1 ⟨by omega, by omega⟩ (by omega) (by omega) h3 (fun e => by omega) (fun _ e2 => ?_) (fun _ e2 => ?_)
              · refine nx (!x) r _ _ _ _ ?_ (by omega) (by omega) (by omega) low h7 h8
                rw [k0] at e2
                cases x with
                | true => rfl
                | false => exact absurd rfl e2
              · refine nx (!x) r _ _ _ _ ?_ (by omega) (by omega) (by omega) low h7 h8
                rw [k0, uBn_z.1] at e2
                rw [e2]
                rfl
          · rw [if_neg (by omega)] at h8 h7
            match st, h4, h5, h6, h7, h8 with
            | [], _, _, _, h7, _ =>
              rw [if_neg (by decide)] at h7
              exact absurd rfl h7
            | [x0], _, _, _, h7, _ =>
              rw [if_neg (show ¬ 2 ≤ [x0].length from (by decide : ¬ 2 ≤ 1))] at h7
              exact absurd rfl h7
            | y :: x :: r, h4, h5, h6, h7, h8 =>
              rw [if_pos (by rw [List.length_cons, List.length_cons]; omega)] at h7
              rw [List.length_cons, List.length_cons] at h4 h5
              have h7 : uDl (ts.drop (i + 1)) (r.length + 1) ≠ none := h7
              have k1 := h6 (r.length + 1) y (by rw [List.reverse_cons, List.getElem?_append_right (by rw [List.length_reverse, List.length_cons]; exact Nat.le_refl _), List.length_reverse, List.length_cons, Nat.sub_self]; rfl)
              have k0 := h6 r.length x (by rw [List.reverse_cons, List.reverse_cons, List.append_assoc, List.getElem?_append_right (by rw [List.length_reverse]; exact Nat.le_refl _), List.length_reverse, Nat.sub_self]; rfl)
              rw [show (((r.length + 1 : Nat)) : Int) = nn - 1 by omega] at k1
              rw [show ((r.length : Nat) : Int) = nn - 1 - 1 by omega] at k0
              have low : ∀ (j : Nat) z, j < r.length → r.reverse[j]? = some z → a1 109 (j : Int) = uBn z := fun j z hj hz => h6 j z (by rw [List.reverse_cons, List.reverse_cons, List.append_assoc, List.getElem?_append_left (by rw [List.length_reverse]; exact hj)]; exact hz)
              by_cases t5 : t = 1280
              · have h8 : uRun (uAt f S) (fun x => !x) (fun x y => x && y) (fun x y => x || y) (ts.drop (i + 1)) ((if t / 256 = 5 then (x && y) else (x || y)) :: r) = uRun (uAt f S) (fun x => !x) (fun x y => x && y) (fun x y => x || y) ts [] := h8
                rw [if_pos (by omega)] at h8
                refine w187a hlv hf hk ⟨by omega, by omega⟩ hlen1 ⟨by omega, by omega⟩ ⟨by omega, by omega⟩ ⟨by omega, by omega⟩ hcd1 ⟨by omega, by omega⟩ (by omega) (by omega) h3 (fun e => by omega) (fun _ e2 => ?_) (fun _ e2 e3 => ?_) (fun _ e2 e3 => ?_)
                · refine nx (x && y) r _ _ _ _ ?_ (by omega) (by omega) (by omega) low h7 h8
                  rw [k0, uBn_z.1] at e2
                  rw [e2]
                  rfl
                · refine nx (x && y) r _ _ _ _ ?_ (by omega) (by omega) (by omega) low h7 h8
                  rw [k1, uBn_z.1] at e3
                  rw [e3, Bool.and_false]
                  rfl
                · refine nx (x && y) r _ _ _ _ ?_ (by omega) (by omega) (by omega) low h7 h8
                  rw [k0] at e2
                  rw [k1] at e3
                  cases x with
                  | false => exact absurd rfl e2
                  | true =>
                    cases y with
                    | false => exact absurd rfl e3
                    | true => rfl
              · have h8 : uRun (uAt f S) (fun x => !x) (fun x y => x && y) (fun x y => x || y) (ts.drop (i + 1)) ((if t / 256 = 5 then (x && y) else (x || y)) :: r) = uRun (uAt f S) (fun x => !x) (fun x y => x && y) (fun x y => x || y) ts [] := h8
                rw [if_neg (by omega)] at h8
                refine w187o hlv hf hk ⟨by omega, by omega⟩ hlen1 ⟨by omega, by omega⟩ ⟨by omega, by omega⟩ ⟨by omega, by omega⟩ hcd1 ⟨by omega, by omega⟩ (by omega) (by omega) h3 (fun e => by omega) (fun _ e2 => ?_) (fun _ e2 e3 => ?_) (fun _ e2 e3 => ?_)
                · refine nx (x || y) r _ _ _ _ ?_ (by omega) (by omega) (by omega) low h7 h8
                  rw [k0] at e2
                  cases x with
                  | false => exact absurd rfl e2
                  | true => rfl
                · refine nx (x || y) r _ _ _ _ ?_ (by omega) (by omega) (by omega) low h7 h8
                  rw [k0, uBn_z.1] at e2
                  rw [k1, uBn_z.1] at e3
                  rw [e2, e3]
                  rfl
                · refine nx (x || y) r _ _ _ _ ?_ (by omega) (by omega) (by omega) low h7 h8
                  rw [k1] at e3
                  cases y with
                  | false => exact absurd rfl e3
                  | true =>
                    rw [Bool.or_true]
                    rfl
  have h0 := loop ts.length 0 0 a [] none (by omega) (by omega) (fun _ _ _ => rfl) hA h109 rfl (Nat.le_refl _) (fun j p h => by cases h) hdl rfl
  rw [show 60 * (3 * f + k) + ((0 : Nat) : Int) = 60 * (3 * f + k) by omega] at h0
  exact h0
end
end
end
