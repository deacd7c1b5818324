/-! exact: the reference plans -/
section
set_option maxRecDepth 100000
theorem xi190 : pmInf[190]? = some pmI_190 := rfl
theorem xc190_0 : pmCode 190 0 = some (.aload_n 0) ∧ 0 + 1 = 1 := ⟨rfl, rfl⟩
theorem xc190_1 : pmCode 190 1 = some (.iconst 0) ∧ 1 + 1 = 2 := ⟨rfl, rfl⟩
theorem xc190_2 : pmCode 190 2 = some (.putfield 288) ∧ 2 + 3 = 5 := ⟨rfl, rfl⟩
theorem xc190_5 : pmCode 190 5 = some (.iconst 0) ∧ 5 + 1 = 6 := ⟨rfl, rfl⟩
theorem xc190_6 : pmCode 190 6 = some (.istore_n 3) ∧ 6 + 1 = 7 := ⟨rfl, rfl⟩
theorem xc190_7 : pmCode 190 7 = some (.aload_n 0) ∧ 7 + 1 = 8 := ⟨rfl, rfl⟩
theorem xc190_8 : pmCode 190 8 = some (.getfield 84) ∧ 8 + 3 = 11 := ⟨rfl, rfl⟩
theorem xc190_11 : pmCode 190 11 = some (.iconst 0) ∧ 11 + 1 = 12 := ⟨rfl, rfl⟩
theorem xc190_12 : pmCode 190 12 = some (.iconst 0) ∧ 12 + 1 = 13 := ⟨rfl, rfl⟩
theorem xc190_13 : pmCode 190 13 = some .iastore ∧ 13 + 1 = 14 := ⟨rfl, rfl⟩
theorem xc190_14 : pmCode 190 14 = some (.aload_n 0) ∧ 14 + 1 = 15 := ⟨rfl, rfl⟩
theorem xc190_15 : pmCode 190 15 = some (.getfield 87) ∧ 15 + 3 = 18 := ⟨rfl, rfl⟩
theorem xc190_18 : pmCode 190 18 = some (.iconst 0) ∧ 18 + 1 = 19 := ⟨rfl, rfl⟩
theorem xc190_19 : pmCode 190 19 = some (.iconst 0) ∧ 19 + 1 = 20 := ⟨rfl, rfl⟩
theorem xc190_20 : pmCode 190 20 = some .iastore ∧ 20 + 1 = 21 := ⟨rfl, rfl⟩
theorem xc190_21 : pmCode 190 21 = some (.iload_n 3) ∧ 21 + 1 = 22 := ⟨rfl, rfl⟩
theorem xc190_22 : pmCode 190 22 = some (.ifCond .lt 211) ∧ ((22 : Nat) : Int) + 211 = ((233 : Nat) : Int) ∧ 22 + 3 = 25 := ⟨rfl, rfl, rfl⟩
theorem xc190_25 : pmCode 190 25 = some (.aload_n 0) ∧ 25 + 1 = 26 := ⟨rfl, rfl⟩
theorem xc190_26 : pmCode 190 26 = some (.getfield 84) ∧ 26 + 3 = 29 := ⟨rfl, rfl⟩
theorem xc190_29 : pmCode 190 29 = some (.iload_n 3) ∧ 29 + 1 = 30 := ⟨rfl, rfl⟩
theorem xc190_30 : pmCode 190 30 = some .iaload ∧ 30 + 1 = 31 := ⟨rfl, rfl⟩
theorem xc190_31 : pmCode 190 31 = some (.istore 4) ∧ 31 + 2 = 33 := ⟨rfl, rfl⟩
theorem xc190_33 : pmCode 190 33 = some (.aload_n 0) ∧ 33 + 1 = 34 := ⟨rfl, rfl⟩
theorem xc190_34 : pmCode 190 34 = some (.getfield 84) ∧ 34 + 3 = 37 := ⟨rfl, rfl⟩
theorem xc190_37 : pmCode 190 37 = some (.iload_n 3) ∧ 37 + 1 = 38 := ⟨rfl, rfl⟩
theorem xc190_38 : pmCode 190 38 = some (.iload 4) ∧ 38 + 2 = 40 := ⟨rfl, rfl⟩
theorem xc190_40 : pmCode 190 40 = some (.iconst 1) ∧ 40 + 1 = 41 := ⟨rfl, rfl⟩
theorem xc190_41 : pmCode 190 41 = some .iadd ∧ 41 + 1 = 42 := ⟨rfl, rfl⟩
theorem xc190_42 : pmCode 190 42 = some .iastore ∧ 42 + 1 = 43 := ⟨rfl, rfl⟩
theorem xc190_43 : pmCode 190 43 = some (.iload 4) ∧ 43 + 2 = 45 := ⟨rfl, rfl⟩
theorem xc190_45 : pmCode 190 45 = some (.bipush 40) ∧ 45 + 2 = 47 := ⟨rfl, rfl⟩
theorem xc190_47 : pmCode 190 47 = some (.if_icmp .le 10) ∧ ((47 : Nat) : Int) + 10 = ((57 : Nat) : Int) ∧ 47 + 3 = 50 := ⟨rfl, rfl, rfl⟩
theorem xc190_50 : pmCode 190 50 = some (.iload_n 3) ∧ 50 + 1 = 51 := ⟨rfl, rfl⟩
theorem xc190_51 : pmCode 190 51 = some (.iconst 1) ∧ 51 + 1 = 52 := ⟨rfl, rfl⟩
theorem xc190_52 : pmCode 190 52 = some .isub ∧ 52 + 1 = 53 := ⟨rfl, rfl⟩
theorem xc190_53 : pmCode 190 53 = some (.istore_n 3) ∧ 53 + 1 = 54 := ⟨rfl, rfl⟩
theorem xc190_54 : pmCode 190 54 = some (.goto (-33)) ∧ ((54 : Nat) : Int) + (-33) = ((21 : Nat) : Int) := ⟨rfl, rfl⟩
theorem xc190_57 : pmCode 190 57 = some (.aload_n 0) ∧ 57 + 1 = 58 := ⟨rfl, rfl⟩
theorem xc190_58 : pmCode 190 58 = some (.iload_n 3) ∧ 58 + 1 = 59 := ⟨rfl, rfl⟩
theorem xc190_59 : pmCode 190 59 = some (.iload_n 1) ∧ 59 + 1 = 60 := ⟨rfl, rfl⟩
theorem xc190_60 : pmCode 190 60 = some (.iload 4) ∧ 60 + 2 = 62 := ⟨rfl, rfl⟩
theorem xc190_62 : pmCode 190 62 = some (.invokevirtual 291) ∧ 62 + 3 = 65 := ⟨rfl, rfl⟩
theorem xc190_65 : pmCode 190 65 = some (.ifCond .ne 6) ∧ ((65 : Nat) : Int) + 6 = ((71 : Nat) : Int) ∧ 65 + 3 = 68 := ⟨rfl, rfl, rfl⟩
theorem xc190_68 : pmCode 190 68 = some (.goto (-47)) ∧ ((68 : Nat) : Int) + (-47) = ((21 : Nat) : Int) := ⟨rfl, rfl⟩
theorem xc190_71 : pmCode 190 71 = some (.aload_n 0) ∧ 71 + 1 = 72 := ⟨rfl, rfl⟩
theorem xc190_72 : pmCode 190 72 = some (.getfield 87) ∧ 72 + 3 = 75 := ⟨rfl, rfl⟩
theorem xc190_75 : pmCode 190 75 = some (.iload_n 3) ∧ 75 + 1 = 76 := ⟨rfl, rfl⟩
theorem xc190_76 : pmCode 190 76 = some .iaload ∧ 76 + 1 = 77 := ⟨rfl, rfl⟩
theorem xc190_77 : pmCode 190 77 = some (.aload_n 0) ∧ 77 + 1 = 78 := ⟨rfl, rfl⟩
theorem xc190_78 : pmCode 190 78 = some (.getfield 23) ∧ 78 + 3 = 81 := ⟨rfl, rfl⟩
theorem xc190_81 : pmCode 190 81 = some (.iload 4) ∧ 81 + 2 = 83 := ⟨rfl, rfl⟩
theorem xc190_83 : pmCode 190 83 = some (.invokestatic 279) ∧ 83 + 3 = 86 := ⟨rfl, rfl⟩
theorem xc190_86 : pmCode 190 86 = some .iaload ∧ 86 + 1 = 87 := ⟨rfl, rfl⟩
theorem xc190_87 : pmCode 190 87 = some .iadd ∧ 87 + 1 = 88 := ⟨rfl, rfl⟩
theorem xc190_88 : pmCode 190 88 = some (.istore 5) ∧ 88 + 2 = 90 := ⟨rfl, rfl⟩
theorem xc190_90 : pmCode 190 90 = some (.iload_n 3) ∧ 90 + 1 = 91 := ⟨rfl, rfl⟩
theorem xc190_91 : pmCode 190 91 = some (.iconst 1) ∧ 91 + 1 = 92 := ⟨rfl, rfl⟩
theorem xc190_92 : pmCode 190 92 = some .iadd ∧ 92 + 1 = 93 := ⟨rfl, rfl⟩
theorem xc190_93 : pmCode 190 93 = some (.istore 6) ∧ 93 + 2 = 95 := ⟨rfl, rfl⟩
theorem xc190_95 : pmCode 190 95 = some (.aload_n 0) ∧ 95 + 1 = 96 := ⟨rfl, rfl⟩
theorem xc190_96 : pmCode 190 96 = some (.getfield 288) ∧ 96 + 3 = 99 := ⟨rfl, rfl⟩
theorem xc190_99 : pmCode 190 99 = some (.ifCond .le 33) ∧ ((99 : Nat) : Int) + 33 = ((132 : Nat) : Int) ∧ 99 + 3 = 102 := ⟨rfl, rfl, rfl⟩
theorem xc190_102 : pmCode 190 102 = some (.iload 5) ∧ 102 + 2 = 104 := ⟨rfl, rfl⟩
theorem xc190_104 : pmCode 190 104 = some (.aload_n 0) ∧ 104 + 1 = 105 := ⟨rfl, rfl⟩
theorem xc190_105 : pmCode 190 105 = some (.getfield 294) ∧ 105 + 3 = 108 := ⟨rfl, rfl⟩
theorem xc190_108 : pmCode 190 108 = some (.if_icmp .gt (-87)) ∧ ((108 : Nat) : Int) + (-87) = ((21 : Nat) : Int) ∧ 108 + 3 = 111 := ⟨rfl, rfl, rfl⟩
theorem xc190_111 : pmCode 190 111 = some (.iload 5) ∧ 111 + 2 = 113 := ⟨rfl, rfl⟩
theorem xc190_113 : pmCode 190 113 = some (.aload_n 0) ∧ 113 + 1 = 114 := ⟨rfl, rfl⟩
theorem xc190_114 : pmCode 190 114 = some (.getfield 294) ∧ 114 + 3 = 117 := ⟨rfl, rfl⟩
theorem xc190_117 : pmCode 190 117 = some (.if_icmp .ne 15) ∧ ((117 : Nat) : Int) + 15 = ((132 : Nat) : Int) ∧ 117 + 3 = 120 := ⟨rfl, rfl, rfl⟩
theorem xc190_120 : pmCode 190 120 = some (.iload 6) ∧ 120 + 2 = 122 := ⟨rfl, rfl⟩
theorem xc190_122 : pmCode 190 122 = some (.aload_n 0) ∧ 122 + 1 = 123 := ⟨rfl, rfl⟩
theorem xc190_123 : pmCode 190 123 = some (.getfield 288) ∧ 123 + 3 = 126 := ⟨rfl, rfl⟩
theorem xc190_126 : pmCode 190 126 = some (.if_icmp .lt 6) ∧ ((126 : Nat) : Int) + 6 = ((132 : Nat) : Int) ∧ 126 + 3 = 129 := ⟨rfl, rfl, rfl⟩
theorem xc190_129 : pmCode 190 129 = some (.goto (-108)) ∧ ((129 : Nat) : Int) + (-108) = ((21 : Nat) : Int) := ⟨rfl, rfl⟩
theorem xc190_132 : pmCode 190 132 = some (.aload_n 0) ∧ 132 + 1 = 133 := ⟨rfl, rfl⟩
theorem xc190_133 : pmCode 190 133 = some (.iload_n 3) ∧ 133 + 1 = 134 := ⟨rfl, rfl⟩
theorem xc190_134 : pmCode 190 134 = some (.iload_n 1) ∧ 134 + 1 = 135 := ⟨rfl, rfl⟩
theorem xc190_135 : pmCode 190 135 = some (.iload 4) ∧ 135 + 2 = 137 := ⟨rfl, rfl⟩
theorem xc190_137 : pmCode 190 137 = some (.invokevirtual 297) ∧ 137 + 3 = 140 := ⟨rfl, rfl⟩
theorem xc190_140 : pmCode 190 140 = some (.aload_n 0) ∧ 140 + 1 = 141 := ⟨rfl, rfl⟩
theorem xc190_141 : pmCode 190 141 = some (.getfield 78) ∧ 141 + 3 = 144 := ⟨rfl, rfl⟩
theorem xc190_144 : pmCode 190 144 = some (.iload_n 3) ∧ 144 + 1 = 145 := ⟨rfl, rfl⟩
theorem xc190_145 : pmCode 190 145 = some (.iload 4) ∧ 145 + 2 = 147 := ⟨rfl, rfl⟩
theorem xc190_147 : pmCode 190 147 = some .iastore ∧ 147 + 1 = 148 := ⟨rfl, rfl⟩
theorem xc190_148 : pmCode 190 148 = some (.aload_n 0) ∧ 148 + 1 = 149 := ⟨rfl, rfl⟩
theorem xc190_149 : pmCode 190 149 = some (.iload 6) ∧ 149 + 2 = 151 := ⟨rfl, rfl⟩
theorem xc190_151 : pmCode 190 151 = some (.iload_n 1) ∧ 151 + 1 = 152 := ⟨rfl, rfl⟩
theorem xc190_152 : pmCode 190 152 = some (.iload_n 2) ∧ 152 + 1 = 153 := ⟨rfl, rfl⟩
theorem xc190_153 : pmCode 190 153 = some (.invokevirtual 300) ∧ 153 + 3 = 156 := ⟨rfl, rfl⟩
theorem xc190_156 : pmCode 190 156 = some (.ifCond .eq 48) ∧ ((156 : Nat) : Int) + 48 = ((204 : Nat) : Int) ∧ 156 + 3 = 159 := ⟨rfl, rfl, rfl⟩
theorem xc190_159 : pmCode 190 159 = some (.aload_n 0) ∧ 159 + 1 = 160 := ⟨rfl, rfl⟩
theorem xc190_160 : pmCode 190 160 = some (.iload 5) ∧ 160 + 2 = 162 := ⟨rfl, rfl⟩
theorem xc190_162 : pmCode 190 162 = some (.putfield 294) ∧ 162 + 3 = 165 := ⟨rfl, rfl⟩
theorem xc190_165 : pmCode 190 165 = some (.aload_n 0) ∧ 165 + 1 = 166 := ⟨rfl, rfl⟩
theorem xc190_166 : pmCode 190 166 = some (.iload 6) ∧ 166 + 2 = 168 := ⟨rfl, rfl⟩
theorem xc190_168 : pmCode 190 168 = some (.putfield 288) ∧ 168 + 3 = 171 := ⟨rfl, rfl⟩
theorem xc190_171 : pmCode 190 171 = some (.iconst 0) ∧ 171 + 1 = 172 := ⟨rfl, rfl⟩
theorem xc190_172 : pmCode 190 172 = some (.istore 7) ∧ 172 + 2 = 174 := ⟨rfl, rfl⟩
theorem xc190_174 : pmCode 190 174 = some (.iload 7) ∧ 174 + 2 = 176 := ⟨rfl, rfl⟩
theorem xc190_176 : pmCode 190 176 = some (.iload 6) ∧ 176 + 2 = 178 := ⟨rfl, rfl⟩
theorem xc190_178 : pmCode 190 178 = some (.if_icmp .ge 23) ∧ ((178 : Nat) : Int) + 23 = ((201 : Nat) : Int) ∧ 178 + 3 = 181 := ⟨rfl, rfl, rfl⟩
theorem xc190_181 : pmCode 190 181 = some (.aload_n 0) ∧ 181 + 1 = 182 := ⟨rfl, rfl⟩
theorem xc190_182 : pmCode 190 182 = some (.getfield 81) ∧ 182 + 3 = 185 := ⟨rfl, rfl⟩
theorem xc190_185 : pmCode 190 185 = some (.iload 7) ∧ 185 + 2 = 187 := ⟨rfl, rfl⟩
theorem xc190_187 : pmCode 190 187 = some (.aload_n 0) ∧ 187 + 1 = 188 := ⟨rfl, rfl⟩
theorem xc190_188 : pmCode 190 188 = some (.getfield 78) ∧ 188 + 3 = 191 := ⟨rfl, rfl⟩
theorem xc190_191 : pmCode 190 191 = some (.iload 7) ∧ 191 + 2 = 193 := ⟨rfl, rfl⟩
theorem xc190_193 : pmCode 190 193 = some .iaload ∧ 193 + 1 = 194 := ⟨rfl, rfl⟩
theorem xc190_194 : pmCode 190 194 = some .iastore ∧ 194 + 1 = 195 := ⟨rfl, rfl⟩
theorem xc190_195 : pmCode 190 195 = some (.iinc 7 1) ∧ 195 + 3 = 198 := ⟨rfl, rfl⟩
theorem xc190_198 : pmCode 190 198 = some (.goto (-24)) ∧ ((198 : Nat) : Int) + (-24) = ((174 : Nat) : Int) := ⟨rfl, rfl⟩
theorem xc190_201 : pmCode 190 201 = some (.goto 29) ∧ ((201 : Nat) : Int) + 29 = ((230 : Nat) : Int) := ⟨rfl, rfl⟩
theorem xc190_204 : pmCode 190 204 = some (.iload 6) ∧ 204 + 2 = 206 := ⟨rfl, rfl⟩
theorem xc190_206 : pmCode 190 206 = some (.iconst 4) ∧ 206 + 1 = 207 := ⟨rfl, rfl⟩
theorem xc190_207 : pmCode 190 207 = some (.if_icmp .ge 23) ∧ ((207 : Nat) : Int) + 23 = ((230 : Nat) : Int) ∧ 207 + 3 = 210 := ⟨rfl, rfl, rfl⟩
theorem xc190_210 : pmCode 190 210 = some (.iload 6) ∧ 210 + 2 = 212 := ⟨rfl, rfl⟩
theorem xc190_212 : pmCode 190 212 = some (.istore_n 3) ∧ 212 + 1 = 213 := ⟨rfl, rfl⟩
theorem xc190_213 : pmCode 190 213 = some (.aload_n 0) ∧ 213 + 1 = 214 := ⟨rfl, rfl⟩
theorem xc190_214 : pmCode 190 214 = some (.getfield 84) ∧ 214 + 3 = 217 := ⟨rfl, rfl⟩
theorem xc190_217 : pmCode 190 217 = some (.iload 6) ∧ 217 + 2 = 219 := ⟨rfl, rfl⟩
theorem xc190_219 : pmCode 190 219 = some (.iconst 0) ∧ 219 + 1 = 220 := ⟨rfl, rfl⟩
theorem xc190_220 : pmCode 190 220 = some .iastore ∧ 220 + 1 = 221 := ⟨rfl, rfl⟩
theorem xc190_221 : pmCode 190 221 = some (.aload_n 0) ∧ 221 + 1 = 222 := ⟨rfl, rfl⟩
theorem xc190_222 : pmCode 190 222 = some (.getfield 87) ∧ 222 + 3 = 225 := ⟨rfl, rfl⟩
theorem xc190_225 : pmCode 190 225 = some (.iload 6) ∧ 225 + 2 = 227 := ⟨rfl, rfl⟩
theorem xc190_227 : pmCode 190 227 = some (.iload 5) ∧ 227 + 2 = 229 := ⟨rfl, rfl⟩
theorem xc190_229 : pmCode 190 229 = some .iastore ∧ 229 + 1 = 230 := ⟨rfl, rfl⟩
theorem xc190_230 : pmCode 190 230 = some (.goto (-209)) ∧ ((230 : Nat) : Int) + (-209) = ((21 : Nat) : Int) := ⟨rfl, rfl⟩
theorem xc190_233 : pmCode 190 233 = some (.aload_n 0) ∧ 233 + 1 = 234 := ⟨rfl, rfl⟩
theorem xc190_234 : pmCode 190 234 = some (.getfield 288) ∧ 234 + 3 = 237 := ⟨rfl, rfl⟩
theorem xc190_237 : pmCode 190 237 = some (.ifCond .le 7) ∧ ((237 : Nat) : Int) + 7 = ((244 : Nat) : Int) ∧ 237 + 3 = 240 := ⟨rfl, rfl, rfl⟩
theorem xc190_240 : pmCode 190 240 = some (.iconst 1) ∧ 240 + 1 = 241 := ⟨rfl, rfl⟩
theorem xc190_241 : pmCode 190 241 = some (.goto 4) ∧ ((241 : Nat) : Int) + 4 = ((245 : Nat) : Int) := ⟨rfl, rfl⟩
theorem xc190_244 : pmCode 190 244 = some (.iconst 0) ∧ 244 + 1 = 245 := ⟨rfl, rfl⟩
theorem xc190_245 : pmCode 190 245 = some .ireturn := rfl
theorem w190 {ro : Nat → Nat × (Nat → Int32)} {d : Nat} {Q : Option Value → pmS → Prop} {f k : Int} {a : xA} {b : xB}
    (k1 : pmWp ro d 12 190 2 21 [some (.ref 87), some (xV f), some (xV k), some (xV 0), none, none, none, none] [] (xS (xU (xU (xU a 87 34 0) 112 0 0) 113 0 0) b) Q) :
    pmWp ro d 12 190 2 0 [some (.ref 87), some (xV f), some (xV k), none, none, none, none, none] [] (xS a b) Q := by
  refine x_aloadn xc190_0 rfl ?_
  refine x_iconst xc190_1 ?_
  refine x_pfi (k := 34) xc190_2 rfl ⟨rfl, rfl⟩ rfl xz87 ?_
  refine x_iconst xc190_5 ?_
  refine x_istoren (pl' := [some (.ref 87), some (xV f), some (xV k), some (xV 0), none, none, none, none]) xc190_6 rfl rfl ?_
  refine x_aloadn xc190_7 rfl ?_
  refine x_gfr xc190_8 rfl rfl xz87 rfl ?_
  refine x_iconst xc190_11 ?_
  refine x_iconst xc190_12 ?_
  refine x_ias xc190_13 xz112 (by omega) (by omega) (by omega) ?_
  refine x_aloadn xc190_14 rfl ?_
  refine x_gfr xc190_15 rfl rfl xz87 rfl ?_
  refine x_iconst xc190_18 ?_
  refine x_iconst xc190_19 ?_
  refine x_ias xc190_20 xz113 (by omega) (by omega) (by omega) ?_
  exact k1

theorem xg190 {ro : Nat → Nat × (Nat → Int32)} {d : Nat} {Q : Option Value → pmS → Prop} {a : xA} {b : xB} {f k : Int} (h : pmWp ro d 12 190 2 0 [some (.ref 87), some (xV f), some (xV k), none, none, none, none, none] [] (xS a b) Q) : pmCs ro (d + 1) 190 [.ref 87, xV f, xV k] (xS a b) Q := x_go xi190 rfl rfl rfl rfl rfl h
theorem w190x {ro : Nat → Nat × (Nat → Int32)} {d : Nat} {Q : Option Value → pmS → Prop} {v4 : Option Value} {v5 : Option Value} {v6 : Option Value} {v7 : Option Value} {f k m : Int} {a : xA} {b : xB} (hm : a 87 34 = m) (hm0 : 0 ≤ m ∧ m ≤ 4)
    (k1 : (m ≤ 0) → Q (some (xV 0)) (xS a b))
    (k2 : (¬ m ≤ 0) → Q (some (xV 1)) (xS a b)) :
    pmWp ro d 12 190 2 21 [some (.ref 87), some (xV f), some (xV k), some (xV (-1)), v4, v5, v6, v7] [] (xS a b) Q := by
  refine x_iloadn xc190_21 rfl ?_
  refine x_iflt xc190_22 (xRk (by decide)) (fun _ => ?_) (fun h => absurd h (by omega))
  refine x_aloadn xc190_233 rfl ?_
  refine x_gfi' (k := 34) (v := m) xc190_234 rfl (Or.inl rfl) rfl xz87 hm ?_
  refine x_ifle xc190_237 (xRk (by have g0 := hm0; omega)) (fun h1 => ?_) (fun h1 => ?_)
  · refine x_iconst xc190_244 ?_
    refine x_iret xc190_245 (Or.inr ⟨rfl, (by omega)⟩) ?_
    exact k1 h1
  · refine x_iconst xc190_240 ?_
    refine x_goto xc190_241 ?_
    refine x_iret xc190_245 (Or.inr ⟨rfl, (by omega)⟩) ?_
    exact k2 h1

theorem w190a {ro : Nat → Nat × (Nat → Int32)} {d : Nat} {Q : Option Value → pmS → Prop} {v4 : Option Value} {v5 : Option Value} {v6 : Option Value} {v7 : Option Value} {f k lv c : Int} {a : xA} {b : xB} (hlv : 0 ≤ lv ∧ lv ≤ 3) (hc : a 112 lv = c) (hc0 : 0 ≤ c ∧ c ≤ 41)
    (k1 : (c ≤ 40) → pmCs ro d 191 [.ref 87, xV lv, xV f, xV c] (xS (xU a 112 lv (c + 1)) b) fun r σ' => pmWp ro d 12 190 2 65 [some (.ref 87), some (xV f), some (xV k), some (xV lv), some (xV c), v5, v6, v7] (r.toList ++ []) σ' Q)
    (k2 : (¬ c ≤ 40) → pmWp ro d 12 190 2 21 [some (.ref 87), some (xV f), some (xV k), some (xV (lv - 1)), some (xV c), v5, v6, v7] [] (xS (xU a 112 lv (c + 1)) b) Q) :
    pmWp ro d 12 190 2 21 [some (.ref 87), some (xV f), some (xV k), some (xV lv), v4, v5, v6, v7] [] (xS a b) Q := by
  refine x_iloadn xc190_21 rfl ?_
  refine x_iflt xc190_22 (xRk (by have g0 := hlv; omega)) (fun h => absurd h (by omega)) (fun _ => ?_)
  refine x_aloadn xc190_25 rfl ?_
  refine x_gfr xc190_26 rfl rfl xz87 rfl ?_
  refine x_iloadn xc190_29 rfl ?_
  refine x_ial' (v := c) xc190_30 xz112 rfl (by have g0 := hlv; omega) (by have g0 := hlv; omega) (by have g0 := hlv; omega) hc ?_
  refine x_istore (pl' := [some (.ref 87), some (xV f), some (xV k), some (xV lv), some (xV c), v5, v6, v7]) xc190_31 rfl rfl ?_
  refine x_aloadn xc190_33 rfl ?_
  refine x_gfr xc190_34 rfl rfl xz87 rfl ?_
  refine x_iloadn xc190_37 rfl ?_
  refine x_iload xc190_38 rfl ?_
  refine x_iconst xc190_40 ?_
  refine x_iadd xc190_41 ?_
  refine x_ias xc190_42 xz112 (by have g0 := hlv; omega) (by have g0 := hlv; omega) (by have g0 := hlv; omega) ?_
  refine x_iload xc190_43 rfl ?_
  refine x_bipush xc190_45 (by decide) ?_
  refine x_icle xc190_47 (xRk (by have g0 := hc0; omega)) (xRk (by decide)) (fun h1 => ?_) (fun h1 => ?_)
  · refine x_aloadn xc190_57 rfl ?_
    refine x_iloadn xc190_58 rfl ?_
    refine x_iloadn xc190_59 rfl ?_
    refine x_iload xc190_60 rfl ?_
    refine x_cV (as := [xV lv, xV f, xV c]) (rest := []) xc190_62 rfl xi191 xz87 ⟨rfl, rfl⟩ rfl rfl ?_
    exact k1 h1
  · refine x_iloadn xc190_50 rfl ?_
    refine x_iconst xc190_51 ?_
    refine x_isub xc190_52 ?_
    refine x_istoren (pl' := [some (.ref 87), some (xV f), some (xV k), some (xV (lv - 1)), some (xV c), v5, v6, v7]) xc190_53 rfl rfl ?_
    refine x_goto xc190_54 ?_
    exact k2 h1

theorem w190b {ro : Nat → Nat × (Nat → Int32)} {d : Nat} {Q : Option Value → pmS → Prop} {v5 : Option Value} {v6 : Option Value} {v7 : Option Value} {f k lv c z co pc m bc : Int} {a : xA} {b : xB} (hd : 1 ≤ d) (hz : z = 0 ∨ z = 1) (hlv : 0 ≤ lv ∧ lv ≤ 3) (hc0 : 0 ≤ c ∧ c ≤ 40) (hkc : 1 ≤ uK c ∧ uK c ≤ 5) (hco : a 113 lv = co) (hco0 : 0 ≤ co ∧ co ≤ 36) (hpc : a 92 (uK c) = pc) (hpc0 : 1 ≤ pc ∧ pc ≤ 9) (hm : a 87 34 = m) (hm0 : 0 ≤ m ∧ m ≤ 4) (hbc : a 87 33 = bc) (hbc0 : -2147483648 ≤ bc ∧ bc ≤ 2147483647)
    (k1 : (¬ z = 0) → (m ≤ 0) → pmCs ro d 196 [.ref 87, xV lv, xV f, xV c] (xS a b) fun r σ' => pmWp ro d 12 190 2 140 [some (.ref 87), some (xV f), some (xV k), some (xV lv), some (xV c), some (xV (co + pc)), some (xV (lv + 1)), v7] (r.toList ++ []) σ' Q)
    (k2 : (¬ z = 0) → (¬ m ≤ 0) → (bc < co + pc) → pmWp ro d 12 190 2 21 [some (.ref 87), some (xV f), some (xV k), some (xV lv), some (xV c), some (xV (co + pc)), some (xV (lv + 1)), v7] [] (xS a b) Q)
    (k3 : (¬ z = 0) → (¬ m ≤ 0) → (¬ bc < co + pc) → (¬ co + pc = bc) → pmCs ro d 196 [.ref 87, xV lv, xV f, xV c] (xS a b) fun r σ' => pmWp ro d 12 190 2 140 [some (.ref 87), some (xV f), some (xV k), some (xV lv), some (xV c), some (xV (co + pc)), some (xV (lv + 1)), v7] (r.toList ++ []) σ' Q)
    (k4 : (¬ z = 0) → (¬ m ≤ 0) → (¬ bc < co + pc) → (co + pc = bc) → (lv + 1 < m) → pmCs ro d 196 [.ref 87, xV lv, xV f, xV c] (xS a b) fun r σ' => pmWp ro d 12 190 2 140 [some (.ref 87), some (xV f), some (xV k), some (xV lv), some (xV c), some (xV (co + pc)), some (xV (lv + 1)), v7] (r.toList ++ []) σ' Q)
    (k5 : (¬ z = 0) → (¬ m ≤ 0) → (¬ bc < co + pc) → (co + pc = bc) → (¬ lv + 1 < m) → pmWp ro d 12 190 2 21 [some (.ref 87), some (xV f), some (xV k), some (xV lv), some (xV c), some (xV (co + pc)), some (xV (lv + 1)), v7] [] (xS a b) Q)
    (k6 : (z = 0) → pmWp ro d 12 190 2 21 [some (.ref 87), some (xV f), some (xV k), some (xV lv), some (xV c), v5, v6, v7] [] (xS a b) Q) :
    pmWp ro d 12 190 2 65 [some (.ref 87), some (xV f), some (xV k), some (xV lv), some (xV c), v5, v6, v7] [xV z] (xS a b) Q := by
  refine x_ifne xc190_65 (xRk (by have g0 := hz; omega)) (fun h0 => ?_) (fun h0 => ?_)
  · refine x_aloadn xc190_71 rfl ?_
    refine x_gfr xc190_72 rfl rfl xz87 rfl ?_
    refine x_iloadn xc190_75 rfl ?_
    refine x_ial' (v := co) xc190_76 xz113 rfl (by have g0 := hlv; omega) (by have g0 := hlv; omega) (by have g0 := hlv; omega) hco ?_
    refine x_aloadn xc190_77 rfl ?_
    refine x_gfr xc190_78 rfl rfl xz87 rfl ?_
    refine x_iload xc190_81 rfl ?_
    refine x_cS (as := [xV c]) (rest := [.ref 92, xV co]) xc190_83 rfl rfl xi193 ⟨rfl, rfl⟩ rfl rfl ?_
    refine rk193 (by omega) ⟨by omega, by omega⟩ ?_
    refine x_ial' (v := pc) xc190_86 xz92 rfl (by have g0 := hkc; omega) (by have g0 := hkc; omega) (by have g0 := hkc; omega) hpc ?_
    refine x_iadd xc190_87 ?_
    refine x_istore (pl' := [some (.ref 87), some (xV f), some (xV k), some (xV lv), some (xV c), some (xV (co + pc)), v6, v7]) xc190_88 rfl rfl ?_
    refine x_iloadn xc190_90 rfl ?_
    refine x_iconst xc190_91 ?_
    refine x_iadd xc190_92 ?_
    refine x_istore (pl' := [some (.ref 87), some (xV f), some (xV k), some (xV lv), some (xV c), some (xV (co + pc)), some (xV (lv + 1)), v7]) xc190_93 rfl rfl ?_
    refine x_aloadn xc190_95 rfl ?_
    refine x_gfi' (k := 34) (v := m) xc190_96 rfl (Or.inl rfl) rfl xz87 hm ?_
    refine x_ifle xc190_99 (xRk (by have g0 := hm0; omega)) (fun h1 => ?_) (fun h1 => ?_)
    · refine x_aloadn xc190_132 rfl ?_
      refine x_iloadn xc190_133 rfl ?_
      refine x_iloadn xc190_134 rfl ?_
      refine x_iload xc190_135 rfl ?_
      refine x_cV (as := [xV lv, xV f, xV c]) (rest := []) xc190_137 rfl xi196 xz87 ⟨rfl, rfl⟩ rfl rfl ?_
      exact k1 h0 h1
    · refine x_iload xc190_102 rfl ?_
      refine x_aloadn xc190_104 rfl ?_
      refine x_gfi' (k := 33) (v := bc) xc190_105 rfl (Or.inl rfl) rfl xz87 hbc ?_
      refine x_icgt xc190_108 (xRk (by have g0 := hco0; have g1 := hpc0; omega)) (xRk (by have g0 := hbc0; omega)) (fun h2 => ?_) (fun h2 => ?_)
      · exact k2 h0 h1 h2
      · refine x_iload xc190_111 rfl ?_
        refine x_aloadn xc190_113 rfl ?_
        refine x_gfi' (k := 33) (v := bc) xc190_114 rfl (Or.inl rfl) rfl xz87 hbc ?_
        refine x_icne xc190_117 (xRk (by have g0 := hco0; have g1 := hpc0; omega)) (xRk (by have g0 := hbc0; omega)) (fun h3 => ?_) (fun h3 => ?_)
        · refine x_aloadn xc190_132 rfl ?_
          refine x_iloadn xc190_133 rfl ?_
          refine x_iloadn xc190_134 rfl ?_
          refine x_iload xc190_135 rfl ?_
          refine x_cV (as := [xV lv, xV f, xV c]) (rest := []) xc190_137 rfl xi196 xz87 ⟨rfl, rfl⟩ rfl rfl ?_
          exact k3 h0 h1 h2 h3
        · replace h3 := Classical.not_not.mp h3
          refine x_iload xc190_120 rfl ?_
          refine x_aloadn xc190_122 rfl ?_
          refine x_gfi' (k := 34) (v := m) xc190_123 rfl (Or.inl rfl) rfl xz87 hm ?_
          refine x_iclt xc190_126 (xRk (by have g0 := hlv; omega)) (xRk (by have g0 := hm0; omega)) (fun h4 => ?_) (fun h4 => ?_)
          · refine x_aloadn xc190_132 rfl ?_
            refine x_iloadn xc190_133 rfl ?_
            refine x_iloadn xc190_134 rfl ?_
            refine x_iload xc190_135 rfl ?_
            refine x_cV (as := [xV lv, xV f, xV c]) (rest := []) xc190_137 rfl xi196 xz87 ⟨rfl, rfl⟩ rfl rfl ?_
            exact k4 h0 h1 h2 h3 h4
          · refine x_goto xc190_129 ?_
            exact k5 h0 h1 h2 h3 h4
  · replace h0 := Classical.not_not.mp h0
    refine x_goto xc190_68 ?_
    exact k6 h0

theorem w190c {ro : Nat → Nat × (Nat → Int32)} {d : Nat} {Q : Option Value → pmS → Prop} {v7 : Option Value} {f k lv c co nn : Int} {a : xA} {b : xB} (hlv : 0 ≤ lv ∧ lv ≤ 3) (hnn : 1 ≤ nn ∧ nn ≤ 4)
    (k1 : pmCs ro d 187 [.ref 87, xV nn, xV f, xV k] (xS (xU a 110 lv c) b) fun r σ' => pmWp ro d 12 190 2 156 [some (.ref 87), some (xV f), some (xV k), some (xV lv), some (xV c), some (xV co), some (xV nn), v7] (r.toList ++ []) σ' Q) :
    pmWp ro d 12 190 2 140 [some (.ref 87), some (xV f), some (xV k), some (xV lv), some (xV c), some (xV co), some (xV nn), v7] [] (xS a b) Q := by
  refine x_aloadn xc190_140 rfl ?_
  refine x_gfr xc190_141 rfl rfl xz87 rfl ?_
  refine x_iloadn xc190_144 rfl ?_
  refine x_iload xc190_145 rfl ?_
  refine x_ias xc190_147 xz110 (by have g0 := hlv; omega) (by have g0 := hlv; omega) (by have g0 := hlv; omega) ?_
  refine x_aloadn xc190_148 rfl ?_
  refine x_iload xc190_149 rfl ?_
  refine x_iloadn xc190_151 rfl ?_
  refine x_iloadn xc190_152 rfl ?_
  refine x_cV (as := [xV nn, xV f, xV k]) (rest := []) xc190_153 rfl xi187 xz87 ⟨rfl, rfl⟩ rfl rfl ?_
  exact k1

theorem w190d {ro : Nat → Nat × (Nat → Int32)} {d : Nat} {Q : Option Value → pmS → Prop} {v7 : Option Value} {f k lv c co nn z : Int} {a : xA} {b : xB} (hlv : 0 ≤ lv ∧ lv ≤ 3) (hnn : 1 ≤ nn ∧ nn ≤ 4) (hz : z = 0 ∨ z = 1)
    (k1 : (z = 0) → (4 ≤ nn) → pmWp ro d 12 190 2 21 [some (.ref 87), some (xV f), some (xV k), some (xV lv), some (xV c), some (xV co), some (xV nn), v7] [] (xS a b) Q)
    (k2 : (z = 0) → (¬ 4 ≤ nn) → pmWp ro d 12 190 2 21 [some (.ref 87), some (xV f), some (xV k), some (xV nn), some (xV c), some (xV co), some (xV nn), v7] [] (xS (xU (xU a 112 nn 0) 113 nn co) b) Q)
    (k3 : (¬ z = 0) → pmWp ro d 12 190 2 174 [some (.ref 87), some (xV f), some (xV k), some (xV lv), some (xV c), some (xV co), some (xV nn), some (xV 0)] [] (xS (xU (xU a 87 33 co) 87 34 nn) b) Q) :
    pmWp ro d 12 190 2 156 [some (.ref 87), some (xV f), some (xV k), some (xV lv), some (xV c), some (xV co), some (xV nn), v7] [xV z] (xS a b) Q := by
  refine x_ifeq xc190_156 (xRk (by have g0 := hz; omega)) (fun h0 => ?_) (fun h0 => ?_)
  · refine x_iload xc190_204 rfl ?_
    refine x_iconst xc190_206 ?_
    refine x_icge xc190_207 (xRk (by have g0 := hnn; omega)) (xRk (by decide)) (fun h1 => ?_) (fun h1 => ?_)
    · refine x_goto xc190_230 ?_
      exact k1 h0 h1
    · refine x_iload xc190_210 rfl ?_
      refine x_istoren (pl' := [some (.ref 87), some (xV f), some (xV k), some (xV nn), some (xV c), some (xV co), some (xV nn), v7]) xc190_212 rfl rfl ?_
      refine x_aloadn xc190_213 rfl ?_
      refine x_gfr xc190_214 rfl rfl xz87 rfl ?_
      refine x_iload xc190_217 rfl ?_
      refine x_iconst xc190_219 ?_
      refine x_ias xc190_220 xz112 (by have g0 := hnn; omega) (by have g0 := hnn; omega) (by have g0 := hnn; omega) ?_
      refine x_aloadn xc190_221 rfl ?_
      refine x_gfr xc190_222 rfl rfl xz87 rfl ?_
      refine x_iload xc190_225 rfl ?_
      refine x_iload xc190_227 rfl ?_
      refine x_ias xc190_229 xz113 (by have g0 := hnn; omega) (by have g0 := hnn; omega) (by have g0 := hnn; omega) ?_
      refine x_goto xc190_230 ?_
      exact k2 h0 h1
  · refine x_aloadn xc190_159 rfl ?_
    refine x_iload xc190_160 rfl ?_
    refine x_pfi (k := 33) xc190_162 rfl ⟨rfl, rfl⟩ rfl xz87 ?_
    refine x_aloadn xc190_165 rfl ?_
    refine x_iload xc190_166 rfl ?_
    refine x_pfi (k := 34) xc190_168 rfl ⟨rfl, rfl⟩ rfl xz87 ?_
    refine x_iconst xc190_171 ?_
    refine x_istore (pl' := [some (.ref 87), some (xV f), some (xV k), some (xV lv), some (xV c), some (xV co), some (xV nn), some (xV 0)]) xc190_172 rfl rfl ?_
    exact k3 h0

theorem w190e {ro : Nat → Nat × (Nat → Int32)} {d : Nat} {Q : Option Value → pmS → Prop} {f k lv c co nn i : Int} {a : xA} {b : xB} (hlv : 0 ≤ lv ∧ lv ≤ 3) (hnn : 1 ≤ nn ∧ nn ≤ 4) (hi : 0 ≤ i ∧ i ≤ nn)
    (k1 : (nn ≤ i) → pmWp ro d 12 190 2 21 [some (.ref 87), some (xV f), some (xV k), some (xV lv), some (xV c), some (xV co), some (xV nn), some (xV i)] [] (xS a b) Q)
    (k2 : (¬ nn ≤ i) → pmWp ro d 12 190 2 174 [some (.ref 87), some (xV f), some (xV k), some (xV lv), some (xV c), some (xV co), some (xV nn), some (xV (i + 1))] [] (xS (xU a 111 i (a 110 i)) b) Q) :
    pmWp ro d 12 190 2 174 [some (.ref 87), some (xV f), some (xV k), some (xV lv), some (xV c), some (xV co), some (xV nn), some (xV i)] [] (xS a b) Q := by
  refine x_iload xc190_174 rfl ?_
  refine x_iload xc190_176 rfl ?_
  refine x_icge xc190_178 (xRk (by have g0 := hi; omega)) (xRk (by have g0 := hnn; omega)) (fun h0 => ?_) (fun h0 => ?_)
  · refine x_goto xc190_201 ?_
    refine x_goto xc190_230 ?_
    exact k1 h0
  · refine x_aloadn xc190_181 rfl ?_
    refine x_gfr xc190_182 rfl rfl xz87 rfl ?_
    refine x_iload xc190_185 rfl ?_
    refine x_aloadn xc190_187 rfl ?_
    refine x_gfr xc190_188 rfl rfl xz87 rfl ?_
    refine x_iload xc190_191 rfl ?_
    refine x_ial xc190_193 xz110 rfl (by have g0 := hi; omega) (by have g0 := hi; omega) (by have g0 := hi; omega) ?_
    refine x_ias xc190_194 xz111 (by have g0 := hi; omega) (by have g0 := hi; omega) (by have g0 := hi; omega) ?_
    refine x_iinc (pl' := [some (.ref 87), some (xV f), some (xV k), some (xV lv), some (xV c), some (xV co), some (xV nn), some (xV (i + 1))]) xc190_195 rfl rfl ?_
    refine x_goto xc190_198 ?_
    exact k2 h0

end
