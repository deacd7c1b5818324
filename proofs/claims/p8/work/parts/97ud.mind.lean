/-! exact: the reference, deeds in a mind -/
section
set_option maxRecDepth 100000
theorem xi187 : pmInf[187]? = some pmI_187 := rfl
theorem xi188 : pmInf[188]? = some pmI_188 := rfl
theorem xi191 : pmInf[191]? = some pmI_191 := rfl
theorem xi192 : pmInf[192]? = some pmI_192 := rfl
theorem xi193 : pmInf[193]? = some pmI_193 := rfl
theorem xi194 : pmInf[194]? = some pmI_194 := rfl
theorem xi195 : pmInf[195]? = some pmI_195 := rfl
theorem xi196 : pmInf[196]? = some pmI_196 := rfl
theorem xc187_0 : pmCode 187 0 = some (.iconst 3) ∧ 0 + 1 = 1 := ⟨rfl, rfl⟩
theorem xc187_1 : pmCode 187 1 = some (.iload_n 2) ∧ 1 + 1 = 2 := ⟨rfl, rfl⟩
theorem xc187_2 : pmCode 187 2 = some .imul ∧ 2 + 1 = 3 := ⟨rfl, rfl⟩
theorem xc187_3 : pmCode 187 3 = some (.iload_n 3) ∧ 3 + 1 = 4 := ⟨rfl, rfl⟩
theorem xc187_4 : pmCode 187 4 = some .iadd ∧ 4 + 1 = 5 := ⟨rfl, rfl⟩
theorem xc187_5 : pmCode 187 5 = some (.istore 4) ∧ 5 + 2 = 7 := ⟨rfl, rfl⟩
theorem xc187_7 : pmCode 187 7 = some (.iconst 0) ∧ 7 + 1 = 8 := ⟨rfl, rfl⟩
theorem xc187_8 : pmCode 187 8 = some (.istore 5) ∧ 8 + 2 = 10 := ⟨rfl, rfl⟩
theorem xc187_10 : pmCode 187 10 = some (.bipush 60) ∧ 10 + 2 = 12 := ⟨rfl, rfl⟩
theorem xc187_12 : pmCode 187 12 = some (.iload 4) ∧ 12 + 2 = 14 := ⟨rfl, rfl⟩
theorem xc187_14 : pmCode 187 14 = some .imul ∧ 14 + 1 = 15 := ⟨rfl, rfl⟩
theorem xc187_15 : pmCode 187 15 = some (.istore 6) ∧ 15 + 2 = 17 := ⟨rfl, rfl⟩
theorem xc187_17 : pmCode 187 17 = some (.iload 6) ∧ 17 + 2 = 19 := ⟨rfl, rfl⟩
theorem xc187_19 : pmCode 187 19 = some (.bipush 60) ∧ 19 + 2 = 21 := ⟨rfl, rfl⟩
theorem xc187_21 : pmCode 187 21 = some (.iload 4) ∧ 21 + 2 = 23 := ⟨rfl, rfl⟩
theorem xc187_23 : pmCode 187 23 = some .imul ∧ 23 + 1 = 24 := ⟨rfl, rfl⟩
theorem xc187_24 : pmCode 187 24 = some (.aload_n 0) ∧ 24 + 1 = 25 := ⟨rfl, rfl⟩
theorem xc187_25 : pmCode 187 25 = some (.getfield 42) ∧ 25 + 3 = 28 := ⟨rfl, rfl⟩
theorem xc187_28 : pmCode 187 28 = some (.iload 4) ∧ 28 + 2 = 30 := ⟨rfl, rfl⟩
theorem xc187_30 : pmCode 187 30 = some .iaload ∧ 30 + 1 = 31 := ⟨rfl, rfl⟩
theorem xc187_31 : pmCode 187 31 = some .iadd ∧ 31 + 1 = 32 := ⟨rfl, rfl⟩
theorem xc187_32 : pmCode 187 32 = some (.if_icmp .ge 192) ∧ ((32 : Nat) : Int) + 192 = ((224 : Nat) : Int) ∧ 32 + 3 = 35 := ⟨rfl, rfl, rfl⟩
theorem xc187_35 : pmCode 187 35 = some (.aload_n 0) ∧ 35 + 1 = 36 := ⟨rfl, rfl⟩
theorem xc187_36 : pmCode 187 36 = some (.getfield 45) ∧ 36 + 3 = 39 := ⟨rfl, rfl⟩
theorem xc187_39 : pmCode 187 39 = some (.iload 6) ∧ 39 + 2 = 41 := ⟨rfl, rfl⟩
theorem xc187_41 : pmCode 187 41 = some .iaload ∧ 41 + 1 = 42 := ⟨rfl, rfl⟩
theorem xc187_42 : pmCode 187 42 = some (.sipush 256) ∧ 42 + 3 = 45 := ⟨rfl, rfl⟩
theorem xc187_45 : pmCode 187 45 = some .idiv ∧ 45 + 1 = 46 := ⟨rfl, rfl⟩
theorem xc187_46 : pmCode 187 46 = some (.istore 7) ∧ 46 + 2 = 48 := ⟨rfl, rfl⟩
theorem xc187_48 : pmCode 187 48 = some (.iload 7) ∧ 48 + 2 = 50 := ⟨rfl, rfl⟩
theorem xc187_50 : pmCode 187 50 = some (.iconst 5) ∧ 50 + 1 = 51 := ⟨rfl, rfl⟩
theorem xc187_51 : pmCode 187 51 = some (.if_icmp .ge 53) ∧ ((51 : Nat) : Int) + 53 = ((104 : Nat) : Int) ∧ 51 + 3 = 54 := ⟨rfl, rfl, rfl⟩
theorem xc187_54 : pmCode 187 54 = some (.aload_n 0) ∧ 54 + 1 = 55 := ⟨rfl, rfl⟩
theorem xc187_55 : pmCode 187 55 = some (.getfield 75) ∧ 55 + 3 = 58 := ⟨rfl, rfl⟩
theorem xc187_58 : pmCode 187 58 = some (.iload 5) ∧ 58 + 2 = 60 := ⟨rfl, rfl⟩
theorem xc187_60 : pmCode 187 60 = some (.aload_n 0) ∧ 60 + 1 = 61 := ⟨rfl, rfl⟩
theorem xc187_61 : pmCode 187 61 = some (.bipush 10) ∧ 61 + 2 = 63 := ⟨rfl, rfl⟩
theorem xc187_63 : pmCode 187 63 = some (.iload_n 1) ∧ 63 + 1 = 64 := ⟨rfl, rfl⟩
theorem xc187_64 : pmCode 187 64 = some .imul ∧ 64 + 1 = 65 := ⟨rfl, rfl⟩
theorem xc187_65 : pmCode 187 65 = some (.iload_n 2) ∧ 65 + 1 = 66 := ⟨rfl, rfl⟩
theorem xc187_66 : pmCode 187 66 = some (.iload 7) ∧ 66 + 2 = 68 := ⟨rfl, rfl⟩
theorem xc187_68 : pmCode 187 68 = some (.aload_n 0) ∧ 68 + 1 = 69 := ⟨rfl, rfl⟩
theorem xc187_69 : pmCode 187 69 = some (.getfield 45) ∧ 69 + 3 = 72 := ⟨rfl, rfl⟩
theorem xc187_72 : pmCode 187 72 = some (.iload 6) ∧ 72 + 2 = 74 := ⟨rfl, rfl⟩
theorem xc187_74 : pmCode 187 74 = some .iaload ∧ 74 + 1 = 75 := ⟨rfl, rfl⟩
theorem xc187_75 : pmCode 187 75 = some (.bipush 16) ∧ 75 + 2 = 77 := ⟨rfl, rfl⟩
theorem xc187_77 : pmCode 187 77 = some .idiv ∧ 77 + 1 = 78 := ⟨rfl, rfl⟩
theorem xc187_78 : pmCode 187 78 = some (.bipush 16) ∧ 78 + 2 = 80 := ⟨rfl, rfl⟩
theorem xc187_80 : pmCode 187 80 = some .irem ∧ 80 + 1 = 81 := ⟨rfl, rfl⟩
theorem xc187_81 : pmCode 187 81 = some (.aload_n 0) ∧ 81 + 1 = 82 := ⟨rfl, rfl⟩
theorem xc187_82 : pmCode 187 82 = some (.getfield 45) ∧ 82 + 3 = 85 := ⟨rfl, rfl⟩
theorem xc187_85 : pmCode 187 85 = some (.iload 6) ∧ 85 + 2 = 87 := ⟨rfl, rfl⟩
theorem xc187_87 : pmCode 187 87 = some .iaload ∧ 87 + 1 = 88 := ⟨rfl, rfl⟩
theorem xc187_88 : pmCode 187 88 = some (.bipush 16) ∧ 88 + 2 = 90 := ⟨rfl, rfl⟩
theorem xc187_90 : pmCode 187 90 = some .irem ∧ 90 + 1 = 91 := ⟨rfl, rfl⟩
theorem xc187_91 : pmCode 187 91 = some (.invokevirtual 272) ∧ 91 + 3 = 94 := ⟨rfl, rfl⟩
theorem xc187_94 : pmCode 187 94 = some .bastore ∧ 94 + 1 = 95 := ⟨rfl, rfl⟩
theorem xc187_95 : pmCode 187 95 = some (.iload 5) ∧ 95 + 2 = 97 := ⟨rfl, rfl⟩
theorem xc187_97 : pmCode 187 97 = some (.iconst 1) ∧ 97 + 1 = 98 := ⟨rfl, rfl⟩
theorem xc187_98 : pmCode 187 98 = some .iadd ∧ 98 + 1 = 99 := ⟨rfl, rfl⟩
theorem xc187_99 : pmCode 187 99 = some (.istore 5) ∧ 99 + 2 = 101 := ⟨rfl, rfl⟩
theorem xc187_101 : pmCode 187 101 = some (.goto 117) ∧ ((101 : Nat) : Int) + 117 = ((218 : Nat) : Int) := ⟨rfl, rfl⟩
theorem xc187_104 : pmCode 187 104 = some (.iload 7) ∧ 104 + 2 = 106 := ⟨rfl, rfl⟩
theorem xc187_106 : pmCode 187 106 = some (.bipush 7) ∧ 106 + 2 = 108 := ⟨rfl, rfl⟩
theorem xc187_108 : pmCode 187 108 = some (.if_icmp .ne 32) ∧ ((108 : Nat) : Int) + 32 = ((140 : Nat) : Int) ∧ 108 + 3 = 111 := ⟨rfl, rfl, rfl⟩
theorem xc187_111 : pmCode 187 111 = some (.aload_n 0) ∧ 111 + 1 = 112 := ⟨rfl, rfl⟩
theorem xc187_112 : pmCode 187 112 = some (.getfield 75) ∧ 112 + 3 = 115 := ⟨rfl, rfl⟩
theorem xc187_115 : pmCode 187 115 = some (.iload 5) ∧ 115 + 2 = 117 := ⟨rfl, rfl⟩
theorem xc187_117 : pmCode 187 117 = some (.iconst 1) ∧ 117 + 1 = 118 := ⟨rfl, rfl⟩
theorem xc187_118 : pmCode 187 118 = some .isub ∧ 118 + 1 = 119 := ⟨rfl, rfl⟩
theorem xc187_119 : pmCode 187 119 = some (.aload_n 0) ∧ 119 + 1 = 120 := ⟨rfl, rfl⟩
theorem xc187_120 : pmCode 187 120 = some (.getfield 75) ∧ 120 + 3 = 123 := ⟨rfl, rfl⟩
theorem xc187_123 : pmCode 187 123 = some (.iload 5) ∧ 123 + 2 = 125 := ⟨rfl, rfl⟩
theorem xc187_125 : pmCode 187 125 = some (.iconst 1) ∧ 125 + 1 = 126 := ⟨rfl, rfl⟩
theorem xc187_126 : pmCode 187 126 = some .isub ∧ 126 + 1 = 127 := ⟨rfl, rfl⟩
theorem xc187_127 : pmCode 187 127 = some .baload ∧ 127 + 1 = 128 := ⟨rfl, rfl⟩
theorem xc187_128 : pmCode 187 128 = some (.ifCond .ne 7) ∧ ((128 : Nat) : Int) + 7 = ((135 : Nat) : Int) ∧ 128 + 3 = 131 := ⟨rfl, rfl, rfl⟩
theorem xc187_131 : pmCode 187 131 = some (.iconst 1) ∧ 131 + 1 = 132 := ⟨rfl, rfl⟩
theorem xc187_132 : pmCode 187 132 = some (.goto 4) ∧ ((132 : Nat) : Int) + 4 = ((136 : Nat) : Int) := ⟨rfl, rfl⟩
theorem xc187_135 : pmCode 187 135 = some (.iconst 0) ∧ 135 + 1 = 136 := ⟨rfl, rfl⟩
theorem xc187_136 : pmCode 187 136 = some .bastore ∧ 136 + 1 = 137 := ⟨rfl, rfl⟩
theorem xc187_137 : pmCode 187 137 = some (.goto 81) ∧ ((137 : Nat) : Int) + 81 = ((218 : Nat) : Int) := ⟨rfl, rfl⟩
theorem xc187_140 : pmCode 187 140 = some (.iload 5) ∧ 140 + 2 = 142 := ⟨rfl, rfl⟩
theorem xc187_142 : pmCode 187 142 = some (.iconst 1) ∧ 142 + 1 = 143 := ⟨rfl, rfl⟩
theorem xc187_143 : pmCode 187 143 = some .isub ∧ 143 + 1 = 144 := ⟨rfl, rfl⟩
theorem xc187_144 : pmCode 187 144 = some (.istore 5) ∧ 144 + 2 = 146 := ⟨rfl, rfl⟩
theorem xc187_146 : pmCode 187 146 = some (.aload_n 0) ∧ 146 + 1 = 147 := ⟨rfl, rfl⟩
theorem xc187_147 : pmCode 187 147 = some (.getfield 75) ∧ 147 + 3 = 150 := ⟨rfl, rfl⟩
theorem xc187_150 : pmCode 187 150 = some (.iload 5) ∧ 150 + 2 = 152 := ⟨rfl, rfl⟩
theorem xc187_152 : pmCode 187 152 = some (.iconst 1) ∧ 152 + 1 = 153 := ⟨rfl, rfl⟩
theorem xc187_153 : pmCode 187 153 = some .isub ∧ 153 + 1 = 154 := ⟨rfl, rfl⟩
theorem xc187_154 : pmCode 187 154 = some (.iload 7) ∧ 154 + 2 = 156 := ⟨rfl, rfl⟩
theorem xc187_156 : pmCode 187 156 = some (.iconst 5) ∧ 156 + 1 = 157 := ⟨rfl, rfl⟩
theorem xc187_157 : pmCode 187 157 = some (.if_icmp .ne 33) ∧ ((157 : Nat) : Int) + 33 = ((190 : Nat) : Int) ∧ 157 + 3 = 160 := ⟨rfl, rfl, rfl⟩
theorem xc187_160 : pmCode 187 160 = some (.aload_n 0) ∧ 160 + 1 = 161 := ⟨rfl, rfl⟩
theorem xc187_161 : pmCode 187 161 = some (.getfield 75) ∧ 161 + 3 = 164 := ⟨rfl, rfl⟩
theorem xc187_164 : pmCode 187 164 = some (.iload 5) ∧ 164 + 2 = 166 := ⟨rfl, rfl⟩
theorem xc187_166 : pmCode 187 166 = some (.iconst 1) ∧ 166 + 1 = 167 := ⟨rfl, rfl⟩
theorem xc187_167 : pmCode 187 167 = some .isub ∧ 167 + 1 = 168 := ⟨rfl, rfl⟩
theorem xc187_168 : pmCode 187 168 = some .baload ∧ 168 + 1 = 169 := ⟨rfl, rfl⟩
theorem xc187_169 : pmCode 187 169 = some (.ifCond .eq 17) ∧ ((169 : Nat) : Int) + 17 = ((186 : Nat) : Int) ∧ 169 + 3 = 172 := ⟨rfl, rfl, rfl⟩
theorem xc187_172 : pmCode 187 172 = some (.aload_n 0) ∧ 172 + 1 = 173 := ⟨rfl, rfl⟩
theorem xc187_173 : pmCode 187 173 = some (.getfield 75) ∧ 173 + 3 = 176 := ⟨rfl, rfl⟩
theorem xc187_176 : pmCode 187 176 = some (.iload 5) ∧ 176 + 2 = 178 := ⟨rfl, rfl⟩
theorem xc187_178 : pmCode 187 178 = some .baload ∧ 178 + 1 = 179 := ⟨rfl, rfl⟩
theorem xc187_179 : pmCode 187 179 = some (.ifCond .eq 7) ∧ ((179 : Nat) : Int) + 7 = ((186 : Nat) : Int) ∧ 179 + 3 = 182 := ⟨rfl, rfl, rfl⟩
theorem xc187_182 : pmCode 187 182 = some (.iconst 1) ∧ 182 + 1 = 183 := ⟨rfl, rfl⟩
theorem xc187_183 : pmCode 187 183 = some (.goto 34) ∧ ((183 : Nat) : Int) + 34 = ((217 : Nat) : Int) := ⟨rfl, rfl⟩
theorem xc187_186 : pmCode 187 186 = some (.iconst 0) ∧ 186 + 1 = 187 := ⟨rfl, rfl⟩
theorem xc187_187 : pmCode 187 187 = some (.goto 30) ∧ ((187 : Nat) : Int) + 30 = ((217 : Nat) : Int) := ⟨rfl, rfl⟩
theorem xc187_190 : pmCode 187 190 = some (.aload_n 0) ∧ 190 + 1 = 191 := ⟨rfl, rfl⟩
theorem xc187_191 : pmCode 187 191 = some (.getfield 75) ∧ 191 + 3 = 194 := ⟨rfl, rfl⟩
theorem xc187_194 : pmCode 187 194 = some (.iload 5) ∧ 194 + 2 = 196 := ⟨rfl, rfl⟩
theorem xc187_196 : pmCode 187 196 = some (.iconst 1) ∧ 196 + 1 = 197 := ⟨rfl, rfl⟩
theorem xc187_197 : pmCode 187 197 = some .isub ∧ 197 + 1 = 198 := ⟨rfl, rfl⟩
theorem xc187_198 : pmCode 187 198 = some .baload ∧ 198 + 1 = 199 := ⟨rfl, rfl⟩
theorem xc187_199 : pmCode 187 199 = some (.ifCond .ne 13) ∧ ((199 : Nat) : Int) + 13 = ((212 : Nat) : Int) ∧ 199 + 3 = 202 := ⟨rfl, rfl, rfl⟩
theorem xc187_202 : pmCode 187 202 = some (.aload_n 0) ∧ 202 + 1 = 203 := ⟨rfl, rfl⟩
theorem xc187_203 : pmCode 187 203 = some (.getfield 75) ∧ 203 + 3 = 206 := ⟨rfl, rfl⟩
theorem xc187_206 : pmCode 187 206 = some (.iload 5) ∧ 206 + 2 = 208 := ⟨rfl, rfl⟩
theorem xc187_208 : pmCode 187 208 = some .baload ∧ 208 + 1 = 209 := ⟨rfl, rfl⟩
theorem xc187_209 : pmCode 187 209 = some (.ifCond .eq 7) ∧ ((209 : Nat) : Int) + 7 = ((216 : Nat) : Int) ∧ 209 + 3 = 212 := ⟨rfl, rfl, rfl⟩
theorem xc187_212 : pmCode 187 212 = some (.iconst 1) ∧ 212 + 1 = 213 := ⟨rfl, rfl⟩
theorem xc187_213 : pmCode 187 213 = some (.goto 4) ∧ ((213 : Nat) : Int) + 4 = ((217 : Nat) : Int) := ⟨rfl, rfl⟩
theorem xc187_216 : pmCode 187 216 = some (.iconst 0) ∧ 216 + 1 = 217 := ⟨rfl, rfl⟩
theorem xc187_217 : pmCode 187 217 = some .bastore ∧ 217 + 1 = 218 := ⟨rfl, rfl⟩
theorem xc187_218 : pmCode 187 218 = some (.iinc 6 1) ∧ 218 + 3 = 221 := ⟨rfl, rfl⟩
theorem xc187_221 : pmCode 187 221 = some (.goto (-204)) ∧ ((221 : Nat) : Int) + (-204) = ((17 : Nat) : Int) := ⟨rfl, rfl⟩
theorem xc187_224 : pmCode 187 224 = some (.aload_n 0) ∧ 224 + 1 = 225 := ⟨rfl, rfl⟩
theorem xc187_225 : pmCode 187 225 = some (.getfield 75) ∧ 225 + 3 = 228 := ⟨rfl, rfl⟩
theorem xc187_228 : pmCode 187 228 = some (.iconst 0) ∧ 228 + 1 = 229 := ⟨rfl, rfl⟩
theorem xc187_229 : pmCode 187 229 = some .baload ∧ 229 + 1 = 230 := ⟨rfl, rfl⟩
theorem xc187_230 : pmCode 187 230 = some .ireturn := rfl
theorem xc188_0 : pmCode 188 0 = some (.iload_n 3) ∧ 0 + 1 = 1 := ⟨rfl, rfl⟩
theorem xc188_1 : pmCode 188 1 = some (.tableswitch 117 0 3 #[31, 55, 72, 95]) ∧ ((1 : Nat) : Int) + 117 = ((118 : Nat) : Int) := ⟨rfl, rfl⟩
theorem xc188_32 : pmCode 188 32 = some (.aload_n 0) ∧ 32 + 1 = 33 := ⟨rfl, rfl⟩
theorem xc188_33 : pmCode 188 33 = some (.getfield 72) ∧ 33 + 3 = 36 := ⟨rfl, rfl⟩
theorem xc188_36 : pmCode 188 36 = some (.iload_n 1) ∧ 36 + 1 = 37 := ⟨rfl, rfl⟩
theorem xc188_37 : pmCode 188 37 = some (.iconst 1) ∧ 37 + 1 = 38 := ⟨rfl, rfl⟩
theorem xc188_38 : pmCode 188 38 = some .iadd ∧ 38 + 1 = 39 := ⟨rfl, rfl⟩
theorem xc188_39 : pmCode 188 39 = some (.iload 4) ∧ 39 + 2 = 41 := ⟨rfl, rfl⟩
theorem xc188_41 : pmCode 188 41 = some .iadd ∧ 41 + 1 = 42 := ⟨rfl, rfl⟩
theorem xc188_42 : pmCode 188 42 = some .iaload ∧ 42 + 1 = 43 := ⟨rfl, rfl⟩
theorem xc188_43 : pmCode 188 43 = some (.bipush 10) ∧ 43 + 2 = 45 := ⟨rfl, rfl⟩
theorem xc188_45 : pmCode 188 45 = some (.iload_n 2) ∧ 45 + 1 = 46 := ⟨rfl, rfl⟩
theorem xc188_46 : pmCode 188 46 = some .iadd ∧ 46 + 1 = 47 := ⟨rfl, rfl⟩
theorem xc188_47 : pmCode 188 47 = some (.if_icmp .ne 7) ∧ ((47 : Nat) : Int) + 7 = ((54 : Nat) : Int) ∧ 47 + 3 = 50 := ⟨rfl, rfl, rfl⟩
theorem xc188_50 : pmCode 188 50 = some (.iconst 1) ∧ 50 + 1 = 51 := ⟨rfl, rfl⟩
theorem xc188_51 : pmCode 188 51 = some (.goto 4) ∧ ((51 : Nat) : Int) + 4 = ((55 : Nat) : Int) := ⟨rfl, rfl⟩
theorem xc188_54 : pmCode 188 54 = some (.iconst 0) ∧ 54 + 1 = 55 := ⟨rfl, rfl⟩
theorem xc188_55 : pmCode 188 55 = some .ireturn := rfl
theorem xc188_56 : pmCode 188 56 = some (.aload_n 0) ∧ 56 + 1 = 57 := ⟨rfl, rfl⟩
theorem xc188_57 : pmCode 188 57 = some (.getfield 72) ∧ 57 + 3 = 60 := ⟨rfl, rfl⟩
theorem xc188_60 : pmCode 188 60 = some (.iload_n 1) ∧ 60 + 1 = 61 := ⟨rfl, rfl⟩
theorem xc188_61 : pmCode 188 61 = some .iaload ∧ 61 + 1 = 62 := ⟨rfl, rfl⟩
theorem xc188_62 : pmCode 188 62 = some (.iload 4) ∧ 62 + 2 = 64 := ⟨rfl, rfl⟩
theorem xc188_64 : pmCode 188 64 = some (.if_icmp .ne 7) ∧ ((64 : Nat) : Int) + 7 = ((71 : Nat) : Int) ∧ 64 + 3 = 67 := ⟨rfl, rfl, rfl⟩
theorem xc188_67 : pmCode 188 67 = some (.iconst 1) ∧ 67 + 1 = 68 := ⟨rfl, rfl⟩
theorem xc188_68 : pmCode 188 68 = some (.goto 4) ∧ ((68 : Nat) : Int) + 4 = ((72 : Nat) : Int) := ⟨rfl, rfl⟩
theorem xc188_71 : pmCode 188 71 = some (.iconst 0) ∧ 71 + 1 = 72 := ⟨rfl, rfl⟩
theorem xc188_72 : pmCode 188 72 = some .ireturn := rfl
theorem xc188_73 : pmCode 188 73 = some (.aload_n 0) ∧ 73 + 1 = 74 := ⟨rfl, rfl⟩
theorem xc188_74 : pmCode 188 74 = some (.getfield 72) ∧ 74 + 3 = 77 := ⟨rfl, rfl⟩
theorem xc188_77 : pmCode 188 77 = some (.iload_n 1) ∧ 77 + 1 = 78 := ⟨rfl, rfl⟩
theorem xc188_78 : pmCode 188 78 = some (.bipush 6) ∧ 78 + 2 = 80 := ⟨rfl, rfl⟩
theorem xc188_80 : pmCode 188 80 = some .iadd ∧ 80 + 1 = 81 := ⟨rfl, rfl⟩
theorem xc188_81 : pmCode 188 81 = some (.iload 4) ∧ 81 + 2 = 83 := ⟨rfl, rfl⟩
theorem xc188_83 : pmCode 188 83 = some .iadd ∧ 83 + 1 = 84 := ⟨rfl, rfl⟩
theorem xc188_84 : pmCode 188 84 = some .iaload ∧ 84 + 1 = 85 := ⟨rfl, rfl⟩
theorem xc188_85 : pmCode 188 85 = some (.bipush 7) ∧ 85 + 2 = 87 := ⟨rfl, rfl⟩
theorem xc188_87 : pmCode 188 87 = some (.if_icmp .ne 7) ∧ ((87 : Nat) : Int) + 7 = ((94 : Nat) : Int) ∧ 87 + 3 = 90 := ⟨rfl, rfl, rfl⟩
theorem xc188_90 : pmCode 188 90 = some (.iconst 1) ∧ 90 + 1 = 91 := ⟨rfl, rfl⟩
theorem xc188_91 : pmCode 188 91 = some (.goto 4) ∧ ((91 : Nat) : Int) + 4 = ((95 : Nat) : Int) := ⟨rfl, rfl⟩
theorem xc188_94 : pmCode 188 94 = some (.iconst 0) ∧ 94 + 1 = 95 := ⟨rfl, rfl⟩
theorem xc188_95 : pmCode 188 95 = some .ireturn := rfl
theorem xc188_96 : pmCode 188 96 = some (.aload_n 0) ∧ 96 + 1 = 97 := ⟨rfl, rfl⟩
theorem xc188_97 : pmCode 188 97 = some (.getfield 72) ∧ 97 + 3 = 100 := ⟨rfl, rfl⟩
theorem xc188_100 : pmCode 188 100 = some (.iload_n 1) ∧ 100 + 1 = 101 := ⟨rfl, rfl⟩
theorem xc188_101 : pmCode 188 101 = some (.iconst 1) ∧ 101 + 1 = 102 := ⟨rfl, rfl⟩
theorem xc188_102 : pmCode 188 102 = some .iadd ∧ 102 + 1 = 103 := ⟨rfl, rfl⟩
theorem xc188_103 : pmCode 188 103 = some (.iload 4) ∧ 103 + 2 = 105 := ⟨rfl, rfl⟩
theorem xc188_105 : pmCode 188 105 = some .iadd ∧ 105 + 1 = 106 := ⟨rfl, rfl⟩
theorem xc188_106 : pmCode 188 106 = some .iaload ∧ 106 + 1 = 107 := ⟨rfl, rfl⟩
theorem xc188_107 : pmCode 188 107 = some (.iload 5) ∧ 107 + 2 = 109 := ⟨rfl, rfl⟩
theorem xc188_109 : pmCode 188 109 = some (.if_icmp .ne 7) ∧ ((109 : Nat) : Int) + 7 = ((116 : Nat) : Int) ∧ 109 + 3 = 112 := ⟨rfl, rfl, rfl⟩
theorem xc188_112 : pmCode 188 112 = some (.iconst 1) ∧ 112 + 1 = 113 := ⟨rfl, rfl⟩
theorem xc188_113 : pmCode 188 113 = some (.goto 4) ∧ ((113 : Nat) : Int) + 4 = ((117 : Nat) : Int) := ⟨rfl, rfl⟩
theorem xc188_116 : pmCode 188 116 = some (.iconst 0) ∧ 116 + 1 = 117 := ⟨rfl, rfl⟩
theorem xc188_117 : pmCode 188 117 = some .ireturn := rfl
theorem xc188_118 : pmCode 188 118 = some (.aload_n 0) ∧ 118 + 1 = 119 := ⟨rfl, rfl⟩
theorem xc188_119 : pmCode 188 119 = some (.getfield 72) ∧ 119 + 3 = 122 := ⟨rfl, rfl⟩
theorem xc188_122 : pmCode 188 122 = some (.iload_n 1) ∧ 122 + 1 = 123 := ⟨rfl, rfl⟩
theorem xc188_123 : pmCode 188 123 = some (.iconst 1) ∧ 123 + 1 = 124 := ⟨rfl, rfl⟩
theorem xc188_124 : pmCode 188 124 = some .iadd ∧ 124 + 1 = 125 := ⟨rfl, rfl⟩
theorem xc188_125 : pmCode 188 125 = some (.iload 5) ∧ 125 + 2 = 127 := ⟨rfl, rfl⟩
theorem xc188_127 : pmCode 188 127 = some .iadd ∧ 127 + 1 = 128 := ⟨rfl, rfl⟩
theorem xc188_128 : pmCode 188 128 = some .iaload ∧ 128 + 1 = 129 := ⟨rfl, rfl⟩
theorem xc188_129 : pmCode 188 129 = some (.bipush 10) ∧ 129 + 2 = 131 := ⟨rfl, rfl⟩
theorem xc188_131 : pmCode 188 131 = some (.iload 4) ∧ 131 + 2 = 133 := ⟨rfl, rfl⟩
theorem xc188_133 : pmCode 188 133 = some .iadd ∧ 133 + 1 = 134 := ⟨rfl, rfl⟩
theorem xc188_134 : pmCode 188 134 = some (.if_icmp .ne 7) ∧ ((134 : Nat) : Int) + 7 = ((141 : Nat) : Int) ∧ 134 + 3 = 137 := ⟨rfl, rfl, rfl⟩
theorem xc188_137 : pmCode 188 137 = some (.iconst 1) ∧ 137 + 1 = 138 := ⟨rfl, rfl⟩
theorem xc188_138 : pmCode 188 138 = some (.goto 4) ∧ ((138 : Nat) : Int) + 4 = ((142 : Nat) : Int) := ⟨rfl, rfl⟩
theorem xc188_141 : pmCode 188 141 = some (.iconst 0) ∧ 141 + 1 = 142 := ⟨rfl, rfl⟩
theorem xc188_142 : pmCode 188 142 = some .ireturn := rfl
theorem xc191_0 : pmCode 191 0 = some (.bipush 10) ∧ 0 + 2 = 2 := ⟨rfl, rfl⟩
theorem xc191_2 : pmCode 191 2 = some (.iload_n 1) ∧ 2 + 1 = 3 := ⟨rfl, rfl⟩
theorem xc191_3 : pmCode 191 3 = some .imul ∧ 3 + 1 = 4 := ⟨rfl, rfl⟩
theorem xc191_4 : pmCode 191 4 = some (.istore 4) ∧ 4 + 2 = 6 := ⟨rfl, rfl⟩
theorem xc191_6 : pmCode 191 6 = some (.iload_n 3) ∧ 6 + 1 = 7 := ⟨rfl, rfl⟩
theorem xc191_7 : pmCode 191 7 = some (.invokestatic 276) ∧ 7 + 3 = 10 := ⟨rfl, rfl⟩
theorem xc191_10 : pmCode 191 10 = some (.istore 5) ∧ 10 + 2 = 12 := ⟨rfl, rfl⟩
theorem xc191_12 : pmCode 191 12 = some (.aload_n 0) ∧ 12 + 1 = 13 := ⟨rfl, rfl⟩
theorem xc191_13 : pmCode 191 13 = some (.getfield 72) ∧ 13 + 3 = 16 := ⟨rfl, rfl⟩
theorem xc191_16 : pmCode 191 16 = some (.iload 4) ∧ 16 + 2 = 18 := ⟨rfl, rfl⟩
theorem xc191_18 : pmCode 191 18 = some .iaload ∧ 18 + 1 = 19 := ⟨rfl, rfl⟩
theorem xc191_19 : pmCode 191 19 = some (.istore 6) ∧ 19 + 2 = 21 := ⟨rfl, rfl⟩
theorem xc191_21 : pmCode 191 21 = some (.iload_n 3) ∧ 21 + 1 = 22 := ⟨rfl, rfl⟩
theorem xc191_22 : pmCode 191 22 = some (.invokestatic 279) ∧ 22 + 3 = 25 := ⟨rfl, rfl⟩
theorem xc191_25 : pmCode 191 25 = some (.tableswitch 146 1 4 #[31, 45, 68, 93]) ∧ ((25 : Nat) : Int) + 146 = ((171 : Nat) : Int) := ⟨rfl, rfl⟩
theorem xc191_56 : pmCode 191 56 = some (.aload_n 0) ∧ 56 + 1 = 57 := ⟨rfl, rfl⟩
theorem xc191_57 : pmCode 191 57 = some (.getfield 16) ∧ 57 + 3 = 60 := ⟨rfl, rfl⟩
theorem xc191_60 : pmCode 191 60 = some (.bipush 7) ∧ 60 + 2 = 62 := ⟨rfl, rfl⟩
theorem xc191_62 : pmCode 191 62 = some (.iload 6) ∧ 62 + 2 = 64 := ⟨rfl, rfl⟩
theorem xc191_64 : pmCode 191 64 = some .imul ∧ 64 + 1 = 65 := ⟨rfl, rfl⟩
theorem xc191_65 : pmCode 191 65 = some (.iload 5) ∧ 65 + 2 = 67 := ⟨rfl, rfl⟩
theorem xc191_67 : pmCode 191 67 = some .iadd ∧ 67 + 1 = 68 := ⟨rfl, rfl⟩
theorem xc191_68 : pmCode 191 68 = some .baload ∧ 68 + 1 = 69 := ⟨rfl, rfl⟩
theorem xc191_69 : pmCode 191 69 = some .ireturn := rfl
theorem xc191_70 : pmCode 191 70 = some (.aload_n 0) ∧ 70 + 1 = 71 := ⟨rfl, rfl⟩
theorem xc191_71 : pmCode 191 71 = some (.getfield 72) ∧ 71 + 3 = 74 := ⟨rfl, rfl⟩
theorem xc191_74 : pmCode 191 74 = some (.iload 4) ∧ 74 + 2 = 76 := ⟨rfl, rfl⟩
theorem xc191_76 : pmCode 191 76 = some (.iconst 1) ∧ 76 + 1 = 77 := ⟨rfl, rfl⟩
theorem xc191_77 : pmCode 191 77 = some .iadd ∧ 77 + 1 = 78 := ⟨rfl, rfl⟩
theorem xc191_78 : pmCode 191 78 = some (.iload 5) ∧ 78 + 2 = 80 := ⟨rfl, rfl⟩
theorem xc191_80 : pmCode 191 80 = some .iadd ∧ 80 + 1 = 81 := ⟨rfl, rfl⟩
theorem xc191_81 : pmCode 191 81 = some .iaload ∧ 81 + 1 = 82 := ⟨rfl, rfl⟩
theorem xc191_82 : pmCode 191 82 = some (.iload 6) ∧ 82 + 2 = 84 := ⟨rfl, rfl⟩
theorem xc191_84 : pmCode 191 84 = some (.if_icmp .ne 7) ∧ ((84 : Nat) : Int) + 7 = ((91 : Nat) : Int) ∧ 84 + 3 = 87 := ⟨rfl, rfl, rfl⟩
theorem xc191_87 : pmCode 191 87 = some (.iconst 1) ∧ 87 + 1 = 88 := ⟨rfl, rfl⟩
theorem xc191_88 : pmCode 191 88 = some (.goto 4) ∧ ((88 : Nat) : Int) + 4 = ((92 : Nat) : Int) := ⟨rfl, rfl⟩
theorem xc191_91 : pmCode 191 91 = some (.iconst 0) ∧ 91 + 1 = 92 := ⟨rfl, rfl⟩
theorem xc191_92 : pmCode 191 92 = some .ireturn := rfl
theorem xc191_93 : pmCode 191 93 = some (.aload_n 0) ∧ 93 + 1 = 94 := ⟨rfl, rfl⟩
theorem xc191_94 : pmCode 191 94 = some (.getfield 72) ∧ 94 + 3 = 97 := ⟨rfl, rfl⟩
theorem xc191_97 : pmCode 191 97 = some (.iload 4) ∧ 97 + 2 = 99 := ⟨rfl, rfl⟩
theorem xc191_99 : pmCode 191 99 = some (.iconst 1) ∧ 99 + 1 = 100 := ⟨rfl, rfl⟩
theorem xc191_100 : pmCode 191 100 = some .iadd ∧ 100 + 1 = 101 := ⟨rfl, rfl⟩
theorem xc191_101 : pmCode 191 101 = some (.iload 5) ∧ 101 + 2 = 103 := ⟨rfl, rfl⟩
theorem xc191_103 : pmCode 191 103 = some .iadd ∧ 103 + 1 = 104 := ⟨rfl, rfl⟩
theorem xc191_104 : pmCode 191 104 = some .iaload ∧ 104 + 1 = 105 := ⟨rfl, rfl⟩
theorem xc191_105 : pmCode 191 105 = some (.bipush 10) ∧ 105 + 2 = 107 := ⟨rfl, rfl⟩
theorem xc191_107 : pmCode 191 107 = some (.iload_n 2) ∧ 107 + 1 = 108 := ⟨rfl, rfl⟩
theorem xc191_108 : pmCode 191 108 = some .iadd ∧ 108 + 1 = 109 := ⟨rfl, rfl⟩
theorem xc191_109 : pmCode 191 109 = some (.if_icmp .ne 7) ∧ ((109 : Nat) : Int) + 7 = ((116 : Nat) : Int) ∧ 109 + 3 = 112 := ⟨rfl, rfl, rfl⟩
theorem xc191_112 : pmCode 191 112 = some (.iconst 1) ∧ 112 + 1 = 113 := ⟨rfl, rfl⟩
theorem xc191_113 : pmCode 191 113 = some (.goto 4) ∧ ((113 : Nat) : Int) + 4 = ((117 : Nat) : Int) := ⟨rfl, rfl⟩
theorem xc191_116 : pmCode 191 116 = some (.iconst 0) ∧ 116 + 1 = 117 := ⟨rfl, rfl⟩
theorem xc191_117 : pmCode 191 117 = some .ireturn := rfl
theorem xc191_118 : pmCode 191 118 = some (.aload_n 0) ∧ 118 + 1 = 119 := ⟨rfl, rfl⟩
theorem xc191_119 : pmCode 191 119 = some (.getfield 72) ∧ 119 + 3 = 122 := ⟨rfl, rfl⟩
theorem xc191_122 : pmCode 191 122 = some (.iload 4) ∧ 122 + 2 = 124 := ⟨rfl, rfl⟩
theorem xc191_124 : pmCode 191 124 = some (.iconst 1) ∧ 124 + 1 = 125 := ⟨rfl, rfl⟩
theorem xc191_125 : pmCode 191 125 = some .iadd ∧ 125 + 1 = 126 := ⟨rfl, rfl⟩
theorem xc191_126 : pmCode 191 126 = some (.iload 5) ∧ 126 + 2 = 128 := ⟨rfl, rfl⟩
theorem xc191_128 : pmCode 191 128 = some .iadd ∧ 128 + 1 = 129 := ⟨rfl, rfl⟩
theorem xc191_129 : pmCode 191 129 = some .iaload ∧ 129 + 1 = 130 := ⟨rfl, rfl⟩
theorem xc191_130 : pmCode 191 130 = some (.bipush 10) ∧ 130 + 2 = 132 := ⟨rfl, rfl⟩
theorem xc191_132 : pmCode 191 132 = some (.iload_n 2) ∧ 132 + 1 = 133 := ⟨rfl, rfl⟩
theorem xc191_133 : pmCode 191 133 = some .iadd ∧ 133 + 1 = 134 := ⟨rfl, rfl⟩
theorem xc191_134 : pmCode 191 134 = some (.if_icmp .ne 35) ∧ ((134 : Nat) : Int) + 35 = ((169 : Nat) : Int) ∧ 134 + 3 = 137 := ⟨rfl, rfl, rfl⟩
theorem xc191_137 : pmCode 191 137 = some (.iload_n 3) ∧ 137 + 1 = 138 := ⟨rfl, rfl⟩
theorem xc191_138 : pmCode 191 138 = some (.invokestatic 282) ∧ 138 + 3 = 141 := ⟨rfl, rfl⟩
theorem xc191_141 : pmCode 191 141 = some (.iload_n 2) ∧ 141 + 1 = 142 := ⟨rfl, rfl⟩
theorem xc191_142 : pmCode 191 142 = some (.if_icmp .eq 27) ∧ ((142 : Nat) : Int) + 27 = ((169 : Nat) : Int) ∧ 142 + 3 = 145 := ⟨rfl, rfl, rfl⟩
theorem xc191_145 : pmCode 191 145 = some (.aload_n 0) ∧ 145 + 1 = 146 := ⟨rfl, rfl⟩
theorem xc191_146 : pmCode 191 146 = some (.getfield 72) ∧ 146 + 3 = 149 := ⟨rfl, rfl⟩
theorem xc191_149 : pmCode 191 149 = some (.iload 4) ∧ 149 + 2 = 151 := ⟨rfl, rfl⟩
theorem xc191_151 : pmCode 191 151 = some (.bipush 6) ∧ 151 + 2 = 153 := ⟨rfl, rfl⟩
theorem xc191_153 : pmCode 191 153 = some .iadd ∧ 153 + 1 = 154 := ⟨rfl, rfl⟩
theorem xc191_154 : pmCode 191 154 = some (.iload_n 3) ∧ 154 + 1 = 155 := ⟨rfl, rfl⟩
theorem xc191_155 : pmCode 191 155 = some (.invokestatic 282) ∧ 155 + 3 = 158 := ⟨rfl, rfl⟩
theorem xc191_158 : pmCode 191 158 = some .iadd ∧ 158 + 1 = 159 := ⟨rfl, rfl⟩
theorem xc191_159 : pmCode 191 159 = some .iaload ∧ 159 + 1 = 160 := ⟨rfl, rfl⟩
theorem xc191_160 : pmCode 191 160 = some (.iload 6) ∧ 160 + 2 = 162 := ⟨rfl, rfl⟩
theorem xc191_162 : pmCode 191 162 = some (.if_icmp .ne 7) ∧ ((162 : Nat) : Int) + 7 = ((169 : Nat) : Int) ∧ 162 + 3 = 165 := ⟨rfl, rfl, rfl⟩
theorem xc191_165 : pmCode 191 165 = some (.iconst 1) ∧ 165 + 1 = 166 := ⟨rfl, rfl⟩
theorem xc191_166 : pmCode 191 166 = some (.goto 4) ∧ ((166 : Nat) : Int) + 4 = ((170 : Nat) : Int) := ⟨rfl, rfl⟩
theorem xc191_169 : pmCode 191 169 = some (.iconst 0) ∧ 169 + 1 = 170 := ⟨rfl, rfl⟩
theorem xc191_170 : pmCode 191 170 = some .ireturn := rfl
theorem xc191_171 : pmCode 191 171 = some (.iload 5) ∧ 171 + 2 = 173 := ⟨rfl, rfl⟩
theorem xc191_173 : pmCode 191 173 = some (.iload_n 2) ∧ 173 + 1 = 174 := ⟨rfl, rfl⟩
theorem xc191_174 : pmCode 191 174 = some (.if_icmp .eq 35) ∧ ((174 : Nat) : Int) + 35 = ((209 : Nat) : Int) ∧ 174 + 3 = 177 := ⟨rfl, rfl, rfl⟩
theorem xc191_177 : pmCode 191 177 = some (.aload_n 0) ∧ 177 + 1 = 178 := ⟨rfl, rfl⟩
theorem xc191_178 : pmCode 191 178 = some (.getfield 72) ∧ 178 + 3 = 181 := ⟨rfl, rfl⟩
theorem xc191_181 : pmCode 191 181 = some (.iload 4) ∧ 181 + 2 = 183 := ⟨rfl, rfl⟩
theorem xc191_183 : pmCode 191 183 = some (.bipush 6) ∧ 183 + 2 = 185 := ⟨rfl, rfl⟩
theorem xc191_185 : pmCode 191 185 = some .iadd ∧ 185 + 1 = 186 := ⟨rfl, rfl⟩
theorem xc191_186 : pmCode 191 186 = some (.iload 5) ∧ 186 + 2 = 188 := ⟨rfl, rfl⟩
theorem xc191_188 : pmCode 191 188 = some .iadd ∧ 188 + 1 = 189 := ⟨rfl, rfl⟩
theorem xc191_189 : pmCode 191 189 = some .iaload ∧ 189 + 1 = 190 := ⟨rfl, rfl⟩
theorem xc191_190 : pmCode 191 190 = some (.iload 6) ∧ 190 + 2 = 192 := ⟨rfl, rfl⟩
theorem xc191_192 : pmCode 191 192 = some (.if_icmp .ne 17) ∧ ((192 : Nat) : Int) + 17 = ((209 : Nat) : Int) ∧ 192 + 3 = 195 := ⟨rfl, rfl, rfl⟩
theorem xc191_195 : pmCode 191 195 = some (.aload_n 0) ∧ 195 + 1 = 196 := ⟨rfl, rfl⟩
theorem xc191_196 : pmCode 191 196 = some (.iload 4) ∧ 196 + 2 = 198 := ⟨rfl, rfl⟩
theorem xc191_198 : pmCode 191 198 = some (.iload_n 2) ∧ 198 + 1 = 199 := ⟨rfl, rfl⟩
theorem xc191_199 : pmCode 191 199 = some (.invokevirtual 285) ∧ 199 + 3 = 202 := ⟨rfl, rfl⟩
theorem xc191_202 : pmCode 191 202 = some (.ifCond .eq 7) ∧ ((202 : Nat) : Int) + 7 = ((209 : Nat) : Int) ∧ 202 + 3 = 205 := ⟨rfl, rfl, rfl⟩
theorem xc191_205 : pmCode 191 205 = some (.iconst 1) ∧ 205 + 1 = 206 := ⟨rfl, rfl⟩
theorem xc191_206 : pmCode 191 206 = some (.goto 4) ∧ ((206 : Nat) : Int) + 4 = ((210 : Nat) : Int) := ⟨rfl, rfl⟩
theorem xc191_209 : pmCode 191 209 = some (.iconst 0) ∧ 209 + 1 = 210 := ⟨rfl, rfl⟩
theorem xc191_210 : pmCode 191 210 = some .ireturn := rfl
theorem xc192_0 : pmCode 192 0 = some (.iload_n 0) ∧ 0 + 1 = 1 := ⟨rfl, rfl⟩
theorem xc192_1 : pmCode 192 1 = some (.ifCond .ge 7) ∧ ((1 : Nat) : Int) + 7 = ((8 : Nat) : Int) ∧ 1 + 3 = 4 := ⟨rfl, rfl, rfl⟩
theorem xc192_4 : pmCode 192 4 = some (.iconst (-1)) ∧ 4 + 1 = 5 := ⟨rfl, rfl⟩
theorem xc192_5 : pmCode 192 5 = some (.goto 73) ∧ ((5 : Nat) : Int) + 73 = ((78 : Nat) : Int) := ⟨rfl, rfl⟩
theorem xc192_8 : pmCode 192 8 = some (.iload_n 0) ∧ 8 + 1 = 9 := ⟨rfl, rfl⟩
theorem xc192_9 : pmCode 192 9 = some (.bipush 7) ∧ 9 + 2 = 11 := ⟨rfl, rfl⟩
theorem xc192_11 : pmCode 192 11 = some (.if_icmp .ge 7) ∧ ((11 : Nat) : Int) + 7 = ((18 : Nat) : Int) ∧ 11 + 3 = 14 := ⟨rfl, rfl, rfl⟩
theorem xc192_14 : pmCode 192 14 = some (.iload_n 0) ∧ 14 + 1 = 15 := ⟨rfl, rfl⟩
theorem xc192_15 : pmCode 192 15 = some (.goto 63) ∧ ((15 : Nat) : Int) + 63 = ((78 : Nat) : Int) := ⟨rfl, rfl⟩
theorem xc192_18 : pmCode 192 18 = some (.iload_n 0) ∧ 18 + 1 = 19 := ⟨rfl, rfl⟩
theorem xc192_19 : pmCode 192 19 = some (.bipush 12) ∧ 19 + 2 = 21 := ⟨rfl, rfl⟩
theorem xc192_21 : pmCode 192 21 = some (.if_icmp .ge 10) ∧ ((21 : Nat) : Int) + 10 = ((31 : Nat) : Int) ∧ 21 + 3 = 24 := ⟨rfl, rfl, rfl⟩
theorem xc192_24 : pmCode 192 24 = some (.iload_n 0) ∧ 24 + 1 = 25 := ⟨rfl, rfl⟩
theorem xc192_25 : pmCode 192 25 = some (.bipush 7) ∧ 25 + 2 = 27 := ⟨rfl, rfl⟩
theorem xc192_27 : pmCode 192 27 = some .isub ∧ 27 + 1 = 28 := ⟨rfl, rfl⟩
theorem xc192_28 : pmCode 192 28 = some (.goto 50) ∧ ((28 : Nat) : Int) + 50 = ((78 : Nat) : Int) := ⟨rfl, rfl⟩
theorem xc192_31 : pmCode 192 31 = some (.iload_n 0) ∧ 31 + 1 = 32 := ⟨rfl, rfl⟩
theorem xc192_32 : pmCode 192 32 = some (.bipush 17) ∧ 32 + 2 = 34 := ⟨rfl, rfl⟩
theorem xc192_34 : pmCode 192 34 = some (.if_icmp .ge 10) ∧ ((34 : Nat) : Int) + 10 = ((44 : Nat) : Int) ∧ 34 + 3 = 37 := ⟨rfl, rfl, rfl⟩
theorem xc192_37 : pmCode 192 37 = some (.iload_n 0) ∧ 37 + 1 = 38 := ⟨rfl, rfl⟩
theorem xc192_38 : pmCode 192 38 = some (.bipush 12) ∧ 38 + 2 = 40 := ⟨rfl, rfl⟩
theorem xc192_40 : pmCode 192 40 = some .isub ∧ 40 + 1 = 41 := ⟨rfl, rfl⟩
theorem xc192_41 : pmCode 192 41 = some (.goto 37) ∧ ((41 : Nat) : Int) + 37 = ((78 : Nat) : Int) := ⟨rfl, rfl⟩
theorem xc192_44 : pmCode 192 44 = some (.iload_n 0) ∧ 44 + 1 = 45 := ⟨rfl, rfl⟩
theorem xc192_45 : pmCode 192 45 = some (.bipush 37) ∧ 45 + 2 = 47 := ⟨rfl, rfl⟩
theorem xc192_47 : pmCode 192 47 = some (.if_icmp .ge 12) ∧ ((47 : Nat) : Int) + 12 = ((59 : Nat) : Int) ∧ 47 + 3 = 50 := ⟨rfl, rfl, rfl⟩
theorem xc192_50 : pmCode 192 50 = some (.iload_n 0) ∧ 50 + 1 = 51 := ⟨rfl, rfl⟩
theorem xc192_51 : pmCode 192 51 = some (.bipush 17) ∧ 51 + 2 = 53 := ⟨rfl, rfl⟩
theorem xc192_53 : pmCode 192 53 = some .isub ∧ 53 + 1 = 54 := ⟨rfl, rfl⟩
theorem xc192_54 : pmCode 192 54 = some (.iconst 4) ∧ 54 + 1 = 55 := ⟨rfl, rfl⟩
theorem xc192_55 : pmCode 192 55 = some .idiv ∧ 55 + 1 = 56 := ⟨rfl, rfl⟩
theorem xc192_56 : pmCode 192 56 = some (.goto 22) ∧ ((56 : Nat) : Int) + 22 = ((78 : Nat) : Int) := ⟨rfl, rfl⟩
theorem xc192_59 : pmCode 192 59 = some (.iload_n 0) ∧ 59 + 1 = 60 := ⟨rfl, rfl⟩
theorem xc192_60 : pmCode 192 60 = some (.bipush 41) ∧ 60 + 2 = 62 := ⟨rfl, rfl⟩
theorem xc192_62 : pmCode 192 62 = some (.if_icmp .ge 10) ∧ ((62 : Nat) : Int) + 10 = ((72 : Nat) : Int) ∧ 62 + 3 = 65 := ⟨rfl, rfl, rfl⟩
theorem xc192_65 : pmCode 192 65 = some (.iload_n 0) ∧ 65 + 1 = 66 := ⟨rfl, rfl⟩
theorem xc192_66 : pmCode 192 66 = some (.bipush 37) ∧ 66 + 2 = 68 := ⟨rfl, rfl⟩
theorem xc192_68 : pmCode 192 68 = some .isub ∧ 68 + 1 = 69 := ⟨rfl, rfl⟩
theorem xc192_69 : pmCode 192 69 = some (.goto 9) ∧ ((69 : Nat) : Int) + 9 = ((78 : Nat) : Int) := ⟨rfl, rfl⟩
theorem xc192_72 : pmCode 192 72 = some (.iload_n 0) ∧ 72 + 1 = 73 := ⟨rfl, rfl⟩
theorem xc192_73 : pmCode 192 73 = some (.bipush 41) ∧ 73 + 2 = 75 := ⟨rfl, rfl⟩
theorem xc192_75 : pmCode 192 75 = some .isub ∧ 75 + 1 = 76 := ⟨rfl, rfl⟩
theorem xc192_76 : pmCode 192 76 = some (.iconst 4) ∧ 76 + 1 = 77 := ⟨rfl, rfl⟩
theorem xc192_77 : pmCode 192 77 = some .idiv ∧ 77 + 1 = 78 := ⟨rfl, rfl⟩
theorem xc192_78 : pmCode 192 78 = some .ireturn := rfl
theorem xc193_0 : pmCode 193 0 = some (.iload_n 0) ∧ 0 + 1 = 1 := ⟨rfl, rfl⟩
theorem xc193_1 : pmCode 193 1 = some (.ifCond .ge 7) ∧ ((1 : Nat) : Int) + 7 = ((8 : Nat) : Int) ∧ 1 + 3 = 4 := ⟨rfl, rfl, rfl⟩
theorem xc193_4 : pmCode 193 4 = some (.iconst 0) ∧ 4 + 1 = 5 := ⟨rfl, rfl⟩
theorem xc193_5 : pmCode 193 5 = some (.goto 55) ∧ ((5 : Nat) : Int) + 55 = ((60 : Nat) : Int) := ⟨rfl, rfl⟩
theorem xc193_8 : pmCode 193 8 = some (.iload_n 0) ∧ 8 + 1 = 9 := ⟨rfl, rfl⟩
theorem xc193_9 : pmCode 193 9 = some (.bipush 7) ∧ 9 + 2 = 11 := ⟨rfl, rfl⟩
theorem xc193_11 : pmCode 193 11 = some (.if_icmp .ge 7) ∧ ((11 : Nat) : Int) + 7 = ((18 : Nat) : Int) ∧ 11 + 3 = 14 := ⟨rfl, rfl, rfl⟩
theorem xc193_14 : pmCode 193 14 = some (.iconst 1) ∧ 14 + 1 = 15 := ⟨rfl, rfl⟩
theorem xc193_15 : pmCode 193 15 = some (.goto 45) ∧ ((15 : Nat) : Int) + 45 = ((60 : Nat) : Int) := ⟨rfl, rfl⟩
theorem xc193_18 : pmCode 193 18 = some (.iload_n 0) ∧ 18 + 1 = 19 := ⟨rfl, rfl⟩
theorem xc193_19 : pmCode 193 19 = some (.bipush 12) ∧ 19 + 2 = 21 := ⟨rfl, rfl⟩
theorem xc193_21 : pmCode 193 21 = some (.if_icmp .ge 7) ∧ ((21 : Nat) : Int) + 7 = ((28 : Nat) : Int) ∧ 21 + 3 = 24 := ⟨rfl, rfl, rfl⟩
theorem xc193_24 : pmCode 193 24 = some (.iconst 2) ∧ 24 + 1 = 25 := ⟨rfl, rfl⟩
theorem xc193_25 : pmCode 193 25 = some (.goto 35) ∧ ((25 : Nat) : Int) + 35 = ((60 : Nat) : Int) := ⟨rfl, rfl⟩
theorem xc193_28 : pmCode 193 28 = some (.iload_n 0) ∧ 28 + 1 = 29 := ⟨rfl, rfl⟩
theorem xc193_29 : pmCode 193 29 = some (.bipush 17) ∧ 29 + 2 = 31 := ⟨rfl, rfl⟩
theorem xc193_31 : pmCode 193 31 = some (.if_icmp .ge 7) ∧ ((31 : Nat) : Int) + 7 = ((38 : Nat) : Int) ∧ 31 + 3 = 34 := ⟨rfl, rfl, rfl⟩
theorem xc193_34 : pmCode 193 34 = some (.iconst 3) ∧ 34 + 1 = 35 := ⟨rfl, rfl⟩
theorem xc193_35 : pmCode 193 35 = some (.goto 25) ∧ ((35 : Nat) : Int) + 25 = ((60 : Nat) : Int) := ⟨rfl, rfl⟩
theorem xc193_38 : pmCode 193 38 = some (.iload_n 0) ∧ 38 + 1 = 39 := ⟨rfl, rfl⟩
theorem xc193_39 : pmCode 193 39 = some (.bipush 37) ∧ 39 + 2 = 41 := ⟨rfl, rfl⟩
theorem xc193_41 : pmCode 193 41 = some (.if_icmp .ge 7) ∧ ((41 : Nat) : Int) + 7 = ((48 : Nat) : Int) ∧ 41 + 3 = 44 := ⟨rfl, rfl, rfl⟩
theorem xc193_44 : pmCode 193 44 = some (.iconst 4) ∧ 44 + 1 = 45 := ⟨rfl, rfl⟩
theorem xc193_45 : pmCode 193 45 = some (.goto 15) ∧ ((45 : Nat) : Int) + 15 = ((60 : Nat) : Int) := ⟨rfl, rfl⟩
theorem xc193_48 : pmCode 193 48 = some (.iload_n 0) ∧ 48 + 1 = 49 := ⟨rfl, rfl⟩
theorem xc193_49 : pmCode 193 49 = some (.bipush 41) ∧ 49 + 2 = 51 := ⟨rfl, rfl⟩
theorem xc193_51 : pmCode 193 51 = some (.if_icmp .ge 7) ∧ ((51 : Nat) : Int) + 7 = ((58 : Nat) : Int) ∧ 51 + 3 = 54 := ⟨rfl, rfl, rfl⟩
theorem xc193_54 : pmCode 193 54 = some (.iconst 5) ∧ 54 + 1 = 55 := ⟨rfl, rfl⟩
theorem xc193_55 : pmCode 193 55 = some (.goto 5) ∧ ((55 : Nat) : Int) + 5 = ((60 : Nat) : Int) := ⟨rfl, rfl⟩
theorem xc193_58 : pmCode 193 58 = some (.bipush 6) ∧ 58 + 2 = 60 := ⟨rfl, rfl⟩
theorem xc193_60 : pmCode 193 60 = some .ireturn := rfl
theorem xc194_0 : pmCode 194 0 = some (.iload_n 0) ∧ 0 + 1 = 1 := ⟨rfl, rfl⟩
theorem xc194_1 : pmCode 194 1 = some (.bipush 17) ∧ 1 + 2 = 3 := ⟨rfl, rfl⟩
theorem xc194_3 : pmCode 194 3 = some (.if_icmp .ge 7) ∧ ((3 : Nat) : Int) + 7 = ((10 : Nat) : Int) ∧ 3 + 3 = 6 := ⟨rfl, rfl, rfl⟩
theorem xc194_6 : pmCode 194 6 = some (.iconst (-1)) ∧ 6 + 1 = 7 := ⟨rfl, rfl⟩
theorem xc194_7 : pmCode 194 7 = some (.goto 34) ∧ ((7 : Nat) : Int) + 34 = ((41 : Nat) : Int) := ⟨rfl, rfl⟩
theorem xc194_10 : pmCode 194 10 = some (.iload_n 0) ∧ 10 + 1 = 11 := ⟨rfl, rfl⟩
theorem xc194_11 : pmCode 194 11 = some (.bipush 37) ∧ 11 + 2 = 13 := ⟨rfl, rfl⟩
theorem xc194_13 : pmCode 194 13 = some (.if_icmp .ge 12) ∧ ((13 : Nat) : Int) + 12 = ((25 : Nat) : Int) ∧ 13 + 3 = 16 := ⟨rfl, rfl, rfl⟩
theorem xc194_16 : pmCode 194 16 = some (.iload_n 0) ∧ 16 + 1 = 17 := ⟨rfl, rfl⟩
theorem xc194_17 : pmCode 194 17 = some (.bipush 17) ∧ 17 + 2 = 19 := ⟨rfl, rfl⟩
theorem xc194_19 : pmCode 194 19 = some .isub ∧ 19 + 1 = 20 := ⟨rfl, rfl⟩
theorem xc194_20 : pmCode 194 20 = some (.iconst 4) ∧ 20 + 1 = 21 := ⟨rfl, rfl⟩
theorem xc194_21 : pmCode 194 21 = some .irem ∧ 21 + 1 = 22 := ⟨rfl, rfl⟩
theorem xc194_22 : pmCode 194 22 = some (.goto 19) ∧ ((22 : Nat) : Int) + 19 = ((41 : Nat) : Int) := ⟨rfl, rfl⟩
theorem xc194_25 : pmCode 194 25 = some (.iload_n 0) ∧ 25 + 1 = 26 := ⟨rfl, rfl⟩
theorem xc194_26 : pmCode 194 26 = some (.bipush 41) ∧ 26 + 2 = 28 := ⟨rfl, rfl⟩
theorem xc194_28 : pmCode 194 28 = some (.if_icmp .ge 7) ∧ ((28 : Nat) : Int) + 7 = ((35 : Nat) : Int) ∧ 28 + 3 = 31 := ⟨rfl, rfl, rfl⟩
theorem xc194_31 : pmCode 194 31 = some (.iconst (-1)) ∧ 31 + 1 = 32 := ⟨rfl, rfl⟩
theorem xc194_32 : pmCode 194 32 = some (.goto 9) ∧ ((32 : Nat) : Int) + 9 = ((41 : Nat) : Int) := ⟨rfl, rfl⟩
theorem xc194_35 : pmCode 194 35 = some (.iload_n 0) ∧ 35 + 1 = 36 := ⟨rfl, rfl⟩
theorem xc194_36 : pmCode 194 36 = some (.bipush 41) ∧ 36 + 2 = 38 := ⟨rfl, rfl⟩
theorem xc194_38 : pmCode 194 38 = some .isub ∧ 38 + 1 = 39 := ⟨rfl, rfl⟩
theorem xc194_39 : pmCode 194 39 = some (.iconst 4) ∧ 39 + 1 = 40 := ⟨rfl, rfl⟩
theorem xc194_40 : pmCode 194 40 = some .irem ∧ 40 + 1 = 41 := ⟨rfl, rfl⟩
theorem xc194_41 : pmCode 194 41 = some .ireturn := rfl
theorem xc195_0 : pmCode 195 0 = some (.iconst 0) ∧ 0 + 1 = 1 := ⟨rfl, rfl⟩
theorem xc195_1 : pmCode 195 1 = some (.istore_n 3) ∧ 1 + 1 = 2 := ⟨rfl, rfl⟩
theorem xc195_2 : pmCode 195 2 = some (.iload_n 3) ∧ 2 + 1 = 3 := ⟨rfl, rfl⟩
theorem xc195_3 : pmCode 195 3 = some (.aload_n 0) ∧ 3 + 1 = 4 := ⟨rfl, rfl⟩
theorem xc195_4 : pmCode 195 4 = some (.getfield 127) ∧ 4 + 3 = 7 := ⟨rfl, rfl⟩
theorem xc195_7 : pmCode 195 7 = some (.if_icmp .ge 37) ∧ ((7 : Nat) : Int) + 37 = ((44 : Nat) : Int) ∧ 7 + 3 = 10 := ⟨rfl, rfl, rfl⟩
theorem xc195_10 : pmCode 195 10 = some (.aload_n 0) ∧ 10 + 1 = 11 := ⟨rfl, rfl⟩
theorem xc195_11 : pmCode 195 11 = some (.getfield 20) ∧ 11 + 3 = 14 := ⟨rfl, rfl⟩
theorem xc195_14 : pmCode 195 14 = some (.iload_n 3) ∧ 14 + 1 = 15 := ⟨rfl, rfl⟩
theorem xc195_15 : pmCode 195 15 = some .baload ∧ 15 + 1 = 16 := ⟨rfl, rfl⟩
theorem xc195_16 : pmCode 195 16 = some (.ifCond .eq 22) ∧ ((16 : Nat) : Int) + 22 = ((38 : Nat) : Int) ∧ 16 + 3 = 19 := ⟨rfl, rfl, rfl⟩
theorem xc195_19 : pmCode 195 19 = some (.aload_n 0) ∧ 19 + 1 = 20 := ⟨rfl, rfl⟩
theorem xc195_20 : pmCode 195 20 = some (.getfield 72) ∧ 20 + 3 = 23 := ⟨rfl, rfl⟩
theorem xc195_23 : pmCode 195 23 = some (.iload_n 1) ∧ 23 + 1 = 24 := ⟨rfl, rfl⟩
theorem xc195_24 : pmCode 195 24 = some (.iconst 1) ∧ 24 + 1 = 25 := ⟨rfl, rfl⟩
theorem xc195_25 : pmCode 195 25 = some .iadd ∧ 25 + 1 = 26 := ⟨rfl, rfl⟩
theorem xc195_26 : pmCode 195 26 = some (.iload_n 3) ∧ 26 + 1 = 27 := ⟨rfl, rfl⟩
theorem xc195_27 : pmCode 195 27 = some .iadd ∧ 27 + 1 = 28 := ⟨rfl, rfl⟩
theorem xc195_28 : pmCode 195 28 = some .iaload ∧ 28 + 1 = 29 := ⟨rfl, rfl⟩
theorem xc195_29 : pmCode 195 29 = some (.bipush 10) ∧ 29 + 2 = 31 := ⟨rfl, rfl⟩
theorem xc195_31 : pmCode 195 31 = some (.iload_n 2) ∧ 31 + 1 = 32 := ⟨rfl, rfl⟩
theorem xc195_32 : pmCode 195 32 = some .iadd ∧ 32 + 1 = 33 := ⟨rfl, rfl⟩
theorem xc195_33 : pmCode 195 33 = some (.if_icmp .ne 5) ∧ ((33 : Nat) : Int) + 5 = ((38 : Nat) : Int) ∧ 33 + 3 = 36 := ⟨rfl, rfl, rfl⟩
theorem xc195_36 : pmCode 195 36 = some (.iconst 1) ∧ 36 + 1 = 37 := ⟨rfl, rfl⟩
theorem xc195_37 : pmCode 195 37 = some .ireturn := rfl
theorem xc195_38 : pmCode 195 38 = some (.iinc 3 1) ∧ 38 + 3 = 41 := ⟨rfl, rfl⟩
theorem xc195_41 : pmCode 195 41 = some (.goto (-39)) ∧ ((41 : Nat) : Int) + (-39) = ((2 : Nat) : Int) := ⟨rfl, rfl⟩
theorem xc195_44 : pmCode 195 44 = some (.iconst 0) ∧ 44 + 1 = 45 := ⟨rfl, rfl⟩
theorem xc195_45 : pmCode 195 45 = some .ireturn := rfl
theorem xc196_0 : pmCode 196 0 = some (.bipush 10) ∧ 0 + 2 = 2 := ⟨rfl, rfl⟩
theorem xc196_2 : pmCode 196 2 = some (.iload_n 1) ∧ 2 + 1 = 3 := ⟨rfl, rfl⟩
theorem xc196_3 : pmCode 196 3 = some .imul ∧ 3 + 1 = 4 := ⟨rfl, rfl⟩
theorem xc196_4 : pmCode 196 4 = some (.bipush 10) ∧ 4 + 2 = 6 := ⟨rfl, rfl⟩
theorem xc196_6 : pmCode 196 6 = some .iadd ∧ 6 + 1 = 7 := ⟨rfl, rfl⟩
theorem xc196_7 : pmCode 196 7 = some (.istore 4) ∧ 7 + 2 = 9 := ⟨rfl, rfl⟩
theorem xc196_9 : pmCode 196 9 = some (.iconst 0) ∧ 9 + 1 = 10 := ⟨rfl, rfl⟩
theorem xc196_10 : pmCode 196 10 = some (.istore 5) ∧ 10 + 2 = 12 := ⟨rfl, rfl⟩
theorem xc196_12 : pmCode 196 12 = some (.iload 5) ∧ 12 + 2 = 14 := ⟨rfl, rfl⟩
theorem xc196_14 : pmCode 196 14 = some (.bipush 10) ∧ 14 + 2 = 16 := ⟨rfl, rfl⟩
theorem xc196_16 : pmCode 196 16 = some (.if_icmp .ge 32) ∧ ((16 : Nat) : Int) + 32 = ((48 : Nat) : Int) ∧ 16 + 3 = 19 := ⟨rfl, rfl, rfl⟩
theorem xc196_19 : pmCode 196 19 = some (.aload_n 0) ∧ 19 + 1 = 20 := ⟨rfl, rfl⟩
theorem xc196_20 : pmCode 196 20 = some (.getfield 72) ∧ 20 + 3 = 23 := ⟨rfl, rfl⟩
theorem xc196_23 : pmCode 196 23 = some (.iload 4) ∧ 23 + 2 = 25 := ⟨rfl, rfl⟩
theorem xc196_25 : pmCode 196 25 = some (.iload 5) ∧ 25 + 2 = 27 := ⟨rfl, rfl⟩
theorem xc196_27 : pmCode 196 27 = some .iadd ∧ 27 + 1 = 28 := ⟨rfl, rfl⟩
theorem xc196_28 : pmCode 196 28 = some (.aload_n 0) ∧ 28 + 1 = 29 := ⟨rfl, rfl⟩
theorem xc196_29 : pmCode 196 29 = some (.getfield 72) ∧ 29 + 3 = 32 := ⟨rfl, rfl⟩
theorem xc196_32 : pmCode 196 32 = some (.iload 4) ∧ 32 + 2 = 34 := ⟨rfl, rfl⟩
theorem xc196_34 : pmCode 196 34 = some (.bipush 10) ∧ 34 + 2 = 36 := ⟨rfl, rfl⟩
theorem xc196_36 : pmCode 196 36 = some .isub ∧ 36 + 1 = 37 := ⟨rfl, rfl⟩
theorem xc196_37 : pmCode 196 37 = some (.iload 5) ∧ 37 + 2 = 39 := ⟨rfl, rfl⟩
theorem xc196_39 : pmCode 196 39 = some .iadd ∧ 39 + 1 = 40 := ⟨rfl, rfl⟩
theorem xc196_40 : pmCode 196 40 = some .iaload ∧ 40 + 1 = 41 := ⟨rfl, rfl⟩
theorem xc196_41 : pmCode 196 41 = some .iastore ∧ 41 + 1 = 42 := ⟨rfl, rfl⟩
theorem xc196_42 : pmCode 196 42 = some (.iinc 5 1) ∧ 42 + 3 = 45 := ⟨rfl, rfl⟩
theorem xc196_45 : pmCode 196 45 = some (.goto (-33)) ∧ ((45 : Nat) : Int) + (-33) = ((12 : Nat) : Int) := ⟨rfl, rfl⟩
theorem xc196_48 : pmCode 196 48 = some (.iload_n 3) ∧ 48 + 1 = 49 := ⟨rfl, rfl⟩
theorem xc196_49 : pmCode 196 49 = some (.invokestatic 276) ∧ 49 + 3 = 52 := ⟨rfl, rfl⟩
theorem xc196_52 : pmCode 196 52 = some (.istore 5) ∧ 52 + 2 = 54 := ⟨rfl, rfl⟩
theorem xc196_54 : pmCode 196 54 = some (.iload_n 3) ∧ 54 + 1 = 55 := ⟨rfl, rfl⟩
theorem xc196_55 : pmCode 196 55 = some (.invokestatic 279) ∧ 55 + 3 = 58 := ⟨rfl, rfl⟩
theorem xc196_58 : pmCode 196 58 = some (.tableswitch 105 1 4 #[30, 42, 61, 83]) ∧ ((58 : Nat) : Int) + 105 = ((163 : Nat) : Int) := ⟨rfl, rfl⟩
theorem xc196_88 : pmCode 196 88 = some (.aload_n 0) ∧ 88 + 1 = 89 := ⟨rfl, rfl⟩
theorem xc196_89 : pmCode 196 89 = some (.getfield 72) ∧ 89 + 3 = 92 := ⟨rfl, rfl⟩
theorem xc196_92 : pmCode 196 92 = some (.iload 4) ∧ 92 + 2 = 94 := ⟨rfl, rfl⟩
theorem xc196_94 : pmCode 196 94 = some (.iload 5) ∧ 94 + 2 = 96 := ⟨rfl, rfl⟩
theorem xc196_96 : pmCode 196 96 = some .iastore ∧ 96 + 1 = 97 := ⟨rfl, rfl⟩
theorem xc196_97 : pmCode 196 97 = some (.goto 153) ∧ ((97 : Nat) : Int) + 153 = ((250 : Nat) : Int) := ⟨rfl, rfl⟩
theorem xc196_100 : pmCode 196 100 = some (.aload_n 0) ∧ 100 + 1 = 101 := ⟨rfl, rfl⟩
theorem xc196_101 : pmCode 196 101 = some (.getfield 72) ∧ 101 + 3 = 104 := ⟨rfl, rfl⟩
theorem xc196_104 : pmCode 196 104 = some (.iload 4) ∧ 104 + 2 = 106 := ⟨rfl, rfl⟩
theorem xc196_106 : pmCode 196 106 = some (.iconst 1) ∧ 106 + 1 = 107 := ⟨rfl, rfl⟩
theorem xc196_107 : pmCode 196 107 = some .iadd ∧ 107 + 1 = 108 := ⟨rfl, rfl⟩
theorem xc196_108 : pmCode 196 108 = some (.iload 5) ∧ 108 + 2 = 110 := ⟨rfl, rfl⟩
theorem xc196_110 : pmCode 196 110 = some .iadd ∧ 110 + 1 = 111 := ⟨rfl, rfl⟩
theorem xc196_111 : pmCode 196 111 = some (.bipush 10) ∧ 111 + 2 = 113 := ⟨rfl, rfl⟩
theorem xc196_113 : pmCode 196 113 = some (.iload_n 2) ∧ 113 + 1 = 114 := ⟨rfl, rfl⟩
theorem xc196_114 : pmCode 196 114 = some .iadd ∧ 114 + 1 = 115 := ⟨rfl, rfl⟩
theorem xc196_115 : pmCode 196 115 = some .iastore ∧ 115 + 1 = 116 := ⟨rfl, rfl⟩
theorem xc196_116 : pmCode 196 116 = some (.goto 134) ∧ ((116 : Nat) : Int) + 134 = ((250 : Nat) : Int) := ⟨rfl, rfl⟩
theorem xc196_119 : pmCode 196 119 = some (.aload_n 0) ∧ 119 + 1 = 120 := ⟨rfl, rfl⟩
theorem xc196_120 : pmCode 196 120 = some (.getfield 72) ∧ 120 + 3 = 123 := ⟨rfl, rfl⟩
theorem xc196_123 : pmCode 196 123 = some (.iload 4) ∧ 123 + 2 = 125 := ⟨rfl, rfl⟩
theorem xc196_125 : pmCode 196 125 = some (.iconst 1) ∧ 125 + 1 = 126 := ⟨rfl, rfl⟩
theorem xc196_126 : pmCode 196 126 = some .iadd ∧ 126 + 1 = 127 := ⟨rfl, rfl⟩
theorem xc196_127 : pmCode 196 127 = some (.iload 5) ∧ 127 + 2 = 129 := ⟨rfl, rfl⟩
theorem xc196_129 : pmCode 196 129 = some .iadd ∧ 129 + 1 = 130 := ⟨rfl, rfl⟩
theorem xc196_130 : pmCode 196 130 = some (.aload_n 0) ∧ 130 + 1 = 131 := ⟨rfl, rfl⟩
theorem xc196_131 : pmCode 196 131 = some (.getfield 72) ∧ 131 + 3 = 134 := ⟨rfl, rfl⟩
theorem xc196_134 : pmCode 196 134 = some (.iload 4) ∧ 134 + 2 = 136 := ⟨rfl, rfl⟩
theorem xc196_136 : pmCode 196 136 = some .iaload ∧ 136 + 1 = 137 := ⟨rfl, rfl⟩
theorem xc196_137 : pmCode 196 137 = some .iastore ∧ 137 + 1 = 138 := ⟨rfl, rfl⟩
theorem xc196_138 : pmCode 196 138 = some (.goto 112) ∧ ((138 : Nat) : Int) + 112 = ((250 : Nat) : Int) := ⟨rfl, rfl⟩
theorem xc196_141 : pmCode 196 141 = some (.aload_n 0) ∧ 141 + 1 = 142 := ⟨rfl, rfl⟩
theorem xc196_142 : pmCode 196 142 = some (.getfield 72) ∧ 142 + 3 = 145 := ⟨rfl, rfl⟩
theorem xc196_145 : pmCode 196 145 = some (.iload 4) ∧ 145 + 2 = 147 := ⟨rfl, rfl⟩
theorem xc196_147 : pmCode 196 147 = some (.iconst 1) ∧ 147 + 1 = 148 := ⟨rfl, rfl⟩
theorem xc196_148 : pmCode 196 148 = some .iadd ∧ 148 + 1 = 149 := ⟨rfl, rfl⟩
theorem xc196_149 : pmCode 196 149 = some (.iload 5) ∧ 149 + 2 = 151 := ⟨rfl, rfl⟩
theorem xc196_151 : pmCode 196 151 = some .iadd ∧ 151 + 1 = 152 := ⟨rfl, rfl⟩
theorem xc196_152 : pmCode 196 152 = some (.bipush 10) ∧ 152 + 2 = 154 := ⟨rfl, rfl⟩
theorem xc196_154 : pmCode 196 154 = some (.iload_n 3) ∧ 154 + 1 = 155 := ⟨rfl, rfl⟩
theorem xc196_155 : pmCode 196 155 = some (.invokestatic 282) ∧ 155 + 3 = 158 := ⟨rfl, rfl⟩
theorem xc196_158 : pmCode 196 158 = some .iadd ∧ 158 + 1 = 159 := ⟨rfl, rfl⟩
theorem xc196_159 : pmCode 196 159 = some .iastore ∧ 159 + 1 = 160 := ⟨rfl, rfl⟩
theorem xc196_160 : pmCode 196 160 = some (.goto 90) ∧ ((160 : Nat) : Int) + 90 = ((250 : Nat) : Int) := ⟨rfl, rfl⟩
theorem xc196_163 : pmCode 196 163 = some (.aload_n 0) ∧ 163 + 1 = 164 := ⟨rfl, rfl⟩
theorem xc196_164 : pmCode 196 164 = some (.getfield 72) ∧ 164 + 3 = 167 := ⟨rfl, rfl⟩
theorem xc196_167 : pmCode 196 167 = some (.iload 4) ∧ 167 + 2 = 169 := ⟨rfl, rfl⟩
theorem xc196_169 : pmCode 196 169 = some (.bipush 6) ∧ 169 + 2 = 171 := ⟨rfl, rfl⟩
theorem xc196_171 : pmCode 196 171 = some .iadd ∧ 171 + 1 = 172 := ⟨rfl, rfl⟩
theorem xc196_172 : pmCode 196 172 = some (.iload 5) ∧ 172 + 2 = 174 := ⟨rfl, rfl⟩
theorem xc196_174 : pmCode 196 174 = some .iadd ∧ 174 + 1 = 175 := ⟨rfl, rfl⟩
theorem xc196_175 : pmCode 196 175 = some (.bipush 7) ∧ 175 + 2 = 177 := ⟨rfl, rfl⟩
theorem xc196_177 : pmCode 196 177 = some .iastore ∧ 177 + 1 = 178 := ⟨rfl, rfl⟩
theorem xc196_178 : pmCode 196 178 = some (.iconst 0) ∧ 178 + 1 = 179 := ⟨rfl, rfl⟩
theorem xc196_179 : pmCode 196 179 = some (.istore 6) ∧ 179 + 2 = 181 := ⟨rfl, rfl⟩
theorem xc196_181 : pmCode 196 181 = some (.iload 6) ∧ 181 + 2 = 183 := ⟨rfl, rfl⟩
theorem xc196_183 : pmCode 196 183 = some (.aload_n 0) ∧ 183 + 1 = 184 := ⟨rfl, rfl⟩
theorem xc196_184 : pmCode 196 184 = some (.getfield 127) ∧ 184 + 3 = 187 := ⟨rfl, rfl⟩
theorem xc196_187 : pmCode 196 187 = some (.if_icmp .ge 63) ∧ ((187 : Nat) : Int) + 63 = ((250 : Nat) : Int) ∧ 187 + 3 = 190 := ⟨rfl, rfl, rfl⟩
theorem xc196_190 : pmCode 196 190 = some (.aload_n 0) ∧ 190 + 1 = 191 := ⟨rfl, rfl⟩
theorem xc196_191 : pmCode 196 191 = some (.getfield 72) ∧ 191 + 3 = 194 := ⟨rfl, rfl⟩
theorem xc196_194 : pmCode 196 194 = some (.iload 4) ∧ 194 + 2 = 196 := ⟨rfl, rfl⟩
theorem xc196_196 : pmCode 196 196 = some (.iconst 1) ∧ 196 + 1 = 197 := ⟨rfl, rfl⟩
theorem xc196_197 : pmCode 196 197 = some .iadd ∧ 197 + 1 = 198 := ⟨rfl, rfl⟩
theorem xc196_198 : pmCode 196 198 = some (.iload 6) ∧ 198 + 2 = 200 := ⟨rfl, rfl⟩
theorem xc196_200 : pmCode 196 200 = some .iadd ∧ 200 + 1 = 201 := ⟨rfl, rfl⟩
theorem xc196_201 : pmCode 196 201 = some (.aload_n 0) ∧ 201 + 1 = 202 := ⟨rfl, rfl⟩
theorem xc196_202 : pmCode 196 202 = some (.getfield 72) ∧ 202 + 3 = 205 := ⟨rfl, rfl⟩
theorem xc196_205 : pmCode 196 205 = some (.iload 4) ∧ 205 + 2 = 207 := ⟨rfl, rfl⟩
theorem xc196_207 : pmCode 196 207 = some (.iconst 1) ∧ 207 + 1 = 208 := ⟨rfl, rfl⟩
theorem xc196_208 : pmCode 196 208 = some .iadd ∧ 208 + 1 = 209 := ⟨rfl, rfl⟩
theorem xc196_209 : pmCode 196 209 = some (.iload 6) ∧ 209 + 2 = 211 := ⟨rfl, rfl⟩
theorem xc196_211 : pmCode 196 211 = some .iadd ∧ 211 + 1 = 212 := ⟨rfl, rfl⟩
theorem xc196_212 : pmCode 196 212 = some .iaload ∧ 212 + 1 = 213 := ⟨rfl, rfl⟩
theorem xc196_213 : pmCode 196 213 = some (.bipush 10) ∧ 213 + 2 = 215 := ⟨rfl, rfl⟩
theorem xc196_215 : pmCode 196 215 = some (.iload 5) ∧ 215 + 2 = 217 := ⟨rfl, rfl⟩
theorem xc196_217 : pmCode 196 217 = some .iadd ∧ 217 + 1 = 218 := ⟨rfl, rfl⟩
theorem xc196_218 : pmCode 196 218 = some (.if_icmp .ne 13) ∧ ((218 : Nat) : Int) + 13 = ((231 : Nat) : Int) ∧ 218 + 3 = 221 := ⟨rfl, rfl, rfl⟩
theorem xc196_221 : pmCode 196 221 = some (.aload_n 0) ∧ 221 + 1 = 222 := ⟨rfl, rfl⟩
theorem xc196_222 : pmCode 196 222 = some (.getfield 72) ∧ 222 + 3 = 225 := ⟨rfl, rfl⟩
theorem xc196_225 : pmCode 196 225 = some (.iload 4) ∧ 225 + 2 = 227 := ⟨rfl, rfl⟩
theorem xc196_227 : pmCode 196 227 = some .iaload ∧ 227 + 1 = 228 := ⟨rfl, rfl⟩
theorem xc196_228 : pmCode 196 228 = some (.goto 15) ∧ ((228 : Nat) : Int) + 15 = ((243 : Nat) : Int) := ⟨rfl, rfl⟩
theorem xc196_231 : pmCode 196 231 = some (.aload_n 0) ∧ 231 + 1 = 232 := ⟨rfl, rfl⟩
theorem xc196_232 : pmCode 196 232 = some (.getfield 72) ∧ 232 + 3 = 235 := ⟨rfl, rfl⟩
theorem xc196_235 : pmCode 196 235 = some (.iload 4) ∧ 235 + 2 = 237 := ⟨rfl, rfl⟩
theorem xc196_237 : pmCode 196 237 = some (.iconst 1) ∧ 237 + 1 = 238 := ⟨rfl, rfl⟩
theorem xc196_238 : pmCode 196 238 = some .iadd ∧ 238 + 1 = 239 := ⟨rfl, rfl⟩
theorem xc196_239 : pmCode 196 239 = some (.iload 6) ∧ 239 + 2 = 241 := ⟨rfl, rfl⟩
theorem xc196_241 : pmCode 196 241 = some .iadd ∧ 241 + 1 = 242 := ⟨rfl, rfl⟩
theorem xc196_242 : pmCode 196 242 = some .iaload ∧ 242 + 1 = 243 := ⟨rfl, rfl⟩
theorem xc196_243 : pmCode 196 243 = some .iastore ∧ 243 + 1 = 244 := ⟨rfl, rfl⟩
theorem xc196_244 : pmCode 196 244 = some (.iinc 6 1) ∧ 244 + 3 = 247 := ⟨rfl, rfl⟩
theorem xc196_247 : pmCode 196 247 = some (.goto (-66)) ∧ ((247 : Nat) : Int) + (-66) = ((181 : Nat) : Int) := ⟨rfl, rfl⟩
theorem xc196_250 : pmCode 196 250 = some .return_ := rfl
theorem w193 {ro : Nat → Nat × (Nat → Int32)} {d : Nat} {Q : Option Value → pmS → Prop} {k : Int} {a : xA} {b : xB} (hk : -1 ≤ k ∧ k < 61)
    (k1 : (0 ≤ k) → (7 ≤ k) → (12 ≤ k) → (17 ≤ k) → (37 ≤ k) → (41 ≤ k) → Q (some (xV 6)) (xS a b))
    (k2 : (0 ≤ k) → (7 ≤ k) → (12 ≤ k) → (17 ≤ k) → (37 ≤ k) → (¬ 41 ≤ k) → Q (some (xV 5)) (xS a b))
    (k3 : (0 ≤ k) → (7 ≤ k) → (12 ≤ k) → (17 ≤ k) → (¬ 37 ≤ k) → Q (some (xV 4)) (xS a b))
    (k4 : (0 ≤ k) → (7 ≤ k) → (12 ≤ k) → (¬ 17 ≤ k) → Q (some (xV 3)) (xS a b))
    (k5 : (0 ≤ k) → (7 ≤ k) → (¬ 12 ≤ k) → Q (some (xV 2)) (xS a b))
    (k6 : (0 ≤ k) → (¬ 7 ≤ k) → Q (some (xV 1)) (xS a b))
    (k7 : (¬ 0 ≤ k) → Q (some (xV 0)) (xS a b)) :
    pmWp ro d 12 193 1 0 [some (xV k)] [] (xS a b) Q := by
  refine x_iloadn xc193_0 rfl ?_
  refine x_ifge xc193_1 (xRk (by have g0 := hk; omega)) (fun h0 => ?_) (fun h0 => ?_)
  · refine x_iloadn xc193_8 rfl ?_
    refine x_bipush xc193_9 (by decide) ?_
    refine x_icge xc193_11 (xRk (by have g0 := hk; omega)) (xRk (by decide)) (fun h1 => ?_) (fun h1 => ?_)
    · refine x_iloadn xc193_18 rfl ?_
      refine x_bipush xc193_19 (by decide) ?_
      refine x_icge xc193_21 (xRk (by have g0 := hk; omega)) (xRk (by decide)) (fun h2 => ?_) (fun h2 => ?_)
      · refine x_iloadn xc193_28 rfl ?_
        refine x_bipush xc193_29 (by decide) ?_
        refine x_icge xc193_31 (xRk (by have g0 := hk; omega)) (xRk (by decide)) (fun h3 => ?_) (fun h3 => ?_)
        · refine x_iloadn xc193_38 rfl ?_
          refine x_bipush xc193_39 (by decide) ?_
          refine x_icge xc193_41 (xRk (by have g0 := hk; omega)) (xRk (by decide)) (fun h4 => ?_) (fun h4 => ?_)
          · refine x_iloadn xc193_48 rfl ?_
            refine x_bipush xc193_49 (by decide) ?_
            refine x_icge xc193_51 (xRk (by have g0 := hk; omega)) (xRk (by decide)) (fun h5 => ?_) (fun h5 => ?_)
            · refine x_bipush xc193_58 (by decide) ?_
              refine x_iret xc193_60 (Or.inl rfl) ?_
              exact k1 h0 h1 h2 h3 h4 h5
            · refine x_iconst xc193_54 ?_
              refine x_goto xc193_55 ?_
              refine x_iret xc193_60 (Or.inl rfl) ?_
              exact k2 h0 h1 h2 h3 h4 h5
          · refine x_iconst xc193_44 ?_
            refine x_goto xc193_45 ?_
            refine x_iret xc193_60 (Or.inl rfl) ?_
            exact k3 h0 h1 h2 h3 h4
        · refine x_iconst xc193_34 ?_
          refine x_goto xc193_35 ?_
          refine x_iret xc193_60 (Or.inl rfl) ?_
          exact k4 h0 h1 h2 h3
      · refine x_iconst xc193_24 ?_
        refine x_goto xc193_25 ?_
        refine x_iret xc193_60 (Or.inl rfl) ?_
        exact k5 h0 h1 h2
    · refine x_iconst xc193_14 ?_
      refine x_goto xc193_15 ?_
      refine x_iret xc193_60 (Or.inl rfl) ?_
      exact k6 h0 h1
  · refine x_iconst xc193_4 ?_
    refine x_goto xc193_5 ?_
    refine x_iret xc193_60 (Or.inl rfl) ?_
    exact k7 h0

theorem xg193 {ro : Nat → Nat × (Nat → Int32)} {d : Nat} {Q : Option Value → pmS → Prop} {a : xA} {b : xB} {k : Int} (h : pmWp ro d 12 193 1 0 [some (xV k)] [] (xS a b) Q) : pmCs ro (d + 1) 193 [xV k] (xS a b) Q := x_go xi193 rfl rfl rfl rfl rfl h
theorem rk193 {ro : Nat → Nat × (Nat → Int32)} {d : Nat} {Q : Option Value → pmS → Prop} {k : Int} {a : xA} {b : xB} (hd : 1 ≤ d) (hk : -1 ≤ k ∧ k < 61) (hQ : Q (some (xV (uK k))) (xS a b)) : pmCs ro d 193 [xV k] (xS a b) Q := by
  have e0 := @uK_e k
  refine pmCs_deep (d := 1) (xg193 (w193 hk ?_ ?_ ?_ ?_ ?_ ?_ ?_)) hd
  · intro e1 e2 e3 e4 e5 e6
    rw [show uK k = 6 by omega] at hQ
    exact hQ
  · intro e1 e2 e3 e4 e5 e6
    rw [show uK k = 5 by omega] at hQ
    exact hQ
  · intro e1 e2 e3 e4 e5
    rw [show uK k = 4 by omega] at hQ
    exact hQ
  · intro e1 e2 e3 e4
    rw [show uK k = 3 by omega] at hQ
    exact hQ
  · intro e1 e2 e3
    rw [show uK k = 2 by omega] at hQ
    exact hQ
  · intro e1 e2
    rw [show uK k = 1 by omega] at hQ
    exact hQ
  · intro e1
    rw [show uK k = 0 by omega] at hQ
    exact hQ

theorem w192 {ro : Nat → Nat × (Nat → Int32)} {d : Nat} {Q : Option Value → pmS → Prop} {k : Int} {a : xA} {b : xB} (hk : -1 ≤ k ∧ k < 61)
    (k1 : (0 ≤ k) → (7 ≤ k) → (12 ≤ k) → (17 ≤ k) → (37 ≤ k) → (41 ≤ k) → Q (some (xV ((k - 41) / 4))) (xS a b))
    (k2 : (0 ≤ k) → (7 ≤ k) → (12 ≤ k) → (17 ≤ k) → (37 ≤ k) → (¬ 41 ≤ k) → Q (some (xV (k - 37))) (xS a b))
    (k3 : (0 ≤ k) → (7 ≤ k) → (12 ≤ k) → (17 ≤ k) → (¬ 37 ≤ k) → Q (some (xV ((k - 17) / 4))) (xS a b))
    (k4 : (0 ≤ k) → (7 ≤ k) → (12 ≤ k) → (¬ 17 ≤ k) → Q (some (xV (k - 12))) (xS a b))
    (k5 : (0 ≤ k) → (7 ≤ k) → (¬ 12 ≤ k) → Q (some (xV (k - 7))) (xS a b))
    (k6 : (0 ≤ k) → (¬ 7 ≤ k) → Q (some (xV k)) (xS a b))
    (k7 : (¬ 0 ≤ k) → Q (some (xV (-1))) (xS a b)) :
    pmWp ro d 12 192 1 0 [some (xV k)] [] (xS a b) Q := by
  refine x_iloadn xc192_0 rfl ?_
  refine x_ifge xc192_1 (xRk (by have g0 := hk; omega)) (fun h0 => ?_) (fun h0 => ?_)
  · refine x_iloadn xc192_8 rfl ?_
    refine x_bipush xc192_9 (by decide) ?_
    refine x_icge xc192_11 (xRk (by have g0 := hk; omega)) (xRk (by decide)) (fun h1 => ?_) (fun h1 => ?_)
    · refine x_iloadn xc192_18 rfl ?_
      refine x_bipush xc192_19 (by decide) ?_
      refine x_icge xc192_21 (xRk (by have g0 := hk; omega)) (xRk (by decide)) (fun h2 => ?_) (fun h2 => ?_)
      · refine x_iloadn xc192_31 rfl ?_
        refine x_bipush xc192_32 (by decide) ?_
        refine x_icge xc192_34 (xRk (by have g0 := hk; omega)) (xRk (by decide)) (fun h3 => ?_) (fun h3 => ?_)
        · refine x_iloadn xc192_44 rfl ?_
          refine x_bipush xc192_45 (by decide) ?_
          refine x_icge xc192_47 (xRk (by have g0 := hk; omega)) (xRk (by decide)) (fun h4 => ?_) (fun h4 => ?_)
          · refine x_iloadn xc192_59 rfl ?_
            refine x_bipush xc192_60 (by decide) ?_
            refine x_icge xc192_62 (xRk (by have g0 := hk; omega)) (xRk (by decide)) (fun h5 => ?_) (fun h5 => ?_)
            · refine x_iloadn xc192_72 rfl ?_
              refine x_bipush xc192_73 (by decide) ?_
              refine x_isub xc192_75 ?_
              refine x_iconst xc192_76 ?_
              refine x_idiv (by have g0 := hk; omega) (xRk (by have g0 := hk; omega)) (by omega) (xRk (by decide)) xc192_77 ?_
              refine x_iret xc192_78 (Or.inl rfl) ?_
              exact k1 h0 h1 h2 h3 h4 h5
            · refine x_iloadn xc192_65 rfl ?_
              refine x_bipush xc192_66 (by decide) ?_
              refine x_isub xc192_68 ?_
              refine x_goto xc192_69 ?_
              refine x_iret xc192_78 (Or.inl rfl) ?_
              exact k2 h0 h1 h2 h3 h4 h5
          · refine x_iloadn xc192_50 rfl ?_
            refine x_bipush xc192_51 (by decide) ?_
            refine x_isub xc192_53 ?_
            refine x_iconst xc192_54 ?_
            refine x_idiv (by have g0 := hk; omega) (xRk (by have g0 := hk; omega)) (by omega) (xRk (by decide)) xc192_55 ?_
            refine x_goto xc192_56 ?_
            refine x_iret xc192_78 (Or.inl rfl) ?_
            exact k3 h0 h1 h2 h3 h4
        · refine x_iloadn xc192_37 rfl ?_
          refine x_bipush xc192_38 (by decide) ?_
          refine x_isub xc192_40 ?_
          refine x_goto xc192_41 ?_
          refine x_iret xc192_78 (Or.inl rfl) ?_
          exact k4 h0 h1 h2 h3
      · refine x_iloadn xc192_24 rfl ?_
        refine x_bipush xc192_25 (by decide) ?_
        refine x_isub xc192_27 ?_
        refine x_goto xc192_28 ?_
        refine x_iret xc192_78 (Or.inl rfl) ?_
        exact k5 h0 h1 h2
    · refine x_iloadn xc192_14 rfl ?_
      refine x_goto xc192_15 ?_
      refine x_iret xc192_78 (Or.inl rfl) ?_
      exact k6 h0 h1
  · refine x_iconst xc192_4 ?_
    refine x_goto xc192_5 ?_
    refine x_iret xc192_78 (Or.inl rfl) ?_
    exact k7 h0

theorem xg192 {ro : Nat → Nat × (Nat → Int32)} {d : Nat} {Q : Option Value → pmS → Prop} {a : xA} {b : xB} {k : Int} (h : pmWp ro d 12 192 1 0 [some (xV k)] [] (xS a b) Q) : pmCs ro (d + 1) 192 [xV k] (xS a b) Q := x_go xi192 rfl rfl rfl rfl rfl h
theorem rk192 {ro : Nat → Nat × (Nat → Int32)} {d : Nat} {Q : Option Value → pmS → Prop} {k : Int} {a : xA} {b : xB} (hd : 1 ≤ d) (hk : -1 ≤ k ∧ k < 61) (hQ : Q (some (xV (uX k))) (xS a b)) : pmCs ro d 192 [xV k] (xS a b) Q := by
  have e0 := @uX_e k
  refine pmCs_deep (d := 1) (xg192 (w192 hk ?_ ?_ ?_ ?_ ?_ ?_ ?_)) hd
  · intro e1 e2 e3 e4 e5 e6
    rw [show uX k = (k - 41) / 4 by omega] at hQ
    exact hQ
  · intro e1 e2 e3 e4 e5 e6
    rw [show uX k = k - 37 by omega] at hQ
    exact hQ
  · intro e1 e2 e3 e4 e5
    rw [show uX k = (k - 17) / 4 by omega] at hQ
    exact hQ
  · intro e1 e2 e3 e4
    rw [show uX k = k - 12 by omega] at hQ
    exact hQ
  · intro e1 e2 e3
    rw [show uX k = k - 7 by omega] at hQ
    exact hQ
  · intro e1 e2
    rw [show uX k = k by omega] at hQ
    exact hQ
  · intro e1
    rw [show uX k = -1 by omega] at hQ
    exact hQ

theorem w194 {ro : Nat → Nat × (Nat → Int32)} {d : Nat} {Q : Option Value → pmS → Prop} {k : Int} {a : xA} {b : xB} (hk : -1 ≤ k ∧ k < 61)
    (k1 : (17 ≤ k) → (37 ≤ k) → (41 ≤ k) → Q (some (xV ((k - 41) % 4))) (xS a b))
    (k2 : (17 ≤ k) → (37 ≤ k) → (¬ 41 ≤ k) → Q (some (xV (-1))) (xS a b))
    (k3 : (17 ≤ k) → (¬ 37 ≤ k) → Q (some (xV ((k - 17) % 4))) (xS a b))
    (k4 : (¬ 17 ≤ k) → Q (some (xV (-1))) (xS a b)) :
    pmWp ro d 12 194 1 0 [some (xV k)] [] (xS a b) Q := by
  refine x_iloadn xc194_0 rfl ?_
  refine x_bipush xc194_1 (by decide) ?_
  refine x_icge xc194_3 (xRk (by have g0 := hk; omega)) (xRk (by decide)) (fun h0 => ?_) (fun h0 => ?_)
  · refine x_iloadn xc194_10 rfl ?_
    refine x_bipush xc194_11 (by decide) ?_
    refine x_icge xc194_13 (xRk (by have g0 := hk; omega)) (xRk (by decide)) (fun h1 => ?_) (fun h1 => ?_)
    · refine x_iloadn xc194_25 rfl ?_
      refine x_bipush xc194_26 (by decide) ?_
      refine x_icge xc194_28 (xRk (by have g0 := hk; omega)) (xRk (by decide)) (fun h2 => ?_) (fun h2 => ?_)
      · refine x_iloadn xc194_35 rfl ?_
        refine x_bipush xc194_36 (by decide) ?_
        refine x_isub xc194_38 ?_
        refine x_iconst xc194_39 ?_
        refine x_irem (by have g0 := hk; omega) (xRk (by have g0 := hk; omega)) (by omega) (xRk (by decide)) xc194_40 ?_
        refine x_iret xc194_41 (Or.inl rfl) ?_
        exact k1 h0 h1 h2
      · refine x_iconst xc194_31 ?_
        refine x_goto xc194_32 ?_
        refine x_iret xc194_41 (Or.inl rfl) ?_
        exact k2 h0 h1 h2
    · refine x_iloadn xc194_16 rfl ?_
      refine x_bipush xc194_17 (by decide) ?_
      refine x_isub xc194_19 ?_
      refine x_iconst xc194_20 ?_
      refine x_irem (by have g0 := hk; omega) (xRk (by have g0 := hk; omega)) (by omega) (xRk (by decide)) xc194_21 ?_
      refine x_goto xc194_22 ?_
      refine x_iret xc194_41 (Or.inl rfl) ?_
      exact k3 h0 h1
  · refine x_iconst xc194_6 ?_
    refine x_goto xc194_7 ?_
    refine x_iret xc194_41 (Or.inl rfl) ?_
    exact k4 h0

theorem xg194 {ro : Nat → Nat × (Nat → Int32)} {d : Nat} {Q : Option Value → pmS → Prop} {a : xA} {b : xB} {k : Int} (h : pmWp ro d 12 194 1 0 [some (xV k)] [] (xS a b) Q) : pmCs ro (d + 1) 194 [xV k] (xS a b) Q := x_go xi194 rfl rfl rfl rfl rfl h
theorem rk194 {ro : Nat → Nat × (Nat → Int32)} {d : Nat} {Q : Option Value → pmS → Prop} {k : Int} {a : xA} {b : xB} (hd : 1 ≤ d) (hk : -1 ≤ k ∧ k < 61) (hQ : Q (some (xV (uY k))) (xS a b)) : pmCs ro d 194 [xV k] (xS a b) Q := by
  have e0 := @uY_e k
  refine pmCs_deep (d := 1) (xg194 (w194 hk ?_ ?_ ?_ ?_)) hd
  · intro e1 e2 e3
    rw [show uY k = (k - 41) % 4 by omega] at hQ
    exact hQ
  · intro e1 e2 e3
    rw [show uY k = -1 by omega] at hQ
    exact hQ
  · intro e1 e2
    rw [show uY k = (k - 17) % 4 by omega] at hQ
    exact hQ
  · intro e1
    rw [show uY k = -1 by omega] at hQ
    exact hQ

theorem uKb {k : Int} (hk : -1 ≤ k ∧ k < 61) : 0 ≤ uK k ∧ uK k ≤ 6 := by
  have := @uK_e k
  omega
theorem uXb {k : Int} (hk : -1 ≤ k ∧ k < 61) : -1 ≤ uX k ∧ uX k ≤ 6 := by
  have := @uX_e k
  omega
theorem uYb {k : Int} (hk : -1 ≤ k ∧ k < 61) : -1 ≤ uY k ∧ uY k ≤ 3 := by
  have := @uY_e k
  omega
theorem xg188 {ro : Nat → Nat × (Nat → Int32)} {d : Nat} {Q : Option Value → pmS → Prop} {a : xA} {b : xB} {at0 f wh x y : Int} (h : pmWp ro d 12 188 2 0 [some (.ref 87), some (xV at0), some (xV f), some (xV wh), some (xV x), some (xV y)] [] (xS a b) Q) : pmCs ro (d + 1) 188 [.ref 87, xV at0, xV f, xV wh, xV x, xV y] (xS a b) Q := x_go xi188 rfl rfl rfl rfl rfl h
theorem w188_0 {ro : Nat → Nat × (Nat → Int32)} {d : Nat} {Q : Option Value → pmS → Prop} {at0 f wh x y : Int} {a : xA} {b : xB} (hA : xAr a) (hat : 0 ≤ at0 ∧ at0 ≤ 40) (hf : 1 ≤ f ∧ f ≤ 3) (hwh : wh = 0) (hx : 0 ≤ x ∧ x < 5) (hy : 0 ≤ y ∧ y < 16)
    (k1 : (¬ a 108 (at0 + 1 + x) = 10 + f) → Q (some (xV 0)) (xS a b))
    (k2 : (a 108 (at0 + 1 + x) = 10 + f) → Q (some (xV 1)) (xS a b)) :
    pmWp ro d 12 188 2 0 [some (.ref 87), some (xV at0), some (xV f), some (xV wh), some (xV x), some (xV y)] [] (xS a b) Q := by
  refine x_iloadn xc188_0 rfl ?_
  refine x_sw (c := 0) (t := 32) (by omega) xc188_1.1 rfl ?_
  refine x_aloadn xc188_32 rfl ?_
  refine x_gfr xc188_33 rfl rfl xz87 rfl ?_
  refine x_iloadn xc188_36 rfl ?_
  refine x_iconst xc188_37 ?_
  refine x_iadd xc188_38 ?_
  refine x_iload xc188_39 rfl ?_
  refine x_iadd xc188_41 ?_
  refine x_ial xc188_42 xz108 rfl (by have g0 := hat; have g1 := hx; omega) (by have g0 := hat; have g1 := hx; omega) (by have g0 := hat; have g1 := hx; omega) ?_
  refine x_bipush xc188_43 (by decide) ?_
  refine x_iloadn xc188_45 rfl ?_
  refine x_iadd xc188_46 ?_
  refine x_icne xc188_47 (xRk (by have g0 := hat; have g1 := hx; have g2 := xRb (hA 108 (at0 + 1 + x)); omega)) (xRk (by have g0 := hf; omega)) (fun h1 => ?_) (fun h1 => ?_)
  · refine x_iconst xc188_54 ?_
    refine x_iret xc188_55 (Or.inr ⟨rfl, (by omega)⟩) ?_
    exact k1 h1
  · replace h1 := Classical.not_not.mp h1
    refine x_iconst xc188_50 ?_
    refine x_goto xc188_51 ?_
    refine x_iret xc188_55 (Or.inr ⟨rfl, (by omega)⟩) ?_
    exact k2 h1

theorem w188_1 {ro : Nat → Nat × (Nat → Int32)} {d : Nat} {Q : Option Value → pmS → Prop} {at0 f wh x y : Int} {a : xA} {b : xB} (hA : xAr a) (hat : 0 ≤ at0 ∧ at0 ≤ 40) (hf : 1 ≤ f ∧ f ≤ 3) (hwh : wh = 1) (hx : 0 ≤ x ∧ x < 16) (hy : 0 ≤ y ∧ y < 16)
    (k1 : (¬ a 108 at0 = x) → Q (some (xV 0)) (xS a b))
    (k2 : (a 108 at0 = x) → Q (some (xV 1)) (xS a b)) :
    pmWp ro d 12 188 2 0 [some (.ref 87), some (xV at0), some (xV f), some (xV wh), some (xV x), some (xV y)] [] (xS a b) Q := by
  refine x_iloadn xc188_0 rfl ?_
  have h0 : ¬ wh = 0 := by omega
  refine x_sw (c := 1) (t := 56) (by omega) xc188_1.1 rfl ?_
  refine x_aloadn xc188_56 rfl ?_
  refine x_gfr xc188_57 rfl rfl xz87 rfl ?_
  refine x_iloadn xc188_60 rfl ?_
  refine x_ial xc188_61 xz108 rfl (by have g0 := hat; omega) (by have g0 := hat; omega) (by have g0 := hat; omega) ?_
  refine x_iload xc188_62 rfl ?_
  refine x_icne xc188_64 (xRk (by have g0 := hat; have g1 := xRb (hA 108 at0); omega)) (xRk (by have g0 := hx; omega)) (fun h2 => ?_) (fun h2 => ?_)
  · refine x_iconst xc188_71 ?_
    refine x_iret xc188_72 (Or.inr ⟨rfl, (by omega)⟩) ?_
    exact k1 h2
  · replace h2 := Classical.not_not.mp h2
    refine x_iconst xc188_67 ?_
    refine x_goto xc188_68 ?_
    refine x_iret xc188_72 (Or.inr ⟨rfl, (by omega)⟩) ?_
    exact k2 h2

theorem w188_2 {ro : Nat → Nat × (Nat → Int32)} {d : Nat} {Q : Option Value → pmS → Prop} {at0 f wh x y : Int} {a : xA} {b : xB} (hA : xAr a) (hat : 0 ≤ at0 ∧ at0 ≤ 40) (hf : 1 ≤ f ∧ f ≤ 3) (hwh : wh = 2) (hx : 0 ≤ x ∧ x < 4) (hy : 0 ≤ y ∧ y < 16)
    (k1 : (¬ a 108 (at0 + 6 + x) = 7) → Q (some (xV 0)) (xS a b))
    (k2 : (a 108 (at0 + 6 + x) = 7) → Q (some (xV 1)) (xS a b)) :
    pmWp ro d 12 188 2 0 [some (.ref 87), some (xV at0), some (xV f), some (xV wh), some (xV x), some (xV y)] [] (xS a b) Q := by
  refine x_iloadn xc188_0 rfl ?_
  have h0 : ¬ wh = 0 := by omega
  have h1 : ¬ wh = 1 := by omega
  refine x_sw (c := 2) (t := 73) (by omega) xc188_1.1 rfl ?_
  refine x_aloadn xc188_73 rfl ?_
  refine x_gfr xc188_74 rfl rfl xz87 rfl ?_
  refine x_iloadn xc188_77 rfl ?_
  refine x_bipush xc188_78 (by decide) ?_
  refine x_iadd xc188_80 ?_
  refine x_iload xc188_81 rfl ?_
  refine x_iadd xc188_83 ?_
  refine x_ial xc188_84 xz108 rfl (by have g0 := hat; have g1 := hx; omega) (by have g0 := hat; have g1 := hx; omega) (by have g0 := hat; have g1 := hx; omega) ?_
  refine x_bipush xc188_85 (by decide) ?_
  refine x_icne xc188_87 (xRk (by have g0 := hat; have g1 := hx; have g2 := xRb (hA 108 (at0 + 6 + x)); omega)) (xRk (by decide)) (fun h3 => ?_) (fun h3 => ?_)
  · refine x_iconst xc188_94 ?_
    refine x_iret xc188_95 (Or.inr ⟨rfl, (by omega)⟩) ?_
    exact k1 h3
  · replace h3 := Classical.not_not.mp h3
    refine x_iconst xc188_90 ?_
    refine x_goto xc188_91 ?_
    refine x_iret xc188_95 (Or.inr ⟨rfl, (by omega)⟩) ?_
    exact k2 h3

theorem w188_3 {ro : Nat → Nat × (Nat → Int32)} {d : Nat} {Q : Option Value → pmS → Prop} {at0 f wh x y : Int} {a : xA} {b : xB} (hA : xAr a) (hat : 0 ≤ at0 ∧ at0 ≤ 40) (hf : 1 ≤ f ∧ f ≤ 3) (hwh : wh = 3) (hx : 0 ≤ x ∧ x < 5) (hy : 0 ≤ y ∧ y < 16)
    (k1 : (¬ a 108 (at0 + 1 + x) = y) → Q (some (xV 0)) (xS a b))
    (k2 : (a 108 (at0 + 1 + x) = y) → Q (some (xV 1)) (xS a b)) :
    pmWp ro d 12 188 2 0 [some (.ref 87), some (xV at0), some (xV f), some (xV wh), some (xV x), some (xV y)] [] (xS a b) Q := by
  refine x_iloadn xc188_0 rfl ?_
  have h0 : ¬ wh = 0 := by omega
  have h1 : ¬ wh = 1 := by omega
  have h2 : ¬ wh = 2 := by omega
  refine x_sw (c := 3) (t := 96) (by omega) xc188_1.1 rfl ?_
  refine x_aloadn xc188_96 rfl ?_
  refine x_gfr xc188_97 rfl rfl xz87 rfl ?_
  refine x_iloadn xc188_100 rfl ?_
  refine x_iconst xc188_101 ?_
  refine x_iadd xc188_102 ?_
  refine x_iload xc188_103 rfl ?_
  refine x_iadd xc188_105 ?_
  refine x_ial xc188_106 xz108 rfl (by have g0 := hat; have g1 := hx; omega) (by have g0 := hat; have g1 := hx; omega) (by have g0 := hat; have g1 := hx; omega) ?_
  refine x_iload xc188_107 rfl ?_
  refine x_icne xc188_109 (xRk (by have g0 := hat; have g1 := hx; have g2 := xRb (hA 108 (at0 + 1 + x)); omega)) (xRk (by have g0 := hy; omega)) (fun h4 => ?_) (fun h4 => ?_)
  · refine x_iconst xc188_116 ?_
    refine x_iret xc188_117 (Or.inr ⟨rfl, (by omega)⟩) ?_
    exact k1 h4
  · replace h4 := Classical.not_not.mp h4
    refine x_iconst xc188_112 ?_
    refine x_goto xc188_113 ?_
    refine x_iret xc188_117 (Or.inr ⟨rfl, (by omega)⟩) ?_
    exact k2 h4

theorem w188_4 {ro : Nat → Nat × (Nat → Int32)} {d : Nat} {Q : Option Value → pmS → Prop} {at0 f wh x y : Int} {a : xA} {b : xB} (hA : xAr a) (hat : 0 ≤ at0 ∧ at0 ≤ 40) (hf : 1 ≤ f ∧ f ≤ 3) (hwh : wh = 4) (hx : 0 ≤ x ∧ x < 16) (hy : 0 ≤ y ∧ y < 5)
    (k1 : (¬ a 108 (at0 + 1 + y) = 10 + x) → Q (some (xV 0)) (xS a b))
    (k2 : (a 108 (at0 + 1 + y) = 10 + x) → Q (some (xV 1)) (xS a b)) :
    pmWp ro d 12 188 2 0 [some (.ref 87), some (xV at0), some (xV f), some (xV wh), some (xV x), some (xV y)] [] (xS a b) Q := by
  refine x_iloadn xc188_0 rfl ?_
  have h0 : ¬ wh = 0 := by omega
  have h1 : ¬ wh = 1 := by omega
  have h2 : ¬ wh = 2 := by omega
  have h3 : ¬ wh = 3 := by omega
  refine x_tsd xc188_1 (xRk (by have g0 := hwh; omega)) (by omega) ?_
  refine x_aloadn xc188_118 rfl ?_
  refine x_gfr xc188_119 rfl rfl xz87 rfl ?_
  refine x_iloadn xc188_122 rfl ?_
  refine x_iconst xc188_123 ?_
  refine x_iadd xc188_124 ?_
  refine x_iload xc188_125 rfl ?_
  refine x_iadd xc188_127 ?_
  refine x_ial xc188_128 xz108 rfl (by have g0 := hat; have g1 := hy; omega) (by have g0 := hat; have g1 := hy; omega) (by have g0 := hat; have g1 := hy; omega) ?_
  refine x_bipush xc188_129 (by decide) ?_
  refine x_iload xc188_131 rfl ?_
  refine x_iadd xc188_133 ?_
  refine x_icne xc188_134 (xRk (by have g0 := hat; have g1 := hy; have g2 := xRb (hA 108 (at0 + 1 + y)); omega)) (xRk (by have g0 := hx; omega)) (fun h4 => ?_) (fun h4 => ?_)
  · refine x_iconst xc188_141 ?_
    refine x_iret xc188_142 (Or.inr ⟨rfl, (by omega)⟩) ?_
    exact k1 h4
  · replace h4 := Classical.not_not.mp h4
    refine x_iconst xc188_137 ?_
    refine x_goto xc188_138 ?_
    refine x_iret xc188_142 (Or.inr ⟨rfl, (by omega)⟩) ?_
    exact k2 h4

theorem w195 {ro : Nat → Nat × (Nat → Int32)} {d : Nat} {Q : Option Value → pmS → Prop} {at0 f n : Int} {a : xA} {b : xB} (hA : xAr a) (hat : 0 ≤ at0 ∧ at0 ≤ 40) (hf : 1 ≤ f ∧ f ≤ 3) (hn : a 87 2 = n) (hn0 : 0 ≤ n ∧ n ≤ 5)
    (k1 : pmWp ro d 12 195 2 2 [some (.ref 87), some (xV at0), some (xV f), some (xV 0)] [] (xS a b) Q) :
    pmWp ro d 12 195 2 0 [some (.ref 87), some (xV at0), some (xV f), none] [] (xS a b) Q := by
  refine x_iconst xc195_0 ?_
  refine x_istoren (pl' := [some (.ref 87), some (xV at0), some (xV f), some (xV 0)]) xc195_1 rfl rfl ?_
  exact k1

theorem xg195 {ro : Nat → Nat × (Nat → Int32)} {d : Nat} {Q : Option Value → pmS → Prop} {a : xA} {b : xB} {at0 f : Int} (h : pmWp ro d 12 195 2 0 [some (.ref 87), some (xV at0), some (xV f), none] [] (xS a b) Q) : pmCs ro (d + 1) 195 [.ref 87, xV at0, xV f] (xS a b) Q := x_go xi195 rfl rfl rfl rfl rfl h
theorem w195l {ro : Nat → Nat × (Nat → Int32)} {d : Nat} {Q : Option Value → pmS → Prop} {at0 f n x : Int} {a : xA} {b : xB} (hA : xAr a) (hat : 0 ≤ at0 ∧ at0 ≤ 40) (hf : 1 ≤ f ∧ f ≤ 3) (hn : a 87 2 = n) (hn0 : 0 ≤ n ∧ n ≤ 5) (hx : 0 ≤ x ∧ x ≤ n)
    (k1 : (n ≤ x) → Q (some (xV 0)) (xS a b))
    (k2 : (¬ n ≤ x) → (a 91 x = 0) → pmWp ro d 12 195 2 2 [some (.ref 87), some (xV at0), some (xV f), some (xV (x + 1))] [] (xS a b) Q)
    (k3 : (¬ n ≤ x) → (¬ a 91 x = 0) → (¬ a 108 (at0 + 1 + x) = 10 + f) → pmWp ro d 12 195 2 2 [some (.ref 87), some (xV at0), some (xV f), some (xV (x + 1))] [] (xS a b) Q)
    (k4 : (¬ n ≤ x) → (¬ a 91 x = 0) → (a 108 (at0 + 1 + x) = 10 + f) → Q (some (xV 1)) (xS a b)) :
    pmWp ro d 12 195 2 2 [some (.ref 87), some (xV at0), some (xV f), some (xV x)] [] (xS a b) Q := by
  refine x_iloadn xc195_2 rfl ?_
  refine x_aloadn xc195_3 rfl ?_
  refine x_gfi' (k := 2) (v := n) xc195_4 rfl (Or.inl rfl) rfl xz87 hn ?_
  refine x_icge xc195_7 (xRk (by have g0 := hx; omega)) (xRk (by have g0 := hn0; omega)) (fun h0 => ?_) (fun h0 => ?_)
  · refine x_iconst xc195_44 ?_
    refine x_iret xc195_45 (Or.inr ⟨rfl, (by omega)⟩) ?_
    exact k1 h0
  · refine x_aloadn xc195_10 rfl ?_
    refine x_gfr xc195_11 rfl rfl xz87 rfl ?_
    refine x_iloadn xc195_14 rfl ?_
    refine x_bal xc195_15 xz91 (Or.inl rfl) (by have g0 := hx; omega) (by have g0 := hx; omega) (by have g0 := hx; omega) ?_
    refine x_ifeq xc195_16 (xRk (by have g0 := hx; have g1 := xRb (hA 91 x); omega)) (fun h1 => ?_) (fun h1 => ?_)
    · refine x_iinc (pl' := [some (.ref 87), some (xV at0), some (xV f), some (xV (x + 1))]) xc195_38 rfl rfl ?_
      refine x_goto xc195_41 ?_
      exact k2 h0 h1
    · refine x_aloadn xc195_19 rfl ?_
      refine x_gfr xc195_20 rfl rfl xz87 rfl ?_
      refine x_iloadn xc195_23 rfl ?_
      refine x_iconst xc195_24 ?_
      refine x_iadd xc195_25 ?_
      refine x_iloadn xc195_26 rfl ?_
      refine x_iadd xc195_27 ?_
      refine x_ial xc195_28 xz108 rfl (by have g0 := hat; have g1 := hx; omega) (by have g0 := hat; have g1 := hx; omega) (by have g0 := hat; have g1 := hx; omega) ?_
      refine x_bipush xc195_29 (by decide) ?_
      refine x_iloadn xc195_31 rfl ?_
      refine x_iadd xc195_32 ?_
      refine x_icne xc195_33 (xRk (by have g0 := hat; have g1 := hx; have g2 := xRb (hA 108 (at0 + 1 + x)); omega)) (xRk (by have g0 := hf; omega)) (fun h2 => ?_) (fun h2 => ?_)
      · refine x_iinc (pl' := [some (.ref 87), some (xV at0), some (xV f), some (xV (x + 1))]) xc195_38 rfl rfl ?_
        refine x_goto xc195_41 ?_
        exact k3 h0 h1 h2
      · replace h2 := Classical.not_not.mp h2
        refine x_iconst xc195_36 ?_
        refine x_iret xc195_37 (Or.inr ⟨rfl, (by omega)⟩) ?_
        exact k4 h0 h1 h2

theorem xg191 {ro : Nat → Nat × (Nat → Int32)} {d : Nat} {Q : Option Value → pmS → Prop} {a : xA} {b : xB} {lv f k : Int} (h : pmWp ro d 12 191 2 0 [some (.ref 87), some (xV lv), some (xV f), some (xV k), none, none, none] [] (xS a b) Q) : pmCs ro (d + 1) 191 [.ref 87, xV lv, xV f, xV k] (xS a b) Q := x_go xi191 rfl rfl rfl rfl rfl h
theorem w191_1 {ro : Nat → Nat × (Nat → Int32)} {d : Nat} {Q : Option Value → pmS → Prop} {lv f k rm : Int} {a : xA} {b : xB} (hA : xAr a) (hlv : 0 ≤ lv ∧ lv ≤ 4) (hf : 1 ≤ f ∧ f ≤ 3) (hr : a 108 (10 * lv) = rm) (hr0 : 0 ≤ rm ∧ rm ≤ 6) (h90 : ∀ k, 0 ≤ k → k < 49 → 0 ≤ a 90 k ∧ a 90 k ≤ 1) (hk : 0 ≤ k ∧ k < 41) (hkk : uK k = 1) (hxk : 0 ≤ uX k ∧ uX k < 7) (hd : 1 ≤ d)
    (k1 : Q (some (xV (a 90 (7 * rm + (uX k))))) (xS a b)) :
    pmWp ro d 12 191 2 0 [some (.ref 87), some (xV lv), some (xV f), some (xV k), none, none, none] [] (xS a b) Q := by
  refine x_bipush xc191_0 (by decide) ?_
  refine x_iloadn xc191_2 rfl ?_
  refine x_imul xc191_3 ?_
  refine x_istore (pl' := [some (.ref 87), some (xV lv), some (xV f), some (xV k), some (xV (10 * lv)), none, none]) xc191_4 rfl rfl ?_
  refine x_iloadn xc191_6 rfl ?_
  refine x_cS (as := [xV k]) (rest := []) xc191_7 rfl rfl xi192 ⟨rfl, rfl⟩ rfl rfl ?_
  refine rk192 (by omega) ⟨by omega, by omega⟩ ?_
  refine x_istore (pl' := [some (.ref 87), some (xV lv), some (xV f), some (xV k), some (xV (10 * lv)), some (xV (uX k)), none]) xc191_10 rfl rfl ?_
  refine x_aloadn xc191_12 rfl ?_
  refine x_gfr xc191_13 rfl rfl xz87 rfl ?_
  refine x_iload xc191_16 rfl ?_
  refine x_ial' (v := rm) xc191_18 xz108 rfl (by have g0 := hlv; omega) (by have g0 := hlv; omega) (by have g0 := hlv; omega) hr ?_
  refine x_istore (pl' := [some (.ref 87), some (xV lv), some (xV f), some (xV k), some (xV (10 * lv)), some (xV (uX k)), some (xV rm)]) xc191_19 rfl rfl ?_
  refine x_iloadn xc191_21 rfl ?_
  refine x_cS (as := [xV k]) (rest := []) xc191_22 rfl rfl xi193 ⟨rfl, rfl⟩ rfl rfl ?_
  refine rk193 (by omega) ⟨by omega, by omega⟩ ?_
  refine x_sw (c := 1) (t := 56) (by omega) xc191_25.1 rfl ?_
  refine x_aloadn xc191_56 rfl ?_
  refine x_gfr xc191_57 rfl rfl xz87 rfl ?_
  refine x_bipush xc191_60 (by decide) ?_
  refine x_iload xc191_62 rfl ?_
  refine x_imul xc191_64 ?_
  refine x_iload xc191_65 rfl ?_
  refine x_iadd xc191_67 ?_
  refine x_bal xc191_68 xz90 (Or.inl rfl) (by have g0 := hr0; have g1 := hxk; omega) (by have g0 := hr0; have g1 := hxk; omega) (by have g0 := hr0; have g1 := hxk; omega) ?_
  refine x_iret xc191_69 (Or.inr ⟨rfl, (by have g0 := hr0; have g1 := hxk; have g2 := h90 (7 * rm + (uX k)) (by omega) (by omega); omega)⟩) ?_
  exact k1

theorem w191_2 {ro : Nat → Nat × (Nat → Int32)} {d : Nat} {Q : Option Value → pmS → Prop} {lv f k rm : Int} {a : xA} {b : xB} (hA : xAr a) (hlv : 0 ≤ lv ∧ lv ≤ 4) (hf : 1 ≤ f ∧ f ≤ 3) (hr : a 108 (10 * lv) = rm) (hr0 : 0 ≤ rm ∧ rm ≤ 6) (hk : 0 ≤ k ∧ k < 41) (hkk : uK k = 2) (hxk : 0 ≤ uX k ∧ uX k < 5) (hd : 1 ≤ d)
    (k1 : (¬ a 108 (10 * lv + 1 + (uX k)) = rm) → Q (some (xV 0)) (xS a b))
    (k2 : (a 108 (10 * lv + 1 + (uX k)) = rm) → Q (some (xV 1)) (xS a b)) :
    pmWp ro d 12 191 2 0 [some (.ref 87), some (xV lv), some (xV f), some (xV k), none, none, none] [] (xS a b) Q := by
  refine x_bipush xc191_0 (by decide) ?_
  refine x_iloadn xc191_2 rfl ?_
  refine x_imul xc191_3 ?_
  refine x_istore (pl' := [some (.ref 87), some (xV lv), some (xV f), some (xV k), some (xV (10 * lv)), none, none]) xc191_4 rfl rfl ?_
  refine x_iloadn xc191_6 rfl ?_
  refine x_cS (as := [xV k]) (rest := []) xc191_7 rfl rfl xi192 ⟨rfl, rfl⟩ rfl rfl ?_
  refine rk192 (by omega) ⟨by omega, by omega⟩ ?_
  refine x_istore (pl' := [some (.ref 87), some (xV lv), some (xV f), some (xV k), some (xV (10 * lv)), some (xV (uX k)), none]) xc191_10 rfl rfl ?_
  refine x_aloadn xc191_12 rfl ?_
  refine x_gfr xc191_13 rfl rfl xz87 rfl ?_
  refine x_iload xc191_16 rfl ?_
  refine x_ial' (v := rm) xc191_18 xz108 rfl (by have g0 := hlv; omega) (by have g0 := hlv; omega) (by have g0 := hlv; omega) hr ?_
  refine x_istore (pl' := [some (.ref 87), some (xV lv), some (xV f), some (xV k), some (xV (10 * lv)), some (xV (uX k)), some (xV rm)]) xc191_19 rfl rfl ?_
  refine x_iloadn xc191_21 rfl ?_
  refine x_cS (as := [xV k]) (rest := []) xc191_22 rfl rfl xi193 ⟨rfl, rfl⟩ rfl rfl ?_
  refine rk193 (by omega) ⟨by omega, by omega⟩ ?_
  have h0 : ¬ uK k = 1 := by omega
  refine x_sw (c := 2) (t := 70) (by omega) xc191_25.1 rfl ?_
  refine x_aloadn xc191_70 rfl ?_
  refine x_gfr xc191_71 rfl rfl xz87 rfl ?_
  refine x_iload xc191_74 rfl ?_
  refine x_iconst xc191_76 ?_
  refine x_iadd xc191_77 ?_
  refine x_iload xc191_78 rfl ?_
  refine x_iadd xc191_80 ?_
  refine x_ial xc191_81 xz108 rfl (by have g0 := hlv; have g1 := hxk; omega) (by have g0 := hlv; have g1 := hxk; omega) (by have g0 := hlv; have g1 := hxk; omega) ?_
  refine x_iload xc191_82 rfl ?_
  refine x_icne xc191_84 (xRk (by have g0 := hlv; have g1 := hxk; have g2 := xRb (hA 108 (10 * lv + 1 + (uX k))); omega)) (xRk (by have g0 := hr0; omega)) (fun h2 => ?_) (fun h2 => ?_)
  · refine x_iconst xc191_91 ?_
    refine x_iret xc191_92 (Or.inr ⟨rfl, (by omega)⟩) ?_
    exact k1 h2
  · replace h2 := Classical.not_not.mp h2
    refine x_iconst xc191_87 ?_
    refine x_goto xc191_88 ?_
    refine x_iret xc191_92 (Or.inr ⟨rfl, (by omega)⟩) ?_
    exact k2 h2

theorem w191_3 {ro : Nat → Nat × (Nat → Int32)} {d : Nat} {Q : Option Value → pmS → Prop} {lv f k rm : Int} {a : xA} {b : xB} (hA : xAr a) (hlv : 0 ≤ lv ∧ lv ≤ 4) (hf : 1 ≤ f ∧ f ≤ 3) (hr : a 108 (10 * lv) = rm) (hr0 : 0 ≤ rm ∧ rm ≤ 6) (hk : 0 ≤ k ∧ k < 41) (hkk : uK k = 3) (hxk : 0 ≤ uX k ∧ uX k < 5) (hd : 1 ≤ d)
    (k1 : (¬ a 108 (10 * lv + 1 + (uX k)) = 10 + f) → Q (some (xV 0)) (xS a b))
    (k2 : (a 108 (10 * lv + 1 + (uX k)) = 10 + f) → Q (some (xV 1)) (xS a b)) :
    pmWp ro d 12 191 2 0 [some (.ref 87), some (xV lv), some (xV f), some (xV k), none, none, none] [] (xS a b) Q := by
  refine x_bipush xc191_0 (by decide) ?_
  refine x_iloadn xc191_2 rfl ?_
  refine x_imul xc191_3 ?_
  refine x_istore (pl' := [some (.ref 87), some (xV lv), some (xV f), some (xV k), some (xV (10 * lv)), none, none]) xc191_4 rfl rfl ?_
  refine x_iloadn xc191_6 rfl ?_
  refine x_cS (as := [xV k]) (rest := []) xc191_7 rfl rfl xi192 ⟨rfl, rfl⟩ rfl rfl ?_
  refine rk192 (by omega) ⟨by omega, by omega⟩ ?_
  refine x_istore (pl' := [some (.ref 87), some (xV lv), some (xV f), some (xV k), some (xV (10 * lv)), some (xV (uX k)), none]) xc191_10 rfl rfl ?_
  refine x_aloadn xc191_12 rfl ?_
  refine x_gfr xc191_13 rfl rfl xz87 rfl ?_
  refine x_iload xc191_16 rfl ?_
  refine x_ial' (v := rm) xc191_18 xz108 rfl (by have g0 := hlv; omega) (by have g0 := hlv; omega) (by have g0 := hlv; omega) hr ?_
  refine x_istore (pl' := [some (.ref 87), some (xV lv), some (xV f), some (xV k), some (xV (10 * lv)), some (xV (uX k)), some (xV rm)]) xc191_19 rfl rfl ?_
  refine x_iloadn xc191_21 rfl ?_
  refine x_cS (as := [xV k]) (rest := []) xc191_22 rfl rfl xi193 ⟨rfl, rfl⟩ rfl rfl ?_
  refine rk193 (by omega) ⟨by omega, by omega⟩ ?_
  have h0 : ¬ uK k = 1 := by omega
  have h1 : ¬ uK k = 2 := by omega
  refine x_sw (c := 3) (t := 93) (by omega) xc191_25.1 rfl ?_
  refine x_aloadn xc191_93 rfl ?_
  refine x_gfr xc191_94 rfl rfl xz87 rfl ?_
  refine x_iload xc191_97 rfl ?_
  refine x_iconst xc191_99 ?_
  refine x_iadd xc191_100 ?_
  refine x_iload xc191_101 rfl ?_
  refine x_iadd xc191_103 ?_
  refine x_ial xc191_104 xz108 rfl (by have g0 := hlv; have g1 := hxk; omega) (by have g0 := hlv; have g1 := hxk; omega) (by have g0 := hlv; have g1 := hxk; omega) ?_
  refine x_bipush xc191_105 (by decide) ?_
  refine x_iloadn xc191_107 rfl ?_
  refine x_iadd xc191_108 ?_
  refine x_icne xc191_109 (xRk (by have g0 := hlv; have g1 := hxk; have g2 := xRb (hA 108 (10 * lv + 1 + (uX k))); omega)) (xRk (by have g0 := hf; omega)) (fun h3 => ?_) (fun h3 => ?_)
  · refine x_iconst xc191_116 ?_
    refine x_iret xc191_117 (Or.inr ⟨rfl, (by omega)⟩) ?_
    exact k1 h3
  · replace h3 := Classical.not_not.mp h3
    refine x_iconst xc191_112 ?_
    refine x_goto xc191_113 ?_
    refine x_iret xc191_117 (Or.inr ⟨rfl, (by omega)⟩) ?_
    exact k2 h3

theorem w191_4 {ro : Nat → Nat × (Nat → Int32)} {d : Nat} {Q : Option Value → pmS → Prop} {lv f k rm : Int} {a : xA} {b : xB} (hA : xAr a) (hlv : 0 ≤ lv ∧ lv ≤ 4) (hf : 1 ≤ f ∧ f ≤ 3) (hr : a 108 (10 * lv) = rm) (hr0 : 0 ≤ rm ∧ rm ≤ 6) (hk : 0 ≤ k ∧ k < 41) (hkk : uK k = 4) (hxk : 0 ≤ uX k ∧ uX k < 5) (hyk : 0 ≤ uY k ∧ uY k < 4) (hd : 1 ≤ d)
    (k1 : (¬ a 108 (10 * lv + 1 + (uX k)) = 10 + f) → Q (some (xV 0)) (xS a b))
    (k2 : (a 108 (10 * lv + 1 + (uX k)) = 10 + f) → (uY k = f) → Q (some (xV 0)) (xS a b))
    (k3 : (a 108 (10 * lv + 1 + (uX k)) = 10 + f) → (¬ uY k = f) → (¬ a 108 (10 * lv + 6 + (uY k)) = rm) → Q (some (xV 0)) (xS a b))
    (k4 : (a 108 (10 * lv + 1 + (uX k)) = 10 + f) → (¬ uY k = f) → (a 108 (10 * lv + 6 + (uY k)) = rm) → Q (some (xV 1)) (xS a b)) :
    pmWp ro d 12 191 2 0 [some (.ref 87), some (xV lv), some (xV f), some (xV k), none, none, none] [] (xS a b) Q := by
  refine x_bipush xc191_0 (by decide) ?_
  refine x_iloadn xc191_2 rfl ?_
  refine x_imul xc191_3 ?_
  refine x_istore (pl' := [some (.ref 87), some (xV lv), some (xV f), some (xV k), some (xV (10 * lv)), none, none]) xc191_4 rfl rfl ?_
  refine x_iloadn xc191_6 rfl ?_
  refine x_cS (as := [xV k]) (rest := []) xc191_7 rfl rfl xi192 ⟨rfl, rfl⟩ rfl rfl ?_
  refine rk192 (by omega) ⟨by omega, by omega⟩ ?_
  refine x_istore (pl' := [some (.ref 87), some (xV lv), some (xV f), some (xV k), some (xV (10 * lv)), some (xV (uX k)), none]) xc191_10 rfl rfl ?_
  refine x_aloadn xc191_12 rfl ?_
  refine x_gfr xc191_13 rfl rfl xz87 rfl ?_
  refine x_iload xc191_16 rfl ?_
  refine x_ial' (v := rm) xc191_18 xz108 rfl (by have g0 := hlv; omega) (by have g0 := hlv; omega) (by have g0 := hlv; omega) hr ?_
  refine x_istore (pl' := [some (.ref 87), some (xV lv), some (xV f), some (xV k), some (xV (10 * lv)), some (xV (uX k)), some (xV rm)]) xc191_19 rfl rfl ?_
  refine x_iloadn xc191_21 rfl ?_
  refine x_cS (as := [xV k]) (rest := []) xc191_22 rfl rfl xi193 ⟨rfl, rfl⟩ rfl rfl ?_
  refine rk193 (by omega) ⟨by omega, by omega⟩ ?_
  have h0 : ¬ uK k = 1 := by omega
  have h1 : ¬ uK k = 2 := by omega
  have h2 : ¬ uK k = 3 := by omega
  refine x_sw (c := 4) (t := 118) (by omega) xc191_25.1 rfl ?_
  refine x_aloadn xc191_118 rfl ?_
  refine x_gfr xc191_119 rfl rfl xz87 rfl ?_
  refine x_iload xc191_122 rfl ?_
  refine x_iconst xc191_124 ?_
  refine x_iadd xc191_125 ?_
  refine x_iload xc191_126 rfl ?_
  refine x_iadd xc191_128 ?_
  refine x_ial xc191_129 xz108 rfl (by have g0 := hlv; have g1 := hxk; omega) (by have g0 := hlv; have g1 := hxk; omega) (by have g0 := hlv; have g1 := hxk; omega) ?_
  refine x_bipush xc191_130 (by decide) ?_
  refine x_iloadn xc191_132 rfl ?_
  refine x_iadd xc191_133 ?_
  refine x_icne xc191_134 (xRk (by have g0 := hlv; have g1 := hxk; have g2 := xRb (hA 108 (10 * lv + 1 + (uX k))); omega)) (xRk (by have g0 := hf; omega)) (fun h4 => ?_) (fun h4 => ?_)
  · refine x_iconst xc191_169 ?_
    refine x_iret xc191_170 (Or.inr ⟨rfl, (by omega)⟩) ?_
    exact k1 h4
  · replace h4 := Classical.not_not.mp h4
    refine x_iloadn xc191_137 rfl ?_
    refine x_cS (as := [xV k]) (rest := []) xc191_138 rfl rfl xi194 ⟨rfl, rfl⟩ rfl rfl ?_
    refine rk194 (by omega) ⟨by omega, by omega⟩ ?_
    refine x_iloadn xc191_141 rfl ?_
    refine x_iceq xc191_142 (xRk (by have g0 := hyk; omega)) (xRk (by have g0 := hf; omega)) (fun h5 => ?_) (fun h5 => ?_)
    · refine x_iconst xc191_169 ?_
      refine x_iret xc191_170 (Or.inr ⟨rfl, (by omega)⟩) ?_
      exact k2 h4 h5
    · refine x_aloadn xc191_145 rfl ?_
      refine x_gfr xc191_146 rfl rfl xz87 rfl ?_
      refine x_iload xc191_149 rfl ?_
      refine x_bipush xc191_151 (by decide) ?_
      refine x_iadd xc191_153 ?_
      refine x_iloadn xc191_154 rfl ?_
      refine x_cS (as := [xV k]) (rest := [xV (10 * lv + 6), .ref 108]) xc191_155 rfl rfl xi194 ⟨rfl, rfl⟩ rfl rfl ?_
      refine rk194 (by omega) ⟨by omega, by omega⟩ ?_
      refine x_iadd xc191_158 ?_
      refine x_ial xc191_159 xz108 rfl (by have g0 := hlv; have g1 := hyk; omega) (by have g0 := hlv; have g1 := hyk; omega) (by have g0 := hlv; have g1 := hyk; omega) ?_
      refine x_iload xc191_160 rfl ?_
      refine x_icne xc191_162 (xRk (by have g0 := hlv; have g1 := hyk; have g2 := xRb (hA 108 (10 * lv + 6 + (uY k))); omega)) (xRk (by have g0 := hr0; omega)) (fun h6 => ?_) (fun h6 => ?_)
      · refine x_iconst xc191_169 ?_
        refine x_iret xc191_170 (Or.inr ⟨rfl, (by omega)⟩) ?_
        exact k3 h4 h5 h6
      · replace h6 := Classical.not_not.mp h6
        refine x_iconst xc191_165 ?_
        refine x_goto xc191_166 ?_
        refine x_iret xc191_170 (Or.inr ⟨rfl, (by omega)⟩) ?_
        exact k4 h4 h5 h6

theorem w191_5 {ro : Nat → Nat × (Nat → Int32)} {d : Nat} {Q : Option Value → pmS → Prop} {lv f k rm : Int} {a : xA} {b : xB} (hA : xAr a) (hlv : 0 ≤ lv ∧ lv ≤ 4) (hf : 1 ≤ f ∧ f ≤ 3) (hr : a 108 (10 * lv) = rm) (hr0 : 0 ≤ rm ∧ rm ≤ 6) (hk : 0 ≤ k ∧ k < 41) (hkk : uK k = 5) (hxk : 0 ≤ uX k ∧ uX k < 4) (hd : 1 ≤ d)
    (k1 : (uX k = f) → Q (some (xV 0)) (xS a b))
    (k2 : (¬ uX k = f) → (¬ a 108 (10 * lv + 6 + (uX k)) = rm) → Q (some (xV 0)) (xS a b))
    (k3 : (¬ uX k = f) → (a 108 (10 * lv + 6 + (uX k)) = rm) → pmCs ro d 195 [.ref 87, xV (10 * lv), xV f] (xS a b) fun r σ' => pmWp ro d 12 191 2 202 [some (.ref 87), some (xV lv), some (xV f), some (xV k), some (xV (10 * lv)), some (xV (uX k)), some (xV rm)] (r.toList ++ []) σ' Q) :
    pmWp ro d 12 191 2 0 [some (.ref 87), some (xV lv), some (xV f), some (xV k), none, none, none] [] (xS a b) Q := by
  refine x_bipush xc191_0 (by decide) ?_
  refine x_iloadn xc191_2 rfl ?_
  refine x_imul xc191_3 ?_
  refine x_istore (pl' := [some (.ref 87), some (xV lv), some (xV f), some (xV k), some (xV (10 * lv)), none, none]) xc191_4 rfl rfl ?_
  refine x_iloadn xc191_6 rfl ?_
  refine x_cS (as := [xV k]) (rest := []) xc191_7 rfl rfl xi192 ⟨rfl, rfl⟩ rfl rfl ?_
  refine rk192 (by omega) ⟨by omega, by omega⟩ ?_
  refine x_istore (pl' := [some (.ref 87), some (xV lv), some (xV f), some (xV k), some (xV (10 * lv)), some (xV (uX k)), none]) xc191_10 rfl rfl ?_
  refine x_aloadn xc191_12 rfl ?_
  refine x_gfr xc191_13 rfl rfl xz87 rfl ?_
  refine x_iload xc191_16 rfl ?_
  refine x_ial' (v := rm) xc191_18 xz108 rfl (by have g0 := hlv; omega) (by have g0 := hlv; omega) (by have g0 := hlv; omega) hr ?_
  refine x_istore (pl' := [some (.ref 87), some (xV lv), some (xV f), some (xV k), some (xV (10 * lv)), some (xV (uX k)), some (xV rm)]) xc191_19 rfl rfl ?_
  refine x_iloadn xc191_21 rfl ?_
  refine x_cS (as := [xV k]) (rest := []) xc191_22 rfl rfl xi193 ⟨rfl, rfl⟩ rfl rfl ?_
  refine rk193 (by omega) ⟨by omega, by omega⟩ ?_
  have h0 : ¬ uK k = 1 := by omega
  have h1 : ¬ uK k = 2 := by omega
  have h2 : ¬ uK k = 3 := by omega
  have h3 : ¬ uK k = 4 := by omega
  refine x_tsd xc191_25 (xRk (by have g0 := hkk; omega)) (by omega) ?_
  refine x_iload xc191_171 rfl ?_
  refine x_iloadn xc191_173 rfl ?_
  refine x_iceq xc191_174 (xRk (by have g0 := hxk; omega)) (xRk (by have g0 := hf; omega)) (fun h4 => ?_) (fun h4 => ?_)
  · refine x_iconst xc191_209 ?_
    refine x_iret xc191_210 (Or.inr ⟨rfl, (by omega)⟩) ?_
    exact k1 h4
  · refine x_aloadn xc191_177 rfl ?_
    refine x_gfr xc191_178 rfl rfl xz87 rfl ?_
    refine x_iload xc191_181 rfl ?_
    refine x_bipush xc191_183 (by decide) ?_
    refine x_iadd xc191_185 ?_
    refine x_iload xc191_186 rfl ?_
    refine x_iadd xc191_188 ?_
    refine x_ial xc191_189 xz108 rfl (by have g0 := hlv; have g1 := hxk; omega) (by have g0 := hlv; have g1 := hxk; omega) (by have g0 := hlv; have g1 := hxk; omega) ?_
    refine x_iload xc191_190 rfl ?_
    refine x_icne xc191_192 (xRk (by have g0 := hlv; have g1 := hxk; have g2 := xRb (hA 108 (10 * lv + 6 + (uX k))); omega)) (xRk (by have g0 := hr0; omega)) (fun h5 => ?_) (fun h5 => ?_)
    · refine x_iconst xc191_209 ?_
      refine x_iret xc191_210 (Or.inr ⟨rfl, (by omega)⟩) ?_
      exact k2 h4 h5
    · replace h5 := Classical.not_not.mp h5
      refine x_aloadn xc191_195 rfl ?_
      refine x_iload xc191_196 rfl ?_
      refine x_iloadn xc191_198 rfl ?_
      refine x_cV (as := [xV (10 * lv), xV f]) (rest := []) xc191_199 rfl xi195 xz87 ⟨rfl, rfl⟩ rfl rfl ?_
      exact k3 h4 h5

theorem w191b {ro : Nat → Nat × (Nat → Int32)} {d : Nat} {Q : Option Value → pmS → Prop} {lv f k at0 x rm z : Int} {a : xA} {b : xB} (hz : z = 0 ∨ z = 1)
    (k1 : (z = 0) → Q (some (xV 0)) (xS a b))
    (k2 : (¬ z = 0) → Q (some (xV 1)) (xS a b)) :
    pmWp ro d 12 191 2 202 [some (.ref 87), some (xV lv), some (xV f), some (xV k), some (xV at0), some (xV x), some (xV rm)] [xV z] (xS a b) Q := by
  refine x_ifeq xc191_202 (xRk (by have g0 := hz; omega)) (fun h0 => ?_) (fun h0 => ?_)
  · refine x_iconst xc191_209 ?_
    refine x_iret xc191_210 (Or.inr ⟨rfl, (by omega)⟩) ?_
    exact k1 h0
  · refine x_iconst xc191_205 ?_
    refine x_goto xc191_206 ?_
    refine x_iret xc191_210 (Or.inr ⟨rfl, (by omega)⟩) ?_
    exact k2 h0

theorem w196 {ro : Nat → Nat × (Nat → Int32)} {d : Nat} {Q : Option Value → pmS → Prop} {lv f k : Int} {a : xA} {b : xB} (hlv : 0 ≤ lv ∧ lv ≤ 3) (hf : 1 ≤ f ∧ f ≤ 3) (hk : 0 ≤ k ∧ k < 41)
    (k1 : pmWp ro d 12 196 0 12 [some (.ref 87), some (xV lv), some (xV f), some (xV k), some (xV (10 * lv + 10)), some (xV 0), none] [] (xS a b) Q) :
    pmWp ro d 12 196 0 0 [some (.ref 87), some (xV lv), some (xV f), some (xV k), none, none, none] [] (xS a b) Q := by
  refine x_bipush xc196_0 (by decide) ?_
  refine x_iloadn xc196_2 rfl ?_
  refine x_imul xc196_3 ?_
  refine x_bipush xc196_4 (by decide) ?_
  refine x_iadd xc196_6 ?_
  refine x_istore (pl' := [some (.ref 87), some (xV lv), some (xV f), some (xV k), some (xV (10 * lv + 10)), none, none]) xc196_7 rfl rfl ?_
  refine x_iconst xc196_9 ?_
  refine x_istore (pl' := [some (.ref 87), some (xV lv), some (xV f), some (xV k), some (xV (10 * lv + 10)), some (xV 0), none]) xc196_10 rfl rfl ?_
  exact k1

theorem xg196 {ro : Nat → Nat × (Nat → Int32)} {d : Nat} {Q : Option Value → pmS → Prop} {a : xA} {b : xB} {lv f k : Int} (h : pmWp ro d 12 196 0 0 [some (.ref 87), some (xV lv), some (xV f), some (xV k), none, none, none] [] (xS a b) Q) : pmCs ro (d + 1) 196 [.ref 87, xV lv, xV f, xV k] (xS a b) Q := x_go xi196 rfl rfl rfl rfl rfl h
theorem w196l {ro : Nat → Nat × (Nat → Int32)} {d : Nat} {Q : Option Value → pmS → Prop} {lv f k at0 i : Int} {a : xA} {b : xB} (hlv : 0 ≤ lv ∧ lv ≤ 3) (hf : 1 ≤ f ∧ f ≤ 3) (hk : 0 ≤ k ∧ k < 41) (hat : 10 ≤ at0 ∧ at0 ≤ 40) (hi : 0 ≤ i ∧ i ≤ 10)
    (k1 : (10 ≤ i) → pmWp ro d 12 196 0 48 [some (.ref 87), some (xV lv), some (xV f), some (xV k), some (xV at0), some (xV i), none] [] (xS a b) Q)
    (k2 : (¬ 10 ≤ i) → pmWp ro d 12 196 0 12 [some (.ref 87), some (xV lv), some (xV f), some (xV k), some (xV at0), some (xV (i + 1)), none] [] (xS (xU a 108 (at0 + i) (a 108 (at0 - 10 + i))) b) Q) :
    pmWp ro d 12 196 0 12 [some (.ref 87), some (xV lv), some (xV f), some (xV k), some (xV at0), some (xV i), none] [] (xS a b) Q := by
  refine x_iload xc196_12 rfl ?_
  refine x_bipush xc196_14 (by decide) ?_
  refine x_icge xc196_16 (xRk (by have g0 := hi; omega)) (xRk (by decide)) (fun h0 => ?_) (fun h0 => ?_)
  · exact k1 h0
  · refine x_aloadn xc196_19 rfl ?_
    refine x_gfr xc196_20 rfl rfl xz87 rfl ?_
    refine x_iload xc196_23 rfl ?_
    refine x_iload xc196_25 rfl ?_
    refine x_iadd xc196_27 ?_
    refine x_aloadn xc196_28 rfl ?_
    refine x_gfr xc196_29 rfl rfl xz87 rfl ?_
    refine x_iload xc196_32 rfl ?_
    refine x_bipush xc196_34 (by decide) ?_
    refine x_isub xc196_36 ?_
    refine x_iload xc196_37 rfl ?_
    refine x_iadd xc196_39 ?_
    refine x_ial xc196_40 xz108 rfl (by have g0 := hat; have g1 := hi; omega) (by have g0 := hat; have g1 := hi; omega) (by have g0 := hat; have g1 := hi; omega) ?_
    refine x_ias xc196_41 xz108 (by have g0 := hat; have g1 := hi; omega) (by have g0 := hat; have g1 := hi; omega) (by have g0 := hat; have g1 := hi; omega) ?_
    refine x_iinc (pl' := [some (.ref 87), some (xV lv), some (xV f), some (xV k), some (xV at0), some (xV (i + 1)), none]) xc196_42 rfl rfl ?_
    refine x_goto xc196_45 ?_
    exact k2 h0

theorem w196_1 {ro : Nat → Nat × (Nat → Int32)} {d : Nat} {Q : Option Value → pmS → Prop} {lv f k at0 i : Int} {a : xA} {b : xB} (hlv : 0 ≤ lv ∧ lv ≤ 3) (hf : 1 ≤ f ∧ f ≤ 3) (hat : 10 ≤ at0 ∧ at0 ≤ 40) (hk : 0 ≤ k ∧ k < 41) (hkk : uK k = 1) (hxk : 0 ≤ uX k ∧ uX k < 7) (hd : 1 ≤ d)
    (k1 : Q none (xS (xU a 108 at0 (uX k)) b)) :
    pmWp ro d 12 196 0 48 [some (.ref 87), some (xV lv), some (xV f), some (xV k), some (xV at0), some (xV i), none] [] (xS a b) Q := by
  refine x_iloadn xc196_48 rfl ?_
  refine x_cS (as := [xV k]) (rest := []) xc196_49 rfl rfl xi192 ⟨rfl, rfl⟩ rfl rfl ?_
  refine rk192 (by omega) ⟨by omega, by omega⟩ ?_
  refine x_istore (pl' := [some (.ref 87), some (xV lv), some (xV f), some (xV k), some (xV at0), some (xV (uX k)), none]) xc196_52 rfl rfl ?_
  refine x_iloadn xc196_54 rfl ?_
  refine x_cS (as := [xV k]) (rest := []) xc196_55 rfl rfl xi193 ⟨rfl, rfl⟩ rfl rfl ?_
  refine rk193 (by omega) ⟨by omega, by omega⟩ ?_
  refine x_sw (c := 1) (t := 88) (by omega) xc196_58.1 rfl ?_
  refine x_aloadn xc196_88 rfl ?_
  refine x_gfr xc196_89 rfl rfl xz87 rfl ?_
  refine x_iload xc196_92 rfl ?_
  refine x_iload xc196_94 rfl ?_
  refine x_ias xc196_96 xz108 (by have g0 := hat; omega) (by have g0 := hat; omega) (by have g0 := hat; omega) ?_
  refine x_goto xc196_97 ?_
  refine x_ret xc196_250 rfl ?_
  exact k1

theorem w196_2 {ro : Nat → Nat × (Nat → Int32)} {d : Nat} {Q : Option Value → pmS → Prop} {lv f k at0 i : Int} {a : xA} {b : xB} (hlv : 0 ≤ lv ∧ lv ≤ 3) (hf : 1 ≤ f ∧ f ≤ 3) (hat : 10 ≤ at0 ∧ at0 ≤ 40) (hk : 0 ≤ k ∧ k < 41) (hkk : uK k = 2) (hxk : 0 ≤ uX k ∧ uX k < 5) (hd : 1 ≤ d)
    (k1 : Q none (xS (xU a 108 (at0 + 1 + (uX k)) (10 + f)) b)) :
    pmWp ro d 12 196 0 48 [some (.ref 87), some (xV lv), some (xV f), some (xV k), some (xV at0), some (xV i), none] [] (xS a b) Q := by
  refine x_iloadn xc196_48 rfl ?_
  refine x_cS (as := [xV k]) (rest := []) xc196_49 rfl rfl xi192 ⟨rfl, rfl⟩ rfl rfl ?_
  refine rk192 (by omega) ⟨by omega, by omega⟩ ?_
  refine x_istore (pl' := [some (.ref 87), some (xV lv), some (xV f), some (xV k), some (xV at0), some (xV (uX k)), none]) xc196_52 rfl rfl ?_
  refine x_iloadn xc196_54 rfl ?_
  refine x_cS (as := [xV k]) (rest := []) xc196_55 rfl rfl xi193 ⟨rfl, rfl⟩ rfl rfl ?_
  refine rk193 (by omega) ⟨by omega, by omega⟩ ?_
  have h0 : ¬ uK k = 1 := by omega
  refine x_sw (c := 2) (t := 100) (by omega) xc196_58.1 rfl ?_
  refine x_aloadn xc196_100 rfl ?_
  refine x_gfr xc196_101 rfl rfl xz87 rfl ?_
  refine x_iload xc196_104 rfl ?_
  refine x_iconst xc196_106 ?_
  refine x_iadd xc196_107 ?_
  refine x_iload xc196_108 rfl ?_
  refine x_iadd xc196_110 ?_
  refine x_bipush xc196_111 (by decide) ?_
  refine x_iloadn xc196_113 rfl ?_
  refine x_iadd xc196_114 ?_
  refine x_ias xc196_115 xz108 (by have g0 := hat; have g1 := hxk; omega) (by have g0 := hat; have g1 := hxk; omega) (by have g0 := hat; have g1 := hxk; omega) ?_
  refine x_goto xc196_116 ?_
  refine x_ret xc196_250 rfl ?_
  exact k1

theorem w196_3 {ro : Nat → Nat × (Nat → Int32)} {d : Nat} {Q : Option Value → pmS → Prop} {lv f k at0 i : Int} {a : xA} {b : xB} (hlv : 0 ≤ lv ∧ lv ≤ 3) (hf : 1 ≤ f ∧ f ≤ 3) (hat : 10 ≤ at0 ∧ at0 ≤ 40) (hk : 0 ≤ k ∧ k < 41) (hkk : uK k = 3) (hxk : 0 ≤ uX k ∧ uX k < 5) (hd : 1 ≤ d)
    (k1 : Q none (xS (xU a 108 (at0 + 1 + (uX k)) (a 108 at0)) b)) :
    pmWp ro d 12 196 0 48 [some (.ref 87), some (xV lv), some (xV f), some (xV k), some (xV at0), some (xV i), none] [] (xS a b) Q := by
  refine x_iloadn xc196_48 rfl ?_
  refine x_cS (as := [xV k]) (rest := []) xc196_49 rfl rfl xi192 ⟨rfl, rfl⟩ rfl rfl ?_
  refine rk192 (by omega) ⟨by omega, by omega⟩ ?_
  refine x_istore (pl' := [some (.ref 87), some (xV lv), some (xV f), some (xV k), some (xV at0), some (xV (uX k)), none]) xc196_52 rfl rfl ?_
  refine x_iloadn xc196_54 rfl ?_
  refine x_cS (as := [xV k]) (rest := []) xc196_55 rfl rfl xi193 ⟨rfl, rfl⟩ rfl rfl ?_
  refine rk193 (by omega) ⟨by omega, by omega⟩ ?_
  have h0 : ¬ uK k = 1 := by omega
  have h1 : ¬ uK k = 2 := by omega
  refine x_sw (c := 3) (t := 119) (by omega) xc196_58.1 rfl ?_
  refine x_aloadn xc196_119 rfl ?_
  refine x_gfr xc196_120 rfl rfl xz87 rfl ?_
  refine x_iload xc196_123 rfl ?_
  refine x_iconst xc196_125 ?_
  refine x_iadd xc196_126 ?_
  refine x_iload xc196_127 rfl ?_
  refine x_iadd xc196_129 ?_
  refine x_aloadn xc196_130 rfl ?_
  refine x_gfr xc196_131 rfl rfl xz87 rfl ?_
  refine x_iload xc196_134 rfl ?_
  refine x_ial xc196_136 xz108 rfl (by have g0 := hat; omega) (by have g0 := hat; omega) (by have g0 := hat; omega) ?_
  refine x_ias xc196_137 xz108 (by have g0 := hat; have g1 := hxk; omega) (by have g0 := hat; have g1 := hxk; omega) (by have g0 := hat; have g1 := hxk; omega) ?_
  refine x_goto xc196_138 ?_
  refine x_ret xc196_250 rfl ?_
  exact k1

theorem w196_4 {ro : Nat → Nat × (Nat → Int32)} {d : Nat} {Q : Option Value → pmS → Prop} {lv f k at0 i : Int} {a : xA} {b : xB} (hlv : 0 ≤ lv ∧ lv ≤ 3) (hf : 1 ≤ f ∧ f ≤ 3) (hat : 10 ≤ at0 ∧ at0 ≤ 40) (hk : 0 ≤ k ∧ k < 41) (hkk : uK k = 4) (hxk : 0 ≤ uX k ∧ uX k < 5) (hyk : 0 ≤ uY k ∧ uY k < 4) (hd : 1 ≤ d)
    (k1 : Q none (xS (xU a 108 (at0 + 1 + (uX k)) (10 + (uY k))) b)) :
    pmWp ro d 12 196 0 48 [some (.ref 87), some (xV lv), some (xV f), some (xV k), some (xV at0), some (xV i), none] [] (xS a b) Q := by
  refine x_iloadn xc196_48 rfl ?_
  refine x_cS (as := [xV k]) (rest := []) xc196_49 rfl rfl xi192 ⟨rfl, rfl⟩ rfl rfl ?_
  refine rk192 (by omega) ⟨by omega, by omega⟩ ?_
  refine x_istore (pl' := [some (.ref 87), some (xV lv), some (xV f), some (xV k), some (xV at0), some (xV (uX k)), none]) xc196_52 rfl rfl ?_
  refine x_iloadn xc196_54 rfl ?_
  refine x_cS (as := [xV k]) (rest := []) xc196_55 rfl rfl xi193 ⟨rfl, rfl⟩ rfl rfl ?_
  refine rk193 (by omega) ⟨by omega, by omega⟩ ?_
  have h0 : ¬ uK k = 1 := by omega
  have h1 : ¬ uK k = 2 := by omega
  have h2 : ¬ uK k = 3 := by omega
  refine x_sw (c := 4) (t := 141) (by omega) xc196_58.1 rfl ?_
  refine x_aloadn xc196_141 rfl ?_
  refine x_gfr xc196_142 rfl rfl xz87 rfl ?_
  refine x_iload xc196_145 rfl ?_
  refine x_iconst xc196_147 ?_
  refine x_iadd xc196_148 ?_
  refine x_iload xc196_149 rfl ?_
  refine x_iadd xc196_151 ?_
  refine x_bipush xc196_152 (by decide) ?_
  refine x_iloadn xc196_154 rfl ?_
  refine x_cS (as := [xV k]) (rest := [xV 10, xV (at0 + 1 + (uX k)), .ref 108]) xc196_155 rfl rfl xi194 ⟨rfl, rfl⟩ rfl rfl ?_
  refine rk194 (by omega) ⟨by omega, by omega⟩ ?_
  refine x_iadd xc196_158 ?_
  refine x_ias xc196_159 xz108 (by have g0 := hat; have g1 := hxk; omega) (by have g0 := hat; have g1 := hxk; omega) (by have g0 := hat; have g1 := hxk; omega) ?_
  refine x_goto xc196_160 ?_
  refine x_ret xc196_250 rfl ?_
  exact k1

theorem w196_5 {ro : Nat → Nat × (Nat → Int32)} {d : Nat} {Q : Option Value → pmS → Prop} {lv f k at0 i : Int} {a : xA} {b : xB} (hlv : 0 ≤ lv ∧ lv ≤ 3) (hf : 1 ≤ f ∧ f ≤ 3) (hat : 10 ≤ at0 ∧ at0 ≤ 40) (hk : 0 ≤ k ∧ k < 41) (hkk : uK k = 5) (hxk : 0 ≤ uX k ∧ uX k < 4) (hd : 1 ≤ d)
    (k1 : pmWp ro d 12 196 0 181 [some (.ref 87), some (xV lv), some (xV f), some (xV k), some (xV at0), some (xV (uX k)), some (xV 0)] [] (xS (xU a 108 (at0 + 6 + (uX k)) 7) b) Q) :
    pmWp ro d 12 196 0 48 [some (.ref 87), some (xV lv), some (xV f), some (xV k), some (xV at0), some (xV i), none] [] (xS a b) Q := by
  refine x_iloadn xc196_48 rfl ?_
  refine x_cS (as := [xV k]) (rest := []) xc196_49 rfl rfl xi192 ⟨rfl, rfl⟩ rfl rfl ?_
  refine rk192 (by omega) ⟨by omega, by omega⟩ ?_
  refine x_istore (pl' := [some (.ref 87), some (xV lv), some (xV f), some (xV k), some (xV at0), some (xV (uX k)), none]) xc196_52 rfl rfl ?_
  refine x_iloadn xc196_54 rfl ?_
  refine x_cS (as := [xV k]) (rest := []) xc196_55 rfl rfl xi193 ⟨rfl, rfl⟩ rfl rfl ?_
  refine rk193 (by omega) ⟨by omega, by omega⟩ ?_
  have h0 : ¬ uK k = 1 := by omega
  have h1 : ¬ uK k = 2 := by omega
  have h2 : ¬ uK k = 3 := by omega
  have h3 : ¬ uK k = 4 := by omega
  refine x_tsd xc196_58 (xRk (by have g0 := hkk; omega)) (by omega) ?_
  refine x_aloadn xc196_163 rfl ?_
  refine x_gfr xc196_164 rfl rfl xz87 rfl ?_
  refine x_iload xc196_167 rfl ?_
  refine x_bipush xc196_169 (by decide) ?_
  refine x_iadd xc196_171 ?_
  refine x_iload xc196_172 rfl ?_
  refine x_iadd xc196_174 ?_
  refine x_bipush xc196_175 (by decide) ?_
  refine x_ias xc196_177 xz108 (by have g0 := hat; have g1 := hxk; omega) (by have g0 := hat; have g1 := hxk; omega) (by have g0 := hat; have g1 := hxk; omega) ?_
  refine x_iconst xc196_178 ?_
  refine x_istore (pl' := [some (.ref 87), some (xV lv), some (xV f), some (xV k), some (xV at0), some (xV (uX k)), some (xV 0)]) xc196_179 rfl rfl ?_
  exact k1

theorem w196h {ro : Nat → Nat × (Nat → Int32)} {d : Nat} {Q : Option Value → pmS → Prop} {lv f k n at0 x t : Int} {a : xA} {b : xB} (hlv : 0 ≤ lv ∧ lv ≤ 3) (hf : 1 ≤ f ∧ f ≤ 3) (hk : 0 ≤ k ∧ k < 41) (hA : xAr a) (hat : 10 ≤ at0 ∧ at0 ≤ 40) (hx : 0 ≤ x ∧ x < 4) (hn : a 87 2 = n) (hn0 : 0 ≤ n ∧ n ≤ 5) (ht : 0 ≤ t ∧ t ≤ n)
    (k1 : (n ≤ t) → Q none (xS a b))
    (k2 : (¬ n ≤ t) → (¬ a 108 (at0 + 1 + t) = 10 + x) → pmWp ro d 12 196 0 181 [some (.ref 87), some (xV lv), some (xV f), some (xV k), some (xV at0), some (xV x), some (xV (t + 1))] [] (xS (xU a 108 (at0 + 1 + t) (a 108 (at0 + 1 + t))) b) Q)
    (k3 : (¬ n ≤ t) → (a 108 (at0 + 1 + t) = 10 + x) → pmWp ro d 12 196 0 181 [some (.ref 87), some (xV lv), some (xV f), some (xV k), some (xV at0), some (xV x), some (xV (t + 1))] [] (xS (xU a 108 (at0 + 1 + t) (a 108 at0)) b) Q) :
    pmWp ro d 12 196 0 181 [some (.ref 87), some (xV lv), some (xV f), some (xV k), some (xV at0), some (xV x), some (xV t)] [] (xS a b) Q := by
  refine x_iload xc196_181 rfl ?_
  refine x_aloadn xc196_183 rfl ?_
  refine x_gfi' (k := 2) (v := n) xc196_184 rfl (Or.inl rfl) rfl xz87 hn ?_
  refine x_icge xc196_187 (xRk (by have g0 := ht; omega)) (xRk (by have g0 := hn0; omega)) (fun h0 => ?_) (fun h0 => ?_)
  · refine x_ret xc196_250 rfl ?_
    exact k1 h0
  · refine x_aloadn xc196_190 rfl ?_
    refine x_gfr xc196_191 rfl rfl xz87 rfl ?_
    refine x_iload xc196_194 rfl ?_
    refine x_iconst xc196_196 ?_
    refine x_iadd xc196_197 ?_
    refine x_iload xc196_198 rfl ?_
    refine x_iadd xc196_200 ?_
    refine x_aloadn xc196_201 rfl ?_
    refine x_gfr xc196_202 rfl rfl xz87 rfl ?_
    refine x_iload xc196_205 rfl ?_
    refine x_iconst xc196_207 ?_
    refine x_iadd xc196_208 ?_
    refine x_iload xc196_209 rfl ?_
    refine x_iadd xc196_211 ?_
    refine x_ial xc196_212 xz108 rfl (by have g0 := hat; have g1 := ht; omega) (by have g0 := hat; have g1 := ht; omega) (by have g0 := hat; have g1 := ht; omega) ?_
    refine x_bipush xc196_213 (by decide) ?_
    refine x_iload xc196_215 rfl ?_
    refine x_iadd xc196_217 ?_
    refine x_icne xc196_218 (xRk (by have g0 := hat; have g1 := ht; have g2 := xRb (hA 108 (at0 + 1 + t)); omega)) (xRk (by have g0 := hx; omega)) (fun h1 => ?_) (fun h1 => ?_)
    · refine x_aloadn xc196_231 rfl ?_
      refine x_gfr xc196_232 rfl rfl xz87 rfl ?_
      refine x_iload xc196_235 rfl ?_
      refine x_iconst xc196_237 ?_
      refine x_iadd xc196_238 ?_
      refine x_iload xc196_239 rfl ?_
      refine x_iadd xc196_241 ?_
      refine x_ial xc196_242 xz108 rfl (by have g0 := hat; have g1 := ht; omega) (by have g0 := hat; have g1 := ht; omega) (by have g0 := hat; have g1 := ht; omega) ?_
      refine x_ias xc196_243 xz108 (by have g0 := hat; have g1 := ht; omega) (by have g0 := hat; have g1 := ht; omega) (by have g0 := hat; have g1 := ht; omega) ?_
      refine x_iinc (pl' := [some (.ref 87), some (xV lv), some (xV f), some (xV k), some (xV at0), some (xV x), some (xV (t + 1))]) xc196_244 rfl rfl ?_
      refine x_goto xc196_247 ?_
      exact k2 h0 h1
    · replace h1 := Classical.not_not.mp h1
      refine x_aloadn xc196_221 rfl ?_
      refine x_gfr xc196_222 rfl rfl xz87 rfl ?_
      refine x_iload xc196_225 rfl ?_
      refine x_ial xc196_227 xz108 rfl (by have g0 := hat; omega) (by have g0 := hat; omega) (by have g0 := hat; omega) ?_
      refine x_goto xc196_228 ?_
      refine x_ias xc196_243 xz108 (by have g0 := hat; have g1 := ht; omega) (by have g0 := hat; have g1 := ht; omega) (by have g0 := hat; have g1 := ht; omega) ?_
      refine x_iinc (pl' := [some (.ref 87), some (xV lv), some (xV f), some (xV k), some (xV at0), some (xV x), some (xV (t + 1))]) xc196_244 rfl rfl ?_
      refine x_goto xc196_247 ?_
      exact k3 h0 h1

theorem w187 {ro : Nat → Nat × (Nat → Int32)} {d : Nat} {Q : Option Value → pmS → Prop} {lv f k : Int} {a : xA} {b : xB} (hlv : 0 ≤ lv ∧ lv ≤ 4) (hf : 1 ≤ f ∧ f ≤ 3) (hk : 0 ≤ k ∧ k ≤ 2)
    (k1 : pmWp ro d 12 187 2 17 [some (.ref 87), some (xV lv), some (xV f), some (xV k), some (xV (3 * f + k)), some (xV 0), some (xV (60 * (3 * f + k))), none] [] (xS a b) Q) :
    pmWp ro d 12 187 2 0 [some (.ref 87), some (xV lv), some (xV f), some (xV k), none, none, none, none] [] (xS a b) Q := by
  refine x_iconst xc187_0 ?_
  refine x_iloadn xc187_1 rfl ?_
  refine x_imul xc187_2 ?_
  refine x_iloadn xc187_3 rfl ?_
  refine x_iadd xc187_4 ?_
  refine x_istore (pl' := [some (.ref 87), some (xV lv), some (xV f), some (xV k), some (xV (3 * f + k)), none, none, none]) xc187_5 rfl rfl ?_
  refine x_iconst xc187_7 ?_
  refine x_istore (pl' := [some (.ref 87), some (xV lv), some (xV f), some (xV k), some (xV (3 * f + k)), some (xV 0), none, none]) xc187_8 rfl rfl ?_
  refine x_bipush xc187_10 (by decide) ?_
  refine x_iload xc187_12 rfl ?_
  refine x_imul xc187_14 ?_
  refine x_istore (pl' := [some (.ref 87), some (xV lv), some (xV f), some (xV k), some (xV (3 * f + k)), some (xV 0), some (xV (60 * (3 * f + k))), none]) xc187_15 rfl rfl ?_
  exact k1

theorem xg187 {ro : Nat → Nat × (Nat → Int32)} {d : Nat} {Q : Option Value → pmS → Prop} {a : xA} {b : xB} {lv f k : Int} (h : pmWp ro d 12 187 2 0 [some (.ref 87), some (xV lv), some (xV f), some (xV k), none, none, none, none] [] (xS a b) Q) : pmCs ro (d + 1) 187 [.ref 87, xV lv, xV f, xV k] (xS a b) Q := x_go xi187 rfl rfl rfl rfl rfl h
theorem w187x {ro : Nat → Nat × (Nat → Int32)} {d : Nat} {Q : Option Value → pmS → Prop} {v7 : Option Value} {lv f k w n len : Int} {a : xA} {b : xB} (hlv : 0 ≤ lv ∧ lv ≤ 4) (hf : 1 ≤ f ∧ f ≤ 3) (hk : 0 ≤ k ∧ k ≤ 2) (hw : 0 ≤ w ∧ w ≤ 11) (hlen : a 98 w = len) (hlen0 : 0 ≤ len ∧ len ≤ 40) (hn : 0 ≤ n ∧ n ≤ 59) (hv : 0 ≤ a 109 0 ∧ a 109 0 ≤ 1)
    (k1 : Q (some (xV (a 109 0))) (xS a b)) :
    pmWp ro d 12 187 2 17 [some (.ref 87), some (xV lv), some (xV f), some (xV k), some (xV w), some (xV n), some (xV (60 * w + len)), v7] [] (xS a b) Q := by
  refine x_iload xc187_17 rfl ?_
  refine x_bipush xc187_19 (by decide) ?_
  refine x_iload xc187_21 rfl ?_
  refine x_imul xc187_23 ?_
  refine x_aloadn xc187_24 rfl ?_
  refine x_gfr xc187_25 rfl rfl xz87 rfl ?_
  refine x_iload xc187_28 rfl ?_
  refine x_ial' (v := len) xc187_30 xz98 rfl (by have g0 := hw; omega) (by have g0 := hw; omega) (by have g0 := hw; omega) hlen ?_
  refine x_iadd xc187_31 ?_
  refine x_icge xc187_32 (xRk (by have g0 := hlen0; have g1 := hw; omega)) (xRk (by have g0 := hw; have g1 := hlen0; omega)) (fun _ => ?_) (fun h => absurd h (by omega))
  refine x_aloadn xc187_224 rfl ?_
  refine x_gfr xc187_225 rfl rfl xz87 rfl ?_
  refine x_iconst xc187_228 ?_
  refine x_bal xc187_229 xz109 (Or.inl rfl) (by omega) (by omega) (by omega) ?_
  refine x_iret xc187_230 (Or.inr ⟨rfl, (by have g0 := hv; omega)⟩) ?_
  exact k1

theorem w187t {ro : Nat → Nat × (Nat → Int32)} {d : Nat} {Q : Option Value → pmS → Prop} {v7 : Option Value} {lv f k w n len i cd : Int} {a : xA} {b : xB} (hlv : 0 ≤ lv ∧ lv ≤ 4) (hf : 1 ≤ f ∧ f ≤ 3) (hk : 0 ≤ k ∧ k ≤ 2) (hw : 0 ≤ w ∧ w ≤ 11) (hlen : a 98 w = len) (hlen0 : 0 ≤ len ∧ len ≤ 40) (hn : 0 ≤ n ∧ n ≤ 59) (hi : 0 ≤ i ∧ i < len) (hcd : a 99 (60 * w + i) = cd) (hcd0 : 0 ≤ cd ∧ cd ≤ 2047) (hc5 : 0 ≤ cd / 256 ∧ cd / 256 ≤ 4) (h109 : ∀ j, 0 ≤ j → j < 60 → 0 ≤ a 109 j ∧ a 109 j ≤ 1)
    (k1 : (60 * w + len ≤ 60 * w + i) → Q (some (xV (a 109 0))) (xS a b))
    (k2 : (¬ 60 * w + len ≤ 60 * w + i) → pmCs ro d 188 [.ref 87, xV (10 * lv), xV f, xV (cd / 256), xV ((cd / 16) % 16), xV (cd % 16)] (xS a b) fun r σ' => pmWp ro d 12 187 2 94 [some (.ref 87), some (xV lv), some (xV f), some (xV k), some (xV w), some (xV n), some (xV (60 * w + i)), some (xV (cd / 256))] (r.toList ++ [xV n, .ref 109]) σ' Q) :
    pmWp ro d 12 187 2 17 [some (.ref 87), some (xV lv), some (xV f), some (xV k), some (xV w), some (xV n), some (xV (60 * w + i)), v7] [] (xS a b) Q := by
  refine x_iload xc187_17 rfl ?_
  refine x_bipush xc187_19 (by decide) ?_
  refine x_iload xc187_21 rfl ?_
  refine x_imul xc187_23 ?_
  refine x_aloadn xc187_24 rfl ?_
  refine x_gfr xc187_25 rfl rfl xz87 rfl ?_
  refine x_iload xc187_28 rfl ?_
  refine x_ial' (v := len) xc187_30 xz98 rfl (by have g0 := hw; omega) (by have g0 := hw; omega) (by have g0 := hw; omega) hlen ?_
  refine x_iadd xc187_31 ?_
  refine x_icge xc187_32 (xRk (by have g0 := hi; have g1 := hw; omega)) (xRk (by have g0 := hw; have g1 := hlen0; omega)) (fun h0 => ?_) (fun h0 => ?_)
  · refine x_aloadn xc187_224 rfl ?_
    refine x_gfr xc187_225 rfl rfl xz87 rfl ?_
    refine x_iconst xc187_228 ?_
    refine x_bal xc187_229 xz109 (Or.inl rfl) (by omega) (by omega) (by omega) ?_
    refine x_iret xc187_230 (Or.inr ⟨rfl, (by have g0 := h109 0 (by omega) (by omega); omega)⟩) ?_
    exact k1 h0
  · refine x_aloadn xc187_35 rfl ?_
    refine x_gfr xc187_36 rfl rfl xz87 rfl ?_
    refine x_iload xc187_39 rfl ?_
    refine x_ial' (v := cd) xc187_41 xz99 rfl (by have g0 := hi; have g1 := hw; omega) (by have g0 := hi; have g1 := hw; omega) (by have g0 := hi; have g1 := hw; omega) hcd ?_
    refine x_sipush xc187_42 (by decide) ?_
    refine x_idiv (by have g0 := hcd0; omega) (xRk (by have g0 := hcd0; omega)) (by omega) (xRk (by decide)) xc187_45 ?_
    refine x_istore (pl' := [some (.ref 87), some (xV lv), some (xV f), some (xV k), some (xV w), some (xV n), some (xV (60 * w + i)), some (xV (cd / 256))]) xc187_46 rfl rfl ?_
    refine x_iload xc187_48 rfl ?_
    refine x_iconst xc187_50 ?_
    refine x_icge xc187_51 (xRk (by have g0 := hcd0; omega)) (xRk (by decide)) (fun h => absurd h (by omega)) (fun _ => ?_)
    refine x_aloadn xc187_54 rfl ?_
    refine x_gfr xc187_55 rfl rfl xz87 rfl ?_
    refine x_iload xc187_58 rfl ?_
    refine x_aloadn xc187_60 rfl ?_
    refine x_bipush xc187_61 (by decide) ?_
    refine x_iloadn xc187_63 rfl ?_
    refine x_imul xc187_64 ?_
    refine x_iloadn xc187_65 rfl ?_
    refine x_iload xc187_66 rfl ?_
    refine x_aloadn xc187_68 rfl ?_
    refine x_gfr xc187_69 rfl rfl xz87 rfl ?_
    refine x_iload xc187_72 rfl ?_
    refine x_ial' (v := cd) xc187_74 xz99 rfl (by have g0 := hi; have g1 := hw; omega) (by have g0 := hi; have g1 := hw; omega) (by have g0 := hi; have g1 := hw; omega) hcd ?_
    refine x_bipush xc187_75 (by decide) ?_
    refine x_idiv (by have g0 := hcd0; omega) (xRk (by have g0 := hcd0; omega)) (by omega) (xRk (by decide)) xc187_77 ?_
    refine x_bipush xc187_78 (by decide) ?_
    refine x_irem (by have g0 := hcd0; omega) (xRk (by have g0 := hcd0; omega)) (by omega) (xRk (by decide)) xc187_80 ?_
    refine x_aloadn xc187_81 rfl ?_
    refine x_gfr xc187_82 rfl rfl xz87 rfl ?_
    refine x_iload xc187_85 rfl ?_
    refine x_ial' (v := cd) xc187_87 xz99 rfl (by have g0 := hi; have g1 := hw; omega) (by have g0 := hi; have g1 := hw; omega) (by have g0 := hi; have g1 := hw; omega) hcd ?_
    refine x_bipush xc187_88 (by decide) ?_
    refine x_irem (by have g0 := hcd0; omega) (xRk (by have g0 := hcd0; omega)) (by omega) (xRk (by decide)) xc187_90 ?_
    refine x_cV (as := [xV (10 * lv), xV f, xV (cd / 256), xV ((cd / 16) % 16), xV (cd % 16)]) (rest := [xV n, .ref 109]) xc187_91 rfl xi188 xz87 ⟨rfl, rfl⟩ rfl rfl ?_
    exact k2 h0

theorem w187n {ro : Nat → Nat × (Nat → Int32)} {d : Nat} {Q : Option Value → pmS → Prop} {v7 : Option Value} {lv f k w n len i cd : Int} {a : xA} {b : xB} (hlv : 0 ≤ lv ∧ lv ≤ 4) (hf : 1 ≤ f ∧ f ≤ 3) (hk : 0 ≤ k ∧ k ≤ 2) (hw : 0 ≤ w ∧ w ≤ 11) (hlen : a 98 w = len) (hlen0 : 0 ≤ len ∧ len ≤ 40) (hn : 0 ≤ n ∧ n ≤ 59) (hi : 0 ≤ i ∧ i < len) (hcd : a 99 (60 * w + i) = cd) (hcd0 : 0 ≤ cd ∧ cd ≤ 2047) (hc5 : cd / 256 = 7) (hn1 : 1 ≤ n) (h109 : ∀ j, 0 ≤ j → j < 60 → 0 ≤ a 109 j ∧ a 109 j ≤ 1)
    (k1 : (60 * w + len ≤ 60 * w + i) → Q (some (xV (a 109 0))) (xS a b))
    (k2 : (¬ 60 * w + len ≤ 60 * w + i) → (¬ a 109 (n - 1) = 0) → pmWp ro d 12 187 2 17 [some (.ref 87), some (xV lv), some (xV f), some (xV k), some (xV w), some (xV n), some (xV (60 * w + i + 1)), some (xV (cd / 256))] [] (xS (xU a 109 (n - 1) 0) b) Q)
    (k3 : (¬ 60 * w + len ≤ 60 * w + i) → (a 109 (n - 1) = 0) → pmWp ro d 12 187 2 17 [some (.ref 87), some (xV lv), some (xV f), some (xV k), some (xV w), some (xV n), some (xV (60 * w + i + 1)), some (xV (cd / 256))] [] (xS (xU a 109 (n - 1) 1) b) Q) :
    pmWp ro d 12 187 2 17 [some (.ref 87), some (xV lv), some (xV f), some (xV k), some (xV w), some (xV n), some (xV (60 * w + i)), v7] [] (xS a b) Q := by
  refine x_iload xc187_17 rfl ?_
  refine x_bipush xc187_19 (by decide) ?_
  refine x_iload xc187_21 rfl ?_
  refine x_imul xc187_23 ?_
  refine x_aloadn xc187_24 rfl ?_
  refine x_gfr xc187_25 rfl rfl xz87 rfl ?_
  refine x_iload xc187_28 rfl ?_
  refine x_ial' (v := len) xc187_30 xz98 rfl (by have g0 := hw; omega) (by have g0 := hw; omega) (by have g0 := hw; omega) hlen ?_
  refine x_iadd xc187_31 ?_
  refine x_icge xc187_32 (xRk (by have g0 := hi; have g1 := hw; omega)) (xRk (by have g0 := hw; have g1 := hlen0; omega)) (fun h0 => ?_) (fun h0 => ?_)
  · refine x_aloadn xc187_224 rfl ?_
    refine x_gfr xc187_225 rfl rfl xz87 rfl ?_
    refine x_iconst xc187_228 ?_
    refine x_bal xc187_229 xz109 (Or.inl rfl) (by omega) (by omega) (by omega) ?_
    refine x_iret xc187_230 (Or.inr ⟨rfl, (by have g0 := h109 0 (by omega) (by omega); omega)⟩) ?_
    exact k1 h0
  · refine x_aloadn xc187_35 rfl ?_
    refine x_gfr xc187_36 rfl rfl xz87 rfl ?_
    refine x_iload xc187_39 rfl ?_
    refine x_ial' (v := cd) xc187_41 xz99 rfl (by have g0 := hi; have g1 := hw; omega) (by have g0 := hi; have g1 := hw; omega) (by have g0 := hi; have g1 := hw; omega) hcd ?_
    refine x_sipush xc187_42 (by decide) ?_
    refine x_idiv (by have g0 := hcd0; omega) (xRk (by have g0 := hcd0; omega)) (by omega) (xRk (by decide)) xc187_45 ?_
    refine x_istore (pl' := [some (.ref 87), some (xV lv), some (xV f), some (xV k), some (xV w), some (xV n), some (xV (60 * w + i)), some (xV (cd / 256))]) xc187_46 rfl rfl ?_
    refine x_iload xc187_48 rfl ?_
    refine x_iconst xc187_50 ?_
    refine x_icge xc187_51 (xRk (by have g0 := hcd0; omega)) (xRk (by decide)) (fun _ => ?_) (fun h => absurd h (by omega))
    refine x_iload xc187_104 rfl ?_
    refine x_bipush xc187_106 (by decide) ?_
    refine x_icne xc187_108 (xRk (by have g0 := hcd0; omega)) (xRk (by decide)) (fun h => absurd h (by omega)) (fun _ => ?_)
    refine x_aloadn xc187_111 rfl ?_
    refine x_gfr xc187_112 rfl rfl xz87 rfl ?_
    refine x_iload xc187_115 rfl ?_
    refine x_iconst xc187_117 ?_
    refine x_isub xc187_118 ?_
    refine x_aloadn xc187_119 rfl ?_
    refine x_gfr xc187_120 rfl rfl xz87 rfl ?_
    refine x_iload xc187_123 rfl ?_
    refine x_iconst xc187_125 ?_
    refine x_isub xc187_126 ?_
    refine x_bal xc187_127 xz109 (Or.inl rfl) (by have g0 := hn; omega) (by have g0 := hn; omega) (by have g0 := hn; omega) ?_
    refine x_ifne xc187_128 (xRk (by have g0 := hn; have g1 := h109 (n - 1) (by omega) (by omega); omega)) (fun h3 => ?_) (fun h3 => ?_)
    · refine x_iconst xc187_135 ?_
      refine x_zas (by omega) xc187_136 xz109 (by have g0 := hn; omega) (by have g0 := hn; omega) (by have g0 := hn; omega) ?_
      refine x_goto xc187_137 ?_
      refine x_iinc (pl' := [some (.ref 87), some (xV lv), some (xV f), some (xV k), some (xV w), some (xV n), some (xV (60 * w + i + 1)), some (xV (cd / 256))]) xc187_218 rfl rfl ?_
      refine x_goto xc187_221 ?_
      exact k2 h0 h3
    · replace h3 := Classical.not_not.mp h3
      refine x_iconst xc187_131 ?_
      refine x_goto xc187_132 ?_
      refine x_zas (by omega) xc187_136 xz109 (by have g0 := hn; omega) (by have g0 := hn; omega) (by have g0 := hn; omega) ?_
      refine x_goto xc187_137 ?_
      refine x_iinc (pl' := [some (.ref 87), some (xV lv), some (xV f), some (xV k), some (xV w), some (xV n), some (xV (60 * w + i + 1)), some (xV (cd / 256))]) xc187_218 rfl rfl ?_
      refine x_goto xc187_221 ?_
      exact k3 h0 h3

theorem w187a {ro : Nat → Nat × (Nat → Int32)} {d : Nat} {Q : Option Value → pmS → Prop} {v7 : Option Value} {lv f k w n len i cd : Int} {a : xA} {b : xB} (hlv : 0 ≤ lv ∧ lv ≤ 4) (hf : 1 ≤ f ∧ f ≤ 3) (hk : 0 ≤ k ∧ k ≤ 2) (hw : 0 ≤ w ∧ w ≤ 11) (hlen : a 98 w = len) (hlen0 : 0 ≤ len ∧ len ≤ 40) (hn : 0 ≤ n ∧ n ≤ 59) (hi : 0 ≤ i ∧ i < len) (hcd : a 99 (60 * w + i) = cd) (hcd0 : 0 ≤ cd ∧ cd ≤ 2047) (hc5 : cd / 256 = 5) (hn1 : 2 ≤ n) (h109 : ∀ j, 0 ≤ j → j < 60 → 0 ≤ a 109 j ∧ a 109 j ≤ 1)
    (k1 : (60 * w + len ≤ 60 * w + i) → Q (some (xV (a 109 0))) (xS a b))
    (k2 : (¬ 60 * w + len ≤ 60 * w + i) → (a 109 (n - 1 - 1) = 0) → pmWp ro d 12 187 2 17 [some (.ref 87), some (xV lv), some (xV f), some (xV k), some (xV w), some (xV (n - 1)), some (xV (60 * w + i + 1)), some (xV (cd / 256))] [] (xS (xU a 109 (n - 1 - 1) 0) b) Q)
    (k3 : (¬ 60 * w + len ≤ 60 * w + i) → (¬ a 109 (n - 1 - 1) = 0) → (a 109 (n - 1) = 0) → pmWp ro d 12 187 2 17 [some (.ref 87), some (xV lv), some (xV f), some (xV k), some (xV w), some (xV (n - 1)), some (xV (60 * w + i + 1)), some (xV (cd / 256))] [] (xS (xU a 109 (n - 1 - 1) 0) b) Q)
    (k4 : (¬ 60 * w + len ≤ 60 * w + i) → (¬ a 109 (n - 1 - 1) = 0) → (¬ a 109 (n - 1) = 0) → pmWp ro d 12 187 2 17 [some (.ref 87), some (xV lv), some (xV f), some (xV k), some (xV w), some (xV (n - 1)), some (xV (60 * w + i + 1)), some (xV (cd / 256))] [] (xS (xU a 109 (n - 1 - 1) 1) b) Q) :
    pmWp ro d 12 187 2 17 [some (.ref 87), some (xV lv), some (xV f), some (xV k), some (xV w), some (xV n), some (xV (60 * w + i)), v7] [] (xS a b) Q := by
  refine x_iload xc187_17 rfl ?_
  refine x_bipush xc187_19 (by decide) ?_
  refine x_iload xc187_21 rfl ?_
  refine x_imul xc187_23 ?_
  refine x_aloadn xc187_24 rfl ?_
  refine x_gfr xc187_25 rfl rfl xz87 rfl ?_
  refine x_iload xc187_28 rfl ?_
  refine x_ial' (v := len) xc187_30 xz98 rfl (by have g0 := hw; omega) (by have g0 := hw; omega) (by have g0 := hw; omega) hlen ?_
  refine x_iadd xc187_31 ?_
  refine x_icge xc187_32 (xRk (by have g0 := hi; have g1 := hw; omega)) (xRk (by have g0 := hw; have g1 := hlen0; omega)) (fun h0 => ?_) (fun h0 => ?_)
  · refine x_aloadn xc187_224 rfl ?_
    refine x_gfr xc187_225 rfl rfl xz87 rfl ?_
    refine x_iconst xc187_228 ?_
    refine x_bal xc187_229 xz109 (Or.inl rfl) (by omega) (by omega) (by omega) ?_
    refine x_iret xc187_230 (Or.inr ⟨rfl, (by have g0 := h109 0 (by omega) (by omega); omega)⟩) ?_
    exact k1 h0
  · refine x_aloadn xc187_35 rfl ?_
    refine x_gfr xc187_36 rfl rfl xz87 rfl ?_
    refine x_iload xc187_39 rfl ?_
    refine x_ial' (v := cd) xc187_41 xz99 rfl (by have g0 := hi; have g1 := hw; omega) (by have g0 := hi; have g1 := hw; omega) (by have g0 := hi; have g1 := hw; omega) hcd ?_
    refine x_sipush xc187_42 (by decide) ?_
    refine x_idiv (by have g0 := hcd0; omega) (xRk (by have g0 := hcd0; omega)) (by omega) (xRk (by decide)) xc187_45 ?_
    refine x_istore (pl' := [some (.ref 87), some (xV lv), some (xV f), some (xV k), some (xV w), some (xV n), some (xV (60 * w + i)), some (xV (cd / 256))]) xc187_46 rfl rfl ?_
    refine x_iload xc187_48 rfl ?_
    refine x_iconst xc187_50 ?_
    refine x_icge xc187_51 (xRk (by have g0 := hcd0; omega)) (xRk (by decide)) (fun _ => ?_) (fun h => absurd h (by omega))
    refine x_iload xc187_104 rfl ?_
    refine x_bipush xc187_106 (by decide) ?_
    refine x_icne xc187_108 (xRk (by have g0 := hcd0; omega)) (xRk (by decide)) (fun _ => ?_) (fun h => absurd h (by omega))
    refine x_iload xc187_140 rfl ?_
    refine x_iconst xc187_142 ?_
    refine x_isub xc187_143 ?_
    refine x_istore (pl' := [some (.ref 87), some (xV lv), some (xV f), some (xV k), some (xV w), some (xV (n - 1)), some (xV (60 * w + i)), some (xV (cd / 256))]) xc187_144 rfl rfl ?_
    refine x_aloadn xc187_146 rfl ?_
    refine x_gfr xc187_147 rfl rfl xz87 rfl ?_
    refine x_iload xc187_150 rfl ?_
    refine x_iconst xc187_152 ?_
    refine x_isub xc187_153 ?_
    refine x_iload xc187_154 rfl ?_
    refine x_iconst xc187_156 ?_
    refine x_icne xc187_157 (xRk (by have g0 := hcd0; omega)) (xRk (by decide)) (fun h => absurd h (by omega)) (fun _ => ?_)
    refine x_aloadn xc187_160 rfl ?_
    refine x_gfr xc187_161 rfl rfl xz87 rfl ?_
    refine x_iload xc187_164 rfl ?_
    refine x_iconst xc187_166 ?_
    refine x_isub xc187_167 ?_
    refine x_bal xc187_168 xz109 (Or.inl rfl) (by have g0 := hn; omega) (by have g0 := hn; omega) (by have g0 := hn; omega) ?_
    refine x_ifeq xc187_169 (xRk (by have g0 := hn; have g1 := h109 (n - 1 - 1) (by omega) (by omega); omega)) (fun h4 => ?_) (fun h4 => ?_)
    · refine x_iconst xc187_186 ?_
      refine x_goto xc187_187 ?_
      refine x_zas (by omega) xc187_217 xz109 (by have g0 := hn; omega) (by have g0 := hn; omega) (by have g0 := hn; omega) ?_
      refine x_iinc (pl' := [some (.ref 87), some (xV lv), some (xV f), some (xV k), some (xV w), some (xV (n - 1)), some (xV (60 * w + i + 1)), some (xV (cd / 256))]) xc187_218 rfl rfl ?_
      refine x_goto xc187_221 ?_
      exact k2 h0 h4
    · refine x_aloadn xc187_172 rfl ?_
      refine x_gfr xc187_173 rfl rfl xz87 rfl ?_
      refine x_iload xc187_176 rfl ?_
      refine x_bal xc187_178 xz109 (Or.inl rfl) (by have g0 := hn; omega) (by have g0 := hn; omega) (by have g0 := hn; omega) ?_
      refine x_ifeq xc187_179 (xRk (by have g0 := hn; have g1 := h109 (n - 1) (by omega) (by omega); omega)) (fun h5 => ?_) (fun h5 => ?_)
      · refine x_iconst xc187_186 ?_
        refine x_goto xc187_187 ?_
        refine x_zas (by omega) xc187_217 xz109 (by have g0 := hn; omega) (by have g0 := hn; omega) (by have g0 := hn; omega) ?_
        refine x_iinc (pl' := [some (.ref 87), some (xV lv), some (xV f), some (xV k), some (xV w), some (xV (n - 1)), some (xV (60 * w + i + 1)), some (xV (cd / 256))]) xc187_218 rfl rfl ?_
        refine x_goto xc187_221 ?_
        exact k3 h0 h4 h5
      · refine x_iconst xc187_182 ?_
        refine x_goto xc187_183 ?_
        refine x_zas (by omega) xc187_217 xz109 (by have g0 := hn; omega) (by have g0 := hn; omega) (by have g0 := hn; omega) ?_
        refine x_iinc (pl' := [some (.ref 87), some (xV lv), some (xV f), some (xV k), some (xV w), some (xV (n - 1)), some (xV (60 * w + i + 1)), some (xV (cd / 256))]) xc187_218 rfl rfl ?_
        refine x_goto xc187_221 ?_
        exact k4 h0 h4 h5

theorem w187o {ro : Nat → Nat × (Nat → Int32)} {d : Nat} {Q : Option Value → pmS → Prop} {v7 : Option Value} {lv f k w n len i cd : Int} {a : xA} {b : xB} (hlv : 0 ≤ lv ∧ lv ≤ 4) (hf : 1 ≤ f ∧ f ≤ 3) (hk : 0 ≤ k ∧ k ≤ 2) (hw : 0 ≤ w ∧ w ≤ 11) (hlen : a 98 w = len) (hlen0 : 0 ≤ len ∧ len ≤ 40) (hn : 0 ≤ n ∧ n ≤ 59) (hi : 0 ≤ i ∧ i < len) (hcd : a 99 (60 * w + i) = cd) (hcd0 : 0 ≤ cd ∧ cd ≤ 2047) (hc5 : cd / 256 = 6) (hn1 : 2 ≤ n) (h109 : ∀ j, 0 ≤ j → j < 60 → 0 ≤ a 109 j ∧ a 109 j ≤ 1)
    (k1 : (60 * w + len ≤ 60 * w + i) → Q (some (xV (a 109 0))) (xS a b))
    (k2 : (¬ 60 * w + len ≤ 60 * w + i) → (¬ a 109 (n - 1 - 1) = 0) → pmWp ro d 12 187 2 17 [some (.ref 87), some (xV lv), some (xV f), some (xV k), some (xV w), some (xV (n - 1)), some (xV (60 * w + i + 1)), some (xV (cd / 256))] [] (xS (xU a 109 (n - 1 - 1) 1) b) Q)
    (k3 : (¬ 60 * w + len ≤ 60 * w + i) → (a 109 (n - 1 - 1) = 0) → (a 109 (n - 1) = 0) → pmWp ro d 12 187 2 17 [some (.ref 87), some (xV lv), some (xV f), some (xV k), some (xV w), some (xV (n - 1)), some (xV (60 * w + i + 1)), some (xV (cd / 256))] [] (xS (xU a 109 (n - 1 - 1) 0) b) Q)
    (k4 : (¬ 60 * w + len ≤ 60 * w + i) → (a 109 (n - 1 - 1) = 0) → (¬ a 109 (n - 1) = 0) → pmWp ro d 12 187 2 17 [some (.ref 87), some (xV lv), some (xV f), some (xV k), some (xV w), some (xV (n - 1)), some (xV (60 * w + i + 1)), some (xV (cd / 256))] [] (xS (xU a 109 (n - 1 - 1) 1) b) Q) :
    pmWp ro d 12 187 2 17 [some (.ref 87), some (xV lv), some (xV f), some (xV k), some (xV w), some (xV n), some (xV (60 * w + i)), v7] [] (xS a b) Q := by
  refine x_iload xc187_17 rfl ?_
  refine x_bipush xc187_19 (by decide) ?_
  refine x_iload xc187_21 rfl ?_
  refine x_imul xc187_23 ?_
  refine x_aloadn xc187_24 rfl ?_
  refine x_gfr xc187_25 rfl rfl xz87 rfl ?_
  refine x_iload xc187_28 rfl ?_
  refine x_ial' (v := len) xc187_30 xz98 rfl (by have g0 := hw; omega) (by have g0 := hw; omega) (by have g0 := hw; omega) hlen ?_
  refine x_iadd xc187_31 ?_
  refine x_icge xc187_32 (xRk (by have g0 := hi; have g1 := hw; omega)) (xRk (by have g0 := hw; have g1 := hlen0; omega)) (fun h0 => ?_) (fun h0 => ?_)
  · refine x_aloadn xc187_224 rfl ?_
    refine x_gfr xc187_225 rfl rfl xz87 rfl ?_
    refine x_iconst xc187_228 ?_
    refine x_bal xc187_229 xz109 (Or.inl rfl) (by omega) (by omega) (by omega) ?_
    refine x_iret xc187_230 (Or.inr ⟨rfl, (by have g0 := h109 0 (by omega) (by omega); omega)⟩) ?_
    exact k1 h0
  · refine x_aloadn xc187_35 rfl ?_
    refine x_gfr xc187_36 rfl rfl xz87 rfl ?_
    refine x_iload xc187_39 rfl ?_
    refine x_ial' (v := cd) xc187_41 xz99 rfl (by have g0 := hi; have g1 := hw; omega) (by have g0 := hi; have g1 := hw; omega) (by have g0 := hi; have g1 := hw; omega) hcd ?_
    refine x_sipush xc187_42 (by decide) ?_
    refine x_idiv (by have g0 := hcd0; omega) (xRk (by have g0 := hcd0; omega)) (by omega) (xRk (by decide)) xc187_45 ?_
    refine x_istore (pl' := [some (.ref 87), some (xV lv), some (xV f), some (xV k), some (xV w), some (xV n), some (xV (60 * w + i)), some (xV (cd / 256))]) xc187_46 rfl rfl ?_
    refine x_iload xc187_48 rfl ?_
    refine x_iconst xc187_50 ?_
    refine x_icge xc187_51 (xRk (by have g0 := hcd0; omega)) (xRk (by decide)) (fun _ => ?_) (fun h => absurd h (by omega))
    refine x_iload xc187_104 rfl ?_
    refine x_bipush xc187_106 (by decide) ?_
    refine x_icne xc187_108 (xRk (by have g0 := hcd0; omega)) (xRk (by decide)) (fun _ => ?_) (fun h => absurd h (by omega))
    refine x_iload xc187_140 rfl ?_
    refine x_iconst xc187_142 ?_
    refine x_isub xc187_143 ?_
    refine x_istore (pl' := [some (.ref 87), some (xV lv), some (xV f), some (xV k), some (xV w), some (xV (n - 1)), some (xV (60 * w + i)), some (xV (cd / 256))]) xc187_144 rfl rfl ?_
    refine x_aloadn xc187_146 rfl ?_
    refine x_gfr xc187_147 rfl rfl xz87 rfl ?_
    refine x_iload xc187_150 rfl ?_
    refine x_iconst xc187_152 ?_
    refine x_isub xc187_153 ?_
    refine x_iload xc187_154 rfl ?_
    refine x_iconst xc187_156 ?_
    refine x_icne xc187_157 (xRk (by have g0 := hcd0; omega)) (xRk (by decide)) (fun _ => ?_) (fun h => absurd h (by omega))
    refine x_aloadn xc187_190 rfl ?_
    refine x_gfr xc187_191 rfl rfl xz87 rfl ?_
    refine x_iload xc187_194 rfl ?_
    refine x_iconst xc187_196 ?_
    refine x_isub xc187_197 ?_
    refine x_bal xc187_198 xz109 (Or.inl rfl) (by have g0 := hn; omega) (by have g0 := hn; omega) (by have g0 := hn; omega) ?_
    refine x_ifne xc187_199 (xRk (by have g0 := hn; have g1 := h109 (n - 1 - 1) (by omega) (by omega); omega)) (fun h4 => ?_) (fun h4 => ?_)
    · refine x_iconst xc187_212 ?_
      refine x_goto xc187_213 ?_
      refine x_zas (by omega) xc187_217 xz109 (by have g0 := hn; omega) (by have g0 := hn; omega) (by have g0 := hn; omega) ?_
      refine x_iinc (pl' := [some (.ref 87), some (xV lv), some (xV f), some (xV k), some (xV w), some (xV (n - 1)), some (xV (60 * w + i + 1)), some (xV (cd / 256))]) xc187_218 rfl rfl ?_
      refine x_goto xc187_221 ?_
      exact k2 h0 h4
    · replace h4 := Classical.not_not.mp h4
      refine x_aloadn xc187_202 rfl ?_
      refine x_gfr xc187_203 rfl rfl xz87 rfl ?_
      refine x_iload xc187_206 rfl ?_
      refine x_bal xc187_208 xz109 (Or.inl rfl) (by have g0 := hn; omega) (by have g0 := hn; omega) (by have g0 := hn; omega) ?_
      refine x_ifeq xc187_209 (xRk (by have g0 := hn; have g1 := h109 (n - 1) (by omega) (by omega); omega)) (fun h5 => ?_) (fun h5 => ?_)
      · refine x_iconst xc187_216 ?_
        refine x_zas (by omega) xc187_217 xz109 (by have g0 := hn; omega) (by have g0 := hn; omega) (by have g0 := hn; omega) ?_
        refine x_iinc (pl' := [some (.ref 87), some (xV lv), some (xV f), some (xV k), some (xV w), some (xV (n - 1)), some (xV (60 * w + i + 1)), some (xV (cd / 256))]) xc187_218 rfl rfl ?_
        refine x_goto xc187_221 ?_
        exact k3 h0 h4 h5
      · refine x_iconst xc187_212 ?_
        refine x_goto xc187_213 ?_
        refine x_zas (by omega) xc187_217 xz109 (by have g0 := hn; omega) (by have g0 := hn; omega) (by have g0 := hn; omega) ?_
        refine x_iinc (pl' := [some (.ref 87), some (xV lv), some (xV f), some (xV k), some (xV w), some (xV (n - 1)), some (xV (60 * w + i + 1)), some (xV (cd / 256))]) xc187_218 rfl rfl ?_
        refine x_goto xc187_221 ?_
        exact k4 h0 h4 h5

theorem w187b {ro : Nat → Nat × (Nat → Int32)} {d : Nat} {Q : Option Value → pmS → Prop} {lv f k w n i v7 z : Int} {a : xA} {b : xB} (hn : 0 ≤ n ∧ n ≤ 59) (hz : z = 0 ∨ z = 1)
    (k1 : pmWp ro d 12 187 2 17 [some (.ref 87), some (xV lv), some (xV f), some (xV k), some (xV w), some (xV (n + 1)), some (xV (60 * w + i + 1)), some (xV v7)] [] (xS (xU a 109 n z) b) Q) :
    pmWp ro d 12 187 2 94 [some (.ref 87), some (xV lv), some (xV f), some (xV k), some (xV w), some (xV n), some (xV (60 * w + i)), some (xV v7)] [xV z, xV n, .ref 109] (xS a b) Q := by
  refine x_zas (by have g0 := hz; omega) xc187_94 xz109 (by have g0 := hn; omega) (by have g0 := hn; omega) (by have g0 := hn; omega) ?_
  refine x_iload xc187_95 rfl ?_
  refine x_iconst xc187_97 ?_
  refine x_iadd xc187_98 ?_
  refine x_istore (pl' := [some (.ref 87), some (xV lv), some (xV f), some (xV k), some (xV w), some (xV (n + 1)), some (xV (60 * w + i)), some (xV v7)]) xc187_99 rfl rfl ?_
  refine x_goto xc187_101 ?_
  refine x_iinc (pl' := [some (.ref 87), some (xV lv), some (xV f), some (xV k), some (xV w), some (xV (n + 1)), some (xV (60 * w + i + 1)), some (xV v7)]) xc187_218 rfl rfl ?_
  refine x_goto xc187_221 ?_
  exact k1

end
