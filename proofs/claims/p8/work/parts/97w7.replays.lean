/-! exact: replays -/
section
set_option maxRecDepth 100000
theorem xi118 : pmInf[118]? = some pmI_118 := rfl
theorem xi233 : pmInf[233]? = some pmI_233 := rfl
theorem xi234 : pmInf[234]? = some pmI_234 := rfl
theorem xi235 : pmInf[235]? = some pmI_235 := rfl
theorem xc117_0 : pmCode 117 0 = some (.iconst 0) ∧ 0 + 1 = 1 := ⟨rfl, rfl⟩
theorem xc117_1 : pmCode 117 1 = some (.istore 5) ∧ 1 + 2 = 3 := ⟨rfl, rfl⟩
theorem xc117_3 : pmCode 117 3 = some (.aload_n 1) ∧ 3 + 1 = 4 := ⟨rfl, rfl⟩
theorem xc117_4 : pmCode 117 4 = some (.aload_n 0) ∧ 4 + 1 = 5 := ⟨rfl, rfl⟩
theorem xc117_5 : pmCode 117 5 = some (.getfield 12) ∧ 5 + 3 = 8 := ⟨rfl, rfl⟩
theorem xc117_8 : pmCode 117 8 = some (.invokevirtual 37) ∧ 8 + 3 = 11 := ⟨rfl, rfl⟩
theorem xc117_11 : pmCode 117 11 = some (.iconst 1) ∧ 11 + 1 = 12 := ⟨rfl, rfl⟩
theorem xc117_12 : pmCode 117 12 = some (.istore 6) ∧ 12 + 2 = 14 := ⟨rfl, rfl⟩
theorem xc117_14 : pmCode 117 14 = some (.iload 6) ∧ 14 + 2 = 16 := ⟨rfl, rfl⟩
theorem xc117_16 : pmCode 117 16 = some (.aload_n 0) ∧ 16 + 1 = 17 := ⟨rfl, rfl⟩
theorem xc117_17 : pmCode 117 17 = some (.getfield 41) ∧ 17 + 3 = 20 := ⟨rfl, rfl⟩
theorem xc117_20 : pmCode 117 20 = some (.if_icmp .gt 193) ∧ ((20 : Nat) : Int) + 193 = ((213 : Nat) : Int) ∧ 20 + 3 = 23 := ⟨rfl, rfl, rfl⟩
theorem xc117_23 : pmCode 117 23 = some (.aload_n 0) ∧ 23 + 1 = 24 := ⟨rfl, rfl⟩
theorem xc117_24 : pmCode 117 24 = some (.iload 6) ∧ 24 + 2 = 26 := ⟨rfl, rfl⟩
theorem xc117_26 : pmCode 117 26 = some (.iconst 0) ∧ 26 + 1 = 27 := ⟨rfl, rfl⟩
theorem xc117_27 : pmCode 117 27 = some (.invokevirtual 58) ∧ 27 + 3 = 30 := ⟨rfl, rfl⟩
theorem xc117_30 : pmCode 117 30 = some (.istore 7) ∧ 30 + 2 = 32 := ⟨rfl, rfl⟩
theorem xc117_32 : pmCode 117 32 = some (.iload 7) ∧ 32 + 2 = 34 := ⟨rfl, rfl⟩
theorem xc117_34 : pmCode 117 34 = some (.iconst (-1)) ∧ 34 + 1 = 35 := ⟨rfl, rfl⟩
theorem xc117_35 : pmCode 117 35 = some (.if_icmp .eq 9) ∧ ((35 : Nat) : Int) + 9 = ((44 : Nat) : Int) ∧ 35 + 3 = 38 := ⟨rfl, rfl, rfl⟩
theorem xc117_38 : pmCode 117 38 = some (.iload 6) ∧ 38 + 2 = 40 := ⟨rfl, rfl⟩
theorem xc117_40 : pmCode 117 40 = some (.iload_n 2) ∧ 40 + 1 = 41 := ⟨rfl, rfl⟩
theorem xc117_41 : pmCode 117 41 = some (.if_icmp .ne 7) ∧ ((41 : Nat) : Int) + 7 = ((48 : Nat) : Int) ∧ 41 + 3 = 44 := ⟨rfl, rfl, rfl⟩
theorem xc117_44 : pmCode 117 44 = some (.iconst 0) ∧ 44 + 1 = 45 := ⟨rfl, rfl⟩
theorem xc117_45 : pmCode 117 45 = some (.goto 9) ∧ ((45 : Nat) : Int) + 9 = ((54 : Nat) : Int) := ⟨rfl, rfl⟩
theorem xc117_48 : pmCode 117 48 = some (.iload 7) ∧ 48 + 2 = 50 := ⟨rfl, rfl⟩
theorem xc117_50 : pmCode 117 50 = some (.sipush 511) ∧ 50 + 3 = 53 := ⟨rfl, rfl⟩
theorem xc117_53 : pmCode 117 53 = some .iand ∧ 53 + 1 = 54 := ⟨rfl, rfl⟩
theorem xc117_54 : pmCode 117 54 = some (.istore 8) ∧ 54 + 2 = 56 := ⟨rfl, rfl⟩
theorem xc117_56 : pmCode 117 56 = some (.aload_n 0) ∧ 56 + 1 = 57 := ⟨rfl, rfl⟩
theorem xc117_57 : pmCode 117 57 = some (.getfield 29) ∧ 57 + 3 = 60 := ⟨rfl, rfl⟩
theorem xc117_60 : pmCode 117 60 = some (.aload_n 1) ∧ 60 + 1 = 61 := ⟨rfl, rfl⟩
theorem xc117_61 : pmCode 117 61 = some (.aload_n 0) ∧ 61 + 1 = 62 := ⟨rfl, rfl⟩
theorem xc117_62 : pmCode 117 62 = some (.getfield 25) ∧ 62 + 3 = 65 := ⟨rfl, rfl⟩
theorem xc117_65 : pmCode 117 65 = some (.aload_n 1) ∧ 65 + 1 = 66 := ⟨rfl, rfl⟩
theorem xc117_66 : pmCode 117 66 = some (.getfield 62) ∧ 66 + 3 = 69 := ⟨rfl, rfl⟩
theorem xc117_69 : pmCode 117 69 = some (.iconst 0) ∧ 69 + 1 = 70 := ⟨rfl, rfl⟩
theorem xc117_70 : pmCode 117 70 = some (.iload 8) ∧ 70 + 2 = 72 := ⟨rfl, rfl⟩
theorem xc117_72 : pmCode 117 72 = some (.invokevirtual 66) ∧ 72 + 3 = 75 := ⟨rfl, rfl⟩
theorem xc117_75 : pmCode 117 75 = some (.ifCond .eq 8) ∧ ((75 : Nat) : Int) + 8 = ((83 : Nat) : Int) ∧ 75 + 3 = 78 := ⟨rfl, rfl, rfl⟩
theorem xc117_78 : pmCode 117 78 = some (.iload 8) ∧ 78 + 2 = 80 := ⟨rfl, rfl⟩
theorem xc117_80 : pmCode 117 80 = some (.goto 4) ∧ ((80 : Nat) : Int) + 4 = ((84 : Nat) : Int) := ⟨rfl, rfl⟩
theorem xc117_83 : pmCode 117 83 = some (.iconst 0) ∧ 83 + 1 = 84 := ⟨rfl, rfl⟩
theorem xc117_84 : pmCode 117 84 = some (.iload_n 3) ∧ 84 + 1 = 85 := ⟨rfl, rfl⟩
theorem xc117_85 : pmCode 117 85 = some (.invokevirtual 72) ∧ 85 + 3 = 88 := ⟨rfl, rfl⟩
theorem xc117_88 : pmCode 117 88 = some (.iconst 0) ∧ 88 + 1 = 89 := ⟨rfl, rfl⟩
theorem xc117_89 : pmCode 117 89 = some (.istore 9) ∧ 89 + 2 = 91 := ⟨rfl, rfl⟩
theorem xc117_91 : pmCode 117 91 = some (.iload 9) ∧ 91 + 2 = 93 := ⟨rfl, rfl⟩
theorem xc117_93 : pmCode 117 93 = some (.iconst 4) ∧ 93 + 1 = 94 := ⟨rfl, rfl⟩
theorem xc117_94 : pmCode 117 94 = some (.if_icmp .ge 70) ∧ ((94 : Nat) : Int) + 70 = ((164 : Nat) : Int) ∧ 94 + 3 = 97 := ⟨rfl, rfl, rfl⟩
theorem xc117_97 : pmCode 117 97 = some (.aload_n 0) ∧ 97 + 1 = 98 := ⟨rfl, rfl⟩
theorem xc117_98 : pmCode 117 98 = some (.iload 6) ∧ 98 + 2 = 100 := ⟨rfl, rfl⟩
theorem xc117_100 : pmCode 117 100 = some (.iload 9) ∧ 100 + 2 = 102 := ⟨rfl, rfl⟩
theorem xc117_102 : pmCode 117 102 = some (.invokevirtual 58) ∧ 102 + 3 = 105 := ⟨rfl, rfl⟩
theorem xc117_105 : pmCode 117 105 = some (.sipush 511) ∧ 105 + 3 = 108 := ⟨rfl, rfl⟩
theorem xc117_108 : pmCode 117 108 = some .iand ∧ 108 + 1 = 109 := ⟨rfl, rfl⟩
theorem xc117_109 : pmCode 117 109 = some (.aload_n 0) ∧ 109 + 1 = 110 := ⟨rfl, rfl⟩
theorem xc117_110 : pmCode 117 110 = some (.getfield 29) ∧ 110 + 3 = 113 := ⟨rfl, rfl⟩
theorem xc117_113 : pmCode 117 113 = some (.getfield 45) ∧ 113 + 3 = 116 := ⟨rfl, rfl⟩
theorem xc117_116 : pmCode 117 116 = some (.iload 9) ∧ 116 + 2 = 118 := ⟨rfl, rfl⟩
theorem xc117_118 : pmCode 117 118 = some .iaload ∧ 118 + 1 = 119 := ⟨rfl, rfl⟩
theorem xc117_119 : pmCode 117 119 = some (.sipush 511) ∧ 119 + 3 = 122 := ⟨rfl, rfl⟩
theorem xc117_122 : pmCode 117 122 = some .iand ∧ 122 + 1 = 123 := ⟨rfl, rfl⟩
theorem xc117_123 : pmCode 117 123 = some (.if_icmp .ne 7) ∧ ((123 : Nat) : Int) + 7 = ((130 : Nat) : Int) ∧ 123 + 3 = 126 := ⟨rfl, rfl, rfl⟩
theorem xc117_126 : pmCode 117 126 = some (.iconst 1) ∧ 126 + 1 = 127 := ⟨rfl, rfl⟩
theorem xc117_127 : pmCode 117 127 = some (.goto 4) ∧ ((127 : Nat) : Int) + 4 = ((131 : Nat) : Int) := ⟨rfl, rfl⟩
theorem xc117_130 : pmCode 117 130 = some (.iconst 0) ∧ 130 + 1 = 131 := ⟨rfl, rfl⟩
theorem xc117_131 : pmCode 117 131 = some (.istore 10) ∧ 131 + 2 = 133 := ⟨rfl, rfl⟩
theorem xc117_133 : pmCode 117 133 = some (.iload 5) ∧ 133 + 2 = 135 := ⟨rfl, rfl⟩
theorem xc117_135 : pmCode 117 135 = some (.iload 10) ∧ 135 + 2 = 137 := ⟨rfl, rfl⟩
theorem xc117_137 : pmCode 117 137 = some (.ifCond .ne 17) ∧ ((137 : Nat) : Int) + 17 = ((154 : Nat) : Int) ∧ 137 + 3 = 140 := ⟨rfl, rfl, rfl⟩
theorem xc117_140 : pmCode 117 140 = some (.iload 4) ∧ 140 + 2 = 142 := ⟨rfl, rfl⟩
theorem xc117_142 : pmCode 117 142 = some (.iload 9) ∧ 142 + 2 = 144 := ⟨rfl, rfl⟩
theorem xc117_144 : pmCode 117 144 = some .ishr ∧ 144 + 1 = 145 := ⟨rfl, rfl⟩
theorem xc117_145 : pmCode 117 145 = some (.iconst 1) ∧ 145 + 1 = 146 := ⟨rfl, rfl⟩
theorem xc117_146 : pmCode 117 146 = some .iand ∧ 146 + 1 = 147 := ⟨rfl, rfl⟩
theorem xc117_147 : pmCode 117 147 = some (.ifCond .eq 7) ∧ ((147 : Nat) : Int) + 7 = ((154 : Nat) : Int) ∧ 147 + 3 = 150 := ⟨rfl, rfl, rfl⟩
theorem xc117_150 : pmCode 117 150 = some (.iconst 1) ∧ 150 + 1 = 151 := ⟨rfl, rfl⟩
theorem xc117_151 : pmCode 117 151 = some (.goto 4) ∧ ((151 : Nat) : Int) + 4 = ((155 : Nat) : Int) := ⟨rfl, rfl⟩
theorem xc117_154 : pmCode 117 154 = some (.iconst 0) ∧ 154 + 1 = 155 := ⟨rfl, rfl⟩
theorem xc117_155 : pmCode 117 155 = some .iadd ∧ 155 + 1 = 156 := ⟨rfl, rfl⟩
theorem xc117_156 : pmCode 117 156 = some (.istore 5) ∧ 156 + 2 = 158 := ⟨rfl, rfl⟩
theorem xc117_158 : pmCode 117 158 = some (.iinc 9 1) ∧ 158 + 3 = 161 := ⟨rfl, rfl⟩
theorem xc117_161 : pmCode 117 161 = some (.goto (-70)) ∧ ((161 : Nat) : Int) + (-70) = ((91 : Nat) : Int) := ⟨rfl, rfl⟩
theorem xc117_164 : pmCode 117 164 = some (.aload_n 0) ∧ 164 + 1 = 165 := ⟨rfl, rfl⟩
theorem xc117_165 : pmCode 117 165 = some (.getfield 22) ∧ 165 + 3 = 168 := ⟨rfl, rfl⟩
theorem xc117_168 : pmCode 117 168 = some (.iload 6) ∧ 168 + 2 = 170 := ⟨rfl, rfl⟩
theorem xc117_170 : pmCode 117 170 = some .iaload ∧ 170 + 1 = 171 := ⟨rfl, rfl⟩
theorem xc117_171 : pmCode 117 171 = some (.ifCond .eq 36) ∧ ((171 : Nat) : Int) + 36 = ((207 : Nat) : Int) ∧ 171 + 3 = 174 := ⟨rfl, rfl, rfl⟩
theorem xc117_174 : pmCode 117 174 = some (.aload_n 0) ∧ 174 + 1 = 175 := ⟨rfl, rfl⟩
theorem xc117_175 : pmCode 117 175 = some (.getfield 33) ∧ 175 + 3 = 178 := ⟨rfl, rfl⟩
theorem xc117_178 : pmCode 117 178 = some (.aload_n 1) ∧ 178 + 1 = 179 := ⟨rfl, rfl⟩
theorem xc117_179 : pmCode 117 179 = some (.aload_n 0) ∧ 179 + 1 = 180 := ⟨rfl, rfl⟩
theorem xc117_180 : pmCode 117 180 = some (.getfield 22) ∧ 180 + 3 = 183 := ⟨rfl, rfl⟩
theorem xc117_183 : pmCode 117 183 = some (.iload 6) ∧ 183 + 2 = 185 := ⟨rfl, rfl⟩
theorem xc117_185 : pmCode 117 185 = some .iaload ∧ 185 + 1 = 186 := ⟨rfl, rfl⟩
theorem xc117_186 : pmCode 117 186 = some (.invokevirtual 76) ∧ 186 + 3 = 189 := ⟨rfl, rfl⟩
theorem xc117_189 : pmCode 117 189 = some (.ifCond .eq 18) ∧ ((189 : Nat) : Int) + 18 = ((207 : Nat) : Int) ∧ 189 + 3 = 192 := ⟨rfl, rfl, rfl⟩
theorem xc117_192 : pmCode 117 192 = some (.aload_n 0) ∧ 192 + 1 = 193 := ⟨rfl, rfl⟩
theorem xc117_193 : pmCode 117 193 = some (.getfield 33) ∧ 193 + 3 = 196 := ⟨rfl, rfl⟩
theorem xc117_196 : pmCode 117 196 = some (.aload_n 1) ∧ 196 + 1 = 197 := ⟨rfl, rfl⟩
theorem xc117_197 : pmCode 117 197 = some (.aload_n 0) ∧ 197 + 1 = 198 := ⟨rfl, rfl⟩
theorem xc117_198 : pmCode 117 198 = some (.getfield 22) ∧ 198 + 3 = 201 := ⟨rfl, rfl⟩
theorem xc117_201 : pmCode 117 201 = some (.iload 6) ∧ 201 + 2 = 203 := ⟨rfl, rfl⟩
theorem xc117_203 : pmCode 117 203 = some .iaload ∧ 203 + 1 = 204 := ⟨rfl, rfl⟩
theorem xc117_204 : pmCode 117 204 = some (.invokevirtual 82) ∧ 204 + 3 = 207 := ⟨rfl, rfl⟩
theorem xc117_207 : pmCode 117 207 = some (.iinc 6 1) ∧ 207 + 3 = 210 := ⟨rfl, rfl⟩
theorem xc117_210 : pmCode 117 210 = some (.goto (-196)) ∧ ((210 : Nat) : Int) + (-196) = ((14 : Nat) : Int) := ⟨rfl, rfl⟩
theorem xc117_213 : pmCode 117 213 = some (.iload 5) ∧ 213 + 2 = 215 := ⟨rfl, rfl⟩
theorem xc117_215 : pmCode 117 215 = some .ireturn := rfl
theorem xc118_0 : pmCode 118 0 = some (.iload_n 1) ∧ 0 + 1 = 1 := ⟨rfl, rfl⟩
theorem xc118_1 : pmCode 118 1 = some (.iconst 1) ∧ 1 + 1 = 2 := ⟨rfl, rfl⟩
theorem xc118_2 : pmCode 118 2 = some (.if_icmp .lt 29) ∧ ((2 : Nat) : Int) + 29 = ((31 : Nat) : Int) ∧ 2 + 3 = 5 := ⟨rfl, rfl, rfl⟩
theorem xc118_5 : pmCode 118 5 = some (.iload_n 1) ∧ 5 + 1 = 6 := ⟨rfl, rfl⟩
theorem xc118_6 : pmCode 118 6 = some (.bipush 60) ∧ 6 + 2 = 8 := ⟨rfl, rfl⟩
theorem xc118_8 : pmCode 118 8 = some (.if_icmp .gt 23) ∧ ((8 : Nat) : Int) + 23 = ((31 : Nat) : Int) ∧ 8 + 3 = 11 := ⟨rfl, rfl, rfl⟩
theorem xc118_11 : pmCode 118 11 = some (.iload_n 2) ∧ 11 + 1 = 12 := ⟨rfl, rfl⟩
theorem xc118_12 : pmCode 118 12 = some (.invokestatic 54) ∧ 12 + 3 = 15 := ⟨rfl, rfl⟩
theorem xc118_15 : pmCode 118 15 = some (.ifCond .eq 16) ∧ ((15 : Nat) : Int) + 16 = ((31 : Nat) : Int) ∧ 15 + 3 = 18 := ⟨rfl, rfl, rfl⟩
theorem xc118_18 : pmCode 118 18 = some (.aload_n 0) ∧ 18 + 1 = 19 := ⟨rfl, rfl⟩
theorem xc118_19 : pmCode 118 19 = some (.getfield 18) ∧ 19 + 3 = 22 := ⟨rfl, rfl⟩
theorem xc118_22 : pmCode 118 22 = some (.iload_n 1) ∧ 22 + 1 = 23 := ⟨rfl, rfl⟩
theorem xc118_23 : pmCode 118 23 = some (.iconst 4) ∧ 23 + 1 = 24 := ⟨rfl, rfl⟩
theorem xc118_24 : pmCode 118 24 = some .imul ∧ 24 + 1 = 25 := ⟨rfl, rfl⟩
theorem xc118_25 : pmCode 118 25 = some (.iload_n 2) ∧ 25 + 1 = 26 := ⟨rfl, rfl⟩
theorem xc118_26 : pmCode 118 26 = some .iadd ∧ 26 + 1 = 27 := ⟨rfl, rfl⟩
theorem xc118_27 : pmCode 118 27 = some .iaload ∧ 27 + 1 = 28 := ⟨rfl, rfl⟩
theorem xc118_28 : pmCode 118 28 = some (.goto 4) ∧ ((28 : Nat) : Int) + 4 = ((32 : Nat) : Int) := ⟨rfl, rfl⟩
theorem xc118_31 : pmCode 118 31 = some (.iconst (-1)) ∧ 31 + 1 = 32 := ⟨rfl, rfl⟩
theorem xc118_32 : pmCode 118 32 = some .ireturn := rfl
theorem xc119_7 : pmCode 119 7 = some (.iload_n 1) ∧ 7 + 1 = 8 := ⟨rfl, rfl⟩
theorem xc119_8 : pmCode 119 8 = some (.invokestatic 144) ∧ 8 + 3 = 11 := ⟨rfl, rfl⟩
theorem xc119_11 : pmCode 119 11 = some (.ifCond .ne 5) ∧ ((11 : Nat) : Int) + 5 = ((16 : Nat) : Int) ∧ 11 + 3 = 14 := ⟨rfl, rfl, rfl⟩
theorem xc119_16 : pmCode 119 16 = some (.aload_n 0) ∧ 16 + 1 = 17 := ⟨rfl, rfl⟩
theorem xc119_17 : pmCode 119 17 = some (.getfield 97) ∧ 17 + 3 = 20 := ⟨rfl, rfl⟩
theorem xc119_20 : pmCode 119 20 = some (.aload_n 0) ∧ 20 + 1 = 21 := ⟨rfl, rfl⟩
theorem xc119_21 : pmCode 119 21 = some (.getfield 44) ∧ 21 + 3 = 24 := ⟨rfl, rfl⟩
theorem xc119_24 : pmCode 119 24 = some (.iconst 0) ∧ 24 + 1 = 25 := ⟨rfl, rfl⟩
theorem xc119_25 : pmCode 119 25 = some (.iload_n 1) ∧ 25 + 1 = 26 := ⟨rfl, rfl⟩
theorem xc119_26 : pmCode 119 26 = some (.bipush 15) ∧ 26 + 2 = 28 := ⟨rfl, rfl⟩
theorem xc119_28 : pmCode 119 28 = some (.iconst 1) ∧ 28 + 1 = 29 := ⟨rfl, rfl⟩
theorem xc119_29 : pmCode 119 29 = some (.iload_n 1) ∧ 29 + 1 = 30 := ⟨rfl, rfl⟩
theorem xc119_30 : pmCode 119 30 = some .ishl ∧ 30 + 1 = 31 := ⟨rfl, rfl⟩
theorem xc119_31 : pmCode 119 31 = some (.iconst (-1)) ∧ 31 + 1 = 32 := ⟨rfl, rfl⟩
theorem xc119_32 : pmCode 119 32 = some .ixor ∧ 32 + 1 = 33 := ⟨rfl, rfl⟩
theorem xc119_33 : pmCode 119 33 = some .iand ∧ 33 + 1 = 34 := ⟨rfl, rfl⟩
theorem xc119_34 : pmCode 119 34 = some (.invokevirtual 267) ∧ 34 + 3 = 37 := ⟨rfl, rfl⟩
theorem xc119_37 : pmCode 119 37 = some (.ifCond .ne 7) ∧ ((37 : Nat) : Int) + 7 = ((44 : Nat) : Int) ∧ 37 + 3 = 40 := ⟨rfl, rfl, rfl⟩
theorem xc119_40 : pmCode 119 40 = some (.iconst 1) ∧ 40 + 1 = 41 := ⟨rfl, rfl⟩
theorem xc119_41 : pmCode 119 41 = some (.goto 4) ∧ ((41 : Nat) : Int) + 4 = ((45 : Nat) : Int) := ⟨rfl, rfl⟩
theorem xc119_44 : pmCode 119 44 = some (.iconst 0) ∧ 44 + 1 = 45 := ⟨rfl, rfl⟩
theorem xc119_45 : pmCode 119 45 = some .ireturn := rfl
theorem xc233_0 : pmCode 233 0 = some (.iload_n 1) ∧ 0 + 1 = 1 := ⟨rfl, rfl⟩
theorem xc233_1 : pmCode 233 1 = some (.iload_n 2) ∧ 1 + 1 = 2 := ⟨rfl, rfl⟩
theorem xc233_2 : pmCode 233 2 = some (.if_icmp .ne 7) ∧ ((2 : Nat) : Int) + 7 = ((9 : Nat) : Int) ∧ 2 + 3 = 5 := ⟨rfl, rfl, rfl⟩
theorem xc233_5 : pmCode 233 5 = some (.iconst (-1)) ∧ 5 + 1 = 6 := ⟨rfl, rfl⟩
theorem xc233_6 : pmCode 233 6 = some (.goto 11) ∧ ((6 : Nat) : Int) + 11 = ((17 : Nat) : Int) := ⟨rfl, rfl⟩
theorem xc233_9 : pmCode 233 9 = some (.aload_n 0) ∧ 9 + 1 = 10 := ⟨rfl, rfl⟩
theorem xc233_10 : pmCode 233 10 = some (.getfield 109) ∧ 10 + 3 = 13 := ⟨rfl, rfl⟩
theorem xc233_13 : pmCode 233 13 = some (.iconst 4) ∧ 13 + 1 = 14 := ⟨rfl, rfl⟩
theorem xc233_14 : pmCode 233 14 = some (.iload_n 1) ∧ 14 + 1 = 15 := ⟨rfl, rfl⟩
theorem xc233_15 : pmCode 233 15 = some .imul ∧ 15 + 1 = 16 := ⟨rfl, rfl⟩
theorem xc233_16 : pmCode 233 16 = some .iaload ∧ 16 + 1 = 17 := ⟨rfl, rfl⟩
theorem xc233_17 : pmCode 233 17 = some (.istore 4) ∧ 17 + 2 = 19 := ⟨rfl, rfl⟩
theorem xc233_19 : pmCode 233 19 = some (.aload_n 0) ∧ 19 + 1 = 20 := ⟨rfl, rfl⟩
theorem xc233_20 : pmCode 233 20 = some (.iload 4) ∧ 20 + 2 = 22 := ⟨rfl, rfl⟩
theorem xc233_22 : pmCode 233 22 = some (.iconst (-1)) ∧ 22 + 1 = 23 := ⟨rfl, rfl⟩
theorem xc233_23 : pmCode 233 23 = some (.if_icmp .eq 18) ∧ ((23 : Nat) : Int) + 18 = ((41 : Nat) : Int) ∧ 23 + 3 = 26 := ⟨rfl, rfl, rfl⟩
theorem xc233_26 : pmCode 233 26 = some (.aload_n 0) ∧ 26 + 1 = 27 := ⟨rfl, rfl⟩
theorem xc233_27 : pmCode 233 27 = some (.iconst 0) ∧ 27 + 1 = 28 := ⟨rfl, rfl⟩
theorem xc233_28 : pmCode 233 28 = some (.iload 4) ∧ 28 + 2 = 30 := ⟨rfl, rfl⟩
theorem xc233_30 : pmCode 233 30 = some (.invokevirtual 377) ∧ 30 + 3 = 33 := ⟨rfl, rfl⟩
theorem xc233_33 : pmCode 233 33 = some (.ifCond .eq 8) ∧ ((33 : Nat) : Int) + 8 = ((41 : Nat) : Int) ∧ 33 + 3 = 36 := ⟨rfl, rfl, rfl⟩
theorem xc233_36 : pmCode 233 36 = some (.iload 4) ∧ 36 + 2 = 38 := ⟨rfl, rfl⟩
theorem xc233_38 : pmCode 233 38 = some (.goto 4) ∧ ((38 : Nat) : Int) + 4 = ((42 : Nat) : Int) := ⟨rfl, rfl⟩
theorem xc233_41 : pmCode 233 41 = some (.iconst (-1)) ∧ 41 + 1 = 42 := ⟨rfl, rfl⟩
theorem xc233_42 : pmCode 233 42 = some (.iload_n 3) ∧ 42 + 1 = 43 := ⟨rfl, rfl⟩
theorem xc233_43 : pmCode 233 43 = some (.invokevirtual 380) ∧ 43 + 3 = 46 := ⟨rfl, rfl⟩
theorem xc233_46 : pmCode 233 46 = some .return_ := rfl
theorem xc234_0 : pmCode 234 0 = some (.aload_n 0) ∧ 0 + 1 = 1 := ⟨rfl, rfl⟩
theorem xc234_1 : pmCode 234 1 = some (.getfield 121) ∧ 1 + 3 = 4 := ⟨rfl, rfl⟩
theorem xc234_4 : pmCode 234 4 = some (.iconst 4) ∧ 4 + 1 = 5 := ⟨rfl, rfl⟩
theorem xc234_5 : pmCode 234 5 = some (.iload_n 1) ∧ 5 + 1 = 6 := ⟨rfl, rfl⟩
theorem xc234_6 : pmCode 234 6 = some .imul ∧ 6 + 1 = 7 := ⟨rfl, rfl⟩
theorem xc234_7 : pmCode 234 7 = some (.iload_n 2) ∧ 7 + 1 = 8 := ⟨rfl, rfl⟩
theorem xc234_8 : pmCode 234 8 = some .iadd ∧ 8 + 1 = 9 := ⟨rfl, rfl⟩
theorem xc234_9 : pmCode 234 9 = some .baload ∧ 9 + 1 = 10 := ⟨rfl, rfl⟩
theorem xc234_10 : pmCode 234 10 = some (.aload_n 0) ∧ 10 + 1 = 11 := ⟨rfl, rfl⟩
theorem xc234_11 : pmCode 234 11 = some (.getfield 106) ∧ 11 + 3 = 14 := ⟨rfl, rfl⟩
theorem xc234_14 : pmCode 234 14 = some (.iload_n 2) ∧ 14 + 1 = 15 := ⟨rfl, rfl⟩
theorem xc234_15 : pmCode 234 15 = some .baload ∧ 15 + 1 = 16 := ⟨rfl, rfl⟩
theorem xc234_16 : pmCode 234 16 = some (.if_icmp .ne 22) ∧ ((16 : Nat) : Int) + 22 = ((38 : Nat) : Int) ∧ 16 + 3 = 19 := ⟨rfl, rfl, rfl⟩
theorem xc234_19 : pmCode 234 19 = some (.aload_n 0) ∧ 19 + 1 = 20 := ⟨rfl, rfl⟩
theorem xc234_20 : pmCode 234 20 = some (.getfield 109) ∧ 20 + 3 = 23 := ⟨rfl, rfl⟩
theorem xc234_23 : pmCode 234 23 = some (.iconst 4) ∧ 23 + 1 = 24 := ⟨rfl, rfl⟩
theorem xc234_24 : pmCode 234 24 = some (.iload_n 1) ∧ 24 + 1 = 25 := ⟨rfl, rfl⟩
theorem xc234_25 : pmCode 234 25 = some .imul ∧ 25 + 1 = 26 := ⟨rfl, rfl⟩
theorem xc234_26 : pmCode 234 26 = some (.iload_n 2) ∧ 26 + 1 = 27 := ⟨rfl, rfl⟩
theorem xc234_27 : pmCode 234 27 = some .iadd ∧ 27 + 1 = 28 := ⟨rfl, rfl⟩
theorem xc234_28 : pmCode 234 28 = some .iaload ∧ 28 + 1 = 29 := ⟨rfl, rfl⟩
theorem xc234_29 : pmCode 234 29 = some (.aload_n 0) ∧ 29 + 1 = 30 := ⟨rfl, rfl⟩
theorem xc234_30 : pmCode 234 30 = some (.getfield 97) ∧ 30 + 3 = 33 := ⟨rfl, rfl⟩
theorem xc234_33 : pmCode 234 33 = some (.iload_n 2) ∧ 33 + 1 = 34 := ⟨rfl, rfl⟩
theorem xc234_34 : pmCode 234 34 = some .iaload ∧ 34 + 1 = 35 := ⟨rfl, rfl⟩
theorem xc234_35 : pmCode 234 35 = some (.if_icmp .eq 7) ∧ ((35 : Nat) : Int) + 7 = ((42 : Nat) : Int) ∧ 35 + 3 = 38 := ⟨rfl, rfl, rfl⟩
theorem xc234_38 : pmCode 234 38 = some (.iconst 1) ∧ 38 + 1 = 39 := ⟨rfl, rfl⟩
theorem xc234_39 : pmCode 234 39 = some (.goto 4) ∧ ((39 : Nat) : Int) + 4 = ((43 : Nat) : Int) := ⟨rfl, rfl⟩
theorem xc234_42 : pmCode 234 42 = some (.iconst 0) ∧ 42 + 1 = 43 := ⟨rfl, rfl⟩
theorem xc234_43 : pmCode 234 43 = some .ireturn := rfl
theorem xc235_0 : pmCode 235 0 = some (.aload_n 0) ∧ 0 + 1 = 1 := ⟨rfl, rfl⟩
theorem xc235_1 : pmCode 235 1 = some (.aload_n 0) ∧ 1 + 1 = 2 := ⟨rfl, rfl⟩
theorem xc235_2 : pmCode 235 2 = some (.getfield 118) ∧ 2 + 3 = 5 := ⟨rfl, rfl⟩
theorem xc235_5 : pmCode 235 5 = some (.iload_n 1) ∧ 5 + 1 = 6 := ⟨rfl, rfl⟩
theorem xc235_6 : pmCode 235 6 = some .iaload ∧ 6 + 1 = 7 := ⟨rfl, rfl⟩
theorem xc235_7 : pmCode 235 7 = some (.invokevirtual 392) ∧ 7 + 3 = 10 := ⟨rfl, rfl⟩
theorem xc235_10 : pmCode 235 10 = some (.ifCond .eq 13) ∧ ((10 : Nat) : Int) + 13 = ((23 : Nat) : Int) ∧ 10 + 3 = 13 := ⟨rfl, rfl, rfl⟩
theorem xc235_13 : pmCode 235 13 = some (.aload_n 0) ∧ 13 + 1 = 14 := ⟨rfl, rfl⟩
theorem xc235_14 : pmCode 235 14 = some (.aload_n 0) ∧ 14 + 1 = 15 := ⟨rfl, rfl⟩
theorem xc235_15 : pmCode 235 15 = some (.getfield 118) ∧ 15 + 3 = 18 := ⟨rfl, rfl⟩
theorem xc235_18 : pmCode 235 18 = some (.iload_n 1) ∧ 18 + 1 = 19 := ⟨rfl, rfl⟩
theorem xc235_19 : pmCode 235 19 = some .iaload ∧ 19 + 1 = 20 := ⟨rfl, rfl⟩
theorem xc235_20 : pmCode 235 20 = some (.invokevirtual 395) ∧ 20 + 3 = 23 := ⟨rfl, rfl⟩
theorem xc235_23 : pmCode 235 23 = some .return_ := rfl
theorem w118 {ro : Nat → Nat × (Nat → Int32)} {d : Nat} {Q : Option Value → pmS → Prop} {t p : Int} {a : xA} {b : xB} (ht : 1 ≤ t ∧ t ≤ 60) (hp : 0 ≤ p ∧ p ≤ 3) (hd : 1 ≤ d)
    (k1 : (t < 1) → Q (some (xV (-1))) (xS a b))
    (k2 : (¬ t < 1) → (60 < t) → Q (some (xV (-1))) (xS a b))
    (k3 : (¬ t < 1) → (¬ 60 < t) → (0 ≤ p ∧ p < 4) → Q (some (xV (a 85 (t * 4 + p)))) (xS a b))
    (k4 : (¬ t < 1) → (¬ 60 < t) → (¬ (0 ≤ p ∧ p < 4)) → Q (some (xV (-1))) (xS a b)) :
    pmWp ro d 0 118 1 0 [some (.ref 79), some (xV t), some (xV p)] [] (xS a b) Q := by
  refine x_iloadn xc118_0 rfl ?_
  refine x_iconst xc118_1 ?_
  refine x_iclt xc118_2 (xRk (by have g0 := ht; omega)) (xRk (by decide)) (fun h0 => ?_) (fun h0 => ?_)
  · refine x_iconst xc118_31 ?_
    refine x_iret xc118_32 (Or.inl rfl) ?_
    exact k1 h0
  · refine x_iloadn xc118_5 rfl ?_
    refine x_bipush xc118_6 (by decide) ?_
    refine x_icgt xc118_8 (xRk (by have g0 := ht; omega)) (xRk (by decide)) (fun h1 => ?_) (fun h1 => ?_)
    · refine x_iconst xc118_31 ?_
      refine x_iret xc118_32 (Or.inl rfl) ?_
      exact k2 h0 h1
    · refine x_iloadn xc118_11 rfl ?_
      refine x_cS (as := [xV p]) (rest := []) xc118_12 rfl rfl xi18 ⟨rfl, rfl⟩ rfl rfl ?_
      refine xk18 (by omega) (xRk (by have g0 := hp; omega)) (fun h2 => ?_) (fun h3 => ?_)
      · refine x_ifeq xc118_15 (xRk (by decide)) (fun h => absurd h (by omega)) (fun _ => ?_)
        refine x_aloadn xc118_18 rfl ?_
        refine x_gfr xc118_19 rfl rfl xz79 rfl ?_
        refine x_iloadn xc118_22 rfl ?_
        refine x_iconst xc118_23 ?_
        refine x_imul xc118_24 ?_
        refine x_iloadn xc118_25 rfl ?_
        refine x_iadd xc118_26 ?_
        refine x_ial xc118_27 xz85 rfl (by have g0 := ht; have g1 := hp; omega) (by have g0 := ht; have g1 := hp; omega) (by have g0 := ht; have g1 := hp; omega) ?_
        refine x_goto xc118_28 ?_
        refine x_iret xc118_32 (Or.inl rfl) ?_
        exact k3 h0 h1 h2
      · refine x_ifeq xc118_15 (xRk (by decide)) (fun _ => ?_) (fun h => absurd h (by omega))
        refine x_iconst xc118_31 ?_
        refine x_iret xc118_32 (Or.inl rfl) ?_
        exact k4 h0 h1 h3

theorem xg118 {ro : Nat → Nat × (Nat → Int32)} {d : Nat} {Q : Option Value → pmS → Prop} {a : xA} {b : xB} {t p : Int} (h : pmWp ro d 0 118 1 0 [some (.ref 79), some (xV t), some (xV p)] [] (xS a b) Q) : pmCs ro (d + 1) 118 [.ref 79, xV t, xV p] (xS a b) Q := x_go xi118 rfl rfl rfl rfl rfl h
theorem rk118 {ro : Nat → Nat × (Nat → Int32)} {d : Nat} {Q : Option Value → pmS → Prop} {t p : Int} {a : xA} {b : xB} (hd : 2 ≤ d) (ht : 1 ≤ t ∧ t ≤ 60) (hp : 0 ≤ p ∧ p ≤ 3) (hQ : Q (some (xV (a 85 (t * 4 + p)))) (xS a b)) : pmCs ro d 118 [.ref 79, xV t, xV p] (xS a b) Q := by
  refine pmCs_deep (d := 2) (xg118 (w118 ht hp (by decide) ?_ ?_ ?_ ?_)) hd
  · intro h
    exact absurd h (by omega)
  · intro _ h
    exact absurd h (by omega)
  · intro _ _ _
    exact hQ
  · intro _ _ h
    exact absurd ⟨hp.1, by omega⟩ h
theorem w117 {ro : Nat → Nat × (Nat → Int32)} {d : Nat} {Q : Option Value → pmS → Prop} {wi id cm : Int} {w : Nat} {a : xA} {b : xB} (hz : uWz w)
    (k1 : pmCs ro d 66 [.ref w, .ref 80] (xS a b) fun r σ' => pmWp ro d 0 117 1 11 [some (.ref 79), some (.ref w), some (xV wi), some (xV id), some (xV cm), some (xV 0), none, none, none, none, none] (r.toList ++ []) σ' Q) :
    pmWp ro d 0 117 1 0 [some (.ref 79), some (.ref w), some (xV wi), some (xV id), some (xV cm), none, none, none, none, none, none] [] (xS a b) Q := by
  refine x_iconst xc117_0 ?_
  refine x_istore (pl' := [some (.ref 79), some (.ref w), some (xV wi), some (xV id), some (xV cm), some (xV 0), none, none, none, none, none]) xc117_1 rfl rfl ?_
  refine x_aloadn xc117_3 rfl ?_
  refine x_aloadn xc117_4 rfl ?_
  refine x_gfr xc117_5 rfl rfl xz79 rfl ?_
  refine x_cV (as := [.ref 80]) (rest := []) xc117_8 rfl xi66 hz.1 ⟨rfl, rfl⟩ rfl rfl ?_
  exact k1

theorem xg117 {ro : Nat → Nat × (Nat → Int32)} {d : Nat} {Q : Option Value → pmS → Prop} {a : xA} {b : xB} {wi id cm : Int} {w : Nat} (h : pmWp ro d 0 117 1 0 [some (.ref 79), some (.ref w), some (xV wi), some (xV id), some (xV cm), none, none, none, none, none, none] [] (xS a b) Q) : pmCs ro (d + 1) 117 [.ref 79, .ref w, xV wi, xV id, xV cm] (xS a b) Q := x_go xi117 rfl rfl rfl rfl rfl h
theorem w117a {ro : Nat → Nat × (Nat → Int32)} {d : Nat} {Q : Option Value → pmS → Prop} {wi id cm ch : Int} {w : Nat} {a : xA} {b : xB}
    (k1 : pmWp ro d 0 117 1 14 [some (.ref 79), some (.ref w), some (xV wi), some (xV id), some (xV cm), some (xV ch), some (xV 1), none, none, none, none] [] (xS a b) Q) :
    pmWp ro d 0 117 1 11 [some (.ref 79), some (.ref w), some (xV wi), some (xV id), some (xV cm), some (xV ch), none, none, none, none, none] [] (xS a b) Q := by
  refine x_iconst xc117_11 ?_
  refine x_istore (pl' := [some (.ref 79), some (.ref w), some (xV wi), some (xV id), some (xV cm), some (xV ch), some (xV 1), none, none, none, none]) xc117_12 rfl rfl ?_
  exact k1

theorem w117t {ro : Nat → Nat × (Nat → Int32)} {d : Nat} {Q : Option Value → pmS → Prop} {v10 : Option Value} {v7 : Option Value} {v8 : Option Value} {v9 : Option Value} {ch t L wi id cm : Int} {w : Nat} {a : xA} {b : xB} (hz : uWz w) (hA : xAr a) (qwi : xR wi) (hcm : 0 ≤ cm ∧ cm ≤ 15) (hd : 2 ≤ d) (hch : 0 ≤ ch ∧ ch ≤ 1000) (ht : 1 ≤ t ∧ t ≤ 61) (hL : a 79 6 = L) (hL0 : 0 ≤ L ∧ L ≤ 60)
    (k1 : (L < t) → Q (some (xV ch)) (xS a b))
    (k2 : (¬ L < t) → (a 85 (t * 4 + 0) = -1) → pmWp ro d 0 117 1 56 [some (.ref 79), some (.ref w), some (xV wi), some (xV id), some (xV cm), some (xV ch), some (xV t), some (xV (a 85 (t * 4 + 0))), some (xV 0), v9, v10] [] (xS a b) Q)
    (k3 : (¬ L < t) → (¬ a 85 (t * 4 + 0) = -1) → (¬ t = wi) → pmWp ro d 0 117 1 56 [some (.ref 79), some (.ref w), some (xV wi), some (xV id), some (xV cm), some (xV ch), some (xV t), some (xV (a 85 (t * 4 + 0))), some (xV ((a 85 (t * 4 + 0)) % 512)), v9, v10] [] (xS a b) Q)
    (k4 : (¬ L < t) → (¬ a 85 (t * 4 + 0) = -1) → (t = wi) → pmWp ro d 0 117 1 56 [some (.ref 79), some (.ref w), some (xV wi), some (xV id), some (xV cm), some (xV ch), some (xV t), some (xV (a 85 (t * 4 + 0))), some (xV 0), v9, v10] [] (xS a b) Q) :
    pmWp ro d 0 117 1 14 [some (.ref 79), some (.ref w), some (xV wi), some (xV id), some (xV cm), some (xV ch), some (xV t), v7, v8, v9, v10] [] (xS a b) Q := by
  refine x_iload xc117_14 rfl ?_
  refine x_aloadn xc117_16 rfl ?_
  refine x_gfi' (k := 6) (v := L) xc117_17 rfl (Or.inl rfl) rfl xz79 hL ?_
  refine x_icgt xc117_20 (xRk (by have g0 := ht; omega)) (xRk (by have g0 := hL0; omega)) (fun h0 => ?_) (fun h0 => ?_)
  · refine x_iload xc117_213 rfl ?_
    refine x_iret xc117_215 (Or.inl rfl) ?_
    exact k1 h0
  · refine x_aloadn xc117_23 rfl ?_
    refine x_iload xc117_24 rfl ?_
    refine x_iconst xc117_26 ?_
    refine x_cV (as := [xV t, xV 0]) (rest := []) xc117_27 rfl xi118 xz79 ⟨rfl, rfl⟩ rfl rfl ?_
    refine rk118 (by omega) (by have g0 := ht; omega) (by omega) ?_
    refine x_istore (pl' := [some (.ref 79), some (.ref w), some (xV wi), some (xV id), some (xV cm), some (xV ch), some (xV t), some (xV (a 85 (t * 4 + 0))), v8, v9, v10]) xc117_30 rfl rfl ?_
    refine x_iload xc117_32 rfl ?_
    refine x_iconst xc117_34 ?_
    refine x_iceq xc117_35 (xRk (by have g0 := xRb (hA 85 (t * 4 + 0)); omega)) (xRk (by decide)) (fun h1 => ?_) (fun h1 => ?_)
    · refine x_iconst xc117_44 ?_
      refine x_goto xc117_45 ?_
      refine x_istore (pl' := [some (.ref 79), some (.ref w), some (xV wi), some (xV id), some (xV cm), some (xV ch), some (xV t), some (xV (a 85 (t * 4 + 0))), some (xV 0), v9, v10]) xc117_54 rfl rfl ?_
      exact k2 h0 h1
    · refine x_iload xc117_38 rfl ?_
      refine x_iloadn xc117_40 rfl ?_
      refine x_icne xc117_41 (xRk (by have g0 := ht; omega)) (xRk (by have g0 := xRb qwi; omega)) (fun h2 => ?_) (fun h2 => ?_)
      · refine x_iload xc117_48 rfl ?_
        refine x_sipush xc117_50 (by decide) ?_
        refine x_iandm (M := 512) 9 (by decide) (by decide) (by decide) xc117_53 ?_
        refine x_istore (pl' := [some (.ref 79), some (.ref w), some (xV wi), some (xV id), some (xV cm), some (xV ch), some (xV t), some (xV (a 85 (t * 4 + 0))), some (xV ((a 85 (t * 4 + 0)) % 512)), v9, v10]) xc117_54 rfl rfl ?_
        exact k3 h0 h1 h2
      · replace h2 := Classical.not_not.mp h2
        refine x_iconst xc117_44 ?_
        refine x_goto xc117_45 ?_
        refine x_istore (pl' := [some (.ref 79), some (.ref w), some (xV wi), some (xV id), some (xV cm), some (xV ch), some (xV t), some (xV (a 85 (t * 4 + 0))), some (xV 0), v9, v10]) xc117_54 rfl rfl ?_
        exact k4 h0 h1 h2

theorem w117d {ro : Nat → Nat × (Nat → Int32)} {d : Nat} {Q : Option Value → pmS → Prop} {v10 : Option Value} {v7 : Option Value} {v9 : Option Value} {dd ch t wi id cm : Int} {w : Nat} {a : xA} {b : xB} (hz : uWz w) (hA : xAr a) (qwi : xR wi) (hcm : 0 ≤ cm ∧ cm ≤ 15) (hd : 2 ≤ d) (hch : 0 ≤ ch ∧ ch ≤ 1000) (ht : 1 ≤ t ∧ t ≤ 60) (hdd : 0 ≤ dd ∧ dd ≤ 511)
    (k1 : pmCs ro d 80 [.ref 3, .long (b w 4), xV 0, xV dd] (xS a b) fun r σ' => pmWp ro d 0 117 1 75 [some (.ref 79), some (.ref w), some (xV wi), some (xV id), some (xV cm), some (xV ch), some (xV t), v7, some (xV dd), v9, v10] (r.toList ++ [.ref w, .ref 43]) σ' Q) :
    pmWp ro d 0 117 1 56 [some (.ref 79), some (.ref w), some (xV wi), some (xV id), some (xV cm), some (xV ch), some (xV t), v7, some (xV dd), v9, v10] [] (xS a b) Q := by
  refine x_aloadn xc117_56 rfl ?_
  refine x_gfr xc117_57 rfl rfl xz79 rfl ?_
  refine x_aloadn xc117_60 rfl ?_
  refine x_aloadn xc117_61 rfl ?_
  refine x_gfr xc117_62 rfl rfl xz79 rfl ?_
  refine x_aloadn xc117_65 rfl ?_
  refine x_gfl (k := 4) xc117_66 rfl rfl rfl hz.1 ?_
  refine x_iconst xc117_69 ?_
  refine x_iload xc117_70 rfl ?_
  refine x_cV (as := [.long (b w 4), xV 0, xV dd]) (rest := [.ref w, .ref 43]) xc117_72 rfl xi80 xz3 ⟨rfl, rfl⟩ rfl rfl ?_
  exact k1

theorem w117e {ro : Nat → Nat × (Nat → Int32)} {d : Nat} {Q : Option Value → pmS → Prop} {v10 : Option Value} {v7 : Option Value} {v9 : Option Value} {z dd ch t wi id cm : Int} {w : Nat} {a : xA} {b : xB} (hz : uWz w) (hA : xAr a) (qwi : xR wi) (hcm : 0 ≤ cm ∧ cm ≤ 15) (hd : 2 ≤ d) (hch : 0 ≤ ch ∧ ch ≤ 1000) (ht : 1 ≤ t ∧ t ≤ 60) (hdd : 0 ≤ dd ∧ dd ≤ 511) (hzz : z = 0 ∨ z = 1)
    (k1 : (z = 0) → pmCs ro d 89 [.ref 43, .ref w, xV 0, xV id] (xS a b) fun r σ' => pmWp ro d 0 117 1 88 [some (.ref 79), some (.ref w), some (xV wi), some (xV id), some (xV cm), some (xV ch), some (xV t), v7, some (xV dd), v9, v10] (r.toList ++ []) σ' Q)
    (k2 : (¬ z = 0) → pmCs ro d 89 [.ref 43, .ref w, xV dd, xV id] (xS a b) fun r σ' => pmWp ro d 0 117 1 88 [some (.ref 79), some (.ref w), some (xV wi), some (xV id), some (xV cm), some (xV ch), some (xV t), v7, some (xV dd), v9, v10] (r.toList ++ []) σ' Q) :
    pmWp ro d 0 117 1 75 [some (.ref 79), some (.ref w), some (xV wi), some (xV id), some (xV cm), some (xV ch), some (xV t), v7, some (xV dd), v9, v10] [xV z, .ref w, .ref 43] (xS a b) Q := by
  refine x_ifeq xc117_75 (xRk (by have g0 := hzz; omega)) (fun h0 => ?_) (fun h0 => ?_)
  · refine x_iconst xc117_83 ?_
    refine x_iloadn xc117_84 rfl ?_
    refine x_cV (as := [.ref w, xV 0, xV id]) (rest := []) xc117_85 rfl xi89 xz43 ⟨rfl, rfl⟩ rfl rfl ?_
    exact k1 h0
  · refine x_iload xc117_78 rfl ?_
    refine x_goto xc117_80 ?_
    refine x_iloadn xc117_84 rfl ?_
    refine x_cV (as := [.ref w, xV dd, xV id]) (rest := []) xc117_85 rfl xi89 xz43 ⟨rfl, rfl⟩ rfl rfl ?_
    exact k2 h0

theorem w117f {ro : Nat → Nat × (Nat → Int32)} {d : Nat} {Q : Option Value → pmS → Prop} {v10 : Option Value} {v7 : Option Value} {v9 : Option Value} {dd ch t wi id cm : Int} {w : Nat} {a : xA} {b : xB} (hz : uWz w) (hA : xAr a) (qwi : xR wi) (hcm : 0 ≤ cm ∧ cm ≤ 15) (hd : 2 ≤ d) (hch : 0 ≤ ch ∧ ch ≤ 1000) (ht : 1 ≤ t ∧ t ≤ 60) (hdd : 0 ≤ dd ∧ dd ≤ 511)
    (k1 : pmWp ro d 0 117 1 91 [some (.ref 79), some (.ref w), some (xV wi), some (xV id), some (xV cm), some (xV ch), some (xV t), v7, some (xV dd), some (xV 0), v10] [] (xS a b) Q) :
    pmWp ro d 0 117 1 88 [some (.ref 79), some (.ref w), some (xV wi), some (xV id), some (xV cm), some (xV ch), some (xV t), v7, some (xV dd), v9, v10] [] (xS a b) Q := by
  refine x_iconst xc117_88 ?_
  refine x_istore (pl' := [some (.ref 79), some (.ref w), some (xV wi), some (xV id), some (xV cm), some (xV ch), some (xV t), v7, some (xV dd), some (xV 0), v10]) xc117_89 rfl rfl ?_
  exact k1

theorem w117p {ro : Nat → Nat × (Nat → Int32)} {d : Nat} {Q : Option Value → pmS → Prop} {v10 : Option Value} {v7 : Option Value} {p dd ch t wi id cm : Int} {w : Nat} {a : xA} {b : xB} (hz : uWz w) (hA : xAr a) (qwi : xR wi) (hcm : 0 ≤ cm ∧ cm ≤ 15) (hd : 2 ≤ d) (hch : 0 ≤ ch ∧ ch ≤ 1000) (ht : 1 ≤ t ∧ t ≤ 60) (hdd : 0 ≤ dd ∧ dd ≤ 511) (hp : 0 ≤ p ∧ p ≤ 4)
    (k1 : (4 ≤ p) → pmWp ro d 0 117 1 164 [some (.ref 79), some (.ref w), some (xV wi), some (xV id), some (xV cm), some (xV ch), some (xV t), v7, some (xV dd), some (xV p), v10] [] (xS a b) Q)
    (k2 : (¬ 4 ≤ p) → (¬ (a 85 (t * 4 + p)) % 512 = (a 44 p) % 512) → ((cm / ((2 ^ p.toNat : Nat) : Int)) % 2 = 0) → pmWp ro d 0 117 1 158 [some (.ref 79), some (.ref w), some (xV wi), some (xV id), some (xV cm), some (xV (ch + 0)), some (xV t), v7, some (xV dd), some (xV p), some (xV 0)] [] (xS a b) Q)
    (k3 : (¬ 4 ≤ p) → (¬ (a 85 (t * 4 + p)) % 512 = (a 44 p) % 512) → (¬ (cm / ((2 ^ p.toNat : Nat) : Int)) % 2 = 0) → pmWp ro d 0 117 1 158 [some (.ref 79), some (.ref w), some (xV wi), some (xV id), some (xV cm), some (xV (ch + 1)), some (xV t), v7, some (xV dd), some (xV p), some (xV 0)] [] (xS a b) Q)
    (k4 : (¬ 4 ≤ p) → ((a 85 (t * 4 + p)) % 512 = (a 44 p) % 512) → pmWp ro d 0 117 1 158 [some (.ref 79), some (.ref w), some (xV wi), some (xV id), some (xV cm), some (xV (ch + 0)), some (xV t), v7, some (xV dd), some (xV p), some (xV 1)] [] (xS a b) Q) :
    pmWp ro d 0 117 1 91 [some (.ref 79), some (.ref w), some (xV wi), some (xV id), some (xV cm), some (xV ch), some (xV t), v7, some (xV dd), some (xV p), v10] [] (xS a b) Q := by
  refine x_iload xc117_91 rfl ?_
  refine x_iconst xc117_93 ?_
  refine x_icge xc117_94 (xRk (by have g0 := hp; omega)) (xRk (by decide)) (fun h0 => ?_) (fun h0 => ?_)
  · exact k1 h0
  · refine x_aloadn xc117_97 rfl ?_
    refine x_iload xc117_98 rfl ?_
    refine x_iload xc117_100 rfl ?_
    refine x_cV (as := [xV t, xV p]) (rest := []) xc117_102 rfl xi118 xz79 ⟨rfl, rfl⟩ rfl rfl ?_
    refine rk118 (by omega) (by have g0 := ht; omega) (by have g0 := hp; omega) ?_
    refine x_sipush xc117_105 (by decide) ?_
    refine x_iandm (M := 512) 9 (by decide) (by decide) (by decide) xc117_108 ?_
    refine x_aloadn xc117_109 rfl ?_
    refine x_gfr xc117_110 rfl rfl xz79 rfl ?_
    refine x_gfr xc117_113 rfl rfl xz43 rfl ?_
    refine x_iload xc117_116 rfl ?_
    refine x_ial xc117_118 xz44 rfl (by have g0 := hp; omega) (by have g0 := hp; omega) (by have g0 := hp; omega) ?_
    refine x_sipush xc117_119 (by decide) ?_
    refine x_iandm (M := 512) 9 (by decide) (by decide) (by decide) xc117_122 ?_
    refine x_icne xc117_123 (xRk (by have g0 := xRb (hA 85 (t * 4 + p)); omega)) (xRk (by have g0 := hp; have g1 := xRb (hA 44 p); omega)) (fun h1 => ?_) (fun h1 => ?_)
    · refine x_iconst xc117_130 ?_
      refine x_istore (pl' := [some (.ref 79), some (.ref w), some (xV wi), some (xV id), some (xV cm), some (xV ch), some (xV t), v7, some (xV dd), some (xV p), some (xV 0)]) xc117_131 rfl rfl ?_
      refine x_iload xc117_133 rfl ?_
      refine x_iload xc117_135 rfl ?_
      refine x_ifne xc117_137 (xRk (by decide)) (fun h => absurd h (by omega)) (fun _ => ?_)
      refine x_iload xc117_140 rfl ?_
      refine x_iload xc117_142 rfl ?_
      refine x_ishr (M := ((2 ^ p.toNat : Nat) : Int)) (by have g0 := hp; omega) (by have g0 := hp; omega) rfl (xRk (by have g0 := hcm; omega)) xc117_144 ?_
      refine x_iconst xc117_145 ?_
      refine x_iandm (M := 2) 1 (by decide) (by decide) (by decide) xc117_146 ?_
      refine x_ifeq xc117_147 (xRk (by have g0 := hcm; have g1 := hp; omega)) (fun h3 => ?_) (fun h3 => ?_)
      · refine x_iconst xc117_154 ?_
        refine x_iadd xc117_155 ?_
        refine x_istore (pl' := [some (.ref 79), some (.ref w), some (xV wi), some (xV id), some (xV cm), some (xV (ch + 0)), some (xV t), v7, some (xV dd), some (xV p), some (xV 0)]) xc117_156 rfl rfl ?_
        exact k2 h0 h1 h3
      · refine x_iconst xc117_150 ?_
        refine x_goto xc117_151 ?_
        refine x_iadd xc117_155 ?_
        refine x_istore (pl' := [some (.ref 79), some (.ref w), some (xV wi), some (xV id), some (xV cm), some (xV (ch + 1)), some (xV t), v7, some (xV dd), some (xV p), some (xV 0)]) xc117_156 rfl rfl ?_
        exact k3 h0 h1 h3
    · replace h1 := Classical.not_not.mp h1
      refine x_iconst xc117_126 ?_
      refine x_goto xc117_127 ?_
      refine x_istore (pl' := [some (.ref 79), some (.ref w), some (xV wi), some (xV id), some (xV cm), some (xV ch), some (xV t), v7, some (xV dd), some (xV p), some (xV 1)]) xc117_131 rfl rfl ?_
      refine x_iload xc117_133 rfl ?_
      refine x_iload xc117_135 rfl ?_
      refine x_ifne xc117_137 (xRk (by decide)) (fun _ => ?_) (fun h => absurd h (by omega))
      refine x_iconst xc117_154 ?_
      refine x_iadd xc117_155 ?_
      refine x_istore (pl' := [some (.ref 79), some (.ref w), some (xV wi), some (xV id), some (xV cm), some (xV (ch + 0)), some (xV t), v7, some (xV dd), some (xV p), some (xV 1)]) xc117_156 rfl rfl ?_
      exact k4 h0 h1

theorem w117n {ro : Nat → Nat × (Nat → Int32)} {d : Nat} {Q : Option Value → pmS → Prop} {v10 : Option Value} {v7 : Option Value} {p dd ch t wi id cm : Int} {w : Nat} {a : xA} {b : xB} (hz : uWz w) (hA : xAr a) (qwi : xR wi) (hcm : 0 ≤ cm ∧ cm ≤ 15) (hd : 2 ≤ d) (hch : 0 ≤ ch ∧ ch ≤ 1000) (ht : 1 ≤ t ∧ t ≤ 60) (hdd : 0 ≤ dd ∧ dd ≤ 511) (hp : 0 ≤ p ∧ p ≤ 3)
    (k1 : pmWp ro d 0 117 1 91 [some (.ref 79), some (.ref w), some (xV wi), some (xV id), some (xV cm), some (xV ch), some (xV t), v7, some (xV dd), some (xV (p + 1)), v10] [] (xS a b) Q) :
    pmWp ro d 0 117 1 158 [some (.ref 79), some (.ref w), some (xV wi), some (xV id), some (xV cm), some (xV ch), some (xV t), v7, some (xV dd), some (xV p), v10] [] (xS a b) Q := by
  refine x_iinc (pl' := [some (.ref 79), some (.ref w), some (xV wi), some (xV id), some (xV cm), some (xV ch), some (xV t), v7, some (xV dd), some (xV (p + 1)), v10]) xc117_158 rfl rfl ?_
  refine x_goto xc117_161 ?_
  exact k1

theorem w117g {ro : Nat → Nat × (Nat → Int32)} {d : Nat} {Q : Option Value → pmS → Prop} {v10 : Option Value} {v7 : Option Value} {p dd ch t wi id cm : Int} {w : Nat} {a : xA} {b : xB} (hz : uWz w) (hA : xAr a) (qwi : xR wi) (hcm : 0 ≤ cm ∧ cm ≤ 15) (hd : 2 ≤ d) (hch : 0 ≤ ch ∧ ch ≤ 1000) (ht : 1 ≤ t ∧ t ≤ 60) (hdd : 0 ≤ dd ∧ dd ≤ 511) (hp : 0 ≤ p ∧ p ≤ 4)
    (k1 : (a 86 t = 0) → pmWp ro d 0 117 1 207 [some (.ref 79), some (.ref w), some (xV wi), some (xV id), some (xV cm), some (xV ch), some (xV t), v7, some (xV dd), some (xV p), v10] [] (xS a b) Q)
    (k2 : (¬ a 86 t = 0) → pmCs ro d 102 [.ref 45, .ref w, xV (a 86 t)] (xS a b) fun r σ' => pmWp ro d 0 117 1 189 [some (.ref 79), some (.ref w), some (xV wi), some (xV id), some (xV cm), some (xV ch), some (xV t), v7, some (xV dd), some (xV p), v10] (r.toList ++ []) σ' Q) :
    pmWp ro d 0 117 1 164 [some (.ref 79), some (.ref w), some (xV wi), some (xV id), some (xV cm), some (xV ch), some (xV t), v7, some (xV dd), some (xV p), v10] [] (xS a b) Q := by
  refine x_aloadn xc117_164 rfl ?_
  refine x_gfr xc117_165 rfl rfl xz79 rfl ?_
  refine x_iload xc117_168 rfl ?_
  refine x_ial xc117_170 xz86 rfl (by have g0 := ht; omega) (by have g0 := ht; omega) (by have g0 := ht; omega) ?_
  refine x_ifeq xc117_171 (xRk (by have g0 := ht; have g1 := xRb (hA 86 t); omega)) (fun h0 => ?_) (fun h0 => ?_)
  · exact k1 h0
  · refine x_aloadn xc117_174 rfl ?_
    refine x_gfr xc117_175 rfl rfl xz79 rfl ?_
    refine x_aloadn xc117_178 rfl ?_
    refine x_aloadn xc117_179 rfl ?_
    refine x_gfr xc117_180 rfl rfl xz79 rfl ?_
    refine x_iload xc117_183 rfl ?_
    refine x_ial xc117_185 xz86 rfl (by have g0 := ht; omega) (by have g0 := ht; omega) (by have g0 := ht; omega) ?_
    refine x_cV (as := [.ref w, xV (a 86 t)]) (rest := []) xc117_186 rfl xi102 xz45 ⟨rfl, rfl⟩ rfl rfl ?_
    exact k2 h0

theorem w117h {ro : Nat → Nat × (Nat → Int32)} {d : Nat} {Q : Option Value → pmS → Prop} {v10 : Option Value} {v7 : Option Value} {z p dd ch t wi id cm : Int} {w : Nat} {a : xA} {b : xB} (hz : uWz w) (hA : xAr a) (qwi : xR wi) (hcm : 0 ≤ cm ∧ cm ≤ 15) (hd : 2 ≤ d) (hch : 0 ≤ ch ∧ ch ≤ 1000) (ht : 1 ≤ t ∧ t ≤ 60) (hdd : 0 ≤ dd ∧ dd ≤ 511) (hp : 0 ≤ p ∧ p ≤ 4) (hzz : z = 0 ∨ z = 1)
    (k1 : (z = 0) → pmWp ro d 0 117 1 207 [some (.ref 79), some (.ref w), some (xV wi), some (xV id), some (xV cm), some (xV ch), some (xV t), v7, some (xV dd), some (xV p), v10] [] (xS a b) Q)
    (k2 : (¬ z = 0) → pmCs ro d 104 [.ref 45, .ref w, xV (a 86 t)] (xS a b) fun r σ' => pmWp ro d 0 117 1 207 [some (.ref 79), some (.ref w), some (xV wi), some (xV id), some (xV cm), some (xV ch), some (xV t), v7, some (xV dd), some (xV p), v10] (r.toList ++ []) σ' Q) :
    pmWp ro d 0 117 1 189 [some (.ref 79), some (.ref w), some (xV wi), some (xV id), some (xV cm), some (xV ch), some (xV t), v7, some (xV dd), some (xV p), v10] [xV z] (xS a b) Q := by
  refine x_ifeq xc117_189 (xRk (by have g0 := hzz; omega)) (fun h0 => ?_) (fun h0 => ?_)
  · exact k1 h0
  · refine x_aloadn xc117_192 rfl ?_
    refine x_gfr xc117_193 rfl rfl xz79 rfl ?_
    refine x_aloadn xc117_196 rfl ?_
    refine x_aloadn xc117_197 rfl ?_
    refine x_gfr xc117_198 rfl rfl xz79 rfl ?_
    refine x_iload xc117_201 rfl ?_
    refine x_ial xc117_203 xz86 rfl (by have g0 := ht; omega) (by have g0 := ht; omega) (by have g0 := ht; omega) ?_
    refine x_cV (as := [.ref w, xV (a 86 t)]) (rest := []) xc117_204 rfl xi104 xz45 ⟨rfl, rfl⟩ rfl rfl ?_
    exact k2 h0

theorem w117i {ro : Nat → Nat × (Nat → Int32)} {d : Nat} {Q : Option Value → pmS → Prop} {v10 : Option Value} {v7 : Option Value} {p dd ch t wi id cm : Int} {w : Nat} {a : xA} {b : xB} (hz : uWz w) (hA : xAr a) (qwi : xR wi) (hcm : 0 ≤ cm ∧ cm ≤ 15) (hd : 2 ≤ d) (hch : 0 ≤ ch ∧ ch ≤ 1000) (ht : 1 ≤ t ∧ t ≤ 60) (hdd : 0 ≤ dd ∧ dd ≤ 511) (hp : 0 ≤ p ∧ p ≤ 4)
    (k1 : pmWp ro d 0 117 1 14 [some (.ref 79), some (.ref w), some (xV wi), some (xV id), some (xV cm), some (xV ch), some (xV (t + 1)), v7, some (xV dd), some (xV p), v10] [] (xS a b) Q) :
    pmWp ro d 0 117 1 207 [some (.ref 79), some (.ref w), some (xV wi), some (xV id), some (xV cm), some (xV ch), some (xV t), v7, some (xV dd), some (xV p), v10] [] (xS a b) Q := by
  refine x_iinc (pl' := [some (.ref 79), some (.ref w), some (xV wi), some (xV id), some (xV cm), some (xV ch), some (xV (t + 1)), v7, some (xV dd), some (xV p), v10]) xc117_207 rfl rfl ?_
  refine x_goto xc117_210 ?_
  exact k1

theorem wa116 {ro : Nat → Nat × (Nat → Int32)} {d : Nat} {Q : Option Value → pmS → Prop} {t : Int} {a : xA} {b : xB} (qr1 : xR t) (htn : 0 ≤ a 21 6 ∧ a 21 6 ≤ 1000)
    (k1 : (t < 1) → Q (some (xV (-1))) (xS a b))
    (k2 : (¬ t < 1) → (t ≤ a 21 6) → pmCs ro d 117 [.ref 79, .ref 26, xV t, xV 0, xV 14] (xS a b) fun r σ' => pmWp ro d 11 116 1 35 [some (.ref 0), some (xV t)] (r.toList ++ []) σ' Q)
    (k3 : (¬ t < 1) → (¬ t ≤ a 21 6) → Q (some (xV (-1))) (xS a b)) :
    pmWp ro d 11 116 1 0 [some (.ref 0), some (xV t)] [] (xS a b) Q := by
  refine x_iloadn xc116_0 rfl ?_
  refine x_iconst xc116_1 ?_
  refine x_iclt xc116_2 (xRk (by have g0 := xRb qr1; omega)) (xRk (by decide)) (fun h0 => ?_) (fun h0 => ?_)
  · refine x_iconst xc116_16 ?_
    refine x_goto xc116_17 ?_
    refine x_iret xc116_35 (Or.inl rfl) ?_
    exact k1 h0
  · refine x_iloadn xc116_5 rfl ?_
    refine x_aloadn xc116_6 rfl ?_
    refine x_gfr xc116_7 rfl rfl xz0 rfl ?_
    refine x_gfi (k := 6) xc116_10 rfl (Or.inl rfl) rfl xz21 ?_
    refine x_icle xc116_13 (xRk (by have g0 := xRb qr1; omega)) (xRk (by have g0 := htn; omega)) (fun h1 => ?_) (fun h1 => ?_)
    · refine x_aloadn xc116_20 rfl ?_
      refine x_gfr xc116_21 rfl rfl xz0 rfl ?_
      refine x_aloadn xc116_24 rfl ?_
      refine x_gfr xc116_25 rfl rfl xz0 rfl ?_
      refine x_iloadn xc116_28 rfl ?_
      refine x_iconst xc116_29 ?_
      refine x_bipush xc116_30 (by decide) ?_
      refine x_cV (as := [.ref 26, xV t, xV 0, xV 14]) (rest := []) xc116_32 rfl xi117 xz79 ⟨rfl, rfl⟩ rfl rfl ?_
      exact k2 h0 h1
    · refine x_iconst xc116_16 ?_
      refine x_goto xc116_17 ?_
      refine x_iret xc116_35 (Or.inl rfl) ?_
      exact k3 h0 h1

theorem wa116a {ro : Nat → Nat × (Nat → Int32)} {d : Nat} {Q : Option Value → pmS → Prop} {t z : Int} {a : xA} {b : xB}
    (k1 : Q (some (xV z)) (xS a b)) :
    pmWp ro d 11 116 1 35 [some (.ref 0), some (xV t)] [xV z] (xS a b) Q := by
  refine x_iret xc116_35 (Or.inl rfl) ?_
  exact k1

theorem wa119 {ro : Nat → Nat × (Nat → Int32)} {d : Nat} {Q : Option Value → pmS → Prop} {p bg : Int} {a : xA} {b : xB} (qr1 : xR p) (hb : a 0 12 = bg) (hbg : bg = 0 ∨ bg = 1) (hd : 1 ≤ d)
    (k1 : (bg = 0) → Q (some (xV (-1))) (xS a b))
    (k2 : (¬ bg = 0) → (1 ≤ p ∧ p < 4) → pmCs ro d 117 [.ref 79, .ref 26, xV 0, xV p, xV (xAnd 15 (xXor (1 * ((2 ^ p.toNat : Nat) : Int)) (-1)))] (xS a b) fun r σ' => pmWp ro d 11 119 1 37 [some (.ref 0), some (xV p)] (r.toList ++ []) σ' Q)
    (k3 : (¬ bg = 0) → (¬ (1 ≤ p ∧ p < 4)) → Q (some (xV (-1))) (xS a b)) :
    pmWp ro d 11 119 1 0 [some (.ref 0), some (xV p)] [] (xS a b) Q := by
  refine x_aloadn xc119_0 rfl ?_
  refine x_gfi' (k := 12) (v := bg) xc119_1 rfl (Or.inr rfl) rfl xz0 hb ?_
  refine x_ifeq xc119_4 (xRk (by have g0 := hbg; omega)) (fun h0 => ?_) (fun h0 => ?_)
  · refine x_iconst xc119_14 ?_
    refine x_iret xc119_15 (Or.inl rfl) ?_
    exact k1 h0
  · refine x_iloadn xc119_7 rfl ?_
    refine x_cS (as := [xV p]) (rest := []) xc119_8 rfl rfl xi26 ⟨rfl, rfl⟩ rfl rfl ?_
    refine xk26 (by omega) (xRk (by have g0 := xRb qr1; omega)) (fun h1 => ?_) (fun h2 => ?_)
    · refine x_ifne xc119_11 (xRk (by decide)) (fun _ => ?_) (fun h => absurd h (by omega))
      refine x_aloadn xc119_16 rfl ?_
      refine x_gfr xc119_17 rfl rfl xz0 rfl ?_
      refine x_aloadn xc119_20 rfl ?_
      refine x_gfr xc119_21 rfl rfl xz0 rfl ?_
      refine x_iconst xc119_24 ?_
      refine x_iloadn xc119_25 rfl ?_
      refine x_bipush xc119_26 (by decide) ?_
      refine x_iconst xc119_28 ?_
      refine x_iloadn xc119_29 rfl ?_
      refine x_ishl (M := ((2 ^ p.toNat : Nat) : Int)) (by have g0 := xRb qr1; omega) (by have g0 := xRb qr1; omega) rfl xc119_30 ?_
      refine x_iconst xc119_31 ?_
      refine x_ixor xc119_32 ?_
      refine x_iand xc119_33 ?_
      refine x_cV (as := [.ref 26, xV 0, xV p, xV (xAnd 15 (xXor (1 * ((2 ^ p.toNat : Nat) : Int)) (-1)))]) (rest := []) xc119_34 rfl xi117 xz79 ⟨rfl, rfl⟩ rfl rfl ?_
      exact k2 h0 h1
    · refine x_ifne xc119_11 (xRk (by decide)) (fun h => absurd h (by omega)) (fun _ => ?_)
      refine x_iconst xc119_14 ?_
      refine x_iret xc119_15 (Or.inl rfl) ?_
      exact k3 h0 h2

theorem wa119a {ro : Nat → Nat × (Nat → Int32)} {d : Nat} {Q : Option Value → pmS → Prop} {p z : Int} {a : xA} {b : xB} (hzz : 0 ≤ z ∧ z ≤ 1000)
    (k1 : (¬ z = 0) → Q (some (xV 0)) (xS a b))
    (k2 : (z = 0) → Q (some (xV 1)) (xS a b)) :
    pmWp ro d 11 119 1 37 [some (.ref 0), some (xV p)] [xV z] (xS a b) Q := by
  refine x_ifne xc119_37 (xRk (by have g0 := hzz; omega)) (fun h0 => ?_) (fun h0 => ?_)
  · refine x_iconst xc119_44 ?_
    refine x_iret xc119_45 (Or.inl rfl) ?_
    exact k1 h0
  · replace h0 := Classical.not_not.mp h0
    refine x_iconst xc119_40 ?_
    refine x_goto xc119_41 ?_
    refine x_iret xc119_45 (Or.inl rfl) ?_
    exact k2 h0

theorem w233 {ro : Nat → Nat × (Nat → Int32)} {d : Nat} {Q : Option Value → pmS → Prop} {t wi wt : Int} {a : xA} {b : xB} (ht : 1 ≤ t ∧ t ≤ 60) (qwi : xR wi) (hA : xAr a)
    (k1 : (¬ t = wi) → (a 120 (4 * t) = -1) → pmCs ro d 208 [.ref 87, xV (-1), xV wt] (xS a b) fun r σ' => pmWp ro d 12 233 0 46 [some (.ref 87), some (xV t), some (xV wi), some (xV wt), some (xV (a 120 (4 * t)))] (r.toList ++ []) σ' Q)
    (k2 : (¬ t = wi) → (¬ a 120 (4 * t) = -1) → pmCs ro d 206 [.ref 87, xV 0, xV (a 120 (4 * t))] (xS a b) fun r σ' => pmWp ro d 12 233 0 33 [some (.ref 87), some (xV t), some (xV wi), some (xV wt), some (xV (a 120 (4 * t)))] (r.toList ++ [.ref 87]) σ' Q)
    (k3 : (t = wi) → pmCs ro d 208 [.ref 87, xV (-1), xV wt] (xS a b) fun r σ' => pmWp ro d 12 233 0 46 [some (.ref 87), some (xV t), some (xV wi), some (xV wt), some (xV (-1))] (r.toList ++ []) σ' Q) :
    pmWp ro d 12 233 0 0 [some (.ref 87), some (xV t), some (xV wi), some (xV wt), none] [] (xS a b) Q := by
  refine x_iloadn xc233_0 rfl ?_
  refine x_iloadn xc233_1 rfl ?_
  refine x_icne xc233_2 (xRk (by have g0 := ht; omega)) (xRk (by have g0 := xRb qwi; omega)) (fun h0 => ?_) (fun h0 => ?_)
  · refine x_aloadn xc233_9 rfl ?_
    refine x_gfr xc233_10 rfl rfl xz87 rfl ?_
    refine x_iconst xc233_13 ?_
    refine x_iloadn xc233_14 rfl ?_
    refine x_imul xc233_15 ?_
    refine x_ial xc233_16 xz120 rfl (by have g0 := ht; omega) (by have g0 := ht; omega) (by have g0 := ht; omega) ?_
    refine x_istore (pl' := [some (.ref 87), some (xV t), some (xV wi), some (xV wt), some (xV (a 120 (4 * t)))]) xc233_17 rfl rfl ?_
    refine x_aloadn xc233_19 rfl ?_
    refine x_iload xc233_20 rfl ?_
    refine x_iconst xc233_22 ?_
    refine x_iceq xc233_23 (xRk (by have g0 := ht; have g1 := xRb (hA 120 (4 * t)); omega)) (xRk (by decide)) (fun h1 => ?_) (fun h1 => ?_)
    · refine x_iconst xc233_41 ?_
      refine x_iloadn xc233_42 rfl ?_
      refine x_cV (as := [xV (-1), xV wt]) (rest := []) xc233_43 rfl xi208 xz87 ⟨rfl, rfl⟩ rfl rfl ?_
      exact k1 h0 h1
    · refine x_aloadn xc233_26 rfl ?_
      refine x_iconst xc233_27 ?_
      refine x_iload xc233_28 rfl ?_
      refine x_cV (as := [xV 0, xV (a 120 (4 * t))]) (rest := [.ref 87]) xc233_30 rfl xi206 xz87 ⟨rfl, rfl⟩ rfl rfl ?_
      exact k2 h0 h1
  · replace h0 := Classical.not_not.mp h0
    refine x_iconst xc233_5 ?_
    refine x_goto xc233_6 ?_
    refine x_istore (pl' := [some (.ref 87), some (xV t), some (xV wi), some (xV wt), some (xV (-1))]) xc233_17 rfl rfl ?_
    refine x_aloadn xc233_19 rfl ?_
    refine x_iload xc233_20 rfl ?_
    refine x_iconst xc233_22 ?_
    refine x_iceq xc233_23 (xRk (by decide)) (xRk (by decide)) (fun _ => ?_) (fun h => absurd h (by omega))
    refine x_iconst xc233_41 ?_
    refine x_iloadn xc233_42 rfl ?_
    refine x_cV (as := [xV (-1), xV wt]) (rest := []) xc233_43 rfl xi208 xz87 ⟨rfl, rfl⟩ rfl rfl ?_
    exact k3 h0

theorem xg233 {ro : Nat → Nat × (Nat → Int32)} {d : Nat} {Q : Option Value → pmS → Prop} {a : xA} {b : xB} {t wi wt : Int} (h : pmWp ro d 12 233 0 0 [some (.ref 87), some (xV t), some (xV wi), some (xV wt), none] [] (xS a b) Q) : pmCs ro (d + 1) 233 [.ref 87, xV t, xV wi, xV wt] (xS a b) Q := x_go xi233 rfl rfl rfl rfl rfl h
theorem w233a {ro : Nat → Nat × (Nat → Int32)} {d : Nat} {Q : Option Value → pmS → Prop} {t wi wt c z : Int} {a : xA} {b : xB} (hzz : z = 0 ∨ z = 1)
    (k1 : (z = 0) → pmCs ro d 208 [.ref 87, xV (-1), xV wt] (xS a b) fun r σ' => pmWp ro d 12 233 0 46 [some (.ref 87), some (xV t), some (xV wi), some (xV wt), some (xV c)] (r.toList ++ []) σ' Q)
    (k2 : (¬ z = 0) → pmCs ro d 208 [.ref 87, xV c, xV wt] (xS a b) fun r σ' => pmWp ro d 12 233 0 46 [some (.ref 87), some (xV t), some (xV wi), some (xV wt), some (xV c)] (r.toList ++ []) σ' Q) :
    pmWp ro d 12 233 0 33 [some (.ref 87), some (xV t), some (xV wi), some (xV wt), some (xV c)] [xV z, .ref 87] (xS a b) Q := by
  refine x_ifeq xc233_33 (xRk (by have g0 := hzz; omega)) (fun h0 => ?_) (fun h0 => ?_)
  · refine x_iconst xc233_41 ?_
    refine x_iloadn xc233_42 rfl ?_
    refine x_cV (as := [xV (-1), xV wt]) (rest := []) xc233_43 rfl xi208 xz87 ⟨rfl, rfl⟩ rfl rfl ?_
    exact k1 h0
  · refine x_iload xc233_36 rfl ?_
    refine x_goto xc233_38 ?_
    refine x_iloadn xc233_42 rfl ?_
    refine x_cV (as := [xV c, xV wt]) (rest := []) xc233_43 rfl xi208 xz87 ⟨rfl, rfl⟩ rfl rfl ?_
    exact k2 h0

theorem w233b {ro : Nat → Nat × (Nat → Int32)} {d : Nat} {Q : Option Value → pmS → Prop} {t wi wt c : Int} {a : xA} {b : xB}
    (k1 : Q none (xS a b)) :
    pmWp ro d 12 233 0 46 [some (.ref 87), some (xV t), some (xV wi), some (xV wt), some (xV c)] [] (xS a b) Q := by
  refine x_ret xc233_46 rfl ?_
  exact k1

theorem w234 {ro : Nat → Nat × (Nat → Int32)} {d : Nat} {Q : Option Value → pmS → Prop} {t p : Int} {a : xA} {b : xB} (ht : 1 ≤ t ∧ t ≤ 60) (hp : 0 ≤ p ∧ p ≤ 3) (hA : xAr a)
    (k1 : (¬ a 124 (4 * t + p) = a 119 p) → Q (some (xV 1)) (xS a b))
    (k2 : (a 124 (4 * t + p) = a 119 p) → (a 120 (4 * t + p) = a 116 p) → Q (some (xV 0)) (xS a b))
    (k3 : (a 124 (4 * t + p) = a 119 p) → (¬ a 120 (4 * t + p) = a 116 p) → Q (some (xV 1)) (xS a b)) :
    pmWp ro d 12 234 2 0 [some (.ref 87), some (xV t), some (xV p)] [] (xS a b) Q := by
  refine x_aloadn xc234_0 rfl ?_
  refine x_gfr xc234_1 rfl rfl xz87 rfl ?_
  refine x_iconst xc234_4 ?_
  refine x_iloadn xc234_5 rfl ?_
  refine x_imul xc234_6 ?_
  refine x_iloadn xc234_7 rfl ?_
  refine x_iadd xc234_8 ?_
  refine x_bal xc234_9 xz124 (Or.inl rfl) (by have g0 := ht; have g1 := hp; omega) (by have g0 := ht; have g1 := hp; omega) (by have g0 := ht; have g1 := hp; omega) ?_
  refine x_aloadn xc234_10 rfl ?_
  refine x_gfr xc234_11 rfl rfl xz87 rfl ?_
  refine x_iloadn xc234_14 rfl ?_
  refine x_bal xc234_15 xz119 (Or.inl rfl) (by have g0 := hp; omega) (by have g0 := hp; omega) (by have g0 := hp; omega) ?_
  refine x_icne xc234_16 (xRk (by have g0 := ht; have g1 := hp; have g2 := xRb (hA 124 (4 * t + p)); omega)) (xRk (by have g0 := hp; have g1 := xRb (hA 119 p); omega)) (fun h0 => ?_) (fun h0 => ?_)
  · refine x_iconst xc234_38 ?_
    refine x_goto xc234_39 ?_
    refine x_iret xc234_43 (Or.inr ⟨rfl, (by omega)⟩) ?_
    exact k1 h0
  · replace h0 := Classical.not_not.mp h0
    refine x_aloadn xc234_19 rfl ?_
    refine x_gfr xc234_20 rfl rfl xz87 rfl ?_
    refine x_iconst xc234_23 ?_
    refine x_iloadn xc234_24 rfl ?_
    refine x_imul xc234_25 ?_
    refine x_iloadn xc234_26 rfl ?_
    refine x_iadd xc234_27 ?_
    refine x_ial xc234_28 xz120 rfl (by have g0 := ht; have g1 := hp; omega) (by have g0 := ht; have g1 := hp; omega) (by have g0 := ht; have g1 := hp; omega) ?_
    refine x_aloadn xc234_29 rfl ?_
    refine x_gfr xc234_30 rfl rfl xz87 rfl ?_
    refine x_iloadn xc234_33 rfl ?_
    refine x_ial xc234_34 xz116 rfl (by have g0 := hp; omega) (by have g0 := hp; omega) (by have g0 := hp; omega) ?_
    refine x_iceq xc234_35 (xRk (by have g0 := ht; have g1 := hp; have g2 := xRb (hA 120 (4 * t + p)); omega)) (xRk (by have g0 := hp; have g1 := xRb (hA 116 p); omega)) (fun h1 => ?_) (fun h1 => ?_)
    · refine x_iconst xc234_42 ?_
      refine x_iret xc234_43 (Or.inr ⟨rfl, (by omega)⟩) ?_
      exact k2 h0 h1
    · refine x_iconst xc234_38 ?_
      refine x_goto xc234_39 ?_
      refine x_iret xc234_43 (Or.inr ⟨rfl, (by omega)⟩) ?_
      exact k3 h0 h1

theorem xg234 {ro : Nat → Nat × (Nat → Int32)} {d : Nat} {Q : Option Value → pmS → Prop} {a : xA} {b : xB} {t p : Int} (h : pmWp ro d 12 234 2 0 [some (.ref 87), some (xV t), some (xV p)] [] (xS a b) Q) : pmCs ro (d + 1) 234 [.ref 87, xV t, xV p] (xS a b) Q := x_go xi234 rfl rfl rfl rfl rfl h
theorem w235 {ro : Nat → Nat × (Nat → Int32)} {d : Nat} {Q : Option Value → pmS → Prop} {t : Int} {a : xA} {b : xB} (ht : 1 ≤ t ∧ t ≤ 60) (hA : xAr a)
    (k1 : pmCs ro d 217 [.ref 87, xV (a 123 t)] (xS a b) fun r σ' => pmWp ro d 12 235 0 10 [some (.ref 87), some (xV t)] (r.toList ++ []) σ' Q) :
    pmWp ro d 12 235 0 0 [some (.ref 87), some (xV t)] [] (xS a b) Q := by
  refine x_aloadn xc235_0 rfl ?_
  refine x_aloadn xc235_1 rfl ?_
  refine x_gfr xc235_2 rfl rfl xz87 rfl ?_
  refine x_iloadn xc235_5 rfl ?_
  refine x_ial xc235_6 xz123 rfl (by have g0 := ht; omega) (by have g0 := ht; omega) (by have g0 := ht; omega) ?_
  refine x_cV (as := [xV (a 123 t)]) (rest := []) xc235_7 rfl xi217 xz87 ⟨rfl, rfl⟩ rfl rfl ?_
  exact k1

theorem xg235 {ro : Nat → Nat × (Nat → Int32)} {d : Nat} {Q : Option Value → pmS → Prop} {a : xA} {b : xB} {t : Int} (h : pmWp ro d 12 235 0 0 [some (.ref 87), some (xV t)] [] (xS a b) Q) : pmCs ro (d + 1) 235 [.ref 87, xV t] (xS a b) Q := x_go xi235 rfl rfl rfl rfl rfl h
theorem w235a {ro : Nat → Nat × (Nat → Int32)} {d : Nat} {Q : Option Value → pmS → Prop} {t z : Int} {a : xA} {b : xB} (ht : 1 ≤ t ∧ t ≤ 60) (hzz : z = 0 ∨ z = 1) (hA : xAr a)
    (k1 : (z = 0) → Q none (xS a b))
    (k2 : (¬ z = 0) → pmCs ro d 221 [.ref 87, xV (a 123 t)] (xS a b) fun r σ' => pmWp ro d 12 235 0 23 [some (.ref 87), some (xV t)] (r.toList ++ []) σ' Q) :
    pmWp ro d 12 235 0 10 [some (.ref 87), some (xV t)] [xV z] (xS a b) Q := by
  refine x_ifeq xc235_10 (xRk (by have g0 := hzz; omega)) (fun h0 => ?_) (fun h0 => ?_)
  · refine x_ret xc235_23 rfl ?_
    exact k1 h0
  · refine x_aloadn xc235_13 rfl ?_
    refine x_aloadn xc235_14 rfl ?_
    refine x_gfr xc235_15 rfl rfl xz87 rfl ?_
    refine x_iloadn xc235_18 rfl ?_
    refine x_ial xc235_19 xz123 rfl (by have g0 := ht; omega) (by have g0 := ht; omega) (by have g0 := ht; omega) ?_
    refine x_cV (as := [xV (a 123 t)]) (rest := []) xc235_20 rfl xi221 xz87 ⟨rfl, rfl⟩ rfl rfl ?_
    exact k2 h0

theorem w235b {ro : Nat → Nat × (Nat → Int32)} {d : Nat} {Q : Option Value → pmS → Prop} {t : Int} {a : xA} {b : xB}
    (k1 : Q none (xS a b)) :
    pmWp ro d 12 235 0 23 [some (.ref 87), some (xV t)] [] (xS a b) Q := by
  refine x_ret xc235_23 rfl ?_
  exact k1

end
