/-! exact: the teller -/
section
set_option maxRecDepth 100000
theorem xi111 : pmInf[111]? = some pmI_111 := rfl
theorem xi112 : pmInf[112]? = some pmI_112 := rfl
theorem xc110_7 : pmCode 110 7 = some (.iload_n 1) ∧ 7 + 1 = 8 := ⟨rfl, rfl⟩
theorem xc110_8 : pmCode 110 8 = some (.ifCond .lt 8) ∧ ((8 : Nat) : Int) + 8 = ((16 : Nat) : Int) ∧ 8 + 3 = 11 := ⟨rfl, rfl, rfl⟩
theorem xc110_11 : pmCode 110 11 = some (.iload_n 1) ∧ 11 + 1 = 12 := ⟨rfl, rfl⟩
theorem xc110_12 : pmCode 110 12 = some (.iconst 2) ∧ 12 + 1 = 13 := ⟨rfl, rfl⟩
theorem xc110_13 : pmCode 110 13 = some (.if_icmp .le 5) ∧ ((13 : Nat) : Int) + 5 = ((18 : Nat) : Int) ∧ 13 + 3 = 16 := ⟨rfl, rfl, rfl⟩
theorem xc110_18 : pmCode 110 18 = some (.aload_n 0) ∧ 18 + 1 = 19 := ⟨rfl, rfl⟩
theorem xc110_19 : pmCode 110 19 = some (.getfield 88) ∧ 19 + 3 = 22 := ⟨rfl, rfl⟩
theorem xc110_22 : pmCode 110 22 = some (.aload_n 0) ∧ 22 + 1 = 23 := ⟨rfl, rfl⟩
theorem xc110_23 : pmCode 110 23 = some (.getfield 40) ∧ 23 + 3 = 26 := ⟨rfl, rfl⟩
theorem xc110_26 : pmCode 110 26 = some (.iload_n 1) ∧ 26 + 1 = 27 := ⟨rfl, rfl⟩
theorem xc110_27 : pmCode 110 27 = some (.invokevirtual 261) ∧ 27 + 3 = 30 := ⟨rfl, rfl⟩
theorem xc110_30 : pmCode 110 30 = some (.ifCond .lt 7) ∧ ((30 : Nat) : Int) + 7 = ((37 : Nat) : Int) ∧ 30 + 3 = 33 := ⟨rfl, rfl, rfl⟩
theorem xc110_33 : pmCode 110 33 = some (.iconst 1) ∧ 33 + 1 = 34 := ⟨rfl, rfl⟩
theorem xc110_34 : pmCode 110 34 = some (.goto 4) ∧ ((34 : Nat) : Int) + 4 = ((38 : Nat) : Int) := ⟨rfl, rfl⟩
theorem xc110_37 : pmCode 110 37 = some (.iconst 0) ∧ 37 + 1 = 38 := ⟨rfl, rfl⟩
theorem xc110_38 : pmCode 110 38 = some .ireturn := rfl
theorem xc111_0 : pmCode 111 0 = some (.aload_n 1) ∧ 0 + 1 = 1 := ⟨rfl, rfl⟩
theorem xc111_1 : pmCode 111 1 = some (.getfield 88) ∧ 1 + 3 = 4 := ⟨rfl, rfl⟩
theorem xc111_4 : pmCode 111 4 = some (.ifCond .gt 12) ∧ ((4 : Nat) : Int) + 12 = ((16 : Nat) : Int) ∧ 4 + 3 = 7 := ⟨rfl, rfl, rfl⟩
theorem xc111_7 : pmCode 111 7 = some (.iload_n 2) ∧ 7 + 1 = 8 := ⟨rfl, rfl⟩
theorem xc111_8 : pmCode 111 8 = some (.ifCond .lt 8) ∧ ((8 : Nat) : Int) + 8 = ((16 : Nat) : Int) ∧ 8 + 3 = 11 := ⟨rfl, rfl, rfl⟩
theorem xc111_11 : pmCode 111 11 = some (.iload_n 2) ∧ 11 + 1 = 12 := ⟨rfl, rfl⟩
theorem xc111_12 : pmCode 111 12 = some (.iconst 2) ∧ 12 + 1 = 13 := ⟨rfl, rfl⟩
theorem xc111_13 : pmCode 111 13 = some (.if_icmp .le 5) ∧ ((13 : Nat) : Int) + 5 = ((18 : Nat) : Int) ∧ 13 + 3 = 16 := ⟨rfl, rfl, rfl⟩
theorem xc111_16 : pmCode 111 16 = some (.iconst (-1)) ∧ 16 + 1 = 17 := ⟨rfl, rfl⟩
theorem xc111_17 : pmCode 111 17 = some .ireturn := rfl
theorem xc111_18 : pmCode 111 18 = some (.iload_n 2) ∧ 18 + 1 = 19 := ⟨rfl, rfl⟩
theorem xc111_19 : pmCode 111 19 = some (.ifCond .ne 5) ∧ ((19 : Nat) : Int) + 5 = ((24 : Nat) : Int) ∧ 19 + 3 = 22 := ⟨rfl, rfl, rfl⟩
theorem xc111_22 : pmCode 111 22 = some (.iconst 0) ∧ 22 + 1 = 23 := ⟨rfl, rfl⟩
theorem xc111_23 : pmCode 111 23 = some .ireturn := rfl
theorem xc111_24 : pmCode 111 24 = some (.aload_n 1) ∧ 24 + 1 = 25 := ⟨rfl, rfl⟩
theorem xc111_25 : pmCode 111 25 = some (.getfield 91) ∧ 25 + 3 = 28 := ⟨rfl, rfl⟩
theorem xc111_28 : pmCode 111 28 = some (.iload_n 2) ∧ 28 + 1 = 29 := ⟨rfl, rfl⟩
theorem xc111_29 : pmCode 111 29 = some .iaload ∧ 29 + 1 = 30 := ⟨rfl, rfl⟩
theorem xc111_30 : pmCode 111 30 = some (.ifCond .eq 12) ∧ ((30 : Nat) : Int) + 12 = ((42 : Nat) : Int) ∧ 30 + 3 = 33 := ⟨rfl, rfl, rfl⟩
theorem xc111_33 : pmCode 111 33 = some (.aload_n 1) ∧ 33 + 1 = 34 := ⟨rfl, rfl⟩
theorem xc111_34 : pmCode 111 34 = some (.getfield 91) ∧ 34 + 3 = 37 := ⟨rfl, rfl⟩
theorem xc111_37 : pmCode 111 37 = some (.iload_n 2) ∧ 37 + 1 = 38 := ⟨rfl, rfl⟩
theorem xc111_38 : pmCode 111 38 = some .iaload ∧ 38 + 1 = 39 := ⟨rfl, rfl⟩
theorem xc111_39 : pmCode 111 39 = some (.iconst 2) ∧ 39 + 1 = 40 := ⟨rfl, rfl⟩
theorem xc111_40 : pmCode 111 40 = some .isub ∧ 40 + 1 = 41 := ⟨rfl, rfl⟩
theorem xc111_41 : pmCode 111 41 = some .ireturn := rfl
theorem xc111_42 : pmCode 111 42 = some (.aload_n 0) ∧ 42 + 1 = 43 := ⟨rfl, rfl⟩
theorem xc111_43 : pmCode 111 43 = some (.aload_n 1) ∧ 43 + 1 = 44 := ⟨rfl, rfl⟩
theorem xc111_44 : pmCode 111 44 = some (.iload_n 2) ∧ 44 + 1 = 45 := ⟨rfl, rfl⟩
theorem xc111_45 : pmCode 111 45 = some (.invokevirtual 94) ∧ 45 + 3 = 48 := ⟨rfl, rfl⟩
theorem xc111_48 : pmCode 111 48 = some (.ifCond .eq 7) ∧ ((48 : Nat) : Int) + 7 = ((55 : Nat) : Int) ∧ 48 + 3 = 51 := ⟨rfl, rfl, rfl⟩
theorem xc111_51 : pmCode 111 51 = some (.iconst 0) ∧ 51 + 1 = 52 := ⟨rfl, rfl⟩
theorem xc111_52 : pmCode 111 52 = some (.goto 4) ∧ ((52 : Nat) : Int) + 4 = ((56 : Nat) : Int) := ⟨rfl, rfl⟩
theorem xc111_55 : pmCode 111 55 = some (.iconst (-1)) ∧ 55 + 1 = 56 := ⟨rfl, rfl⟩
theorem xc111_56 : pmCode 111 56 = some (.istore_n 3) ∧ 56 + 1 = 57 := ⟨rfl, rfl⟩
theorem xc111_57 : pmCode 111 57 = some (.aload_n 0) ∧ 57 + 1 = 58 := ⟨rfl, rfl⟩
theorem xc111_58 : pmCode 111 58 = some (.aload_n 1) ∧ 58 + 1 = 59 := ⟨rfl, rfl⟩
theorem xc111_59 : pmCode 111 59 = some (.bipush 64) ∧ 59 + 2 = 61 := ⟨rfl, rfl⟩
theorem xc111_61 : pmCode 111 61 = some (.invokevirtual 71) ∧ 61 + 3 = 64 := ⟨rfl, rfl⟩
theorem xc111_64 : pmCode 111 64 = some (.aload_n 0) ∧ 64 + 1 = 65 := ⟨rfl, rfl⟩
theorem xc111_65 : pmCode 111 65 = some (.aload_n 1) ∧ 65 + 1 = 66 := ⟨rfl, rfl⟩
theorem xc111_66 : pmCode 111 66 = some (.sipush 128) ∧ 66 + 3 = 69 := ⟨rfl, rfl⟩
theorem xc111_69 : pmCode 111 69 = some (.invokevirtual 71) ∧ 69 + 3 = 72 := ⟨rfl, rfl⟩
theorem xc111_72 : pmCode 111 72 = some (.if_icmp .gt 7) ∧ ((72 : Nat) : Int) + 7 = ((79 : Nat) : Int) ∧ 72 + 3 = 75 := ⟨rfl, rfl, rfl⟩
theorem xc111_75 : pmCode 111 75 = some (.iconst 1) ∧ 75 + 1 = 76 := ⟨rfl, rfl⟩
theorem xc111_76 : pmCode 111 76 = some (.goto 4) ∧ ((76 : Nat) : Int) + 4 = ((80 : Nat) : Int) := ⟨rfl, rfl⟩
theorem xc111_79 : pmCode 111 79 = some (.iconst 0) ∧ 79 + 1 = 80 := ⟨rfl, rfl⟩
theorem xc111_80 : pmCode 111 80 = some (.istore 4) ∧ 80 + 2 = 82 := ⟨rfl, rfl⟩
theorem xc111_82 : pmCode 111 82 = some (.iconst 0) ∧ 82 + 1 = 83 := ⟨rfl, rfl⟩
theorem xc111_83 : pmCode 111 83 = some (.istore 5) ∧ 83 + 2 = 85 := ⟨rfl, rfl⟩
theorem xc111_85 : pmCode 111 85 = some (.iload 5) ∧ 85 + 2 = 87 := ⟨rfl, rfl⟩
theorem xc111_87 : pmCode 111 87 = some (.sipush 128) ∧ 87 + 3 = 90 := ⟨rfl, rfl⟩
theorem xc111_90 : pmCode 111 90 = some (.if_icmp .ge 104) ∧ ((90 : Nat) : Int) + 104 = ((194 : Nat) : Int) ∧ 90 + 3 = 93 := ⟨rfl, rfl, rfl⟩
theorem xc111_93 : pmCode 111 93 = some (.iload_n 3) ∧ 93 + 1 = 94 := ⟨rfl, rfl⟩
theorem xc111_94 : pmCode 111 94 = some (.iconst (-1)) ∧ 94 + 1 = 95 := ⟨rfl, rfl⟩
theorem xc111_95 : pmCode 111 95 = some (.if_icmp .ne 99) ∧ ((95 : Nat) : Int) + 99 = ((194 : Nat) : Int) ∧ 95 + 3 = 98 := ⟨rfl, rfl, rfl⟩
theorem xc111_98 : pmCode 111 98 = some (.iload 5) ∧ 98 + 2 = 100 := ⟨rfl, rfl⟩
theorem xc111_100 : pmCode 111 100 = some (.bipush 64) ∧ 100 + 2 = 102 := ⟨rfl, rfl⟩
theorem xc111_102 : pmCode 111 102 = some (.if_icmp .ge 7) ∧ ((102 : Nat) : Int) + 7 = ((109 : Nat) : Int) ∧ 102 + 3 = 105 := ⟨rfl, rfl, rfl⟩
theorem xc111_105 : pmCode 111 105 = some (.iconst 1) ∧ 105 + 1 = 106 := ⟨rfl, rfl⟩
theorem xc111_106 : pmCode 111 106 = some (.goto 4) ∧ ((106 : Nat) : Int) + 4 = ((110 : Nat) : Int) := ⟨rfl, rfl⟩
theorem xc111_109 : pmCode 111 109 = some (.iconst 0) ∧ 109 + 1 = 110 := ⟨rfl, rfl⟩
theorem xc111_110 : pmCode 111 110 = some (.iload 4) ∧ 110 + 2 = 112 := ⟨rfl, rfl⟩
theorem xc111_112 : pmCode 111 112 = some (.if_icmp .ne 7) ∧ ((112 : Nat) : Int) + 7 = ((119 : Nat) : Int) ∧ 112 + 3 = 115 := ⟨rfl, rfl, rfl⟩
theorem xc111_115 : pmCode 111 115 = some (.iconst 1) ∧ 115 + 1 = 116 := ⟨rfl, rfl⟩
theorem xc111_116 : pmCode 111 116 = some (.goto 4) ∧ ((116 : Nat) : Int) + 4 = ((120 : Nat) : Int) := ⟨rfl, rfl⟩
theorem xc111_119 : pmCode 111 119 = some (.iconst 2) ∧ 119 + 1 = 120 := ⟨rfl, rfl⟩
theorem xc111_120 : pmCode 111 120 = some (.istore 6) ∧ 120 + 2 = 122 := ⟨rfl, rfl⟩
theorem xc111_122 : pmCode 111 122 = some (.iload 6) ∧ 122 + 2 = 124 := ⟨rfl, rfl⟩
theorem xc111_124 : pmCode 111 124 = some (.bipush 6) ∧ 124 + 2 = 126 := ⟨rfl, rfl⟩
theorem xc111_126 : pmCode 111 126 = some .ishl ∧ 126 + 1 = 127 := ⟨rfl, rfl⟩
theorem xc111_127 : pmCode 111 127 = some (.iload 5) ∧ 127 + 2 = 129 := ⟨rfl, rfl⟩
theorem xc111_129 : pmCode 111 129 = some (.bipush 64) ∧ 129 + 2 = 131 := ⟨rfl, rfl⟩
theorem xc111_131 : pmCode 111 131 = some .irem ∧ 131 + 1 = 132 := ⟨rfl, rfl⟩
theorem xc111_132 : pmCode 111 132 = some .ior ∧ 132 + 1 = 133 := ⟨rfl, rfl⟩
theorem xc111_133 : pmCode 111 133 = some (.istore 7) ∧ 133 + 2 = 135 := ⟨rfl, rfl⟩
theorem xc111_135 : pmCode 111 135 = some (.aload_n 0) ∧ 135 + 1 = 136 := ⟨rfl, rfl⟩
theorem xc111_136 : pmCode 111 136 = some (.aload_n 1) ∧ 136 + 1 = 137 := ⟨rfl, rfl⟩
theorem xc111_137 : pmCode 111 137 = some (.iload 7) ∧ 137 + 2 = 139 := ⟨rfl, rfl⟩
theorem xc111_139 : pmCode 111 139 = some (.invokevirtual 98) ∧ 139 + 3 = 142 := ⟨rfl, rfl⟩
theorem xc111_142 : pmCode 111 142 = some (.ifCond .eq 46) ∧ ((142 : Nat) : Int) + 46 = ((188 : Nat) : Int) ∧ 142 + 3 = 145 := ⟨rfl, rfl, rfl⟩
theorem xc111_145 : pmCode 111 145 = some (.aload_n 0) ∧ 145 + 1 = 146 := ⟨rfl, rfl⟩
theorem xc111_146 : pmCode 111 146 = some (.getfield 12) ∧ 146 + 3 = 149 := ⟨rfl, rfl⟩
theorem xc111_149 : pmCode 111 149 = some (.iload_n 2) ∧ 149 + 1 = 150 := ⟨rfl, rfl⟩
theorem xc111_150 : pmCode 111 150 = some .aaload ∧ 150 + 1 = 151 := ⟨rfl, rfl⟩
theorem xc111_151 : pmCode 111 151 = some (.aload_n 1) ∧ 151 + 1 = 152 := ⟨rfl, rfl⟩
theorem xc111_152 : pmCode 111 152 = some (.invokevirtual 101) ∧ 152 + 3 = 155 := ⟨rfl, rfl⟩
theorem xc111_155 : pmCode 111 155 = some (.aload_n 0) ∧ 155 + 1 = 156 := ⟨rfl, rfl⟩
theorem xc111_156 : pmCode 111 156 = some (.aload_n 0) ∧ 156 + 1 = 157 := ⟨rfl, rfl⟩
theorem xc111_157 : pmCode 111 157 = some (.getfield 12) ∧ 157 + 3 = 160 := ⟨rfl, rfl⟩
theorem xc111_160 : pmCode 111 160 = some (.iload_n 2) ∧ 160 + 1 = 161 := ⟨rfl, rfl⟩
theorem xc111_161 : pmCode 111 161 = some .aaload ∧ 161 + 1 = 162 := ⟨rfl, rfl⟩
theorem xc111_162 : pmCode 111 162 = some (.iload 7) ∧ 162 + 2 = 164 := ⟨rfl, rfl⟩
theorem xc111_164 : pmCode 111 164 = some (.invokevirtual 104) ∧ 164 + 3 = 167 := ⟨rfl, rfl⟩
theorem xc111_167 : pmCode 111 167 = some (.aload_n 0) ∧ 167 + 1 = 168 := ⟨rfl, rfl⟩
theorem xc111_168 : pmCode 111 168 = some (.aload_n 0) ∧ 168 + 1 = 169 := ⟨rfl, rfl⟩
theorem xc111_169 : pmCode 111 169 = some (.getfield 12) ∧ 169 + 3 = 172 := ⟨rfl, rfl⟩
theorem xc111_172 : pmCode 111 172 = some (.iload_n 2) ∧ 172 + 1 = 173 := ⟨rfl, rfl⟩
theorem xc111_173 : pmCode 111 173 = some .aaload ∧ 173 + 1 = 174 := ⟨rfl, rfl⟩
theorem xc111_174 : pmCode 111 174 = some (.iload_n 2) ∧ 174 + 1 = 175 := ⟨rfl, rfl⟩
theorem xc111_175 : pmCode 111 175 = some (.invokevirtual 94) ∧ 175 + 3 = 178 := ⟨rfl, rfl⟩
theorem xc111_178 : pmCode 111 178 = some (.ifCond .eq 8) ∧ ((178 : Nat) : Int) + 8 = ((186 : Nat) : Int) ∧ 178 + 3 = 181 := ⟨rfl, rfl, rfl⟩
theorem xc111_181 : pmCode 111 181 = some (.iload 7) ∧ 181 + 2 = 183 := ⟨rfl, rfl⟩
theorem xc111_183 : pmCode 111 183 = some (.goto 4) ∧ ((183 : Nat) : Int) + 4 = ((187 : Nat) : Int) := ⟨rfl, rfl⟩
theorem xc111_186 : pmCode 111 186 = some (.iconst (-1)) ∧ 186 + 1 = 187 := ⟨rfl, rfl⟩
theorem xc111_187 : pmCode 111 187 = some (.istore_n 3) ∧ 187 + 1 = 188 := ⟨rfl, rfl⟩
theorem xc111_188 : pmCode 111 188 = some (.iinc 5 1) ∧ 188 + 3 = 191 := ⟨rfl, rfl⟩
theorem xc111_191 : pmCode 111 191 = some (.goto (-106)) ∧ ((191 : Nat) : Int) + (-106) = ((85 : Nat) : Int) := ⟨rfl, rfl⟩
theorem xc111_194 : pmCode 111 194 = some (.aload_n 1) ∧ 194 + 1 = 195 := ⟨rfl, rfl⟩
theorem xc111_195 : pmCode 111 195 = some (.getfield 91) ∧ 195 + 3 = 198 := ⟨rfl, rfl⟩
theorem xc111_198 : pmCode 111 198 = some (.iload_n 2) ∧ 198 + 1 = 199 := ⟨rfl, rfl⟩
theorem xc111_199 : pmCode 111 199 = some (.iload_n 3) ∧ 199 + 1 = 200 := ⟨rfl, rfl⟩
theorem xc111_200 : pmCode 111 200 = some (.iconst 2) ∧ 200 + 1 = 201 := ⟨rfl, rfl⟩
theorem xc111_201 : pmCode 111 201 = some .iadd ∧ 201 + 1 = 202 := ⟨rfl, rfl⟩
theorem xc111_202 : pmCode 111 202 = some .iastore ∧ 202 + 1 = 203 := ⟨rfl, rfl⟩
theorem xc111_203 : pmCode 111 203 = some (.iload_n 3) ∧ 203 + 1 = 204 := ⟨rfl, rfl⟩
theorem xc111_204 : pmCode 111 204 = some .ireturn := rfl
theorem xc112_0 : pmCode 112 0 = some (.iload_n 2) ∧ 0 + 1 = 1 := ⟨rfl, rfl⟩
theorem xc112_1 : pmCode 112 1 = some (.iconst 1) ∧ 1 + 1 = 2 := ⟨rfl, rfl⟩
theorem xc112_2 : pmCode 112 2 = some (.if_icmp .lt 8) ∧ ((2 : Nat) : Int) + 8 = ((10 : Nat) : Int) ∧ 2 + 3 = 5 := ⟨rfl, rfl, rfl⟩
theorem xc112_5 : pmCode 112 5 = some (.iload_n 2) ∧ 5 + 1 = 6 := ⟨rfl, rfl⟩
theorem xc112_6 : pmCode 112 6 = some (.iconst 2) ∧ 6 + 1 = 7 := ⟨rfl, rfl⟩
theorem xc112_7 : pmCode 112 7 = some (.if_icmp .le 5) ∧ ((7 : Nat) : Int) + 5 = ((12 : Nat) : Int) ∧ 7 + 3 = 10 := ⟨rfl, rfl, rfl⟩
theorem xc112_12 : pmCode 112 12 = some (.aload_n 0) ∧ 12 + 1 = 13 := ⟨rfl, rfl⟩
theorem xc112_13 : pmCode 112 13 = some (.getfield 18) ∧ 13 + 3 = 16 := ⟨rfl, rfl⟩
theorem xc112_16 : pmCode 112 16 = some (.iload_n 2) ∧ 16 + 1 = 17 := ⟨rfl, rfl⟩
theorem xc112_17 : pmCode 112 17 = some .aaload ∧ 17 + 1 = 18 := ⟨rfl, rfl⟩
theorem xc112_18 : pmCode 112 18 = some (.astore_n 3) ∧ 18 + 1 = 19 := ⟨rfl, rfl⟩
theorem xc112_19 : pmCode 112 19 = some (.aload_n 0) ∧ 19 + 1 = 20 := ⟨rfl, rfl⟩
theorem xc112_20 : pmCode 112 20 = some (.getfield 21) ∧ 20 + 3 = 23 := ⟨rfl, rfl⟩
theorem xc112_23 : pmCode 112 23 = some (.iload_n 2) ∧ 23 + 1 = 24 := ⟨rfl, rfl⟩
theorem xc112_24 : pmCode 112 24 = some .iaload ∧ 24 + 1 = 25 := ⟨rfl, rfl⟩
theorem xc112_25 : pmCode 112 25 = some (.istore 4) ∧ 25 + 2 = 27 := ⟨rfl, rfl⟩
theorem xc112_27 : pmCode 112 27 = some (.iconst (-1)) ∧ 27 + 1 = 28 := ⟨rfl, rfl⟩
theorem xc112_28 : pmCode 112 28 = some (.istore 5) ∧ 28 + 2 = 30 := ⟨rfl, rfl⟩
theorem xc112_30 : pmCode 112 30 = some (.iload 5) ∧ 30 + 2 = 32 := ⟨rfl, rfl⟩
theorem xc112_32 : pmCode 112 32 = some (.bipush 62) ∧ 32 + 2 = 34 := ⟨rfl, rfl⟩
theorem xc112_34 : pmCode 112 34 = some (.if_icmp .ge 124) ∧ ((34 : Nat) : Int) + 124 = ((158 : Nat) : Int) ∧ 34 + 3 = 37 := ⟨rfl, rfl, rfl⟩
theorem xc112_37 : pmCode 112 37 = some (.iload 5) ∧ 37 + 2 = 39 := ⟨rfl, rfl⟩
theorem xc112_39 : pmCode 112 39 = some (.ifCond .ge 8) ∧ ((39 : Nat) : Int) + 8 = ((47 : Nat) : Int) ∧ 39 + 3 = 42 := ⟨rfl, rfl, rfl⟩
theorem xc112_42 : pmCode 112 42 = some (.iload 4) ∧ 42 + 2 = 44 := ⟨rfl, rfl⟩
theorem xc112_44 : pmCode 112 44 = some (.goto 13) ∧ ((44 : Nat) : Int) + 13 = ((57 : Nat) : Int) := ⟨rfl, rfl⟩
theorem xc112_47 : pmCode 112 47 = some (.aload_n 0) ∧ 47 + 1 = 48 := ⟨rfl, rfl⟩
theorem xc112_48 : pmCode 112 48 = some (.getfield 25) ∧ 48 + 3 = 51 := ⟨rfl, rfl⟩
theorem xc112_51 : pmCode 112 51 = some (.getfield 108) ∧ 51 + 3 = 54 := ⟨rfl, rfl⟩
theorem xc112_54 : pmCode 112 54 = some (.iload 5) ∧ 54 + 2 = 56 := ⟨rfl, rfl⟩
theorem xc112_56 : pmCode 112 56 = some .iaload ∧ 56 + 1 = 57 := ⟨rfl, rfl⟩
theorem xc112_57 : pmCode 112 57 = some (.istore 6) ∧ 57 + 2 = 59 := ⟨rfl, rfl⟩
theorem xc112_59 : pmCode 112 59 = some (.iload 5) ∧ 59 + 2 = 61 := ⟨rfl, rfl⟩
theorem xc112_61 : pmCode 112 61 = some (.ifCond .lt 10) ∧ ((61 : Nat) : Int) + 10 = ((71 : Nat) : Int) ∧ 61 + 3 = 64 := ⟨rfl, rfl, rfl⟩
theorem xc112_64 : pmCode 112 64 = some (.iload 6) ∧ 64 + 2 = 66 := ⟨rfl, rfl⟩
theorem xc112_66 : pmCode 112 66 = some (.iload 4) ∧ 66 + 2 = 68 := ⟨rfl, rfl⟩
theorem xc112_68 : pmCode 112 68 = some (.if_icmp .eq 84) ∧ ((68 : Nat) : Int) + 84 = ((152 : Nat) : Int) ∧ 68 + 3 = 71 := ⟨rfl, rfl, rfl⟩
theorem xc112_71 : pmCode 112 71 = some (.aload_n 0) ∧ 71 + 1 = 72 := ⟨rfl, rfl⟩
theorem xc112_72 : pmCode 112 72 = some (.getfield 25) ∧ 72 + 3 = 75 := ⟨rfl, rfl⟩
theorem xc112_75 : pmCode 112 75 = some (.aload_n 1) ∧ 75 + 1 = 76 := ⟨rfl, rfl⟩
theorem xc112_76 : pmCode 112 76 = some (.getfield 40) ∧ 76 + 3 = 79 := ⟨rfl, rfl⟩
theorem xc112_79 : pmCode 112 79 = some (.iconst 0) ∧ 79 + 1 = 80 := ⟨rfl, rfl⟩
theorem xc112_80 : pmCode 112 80 = some (.iload 6) ∧ 80 + 2 = 82 := ⟨rfl, rfl⟩
theorem xc112_82 : pmCode 112 82 = some (.invokevirtual 111) ∧ 82 + 3 = 85 := ⟨rfl, rfl⟩
theorem xc112_85 : pmCode 112 85 = some (.ifCond .ne 6) ∧ ((85 : Nat) : Int) + 6 = ((91 : Nat) : Int) ∧ 85 + 3 = 88 := ⟨rfl, rfl, rfl⟩
theorem xc112_88 : pmCode 112 88 = some (.goto 64) ∧ ((88 : Nat) : Int) + 64 = ((152 : Nat) : Int) := ⟨rfl, rfl⟩
theorem xc112_91 : pmCode 112 91 = some (.aload_n 3) ∧ 91 + 1 = 92 := ⟨rfl, rfl⟩
theorem xc112_92 : pmCode 112 92 = some (.aload_n 1) ∧ 92 + 1 = 93 := ⟨rfl, rfl⟩
theorem xc112_93 : pmCode 112 93 = some (.invokevirtual 101) ∧ 93 + 3 = 96 := ⟨rfl, rfl⟩
theorem xc112_96 : pmCode 112 96 = some (.aload_n 0) ∧ 96 + 1 = 97 := ⟨rfl, rfl⟩
theorem xc112_97 : pmCode 112 97 = some (.getfield 29) ∧ 97 + 3 = 100 := ⟨rfl, rfl⟩
theorem xc112_100 : pmCode 112 100 = some (.aload_n 3) ∧ 100 + 1 = 101 := ⟨rfl, rfl⟩
theorem xc112_101 : pmCode 112 101 = some (.iload 6) ∧ 101 + 2 = 103 := ⟨rfl, rfl⟩
theorem xc112_103 : pmCode 112 103 = some (.invokevirtual 115) ∧ 103 + 3 = 106 := ⟨rfl, rfl⟩
theorem xc112_106 : pmCode 112 106 = some (.iload 6) ∧ 106 + 2 = 108 := ⟨rfl, rfl⟩
theorem xc112_108 : pmCode 112 108 = some (.ifCond .eq 14) ∧ ((108 : Nat) : Int) + 14 = ((122 : Nat) : Int) ∧ 108 + 3 = 111 := ⟨rfl, rfl, rfl⟩
theorem xc112_111 : pmCode 112 111 = some (.aload_n 3) ∧ 111 + 1 = 112 := ⟨rfl, rfl⟩
theorem xc112_112 : pmCode 112 112 = some (.aload_n 1) ∧ 112 + 1 = 113 := ⟨rfl, rfl⟩
theorem xc112_113 : pmCode 112 113 = some (.invokevirtual 118) ∧ 113 + 3 = 116 := ⟨rfl, rfl⟩
theorem xc112_116 : pmCode 112 116 = some (.ifCond .eq 6) ∧ ((116 : Nat) : Int) + 6 = ((122 : Nat) : Int) ∧ 116 + 3 = 119 := ⟨rfl, rfl, rfl⟩
theorem xc112_119 : pmCode 112 119 = some (.goto 33) ∧ ((119 : Nat) : Int) + 33 = ((152 : Nat) : Int) := ⟨rfl, rfl⟩
theorem xc112_122 : pmCode 112 122 = some (.aload_n 0) ∧ 122 + 1 = 123 := ⟨rfl, rfl⟩
theorem xc112_123 : pmCode 112 123 = some (.getfield 29) ∧ 123 + 3 = 126 := ⟨rfl, rfl⟩
theorem xc112_126 : pmCode 112 126 = some (.aload_n 3) ∧ 126 + 1 = 127 := ⟨rfl, rfl⟩
theorem xc112_127 : pmCode 112 127 = some (.iconst 0) ∧ 127 + 1 = 128 := ⟨rfl, rfl⟩
theorem xc112_128 : pmCode 112 128 = some (.invokevirtual 122) ∧ 128 + 3 = 131 := ⟨rfl, rfl⟩
theorem xc112_131 : pmCode 112 131 = some (.aload_n 0) ∧ 131 + 1 = 132 := ⟨rfl, rfl⟩
theorem xc112_132 : pmCode 112 132 = some (.aload_n 3) ∧ 132 + 1 = 133 := ⟨rfl, rfl⟩
theorem xc112_133 : pmCode 112 133 = some (.iload_n 2) ∧ 133 + 1 = 134 := ⟨rfl, rfl⟩
theorem xc112_134 : pmCode 112 134 = some (.iconst 1) ∧ 134 + 1 = 135 := ⟨rfl, rfl⟩
theorem xc112_135 : pmCode 112 135 = some .isub ∧ 135 + 1 = 136 := ⟨rfl, rfl⟩
theorem xc112_136 : pmCode 112 136 = some (.invokevirtual 125) ∧ 136 + 3 = 139 := ⟨rfl, rfl⟩
theorem xc112_139 : pmCode 112 139 = some (.ifCond .ge 13) ∧ ((139 : Nat) : Int) + 13 = ((152 : Nat) : Int) ∧ 139 + 3 = 142 := ⟨rfl, rfl, rfl⟩
theorem xc112_142 : pmCode 112 142 = some (.aload_n 0) ∧ 142 + 1 = 143 := ⟨rfl, rfl⟩
theorem xc112_143 : pmCode 112 143 = some (.getfield 21) ∧ 143 + 3 = 146 := ⟨rfl, rfl⟩
theorem xc112_146 : pmCode 112 146 = some (.iload_n 2) ∧ 146 + 1 = 147 := ⟨rfl, rfl⟩
theorem xc112_147 : pmCode 112 147 = some (.iload 6) ∧ 147 + 2 = 149 := ⟨rfl, rfl⟩
theorem xc112_149 : pmCode 112 149 = some .iastore ∧ 149 + 1 = 150 := ⟨rfl, rfl⟩
theorem xc112_150 : pmCode 112 150 = some (.iconst 0) ∧ 150 + 1 = 151 := ⟨rfl, rfl⟩
theorem xc112_151 : pmCode 112 151 = some .ireturn := rfl
theorem xc112_152 : pmCode 112 152 = some (.iinc 5 1) ∧ 152 + 3 = 155 := ⟨rfl, rfl⟩
theorem xc112_155 : pmCode 112 155 = some (.goto (-125)) ∧ ((155 : Nat) : Int) + (-125) = ((30 : Nat) : Int) := ⟨rfl, rfl⟩
theorem xc112_158 : pmCode 112 158 = some (.iconst 1) ∧ 158 + 1 = 159 := ⟨rfl, rfl⟩
theorem xc112_159 : pmCode 112 159 = some .ireturn := rfl
theorem xc114_9 : pmCode 114 9 = some (.iconst 0) ∧ 9 + 1 = 10 := ⟨rfl, rfl⟩
theorem xc114_10 : pmCode 114 10 = some (.istore_n 1) ∧ 10 + 1 = 11 := ⟨rfl, rfl⟩
theorem xc114_11 : pmCode 114 11 = some (.iload_n 1) ∧ 11 + 1 = 12 := ⟨rfl, rfl⟩
theorem xc114_12 : pmCode 114 12 = some (.iconst 2) ∧ 12 + 1 = 13 := ⟨rfl, rfl⟩
theorem xc114_13 : pmCode 114 13 = some (.if_icmp .gt 26) ∧ ((13 : Nat) : Int) + 26 = ((39 : Nat) : Int) ∧ 13 + 3 = 16 := ⟨rfl, rfl, rfl⟩
theorem xc114_16 : pmCode 114 16 = some (.aload_n 0) ∧ 16 + 1 = 17 := ⟨rfl, rfl⟩
theorem xc114_17 : pmCode 114 17 = some (.getfield 88) ∧ 17 + 3 = 20 := ⟨rfl, rfl⟩
theorem xc114_20 : pmCode 114 20 = some (.aload_n 0) ∧ 20 + 1 = 21 := ⟨rfl, rfl⟩
theorem xc114_21 : pmCode 114 21 = some (.getfield 40) ∧ 21 + 3 = 24 := ⟨rfl, rfl⟩
theorem xc114_24 : pmCode 114 24 = some (.iload_n 1) ∧ 24 + 1 = 25 := ⟨rfl, rfl⟩
theorem xc114_25 : pmCode 114 25 = some (.invokevirtual 261) ∧ 25 + 3 = 28 := ⟨rfl, rfl⟩
theorem xc114_28 : pmCode 114 28 = some (.ifCond .ge 5) ∧ ((28 : Nat) : Int) + 5 = ((33 : Nat) : Int) ∧ 28 + 3 = 31 := ⟨rfl, rfl, rfl⟩
theorem xc114_31 : pmCode 114 31 = some (.iload_n 1) ∧ 31 + 1 = 32 := ⟨rfl, rfl⟩
theorem xc114_32 : pmCode 114 32 = some .ireturn := rfl
theorem xc114_33 : pmCode 114 33 = some (.iinc 1 1) ∧ 33 + 3 = 36 := ⟨rfl, rfl⟩
theorem xc114_36 : pmCode 114 36 = some (.goto (-25)) ∧ ((36 : Nat) : Int) + (-25) = ((11 : Nat) : Int) := ⟨rfl, rfl⟩
theorem xc114_39 : pmCode 114 39 = some (.iconst 3) ∧ 39 + 1 = 40 := ⟨rfl, rfl⟩
theorem xc114_40 : pmCode 114 40 = some .ireturn := rfl
theorem xc115_7 : pmCode 115 7 = some (.iload_n 1) ∧ 7 + 1 = 8 := ⟨rfl, rfl⟩
theorem xc115_8 : pmCode 115 8 = some (.iconst 1) ∧ 8 + 1 = 9 := ⟨rfl, rfl⟩
theorem xc115_9 : pmCode 115 9 = some (.if_icmp .lt 17) ∧ ((9 : Nat) : Int) + 17 = ((26 : Nat) : Int) ∧ 9 + 3 = 12 := ⟨rfl, rfl, rfl⟩
theorem xc115_12 : pmCode 115 12 = some (.iload_n 1) ∧ 12 + 1 = 13 := ⟨rfl, rfl⟩
theorem xc115_13 : pmCode 115 13 = some (.iconst 2) ∧ 13 + 1 = 14 := ⟨rfl, rfl⟩
theorem xc115_14 : pmCode 115 14 = some (.if_icmp .gt 12) ∧ ((14 : Nat) : Int) + 12 = ((26 : Nat) : Int) ∧ 14 + 3 = 17 := ⟨rfl, rfl, rfl⟩
theorem xc115_17 : pmCode 115 17 = some (.iload_n 2) ∧ 17 + 1 = 18 := ⟨rfl, rfl⟩
theorem xc115_18 : pmCode 115 18 = some (.ifCond .lt 8) ∧ ((18 : Nat) : Int) + 8 = ((26 : Nat) : Int) ∧ 18 + 3 = 21 := ⟨rfl, rfl, rfl⟩
theorem xc115_21 : pmCode 115 21 = some (.iload_n 2) ∧ 21 + 1 = 22 := ⟨rfl, rfl⟩
theorem xc115_22 : pmCode 115 22 = some (.iconst 3) ∧ 22 + 1 = 23 := ⟨rfl, rfl⟩
theorem xc115_23 : pmCode 115 23 = some (.if_icmp .le 5) ∧ ((23 : Nat) : Int) + 5 = ((28 : Nat) : Int) ∧ 23 + 3 = 26 := ⟨rfl, rfl, rfl⟩
theorem xc115_28 : pmCode 115 28 = some (.aload_n 0) ∧ 28 + 1 = 29 := ⟨rfl, rfl⟩
theorem xc115_29 : pmCode 115 29 = some (.getfield 88) ∧ 29 + 3 = 32 := ⟨rfl, rfl⟩
theorem xc115_32 : pmCode 115 32 = some (.aload_n 0) ∧ 32 + 1 = 33 := ⟨rfl, rfl⟩
theorem xc115_33 : pmCode 115 33 = some (.getfield 40) ∧ 33 + 3 = 36 := ⟨rfl, rfl⟩
theorem xc115_36 : pmCode 115 36 = some (.iload_n 1) ∧ 36 + 1 = 37 := ⟨rfl, rfl⟩
theorem xc115_37 : pmCode 115 37 = some (.invokevirtual 261) ∧ 37 + 3 = 40 := ⟨rfl, rfl⟩
theorem xc115_40 : pmCode 115 40 = some (.istore_n 3) ∧ 40 + 1 = 41 := ⟨rfl, rfl⟩
theorem xc115_41 : pmCode 115 41 = some (.iload_n 3) ∧ 41 + 1 = 42 := ⟨rfl, rfl⟩
theorem xc115_42 : pmCode 115 42 = some (.ifCond .ge 6) ∧ ((42 : Nat) : Int) + 6 = ((48 : Nat) : Int) ∧ 42 + 3 = 45 := ⟨rfl, rfl, rfl⟩
theorem xc115_45 : pmCode 115 45 = some (.bipush (-2)) ∧ 45 + 2 = 47 := ⟨rfl, rfl⟩
theorem xc115_47 : pmCode 115 47 = some .ireturn := rfl
theorem xc115_48 : pmCode 115 48 = some (.iload_n 2) ∧ 48 + 1 = 49 := ⟨rfl, rfl⟩
theorem xc115_49 : pmCode 115 49 = some (.tableswitch 60 0 2 #[27, 32, 47]) ∧ ((49 : Nat) : Int) + 60 = ((109 : Nat) : Int) := ⟨rfl, rfl⟩
theorem xc115_76 : pmCode 115 76 = some (.iload_n 3) ∧ 76 + 1 = 77 := ⟨rfl, rfl⟩
theorem xc115_77 : pmCode 115 77 = some (.bipush 6) ∧ 77 + 2 = 79 := ⟨rfl, rfl⟩
theorem xc115_79 : pmCode 115 79 = some .ishr ∧ 79 + 1 = 80 := ⟨rfl, rfl⟩
theorem xc115_80 : pmCode 115 80 = some .ireturn := rfl
theorem xc115_81 : pmCode 115 81 = some (.iload_n 3) ∧ 81 + 1 = 82 := ⟨rfl, rfl⟩
theorem xc115_82 : pmCode 115 82 = some (.ifCond .ne 7) ∧ ((82 : Nat) : Int) + 7 = ((89 : Nat) : Int) ∧ 82 + 3 = 85 := ⟨rfl, rfl, rfl⟩
theorem xc115_85 : pmCode 115 85 = some (.iconst (-1)) ∧ 85 + 1 = 86 := ⟨rfl, rfl⟩
theorem xc115_86 : pmCode 115 86 = some (.goto 9) ∧ ((86 : Nat) : Int) + 9 = ((95 : Nat) : Int) := ⟨rfl, rfl⟩
theorem xc115_89 : pmCode 115 89 = some (.iload_n 3) ∧ 89 + 1 = 90 := ⟨rfl, rfl⟩
theorem xc115_90 : pmCode 115 90 = some (.iconst 3) ∧ 90 + 1 = 91 := ⟨rfl, rfl⟩
theorem xc115_91 : pmCode 115 91 = some .ishr ∧ 91 + 1 = 92 := ⟨rfl, rfl⟩
theorem xc115_92 : pmCode 115 92 = some (.bipush 7) ∧ 92 + 2 = 94 := ⟨rfl, rfl⟩
theorem xc115_94 : pmCode 115 94 = some .iand ∧ 94 + 1 = 95 := ⟨rfl, rfl⟩
theorem xc115_95 : pmCode 115 95 = some .ireturn := rfl
theorem xc115_96 : pmCode 115 96 = some (.iload_n 3) ∧ 96 + 1 = 97 := ⟨rfl, rfl⟩
theorem xc115_97 : pmCode 115 97 = some (.ifCond .ne 7) ∧ ((97 : Nat) : Int) + 7 = ((104 : Nat) : Int) ∧ 97 + 3 = 100 := ⟨rfl, rfl, rfl⟩
theorem xc115_100 : pmCode 115 100 = some (.iconst (-1)) ∧ 100 + 1 = 101 := ⟨rfl, rfl⟩
theorem xc115_101 : pmCode 115 101 = some (.goto 7) ∧ ((101 : Nat) : Int) + 7 = ((108 : Nat) : Int) := ⟨rfl, rfl⟩
theorem xc115_104 : pmCode 115 104 = some (.iload_n 3) ∧ 104 + 1 = 105 := ⟨rfl, rfl⟩
theorem xc115_105 : pmCode 115 105 = some (.bipush 7) ∧ 105 + 2 = 107 := ⟨rfl, rfl⟩
theorem xc115_107 : pmCode 115 107 = some .iand ∧ 107 + 1 = 108 := ⟨rfl, rfl⟩
theorem xc115_108 : pmCode 115 108 = some .ireturn := rfl
theorem xc115_109 : pmCode 115 109 = some (.aload_n 0) ∧ 109 + 1 = 110 := ⟨rfl, rfl⟩
theorem xc115_110 : pmCode 115 110 = some (.getfield 88) ∧ 110 + 3 = 113 := ⟨rfl, rfl⟩
theorem xc115_113 : pmCode 115 113 = some (.aload_n 0) ∧ 113 + 1 = 114 := ⟨rfl, rfl⟩
theorem xc115_114 : pmCode 115 114 = some (.getfield 40) ∧ 114 + 3 = 117 := ⟨rfl, rfl⟩
theorem xc115_117 : pmCode 115 117 = some (.iload_n 3) ∧ 117 + 1 = 118 := ⟨rfl, rfl⟩
theorem xc115_118 : pmCode 115 118 = some (.invokevirtual 264) ∧ 118 + 3 = 121 := ⟨rfl, rfl⟩
theorem xc115_121 : pmCode 115 121 = some .ireturn := rfl
theorem xg112 {ro : Nat → Nat × (Nat → Int32)} {d : Nat} {Q : Option Value → pmS → Prop} {a : xA} {b : xB} {t : Int} {w : Nat} (h : pmWp ro d 7 112 2 0 [some (.ref 45), some (.ref w), some (xV t), none, none, none, none] [] (xS a b) Q) : pmCs ro (d + 1) 112 [.ref 45, .ref w, xV t] (xS a b) Q := x_go xi112 rfl rfl rfl rfl rfl h
theorem xg111 {ro : Nat → Nat × (Nat → Int32)} {d : Nat} {Q : Option Value → pmS → Prop} {a : xA} {b : xB} {t : Int} {w : Nat} (h : pmWp ro d 7 111 1 0 [some (.ref 45), some (.ref w), some (xV t), none, none, none, none, none] [] (xS a b) Q) : pmCs ro (d + 1) 111 [.ref 45, .ref w, xV t] (xS a b) Q := x_go xi111 rfl rfl rfl rfl rfl h
theorem w112_1 {ro : Nat → Nat × (Nat → Int32)} {d : Nat} {Q : Option Value → pmS → Prop} {w : Nat} {a : xA} {b : xB} (hz : uWz w) (hw9 : w ≤ 80) (hA : xAr a)
    (k1 : pmWp ro d 7 112 2 30 [some (.ref 45), some (.ref w), some (xV 1), some (.ref 68), some (xV (a 78 1)), some (xV (-1)), none] [] (xS a b) Q) :
    pmWp ro d 7 112 2 0 [some (.ref 45), some (.ref w), some (xV 1), none, none, none, none] [] (xS a b) Q := by
  refine x_iloadn xc112_0 rfl ?_
  refine x_iconst xc112_1 ?_
  refine x_iclt xc112_2 (xRk (by decide)) (xRk (by decide)) (fun h => absurd h (by omega)) (fun _ => ?_)
  refine x_iloadn xc112_5 rfl ?_
  refine x_iconst xc112_6 ?_
  refine x_icle xc112_7 (xRk (by decide)) (xRk (by decide)) (fun _ => ?_) (fun h => absurd h (by omega))
  refine x_aloadn xc112_12 rfl ?_
  refine x_gfr xc112_13 rfl rfl xz45 rfl ?_
  refine x_iloadn xc112_16 rfl ?_
  refine x_aal (k := 1) (q := 68) xc112_17 xz62 rfl ?_
  refine x_astoren (pl' := [some (.ref 45), some (.ref w), some (xV 1), some (.ref 68), none, none, none]) xc112_18 rfl rfl ?_
  refine x_aloadn xc112_19 rfl ?_
  refine x_gfr xc112_20 rfl rfl xz45 rfl ?_
  refine x_iloadn xc112_23 rfl ?_
  refine x_ial xc112_24 xz78 rfl (by omega) (by omega) (by omega) ?_
  refine x_istore (pl' := [some (.ref 45), some (.ref w), some (xV 1), some (.ref 68), some (xV (a 78 1)), none, none]) xc112_25 rfl rfl ?_
  refine x_iconst xc112_27 ?_
  refine x_istore (pl' := [some (.ref 45), some (.ref w), some (xV 1), some (.ref 68), some (xV (a 78 1)), some (xV (-1)), none]) xc112_28 rfl rfl ?_
  exact k1

theorem w112i_1 {ro : Nat → Nat × (Nat → Int32)} {d : Nat} {Q : Option Value → pmS → Prop} {v6 : Option Value} {fs i : Int} {w : Nat} {a : xA} {b : xB} (hz : uWz w) (hw9 : w ≤ 80) (hA : xAr a) (hfs : 0 ≤ fs ∧ fs ≤ 447) (hi : -1 ≤ i ∧ i ≤ 62)
    (k1 : (62 ≤ i) → Q (some (xV 1)) (xS a b))
    (k2 : (¬ 62 ≤ i) → (0 ≤ i) → pmWp ro d 7 112 2 59 [some (.ref 45), some (.ref w), some (xV 1), some (.ref 68), some (xV fs), some (xV i), some (xV (a 4 i))] [] (xS a b) Q)
    (k3 : (¬ 62 ≤ i) → (¬ 0 ≤ i) → pmWp ro d 7 112 2 59 [some (.ref 45), some (.ref w), some (xV 1), some (.ref 68), some (xV fs), some (xV i), some (xV fs)] [] (xS a b) Q) :
    pmWp ro d 7 112 2 30 [some (.ref 45), some (.ref w), some (xV 1), some (.ref 68), some (xV fs), some (xV i), v6] [] (xS a b) Q := by
  refine x_iload xc112_30 rfl ?_
  refine x_bipush xc112_32 (by decide) ?_
  refine x_icge xc112_34 (xRk (by have g0 := hi; omega)) (xRk (by decide)) (fun h0 => ?_) (fun h0 => ?_)
  · refine x_iconst xc112_158 ?_
    refine x_iret xc112_159 (Or.inr ⟨rfl, (by omega)⟩) ?_
    exact k1 h0
  · refine x_iload xc112_37 rfl ?_
    refine x_ifge xc112_39 (xRk (by have g0 := hi; omega)) (fun h1 => ?_) (fun h1 => ?_)
    · refine x_aloadn xc112_47 rfl ?_
      refine x_gfr xc112_48 rfl rfl xz45 rfl ?_
      refine x_gfr xc112_51 rfl rfl xz3 rfl ?_
      refine x_iload xc112_54 rfl ?_
      refine x_ial xc112_56 xz4 rfl (by have g0 := hi; omega) (by have g0 := hi; omega) (by have g0 := hi; omega) ?_
      refine x_istore (pl' := [some (.ref 45), some (.ref w), some (xV 1), some (.ref 68), some (xV fs), some (xV i), some (xV (a 4 i))]) xc112_57 rfl rfl ?_
      exact k2 h0 h1
    · refine x_iload xc112_42 rfl ?_
      refine x_goto xc112_44 ?_
      refine x_istore (pl' := [some (.ref 45), some (.ref w), some (xV 1), some (.ref 68), some (xV fs), some (xV i), some (xV fs)]) xc112_57 rfl rfl ?_
      exact k3 h0 h1

theorem w112d_1 {ro : Nat → Nat × (Nat → Int32)} {d : Nat} {Q : Option Value → pmS → Prop} {dd fs i : Int} {w : Nat} {a : xA} {b : xB} (hz : uWz w) (hw9 : w ≤ 80) (hA : xAr a) (hfs : 0 ≤ fs ∧ fs ≤ 447) (hi : -1 ≤ i ∧ i ≤ 62) (hdd : 0 ≤ dd ∧ dd ≤ 447)
    (k1 : (i < 0) → pmCs ro d 80 [.ref 3, .long (b w 4), xV 0, xV dd] (xS a b) fun r σ' => pmWp ro d 7 112 2 85 [some (.ref 45), some (.ref w), some (xV 1), some (.ref 68), some (xV fs), some (xV i), some (xV dd)] (r.toList ++ []) σ' Q)
    (k2 : (¬ i < 0) → (dd = fs) → pmWp ro d 7 112 2 152 [some (.ref 45), some (.ref w), some (xV 1), some (.ref 68), some (xV fs), some (xV i), some (xV dd)] [] (xS a b) Q)
    (k3 : (¬ i < 0) → (¬ dd = fs) → pmCs ro d 80 [.ref 3, .long (b w 4), xV 0, xV dd] (xS a b) fun r σ' => pmWp ro d 7 112 2 85 [some (.ref 45), some (.ref w), some (xV 1), some (.ref 68), some (xV fs), some (xV i), some (xV dd)] (r.toList ++ []) σ' Q) :
    pmWp ro d 7 112 2 59 [some (.ref 45), some (.ref w), some (xV 1), some (.ref 68), some (xV fs), some (xV i), some (xV dd)] [] (xS a b) Q := by
  refine x_iload xc112_59 rfl ?_
  refine x_iflt xc112_61 (xRk (by have g0 := hi; omega)) (fun h0 => ?_) (fun h0 => ?_)
  · refine x_aloadn xc112_71 rfl ?_
    refine x_gfr xc112_72 rfl rfl xz45 rfl ?_
    refine x_aloadn xc112_75 rfl ?_
    refine x_gfl (k := 4) xc112_76 rfl rfl rfl hz.1 ?_
    refine x_iconst xc112_79 ?_
    refine x_iload xc112_80 rfl ?_
    refine x_cV (as := [.long (b w 4), xV 0, xV dd]) (rest := []) xc112_82 rfl xi80 xz3 ⟨rfl, rfl⟩ rfl rfl ?_
    exact k1 h0
  · refine x_iload xc112_64 rfl ?_
    refine x_iload xc112_66 rfl ?_
    refine x_iceq xc112_68 (xRk (by have g0 := hdd; omega)) (xRk (by have g0 := hfs; omega)) (fun h1 => ?_) (fun h1 => ?_)
    · exact k2 h0 h1
    · refine x_aloadn xc112_71 rfl ?_
      refine x_gfr xc112_72 rfl rfl xz45 rfl ?_
      refine x_aloadn xc112_75 rfl ?_
      refine x_gfl (k := 4) xc112_76 rfl rfl rfl hz.1 ?_
      refine x_iconst xc112_79 ?_
      refine x_iload xc112_80 rfl ?_
      refine x_cV (as := [.long (b w 4), xV 0, xV dd]) (rest := []) xc112_82 rfl xi80 xz3 ⟨rfl, rfl⟩ rfl rfl ?_
      exact k3 h0 h1

theorem w112c_1 {ro : Nat → Nat × (Nat → Int32)} {d : Nat} {Q : Option Value → pmS → Prop} {z dd fs i : Int} {w : Nat} {a : xA} {b : xB} (hz : uWz w) (hw9 : w ≤ 80) (hA : xAr a) (hfs : 0 ≤ fs ∧ fs ≤ 447) (hi : -1 ≤ i ∧ i ≤ 62) (hdd : 0 ≤ dd ∧ dd ≤ 447) (hzz : z = 0 ∨ z = 1)
    (k1 : (¬ z = 0) → pmCs ro d 66 [.ref 68, .ref w] (xS a b) fun r σ' => pmWp ro d 7 112 2 96 [some (.ref 45), some (.ref w), some (xV 1), some (.ref 68), some (xV fs), some (xV i), some (xV dd)] (r.toList ++ []) σ' Q)
    (k2 : (z = 0) → pmWp ro d 7 112 2 152 [some (.ref 45), some (.ref w), some (xV 1), some (.ref 68), some (xV fs), some (xV i), some (xV dd)] [] (xS a b) Q) :
    pmWp ro d 7 112 2 85 [some (.ref 45), some (.ref w), some (xV 1), some (.ref 68), some (xV fs), some (xV i), some (xV dd)] [xV z] (xS a b) Q := by
  refine x_ifne xc112_85 (xRk (by have g0 := hzz; omega)) (fun h0 => ?_) (fun h0 => ?_)
  · refine x_aloadn xc112_91 rfl ?_
    refine x_aloadn xc112_92 rfl ?_
    refine x_cV (as := [.ref w]) (rest := []) xc112_93 rfl xi66 xz68 ⟨rfl, rfl⟩ rfl rfl ?_
    exact k1 h0
  · replace h0 := Classical.not_not.mp h0
    refine x_goto xc112_88 ?_
    exact k2 h0

theorem w112s_1 {ro : Nat → Nat × (Nat → Int32)} {d : Nat} {Q : Option Value → pmS → Prop} {dd fs i : Int} {w : Nat} {a : xA} {b : xB} (hz : uWz w) (hw9 : w ≤ 80) (hA : xAr a) (hfs : 0 ≤ fs ∧ fs ≤ 447) (hi : -1 ≤ i ∧ i ≤ 62) (hdd : 0 ≤ dd ∧ dd ≤ 447)
    (k1 : pmCs ro d 90 [.ref 43, .ref 68, xV dd] (xS a b) fun r σ' => pmWp ro d 7 112 2 106 [some (.ref 45), some (.ref w), some (xV 1), some (.ref 68), some (xV fs), some (xV i), some (xV dd)] (r.toList ++ []) σ' Q) :
    pmWp ro d 7 112 2 96 [some (.ref 45), some (.ref w), some (xV 1), some (.ref 68), some (xV fs), some (xV i), some (xV dd)] [] (xS a b) Q := by
  refine x_aloadn xc112_96 rfl ?_
  refine x_gfr xc112_97 rfl rfl xz45 rfl ?_
  refine x_aloadn xc112_100 rfl ?_
  refine x_iload xc112_101 rfl ?_
  refine x_cV (as := [.ref 68, xV dd]) (rest := []) xc112_103 rfl xi90 xz43 ⟨rfl, rfl⟩ rfl rfl ?_
  exact k1

theorem w112g_1 {ro : Nat → Nat × (Nat → Int32)} {d : Nat} {Q : Option Value → pmS → Prop} {dd fs i : Int} {w : Nat} {a : xA} {b : xB} (hz : uWz w) (hw9 : w ≤ 80) (hA : xAr a) (hfs : 0 ≤ fs ∧ fs ≤ 447) (hi : -1 ≤ i ∧ i ≤ 62) (hdd : 0 ≤ dd ∧ dd ≤ 447)
    (k1 : (dd = 0) → pmWp ro d 7 112 2 122 [some (.ref 45), some (.ref w), some (xV 1), some (.ref 68), some (xV fs), some (xV i), some (xV dd)] [] (xS a b) Q)
    (k2 : (¬ dd = 0) → pmCs ro d 113 [.ref 68, .ref w] (xS a b) fun r σ' => pmWp ro d 7 112 2 116 [some (.ref 45), some (.ref w), some (xV 1), some (.ref 68), some (xV fs), some (xV i), some (xV dd)] (r.toList ++ []) σ' Q) :
    pmWp ro d 7 112 2 106 [some (.ref 45), some (.ref w), some (xV 1), some (.ref 68), some (xV fs), some (xV i), some (xV dd)] [] (xS a b) Q := by
  refine x_iload xc112_106 rfl ?_
  refine x_ifeq xc112_108 (xRk (by have g0 := hdd; omega)) (fun h0 => ?_) (fun h0 => ?_)
  · exact k1 h0
  · refine x_aloadn xc112_111 rfl ?_
    refine x_aloadn xc112_112 rfl ?_
    refine x_cV (as := [.ref w]) (rest := []) xc112_113 rfl xi113 xz68 ⟨rfl, rfl⟩ rfl rfl ?_
    exact k2 h0

theorem w112h_1 {ro : Nat → Nat × (Nat → Int32)} {d : Nat} {Q : Option Value → pmS → Prop} {z dd fs i : Int} {w : Nat} {a : xA} {b : xB} (hz : uWz w) (hw9 : w ≤ 80) (hA : xAr a) (hfs : 0 ≤ fs ∧ fs ≤ 447) (hi : -1 ≤ i ∧ i ≤ 62) (hdd : 0 ≤ dd ∧ dd ≤ 447) (hzz : z = 0 ∨ z = 1)
    (k1 : (z = 0) → pmWp ro d 7 112 2 122 [some (.ref 45), some (.ref w), some (xV 1), some (.ref 68), some (xV fs), some (xV i), some (xV dd)] [] (xS a b) Q)
    (k2 : (¬ z = 0) → pmWp ro d 7 112 2 152 [some (.ref 45), some (.ref w), some (xV 1), some (.ref 68), some (xV fs), some (xV i), some (xV dd)] [] (xS a b) Q) :
    pmWp ro d 7 112 2 116 [some (.ref 45), some (.ref w), some (xV 1), some (.ref 68), some (xV fs), some (xV i), some (xV dd)] [xV z] (xS a b) Q := by
  refine x_ifeq xc112_116 (xRk (by have g0 := hzz; omega)) (fun h0 => ?_) (fun h0 => ?_)
  · exact k1 h0
  · refine x_goto xc112_119 ?_
    exact k2 h0

theorem w112f_1 {ro : Nat → Nat × (Nat → Int32)} {d : Nat} {Q : Option Value → pmS → Prop} {dd fs i : Int} {w : Nat} {a : xA} {b : xB} (hz : uWz w) (hw9 : w ≤ 80) (hA : xAr a) (hfs : 0 ≤ fs ∧ fs ≤ 447) (hi : -1 ≤ i ∧ i ≤ 62) (hdd : 0 ≤ dd ∧ dd ≤ 447)
    (k1 : pmCs ro d 97 [.ref 43, .ref 68, xV 0] (xS a b) fun r σ' => pmWp ro d 7 112 2 131 [some (.ref 45), some (.ref w), some (xV 1), some (.ref 68), some (xV fs), some (xV i), some (xV dd)] (r.toList ++ []) σ' Q) :
    pmWp ro d 7 112 2 122 [some (.ref 45), some (.ref w), some (xV 1), some (.ref 68), some (xV fs), some (xV i), some (xV dd)] [] (xS a b) Q := by
  refine x_aloadn xc112_122 rfl ?_
  refine x_gfr xc112_123 rfl rfl xz45 rfl ?_
  refine x_aloadn xc112_126 rfl ?_
  refine x_iconst xc112_127 ?_
  refine x_cV (as := [.ref 68, xV 0]) (rest := []) xc112_128 rfl xi97 xz43 ⟨rfl, rfl⟩ rfl rfl ?_
  exact k1

theorem w112t_1 {ro : Nat → Nat × (Nat → Int32)} {d : Nat} {Q : Option Value → pmS → Prop} {dd fs i : Int} {w : Nat} {a : xA} {b : xB} (hz : uWz w) (hw9 : w ≤ 80) (hA : xAr a) (hfs : 0 ≤ fs ∧ fs ≤ 447) (hi : -1 ≤ i ∧ i ≤ 62) (hdd : 0 ≤ dd ∧ dd ≤ 447)
    (k1 : pmCs ro d 111 [.ref 45, .ref 68, xV (1 - 1)] (xS a b) fun r σ' => pmWp ro d 7 112 2 139 [some (.ref 45), some (.ref w), some (xV 1), some (.ref 68), some (xV fs), some (xV i), some (xV dd)] (r.toList ++ []) σ' Q) :
    pmWp ro d 7 112 2 131 [some (.ref 45), some (.ref w), some (xV 1), some (.ref 68), some (xV fs), some (xV i), some (xV dd)] [] (xS a b) Q := by
  refine x_aloadn xc112_131 rfl ?_
  refine x_aloadn xc112_132 rfl ?_
  refine x_iloadn xc112_133 rfl ?_
  refine x_iconst xc112_134 ?_
  refine x_isub xc112_135 ?_
  refine x_cV (as := [.ref 68, xV (1 - 1)]) (rest := []) xc112_136 rfl xi111 xz45 ⟨rfl, rfl⟩ rfl rfl ?_
  exact k1

theorem w112e_1 {ro : Nat → Nat × (Nat → Int32)} {d : Nat} {Q : Option Value → pmS → Prop} {z dd fs i : Int} {w : Nat} {a : xA} {b : xB} (hz : uWz w) (hw9 : w ≤ 80) (hA : xAr a) (hfs : 0 ≤ fs ∧ fs ≤ 447) (hi : -1 ≤ i ∧ i ≤ 62) (hdd : 0 ≤ dd ∧ dd ≤ 447) (hzr : xR z)
    (k1 : (0 ≤ z) → pmWp ro d 7 112 2 152 [some (.ref 45), some (.ref w), some (xV 1), some (.ref 68), some (xV fs), some (xV i), some (xV dd)] [] (xS a b) Q)
    (k2 : (¬ 0 ≤ z) → Q (some (xV 0)) (xS (xU a 78 1 dd) b)) :
    pmWp ro d 7 112 2 139 [some (.ref 45), some (.ref w), some (xV 1), some (.ref 68), some (xV fs), some (xV i), some (xV dd)] [xV z] (xS a b) Q := by
  refine x_ifge xc112_139 (xRk (by have g0 := xRb hzr; omega)) (fun h0 => ?_) (fun h0 => ?_)
  · exact k1 h0
  · refine x_aloadn xc112_142 rfl ?_
    refine x_gfr xc112_143 rfl rfl xz45 rfl ?_
    refine x_iloadn xc112_146 rfl ?_
    refine x_iload xc112_147 rfl ?_
    refine x_ias xc112_149 xz78 (by omega) (by omega) (by omega) ?_
    refine x_iconst xc112_150 ?_
    refine x_iret xc112_151 (Or.inr ⟨rfl, (by omega)⟩) ?_
    exact k2 h0

theorem w112n_1 {ro : Nat → Nat × (Nat → Int32)} {d : Nat} {Q : Option Value → pmS → Prop} {dd fs i : Int} {w : Nat} {a : xA} {b : xB} (hz : uWz w) (hw9 : w ≤ 80) (hA : xAr a) (hfs : 0 ≤ fs ∧ fs ≤ 447) (hi : -1 ≤ i ∧ i ≤ 62) (hdd : 0 ≤ dd ∧ dd ≤ 447)
    (k1 : pmWp ro d 7 112 2 30 [some (.ref 45), some (.ref w), some (xV 1), some (.ref 68), some (xV fs), some (xV (i + 1)), some (xV dd)] [] (xS a b) Q) :
    pmWp ro d 7 112 2 152 [some (.ref 45), some (.ref w), some (xV 1), some (.ref 68), some (xV fs), some (xV i), some (xV dd)] [] (xS a b) Q := by
  refine x_iinc (pl' := [some (.ref 45), some (.ref w), some (xV 1), some (.ref 68), some (xV fs), some (xV (i + 1)), some (xV dd)]) xc112_152 rfl rfl ?_
  refine x_goto xc112_155 ?_
  exact k1

theorem w112_2 {ro : Nat → Nat × (Nat → Int32)} {d : Nat} {Q : Option Value → pmS → Prop} {w : Nat} {a : xA} {b : xB} (hz : uWz w) (hw9 : w ≤ 80) (hA : xAr a)
    (k1 : pmWp ro d 7 112 2 30 [some (.ref 45), some (.ref w), some (xV 2), some (.ref 73), some (xV (a 78 2)), some (xV (-1)), none] [] (xS a b) Q) :
    pmWp ro d 7 112 2 0 [some (.ref 45), some (.ref w), some (xV 2), none, none, none, none] [] (xS a b) Q := by
  refine x_iloadn xc112_0 rfl ?_
  refine x_iconst xc112_1 ?_
  refine x_iclt xc112_2 (xRk (by decide)) (xRk (by decide)) (fun h => absurd h (by omega)) (fun _ => ?_)
  refine x_iloadn xc112_5 rfl ?_
  refine x_iconst xc112_6 ?_
  refine x_icle xc112_7 (xRk (by decide)) (xRk (by decide)) (fun _ => ?_) (fun h => absurd h (by omega))
  refine x_aloadn xc112_12 rfl ?_
  refine x_gfr xc112_13 rfl rfl xz45 rfl ?_
  refine x_iloadn xc112_16 rfl ?_
  refine x_aal (k := 2) (q := 73) xc112_17 xz62 rfl ?_
  refine x_astoren (pl' := [some (.ref 45), some (.ref w), some (xV 2), some (.ref 73), none, none, none]) xc112_18 rfl rfl ?_
  refine x_aloadn xc112_19 rfl ?_
  refine x_gfr xc112_20 rfl rfl xz45 rfl ?_
  refine x_iloadn xc112_23 rfl ?_
  refine x_ial xc112_24 xz78 rfl (by omega) (by omega) (by omega) ?_
  refine x_istore (pl' := [some (.ref 45), some (.ref w), some (xV 2), some (.ref 73), some (xV (a 78 2)), none, none]) xc112_25 rfl rfl ?_
  refine x_iconst xc112_27 ?_
  refine x_istore (pl' := [some (.ref 45), some (.ref w), some (xV 2), some (.ref 73), some (xV (a 78 2)), some (xV (-1)), none]) xc112_28 rfl rfl ?_
  exact k1

theorem w112i_2 {ro : Nat → Nat × (Nat → Int32)} {d : Nat} {Q : Option Value → pmS → Prop} {v6 : Option Value} {fs i : Int} {w : Nat} {a : xA} {b : xB} (hz : uWz w) (hw9 : w ≤ 80) (hA : xAr a) (hfs : 0 ≤ fs ∧ fs ≤ 447) (hi : -1 ≤ i ∧ i ≤ 62)
    (k1 : (62 ≤ i) → Q (some (xV 1)) (xS a b))
    (k2 : (¬ 62 ≤ i) → (0 ≤ i) → pmWp ro d 7 112 2 59 [some (.ref 45), some (.ref w), some (xV 2), some (.ref 73), some (xV fs), some (xV i), some (xV (a 4 i))] [] (xS a b) Q)
    (k3 : (¬ 62 ≤ i) → (¬ 0 ≤ i) → pmWp ro d 7 112 2 59 [some (.ref 45), some (.ref w), some (xV 2), some (.ref 73), some (xV fs), some (xV i), some (xV fs)] [] (xS a b) Q) :
    pmWp ro d 7 112 2 30 [some (.ref 45), some (.ref w), some (xV 2), some (.ref 73), some (xV fs), some (xV i), v6] [] (xS a b) Q := by
  refine x_iload xc112_30 rfl ?_
  refine x_bipush xc112_32 (by decide) ?_
  refine x_icge xc112_34 (xRk (by have g0 := hi; omega)) (xRk (by decide)) (fun h0 => ?_) (fun h0 => ?_)
  · refine x_iconst xc112_158 ?_
    refine x_iret xc112_159 (Or.inr ⟨rfl, (by omega)⟩) ?_
    exact k1 h0
  · refine x_iload xc112_37 rfl ?_
    refine x_ifge xc112_39 (xRk (by have g0 := hi; omega)) (fun h1 => ?_) (fun h1 => ?_)
    · refine x_aloadn xc112_47 rfl ?_
      refine x_gfr xc112_48 rfl rfl xz45 rfl ?_
      refine x_gfr xc112_51 rfl rfl xz3 rfl ?_
      refine x_iload xc112_54 rfl ?_
      refine x_ial xc112_56 xz4 rfl (by have g0 := hi; omega) (by have g0 := hi; omega) (by have g0 := hi; omega) ?_
      refine x_istore (pl' := [some (.ref 45), some (.ref w), some (xV 2), some (.ref 73), some (xV fs), some (xV i), some (xV (a 4 i))]) xc112_57 rfl rfl ?_
      exact k2 h0 h1
    · refine x_iload xc112_42 rfl ?_
      refine x_goto xc112_44 ?_
      refine x_istore (pl' := [some (.ref 45), some (.ref w), some (xV 2), some (.ref 73), some (xV fs), some (xV i), some (xV fs)]) xc112_57 rfl rfl ?_
      exact k3 h0 h1

theorem w112d_2 {ro : Nat → Nat × (Nat → Int32)} {d : Nat} {Q : Option Value → pmS → Prop} {dd fs i : Int} {w : Nat} {a : xA} {b : xB} (hz : uWz w) (hw9 : w ≤ 80) (hA : xAr a) (hfs : 0 ≤ fs ∧ fs ≤ 447) (hi : -1 ≤ i ∧ i ≤ 62) (hdd : 0 ≤ dd ∧ dd ≤ 447)
    (k1 : (i < 0) → pmCs ro d 80 [.ref 3, .long (b w 4), xV 0, xV dd] (xS a b) fun r σ' => pmWp ro d 7 112 2 85 [some (.ref 45), some (.ref w), some (xV 2), some (.ref 73), some (xV fs), some (xV i), some (xV dd)] (r.toList ++ []) σ' Q)
    (k2 : (¬ i < 0) → (dd = fs) → pmWp ro d 7 112 2 152 [some (.ref 45), some (.ref w), some (xV 2), some (.ref 73), some (xV fs), some (xV i), some (xV dd)] [] (xS a b) Q)
    (k3 : (¬ i < 0) → (¬ dd = fs) → pmCs ro d 80 [.ref 3, .long (b w 4), xV 0, xV dd] (xS a b) fun r σ' => pmWp ro d 7 112 2 85 [some (.ref 45), some (.ref w), some (xV 2), some (.ref 73), some (xV fs), some (xV i), some (xV dd)] (r.toList ++ []) σ' Q) :
    pmWp ro d 7 112 2 59 [some (.ref 45), some (.ref w), some (xV 2), some (.ref 73), some (xV fs), some (xV i), some (xV dd)] [] (xS a b) Q := by
  refine x_iload xc112_59 rfl ?_
  refine x_iflt xc112_61 (xRk (by have g0 := hi; omega)) (fun h0 => ?_) (fun h0 => ?_)
  · refine x_aloadn xc112_71 rfl ?_
    refine x_gfr xc112_72 rfl rfl xz45 rfl ?_
    refine x_aloadn xc112_75 rfl ?_
    refine x_gfl (k := 4) xc112_76 rfl rfl rfl hz.1 ?_
    refine x_iconst xc112_79 ?_
    refine x_iload xc112_80 rfl ?_
    refine x_cV (as := [.long (b w 4), xV 0, xV dd]) (rest := []) xc112_82 rfl xi80 xz3 ⟨rfl, rfl⟩ rfl rfl ?_
    exact k1 h0
  · refine x_iload xc112_64 rfl ?_
    refine x_iload xc112_66 rfl ?_
    refine x_iceq xc112_68 (xRk (by have g0 := hdd; omega)) (xRk (by have g0 := hfs; omega)) (fun h1 => ?_) (fun h1 => ?_)
    · exact k2 h0 h1
    · refine x_aloadn xc112_71 rfl ?_
      refine x_gfr xc112_72 rfl rfl xz45 rfl ?_
      refine x_aloadn xc112_75 rfl ?_
      refine x_gfl (k := 4) xc112_76 rfl rfl rfl hz.1 ?_
      refine x_iconst xc112_79 ?_
      refine x_iload xc112_80 rfl ?_
      refine x_cV (as := [.long (b w 4), xV 0, xV dd]) (rest := []) xc112_82 rfl xi80 xz3 ⟨rfl, rfl⟩ rfl rfl ?_
      exact k3 h0 h1

theorem w112c_2 {ro : Nat → Nat × (Nat → Int32)} {d : Nat} {Q : Option Value → pmS → Prop} {z dd fs i : Int} {w : Nat} {a : xA} {b : xB} (hz : uWz w) (hw9 : w ≤ 80) (hA : xAr a) (hfs : 0 ≤ fs ∧ fs ≤ 447) (hi : -1 ≤ i ∧ i ≤ 62) (hdd : 0 ≤ dd ∧ dd ≤ 447) (hzz : z = 0 ∨ z = 1)
    (k1 : (¬ z = 0) → pmCs ro d 66 [.ref 73, .ref w] (xS a b) fun r σ' => pmWp ro d 7 112 2 96 [some (.ref 45), some (.ref w), some (xV 2), some (.ref 73), some (xV fs), some (xV i), some (xV dd)] (r.toList ++ []) σ' Q)
    (k2 : (z = 0) → pmWp ro d 7 112 2 152 [some (.ref 45), some (.ref w), some (xV 2), some (.ref 73), some (xV fs), some (xV i), some (xV dd)] [] (xS a b) Q) :
    pmWp ro d 7 112 2 85 [some (.ref 45), some (.ref w), some (xV 2), some (.ref 73), some (xV fs), some (xV i), some (xV dd)] [xV z] (xS a b) Q := by
  refine x_ifne xc112_85 (xRk (by have g0 := hzz; omega)) (fun h0 => ?_) (fun h0 => ?_)
  · refine x_aloadn xc112_91 rfl ?_
    refine x_aloadn xc112_92 rfl ?_
    refine x_cV (as := [.ref w]) (rest := []) xc112_93 rfl xi66 xz73 ⟨rfl, rfl⟩ rfl rfl ?_
    exact k1 h0
  · replace h0 := Classical.not_not.mp h0
    refine x_goto xc112_88 ?_
    exact k2 h0

theorem w112s_2 {ro : Nat → Nat × (Nat → Int32)} {d : Nat} {Q : Option Value → pmS → Prop} {dd fs i : Int} {w : Nat} {a : xA} {b : xB} (hz : uWz w) (hw9 : w ≤ 80) (hA : xAr a) (hfs : 0 ≤ fs ∧ fs ≤ 447) (hi : -1 ≤ i ∧ i ≤ 62) (hdd : 0 ≤ dd ∧ dd ≤ 447)
    (k1 : pmCs ro d 90 [.ref 43, .ref 73, xV dd] (xS a b) fun r σ' => pmWp ro d 7 112 2 106 [some (.ref 45), some (.ref w), some (xV 2), some (.ref 73), some (xV fs), some (xV i), some (xV dd)] (r.toList ++ []) σ' Q) :
    pmWp ro d 7 112 2 96 [some (.ref 45), some (.ref w), some (xV 2), some (.ref 73), some (xV fs), some (xV i), some (xV dd)] [] (xS a b) Q := by
  refine x_aloadn xc112_96 rfl ?_
  refine x_gfr xc112_97 rfl rfl xz45 rfl ?_
  refine x_aloadn xc112_100 rfl ?_
  refine x_iload xc112_101 rfl ?_
  refine x_cV (as := [.ref 73, xV dd]) (rest := []) xc112_103 rfl xi90 xz43 ⟨rfl, rfl⟩ rfl rfl ?_
  exact k1

theorem w112g_2 {ro : Nat → Nat × (Nat → Int32)} {d : Nat} {Q : Option Value → pmS → Prop} {dd fs i : Int} {w : Nat} {a : xA} {b : xB} (hz : uWz w) (hw9 : w ≤ 80) (hA : xAr a) (hfs : 0 ≤ fs ∧ fs ≤ 447) (hi : -1 ≤ i ∧ i ≤ 62) (hdd : 0 ≤ dd ∧ dd ≤ 447)
    (k1 : (dd = 0) → pmWp ro d 7 112 2 122 [some (.ref 45), some (.ref w), some (xV 2), some (.ref 73), some (xV fs), some (xV i), some (xV dd)] [] (xS a b) Q)
    (k2 : (¬ dd = 0) → pmCs ro d 113 [.ref 73, .ref w] (xS a b) fun r σ' => pmWp ro d 7 112 2 116 [some (.ref 45), some (.ref w), some (xV 2), some (.ref 73), some (xV fs), some (xV i), some (xV dd)] (r.toList ++ []) σ' Q) :
    pmWp ro d 7 112 2 106 [some (.ref 45), some (.ref w), some (xV 2), some (.ref 73), some (xV fs), some (xV i), some (xV dd)] [] (xS a b) Q := by
  refine x_iload xc112_106 rfl ?_
  refine x_ifeq xc112_108 (xRk (by have g0 := hdd; omega)) (fun h0 => ?_) (fun h0 => ?_)
  · exact k1 h0
  · refine x_aloadn xc112_111 rfl ?_
    refine x_aloadn xc112_112 rfl ?_
    refine x_cV (as := [.ref w]) (rest := []) xc112_113 rfl xi113 xz73 ⟨rfl, rfl⟩ rfl rfl ?_
    exact k2 h0

theorem w112h_2 {ro : Nat → Nat × (Nat → Int32)} {d : Nat} {Q : Option Value → pmS → Prop} {z dd fs i : Int} {w : Nat} {a : xA} {b : xB} (hz : uWz w) (hw9 : w ≤ 80) (hA : xAr a) (hfs : 0 ≤ fs ∧ fs ≤ 447) (hi : -1 ≤ i ∧ i ≤ 62) (hdd : 0 ≤ dd ∧ dd ≤ 447) (hzz : z = 0 ∨ z = 1)
    (k1 : (z = 0) → pmWp ro d 7 112 2 122 [some (.ref 45), some (.ref w), some (xV 2), some (.ref 73), some (xV fs), some (xV i), some (xV dd)] [] (xS a b) Q)
    (k2 : (¬ z = 0) → pmWp ro d 7 112 2 152 [some (.ref 45), some (.ref w), some (xV 2), some (.ref 73), some (xV fs), some (xV i), some (xV dd)] [] (xS a b) Q) :
    pmWp ro d 7 112 2 116 [some (.ref 45), some (.ref w), some (xV 2), some (.ref 73), some (xV fs), some (xV i), some (xV dd)] [xV z] (xS a b) Q := by
  refine x_ifeq xc112_116 (xRk (by have g0 := hzz; omega)) (fun h0 => ?_) (fun h0 => ?_)
  · exact k1 h0
  · refine x_goto xc112_119 ?_
    exact k2 h0

theorem w112f_2 {ro : Nat → Nat × (Nat → Int32)} {d : Nat} {Q : Option Value → pmS → Prop} {dd fs i : Int} {w : Nat} {a : xA} {b : xB} (hz : uWz w) (hw9 : w ≤ 80) (hA : xAr a) (hfs : 0 ≤ fs ∧ fs ≤ 447) (hi : -1 ≤ i ∧ i ≤ 62) (hdd : 0 ≤ dd ∧ dd ≤ 447)
    (k1 : pmCs ro d 97 [.ref 43, .ref 73, xV 0] (xS a b) fun r σ' => pmWp ro d 7 112 2 131 [some (.ref 45), some (.ref w), some (xV 2), some (.ref 73), some (xV fs), some (xV i), some (xV dd)] (r.toList ++ []) σ' Q) :
    pmWp ro d 7 112 2 122 [some (.ref 45), some (.ref w), some (xV 2), some (.ref 73), some (xV fs), some (xV i), some (xV dd)] [] (xS a b) Q := by
  refine x_aloadn xc112_122 rfl ?_
  refine x_gfr xc112_123 rfl rfl xz45 rfl ?_
  refine x_aloadn xc112_126 rfl ?_
  refine x_iconst xc112_127 ?_
  refine x_cV (as := [.ref 73, xV 0]) (rest := []) xc112_128 rfl xi97 xz43 ⟨rfl, rfl⟩ rfl rfl ?_
  exact k1

theorem w112t_2 {ro : Nat → Nat × (Nat → Int32)} {d : Nat} {Q : Option Value → pmS → Prop} {dd fs i : Int} {w : Nat} {a : xA} {b : xB} (hz : uWz w) (hw9 : w ≤ 80) (hA : xAr a) (hfs : 0 ≤ fs ∧ fs ≤ 447) (hi : -1 ≤ i ∧ i ≤ 62) (hdd : 0 ≤ dd ∧ dd ≤ 447)
    (k1 : pmCs ro d 111 [.ref 45, .ref 73, xV (2 - 1)] (xS a b) fun r σ' => pmWp ro d 7 112 2 139 [some (.ref 45), some (.ref w), some (xV 2), some (.ref 73), some (xV fs), some (xV i), some (xV dd)] (r.toList ++ []) σ' Q) :
    pmWp ro d 7 112 2 131 [some (.ref 45), some (.ref w), some (xV 2), some (.ref 73), some (xV fs), some (xV i), some (xV dd)] [] (xS a b) Q := by
  refine x_aloadn xc112_131 rfl ?_
  refine x_aloadn xc112_132 rfl ?_
  refine x_iloadn xc112_133 rfl ?_
  refine x_iconst xc112_134 ?_
  refine x_isub xc112_135 ?_
  refine x_cV (as := [.ref 73, xV (2 - 1)]) (rest := []) xc112_136 rfl xi111 xz45 ⟨rfl, rfl⟩ rfl rfl ?_
  exact k1

theorem w112e_2 {ro : Nat → Nat × (Nat → Int32)} {d : Nat} {Q : Option Value → pmS → Prop} {z dd fs i : Int} {w : Nat} {a : xA} {b : xB} (hz : uWz w) (hw9 : w ≤ 80) (hA : xAr a) (hfs : 0 ≤ fs ∧ fs ≤ 447) (hi : -1 ≤ i ∧ i ≤ 62) (hdd : 0 ≤ dd ∧ dd ≤ 447) (hzr : xR z)
    (k1 : (0 ≤ z) → pmWp ro d 7 112 2 152 [some (.ref 45), some (.ref w), some (xV 2), some (.ref 73), some (xV fs), some (xV i), some (xV dd)] [] (xS a b) Q)
    (k2 : (¬ 0 ≤ z) → Q (some (xV 0)) (xS (xU a 78 2 dd) b)) :
    pmWp ro d 7 112 2 139 [some (.ref 45), some (.ref w), some (xV 2), some (.ref 73), some (xV fs), some (xV i), some (xV dd)] [xV z] (xS a b) Q := by
  refine x_ifge xc112_139 (xRk (by have g0 := xRb hzr; omega)) (fun h0 => ?_) (fun h0 => ?_)
  · exact k1 h0
  · refine x_aloadn xc112_142 rfl ?_
    refine x_gfr xc112_143 rfl rfl xz45 rfl ?_
    refine x_iloadn xc112_146 rfl ?_
    refine x_iload xc112_147 rfl ?_
    refine x_ias xc112_149 xz78 (by omega) (by omega) (by omega) ?_
    refine x_iconst xc112_150 ?_
    refine x_iret xc112_151 (Or.inr ⟨rfl, (by omega)⟩) ?_
    exact k2 h0

theorem w112n_2 {ro : Nat → Nat × (Nat → Int32)} {d : Nat} {Q : Option Value → pmS → Prop} {dd fs i : Int} {w : Nat} {a : xA} {b : xB} (hz : uWz w) (hw9 : w ≤ 80) (hA : xAr a) (hfs : 0 ≤ fs ∧ fs ≤ 447) (hi : -1 ≤ i ∧ i ≤ 62) (hdd : 0 ≤ dd ∧ dd ≤ 447)
    (k1 : pmWp ro d 7 112 2 30 [some (.ref 45), some (.ref w), some (xV 2), some (.ref 73), some (xV fs), some (xV (i + 1)), some (xV dd)] [] (xS a b) Q) :
    pmWp ro d 7 112 2 152 [some (.ref 45), some (.ref w), some (xV 2), some (.ref 73), some (xV fs), some (xV i), some (xV dd)] [] (xS a b) Q := by
  refine x_iinc (pl' := [some (.ref 45), some (.ref w), some (xV 2), some (.ref 73), some (xV fs), some (xV (i + 1)), some (xV dd)]) xc112_152 rfl rfl ?_
  refine x_goto xc112_155 ?_
  exact k1

theorem w111_0 {ro : Nat → Nat × (Nat → Int32)} {d : Nat} {Q : Option Value → pmS → Prop} {w : Nat} {a : xA} {b : xB} (hz : uWz w) (hw9 : w ≤ 80) (hA : xAr a)
    (k1 : (0 < a w 7) → Q (some (xV (-1))) (xS a b))
    (k2 : (¬ 0 < a w 7) → Q (some (xV 0)) (xS a b)) :
    pmWp ro d 7 111 1 0 [some (.ref 45), some (.ref w), some (xV 0), none, none, none, none, none] [] (xS a b) Q := by
  refine x_aloadn xc111_0 rfl ?_
  refine x_gfi (k := 7) xc111_1 rfl (Or.inl rfl) rfl hz.1 ?_
  refine x_ifgt xc111_4 (xRk (by have g0 := xRb (hA w 7); omega)) (fun h0 => ?_) (fun h0 => ?_)
  · refine x_iconst xc111_16 ?_
    refine x_iret xc111_17 (Or.inl rfl) ?_
    exact k1 h0
  · refine x_iloadn xc111_7 rfl ?_
    refine x_iflt xc111_8 (xRk (by decide)) (fun h => absurd h (by omega)) (fun _ => ?_)
    refine x_iloadn xc111_11 rfl ?_
    refine x_iconst xc111_12 ?_
    refine x_icle xc111_13 (xRk (by decide)) (xRk (by decide)) (fun _ => ?_) (fun h => absurd h (by omega))
    refine x_iloadn xc111_18 rfl ?_
    refine x_ifne xc111_19 (xRk (by decide)) (fun h => absurd h (by omega)) (fun _ => ?_)
    refine x_iconst xc111_22 ?_
    refine x_iret xc111_23 (Or.inl rfl) ?_
    exact k2 h0

theorem w111_1 {ro : Nat → Nat × (Nat → Int32)} {d : Nat} {Q : Option Value → pmS → Prop} {w : Nat} {a : xA} {b : xB} (hz : uWz w) (hw9 : w ≤ 80) (hA : xAr a)
    (k1 : (0 < a w 7) → Q (some (xV (-1))) (xS a b))
    (k2 : (¬ 0 < a w 7) → (a (w + 4) 1 = 0) → pmCs ro d 112 [.ref 45, .ref w, xV 1] (xS a b) fun r σ' => pmWp ro d 7 111 1 48 [some (.ref 45), some (.ref w), some (xV 1), none, none, none, none, none] (r.toList ++ []) σ' Q)
    (k3 : (¬ 0 < a w 7) → (¬ a (w + 4) 1 = 0) → Q (some (xV (a (w + 4) 1 - 2))) (xS a b)) :
    pmWp ro d 7 111 1 0 [some (.ref 45), some (.ref w), some (xV 1), none, none, none, none, none] [] (xS a b) Q := by
  refine x_aloadn xc111_0 rfl ?_
  refine x_gfi (k := 7) xc111_1 rfl (Or.inl rfl) rfl hz.1 ?_
  refine x_ifgt xc111_4 (xRk (by have g0 := xRb (hA w 7); omega)) (fun h0 => ?_) (fun h0 => ?_)
  · refine x_iconst xc111_16 ?_
    refine x_iret xc111_17 (Or.inl rfl) ?_
    exact k1 h0
  · refine x_iloadn xc111_7 rfl ?_
    refine x_iflt xc111_8 (xRk (by decide)) (fun h => absurd h (by omega)) (fun _ => ?_)
    refine x_iloadn xc111_11 rfl ?_
    refine x_iconst xc111_12 ?_
    refine x_icle xc111_13 (xRk (by decide)) (xRk (by decide)) (fun _ => ?_) (fun h => absurd h (by omega))
    refine x_iloadn xc111_18 rfl ?_
    refine x_ifne xc111_19 (xRk (by decide)) (fun _ => ?_) (fun h => absurd h (by omega))
    refine x_aloadn xc111_24 rfl ?_
    refine x_gfr xc111_25 rfl rfl hz.1 rfl ?_
    refine x_iloadn xc111_28 rfl ?_
    refine x_ial xc111_29 hz.2.2.2.2 (Nat.ble_eq_true_of_le (by omega)) (by omega) (by omega) (by omega) ?_
    refine x_ifeq xc111_30 (xRk (by have g0 := xRb (hA (w + 4) 1); omega)) (fun h4 => ?_) (fun h4 => ?_)
    · refine x_aloadn xc111_42 rfl ?_
      refine x_aloadn xc111_43 rfl ?_
      refine x_iloadn xc111_44 rfl ?_
      refine x_cV (as := [.ref w, xV 1]) (rest := []) xc111_45 rfl xi112 xz45 ⟨rfl, rfl⟩ rfl rfl ?_
      exact k2 h0 h4
    · refine x_aloadn xc111_33 rfl ?_
      refine x_gfr xc111_34 rfl rfl hz.1 rfl ?_
      refine x_iloadn xc111_37 rfl ?_
      refine x_ial xc111_38 hz.2.2.2.2 (Nat.ble_eq_true_of_le (by omega)) (by omega) (by omega) (by omega) ?_
      refine x_iconst xc111_39 ?_
      refine x_isub xc111_40 ?_
      refine x_iret xc111_41 (Or.inl rfl) ?_
      exact k3 h0 h4

theorem w111a_1 {ro : Nat → Nat × (Nat → Int32)} {d : Nat} {Q : Option Value → pmS → Prop} {z : Int} {w : Nat} {a : xA} {b : xB} (hz : uWz w) (hzz : z = 0 ∨ z = 1) (hA : xAr a) (hB6 : 0 ≤ a w 6 ∧ a w 6 ≤ 1000) (hB8 : 0 ≤ a w 8 ∧ a w 8 ≤ 1000) (hB9 : 0 ≤ a w 9 ∧ a w 9 ≤ 1000) (hB10 : 0 ≤ a w 10 ∧ a w 10 ≤ 1000000) (hB12 : 0 ≤ a w 12 ∧ a w 12 ≤ 1) (hd : 1 ≤ d)
    (k1 : (z = 0) → (uPc 128 (a w 8) (a w 9) < uPc 64 (a w 8) (a w 9)) → pmWp ro d 7 111 1 85 [some (.ref 45), some (.ref w), some (xV 1), some (xV (-1)), some (xV 0), some (xV 0), none, none] [] (xS a b) Q)
    (k2 : (z = 0) → (¬ uPc 128 (a w 8) (a w 9) < uPc 64 (a w 8) (a w 9)) → pmWp ro d 7 111 1 85 [some (.ref 45), some (.ref w), some (xV 1), some (xV (-1)), some (xV 1), some (xV 0), none, none] [] (xS a b) Q)
    (k3 : (¬ z = 0) → (uPc 128 (a w 8) (a w 9) < uPc 64 (a w 8) (a w 9)) → pmWp ro d 7 111 1 85 [some (.ref 45), some (.ref w), some (xV 1), some (xV 0), some (xV 0), some (xV 0), none, none] [] (xS a b) Q)
    (k4 : (¬ z = 0) → (¬ uPc 128 (a w 8) (a w 9) < uPc 64 (a w 8) (a w 9)) → pmWp ro d 7 111 1 85 [some (.ref 45), some (.ref w), some (xV 1), some (xV 0), some (xV 1), some (xV 0), none, none] [] (xS a b) Q) :
    pmWp ro d 7 111 1 48 [some (.ref 45), some (.ref w), some (xV 1), none, none, none, none, none] [xV z] (xS a b) Q := by
  refine x_ifeq xc111_48 (xRk (by have g0 := hzz; omega)) (fun h0 => ?_) (fun h0 => ?_)
  · refine x_iconst xc111_55 ?_
    refine x_istoren (pl' := [some (.ref 45), some (.ref w), some (xV 1), some (xV (-1)), none, none, none, none]) xc111_56 rfl rfl ?_
    refine x_aloadn xc111_57 rfl ?_
    refine x_aloadn xc111_58 rfl ?_
    refine x_bipush xc111_59 (by decide) ?_
    refine x_cV (as := [.ref w, xV 64]) (rest := []) xc111_61 rfl xi103 xz45 ⟨rfl, rfl⟩ rfl rfl ?_
    refine rk103 (by omega) hz (by omega) hA hB6 hB8 hB9 hB10 hB12 ?_
    refine x_aloadn xc111_64 rfl ?_
    refine x_aloadn xc111_65 rfl ?_
    refine x_sipush xc111_66 (by decide) ?_
    refine x_cV (as := [.ref w, xV 128]) (rest := [xV (uPc 64 (a w 8) (a w 9))]) xc111_69 rfl xi103 xz45 ⟨rfl, rfl⟩ rfl rfl ?_
    refine rk103 (by omega) hz (by omega) hA hB6 hB8 hB9 hB10 hB12 ?_
    refine x_icgt xc111_72 (xRk (by have g0 := uPc_b (c := 64) hB8 hB9; omega)) (xRk (by have g0 := uPc_b (c := 128) hB8 hB9; omega)) (fun h1 => ?_) (fun h1 => ?_)
    · refine x_iconst xc111_79 ?_
      refine x_istore (pl' := [some (.ref 45), some (.ref w), some (xV 1), some (xV (-1)), some (xV 0), none, none, none]) xc111_80 rfl rfl ?_
      refine x_iconst xc111_82 ?_
      refine x_istore (pl' := [some (.ref 45), some (.ref w), some (xV 1), some (xV (-1)), some (xV 0), some (xV 0), none, none]) xc111_83 rfl rfl ?_
      exact k1 h0 h1
    · refine x_iconst xc111_75 ?_
      refine x_goto xc111_76 ?_
      refine x_istore (pl' := [some (.ref 45), some (.ref w), some (xV 1), some (xV (-1)), some (xV 1), none, none, none]) xc111_80 rfl rfl ?_
      refine x_iconst xc111_82 ?_
      refine x_istore (pl' := [some (.ref 45), some (.ref w), some (xV 1), some (xV (-1)), some (xV 1), some (xV 0), none, none]) xc111_83 rfl rfl ?_
      exact k2 h0 h1
  · refine x_iconst xc111_51 ?_
    refine x_goto xc111_52 ?_
    refine x_istoren (pl' := [some (.ref 45), some (.ref w), some (xV 1), some (xV 0), none, none, none, none]) xc111_56 rfl rfl ?_
    refine x_aloadn xc111_57 rfl ?_
    refine x_aloadn xc111_58 rfl ?_
    refine x_bipush xc111_59 (by decide) ?_
    refine x_cV (as := [.ref w, xV 64]) (rest := []) xc111_61 rfl xi103 xz45 ⟨rfl, rfl⟩ rfl rfl ?_
    refine rk103 (by omega) hz (by omega) hA hB6 hB8 hB9 hB10 hB12 ?_
    refine x_aloadn xc111_64 rfl ?_
    refine x_aloadn xc111_65 rfl ?_
    refine x_sipush xc111_66 (by decide) ?_
    refine x_cV (as := [.ref w, xV 128]) (rest := [xV (uPc 64 (a w 8) (a w 9))]) xc111_69 rfl xi103 xz45 ⟨rfl, rfl⟩ rfl rfl ?_
    refine rk103 (by omega) hz (by omega) hA hB6 hB8 hB9 hB10 hB12 ?_
    refine x_icgt xc111_72 (xRk (by have g0 := uPc_b (c := 64) hB8 hB9; omega)) (xRk (by have g0 := uPc_b (c := 128) hB8 hB9; omega)) (fun h2 => ?_) (fun h2 => ?_)
    · refine x_iconst xc111_79 ?_
      refine x_istore (pl' := [some (.ref 45), some (.ref w), some (xV 1), some (xV 0), some (xV 0), none, none, none]) xc111_80 rfl rfl ?_
      refine x_iconst xc111_82 ?_
      refine x_istore (pl' := [some (.ref 45), some (.ref w), some (xV 1), some (xV 0), some (xV 0), some (xV 0), none, none]) xc111_83 rfl rfl ?_
      exact k3 h0 h2
    · refine x_iconst xc111_75 ?_
      refine x_goto xc111_76 ?_
      refine x_istore (pl' := [some (.ref 45), some (.ref w), some (xV 1), some (xV 0), some (xV 1), none, none, none]) xc111_80 rfl rfl ?_
      refine x_iconst xc111_82 ?_
      refine x_istore (pl' := [some (.ref 45), some (.ref w), some (xV 1), some (xV 0), some (xV 1), some (xV 0), none, none]) xc111_83 rfl rfl ?_
      exact k4 h0 h2

theorem w111i_1 {ro : Nat → Nat × (Nat → Int32)} {d : Nat} {Q : Option Value → pmS → Prop} {v6 : Option Value} {v7 : Option Value} {ac sf i : Int} {w : Nat} {a : xA} {b : xB} (hz : uWz w) (hac : -1 ≤ ac ∧ ac ≤ 191) (hsf : sf = 0 ∨ sf = 1) (hi : 0 ≤ i ∧ i ≤ 128)
    (k1 : (128 ≤ i) → pmWp ro d 7 111 1 194 [some (.ref 45), some (.ref w), some (xV 1), some (xV ac), some (xV sf), some (xV i), v6, v7] [] (xS a b) Q)
    (k2 : (¬ 128 ≤ i) → (¬ ac = -1) → pmWp ro d 7 111 1 194 [some (.ref 45), some (.ref w), some (xV 1), some (xV ac), some (xV sf), some (xV i), v6, v7] [] (xS a b) Q)
    (k3 : (¬ 128 ≤ i) → (ac = -1) → (64 ≤ i) → (¬ 0 = sf) → pmCs ro d 102 [.ref 45, .ref w, xV (xOr (2 * 64) (i % 64))] (xS a b) fun r σ' => pmWp ro d 7 111 1 142 [some (.ref 45), some (.ref w), some (xV 1), some (xV ac), some (xV sf), some (xV i), some (xV 2), some (xV (xOr (2 * 64) (i % 64)))] (r.toList ++ []) σ' Q)
    (k4 : (¬ 128 ≤ i) → (ac = -1) → (64 ≤ i) → (0 = sf) → pmCs ro d 102 [.ref 45, .ref w, xV (xOr (1 * 64) (i % 64))] (xS a b) fun r σ' => pmWp ro d 7 111 1 142 [some (.ref 45), some (.ref w), some (xV 1), some (xV ac), some (xV sf), some (xV i), some (xV 1), some (xV (xOr (1 * 64) (i % 64)))] (r.toList ++ []) σ' Q)
    (k5 : (¬ 128 ≤ i) → (ac = -1) → (¬ 64 ≤ i) → (¬ 1 = sf) → pmCs ro d 102 [.ref 45, .ref w, xV (xOr (2 * 64) (i % 64))] (xS a b) fun r σ' => pmWp ro d 7 111 1 142 [some (.ref 45), some (.ref w), some (xV 1), some (xV ac), some (xV sf), some (xV i), some (xV 2), some (xV (xOr (2 * 64) (i % 64)))] (r.toList ++ []) σ' Q)
    (k6 : (¬ 128 ≤ i) → (ac = -1) → (¬ 64 ≤ i) → (1 = sf) → pmCs ro d 102 [.ref 45, .ref w, xV (xOr (1 * 64) (i % 64))] (xS a b) fun r σ' => pmWp ro d 7 111 1 142 [some (.ref 45), some (.ref w), some (xV 1), some (xV ac), some (xV sf), some (xV i), some (xV 1), some (xV (xOr (1 * 64) (i % 64)))] (r.toList ++ []) σ' Q) :
    pmWp ro d 7 111 1 85 [some (.ref 45), some (.ref w), some (xV 1), some (xV ac), some (xV sf), some (xV i), v6, v7] [] (xS a b) Q := by
  refine x_iload xc111_85 rfl ?_
  refine x_sipush xc111_87 (by decide) ?_
  refine x_icge xc111_90 (xRk (by have g0 := hi; omega)) (xRk (by decide)) (fun h0 => ?_) (fun h0 => ?_)
  · exact k1 h0
  · refine x_iloadn xc111_93 rfl ?_
    refine x_iconst xc111_94 ?_
    refine x_icne xc111_95 (xRk (by have g0 := hac; omega)) (xRk (by decide)) (fun h1 => ?_) (fun h1 => ?_)
    · exact k2 h0 h1
    · replace h1 := Classical.not_not.mp h1
      refine x_iload xc111_98 rfl ?_
      refine x_bipush xc111_100 (by decide) ?_
      refine x_icge xc111_102 (xRk (by have g0 := hi; omega)) (xRk (by decide)) (fun h2 => ?_) (fun h2 => ?_)
      · refine x_iconst xc111_109 ?_
        refine x_iload xc111_110 rfl ?_
        refine x_icne xc111_112 (xRk (by decide)) (xRk (by have g0 := hsf; omega)) (fun h3 => ?_) (fun h3 => ?_)
        · refine x_iconst xc111_119 ?_
          refine x_istore (pl' := [some (.ref 45), some (.ref w), some (xV 1), some (xV ac), some (xV sf), some (xV i), some (xV 2), v7]) xc111_120 rfl rfl ?_
          refine x_iload xc111_122 rfl ?_
          refine x_bipush xc111_124 (by decide) ?_
          refine x_ishl (M := 64) (by omega) (by omega) (by decide) xc111_126 ?_
          refine x_iload xc111_127 rfl ?_
          refine x_bipush xc111_129 (by decide) ?_
          refine x_irem (by have g0 := hi; omega) (xRk (by have g0 := hi; omega)) (by omega) (xRk (by decide)) xc111_131 ?_
          refine x_ior xc111_132 ?_
          refine x_istore (pl' := [some (.ref 45), some (.ref w), some (xV 1), some (xV ac), some (xV sf), some (xV i), some (xV 2), some (xV (xOr (2 * 64) (i % 64)))]) xc111_133 rfl rfl ?_
          refine x_aloadn xc111_135 rfl ?_
          refine x_aloadn xc111_136 rfl ?_
          refine x_iload xc111_137 rfl ?_
          refine x_cV (as := [.ref w, xV (xOr (2 * 64) (i % 64))]) (rest := []) xc111_139 rfl xi102 xz45 ⟨rfl, rfl⟩ rfl rfl ?_
          exact k3 h0 h1 h2 h3
        · replace h3 := Classical.not_not.mp h3
          refine x_iconst xc111_115 ?_
          refine x_goto xc111_116 ?_
          refine x_istore (pl' := [some (.ref 45), some (.ref w), some (xV 1), some (xV ac), some (xV sf), some (xV i), some (xV 1), v7]) xc111_120 rfl rfl ?_
          refine x_iload xc111_122 rfl ?_
          refine x_bipush xc111_124 (by decide) ?_
          refine x_ishl (M := 64) (by omega) (by omega) (by decide) xc111_126 ?_
          refine x_iload xc111_127 rfl ?_
          refine x_bipush xc111_129 (by decide) ?_
          refine x_irem (by have g0 := hi; omega) (xRk (by have g0 := hi; omega)) (by omega) (xRk (by decide)) xc111_131 ?_
          refine x_ior xc111_132 ?_
          refine x_istore (pl' := [some (.ref 45), some (.ref w), some (xV 1), some (xV ac), some (xV sf), some (xV i), some (xV 1), some (xV (xOr (1 * 64) (i % 64)))]) xc111_133 rfl rfl ?_
          refine x_aloadn xc111_135 rfl ?_
          refine x_aloadn xc111_136 rfl ?_
          refine x_iload xc111_137 rfl ?_
          refine x_cV (as := [.ref w, xV (xOr (1 * 64) (i % 64))]) (rest := []) xc111_139 rfl xi102 xz45 ⟨rfl, rfl⟩ rfl rfl ?_
          exact k4 h0 h1 h2 h3
      · refine x_iconst xc111_105 ?_
        refine x_goto xc111_106 ?_
        refine x_iload xc111_110 rfl ?_
        refine x_icne xc111_112 (xRk (by decide)) (xRk (by have g0 := hsf; omega)) (fun h4 => ?_) (fun h4 => ?_)
        · refine x_iconst xc111_119 ?_
          refine x_istore (pl' := [some (.ref 45), some (.ref w), some (xV 1), some (xV ac), some (xV sf), some (xV i), some (xV 2), v7]) xc111_120 rfl rfl ?_
          refine x_iload xc111_122 rfl ?_
          refine x_bipush xc111_124 (by decide) ?_
          refine x_ishl (M := 64) (by omega) (by omega) (by decide) xc111_126 ?_
          refine x_iload xc111_127 rfl ?_
          refine x_bipush xc111_129 (by decide) ?_
          refine x_irem (by have g0 := hi; omega) (xRk (by have g0 := hi; omega)) (by omega) (xRk (by decide)) xc111_131 ?_
          refine x_ior xc111_132 ?_
          refine x_istore (pl' := [some (.ref 45), some (.ref w), some (xV 1), some (xV ac), some (xV sf), some (xV i), some (xV 2), some (xV (xOr (2 * 64) (i % 64)))]) xc111_133 rfl rfl ?_
          refine x_aloadn xc111_135 rfl ?_
          refine x_aloadn xc111_136 rfl ?_
          refine x_iload xc111_137 rfl ?_
          refine x_cV (as := [.ref w, xV (xOr (2 * 64) (i % 64))]) (rest := []) xc111_139 rfl xi102 xz45 ⟨rfl, rfl⟩ rfl rfl ?_
          exact k5 h0 h1 h2 h4
        · replace h4 := Classical.not_not.mp h4
          refine x_iconst xc111_115 ?_
          refine x_goto xc111_116 ?_
          refine x_istore (pl' := [some (.ref 45), some (.ref w), some (xV 1), some (xV ac), some (xV sf), some (xV i), some (xV 1), v7]) xc111_120 rfl rfl ?_
          refine x_iload xc111_122 rfl ?_
          refine x_bipush xc111_124 (by decide) ?_
          refine x_ishl (M := 64) (by omega) (by omega) (by decide) xc111_126 ?_
          refine x_iload xc111_127 rfl ?_
          refine x_bipush xc111_129 (by decide) ?_
          refine x_irem (by have g0 := hi; omega) (xRk (by have g0 := hi; omega)) (by omega) (xRk (by decide)) xc111_131 ?_
          refine x_ior xc111_132 ?_
          refine x_istore (pl' := [some (.ref 45), some (.ref w), some (xV 1), some (xV ac), some (xV sf), some (xV i), some (xV 1), some (xV (xOr (1 * 64) (i % 64)))]) xc111_133 rfl rfl ?_
          refine x_aloadn xc111_135 rfl ?_
          refine x_aloadn xc111_136 rfl ?_
          refine x_iload xc111_137 rfl ?_
          refine x_cV (as := [.ref w, xV (xOr (1 * 64) (i % 64))]) (rest := []) xc111_139 rfl xi102 xz45 ⟨rfl, rfl⟩ rfl rfl ?_
          exact k6 h0 h1 h2 h4

theorem w111c_1 {ro : Nat → Nat × (Nat → Int32)} {d : Nat} {Q : Option Value → pmS → Prop} {v6 : Option Value} {z v ac sf i : Int} {w : Nat} {a : xA} {b : xB} (hz : uWz w) (hac : -1 ≤ ac ∧ ac ≤ 191) (hsf : sf = 0 ∨ sf = 1) (hi : 0 ≤ i ∧ i ≤ 127) (hv : 64 ≤ v ∧ v ≤ 191) (hzz : z = 0 ∨ z = 1)
    (k1 : (z = 0) → pmWp ro d 7 111 1 188 [some (.ref 45), some (.ref w), some (xV 1), some (xV ac), some (xV sf), some (xV i), v6, some (xV v)] [] (xS a b) Q)
    (k2 : (¬ z = 0) → pmCs ro d 66 [.ref 52, .ref w] (xS a b) fun r σ' => pmWp ro d 7 111 1 155 [some (.ref 45), some (.ref w), some (xV 1), some (xV ac), some (xV sf), some (xV i), v6, some (xV v)] (r.toList ++ []) σ' Q) :
    pmWp ro d 7 111 1 142 [some (.ref 45), some (.ref w), some (xV 1), some (xV ac), some (xV sf), some (xV i), v6, some (xV v)] [xV z] (xS a b) Q := by
  refine x_ifeq xc111_142 (xRk (by have g0 := hzz; omega)) (fun h0 => ?_) (fun h0 => ?_)
  · exact k1 h0
  · refine x_aloadn xc111_145 rfl ?_
    refine x_gfr xc111_146 rfl rfl xz45 rfl ?_
    refine x_iloadn xc111_149 rfl ?_
    refine x_aal (k := 1) (q := 52) xc111_150 xz46 rfl ?_
    refine x_aloadn xc111_151 rfl ?_
    refine x_cV (as := [.ref w]) (rest := []) xc111_152 rfl xi66 xz52 ⟨rfl, rfl⟩ rfl rfl ?_
    exact k2 h0

theorem w111s_1 {ro : Nat → Nat × (Nat → Int32)} {d : Nat} {Q : Option Value → pmS → Prop} {v6 : Option Value} {v ac sf i : Int} {w : Nat} {a : xA} {b : xB} (hz : uWz w) (hac : -1 ≤ ac ∧ ac ≤ 191) (hsf : sf = 0 ∨ sf = 1) (hi : 0 ≤ i ∧ i ≤ 127) (hv : 64 ≤ v ∧ v ≤ 191)
    (k1 : pmCs ro d 104 [.ref 45, .ref 52, xV v] (xS a b) fun r σ' => pmWp ro d 7 111 1 167 [some (.ref 45), some (.ref w), some (xV 1), some (xV ac), some (xV sf), some (xV i), v6, some (xV v)] (r.toList ++ []) σ' Q) :
    pmWp ro d 7 111 1 155 [some (.ref 45), some (.ref w), some (xV 1), some (xV ac), some (xV sf), some (xV i), v6, some (xV v)] [] (xS a b) Q := by
  refine x_aloadn xc111_155 rfl ?_
  refine x_aloadn xc111_156 rfl ?_
  refine x_gfr xc111_157 rfl rfl xz45 rfl ?_
  refine x_iloadn xc111_160 rfl ?_
  refine x_aal (k := 1) (q := 52) xc111_161 xz46 rfl ?_
  refine x_iload xc111_162 rfl ?_
  refine x_cV (as := [.ref 52, xV v]) (rest := []) xc111_164 rfl xi104 xz45 ⟨rfl, rfl⟩ rfl rfl ?_
  exact k1

theorem w111t_1 {ro : Nat → Nat × (Nat → Int32)} {d : Nat} {Q : Option Value → pmS → Prop} {v6 : Option Value} {v ac sf i : Int} {w : Nat} {a : xA} {b : xB} (hz : uWz w) (hac : -1 ≤ ac ∧ ac ≤ 191) (hsf : sf = 0 ∨ sf = 1) (hi : 0 ≤ i ∧ i ≤ 127) (hv : 64 ≤ v ∧ v ≤ 191)
    (k1 : pmCs ro d 112 [.ref 45, .ref 52, xV 1] (xS a b) fun r σ' => pmWp ro d 7 111 1 178 [some (.ref 45), some (.ref w), some (xV 1), some (xV ac), some (xV sf), some (xV i), v6, some (xV v)] (r.toList ++ []) σ' Q) :
    pmWp ro d 7 111 1 167 [some (.ref 45), some (.ref w), some (xV 1), some (xV ac), some (xV sf), some (xV i), v6, some (xV v)] [] (xS a b) Q := by
  refine x_aloadn xc111_167 rfl ?_
  refine x_aloadn xc111_168 rfl ?_
  refine x_gfr xc111_169 rfl rfl xz45 rfl ?_
  refine x_iloadn xc111_172 rfl ?_
  refine x_aal (k := 1) (q := 52) xc111_173 xz46 rfl ?_
  refine x_iloadn xc111_174 rfl ?_
  refine x_cV (as := [.ref 52, xV 1]) (rest := []) xc111_175 rfl xi112 xz45 ⟨rfl, rfl⟩ rfl rfl ?_
  exact k1

theorem w111e_1 {ro : Nat → Nat × (Nat → Int32)} {d : Nat} {Q : Option Value → pmS → Prop} {v6 : Option Value} {z v ac sf i : Int} {w : Nat} {a : xA} {b : xB} (hz : uWz w) (hac : -1 ≤ ac ∧ ac ≤ 191) (hsf : sf = 0 ∨ sf = 1) (hi : 0 ≤ i ∧ i ≤ 127) (hv : 64 ≤ v ∧ v ≤ 191) (hzz : z = 0 ∨ z = 1)
    (k1 : (z = 0) → pmWp ro d 7 111 1 188 [some (.ref 45), some (.ref w), some (xV 1), some (xV (-1)), some (xV sf), some (xV i), v6, some (xV v)] [] (xS a b) Q)
    (k2 : (¬ z = 0) → pmWp ro d 7 111 1 188 [some (.ref 45), some (.ref w), some (xV 1), some (xV v), some (xV sf), some (xV i), v6, some (xV v)] [] (xS a b) Q) :
    pmWp ro d 7 111 1 178 [some (.ref 45), some (.ref w), some (xV 1), some (xV ac), some (xV sf), some (xV i), v6, some (xV v)] [xV z] (xS a b) Q := by
  refine x_ifeq xc111_178 (xRk (by have g0 := hzz; omega)) (fun h0 => ?_) (fun h0 => ?_)
  · refine x_iconst xc111_186 ?_
    refine x_istoren (pl' := [some (.ref 45), some (.ref w), some (xV 1), some (xV (-1)), some (xV sf), some (xV i), v6, some (xV v)]) xc111_187 rfl rfl ?_
    exact k1 h0
  · refine x_iload xc111_181 rfl ?_
    refine x_goto xc111_183 ?_
    refine x_istoren (pl' := [some (.ref 45), some (.ref w), some (xV 1), some (xV v), some (xV sf), some (xV i), v6, some (xV v)]) xc111_187 rfl rfl ?_
    exact k2 h0

theorem w111n_1 {ro : Nat → Nat × (Nat → Int32)} {d : Nat} {Q : Option Value → pmS → Prop} {v6 : Option Value} {v ac sf i : Int} {w : Nat} {a : xA} {b : xB} (hz : uWz w) (hac : -1 ≤ ac ∧ ac ≤ 191) (hsf : sf = 0 ∨ sf = 1) (hi : 0 ≤ i ∧ i ≤ 127) (hv : 64 ≤ v ∧ v ≤ 191)
    (k1 : pmWp ro d 7 111 1 85 [some (.ref 45), some (.ref w), some (xV 1), some (xV ac), some (xV sf), some (xV (i + 1)), v6, some (xV v)] [] (xS a b) Q) :
    pmWp ro d 7 111 1 188 [some (.ref 45), some (.ref w), some (xV 1), some (xV ac), some (xV sf), some (xV i), v6, some (xV v)] [] (xS a b) Q := by
  refine x_iinc (pl' := [some (.ref 45), some (.ref w), some (xV 1), some (xV ac), some (xV sf), some (xV (i + 1)), v6, some (xV v)]) xc111_188 rfl rfl ?_
  refine x_goto xc111_191 ?_
  exact k1

theorem w111r_1 {ro : Nat → Nat × (Nat → Int32)} {d : Nat} {Q : Option Value → pmS → Prop} {v6 : Option Value} {v7 : Option Value} {ac sf i : Int} {w : Nat} {a : xA} {b : xB} (hz : uWz w) (hac : -1 ≤ ac ∧ ac ≤ 191) (hsf : sf = 0 ∨ sf = 1) (hi : 0 ≤ i ∧ i ≤ 128)
    (k1 : Q (some (xV ac)) (xS (xU a (w + 4) 1 (ac + 2)) b)) :
    pmWp ro d 7 111 1 194 [some (.ref 45), some (.ref w), some (xV 1), some (xV ac), some (xV sf), some (xV i), v6, v7] [] (xS a b) Q := by
  refine x_aloadn xc111_194 rfl ?_
  refine x_gfr xc111_195 rfl rfl hz.1 rfl ?_
  refine x_iloadn xc111_198 rfl ?_
  refine x_iloadn xc111_199 rfl ?_
  refine x_iconst xc111_200 ?_
  refine x_iadd xc111_201 ?_
  refine x_ias xc111_202 hz.2.2.2.2 (by omega) (by omega) (by omega) ?_
  refine x_iloadn xc111_203 rfl ?_
  refine x_iret xc111_204 (Or.inl rfl) ?_
  exact k1

theorem w111_2 {ro : Nat → Nat × (Nat → Int32)} {d : Nat} {Q : Option Value → pmS → Prop} {w : Nat} {a : xA} {b : xB} (hz : uWz w) (hw9 : w ≤ 80) (hA : xAr a)
    (k1 : (0 < a w 7) → Q (some (xV (-1))) (xS a b))
    (k2 : (¬ 0 < a w 7) → (a (w + 4) 2 = 0) → pmCs ro d 112 [.ref 45, .ref w, xV 2] (xS a b) fun r σ' => pmWp ro d 7 111 1 48 [some (.ref 45), some (.ref w), some (xV 2), none, none, none, none, none] (r.toList ++ []) σ' Q)
    (k3 : (¬ 0 < a w 7) → (¬ a (w + 4) 2 = 0) → Q (some (xV (a (w + 4) 2 - 2))) (xS a b)) :
    pmWp ro d 7 111 1 0 [some (.ref 45), some (.ref w), some (xV 2), none, none, none, none, none] [] (xS a b) Q := by
  refine x_aloadn xc111_0 rfl ?_
  refine x_gfi (k := 7) xc111_1 rfl (Or.inl rfl) rfl hz.1 ?_
  refine x_ifgt xc111_4 (xRk (by have g0 := xRb (hA w 7); omega)) (fun h0 => ?_) (fun h0 => ?_)
  · refine x_iconst xc111_16 ?_
    refine x_iret xc111_17 (Or.inl rfl) ?_
    exact k1 h0
  · refine x_iloadn xc111_7 rfl ?_
    refine x_iflt xc111_8 (xRk (by decide)) (fun h => absurd h (by omega)) (fun _ => ?_)
    refine x_iloadn xc111_11 rfl ?_
    refine x_iconst xc111_12 ?_
    refine x_icle xc111_13 (xRk (by decide)) (xRk (by decide)) (fun _ => ?_) (fun h => absurd h (by omega))
    refine x_iloadn xc111_18 rfl ?_
    refine x_ifne xc111_19 (xRk (by decide)) (fun _ => ?_) (fun h => absurd h (by omega))
    refine x_aloadn xc111_24 rfl ?_
    refine x_gfr xc111_25 rfl rfl hz.1 rfl ?_
    refine x_iloadn xc111_28 rfl ?_
    refine x_ial xc111_29 hz.2.2.2.2 (Nat.ble_eq_true_of_le (by omega)) (by omega) (by omega) (by omega) ?_
    refine x_ifeq xc111_30 (xRk (by have g0 := xRb (hA (w + 4) 2); omega)) (fun h4 => ?_) (fun h4 => ?_)
    · refine x_aloadn xc111_42 rfl ?_
      refine x_aloadn xc111_43 rfl ?_
      refine x_iloadn xc111_44 rfl ?_
      refine x_cV (as := [.ref w, xV 2]) (rest := []) xc111_45 rfl xi112 xz45 ⟨rfl, rfl⟩ rfl rfl ?_
      exact k2 h0 h4
    · refine x_aloadn xc111_33 rfl ?_
      refine x_gfr xc111_34 rfl rfl hz.1 rfl ?_
      refine x_iloadn xc111_37 rfl ?_
      refine x_ial xc111_38 hz.2.2.2.2 (Nat.ble_eq_true_of_le (by omega)) (by omega) (by omega) (by omega) ?_
      refine x_iconst xc111_39 ?_
      refine x_isub xc111_40 ?_
      refine x_iret xc111_41 (Or.inl rfl) ?_
      exact k3 h0 h4

theorem w111a_2 {ro : Nat → Nat × (Nat → Int32)} {d : Nat} {Q : Option Value → pmS → Prop} {z : Int} {w : Nat} {a : xA} {b : xB} (hz : uWz w) (hzz : z = 0 ∨ z = 1) (hA : xAr a) (hB6 : 0 ≤ a w 6 ∧ a w 6 ≤ 1000) (hB8 : 0 ≤ a w 8 ∧ a w 8 ≤ 1000) (hB9 : 0 ≤ a w 9 ∧ a w 9 ≤ 1000) (hB10 : 0 ≤ a w 10 ∧ a w 10 ≤ 1000000) (hB12 : 0 ≤ a w 12 ∧ a w 12 ≤ 1) (hd : 1 ≤ d)
    (k1 : (z = 0) → (uPc 128 (a w 8) (a w 9) < uPc 64 (a w 8) (a w 9)) → pmWp ro d 7 111 1 85 [some (.ref 45), some (.ref w), some (xV 2), some (xV (-1)), some (xV 0), some (xV 0), none, none] [] (xS a b) Q)
    (k2 : (z = 0) → (¬ uPc 128 (a w 8) (a w 9) < uPc 64 (a w 8) (a w 9)) → pmWp ro d 7 111 1 85 [some (.ref 45), some (.ref w), some (xV 2), some (xV (-1)), some (xV 1), some (xV 0), none, none] [] (xS a b) Q)
    (k3 : (¬ z = 0) → (uPc 128 (a w 8) (a w 9) < uPc 64 (a w 8) (a w 9)) → pmWp ro d 7 111 1 85 [some (.ref 45), some (.ref w), some (xV 2), some (xV 0), some (xV 0), some (xV 0), none, none] [] (xS a b) Q)
    (k4 : (¬ z = 0) → (¬ uPc 128 (a w 8) (a w 9) < uPc 64 (a w 8) (a w 9)) → pmWp ro d 7 111 1 85 [some (.ref 45), some (.ref w), some (xV 2), some (xV 0), some (xV 1), some (xV 0), none, none] [] (xS a b) Q) :
    pmWp ro d 7 111 1 48 [some (.ref 45), some (.ref w), some (xV 2), none, none, none, none, none] [xV z] (xS a b) Q := by
  refine x_ifeq xc111_48 (xRk (by have g0 := hzz; omega)) (fun h0 => ?_) (fun h0 => ?_)
  · refine x_iconst xc111_55 ?_
    refine x_istoren (pl' := [some (.ref 45), some (.ref w), some (xV 2), some (xV (-1)), none, none, none, none]) xc111_56 rfl rfl ?_
    refine x_aloadn xc111_57 rfl ?_
    refine x_aloadn xc111_58 rfl ?_
    refine x_bipush xc111_59 (by decide) ?_
    refine x_cV (as := [.ref w, xV 64]) (rest := []) xc111_61 rfl xi103 xz45 ⟨rfl, rfl⟩ rfl rfl ?_
    refine rk103 (by omega) hz (by omega) hA hB6 hB8 hB9 hB10 hB12 ?_
    refine x_aloadn xc111_64 rfl ?_
    refine x_aloadn xc111_65 rfl ?_
    refine x_sipush xc111_66 (by decide) ?_
    refine x_cV (as := [.ref w, xV 128]) (rest := [xV (uPc 64 (a w 8) (a w 9))]) xc111_69 rfl xi103 xz45 ⟨rfl, rfl⟩ rfl rfl ?_
    refine rk103 (by omega) hz (by omega) hA hB6 hB8 hB9 hB10 hB12 ?_
    refine x_icgt xc111_72 (xRk (by have g0 := uPc_b (c := 64) hB8 hB9; omega)) (xRk (by have g0 := uPc_b (c := 128) hB8 hB9; omega)) (fun h1 => ?_) (fun h1 => ?_)
    · refine x_iconst xc111_79 ?_
      refine x_istore (pl' := [some (.ref 45), some (.ref w), some (xV 2), some (xV (-1)), some (xV 0), none, none, none]) xc111_80 rfl rfl ?_
      refine x_iconst xc111_82 ?_
      refine x_istore (pl' := [some (.ref 45), some (.ref w), some (xV 2), some (xV (-1)), some (xV 0), some (xV 0), none, none]) xc111_83 rfl rfl ?_
      exact k1 h0 h1
    · refine x_iconst xc111_75 ?_
      refine x_goto xc111_76 ?_
      refine x_istore (pl' := [some (.ref 45), some (.ref w), some (xV 2), some (xV (-1)), some (xV 1), none, none, none]) xc111_80 rfl rfl ?_
      refine x_iconst xc111_82 ?_
      refine x_istore (pl' := [some (.ref 45), some (.ref w), some (xV 2), some (xV (-1)), some (xV 1), some (xV 0), none, none]) xc111_83 rfl rfl ?_
      exact k2 h0 h1
  · refine x_iconst xc111_51 ?_
    refine x_goto xc111_52 ?_
    refine x_istoren (pl' := [some (.ref 45), some (.ref w), some (xV 2), some (xV 0), none, none, none, none]) xc111_56 rfl rfl ?_
    refine x_aloadn xc111_57 rfl ?_
    refine x_aloadn xc111_58 rfl ?_
    refine x_bipush xc111_59 (by decide) ?_
    refine x_cV (as := [.ref w, xV 64]) (rest := []) xc111_61 rfl xi103 xz45 ⟨rfl, rfl⟩ rfl rfl ?_
    refine rk103 (by omega) hz (by omega) hA hB6 hB8 hB9 hB10 hB12 ?_
    refine x_aloadn xc111_64 rfl ?_
    refine x_aloadn xc111_65 rfl ?_
    refine x_sipush xc111_66 (by decide) ?_
    refine x_cV (as := [.ref w, xV 128]) (rest := [xV (uPc 64 (a w 8) (a w 9))]) xc111_69 rfl xi103 xz45 ⟨rfl, rfl⟩ rfl rfl ?_
    refine rk103 (by omega) hz (by omega) hA hB6 hB8 hB9 hB10 hB12 ?_
    refine x_icgt xc111_72 (xRk (by have g0 := uPc_b (c := 64) hB8 hB9; omega)) (xRk (by have g0 := uPc_b (c := 128) hB8 hB9; omega)) (fun h2 => ?_) (fun h2 => ?_)
    · refine x_iconst xc111_79 ?_
      refine x_istore (pl' := [some (.ref 45), some (.ref w), some (xV 2), some (xV 0), some (xV 0), none, none, none]) xc111_80 rfl rfl ?_
      refine x_iconst xc111_82 ?_
      refine x_istore (pl' := [some (.ref 45), some (.ref w), some (xV 2), some (xV 0), some (xV 0), some (xV 0), none, none]) xc111_83 rfl rfl ?_
      exact k3 h0 h2
    · refine x_iconst xc111_75 ?_
      refine x_goto xc111_76 ?_
      refine x_istore (pl' := [some (.ref 45), some (.ref w), some (xV 2), some (xV 0), some (xV 1), none, none, none]) xc111_80 rfl rfl ?_
      refine x_iconst xc111_82 ?_
      refine x_istore (pl' := [some (.ref 45), some (.ref w), some (xV 2), some (xV 0), some (xV 1), some (xV 0), none, none]) xc111_83 rfl rfl ?_
      exact k4 h0 h2

theorem w111i_2 {ro : Nat → Nat × (Nat → Int32)} {d : Nat} {Q : Option Value → pmS → Prop} {v6 : Option Value} {v7 : Option Value} {ac sf i : Int} {w : Nat} {a : xA} {b : xB} (hz : uWz w) (hac : -1 ≤ ac ∧ ac ≤ 191) (hsf : sf = 0 ∨ sf = 1) (hi : 0 ≤ i ∧ i ≤ 128)
    (k1 : (128 ≤ i) → pmWp ro d 7 111 1 194 [some (.ref 45), some (.ref w), some (xV 2), some (xV ac), some (xV sf), some (xV i), v6, v7] [] (xS a b) Q)
    (k2 : (¬ 128 ≤ i) → (¬ ac = -1) → pmWp ro d 7 111 1 194 [some (.ref 45), some (.ref w), some (xV 2), some (xV ac), some (xV sf), some (xV i), v6, v7] [] (xS a b) Q)
    (k3 : (¬ 128 ≤ i) → (ac = -1) → (64 ≤ i) → (¬ 0 = sf) → pmCs ro d 102 [.ref 45, .ref w, xV (xOr (2 * 64) (i % 64))] (xS a b) fun r σ' => pmWp ro d 7 111 1 142 [some (.ref 45), some (.ref w), some (xV 2), some (xV ac), some (xV sf), some (xV i), some (xV 2), some (xV (xOr (2 * 64) (i % 64)))] (r.toList ++ []) σ' Q)
    (k4 : (¬ 128 ≤ i) → (ac = -1) → (64 ≤ i) → (0 = sf) → pmCs ro d 102 [.ref 45, .ref w, xV (xOr (1 * 64) (i % 64))] (xS a b) fun r σ' => pmWp ro d 7 111 1 142 [some (.ref 45), some (.ref w), some (xV 2), some (xV ac), some (xV sf), some (xV i), some (xV 1), some (xV (xOr (1 * 64) (i % 64)))] (r.toList ++ []) σ' Q)
    (k5 : (¬ 128 ≤ i) → (ac = -1) → (¬ 64 ≤ i) → (¬ 1 = sf) → pmCs ro d 102 [.ref 45, .ref w, xV (xOr (2 * 64) (i % 64))] (xS a b) fun r σ' => pmWp ro d 7 111 1 142 [some (.ref 45), some (.ref w), some (xV 2), some (xV ac), some (xV sf), some (xV i), some (xV 2), some (xV (xOr (2 * 64) (i % 64)))] (r.toList ++ []) σ' Q)
    (k6 : (¬ 128 ≤ i) → (ac = -1) → (¬ 64 ≤ i) → (1 = sf) → pmCs ro d 102 [.ref 45, .ref w, xV (xOr (1 * 64) (i % 64))] (xS a b) fun r σ' => pmWp ro d 7 111 1 142 [some (.ref 45), some (.ref w), some (xV 2), some (xV ac), some (xV sf), some (xV i), some (xV 1), some (xV (xOr (1 * 64) (i % 64)))] (r.toList ++ []) σ' Q) :
    pmWp ro d 7 111 1 85 [some (.ref 45), some (.ref w), some (xV 2), some (xV ac), some (xV sf), some (xV i), v6, v7] [] (xS a b) Q := by
  refine x_iload xc111_85 rfl ?_
  refine x_sipush xc111_87 (by decide) ?_
  refine x_icge xc111_90 (xRk (by have g0 := hi; omega)) (xRk (by decide)) (fun h0 => ?_) (fun h0 => ?_)
  · exact k1 h0
  · refine x_iloadn xc111_93 rfl ?_
    refine x_iconst xc111_94 ?_
    refine x_icne xc111_95 (xRk (by have g0 := hac; omega)) (xRk (by decide)) (fun h1 => ?_) (fun h1 => ?_)
    · exact k2 h0 h1
    · replace h1 := Classical.not_not.mp h1
      refine x_iload xc111_98 rfl ?_
      refine x_bipush xc111_100 (by decide) ?_
      refine x_icge xc111_102 (xRk (by have g0 := hi; omega)) (xRk (by decide)) (fun h2 => ?_) (fun h2 => ?_)
      · refine x_iconst xc111_109 ?_
        refine x_iload xc111_110 rfl ?_
        refine x_icne xc111_112 (xRk (by decide)) (xRk (by have g0 := hsf; omega)) (fun h3 => ?_) (fun h3 => ?_)
        · refine x_iconst xc111_119 ?_
          refine x_istore (pl' := [some (.ref 45), some (.ref w), some (xV 2), some (xV ac), some (xV sf), some (xV i), some (xV 2), v7]) xc111_120 rfl rfl ?_
          refine x_iload xc111_122 rfl ?_
          refine x_bipush xc111_124 (by decide) ?_
          refine x_ishl (M := 64) (by omega) (by omega) (by decide) xc111_126 ?_
          refine x_iload xc111_127 rfl ?_
          refine x_bipush xc111_129 (by decide) ?_
          refine x_irem (by have g0 := hi; omega) (xRk (by have g0 := hi; omega)) (by omega) (xRk (by decide)) xc111_131 ?_
          refine x_ior xc111_132 ?_
          refine x_istore (pl' := [some (.ref 45), some (.ref w), some (xV 2), some (xV ac), some (xV sf), some (xV i), some (xV 2), some (xV (xOr (2 * 64) (i % 64)))]) xc111_133 rfl rfl ?_
          refine x_aloadn xc111_135 rfl ?_
          refine x_aloadn xc111_136 rfl ?_
          refine x_iload xc111_137 rfl ?_
          refine x_cV (as := [.ref w, xV (xOr (2 * 64) (i % 64))]) (rest := []) xc111_139 rfl xi102 xz45 ⟨rfl, rfl⟩ rfl rfl ?_
          exact k3 h0 h1 h2 h3
        · replace h3 := Classical.not_not.mp h3
          refine x_iconst xc111_115 ?_
          refine x_goto xc111_116 ?_
          refine x_istore (pl' := [some (.ref 45), some (.ref w), some (xV 2), some (xV ac), some (xV sf), some (xV i), some (xV 1), v7]) xc111_120 rfl rfl ?_
          refine x_iload xc111_122 rfl ?_
          refine x_bipush xc111_124 (by decide) ?_
          refine x_ishl (M := 64) (by omega) (by omega) (by decide) xc111_126 ?_
          refine x_iload xc111_127 rfl ?_
          refine x_bipush xc111_129 (by decide) ?_
          refine x_irem (by have g0 := hi; omega) (xRk (by have g0 := hi; omega)) (by omega) (xRk (by decide)) xc111_131 ?_
          refine x_ior xc111_132 ?_
          refine x_istore (pl' := [some (.ref 45), some (.ref w), some (xV 2), some (xV ac), some (xV sf), some (xV i), some (xV 1), some (xV (xOr (1 * 64) (i % 64)))]) xc111_133 rfl rfl ?_
          refine x_aloadn xc111_135 rfl ?_
          refine x_aloadn xc111_136 rfl ?_
          refine x_iload xc111_137 rfl ?_
          refine x_cV (as := [.ref w, xV (xOr (1 * 64) (i % 64))]) (rest := []) xc111_139 rfl xi102 xz45 ⟨rfl, rfl⟩ rfl rfl ?_
          exact k4 h0 h1 h2 h3
      · refine x_iconst xc111_105 ?_
        refine x_goto xc111_106 ?_
        refine x_iload xc111_110 rfl ?_
        refine x_icne xc111_112 (xRk (by decide)) (xRk (by have g0 := hsf; omega)) (fun h4 => ?_) (fun h4 => ?_)
        · refine x_iconst xc111_119 ?_
          refine x_istore (pl' := [some (.ref 45), some (.ref w), some (xV 2), some (xV ac), some (xV sf), some (xV i), some (xV 2), v7]) xc111_120 rfl rfl ?_
          refine x_iload xc111_122 rfl ?_
          refine x_bipush xc111_124 (by decide) ?_
          refine x_ishl (M := 64) (by omega) (by omega) (by decide) xc111_126 ?_
          refine x_iload xc111_127 rfl ?_
          refine x_bipush xc111_129 (by decide) ?_
          refine x_irem (by have g0 := hi; omega) (xRk (by have g0 := hi; omega)) (by omega) (xRk (by decide)) xc111_131 ?_
          refine x_ior xc111_132 ?_
          refine x_istore (pl' := [some (.ref 45), some (.ref w), some (xV 2), some (xV ac), some (xV sf), some (xV i), some (xV 2), some (xV (xOr (2 * 64) (i % 64)))]) xc111_133 rfl rfl ?_
          refine x_aloadn xc111_135 rfl ?_
          refine x_aloadn xc111_136 rfl ?_
          refine x_iload xc111_137 rfl ?_
          refine x_cV (as := [.ref w, xV (xOr (2 * 64) (i % 64))]) (rest := []) xc111_139 rfl xi102 xz45 ⟨rfl, rfl⟩ rfl rfl ?_
          exact k5 h0 h1 h2 h4
        · replace h4 := Classical.not_not.mp h4
          refine x_iconst xc111_115 ?_
          refine x_goto xc111_116 ?_
          refine x_istore (pl' := [some (.ref 45), some (.ref w), some (xV 2), some (xV ac), some (xV sf), some (xV i), some (xV 1), v7]) xc111_120 rfl rfl ?_
          refine x_iload xc111_122 rfl ?_
          refine x_bipush xc111_124 (by decide) ?_
          refine x_ishl (M := 64) (by omega) (by omega) (by decide) xc111_126 ?_
          refine x_iload xc111_127 rfl ?_
          refine x_bipush xc111_129 (by decide) ?_
          refine x_irem (by have g0 := hi; omega) (xRk (by have g0 := hi; omega)) (by omega) (xRk (by decide)) xc111_131 ?_
          refine x_ior xc111_132 ?_
          refine x_istore (pl' := [some (.ref 45), some (.ref w), some (xV 2), some (xV ac), some (xV sf), some (xV i), some (xV 1), some (xV (xOr (1 * 64) (i % 64)))]) xc111_133 rfl rfl ?_
          refine x_aloadn xc111_135 rfl ?_
          refine x_aloadn xc111_136 rfl ?_
          refine x_iload xc111_137 rfl ?_
          refine x_cV (as := [.ref w, xV (xOr (1 * 64) (i % 64))]) (rest := []) xc111_139 rfl xi102 xz45 ⟨rfl, rfl⟩ rfl rfl ?_
          exact k6 h0 h1 h2 h4

theorem w111c_2 {ro : Nat → Nat × (Nat → Int32)} {d : Nat} {Q : Option Value → pmS → Prop} {v6 : Option Value} {z v ac sf i : Int} {w : Nat} {a : xA} {b : xB} (hz : uWz w) (hac : -1 ≤ ac ∧ ac ≤ 191) (hsf : sf = 0 ∨ sf = 1) (hi : 0 ≤ i ∧ i ≤ 127) (hv : 64 ≤ v ∧ v ≤ 191) (hzz : z = 0 ∨ z = 1)
    (k1 : (z = 0) → pmWp ro d 7 111 1 188 [some (.ref 45), some (.ref w), some (xV 2), some (xV ac), some (xV sf), some (xV i), v6, some (xV v)] [] (xS a b) Q)
    (k2 : (¬ z = 0) → pmCs ro d 66 [.ref 57, .ref w] (xS a b) fun r σ' => pmWp ro d 7 111 1 155 [some (.ref 45), some (.ref w), some (xV 2), some (xV ac), some (xV sf), some (xV i), v6, some (xV v)] (r.toList ++ []) σ' Q) :
    pmWp ro d 7 111 1 142 [some (.ref 45), some (.ref w), some (xV 2), some (xV ac), some (xV sf), some (xV i), v6, some (xV v)] [xV z] (xS a b) Q := by
  refine x_ifeq xc111_142 (xRk (by have g0 := hzz; omega)) (fun h0 => ?_) (fun h0 => ?_)
  · exact k1 h0
  · refine x_aloadn xc111_145 rfl ?_
    refine x_gfr xc111_146 rfl rfl xz45 rfl ?_
    refine x_iloadn xc111_149 rfl ?_
    refine x_aal (k := 2) (q := 57) xc111_150 xz46 rfl ?_
    refine x_aloadn xc111_151 rfl ?_
    refine x_cV (as := [.ref w]) (rest := []) xc111_152 rfl xi66 xz57 ⟨rfl, rfl⟩ rfl rfl ?_
    exact k2 h0

theorem w111s_2 {ro : Nat → Nat × (Nat → Int32)} {d : Nat} {Q : Option Value → pmS → Prop} {v6 : Option Value} {v ac sf i : Int} {w : Nat} {a : xA} {b : xB} (hz : uWz w) (hac : -1 ≤ ac ∧ ac ≤ 191) (hsf : sf = 0 ∨ sf = 1) (hi : 0 ≤ i ∧ i ≤ 127) (hv : 64 ≤ v ∧ v ≤ 191)
    (k1 : pmCs ro d 104 [.ref 45, .ref 57, xV v] (xS a b) fun r σ' => pmWp ro d 7 111 1 167 [some (.ref 45), some (.ref w), some (xV 2), some (xV ac), some (xV sf), some (xV i), v6, some (xV v)] (r.toList ++ []) σ' Q) :
    pmWp ro d 7 111 1 155 [some (.ref 45), some (.ref w), some (xV 2), some (xV ac), some (xV sf), some (xV i), v6, some (xV v)] [] (xS a b) Q := by
  refine x_aloadn xc111_155 rfl ?_
  refine x_aloadn xc111_156 rfl ?_
  refine x_gfr xc111_157 rfl rfl xz45 rfl ?_
  refine x_iloadn xc111_160 rfl ?_
  refine x_aal (k := 2) (q := 57) xc111_161 xz46 rfl ?_
  refine x_iload xc111_162 rfl ?_
  refine x_cV (as := [.ref 57, xV v]) (rest := []) xc111_164 rfl xi104 xz45 ⟨rfl, rfl⟩ rfl rfl ?_
  exact k1

theorem w111t_2 {ro : Nat → Nat × (Nat → Int32)} {d : Nat} {Q : Option Value → pmS → Prop} {v6 : Option Value} {v ac sf i : Int} {w : Nat} {a : xA} {b : xB} (hz : uWz w) (hac : -1 ≤ ac ∧ ac ≤ 191) (hsf : sf = 0 ∨ sf = 1) (hi : 0 ≤ i ∧ i ≤ 127) (hv : 64 ≤ v ∧ v ≤ 191)
    (k1 : pmCs ro d 112 [.ref 45, .ref 57, xV 2] (xS a b) fun r σ' => pmWp ro d 7 111 1 178 [some (.ref 45), some (.ref w), some (xV 2), some (xV ac), some (xV sf), some (xV i), v6, some (xV v)] (r.toList ++ []) σ' Q) :
    pmWp ro d 7 111 1 167 [some (.ref 45), some (.ref w), some (xV 2), some (xV ac), some (xV sf), some (xV i), v6, some (xV v)] [] (xS a b) Q := by
  refine x_aloadn xc111_167 rfl ?_
  refine x_aloadn xc111_168 rfl ?_
  refine x_gfr xc111_169 rfl rfl xz45 rfl ?_
  refine x_iloadn xc111_172 rfl ?_
  refine x_aal (k := 2) (q := 57) xc111_173 xz46 rfl ?_
  refine x_iloadn xc111_174 rfl ?_
  refine x_cV (as := [.ref 57, xV 2]) (rest := []) xc111_175 rfl xi112 xz45 ⟨rfl, rfl⟩ rfl rfl ?_
  exact k1

theorem w111e_2 {ro : Nat → Nat × (Nat → Int32)} {d : Nat} {Q : Option Value → pmS → Prop} {v6 : Option Value} {z v ac sf i : Int} {w : Nat} {a : xA} {b : xB} (hz : uWz w) (hac : -1 ≤ ac ∧ ac ≤ 191) (hsf : sf = 0 ∨ sf = 1) (hi : 0 ≤ i ∧ i ≤ 127) (hv : 64 ≤ v ∧ v ≤ 191) (hzz : z = 0 ∨ z = 1)
    (k1 : (z = 0) → pmWp ro d 7 111 1 188 [some (.ref 45), some (.ref w), some (xV 2), some (xV (-1)), some (xV sf), some (xV i), v6, some (xV v)] [] (xS a b) Q)
    (k2 : (¬ z = 0) → pmWp ro d 7 111 1 188 [some (.ref 45), some (.ref w), some (xV 2), some (xV v), some (xV sf), some (xV i), v6, some (xV v)] [] (xS a b) Q) :
    pmWp ro d 7 111 1 178 [some (.ref 45), some (.ref w), some (xV 2), some (xV ac), some (xV sf), some (xV i), v6, some (xV v)] [xV z] (xS a b) Q := by
  refine x_ifeq xc111_178 (xRk (by have g0 := hzz; omega)) (fun h0 => ?_) (fun h0 => ?_)
  · refine x_iconst xc111_186 ?_
    refine x_istoren (pl' := [some (.ref 45), some (.ref w), some (xV 2), some (xV (-1)), some (xV sf), some (xV i), v6, some (xV v)]) xc111_187 rfl rfl ?_
    exact k1 h0
  · refine x_iload xc111_181 rfl ?_
    refine x_goto xc111_183 ?_
    refine x_istoren (pl' := [some (.ref 45), some (.ref w), some (xV 2), some (xV v), some (xV sf), some (xV i), v6, some (xV v)]) xc111_187 rfl rfl ?_
    exact k2 h0

theorem w111n_2 {ro : Nat → Nat × (Nat → Int32)} {d : Nat} {Q : Option Value → pmS → Prop} {v6 : Option Value} {v ac sf i : Int} {w : Nat} {a : xA} {b : xB} (hz : uWz w) (hac : -1 ≤ ac ∧ ac ≤ 191) (hsf : sf = 0 ∨ sf = 1) (hi : 0 ≤ i ∧ i ≤ 127) (hv : 64 ≤ v ∧ v ≤ 191)
    (k1 : pmWp ro d 7 111 1 85 [some (.ref 45), some (.ref w), some (xV 2), some (xV ac), some (xV sf), some (xV (i + 1)), v6, some (xV v)] [] (xS a b) Q) :
    pmWp ro d 7 111 1 188 [some (.ref 45), some (.ref w), some (xV 2), some (xV ac), some (xV sf), some (xV i), v6, some (xV v)] [] (xS a b) Q := by
  refine x_iinc (pl' := [some (.ref 45), some (.ref w), some (xV 2), some (xV ac), some (xV sf), some (xV (i + 1)), v6, some (xV v)]) xc111_188 rfl rfl ?_
  refine x_goto xc111_191 ?_
  exact k1

theorem w111r_2 {ro : Nat → Nat × (Nat → Int32)} {d : Nat} {Q : Option Value → pmS → Prop} {v6 : Option Value} {v7 : Option Value} {ac sf i : Int} {w : Nat} {a : xA} {b : xB} (hz : uWz w) (hac : -1 ≤ ac ∧ ac ≤ 191) (hsf : sf = 0 ∨ sf = 1) (hi : 0 ≤ i ∧ i ≤ 128)
    (k1 : Q (some (xV ac)) (xS (xU a (w + 4) 2 (ac + 2)) b)) :
    pmWp ro d 7 111 1 194 [some (.ref 45), some (.ref w), some (xV 2), some (xV ac), some (xV sf), some (xV i), v6, v7] [] (xS a b) Q := by
  refine x_aloadn xc111_194 rfl ?_
  refine x_gfr xc111_195 rfl rfl hz.1 rfl ?_
  refine x_iloadn xc111_198 rfl ?_
  refine x_iloadn xc111_199 rfl ?_
  refine x_iconst xc111_200 ?_
  refine x_iadd xc111_201 ?_
  refine x_ias xc111_202 hz.2.2.2.2 (by omega) (by omega) (by omega) ?_
  refine x_iloadn xc111_203 rfl ?_
  refine x_iret xc111_204 (Or.inl rfl) ?_
  exact k1

theorem wa110 {ro : Nat → Nat × (Nat → Int32)} {d : Nat} {Q : Option Value → pmS → Prop} {t bg : Int} {a : xA} {b : xB} (qr1 : xR t) (hb : a 0 12 = bg) (hbg : bg = 0 ∨ bg = 1)
    (k1 : (bg = 0) → Q (some (xV (-1))) (xS a b))
    (k2 : (¬ bg = 0) → (t < 0) → Q (some (xV (-1))) (xS a b))
    (k3 : (¬ bg = 0) → (¬ t < 0) → (t ≤ 2) → pmCs ro d 111 [.ref 45, .ref 21, xV t] (xS a b) fun r σ' => pmWp ro d 11 110 1 30 [some (.ref 0), some (xV t)] (r.toList ++ []) σ' Q)
    (k4 : (¬ bg = 0) → (¬ t < 0) → (¬ t ≤ 2) → Q (some (xV (-1))) (xS a b)) :
    pmWp ro d 11 110 1 0 [some (.ref 0), some (xV t)] [] (xS a b) Q := by
  refine x_aloadn xc110_0 rfl ?_
  refine x_gfi' (k := 12) (v := bg) xc110_1 rfl (Or.inr rfl) rfl xz0 hb ?_
  refine x_ifeq xc110_4 (xRk (by have g0 := hbg; omega)) (fun h0 => ?_) (fun h0 => ?_)
  · refine x_iconst xc110_16 ?_
    refine x_iret xc110_17 (Or.inl rfl) ?_
    exact k1 h0
  · refine x_iloadn xc110_7 rfl ?_
    refine x_iflt xc110_8 (xRk (by have g0 := xRb qr1; omega)) (fun h1 => ?_) (fun h1 => ?_)
    · refine x_iconst xc110_16 ?_
      refine x_iret xc110_17 (Or.inl rfl) ?_
      exact k2 h0 h1
    · refine x_iloadn xc110_11 rfl ?_
      refine x_iconst xc110_12 ?_
      refine x_icle xc110_13 (xRk (by have g0 := xRb qr1; omega)) (xRk (by decide)) (fun h2 => ?_) (fun h2 => ?_)
      · refine x_aloadn xc110_18 rfl ?_
        refine x_gfr xc110_19 rfl rfl xz0 rfl ?_
        refine x_aloadn xc110_22 rfl ?_
        refine x_gfr xc110_23 rfl rfl xz0 rfl ?_
        refine x_iloadn xc110_26 rfl ?_
        refine x_cV (as := [.ref 21, xV t]) (rest := []) xc110_27 rfl xi111 xz45 ⟨rfl, rfl⟩ rfl rfl ?_
        exact k3 h0 h1 h2
      · refine x_iconst xc110_16 ?_
        refine x_iret xc110_17 (Or.inl rfl) ?_
        exact k4 h0 h1 h2

theorem wa110a {ro : Nat → Nat × (Nat → Int32)} {d : Nat} {Q : Option Value → pmS → Prop} {t z : Int} {a : xA} {b : xB} (hzr : xR z)
    (k1 : (z < 0) → Q (some (xV 0)) (xS a b))
    (k2 : (¬ z < 0) → Q (some (xV 1)) (xS a b)) :
    pmWp ro d 11 110 1 30 [some (.ref 0), some (xV t)] [xV z] (xS a b) Q := by
  refine x_iflt xc110_30 (xRk (by have g0 := xRb hzr; omega)) (fun h0 => ?_) (fun h0 => ?_)
  · refine x_iconst xc110_37 ?_
    refine x_iret xc110_38 (Or.inl rfl) ?_
    exact k1 h0
  · refine x_iconst xc110_33 ?_
    refine x_goto xc110_34 ?_
    refine x_iret xc110_38 (Or.inl rfl) ?_
    exact k2 h0

theorem wa114 {ro : Nat → Nat × (Nat → Int32)} {d : Nat} {Q : Option Value → pmS → Prop} {bg : Int} {a : xA} {b : xB} (hb : a 0 12 = bg) (hbg : bg = 0 ∨ bg = 1)
    (k1 : (¬ bg = 0) → pmCs ro d 111 [.ref 45, .ref 21, xV 0] (xS a b) fun r σ' => pmWp ro d 11 114 1 28 [some (.ref 0), some (xV 0)] (r.toList ++ []) σ' Q)
    (k2 : (bg = 0) → Q (some (xV (-1))) (xS a b)) :
    pmWp ro d 11 114 1 0 [some (.ref 0), none] [] (xS a b) Q := by
  refine x_aloadn xc114_0 rfl ?_
  refine x_gfi' (k := 12) (v := bg) xc114_1 rfl (Or.inr rfl) rfl xz0 hb ?_
  refine x_ifne xc114_4 (xRk (by have g0 := hbg; omega)) (fun h0 => ?_) (fun h0 => ?_)
  · refine x_iconst xc114_9 ?_
    refine x_istoren (pl' := [some (.ref 0), some (xV 0)]) xc114_10 rfl rfl ?_
    refine x_iloadn xc114_11 rfl ?_
    refine x_iconst xc114_12 ?_
    refine x_icgt xc114_13 (xRk (by decide)) (xRk (by decide)) (fun h => absurd h (by omega)) (fun _ => ?_)
    refine x_aloadn xc114_16 rfl ?_
    refine x_gfr xc114_17 rfl rfl xz0 rfl ?_
    refine x_aloadn xc114_20 rfl ?_
    refine x_gfr xc114_21 rfl rfl xz0 rfl ?_
    refine x_iloadn xc114_24 rfl ?_
    refine x_cV (as := [.ref 21, xV 0]) (rest := []) xc114_25 rfl xi111 xz45 ⟨rfl, rfl⟩ rfl rfl ?_
    exact k1 h0
  · replace h0 := Classical.not_not.mp h0
    refine x_iconst xc114_7 ?_
    refine x_iret xc114_8 (Or.inl rfl) ?_
    exact k2 h0

theorem wa114_0 {ro : Nat → Nat × (Nat → Int32)} {d : Nat} {Q : Option Value → pmS → Prop} {z : Int} {a : xA} {b : xB} (hzr : xR z)
    (k1 : (0 ≤ z) → pmCs ro d 111 [.ref 45, .ref 21, xV (0 + 1)] (xS a b) fun r σ' => pmWp ro d 11 114 1 28 [some (.ref 0), some (xV (0 + 1))] (r.toList ++ []) σ' Q)
    (k2 : (¬ 0 ≤ z) → Q (some (xV 0)) (xS a b)) :
    pmWp ro d 11 114 1 28 [some (.ref 0), some (xV 0)] [xV z] (xS a b) Q := by
  refine x_ifge xc114_28 (xRk (by have g0 := xRb hzr; omega)) (fun h0 => ?_) (fun h0 => ?_)
  · refine x_iinc (pl' := [some (.ref 0), some (xV (0 + 1))]) xc114_33 rfl rfl ?_
    refine x_goto xc114_36 ?_
    refine x_iloadn xc114_11 rfl ?_
    refine x_iconst xc114_12 ?_
    refine x_icgt xc114_13 (xRk (by decide)) (xRk (by decide)) (fun h => absurd h (by omega)) (fun _ => ?_)
    refine x_aloadn xc114_16 rfl ?_
    refine x_gfr xc114_17 rfl rfl xz0 rfl ?_
    refine x_aloadn xc114_20 rfl ?_
    refine x_gfr xc114_21 rfl rfl xz0 rfl ?_
    refine x_iloadn xc114_24 rfl ?_
    refine x_cV (as := [.ref 21, xV (0 + 1)]) (rest := []) xc114_25 rfl xi111 xz45 ⟨rfl, rfl⟩ rfl rfl ?_
    exact k1 h0
  · refine x_iloadn xc114_31 rfl ?_
    refine x_iret xc114_32 (Or.inl rfl) ?_
    exact k2 h0

theorem wa114_1 {ro : Nat → Nat × (Nat → Int32)} {d : Nat} {Q : Option Value → pmS → Prop} {z : Int} {a : xA} {b : xB} (hzr : xR z)
    (k1 : (0 ≤ z) → pmCs ro d 111 [.ref 45, .ref 21, xV (1 + 1)] (xS a b) fun r σ' => pmWp ro d 11 114 1 28 [some (.ref 0), some (xV (1 + 1))] (r.toList ++ []) σ' Q)
    (k2 : (¬ 0 ≤ z) → Q (some (xV 1)) (xS a b)) :
    pmWp ro d 11 114 1 28 [some (.ref 0), some (xV 1)] [xV z] (xS a b) Q := by
  refine x_ifge xc114_28 (xRk (by have g0 := xRb hzr; omega)) (fun h0 => ?_) (fun h0 => ?_)
  · refine x_iinc (pl' := [some (.ref 0), some (xV (1 + 1))]) xc114_33 rfl rfl ?_
    refine x_goto xc114_36 ?_
    refine x_iloadn xc114_11 rfl ?_
    refine x_iconst xc114_12 ?_
    refine x_icgt xc114_13 (xRk (by decide)) (xRk (by decide)) (fun h => absurd h (by omega)) (fun _ => ?_)
    refine x_aloadn xc114_16 rfl ?_
    refine x_gfr xc114_17 rfl rfl xz0 rfl ?_
    refine x_aloadn xc114_20 rfl ?_
    refine x_gfr xc114_21 rfl rfl xz0 rfl ?_
    refine x_iloadn xc114_24 rfl ?_
    refine x_cV (as := [.ref 21, xV (1 + 1)]) (rest := []) xc114_25 rfl xi111 xz45 ⟨rfl, rfl⟩ rfl rfl ?_
    exact k1 h0
  · refine x_iloadn xc114_31 rfl ?_
    refine x_iret xc114_32 (Or.inl rfl) ?_
    exact k2 h0

theorem wa114_2 {ro : Nat → Nat × (Nat → Int32)} {d : Nat} {Q : Option Value → pmS → Prop} {z : Int} {a : xA} {b : xB} (hzr : xR z)
    (k1 : (0 ≤ z) → Q (some (xV 3)) (xS a b))
    (k2 : (¬ 0 ≤ z) → Q (some (xV 2)) (xS a b)) :
    pmWp ro d 11 114 1 28 [some (.ref 0), some (xV 2)] [xV z] (xS a b) Q := by
  refine x_ifge xc114_28 (xRk (by have g0 := xRb hzr; omega)) (fun h0 => ?_) (fun h0 => ?_)
  · refine x_iinc (pl' := [some (.ref 0), some (xV (2 + 1))]) xc114_33 rfl rfl ?_
    refine x_goto xc114_36 ?_
    refine x_iloadn xc114_11 rfl ?_
    refine x_iconst xc114_12 ?_
    refine x_icgt xc114_13 (xRk (by decide)) (xRk (by decide)) (fun _ => ?_) (fun h => absurd h (by omega))
    refine x_iconst xc114_39 ?_
    refine x_iret xc114_40 (Or.inl rfl) ?_
    exact k1 h0
  · refine x_iloadn xc114_31 rfl ?_
    refine x_iret xc114_32 (Or.inl rfl) ?_
    exact k2 h0

theorem wa115 {ro : Nat → Nat × (Nat → Int32)} {d : Nat} {Q : Option Value → pmS → Prop} {t wh bg : Int} {a : xA} {b : xB} (qr1 : xR t) (qr2 : xR wh) (hb : a 0 12 = bg) (hbg : bg = 0 ∨ bg = 1)
    (k1 : (bg = 0) → Q (some (xV (-1))) (xS a b))
    (k2 : (¬ bg = 0) → (t < 1) → Q (some (xV (-1))) (xS a b))
    (k3 : (¬ bg = 0) → (¬ t < 1) → (2 < t) → Q (some (xV (-1))) (xS a b))
    (k4 : (¬ bg = 0) → (¬ t < 1) → (¬ 2 < t) → (wh < 0) → Q (some (xV (-1))) (xS a b))
    (k5 : (¬ bg = 0) → (¬ t < 1) → (¬ 2 < t) → (¬ wh < 0) → (wh ≤ 3) → pmCs ro d 111 [.ref 45, .ref 21, xV t] (xS a b) fun r σ' => pmWp ro d 11 115 1 40 [some (.ref 0), some (xV t), some (xV wh), none] (r.toList ++ []) σ' Q)
    (k6 : (¬ bg = 0) → (¬ t < 1) → (¬ 2 < t) → (¬ wh < 0) → (¬ wh ≤ 3) → Q (some (xV (-1))) (xS a b)) :
    pmWp ro d 11 115 1 0 [some (.ref 0), some (xV t), some (xV wh), none] [] (xS a b) Q := by
  refine x_aloadn xc115_0 rfl ?_
  refine x_gfi' (k := 12) (v := bg) xc115_1 rfl (Or.inr rfl) rfl xz0 hb ?_
  refine x_ifeq xc115_4 (xRk (by have g0 := hbg; omega)) (fun h0 => ?_) (fun h0 => ?_)
  · refine x_iconst xc115_26 ?_
    refine x_iret xc115_27 (Or.inl rfl) ?_
    exact k1 h0
  · refine x_iloadn xc115_7 rfl ?_
    refine x_iconst xc115_8 ?_
    refine x_iclt xc115_9 (xRk (by have g0 := xRb qr1; omega)) (xRk (by decide)) (fun h1 => ?_) (fun h1 => ?_)
    · refine x_iconst xc115_26 ?_
      refine x_iret xc115_27 (Or.inl rfl) ?_
      exact k2 h0 h1
    · refine x_iloadn xc115_12 rfl ?_
      refine x_iconst xc115_13 ?_
      refine x_icgt xc115_14 (xRk (by have g0 := xRb qr1; omega)) (xRk (by decide)) (fun h2 => ?_) (fun h2 => ?_)
      · refine x_iconst xc115_26 ?_
        refine x_iret xc115_27 (Or.inl rfl) ?_
        exact k3 h0 h1 h2
      · refine x_iloadn xc115_17 rfl ?_
        refine x_iflt xc115_18 (xRk (by have g0 := xRb qr2; omega)) (fun h3 => ?_) (fun h3 => ?_)
        · refine x_iconst xc115_26 ?_
          refine x_iret xc115_27 (Or.inl rfl) ?_
          exact k4 h0 h1 h2 h3
        · refine x_iloadn xc115_21 rfl ?_
          refine x_iconst xc115_22 ?_
          refine x_icle xc115_23 (xRk (by have g0 := xRb qr2; omega)) (xRk (by decide)) (fun h4 => ?_) (fun h4 => ?_)
          · refine x_aloadn xc115_28 rfl ?_
            refine x_gfr xc115_29 rfl rfl xz0 rfl ?_
            refine x_aloadn xc115_32 rfl ?_
            refine x_gfr xc115_33 rfl rfl xz0 rfl ?_
            refine x_iloadn xc115_36 rfl ?_
            refine x_cV (as := [.ref 21, xV t]) (rest := []) xc115_37 rfl xi111 xz45 ⟨rfl, rfl⟩ rfl rfl ?_
            exact k5 h0 h1 h2 h3 h4
          · refine x_iconst xc115_26 ?_
            refine x_iret xc115_27 (Or.inl rfl) ?_
            exact k6 h0 h1 h2 h3 h4

theorem wa115a {ro : Nat → Nat × (Nat → Int32)} {d : Nat} {Q : Option Value → pmS → Prop} {t wh z : Int} {a : xA} {b : xB} (hw : 0 ≤ wh ∧ wh ≤ 3) (hzr : -1000 ≤ z ∧ z ≤ 511)
    (k1 : (0 ≤ z) → (wh = 0) → Q (some (xV (z / 64))) (xS a b))
    (k2 : (0 ≤ z) → (¬ wh = 0) → (wh = 1) → (¬ z = 0) → Q (some (xV ((z / 8) % 8))) (xS a b))
    (k3 : (0 ≤ z) → (¬ wh = 0) → (wh = 1) → (z = 0) → Q (some (xV (-1))) (xS a b))
    (k4 : (0 ≤ z) → (¬ wh = 0) → (¬ wh = 1) → (wh = 2) → (¬ z = 0) → Q (some (xV (z % 8))) (xS a b))
    (k5 : (0 ≤ z) → (¬ wh = 0) → (¬ wh = 1) → (wh = 2) → (z = 0) → Q (some (xV (-1))) (xS a b))
    (k6 : (0 ≤ z) → (¬ wh = 0) → (¬ wh = 1) → (¬ wh = 2) → pmCs ro d 103 [.ref 45, .ref 21, xV z] (xS a b) fun r σ' => pmWp ro d 11 115 1 121 [some (.ref 0), some (xV t), some (xV wh), some (xV z)] (r.toList ++ []) σ' Q)
    (k7 : (¬ 0 ≤ z) → Q (some (xV (-2))) (xS a b)) :
    pmWp ro d 11 115 1 40 [some (.ref 0), some (xV t), some (xV wh), none] [xV z] (xS a b) Q := by
  refine x_istoren (pl' := [some (.ref 0), some (xV t), some (xV wh), some (xV z)]) xc115_40 rfl rfl ?_
  refine x_iloadn xc115_41 rfl ?_
  refine x_ifge xc115_42 (xRk (by have g0 := hzr; omega)) (fun h0 => ?_) (fun h0 => ?_)
  · refine x_iloadn xc115_48 rfl ?_
    by_cases h1 : wh = 0
    · refine x_sw (c := 0) (t := 76) h1 xc115_49.1 rfl ?_
      refine x_iloadn xc115_76 rfl ?_
      refine x_bipush xc115_77 (by decide) ?_
      refine x_ishr (M := 64) (by omega) (by omega) (by decide) (xRk (by have g0 := hzr; omega)) xc115_79 ?_
      refine x_iret xc115_80 (Or.inl rfl) ?_
      exact k1 h0 h1
    by_cases h2 : wh = 1
    · refine x_sw (c := 1) (t := 81) h2 xc115_49.1 rfl ?_
      refine x_iloadn xc115_81 rfl ?_
      refine x_ifne xc115_82 (xRk (by have g0 := hzr; omega)) (fun h3 => ?_) (fun h3 => ?_)
      · refine x_iloadn xc115_89 rfl ?_
        refine x_iconst xc115_90 ?_
        refine x_ishr (M := 8) (by omega) (by omega) (by decide) (xRk (by have g0 := hzr; omega)) xc115_91 ?_
        refine x_bipush xc115_92 (by decide) ?_
        refine x_iandm (M := 8) 3 (by decide) (by decide) (by decide) xc115_94 ?_
        refine x_iret xc115_95 (Or.inl rfl) ?_
        exact k2 h0 h1 h2 h3
      · replace h3 := Classical.not_not.mp h3
        refine x_iconst xc115_85 ?_
        refine x_goto xc115_86 ?_
        refine x_iret xc115_95 (Or.inl rfl) ?_
        exact k3 h0 h1 h2 h3
    by_cases h4 : wh = 2
    · refine x_sw (c := 2) (t := 96) h4 xc115_49.1 rfl ?_
      refine x_iloadn xc115_96 rfl ?_
      refine x_ifne xc115_97 (xRk (by have g0 := hzr; omega)) (fun h5 => ?_) (fun h5 => ?_)
      · refine x_iloadn xc115_104 rfl ?_
        refine x_bipush xc115_105 (by decide) ?_
        refine x_iandm (M := 8) 3 (by decide) (by decide) (by decide) xc115_107 ?_
        refine x_iret xc115_108 (Or.inl rfl) ?_
        exact k4 h0 h1 h2 h4 h5
      · replace h5 := Classical.not_not.mp h5
        refine x_iconst xc115_100 ?_
        refine x_goto xc115_101 ?_
        refine x_iret xc115_108 (Or.inl rfl) ?_
        exact k5 h0 h1 h2 h4 h5
    refine x_tsd xc115_49 (xRk (by have g0 := hw; omega)) (by omega) ?_
    refine x_aloadn xc115_109 rfl ?_
    refine x_gfr xc115_110 rfl rfl xz0 rfl ?_
    refine x_aloadn xc115_113 rfl ?_
    refine x_gfr xc115_114 rfl rfl xz0 rfl ?_
    refine x_iloadn xc115_117 rfl ?_
    refine x_cV (as := [.ref 21, xV z]) (rest := []) xc115_118 rfl xi103 xz45 ⟨rfl, rfl⟩ rfl rfl ?_
    exact k6 h0 h1 h2 h4
  · refine x_bipush xc115_45 (by decide) ?_
    refine x_iret xc115_47 (Or.inl rfl) ?_
    exact k7 h0

theorem wa115b {ro : Nat → Nat × (Nat → Int32)} {d : Nat} {Q : Option Value → pmS → Prop} {t wh c z : Int} {a : xA} {b : xB}
    (k1 : Q (some (xV z)) (xS a b)) :
    pmWp ro d 11 115 1 121 [some (.ref 0), some (xV t), some (xV wh), some (xV c)] [xV z] (xS a b) Q := by
  refine x_iret xc115_121 (Or.inl rfl) ?_
  exact k1

end
