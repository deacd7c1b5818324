/-! exact: the reference reads a wish, its walks -/
section
set_option maxRecDepth 100000
theorem xi155 : pmInf[155]? = some pmI_155 := rfl
theorem xi157 : pmInf[157]? = some pmI_157 := rfl
theorem xi159 : pmInf[159]? = some pmI_159 := rfl
theorem xi161 : pmInf[161]? = some pmI_161 := rfl
theorem xi162 : pmInf[162]? = some pmI_162 := rfl
theorem xi163 : pmInf[163]? = some pmI_163 := rfl
theorem xi164 : pmInf[164]? = some pmI_164 := rfl
theorem xi165 : pmInf[165]? = some pmI_165 := rfl
theorem xc155_0 : pmCode 155 0 = some (.aload_n 0) ∧ 0 + 1 = 1 := ⟨rfl, rfl⟩
theorem xc155_1 : pmCode 155 1 = some (.invokevirtual 179) ∧ 1 + 3 = 4 := ⟨rfl, rfl⟩
theorem xc155_4 : pmCode 155 4 = some (.bipush 33) ∧ 4 + 2 = 6 := ⟨rfl, rfl⟩
theorem xc155_6 : pmCode 155 6 = some (.if_icmp .eq 12) ∧ ((6 : Nat) : Int) + 12 = ((18 : Nat) : Int) ∧ 6 + 3 = 9 := ⟨rfl, rfl, rfl⟩
theorem xc155_9 : pmCode 155 9 = some (.aload_n 0) ∧ 9 + 1 = 10 := ⟨rfl, rfl⟩
theorem xc155_10 : pmCode 155 10 = some (.invokevirtual 179) ∧ 10 + 3 = 13 := ⟨rfl, rfl⟩
theorem xc155_13 : pmCode 155 13 = some (.bipush 40) ∧ 13 + 2 = 15 := ⟨rfl, rfl⟩
theorem xc155_15 : pmCode 155 15 = some (.if_icmp .ne 28) ∧ ((15 : Nat) : Int) + 28 = ((43 : Nat) : Int) ∧ 15 + 3 = 18 := ⟨rfl, rfl, rfl⟩
theorem xc155_18 : pmCode 155 18 = some (.aload_n 0) ∧ 18 + 1 = 19 := ⟨rfl, rfl⟩
theorem xc155_19 : pmCode 155 19 = some (.aload_n 0) ∧ 19 + 1 = 20 := ⟨rfl, rfl⟩
theorem xc155_20 : pmCode 155 20 = some (.invokevirtual 179) ∧ 20 + 3 = 23 := ⟨rfl, rfl⟩
theorem xc155_23 : pmCode 155 23 = some (.bipush 33) ∧ 23 + 2 = 25 := ⟨rfl, rfl⟩
theorem xc155_25 : pmCode 155 25 = some (.if_icmp .ne 8) ∧ ((25 : Nat) : Int) + 8 = ((33 : Nat) : Int) ∧ 25 + 3 = 28 := ⟨rfl, rfl, rfl⟩
theorem xc155_28 : pmCode 155 28 = some (.bipush 7) ∧ 28 + 2 = 30 := ⟨rfl, rfl⟩
theorem xc155_30 : pmCode 155 30 = some (.goto 5) ∧ ((30 : Nat) : Int) + 5 = ((35 : Nat) : Int) := ⟨rfl, rfl⟩
theorem xc155_33 : pmCode 155 33 = some (.bipush 8) ∧ 33 + 2 = 35 := ⟨rfl, rfl⟩
theorem xc155_35 : pmCode 155 35 = some (.invokevirtual 212) ∧ 35 + 3 = 38 := ⟨rfl, rfl⟩
theorem xc155_38 : pmCode 155 38 = some (.ifCond .ne (-38)) ∧ ((38 : Nat) : Int) + (-38) = ((0 : Nat) : Int) ∧ 38 + 3 = 41 := ⟨rfl, rfl, rfl⟩
theorem xc155_41 : pmCode 155 41 = some (.iconst 0) ∧ 41 + 1 = 42 := ⟨rfl, rfl⟩
theorem xc155_42 : pmCode 155 42 = some .ireturn := rfl
theorem xc155_43 : pmCode 155 43 = some (.aload_n 0) ∧ 43 + 1 = 44 := ⟨rfl, rfl⟩
theorem xc155_44 : pmCode 155 44 = some (.invokevirtual 215) ∧ 44 + 3 = 47 := ⟨rfl, rfl⟩
theorem xc155_47 : pmCode 155 47 = some (.ifCond .ne 5) ∧ ((47 : Nat) : Int) + 5 = ((52 : Nat) : Int) ∧ 47 + 3 = 50 := ⟨rfl, rfl, rfl⟩
theorem xc155_50 : pmCode 155 50 = some (.iconst 0) ∧ 50 + 1 = 51 := ⟨rfl, rfl⟩
theorem xc155_51 : pmCode 155 51 = some .ireturn := rfl
theorem xc155_52 : pmCode 155 52 = some (.aload_n 0) ∧ 52 + 1 = 53 := ⟨rfl, rfl⟩
theorem xc155_53 : pmCode 155 53 = some (.invokevirtual 179) ∧ 53 + 3 = 56 := ⟨rfl, rfl⟩
theorem xc155_56 : pmCode 155 56 = some (.bipush 41) ∧ 56 + 2 = 58 := ⟨rfl, rfl⟩
theorem xc155_58 : pmCode 155 58 = some (.if_icmp .ne 52) ∧ ((58 : Nat) : Int) + 52 = ((110 : Nat) : Int) ∧ 58 + 3 = 61 := ⟨rfl, rfl, rfl⟩
theorem xc155_61 : pmCode 155 61 = some (.aload_n 0) ∧ 61 + 1 = 62 := ⟨rfl, rfl⟩
theorem xc155_62 : pmCode 155 62 = some (.invokevirtual 219) ∧ 62 + 3 = 65 := ⟨rfl, rfl⟩
theorem xc155_65 : pmCode 155 65 = some (.ifCond .eq 45) ∧ ((65 : Nat) : Int) + 45 = ((110 : Nat) : Int) ∧ 65 + 3 = 68 := ⟨rfl, rfl, rfl⟩
theorem xc155_68 : pmCode 155 68 = some (.aload_n 0) ∧ 68 + 1 = 69 := ⟨rfl, rfl⟩
theorem xc155_69 : pmCode 155 69 = some (.iconst 1) ∧ 69 + 1 = 70 := ⟨rfl, rfl⟩
theorem xc155_70 : pmCode 155 70 = some (.invokevirtual 222) ∧ 70 + 3 = 73 := ⟨rfl, rfl⟩
theorem xc155_73 : pmCode 155 73 = some (.aload_n 0) ∧ 73 + 1 = 74 := ⟨rfl, rfl⟩
theorem xc155_74 : pmCode 155 74 = some (.aload_n 0) ∧ 74 + 1 = 75 := ⟨rfl, rfl⟩
theorem xc155_75 : pmCode 155 75 = some (.getfield 196) ∧ 75 + 3 = 78 := ⟨rfl, rfl⟩
theorem xc155_78 : pmCode 155 78 = some (.iconst 1) ∧ 78 + 1 = 79 := ⟨rfl, rfl⟩
theorem xc155_79 : pmCode 155 79 = some .isub ∧ 79 + 1 = 80 := ⟨rfl, rfl⟩
theorem xc155_80 : pmCode 155 80 = some (.putfield 196) ∧ 80 + 3 = 83 := ⟨rfl, rfl⟩
theorem xc155_83 : pmCode 155 83 = some (.aload_n 0) ∧ 83 + 1 = 84 := ⟨rfl, rfl⟩
theorem xc155_84 : pmCode 155 84 = some (.aload_n 0) ∧ 84 + 1 = 85 := ⟨rfl, rfl⟩
theorem xc155_85 : pmCode 155 85 = some (.getfield 193) ∧ 85 + 3 = 88 := ⟨rfl, rfl⟩
theorem xc155_88 : pmCode 155 88 = some (.iconst 1) ∧ 88 + 1 = 89 := ⟨rfl, rfl⟩
theorem xc155_89 : pmCode 155 89 = some .isub ∧ 89 + 1 = 90 := ⟨rfl, rfl⟩
theorem xc155_90 : pmCode 155 90 = some (.putfield 193) ∧ 90 + 3 = 93 := ⟨rfl, rfl⟩
theorem xc155_93 : pmCode 155 93 = some (.aload_n 0) ∧ 93 + 1 = 94 := ⟨rfl, rfl⟩
theorem xc155_94 : pmCode 155 94 = some (.aload_n 0) ∧ 94 + 1 = 95 := ⟨rfl, rfl⟩
theorem xc155_95 : pmCode 155 95 = some (.getfield 170) ∧ 95 + 3 = 98 := ⟨rfl, rfl⟩
theorem xc155_98 : pmCode 155 98 = some (.iconst 1) ∧ 98 + 1 = 99 := ⟨rfl, rfl⟩
theorem xc155_99 : pmCode 155 99 = some .iadd ∧ 99 + 1 = 100 := ⟨rfl, rfl⟩
theorem xc155_100 : pmCode 155 100 = some (.putfield 170) ∧ 100 + 3 = 103 := ⟨rfl, rfl⟩
theorem xc155_103 : pmCode 155 103 = some (.aload_n 0) ∧ 103 + 1 = 104 := ⟨rfl, rfl⟩
theorem xc155_104 : pmCode 155 104 = some (.invokevirtual 206) ∧ 104 + 3 = 107 := ⟨rfl, rfl⟩
theorem xc155_107 : pmCode 155 107 = some (.goto (-55)) ∧ ((107 : Nat) : Int) + (-55) = ((52 : Nat) : Int) := ⟨rfl, rfl⟩
theorem xc155_110 : pmCode 155 110 = some (.aload_n 0) ∧ 110 + 1 = 111 := ⟨rfl, rfl⟩
theorem xc155_111 : pmCode 155 111 = some (.invokevirtual 179) ∧ 111 + 3 = 114 := ⟨rfl, rfl⟩
theorem xc155_114 : pmCode 155 114 = some (.istore_n 1) ∧ 114 + 1 = 115 := ⟨rfl, rfl⟩
theorem xc155_115 : pmCode 155 115 = some (.iload_n 1) ∧ 115 + 1 = 116 := ⟨rfl, rfl⟩
theorem xc155_116 : pmCode 155 116 = some (.bipush 38) ∧ 116 + 2 = 118 := ⟨rfl, rfl⟩
theorem xc155_118 : pmCode 155 118 = some (.if_icmp .eq 38) ∧ ((118 : Nat) : Int) + 38 = ((156 : Nat) : Int) ∧ 118 + 3 = 121 := ⟨rfl, rfl, rfl⟩
theorem xc155_121 : pmCode 155 121 = some (.iload_n 1) ∧ 121 + 1 = 122 := ⟨rfl, rfl⟩
theorem xc155_122 : pmCode 155 122 = some (.bipush 124) ∧ 122 + 2 = 124 := ⟨rfl, rfl⟩
theorem xc155_124 : pmCode 155 124 = some (.if_icmp .eq 32) ∧ ((124 : Nat) : Int) + 32 = ((156 : Nat) : Int) ∧ 124 + 3 = 127 := ⟨rfl, rfl, rfl⟩
theorem xc155_127 : pmCode 155 127 = some (.iload_n 1) ∧ 127 + 1 = 128 := ⟨rfl, rfl⟩
theorem xc155_128 : pmCode 155 128 = some (.iconst (-1)) ∧ 128 + 1 = 129 := ⟨rfl, rfl⟩
theorem xc155_129 : pmCode 155 129 = some (.if_icmp .ne 10) ∧ ((129 : Nat) : Int) + 10 = ((139 : Nat) : Int) ∧ 129 + 3 = 132 := ⟨rfl, rfl, rfl⟩
theorem xc155_132 : pmCode 155 132 = some (.aload_n 0) ∧ 132 + 1 = 133 := ⟨rfl, rfl⟩
theorem xc155_133 : pmCode 155 133 = some (.invokevirtual 219) ∧ 133 + 3 = 136 := ⟨rfl, rfl⟩
theorem xc155_136 : pmCode 155 136 = some (.ifCond .eq 13) ∧ ((136 : Nat) : Int) + 13 = ((149 : Nat) : Int) ∧ 136 + 3 = 139 := ⟨rfl, rfl, rfl⟩
theorem xc155_139 : pmCode 155 139 = some (.aload_n 0) ∧ 139 + 1 = 140 := ⟨rfl, rfl⟩
theorem xc155_140 : pmCode 155 140 = some (.iconst 1) ∧ 140 + 1 = 141 := ⟨rfl, rfl⟩
theorem xc155_141 : pmCode 155 141 = some (.aload_n 0) ∧ 141 + 1 = 142 := ⟨rfl, rfl⟩
theorem xc155_142 : pmCode 155 142 = some (.getfield 170) ∧ 142 + 3 = 145 := ⟨rfl, rfl⟩
theorem xc155_145 : pmCode 155 145 = some (.invokevirtual 183) ∧ 145 + 3 = 148 := ⟨rfl, rfl⟩
theorem xc155_148 : pmCode 155 148 = some .ireturn := rfl
theorem xc155_149 : pmCode 155 149 = some (.aload_n 0) ∧ 149 + 1 = 150 := ⟨rfl, rfl⟩
theorem xc155_150 : pmCode 155 150 = some (.iconst 1) ∧ 150 + 1 = 151 := ⟨rfl, rfl⟩
theorem xc155_151 : pmCode 155 151 = some (.invokevirtual 222) ∧ 151 + 3 = 154 := ⟨rfl, rfl⟩
theorem xc155_154 : pmCode 155 154 = some (.iconst 1) ∧ 154 + 1 = 155 := ⟨rfl, rfl⟩
theorem xc155_155 : pmCode 155 155 = some .ireturn := rfl
theorem xc155_156 : pmCode 155 156 = some (.aload_n 0) ∧ 156 + 1 = 157 := ⟨rfl, rfl⟩
theorem xc155_157 : pmCode 155 157 = some (.iload_n 1) ∧ 157 + 1 = 158 := ⟨rfl, rfl⟩
theorem xc155_158 : pmCode 155 158 = some (.bipush 124) ∧ 158 + 2 = 160 := ⟨rfl, rfl⟩
theorem xc155_160 : pmCode 155 160 = some (.if_icmp .ne 7) ∧ ((160 : Nat) : Int) + 7 = ((167 : Nat) : Int) ∧ 160 + 3 = 163 := ⟨rfl, rfl, rfl⟩
theorem xc155_163 : pmCode 155 163 = some (.iconst 1) ∧ 163 + 1 = 164 := ⟨rfl, rfl⟩
theorem xc155_164 : pmCode 155 164 = some (.goto 4) ∧ ((164 : Nat) : Int) + 4 = ((168 : Nat) : Int) := ⟨rfl, rfl⟩
theorem xc155_167 : pmCode 155 167 = some (.iconst 0) ∧ 167 + 1 = 168 := ⟨rfl, rfl⟩
theorem xc155_168 : pmCode 155 168 = some (.invokevirtual 222) ∧ 168 + 3 = 171 := ⟨rfl, rfl⟩
theorem xc155_171 : pmCode 155 171 = some (.aload_n 0) ∧ 171 + 1 = 172 := ⟨rfl, rfl⟩
theorem xc155_172 : pmCode 155 172 = some (.getfield 30) ∧ 172 + 3 = 175 := ⟨rfl, rfl⟩
theorem xc155_175 : pmCode 155 175 = some (.aload_n 0) ∧ 175 + 1 = 176 := ⟨rfl, rfl⟩
theorem xc155_176 : pmCode 155 176 = some (.getfield 196) ∧ 176 + 3 = 179 := ⟨rfl, rfl⟩
theorem xc155_179 : pmCode 155 179 = some (.iload_n 1) ∧ 179 + 1 = 180 := ⟨rfl, rfl⟩
theorem xc155_180 : pmCode 155 180 = some (.bipush 38) ∧ 180 + 2 = 182 := ⟨rfl, rfl⟩
theorem xc155_182 : pmCode 155 182 = some (.if_icmp .ne 7) ∧ ((182 : Nat) : Int) + 7 = ((189 : Nat) : Int) ∧ 182 + 3 = 185 := ⟨rfl, rfl, rfl⟩
theorem xc155_185 : pmCode 155 185 = some (.iconst 5) ∧ 185 + 1 = 186 := ⟨rfl, rfl⟩
theorem xc155_186 : pmCode 155 186 = some (.goto 5) ∧ ((186 : Nat) : Int) + 5 = ((191 : Nat) : Int) := ⟨rfl, rfl⟩
theorem xc155_189 : pmCode 155 189 = some (.bipush 6) ∧ 189 + 2 = 191 := ⟨rfl, rfl⟩
theorem xc155_191 : pmCode 155 191 = some .iastore ∧ 191 + 1 = 192 := ⟨rfl, rfl⟩
theorem xc155_192 : pmCode 155 192 = some (.aload_n 0) ∧ 192 + 1 = 193 := ⟨rfl, rfl⟩
theorem xc155_193 : pmCode 155 193 = some (.aload_n 0) ∧ 193 + 1 = 194 := ⟨rfl, rfl⟩
theorem xc155_194 : pmCode 155 194 = some (.getfield 196) ∧ 194 + 3 = 197 := ⟨rfl, rfl⟩
theorem xc155_197 : pmCode 155 197 = some (.iconst 1) ∧ 197 + 1 = 198 := ⟨rfl, rfl⟩
theorem xc155_198 : pmCode 155 198 = some .iadd ∧ 198 + 1 = 199 := ⟨rfl, rfl⟩
theorem xc155_199 : pmCode 155 199 = some (.putfield 196) ∧ 199 + 3 = 202 := ⟨rfl, rfl⟩
theorem xc155_202 : pmCode 155 202 = some (.aload_n 0) ∧ 202 + 1 = 203 := ⟨rfl, rfl⟩
theorem xc155_203 : pmCode 155 203 = some (.aload_n 0) ∧ 203 + 1 = 204 := ⟨rfl, rfl⟩
theorem xc155_204 : pmCode 155 204 = some (.getfield 170) ∧ 204 + 3 = 207 := ⟨rfl, rfl⟩
theorem xc155_207 : pmCode 155 207 = some (.iconst 1) ∧ 207 + 1 = 208 := ⟨rfl, rfl⟩
theorem xc155_208 : pmCode 155 208 = some .iadd ∧ 208 + 1 = 209 := ⟨rfl, rfl⟩
theorem xc155_209 : pmCode 155 209 = some (.putfield 170) ∧ 209 + 3 = 212 := ⟨rfl, rfl⟩
theorem xc155_212 : pmCode 155 212 = some (.goto (-212)) ∧ ((212 : Nat) : Int) + (-212) = ((0 : Nat) : Int) := ⟨rfl, rfl⟩
theorem xc157_0 : pmCode 157 0 = some (.aload_n 0) ∧ 0 + 1 = 1 := ⟨rfl, rfl⟩
theorem xc157_1 : pmCode 157 1 = some (.getfield 193) ∧ 1 + 3 = 4 := ⟨rfl, rfl⟩
theorem xc157_4 : pmCode 157 4 = some (.bipush 6) ∧ 4 + 2 = 6 := ⟨rfl, rfl⟩
theorem xc157_6 : pmCode 157 6 = some (.if_icmp .ne 13) ∧ ((6 : Nat) : Int) + 13 = ((19 : Nat) : Int) ∧ 6 + 3 = 9 := ⟨rfl, rfl, rfl⟩
theorem xc157_9 : pmCode 157 9 = some (.aload_n 0) ∧ 9 + 1 = 10 := ⟨rfl, rfl⟩
theorem xc157_10 : pmCode 157 10 = some (.iconst 5) ∧ 10 + 1 = 11 := ⟨rfl, rfl⟩
theorem xc157_11 : pmCode 157 11 = some (.aload_n 0) ∧ 11 + 1 = 12 := ⟨rfl, rfl⟩
theorem xc157_12 : pmCode 157 12 = some (.getfield 170) ∧ 12 + 3 = 15 := ⟨rfl, rfl⟩
theorem xc157_15 : pmCode 157 15 = some (.invokevirtual 183) ∧ 15 + 3 = 18 := ⟨rfl, rfl⟩
theorem xc157_18 : pmCode 157 18 = some .ireturn := rfl
theorem xc157_19 : pmCode 157 19 = some (.aload_n 0) ∧ 19 + 1 = 20 := ⟨rfl, rfl⟩
theorem xc157_20 : pmCode 157 20 = some (.aload_n 0) ∧ 20 + 1 = 21 := ⟨rfl, rfl⟩
theorem xc157_21 : pmCode 157 21 = some (.getfield 193) ∧ 21 + 3 = 24 := ⟨rfl, rfl⟩
theorem xc157_24 : pmCode 157 24 = some (.iconst 1) ∧ 24 + 1 = 25 := ⟨rfl, rfl⟩
theorem xc157_25 : pmCode 157 25 = some .iadd ∧ 25 + 1 = 26 := ⟨rfl, rfl⟩
theorem xc157_26 : pmCode 157 26 = some (.putfield 193) ∧ 26 + 3 = 29 := ⟨rfl, rfl⟩
theorem xc157_29 : pmCode 157 29 = some (.aload_n 0) ∧ 29 + 1 = 30 := ⟨rfl, rfl⟩
theorem xc157_30 : pmCode 157 30 = some (.getfield 30) ∧ 30 + 3 = 33 := ⟨rfl, rfl⟩
theorem xc157_33 : pmCode 157 33 = some (.aload_n 0) ∧ 33 + 1 = 34 := ⟨rfl, rfl⟩
theorem xc157_34 : pmCode 157 34 = some (.getfield 196) ∧ 34 + 3 = 37 := ⟨rfl, rfl⟩
theorem xc157_37 : pmCode 157 37 = some (.iload_n 1) ∧ 37 + 1 = 38 := ⟨rfl, rfl⟩
theorem xc157_38 : pmCode 157 38 = some .iastore ∧ 38 + 1 = 39 := ⟨rfl, rfl⟩
theorem xc157_39 : pmCode 157 39 = some (.aload_n 0) ∧ 39 + 1 = 40 := ⟨rfl, rfl⟩
theorem xc157_40 : pmCode 157 40 = some (.aload_n 0) ∧ 40 + 1 = 41 := ⟨rfl, rfl⟩
theorem xc157_41 : pmCode 157 41 = some (.getfield 196) ∧ 41 + 3 = 44 := ⟨rfl, rfl⟩
theorem xc157_44 : pmCode 157 44 = some (.iconst 1) ∧ 44 + 1 = 45 := ⟨rfl, rfl⟩
theorem xc157_45 : pmCode 157 45 = some .iadd ∧ 45 + 1 = 46 := ⟨rfl, rfl⟩
theorem xc157_46 : pmCode 157 46 = some (.putfield 196) ∧ 46 + 3 = 49 := ⟨rfl, rfl⟩
theorem xc157_49 : pmCode 157 49 = some (.aload_n 0) ∧ 49 + 1 = 50 := ⟨rfl, rfl⟩
theorem xc157_50 : pmCode 157 50 = some (.aload_n 0) ∧ 50 + 1 = 51 := ⟨rfl, rfl⟩
theorem xc157_51 : pmCode 157 51 = some (.getfield 170) ∧ 51 + 3 = 54 := ⟨rfl, rfl⟩
theorem xc157_54 : pmCode 157 54 = some (.iconst 1) ∧ 54 + 1 = 55 := ⟨rfl, rfl⟩
theorem xc157_55 : pmCode 157 55 = some .iadd ∧ 55 + 1 = 56 := ⟨rfl, rfl⟩
theorem xc157_56 : pmCode 157 56 = some (.putfield 170) ∧ 56 + 3 = 59 := ⟨rfl, rfl⟩
theorem xc157_59 : pmCode 157 59 = some (.iconst 1) ∧ 59 + 1 = 60 := ⟨rfl, rfl⟩
theorem xc157_60 : pmCode 157 60 = some .ireturn := rfl
theorem xc159_0 : pmCode 159 0 = some (.aload_n 0) ∧ 0 + 1 = 1 := ⟨rfl, rfl⟩
theorem xc159_1 : pmCode 159 1 = some (.invokevirtual 179) ∧ 1 + 3 = 4 := ⟨rfl, rfl⟩
theorem xc159_4 : pmCode 159 4 = some (.istore_n 1) ∧ 4 + 1 = 5 := ⟨rfl, rfl⟩
theorem xc159_5 : pmCode 159 5 = some (.iload_n 1) ∧ 5 + 1 = 6 := ⟨rfl, rfl⟩
theorem xc159_6 : pmCode 159 6 = some (.bipush 104) ∧ 6 + 2 = 8 := ⟨rfl, rfl⟩
theorem xc159_8 : pmCode 159 8 = some (.if_icmp .eq 37) ∧ ((8 : Nat) : Int) + 37 = ((45 : Nat) : Int) ∧ 8 + 3 = 11 := ⟨rfl, rfl, rfl⟩
theorem xc159_11 : pmCode 159 11 = some (.iload_n 1) ∧ 11 + 1 = 12 := ⟨rfl, rfl⟩
theorem xc159_12 : pmCode 159 12 = some (.bipush 105) ∧ 12 + 2 = 14 := ⟨rfl, rfl⟩
theorem xc159_14 : pmCode 159 14 = some (.if_icmp .eq 31) ∧ ((14 : Nat) : Int) + 31 = ((45 : Nat) : Int) ∧ 14 + 3 = 17 := ⟨rfl, rfl, rfl⟩
theorem xc159_17 : pmCode 159 17 = some (.iload_n 1) ∧ 17 + 1 = 18 := ⟨rfl, rfl⟩
theorem xc159_18 : pmCode 159 18 = some (.bipush 100) ∧ 18 + 2 = 20 := ⟨rfl, rfl⟩
theorem xc159_20 : pmCode 159 20 = some (.if_icmp .eq 25) ∧ ((20 : Nat) : Int) + 25 = ((45 : Nat) : Int) ∧ 20 + 3 = 23 := ⟨rfl, rfl, rfl⟩
theorem xc159_23 : pmCode 159 23 = some (.iload_n 1) ∧ 23 + 1 = 24 := ⟨rfl, rfl⟩
theorem xc159_24 : pmCode 159 24 = some (.bipush 108) ∧ 24 + 2 = 26 := ⟨rfl, rfl⟩
theorem xc159_26 : pmCode 159 26 = some (.if_icmp .eq 19) ∧ ((26 : Nat) : Int) + 19 = ((45 : Nat) : Int) ∧ 26 + 3 = 29 := ⟨rfl, rfl, rfl⟩
theorem xc159_29 : pmCode 159 29 = some (.iload_n 1) ∧ 29 + 1 = 30 := ⟨rfl, rfl⟩
theorem xc159_30 : pmCode 159 30 = some (.bipush 111) ∧ 30 + 2 = 32 := ⟨rfl, rfl⟩
theorem xc159_32 : pmCode 159 32 = some (.if_icmp .eq 13) ∧ ((32 : Nat) : Int) + 13 = ((45 : Nat) : Int) ∧ 32 + 3 = 35 := ⟨rfl, rfl, rfl⟩
theorem xc159_35 : pmCode 159 35 = some (.aload_n 0) ∧ 35 + 1 = 36 := ⟨rfl, rfl⟩
theorem xc159_36 : pmCode 159 36 = some (.iconst 1) ∧ 36 + 1 = 37 := ⟨rfl, rfl⟩
theorem xc159_37 : pmCode 159 37 = some (.aload_n 0) ∧ 37 + 1 = 38 := ⟨rfl, rfl⟩
theorem xc159_38 : pmCode 159 38 = some (.getfield 170) ∧ 38 + 3 = 41 := ⟨rfl, rfl⟩
theorem xc159_41 : pmCode 159 41 = some (.invokevirtual 183) ∧ 41 + 3 = 44 := ⟨rfl, rfl⟩
theorem xc159_44 : pmCode 159 44 = some .ireturn := rfl
theorem xc159_45 : pmCode 159 45 = some (.aload_n 0) ∧ 45 + 1 = 46 := ⟨rfl, rfl⟩
theorem xc159_46 : pmCode 159 46 = some (.aload_n 0) ∧ 46 + 1 = 47 := ⟨rfl, rfl⟩
theorem xc159_47 : pmCode 159 47 = some (.getfield 170) ∧ 47 + 3 = 50 := ⟨rfl, rfl⟩
theorem xc159_50 : pmCode 159 50 = some (.iconst 1) ∧ 50 + 1 = 51 := ⟨rfl, rfl⟩
theorem xc159_51 : pmCode 159 51 = some .iadd ∧ 51 + 1 = 52 := ⟨rfl, rfl⟩
theorem xc159_52 : pmCode 159 52 = some (.putfield 170) ∧ 52 + 3 = 55 := ⟨rfl, rfl⟩
theorem xc159_55 : pmCode 159 55 = some (.aload_n 0) ∧ 55 + 1 = 56 := ⟨rfl, rfl⟩
theorem xc159_56 : pmCode 159 56 = some (.iload_n 1) ∧ 56 + 1 = 57 := ⟨rfl, rfl⟩
theorem xc159_57 : pmCode 159 57 = some (.bipush 104) ∧ 57 + 2 = 59 := ⟨rfl, rfl⟩
theorem xc159_59 : pmCode 159 59 = some (.if_icmp .eq 9) ∧ ((59 : Nat) : Int) + 9 = ((68 : Nat) : Int) ∧ 59 + 3 = 62 := ⟨rfl, rfl, rfl⟩
theorem xc159_62 : pmCode 159 62 = some (.iload_n 1) ∧ 62 + 1 = 63 := ⟨rfl, rfl⟩
theorem xc159_63 : pmCode 159 63 = some (.bipush 108) ∧ 63 + 2 = 65 := ⟨rfl, rfl⟩
theorem xc159_65 : pmCode 159 65 = some (.if_icmp .ne 7) ∧ ((65 : Nat) : Int) + 7 = ((72 : Nat) : Int) ∧ 65 + 3 = 68 := ⟨rfl, rfl, rfl⟩
theorem xc159_68 : pmCode 159 68 = some (.iconst 4) ∧ 68 + 1 = 69 := ⟨rfl, rfl⟩
theorem xc159_69 : pmCode 159 69 = some (.goto 15) ∧ ((69 : Nat) : Int) + 15 = ((84 : Nat) : Int) := ⟨rfl, rfl⟩
theorem xc159_72 : pmCode 159 72 = some (.iload_n 1) ∧ 72 + 1 = 73 := ⟨rfl, rfl⟩
theorem xc159_73 : pmCode 159 73 = some (.bipush 105) ∧ 73 + 2 = 75 := ⟨rfl, rfl⟩
theorem xc159_75 : pmCode 159 75 = some (.if_icmp .ne 8) ∧ ((75 : Nat) : Int) + 8 = ((83 : Nat) : Int) ∧ 75 + 3 = 78 := ⟨rfl, rfl, rfl⟩
theorem xc159_78 : pmCode 159 78 = some (.bipush 6) ∧ 78 + 2 = 80 := ⟨rfl, rfl⟩
theorem xc159_80 : pmCode 159 80 = some (.goto 4) ∧ ((80 : Nat) : Int) + 4 = ((84 : Nat) : Int) := ⟨rfl, rfl⟩
theorem xc159_83 : pmCode 159 83 = some (.iconst 3) ∧ 83 + 1 = 84 := ⟨rfl, rfl⟩
theorem xc159_84 : pmCode 159 84 = some (.invokevirtual 199) ∧ 84 + 3 = 87 := ⟨rfl, rfl⟩
theorem xc159_87 : pmCode 159 87 = some (.ifCond .ne 5) ∧ ((87 : Nat) : Int) + 5 = ((92 : Nat) : Int) ∧ 87 + 3 = 90 := ⟨rfl, rfl, rfl⟩
theorem xc159_90 : pmCode 159 90 = some (.iconst 0) ∧ 90 + 1 = 91 := ⟨rfl, rfl⟩
theorem xc159_91 : pmCode 159 91 = some .ireturn := rfl
theorem xc159_92 : pmCode 159 92 = some (.aload_n 0) ∧ 92 + 1 = 93 := ⟨rfl, rfl⟩
theorem xc159_93 : pmCode 159 93 = some (.getfield 187) ∧ 93 + 3 = 96 := ⟨rfl, rfl⟩
theorem xc159_96 : pmCode 159 96 = some (.istore_n 2) ∧ 96 + 1 = 97 := ⟨rfl, rfl⟩
theorem xc159_97 : pmCode 159 97 = some (.iload_n 1) ∧ 97 + 1 = 98 := ⟨rfl, rfl⟩
theorem xc159_98 : pmCode 159 98 = some (.bipush 108) ∧ 98 + 2 = 100 := ⟨rfl, rfl⟩
theorem xc159_100 : pmCode 159 100 = some (.if_icmp .eq 9) ∧ ((100 : Nat) : Int) + 9 = ((109 : Nat) : Int) ∧ 100 + 3 = 103 := ⟨rfl, rfl, rfl⟩
theorem xc159_103 : pmCode 159 103 = some (.iload_n 1) ∧ 103 + 1 = 104 := ⟨rfl, rfl⟩
theorem xc159_104 : pmCode 159 104 = some (.bipush 111) ∧ 104 + 2 = 106 := ⟨rfl, rfl⟩
theorem xc159_106 : pmCode 159 106 = some (.if_icmp .ne 24) ∧ ((106 : Nat) : Int) + 24 = ((130 : Nat) : Int) ∧ 106 + 3 = 109 := ⟨rfl, rfl, rfl⟩
theorem xc159_109 : pmCode 159 109 = some (.aload_n 0) ∧ 109 + 1 = 110 := ⟨rfl, rfl⟩
theorem xc159_110 : pmCode 159 110 = some (.iload_n 1) ∧ 110 + 1 = 111 := ⟨rfl, rfl⟩
theorem xc159_111 : pmCode 159 111 = some (.bipush 108) ∧ 111 + 2 = 113 := ⟨rfl, rfl⟩
theorem xc159_113 : pmCode 159 113 = some (.if_icmp .ne 8) ∧ ((113 : Nat) : Int) + 8 = ((121 : Nat) : Int) ∧ 113 + 3 = 116 := ⟨rfl, rfl, rfl⟩
theorem xc159_116 : pmCode 159 116 = some (.bipush 6) ∧ 116 + 2 = 118 := ⟨rfl, rfl⟩
theorem xc159_118 : pmCode 159 118 = some (.goto 4) ∧ ((118 : Nat) : Int) + 4 = ((122 : Nat) : Int) := ⟨rfl, rfl⟩
theorem xc159_121 : pmCode 159 121 = some (.iconst 4) ∧ 121 + 1 = 122 := ⟨rfl, rfl⟩
theorem xc159_122 : pmCode 159 122 = some (.invokevirtual 199) ∧ 122 + 3 = 125 := ⟨rfl, rfl⟩
theorem xc159_125 : pmCode 159 125 = some (.ifCond .ne 5) ∧ ((125 : Nat) : Int) + 5 = ((130 : Nat) : Int) ∧ 125 + 3 = 128 := ⟨rfl, rfl, rfl⟩
theorem xc159_128 : pmCode 159 128 = some (.iconst 0) ∧ 128 + 1 = 129 := ⟨rfl, rfl⟩
theorem xc159_129 : pmCode 159 129 = some .ireturn := rfl
theorem xc159_130 : pmCode 159 130 = some (.aload_n 0) ∧ 130 + 1 = 131 := ⟨rfl, rfl⟩
theorem xc159_131 : pmCode 159 131 = some (.iload_n 1) ∧ 131 + 1 = 132 := ⟨rfl, rfl⟩
theorem xc159_132 : pmCode 159 132 = some (.bipush 104) ∧ 132 + 2 = 134 := ⟨rfl, rfl⟩
theorem xc159_134 : pmCode 159 134 = some (.if_icmp .ne 7) ∧ ((134 : Nat) : Int) + 7 = ((141 : Nat) : Int) ∧ 134 + 3 = 137 := ⟨rfl, rfl, rfl⟩
theorem xc159_137 : pmCode 159 137 = some (.iconst 0) ∧ 137 + 1 = 138 := ⟨rfl, rfl⟩
theorem xc159_138 : pmCode 159 138 = some (.goto 34) ∧ ((138 : Nat) : Int) + 34 = ((172 : Nat) : Int) := ⟨rfl, rfl⟩
theorem xc159_141 : pmCode 159 141 = some (.iload_n 1) ∧ 141 + 1 = 142 := ⟨rfl, rfl⟩
theorem xc159_142 : pmCode 159 142 = some (.bipush 105) ∧ 142 + 2 = 144 := ⟨rfl, rfl⟩
theorem xc159_144 : pmCode 159 144 = some (.if_icmp .ne 7) ∧ ((144 : Nat) : Int) + 7 = ((151 : Nat) : Int) ∧ 144 + 3 = 147 := ⟨rfl, rfl, rfl⟩
theorem xc159_147 : pmCode 159 147 = some (.iconst 1) ∧ 147 + 1 = 148 := ⟨rfl, rfl⟩
theorem xc159_148 : pmCode 159 148 = some (.goto 24) ∧ ((148 : Nat) : Int) + 24 = ((172 : Nat) : Int) := ⟨rfl, rfl⟩
theorem xc159_151 : pmCode 159 151 = some (.iload_n 1) ∧ 151 + 1 = 152 := ⟨rfl, rfl⟩
theorem xc159_152 : pmCode 159 152 = some (.bipush 100) ∧ 152 + 2 = 154 := ⟨rfl, rfl⟩
theorem xc159_154 : pmCode 159 154 = some (.if_icmp .ne 7) ∧ ((154 : Nat) : Int) + 7 = ((161 : Nat) : Int) ∧ 154 + 3 = 157 := ⟨rfl, rfl, rfl⟩
theorem xc159_157 : pmCode 159 157 = some (.iconst 2) ∧ 157 + 1 = 158 := ⟨rfl, rfl⟩
theorem xc159_158 : pmCode 159 158 = some (.goto 14) ∧ ((158 : Nat) : Int) + 14 = ((172 : Nat) : Int) := ⟨rfl, rfl⟩
theorem xc159_161 : pmCode 159 161 = some (.iload_n 1) ∧ 161 + 1 = 162 := ⟨rfl, rfl⟩
theorem xc159_162 : pmCode 159 162 = some (.bipush 108) ∧ 162 + 2 = 164 := ⟨rfl, rfl⟩
theorem xc159_164 : pmCode 159 164 = some (.if_icmp .ne 7) ∧ ((164 : Nat) : Int) + 7 = ((171 : Nat) : Int) ∧ 164 + 3 = 167 := ⟨rfl, rfl, rfl⟩
theorem xc159_167 : pmCode 159 167 = some (.iconst 3) ∧ 167 + 1 = 168 := ⟨rfl, rfl⟩
theorem xc159_168 : pmCode 159 168 = some (.goto 4) ∧ ((168 : Nat) : Int) + 4 = ((172 : Nat) : Int) := ⟨rfl, rfl⟩
theorem xc159_171 : pmCode 159 171 = some (.iconst 4) ∧ 171 + 1 = 172 := ⟨rfl, rfl⟩
theorem xc159_172 : pmCode 159 172 = some (.iload_n 2) ∧ 172 + 1 = 173 := ⟨rfl, rfl⟩
theorem xc159_173 : pmCode 159 173 = some (.aload_n 0) ∧ 173 + 1 = 174 := ⟨rfl, rfl⟩
theorem xc159_174 : pmCode 159 174 = some (.getfield 187) ∧ 174 + 3 = 177 := ⟨rfl, rfl⟩
theorem xc159_177 : pmCode 159 177 = some (.invokevirtual 202) ∧ 177 + 3 = 180 := ⟨rfl, rfl⟩
theorem xc159_180 : pmCode 159 180 = some (.aload_n 0) ∧ 180 + 1 = 181 := ⟨rfl, rfl⟩
theorem xc159_181 : pmCode 159 181 = some (.invokevirtual 206) ∧ 181 + 3 = 184 := ⟨rfl, rfl⟩
theorem xc159_184 : pmCode 159 184 = some (.iconst 1) ∧ 184 + 1 = 185 := ⟨rfl, rfl⟩
theorem xc159_185 : pmCode 159 185 = some .ireturn := rfl
theorem xc161_0 : pmCode 161 0 = some (.aload_n 0) ∧ 0 + 1 = 1 := ⟨rfl, rfl⟩
theorem xc161_1 : pmCode 161 1 = some (.getfield 33) ∧ 1 + 3 = 4 := ⟨rfl, rfl⟩
theorem xc161_4 : pmCode 161 4 = some (.aload_n 0) ∧ 4 + 1 = 5 := ⟨rfl, rfl⟩
theorem xc161_5 : pmCode 161 5 = some (.getfield 190) ∧ 5 + 3 = 8 := ⟨rfl, rfl⟩
theorem xc161_8 : pmCode 161 8 = some (.sipush 256) ∧ 8 + 3 = 11 := ⟨rfl, rfl⟩
theorem xc161_11 : pmCode 161 11 = some (.iload_n 1) ∧ 11 + 1 = 12 := ⟨rfl, rfl⟩
theorem xc161_12 : pmCode 161 12 = some .imul ∧ 12 + 1 = 13 := ⟨rfl, rfl⟩
theorem xc161_13 : pmCode 161 13 = some (.bipush 16) ∧ 13 + 2 = 15 := ⟨rfl, rfl⟩
theorem xc161_15 : pmCode 161 15 = some (.iload_n 2) ∧ 15 + 1 = 16 := ⟨rfl, rfl⟩
theorem xc161_16 : pmCode 161 16 = some .imul ∧ 16 + 1 = 17 := ⟨rfl, rfl⟩
theorem xc161_17 : pmCode 161 17 = some .iadd ∧ 17 + 1 = 18 := ⟨rfl, rfl⟩
theorem xc161_18 : pmCode 161 18 = some (.iload_n 3) ∧ 18 + 1 = 19 := ⟨rfl, rfl⟩
theorem xc161_19 : pmCode 161 19 = some .iadd ∧ 19 + 1 = 20 := ⟨rfl, rfl⟩
theorem xc161_20 : pmCode 161 20 = some .iastore ∧ 20 + 1 = 21 := ⟨rfl, rfl⟩
theorem xc161_21 : pmCode 161 21 = some (.aload_n 0) ∧ 21 + 1 = 22 := ⟨rfl, rfl⟩
theorem xc161_22 : pmCode 161 22 = some (.aload_n 0) ∧ 22 + 1 = 23 := ⟨rfl, rfl⟩
theorem xc161_23 : pmCode 161 23 = some (.getfield 190) ∧ 23 + 3 = 26 := ⟨rfl, rfl⟩
theorem xc161_26 : pmCode 161 26 = some (.iconst 1) ∧ 26 + 1 = 27 := ⟨rfl, rfl⟩
theorem xc161_27 : pmCode 161 27 = some .iadd ∧ 27 + 1 = 28 := ⟨rfl, rfl⟩
theorem xc161_28 : pmCode 161 28 = some (.putfield 190) ∧ 28 + 3 = 31 := ⟨rfl, rfl⟩
theorem xc161_31 : pmCode 161 31 = some .return_ := rfl
theorem xc162_0 : pmCode 162 0 = some (.aload_n 0) ∧ 0 + 1 = 1 := ⟨rfl, rfl⟩
theorem xc162_1 : pmCode 162 1 = some (.invokevirtual 209) ∧ 1 + 3 = 4 := ⟨rfl, rfl⟩
theorem xc162_4 : pmCode 162 4 = some (.bipush 7) ∧ 4 + 2 = 6 := ⟨rfl, rfl⟩
theorem xc162_6 : pmCode 162 6 = some (.if_icmp .ne 34) ∧ ((6 : Nat) : Int) + 34 = ((40 : Nat) : Int) ∧ 6 + 3 = 9 := ⟨rfl, rfl, rfl⟩
theorem xc162_9 : pmCode 162 9 = some (.aload_n 0) ∧ 9 + 1 = 10 := ⟨rfl, rfl⟩
theorem xc162_10 : pmCode 162 10 = some (.bipush 7) ∧ 10 + 2 = 12 := ⟨rfl, rfl⟩
theorem xc162_12 : pmCode 162 12 = some (.iconst 0) ∧ 12 + 1 = 13 := ⟨rfl, rfl⟩
theorem xc162_13 : pmCode 162 13 = some (.iconst 0) ∧ 13 + 1 = 14 := ⟨rfl, rfl⟩
theorem xc162_14 : pmCode 162 14 = some (.invokevirtual 202) ∧ 14 + 3 = 17 := ⟨rfl, rfl⟩
theorem xc162_17 : pmCode 162 17 = some (.aload_n 0) ∧ 17 + 1 = 18 := ⟨rfl, rfl⟩
theorem xc162_18 : pmCode 162 18 = some (.aload_n 0) ∧ 18 + 1 = 19 := ⟨rfl, rfl⟩
theorem xc162_19 : pmCode 162 19 = some (.getfield 196) ∧ 19 + 3 = 22 := ⟨rfl, rfl⟩
theorem xc162_22 : pmCode 162 22 = some (.iconst 1) ∧ 22 + 1 = 23 := ⟨rfl, rfl⟩
theorem xc162_23 : pmCode 162 23 = some .isub ∧ 23 + 1 = 24 := ⟨rfl, rfl⟩
theorem xc162_24 : pmCode 162 24 = some (.putfield 196) ∧ 24 + 3 = 27 := ⟨rfl, rfl⟩
theorem xc162_27 : pmCode 162 27 = some (.aload_n 0) ∧ 27 + 1 = 28 := ⟨rfl, rfl⟩
theorem xc162_28 : pmCode 162 28 = some (.aload_n 0) ∧ 28 + 1 = 29 := ⟨rfl, rfl⟩
theorem xc162_29 : pmCode 162 29 = some (.getfield 193) ∧ 29 + 3 = 32 := ⟨rfl, rfl⟩
theorem xc162_32 : pmCode 162 32 = some (.iconst 1) ∧ 32 + 1 = 33 := ⟨rfl, rfl⟩
theorem xc162_33 : pmCode 162 33 = some .isub ∧ 33 + 1 = 34 := ⟨rfl, rfl⟩
theorem xc162_34 : pmCode 162 34 = some (.putfield 193) ∧ 34 + 3 = 37 := ⟨rfl, rfl⟩
theorem xc162_37 : pmCode 162 37 = some (.goto (-37)) ∧ ((37 : Nat) : Int) + (-37) = ((0 : Nat) : Int) := ⟨rfl, rfl⟩
theorem xc162_40 : pmCode 162 40 = some .return_ := rfl
theorem xc163_0 : pmCode 163 0 = some (.aload_n 0) ∧ 0 + 1 = 1 := ⟨rfl, rfl⟩
theorem xc163_1 : pmCode 163 1 = some (.getfield 196) ∧ 1 + 3 = 4 := ⟨rfl, rfl⟩
theorem xc163_4 : pmCode 163 4 = some (.ifCond .ne 7) ∧ ((4 : Nat) : Int) + 7 = ((11 : Nat) : Int) ∧ 4 + 3 = 7 := ⟨rfl, rfl, rfl⟩
theorem xc163_7 : pmCode 163 7 = some (.iconst (-1)) ∧ 7 + 1 = 8 := ⟨rfl, rfl⟩
theorem xc163_8 : pmCode 163 8 = some (.goto 14) ∧ ((8 : Nat) : Int) + 14 = ((22 : Nat) : Int) := ⟨rfl, rfl⟩
theorem xc163_11 : pmCode 163 11 = some (.aload_n 0) ∧ 11 + 1 = 12 := ⟨rfl, rfl⟩
theorem xc163_12 : pmCode 163 12 = some (.getfield 30) ∧ 12 + 3 = 15 := ⟨rfl, rfl⟩
theorem xc163_15 : pmCode 163 15 = some (.aload_n 0) ∧ 15 + 1 = 16 := ⟨rfl, rfl⟩
theorem xc163_16 : pmCode 163 16 = some (.getfield 196) ∧ 16 + 3 = 19 := ⟨rfl, rfl⟩
theorem xc163_19 : pmCode 163 19 = some (.iconst 1) ∧ 19 + 1 = 20 := ⟨rfl, rfl⟩
theorem xc163_20 : pmCode 163 20 = some .isub ∧ 20 + 1 = 21 := ⟨rfl, rfl⟩
theorem xc163_21 : pmCode 163 21 = some .iaload ∧ 21 + 1 = 22 := ⟨rfl, rfl⟩
theorem xc163_22 : pmCode 163 22 = some .ireturn := rfl
theorem xc164_0 : pmCode 164 0 = some (.iconst 0) ∧ 0 + 1 = 1 := ⟨rfl, rfl⟩
theorem xc164_1 : pmCode 164 1 = some (.istore_n 1) ∧ 1 + 1 = 2 := ⟨rfl, rfl⟩
theorem xc164_2 : pmCode 164 2 = some (.iload_n 1) ∧ 2 + 1 = 3 := ⟨rfl, rfl⟩
theorem xc164_3 : pmCode 164 3 = some (.aload_n 0) ∧ 3 + 1 = 4 := ⟨rfl, rfl⟩
theorem xc164_4 : pmCode 164 4 = some (.getfield 196) ∧ 4 + 3 = 7 := ⟨rfl, rfl⟩
theorem xc164_7 : pmCode 164 7 = some (.if_icmp .ge 22) ∧ ((7 : Nat) : Int) + 22 = ((29 : Nat) : Int) ∧ 7 + 3 = 10 := ⟨rfl, rfl, rfl⟩
theorem xc164_10 : pmCode 164 10 = some (.aload_n 0) ∧ 10 + 1 = 11 := ⟨rfl, rfl⟩
theorem xc164_11 : pmCode 164 11 = some (.getfield 30) ∧ 11 + 3 = 14 := ⟨rfl, rfl⟩
theorem xc164_14 : pmCode 164 14 = some (.iload_n 1) ∧ 14 + 1 = 15 := ⟨rfl, rfl⟩
theorem xc164_15 : pmCode 164 15 = some .iaload ∧ 15 + 1 = 16 := ⟨rfl, rfl⟩
theorem xc164_16 : pmCode 164 16 = some (.bipush 8) ∧ 16 + 2 = 18 := ⟨rfl, rfl⟩
theorem xc164_18 : pmCode 164 18 = some (.if_icmp .ne 5) ∧ ((18 : Nat) : Int) + 5 = ((23 : Nat) : Int) ∧ 18 + 3 = 21 := ⟨rfl, rfl, rfl⟩
theorem xc164_21 : pmCode 164 21 = some (.iconst 1) ∧ 21 + 1 = 22 := ⟨rfl, rfl⟩
theorem xc164_22 : pmCode 164 22 = some .ireturn := rfl
theorem xc164_23 : pmCode 164 23 = some (.iinc 1 1) ∧ 23 + 3 = 26 := ⟨rfl, rfl⟩
theorem xc164_26 : pmCode 164 26 = some (.goto (-24)) ∧ ((26 : Nat) : Int) + (-24) = ((2 : Nat) : Int) := ⟨rfl, rfl⟩
theorem xc164_29 : pmCode 164 29 = some (.iconst 0) ∧ 29 + 1 = 30 := ⟨rfl, rfl⟩
theorem xc164_30 : pmCode 164 30 = some .ireturn := rfl
theorem xc165_0 : pmCode 165 0 = some (.aload_n 0) ∧ 0 + 1 = 1 := ⟨rfl, rfl⟩
theorem xc165_1 : pmCode 165 1 = some (.invokevirtual 209) ∧ 1 + 3 = 4 := ⟨rfl, rfl⟩
theorem xc165_4 : pmCode 165 4 = some (.iconst 5) ∧ 4 + 1 = 5 := ⟨rfl, rfl⟩
theorem xc165_5 : pmCode 165 5 = some (.if_icmp .eq 16) ∧ ((5 : Nat) : Int) + 16 = ((21 : Nat) : Int) ∧ 5 + 3 = 8 := ⟨rfl, rfl, rfl⟩
theorem xc165_8 : pmCode 165 8 = some (.iload_n 1) ∧ 8 + 1 = 9 := ⟨rfl, rfl⟩
theorem xc165_9 : pmCode 165 9 = some (.ifCond .eq 35) ∧ ((9 : Nat) : Int) + 35 = ((44 : Nat) : Int) ∧ 9 + 3 = 12 := ⟨rfl, rfl, rfl⟩
theorem xc165_12 : pmCode 165 12 = some (.aload_n 0) ∧ 12 + 1 = 13 := ⟨rfl, rfl⟩
theorem xc165_13 : pmCode 165 13 = some (.invokevirtual 209) ∧ 13 + 3 = 16 := ⟨rfl, rfl⟩
theorem xc165_16 : pmCode 165 16 = some (.bipush 6) ∧ 16 + 2 = 18 := ⟨rfl, rfl⟩
theorem xc165_18 : pmCode 165 18 = some (.if_icmp .ne 26) ∧ ((18 : Nat) : Int) + 26 = ((44 : Nat) : Int) ∧ 18 + 3 = 21 := ⟨rfl, rfl, rfl⟩
theorem xc165_21 : pmCode 165 21 = some (.aload_n 0) ∧ 21 + 1 = 22 := ⟨rfl, rfl⟩
theorem xc165_22 : pmCode 165 22 = some (.aload_n 0) ∧ 22 + 1 = 23 := ⟨rfl, rfl⟩
theorem xc165_23 : pmCode 165 23 = some (.invokevirtual 209) ∧ 23 + 3 = 26 := ⟨rfl, rfl⟩
theorem xc165_26 : pmCode 165 26 = some (.iconst 0) ∧ 26 + 1 = 27 := ⟨rfl, rfl⟩
theorem xc165_27 : pmCode 165 27 = some (.iconst 0) ∧ 27 + 1 = 28 := ⟨rfl, rfl⟩
theorem xc165_28 : pmCode 165 28 = some (.invokevirtual 202) ∧ 28 + 3 = 31 := ⟨rfl, rfl⟩
theorem xc165_31 : pmCode 165 31 = some (.aload_n 0) ∧ 31 + 1 = 32 := ⟨rfl, rfl⟩
theorem xc165_32 : pmCode 165 32 = some (.aload_n 0) ∧ 32 + 1 = 33 := ⟨rfl, rfl⟩
theorem xc165_33 : pmCode 165 33 = some (.getfield 196) ∧ 33 + 3 = 36 := ⟨rfl, rfl⟩
theorem xc165_36 : pmCode 165 36 = some (.iconst 1) ∧ 36 + 1 = 37 := ⟨rfl, rfl⟩
theorem xc165_37 : pmCode 165 37 = some .isub ∧ 37 + 1 = 38 := ⟨rfl, rfl⟩
theorem xc165_38 : pmCode 165 38 = some (.putfield 196) ∧ 38 + 3 = 41 := ⟨rfl, rfl⟩
theorem xc165_41 : pmCode 165 41 = some (.goto (-41)) ∧ ((41 : Nat) : Int) + (-41) = ((0 : Nat) : Int) := ⟨rfl, rfl⟩
theorem xc165_44 : pmCode 165 44 = some .return_ := rfl
/-- the reference's reader of wishes: what waits (top first), what is said -/
def kV (a0 a : xA) : Prop := (∀ q k, q ≠ 87 → q ≠ 94 → q ≠ 95 → a q k = a0 q k) ∧ ∀ k, k ≠ 10 → k ≠ 12 → k ≠ 13 → k ≠ 14 → k ≠ 15 → k ≠ 22 → a 87 k = a0 87 k
def rW (a0 a : xA) (t : Int → Int) (n p : Int) (S out : List Int) : Prop := tR a t n p ∧ xAr a ∧ a 87 14 = (S.length : Int) ∧ (∀ (j : Nat) x, S.reverse[j]? = some x → a 94 (j : Int) = x) ∧ a 87 15 = (out.length : Int) ∧ (∀ (j : Nat) x, out[j]? = some x → a 95 (j : Int) = x) ∧ a 87 13 = wOp S ∧ (∀ x, x ∈ S → 5 ≤ x ∧ x ≤ 8) ∧ kV a0 a
section
variable {a0 a : xA} {t : Int → Int} {n p v k o c x w q : Int} {S out : List Int}
theorem kV.ot {r : Nat} (h : kV a0 a) (hr : r = 94 ∨ r = 95) : kV a0 (xU a r k v) := ⟨fun q j g1 g2 g3 => by
  rw [xUn (by rcases hr with h | h <;> (rw [h]; assumption))]
  exact h.1 q j g1 g2 g3, fun j g1 g2 g3 g4 g5 g6 => by
  rw [xUn (by rcases hr with h | h <;> (rw [h]; decide))]
  exact h.2 j g1 g2 g3 g4 g5 g6⟩
theorem kV.fd (h : kV a0 a) (hk : k = 10 ∨ k = 12 ∨ k = 13 ∨ k = 14 ∨ k = 15 ∨ k = 22) : kV a0 (xU a 87 k v) := ⟨fun q j g1 g2 g3 => by
  rw [xUn g1]
  exact h.1 q j g1 g2 g3, fun j g1 g2 g3 g4 g5 g6 => by
  rw [xUk (by omega)]
  exact h.2 j g1 g2 g3 g4 g5 g6⟩
theorem rW.fd (h : rW a0 a t n p S out) (hk : k = 12 ∨ k = 22) (hv : xR v) : rW a0 (xU a 87 k v) t n p S out := by
  obtain ⟨h1, h2, h3, h4, h5, h6, h7, h8, h9⟩ := h
  refine ⟨tR.fd (by omega) (by omega) h1, xAr_u h2 hv, ?_, fun j x g => ?_, ?_, fun j x g => ?_, ?_, h8, h9.fd (by omega)⟩
  · rw [xUk (by omega)]; exact h3
  · rw [xUn (by decide)]; exact h4 j x g
  · rw [xUk (by omega)]; exact h5
  · rw [xUn (by decide)]; exact h6 j x g
  · rw [xUk (by omega)]; exact h7
theorem rW.at (h : rW a0 a t n p S out) (hv : xR v) : rW a0 (xU a 87 10 v) t n v S out := by
  obtain ⟨h1, h2, h3, h4, h5, h6, h7, h8, h9⟩ := h
  refine ⟨tR.at h1, xAr_u h2 hv, ?_, fun j x g => ?_, ?_, fun j x g => ?_, ?_, h8, h9.fd (by omega)⟩
  · rw [xUk (by omega)]; exact h3
  · rw [xUn (by decide)]; exact h4 j x g
  · rw [xUk (by omega)]; exact h5
  · rw [xUn (by decide)]; exact h6 j x g
  · rw [xUk (by omega)]; exact h7
theorem gSn {L : List Int} {j : Nat} (h : (L ++ [c])[j]? = some x) : L[j]? = some x ∧ j < L.length ∨ j = L.length ∧ x = c := by
  by_cases hj : j < L.length
  · rw [List.getElem?_append_left hj] at h
    exact Or.inl ⟨h, hj⟩
  · rw [List.getElem?_append_right (by omega)] at h
    obtain ⟨i, hi⟩ : ∃ i, j - L.length = i := ⟨_, rfl⟩
    rw [hi] at h
    cases i with
    | zero =>
      have e : c = x := Option.some.inj h
      exact Or.inr ⟨by omega, e.symm⟩
    | succ i => cases h
theorem rW.put (h : rW a0 a t n p S out) (ho : (out.length : Int) = o) (hv : xR v) (ho2 : xR (o + 1)) (hc : v = c) : rW a0 (xU (xU a 95 o v) 87 15 (o + 1)) t n p S (out ++ [c]) := by
  obtain ⟨h1, h2, h3, h4, h5, h6, h7, h8, h9⟩ := h
  refine ⟨tR.fd (by omega) (by omega) (tR.ot (by decide) (by decide) h1), xAr_u (xAr_u h2 hv) ho2, ?_, fun j x g => ?_, ?_, fun j x g => ?_, ?_, h8, (h9.ot (Or.inr rfl)).fd (by omega)⟩
  · rw [xUk (by omega), xUn (by decide)]; exact h3
  · rw [xUn (by decide), xUn (by decide)]; exact h4 j x g
  · rw [xUa, List.length_append, ← ho]; rfl
  · rw [xUn (by decide)]
    rcases gSn g with ⟨e, hj⟩ | ⟨e, hx⟩
    · rw [xUk (by omega)]; exact h6 j x e
    · rw [show (j : Int) = o by omega, xUa, hc, hx]
  · rw [xUk (by omega), xUn (by decide)]; exact h7
/-- the top taken away -/
theorem rW.pop (h : rW a0 a t n p (x :: S) out) (hw : ((x :: S).length : Int) = w) (hw2 : xR (w - 1)) : rW a0 a t n p (x :: S) out → tR (xU a 87 14 (w - 1)) t n p ∧ (xU a 87 14 (w - 1)) 87 14 = (S.length : Int) ∧ ∀ (j : Nat) y, S.reverse[j]? = some y → a 94 (j : Int) = y := by
  intro _
  refine ⟨tR.fd (by omega) (by omega) h.1, ?_, fun j y g => h.2.2.2.1 j y ?_⟩
  · rw [xUa, ← hw]
    show ((S.length + 1 : Nat) : Int) - 1 = _
    omega
  · rw [List.reverse_cons, List.getElem?_append_left (List.getElem?_eq_some_iff.mp g).1]
    exact g
theorem rW.top (h : rW a0 a t n p (x :: S) out) (hw : ((x :: S).length : Int) = w) : a 94 (w - 1) = x := by
  have e : w - 1 = ((S.reverse.length : Nat) : Int) := by
    rw [← hw, List.length_reverse]
    show ((S.length + 1 : Nat) : Int) - 1 = _
    omega
  rw [e]
  refine h.2.2.2.1 _ _ ?_
  rw [List.reverse_cons, List.getElem?_append_right (Nat.le_refl _), Nat.sub_self]
  rfl
/-- NOT said -/
theorem rW.not (h : rW a0 a t n p (7 :: S) out) (ho : (out.length : Int) = o) (hw : (((7 : Int) :: S).length : Int) = w) (hq : wOp (7 :: S) = q) (hv : v = 1792) (r1 : xR (o + 1)) (r2 : xR (w - 1)) (r3 : xR (q - 1)) : rW a0 (xU (xU (xU (xU a 95 o v) 87 15 (o + 1)) 87 14 (w - 1)) 87 13 (q - 1)) t n p S (out ++ [1792]) := by
  have hp := h.pop hw r2 h
  obtain ⟨h1, h2, h3, h4, h5, h6, h7, h8, h9⟩ := h.put ho (v := v) (c := 1792) (by rw [hv]; exact ⟨by decide, by decide⟩) r1 hv
  refine ⟨tR.fd (by omega) (by omega) (tR.fd (by omega) (by omega) h1), xAr_u (xAr_u h2 r2) r3, ?_, fun j x g => ?_, ?_, fun j x g => ?_, ?_, fun y hy => h8 y (List.mem_cons_of_mem _ hy), (h9.fd (by omega)).fd (by omega)⟩
  · rw [xUk (by omega), xUa, ← hp.2.1, xUa]
  · rw [xUn (by decide), xUn (by decide), xUn (by decide), xUn (by decide)]; exact hp.2.2 j x g
  · rw [xUk (by omega), xUk (by omega)]; exact h5
  · rw [xUn (by decide), xUn (by decide)]; exact h6 j x g
  · rw [xUa, ← hq, wOp7]; omega
/-- AND, OR said -/
theorem rW.join (h : rW a0 a t n p (x :: S) out) (hx : x = 5 ∨ x = 6) (ho : (out.length : Int) = o) (hw : ((x :: S).length : Int) = w) (hv : v = c) (r0 : xR v) (r1 : xR (o + 1)) (r2 : xR (w - 1)) : rW a0 (xU (xU (xU a 95 o v) 87 15 (o + 1)) 87 14 (w - 1)) t n p S (out ++ [c]) := by
  have hp := h.pop hw r2 h
  obtain ⟨h1, h2, h3, h4, h5, h6, h7, h8, h9⟩ := h.put ho (v := v) (c := c) r0 r1 hv
  refine ⟨tR.fd (by omega) (by omega) h1, xAr_u h2 r2, ?_, fun j x g => ?_, ?_, fun j x g => ?_, ?_, fun y hy => h8 y (List.mem_cons_of_mem _ hy), h9.fd (by omega)⟩
  · rw [xUa, ← hp.2.1, xUa]
  · rw [xUn (by decide), xUn (by decide), xUn (by decide)]; exact hp.2.2 j x g
  · rw [xUk (by omega)]; exact h5
  · rw [xUn (by decide)]; exact h6 j x g
  · rw [xUk (by omega), h7]
    rcases hx with e | e
    · rw [e]; exact wOp5
    · rw [e]; exact wOp6
theorem gPush (h : ∀ (j : Nat) y, S.reverse[j]? = some y → a 94 (j : Int) = y) (hw : (S.length : Int) = w) (hv : v = x) : ∀ (j : Nat) y, (x :: S).reverse[j]? = some y → xU a 94 w v 94 (j : Int) = y := by
  intro j y g
  rw [List.reverse_cons] at g
  rcases gSn g with ⟨e, hj⟩ | ⟨e, hx⟩
  · rw [List.length_reverse] at hj
    rw [xUk (by omega)]
    exact h j y e
  · rw [List.length_reverse] at e
    rw [show (j : Int) = w by omega, xUa, hv, hx]
theorem rW.opn (h : rW a0 a t n p S out) (hw : (S.length : Int) = w) (hq : wOp S = q) (hx : x = 7 ∨ x = 8) (r1 : xR (q + 1)) (r2 : xR (w + 1)) (r3 : xR (p + 1)) : rW a0 (xU (xU (xU (xU a 87 13 (q + 1)) 94 w x) 87 14 (w + 1)) 87 10 (p + 1)) t n (p + 1) (x :: S) out := by
  obtain ⟨h1, h2, h3, h4, h5, h6, h7, h8, h9⟩ := h
  refine ⟨tR.at (tR.fd (by omega) (by omega) (tR.ot (by decide) (by decide) (tR.fd (by omega) (by omega) h1))), xAr_u (xAr_u (xAr_u (xAr_u h2 r1) ⟨by omega, by omega⟩) r2) r3, ?_, fun j y g => ?_, ?_, fun j y g => ?_, ?_, fun y hy => ?_, (((h9.fd (by omega)).ot (Or.inl rfl)).fd (by omega)).fd (by omega)⟩
  · rw [xUk (by omega), xUa, ← hw]; rfl
  · rw [xUn (by decide), xUn (by decide)]
    refine gPush (fun j y g => ?_) hw rfl j y g
    rw [xUn (by decide)]
    exact h4 j y g
  · rw [xUk (by omega), xUk (by omega), xUn (by decide), xUk (by omega)]; exact h5
  · rw [xUn (by decide), xUn (by decide), xUn (by decide), xUn (by decide)]; exact h6 j y g
  · rw [xUk (by omega), xUk (by omega), xUn (by decide), xUa, ← hq]
    show _ = wOp S + _
    rw [if_pos hx]
  · rcases List.mem_cons.mp hy with e | e
    · omega
    · exact h8 y e
theorem rW.wait (h : rW a0 a t n p S out) (hw : (S.length : Int) = w) (hx : x = 5 ∨ x = 6) (r2 : xR (w + 1)) (r3 : xR (p + 1)) : rW a0 (xU (xU (xU a 94 w x) 87 14 (w + 1)) 87 10 (p + 1)) t n (p + 1) (x :: S) out := by
  obtain ⟨h1, h2, h3, h4, h5, h6, h7, h8, h9⟩ := h
  refine ⟨tR.at (tR.fd (by omega) (by omega) (tR.ot (by decide) (by decide) h1)), xAr_u (xAr_u (xAr_u h2 ⟨by omega, by omega⟩) r2) r3, ?_, fun j y g => ?_, ?_, fun j y g => ?_, ?_, fun y hy => ?_, ((h9.ot (Or.inl rfl)).fd (by omega)).fd (by omega)⟩
  · rw [xUk (by omega), xUa, ← hw]; rfl
  · rw [xUn (by decide), xUn (by decide)]
    exact gPush h4 hw rfl j y g
  · rw [xUk (by omega), xUk (by omega), xUn (by decide)]; exact h5
  · rw [xUn (by decide), xUn (by decide), xUn (by decide)]; exact h6 j y g
  · rw [xUk (by omega), xUk (by omega), xUn (by decide), h7]
    rcases hx with e | e
    · rw [e]; exact wOp5.symm
    · rw [e]; exact wOp6.symm
  · rcases List.mem_cons.mp hy with e | e
    · omega
    · exact h8 y e
/-- a bracket closed: the top taken away, a place on -/
theorem rW.close (h : rW a0 a t n p (x :: S) out) (hx : x = 7 ∨ x = 8) (hw : ((x :: S).length : Int) = w) (hq : wOp (x :: S) = q) (r1 : xR (q - 1)) (r2 : xR (w - 1)) (r3 : xR (p + 1)) : rW a0 (xU (xU (xU a 87 14 (w - 1)) 87 13 (q - 1)) 87 10 (p + 1)) t n (p + 1) S out := by
  have hp := h.pop hw r2 h
  obtain ⟨h1, h2, h3, h4, h5, h6, h7, h8, h9⟩ := h
  refine ⟨tR.at (tR.fd (by omega) (by omega) hp.1), xAr_u (xAr_u (xAr_u h2 r2) r1) r3, ?_, fun j y g => ?_, ?_, fun j y g => ?_, ?_, fun y hy => h8 y (List.mem_cons_of_mem _ hy), ((h9.fd (by omega)).fd (by omega)).fd (by omega)⟩
  · rw [xUk (by omega), xUk (by omega)]; exact hp.2.1
  · rw [xUn (by decide), xUn (by decide), xUn (by decide)]; exact hp.2.2 j y g
  · rw [xUk (by omega), xUk (by omega), xUk (by omega)]; exact h5
  · rw [xUn (by decide), xUn (by decide), xUn (by decide)]; exact h6 j y g
  · rw [xUk (by omega), xUa, ← hq]
    show wOp S + (if x = 7 ∨ x = 8 then 1 else 0) - 1 = _
    rw [if_pos hx]
    omega
end
theorem xk160e {ro : Nat → Nat × (Nat → Int32)} {d : Nat} {Q : Option Value → pmS → Prop} {a : xA} {b : xB} {t : Int → Int} {n p : Int} (hC : tR a t n p) (hp : 0 ≤ p ∧ p ≤ n) (hn : n ≤ 60) (hb : tB t) (hA : xAr a) {g : Int} (hg : 0 ≤ g ∧ g ≤ 9) (hd : 2 ≤ d)
    (h1 : (sG t n p < 48 ∨ 57 < sG t n p) → Q (some (xV 0)) (xS (xU a 87 12 (-1000 * 1 - p)) b))
    (h3 : ¬ (sG t n p < 48 ∨ 57 < sG t n p) → g < sG t n p - 48 → Q (some (xV 0)) (xS (xU (xU a 87 22 (sG t n p - 48)) 87 12 (-1000 * 3 - p)) b))
    (h0 : ¬ (sG t n p < 48 ∨ 57 < sG t n p) → ¬ g < sG t n p - 48 → p < n → Q (some (xV 1)) (xS (xU (xU a 87 22 (sG t n p - 48)) 87 10 (p + 1)) b)) : pmCs ro d 160 [.ref 87, xV g] (xS a b) Q := by
  have gn : ¬ sG t n p = -1 → p < n := fun h => sGn h
  refine pmCs_deep (d := 2) (xg160 (w160 hC hp hn hb hA ⟨by omega, by omega⟩ (by decide) ?_ ?_ ?_ ?_)) hd
  · intro e0 e1
    first | exact h1 (by omega) | exact h3 (by omega) (by omega) | exact h0 (by omega) (by omega) (by omega)
  · intro e0 e1 e2 e3 e4 e5
    first | exact h1 (by omega) | exact h3 (by omega) (by omega) | exact h0 (by omega) (by omega) (by omega)
  · intro e0 e1 e2 e3 e4 e5
    first | exact h1 (by omega) | exact h3 (by omega) (by omega) | exact h0 (by omega) (by omega) (by omega)
  · intro e0 e1 e2 e3
    first | exact h1 (by omega) | exact h3 (by omega) (by omega) | exact h0 (by omega) (by omega) (by omega)
theorem xg161 {ro : Nat → Nat × (Nat → Int32)} {d : Nat} {Q : Option Value → pmS → Prop} {a : xA} {b : xB} {x y z : Int} (h : pmWp ro d 12 161 0 0 [some (.ref 87), some (xV x), some (xV y), some (xV z)] [] (xS a b) Q) : pmCs ro (d + 1) 161 [.ref 87, xV x, xV y, xV z] (xS a b) Q := x_go xi161 rfl rfl rfl rfl rfl h
theorem w161 {ro : Nat → Nat × (Nat → Int32)} {d : Nat} {Q : Option Value → pmS → Prop} {x y z o : Int} {a : xA} {b : xB} (h_x : xR x) (h_y : xR y) (h_z : xR z) (ho : a 87 15 = o) (ho0 : 0 ≤ o ∧ o ≤ 40) (hx : 0 ≤ x ∧ x ≤ 100 ∧ 0 ≤ y ∧ y ≤ 100 ∧ 0 ≤ z ∧ z ≤ 100)
    (k1 : Q none (xS (xU (xU a 95 o (256 * x + (16 * y) + z)) 87 15 (o + 1)) b)) :
    pmWp ro d 12 161 0 0 [some (.ref 87), some (xV x), some (xV y), some (xV z)] [] (xS a b) Q := by
  refine x_aloadn xc161_0 rfl ?_
  refine x_gfr xc161_1 rfl rfl xz87 rfl ?_
  refine x_aloadn xc161_4 rfl ?_
  refine x_gfi' (k := 15) (v := o) xc161_5 rfl (Or.inl rfl) rfl xz87 ho ?_
  refine x_sipush xc161_8 (by decide) ?_
  refine x_iloadn xc161_11 rfl ?_
  refine x_imul xc161_12 ?_
  refine x_bipush xc161_13 (by decide) ?_
  refine x_iloadn xc161_15 rfl ?_
  refine x_imul xc161_16 ?_
  refine x_iadd xc161_17 ?_
  refine x_iloadn xc161_18 rfl ?_
  refine x_iadd xc161_19 ?_
  refine x_ias xc161_20 xz95 (by omega) (by omega) (by omega) ?_
  refine x_aloadn xc161_21 rfl ?_
  refine x_aloadn xc161_22 rfl ?_
  refine x_gfi' (k := 15) (v := o) xc161_23 rfl (Or.inl rfl) rfl xz87 (by rw [xUn (by decide), ho]) ?_
  refine x_iconst xc161_26 ?_
  refine x_iadd xc161_27 ?_
  refine x_pfi (k := 15) xc161_28 rfl ⟨rfl, rfl⟩ rfl xz87 ?_
  refine x_ret xc161_31 rfl ?_
  exact k1

theorem xk161 {ro : Nat → Nat × (Nat → Int32)} {d : Nat} {Q : Option Value → pmS → Prop} {a : xA} {b : xB} {x y z o : Int} (h_x : xR x) (h_y : xR y) (h_z : xR z) (ho : a 87 15 = o) (ho0 : 0 ≤ o ∧ o ≤ 40) (hx : 0 ≤ x ∧ x ≤ 100 ∧ 0 ≤ y ∧ y ≤ 100 ∧ 0 ≤ z ∧ z ≤ 100) (hd : 1 ≤ d) (hQ : Q none (xS (xU (xU a 95 o (256 * x + 16 * y + z)) 87 15 (o + 1)) b)) : pmCs ro d 161 [.ref 87, xV x, xV y, xV z] (xS a b) Q := pmCs_deep (d := 1) (xg161 (w161 h_x h_y h_z ho ho0 hx hQ)) hd
theorem xg163 {ro : Nat → Nat × (Nat → Int32)} {d : Nat} {Q : Option Value → pmS → Prop} {a : xA} {b : xB} (h : pmWp ro d 12 163 1 0 [some (.ref 87)] [] (xS a b) Q) : pmCs ro (d + 1) 163 [.ref 87] (xS a b) Q := x_go xi163 rfl rfl rfl rfl rfl h
theorem w163 {ro : Nat → Nat × (Nat → Int32)} {d : Nat} {Q : Option Value → pmS → Prop} {w x : Int} {a : xA} {b : xB} (h_x : xR x) (hw : a 87 14 = w) (hw0 : 0 ≤ w ∧ w ≤ 40) (hx : a 94 (w - 1) = x)
    (k1 : (¬ w = 0) → Q (some (xV x)) (xS a b))
    (k2 : (¬ ¬ w = 0) → Q (some (xV (-1))) (xS a b)) :
    pmWp ro d 12 163 1 0 [some (.ref 87)] [] (xS a b) Q := by
  refine x_aloadn xc163_0 rfl ?_
  refine x_gfi' (k := 14) (v := w) xc163_1 rfl (Or.inl rfl) rfl xz87 hw ?_
  refine x_ifne xc163_4 (xRk (by omega)) (fun h0 => ?_) (fun h0 => ?_)
  · refine x_aloadn xc163_11 rfl ?_
    refine x_gfr xc163_12 rfl rfl xz87 rfl ?_
    refine x_aloadn xc163_15 rfl ?_
    refine x_gfi' (k := 14) (v := w) xc163_16 rfl (Or.inl rfl) rfl xz87 hw ?_
    refine x_iconst xc163_19 ?_
    refine x_isub xc163_20 ?_
    refine x_ial' (v := x) xc163_21 xz94 rfl (by omega) (by omega) (by omega) hx ?_
    refine x_iret xc163_22 (Or.inl rfl) ?_
    exact k1 h0
  · refine x_iconst xc163_7 ?_
    refine x_goto xc163_8 ?_
    refine x_iret xc163_22 (Or.inl rfl) ?_
    exact k2 h0

theorem xk163 {ro : Nat → Nat × (Nat → Int32)} {d : Nat} {Q : Option Value → pmS → Prop} {a : xA} {b : xB} {w x : Int} (h_x : xR x) (hw : a 87 14 = w) (hw0 : 0 ≤ w ∧ w ≤ 40) (hx : a 94 (w - 1) = x) (hd : 1 ≤ d) (h1 : w = 0 → Q (some (xV (-1))) (xS a b)) (h2 : ¬ w = 0 → Q (some (xV x)) (xS a b)) : pmCs ro d 163 [.ref 87] (xS a b) Q := pmCs_deep (d := 1) (xg163 (w163 h_x hw hw0 hx (fun e => h2 (by omega)) (fun e => h1 (by omega)))) hd
theorem xg162 {ro : Nat → Nat × (Nat → Int32)} {d : Nat} {Q : Option Value → pmS → Prop} {a : xA} {b : xB} (h : pmWp ro d 12 162 0 0 [some (.ref 87)] [] (xS a b) Q) : pmCs ro (d + 1) 162 [.ref 87] (xS a b) Q := x_go xi162 rfl rfl rfl rfl rfl h
theorem w162 {ro : Nat → Nat × (Nat → Int32)} {d : Nat} {Q : Option Value → pmS → Prop} {a : xA} {b : xB} {t : Int → Int} {n p : Int} (hC : tR a t n p) (hp : 0 ≤ p ∧ p ≤ n) (hn : n ≤ 40) (hb : tB t) (hA : xAr a) {w o q x : Int} (h_x : xR x) (hw : a 87 14 = w) (ho : a 87 15 = o) (hq : a 87 13 = q) (hw0 : 0 ≤ w ∧ w ≤ 40) (ho0 : 0 ≤ o ∧ o ≤ 40) (hq0 : 0 ≤ q ∧ q ≤ 40) (hx : a 94 (w - 1) = x) (hd : 1 ≤ d)
    (k1 : (w = 0) → Q none (xS a b))
    (k2 : (¬ w = 0) → (¬ x = 7) → Q none (xS a b))
    (k3 : (¬ w = 0) → (¬ ¬ x = 7) → pmWp ro d 12 162 0 0 [some (.ref 87)] [] (xS (xU (xU (xU (xU a 95 o (256 * 7 + 16 * 0 + 0)) 87 15 (o + 1)) 87 14 (w - 1)) 87 13 (q - 1)) b) Q) :
    pmWp ro d 12 162 0 0 [some (.ref 87)] [] (xS a b) Q := by
  refine x_aloadn xc162_0 rfl ?_
  refine x_cV (as := []) (rest := []) xc162_1 rfl xi163 xz87 ⟨rfl, rfl⟩ rfl rfl ?_
  refine xk163 h_x hw (by omega) hx (by omega) (fun h0 => ?_) (fun h1 => ?_)
  · refine x_bipush xc162_4 (by decide) ?_
    refine x_icne xc162_6 (xRk (by decide)) (xRk (by decide)) (fun _ => ?_) (fun h => absurd h (by omega))
    refine x_ret xc162_40 rfl ?_
    exact k1 h0
  · refine x_bipush xc162_4 (by decide) ?_
    refine x_icne xc162_6 (xRk (by have g0 := xRb h_x; omega)) (xRk (by decide)) (fun h3 => ?_) (fun h3 => ?_)
    · refine x_ret xc162_40 rfl ?_
      exact k2 h1 h3
    · refine x_aloadn xc162_9 rfl ?_
      refine x_bipush xc162_10 (by decide) ?_
      refine x_iconst xc162_12 ?_
      refine x_iconst xc162_13 ?_
      refine x_cV (as := [xV 7, xV 0, xV 0]) (rest := []) xc162_14 rfl xi161 xz87 ⟨rfl, rfl⟩ rfl rfl ?_
      refine xk161 (xRk (by decide)) (xRk (by decide)) (xRk (by decide)) ho (by omega) (by omega) (by omega) ?_
      refine x_aloadn xc162_17 rfl ?_
      refine x_aloadn xc162_18 rfl ?_
      refine x_gfi' (k := 14) (v := w) xc162_19 rfl (Or.inl rfl) rfl xz87 (by rw [xUk (by decide), xUn (by decide), hw]) ?_
      refine x_iconst xc162_22 ?_
      refine x_isub xc162_23 ?_
      refine x_pfi (k := 14) xc162_24 rfl ⟨rfl, rfl⟩ rfl xz87 ?_
      refine x_aloadn xc162_27 rfl ?_
      refine x_aloadn xc162_28 rfl ?_
      refine x_gfi' (k := 13) (v := q) xc162_29 rfl (Or.inl rfl) rfl xz87 (by rw [xUk (by decide), xUk (by decide), xUn (by decide), hq]) ?_
      refine x_iconst xc162_32 ?_
      refine x_isub xc162_33 ?_
      refine x_pfi (k := 13) xc162_34 rfl ⟨rfl, rfl⟩ rfl xz87 ?_
      refine x_goto xc162_37 ?_
      exact k3 h1 h3

theorem wOpB : ∀ S : List Int, 0 ≤ wOp S ∧ wOp S ≤ (S.length : Int)
  | [] => ⟨by decide, by decide⟩
  | x :: S => by
    have h := wOpB S
    show 0 ≤ wOp S + (if x = 7 ∨ x = 8 then 1 else 0) ∧ wOp S + (if x = 7 ∨ x = 8 then 1 else 0) ≤ ((S.length + 1 : Nat) : Int)
    split <;> omega
theorem wPopN_len : ∀ S o : List Int, (wPopN S o).1.length + (wPopN S o).2.length = S.length + o.length
  | [], o => rfl
  | x :: S, o => by
    unfold wPopN
    split
    · rw [wPopN_len S _, List.length_append]
      show S.length + (o.length + 1) = S.length + 1 + o.length
      omega
    · rfl
theorem wPopJ_len (al : Bool) : ∀ S o : List Int, (wPopJ al S o).1.length + (wPopJ al S o).2.length = S.length + o.length
  | [], o => rfl
  | x :: S, o => by
    unfold wPopJ
    split
    · rw [wPopJ_len al S _, List.length_append]
      show S.length + (o.length + 1) = S.length + 1 + o.length
      omega
    · split
      · rw [wPopJ_len al S _, List.length_append]
        show S.length + (o.length + 1) = S.length + 1 + o.length
        omega
      · rfl
section
variable {ro : Nat → Nat × (Nat → Int32)} {d : Nat} {Q : Option Value → pmS → Prop} {a0 : xA} {b : xB} {t : Int → Int} {n p : Int}
theorem yl162 (hp : 0 ≤ p ∧ p ≤ n) (hn : n ≤ 40) (hb : tB t) (hd : 1 ≤ d) : ∀ (S out : List Int) (a : xA), rW a0 a t n p S out → (S.length : Int) + (out.length : Int) ≤ p → (∀ a1, rW a0 a1 t n p (wPopN S out).1 (wPopN S out).2 → Q none (xS a1 b)) → pmWp ro d 12 162 0 0 [some (.ref 87)] [] (xS a b) Q := by
  intro S
  induction S with
  | nil =>
    intro out a h hl hQ
    have hl' : (([] : List Int).length : Int) = 0 := rfl
    refine w162 h.1 hp hn hb h.2.1 (h.2.1 94 (0 - 1)) h.2.2.1 h.2.2.2.2.1 h.2.2.2.2.2.2.1 ⟨by omega, by omega⟩ ⟨by omega, by omega⟩ ⟨by decide, by decide⟩ rfl hd ?_ ?_ ?_
    · intro _
      exact hQ a h
    · intro e
      exact absurd rfl e
    · intro e
      exact absurd rfl e
  | cons x S ih =>
    intro out a h hl hQ
    have hl' : (((x :: S).length : Nat) : Int) = (S.length : Int) + 1 := rfl
    have hB := wOpB (x :: S)
    have hx := h.2.2.2.2.2.2.2.1 x List.mem_cons_self
    refine w162 h.1 hp hn hb h.2.1 ⟨by omega, by omega⟩ h.2.2.1 h.2.2.2.2.1 h.2.2.2.2.2.2.1 ⟨by omega, by omega⟩ ⟨by omega, by omega⟩ ⟨by omega, by omega⟩ (h.top rfl) hd ?_ ?_ ?_
    · intro e
      omega
    · intro _ e
      have e2 : wPopN (x :: S) out = (x :: S, out) := if_neg e
      rw [e2] at hQ
      exact hQ a h
    · intro _ e
      obtain rfl : x = 7 := by omega
      refine ih (out ++ [1792]) _ (h.not rfl rfl rfl (by decide) ⟨by omega, by omega⟩ ⟨by omega, by omega⟩ ⟨by omega, by omega⟩) ?_ ?_
      · rw [List.length_append]
        show (S.length : Int) + ((out.length + 1 : Nat) : Int) ≤ p
        omega
      · have e2 : wPopN (7 :: S) out = wPopN S (out ++ [1792]) := if_pos rfl
        rw [e2] at hQ
        exact hQ
theorem yk162 {a : xA} {S out : List Int} (hp : 0 ≤ p ∧ p ≤ n) (hn : n ≤ 40) (hb : tB t) (h : rW a0 a t n p S out) (hl : (S.length : Int) + (out.length : Int) ≤ p) (hd : 2 ≤ d) (hQ : ∀ a1, rW a0 a1 t n p (wPopN S out).1 (wPopN S out).2 → Q none (xS a1 b)) : pmCs ro d 162 [.ref 87] (xS a b) Q :=
  pmCs_deep (d := 2) (xg162 (yl162 hp hn hb (by decide) S out a h hl hQ)) hd
end
theorem xg165 {ro : Nat → Nat × (Nat → Int32)} {d : Nat} {Q : Option Value → pmS → Prop} {a : xA} {b : xB} {al : Int} (h : pmWp ro d 12 165 0 0 [some (.ref 87), some (xV al)] [] (xS a b) Q) : pmCs ro (d + 1) 165 [.ref 87, xV al] (xS a b) Q := x_go xi165 rfl rfl rfl rfl rfl h
theorem w165 {ro : Nat → Nat × (Nat → Int32)} {d : Nat} {Q : Option Value → pmS → Prop} {a : xA} {b : xB} {t : Int → Int} {n p : Int} (hC : tR a t n p) (hp : 0 ≤ p ∧ p ≤ n) (hn : n ≤ 40) (hb : tB t) (hA : xAr a) {w o q x : Int} (h_x : xR x) (hw : a 87 14 = w) (ho : a 87 15 = o) (hq : a 87 13 = q) (hw0 : 0 ≤ w ∧ w ≤ 40) (ho0 : 0 ≤ o ∧ o ≤ 40) (hq0 : 0 ≤ q ∧ q ≤ 40) (hx : a 94 (w - 1) = x) {al : Int} (h_al : xR al) (hd : 1 ≤ d)
    (k1 : xK ((w = 0) → (al = 0) → Q none (xS a b)))
    (k2 : xK ((w = 0) → (¬ al = 0) → (w = 0) → Q none (xS a b)))
    (k3 : xK ((w = 0) → (¬ al = 0) → (¬ w = 0) → (¬ x = 6) → Q none (xS a b)))
    (k4 : xK ((w = 0) → (¬ al = 0) → (¬ w = 0) → (¬ ¬ x = 6) → (w = 0) → pmWp ro d 12 165 0 0 [some (.ref 87), some (xV al)] [] (xS (xU (xU (xU a 95 o (256 * (-1) + 16 * 0 + 0)) 87 15 (o + 1)) 87 14 (w - 1)) b) Q))
    (k5 : xK ((w = 0) → (¬ al = 0) → (¬ w = 0) → (¬ ¬ x = 6) → (¬ w = 0) → pmWp ro d 12 165 0 0 [some (.ref 87), some (xV al)] [] (xS (xU (xU (xU a 95 o (256 * x + 16 * 0 + 0)) 87 15 (o + 1)) 87 14 (w - 1)) b) Q))
    (k6 : xK ((¬ w = 0) → (x = 5) → (w = 0) → pmWp ro d 12 165 0 0 [some (.ref 87), some (xV al)] [] (xS (xU (xU (xU a 95 o (256 * (-1) + 16 * 0 + 0)) 87 15 (o + 1)) 87 14 (w - 1)) b) Q))
    (k7 : xK ((¬ w = 0) → (x = 5) → (¬ w = 0) → pmWp ro d 12 165 0 0 [some (.ref 87), some (xV al)] [] (xS (xU (xU (xU a 95 o (256 * x + 16 * 0 + 0)) 87 15 (o + 1)) 87 14 (w - 1)) b) Q))
    (k8 : xK ((¬ w = 0) → (¬ x = 5) → (al = 0) → Q none (xS a b)))
    (k9 : xK ((¬ w = 0) → (¬ x = 5) → (¬ al = 0) → (w = 0) → Q none (xS a b)))
    (k10 : xK ((¬ w = 0) → (¬ x = 5) → (¬ al = 0) → (¬ w = 0) → (¬ x = 6) → Q none (xS a b)))
    (k11 : xK ((¬ w = 0) → (¬ x = 5) → (¬ al = 0) → (¬ w = 0) → (¬ ¬ x = 6) → (w = 0) → pmWp ro d 12 165 0 0 [some (.ref 87), some (xV al)] [] (xS (xU (xU (xU a 95 o (256 * (-1) + 16 * 0 + 0)) 87 15 (o + 1)) 87 14 (w - 1)) b) Q))
    (k12 : xK ((¬ w = 0) → (¬ x = 5) → (¬ al = 0) → (¬ w = 0) → (¬ ¬ x = 6) → (¬ w = 0) → pmWp ro d 12 165 0 0 [some (.ref 87), some (xV al)] [] (xS (xU (xU (xU a 95 o (256 * x + 16 * 0 + 0)) 87 15 (o + 1)) 87 14 (w - 1)) b) Q)) :
    pmWp ro d 12 165 0 0 [some (.ref 87), some (xV al)] [] (xS a b) Q := by
  refine x_aloadn xc165_0 rfl ?_
  refine x_cV (as := []) (rest := []) xc165_1 rfl xi163 xz87 ⟨rfl, rfl⟩ rfl rfl ?_
  refine xk163 h_x hw (by omega) hx (by omega) (fun h0 => ?_) (fun h1 => ?_)
  · refine x_iconst xc165_4 ?_
    refine x_iceq xc165_5 (xRk (by decide)) (xRk (by decide)) (fun h => absurd h (by omega)) (fun _ => ?_)
    refine x_iloadn xc165_8 rfl ?_
    refine x_ifeq xc165_9 (xRk (by have g0 := xRb h_al; omega)) (fun h3 => ?_) (fun h3 => ?_)
    · refine x_ret xc165_44 rfl ?_
      exact k1 h0 h3
    · refine x_aloadn xc165_12 rfl ?_
      refine x_cV (as := []) (rest := []) xc165_13 rfl xi163 xz87 ⟨rfl, rfl⟩ rfl rfl ?_
      refine xk163 h_x hw (by omega) hx (by omega) (fun h4 => ?_) (fun h5 => ?_)
      · refine x_bipush xc165_16 (by decide) ?_
        refine x_icne xc165_18 (xRk (by decide)) (xRk (by decide)) (fun _ => ?_) (fun h => absurd h (by omega))
        refine x_ret xc165_44 rfl ?_
        exact k2 h0 h3 h4
      · refine x_bipush xc165_16 (by decide) ?_
        refine x_icne xc165_18 (xRk (by have g0 := xRb h_x; omega)) (xRk (by decide)) (fun h7 => ?_) (fun h7 => ?_)
        · refine x_ret xc165_44 rfl ?_
          exact k3 h0 h3 h5 h7
        · refine x_aloadn xc165_21 rfl ?_
          refine x_aloadn xc165_22 rfl ?_
          refine x_cV (as := []) (rest := [.ref 87]) xc165_23 rfl xi163 xz87 ⟨rfl, rfl⟩ rfl rfl ?_
          refine xk163 h_x hw (by omega) hx (by omega) (fun h8 => ?_) (fun h9 => ?_)
          · refine x_iconst xc165_26 ?_
            refine x_iconst xc165_27 ?_
            refine x_cV (as := [xV (-1), xV 0, xV 0]) (rest := []) xc165_28 rfl xi161 xz87 ⟨rfl, rfl⟩ rfl rfl ?_
            refine xk161 (xRk (by decide)) (xRk (by decide)) (xRk (by decide)) ho (by omega) (by omega) (by omega) ?_
            refine x_aloadn xc165_31 rfl ?_
            refine x_aloadn xc165_32 rfl ?_
            refine x_gfi' (k := 14) (v := w) xc165_33 rfl (Or.inl rfl) rfl xz87 (by rw [xUk (by decide), xUn (by decide), hw]) ?_
            refine x_iconst xc165_36 ?_
            refine x_isub xc165_37 ?_
            refine x_pfi (k := 14) xc165_38 rfl ⟨rfl, rfl⟩ rfl xz87 ?_
            refine x_goto xc165_41 ?_
            exact k4 h0 h3 h5 h7 h8
          · refine x_iconst xc165_26 ?_
            refine x_iconst xc165_27 ?_
            refine x_cV (as := [xV x, xV 0, xV 0]) (rest := []) xc165_28 rfl xi161 xz87 ⟨rfl, rfl⟩ rfl rfl ?_
            refine xk161 (xRk (by have g0 := xRb h_x; omega)) (xRk (by decide)) (xRk (by decide)) ho (by omega) (by omega) (by omega) ?_
            refine x_aloadn xc165_31 rfl ?_
            refine x_aloadn xc165_32 rfl ?_
            refine x_gfi' (k := 14) (v := w) xc165_33 rfl (Or.inl rfl) rfl xz87 (by rw [xUk (by decide), xUn (by decide), hw]) ?_
            refine x_iconst xc165_36 ?_
            refine x_isub xc165_37 ?_
            refine x_pfi (k := 14) xc165_38 rfl ⟨rfl, rfl⟩ rfl xz87 ?_
            refine x_goto xc165_41 ?_
            exact k5 h0 h3 h5 h7 h9
  · refine x_iconst xc165_4 ?_
    refine x_iceq xc165_5 (xRk (by have g0 := xRb h_x; omega)) (xRk (by decide)) (fun h10 => ?_) (fun h10 => ?_)
    · refine x_aloadn xc165_21 rfl ?_
      refine x_aloadn xc165_22 rfl ?_
      refine x_cV (as := []) (rest := [.ref 87]) xc165_23 rfl xi163 xz87 ⟨rfl, rfl⟩ rfl rfl ?_
      refine xk163 h_x hw (by omega) hx (by omega) (fun h11 => ?_) (fun h12 => ?_)
      · refine x_iconst xc165_26 ?_
        refine x_iconst xc165_27 ?_
        refine x_cV (as := [xV (-1), xV 0, xV 0]) (rest := []) xc165_28 rfl xi161 xz87 ⟨rfl, rfl⟩ rfl rfl ?_
        refine xk161 (xRk (by decide)) (xRk (by decide)) (xRk (by decide)) ho (by omega) (by omega) (by omega) ?_
        refine x_aloadn xc165_31 rfl ?_
        refine x_aloadn xc165_32 rfl ?_
        refine x_gfi' (k := 14) (v := w) xc165_33 rfl (Or.inl rfl) rfl xz87 (by rw [xUk (by decide), xUn (by decide), hw]) ?_
        refine x_iconst xc165_36 ?_
        refine x_isub xc165_37 ?_
        refine x_pfi (k := 14) xc165_38 rfl ⟨rfl, rfl⟩ rfl xz87 ?_
        refine x_goto xc165_41 ?_
        exact k6 h1 h10 h11
      · refine x_iconst xc165_26 ?_
        refine x_iconst xc165_27 ?_
        refine x_cV (as := [xV x, xV 0, xV 0]) (rest := []) xc165_28 rfl xi161 xz87 ⟨rfl, rfl⟩ rfl rfl ?_
        refine xk161 (xRk (by have g0 := xRb h_x; omega)) (xRk (by decide)) (xRk (by decide)) ho (by omega) (by omega) (by omega) ?_
        refine x_aloadn xc165_31 rfl ?_
        refine x_aloadn xc165_32 rfl ?_
        refine x_gfi' (k := 14) (v := w) xc165_33 rfl (Or.inl rfl) rfl xz87 (by rw [xUk (by decide), xUn (by decide), hw]) ?_
        refine x_iconst xc165_36 ?_
        refine x_isub xc165_37 ?_
        refine x_pfi (k := 14) xc165_38 rfl ⟨rfl, rfl⟩ rfl xz87 ?_
        refine x_goto xc165_41 ?_
        exact k7 h1 h10 h12
    · refine x_iloadn xc165_8 rfl ?_
      refine x_ifeq xc165_9 (xRk (by have g0 := xRb h_al; omega)) (fun h13 => ?_) (fun h13 => ?_)
      · refine x_ret xc165_44 rfl ?_
        exact k8 h1 h10 h13
      · refine x_aloadn xc165_12 rfl ?_
        refine x_cV (as := []) (rest := []) xc165_13 rfl xi163 xz87 ⟨rfl, rfl⟩ rfl rfl ?_
        refine xk163 h_x hw (by omega) hx (by omega) (fun h14 => ?_) (fun h15 => ?_)
        · refine x_bipush xc165_16 (by decide) ?_
          refine x_icne xc165_18 (xRk (by decide)) (xRk (by decide)) (fun _ => ?_) (fun h => absurd h (by omega))
          refine x_ret xc165_44 rfl ?_
          exact k9 h1 h10 h13 h14
        · refine x_bipush xc165_16 (by decide) ?_
          refine x_icne xc165_18 (xRk (by have g0 := xRb h_x; omega)) (xRk (by decide)) (fun h17 => ?_) (fun h17 => ?_)
          · refine x_ret xc165_44 rfl ?_
            exact k10 h1 h10 h13 h15 h17
          · refine x_aloadn xc165_21 rfl ?_
            refine x_aloadn xc165_22 rfl ?_
            refine x_cV (as := []) (rest := [.ref 87]) xc165_23 rfl xi163 xz87 ⟨rfl, rfl⟩ rfl rfl ?_
            refine xk163 h_x hw (by omega) hx (by omega) (fun h18 => ?_) (fun h19 => ?_)
            · refine x_iconst xc165_26 ?_
              refine x_iconst xc165_27 ?_
              refine x_cV (as := [xV (-1), xV 0, xV 0]) (rest := []) xc165_28 rfl xi161 xz87 ⟨rfl, rfl⟩ rfl rfl ?_
              refine xk161 (xRk (by decide)) (xRk (by decide)) (xRk (by decide)) ho (by omega) (by omega) (by omega) ?_
              refine x_aloadn xc165_31 rfl ?_
              refine x_aloadn xc165_32 rfl ?_
              refine x_gfi' (k := 14) (v := w) xc165_33 rfl (Or.inl rfl) rfl xz87 (by rw [xUk (by decide), xUn (by decide), hw]) ?_
              refine x_iconst xc165_36 ?_
              refine x_isub xc165_37 ?_
              refine x_pfi (k := 14) xc165_38 rfl ⟨rfl, rfl⟩ rfl xz87 ?_
              refine x_goto xc165_41 ?_
              exact k11 h1 h10 h13 h15 h17 h18
            · refine x_iconst xc165_26 ?_
              refine x_iconst xc165_27 ?_
              refine x_cV (as := [xV x, xV 0, xV 0]) (rest := []) xc165_28 rfl xi161 xz87 ⟨rfl, rfl⟩ rfl rfl ?_
              refine xk161 (xRk (by have g0 := xRb h_x; omega)) (xRk (by decide)) (xRk (by decide)) ho (by omega) (by omega) (by omega) ?_
              refine x_aloadn xc165_31 rfl ?_
              refine x_aloadn xc165_32 rfl ?_
              refine x_gfi' (k := 14) (v := w) xc165_33 rfl (Or.inl rfl) rfl xz87 (by rw [xUk (by decide), xUn (by decide), hw]) ?_
              refine x_iconst xc165_36 ?_
              refine x_isub xc165_37 ?_
              refine x_pfi (k := 14) xc165_38 rfl ⟨rfl, rfl⟩ rfl xz87 ?_
              refine x_goto xc165_41 ?_
              exact k12 h1 h10 h13 h15 h17 h19

section
variable {ro : Nat → Nat × (Nat → Int32)} {d : Nat} {Q : Option Value → pmS → Prop} {a0 : xA} {b : xB} {t : Int → Int} {n p : Int}
theorem yl165 {al : Int} {fl : Bool} (hal : al = 0 ∧ fl = false ∨ al = 1 ∧ fl = true) (hp : 0 ≤ p ∧ p ≤ n) (hn : n ≤ 40) (hb : tB t) (hd : 1 ≤ d) : ∀ (S out : List Int) (a : xA), rW a0 a t n p S out → (S.length : Int) + (out.length : Int) ≤ p → (∀ a1, rW a0 a1 t n p (wPopJ fl S out).1 (wPopJ fl S out).2 → Q none (xS a1 b)) → pmWp ro d 12 165 0 0 [some (.ref 87), some (xV al)] [] (xS a b) Q := by
  have hal2 : xR al := ⟨by omega, by omega⟩
  have hf0 : al = 0 → fl = false := fun e => by
    rcases hal with h | h
    · exact h.2
    · omega
  have hf1 : ¬ al = 0 → fl = true := fun e => by
    rcases hal with h | h
    · exact absurd h.1 e
    · exact h.2
  intro S
  induction S with
  | nil =>
    intro out a h hl hQ
    have hl' : (([] : List Int).length : Int) = 0 := rfl
    refine w165 h.1 hp hn hb h.2.1 (h.2.1 94 (0 - 1)) h.2.2.1 h.2.2.2.2.1 h.2.2.2.2.2.2.1 ⟨by omega, by omega⟩ ⟨by omega, by omega⟩ ⟨by decide, by decide⟩ rfl hal2 hd ?_ ?_ ?_ ?_ ?_ ?_ ?_ ?_ ?_ ?_ ?_ ?_
    all_goals ((try unfold xK); intros; first | exact hQ a h | (exfalso; omega))
  | cons x S ih =>
    intro out a h hl hQ
    have hl' : (((x :: S).length : Nat) : Int) = (S.length : Int) + 1 := rfl
    have hB := wOpB (x :: S)
    have hx := h.2.2.2.2.2.2.2.1 x List.mem_cons_self
    have ho2 : ∀ c : Int, (S.length : Int) + ((out ++ [c]).length : Int) ≤ p := fun c => by
      rw [List.length_append]
      show (S.length : Int) + ((out.length + 1 : Nat) : Int) ≤ p
      omega
    refine w165 h.1 hp hn hb h.2.1 ⟨by omega, by omega⟩ h.2.2.1 h.2.2.2.2.1 h.2.2.2.2.2.2.1 ⟨by omega, by omega⟩ ⟨by omega, by omega⟩ ⟨by omega, by omega⟩ (h.top rfl) hal2 hd ?_ ?_ ?_ ?_ ?_ ?_ ?_ ?_ ?_ ?_ ?_ ?_
    all_goals (
      (try unfold xK)
      intros
      first
        | (exfalso; omega)
        | (have e5 : x = 5 := by omega
           have e2 : wPopJ fl (x :: S) out = wPopJ fl S (out ++ [1280]) := if_pos e5
           rw [e2] at hQ
           exact ih (out ++ [1280]) _ (h.join (Or.inl e5) rfl rfl (by omega) ⟨by omega, by omega⟩ ⟨by omega, by omega⟩ ⟨by omega, by omega⟩) (ho2 _) hQ)
        | (have e6 : x = 6 := by omega
           have e2 : wPopJ fl (x :: S) out = wPopJ fl S (out ++ [1536]) := (if_neg (by omega)).trans (if_pos ⟨hf1 (by assumption), e6⟩)
           rw [e2] at hQ
           exact ih (out ++ [1536]) _ (h.join (Or.inr e6) rfl rfl (by omega) ⟨by omega, by omega⟩ ⟨by omega, by omega⟩ ⟨by omega, by omega⟩) (ho2 _) hQ)
        | (have e2 : wPopJ fl (x :: S) out = (x :: S, out) := (if_neg (by omega)).trans (if_neg (fun e => by
             first
               | omega
               | (have := hf0 (by assumption)
                  rw [this] at e
                  cases e.1)))
           rw [e2] at hQ
           exact hQ a h))
theorem yk165 {a : xA} {S out : List Int} {al : Int} {fl : Bool} (hal : al = 0 ∧ fl = false ∨ al = 1 ∧ fl = true) (hp : 0 ≤ p ∧ p ≤ n) (hn : n ≤ 40) (hb : tB t) (h : rW a0 a t n p S out) (hl : (S.length : Int) + (out.length : Int) ≤ p) (hd : 2 ≤ d) (hQ : ∀ a1, rW a0 a1 t n p (wPopJ fl S out).1 (wPopJ fl S out).2 → Q none (xS a1 b)) : pmCs ro d 165 [.ref 87, xV al] (xS a b) Q :=
  pmCs_deep (d := 2) (xg165 (yl165 hal hp hn hb (by decide) S out a h hl hQ)) hd
end
theorem xg164 {ro : Nat → Nat × (Nat → Int32)} {d : Nat} {Q : Option Value → pmS → Prop} {a : xA} {b : xB} (h : pmWp ro d 12 164 2 0 [some (.ref 87), none] [] (xS a b) Q) : pmCs ro (d + 1) 164 [.ref 87] (xS a b) Q := x_go xi164 rfl rfl rfl rfl rfl h
theorem w164 {ro : Nat → Nat × (Nat → Int32)} {d : Nat} {Q : Option Value → pmS → Prop} {a : xA} {b : xB} {t : Int → Int} {n p : Int} (hC : tR a t n p) (hp : 0 ≤ p ∧ p ≤ n) (hn : n ≤ 40) (hb : tB t) (hA : xAr a) {w o q x : Int} (h_x : xR x) (hw : a 87 14 = w) (ho : a 87 15 = o) (hq : a 87 13 = q) (hw0 : 0 ≤ w ∧ w ≤ 40) (ho0 : 0 ≤ o ∧ o ≤ 40) (hq0 : 0 ≤ q ∧ q ≤ 40) (hx : a 94 (w - 1) = x)
    (k1 : pmWp ro d 12 164 2 2 [some (.ref 87), some (xV 0)] [] (xS a b) Q) :
    pmWp ro d 12 164 2 0 [some (.ref 87), none] [] (xS a b) Q := by
  refine x_iconst xc164_0 ?_
  refine x_istoren (pl' := [some (.ref 87), some (xV 0)]) xc164_1 rfl rfl ?_
  exact k1

theorem w164l {ro : Nat → Nat × (Nat → Int32)} {d : Nat} {Q : Option Value → pmS → Prop} {a : xA} {b : xB} {t : Int → Int} {n p : Int} (hC : tR a t n p) (hp : 0 ≤ p ∧ p ≤ n) (hn : n ≤ 40) (hb : tB t) (hA : xAr a) {w o q x : Int} (h_x : xR x) (hw : a 87 14 = w) (ho : a 87 15 = o) (hq : a 87 13 = q) (hw0 : 0 ≤ w ∧ w ≤ 40) (ho0 : 0 ≤ o ∧ o ≤ 40) (hq0 : 0 ≤ q ∧ q ≤ 40) (hx : a 94 (w - 1) = x) {i y : Int} (h_y : xR y) (hi : 0 ≤ i ∧ i ≤ 40) (hy : a 94 i = y)
    (k1 : (w ≤ i) → Q (some (xV 0)) (xS a b))
    (k2 : (¬ w ≤ i) → (¬ y = 8) → pmWp ro d 12 164 2 2 [some (.ref 87), some (xV (i + 1))] [] (xS a b) Q)
    (k3 : (¬ w ≤ i) → (¬ ¬ y = 8) → Q (some (xV 1)) (xS a b)) :
    pmWp ro d 12 164 2 2 [some (.ref 87), some (xV i)] [] (xS a b) Q := by
  refine x_iloadn xc164_2 rfl ?_
  refine x_aloadn xc164_3 rfl ?_
  refine x_gfi' (k := 14) (v := w) xc164_4 rfl (Or.inl rfl) rfl xz87 hw ?_
  refine x_icge xc164_7 (xRk (by omega)) (xRk (by omega)) (fun h0 => ?_) (fun h0 => ?_)
  · refine x_iconst xc164_29 ?_
    refine x_iret xc164_30 (Or.inr ⟨rfl, (by omega)⟩) ?_
    exact k1 h0
  · refine x_aloadn xc164_10 rfl ?_
    refine x_gfr xc164_11 rfl rfl xz87 rfl ?_
    refine x_iloadn xc164_14 rfl ?_
    refine x_ial' (v := y) xc164_15 xz94 rfl (by omega) (by omega) (by omega) hy ?_
    refine x_bipush xc164_16 (by decide) ?_
    refine x_icne xc164_18 (xRk (by have g0 := xRb h_y; omega)) (xRk (by decide)) (fun h1 => ?_) (fun h1 => ?_)
    · refine x_iinc (pl' := [some (.ref 87), some (xV (i + 1))]) xc164_23 rfl rfl ?_
      refine x_goto xc164_26 ?_
      exact k2 h0 h1
    · refine x_iconst xc164_21 ?_
      refine x_iret xc164_22 (Or.inr ⟨rfl, (by omega)⟩) ?_
      exact k3 h0 h1

section
variable {ro : Nat → Nat × (Nat → Int32)} {d : Nat} {Q : Option Value → pmS → Prop} {a0 : xA} {b : xB} {t : Int → Int} {n p : Int}
theorem yl164 {a : xA} {S out : List Int} (hp : 0 ≤ p ∧ p ≤ n) (hn : n ≤ 40) (hb : tB t) (h : rW a0 a t n p S out) (hl : (S.length : Int) + (out.length : Int) ≤ p) (h1 : (8 : Int) ∈ S → Q (some (xV 1)) (xS a b)) (h0 : ¬ (8 : Int) ∈ S → Q (some (xV 0)) (xS a b)) : ∀ (k : Nat) (i : Int), (S.length : Int) - i ≤ (k : Int) → 0 ≤ i ∧ i ≤ (S.length : Int) → (∀ j : Nat, (j : Int) < i → ¬ S.reverse[j]? = some 8) → pmWp ro d 12 164 2 2 [some (.ref 87), some (xV i)] [] (xS a b) Q := by
  have hB := wOpB S
  intro k
  induction k with
  | zero =>
    intro i hk hi hj
    refine w164l h.1 hp hn hb h.2.1 (h.2.1 94 ((S.length : Int) - 1)) h.2.2.1 h.2.2.2.2.1 h.2.2.2.2.2.2.1 ⟨by omega, by omega⟩ ⟨by omega, by omega⟩ ⟨by omega, by omega⟩ rfl (h.2.1 94 i) ⟨by omega, by omega⟩ rfl ?_ ?_ ?_
    · intro e
      refine h0 (fun hm => ?_)
      obtain ⟨j, g⟩ := List.mem_iff_getElem?.mp (List.mem_reverse.mpr hm)
      have := (List.getElem?_eq_some_iff.mp g).1
      rw [List.length_reverse] at this
      exact hj j (by omega) g
    · intro e
      omega
    · intro e
      omega
  | succ k ih =>
    intro i hk hi hj
    have hs : ∀ j : Nat, (j : Int) < (S.length : Int) → S.reverse[j]? = some (a 94 (j : Int)) := by
      intro j g
      have g2 : j < S.reverse.length := by
        rw [List.length_reverse]
        omega
      rw [h.2.2.2.1 j _ (List.getElem?_eq_getElem g2)]
      exact List.getElem?_eq_getElem g2
    refine w164l h.1 hp hn hb h.2.1 (h.2.1 94 ((S.length : Int) - 1)) h.2.2.1 h.2.2.2.2.1 h.2.2.2.2.2.2.1 ⟨by omega, by omega⟩ ⟨by omega, by omega⟩ ⟨by omega, by omega⟩ rfl (h.2.1 94 i) ⟨by omega, by omega⟩ rfl ?_ ?_ ?_
    · intro e
      refine h0 (fun hm => ?_)
      obtain ⟨j, g⟩ := List.mem_iff_getElem?.mp (List.mem_reverse.mpr hm)
      have := (List.getElem?_eq_some_iff.mp g).1
      rw [List.length_reverse] at this
      exact hj j (by omega) g
    · intro e e2
      refine ih (i + 1) (by omega) ⟨by omega, by omega⟩ (fun j g g2 => ?_)
      by_cases e3 : (j : Int) = i
      · rw [hs j (by omega), e3] at g2
        exact e2 (Option.some.inj g2)
      · exact hj j (by omega) g2
    · intro e e2
      refine h1 (List.mem_reverse.mp (List.mem_iff_getElem?.mpr ⟨i.toNat, ?_⟩))
      rw [hs i.toNat (by omega), show ((i.toNat : Nat) : Int) = i by omega]
      congr 1
      omega
theorem yk164 {a : xA} {S out : List Int} (hp : 0 ≤ p ∧ p ≤ n) (hn : n ≤ 40) (hb : tB t) (h : rW a0 a t n p S out) (hl : (S.length : Int) + (out.length : Int) ≤ p) (hd : 1 ≤ d) (h1 : (8 : Int) ∈ S → Q (some (xV 1)) (xS a b)) (h0 : ¬ (8 : Int) ∈ S → Q (some (xV 0)) (xS a b)) : pmCs ro d 164 [.ref 87] (xS a b) Q := by
  have hB := wOpB S
  refine pmCs_deep (d := 1) (xg164 (w164 h.1 hp hn hb h.2.1 (h.2.1 94 ((S.length : Int) - 1)) h.2.2.1 h.2.2.2.2.1 h.2.2.2.2.2.2.1 ⟨by omega, by omega⟩ ⟨by omega, by omega⟩ ⟨by omega, by omega⟩ rfl ?_)) hd
  exact yl164 hp hn hb h hl h1 h0 S.length 0 (by omega) ⟨by decide, by omega⟩ (fun j g => by omega)
end
theorem xg157 {ro : Nat → Nat × (Nat → Int32)} {d : Nat} {Q : Option Value → pmS → Prop} {a : xA} {b : xB} {k : Int} (h : pmWp ro d 12 157 2 0 [some (.ref 87), some (xV k)] [] (xS a b) Q) : pmCs ro (d + 1) 157 [.ref 87, xV k] (xS a b) Q := x_go xi157 rfl rfl rfl rfl rfl h
theorem w157 {ro : Nat → Nat × (Nat → Int32)} {d : Nat} {Q : Option Value → pmS → Prop} {a : xA} {b : xB} {t : Int → Int} {n p : Int} (hC : tR a t n p) (hp : 0 ≤ p ∧ p ≤ n) (hn : n ≤ 40) (hb : tB t) (hA : xAr a) {w o q x : Int} (h_x : xR x) (hw : a 87 14 = w) (ho : a 87 15 = o) (hq : a 87 13 = q) (hw0 : 0 ≤ w ∧ w ≤ 40) (ho0 : 0 ≤ o ∧ o ≤ 40) (hq0 : 0 ≤ q ∧ q ≤ 40) (hx : a 94 (w - 1) = x) {k : Int} (h_k : xR k) (hd : 1 ≤ d)
    (k1 : (¬ q = 6) → Q (some (xV 1)) (xS (xU (xU (xU (xU a 87 13 (q + 1)) 94 w k) 87 14 (w + 1)) 87 10 (p + 1)) b))
    (k2 : (¬ ¬ q = 6) → Q (some (xV 0)) (xS (xU a 87 12 (-1000 * 5 - p)) b)) :
    pmWp ro d 12 157 2 0 [some (.ref 87), some (xV k)] [] (xS a b) Q := by
  refine x_aloadn xc157_0 rfl ?_
  refine x_gfi' (k := 13) (v := q) xc157_1 rfl (Or.inl rfl) rfl xz87 hq ?_
  refine x_bipush xc157_4 (by decide) ?_
  refine x_icne xc157_6 (xRk (by omega)) (xRk (by decide)) (fun h0 => ?_) (fun h0 => ?_)
  · refine x_aloadn xc157_19 rfl ?_
    refine x_aloadn xc157_20 rfl ?_
    refine x_gfi' (k := 13) (v := q) xc157_21 rfl (Or.inl rfl) rfl xz87 hq ?_
    refine x_iconst xc157_24 ?_
    refine x_iadd xc157_25 ?_
    refine x_pfi (k := 13) xc157_26 rfl ⟨rfl, rfl⟩ rfl xz87 ?_
    refine x_aloadn xc157_29 rfl ?_
    refine x_gfr xc157_30 rfl rfl xz87 rfl ?_
    refine x_aloadn xc157_33 rfl ?_
    refine x_gfi' (k := 14) (v := w) xc157_34 rfl (Or.inl rfl) rfl xz87 (by rw [xUk (by decide), hw]) ?_
    refine x_iloadn xc157_37 rfl ?_
    refine x_ias xc157_38 xz94 (by omega) (by omega) (by omega) ?_
    refine x_aloadn xc157_39 rfl ?_
    refine x_aloadn xc157_40 rfl ?_
    refine x_gfi' (k := 14) (v := w) xc157_41 rfl (Or.inl rfl) rfl xz87 (by rw [xUn (by decide), xUk (by decide), hw]) ?_
    refine x_iconst xc157_44 ?_
    refine x_iadd xc157_45 ?_
    refine x_pfi (k := 14) xc157_46 rfl ⟨rfl, rfl⟩ rfl xz87 ?_
    refine x_aloadn xc157_49 rfl ?_
    refine x_aloadn xc157_50 rfl ?_
    refine x_gfi' (k := 10) (v := p) xc157_51 rfl (Or.inl rfl) rfl xz87 (by rw [xUk (by decide), xUn (by decide), xUk (by decide), hC.2.2]) ?_
    refine x_iconst xc157_54 ?_
    refine x_iadd xc157_55 ?_
    refine x_pfi (k := 10) xc157_56 rfl ⟨rfl, rfl⟩ rfl xz87 ?_
    refine x_iconst xc157_59 ?_
    refine x_iret xc157_60 (Or.inr ⟨rfl, (by omega)⟩) ?_
    exact k1 h0
  · refine x_aloadn xc157_9 rfl ?_
    refine x_iconst xc157_10 ?_
    refine x_aloadn xc157_11 rfl ?_
    refine x_gfi' (k := 10) (v := p) xc157_12 rfl (Or.inl rfl) rfl xz87 hC.2.2 ?_
    refine x_cV (as := [xV 5, xV p]) (rest := []) xc157_15 rfl xi158 xz87 ⟨rfl, rfl⟩ rfl rfl ?_
    refine xk158 (xRk (by decide)) (xRk (by omega)) (by omega) ?_
    refine x_iret xc157_18 (Or.inr ⟨rfl, (by omega)⟩) ?_
    exact k2 h0

theorem xk157 {ro : Nat → Nat × (Nat → Int32)} {d : Nat} {Q : Option Value → pmS → Prop} {a : xA} {b : xB} {t : Int → Int} {n p : Int} (hC : tR a t n p) (hp : 0 ≤ p ∧ p ≤ n) (hn : n ≤ 40) (hb : tB t) (hA : xAr a) {w o q x : Int} (h_x : xR x) (hw : a 87 14 = w) (ho : a 87 15 = o) (hq : a 87 13 = q) (hw0 : 0 ≤ w ∧ w ≤ 40) (ho0 : 0 ≤ o ∧ o ≤ 40) (hq0 : 0 ≤ q ∧ q ≤ 40) (hx : a 94 (w - 1) = x) {k : Int} (h_k : xR k) (hd : 2 ≤ d) (h6 : q = 6 → Q (some (xV 0)) (xS (xU a 87 12 (-1000 * 5 - p)) b)) (h0 : ¬ q = 6 → Q (some (xV 1)) (xS (xU (xU (xU (xU a 87 13 (q + 1)) 94 w k) 87 14 (w + 1)) 87 10 (p + 1)) b)) : pmCs ro d 157 [.ref 87, xV k] (xS a b) Q := pmCs_deep (d := 2) (xg157 (w157 hC hp hn hb hA h_x hw ho hq hw0 ho0 hq0 hx h_k (by decide) (fun e => h0 (by omega)) (fun e => h6 (by omega)))) hd
theorem xg159 {ro : Nat → Nat × (Nat → Int32)} {d : Nat} {Q : Option Value → pmS → Prop} {a : xA} {b : xB} (h : pmWp ro d 12 159 2 0 [some (.ref 87), none, none] [] (xS a b) Q) : pmCs ro (d + 1) 159 [.ref 87] (xS a b) Q := x_go xi159 rfl rfl rfl rfl rfl h
theorem w159 {ro : Nat → Nat × (Nat → Int32)} {d : Nat} {Q : Option Value → pmS → Prop} {a : xA} {b : xB} {t : Int → Int} {n p : Int} (hC : tR a t n p) (hp : 0 ≤ p ∧ p ≤ n) (hn : n ≤ 40) (hb : tB t) (hA : xAr a) {w o q x : Int} (h_x : xR x) (hw : a 87 14 = w) (ho : a 87 15 = o) (hq : a 87 13 = q) (hw0 : 0 ≤ w ∧ w ≤ 40) (ho0 : 0 ≤ o ∧ o ≤ 40) (hq0 : 0 ≤ q ∧ q ≤ 40) (hx : a 94 (w - 1) = x) (hd : 2 ≤ d)
    (k1 : xK ((sG t n p = -1 ∨ p < n) → (sG t n p = 104) → (sG t n (p + 1) < 48 ∨ 57 < sG t n (p + 1)) → Q (some (xV 0)) (xS (xU (xU a 87 10 (p + 1)) 87 12 (-1000 * 1 - (p + 1))) b)))
    (k2 : xK ((sG t n p = -1 ∨ p < n) → (sG t n p = 104) → (¬ (sG t n (p + 1) < 48 ∨ 57 < sG t n (p + 1))) → (4 < sG t n (p + 1) - 48) → Q (some (xV 0)) (xS (xU (xU (xU a 87 10 (p + 1)) 87 22 (sG t n (p + 1) - 48)) 87 12 (-1000 * 3 - (p + 1))) b)))
    (k3 : xK ((sG t n p = -1 ∨ p < n) → (sG t n p = 104) → (¬ (sG t n (p + 1) < 48 ∨ 57 < sG t n (p + 1))) → (¬ 4 < sG t n (p + 1) - 48) → (p + 1 < n) → pmCs ro d 162 [.ref 87] (xS (xU (xU (xU (xU (xU a 87 10 (p + 1)) 87 22 (sG t n (p + 1) - 48)) 87 10 (p + 1 + 1)) 95 o (256 * 0 + 16 * (sG t n (p + 1) - 48) + (sG t n (p + 1) - 48))) 87 15 (o + 1)) b) fun r σ' => pmWp ro d 12 159 2 184 [some (.ref 87), some (xV (sG t n p)), some (xV (sG t n (p + 1) - 48))] (r.toList ++ []) σ' Q))
    (k4 : xK ((sG t n p = -1 ∨ p < n) → (¬ sG t n p = 104) → (sG t n p = 105) → (sG t n (p + 1) < 48 ∨ 57 < sG t n (p + 1)) → Q (some (xV 0)) (xS (xU (xU a 87 10 (p + 1)) 87 12 (-1000 * 1 - (p + 1))) b)))
    (k5 : xK ((sG t n p = -1 ∨ p < n) → (¬ sG t n p = 104) → (sG t n p = 105) → (¬ (sG t n (p + 1) < 48 ∨ 57 < sG t n (p + 1))) → (6 < sG t n (p + 1) - 48) → Q (some (xV 0)) (xS (xU (xU (xU a 87 10 (p + 1)) 87 22 (sG t n (p + 1) - 48)) 87 12 (-1000 * 3 - (p + 1))) b)))
    (k6 : xK ((sG t n p = -1 ∨ p < n) → (¬ sG t n p = 104) → (sG t n p = 105) → (¬ (sG t n (p + 1) < 48 ∨ 57 < sG t n (p + 1))) → (¬ 6 < sG t n (p + 1) - 48) → (p + 1 < n) → pmCs ro d 162 [.ref 87] (xS (xU (xU (xU (xU (xU a 87 10 (p + 1)) 87 22 (sG t n (p + 1) - 48)) 87 10 (p + 1 + 1)) 95 o (256 * 1 + 16 * (sG t n (p + 1) - 48) + (sG t n (p + 1) - 48))) 87 15 (o + 1)) b) fun r σ' => pmWp ro d 12 159 2 184 [some (.ref 87), some (xV (sG t n p)), some (xV (sG t n (p + 1) - 48))] (r.toList ++ []) σ' Q))
    (k7 : xK ((sG t n p = -1 ∨ p < n) → (¬ sG t n p = 104) → (¬ sG t n p = 105) → (sG t n p = 100) → (sG t n (p + 1) < 48 ∨ 57 < sG t n (p + 1)) → Q (some (xV 0)) (xS (xU (xU a 87 10 (p + 1)) 87 12 (-1000 * 1 - (p + 1))) b)))
    (k8 : xK ((sG t n p = -1 ∨ p < n) → (¬ sG t n p = 104) → (¬ sG t n p = 105) → (sG t n p = 100) → (¬ (sG t n (p + 1) < 48 ∨ 57 < sG t n (p + 1))) → (3 < sG t n (p + 1) - 48) → Q (some (xV 0)) (xS (xU (xU (xU a 87 10 (p + 1)) 87 22 (sG t n (p + 1) - 48)) 87 12 (-1000 * 3 - (p + 1))) b)))
    (k9 : xK ((sG t n p = -1 ∨ p < n) → (¬ sG t n p = 104) → (¬ sG t n p = 105) → (sG t n p = 100) → (¬ (sG t n (p + 1) < 48 ∨ 57 < sG t n (p + 1))) → (¬ 3 < sG t n (p + 1) - 48) → (p + 1 < n) → pmCs ro d 162 [.ref 87] (xS (xU (xU (xU (xU (xU a 87 10 (p + 1)) 87 22 (sG t n (p + 1) - 48)) 87 10 (p + 1 + 1)) 95 o (256 * 2 + 16 * (sG t n (p + 1) - 48) + (sG t n (p + 1) - 48))) 87 15 (o + 1)) b) fun r σ' => pmWp ro d 12 159 2 184 [some (.ref 87), some (xV (sG t n p)), some (xV (sG t n (p + 1) - 48))] (r.toList ++ []) σ' Q))
    (k10 : xK ((sG t n p = -1 ∨ p < n) → (¬ sG t n p = 104) → (¬ sG t n p = 105) → (¬ sG t n p = 100) → (sG t n p = 108) → (sG t n (p + 1) < 48 ∨ 57 < sG t n (p + 1)) → Q (some (xV 0)) (xS (xU (xU a 87 10 (p + 1)) 87 12 (-1000 * 1 - (p + 1))) b)))
    (k11 : xK ((sG t n p = -1 ∨ p < n) → (¬ sG t n p = 104) → (¬ sG t n p = 105) → (¬ sG t n p = 100) → (sG t n p = 108) → (¬ (sG t n (p + 1) < 48 ∨ 57 < sG t n (p + 1))) → (4 < sG t n (p + 1) - 48) → Q (some (xV 0)) (xS (xU (xU (xU a 87 10 (p + 1)) 87 22 (sG t n (p + 1) - 48)) 87 12 (-1000 * 3 - (p + 1))) b)))
    (k12 : xK ((sG t n p = -1 ∨ p < n) → (¬ sG t n p = 104) → (¬ sG t n p = 105) → (¬ sG t n p = 100) → (sG t n p = 108) → (¬ (sG t n (p + 1) < 48 ∨ 57 < sG t n (p + 1))) → (¬ 4 < sG t n (p + 1) - 48) → (p + 1 < n) → (sG t n (p + 1 + 1) < 48 ∨ 57 < sG t n (p + 1 + 1)) → Q (some (xV 0)) (xS (xU (xU (xU (xU a 87 10 (p + 1)) 87 22 (sG t n (p + 1) - 48)) 87 10 (p + 1 + 1)) 87 12 (-1000 * 1 - (p + 1 + 1))) b)))
    (k13 : xK ((sG t n p = -1 ∨ p < n) → (¬ sG t n p = 104) → (¬ sG t n p = 105) → (¬ sG t n p = 100) → (sG t n p = 108) → (¬ (sG t n (p + 1) < 48 ∨ 57 < sG t n (p + 1))) → (¬ 4 < sG t n (p + 1) - 48) → (p + 1 < n) → (¬ (sG t n (p + 1 + 1) < 48 ∨ 57 < sG t n (p + 1 + 1))) → (6 < sG t n (p + 1 + 1) - 48) → Q (some (xV 0)) (xS (xU (xU (xU (xU (xU a 87 10 (p + 1)) 87 22 (sG t n (p + 1) - 48)) 87 10 (p + 1 + 1)) 87 22 (sG t n (p + 1 + 1) - 48)) 87 12 (-1000 * 3 - (p + 1 + 1))) b)))
    (k14 : xK ((sG t n p = -1 ∨ p < n) → (¬ sG t n p = 104) → (¬ sG t n p = 105) → (¬ sG t n p = 100) → (sG t n p = 108) → (¬ (sG t n (p + 1) < 48 ∨ 57 < sG t n (p + 1))) → (¬ 4 < sG t n (p + 1) - 48) → (p + 1 < n) → (¬ (sG t n (p + 1 + 1) < 48 ∨ 57 < sG t n (p + 1 + 1))) → (¬ 6 < sG t n (p + 1 + 1) - 48) → (p + 1 + 1 < n) → pmCs ro d 162 [.ref 87] (xS (xU (xU (xU (xU (xU (xU (xU a 87 10 (p + 1)) 87 22 (sG t n (p + 1) - 48)) 87 10 (p + 1 + 1)) 87 22 (sG t n (p + 1 + 1) - 48)) 87 10 (p + 1 + 1 + 1)) 95 o (256 * 3 + 16 * (sG t n (p + 1) - 48) + (sG t n (p + 1 + 1) - 48))) 87 15 (o + 1)) b) fun r σ' => pmWp ro d 12 159 2 184 [some (.ref 87), some (xV (sG t n p)), some (xV (sG t n (p + 1) - 48))] (r.toList ++ []) σ' Q))
    (k15 : xK ((sG t n p = -1 ∨ p < n) → (¬ sG t n p = 104) → (¬ sG t n p = 105) → (¬ sG t n p = 100) → (¬ sG t n p = 108) → (sG t n p = 111) → (sG t n (p + 1) < 48 ∨ 57 < sG t n (p + 1)) → Q (some (xV 0)) (xS (xU (xU a 87 10 (p + 1)) 87 12 (-1000 * 1 - (p + 1))) b)))
    (k16 : xK ((sG t n p = -1 ∨ p < n) → (¬ sG t n p = 104) → (¬ sG t n p = 105) → (¬ sG t n p = 100) → (¬ sG t n p = 108) → (sG t n p = 111) → (¬ (sG t n (p + 1) < 48 ∨ 57 < sG t n (p + 1))) → (3 < sG t n (p + 1) - 48) → Q (some (xV 0)) (xS (xU (xU (xU a 87 10 (p + 1)) 87 22 (sG t n (p + 1) - 48)) 87 12 (-1000 * 3 - (p + 1))) b)))
    (k17 : xK ((sG t n p = -1 ∨ p < n) → (¬ sG t n p = 104) → (¬ sG t n p = 105) → (¬ sG t n p = 100) → (¬ sG t n p = 108) → (sG t n p = 111) → (¬ (sG t n (p + 1) < 48 ∨ 57 < sG t n (p + 1))) → (¬ 3 < sG t n (p + 1) - 48) → (p + 1 < n) → (sG t n (p + 1 + 1) < 48 ∨ 57 < sG t n (p + 1 + 1)) → Q (some (xV 0)) (xS (xU (xU (xU (xU a 87 10 (p + 1)) 87 22 (sG t n (p + 1) - 48)) 87 10 (p + 1 + 1)) 87 12 (-1000 * 1 - (p + 1 + 1))) b)))
    (k18 : xK ((sG t n p = -1 ∨ p < n) → (¬ sG t n p = 104) → (¬ sG t n p = 105) → (¬ sG t n p = 100) → (¬ sG t n p = 108) → (sG t n p = 111) → (¬ (sG t n (p + 1) < 48 ∨ 57 < sG t n (p + 1))) → (¬ 3 < sG t n (p + 1) - 48) → (p + 1 < n) → (¬ (sG t n (p + 1 + 1) < 48 ∨ 57 < sG t n (p + 1 + 1))) → (4 < sG t n (p + 1 + 1) - 48) → Q (some (xV 0)) (xS (xU (xU (xU (xU (xU a 87 10 (p + 1)) 87 22 (sG t n (p + 1) - 48)) 87 10 (p + 1 + 1)) 87 22 (sG t n (p + 1 + 1) - 48)) 87 12 (-1000 * 3 - (p + 1 + 1))) b)))
    (k19 : xK ((sG t n p = -1 ∨ p < n) → (¬ sG t n p = 104) → (¬ sG t n p = 105) → (¬ sG t n p = 100) → (¬ sG t n p = 108) → (sG t n p = 111) → (¬ (sG t n (p + 1) < 48 ∨ 57 < sG t n (p + 1))) → (¬ 3 < sG t n (p + 1) - 48) → (p + 1 < n) → (¬ (sG t n (p + 1 + 1) < 48 ∨ 57 < sG t n (p + 1 + 1))) → (¬ 4 < sG t n (p + 1 + 1) - 48) → (p + 1 + 1 < n) → pmCs ro d 162 [.ref 87] (xS (xU (xU (xU (xU (xU (xU (xU a 87 10 (p + 1)) 87 22 (sG t n (p + 1) - 48)) 87 10 (p + 1 + 1)) 87 22 (sG t n (p + 1 + 1) - 48)) 87 10 (p + 1 + 1 + 1)) 95 o (256 * 4 + 16 * (sG t n (p + 1) - 48) + (sG t n (p + 1 + 1) - 48))) 87 15 (o + 1)) b) fun r σ' => pmWp ro d 12 159 2 184 [some (.ref 87), some (xV (sG t n p)), some (xV (sG t n (p + 1) - 48))] (r.toList ++ []) σ' Q))
    (k20 : xK ((sG t n p = -1 ∨ p < n) → (¬ sG t n p = 104) → (¬ sG t n p = 105) → (¬ sG t n p = 100) → (¬ sG t n p = 108) → (¬ sG t n p = 111) → Q (some (xV 0)) (xS (xU a 87 12 (-1000 * 1 - p)) b))) :
    pmWp ro d 12 159 2 0 [some (.ref 87), none, none] [] (xS a b) Q := by
  refine x_aloadn xc159_0 rfl ?_
  refine x_cV (as := []) (rest := []) xc159_1 rfl xi156 xz87 ⟨rfl, rfl⟩ rfl rfl ?_
  refine xk156 hC (by omega) (by omega) hb hA (by omega) (fun h0 => ?_)
  refine x_istoren (pl' := [some (.ref 87), some (xV (sG t n p)), none]) xc159_4 rfl rfl ?_
  refine x_iloadn xc159_5 rfl ?_
  refine x_bipush xc159_6 (by decide) ?_
  refine x_iceq xc159_8 (xRk (by have g0 := sGB (n := n) (p := p) hb (by omega); omega)) (xRk (by decide)) (fun h1 => ?_) (fun h1 => ?_)
  · refine x_aloadn xc159_45 rfl ?_
    refine x_aloadn xc159_46 rfl ?_
    refine x_gfi' (k := 10) (v := p) xc159_47 rfl (Or.inl rfl) rfl xz87 hC.2.2 ?_
    refine x_iconst xc159_50 ?_
    refine x_iadd xc159_51 ?_
    refine x_pfi (k := 10) xc159_52 rfl ⟨rfl, rfl⟩ rfl xz87 ?_
    refine x_aloadn xc159_55 rfl ?_
    refine x_iloadn xc159_56 rfl ?_
    refine x_bipush xc159_57 (by decide) ?_
    refine x_iceq xc159_59 (xRk (by have g0 := sGB (n := n) (p := p) hb (by omega); omega)) (xRk (by decide)) (fun _ => ?_) (fun h => absurd h (by omega))
    refine x_iconst xc159_68 ?_
    refine x_goto xc159_69 ?_
    refine x_cV (as := [xV 4]) (rest := []) xc159_84 rfl xi160 xz87 ⟨rfl, rfl⟩ rfl rfl ?_
    refine xk160e (tR.at hC) (by omega) (by omega) hb (xAr_u hA (xRk (by omega))) (by omega) (by omega) (fun h8 => ?_) (fun h3 h4 => ?_) (fun h5 h6 h7 => ?_)
    · refine x_ifne xc159_87 (xRk (by decide)) (fun h => absurd h (by omega)) (fun _ => ?_)
      refine x_iconst xc159_90 ?_
      refine x_iret xc159_91 (Or.inr ⟨rfl, (by omega)⟩) ?_
      exact k1 h0 h1 h8
    · refine x_ifne xc159_87 (xRk (by decide)) (fun h => absurd h (by omega)) (fun _ => ?_)
      refine x_iconst xc159_90 ?_
      refine x_iret xc159_91 (Or.inr ⟨rfl, (by omega)⟩) ?_
      exact k2 h0 h1 h3 h4
    · refine x_ifne xc159_87 (xRk (by decide)) (fun _ => ?_) (fun h => absurd h (by omega))
      refine x_aloadn xc159_92 rfl ?_
      refine x_gfi' (k := 22) (v := sG t n (p + 1) - 48) xc159_93 rfl (Or.inl rfl) rfl xz87 (by rw [xUk (by decide), xUa]) ?_
      refine x_istoren (pl' := [some (.ref 87), some (xV (sG t n p)), some (xV (sG t n (p + 1) - 48))]) xc159_96 rfl rfl ?_
      refine x_iloadn xc159_97 rfl ?_
      refine x_bipush xc159_98 (by decide) ?_
      refine x_iceq xc159_100 (xRk (by have g0 := sGB (n := n) (p := p) hb (by omega); omega)) (xRk (by decide)) (fun h => absurd h (by omega)) (fun _ => ?_)
      refine x_iloadn xc159_103 rfl ?_
      refine x_bipush xc159_104 (by decide) ?_
      refine x_icne xc159_106 (xRk (by have g0 := sGB (n := n) (p := p) hb (by omega); omega)) (xRk (by decide)) (fun _ => ?_) (fun h => absurd h (by omega))
      refine x_aloadn xc159_130 rfl ?_
      refine x_iloadn xc159_131 rfl ?_
      refine x_bipush xc159_132 (by decide) ?_
      refine x_icne xc159_134 (xRk (by have g0 := sGB (n := n) (p := p) hb (by omega); omega)) (xRk (by decide)) (fun h => absurd h (by omega)) (fun _ => ?_)
      refine x_iconst xc159_137 ?_
      refine x_goto xc159_138 ?_
      refine x_iloadn xc159_172 rfl ?_
      refine x_aloadn xc159_173 rfl ?_
      refine x_gfi' (k := 22) (v := sG t n (p + 1) - 48) xc159_174 rfl (Or.inl rfl) rfl xz87 (by rw [xUk (by decide), xUa]) ?_
      refine x_cV (as := [xV 0, xV (sG t n (p + 1) - 48), xV (sG t n (p + 1) - 48)]) (rest := []) xc159_177 rfl xi161 xz87 ⟨rfl, rfl⟩ rfl rfl ?_
      refine xk161 (xRk (by decide)) (xRk (by have g0 := sGB (n := n) (p := p + 1) hb (by omega); omega)) (xRk (by have g0 := sGB (n := n) (p := p + 1) hb (by omega); omega)) (by rw [xUk (by decide), xUk (by decide), xUk (by decide), ho]) (by omega) (by omega) (by omega) ?_
      refine x_aloadn xc159_180 rfl ?_
      refine x_cV (as := []) (rest := []) xc159_181 rfl xi162 xz87 ⟨rfl, rfl⟩ rfl rfl ?_
      exact k3 h0 h1 h5 h6 h7
  · refine x_iloadn xc159_11 rfl ?_
    refine x_bipush xc159_12 (by decide) ?_
    refine x_iceq xc159_14 (xRk (by have g0 := sGB (n := n) (p := p) hb (by omega); omega)) (xRk (by decide)) (fun h15 => ?_) (fun h15 => ?_)
    · refine x_aloadn xc159_45 rfl ?_
      refine x_aloadn xc159_46 rfl ?_
      refine x_gfi' (k := 10) (v := p) xc159_47 rfl (Or.inl rfl) rfl xz87 hC.2.2 ?_
      refine x_iconst xc159_50 ?_
      refine x_iadd xc159_51 ?_
      refine x_pfi (k := 10) xc159_52 rfl ⟨rfl, rfl⟩ rfl xz87 ?_
      refine x_aloadn xc159_55 rfl ?_
      refine x_iloadn xc159_56 rfl ?_
      refine x_bipush xc159_57 (by decide) ?_
      refine x_iceq xc159_59 (xRk (by have g0 := sGB (n := n) (p := p) hb (by omega); omega)) (xRk (by decide)) (fun h => absurd h (by omega)) (fun _ => ?_)
      refine x_iloadn xc159_62 rfl ?_
      refine x_bipush xc159_63 (by decide) ?_
      refine x_icne xc159_65 (xRk (by have g0 := sGB (n := n) (p := p) hb (by omega); omega)) (xRk (by decide)) (fun _ => ?_) (fun h => absurd h (by omega))
      refine x_iloadn xc159_72 rfl ?_
      refine x_bipush xc159_73 (by decide) ?_
      refine x_icne xc159_75 (xRk (by have g0 := sGB (n := n) (p := p) hb (by omega); omega)) (xRk (by decide)) (fun h => absurd h (by omega)) (fun _ => ?_)
      refine x_bipush xc159_78 (by decide) ?_
      refine x_goto xc159_80 ?_
      refine x_cV (as := [xV 6]) (rest := []) xc159_84 rfl xi160 xz87 ⟨rfl, rfl⟩ rfl rfl ?_
      refine xk160e (tR.at hC) (by omega) (by omega) hb (xAr_u hA (xRk (by omega))) (by omega) (by omega) (fun h24 => ?_) (fun h19 h20 => ?_) (fun h21 h22 h23 => ?_)
      · refine x_ifne xc159_87 (xRk (by decide)) (fun h => absurd h (by omega)) (fun _ => ?_)
        refine x_iconst xc159_90 ?_
        refine x_iret xc159_91 (Or.inr ⟨rfl, (by omega)⟩) ?_
        exact k4 h0 h1 h15 h24
      · refine x_ifne xc159_87 (xRk (by decide)) (fun h => absurd h (by omega)) (fun _ => ?_)
        refine x_iconst xc159_90 ?_
        refine x_iret xc159_91 (Or.inr ⟨rfl, (by omega)⟩) ?_
        exact k5 h0 h1 h15 h19 h20
      · refine x_ifne xc159_87 (xRk (by decide)) (fun _ => ?_) (fun h => absurd h (by omega))
        refine x_aloadn xc159_92 rfl ?_
        refine x_gfi' (k := 22) (v := sG t n (p + 1) - 48) xc159_93 rfl (Or.inl rfl) rfl xz87 (by rw [xUk (by decide), xUa]) ?_
        refine x_istoren (pl' := [some (.ref 87), some (xV (sG t n p)), some (xV (sG t n (p + 1) - 48))]) xc159_96 rfl rfl ?_
        refine x_iloadn xc159_97 rfl ?_
        refine x_bipush xc159_98 (by decide) ?_
        refine x_iceq xc159_100 (xRk (by have g0 := sGB (n := n) (p := p) hb (by omega); omega)) (xRk (by decide)) (fun h => absurd h (by omega)) (fun _ => ?_)
        refine x_iloadn xc159_103 rfl ?_
        refine x_bipush xc159_104 (by decide) ?_
        refine x_icne xc159_106 (xRk (by have g0 := sGB (n := n) (p := p) hb (by omega); omega)) (xRk (by decide)) (fun _ => ?_) (fun h => absurd h (by omega))
        refine x_aloadn xc159_130 rfl ?_
        refine x_iloadn xc159_131 rfl ?_
        refine x_bipush xc159_132 (by decide) ?_
        refine x_icne xc159_134 (xRk (by have g0 := sGB (n := n) (p := p) hb (by omega); omega)) (xRk (by decide)) (fun _ => ?_) (fun h => absurd h (by omega))
        refine x_iloadn xc159_141 rfl ?_
        refine x_bipush xc159_142 (by decide) ?_
        refine x_icne xc159_144 (xRk (by have g0 := sGB (n := n) (p := p) hb (by omega); omega)) (xRk (by decide)) (fun h => absurd h (by omega)) (fun _ => ?_)
        refine x_iconst xc159_147 ?_
        refine x_goto xc159_148 ?_
        refine x_iloadn xc159_172 rfl ?_
        refine x_aloadn xc159_173 rfl ?_
        refine x_gfi' (k := 22) (v := sG t n (p + 1) - 48) xc159_174 rfl (Or.inl rfl) rfl xz87 (by rw [xUk (by decide), xUa]) ?_
        refine x_cV (as := [xV 1, xV (sG t n (p + 1) - 48), xV (sG t n (p + 1) - 48)]) (rest := []) xc159_177 rfl xi161 xz87 ⟨rfl, rfl⟩ rfl rfl ?_
        refine xk161 (xRk (by decide)) (xRk (by have g0 := sGB (n := n) (p := p + 1) hb (by omega); omega)) (xRk (by have g0 := sGB (n := n) (p := p + 1) hb (by omega); omega)) (by rw [xUk (by decide), xUk (by decide), xUk (by decide), ho]) (by omega) (by omega) (by omega) ?_
        refine x_aloadn xc159_180 rfl ?_
        refine x_cV (as := []) (rest := []) xc159_181 rfl xi162 xz87 ⟨rfl, rfl⟩ rfl rfl ?_
        exact k6 h0 h1 h15 h21 h22 h23
    · refine x_iloadn xc159_17 rfl ?_
      refine x_bipush xc159_18 (by decide) ?_
      refine x_iceq xc159_20 (xRk (by have g0 := sGB (n := n) (p := p) hb (by omega); omega)) (xRk (by decide)) (fun h32 => ?_) (fun h32 => ?_)
      · refine x_aloadn xc159_45 rfl ?_
        refine x_aloadn xc159_46 rfl ?_
        refine x_gfi' (k := 10) (v := p) xc159_47 rfl (Or.inl rfl) rfl xz87 hC.2.2 ?_
        refine x_iconst xc159_50 ?_
        refine x_iadd xc159_51 ?_
        refine x_pfi (k := 10) xc159_52 rfl ⟨rfl, rfl⟩ rfl xz87 ?_
        refine x_aloadn xc159_55 rfl ?_
        refine x_iloadn xc159_56 rfl ?_
        refine x_bipush xc159_57 (by decide) ?_
        refine x_iceq xc159_59 (xRk (by have g0 := sGB (n := n) (p := p) hb (by omega); omega)) (xRk (by decide)) (fun h => absurd h (by omega)) (fun _ => ?_)
        refine x_iloadn xc159_62 rfl ?_
        refine x_bipush xc159_63 (by decide) ?_
        refine x_icne xc159_65 (xRk (by have g0 := sGB (n := n) (p := p) hb (by omega); omega)) (xRk (by decide)) (fun _ => ?_) (fun h => absurd h (by omega))
        refine x_iloadn xc159_72 rfl ?_
        refine x_bipush xc159_73 (by decide) ?_
        refine x_icne xc159_75 (xRk (by have g0 := sGB (n := n) (p := p) hb (by omega); omega)) (xRk (by decide)) (fun _ => ?_) (fun h => absurd h (by omega))
        refine x_iconst xc159_83 ?_
        refine x_cV (as := [xV 3]) (rest := []) xc159_84 rfl xi160 xz87 ⟨rfl, rfl⟩ rfl rfl ?_
        refine xk160e (tR.at hC) (by omega) (by omega) hb (xAr_u hA (xRk (by omega))) (by omega) (by omega) (fun h41 => ?_) (fun h36 h37 => ?_) (fun h38 h39 h40 => ?_)
        · refine x_ifne xc159_87 (xRk (by decide)) (fun h => absurd h (by omega)) (fun _ => ?_)
          refine x_iconst xc159_90 ?_
          refine x_iret xc159_91 (Or.inr ⟨rfl, (by omega)⟩) ?_
          exact k7 h0 h1 h15 h32 h41
        · refine x_ifne xc159_87 (xRk (by decide)) (fun h => absurd h (by omega)) (fun _ => ?_)
          refine x_iconst xc159_90 ?_
          refine x_iret xc159_91 (Or.inr ⟨rfl, (by omega)⟩) ?_
          exact k8 h0 h1 h15 h32 h36 h37
        · refine x_ifne xc159_87 (xRk (by decide)) (fun _ => ?_) (fun h => absurd h (by omega))
          refine x_aloadn xc159_92 rfl ?_
          refine x_gfi' (k := 22) (v := sG t n (p + 1) - 48) xc159_93 rfl (Or.inl rfl) rfl xz87 (by rw [xUk (by decide), xUa]) ?_
          refine x_istoren (pl' := [some (.ref 87), some (xV (sG t n p)), some (xV (sG t n (p + 1) - 48))]) xc159_96 rfl rfl ?_
          refine x_iloadn xc159_97 rfl ?_
          refine x_bipush xc159_98 (by decide) ?_
          refine x_iceq xc159_100 (xRk (by have g0 := sGB (n := n) (p := p) hb (by omega); omega)) (xRk (by decide)) (fun h => absurd h (by omega)) (fun _ => ?_)
          refine x_iloadn xc159_103 rfl ?_
          refine x_bipush xc159_104 (by decide) ?_
          refine x_icne xc159_106 (xRk (by have g0 := sGB (n := n) (p := p) hb (by omega); omega)) (xRk (by decide)) (fun _ => ?_) (fun h => absurd h (by omega))
          refine x_aloadn xc159_130 rfl ?_
          refine x_iloadn xc159_131 rfl ?_
          refine x_bipush xc159_132 (by decide) ?_
          refine x_icne xc159_134 (xRk (by have g0 := sGB (n := n) (p := p) hb (by omega); omega)) (xRk (by decide)) (fun _ => ?_) (fun h => absurd h (by omega))
          refine x_iloadn xc159_141 rfl ?_
          refine x_bipush xc159_142 (by decide) ?_
          refine x_icne xc159_144 (xRk (by have g0 := sGB (n := n) (p := p) hb (by omega); omega)) (xRk (by decide)) (fun _ => ?_) (fun h => absurd h (by omega))
          refine x_iloadn xc159_151 rfl ?_
          refine x_bipush xc159_152 (by decide) ?_
          refine x_icne xc159_154 (xRk (by have g0 := sGB (n := n) (p := p) hb (by omega); omega)) (xRk (by decide)) (fun h => absurd h (by omega)) (fun _ => ?_)
          refine x_iconst xc159_157 ?_
          refine x_goto xc159_158 ?_
          refine x_iloadn xc159_172 rfl ?_
          refine x_aloadn xc159_173 rfl ?_
          refine x_gfi' (k := 22) (v := sG t n (p + 1) - 48) xc159_174 rfl (Or.inl rfl) rfl xz87 (by rw [xUk (by decide), xUa]) ?_
          refine x_cV (as := [xV 2, xV (sG t n (p + 1) - 48), xV (sG t n (p + 1) - 48)]) (rest := []) xc159_177 rfl xi161 xz87 ⟨rfl, rfl⟩ rfl rfl ?_
          refine xk161 (xRk (by decide)) (xRk (by have g0 := sGB (n := n) (p := p + 1) hb (by omega); omega)) (xRk (by have g0 := sGB (n := n) (p := p + 1) hb (by omega); omega)) (by rw [xUk (by decide), xUk (by decide), xUk (by decide), ho]) (by omega) (by omega) (by omega) ?_
          refine x_aloadn xc159_180 rfl ?_
          refine x_cV (as := []) (rest := []) xc159_181 rfl xi162 xz87 ⟨rfl, rfl⟩ rfl rfl ?_
          exact k9 h0 h1 h15 h32 h38 h39 h40
      · refine x_iloadn xc159_23 rfl ?_
        refine x_bipush xc159_24 (by decide) ?_
        refine x_iceq xc159_26 (xRk (by have g0 := sGB (n := n) (p := p) hb (by omega); omega)) (xRk (by decide)) (fun h50 => ?_) (fun h50 => ?_)
        · refine x_aloadn xc159_45 rfl ?_
          refine x_aloadn xc159_46 rfl ?_
          refine x_gfi' (k := 10) (v := p) xc159_47 rfl (Or.inl rfl) rfl xz87 hC.2.2 ?_
          refine x_iconst xc159_50 ?_
          refine x_iadd xc159_51 ?_
          refine x_pfi (k := 10) xc159_52 rfl ⟨rfl, rfl⟩ rfl xz87 ?_
          refine x_aloadn xc159_55 rfl ?_
          refine x_iloadn xc159_56 rfl ?_
          refine x_bipush xc159_57 (by decide) ?_
          refine x_iceq xc159_59 (xRk (by have g0 := sGB (n := n) (p := p) hb (by omega); omega)) (xRk (by decide)) (fun h => absurd h (by omega)) (fun _ => ?_)
          refine x_iloadn xc159_62 rfl ?_
          refine x_bipush xc159_63 (by decide) ?_
          refine x_icne xc159_65 (xRk (by have g0 := sGB (n := n) (p := p) hb (by omega); omega)) (xRk (by decide)) (fun h => absurd h (by omega)) (fun _ => ?_)
          refine x_iconst xc159_68 ?_
          refine x_goto xc159_69 ?_
          refine x_cV (as := [xV 4]) (rest := []) xc159_84 rfl xi160 xz87 ⟨rfl, rfl⟩ rfl rfl ?_
          refine xk160e (tR.at hC) (by omega) (by omega) hb (xAr_u hA (xRk (by omega))) (by omega) (by omega) (fun h58 => ?_) (fun h53 h54 => ?_) (fun h55 h56 h57 => ?_)
          · refine x_ifne xc159_87 (xRk (by decide)) (fun h => absurd h (by omega)) (fun _ => ?_)
            refine x_iconst xc159_90 ?_
            refine x_iret xc159_91 (Or.inr ⟨rfl, (by omega)⟩) ?_
            exact k10 h0 h1 h15 h32 h50 h58
          · refine x_ifne xc159_87 (xRk (by decide)) (fun h => absurd h (by omega)) (fun _ => ?_)
            refine x_iconst xc159_90 ?_
            refine x_iret xc159_91 (Or.inr ⟨rfl, (by omega)⟩) ?_
            exact k11 h0 h1 h15 h32 h50 h53 h54
          · refine x_ifne xc159_87 (xRk (by decide)) (fun _ => ?_) (fun h => absurd h (by omega))
            refine x_aloadn xc159_92 rfl ?_
            refine x_gfi' (k := 22) (v := sG t n (p + 1) - 48) xc159_93 rfl (Or.inl rfl) rfl xz87 (by rw [xUk (by decide), xUa]) ?_
            refine x_istoren (pl' := [some (.ref 87), some (xV (sG t n p)), some (xV (sG t n (p + 1) - 48))]) xc159_96 rfl rfl ?_
            refine x_iloadn xc159_97 rfl ?_
            refine x_bipush xc159_98 (by decide) ?_
            refine x_iceq xc159_100 (xRk (by have g0 := sGB (n := n) (p := p) hb (by omega); omega)) (xRk (by decide)) (fun _ => ?_) (fun h => absurd h (by omega))
            refine x_aloadn xc159_109 rfl ?_
            refine x_iloadn xc159_110 rfl ?_
            refine x_bipush xc159_111 (by decide) ?_
            refine x_icne xc159_113 (xRk (by have g0 := sGB (n := n) (p := p) hb (by omega); omega)) (xRk (by decide)) (fun h => absurd h (by omega)) (fun _ => ?_)
            refine x_bipush xc159_116 (by decide) ?_
            refine x_goto xc159_118 ?_
            refine x_cV (as := [xV 6]) (rest := []) xc159_122 rfl xi160 xz87 ⟨rfl, rfl⟩ rfl rfl ?_
            refine xk160e (tR.at (tR.fd (by decide) (by decide) (tR.at hC))) (by omega) (by omega) hb (xAr_u (xAr_u (xAr_u hA (xRk (by omega))) (xRk (by have g0 := sGB (n := n) (p := p + 1) hb (by omega); omega))) (xRk (by omega))) (by omega) (by omega) (fun h69 => ?_) (fun h64 h65 => ?_) (fun h66 h67 h68 => ?_)
            · refine x_ifne xc159_125 (xRk (by decide)) (fun h => absurd h (by omega)) (fun _ => ?_)
              refine x_iconst xc159_128 ?_
              refine x_iret xc159_129 (Or.inr ⟨rfl, (by omega)⟩) ?_
              exact k12 h0 h1 h15 h32 h50 h55 h56 h57 h69
            · refine x_ifne xc159_125 (xRk (by decide)) (fun h => absurd h (by omega)) (fun _ => ?_)
              refine x_iconst xc159_128 ?_
              refine x_iret xc159_129 (Or.inr ⟨rfl, (by omega)⟩) ?_
              exact k13 h0 h1 h15 h32 h50 h55 h56 h57 h64 h65
            · refine x_ifne xc159_125 (xRk (by decide)) (fun _ => ?_) (fun h => absurd h (by omega))
              refine x_aloadn xc159_130 rfl ?_
              refine x_iloadn xc159_131 rfl ?_
              refine x_bipush xc159_132 (by decide) ?_
              refine x_icne xc159_134 (xRk (by have g0 := sGB (n := n) (p := p) hb (by omega); omega)) (xRk (by decide)) (fun _ => ?_) (fun h => absurd h (by omega))
              refine x_iloadn xc159_141 rfl ?_
              refine x_bipush xc159_142 (by decide) ?_
              refine x_icne xc159_144 (xRk (by have g0 := sGB (n := n) (p := p) hb (by omega); omega)) (xRk (by decide)) (fun _ => ?_) (fun h => absurd h (by omega))
              refine x_iloadn xc159_151 rfl ?_
              refine x_bipush xc159_152 (by decide) ?_
              refine x_icne xc159_154 (xRk (by have g0 := sGB (n := n) (p := p) hb (by omega); omega)) (xRk (by decide)) (fun _ => ?_) (fun h => absurd h (by omega))
              refine x_iloadn xc159_161 rfl ?_
              refine x_bipush xc159_162 (by decide) ?_
              refine x_icne xc159_164 (xRk (by have g0 := sGB (n := n) (p := p) hb (by omega); omega)) (xRk (by decide)) (fun h => absurd h (by omega)) (fun _ => ?_)
              refine x_iconst xc159_167 ?_
              refine x_goto xc159_168 ?_
              refine x_iloadn xc159_172 rfl ?_
              refine x_aloadn xc159_173 rfl ?_
              refine x_gfi' (k := 22) (v := sG t n (p + 1 + 1) - 48) xc159_174 rfl (Or.inl rfl) rfl xz87 (by rw [xUk (by decide), xUa]) ?_
              refine x_cV (as := [xV 3, xV (sG t n (p + 1) - 48), xV (sG t n (p + 1 + 1) - 48)]) (rest := []) xc159_177 rfl xi161 xz87 ⟨rfl, rfl⟩ rfl rfl ?_
              refine xk161 (xRk (by decide)) (xRk (by have g0 := sGB (n := n) (p := p + 1) hb (by omega); omega)) (xRk (by have g0 := sGB (n := n) (p := p + 1 + 1) hb (by omega); omega)) (by rw [xUk (by decide), xUk (by decide), xUk (by decide), xUk (by decide), xUk (by decide), ho]) (by omega) (by omega) (by omega) ?_
              refine x_aloadn xc159_180 rfl ?_
              refine x_cV (as := []) (rest := []) xc159_181 rfl xi162 xz87 ⟨rfl, rfl⟩ rfl rfl ?_
              exact k14 h0 h1 h15 h32 h50 h55 h56 h57 h66 h67 h68
        · refine x_iloadn xc159_29 rfl ?_
          refine x_bipush xc159_30 (by decide) ?_
          refine x_iceq xc159_32 (xRk (by have g0 := sGB (n := n) (p := p) hb (by omega); omega)) (xRk (by decide)) (fun h77 => ?_) (fun h77 => ?_)
          · refine x_aloadn xc159_45 rfl ?_
            refine x_aloadn xc159_46 rfl ?_
            refine x_gfi' (k := 10) (v := p) xc159_47 rfl (Or.inl rfl) rfl xz87 hC.2.2 ?_
            refine x_iconst xc159_50 ?_
            refine x_iadd xc159_51 ?_
            refine x_pfi (k := 10) xc159_52 rfl ⟨rfl, rfl⟩ rfl xz87 ?_
            refine x_aloadn xc159_55 rfl ?_
            refine x_iloadn xc159_56 rfl ?_
            refine x_bipush xc159_57 (by decide) ?_
            refine x_iceq xc159_59 (xRk (by have g0 := sGB (n := n) (p := p) hb (by omega); omega)) (xRk (by decide)) (fun h => absurd h (by omega)) (fun _ => ?_)
            refine x_iloadn xc159_62 rfl ?_
            refine x_bipush xc159_63 (by decide) ?_
            refine x_icne xc159_65 (xRk (by have g0 := sGB (n := n) (p := p) hb (by omega); omega)) (xRk (by decide)) (fun _ => ?_) (fun h => absurd h (by omega))
            refine x_iloadn xc159_72 rfl ?_
            refine x_bipush xc159_73 (by decide) ?_
            refine x_icne xc159_75 (xRk (by have g0 := sGB (n := n) (p := p) hb (by omega); omega)) (xRk (by decide)) (fun _ => ?_) (fun h => absurd h (by omega))
            refine x_iconst xc159_83 ?_
            refine x_cV (as := [xV 3]) (rest := []) xc159_84 rfl xi160 xz87 ⟨rfl, rfl⟩ rfl rfl ?_
            refine xk160e (tR.at hC) (by omega) (by omega) hb (xAr_u hA (xRk (by omega))) (by omega) (by omega) (fun h86 => ?_) (fun h81 h82 => ?_) (fun h83 h84 h85 => ?_)
            · refine x_ifne xc159_87 (xRk (by decide)) (fun h => absurd h (by omega)) (fun _ => ?_)
              refine x_iconst xc159_90 ?_
              refine x_iret xc159_91 (Or.inr ⟨rfl, (by omega)⟩) ?_
              exact k15 h0 h1 h15 h32 h50 h77 h86
            · refine x_ifne xc159_87 (xRk (by decide)) (fun h => absurd h (by omega)) (fun _ => ?_)
              refine x_iconst xc159_90 ?_
              refine x_iret xc159_91 (Or.inr ⟨rfl, (by omega)⟩) ?_
              exact k16 h0 h1 h15 h32 h50 h77 h81 h82
            · refine x_ifne xc159_87 (xRk (by decide)) (fun _ => ?_) (fun h => absurd h (by omega))
              refine x_aloadn xc159_92 rfl ?_
              refine x_gfi' (k := 22) (v := sG t n (p + 1) - 48) xc159_93 rfl (Or.inl rfl) rfl xz87 (by rw [xUk (by decide), xUa]) ?_
              refine x_istoren (pl' := [some (.ref 87), some (xV (sG t n p)), some (xV (sG t n (p + 1) - 48))]) xc159_96 rfl rfl ?_
              refine x_iloadn xc159_97 rfl ?_
              refine x_bipush xc159_98 (by decide) ?_
              refine x_iceq xc159_100 (xRk (by have g0 := sGB (n := n) (p := p) hb (by omega); omega)) (xRk (by decide)) (fun h => absurd h (by omega)) (fun _ => ?_)
              refine x_iloadn xc159_103 rfl ?_
              refine x_bipush xc159_104 (by decide) ?_
              refine x_icne xc159_106 (xRk (by have g0 := sGB (n := n) (p := p) hb (by omega); omega)) (xRk (by decide)) (fun h => absurd h (by omega)) (fun _ => ?_)
              refine x_aloadn xc159_109 rfl ?_
              refine x_iloadn xc159_110 rfl ?_
              refine x_bipush xc159_111 (by decide) ?_
              refine x_icne xc159_113 (xRk (by have g0 := sGB (n := n) (p := p) hb (by omega); omega)) (xRk (by decide)) (fun _ => ?_) (fun h => absurd h (by omega))
              refine x_iconst xc159_121 ?_
              refine x_cV (as := [xV 4]) (rest := []) xc159_122 rfl xi160 xz87 ⟨rfl, rfl⟩ rfl rfl ?_
              refine xk160e (tR.at (tR.fd (by decide) (by decide) (tR.at hC))) (by omega) (by omega) hb (xAr_u (xAr_u (xAr_u hA (xRk (by omega))) (xRk (by have g0 := sGB (n := n) (p := p + 1) hb (by omega); omega))) (xRk (by omega))) (by omega) (by omega) (fun h98 => ?_) (fun h93 h94 => ?_) (fun h95 h96 h97 => ?_)
              · refine x_ifne xc159_125 (xRk (by decide)) (fun h => absurd h (by omega)) (fun _ => ?_)
                refine x_iconst xc159_128 ?_
                refine x_iret xc159_129 (Or.inr ⟨rfl, (by omega)⟩) ?_
                exact k17 h0 h1 h15 h32 h50 h77 h83 h84 h85 h98
              · refine x_ifne xc159_125 (xRk (by decide)) (fun h => absurd h (by omega)) (fun _ => ?_)
                refine x_iconst xc159_128 ?_
                refine x_iret xc159_129 (Or.inr ⟨rfl, (by omega)⟩) ?_
                exact k18 h0 h1 h15 h32 h50 h77 h83 h84 h85 h93 h94
              · refine x_ifne xc159_125 (xRk (by decide)) (fun _ => ?_) (fun h => absurd h (by omega))
                refine x_aloadn xc159_130 rfl ?_
                refine x_iloadn xc159_131 rfl ?_
                refine x_bipush xc159_132 (by decide) ?_
                refine x_icne xc159_134 (xRk (by have g0 := sGB (n := n) (p := p) hb (by omega); omega)) (xRk (by decide)) (fun _ => ?_) (fun h => absurd h (by omega))
                refine x_iloadn xc159_141 rfl ?_
                refine x_bipush xc159_142 (by decide) ?_
                refine x_icne xc159_144 (xRk (by have g0 := sGB (n := n) (p := p) hb (by omega); omega)) (xRk (by decide)) (fun _ => ?_) (fun h => absurd h (by omega))
                refine x_iloadn xc159_151 rfl ?_
                refine x_bipush xc159_152 (by decide) ?_
                refine x_icne xc159_154 (xRk (by have g0 := sGB (n := n) (p := p) hb (by omega); omega)) (xRk (by decide)) (fun _ => ?_) (fun h => absurd h (by omega))
                refine x_iloadn xc159_161 rfl ?_
                refine x_bipush xc159_162 (by decide) ?_
                refine x_icne xc159_164 (xRk (by have g0 := sGB (n := n) (p := p) hb (by omega); omega)) (xRk (by decide)) (fun _ => ?_) (fun h => absurd h (by omega))
                refine x_iconst xc159_171 ?_
                refine x_iloadn xc159_172 rfl ?_
                refine x_aloadn xc159_173 rfl ?_
                refine x_gfi' (k := 22) (v := sG t n (p + 1 + 1) - 48) xc159_174 rfl (Or.inl rfl) rfl xz87 (by rw [xUk (by decide), xUa]) ?_
                refine x_cV (as := [xV 4, xV (sG t n (p + 1) - 48), xV (sG t n (p + 1 + 1) - 48)]) (rest := []) xc159_177 rfl xi161 xz87 ⟨rfl, rfl⟩ rfl rfl ?_
                refine xk161 (xRk (by decide)) (xRk (by have g0 := sGB (n := n) (p := p + 1) hb (by omega); omega)) (xRk (by have g0 := sGB (n := n) (p := p + 1 + 1) hb (by omega); omega)) (by rw [xUk (by decide), xUk (by decide), xUk (by decide), xUk (by decide), xUk (by decide), ho]) (by omega) (by omega) (by omega) ?_
                refine x_aloadn xc159_180 rfl ?_
                refine x_cV (as := []) (rest := []) xc159_181 rfl xi162 xz87 ⟨rfl, rfl⟩ rfl rfl ?_
                exact k19 h0 h1 h15 h32 h50 h77 h83 h84 h85 h95 h96 h97
          · refine x_aloadn xc159_35 rfl ?_
            refine x_iconst xc159_36 ?_
            refine x_aloadn xc159_37 rfl ?_
            refine x_gfi' (k := 10) (v := p) xc159_38 rfl (Or.inl rfl) rfl xz87 hC.2.2 ?_
            refine x_cV (as := [xV 1, xV p]) (rest := []) xc159_41 rfl xi158 xz87 ⟨rfl, rfl⟩ rfl rfl ?_
            refine xk158 (xRk (by decide)) (xRk (by omega)) (by omega) ?_
            refine x_iret xc159_44 (Or.inr ⟨rfl, (by omega)⟩) ?_
            exact k20 h0 h1 h15 h32 h50 h77

theorem w159r {ro : Nat → Nat × (Nat → Int32)} {d : Nat} {Q : Option Value → pmS → Prop} {v1 : Option Value} {v2 : Option Value} {a : xA} {b : xB} {t : Int → Int} {n p : Int} (hC : tR a t n p) (hp : 0 ≤ p ∧ p ≤ n) (hn : n ≤ 40) (hb : tB t) (hA : xAr a) {w o q x : Int} (h_x : xR x) (hw : a 87 14 = w) (ho : a 87 15 = o) (hq : a 87 13 = q) (hw0 : 0 ≤ w ∧ w ≤ 40) (ho0 : 0 ≤ o ∧ o ≤ 40) (hq0 : 0 ≤ q ∧ q ≤ 40) (hx : a 94 (w - 1) = x)
    (k1 : Q (some (xV 1)) (xS a b)) :
    pmWp ro d 12 159 2 184 [some (.ref 87), v1, v2] [] (xS a b) Q := by
  refine x_iconst xc159_184 ?_
  refine x_iret xc159_185 (Or.inr ⟨rfl, (by omega)⟩) ?_
  exact k1

theorem yk159 {ro : Nat → Nat × (Nat → Int32)} {d : Nat} {Q : Option Value → pmS → Prop} {a0 : xA} {S out : List Int} {a : xA} {b : xB} {t : Int → Int} {n p : Int} (hp : 0 ≤ p ∧ p ≤ n) (hn : n ≤ 40) (hb : tB t) (hW : rW a0 a t n p S out) (hl : (S.length : Int) + (out.length : Int) ≤ p) (hd : 4 ≤ d)
    (hT : ∀ (a1 : xA) (p1 c : Int), wAt t n p = (0, p1, c) → p + 2 ≤ p1 ∧ p1 ≤ n → rW a0 a1 t n p1 (wPopN S (out ++ [c])).1 (wPopN S (out ++ [c])).2 → Q (some (xV 1)) (xS a1 b))
    (hF : ∀ (a1 : xA) (f p1 : Int), (wAt t n p).1 = f → f < 0 ∧ -10000 < f → a1 87 12 = f → rW a0 a1 t n p1 S out → Q (some (xV 0)) (xS a1 b)) : pmCs ro d 159 [.ref 87] (xS a b) Q := by
  have hB := wOpB S
  have ho : ((out.length : Nat) : Int) ≤ 40 := by omega
  have hok : ∀ (a1 : xA) (p1 c v1 v2 : Int), wAt t n p = (0, p1, c) → p + 2 ≤ p1 ∧ p1 ≤ n → rW a0 a1 t n p1 S (out ++ [c]) → pmCs ro 3 162 [.ref 87] (xS a1 b) fun r σ' => pmWp ro 3 12 159 2 184 [some (.ref 87), some (xV v1), some (xV v2)] (r.toList ++ []) σ' Q := by
    intro a1 p1 c v1 v2 g1 g2 g3
    refine yk162 (by omega) hn hb g3 ?_ (by decide) (fun a2 g4 => w159r g4.1 (by omega) hn hb g4.2.1 (g4.2.1 94 (((wPopN S (out ++ [c])).1.length : Int) - 1)) g4.2.2.1 g4.2.2.2.2.1 g4.2.2.2.2.2.2.1 ?_ ?_ ?_ rfl (hT a2 p1 c g1 g2 g4))
    · rw [List.length_append]
      show (S.length : Int) + ((out.length + 1 : Nat) : Int) ≤ p1
      omega
    all_goals (
      have e1 := wPopN_len S (out ++ [c])
      have e2 := wOpB (wPopN S (out ++ [c])).1
      rw [List.length_append] at e1
      have e3 : ([c] : List Int).length = 1 := rfl
      omega)
  refine pmCs_deep (d := 4) (xg159 (w159 hW.1 hp hn hb hW.2.1 (hW.2.1 94 ((S.length : Int) - 1)) hW.2.2.1 hW.2.2.2.2.1 hW.2.2.2.2.2.2.1 ⟨by omega, by omega⟩ ⟨by omega, by omega⟩ ⟨by omega, by omega⟩ rfl (by decide) ?_ ?_ ?_ ?_ ?_ ?_ ?_ ?_ ?_ ?_ ?_ ?_ ?_ ?_ ?_ ?_ ?_ ?_ ?_ ?_)) hd
  · intro h0 h1 h8
    exact hF _ (-1000 * 1 - (p + 1)) (p + 1) (by rw [wAt_b1 (g := 4) (by omega) (by unfold wG1; (repeat (first | rw [if_pos (by omega)] | rw [if_neg (by omega)]))) (rDig_1 (by assumption)) (by omega)]; omega) (by omega) (by rw [xUa]) (rW.fd (rW.at hW (xRk (by omega))) (by omega) (xRk (by omega)))
  · intro h0 h1 h3 h4
    exact hF _ (-1000 * 3 - (p + 1)) (p + 1) (by rw [wAt_b1 (g := 4) (by omega) (by unfold wG1; (repeat (first | rw [if_pos (by omega)] | rw [if_neg (by omega)]))) (rDig_3 (by assumption) (by assumption)) (by omega)]; omega) (by omega) (by rw [xUa]) (rW.fd (rW.fd (rW.at hW (xRk (by omega))) (by omega) (xRk (by have g0 := sGB (n := n) (p := p + 1) hb (by omega); omega))) (by omega) (xRk (by omega)))
  · intro h0 h1 h5 h6 h7
    exact hok _ _ _ _ _ (wAt_1 (g := 4) (v := 0) (by omega) (by unfold wG1; (repeat (first | rw [if_pos (by omega)] | rw [if_neg (by omega)]))) (by unfold wWh; (repeat (first | rw [if_pos (by omega)] | rw [if_neg (by omega)]))) (rDig_0 (by assumption) (by assumption))) (by omega) (rW.put (rW.at (rW.fd (rW.at hW (xRk (by omega))) (by omega) (xRk (by have g0 := sGB (n := n) (p := p + 1) hb (by omega); omega))) (xRk (by omega))) rfl (xRk (by have g0 := sGB (n := n) (p := p + 1) hb (by omega); omega)) (xRk (by omega)) rfl)
  · intro h0 h1 h15 h24
    exact hF _ (-1000 * 1 - (p + 1)) (p + 1) (by rw [wAt_b1 (g := 6) (by omega) (by unfold wG1; (repeat (first | rw [if_pos (by omega)] | rw [if_neg (by omega)]))) (rDig_1 (by assumption)) (by omega)]; omega) (by omega) (by rw [xUa]) (rW.fd (rW.at hW (xRk (by omega))) (by omega) (xRk (by omega)))
  · intro h0 h1 h15 h19 h20
    exact hF _ (-1000 * 3 - (p + 1)) (p + 1) (by rw [wAt_b1 (g := 6) (by omega) (by unfold wG1; (repeat (first | rw [if_pos (by omega)] | rw [if_neg (by omega)]))) (rDig_3 (by assumption) (by assumption)) (by omega)]; omega) (by omega) (by rw [xUa]) (rW.fd (rW.fd (rW.at hW (xRk (by omega))) (by omega) (xRk (by have g0 := sGB (n := n) (p := p + 1) hb (by omega); omega))) (by omega) (xRk (by omega)))
  · intro h0 h1 h15 h21 h22 h23
    exact hok _ _ _ _ _ (wAt_1 (g := 6) (v := 1) (by omega) (by unfold wG1; (repeat (first | rw [if_pos (by omega)] | rw [if_neg (by omega)]))) (by unfold wWh; (repeat (first | rw [if_pos (by omega)] | rw [if_neg (by omega)]))) (rDig_0 (by assumption) (by assumption))) (by omega) (rW.put (rW.at (rW.fd (rW.at hW (xRk (by omega))) (by omega) (xRk (by have g0 := sGB (n := n) (p := p + 1) hb (by omega); omega))) (xRk (by omega))) rfl (xRk (by have g0 := sGB (n := n) (p := p + 1) hb (by omega); omega)) (xRk (by omega)) rfl)
  · intro h0 h1 h15 h32 h41
    exact hF _ (-1000 * 1 - (p + 1)) (p + 1) (by rw [wAt_b1 (g := 3) (by omega) (by unfold wG1; (repeat (first | rw [if_pos (by omega)] | rw [if_neg (by omega)]))) (rDig_1 (by assumption)) (by omega)]; omega) (by omega) (by rw [xUa]) (rW.fd (rW.at hW (xRk (by omega))) (by omega) (xRk (by omega)))
  · intro h0 h1 h15 h32 h36 h37
    exact hF _ (-1000 * 3 - (p + 1)) (p + 1) (by rw [wAt_b1 (g := 3) (by omega) (by unfold wG1; (repeat (first | rw [if_pos (by omega)] | rw [if_neg (by omega)]))) (rDig_3 (by assumption) (by assumption)) (by omega)]; omega) (by omega) (by rw [xUa]) (rW.fd (rW.fd (rW.at hW (xRk (by omega))) (by omega) (xRk (by have g0 := sGB (n := n) (p := p + 1) hb (by omega); omega))) (by omega) (xRk (by omega)))
  · intro h0 h1 h15 h32 h38 h39 h40
    exact hok _ _ _ _ _ (wAt_1 (g := 3) (v := 2) (by omega) (by unfold wG1; (repeat (first | rw [if_pos (by omega)] | rw [if_neg (by omega)]))) (by unfold wWh; (repeat (first | rw [if_pos (by omega)] | rw [if_neg (by omega)]))) (rDig_0 (by assumption) (by assumption))) (by omega) (rW.put (rW.at (rW.fd (rW.at hW (xRk (by omega))) (by omega) (xRk (by have g0 := sGB (n := n) (p := p + 1) hb (by omega); omega))) (xRk (by omega))) rfl (xRk (by have g0 := sGB (n := n) (p := p + 1) hb (by omega); omega)) (xRk (by omega)) rfl)
  · intro h0 h1 h15 h32 h50 h58
    exact hF _ (-1000 * 1 - (p + 1)) (p + 1) (by rw [wAt_b1 (g := 4) (by omega) (by unfold wG1; (repeat (first | rw [if_pos (by omega)] | rw [if_neg (by omega)]))) (rDig_1 (by assumption)) (by omega)]; omega) (by omega) (by rw [xUa]) (rW.fd (rW.at hW (xRk (by omega))) (by omega) (xRk (by omega)))
  · intro h0 h1 h15 h32 h50 h53 h54
    exact hF _ (-1000 * 3 - (p + 1)) (p + 1) (by rw [wAt_b1 (g := 4) (by omega) (by unfold wG1; (repeat (first | rw [if_pos (by omega)] | rw [if_neg (by omega)]))) (rDig_3 (by assumption) (by assumption)) (by omega)]; omega) (by omega) (by rw [xUa]) (rW.fd (rW.fd (rW.at hW (xRk (by omega))) (by omega) (xRk (by have g0 := sGB (n := n) (p := p + 1) hb (by omega); omega))) (by omega) (xRk (by omega)))
  · intro h0 h1 h15 h32 h50 h55 h56 h57 h69
    exact hF _ (-1000 * 1 - (p + 1 + 1)) (p + 1 + 1) (by rw [wAt_b2 (g := 4) (g2 := 6) (by omega) (by unfold wG1; (repeat (first | rw [if_pos (by omega)] | rw [if_neg (by omega)]))) (rDig_0 (by assumption) (by assumption)) (by (repeat (first | rw [if_pos (by omega)] | rw [if_neg (by omega)]))) (rDig_1 (by assumption)) (by omega)]; omega) (by omega) (by rw [xUa]) (rW.fd (rW.at (rW.fd (rW.at hW (xRk (by omega))) (by omega) (xRk (by have g0 := sGB (n := n) (p := p + 1) hb (by omega); omega))) (xRk (by omega))) (by omega) (xRk (by omega)))
  · intro h0 h1 h15 h32 h50 h55 h56 h57 h64 h65
    exact hF _ (-1000 * 3 - (p + 1 + 1)) (p + 1 + 1) (by rw [wAt_b2 (g := 4) (g2 := 6) (by omega) (by unfold wG1; (repeat (first | rw [if_pos (by omega)] | rw [if_neg (by omega)]))) (rDig_0 (by assumption) (by assumption)) (by (repeat (first | rw [if_pos (by omega)] | rw [if_neg (by omega)]))) (rDig_3 (by assumption) (by assumption)) (by omega)]; omega) (by omega) (by rw [xUa]) (rW.fd (rW.fd (rW.at (rW.fd (rW.at hW (xRk (by omega))) (by omega) (xRk (by have g0 := sGB (n := n) (p := p + 1) hb (by omega); omega))) (xRk (by omega))) (by omega) (xRk (by have g0 := sGB (n := n) (p := p + 1 + 1) hb (by omega); omega))) (by omega) (xRk (by omega)))
  · intro h0 h1 h15 h32 h50 h55 h56 h57 h66 h67 h68
    exact hok _ _ _ _ _ (wAt_2 (g := 4) (g2 := 6) (v := 3) (by omega) (by unfold wG1; (repeat (first | rw [if_pos (by omega)] | rw [if_neg (by omega)]))) (by unfold wWh; (repeat (first | rw [if_pos (by omega)] | rw [if_neg (by omega)]))) (rDig_0 (by assumption) (by assumption)) (by (repeat (first | rw [if_pos (by omega)] | rw [if_neg (by omega)]))) (rDig_0 (by assumption) (by assumption))) (by omega) (rW.put (rW.at (rW.fd (rW.at (rW.fd (rW.at hW (xRk (by omega))) (by omega) (xRk (by have g0 := sGB (n := n) (p := p + 1) hb (by omega); omega))) (xRk (by omega))) (by omega) (xRk (by have g0 := sGB (n := n) (p := p + 1 + 1) hb (by omega); omega))) (xRk (by omega))) rfl (xRk (by have g0 := sGB (n := n) (p := p + 1) hb (by omega); have g1 := sGB (n := n) (p := p + 1 + 1) hb (by omega); omega)) (xRk (by omega)) rfl)
  · intro h0 h1 h15 h32 h50 h77 h86
    exact hF _ (-1000 * 1 - (p + 1)) (p + 1) (by rw [wAt_b1 (g := 3) (by omega) (by unfold wG1; (repeat (first | rw [if_pos (by omega)] | rw [if_neg (by omega)]))) (rDig_1 (by assumption)) (by omega)]; omega) (by omega) (by rw [xUa]) (rW.fd (rW.at hW (xRk (by omega))) (by omega) (xRk (by omega)))
  · intro h0 h1 h15 h32 h50 h77 h81 h82
    exact hF _ (-1000 * 3 - (p + 1)) (p + 1) (by rw [wAt_b1 (g := 3) (by omega) (by unfold wG1; (repeat (first | rw [if_pos (by omega)] | rw [if_neg (by omega)]))) (rDig_3 (by assumption) (by assumption)) (by omega)]; omega) (by omega) (by rw [xUa]) (rW.fd (rW.fd (rW.at hW (xRk (by omega))) (by omega) (xRk (by have g0 := sGB (n := n) (p := p + 1) hb (by omega); omega))) (by omega) (xRk (by omega)))
  · intro h0 h1 h15 h32 h50 h77 h83 h84 h85 h98
    exact hF _ (-1000 * 1 - (p + 1 + 1)) (p + 1 + 1) (by rw [wAt_b2 (g := 3) (g2 := 4) (by omega) (by unfold wG1; (repeat (first | rw [if_pos (by omega)] | rw [if_neg (by omega)]))) (rDig_0 (by assumption) (by assumption)) (by (repeat (first | rw [if_pos (by omega)] | rw [if_neg (by omega)]))) (rDig_1 (by assumption)) (by omega)]; omega) (by omega) (by rw [xUa]) (rW.fd (rW.at (rW.fd (rW.at hW (xRk (by omega))) (by omega) (xRk (by have g0 := sGB (n := n) (p := p + 1) hb (by omega); omega))) (xRk (by omega))) (by omega) (xRk (by omega)))
  · intro h0 h1 h15 h32 h50 h77 h83 h84 h85 h93 h94
    exact hF _ (-1000 * 3 - (p + 1 + 1)) (p + 1 + 1) (by rw [wAt_b2 (g := 3) (g2 := 4) (by omega) (by unfold wG1; (repeat (first | rw [if_pos (by omega)] | rw [if_neg (by omega)]))) (rDig_0 (by assumption) (by assumption)) (by (repeat (first | rw [if_pos (by omega)] | rw [if_neg (by omega)]))) (rDig_3 (by assumption) (by assumption)) (by omega)]; omega) (by omega) (by rw [xUa]) (rW.fd (rW.fd (rW.at (rW.fd (rW.at hW (xRk (by omega))) (by omega) (xRk (by have g0 := sGB (n := n) (p := p + 1) hb (by omega); omega))) (xRk (by omega))) (by omega) (xRk (by have g0 := sGB (n := n) (p := p + 1 + 1) hb (by omega); omega))) (by omega) (xRk (by omega)))
  · intro h0 h1 h15 h32 h50 h77 h83 h84 h85 h95 h96 h97
    exact hok _ _ _ _ _ (wAt_2 (g := 3) (g2 := 4) (v := 4) (by omega) (by unfold wG1; (repeat (first | rw [if_pos (by omega)] | rw [if_neg (by omega)]))) (by unfold wWh; (repeat (first | rw [if_pos (by omega)] | rw [if_neg (by omega)]))) (rDig_0 (by assumption) (by assumption)) (by (repeat (first | rw [if_pos (by omega)] | rw [if_neg (by omega)]))) (rDig_0 (by assumption) (by assumption))) (by omega) (rW.put (rW.at (rW.fd (rW.at (rW.fd (rW.at hW (xRk (by omega))) (by omega) (xRk (by have g0 := sGB (n := n) (p := p + 1) hb (by omega); omega))) (xRk (by omega))) (by omega) (xRk (by have g0 := sGB (n := n) (p := p + 1 + 1) hb (by omega); omega))) (xRk (by omega))) rfl (xRk (by have g0 := sGB (n := n) (p := p + 1) hb (by omega); have g1 := sGB (n := n) (p := p + 1 + 1) hb (by omega); omega)) (xRk (by omega)) rfl)
  · intro h0 h1 h15 h32 h50 h77
    exact hF _ (-1000 * 1 - p) (p) (by rw [wAt_x (by omega)]; omega) (by omega) (by rw [xUa]) (rW.fd hW (by omega) (xRk (by omega)))

theorem w155 {ro : Nat → Nat × (Nat → Int32)} {d : Nat} {Q : Option Value → pmS → Prop} {v1 : Option Value} {a : xA} {b : xB} {t : Int → Int} {n p : Int} (hC : tR a t n p) (hp : 0 ≤ p ∧ p ≤ n) (hn : n ≤ 40) (hb : tB t) (hA : xAr a) {w o q x : Int} (h_x : xR x) (hw : a 87 14 = w) (ho : a 87 15 = o) (hq : a 87 13 = q) (hw0 : 0 ≤ w ∧ w ≤ 40) (ho0 : 0 ≤ o ∧ o ≤ 40) (hq0 : 0 ≤ q ∧ q ≤ 40) (hx : a 94 (w - 1) = x) (hd : 2 ≤ d)
    (k1 : xK ((sG t n p = -1 ∨ p < n) → (sG t n p = 33) → (sG t n p = -1 ∨ p < n) → (q = 6) → Q (some (xV 0)) (xS (xU a 87 12 (-1000 * 5 - p)) b)))
    (k2 : xK ((sG t n p = -1 ∨ p < n) → (sG t n p = 33) → (sG t n p = -1 ∨ p < n) → (¬ q = 6) → pmWp ro d 12 155 2 0 [some (.ref 87), v1] [] (xS (xU (xU (xU (xU a 87 13 (q + 1)) 94 w 7) 87 14 (w + 1)) 87 10 (p + 1)) b) Q))
    (k3 : xK ((sG t n p = -1 ∨ p < n) → (¬ sG t n p = 33) → (sG t n p = -1 ∨ p < n) → (¬ sG t n p = 40) → pmCs ro d 159 [.ref 87] (xS a b) fun r σ' => pmWp ro d 12 155 2 47 [some (.ref 87), v1] (r.toList ++ []) σ' Q))
    (k4 : xK ((sG t n p = -1 ∨ p < n) → (¬ sG t n p = 33) → (sG t n p = -1 ∨ p < n) → (¬ ¬ sG t n p = 40) → (sG t n p = -1 ∨ p < n) → (q = 6) → Q (some (xV 0)) (xS (xU a 87 12 (-1000 * 5 - p)) b)))
    (k5 : xK ((sG t n p = -1 ∨ p < n) → (¬ sG t n p = 33) → (sG t n p = -1 ∨ p < n) → (¬ ¬ sG t n p = 40) → (sG t n p = -1 ∨ p < n) → (¬ q = 6) → pmWp ro d 12 155 2 0 [some (.ref 87), v1] [] (xS (xU (xU (xU (xU a 87 13 (q + 1)) 94 w 8) 87 14 (w + 1)) 87 10 (p + 1)) b) Q)) :
    pmWp ro d 12 155 2 0 [some (.ref 87), v1] [] (xS a b) Q := by
  refine x_aloadn xc155_0 rfl ?_
  refine x_cV (as := []) (rest := []) xc155_1 rfl xi156 xz87 ⟨rfl, rfl⟩ rfl rfl ?_
  refine xk156 hC (by omega) (by omega) hb hA (by omega) (fun h0 => ?_)
  refine x_bipush xc155_4 (by decide) ?_
  refine x_iceq xc155_6 (xRk (by have g0 := sGB (n := n) (p := p) hb (by omega); omega)) (xRk (by decide)) (fun h1 => ?_) (fun h1 => ?_)
  · refine x_aloadn xc155_18 rfl ?_
    refine x_aloadn xc155_19 rfl ?_
    refine x_cV (as := []) (rest := [.ref 87]) xc155_20 rfl xi156 xz87 ⟨rfl, rfl⟩ rfl rfl ?_
    refine xk156 hC (by omega) (by omega) hb hA (by omega) (fun h2 => ?_)
    refine x_bipush xc155_23 (by decide) ?_
    refine x_icne xc155_25 (xRk (by have g0 := sGB (n := n) (p := p) hb (by omega); omega)) (xRk (by decide)) (fun h => absurd h (by omega)) (fun _ => ?_)
    refine x_bipush xc155_28 (by decide) ?_
    refine x_goto xc155_30 ?_
    refine x_cV (as := [xV 7]) (rest := []) xc155_35 rfl xi157 xz87 ⟨rfl, rfl⟩ rfl rfl ?_
    refine xk157 hC hp hn hb hA h_x hw ho hq hw0 ho0 hq0 hx (xRk (by decide)) (by omega) (fun h4 => ?_) (fun h5 => ?_)
    · refine x_ifne xc155_38 (xRk (by decide)) (fun h => absurd h (by omega)) (fun _ => ?_)
      refine x_iconst xc155_41 ?_
      refine x_iret xc155_42 (Or.inr ⟨rfl, (by omega)⟩) ?_
      exact k1 h0 h1 h2 h4
    · refine x_ifne xc155_38 (xRk (by decide)) (fun _ => ?_) (fun h => absurd h (by omega))
      exact k2 h0 h1 h2 h5
  · refine x_aloadn xc155_9 rfl ?_
    refine x_cV (as := []) (rest := []) xc155_10 rfl xi156 xz87 ⟨rfl, rfl⟩ rfl rfl ?_
    refine xk156 hC (by omega) (by omega) hb hA (by omega) (fun h8 => ?_)
    refine x_bipush xc155_13 (by decide) ?_
    refine x_icne xc155_15 (xRk (by have g0 := sGB (n := n) (p := p) hb (by omega); omega)) (xRk (by decide)) (fun h9 => ?_) (fun h9 => ?_)
    · refine x_aloadn xc155_43 rfl ?_
      refine x_cV (as := []) (rest := []) xc155_44 rfl xi159 xz87 ⟨rfl, rfl⟩ rfl rfl ?_
      exact k3 h0 h1 h8 h9
    · refine x_aloadn xc155_18 rfl ?_
      refine x_aloadn xc155_19 rfl ?_
      refine x_cV (as := []) (rest := [.ref 87]) xc155_20 rfl xi156 xz87 ⟨rfl, rfl⟩ rfl rfl ?_
      refine xk156 hC (by omega) (by omega) hb hA (by omega) (fun h10 => ?_)
      refine x_bipush xc155_23 (by decide) ?_
      refine x_icne xc155_25 (xRk (by have g0 := sGB (n := n) (p := p) hb (by omega); omega)) (xRk (by decide)) (fun _ => ?_) (fun h => absurd h (by omega))
      refine x_bipush xc155_33 (by decide) ?_
      refine x_cV (as := [xV 8]) (rest := []) xc155_35 rfl xi157 xz87 ⟨rfl, rfl⟩ rfl rfl ?_
      refine xk157 hC hp hn hb hA h_x hw ho hq hw0 ho0 hq0 hx (xRk (by decide)) (by omega) (fun h12 => ?_) (fun h13 => ?_)
      · refine x_ifne xc155_38 (xRk (by decide)) (fun h => absurd h (by omega)) (fun _ => ?_)
        refine x_iconst xc155_41 ?_
        refine x_iret xc155_42 (Or.inr ⟨rfl, (by omega)⟩) ?_
        exact k4 h0 h1 h8 h9 h10 h12
      · refine x_ifne xc155_38 (xRk (by decide)) (fun _ => ?_) (fun h => absurd h (by omega))
        exact k5 h0 h1 h8 h9 h10 h13

theorem xg155 {ro : Nat → Nat × (Nat → Int32)} {d : Nat} {Q : Option Value → pmS → Prop} {a : xA} {b : xB} (h : pmWp ro d 12 155 2 0 [some (.ref 87), none] [] (xS a b) Q) : pmCs ro (d + 1) 155 [.ref 87] (xS a b) Q := x_go xi155 rfl rfl rfl rfl rfl h
theorem w155t {ro : Nat → Nat × (Nat → Int32)} {d : Nat} {Q : Option Value → pmS → Prop} {v1 : Option Value} {a : xA} {b : xB}
    (k1 : pmWp ro d 12 155 2 52 [some (.ref 87), v1] [] (xS a b) Q) :
    pmWp ro d 12 155 2 47 [some (.ref 87), v1] [xV 1] (xS a b) Q := by
  refine x_ifne xc155_47 (xRk (by decide)) (fun _ => ?_) (fun h => absurd h (by omega))
  exact k1

theorem w155f {ro : Nat → Nat × (Nat → Int32)} {d : Nat} {Q : Option Value → pmS → Prop} {v1 : Option Value} {a : xA} {b : xB}
    (k1 : Q (some (xV 0)) (xS a b)) :
    pmWp ro d 12 155 2 47 [some (.ref 87), v1] [xV 0] (xS a b) Q := by
  refine x_ifne xc155_47 (xRk (by decide)) (fun h => absurd h (by omega)) (fun _ => ?_)
  refine x_iconst xc155_50 ?_
  refine x_iret xc155_51 (Or.inr ⟨rfl, (by omega)⟩) ?_
  exact k1

theorem w155a {ro : Nat → Nat × (Nat → Int32)} {d : Nat} {Q : Option Value → pmS → Prop} {v1 : Option Value} {a : xA} {b : xB} {t : Int → Int} {n p : Int} (hC : tR a t n p) (hp : 0 ≤ p ∧ p ≤ n) (hn : n ≤ 40) (hb : tB t) (hA : xAr a) {w o q x : Int} (h_x : xR x) (hw : a 87 14 = w) (ho : a 87 15 = o) (hq : a 87 13 = q) (hw0 : 0 ≤ w ∧ w ≤ 40) (ho0 : 0 ≤ o ∧ o ≤ 40) (hq0 : 0 ≤ q ∧ q ≤ 40) (hx : a 94 (w - 1) = x) {S : List Int} (h8 : ∀ (Q : Option Value → pmS → Prop), ((8 : Int) ∈ S → Q (some (xV 1)) (xS a b)) → (¬ (8 : Int) ∈ S → Q (some (xV 0)) (xS a b)) → pmCs ro d 164 [.ref 87] (xS a b) Q) (hd : 2 ≤ d)
    (k1 : xK ((sG t n p = -1 ∨ p < n) → (¬ sG t n p = 41) → (sG t n p = -1 ∨ p < n) → (sG t n p = 38) → pmCs ro d 165 [.ref 87, xV 0] (xS a b) fun r σ' => pmWp ro d 12 155 2 171 [some (.ref 87), some (xV (sG t n p))] (r.toList ++ []) σ' Q))
    (k2 : xK ((sG t n p = -1 ∨ p < n) → (¬ sG t n p = 41) → (sG t n p = -1 ∨ p < n) → (¬ sG t n p = 38) → (sG t n p = 124) → pmCs ro d 165 [.ref 87, xV 1] (xS a b) fun r σ' => pmWp ro d 12 155 2 171 [some (.ref 87), some (xV (sG t n p))] (r.toList ++ []) σ' Q))
    (k3 : xK ((sG t n p = -1 ∨ p < n) → (¬ sG t n p = 41) → (sG t n p = -1 ∨ p < n) → (¬ sG t n p = 38) → (¬ sG t n p = 124) → (¬ sG t n p = -1) → Q (some (xV 0)) (xS (xU a 87 12 (-1000 * 1 - p)) b)))
    (k4 : xK ((sG t n p = -1 ∨ p < n) → (¬ sG t n p = 41) → (sG t n p = -1 ∨ p < n) → (¬ sG t n p = 38) → (¬ sG t n p = 124) → (¬ ¬ sG t n p = -1) → ((8 : Int) ∈ S) → Q (some (xV 0)) (xS (xU a 87 12 (-1000 * 1 - p)) b)))
    (k5 : xK ((sG t n p = -1 ∨ p < n) → (¬ sG t n p = 41) → (sG t n p = -1 ∨ p < n) → (¬ sG t n p = 38) → (¬ sG t n p = 124) → (¬ ¬ sG t n p = -1) → (¬ (8 : Int) ∈ S) → pmCs ro d 165 [.ref 87, xV 1] (xS a b) fun r σ' => pmWp ro d 12 155 2 154 [some (.ref 87), some (xV (sG t n p))] (r.toList ++ []) σ' Q))
    (k6 : xK ((sG t n p = -1 ∨ p < n) → (¬ ¬ sG t n p = 41) → ((8 : Int) ∈ S) → pmCs ro d 165 [.ref 87, xV 1] (xS a b) fun r σ' => pmWp ro d 12 155 2 73 [some (.ref 87), v1] (r.toList ++ []) σ' Q))
    (k7 : xK ((sG t n p = -1 ∨ p < n) → (¬ ¬ sG t n p = 41) → (¬ (8 : Int) ∈ S) → (sG t n p = -1 ∨ p < n) → (sG t n p = 38) → pmCs ro d 165 [.ref 87, xV 0] (xS a b) fun r σ' => pmWp ro d 12 155 2 171 [some (.ref 87), some (xV (sG t n p))] (r.toList ++ []) σ' Q))
    (k8 : xK ((sG t n p = -1 ∨ p < n) → (¬ ¬ sG t n p = 41) → (¬ (8 : Int) ∈ S) → (sG t n p = -1 ∨ p < n) → (¬ sG t n p = 38) → (sG t n p = 124) → pmCs ro d 165 [.ref 87, xV 1] (xS a b) fun r σ' => pmWp ro d 12 155 2 171 [some (.ref 87), some (xV (sG t n p))] (r.toList ++ []) σ' Q))
    (k9 : xK ((sG t n p = -1 ∨ p < n) → (¬ ¬ sG t n p = 41) → (¬ (8 : Int) ∈ S) → (sG t n p = -1 ∨ p < n) → (¬ sG t n p = 38) → (¬ sG t n p = 124) → (¬ sG t n p = -1) → Q (some (xV 0)) (xS (xU a 87 12 (-1000 * 1 - p)) b)))
    (k10 : xK ((sG t n p = -1 ∨ p < n) → (¬ ¬ sG t n p = 41) → (¬ (8 : Int) ∈ S) → (sG t n p = -1 ∨ p < n) → (¬ sG t n p = 38) → (¬ sG t n p = 124) → (¬ ¬ sG t n p = -1) → ((8 : Int) ∈ S) → Q (some (xV 0)) (xS (xU a 87 12 (-1000 * 1 - p)) b)))
    (k11 : xK ((sG t n p = -1 ∨ p < n) → (¬ ¬ sG t n p = 41) → (¬ (8 : Int) ∈ S) → (sG t n p = -1 ∨ p < n) → (¬ sG t n p = 38) → (¬ sG t n p = 124) → (¬ ¬ sG t n p = -1) → (¬ (8 : Int) ∈ S) → pmCs ro d 165 [.ref 87, xV 1] (xS a b) fun r σ' => pmWp ro d 12 155 2 154 [some (.ref 87), some (xV (sG t n p))] (r.toList ++ []) σ' Q)) :
    pmWp ro d 12 155 2 52 [some (.ref 87), v1] [] (xS a b) Q := by
  refine x_aloadn xc155_52 rfl ?_
  refine x_cV (as := []) (rest := []) xc155_53 rfl xi156 xz87 ⟨rfl, rfl⟩ rfl rfl ?_
  refine xk156 hC (by omega) (by omega) hb hA (by omega) (fun h0 => ?_)
  refine x_bipush xc155_56 (by decide) ?_
  refine x_icne xc155_58 (xRk (by have g0 := sGB (n := n) (p := p) hb (by omega); omega)) (xRk (by decide)) (fun h1 => ?_) (fun h1 => ?_)
  · refine x_aloadn xc155_110 rfl ?_
    refine x_cV (as := []) (rest := []) xc155_111 rfl xi156 xz87 ⟨rfl, rfl⟩ rfl rfl ?_
    refine xk156 hC (by omega) (by omega) hb hA (by omega) (fun h2 => ?_)
    refine x_istoren (pl' := [some (.ref 87), some (xV (sG t n p))]) xc155_114 rfl rfl ?_
    refine x_iloadn xc155_115 rfl ?_
    refine x_bipush xc155_116 (by decide) ?_
    refine x_iceq xc155_118 (xRk (by have g0 := sGB (n := n) (p := p) hb (by omega); omega)) (xRk (by decide)) (fun h3 => ?_) (fun h3 => ?_)
    · refine x_aloadn xc155_156 rfl ?_
      refine x_iloadn xc155_157 rfl ?_
      refine x_bipush xc155_158 (by decide) ?_
      refine x_icne xc155_160 (xRk (by have g0 := sGB (n := n) (p := p) hb (by omega); omega)) (xRk (by decide)) (fun _ => ?_) (fun h => absurd h (by omega))
      refine x_iconst xc155_167 ?_
      refine x_cV (as := [xV 0]) (rest := []) xc155_168 rfl xi165 xz87 ⟨rfl, rfl⟩ rfl rfl ?_
      exact k1 h0 h1 h2 h3
    · refine x_iloadn xc155_121 rfl ?_
      refine x_bipush xc155_122 (by decide) ?_
      refine x_iceq xc155_124 (xRk (by have g0 := sGB (n := n) (p := p) hb (by omega); omega)) (xRk (by decide)) (fun h5 => ?_) (fun h5 => ?_)
      · refine x_aloadn xc155_156 rfl ?_
        refine x_iloadn xc155_157 rfl ?_
        refine x_bipush xc155_158 (by decide) ?_
        refine x_icne xc155_160 (xRk (by have g0 := sGB (n := n) (p := p) hb (by omega); omega)) (xRk (by decide)) (fun h => absurd h (by omega)) (fun _ => ?_)
        refine x_iconst xc155_163 ?_
        refine x_goto xc155_164 ?_
        refine x_cV (as := [xV 1]) (rest := []) xc155_168 rfl xi165 xz87 ⟨rfl, rfl⟩ rfl rfl ?_
        exact k2 h0 h1 h2 h3 h5
      · refine x_iloadn xc155_127 rfl ?_
        refine x_iconst xc155_128 ?_
        refine x_icne xc155_129 (xRk (by have g0 := sGB (n := n) (p := p) hb (by omega); omega)) (xRk (by decide)) (fun h7 => ?_) (fun h7 => ?_)
        · refine x_aloadn xc155_139 rfl ?_
          refine x_iconst xc155_140 ?_
          refine x_aloadn xc155_141 rfl ?_
          refine x_gfi' (k := 10) (v := p) xc155_142 rfl (Or.inl rfl) rfl xz87 hC.2.2 ?_
          refine x_cV (as := [xV 1, xV p]) (rest := []) xc155_145 rfl xi158 xz87 ⟨rfl, rfl⟩ rfl rfl ?_
          refine xk158 (xRk (by decide)) (xRk (by omega)) (by omega) ?_
          refine x_iret xc155_148 (Or.inr ⟨rfl, (by omega)⟩) ?_
          exact k3 h0 h1 h2 h3 h5 h7
        · refine x_aloadn xc155_132 rfl ?_
          refine x_cV (as := []) (rest := []) xc155_133 rfl xi164 xz87 ⟨rfl, rfl⟩ rfl rfl ?_
          refine h8 _ (fun h8 => ?_) (fun h9 => ?_)
          · refine x_ifeq xc155_136 (xRk (by decide)) (fun h => absurd h (by omega)) (fun _ => ?_)
            refine x_aloadn xc155_139 rfl ?_
            refine x_iconst xc155_140 ?_
            refine x_aloadn xc155_141 rfl ?_
            refine x_gfi' (k := 10) (v := p) xc155_142 rfl (Or.inl rfl) rfl xz87 hC.2.2 ?_
            refine x_cV (as := [xV 1, xV p]) (rest := []) xc155_145 rfl xi158 xz87 ⟨rfl, rfl⟩ rfl rfl ?_
            refine xk158 (xRk (by decide)) (xRk (by omega)) (by omega) ?_
            refine x_iret xc155_148 (Or.inr ⟨rfl, (by omega)⟩) ?_
            exact k4 h0 h1 h2 h3 h5 h7 h8
          · refine x_ifeq xc155_136 (xRk (by decide)) (fun _ => ?_) (fun h => absurd h (by omega))
            refine x_aloadn xc155_149 rfl ?_
            refine x_iconst xc155_150 ?_
            refine x_cV (as := [xV 1]) (rest := []) xc155_151 rfl xi165 xz87 ⟨rfl, rfl⟩ rfl rfl ?_
            exact k5 h0 h1 h2 h3 h5 h7 h9
  · refine x_aloadn xc155_61 rfl ?_
    refine x_cV (as := []) (rest := []) xc155_62 rfl xi164 xz87 ⟨rfl, rfl⟩ rfl rfl ?_
    refine h8 _ (fun h12 => ?_) (fun h13 => ?_)
    · refine x_ifeq xc155_65 (xRk (by decide)) (fun h => absurd h (by omega)) (fun _ => ?_)
      refine x_aloadn xc155_68 rfl ?_
      refine x_iconst xc155_69 ?_
      refine x_cV (as := [xV 1]) (rest := []) xc155_70 rfl xi165 xz87 ⟨rfl, rfl⟩ rfl rfl ?_
      exact k6 h0 h1 h12
    · refine x_ifeq xc155_65 (xRk (by decide)) (fun _ => ?_) (fun h => absurd h (by omega))
      refine x_aloadn xc155_110 rfl ?_
      refine x_cV (as := []) (rest := []) xc155_111 rfl xi156 xz87 ⟨rfl, rfl⟩ rfl rfl ?_
      refine xk156 hC (by omega) (by omega) hb hA (by omega) (fun h16 => ?_)
      refine x_istoren (pl' := [some (.ref 87), some (xV (sG t n p))]) xc155_114 rfl rfl ?_
      refine x_iloadn xc155_115 rfl ?_
      refine x_bipush xc155_116 (by decide) ?_
      refine x_iceq xc155_118 (xRk (by have g0 := sGB (n := n) (p := p) hb (by omega); omega)) (xRk (by decide)) (fun h17 => ?_) (fun h17 => ?_)
      · refine x_aloadn xc155_156 rfl ?_
        refine x_iloadn xc155_157 rfl ?_
        refine x_bipush xc155_158 (by decide) ?_
        refine x_icne xc155_160 (xRk (by have g0 := sGB (n := n) (p := p) hb (by omega); omega)) (xRk (by decide)) (fun _ => ?_) (fun h => absurd h (by omega))
        refine x_iconst xc155_167 ?_
        refine x_cV (as := [xV 0]) (rest := []) xc155_168 rfl xi165 xz87 ⟨rfl, rfl⟩ rfl rfl ?_
        exact k7 h0 h1 h13 h16 h17
      · refine x_iloadn xc155_121 rfl ?_
        refine x_bipush xc155_122 (by decide) ?_
        refine x_iceq xc155_124 (xRk (by have g0 := sGB (n := n) (p := p) hb (by omega); omega)) (xRk (by decide)) (fun h19 => ?_) (fun h19 => ?_)
        · refine x_aloadn xc155_156 rfl ?_
          refine x_iloadn xc155_157 rfl ?_
          refine x_bipush xc155_158 (by decide) ?_
          refine x_icne xc155_160 (xRk (by have g0 := sGB (n := n) (p := p) hb (by omega); omega)) (xRk (by decide)) (fun h => absurd h (by omega)) (fun _ => ?_)
          refine x_iconst xc155_163 ?_
          refine x_goto xc155_164 ?_
          refine x_cV (as := [xV 1]) (rest := []) xc155_168 rfl xi165 xz87 ⟨rfl, rfl⟩ rfl rfl ?_
          exact k8 h0 h1 h13 h16 h17 h19
        · refine x_iloadn xc155_127 rfl ?_
          refine x_iconst xc155_128 ?_
          refine x_icne xc155_129 (xRk (by have g0 := sGB (n := n) (p := p) hb (by omega); omega)) (xRk (by decide)) (fun h21 => ?_) (fun h21 => ?_)
          · refine x_aloadn xc155_139 rfl ?_
            refine x_iconst xc155_140 ?_
            refine x_aloadn xc155_141 rfl ?_
            refine x_gfi' (k := 10) (v := p) xc155_142 rfl (Or.inl rfl) rfl xz87 hC.2.2 ?_
            refine x_cV (as := [xV 1, xV p]) (rest := []) xc155_145 rfl xi158 xz87 ⟨rfl, rfl⟩ rfl rfl ?_
            refine xk158 (xRk (by decide)) (xRk (by omega)) (by omega) ?_
            refine x_iret xc155_148 (Or.inr ⟨rfl, (by omega)⟩) ?_
            exact k9 h0 h1 h13 h16 h17 h19 h21
          · refine x_aloadn xc155_132 rfl ?_
            refine x_cV (as := []) (rest := []) xc155_133 rfl xi164 xz87 ⟨rfl, rfl⟩ rfl rfl ?_
            refine h8 _ (fun h22 => ?_) (fun h23 => ?_)
            · refine x_ifeq xc155_136 (xRk (by decide)) (fun h => absurd h (by omega)) (fun _ => ?_)
              refine x_aloadn xc155_139 rfl ?_
              refine x_iconst xc155_140 ?_
              refine x_aloadn xc155_141 rfl ?_
              refine x_gfi' (k := 10) (v := p) xc155_142 rfl (Or.inl rfl) rfl xz87 hC.2.2 ?_
              refine x_cV (as := [xV 1, xV p]) (rest := []) xc155_145 rfl xi158 xz87 ⟨rfl, rfl⟩ rfl rfl ?_
              refine xk158 (xRk (by decide)) (xRk (by omega)) (by omega) ?_
              refine x_iret xc155_148 (Or.inr ⟨rfl, (by omega)⟩) ?_
              exact k10 h0 h1 h13 h16 h17 h19 h21 h22
            · refine x_ifeq xc155_136 (xRk (by decide)) (fun _ => ?_) (fun h => absurd h (by omega))
              refine x_aloadn xc155_149 rfl ?_
              refine x_iconst xc155_150 ?_
              refine x_cV (as := [xV 1]) (rest := []) xc155_151 rfl xi165 xz87 ⟨rfl, rfl⟩ rfl rfl ?_
              exact k11 h0 h1 h13 h16 h17 h19 h21 h23

theorem w155b {ro : Nat → Nat × (Nat → Int32)} {d : Nat} {Q : Option Value → pmS → Prop} {v1 : Option Value} {a : xA} {b : xB} {t : Int → Int} {n p : Int} (hC : tR a t n p) (hp : 0 ≤ p ∧ p ≤ n) (hn : n ≤ 40) (hb : tB t) (hA : xAr a) {w o q x : Int} (h_x : xR x) (hw : a 87 14 = w) (ho : a 87 15 = o) (hq : a 87 13 = q) (hw0 : 0 ≤ w ∧ w ≤ 40) (ho0 : 0 ≤ o ∧ o ≤ 40) (hq0 : 0 ≤ q ∧ q ≤ 40) (hx : a 94 (w - 1) = x)
    (k1 : pmCs ro d 162 [.ref 87] (xS (xU (xU (xU a 87 14 (w - 1)) 87 13 (q - 1)) 87 10 (p + 1)) b) fun r σ' => pmWp ro d 12 155 2 107 [some (.ref 87), v1] (r.toList ++ []) σ' Q) :
    pmWp ro d 12 155 2 73 [some (.ref 87), v1] [] (xS a b) Q := by
  refine x_aloadn xc155_73 rfl ?_
  refine x_aloadn xc155_74 rfl ?_
  refine x_gfi' (k := 14) (v := w) xc155_75 rfl (Or.inl rfl) rfl xz87 hw ?_
  refine x_iconst xc155_78 ?_
  refine x_isub xc155_79 ?_
  refine x_pfi (k := 14) xc155_80 rfl ⟨rfl, rfl⟩ rfl xz87 ?_
  refine x_aloadn xc155_83 rfl ?_
  refine x_aloadn xc155_84 rfl ?_
  refine x_gfi' (k := 13) (v := q) xc155_85 rfl (Or.inl rfl) rfl xz87 (by rw [xUk (by decide), hq]) ?_
  refine x_iconst xc155_88 ?_
  refine x_isub xc155_89 ?_
  refine x_pfi (k := 13) xc155_90 rfl ⟨rfl, rfl⟩ rfl xz87 ?_
  refine x_aloadn xc155_93 rfl ?_
  refine x_aloadn xc155_94 rfl ?_
  refine x_gfi' (k := 10) (v := p) xc155_95 rfl (Or.inl rfl) rfl xz87 (by rw [xUk (by decide), xUk (by decide), hC.2.2]) ?_
  refine x_iconst xc155_98 ?_
  refine x_iadd xc155_99 ?_
  refine x_pfi (k := 10) xc155_100 rfl ⟨rfl, rfl⟩ rfl xz87 ?_
  refine x_aloadn xc155_103 rfl ?_
  refine x_cV (as := []) (rest := []) xc155_104 rfl xi162 xz87 ⟨rfl, rfl⟩ rfl rfl ?_
  exact k1

theorem w155c {ro : Nat → Nat × (Nat → Int32)} {d : Nat} {Q : Option Value → pmS → Prop} {v1 : Option Value} {a : xA} {b : xB}
    (k1 : pmWp ro d 12 155 2 52 [some (.ref 87), v1] [] (xS a b) Q) :
    pmWp ro d 12 155 2 107 [some (.ref 87), v1] [] (xS a b) Q := by
  refine x_goto xc155_107 ?_
  exact k1

theorem w155d38 {ro : Nat → Nat × (Nat → Int32)} {d : Nat} {Q : Option Value → pmS → Prop} {a : xA} {b : xB} {t : Int → Int} {n p : Int} (hC : tR a t n p) (hp : 0 ≤ p ∧ p ≤ n) (hn : n ≤ 40) (hb : tB t) (hA : xAr a) {w o q x : Int} (h_x : xR x) (hw : a 87 14 = w) (ho : a 87 15 = o) (hq : a 87 13 = q) (hw0 : 0 ≤ w ∧ w ≤ 40) (ho0 : 0 ≤ o ∧ o ≤ 40) (hq0 : 0 ≤ q ∧ q ≤ 40) (hx : a 94 (w - 1) = x)
    (k1 : pmWp ro d 12 155 2 0 [some (.ref 87), some (xV 38)] [] (xS (xU (xU (xU a 94 w 5) 87 14 (w + 1)) 87 10 (p + 1)) b) Q) :
    pmWp ro d 12 155 2 171 [some (.ref 87), some (xV 38)] [] (xS a b) Q := by
  refine x_aloadn xc155_171 rfl ?_
  refine x_gfr xc155_172 rfl rfl xz87 rfl ?_
  refine x_aloadn xc155_175 rfl ?_
  refine x_gfi' (k := 14) (v := w) xc155_176 rfl (Or.inl rfl) rfl xz87 hw ?_
  refine x_iloadn xc155_179 rfl ?_
  refine x_bipush xc155_180 (by decide) ?_
  refine x_icne xc155_182 (xRk (by decide)) (xRk (by decide)) (fun h => absurd h (by omega)) (fun _ => ?_)
  refine x_iconst xc155_185 ?_
  refine x_goto xc155_186 ?_
  refine x_ias xc155_191 xz94 (by omega) (by omega) (by omega) ?_
  refine x_aloadn xc155_192 rfl ?_
  refine x_aloadn xc155_193 rfl ?_
  refine x_gfi' (k := 14) (v := w) xc155_194 rfl (Or.inl rfl) rfl xz87 (by rw [xUn (by decide), hw]) ?_
  refine x_iconst xc155_197 ?_
  refine x_iadd xc155_198 ?_
  refine x_pfi (k := 14) xc155_199 rfl ⟨rfl, rfl⟩ rfl xz87 ?_
  refine x_aloadn xc155_202 rfl ?_
  refine x_aloadn xc155_203 rfl ?_
  refine x_gfi' (k := 10) (v := p) xc155_204 rfl (Or.inl rfl) rfl xz87 (by rw [xUk (by decide), xUn (by decide), hC.2.2]) ?_
  refine x_iconst xc155_207 ?_
  refine x_iadd xc155_208 ?_
  refine x_pfi (k := 10) xc155_209 rfl ⟨rfl, rfl⟩ rfl xz87 ?_
  refine x_goto xc155_212 ?_
  exact k1

theorem w155d124 {ro : Nat → Nat × (Nat → Int32)} {d : Nat} {Q : Option Value → pmS → Prop} {a : xA} {b : xB} {t : Int → Int} {n p : Int} (hC : tR a t n p) (hp : 0 ≤ p ∧ p ≤ n) (hn : n ≤ 40) (hb : tB t) (hA : xAr a) {w o q x : Int} (h_x : xR x) (hw : a 87 14 = w) (ho : a 87 15 = o) (hq : a 87 13 = q) (hw0 : 0 ≤ w ∧ w ≤ 40) (ho0 : 0 ≤ o ∧ o ≤ 40) (hq0 : 0 ≤ q ∧ q ≤ 40) (hx : a 94 (w - 1) = x)
    (k1 : pmWp ro d 12 155 2 0 [some (.ref 87), some (xV 124)] [] (xS (xU (xU (xU a 94 w 6) 87 14 (w + 1)) 87 10 (p + 1)) b) Q) :
    pmWp ro d 12 155 2 171 [some (.ref 87), some (xV 124)] [] (xS a b) Q := by
  refine x_aloadn xc155_171 rfl ?_
  refine x_gfr xc155_172 rfl rfl xz87 rfl ?_
  refine x_aloadn xc155_175 rfl ?_
  refine x_gfi' (k := 14) (v := w) xc155_176 rfl (Or.inl rfl) rfl xz87 hw ?_
  refine x_iloadn xc155_179 rfl ?_
  refine x_bipush xc155_180 (by decide) ?_
  refine x_icne xc155_182 (xRk (by decide)) (xRk (by decide)) (fun _ => ?_) (fun h => absurd h (by omega))
  refine x_bipush xc155_189 (by decide) ?_
  refine x_ias xc155_191 xz94 (by omega) (by omega) (by omega) ?_
  refine x_aloadn xc155_192 rfl ?_
  refine x_aloadn xc155_193 rfl ?_
  refine x_gfi' (k := 14) (v := w) xc155_194 rfl (Or.inl rfl) rfl xz87 (by rw [xUn (by decide), hw]) ?_
  refine x_iconst xc155_197 ?_
  refine x_iadd xc155_198 ?_
  refine x_pfi (k := 14) xc155_199 rfl ⟨rfl, rfl⟩ rfl xz87 ?_
  refine x_aloadn xc155_202 rfl ?_
  refine x_aloadn xc155_203 rfl ?_
  refine x_gfi' (k := 10) (v := p) xc155_204 rfl (Or.inl rfl) rfl xz87 (by rw [xUk (by decide), xUn (by decide), hC.2.2]) ?_
  refine x_iconst xc155_207 ?_
  refine x_iadd xc155_208 ?_
  refine x_pfi (k := 10) xc155_209 rfl ⟨rfl, rfl⟩ rfl xz87 ?_
  refine x_goto xc155_212 ?_
  exact k1

theorem w155e {ro : Nat → Nat × (Nat → Int32)} {d : Nat} {Q : Option Value → pmS → Prop} {v1 : Option Value} {a : xA} {b : xB}
    (k1 : Q (some (xV 1)) (xS a b)) :
    pmWp ro d 12 155 2 154 [some (.ref 87), v1] [] (xS a b) Q := by
  refine x_iconst xc155_154 ?_
  refine x_iret xc155_155 (Or.inr ⟨rfl, (by omega)⟩) ?_
  exact k1

end
