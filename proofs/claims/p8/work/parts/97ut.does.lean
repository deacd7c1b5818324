/-! exact: the reference does -/
section
set_option maxRecDepth 100000
theorem xi209 : pmInf[209]? = some pmI_209 := rfl
theorem xi210 : pmInf[210]? = some pmI_210 := rfl
theorem xi211 : pmInf[211]? = some pmI_211 := rfl
theorem xc209_0 : pmCode 209 0 = some (.aload_n 0) ∧ 0 + 1 = 1 := ⟨rfl, rfl⟩
theorem xc209_1 : pmCode 209 1 = some (.iload_n 1) ∧ 1 + 1 = 2 := ⟨rfl, rfl⟩
theorem xc209_2 : pmCode 209 2 = some (.iload_n 2) ∧ 2 + 1 = 3 := ⟨rfl, rfl⟩
theorem xc209_3 : pmCode 209 3 = some (.invokevirtual 351) ∧ 3 + 3 = 6 := ⟨rfl, rfl⟩
theorem xc209_6 : pmCode 209 6 = some (.istore_n 3) ∧ 6 + 1 = 7 := ⟨rfl, rfl⟩
theorem xc209_7 : pmCode 209 7 = some (.iload_n 2) ∧ 7 + 1 = 8 := ⟨rfl, rfl⟩
theorem xc209_8 : pmCode 209 8 = some (.invokestatic 276) ∧ 8 + 3 = 11 := ⟨rfl, rfl⟩
theorem xc209_11 : pmCode 209 11 = some (.istore 4) ∧ 11 + 2 = 13 := ⟨rfl, rfl⟩
theorem xc209_13 : pmCode 209 13 = some (.iload_n 2) ∧ 13 + 1 = 14 := ⟨rfl, rfl⟩
theorem xc209_14 : pmCode 209 14 = some (.invokestatic 282) ∧ 14 + 3 = 17 := ⟨rfl, rfl⟩
theorem xc209_17 : pmCode 209 17 = some (.istore 5) ∧ 17 + 2 = 19 := ⟨rfl, rfl⟩
theorem xc209_19 : pmCode 209 19 = some (.iload_n 2) ∧ 19 + 1 = 20 := ⟨rfl, rfl⟩
theorem xc209_20 : pmCode 209 20 = some (.invokestatic 279) ∧ 20 + 3 = 23 := ⟨rfl, rfl⟩
theorem xc209_23 : pmCode 209 23 = some (.tableswitch 109 1 5 #[33, 46, 62, 82, 99]) ∧ ((23 : Nat) : Int) + 109 = ((132 : Nat) : Int) := ⟨rfl, rfl⟩
theorem xc209_56 : pmCode 209 56 = some (.aload_n 0) ∧ 56 + 1 = 57 := ⟨rfl, rfl⟩
theorem xc209_57 : pmCode 209 57 = some (.getfield 7) ∧ 57 + 3 = 60 := ⟨rfl, rfl⟩
theorem xc209_60 : pmCode 209 60 = some (.iconst 0) ∧ 60 + 1 = 61 := ⟨rfl, rfl⟩
theorem xc209_61 : pmCode 209 61 = some (.iload_n 1) ∧ 61 + 1 = 62 := ⟨rfl, rfl⟩
theorem xc209_62 : pmCode 209 62 = some .iadd ∧ 62 + 1 = 63 := ⟨rfl, rfl⟩
theorem xc209_63 : pmCode 209 63 = some (.iload 4) ∧ 63 + 2 = 65 := ⟨rfl, rfl⟩
theorem xc209_65 : pmCode 209 65 = some .iastore ∧ 65 + 1 = 66 := ⟨rfl, rfl⟩
theorem xc209_66 : pmCode 209 66 = some (.goto 105) ∧ ((66 : Nat) : Int) + 105 = ((171 : Nat) : Int) := ⟨rfl, rfl⟩
theorem xc209_69 : pmCode 209 69 = some (.aload_n 0) ∧ 69 + 1 = 70 := ⟨rfl, rfl⟩
theorem xc209_70 : pmCode 209 70 = some (.getfield 7) ∧ 70 + 3 = 73 := ⟨rfl, rfl⟩
theorem xc209_73 : pmCode 209 73 = some (.iconst 4) ∧ 73 + 1 = 74 := ⟨rfl, rfl⟩
theorem xc209_74 : pmCode 209 74 = some (.iload 4) ∧ 74 + 2 = 76 := ⟨rfl, rfl⟩
theorem xc209_76 : pmCode 209 76 = some .iadd ∧ 76 + 1 = 77 := ⟨rfl, rfl⟩
theorem xc209_77 : pmCode 209 77 = some (.bipush 10) ∧ 77 + 2 = 79 := ⟨rfl, rfl⟩
theorem xc209_79 : pmCode 209 79 = some (.iload_n 1) ∧ 79 + 1 = 80 := ⟨rfl, rfl⟩
theorem xc209_80 : pmCode 209 80 = some .iadd ∧ 80 + 1 = 81 := ⟨rfl, rfl⟩
theorem xc209_81 : pmCode 209 81 = some .iastore ∧ 81 + 1 = 82 := ⟨rfl, rfl⟩
theorem xc209_82 : pmCode 209 82 = some (.goto 89) ∧ ((82 : Nat) : Int) + 89 = ((171 : Nat) : Int) := ⟨rfl, rfl⟩
theorem xc209_85 : pmCode 209 85 = some (.aload_n 0) ∧ 85 + 1 = 86 := ⟨rfl, rfl⟩
theorem xc209_86 : pmCode 209 86 = some (.getfield 7) ∧ 86 + 3 = 89 := ⟨rfl, rfl⟩
theorem xc209_89 : pmCode 209 89 = some (.iconst 4) ∧ 89 + 1 = 90 := ⟨rfl, rfl⟩
theorem xc209_90 : pmCode 209 90 = some (.iload 4) ∧ 90 + 2 = 92 := ⟨rfl, rfl⟩
theorem xc209_92 : pmCode 209 92 = some .iadd ∧ 92 + 1 = 93 := ⟨rfl, rfl⟩
theorem xc209_93 : pmCode 209 93 = some (.aload_n 0) ∧ 93 + 1 = 94 := ⟨rfl, rfl⟩
theorem xc209_94 : pmCode 209 94 = some (.getfield 7) ∧ 94 + 3 = 97 := ⟨rfl, rfl⟩
theorem xc209_97 : pmCode 209 97 = some (.iconst 0) ∧ 97 + 1 = 98 := ⟨rfl, rfl⟩
theorem xc209_98 : pmCode 209 98 = some (.iload_n 1) ∧ 98 + 1 = 99 := ⟨rfl, rfl⟩
theorem xc209_99 : pmCode 209 99 = some .iadd ∧ 99 + 1 = 100 := ⟨rfl, rfl⟩
theorem xc209_100 : pmCode 209 100 = some .iaload ∧ 100 + 1 = 101 := ⟨rfl, rfl⟩
theorem xc209_101 : pmCode 209 101 = some .iastore ∧ 101 + 1 = 102 := ⟨rfl, rfl⟩
theorem xc209_102 : pmCode 209 102 = some (.goto 69) ∧ ((102 : Nat) : Int) + 69 = ((171 : Nat) : Int) := ⟨rfl, rfl⟩
theorem xc209_105 : pmCode 209 105 = some (.aload_n 0) ∧ 105 + 1 = 106 := ⟨rfl, rfl⟩
theorem xc209_106 : pmCode 209 106 = some (.getfield 7) ∧ 106 + 3 = 109 := ⟨rfl, rfl⟩
theorem xc209_109 : pmCode 209 109 = some (.iconst 4) ∧ 109 + 1 = 110 := ⟨rfl, rfl⟩
theorem xc209_110 : pmCode 209 110 = some (.iload 4) ∧ 110 + 2 = 112 := ⟨rfl, rfl⟩
theorem xc209_112 : pmCode 209 112 = some .iadd ∧ 112 + 1 = 113 := ⟨rfl, rfl⟩
theorem xc209_113 : pmCode 209 113 = some (.bipush 10) ∧ 113 + 2 = 115 := ⟨rfl, rfl⟩
theorem xc209_115 : pmCode 209 115 = some (.iload 5) ∧ 115 + 2 = 117 := ⟨rfl, rfl⟩
theorem xc209_117 : pmCode 209 117 = some .iadd ∧ 117 + 1 = 118 := ⟨rfl, rfl⟩
theorem xc209_118 : pmCode 209 118 = some .iastore ∧ 118 + 1 = 119 := ⟨rfl, rfl⟩
theorem xc209_119 : pmCode 209 119 = some (.goto 52) ∧ ((119 : Nat) : Int) + 52 = ((171 : Nat) : Int) := ⟨rfl, rfl⟩
theorem xc209_122 : pmCode 209 122 = some (.aload_n 0) ∧ 122 + 1 = 123 := ⟨rfl, rfl⟩
theorem xc209_123 : pmCode 209 123 = some (.iload_n 1) ∧ 123 + 1 = 124 := ⟨rfl, rfl⟩
theorem xc209_124 : pmCode 209 124 = some (.iload 4) ∧ 124 + 2 = 126 := ⟨rfl, rfl⟩
theorem xc209_126 : pmCode 209 126 = some (.invokevirtual 354) ∧ 126 + 3 = 129 := ⟨rfl, rfl⟩
theorem xc209_129 : pmCode 209 129 = some (.goto 42) ∧ ((129 : Nat) : Int) + 42 = ((171 : Nat) : Int) := ⟨rfl, rfl⟩
theorem xc209_132 : pmCode 209 132 = some (.aload_n 0) ∧ 132 + 1 = 133 := ⟨rfl, rfl⟩
theorem xc209_133 : pmCode 209 133 = some (.getfield 7) ∧ 133 + 3 = 136 := ⟨rfl, rfl⟩
theorem xc209_136 : pmCode 209 136 = some (.iload 5) ∧ 136 + 2 = 138 := ⟨rfl, rfl⟩
theorem xc209_138 : pmCode 209 138 = some (.iload 4) ∧ 138 + 2 = 140 := ⟨rfl, rfl⟩
theorem xc209_140 : pmCode 209 140 = some (.invokestatic 160) ∧ 140 + 3 = 143 := ⟨rfl, rfl⟩
theorem xc209_143 : pmCode 209 143 = some (.aload_n 0) ∧ 143 + 1 = 144 := ⟨rfl, rfl⟩
theorem xc209_144 : pmCode 209 144 = some (.getfield 7) ∧ 144 + 3 = 147 := ⟨rfl, rfl⟩
theorem xc209_147 : pmCode 209 147 = some (.iconst 4) ∧ 147 + 1 = 148 := ⟨rfl, rfl⟩
theorem xc209_148 : pmCode 209 148 = some (.iload 4) ∧ 148 + 2 = 150 := ⟨rfl, rfl⟩
theorem xc209_150 : pmCode 209 150 = some .iadd ∧ 150 + 1 = 151 := ⟨rfl, rfl⟩
theorem xc209_151 : pmCode 209 151 = some .iaload ∧ 151 + 1 = 152 := ⟨rfl, rfl⟩
theorem xc209_152 : pmCode 209 152 = some (.bipush 20) ∧ 152 + 2 = 154 := ⟨rfl, rfl⟩
theorem xc209_154 : pmCode 209 154 = some (.if_icmp .ne 7) ∧ ((154 : Nat) : Int) + 7 = ((161 : Nat) : Int) ∧ 154 + 3 = 157 := ⟨rfl, rfl, rfl⟩
theorem xc209_157 : pmCode 209 157 = some (.iconst (-1)) ∧ 157 + 1 = 158 := ⟨rfl, rfl⟩
theorem xc209_158 : pmCode 209 158 = some (.goto 12) ∧ ((158 : Nat) : Int) + 12 = ((170 : Nat) : Int) := ⟨rfl, rfl⟩
theorem xc209_161 : pmCode 209 161 = some (.aload_n 0) ∧ 161 + 1 = 162 := ⟨rfl, rfl⟩
theorem xc209_162 : pmCode 209 162 = some (.getfield 7) ∧ 162 + 3 = 165 := ⟨rfl, rfl⟩
theorem xc209_165 : pmCode 209 165 = some (.iconst 4) ∧ 165 + 1 = 166 := ⟨rfl, rfl⟩
theorem xc209_166 : pmCode 209 166 = some (.iload 4) ∧ 166 + 2 = 168 := ⟨rfl, rfl⟩
theorem xc209_168 : pmCode 209 168 = some .iadd ∧ 168 + 1 = 169 := ⟨rfl, rfl⟩
theorem xc209_169 : pmCode 209 169 = some .iaload ∧ 169 + 1 = 170 := ⟨rfl, rfl⟩
theorem xc209_170 : pmCode 209 170 = some .iastore ∧ 170 + 1 = 171 := ⟨rfl, rfl⟩
theorem xc209_171 : pmCode 209 171 = some (.aload_n 0) ∧ 171 + 1 = 172 := ⟨rfl, rfl⟩
theorem xc209_172 : pmCode 209 172 = some (.getfield 7) ∧ 172 + 3 = 175 := ⟨rfl, rfl⟩
theorem xc209_175 : pmCode 209 175 = some (.bipush 119) ∧ 175 + 2 = 177 := ⟨rfl, rfl⟩
theorem xc209_177 : pmCode 209 177 = some (.aload_n 0) ∧ 177 + 1 = 178 := ⟨rfl, rfl⟩
theorem xc209_178 : pmCode 209 178 = some (.getfield 7) ∧ 178 + 3 = 181 := ⟨rfl, rfl⟩
theorem xc209_181 : pmCode 209 181 = some (.bipush 119) ∧ 181 + 2 = 183 := ⟨rfl, rfl⟩
theorem xc209_183 : pmCode 209 183 = some .iaload ∧ 183 + 1 = 184 := ⟨rfl, rfl⟩
theorem xc209_184 : pmCode 209 184 = some (.iconst 1) ∧ 184 + 1 = 185 := ⟨rfl, rfl⟩
theorem xc209_185 : pmCode 209 185 = some .iadd ∧ 185 + 1 = 186 := ⟨rfl, rfl⟩
theorem xc209_186 : pmCode 209 186 = some .iastore ∧ 186 + 1 = 187 := ⟨rfl, rfl⟩
theorem xc209_187 : pmCode 209 187 = some (.aload_n 0) ∧ 187 + 1 = 188 := ⟨rfl, rfl⟩
theorem xc209_188 : pmCode 209 188 = some (.iload_n 1) ∧ 188 + 1 = 189 := ⟨rfl, rfl⟩
theorem xc209_189 : pmCode 209 189 = some (.iload_n 2) ∧ 189 + 1 = 190 := ⟨rfl, rfl⟩
theorem xc209_190 : pmCode 209 190 = some (.iload_n 3) ∧ 190 + 1 = 191 := ⟨rfl, rfl⟩
theorem xc209_191 : pmCode 209 191 = some (.invokevirtual 357) ∧ 191 + 3 = 194 := ⟨rfl, rfl⟩
theorem xc209_194 : pmCode 209 194 = some (.aload_n 0) ∧ 194 + 1 = 195 := ⟨rfl, rfl⟩
theorem xc209_195 : pmCode 209 195 = some (.invokevirtual 333) ∧ 195 + 3 = 198 := ⟨rfl, rfl⟩
theorem xc209_198 : pmCode 209 198 = some (.iload_n 3) ∧ 198 + 1 = 199 := ⟨rfl, rfl⟩
theorem xc209_199 : pmCode 209 199 = some .ireturn := rfl
theorem xc210_0 : pmCode 210 0 = some (.iconst 0) ∧ 0 + 1 = 1 := ⟨rfl, rfl⟩
theorem xc210_1 : pmCode 210 1 = some (.istore_n 3) ∧ 1 + 1 = 2 := ⟨rfl, rfl⟩
theorem xc210_2 : pmCode 210 2 = some (.iload_n 2) ∧ 2 + 1 = 3 := ⟨rfl, rfl⟩
theorem xc210_3 : pmCode 210 3 = some (.invokestatic 279) ∧ 3 + 3 = 6 := ⟨rfl, rfl⟩
theorem xc210_6 : pmCode 210 6 = some (.iconst 1) ∧ 6 + 1 = 7 := ⟨rfl, rfl⟩
theorem xc210_7 : pmCode 210 7 = some (.if_icmp .ne 7) ∧ ((7 : Nat) : Int) + 7 = ((14 : Nat) : Int) ∧ 7 + 3 = 10 := ⟨rfl, rfl, rfl⟩
theorem xc210_10 : pmCode 210 10 = some (.iconst 1) ∧ 10 + 1 = 11 := ⟨rfl, rfl⟩
theorem xc210_11 : pmCode 210 11 = some (.goto 4) ∧ ((11 : Nat) : Int) + 4 = ((15 : Nat) : Int) := ⟨rfl, rfl⟩
theorem xc210_14 : pmCode 210 14 = some (.iconst 0) ∧ 14 + 1 = 15 := ⟨rfl, rfl⟩
theorem xc210_15 : pmCode 210 15 = some (.istore 4) ∧ 15 + 2 = 17 := ⟨rfl, rfl⟩
theorem xc210_17 : pmCode 210 17 = some (.iconst 0) ∧ 17 + 1 = 18 := ⟨rfl, rfl⟩
theorem xc210_18 : pmCode 210 18 = some (.istore 5) ∧ 18 + 2 = 20 := ⟨rfl, rfl⟩
theorem xc210_20 : pmCode 210 20 = some (.iload 5) ∧ 20 + 2 = 22 := ⟨rfl, rfl⟩
theorem xc210_22 : pmCode 210 22 = some (.iconst 4) ∧ 22 + 1 = 23 := ⟨rfl, rfl⟩
theorem xc210_23 : pmCode 210 23 = some (.if_icmp .ge 108) ∧ ((23 : Nat) : Int) + 108 = ((131 : Nat) : Int) ∧ 23 + 3 = 26 := ⟨rfl, rfl, rfl⟩
theorem xc210_26 : pmCode 210 26 = some (.iload 5) ∧ 26 + 2 = 28 := ⟨rfl, rfl⟩
theorem xc210_28 : pmCode 210 28 = some (.iload_n 1) ∧ 28 + 1 = 29 := ⟨rfl, rfl⟩
theorem xc210_29 : pmCode 210 29 = some (.if_icmp .eq 96) ∧ ((29 : Nat) : Int) + 96 = ((125 : Nat) : Int) ∧ 29 + 3 = 32 := ⟨rfl, rfl, rfl⟩
theorem xc210_32 : pmCode 210 32 = some (.iload_n 2) ∧ 32 + 1 = 33 := ⟨rfl, rfl⟩
theorem xc210_33 : pmCode 210 33 = some (.invokestatic 279) ∧ 33 + 3 = 36 := ⟨rfl, rfl⟩
theorem xc210_36 : pmCode 210 36 = some (.iconst 5) ∧ 36 + 1 = 37 := ⟨rfl, rfl⟩
theorem xc210_37 : pmCode 210 37 = some (.if_icmp .ne 12) ∧ ((37 : Nat) : Int) + 12 = ((49 : Nat) : Int) ∧ 37 + 3 = 40 := ⟨rfl, rfl, rfl⟩
theorem xc210_40 : pmCode 210 40 = some (.iload 5) ∧ 40 + 2 = 42 := ⟨rfl, rfl⟩
theorem xc210_42 : pmCode 210 42 = some (.iload_n 2) ∧ 42 + 1 = 43 := ⟨rfl, rfl⟩
theorem xc210_43 : pmCode 210 43 = some (.invokestatic 276) ∧ 43 + 3 = 46 := ⟨rfl, rfl⟩
theorem xc210_46 : pmCode 210 46 = some (.if_icmp .eq 79) ∧ ((46 : Nat) : Int) + 79 = ((125 : Nat) : Int) ∧ 46 + 3 = 49 := ⟨rfl, rfl, rfl⟩
theorem xc210_49 : pmCode 210 49 = some (.aload_n 0) ∧ 49 + 1 = 50 := ⟨rfl, rfl⟩
theorem xc210_50 : pmCode 210 50 = some (.iload 5) ∧ 50 + 2 = 52 := ⟨rfl, rfl⟩
theorem xc210_52 : pmCode 210 52 = some (.invokevirtual 253) ∧ 52 + 3 = 55 := ⟨rfl, rfl⟩
theorem xc210_55 : pmCode 210 55 = some (.ifCond .ne 6) ∧ ((55 : Nat) : Int) + 6 = ((61 : Nat) : Int) ∧ 55 + 3 = 58 := ⟨rfl, rfl, rfl⟩
theorem xc210_58 : pmCode 210 58 = some (.goto 67) ∧ ((58 : Nat) : Int) + 67 = ((125 : Nat) : Int) := ⟨rfl, rfl⟩
theorem xc210_61 : pmCode 210 61 = some (.aload_n 0) ∧ 61 + 1 = 62 := ⟨rfl, rfl⟩
theorem xc210_62 : pmCode 210 62 = some (.getfield 7) ∧ 62 + 3 = 65 := ⟨rfl, rfl⟩
theorem xc210_65 : pmCode 210 65 = some (.iconst 0) ∧ 65 + 1 = 66 := ⟨rfl, rfl⟩
theorem xc210_66 : pmCode 210 66 = some (.iload 5) ∧ 66 + 2 = 68 := ⟨rfl, rfl⟩
theorem xc210_68 : pmCode 210 68 = some .iadd ∧ 68 + 1 = 69 := ⟨rfl, rfl⟩
theorem xc210_69 : pmCode 210 69 = some .iaload ∧ 69 + 1 = 70 := ⟨rfl, rfl⟩
theorem xc210_70 : pmCode 210 70 = some (.aload_n 0) ∧ 70 + 1 = 71 := ⟨rfl, rfl⟩
theorem xc210_71 : pmCode 210 71 = some (.getfield 7) ∧ 71 + 3 = 74 := ⟨rfl, rfl⟩
theorem xc210_74 : pmCode 210 74 = some (.iconst 0) ∧ 74 + 1 = 75 := ⟨rfl, rfl⟩
theorem xc210_75 : pmCode 210 75 = some (.iload_n 1) ∧ 75 + 1 = 76 := ⟨rfl, rfl⟩
theorem xc210_76 : pmCode 210 76 = some .iadd ∧ 76 + 1 = 77 := ⟨rfl, rfl⟩
theorem xc210_77 : pmCode 210 77 = some .iaload ∧ 77 + 1 = 78 := ⟨rfl, rfl⟩
theorem xc210_78 : pmCode 210 78 = some (.if_icmp .eq 24) ∧ ((78 : Nat) : Int) + 24 = ((102 : Nat) : Int) ∧ 78 + 3 = 81 := ⟨rfl, rfl, rfl⟩
theorem xc210_81 : pmCode 210 81 = some (.iload 4) ∧ 81 + 2 = 83 := ⟨rfl, rfl⟩
theorem xc210_83 : pmCode 210 83 = some (.ifCond .eq 23) ∧ ((83 : Nat) : Int) + 23 = ((106 : Nat) : Int) ∧ 83 + 3 = 86 := ⟨rfl, rfl, rfl⟩
theorem xc210_86 : pmCode 210 86 = some (.aload_n 0) ∧ 86 + 1 = 87 := ⟨rfl, rfl⟩
theorem xc210_87 : pmCode 210 87 = some (.getfield 7) ∧ 87 + 3 = 90 := ⟨rfl, rfl⟩
theorem xc210_90 : pmCode 210 90 = some (.iconst 0) ∧ 90 + 1 = 91 := ⟨rfl, rfl⟩
theorem xc210_91 : pmCode 210 91 = some (.iload 5) ∧ 91 + 2 = 93 := ⟨rfl, rfl⟩
theorem xc210_93 : pmCode 210 93 = some .iadd ∧ 93 + 1 = 94 := ⟨rfl, rfl⟩
theorem xc210_94 : pmCode 210 94 = some .iaload ∧ 94 + 1 = 95 := ⟨rfl, rfl⟩
theorem xc210_95 : pmCode 210 95 = some (.iload_n 2) ∧ 95 + 1 = 96 := ⟨rfl, rfl⟩
theorem xc210_96 : pmCode 210 96 = some (.invokestatic 276) ∧ 96 + 3 = 99 := ⟨rfl, rfl⟩
theorem xc210_99 : pmCode 210 99 = some (.if_icmp .ne 7) ∧ ((99 : Nat) : Int) + 7 = ((106 : Nat) : Int) ∧ 99 + 3 = 102 := ⟨rfl, rfl, rfl⟩
theorem xc210_102 : pmCode 210 102 = some (.iconst 1) ∧ 102 + 1 = 103 := ⟨rfl, rfl⟩
theorem xc210_103 : pmCode 210 103 = some (.goto 4) ∧ ((103 : Nat) : Int) + 4 = ((107 : Nat) : Int) := ⟨rfl, rfl⟩
theorem xc210_106 : pmCode 210 106 = some (.iconst 0) ∧ 106 + 1 = 107 := ⟨rfl, rfl⟩
theorem xc210_107 : pmCode 210 107 = some (.istore 6) ∧ 107 + 2 = 109 := ⟨rfl, rfl⟩
theorem xc210_109 : pmCode 210 109 = some (.iload 6) ∧ 109 + 2 = 111 := ⟨rfl, rfl⟩
theorem xc210_111 : pmCode 210 111 = some (.ifCond .eq 12) ∧ ((111 : Nat) : Int) + 12 = ((123 : Nat) : Int) ∧ 111 + 3 = 114 := ⟨rfl, rfl, rfl⟩
theorem xc210_114 : pmCode 210 114 = some (.iload_n 3) ∧ 114 + 1 = 115 := ⟨rfl, rfl⟩
theorem xc210_115 : pmCode 210 115 = some (.iconst 1) ∧ 115 + 1 = 116 := ⟨rfl, rfl⟩
theorem xc210_116 : pmCode 210 116 = some (.iload 5) ∧ 116 + 2 = 118 := ⟨rfl, rfl⟩
theorem xc210_118 : pmCode 210 118 = some .ishl ∧ 118 + 1 = 119 := ⟨rfl, rfl⟩
theorem xc210_119 : pmCode 210 119 = some .ior ∧ 119 + 1 = 120 := ⟨rfl, rfl⟩
theorem xc210_120 : pmCode 210 120 = some (.goto 4) ∧ ((120 : Nat) : Int) + 4 = ((124 : Nat) : Int) := ⟨rfl, rfl⟩
theorem xc210_123 : pmCode 210 123 = some (.iload_n 3) ∧ 123 + 1 = 124 := ⟨rfl, rfl⟩
theorem xc210_124 : pmCode 210 124 = some (.istore_n 3) ∧ 124 + 1 = 125 := ⟨rfl, rfl⟩
theorem xc210_125 : pmCode 210 125 = some (.iinc 5 1) ∧ 125 + 3 = 128 := ⟨rfl, rfl⟩
theorem xc210_128 : pmCode 210 128 = some (.goto (-108)) ∧ ((128 : Nat) : Int) + (-108) = ((20 : Nat) : Int) := ⟨rfl, rfl⟩
theorem xc210_131 : pmCode 210 131 = some (.iload_n 3) ∧ 131 + 1 = 132 := ⟨rfl, rfl⟩
theorem xc210_132 : pmCode 210 132 = some .ireturn := rfl
theorem xc211_0 : pmCode 211 0 = some (.aload_n 0) ∧ 0 + 1 = 1 := ⟨rfl, rfl⟩
theorem xc211_1 : pmCode 211 1 = some (.getfield 7) ∧ 1 + 3 = 4 := ⟨rfl, rfl⟩
theorem xc211_4 : pmCode 211 4 = some (.iconst 0) ∧ 4 + 1 = 5 := ⟨rfl, rfl⟩
theorem xc211_5 : pmCode 211 5 = some (.iload_n 1) ∧ 5 + 1 = 6 := ⟨rfl, rfl⟩
theorem xc211_6 : pmCode 211 6 = some .iadd ∧ 6 + 1 = 7 := ⟨rfl, rfl⟩
theorem xc211_7 : pmCode 211 7 = some .iaload ∧ 7 + 1 = 8 := ⟨rfl, rfl⟩
theorem xc211_8 : pmCode 211 8 = some (.istore_n 3) ∧ 8 + 1 = 9 := ⟨rfl, rfl⟩
theorem xc211_9 : pmCode 211 9 = some (.aload_n 0) ∧ 9 + 1 = 10 := ⟨rfl, rfl⟩
theorem xc211_10 : pmCode 211 10 = some (.getfield 7) ∧ 10 + 3 = 13 := ⟨rfl, rfl⟩
theorem xc211_13 : pmCode 211 13 = some (.iconst 0) ∧ 13 + 1 = 14 := ⟨rfl, rfl⟩
theorem xc211_14 : pmCode 211 14 = some (.iload_n 2) ∧ 14 + 1 = 15 := ⟨rfl, rfl⟩
theorem xc211_15 : pmCode 211 15 = some .iadd ∧ 15 + 1 = 16 := ⟨rfl, rfl⟩
theorem xc211_16 : pmCode 211 16 = some (.bipush 7) ∧ 16 + 2 = 18 := ⟨rfl, rfl⟩
theorem xc211_18 : pmCode 211 18 = some .iastore ∧ 18 + 1 = 19 := ⟨rfl, rfl⟩
theorem xc211_19 : pmCode 211 19 = some (.iconst 0) ∧ 19 + 1 = 20 := ⟨rfl, rfl⟩
theorem xc211_20 : pmCode 211 20 = some (.istore 4) ∧ 20 + 2 = 22 := ⟨rfl, rfl⟩
theorem xc211_22 : pmCode 211 22 = some (.iload 4) ∧ 22 + 2 = 24 := ⟨rfl, rfl⟩
theorem xc211_24 : pmCode 211 24 = some (.aload_n 0) ∧ 24 + 1 = 25 := ⟨rfl, rfl⟩
theorem xc211_25 : pmCode 211 25 = some (.getfield 127) ∧ 25 + 3 = 28 := ⟨rfl, rfl⟩
theorem xc211_28 : pmCode 211 28 = some (.if_icmp .ge 47) ∧ ((28 : Nat) : Int) + 47 = ((75 : Nat) : Int) ∧ 28 + 3 = 31 := ⟨rfl, rfl, rfl⟩
theorem xc211_31 : pmCode 211 31 = some (.aload_n 0) ∧ 31 + 1 = 32 := ⟨rfl, rfl⟩
theorem xc211_32 : pmCode 211 32 = some (.getfield 7) ∧ 32 + 3 = 35 := ⟨rfl, rfl⟩
theorem xc211_35 : pmCode 211 35 = some (.iconst 4) ∧ 35 + 1 = 36 := ⟨rfl, rfl⟩
theorem xc211_36 : pmCode 211 36 = some (.iload 4) ∧ 36 + 2 = 38 := ⟨rfl, rfl⟩
theorem xc211_38 : pmCode 211 38 = some .iadd ∧ 38 + 1 = 39 := ⟨rfl, rfl⟩
theorem xc211_39 : pmCode 211 39 = some (.aload_n 0) ∧ 39 + 1 = 40 := ⟨rfl, rfl⟩
theorem xc211_40 : pmCode 211 40 = some (.getfield 7) ∧ 40 + 3 = 43 := ⟨rfl, rfl⟩
theorem xc211_43 : pmCode 211 43 = some (.iconst 4) ∧ 43 + 1 = 44 := ⟨rfl, rfl⟩
theorem xc211_44 : pmCode 211 44 = some (.iload 4) ∧ 44 + 2 = 46 := ⟨rfl, rfl⟩
theorem xc211_46 : pmCode 211 46 = some .iadd ∧ 46 + 1 = 47 := ⟨rfl, rfl⟩
theorem xc211_47 : pmCode 211 47 = some .iaload ∧ 47 + 1 = 48 := ⟨rfl, rfl⟩
theorem xc211_48 : pmCode 211 48 = some (.bipush 10) ∧ 48 + 2 = 50 := ⟨rfl, rfl⟩
theorem xc211_50 : pmCode 211 50 = some (.iload_n 2) ∧ 50 + 1 = 51 := ⟨rfl, rfl⟩
theorem xc211_51 : pmCode 211 51 = some .iadd ∧ 51 + 1 = 52 := ⟨rfl, rfl⟩
theorem xc211_52 : pmCode 211 52 = some (.if_icmp .ne 7) ∧ ((52 : Nat) : Int) + 7 = ((59 : Nat) : Int) ∧ 52 + 3 = 55 := ⟨rfl, rfl, rfl⟩
theorem xc211_55 : pmCode 211 55 = some (.iload_n 3) ∧ 55 + 1 = 56 := ⟨rfl, rfl⟩
theorem xc211_56 : pmCode 211 56 = some (.goto 12) ∧ ((56 : Nat) : Int) + 12 = ((68 : Nat) : Int) := ⟨rfl, rfl⟩
theorem xc211_59 : pmCode 211 59 = some (.aload_n 0) ∧ 59 + 1 = 60 := ⟨rfl, rfl⟩
theorem xc211_60 : pmCode 211 60 = some (.getfield 7) ∧ 60 + 3 = 63 := ⟨rfl, rfl⟩
theorem xc211_63 : pmCode 211 63 = some (.iconst 4) ∧ 63 + 1 = 64 := ⟨rfl, rfl⟩
theorem xc211_64 : pmCode 211 64 = some (.iload 4) ∧ 64 + 2 = 66 := ⟨rfl, rfl⟩
theorem xc211_66 : pmCode 211 66 = some .iadd ∧ 66 + 1 = 67 := ⟨rfl, rfl⟩
theorem xc211_67 : pmCode 211 67 = some .iaload ∧ 67 + 1 = 68 := ⟨rfl, rfl⟩
theorem xc211_68 : pmCode 211 68 = some .iastore ∧ 68 + 1 = 69 := ⟨rfl, rfl⟩
theorem xc211_69 : pmCode 211 69 = some (.iinc 4 1) ∧ 69 + 3 = 72 := ⟨rfl, rfl⟩
theorem xc211_72 : pmCode 211 72 = some (.goto (-50)) ∧ ((72 : Nat) : Int) + (-50) = ((22 : Nat) : Int) := ⟨rfl, rfl⟩
theorem xc211_75 : pmCode 211 75 = some (.iconst 1) ∧ 75 + 1 = 76 := ⟨rfl, rfl⟩
theorem xc211_76 : pmCode 211 76 = some (.istore 4) ∧ 76 + 2 = 78 := ⟨rfl, rfl⟩
theorem xc211_78 : pmCode 211 78 = some (.iload 4) ∧ 78 + 2 = 80 := ⟨rfl, rfl⟩
theorem xc211_80 : pmCode 211 80 = some (.iconst 4) ∧ 80 + 1 = 81 := ⟨rfl, rfl⟩
theorem xc211_81 : pmCode 211 81 = some (.if_icmp .ge 35) ∧ ((81 : Nat) : Int) + 35 = ((116 : Nat) : Int) ∧ 81 + 3 = 84 := ⟨rfl, rfl, rfl⟩
theorem xc211_84 : pmCode 211 84 = some (.aload_n 0) ∧ 84 + 1 = 85 := ⟨rfl, rfl⟩
theorem xc211_85 : pmCode 211 85 = some (.getfield 7) ∧ 85 + 3 = 88 := ⟨rfl, rfl⟩
theorem xc211_88 : pmCode 211 88 = some (.iconst 0) ∧ 88 + 1 = 89 := ⟨rfl, rfl⟩
theorem xc211_89 : pmCode 211 89 = some (.iload 4) ∧ 89 + 2 = 91 := ⟨rfl, rfl⟩
theorem xc211_91 : pmCode 211 91 = some .iadd ∧ 91 + 1 = 92 := ⟨rfl, rfl⟩
theorem xc211_92 : pmCode 211 92 = some .iaload ∧ 92 + 1 = 93 := ⟨rfl, rfl⟩
theorem xc211_93 : pmCode 211 93 = some (.iload_n 3) ∧ 93 + 1 = 94 := ⟨rfl, rfl⟩
theorem xc211_94 : pmCode 211 94 = some (.if_icmp .ne 16) ∧ ((94 : Nat) : Int) + 16 = ((110 : Nat) : Int) ∧ 94 + 3 = 97 := ⟨rfl, rfl, rfl⟩
theorem xc211_97 : pmCode 211 97 = some (.aload_n 0) ∧ 97 + 1 = 98 := ⟨rfl, rfl⟩
theorem xc211_98 : pmCode 211 98 = some (.getfield 7) ∧ 98 + 3 = 101 := ⟨rfl, rfl⟩
theorem xc211_101 : pmCode 211 101 = some (.iload 4) ∧ 101 + 2 = 103 := ⟨rfl, rfl⟩
theorem xc211_103 : pmCode 211 103 = some (.iload_n 2) ∧ 103 + 1 = 104 := ⟨rfl, rfl⟩
theorem xc211_104 : pmCode 211 104 = some (.invokestatic 153) ∧ 104 + 3 = 107 := ⟨rfl, rfl⟩
theorem xc211_107 : pmCode 211 107 = some (.bipush 7) ∧ 107 + 2 = 109 := ⟨rfl, rfl⟩
theorem xc211_109 : pmCode 211 109 = some .iastore ∧ 109 + 1 = 110 := ⟨rfl, rfl⟩
theorem xc211_110 : pmCode 211 110 = some (.iinc 4 1) ∧ 110 + 3 = 113 := ⟨rfl, rfl⟩
theorem xc211_113 : pmCode 211 113 = some (.goto (-35)) ∧ ((113 : Nat) : Int) + (-35) = ((78 : Nat) : Int) := ⟨rfl, rfl⟩
theorem xc211_116 : pmCode 211 116 = some .return_ := rfl
theorem w210 {ro : Nat → Nat × (Nat → Int32)} {d : Nat} {Q : Option Value → pmS → Prop} {p k : Int} {a : xA} {b : xB} (hA : xAr a) (hp : 0 ≤ p ∧ p ≤ 3) (hk : 0 ≤ k ∧ k < 61) (hkk : 1 ≤ uK k ∧ uK k ≤ 6) (hxk : -1 ≤ uX k ∧ uX k ≤ 6) (hd : 1 ≤ d)
    (k1 : (¬ uK k = 1) → pmWp ro d 12 210 1 20 [some (.ref 87), some (xV p), some (xV k), some (xV 0), some (xV 0), some (xV 0), none] [] (xS a b) Q)
    (k2 : (uK k = 1) → pmWp ro d 12 210 1 20 [some (.ref 87), some (xV p), some (xV k), some (xV 0), some (xV 1), some (xV 0), none] [] (xS a b) Q) :
    pmWp ro d 12 210 1 0 [some (.ref 87), some (xV p), some (xV k), none, none, none, none] [] (xS a b) Q := by
  refine x_iconst xc210_0 ?_
  refine x_istoren (pl' := [some (.ref 87), some (xV p), some (xV k), some (xV 0), none, none, none]) xc210_1 rfl rfl ?_
  refine x_iloadn xc210_2 rfl ?_
  refine x_cS (as := [xV k]) (rest := []) xc210_3 rfl rfl xi193 ⟨rfl, rfl⟩ rfl rfl ?_
  refine rk193 (by omega) ⟨by omega, by omega⟩ ?_
  refine x_iconst xc210_6 ?_
  refine x_icne xc210_7 (xRk (by have g0 := hkk; omega)) (xRk (by decide)) (fun h0 => ?_) (fun h0 => ?_)
  · refine x_iconst xc210_14 ?_
    refine x_istore (pl' := [some (.ref 87), some (xV p), some (xV k), some (xV 0), some (xV 0), none, none]) xc210_15 rfl rfl ?_
    refine x_iconst xc210_17 ?_
    refine x_istore (pl' := [some (.ref 87), some (xV p), some (xV k), some (xV 0), some (xV 0), some (xV 0), none]) xc210_18 rfl rfl ?_
    exact k1 h0
  · replace h0 := Classical.not_not.mp h0
    refine x_iconst xc210_10 ?_
    refine x_goto xc210_11 ?_
    refine x_istore (pl' := [some (.ref 87), some (xV p), some (xV k), some (xV 0), some (xV 1), none, none]) xc210_15 rfl rfl ?_
    refine x_iconst xc210_17 ?_
    refine x_istore (pl' := [some (.ref 87), some (xV p), some (xV k), some (xV 0), some (xV 1), some (xV 0), none]) xc210_18 rfl rfl ?_
    exact k2 h0

theorem xg210 {ro : Nat → Nat × (Nat → Int32)} {d : Nat} {Q : Option Value → pmS → Prop} {a : xA} {b : xB} {p k : Int} (h : pmWp ro d 12 210 1 0 [some (.ref 87), some (xV p), some (xV k), none, none, none, none] [] (xS a b) Q) : pmCs ro (d + 1) 210 [.ref 87, xV p, xV k] (xS a b) Q := x_go xi210 rfl rfl rfl rfl rfl h
theorem w210q {ro : Nat → Nat × (Nat → Int32)} {d : Nat} {Q : Option Value → pmS → Prop} {v6 : Option Value} {p k q m g : Int} {a : xA} {b : xB} (hA : xAr a) (hp : 0 ≤ p ∧ p ≤ 3) (hk : 0 ≤ k ∧ k < 61) (hkk : 1 ≤ uK k ∧ uK k ≤ 6) (hxk : -1 ≤ uX k ∧ uX k ≤ 6) (hd : 1 ≤ d) (hq : 0 ≤ q ∧ q ≤ 4) (hm : 0 ≤ m ∧ m ≤ 15) (hg : g = 0 ∨ g = 1)
    (k1 : (4 ≤ q) → Q (some (xV m)) (xS a b))
    (k2 : (¬ 4 ≤ q) → (q = p) → pmWp ro d 12 210 1 125 [some (.ref 87), some (xV p), some (xV k), some (xV m), some (xV g), some (xV q), v6] [] (xS a b) Q)
    (k3 : (¬ 4 ≤ q) → (¬ q = p) → (¬ uK k = 5) → (¬ a 88 q = 7) → (a 88 (0 + q) = a 88 (0 + p)) → pmWp ro d 12 210 1 125 [some (.ref 87), some (xV p), some (xV k), some (xV (xOr m (1 * ((2 ^ q.toNat : Nat) : Int)))), some (xV g), some (xV q), some (xV 1)] [] (xS a b) Q)
    (k4 : (¬ 4 ≤ q) → (¬ q = p) → (¬ uK k = 5) → (¬ a 88 q = 7) → (¬ a 88 (0 + q) = a 88 (0 + p)) → (g = 0) → pmWp ro d 12 210 1 125 [some (.ref 87), some (xV p), some (xV k), some (xV m), some (xV g), some (xV q), some (xV 0)] [] (xS a b) Q)
    (k5 : (¬ 4 ≤ q) → (¬ q = p) → (¬ uK k = 5) → (¬ a 88 q = 7) → (¬ a 88 (0 + q) = a 88 (0 + p)) → (¬ g = 0) → (¬ a 88 (0 + q) = uX k) → pmWp ro d 12 210 1 125 [some (.ref 87), some (xV p), some (xV k), some (xV m), some (xV g), some (xV q), some (xV 0)] [] (xS a b) Q)
    (k6 : (¬ 4 ≤ q) → (¬ q = p) → (¬ uK k = 5) → (¬ a 88 q = 7) → (¬ a 88 (0 + q) = a 88 (0 + p)) → (¬ g = 0) → (a 88 (0 + q) = uX k) → pmWp ro d 12 210 1 125 [some (.ref 87), some (xV p), some (xV k), some (xV (xOr m (1 * ((2 ^ q.toNat : Nat) : Int)))), some (xV g), some (xV q), some (xV 1)] [] (xS a b) Q)
    (k7 : (¬ 4 ≤ q) → (¬ q = p) → (¬ uK k = 5) → (a 88 q = 7) → pmWp ro d 12 210 1 125 [some (.ref 87), some (xV p), some (xV k), some (xV m), some (xV g), some (xV q), v6] [] (xS a b) Q)
    (k8 : (¬ 4 ≤ q) → (¬ q = p) → (uK k = 5) → (q = uX k) → pmWp ro d 12 210 1 125 [some (.ref 87), some (xV p), some (xV k), some (xV m), some (xV g), some (xV q), v6] [] (xS a b) Q)
    (k9 : (¬ 4 ≤ q) → (¬ q = p) → (uK k = 5) → (¬ q = uX k) → (¬ a 88 q = 7) → (a 88 (0 + q) = a 88 (0 + p)) → pmWp ro d 12 210 1 125 [some (.ref 87), some (xV p), some (xV k), some (xV (xOr m (1 * ((2 ^ q.toNat : Nat) : Int)))), some (xV g), some (xV q), some (xV 1)] [] (xS a b) Q)
    (k10 : (¬ 4 ≤ q) → (¬ q = p) → (uK k = 5) → (¬ q = uX k) → (¬ a 88 q = 7) → (¬ a 88 (0 + q) = a 88 (0 + p)) → (g = 0) → pmWp ro d 12 210 1 125 [some (.ref 87), some (xV p), some (xV k), some (xV m), some (xV g), some (xV q), some (xV 0)] [] (xS a b) Q)
    (k11 : (¬ 4 ≤ q) → (¬ q = p) → (uK k = 5) → (¬ q = uX k) → (¬ a 88 q = 7) → (¬ a 88 (0 + q) = a 88 (0 + p)) → (¬ g = 0) → (¬ a 88 (0 + q) = uX k) → pmWp ro d 12 210 1 125 [some (.ref 87), some (xV p), some (xV k), some (xV m), some (xV g), some (xV q), some (xV 0)] [] (xS a b) Q)
    (k12 : (¬ 4 ≤ q) → (¬ q = p) → (uK k = 5) → (¬ q = uX k) → (¬ a 88 q = 7) → (¬ a 88 (0 + q) = a 88 (0 + p)) → (¬ g = 0) → (a 88 (0 + q) = uX k) → pmWp ro d 12 210 1 125 [some (.ref 87), some (xV p), some (xV k), some (xV (xOr m (1 * ((2 ^ q.toNat : Nat) : Int)))), some (xV g), some (xV q), some (xV 1)] [] (xS a b) Q)
    (k13 : (¬ 4 ≤ q) → (¬ q = p) → (uK k = 5) → (¬ q = uX k) → (a 88 q = 7) → pmWp ro d 12 210 1 125 [some (.ref 87), some (xV p), some (xV k), some (xV m), some (xV g), some (xV q), v6] [] (xS a b) Q) :
    pmWp ro d 12 210 1 20 [some (.ref 87), some (xV p), some (xV k), some (xV m), some (xV g), some (xV q), v6] [] (xS a b) Q := by
  refine x_iload xc210_20 rfl ?_
  refine x_iconst xc210_22 ?_
  refine x_icge xc210_23 (xRk (by have g0 := hq; omega)) (xRk (by decide)) (fun h0 => ?_) (fun h0 => ?_)
  · refine x_iloadn xc210_131 rfl ?_
    refine x_iret xc210_132 (Or.inl rfl) ?_
    exact k1 h0
  · refine x_iload xc210_26 rfl ?_
    refine x_iloadn xc210_28 rfl ?_
    refine x_iceq xc210_29 (xRk (by have g0 := hq; omega)) (xRk (by have g0 := hp; omega)) (fun h1 => ?_) (fun h1 => ?_)
    · exact k2 h0 h1
    · refine x_iloadn xc210_32 rfl ?_
      refine x_cS (as := [xV k]) (rest := []) xc210_33 rfl rfl xi193 ⟨rfl, rfl⟩ rfl rfl ?_
      refine rk193 (by omega) ⟨by omega, by omega⟩ ?_
      refine x_iconst xc210_36 ?_
      refine x_icne xc210_37 (xRk (by have g0 := hkk; omega)) (xRk (by decide)) (fun h2 => ?_) (fun h2 => ?_)
      · refine x_aloadn xc210_49 rfl ?_
        refine x_iload xc210_50 rfl ?_
        refine x_cV (as := [xV q]) (rest := []) xc210_52 rfl xi176 xz87 ⟨rfl, rfl⟩ rfl rfl ?_
        refine rk176 (by omega) hA (by have g0 := hq; omega) (fun h3 => ?_) (fun h4 => ?_)
        · refine x_ifne xc210_55 (xRk (by decide)) (fun _ => ?_) (fun h => absurd h (by omega))
          refine x_aloadn xc210_61 rfl ?_
          refine x_gfr xc210_62 rfl rfl xz87 rfl ?_
          refine x_iconst xc210_65 ?_
          refine x_iload xc210_66 rfl ?_
          refine x_iadd xc210_68 ?_
          refine x_ial xc210_69 xz88 rfl (by have g0 := hq; omega) (by have g0 := hq; omega) (by have g0 := hq; omega) ?_
          refine x_aloadn xc210_70 rfl ?_
          refine x_gfr xc210_71 rfl rfl xz87 rfl ?_
          refine x_iconst xc210_74 ?_
          refine x_iloadn xc210_75 rfl ?_
          refine x_iadd xc210_76 ?_
          refine x_ial xc210_77 xz88 rfl (by have g0 := hp; omega) (by have g0 := hp; omega) (by have g0 := hp; omega) ?_
          refine x_iceq xc210_78 (xRk (by have g0 := hq; have g1 := xRb (hA 88 (0 + q)); omega)) (xRk (by have g0 := hp; have g1 := xRb (hA 88 (0 + p)); omega)) (fun h6 => ?_) (fun h6 => ?_)
          · refine x_iconst xc210_102 ?_
            refine x_goto xc210_103 ?_
            refine x_istore (pl' := [some (.ref 87), some (xV p), some (xV k), some (xV m), some (xV g), some (xV q), some (xV 1)]) xc210_107 rfl rfl ?_
            refine x_iload xc210_109 rfl ?_
            refine x_ifeq xc210_111 (xRk (by decide)) (fun h => absurd h (by omega)) (fun _ => ?_)
            refine x_iloadn xc210_114 rfl ?_
            refine x_iconst xc210_115 ?_
            refine x_iload xc210_116 rfl ?_
            refine x_ishl (M := ((2 ^ q.toNat : Nat) : Int)) (by have g0 := hq; omega) (by have g0 := hq; omega) rfl xc210_118 ?_
            refine x_ior xc210_119 ?_
            refine x_goto xc210_120 ?_
            refine x_istoren (pl' := [some (.ref 87), some (xV p), some (xV k), some (xV (xOr m (1 * ((2 ^ q.toNat : Nat) : Int)))), some (xV g), some (xV q), some (xV 1)]) xc210_124 rfl rfl ?_
            exact k3 h0 h1 h2 h3 h6
          · refine x_iload xc210_81 rfl ?_
            refine x_ifeq xc210_83 (xRk (by have g0 := hg; omega)) (fun h8 => ?_) (fun h8 => ?_)
            · refine x_iconst xc210_106 ?_
              refine x_istore (pl' := [some (.ref 87), some (xV p), some (xV k), some (xV m), some (xV g), some (xV q), some (xV 0)]) xc210_107 rfl rfl ?_
              refine x_iload xc210_109 rfl ?_
              refine x_ifeq xc210_111 (xRk (by decide)) (fun _ => ?_) (fun h => absurd h (by omega))
              refine x_iloadn xc210_123 rfl ?_
              refine x_istoren (pl' := [some (.ref 87), some (xV p), some (xV k), some (xV m), some (xV g), some (xV q), some (xV 0)]) xc210_124 rfl rfl ?_
              exact k4 h0 h1 h2 h3 h6 h8
            · refine x_aloadn xc210_86 rfl ?_
              refine x_gfr xc210_87 rfl rfl xz87 rfl ?_
              refine x_iconst xc210_90 ?_
              refine x_iload xc210_91 rfl ?_
              refine x_iadd xc210_93 ?_
              refine x_ial xc210_94 xz88 rfl (by have g0 := hq; omega) (by have g0 := hq; omega) (by have g0 := hq; omega) ?_
              refine x_iloadn xc210_95 rfl ?_
              refine x_cS (as := [xV k]) (rest := [xV (a 88 (0 + q))]) xc210_96 rfl rfl xi192 ⟨rfl, rfl⟩ rfl rfl ?_
              refine rk192 (by omega) ⟨by omega, by omega⟩ ?_
              refine x_icne xc210_99 (xRk (by have g0 := hq; have g1 := xRb (hA 88 (0 + q)); omega)) (xRk (by have g0 := hxk; omega)) (fun h10 => ?_) (fun h10 => ?_)
              · refine x_iconst xc210_106 ?_
                refine x_istore (pl' := [some (.ref 87), some (xV p), some (xV k), some (xV m), some (xV g), some (xV q), some (xV 0)]) xc210_107 rfl rfl ?_
                refine x_iload xc210_109 rfl ?_
                refine x_ifeq xc210_111 (xRk (by decide)) (fun _ => ?_) (fun h => absurd h (by omega))
                refine x_iloadn xc210_123 rfl ?_
                refine x_istoren (pl' := [some (.ref 87), some (xV p), some (xV k), some (xV m), some (xV g), some (xV q), some (xV 0)]) xc210_124 rfl rfl ?_
                exact k5 h0 h1 h2 h3 h6 h8 h10
              · replace h10 := Classical.not_not.mp h10
                refine x_iconst xc210_102 ?_
                refine x_goto xc210_103 ?_
                refine x_istore (pl' := [some (.ref 87), some (xV p), some (xV k), some (xV m), some (xV g), some (xV q), some (xV 1)]) xc210_107 rfl rfl ?_
                refine x_iload xc210_109 rfl ?_
                refine x_ifeq xc210_111 (xRk (by decide)) (fun h => absurd h (by omega)) (fun _ => ?_)
                refine x_iloadn xc210_114 rfl ?_
                refine x_iconst xc210_115 ?_
                refine x_iload xc210_116 rfl ?_
                refine x_ishl (M := ((2 ^ q.toNat : Nat) : Int)) (by have g0 := hq; omega) (by have g0 := hq; omega) rfl xc210_118 ?_
                refine x_ior xc210_119 ?_
                refine x_goto xc210_120 ?_
                refine x_istoren (pl' := [some (.ref 87), some (xV p), some (xV k), some (xV (xOr m (1 * ((2 ^ q.toNat : Nat) : Int)))), some (xV g), some (xV q), some (xV 1)]) xc210_124 rfl rfl ?_
                exact k6 h0 h1 h2 h3 h6 h8 h10
        · refine x_ifne xc210_55 (xRk (by decide)) (fun h => absurd h (by omega)) (fun _ => ?_)
          refine x_goto xc210_58 ?_
          exact k7 h0 h1 h2 h4
      · replace h2 := Classical.not_not.mp h2
        refine x_iload xc210_40 rfl ?_
        refine x_iloadn xc210_42 rfl ?_
        refine x_cS (as := [xV k]) (rest := [xV q]) xc210_43 rfl rfl xi192 ⟨rfl, rfl⟩ rfl rfl ?_
        refine rk192 (by omega) ⟨by omega, by omega⟩ ?_
        refine x_iceq xc210_46 (xRk (by have g0 := hq; omega)) (xRk (by have g0 := hxk; omega)) (fun h14 => ?_) (fun h14 => ?_)
        · exact k8 h0 h1 h2 h14
        · refine x_aloadn xc210_49 rfl ?_
          refine x_iload xc210_50 rfl ?_
          refine x_cV (as := [xV q]) (rest := []) xc210_52 rfl xi176 xz87 ⟨rfl, rfl⟩ rfl rfl ?_
          refine rk176 (by omega) hA (by have g0 := hq; omega) (fun h15 => ?_) (fun h16 => ?_)
          · refine x_ifne xc210_55 (xRk (by decide)) (fun _ => ?_) (fun h => absurd h (by omega))
            refine x_aloadn xc210_61 rfl ?_
            refine x_gfr xc210_62 rfl rfl xz87 rfl ?_
            refine x_iconst xc210_65 ?_
            refine x_iload xc210_66 rfl ?_
            refine x_iadd xc210_68 ?_
            refine x_ial xc210_69 xz88 rfl (by have g0 := hq; omega) (by have g0 := hq; omega) (by have g0 := hq; omega) ?_
            refine x_aloadn xc210_70 rfl ?_
            refine x_gfr xc210_71 rfl rfl xz87 rfl ?_
            refine x_iconst xc210_74 ?_
            refine x_iloadn xc210_75 rfl ?_
            refine x_iadd xc210_76 ?_
            refine x_ial xc210_77 xz88 rfl (by have g0 := hp; omega) (by have g0 := hp; omega) (by have g0 := hp; omega) ?_
            refine x_iceq xc210_78 (xRk (by have g0 := hq; have g1 := xRb (hA 88 (0 + q)); omega)) (xRk (by have g0 := hp; have g1 := xRb (hA 88 (0 + p)); omega)) (fun h18 => ?_) (fun h18 => ?_)
            · refine x_iconst xc210_102 ?_
              refine x_goto xc210_103 ?_
              refine x_istore (pl' := [some (.ref 87), some (xV p), some (xV k), some (xV m), some (xV g), some (xV q), some (xV 1)]) xc210_107 rfl rfl ?_
              refine x_iload xc210_109 rfl ?_
              refine x_ifeq xc210_111 (xRk (by decide)) (fun h => absurd h (by omega)) (fun _ => ?_)
              refine x_iloadn xc210_114 rfl ?_
              refine x_iconst xc210_115 ?_
              refine x_iload xc210_116 rfl ?_
              refine x_ishl (M := ((2 ^ q.toNat : Nat) : Int)) (by have g0 := hq; omega) (by have g0 := hq; omega) rfl xc210_118 ?_
              refine x_ior xc210_119 ?_
              refine x_goto xc210_120 ?_
              refine x_istoren (pl' := [some (.ref 87), some (xV p), some (xV k), some (xV (xOr m (1 * ((2 ^ q.toNat : Nat) : Int)))), some (xV g), some (xV q), some (xV 1)]) xc210_124 rfl rfl ?_
              exact k9 h0 h1 h2 h14 h15 h18
            · refine x_iload xc210_81 rfl ?_
              refine x_ifeq xc210_83 (xRk (by have g0 := hg; omega)) (fun h20 => ?_) (fun h20 => ?_)
              · refine x_iconst xc210_106 ?_
                refine x_istore (pl' := [some (.ref 87), some (xV p), some (xV k), some (xV m), some (xV g), some (xV q), some (xV 0)]) xc210_107 rfl rfl ?_
                refine x_iload xc210_109 rfl ?_
                refine x_ifeq xc210_111 (xRk (by decide)) (fun _ => ?_) (fun h => absurd h (by omega))
                refine x_iloadn xc210_123 rfl ?_
                refine x_istoren (pl' := [some (.ref 87), some (xV p), some (xV k), some (xV m), some (xV g), some (xV q), some (xV 0)]) xc210_124 rfl rfl ?_
                exact k10 h0 h1 h2 h14 h15 h18 h20
              · refine x_aloadn xc210_86 rfl ?_
                refine x_gfr xc210_87 rfl rfl xz87 rfl ?_
                refine x_iconst xc210_90 ?_
                refine x_iload xc210_91 rfl ?_
                refine x_iadd xc210_93 ?_
                refine x_ial xc210_94 xz88 rfl (by have g0 := hq; omega) (by have g0 := hq; omega) (by have g0 := hq; omega) ?_
                refine x_iloadn xc210_95 rfl ?_
                refine x_cS (as := [xV k]) (rest := [xV (a 88 (0 + q))]) xc210_96 rfl rfl xi192 ⟨rfl, rfl⟩ rfl rfl ?_
                refine rk192 (by omega) ⟨by omega, by omega⟩ ?_
                refine x_icne xc210_99 (xRk (by have g0 := hq; have g1 := xRb (hA 88 (0 + q)); omega)) (xRk (by have g0 := hxk; omega)) (fun h22 => ?_) (fun h22 => ?_)
                · refine x_iconst xc210_106 ?_
                  refine x_istore (pl' := [some (.ref 87), some (xV p), some (xV k), some (xV m), some (xV g), some (xV q), some (xV 0)]) xc210_107 rfl rfl ?_
                  refine x_iload xc210_109 rfl ?_
                  refine x_ifeq xc210_111 (xRk (by decide)) (fun _ => ?_) (fun h => absurd h (by omega))
                  refine x_iloadn xc210_123 rfl ?_
                  refine x_istoren (pl' := [some (.ref 87), some (xV p), some (xV k), some (xV m), some (xV g), some (xV q), some (xV 0)]) xc210_124 rfl rfl ?_
                  exact k11 h0 h1 h2 h14 h15 h18 h20 h22
                · replace h22 := Classical.not_not.mp h22
                  refine x_iconst xc210_102 ?_
                  refine x_goto xc210_103 ?_
                  refine x_istore (pl' := [some (.ref 87), some (xV p), some (xV k), some (xV m), some (xV g), some (xV q), some (xV 1)]) xc210_107 rfl rfl ?_
                  refine x_iload xc210_109 rfl ?_
                  refine x_ifeq xc210_111 (xRk (by decide)) (fun h => absurd h (by omega)) (fun _ => ?_)
                  refine x_iloadn xc210_114 rfl ?_
                  refine x_iconst xc210_115 ?_
                  refine x_iload xc210_116 rfl ?_
                  refine x_ishl (M := ((2 ^ q.toNat : Nat) : Int)) (by have g0 := hq; omega) (by have g0 := hq; omega) rfl xc210_118 ?_
                  refine x_ior xc210_119 ?_
                  refine x_goto xc210_120 ?_
                  refine x_istoren (pl' := [some (.ref 87), some (xV p), some (xV k), some (xV (xOr m (1 * ((2 ^ q.toNat : Nat) : Int)))), some (xV g), some (xV q), some (xV 1)]) xc210_124 rfl rfl ?_
                  exact k12 h0 h1 h2 h14 h15 h18 h20 h22
          · refine x_ifne xc210_55 (xRk (by decide)) (fun h => absurd h (by omega)) (fun _ => ?_)
            refine x_goto xc210_58 ?_
            exact k13 h0 h1 h2 h14 h16

theorem w210n {ro : Nat → Nat × (Nat → Int32)} {d : Nat} {Q : Option Value → pmS → Prop} {v3 : Option Value} {v6 : Option Value} {p k q g : Int} {a : xA} {b : xB} (hq : 0 ≤ q ∧ q ≤ 4)
    (k1 : pmWp ro d 12 210 1 20 [some (.ref 87), some (xV p), some (xV k), v3, some (xV g), some (xV (q + 1)), v6] [] (xS a b) Q) :
    pmWp ro d 12 210 1 125 [some (.ref 87), some (xV p), some (xV k), v3, some (xV g), some (xV q), v6] [] (xS a b) Q := by
  refine x_iinc (pl' := [some (.ref 87), some (xV p), some (xV k), v3, some (xV g), some (xV (q + 1)), v6]) xc210_125 rfl rfl ?_
  refine x_goto xc210_128 ?_
  exact k1

theorem w211 {ro : Nat → Nat × (Nat → Int32)} {d : Nat} {Q : Option Value → pmS → Prop} {p x : Int} {a : xA} {b : xB} (hp : 0 ≤ p ∧ p ≤ 3) (hx : 0 ≤ x ∧ x ≤ 3)
    (k1 : pmWp ro d 12 211 0 22 [some (.ref 87), some (xV p), some (xV x), some (xV (a 88 (0 + p))), some (xV 0)] [] (xS (xU a 88 (0 + x) 7) b) Q) :
    pmWp ro d 12 211 0 0 [some (.ref 87), some (xV p), some (xV x), none, none] [] (xS a b) Q := by
  refine x_aloadn xc211_0 rfl ?_
  refine x_gfr xc211_1 rfl rfl xz87 rfl ?_
  refine x_iconst xc211_4 ?_
  refine x_iloadn xc211_5 rfl ?_
  refine x_iadd xc211_6 ?_
  refine x_ial xc211_7 xz88 rfl (by have g0 := hp; omega) (by have g0 := hp; omega) (by have g0 := hp; omega) ?_
  refine x_istoren (pl' := [some (.ref 87), some (xV p), some (xV x), some (xV (a 88 (0 + p))), none]) xc211_8 rfl rfl ?_
  refine x_aloadn xc211_9 rfl ?_
  refine x_gfr xc211_10 rfl rfl xz87 rfl ?_
  refine x_iconst xc211_13 ?_
  refine x_iloadn xc211_14 rfl ?_
  refine x_iadd xc211_15 ?_
  refine x_bipush xc211_16 (by decide) ?_
  refine x_ias xc211_18 xz88 (by have g0 := hx; omega) (by have g0 := hx; omega) (by have g0 := hx; omega) ?_
  refine x_iconst xc211_19 ?_
  refine x_istore (pl' := [some (.ref 87), some (xV p), some (xV x), some (xV (a 88 (0 + p))), some (xV 0)]) xc211_20 rfl rfl ?_
  exact k1

theorem xg211 {ro : Nat → Nat × (Nat → Int32)} {d : Nat} {Q : Option Value → pmS → Prop} {a : xA} {b : xB} {p x : Int} (h : pmWp ro d 12 211 0 0 [some (.ref 87), some (xV p), some (xV x), none, none] [] (xS a b) Q) : pmCs ro (d + 1) 211 [.ref 87, xV p, xV x] (xS a b) Q := x_go xi211 rfl rfl rfl rfl rfl h
theorem w211t {ro : Nat → Nat × (Nat → Int32)} {d : Nat} {Q : Option Value → pmS → Prop} {p x n rm t : Int} {a : xA} {b : xB} (hA : xAr a) (hx : 0 ≤ x ∧ x ≤ 3) (hn : a 87 2 = n) (hn0 : 0 ≤ n ∧ n ≤ 5) (hrm : 0 ≤ rm ∧ rm ≤ 6) (hd : 1 ≤ d) (ht : 0 ≤ t ∧ t ≤ n)
    (k1 : (n ≤ t) → pmWp ro d 12 211 0 78 [some (.ref 87), some (xV p), some (xV x), some (xV rm), some (xV 1)] [] (xS a b) Q)
    (k2 : (¬ n ≤ t) → (¬ a 88 (4 + t) = 10 + x) → pmWp ro d 12 211 0 22 [some (.ref 87), some (xV p), some (xV x), some (xV rm), some (xV (t + 1))] [] (xS (xU a 88 (4 + t) (a 88 (4 + t))) b) Q)
    (k3 : (¬ n ≤ t) → (a 88 (4 + t) = 10 + x) → pmWp ro d 12 211 0 22 [some (.ref 87), some (xV p), some (xV x), some (xV rm), some (xV (t + 1))] [] (xS (xU a 88 (4 + t) rm) b) Q) :
    pmWp ro d 12 211 0 22 [some (.ref 87), some (xV p), some (xV x), some (xV rm), some (xV t)] [] (xS a b) Q := by
  refine x_iload xc211_22 rfl ?_
  refine x_aloadn xc211_24 rfl ?_
  refine x_gfi' (k := 2) (v := n) xc211_25 rfl (Or.inl rfl) rfl xz87 hn ?_
  refine x_icge xc211_28 (xRk (by have g0 := ht; omega)) (xRk (by have g0 := hn0; omega)) (fun h0 => ?_) (fun h0 => ?_)
  · refine x_iconst xc211_75 ?_
    refine x_istore (pl' := [some (.ref 87), some (xV p), some (xV x), some (xV rm), some (xV 1)]) xc211_76 rfl rfl ?_
    exact k1 h0
  · refine x_aloadn xc211_31 rfl ?_
    refine x_gfr xc211_32 rfl rfl xz87 rfl ?_
    refine x_iconst xc211_35 ?_
    refine x_iload xc211_36 rfl ?_
    refine x_iadd xc211_38 ?_
    refine x_aloadn xc211_39 rfl ?_
    refine x_gfr xc211_40 rfl rfl xz87 rfl ?_
    refine x_iconst xc211_43 ?_
    refine x_iload xc211_44 rfl ?_
    refine x_iadd xc211_46 ?_
    refine x_ial xc211_47 xz88 rfl (by have g0 := ht; omega) (by have g0 := ht; omega) (by have g0 := ht; omega) ?_
    refine x_bipush xc211_48 (by decide) ?_
    refine x_iloadn xc211_50 rfl ?_
    refine x_iadd xc211_51 ?_
    refine x_icne xc211_52 (xRk (by have g0 := ht; have g1 := xRb (hA 88 (4 + t)); omega)) (xRk (by have g0 := hx; omega)) (fun h1 => ?_) (fun h1 => ?_)
    · refine x_aloadn xc211_59 rfl ?_
      refine x_gfr xc211_60 rfl rfl xz87 rfl ?_
      refine x_iconst xc211_63 ?_
      refine x_iload xc211_64 rfl ?_
      refine x_iadd xc211_66 ?_
      refine x_ial xc211_67 xz88 rfl (by have g0 := ht; omega) (by have g0 := ht; omega) (by have g0 := ht; omega) ?_
      refine x_ias xc211_68 xz88 (by have g0 := ht; omega) (by have g0 := ht; omega) (by have g0 := ht; omega) ?_
      refine x_iinc (pl' := [some (.ref 87), some (xV p), some (xV x), some (xV rm), some (xV (t + 1))]) xc211_69 rfl rfl ?_
      refine x_goto xc211_72 ?_
      exact k2 h0 h1
    · replace h1 := Classical.not_not.mp h1
      refine x_iloadn xc211_55 rfl ?_
      refine x_goto xc211_56 ?_
      refine x_ias xc211_68 xz88 (by have g0 := ht; omega) (by have g0 := ht; omega) (by have g0 := ht; omega) ?_
      refine x_iinc (pl' := [some (.ref 87), some (xV p), some (xV x), some (xV rm), some (xV (t + 1))]) xc211_69 rfl rfl ?_
      refine x_goto xc211_72 ?_
      exact k3 h0 h1

theorem w211f {ro : Nat → Nat × (Nat → Int32)} {d : Nat} {Q : Option Value → pmS → Prop} {p x rm f : Int} {a : xA} {b : xB} (hA : xAr a) (hx : 0 ≤ x ∧ x ≤ 3) (hrm : 0 ≤ rm ∧ rm ≤ 6) (hd : 1 ≤ d) (hf : 1 ≤ f ∧ f ≤ 4)
    (k1 : (4 ≤ f) → Q none (xS a b))
    (k2 : (¬ 4 ≤ f) → (¬ a 88 (0 + f) = rm) → pmWp ro d 12 211 0 78 [some (.ref 87), some (xV p), some (xV x), some (xV rm), some (xV (f + 1))] [] (xS a b) Q)
    (k3 : (¬ 4 ≤ f) → (a 88 (0 + f) = rm) → pmWp ro d 12 211 0 78 [some (.ref 87), some (xV p), some (xV x), some (xV rm), some (xV (f + 1))] [] (xS (xU a 88 (14 + (9 * (f - 1)) + 5 + x) 7) b) Q) :
    pmWp ro d 12 211 0 78 [some (.ref 87), some (xV p), some (xV x), some (xV rm), some (xV f)] [] (xS a b) Q := by
  refine x_iload xc211_78 rfl ?_
  refine x_iconst xc211_80 ?_
  refine x_icge xc211_81 (xRk (by have g0 := hf; omega)) (xRk (by decide)) (fun h0 => ?_) (fun h0 => ?_)
  · refine x_ret xc211_116 rfl ?_
    exact k1 h0
  · refine x_aloadn xc211_84 rfl ?_
    refine x_gfr xc211_85 rfl rfl xz87 rfl ?_
    refine x_iconst xc211_88 ?_
    refine x_iload xc211_89 rfl ?_
    refine x_iadd xc211_91 ?_
    refine x_ial xc211_92 xz88 rfl (by have g0 := hf; omega) (by have g0 := hf; omega) (by have g0 := hf; omega) ?_
    refine x_iloadn xc211_93 rfl ?_
    refine x_icne xc211_94 (xRk (by have g0 := hf; have g1 := xRb (hA 88 (0 + f)); omega)) (xRk (by have g0 := hrm; omega)) (fun h1 => ?_) (fun h1 => ?_)
    · refine x_iinc (pl' := [some (.ref 87), some (xV p), some (xV x), some (xV rm), some (xV (f + 1))]) xc211_110 rfl rfl ?_
      refine x_goto xc211_113 ?_
      exact k2 h0 h1
    · replace h1 := Classical.not_not.mp h1
      refine x_aloadn xc211_97 rfl ?_
      refine x_gfr xc211_98 rfl rfl xz87 rfl ?_
      refine x_iload xc211_101 rfl ?_
      refine x_iloadn xc211_103 rfl ?_
      refine x_cS (as := [xV f, xV x]) (rest := [.ref 88]) xc211_104 rfl rfl xi147 ⟨rfl, rfl⟩ rfl rfl ?_
      refine rk147 (by omega) ?_
      refine x_bipush xc211_107 (by decide) ?_
      refine x_ias xc211_109 xz88 (by have g0 := hf; have g1 := hx; omega) (by have g0 := hf; have g1 := hx; omega) (by have g0 := hf; have g1 := hx; omega) ?_
      refine x_iinc (pl' := [some (.ref 87), some (xV p), some (xV x), some (xV rm), some (xV (f + 1))]) xc211_110 rfl rfl ?_
      refine x_goto xc211_113 ?_
      exact k3 h0 h1

theorem w209 {ro : Nat → Nat × (Nat → Int32)} {d : Nat} {Q : Option Value → pmS → Prop} {p k : Int} {a : xA} {b : xB}
    (k1 : pmCs ro d 210 [.ref 87, xV p, xV k] (xS a b) fun r σ' => pmWp ro d 12 209 1 6 [some (.ref 87), some (xV p), some (xV k), none, none, none] (r.toList ++ []) σ' Q) :
    pmWp ro d 12 209 1 0 [some (.ref 87), some (xV p), some (xV k), none, none, none] [] (xS a b) Q := by
  refine x_aloadn xc209_0 rfl ?_
  refine x_iloadn xc209_1 rfl ?_
  refine x_iloadn xc209_2 rfl ?_
  refine x_cV (as := [xV p, xV k]) (rest := []) xc209_3 rfl xi210 xz87 ⟨rfl, rfl⟩ rfl rfl ?_
  exact k1

theorem xg209 {ro : Nat → Nat × (Nat → Int32)} {d : Nat} {Q : Option Value → pmS → Prop} {a : xA} {b : xB} {p k : Int} (h : pmWp ro d 12 209 1 0 [some (.ref 87), some (xV p), some (xV k), none, none, none] [] (xS a b) Q) : pmCs ro (d + 1) 209 [.ref 87, xV p, xV k] (xS a b) Q := x_go xi209 rfl rfl rfl rfl rfl h
theorem w209_1 {ro : Nat → Nat × (Nat → Int32)} {d : Nat} {Q : Option Value → pmS → Prop} {p k sn : Int} {a : xA} {b : xB} (hA : xAr a) (hp : 0 ≤ p ∧ p ≤ 3) (hk : 0 ≤ k ∧ k < 61) (hkk : uK k = 1) (hxk : 0 ≤ uX k ∧ uX k < 7) (hyk : uY k = -1) (hd : 1 ≤ d)
    (k1 : pmWp ro d 12 209 1 171 [some (.ref 87), some (xV p), some (xV k), some (xV sn), some (xV (uX k)), some (xV (uY k))] [] (xS (xU a 88 (0 + p) (uX k)) b) Q) :
    pmWp ro d 12 209 1 6 [some (.ref 87), some (xV p), some (xV k), none, none, none] [xV sn] (xS a b) Q := by
  refine x_istoren (pl' := [some (.ref 87), some (xV p), some (xV k), some (xV sn), none, none]) xc209_6 rfl rfl ?_
  refine x_iloadn xc209_7 rfl ?_
  refine x_cS (as := [xV k]) (rest := []) xc209_8 rfl rfl xi192 ⟨rfl, rfl⟩ rfl rfl ?_
  refine rk192 (by omega) ⟨by omega, by omega⟩ ?_
  refine x_istore (pl' := [some (.ref 87), some (xV p), some (xV k), some (xV sn), some (xV (uX k)), none]) xc209_11 rfl rfl ?_
  refine x_iloadn xc209_13 rfl ?_
  refine x_cS (as := [xV k]) (rest := []) xc209_14 rfl rfl xi194 ⟨rfl, rfl⟩ rfl rfl ?_
  refine rk194 (by omega) ⟨by omega, by omega⟩ ?_
  refine x_istore (pl' := [some (.ref 87), some (xV p), some (xV k), some (xV sn), some (xV (uX k)), some (xV (uY k))]) xc209_17 rfl rfl ?_
  refine x_iloadn xc209_19 rfl ?_
  refine x_cS (as := [xV k]) (rest := []) xc209_20 rfl rfl xi193 ⟨rfl, rfl⟩ rfl rfl ?_
  refine rk193 (by omega) ⟨by omega, by omega⟩ ?_
  refine x_sw (c := 1) (t := 56) (by omega) xc209_23.1 rfl ?_
  refine x_aloadn xc209_56 rfl ?_
  refine x_gfr xc209_57 rfl rfl xz87 rfl ?_
  refine x_iconst xc209_60 ?_
  refine x_iloadn xc209_61 rfl ?_
  refine x_iadd xc209_62 ?_
  refine x_iload xc209_63 rfl ?_
  refine x_ias xc209_65 xz88 (by have g0 := hp; omega) (by have g0 := hp; omega) (by have g0 := hp; omega) ?_
  refine x_goto xc209_66 ?_
  exact k1

theorem w209_2 {ro : Nat → Nat × (Nat → Int32)} {d : Nat} {Q : Option Value → pmS → Prop} {p k sn : Int} {a : xA} {b : xB} (hA : xAr a) (hp : 0 ≤ p ∧ p ≤ 3) (hk : 0 ≤ k ∧ k < 61) (hkk : uK k = 2) (hxk : 0 ≤ uX k ∧ uX k < 5) (hyk : uY k = -1) (hd : 1 ≤ d)
    (k1 : pmWp ro d 12 209 1 171 [some (.ref 87), some (xV p), some (xV k), some (xV sn), some (xV (uX k)), some (xV (uY k))] [] (xS (xU a 88 (4 + (uX k)) (10 + p)) b) Q) :
    pmWp ro d 12 209 1 6 [some (.ref 87), some (xV p), some (xV k), none, none, none] [xV sn] (xS a b) Q := by
  refine x_istoren (pl' := [some (.ref 87), some (xV p), some (xV k), some (xV sn), none, none]) xc209_6 rfl rfl ?_
  refine x_iloadn xc209_7 rfl ?_
  refine x_cS (as := [xV k]) (rest := []) xc209_8 rfl rfl xi192 ⟨rfl, rfl⟩ rfl rfl ?_
  refine rk192 (by omega) ⟨by omega, by omega⟩ ?_
  refine x_istore (pl' := [some (.ref 87), some (xV p), some (xV k), some (xV sn), some (xV (uX k)), none]) xc209_11 rfl rfl ?_
  refine x_iloadn xc209_13 rfl ?_
  refine x_cS (as := [xV k]) (rest := []) xc209_14 rfl rfl xi194 ⟨rfl, rfl⟩ rfl rfl ?_
  refine rk194 (by omega) ⟨by omega, by omega⟩ ?_
  refine x_istore (pl' := [some (.ref 87), some (xV p), some (xV k), some (xV sn), some (xV (uX k)), some (xV (uY k))]) xc209_17 rfl rfl ?_
  refine x_iloadn xc209_19 rfl ?_
  refine x_cS (as := [xV k]) (rest := []) xc209_20 rfl rfl xi193 ⟨rfl, rfl⟩ rfl rfl ?_
  refine rk193 (by omega) ⟨by omega, by omega⟩ ?_
  have h0 : ¬ uK k = 1 := by omega
  refine x_sw (c := 2) (t := 69) (by omega) xc209_23.1 rfl ?_
  refine x_aloadn xc209_69 rfl ?_
  refine x_gfr xc209_70 rfl rfl xz87 rfl ?_
  refine x_iconst xc209_73 ?_
  refine x_iload xc209_74 rfl ?_
  refine x_iadd xc209_76 ?_
  refine x_bipush xc209_77 (by decide) ?_
  refine x_iloadn xc209_79 rfl ?_
  refine x_iadd xc209_80 ?_
  refine x_ias xc209_81 xz88 (by have g0 := hxk; omega) (by have g0 := hxk; omega) (by have g0 := hxk; omega) ?_
  refine x_goto xc209_82 ?_
  exact k1

theorem w209_3 {ro : Nat → Nat × (Nat → Int32)} {d : Nat} {Q : Option Value → pmS → Prop} {p k sn : Int} {a : xA} {b : xB} (hA : xAr a) (hp : 0 ≤ p ∧ p ≤ 3) (hk : 0 ≤ k ∧ k < 61) (hkk : uK k = 3) (hxk : 0 ≤ uX k ∧ uX k < 5) (hyk : uY k = -1) (hd : 1 ≤ d)
    (k1 : pmWp ro d 12 209 1 171 [some (.ref 87), some (xV p), some (xV k), some (xV sn), some (xV (uX k)), some (xV (uY k))] [] (xS (xU a 88 (4 + (uX k)) (a 88 (0 + p))) b) Q) :
    pmWp ro d 12 209 1 6 [some (.ref 87), some (xV p), some (xV k), none, none, none] [xV sn] (xS a b) Q := by
  refine x_istoren (pl' := [some (.ref 87), some (xV p), some (xV k), some (xV sn), none, none]) xc209_6 rfl rfl ?_
  refine x_iloadn xc209_7 rfl ?_
  refine x_cS (as := [xV k]) (rest := []) xc209_8 rfl rfl xi192 ⟨rfl, rfl⟩ rfl rfl ?_
  refine rk192 (by omega) ⟨by omega, by omega⟩ ?_
  refine x_istore (pl' := [some (.ref 87), some (xV p), some (xV k), some (xV sn), some (xV (uX k)), none]) xc209_11 rfl rfl ?_
  refine x_iloadn xc209_13 rfl ?_
  refine x_cS (as := [xV k]) (rest := []) xc209_14 rfl rfl xi194 ⟨rfl, rfl⟩ rfl rfl ?_
  refine rk194 (by omega) ⟨by omega, by omega⟩ ?_
  refine x_istore (pl' := [some (.ref 87), some (xV p), some (xV k), some (xV sn), some (xV (uX k)), some (xV (uY k))]) xc209_17 rfl rfl ?_
  refine x_iloadn xc209_19 rfl ?_
  refine x_cS (as := [xV k]) (rest := []) xc209_20 rfl rfl xi193 ⟨rfl, rfl⟩ rfl rfl ?_
  refine rk193 (by omega) ⟨by omega, by omega⟩ ?_
  have h0 : ¬ uK k = 1 := by omega
  have h1 : ¬ uK k = 2 := by omega
  refine x_sw (c := 3) (t := 85) (by omega) xc209_23.1 rfl ?_
  refine x_aloadn xc209_85 rfl ?_
  refine x_gfr xc209_86 rfl rfl xz87 rfl ?_
  refine x_iconst xc209_89 ?_
  refine x_iload xc209_90 rfl ?_
  refine x_iadd xc209_92 ?_
  refine x_aloadn xc209_93 rfl ?_
  refine x_gfr xc209_94 rfl rfl xz87 rfl ?_
  refine x_iconst xc209_97 ?_
  refine x_iloadn xc209_98 rfl ?_
  refine x_iadd xc209_99 ?_
  refine x_ial xc209_100 xz88 rfl (by have g0 := hp; omega) (by have g0 := hp; omega) (by have g0 := hp; omega) ?_
  refine x_ias xc209_101 xz88 (by have g0 := hxk; omega) (by have g0 := hxk; omega) (by have g0 := hxk; omega) ?_
  refine x_goto xc209_102 ?_
  exact k1

theorem w209_4 {ro : Nat → Nat × (Nat → Int32)} {d : Nat} {Q : Option Value → pmS → Prop} {p k sn : Int} {a : xA} {b : xB} (hA : xAr a) (hp : 0 ≤ p ∧ p ≤ 3) (hk : 0 ≤ k ∧ k < 61) (hkk : uK k = 4) (hxk : 0 ≤ uX k ∧ uX k < 5) (hyk : 0 ≤ uY k ∧ uY k < 4) (hd : 1 ≤ d)
    (k1 : pmWp ro d 12 209 1 171 [some (.ref 87), some (xV p), some (xV k), some (xV sn), some (xV (uX k)), some (xV (uY k))] [] (xS (xU a 88 (4 + (uX k)) (10 + (uY k))) b) Q) :
    pmWp ro d 12 209 1 6 [some (.ref 87), some (xV p), some (xV k), none, none, none] [xV sn] (xS a b) Q := by
  refine x_istoren (pl' := [some (.ref 87), some (xV p), some (xV k), some (xV sn), none, none]) xc209_6 rfl rfl ?_
  refine x_iloadn xc209_7 rfl ?_
  refine x_cS (as := [xV k]) (rest := []) xc209_8 rfl rfl xi192 ⟨rfl, rfl⟩ rfl rfl ?_
  refine rk192 (by omega) ⟨by omega, by omega⟩ ?_
  refine x_istore (pl' := [some (.ref 87), some (xV p), some (xV k), some (xV sn), some (xV (uX k)), none]) xc209_11 rfl rfl ?_
  refine x_iloadn xc209_13 rfl ?_
  refine x_cS (as := [xV k]) (rest := []) xc209_14 rfl rfl xi194 ⟨rfl, rfl⟩ rfl rfl ?_
  refine rk194 (by omega) ⟨by omega, by omega⟩ ?_
  refine x_istore (pl' := [some (.ref 87), some (xV p), some (xV k), some (xV sn), some (xV (uX k)), some (xV (uY k))]) xc209_17 rfl rfl ?_
  refine x_iloadn xc209_19 rfl ?_
  refine x_cS (as := [xV k]) (rest := []) xc209_20 rfl rfl xi193 ⟨rfl, rfl⟩ rfl rfl ?_
  refine rk193 (by omega) ⟨by omega, by omega⟩ ?_
  have h0 : ¬ uK k = 1 := by omega
  have h1 : ¬ uK k = 2 := by omega
  have h2 : ¬ uK k = 3 := by omega
  refine x_sw (c := 4) (t := 105) (by omega) xc209_23.1 rfl ?_
  refine x_aloadn xc209_105 rfl ?_
  refine x_gfr xc209_106 rfl rfl xz87 rfl ?_
  refine x_iconst xc209_109 ?_
  refine x_iload xc209_110 rfl ?_
  refine x_iadd xc209_112 ?_
  refine x_bipush xc209_113 (by decide) ?_
  refine x_iload xc209_115 rfl ?_
  refine x_iadd xc209_117 ?_
  refine x_ias xc209_118 xz88 (by have g0 := hxk; omega) (by have g0 := hxk; omega) (by have g0 := hxk; omega) ?_
  refine x_goto xc209_119 ?_
  exact k1

theorem w209_5 {ro : Nat → Nat × (Nat → Int32)} {d : Nat} {Q : Option Value → pmS → Prop} {p k sn : Int} {a : xA} {b : xB} (hA : xAr a) (hp : 0 ≤ p ∧ p ≤ 3) (hk : 0 ≤ k ∧ k < 61) (hkk : uK k = 5) (hxk : 0 ≤ uX k ∧ uX k < 4) (hyk : uY k = -1) (hd : 1 ≤ d)
    (k1 : pmCs ro d 211 [.ref 87, xV p, xV (uX k)] (xS a b) fun r σ' => pmWp ro d 12 209 1 129 [some (.ref 87), some (xV p), some (xV k), some (xV sn), some (xV (uX k)), some (xV (uY k))] (r.toList ++ []) σ' Q) :
    pmWp ro d 12 209 1 6 [some (.ref 87), some (xV p), some (xV k), none, none, none] [xV sn] (xS a b) Q := by
  refine x_istoren (pl' := [some (.ref 87), some (xV p), some (xV k), some (xV sn), none, none]) xc209_6 rfl rfl ?_
  refine x_iloadn xc209_7 rfl ?_
  refine x_cS (as := [xV k]) (rest := []) xc209_8 rfl rfl xi192 ⟨rfl, rfl⟩ rfl rfl ?_
  refine rk192 (by omega) ⟨by omega, by omega⟩ ?_
  refine x_istore (pl' := [some (.ref 87), some (xV p), some (xV k), some (xV sn), some (xV (uX k)), none]) xc209_11 rfl rfl ?_
  refine x_iloadn xc209_13 rfl ?_
  refine x_cS (as := [xV k]) (rest := []) xc209_14 rfl rfl xi194 ⟨rfl, rfl⟩ rfl rfl ?_
  refine rk194 (by omega) ⟨by omega, by omega⟩ ?_
  refine x_istore (pl' := [some (.ref 87), some (xV p), some (xV k), some (xV sn), some (xV (uX k)), some (xV (uY k))]) xc209_17 rfl rfl ?_
  refine x_iloadn xc209_19 rfl ?_
  refine x_cS (as := [xV k]) (rest := []) xc209_20 rfl rfl xi193 ⟨rfl, rfl⟩ rfl rfl ?_
  refine rk193 (by omega) ⟨by omega, by omega⟩ ?_
  have h0 : ¬ uK k = 1 := by omega
  have h1 : ¬ uK k = 2 := by omega
  have h2 : ¬ uK k = 3 := by omega
  have h3 : ¬ uK k = 4 := by omega
  refine x_sw (c := 5) (t := 122) (by omega) xc209_23.1 rfl ?_
  refine x_aloadn xc209_122 rfl ?_
  refine x_iloadn xc209_123 rfl ?_
  refine x_iload xc209_124 rfl ?_
  refine x_cV (as := [xV p, xV (uX k)]) (rest := []) xc209_126 rfl xi211 xz87 ⟨rfl, rfl⟩ rfl rfl ?_
  exact k1

theorem w209_6 {ro : Nat → Nat × (Nat → Int32)} {d : Nat} {Q : Option Value → pmS → Prop} {p k sn : Int} {a : xA} {b : xB} (hA : xAr a) (hp : 0 ≤ p ∧ p ≤ 3) (hk : 0 ≤ k ∧ k < 61) (hkk : uK k = 6) (hxk : 0 ≤ uX k ∧ uX k < 5) (hyk : 1 ≤ uY k ∧ uY k < 4) (hd : 1 ≤ d)
    (k1 : (¬ a 88 (4 + (uX k)) = 20) → pmWp ro d 12 209 1 171 [some (.ref 87), some (xV p), some (xV k), some (xV sn), some (xV (uX k)), some (xV (uY k))] [] (xS (xU a 88 (14 + (9 * ((uY k) - 1)) + (uX k)) (a 88 (4 + (uX k)))) b) Q)
    (k2 : (a 88 (4 + (uX k)) = 20) → pmWp ro d 12 209 1 171 [some (.ref 87), some (xV p), some (xV k), some (xV sn), some (xV (uX k)), some (xV (uY k))] [] (xS (xU a 88 (14 + (9 * ((uY k) - 1)) + (uX k)) (-1)) b) Q) :
    pmWp ro d 12 209 1 6 [some (.ref 87), some (xV p), some (xV k), none, none, none] [xV sn] (xS a b) Q := by
  refine x_istoren (pl' := [some (.ref 87), some (xV p), some (xV k), some (xV sn), none, none]) xc209_6 rfl rfl ?_
  refine x_iloadn xc209_7 rfl ?_
  refine x_cS (as := [xV k]) (rest := []) xc209_8 rfl rfl xi192 ⟨rfl, rfl⟩ rfl rfl ?_
  refine rk192 (by omega) ⟨by omega, by omega⟩ ?_
  refine x_istore (pl' := [some (.ref 87), some (xV p), some (xV k), some (xV sn), some (xV (uX k)), none]) xc209_11 rfl rfl ?_
  refine x_iloadn xc209_13 rfl ?_
  refine x_cS (as := [xV k]) (rest := []) xc209_14 rfl rfl xi194 ⟨rfl, rfl⟩ rfl rfl ?_
  refine rk194 (by omega) ⟨by omega, by omega⟩ ?_
  refine x_istore (pl' := [some (.ref 87), some (xV p), some (xV k), some (xV sn), some (xV (uX k)), some (xV (uY k))]) xc209_17 rfl rfl ?_
  refine x_iloadn xc209_19 rfl ?_
  refine x_cS (as := [xV k]) (rest := []) xc209_20 rfl rfl xi193 ⟨rfl, rfl⟩ rfl rfl ?_
  refine rk193 (by omega) ⟨by omega, by omega⟩ ?_
  have h0 : ¬ uK k = 1 := by omega
  have h1 : ¬ uK k = 2 := by omega
  have h2 : ¬ uK k = 3 := by omega
  have h3 : ¬ uK k = 4 := by omega
  have h4 : ¬ uK k = 5 := by omega
  refine x_tsd xc209_23 (xRk (by have g0 := hkk; omega)) (by omega) ?_
  refine x_aloadn xc209_132 rfl ?_
  refine x_gfr xc209_133 rfl rfl xz87 rfl ?_
  refine x_iload xc209_136 rfl ?_
  refine x_iload xc209_138 rfl ?_
  refine x_cS (as := [xV (uY k), xV (uX k)]) (rest := [.ref 88]) xc209_140 rfl rfl xi149 ⟨rfl, rfl⟩ rfl rfl ?_
  refine rk149 (by omega) ?_
  refine x_aloadn xc209_143 rfl ?_
  refine x_gfr xc209_144 rfl rfl xz87 rfl ?_
  refine x_iconst xc209_147 ?_
  refine x_iload xc209_148 rfl ?_
  refine x_iadd xc209_150 ?_
  refine x_ial xc209_151 xz88 rfl (by have g0 := hxk; omega) (by have g0 := hxk; omega) (by have g0 := hxk; omega) ?_
  refine x_bipush xc209_152 (by decide) ?_
  refine x_icne xc209_154 (xRk (by have g0 := hxk; have g1 := xRb (hA 88 (4 + (uX k))); omega)) (xRk (by decide)) (fun h5 => ?_) (fun h5 => ?_)
  · refine x_aloadn xc209_161 rfl ?_
    refine x_gfr xc209_162 rfl rfl xz87 rfl ?_
    refine x_iconst xc209_165 ?_
    refine x_iload xc209_166 rfl ?_
    refine x_iadd xc209_168 ?_
    refine x_ial xc209_169 xz88 rfl (by have g0 := hxk; omega) (by have g0 := hxk; omega) (by have g0 := hxk; omega) ?_
    refine x_ias xc209_170 xz88 (by have g0 := hyk; have g1 := hxk; omega) (by have g0 := hyk; have g1 := hxk; omega) (by have g0 := hyk; have g1 := hxk; omega) ?_
    exact k1 h5
  · replace h5 := Classical.not_not.mp h5
    refine x_iconst xc209_157 ?_
    refine x_goto xc209_158 ?_
    refine x_ias xc209_170 xz88 (by have g0 := hyk; have g1 := hxk; omega) (by have g0 := hyk; have g1 := hxk; omega) (by have g0 := hyk; have g1 := hxk; omega) ?_
    exact k2 h5

theorem w209a {ro : Nat → Nat × (Nat → Int32)} {d : Nat} {Q : Option Value → pmS → Prop} {v4 : Option Value} {v5 : Option Value} {p k sn ev : Int} {a : xA} {b : xB} (hev : a 88 119 = ev) (hev0 : 0 ≤ ev ∧ ev ≤ 1000)
    (k1 : pmCs ro d 212 [.ref 87, xV p, xV k, xV sn] (xS (xU a 88 119 (ev + 1)) b) fun r σ' => pmWp ro d 12 209 1 194 [some (.ref 87), some (xV p), some (xV k), some (xV sn), v4, v5] (r.toList ++ []) σ' Q) :
    pmWp ro d 12 209 1 171 [some (.ref 87), some (xV p), some (xV k), some (xV sn), v4, v5] [] (xS a b) Q := by
  refine x_aloadn xc209_171 rfl ?_
  refine x_gfr xc209_172 rfl rfl xz87 rfl ?_
  refine x_bipush xc209_175 (by decide) ?_
  refine x_aloadn xc209_177 rfl ?_
  refine x_gfr xc209_178 rfl rfl xz87 rfl ?_
  refine x_bipush xc209_181 (by decide) ?_
  refine x_ial' (v := ev) xc209_183 xz88 rfl (by omega) (by omega) (by omega) hev ?_
  refine x_iconst xc209_184 ?_
  refine x_iadd xc209_185 ?_
  refine x_ias xc209_186 xz88 (by omega) (by omega) (by omega) ?_
  refine x_aloadn xc209_187 rfl ?_
  refine x_iloadn xc209_188 rfl ?_
  refine x_iloadn xc209_189 rfl ?_
  refine x_iloadn xc209_190 rfl ?_
  refine x_cV (as := [xV p, xV k, xV sn]) (rest := []) xc209_191 rfl xi212 xz87 ⟨rfl, rfl⟩ rfl rfl ?_
  exact k1

theorem w209h {ro : Nat → Nat × (Nat → Int32)} {d : Nat} {Q : Option Value → pmS → Prop} {v4 : Option Value} {v5 : Option Value} {p k sn : Int} {a : xA} {b : xB}
    (k1 : pmWp ro d 12 209 1 171 [some (.ref 87), some (xV p), some (xV k), some (xV sn), v4, v5] [] (xS a b) Q) :
    pmWp ro d 12 209 1 129 [some (.ref 87), some (xV p), some (xV k), some (xV sn), v4, v5] [] (xS a b) Q := by
  refine x_goto xc209_129 ?_
  exact k1

theorem w209b {ro : Nat → Nat × (Nat → Int32)} {d : Nat} {Q : Option Value → pmS → Prop} {v4 : Option Value} {v5 : Option Value} {p k sn : Int} {a : xA} {b : xB}
    (k1 : pmCs ro d 174 [.ref 87] (xS a b) fun r σ' => pmWp ro d 12 209 1 198 [some (.ref 87), some (xV p), some (xV k), some (xV sn), v4, v5] (r.toList ++ []) σ' Q) :
    pmWp ro d 12 209 1 194 [some (.ref 87), some (xV p), some (xV k), some (xV sn), v4, v5] [] (xS a b) Q := by
  refine x_aloadn xc209_194 rfl ?_
  refine x_cV (as := []) (rest := []) xc209_195 rfl xi174 xz87 ⟨rfl, rfl⟩ rfl rfl ?_
  exact k1

theorem w209c {ro : Nat → Nat × (Nat → Int32)} {d : Nat} {Q : Option Value → pmS → Prop} {v4 : Option Value} {v5 : Option Value} {p k sn : Int} {a : xA} {b : xB}
    (k1 : Q (some (xV sn)) (xS a b)) :
    pmWp ro d 12 209 1 198 [some (.ref 87), some (xV p), some (xV k), some (xV sn), v4, v5] [] (xS a b) Q := by
  refine x_iloadn xc209_198 rfl ?_
  refine x_iret xc209_199 (Or.inl rfl) ?_
  exact k1

end
