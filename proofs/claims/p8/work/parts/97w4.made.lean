/-! exact: made of the reference -/
section
set_option maxRecDepth 100000
theorem xi238 : pmInf[238]? = some pmI_238 := rfl
theorem xc237_7 : pmCode 237 7 = some (.iload_n 1) ∧ 7 + 1 = 8 := ⟨rfl, rfl⟩
theorem xc237_8 : pmCode 237 8 = some (.iconst 0) ∧ 8 + 1 = 9 := ⟨rfl, rfl⟩
theorem xc237_9 : pmCode 237 9 = some (.iconst 2) ∧ 9 + 1 = 10 := ⟨rfl, rfl⟩
theorem xc237_10 : pmCode 237 10 = some (.invokestatic 142) ∧ 10 + 3 = 13 := ⟨rfl, rfl⟩
theorem xc237_13 : pmCode 237 13 = some (.ifCond .eq 34) ∧ ((13 : Nat) : Int) + 34 = ((47 : Nat) : Int) ∧ 13 + 3 = 16 := ⟨rfl, rfl, rfl⟩
theorem xc237_16 : pmCode 237 16 = some (.iload_n 2) ∧ 16 + 1 = 17 := ⟨rfl, rfl⟩
theorem xc237_17 : pmCode 237 17 = some (.iconst 0) ∧ 17 + 1 = 18 := ⟨rfl, rfl⟩
theorem xc237_18 : pmCode 237 18 = some (.ldc_w 428) ∧ 18 + 3 = 21 := ⟨rfl, rfl⟩
theorem xc237_21 : pmCode 237 21 = some (.invokestatic 142) ∧ 21 + 3 = 24 := ⟨rfl, rfl⟩
theorem xc237_24 : pmCode 237 24 = some (.ifCond .eq 23) ∧ ((24 : Nat) : Int) + 23 = ((47 : Nat) : Int) ∧ 24 + 3 = 27 := ⟨rfl, rfl, rfl⟩
theorem xc237_27 : pmCode 237 27 = some (.iload_n 3) ∧ 27 + 1 = 28 := ⟨rfl, rfl⟩
theorem xc237_28 : pmCode 237 28 = some (.iconst 1) ∧ 28 + 1 = 29 := ⟨rfl, rfl⟩
theorem xc237_29 : pmCode 237 29 = some (.bipush 20) ∧ 29 + 2 = 31 := ⟨rfl, rfl⟩
theorem xc237_31 : pmCode 237 31 = some (.invokestatic 142) ∧ 31 + 3 = 34 := ⟨rfl, rfl⟩
theorem xc237_34 : pmCode 237 34 = some (.ifCond .eq 13) ∧ ((34 : Nat) : Int) + 13 = ((47 : Nat) : Int) ∧ 34 + 3 = 37 := ⟨rfl, rfl, rfl⟩
theorem xc237_37 : pmCode 237 37 = some (.iload 4) ∧ 37 + 2 = 39 := ⟨rfl, rfl⟩
theorem xc237_39 : pmCode 237 39 = some (.iconst 0) ∧ 39 + 1 = 40 := ⟨rfl, rfl⟩
theorem xc237_40 : pmCode 237 40 = some (.iconst 2) ∧ 40 + 1 = 41 := ⟨rfl, rfl⟩
theorem xc237_41 : pmCode 237 41 = some (.invokestatic 142) ∧ 41 + 3 = 44 := ⟨rfl, rfl⟩
theorem xc237_44 : pmCode 237 44 = some (.ifCond .ne 5) ∧ ((44 : Nat) : Int) + 5 = ((49 : Nat) : Int) ∧ 44 + 3 = 47 := ⟨rfl, rfl, rfl⟩
theorem xc237_49 : pmCode 237 49 = some (.aload_n 0) ∧ 49 + 1 = 50 := ⟨rfl, rfl⟩
theorem xc237_50 : pmCode 237 50 = some (.iconst 1) ∧ 50 + 1 = 51 := ⟨rfl, rfl⟩
theorem xc237_51 : pmCode 237 51 = some (.invokevirtual 336) ∧ 51 + 3 = 54 := ⟨rfl, rfl⟩
theorem xc237_54 : pmCode 237 54 = some (.aload_n 0) ∧ 54 + 1 = 55 := ⟨rfl, rfl⟩
theorem xc237_55 : pmCode 237 55 = some (.getfield 7) ∧ 55 + 3 = 58 := ⟨rfl, rfl⟩
theorem xc237_58 : pmCode 237 58 = some (.bipush 119) ∧ 58 + 2 = 60 := ⟨rfl, rfl⟩
theorem xc237_60 : pmCode 237 60 = some .iaload ∧ 60 + 1 = 61 := ⟨rfl, rfl⟩
theorem xc237_61 : pmCode 237 61 = some (.istore 5) ∧ 61 + 2 = 63 := ⟨rfl, rfl⟩
theorem xc237_63 : pmCode 237 63 = some (.aload_n 0) ∧ 63 + 1 = 64 := ⟨rfl, rfl⟩
theorem xc237_64 : pmCode 237 64 = some (.invokevirtual 401) ∧ 64 + 3 = 67 := ⟨rfl, rfl⟩
theorem xc237_67 : pmCode 237 67 = some (.ifCond .eq 7) ∧ ((67 : Nat) : Int) + 7 = ((74 : Nat) : Int) ∧ 67 + 3 = 70 := ⟨rfl, rfl, rfl⟩
theorem xc237_70 : pmCode 237 70 = some (.iconst 0) ∧ 70 + 1 = 71 := ⟨rfl, rfl⟩
theorem xc237_71 : pmCode 237 71 = some (.goto 4) ∧ ((71 : Nat) : Int) + 4 = ((75 : Nat) : Int) := ⟨rfl, rfl⟩
theorem xc237_74 : pmCode 237 74 = some (.iconst (-1)) ∧ 74 + 1 = 75 := ⟨rfl, rfl⟩
theorem xc237_75 : pmCode 237 75 = some (.istore 6) ∧ 75 + 2 = 77 := ⟨rfl, rfl⟩
theorem xc237_77 : pmCode 237 77 = some (.iload_n 2) ∧ 77 + 1 = 78 := ⟨rfl, rfl⟩
theorem xc237_78 : pmCode 237 78 = some (.istore 7) ∧ 78 + 2 = 80 := ⟨rfl, rfl⟩
theorem xc237_80 : pmCode 237 80 = some (.iconst 1) ∧ 80 + 1 = 81 := ⟨rfl, rfl⟩
theorem xc237_81 : pmCode 237 81 = some (.istore 8) ∧ 81 + 2 = 83 := ⟨rfl, rfl⟩
theorem xc237_83 : pmCode 237 83 = some (.iload 8) ∧ 83 + 2 = 85 := ⟨rfl, rfl⟩
theorem xc237_85 : pmCode 237 85 = some (.iload_n 3) ∧ 85 + 1 = 86 := ⟨rfl, rfl⟩
theorem xc237_86 : pmCode 237 86 = some (.if_icmp .gt 59) ∧ ((86 : Nat) : Int) + 59 = ((145 : Nat) : Int) ∧ 86 + 3 = 89 := ⟨rfl, rfl, rfl⟩
theorem xc237_89 : pmCode 237 89 = some (.sipush 25173) ∧ 89 + 3 = 92 := ⟨rfl, rfl⟩
theorem xc237_92 : pmCode 237 92 = some (.iload 7) ∧ 92 + 2 = 94 := ⟨rfl, rfl⟩
theorem xc237_94 : pmCode 237 94 = some .imul ∧ 94 + 1 = 95 := ⟨rfl, rfl⟩
theorem xc237_95 : pmCode 237 95 = some (.sipush 13849) ∧ 95 + 3 = 98 := ⟨rfl, rfl⟩
theorem xc237_98 : pmCode 237 98 = some .iadd ∧ 98 + 1 = 99 := ⟨rfl, rfl⟩
theorem xc237_99 : pmCode 237 99 = some (.ldc_w 429) ∧ 99 + 3 = 102 := ⟨rfl, rfl⟩
theorem xc237_102 : pmCode 237 102 = some .irem ∧ 102 + 1 = 103 := ⟨rfl, rfl⟩
theorem xc237_103 : pmCode 237 103 = some (.istore 7) ∧ 103 + 2 = 105 := ⟨rfl, rfl⟩
theorem xc237_105 : pmCode 237 105 = some (.aload_n 0) ∧ 105 + 1 = 106 := ⟨rfl, rfl⟩
theorem xc237_106 : pmCode 237 106 = some (.aload_n 0) ∧ 106 + 1 = 107 := ⟨rfl, rfl⟩
theorem xc237_107 : pmCode 237 107 = some (.iload_n 1) ∧ 107 + 1 = 108 := ⟨rfl, rfl⟩
theorem xc237_108 : pmCode 237 108 = some (.iload 7) ∧ 108 + 2 = 110 := ⟨rfl, rfl⟩
theorem xc237_110 : pmCode 237 110 = some (.invokevirtual 430) ∧ 110 + 3 = 113 := ⟨rfl, rfl⟩
theorem xc237_113 : pmCode 237 113 = some (.iconst (-1)) ∧ 113 + 1 = 114 := ⟨rfl, rfl⟩
theorem xc237_114 : pmCode 237 114 = some (.invokevirtual 380) ∧ 114 + 3 = 117 := ⟨rfl, rfl⟩
theorem xc237_117 : pmCode 237 117 = some (.iload 6) ∧ 117 + 2 = 119 := ⟨rfl, rfl⟩
theorem xc237_119 : pmCode 237 119 = some (.iconst (-1)) ∧ 119 + 1 = 120 := ⟨rfl, rfl⟩
theorem xc237_120 : pmCode 237 120 = some (.if_icmp .ne 15) ∧ ((120 : Nat) : Int) + 15 = ((135 : Nat) : Int) ∧ 120 + 3 = 123 := ⟨rfl, rfl, rfl⟩
theorem xc237_123 : pmCode 237 123 = some (.aload_n 0) ∧ 123 + 1 = 124 := ⟨rfl, rfl⟩
theorem xc237_124 : pmCode 237 124 = some (.invokevirtual 401) ∧ 124 + 3 = 127 := ⟨rfl, rfl⟩
theorem xc237_127 : pmCode 237 127 = some (.ifCond .eq 8) ∧ ((127 : Nat) : Int) + 8 = ((135 : Nat) : Int) ∧ 127 + 3 = 130 := ⟨rfl, rfl, rfl⟩
theorem xc237_130 : pmCode 237 130 = some (.iload 8) ∧ 130 + 2 = 132 := ⟨rfl, rfl⟩
theorem xc237_132 : pmCode 237 132 = some (.goto 5) ∧ ((132 : Nat) : Int) + 5 = ((137 : Nat) : Int) := ⟨rfl, rfl⟩
theorem xc237_135 : pmCode 237 135 = some (.iload 6) ∧ 135 + 2 = 137 := ⟨rfl, rfl⟩
theorem xc237_137 : pmCode 237 137 = some (.istore 6) ∧ 137 + 2 = 139 := ⟨rfl, rfl⟩
theorem xc237_139 : pmCode 237 139 = some (.iinc 8 1) ∧ 139 + 3 = 142 := ⟨rfl, rfl⟩
theorem xc237_142 : pmCode 237 142 = some (.goto (-59)) ∧ ((142 : Nat) : Int) + (-59) = ((83 : Nat) : Int) := ⟨rfl, rfl⟩
theorem xc237_145 : pmCode 237 145 = some (.iconst 0) ∧ 145 + 1 = 146 := ⟨rfl, rfl⟩
theorem xc237_146 : pmCode 237 146 = some (.istore 8) ∧ 146 + 2 = 148 := ⟨rfl, rfl⟩
theorem xc237_148 : pmCode 237 148 = some (.iconst 0) ∧ 148 + 1 = 149 := ⟨rfl, rfl⟩
theorem xc237_149 : pmCode 237 149 = some (.istore 9) ∧ 149 + 2 = 151 := ⟨rfl, rfl⟩
theorem xc237_151 : pmCode 237 151 = some (.iload 9) ∧ 151 + 2 = 153 := ⟨rfl, rfl⟩
theorem xc237_153 : pmCode 237 153 = some (.iconst 4) ∧ 153 + 1 = 154 := ⟨rfl, rfl⟩
theorem xc237_154 : pmCode 237 154 = some (.if_icmp .ge 28) ∧ ((154 : Nat) : Int) + 28 = ((182 : Nat) : Int) ∧ 154 + 3 = 157 := ⟨rfl, rfl, rfl⟩
theorem xc237_157 : pmCode 237 157 = some (.iload 8) ∧ 157 + 2 = 159 := ⟨rfl, rfl⟩
theorem xc237_159 : pmCode 237 159 = some (.aload_n 0) ∧ 159 + 1 = 160 := ⟨rfl, rfl⟩
theorem xc237_160 : pmCode 237 160 = some (.iload 9) ∧ 160 + 2 = 162 := ⟨rfl, rfl⟩
theorem xc237_162 : pmCode 237 162 = some (.invokevirtual 253) ∧ 162 + 3 = 165 := ⟨rfl, rfl⟩
theorem xc237_165 : pmCode 237 165 = some (.ifCond .eq 7) ∧ ((165 : Nat) : Int) + 7 = ((172 : Nat) : Int) ∧ 165 + 3 = 168 := ⟨rfl, rfl, rfl⟩
theorem xc237_168 : pmCode 237 168 = some (.iconst 0) ∧ 168 + 1 = 169 := ⟨rfl, rfl⟩
theorem xc237_169 : pmCode 237 169 = some (.goto 4) ∧ ((169 : Nat) : Int) + 4 = ((173 : Nat) : Int) := ⟨rfl, rfl⟩
theorem xc237_172 : pmCode 237 172 = some (.iconst 1) ∧ 172 + 1 = 173 := ⟨rfl, rfl⟩
theorem xc237_173 : pmCode 237 173 = some .iadd ∧ 173 + 1 = 174 := ⟨rfl, rfl⟩
theorem xc237_174 : pmCode 237 174 = some (.istore 8) ∧ 174 + 2 = 176 := ⟨rfl, rfl⟩
theorem xc237_176 : pmCode 237 176 = some (.iinc 9 1) ∧ 176 + 3 = 179 := ⟨rfl, rfl⟩
theorem xc237_179 : pmCode 237 179 = some (.goto (-28)) ∧ ((179 : Nat) : Int) + (-28) = ((151 : Nat) : Int) := ⟨rfl, rfl⟩
theorem xc237_182 : pmCode 237 182 = some (.aload_n 0) ∧ 182 + 1 = 183 := ⟨rfl, rfl⟩
theorem xc237_183 : pmCode 237 183 = some (.getfield 7) ∧ 183 + 3 = 186 := ⟨rfl, rfl⟩
theorem xc237_186 : pmCode 237 186 = some (.bipush 119) ∧ 186 + 2 = 188 := ⟨rfl, rfl⟩
theorem xc237_188 : pmCode 237 188 = some .iaload ∧ 188 + 1 = 189 := ⟨rfl, rfl⟩
theorem xc237_189 : pmCode 237 189 = some (.iload 5) ∧ 189 + 2 = 191 := ⟨rfl, rfl⟩
theorem xc237_191 : pmCode 237 191 = some .isub ∧ 191 + 1 = 192 := ⟨rfl, rfl⟩
theorem xc237_192 : pmCode 237 192 = some (.istore 9) ∧ 192 + 2 = 194 := ⟨rfl, rfl⟩
theorem xc237_194 : pmCode 237 194 = some (.aload_n 0) ∧ 194 + 1 = 195 := ⟨rfl, rfl⟩
theorem xc237_195 : pmCode 237 195 = some (.iconst 1) ∧ 195 + 1 = 196 := ⟨rfl, rfl⟩
theorem xc237_196 : pmCode 237 196 = some (.invokevirtual 404) ∧ 196 + 3 = 199 := ⟨rfl, rfl⟩
theorem xc237_199 : pmCode 237 199 = some (.iload 4) ∧ 199 + 2 = 201 := ⟨rfl, rfl⟩
theorem xc237_201 : pmCode 237 201 = some (.ifCond .ne 8) ∧ ((201 : Nat) : Int) + 8 = ((209 : Nat) : Int) ∧ 201 + 3 = 204 := ⟨rfl, rfl, rfl⟩
theorem xc237_204 : pmCode 237 204 = some (.iload 6) ∧ 204 + 2 = 206 := ⟨rfl, rfl⟩
theorem xc237_206 : pmCode 237 206 = some (.goto 16) ∧ ((206 : Nat) : Int) + 16 = ((222 : Nat) : Int) := ⟨rfl, rfl⟩
theorem xc237_209 : pmCode 237 209 = some (.iload 4) ∧ 209 + 2 = 211 := ⟨rfl, rfl⟩
theorem xc237_211 : pmCode 237 211 = some (.iconst 1) ∧ 211 + 1 = 212 := ⟨rfl, rfl⟩
theorem xc237_212 : pmCode 237 212 = some (.if_icmp .ne 8) ∧ ((212 : Nat) : Int) + 8 = ((220 : Nat) : Int) ∧ 212 + 3 = 215 := ⟨rfl, rfl, rfl⟩
theorem xc237_215 : pmCode 237 215 = some (.iload 8) ∧ 215 + 2 = 217 := ⟨rfl, rfl⟩
theorem xc237_217 : pmCode 237 217 = some (.goto 5) ∧ ((217 : Nat) : Int) + 5 = ((222 : Nat) : Int) := ⟨rfl, rfl⟩
theorem xc237_220 : pmCode 237 220 = some (.iload 9) ∧ 220 + 2 = 222 := ⟨rfl, rfl⟩
theorem xc237_222 : pmCode 237 222 = some .ireturn := rfl
theorem xc238_0 : pmCode 238 0 = some (.iload_n 1) ∧ 0 + 1 = 1 := ⟨rfl, rfl⟩
theorem xc238_1 : pmCode 238 1 = some (.ifCond .ne 5) ∧ ((1 : Nat) : Int) + 5 = ((6 : Nat) : Int) ∧ 1 + 3 = 4 := ⟨rfl, rfl, rfl⟩
theorem xc238_4 : pmCode 238 4 = some (.iconst (-1)) ∧ 4 + 1 = 5 := ⟨rfl, rfl⟩
theorem xc238_5 : pmCode 238 5 = some .ireturn := rfl
theorem xc238_6 : pmCode 238 6 = some (.bipush 37) ∧ 6 + 2 = 8 := ⟨rfl, rfl⟩
theorem xc238_8 : pmCode 238 8 = some (.istore_n 3) ∧ 8 + 1 = 9 := ⟨rfl, rfl⟩
theorem xc238_9 : pmCode 238 9 = some (.iload_n 3) ∧ 9 + 1 = 10 := ⟨rfl, rfl⟩
theorem xc238_10 : pmCode 238 10 = some (.bipush 41) ∧ 10 + 2 = 12 := ⟨rfl, rfl⟩
theorem xc238_12 : pmCode 238 12 = some (.if_icmp .ge 25) ∧ ((12 : Nat) : Int) + 25 = ((37 : Nat) : Int) ∧ 12 + 3 = 15 := ⟨rfl, rfl, rfl⟩
theorem xc238_15 : pmCode 238 15 = some (.iload_n 1) ∧ 15 + 1 = 16 := ⟨rfl, rfl⟩
theorem xc238_16 : pmCode 238 16 = some (.iconst 2) ∧ 16 + 1 = 17 := ⟨rfl, rfl⟩
theorem xc238_17 : pmCode 238 17 = some (.if_icmp .ne 20) ∧ ((17 : Nat) : Int) + 20 = ((37 : Nat) : Int) ∧ 17 + 3 = 20 := ⟨rfl, rfl, rfl⟩
theorem xc238_20 : pmCode 238 20 = some (.aload_n 0) ∧ 20 + 1 = 21 := ⟨rfl, rfl⟩
theorem xc238_21 : pmCode 238 21 = some (.iconst 0) ∧ 21 + 1 = 22 := ⟨rfl, rfl⟩
theorem xc238_22 : pmCode 238 22 = some (.iload_n 3) ∧ 22 + 1 = 23 := ⟨rfl, rfl⟩
theorem xc238_23 : pmCode 238 23 = some (.invokevirtual 377) ∧ 23 + 3 = 26 := ⟨rfl, rfl⟩
theorem xc238_26 : pmCode 238 26 = some (.ifCond .eq 5) ∧ ((26 : Nat) : Int) + 5 = ((31 : Nat) : Int) ∧ 26 + 3 = 29 := ⟨rfl, rfl, rfl⟩
theorem xc238_29 : pmCode 238 29 = some (.iload_n 3) ∧ 29 + 1 = 30 := ⟨rfl, rfl⟩
theorem xc238_30 : pmCode 238 30 = some .ireturn := rfl
theorem xc238_31 : pmCode 238 31 = some (.iinc 3 1) ∧ 31 + 3 = 34 := ⟨rfl, rfl⟩
theorem xc238_34 : pmCode 238 34 = some (.goto (-25)) ∧ ((34 : Nat) : Int) + (-25) = ((9 : Nat) : Int) := ⟨rfl, rfl⟩
theorem xc238_37 : pmCode 238 37 = some (.iconst 1) ∧ 37 + 1 = 38 := ⟨rfl, rfl⟩
theorem xc238_38 : pmCode 238 38 = some (.istore_n 3) ∧ 38 + 1 = 39 := ⟨rfl, rfl⟩
theorem xc238_39 : pmCode 238 39 = some (.iconst 0) ∧ 39 + 1 = 40 := ⟨rfl, rfl⟩
theorem xc238_40 : pmCode 238 40 = some (.istore 4) ∧ 40 + 2 = 42 := ⟨rfl, rfl⟩
theorem xc238_42 : pmCode 238 42 = some (.iload 4) ∧ 42 + 2 = 44 := ⟨rfl, rfl⟩
theorem xc238_44 : pmCode 238 44 = some (.bipush 61) ∧ 44 + 2 = 46 := ⟨rfl, rfl⟩
theorem xc238_46 : pmCode 238 46 = some (.if_icmp .ge 27) ∧ ((46 : Nat) : Int) + 27 = ((73 : Nat) : Int) ∧ 46 + 3 = 49 := ⟨rfl, rfl, rfl⟩
theorem xc238_49 : pmCode 238 49 = some (.iload_n 3) ∧ 49 + 1 = 50 := ⟨rfl, rfl⟩
theorem xc238_50 : pmCode 238 50 = some (.aload_n 0) ∧ 50 + 1 = 51 := ⟨rfl, rfl⟩
theorem xc238_51 : pmCode 238 51 = some (.iconst 0) ∧ 51 + 1 = 52 := ⟨rfl, rfl⟩
theorem xc238_52 : pmCode 238 52 = some (.iload 4) ∧ 52 + 2 = 54 := ⟨rfl, rfl⟩
theorem xc238_54 : pmCode 238 54 = some (.invokevirtual 377) ∧ 54 + 3 = 57 := ⟨rfl, rfl⟩
theorem xc238_57 : pmCode 238 57 = some (.ifCond .eq 7) ∧ ((57 : Nat) : Int) + 7 = ((64 : Nat) : Int) ∧ 57 + 3 = 60 := ⟨rfl, rfl, rfl⟩
theorem xc238_60 : pmCode 238 60 = some (.iconst 1) ∧ 60 + 1 = 61 := ⟨rfl, rfl⟩
theorem xc238_61 : pmCode 238 61 = some (.goto 4) ∧ ((61 : Nat) : Int) + 4 = ((65 : Nat) : Int) := ⟨rfl, rfl⟩
theorem xc238_64 : pmCode 238 64 = some (.iconst 0) ∧ 64 + 1 = 65 := ⟨rfl, rfl⟩
theorem xc238_65 : pmCode 238 65 = some .iadd ∧ 65 + 1 = 66 := ⟨rfl, rfl⟩
theorem xc238_66 : pmCode 238 66 = some (.istore_n 3) ∧ 66 + 1 = 67 := ⟨rfl, rfl⟩
theorem xc238_67 : pmCode 238 67 = some (.iinc 4 1) ∧ 67 + 3 = 70 := ⟨rfl, rfl⟩
theorem xc238_70 : pmCode 238 70 = some (.goto (-28)) ∧ ((70 : Nat) : Int) + (-28) = ((42 : Nat) : Int) := ⟨rfl, rfl⟩
theorem xc238_73 : pmCode 238 73 = some (.iload_n 2) ∧ 73 + 1 = 74 := ⟨rfl, rfl⟩
theorem xc238_74 : pmCode 238 74 = some (.iload_n 3) ∧ 74 + 1 = 75 := ⟨rfl, rfl⟩
theorem xc238_75 : pmCode 238 75 = some .irem ∧ 75 + 1 = 76 := ⟨rfl, rfl⟩
theorem xc238_76 : pmCode 238 76 = some (.istore 4) ∧ 76 + 2 = 78 := ⟨rfl, rfl⟩
theorem xc238_78 : pmCode 238 78 = some (.iload 4) ∧ 78 + 2 = 80 := ⟨rfl, rfl⟩
theorem xc238_80 : pmCode 238 80 = some (.ifCond .ne 5) ∧ ((80 : Nat) : Int) + 5 = ((85 : Nat) : Int) ∧ 80 + 3 = 83 := ⟨rfl, rfl, rfl⟩
theorem xc238_83 : pmCode 238 83 = some (.iconst (-1)) ∧ 83 + 1 = 84 := ⟨rfl, rfl⟩
theorem xc238_84 : pmCode 238 84 = some .ireturn := rfl
theorem xc238_85 : pmCode 238 85 = some (.iconst 0) ∧ 85 + 1 = 86 := ⟨rfl, rfl⟩
theorem xc238_86 : pmCode 238 86 = some (.istore 5) ∧ 86 + 2 = 88 := ⟨rfl, rfl⟩
theorem xc238_88 : pmCode 238 88 = some (.iconst 0) ∧ 88 + 1 = 89 := ⟨rfl, rfl⟩
theorem xc238_89 : pmCode 238 89 = some (.istore 6) ∧ 89 + 2 = 91 := ⟨rfl, rfl⟩
theorem xc238_91 : pmCode 238 91 = some (.iload 6) ∧ 91 + 2 = 93 := ⟨rfl, rfl⟩
theorem xc238_93 : pmCode 238 93 = some (.bipush 61) ∧ 93 + 2 = 95 := ⟨rfl, rfl⟩
theorem xc238_95 : pmCode 238 95 = some (.if_icmp .ge 39) ∧ ((95 : Nat) : Int) + 39 = ((134 : Nat) : Int) ∧ 95 + 3 = 98 := ⟨rfl, rfl, rfl⟩
theorem xc238_98 : pmCode 238 98 = some (.iload 5) ∧ 98 + 2 = 100 := ⟨rfl, rfl⟩
theorem xc238_100 : pmCode 238 100 = some (.aload_n 0) ∧ 100 + 1 = 101 := ⟨rfl, rfl⟩
theorem xc238_101 : pmCode 238 101 = some (.iconst 0) ∧ 101 + 1 = 102 := ⟨rfl, rfl⟩
theorem xc238_102 : pmCode 238 102 = some (.iload 6) ∧ 102 + 2 = 104 := ⟨rfl, rfl⟩
theorem xc238_104 : pmCode 238 104 = some (.invokevirtual 377) ∧ 104 + 3 = 107 := ⟨rfl, rfl⟩
theorem xc238_107 : pmCode 238 107 = some (.ifCond .eq 7) ∧ ((107 : Nat) : Int) + 7 = ((114 : Nat) : Int) ∧ 107 + 3 = 110 := ⟨rfl, rfl, rfl⟩
theorem xc238_110 : pmCode 238 110 = some (.iconst 1) ∧ 110 + 1 = 111 := ⟨rfl, rfl⟩
theorem xc238_111 : pmCode 238 111 = some (.goto 4) ∧ ((111 : Nat) : Int) + 4 = ((115 : Nat) : Int) := ⟨rfl, rfl⟩
theorem xc238_114 : pmCode 238 114 = some (.iconst 0) ∧ 114 + 1 = 115 := ⟨rfl, rfl⟩
theorem xc238_115 : pmCode 238 115 = some .iadd ∧ 115 + 1 = 116 := ⟨rfl, rfl⟩
theorem xc238_116 : pmCode 238 116 = some (.istore 5) ∧ 116 + 2 = 118 := ⟨rfl, rfl⟩
theorem xc238_118 : pmCode 238 118 = some (.iload 5) ∧ 118 + 2 = 120 := ⟨rfl, rfl⟩
theorem xc238_120 : pmCode 238 120 = some (.iload 4) ∧ 120 + 2 = 122 := ⟨rfl, rfl⟩
theorem xc238_122 : pmCode 238 122 = some (.if_icmp .ne 6) ∧ ((122 : Nat) : Int) + 6 = ((128 : Nat) : Int) ∧ 122 + 3 = 125 := ⟨rfl, rfl, rfl⟩
theorem xc238_125 : pmCode 238 125 = some (.iload 6) ∧ 125 + 2 = 127 := ⟨rfl, rfl⟩
theorem xc238_127 : pmCode 238 127 = some .ireturn := rfl
theorem xc238_128 : pmCode 238 128 = some (.iinc 6 1) ∧ 128 + 3 = 131 := ⟨rfl, rfl⟩
theorem xc238_131 : pmCode 238 131 = some (.goto (-40)) ∧ ((131 : Nat) : Int) + (-40) = ((91 : Nat) : Int) := ⟨rfl, rfl⟩
theorem xc238_134 : pmCode 238 134 = some (.iconst (-1)) ∧ 134 + 1 = 135 := ⟨rfl, rfl⟩
theorem xc238_135 : pmCode 238 135 = some .ireturn := rfl
theorem w238 {ro : Nat → Nat × (Nat → Int32)} {d : Nat} {Q : Option Value → pmS → Prop} {so x : Int} {a : xA} {b : xB} (hso : 0 ≤ so ∧ so ≤ 2)
    (k1 : (¬ so = 0) → pmWp ro d 12 238 1 9 [some (.ref 87), some (xV so), some (xV x), some (xV 37), none, none, none] [] (xS a b) Q)
    (k2 : (so = 0) → Q (some (xV (-1))) (xS a b)) :
    pmWp ro d 12 238 1 0 [some (.ref 87), some (xV so), some (xV x), none, none, none, none] [] (xS a b) Q := by
  refine x_iloadn xc238_0 rfl ?_
  refine x_ifne xc238_1 (xRk (by have g0 := hso; omega)) (fun h0 => ?_) (fun h0 => ?_)
  · refine x_bipush xc238_6 (by decide) ?_
    refine x_istoren (pl' := [some (.ref 87), some (xV so), some (xV x), some (xV 37), none, none, none]) xc238_8 rfl rfl ?_
    exact k1 h0
  · replace h0 := Classical.not_not.mp h0
    refine x_iconst xc238_4 ?_
    refine x_iret xc238_5 (Or.inl rfl) ?_
    exact k2 h0

theorem xg238 {ro : Nat → Nat × (Nat → Int32)} {d : Nat} {Q : Option Value → pmS → Prop} {a : xA} {b : xB} {so x : Int} (h : pmWp ro d 12 238 1 0 [some (.ref 87), some (xV so), some (xV x), none, none, none, none] [] (xS a b) Q) : pmCs ro (d + 1) 238 [.ref 87, xV so, xV x] (xS a b) Q := x_go xi238 rfl rfl rfl rfl rfl h
theorem w238a {ro : Nat → Nat × (Nat → Int32)} {d : Nat} {Q : Option Value → pmS → Prop} {k so x : Int} {a : xA} {b : xB} (hso : 1 ≤ so ∧ so ≤ 2) (hx : 0 ≤ x ∧ x ≤ 65535) (hk : 37 ≤ k ∧ k ≤ 41)
    (k1 : (41 ≤ k) → pmWp ro d 12 238 1 37 [some (.ref 87), some (xV so), some (xV x), some (xV k), none, none, none] [] (xS a b) Q)
    (k2 : (¬ 41 ≤ k) → (¬ so = 2) → pmWp ro d 12 238 1 37 [some (.ref 87), some (xV so), some (xV x), some (xV k), none, none, none] [] (xS a b) Q)
    (k3 : (¬ 41 ≤ k) → (so = 2) → pmCs ro d 206 [.ref 87, xV 0, xV k] (xS a b) fun r σ' => pmWp ro d 12 238 1 26 [some (.ref 87), some (xV so), some (xV x), some (xV k), none, none, none] (r.toList ++ []) σ' Q) :
    pmWp ro d 12 238 1 9 [some (.ref 87), some (xV so), some (xV x), some (xV k), none, none, none] [] (xS a b) Q := by
  refine x_iloadn xc238_9 rfl ?_
  refine x_bipush xc238_10 (by decide) ?_
  refine x_icge xc238_12 (xRk (by have g0 := hk; omega)) (xRk (by decide)) (fun h0 => ?_) (fun h0 => ?_)
  · exact k1 h0
  · refine x_iloadn xc238_15 rfl ?_
    refine x_iconst xc238_16 ?_
    refine x_icne xc238_17 (xRk (by have g0 := hso; omega)) (xRk (by decide)) (fun h1 => ?_) (fun h1 => ?_)
    · exact k2 h0 h1
    · replace h1 := Classical.not_not.mp h1
      refine x_aloadn xc238_20 rfl ?_
      refine x_iconst xc238_21 ?_
      refine x_iloadn xc238_22 rfl ?_
      refine x_cV (as := [xV 0, xV k]) (rest := []) xc238_23 rfl xi206 xz87 ⟨rfl, rfl⟩ rfl rfl ?_
      exact k3 h0 h1

theorem w238b {ro : Nat → Nat × (Nat → Int32)} {d : Nat} {Q : Option Value → pmS → Prop} {z k so x : Int} {a : xA} {b : xB} (hso : 1 ≤ so ∧ so ≤ 2) (hx : 0 ≤ x ∧ x ≤ 65535) (hk : 37 ≤ k ∧ k ≤ 41) (hzz : z = 0 ∨ z = 1)
    (k1 : (z = 0) → pmWp ro d 12 238 1 9 [some (.ref 87), some (xV so), some (xV x), some (xV (k + 1)), none, none, none] [] (xS a b) Q)
    (k2 : (¬ z = 0) → Q (some (xV k)) (xS a b)) :
    pmWp ro d 12 238 1 26 [some (.ref 87), some (xV so), some (xV x), some (xV k), none, none, none] [xV z] (xS a b) Q := by
  refine x_ifeq xc238_26 (xRk (by have g0 := hzz; omega)) (fun h0 => ?_) (fun h0 => ?_)
  · refine x_iinc (pl' := [some (.ref 87), some (xV so), some (xV x), some (xV (k + 1)), none, none, none]) xc238_31 rfl rfl ?_
    refine x_goto xc238_34 ?_
    exact k1 h0
  · refine x_iloadn xc238_29 rfl ?_
    refine x_iret xc238_30 (Or.inl rfl) ?_
    exact k2 h0

theorem w238c {ro : Nat → Nat × (Nat → Int32)} {d : Nat} {Q : Option Value → pmS → Prop} {v3 : Option Value} {so x : Int} {a : xA} {b : xB} (hso : 1 ≤ so ∧ so ≤ 2) (hx : 0 ≤ x ∧ x ≤ 65535)
    (k1 : pmWp ro d 12 238 1 42 [some (.ref 87), some (xV so), some (xV x), some (xV 1), some (xV 0), none, none] [] (xS a b) Q) :
    pmWp ro d 12 238 1 37 [some (.ref 87), some (xV so), some (xV x), v3, none, none, none] [] (xS a b) Q := by
  refine x_iconst xc238_37 ?_
  refine x_istoren (pl' := [some (.ref 87), some (xV so), some (xV x), some (xV 1), none, none, none]) xc238_38 rfl rfl ?_
  refine x_iconst xc238_39 ?_
  refine x_istore (pl' := [some (.ref 87), some (xV so), some (xV x), some (xV 1), some (xV 0), none, none]) xc238_40 rfl rfl ?_
  exact k1

theorem w238d {ro : Nat → Nat × (Nat → Int32)} {d : Nat} {Q : Option Value → pmS → Prop} {my i so x : Int} {a : xA} {b : xB} (hso : 1 ≤ so ∧ so ≤ 2) (hx : 0 ≤ x ∧ x ≤ 65535) (hmy : 1 ≤ my ∧ my ≤ i + 1) (hi : 0 ≤ i ∧ i ≤ 61)
    (k1 : (61 ≤ i) → pmWp ro d 12 238 1 73 [some (.ref 87), some (xV so), some (xV x), some (xV my), some (xV i), none, none] [] (xS a b) Q)
    (k2 : (¬ 61 ≤ i) → pmCs ro d 206 [.ref 87, xV 0, xV i] (xS a b) fun r σ' => pmWp ro d 12 238 1 57 [some (.ref 87), some (xV so), some (xV x), some (xV my), some (xV i), none, none] (r.toList ++ [xV my]) σ' Q) :
    pmWp ro d 12 238 1 42 [some (.ref 87), some (xV so), some (xV x), some (xV my), some (xV i), none, none] [] (xS a b) Q := by
  refine x_iload xc238_42 rfl ?_
  refine x_bipush xc238_44 (by decide) ?_
  refine x_icge xc238_46 (xRk (by have g0 := hi; omega)) (xRk (by decide)) (fun h0 => ?_) (fun h0 => ?_)
  · exact k1 h0
  · refine x_iloadn xc238_49 rfl ?_
    refine x_aloadn xc238_50 rfl ?_
    refine x_iconst xc238_51 ?_
    refine x_iload xc238_52 rfl ?_
    refine x_cV (as := [xV 0, xV i]) (rest := [xV my]) xc238_54 rfl xi206 xz87 ⟨rfl, rfl⟩ rfl rfl ?_
    exact k2 h0

theorem w238e {ro : Nat → Nat × (Nat → Int32)} {d : Nat} {Q : Option Value → pmS → Prop} {z my i so x : Int} {a : xA} {b : xB} (hso : 1 ≤ so ∧ so ≤ 2) (hx : 0 ≤ x ∧ x ≤ 65535) (hmy : 1 ≤ my ∧ my ≤ i + 1) (hi : 0 ≤ i ∧ i ≤ 61) (hzz : z = 0 ∨ z = 1)
    (k1 : (z = 0) → pmWp ro d 12 238 1 42 [some (.ref 87), some (xV so), some (xV x), some (xV (my + 0)), some (xV (i + 1)), none, none] [] (xS a b) Q)
    (k2 : (¬ z = 0) → pmWp ro d 12 238 1 42 [some (.ref 87), some (xV so), some (xV x), some (xV (my + 1)), some (xV (i + 1)), none, none] [] (xS a b) Q) :
    pmWp ro d 12 238 1 57 [some (.ref 87), some (xV so), some (xV x), some (xV my), some (xV i), none, none] [xV z, xV my] (xS a b) Q := by
  refine x_ifeq xc238_57 (xRk (by have g0 := hzz; omega)) (fun h0 => ?_) (fun h0 => ?_)
  · refine x_iconst xc238_64 ?_
    refine x_iadd xc238_65 ?_
    refine x_istoren (pl' := [some (.ref 87), some (xV so), some (xV x), some (xV (my + 0)), some (xV i), none, none]) xc238_66 rfl rfl ?_
    refine x_iinc (pl' := [some (.ref 87), some (xV so), some (xV x), some (xV (my + 0)), some (xV (i + 1)), none, none]) xc238_67 rfl rfl ?_
    refine x_goto xc238_70 ?_
    exact k1 h0
  · refine x_iconst xc238_60 ?_
    refine x_goto xc238_61 ?_
    refine x_iadd xc238_65 ?_
    refine x_istoren (pl' := [some (.ref 87), some (xV so), some (xV x), some (xV (my + 1)), some (xV i), none, none]) xc238_66 rfl rfl ?_
    refine x_iinc (pl' := [some (.ref 87), some (xV so), some (xV x), some (xV (my + 1)), some (xV (i + 1)), none, none]) xc238_67 rfl rfl ?_
    refine x_goto xc238_70 ?_
    exact k2 h0

theorem w238f {ro : Nat → Nat × (Nat → Int32)} {d : Nat} {Q : Option Value → pmS → Prop} {my i so x : Int} {a : xA} {b : xB} (hso : 1 ≤ so ∧ so ≤ 2) (hx : 0 ≤ x ∧ x ≤ 65535) (hmy : 1 ≤ my ∧ my ≤ i + 1) (hi : 0 ≤ i ∧ i ≤ 61) (hxm : 0 ≤ x % my ∧ x % my ≤ 65535)
    (k1 : (¬ x % my = 0) → pmWp ro d 12 238 1 91 [some (.ref 87), some (xV so), some (xV x), some (xV my), some (xV (x % my)), some (xV 0), some (xV 0)] [] (xS a b) Q)
    (k2 : (x % my = 0) → Q (some (xV (-1))) (xS a b)) :
    pmWp ro d 12 238 1 73 [some (.ref 87), some (xV so), some (xV x), some (xV my), some (xV i), none, none] [] (xS a b) Q := by
  refine x_iloadn xc238_73 rfl ?_
  refine x_iloadn xc238_74 rfl ?_
  refine x_irem (by have g0 := hx; omega) (xRk (by have g0 := hx; omega)) (by have g0 := hmy; have g1 := hxm; omega) (xRk (by have g0 := hmy; have g1 := hxm; omega)) xc238_75 ?_
  refine x_istore (pl' := [some (.ref 87), some (xV so), some (xV x), some (xV my), some (xV (x % my)), none, none]) xc238_76 rfl rfl ?_
  refine x_iload xc238_78 rfl ?_
  refine x_ifne xc238_80 (xRk (by have g0 := hx; have g1 := hmy; have g2 := hxm; omega)) (fun h0 => ?_) (fun h0 => ?_)
  · refine x_iconst xc238_85 ?_
    refine x_istore (pl' := [some (.ref 87), some (xV so), some (xV x), some (xV my), some (xV (x % my)), some (xV 0), none]) xc238_86 rfl rfl ?_
    refine x_iconst xc238_88 ?_
    refine x_istore (pl' := [some (.ref 87), some (xV so), some (xV x), some (xV my), some (xV (x % my)), some (xV 0), some (xV 0)]) xc238_89 rfl rfl ?_
    exact k1 h0
  · replace h0 := Classical.not_not.mp h0
    refine x_iconst xc238_83 ?_
    refine x_iret xc238_84 (Or.inl rfl) ?_
    exact k2 h0

theorem w238g {ro : Nat → Nat × (Nat → Int32)} {d : Nat} {Q : Option Value → pmS → Prop} {my wh nn i so x : Int} {a : xA} {b : xB} (hso : 1 ≤ so ∧ so ≤ 2) (hx : 0 ≤ x ∧ x ≤ 65535) (hwh : 0 ≤ wh ∧ wh ≤ 100) (hnn : 0 ≤ nn ∧ nn ≤ 61) (hi : 0 ≤ i ∧ i ≤ 61)
    (k1 : (61 ≤ i) → Q (some (xV (-1))) (xS a b))
    (k2 : (¬ 61 ≤ i) → pmCs ro d 206 [.ref 87, xV 0, xV i] (xS a b) fun r σ' => pmWp ro d 12 238 1 107 [some (.ref 87), some (xV so), some (xV x), some (xV my), some (xV wh), some (xV nn), some (xV i)] (r.toList ++ [xV nn]) σ' Q) :
    pmWp ro d 12 238 1 91 [some (.ref 87), some (xV so), some (xV x), some (xV my), some (xV wh), some (xV nn), some (xV i)] [] (xS a b) Q := by
  refine x_iload xc238_91 rfl ?_
  refine x_bipush xc238_93 (by decide) ?_
  refine x_icge xc238_95 (xRk (by have g0 := hi; omega)) (xRk (by decide)) (fun h0 => ?_) (fun h0 => ?_)
  · refine x_iconst xc238_134 ?_
    refine x_iret xc238_135 (Or.inl rfl) ?_
    exact k1 h0
  · refine x_iload xc238_98 rfl ?_
    refine x_aloadn xc238_100 rfl ?_
    refine x_iconst xc238_101 ?_
    refine x_iload xc238_102 rfl ?_
    refine x_cV (as := [xV 0, xV i]) (rest := [xV nn]) xc238_104 rfl xi206 xz87 ⟨rfl, rfl⟩ rfl rfl ?_
    exact k2 h0

theorem w238h {ro : Nat → Nat × (Nat → Int32)} {d : Nat} {Q : Option Value → pmS → Prop} {z my wh nn i so x : Int} {a : xA} {b : xB} (hso : 1 ≤ so ∧ so ≤ 2) (hx : 0 ≤ x ∧ x ≤ 65535) (hwh : 0 ≤ wh ∧ wh ≤ 100) (hnn : 0 ≤ nn ∧ nn ≤ 61) (hi : 0 ≤ i ∧ i ≤ 61) (hzz : z = 0 ∨ z = 1)
    (k1 : (z = 0) → (¬ nn + 0 = wh) → pmWp ro d 12 238 1 91 [some (.ref 87), some (xV so), some (xV x), some (xV my), some (xV wh), some (xV (nn + 0)), some (xV (i + 1))] [] (xS a b) Q)
    (k2 : (z = 0) → (nn + 0 = wh) → Q (some (xV i)) (xS a b))
    (k3 : (¬ z = 0) → (¬ nn + 1 = wh) → pmWp ro d 12 238 1 91 [some (.ref 87), some (xV so), some (xV x), some (xV my), some (xV wh), some (xV (nn + 1)), some (xV (i + 1))] [] (xS a b) Q)
    (k4 : (¬ z = 0) → (nn + 1 = wh) → Q (some (xV i)) (xS a b)) :
    pmWp ro d 12 238 1 107 [some (.ref 87), some (xV so), some (xV x), some (xV my), some (xV wh), some (xV nn), some (xV i)] [xV z, xV nn] (xS a b) Q := by
  refine x_ifeq xc238_107 (xRk (by have g0 := hzz; omega)) (fun h0 => ?_) (fun h0 => ?_)
  · refine x_iconst xc238_114 ?_
    refine x_iadd xc238_115 ?_
    refine x_istore (pl' := [some (.ref 87), some (xV so), some (xV x), some (xV my), some (xV wh), some (xV (nn + 0)), some (xV i)]) xc238_116 rfl rfl ?_
    refine x_iload xc238_118 rfl ?_
    refine x_iload xc238_120 rfl ?_
    refine x_icne xc238_122 (xRk (by have g0 := hnn; omega)) (xRk (by have g0 := hwh; omega)) (fun h1 => ?_) (fun h1 => ?_)
    · refine x_iinc (pl' := [some (.ref 87), some (xV so), some (xV x), some (xV my), some (xV wh), some (xV (nn + 0)), some (xV (i + 1))]) xc238_128 rfl rfl ?_
      refine x_goto xc238_131 ?_
      exact k1 h0 h1
    · replace h1 := Classical.not_not.mp h1
      refine x_iload xc238_125 rfl ?_
      refine x_iret xc238_127 (Or.inl rfl) ?_
      exact k2 h0 h1
  · refine x_iconst xc238_110 ?_
    refine x_goto xc238_111 ?_
    refine x_iadd xc238_115 ?_
    refine x_istore (pl' := [some (.ref 87), some (xV so), some (xV x), some (xV my), some (xV wh), some (xV (nn + 1)), some (xV i)]) xc238_116 rfl rfl ?_
    refine x_iload xc238_118 rfl ?_
    refine x_iload xc238_120 rfl ?_
    refine x_icne xc238_122 (xRk (by have g0 := hnn; omega)) (xRk (by have g0 := hwh; omega)) (fun h2 => ?_) (fun h2 => ?_)
    · refine x_iinc (pl' := [some (.ref 87), some (xV so), some (xV x), some (xV my), some (xV wh), some (xV (nn + 1)), some (xV (i + 1))]) xc238_128 rfl rfl ?_
      refine x_goto xc238_131 ?_
      exact k3 h0 h2
    · replace h2 := Classical.not_not.mp h2
      refine x_iload xc238_125 rfl ?_
      refine x_iret xc238_127 (Or.inl rfl) ?_
      exact k4 h0 h2

theorem wa237 {ro : Nat → Nat × (Nat → Int32)} {d : Nat} {Q : Option Value → pmS → Prop} {so sd tn wh bg : Int} {a : xA} {b : xB} (qso : xR so) (qsd : xR sd) (qtn : xR tn) (qwh : xR wh) (hb : a 87 4 = bg) (hbg : bg = 0 ∨ bg = 1) (hd : 1 ≤ d)
    (k1 : (bg = 0) → Q (some (xV (-1))) (xS a b))
    (k2 : (¬ bg = 0) → (0 ≤ so ∧ so ≤ 2) → (0 ≤ sd ∧ sd ≤ 65535) → (1 ≤ tn ∧ tn ≤ 20) → (0 ≤ wh ∧ wh ≤ 2) → pmCs ro d 181 [.ref 87, xV 1] (xS a b) fun r σ' => pmWp ro d 12 237 1 54 [some (.ref 87), some (xV so), some (xV sd), some (xV tn), some (xV wh), none, none, none, none, none] (r.toList ++ []) σ' Q)
    (k3 : (¬ bg = 0) → (0 ≤ so ∧ so ≤ 2) → (0 ≤ sd ∧ sd ≤ 65535) → (1 ≤ tn ∧ tn ≤ 20) → (¬ (0 ≤ wh ∧ wh ≤ 2)) → Q (some (xV (-1))) (xS a b))
    (k4 : (¬ bg = 0) → (0 ≤ so ∧ so ≤ 2) → (0 ≤ sd ∧ sd ≤ 65535) → (¬ (1 ≤ tn ∧ tn ≤ 20)) → Q (some (xV (-1))) (xS a b))
    (k5 : (¬ bg = 0) → (0 ≤ so ∧ so ≤ 2) → (¬ (0 ≤ sd ∧ sd ≤ 65535)) → Q (some (xV (-1))) (xS a b))
    (k6 : (¬ bg = 0) → (¬ (0 ≤ so ∧ so ≤ 2)) → Q (some (xV (-1))) (xS a b)) :
    pmWp ro d 12 237 1 0 [some (.ref 87), some (xV so), some (xV sd), some (xV tn), some (xV wh), none, none, none, none, none] [] (xS a b) Q := by
  refine x_aloadn xc237_0 rfl ?_
  refine x_gfi' (k := 4) (v := bg) xc237_1 rfl (Or.inr rfl) rfl xz87 hb ?_
  refine x_ifeq xc237_4 (xRk (by have g0 := hbg; omega)) (fun h0 => ?_) (fun h0 => ?_)
  · refine x_iconst xc237_47 ?_
    refine x_iret xc237_48 (Or.inl rfl) ?_
    exact k1 h0
  · refine x_iloadn xc237_7 rfl ?_
    refine x_iconst xc237_8 ?_
    refine x_iconst xc237_9 ?_
    refine x_cS (as := [xV so, xV 0, xV 2]) (rest := []) xc237_10 rfl rfl xi143 ⟨rfl, rfl⟩ rfl rfl ?_
    refine xk143 (xRk (by have g0 := xRb qso; omega)) (xRk (by decide)) (xRk (by decide)) (by omega) (fun h1 => ?_) (fun h2 => ?_)
    · refine x_ifeq xc237_13 (xRk (by decide)) (fun h => absurd h (by omega)) (fun _ => ?_)
      refine x_iloadn xc237_16 rfl ?_
      refine x_iconst xc237_17 ?_
      refine x_ldcw (z := 65535) xc237_18 rfl ?_
      refine x_cS (as := [xV sd, xV 0, xV 65535]) (rest := []) xc237_21 rfl rfl xi143 ⟨rfl, rfl⟩ rfl rfl ?_
      refine xk143 (xRk (by have g0 := xRb qsd; omega)) (xRk (by decide)) (xRk (by decide)) (by omega) (fun h4 => ?_) (fun h5 => ?_)
      · refine x_ifeq xc237_24 (xRk (by decide)) (fun h => absurd h (by omega)) (fun _ => ?_)
        refine x_iloadn xc237_27 rfl ?_
        refine x_iconst xc237_28 ?_
        refine x_bipush xc237_29 (by decide) ?_
        refine x_cS (as := [xV tn, xV 1, xV 20]) (rest := []) xc237_31 rfl rfl xi143 ⟨rfl, rfl⟩ rfl rfl ?_
        refine xk143 (xRk (by have g0 := xRb qtn; omega)) (xRk (by decide)) (xRk (by decide)) (by omega) (fun h7 => ?_) (fun h8 => ?_)
        · refine x_ifeq xc237_34 (xRk (by decide)) (fun h => absurd h (by omega)) (fun _ => ?_)
          refine x_iload xc237_37 rfl ?_
          refine x_iconst xc237_39 ?_
          refine x_iconst xc237_40 ?_
          refine x_cS (as := [xV wh, xV 0, xV 2]) (rest := []) xc237_41 rfl rfl xi143 ⟨rfl, rfl⟩ rfl rfl ?_
          refine xk143 (xRk (by have g0 := xRb qwh; omega)) (xRk (by decide)) (xRk (by decide)) (by omega) (fun h10 => ?_) (fun h11 => ?_)
          · refine x_ifne xc237_44 (xRk (by decide)) (fun _ => ?_) (fun h => absurd h (by omega))
            refine x_aloadn xc237_49 rfl ?_
            refine x_iconst xc237_50 ?_
            refine x_cV (as := [xV 1]) (rest := []) xc237_51 rfl xi181 xz87 ⟨rfl, rfl⟩ rfl rfl ?_
            exact k2 h0 h1 h4 h7 h10
          · refine x_ifne xc237_44 (xRk (by decide)) (fun h => absurd h (by omega)) (fun _ => ?_)
            refine x_iconst xc237_47 ?_
            refine x_iret xc237_48 (Or.inl rfl) ?_
            exact k3 h0 h1 h4 h7 h11
        · refine x_ifeq xc237_34 (xRk (by decide)) (fun _ => ?_) (fun h => absurd h (by omega))
          refine x_iconst xc237_47 ?_
          refine x_iret xc237_48 (Or.inl rfl) ?_
          exact k4 h0 h1 h4 h8
      · refine x_ifeq xc237_24 (xRk (by decide)) (fun _ => ?_) (fun h => absurd h (by omega))
        refine x_iconst xc237_47 ?_
        refine x_iret xc237_48 (Or.inl rfl) ?_
        exact k5 h0 h1 h5
    · refine x_ifeq xc237_13 (xRk (by decide)) (fun _ => ?_) (fun h => absurd h (by omega))
      refine x_iconst xc237_47 ?_
      refine x_iret xc237_48 (Or.inl rfl) ?_
      exact k6 h0 h2

theorem wa237a {ro : Nat → Nat × (Nat → Int32)} {d : Nat} {Q : Option Value → pmS → Prop} {so sd tn wh : Int} {a : xA} {b : xB} (hso : 0 ≤ so ∧ so ≤ 2) (hsd : 0 ≤ sd ∧ sd ≤ 65535) (htn : 1 ≤ tn ∧ tn ≤ 20) (hw : 0 ≤ wh ∧ wh ≤ 2)
    (k1 : pmCs ro d 224 [.ref 87] (xS a b) fun r σ' => pmWp ro d 12 237 1 67 [some (.ref 87), some (xV so), some (xV sd), some (xV tn), some (xV wh), some (xV (a 88 119)), none, none, none, none] (r.toList ++ []) σ' Q) :
    pmWp ro d 12 237 1 54 [some (.ref 87), some (xV so), some (xV sd), some (xV tn), some (xV wh), none, none, none, none, none] [] (xS a b) Q := by
  refine x_aloadn xc237_54 rfl ?_
  refine x_gfr xc237_55 rfl rfl xz87 rfl ?_
  refine x_bipush xc237_58 (by decide) ?_
  refine x_ial xc237_60 xz88 rfl (by omega) (by omega) (by omega) ?_
  refine x_istore (pl' := [some (.ref 87), some (xV so), some (xV sd), some (xV tn), some (xV wh), some (xV (a 88 119)), none, none, none, none]) xc237_61 rfl rfl ?_
  refine x_aloadn xc237_63 rfl ?_
  refine x_cV (as := []) (rest := []) xc237_64 rfl xi224 xz87 ⟨rfl, rfl⟩ rfl rfl ?_
  exact k1

theorem wa237b {ro : Nat → Nat × (Nat → Int32)} {d : Nat} {Q : Option Value → pmS → Prop} {ev z so sd tn wh : Int} {a : xA} {b : xB} (hso : 0 ≤ so ∧ so ≤ 2) (hsd : 0 ≤ sd ∧ sd ≤ 65535) (htn : 1 ≤ tn ∧ tn ≤ 20) (hw : 0 ≤ wh ∧ wh ≤ 2) (hzz : z = 0 ∨ z = 1)
    (k1 : (z = 0) → pmWp ro d 12 237 1 83 [some (.ref 87), some (xV so), some (xV sd), some (xV tn), some (xV wh), some (xV ev), some (xV (-1)), some (xV sd), some (xV 1), none] [] (xS a b) Q)
    (k2 : (¬ z = 0) → pmWp ro d 12 237 1 83 [some (.ref 87), some (xV so), some (xV sd), some (xV tn), some (xV wh), some (xV ev), some (xV 0), some (xV sd), some (xV 1), none] [] (xS a b) Q) :
    pmWp ro d 12 237 1 67 [some (.ref 87), some (xV so), some (xV sd), some (xV tn), some (xV wh), some (xV ev), none, none, none, none] [xV z] (xS a b) Q := by
  refine x_ifeq xc237_67 (xRk (by have g0 := hzz; omega)) (fun h0 => ?_) (fun h0 => ?_)
  · refine x_iconst xc237_74 ?_
    refine x_istore (pl' := [some (.ref 87), some (xV so), some (xV sd), some (xV tn), some (xV wh), some (xV ev), some (xV (-1)), none, none, none]) xc237_75 rfl rfl ?_
    refine x_iloadn xc237_77 rfl ?_
    refine x_istore (pl' := [some (.ref 87), some (xV so), some (xV sd), some (xV tn), some (xV wh), some (xV ev), some (xV (-1)), some (xV sd), none, none]) xc237_78 rfl rfl ?_
    refine x_iconst xc237_80 ?_
    refine x_istore (pl' := [some (.ref 87), some (xV so), some (xV sd), some (xV tn), some (xV wh), some (xV ev), some (xV (-1)), some (xV sd), some (xV 1), none]) xc237_81 rfl rfl ?_
    exact k1 h0
  · refine x_iconst xc237_70 ?_
    refine x_goto xc237_71 ?_
    refine x_istore (pl' := [some (.ref 87), some (xV so), some (xV sd), some (xV tn), some (xV wh), some (xV ev), some (xV 0), none, none, none]) xc237_75 rfl rfl ?_
    refine x_iloadn xc237_77 rfl ?_
    refine x_istore (pl' := [some (.ref 87), some (xV so), some (xV sd), some (xV tn), some (xV wh), some (xV ev), some (xV 0), some (xV sd), none, none]) xc237_78 rfl rfl ?_
    refine x_iconst xc237_80 ?_
    refine x_istore (pl' := [some (.ref 87), some (xV so), some (xV sd), some (xV tn), some (xV wh), some (xV ev), some (xV 0), some (xV sd), some (xV 1), none]) xc237_81 rfl rfl ?_
    exact k2 h0

theorem wa237c {ro : Nat → Nat × (Nat → Int32)} {d : Nat} {Q : Option Value → pmS → Prop} {ev fb x t so sd tn wh : Int} {a : xA} {b : xB} (hso : 0 ≤ so ∧ so ≤ 2) (hsd : 0 ≤ sd ∧ sd ≤ 65535) (htn : 1 ≤ tn ∧ tn ≤ 20) (hw : 0 ≤ wh ∧ wh ≤ 2) (hev : 0 ≤ ev ∧ ev ≤ 1000) (hfb : -1 ≤ fb ∧ fb ≤ 20) (hx : 0 ≤ x ∧ x ≤ 65535) (ht : 1 ≤ t ∧ t ≤ 21)
    (k1 : (tn < t) → pmWp ro d 12 237 1 145 [some (.ref 87), some (xV so), some (xV sd), some (xV tn), some (xV wh), some (xV ev), some (xV fb), some (xV x), some (xV t), none] [] (xS a b) Q)
    (k2 : (¬ tn < t) → pmCs ro d 238 [.ref 87, xV so, xV ((25173 * x + 13849) % 65536)] (xS a b) fun r σ' => pmWp ro d 12 237 1 113 [some (.ref 87), some (xV so), some (xV sd), some (xV tn), some (xV wh), some (xV ev), some (xV fb), some (xV ((25173 * x + 13849) % 65536)), some (xV t), none] (r.toList ++ [.ref 87]) σ' Q) :
    pmWp ro d 12 237 1 83 [some (.ref 87), some (xV so), some (xV sd), some (xV tn), some (xV wh), some (xV ev), some (xV fb), some (xV x), some (xV t), none] [] (xS a b) Q := by
  refine x_iload xc237_83 rfl ?_
  refine x_iloadn xc237_85 rfl ?_
  refine x_icgt xc237_86 (xRk (by have g0 := ht; omega)) (xRk (by have g0 := htn; omega)) (fun h0 => ?_) (fun h0 => ?_)
  · exact k1 h0
  · refine x_sipush xc237_89 (by decide) ?_
    refine x_iload xc237_92 rfl ?_
    refine x_imul xc237_94 ?_
    refine x_sipush xc237_95 (by decide) ?_
    refine x_iadd xc237_98 ?_
    refine x_ldcw (z := 65536) xc237_99 rfl ?_
    refine x_irem (by have g0 := hx; omega) (xRk (by have g0 := hx; omega)) (by omega) (xRk (by decide)) xc237_102 ?_
    refine x_istore (pl' := [some (.ref 87), some (xV so), some (xV sd), some (xV tn), some (xV wh), some (xV ev), some (xV fb), some (xV ((25173 * x + 13849) % 65536)), some (xV t), none]) xc237_103 rfl rfl ?_
    refine x_aloadn xc237_105 rfl ?_
    refine x_aloadn xc237_106 rfl ?_
    refine x_iloadn xc237_107 rfl ?_
    refine x_iload xc237_108 rfl ?_
    refine x_cV (as := [xV so, xV ((25173 * x + 13849) % 65536)]) (rest := [.ref 87]) xc237_110 rfl xi238 xz87 ⟨rfl, rfl⟩ rfl rfl ?_
    exact k2 h0

theorem wa237d {ro : Nat → Nat × (Nat → Int32)} {d : Nat} {Q : Option Value → pmS → Prop} {k ev fb x t so sd tn wh : Int} {a : xA} {b : xB} (hso : 0 ≤ so ∧ so ≤ 2) (hsd : 0 ≤ sd ∧ sd ≤ 65535) (htn : 1 ≤ tn ∧ tn ≤ 20) (hw : 0 ≤ wh ∧ wh ≤ 2) (hev : 0 ≤ ev ∧ ev ≤ 1000) (hfb : -1 ≤ fb ∧ fb ≤ 20) (hx : 0 ≤ x ∧ x ≤ 65535) (ht : 1 ≤ t ∧ t ≤ 21)
    (k1 : pmCs ro d 208 [.ref 87, xV k, xV (-1)] (xS a b) fun r σ' => pmWp ro d 12 237 1 117 [some (.ref 87), some (xV so), some (xV sd), some (xV tn), some (xV wh), some (xV ev), some (xV fb), some (xV x), some (xV t), none] (r.toList ++ []) σ' Q) :
    pmWp ro d 12 237 1 113 [some (.ref 87), some (xV so), some (xV sd), some (xV tn), some (xV wh), some (xV ev), some (xV fb), some (xV x), some (xV t), none] [xV k, .ref 87] (xS a b) Q := by
  refine x_iconst xc237_113 ?_
  refine x_cV (as := [xV k, xV (-1)]) (rest := []) xc237_114 rfl xi208 xz87 ⟨rfl, rfl⟩ rfl rfl ?_
  exact k1

theorem wa237e {ro : Nat → Nat × (Nat → Int32)} {d : Nat} {Q : Option Value → pmS → Prop} {ev fb x t so sd tn wh : Int} {a : xA} {b : xB} (hso : 0 ≤ so ∧ so ≤ 2) (hsd : 0 ≤ sd ∧ sd ≤ 65535) (htn : 1 ≤ tn ∧ tn ≤ 20) (hw : 0 ≤ wh ∧ wh ≤ 2) (hev : 0 ≤ ev ∧ ev ≤ 1000) (hfb : -1 ≤ fb ∧ fb ≤ 20) (hx : 0 ≤ x ∧ x ≤ 65535) (ht : 1 ≤ t ∧ t ≤ 20)
    (k1 : (¬ fb = -1) → pmWp ro d 12 237 1 139 [some (.ref 87), some (xV so), some (xV sd), some (xV tn), some (xV wh), some (xV ev), some (xV fb), some (xV x), some (xV t), none] [] (xS a b) Q)
    (k2 : (fb = -1) → pmCs ro d 224 [.ref 87] (xS a b) fun r σ' => pmWp ro d 12 237 1 127 [some (.ref 87), some (xV so), some (xV sd), some (xV tn), some (xV wh), some (xV ev), some (xV fb), some (xV x), some (xV t), none] (r.toList ++ []) σ' Q) :
    pmWp ro d 12 237 1 117 [some (.ref 87), some (xV so), some (xV sd), some (xV tn), some (xV wh), some (xV ev), some (xV fb), some (xV x), some (xV t), none] [] (xS a b) Q := by
  refine x_iload xc237_117 rfl ?_
  refine x_iconst xc237_119 ?_
  refine x_icne xc237_120 (xRk (by have g0 := hfb; omega)) (xRk (by decide)) (fun h0 => ?_) (fun h0 => ?_)
  · refine x_iload xc237_135 rfl ?_
    refine x_istore (pl' := [some (.ref 87), some (xV so), some (xV sd), some (xV tn), some (xV wh), some (xV ev), some (xV fb), some (xV x), some (xV t), none]) xc237_137 rfl rfl ?_
    exact k1 h0
  · replace h0 := Classical.not_not.mp h0
    refine x_aloadn xc237_123 rfl ?_
    refine x_cV (as := []) (rest := []) xc237_124 rfl xi224 xz87 ⟨rfl, rfl⟩ rfl rfl ?_
    exact k2 h0

theorem wa237f {ro : Nat → Nat × (Nat → Int32)} {d : Nat} {Q : Option Value → pmS → Prop} {z ev fb x t so sd tn wh : Int} {a : xA} {b : xB} (hso : 0 ≤ so ∧ so ≤ 2) (hsd : 0 ≤ sd ∧ sd ≤ 65535) (htn : 1 ≤ tn ∧ tn ≤ 20) (hw : 0 ≤ wh ∧ wh ≤ 2) (hev : 0 ≤ ev ∧ ev ≤ 1000) (hfb : -1 ≤ fb ∧ fb ≤ 20) (hx : 0 ≤ x ∧ x ≤ 65535) (ht : 1 ≤ t ∧ t ≤ 20) (hzz : z = 0 ∨ z = 1)
    (k1 : (z = 0) → pmWp ro d 12 237 1 139 [some (.ref 87), some (xV so), some (xV sd), some (xV tn), some (xV wh), some (xV ev), some (xV fb), some (xV x), some (xV t), none] [] (xS a b) Q)
    (k2 : (¬ z = 0) → pmWp ro d 12 237 1 139 [some (.ref 87), some (xV so), some (xV sd), some (xV tn), some (xV wh), some (xV ev), some (xV t), some (xV x), some (xV t), none] [] (xS a b) Q) :
    pmWp ro d 12 237 1 127 [some (.ref 87), some (xV so), some (xV sd), some (xV tn), some (xV wh), some (xV ev), some (xV fb), some (xV x), some (xV t), none] [xV z] (xS a b) Q := by
  refine x_ifeq xc237_127 (xRk (by have g0 := hzz; omega)) (fun h0 => ?_) (fun h0 => ?_)
  · refine x_iload xc237_135 rfl ?_
    refine x_istore (pl' := [some (.ref 87), some (xV so), some (xV sd), some (xV tn), some (xV wh), some (xV ev), some (xV fb), some (xV x), some (xV t), none]) xc237_137 rfl rfl ?_
    exact k1 h0
  · refine x_iload xc237_130 rfl ?_
    refine x_goto xc237_132 ?_
    refine x_istore (pl' := [some (.ref 87), some (xV so), some (xV sd), some (xV tn), some (xV wh), some (xV ev), some (xV t), some (xV x), some (xV t), none]) xc237_137 rfl rfl ?_
    exact k2 h0

theorem wa237g {ro : Nat → Nat × (Nat → Int32)} {d : Nat} {Q : Option Value → pmS → Prop} {ev fb x t so sd tn wh : Int} {a : xA} {b : xB} (hso : 0 ≤ so ∧ so ≤ 2) (hsd : 0 ≤ sd ∧ sd ≤ 65535) (htn : 1 ≤ tn ∧ tn ≤ 20) (hw : 0 ≤ wh ∧ wh ≤ 2) (hev : 0 ≤ ev ∧ ev ≤ 1000) (hfb : -1 ≤ fb ∧ fb ≤ 20) (hx : 0 ≤ x ∧ x ≤ 65535) (ht : 1 ≤ t ∧ t ≤ 20)
    (k1 : pmWp ro d 12 237 1 83 [some (.ref 87), some (xV so), some (xV sd), some (xV tn), some (xV wh), some (xV ev), some (xV fb), some (xV x), some (xV (t + 1)), none] [] (xS a b) Q) :
    pmWp ro d 12 237 1 139 [some (.ref 87), some (xV so), some (xV sd), some (xV tn), some (xV wh), some (xV ev), some (xV fb), some (xV x), some (xV t), none] [] (xS a b) Q := by
  refine x_iinc (pl' := [some (.ref 87), some (xV so), some (xV sd), some (xV tn), some (xV wh), some (xV ev), some (xV fb), some (xV x), some (xV (t + 1)), none]) xc237_139 rfl rfl ?_
  refine x_goto xc237_142 ?_
  exact k1

theorem wa237h {ro : Nat → Nat × (Nat → Int32)} {d : Nat} {Q : Option Value → pmS → Prop} {ev fb x t so sd tn wh : Int} {a : xA} {b : xB} (hso : 0 ≤ so ∧ so ≤ 2) (hsd : 0 ≤ sd ∧ sd ≤ 65535) (htn : 1 ≤ tn ∧ tn ≤ 20) (hw : 0 ≤ wh ∧ wh ≤ 2) (hev : 0 ≤ ev ∧ ev ≤ 1000) (hfb : -1 ≤ fb ∧ fb ≤ 20) (hx : 0 ≤ x ∧ x ≤ 65535) (ht : 1 ≤ t ∧ t ≤ 21)
    (k1 : pmWp ro d 12 237 1 151 [some (.ref 87), some (xV so), some (xV sd), some (xV tn), some (xV wh), some (xV ev), some (xV fb), some (xV x), some (xV 0), some (xV 0)] [] (xS a b) Q) :
    pmWp ro d 12 237 1 145 [some (.ref 87), some (xV so), some (xV sd), some (xV tn), some (xV wh), some (xV ev), some (xV fb), some (xV x), some (xV t), none] [] (xS a b) Q := by
  refine x_iconst xc237_145 ?_
  refine x_istore (pl' := [some (.ref 87), some (xV so), some (xV sd), some (xV tn), some (xV wh), some (xV ev), some (xV fb), some (xV x), some (xV 0), none]) xc237_146 rfl rfl ?_
  refine x_iconst xc237_148 ?_
  refine x_istore (pl' := [some (.ref 87), some (xV so), some (xV sd), some (xV tn), some (xV wh), some (xV ev), some (xV fb), some (xV x), some (xV 0), some (xV 0)]) xc237_149 rfl rfl ?_
  exact k1

theorem wa237i {ro : Nat → Nat × (Nat → Int32)} {d : Nat} {Q : Option Value → pmS → Prop} {ev fb x dn q so sd tn wh : Int} {a : xA} {b : xB} (hso : 0 ≤ so ∧ so ≤ 2) (hsd : 0 ≤ sd ∧ sd ≤ 65535) (htn : 1 ≤ tn ∧ tn ≤ 20) (hw : 0 ≤ wh ∧ wh ≤ 2) (hA : xAr a) (hev : 0 ≤ ev ∧ ev ≤ 1000) (hdn : 0 ≤ dn ∧ dn ≤ q) (hq : 0 ≤ q ∧ q ≤ 4) (hd : 1 ≤ d)
    (k1 : (4 ≤ q) → pmWp ro d 12 237 1 182 [some (.ref 87), some (xV so), some (xV sd), some (xV tn), some (xV wh), some (xV ev), some (xV fb), some (xV x), some (xV dn), some (xV q)] [] (xS a b) Q)
    (k2 : (¬ 4 ≤ q) → (¬ a 88 q = 7) → pmWp ro d 12 237 1 151 [some (.ref 87), some (xV so), some (xV sd), some (xV tn), some (xV wh), some (xV ev), some (xV fb), some (xV x), some (xV (dn + 0)), some (xV (q + 1))] [] (xS a b) Q)
    (k3 : (¬ 4 ≤ q) → (a 88 q = 7) → pmWp ro d 12 237 1 151 [some (.ref 87), some (xV so), some (xV sd), some (xV tn), some (xV wh), some (xV ev), some (xV fb), some (xV x), some (xV (dn + 1)), some (xV (q + 1))] [] (xS a b) Q) :
    pmWp ro d 12 237 1 151 [some (.ref 87), some (xV so), some (xV sd), some (xV tn), some (xV wh), some (xV ev), some (xV fb), some (xV x), some (xV dn), some (xV q)] [] (xS a b) Q := by
  refine x_iload xc237_151 rfl ?_
  refine x_iconst xc237_153 ?_
  refine x_icge xc237_154 (xRk (by have g0 := hq; omega)) (xRk (by decide)) (fun h0 => ?_) (fun h0 => ?_)
  · exact k1 h0
  · refine x_iload xc237_157 rfl ?_
    refine x_aloadn xc237_159 rfl ?_
    refine x_iload xc237_160 rfl ?_
    refine x_cV (as := [xV q]) (rest := [xV dn]) xc237_162 rfl xi176 xz87 ⟨rfl, rfl⟩ rfl rfl ?_
    refine rk176 (by omega) hA (by have g0 := hq; omega) (fun h1 => ?_) (fun h2 => ?_)
    · refine x_ifeq xc237_165 (xRk (by decide)) (fun h => absurd h (by omega)) (fun _ => ?_)
      refine x_iconst xc237_168 ?_
      refine x_goto xc237_169 ?_
      refine x_iadd xc237_173 ?_
      refine x_istore (pl' := [some (.ref 87), some (xV so), some (xV sd), some (xV tn), some (xV wh), some (xV ev), some (xV fb), some (xV x), some (xV (dn + 0)), some (xV q)]) xc237_174 rfl rfl ?_
      refine x_iinc (pl' := [some (.ref 87), some (xV so), some (xV sd), some (xV tn), some (xV wh), some (xV ev), some (xV fb), some (xV x), some (xV (dn + 0)), some (xV (q + 1))]) xc237_176 rfl rfl ?_
      refine x_goto xc237_179 ?_
      exact k2 h0 h1
    · refine x_ifeq xc237_165 (xRk (by decide)) (fun _ => ?_) (fun h => absurd h (by omega))
      refine x_iconst xc237_172 ?_
      refine x_iadd xc237_173 ?_
      refine x_istore (pl' := [some (.ref 87), some (xV so), some (xV sd), some (xV tn), some (xV wh), some (xV ev), some (xV fb), some (xV x), some (xV (dn + 1)), some (xV q)]) xc237_174 rfl rfl ?_
      refine x_iinc (pl' := [some (.ref 87), some (xV so), some (xV sd), some (xV tn), some (xV wh), some (xV ev), some (xV fb), some (xV x), some (xV (dn + 1)), some (xV (q + 1))]) xc237_176 rfl rfl ?_
      refine x_goto xc237_179 ?_
      exact k3 h0 h2

theorem wa237j {ro : Nat → Nat × (Nat → Int32)} {d : Nat} {Q : Option Value → pmS → Prop} {ev fb x dn q so sd tn wh : Int} {a : xA} {b : xB} (hso : 0 ≤ so ∧ so ≤ 2) (hsd : 0 ≤ sd ∧ sd ≤ 65535) (htn : 1 ≤ tn ∧ tn ≤ 20) (hw : 0 ≤ wh ∧ wh ≤ 2) (hA : xAr a) (hev : 0 ≤ ev ∧ ev ≤ 1000) (hdn : 0 ≤ dn ∧ dn ≤ q) (hq : 0 ≤ q ∧ q ≤ 4) (hd : 1 ≤ d)
    (k1 : pmCs ro d 227 [.ref 87, xV 1] (xS a b) fun r σ' => pmWp ro d 12 237 1 199 [some (.ref 87), some (xV so), some (xV sd), some (xV tn), some (xV wh), some (xV ev), some (xV fb), some (xV x), some (xV dn), some (xV (a 88 119 - ev))] (r.toList ++ []) σ' Q) :
    pmWp ro d 12 237 1 182 [some (.ref 87), some (xV so), some (xV sd), some (xV tn), some (xV wh), some (xV ev), some (xV fb), some (xV x), some (xV dn), some (xV q)] [] (xS a b) Q := by
  refine x_aloadn xc237_182 rfl ?_
  refine x_gfr xc237_183 rfl rfl xz87 rfl ?_
  refine x_bipush xc237_186 (by decide) ?_
  refine x_ial xc237_188 xz88 rfl (by omega) (by omega) (by omega) ?_
  refine x_iload xc237_189 rfl ?_
  refine x_isub xc237_191 ?_
  refine x_istore (pl' := [some (.ref 87), some (xV so), some (xV sd), some (xV tn), some (xV wh), some (xV ev), some (xV fb), some (xV x), some (xV dn), some (xV (a 88 119 - ev))]) xc237_192 rfl rfl ?_
  refine x_aloadn xc237_194 rfl ?_
  refine x_iconst xc237_195 ?_
  refine x_cV (as := [xV 1]) (rest := []) xc237_196 rfl xi227 xz87 ⟨rfl, rfl⟩ rfl rfl ?_
  exact k1

theorem wa237k {ro : Nat → Nat × (Nat → Int32)} {d : Nat} {Q : Option Value → pmS → Prop} {ev fb x dn df so sd tn wh : Int} {a : xA} {b : xB} (hso : 0 ≤ so ∧ so ≤ 2) (hsd : 0 ≤ sd ∧ sd ≤ 65535) (htn : 1 ≤ tn ∧ tn ≤ 20) (hw : 0 ≤ wh ∧ wh ≤ 2)
    (k1 : (¬ wh = 0) → (¬ wh = 1) → Q (some (xV df)) (xS a b))
    (k2 : (¬ wh = 0) → (wh = 1) → Q (some (xV dn)) (xS a b))
    (k3 : (wh = 0) → Q (some (xV fb)) (xS a b)) :
    pmWp ro d 12 237 1 199 [some (.ref 87), some (xV so), some (xV sd), some (xV tn), some (xV wh), some (xV ev), some (xV fb), some (xV x), some (xV dn), some (xV df)] [] (xS a b) Q := by
  refine x_iload xc237_199 rfl ?_
  refine x_ifne xc237_201 (xRk (by have g0 := hw; omega)) (fun h0 => ?_) (fun h0 => ?_)
  · refine x_iload xc237_209 rfl ?_
    refine x_iconst xc237_211 ?_
    refine x_icne xc237_212 (xRk (by have g0 := hw; omega)) (xRk (by decide)) (fun h1 => ?_) (fun h1 => ?_)
    · refine x_iload xc237_220 rfl ?_
      refine x_iret xc237_222 (Or.inl rfl) ?_
      exact k1 h0 h1
    · replace h1 := Classical.not_not.mp h1
      refine x_iload xc237_215 rfl ?_
      refine x_goto xc237_217 ?_
      refine x_iret xc237_222 (Or.inl rfl) ?_
      exact k2 h0 h1
  · replace h0 := Classical.not_not.mp h0
    refine x_iload xc237_204 rfl ?_
    refine x_goto xc237_206 ?_
    refine x_iret xc237_222 (Or.inl rfl) ?_
    exact k3 h0

end
