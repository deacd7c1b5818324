section
/-! exact: acts of the class -/
section
set_option maxRecDepth 100000
theorem xi102 : pmInf[102]? = some pmI_102 := rfl
theorem xi103 : pmInf[103]? = some pmI_103 := rfl
theorem xi104 : pmInf[104]? = some pmI_104 := rfl
theorem xc102_0 : pmCode 102 0 = some (.iload_n 2) ∧ 0 + 1 = 1 := ⟨rfl, rfl⟩
theorem xc102_1 : pmCode 102 1 = some (.iconst 3) ∧ 1 + 1 = 2 := ⟨rfl, rfl⟩
theorem xc102_2 : pmCode 102 2 = some .ishr ∧ 2 + 1 = 3 := ⟨rfl, rfl⟩
theorem xc102_3 : pmCode 102 3 = some (.bipush 7) ∧ 3 + 2 = 5 := ⟨rfl, rfl⟩
theorem xc102_5 : pmCode 102 5 = some .iand ∧ 5 + 1 = 6 := ⟨rfl, rfl⟩
theorem xc102_6 : pmCode 102 6 = some (.istore_n 3) ∧ 6 + 1 = 7 := ⟨rfl, rfl⟩
theorem xc102_7 : pmCode 102 7 = some (.iload_n 2) ∧ 7 + 1 = 8 := ⟨rfl, rfl⟩
theorem xc102_8 : pmCode 102 8 = some (.bipush 7) ∧ 8 + 2 = 10 := ⟨rfl, rfl⟩
theorem xc102_10 : pmCode 102 10 = some .iand ∧ 10 + 1 = 11 := ⟨rfl, rfl⟩
theorem xc102_11 : pmCode 102 11 = some (.istore 4) ∧ 11 + 2 = 13 := ⟨rfl, rfl⟩
theorem xc102_13 : pmCode 102 13 = some (.aload_n 1) ∧ 13 + 1 = 14 := ⟨rfl, rfl⟩
theorem xc102_14 : pmCode 102 14 = some (.getfield 33) ∧ 14 + 3 = 17 := ⟨rfl, rfl⟩
theorem xc102_17 : pmCode 102 17 = some (.ifCond .eq 17) ∧ ((17 : Nat) : Int) + 17 = ((34 : Nat) : Int) ∧ 17 + 3 = 20 := ⟨rfl, rfl, rfl⟩
theorem xc102_20 : pmCode 102 20 = some (.aload_n 1) ∧ 20 + 1 = 21 := ⟨rfl, rfl⟩
theorem xc102_21 : pmCode 102 21 = some (.getfield 37) ∧ 21 + 3 = 24 := ⟨rfl, rfl⟩
theorem xc102_24 : pmCode 102 24 = some (.ifCond .ne 10) ∧ ((24 : Nat) : Int) + 10 = ((34 : Nat) : Int) ∧ 24 + 3 = 27 := ⟨rfl, rfl, rfl⟩
theorem xc102_27 : pmCode 102 27 = some (.iload 4) ∧ 27 + 2 = 29 := ⟨rfl, rfl⟩
theorem xc102_29 : pmCode 102 29 = some (.bipush 7) ∧ 29 + 2 = 31 := ⟨rfl, rfl⟩
theorem xc102_31 : pmCode 102 31 = some (.if_icmp .lt 5) ∧ ((31 : Nat) : Int) + 5 = ((36 : Nat) : Int) ∧ 31 + 3 = 34 := ⟨rfl, rfl, rfl⟩
theorem xc102_34 : pmCode 102 34 = some (.iconst 0) ∧ 34 + 1 = 35 := ⟨rfl, rfl⟩
theorem xc102_35 : pmCode 102 35 = some .ireturn := rfl
theorem xc102_36 : pmCode 102 36 = some (.iload_n 2) ∧ 36 + 1 = 37 := ⟨rfl, rfl⟩
theorem xc102_37 : pmCode 102 37 = some (.bipush 6) ∧ 37 + 2 = 39 := ⟨rfl, rfl⟩
theorem xc102_39 : pmCode 102 39 = some .ishr ∧ 39 + 1 = 40 := ⟨rfl, rfl⟩
theorem xc102_40 : pmCode 102 40 = some (.iconst 1) ∧ 40 + 1 = 41 := ⟨rfl, rfl⟩
theorem xc102_41 : pmCode 102 41 = some (.if_icmp .ne 87) ∧ ((41 : Nat) : Int) + 87 = ((128 : Nat) : Int) ∧ 41 + 3 = 44 := ⟨rfl, rfl, rfl⟩
theorem xc102_44 : pmCode 102 44 = some (.iload_n 3) ∧ 44 + 1 = 45 := ⟨rfl, rfl⟩
theorem xc102_45 : pmCode 102 45 = some (.iconst 5) ∧ 45 + 1 = 46 := ⟨rfl, rfl⟩
theorem xc102_46 : pmCode 102 46 = some (.if_icmp .ge 35) ∧ ((46 : Nat) : Int) + 35 = ((81 : Nat) : Int) ∧ 46 + 3 = 49 := ⟨rfl, rfl, rfl⟩
theorem xc102_49 : pmCode 102 49 = some (.aload_n 1) ∧ 49 + 1 = 50 := ⟨rfl, rfl⟩
theorem xc102_50 : pmCode 102 50 = some (.getfield 40) ∧ 50 + 3 = 53 := ⟨rfl, rfl⟩
theorem xc102_53 : pmCode 102 53 = some (.iconst 4) ∧ 53 + 1 = 54 := ⟨rfl, rfl⟩
theorem xc102_54 : pmCode 102 54 = some (.iload_n 3) ∧ 54 + 1 = 55 := ⟨rfl, rfl⟩
theorem xc102_55 : pmCode 102 55 = some .iadd ∧ 55 + 1 = 56 := ⟨rfl, rfl⟩
theorem xc102_56 : pmCode 102 56 = some (.invokestatic 44) ∧ 56 + 3 = 59 := ⟨rfl, rfl⟩
theorem xc102_59 : pmCode 102 59 = some (.bipush 13) ∧ 59 + 2 = 61 := ⟨rfl, rfl⟩
theorem xc102_61 : pmCode 102 61 = some (.if_icmp .ne 20) ∧ ((61 : Nat) : Int) + 20 = ((81 : Nat) : Int) ∧ 61 + 3 = 64 := ⟨rfl, rfl, rfl⟩
theorem xc102_64 : pmCode 102 64 = some (.aload_n 1) ∧ 64 + 1 = 65 := ⟨rfl, rfl⟩
theorem xc102_65 : pmCode 102 65 = some (.iload_n 3) ∧ 65 + 1 = 66 := ⟨rfl, rfl⟩
theorem xc102_66 : pmCode 102 66 = some (.invokevirtual 48) ∧ 66 + 3 = 69 := ⟨rfl, rfl⟩
theorem xc102_69 : pmCode 102 69 = some (.iload 4) ∧ 69 + 2 = 71 := ⟨rfl, rfl⟩
theorem xc102_71 : pmCode 102 71 = some .ishr ∧ 71 + 1 = 72 := ⟨rfl, rfl⟩
theorem xc102_72 : pmCode 102 72 = some (.iconst 1) ∧ 72 + 1 = 73 := ⟨rfl, rfl⟩
theorem xc102_73 : pmCode 102 73 = some .iand ∧ 73 + 1 = 74 := ⟨rfl, rfl⟩
theorem xc102_74 : pmCode 102 74 = some (.ifCond .eq 7) ∧ ((74 : Nat) : Int) + 7 = ((81 : Nat) : Int) ∧ 74 + 3 = 77 := ⟨rfl, rfl, rfl⟩
theorem xc102_77 : pmCode 102 77 = some (.iconst 1) ∧ 77 + 1 = 78 := ⟨rfl, rfl⟩
theorem xc102_78 : pmCode 102 78 = some (.goto 4) ∧ ((78 : Nat) : Int) + 4 = ((82 : Nat) : Int) := ⟨rfl, rfl⟩
theorem xc102_81 : pmCode 102 81 = some (.iconst 0) ∧ 81 + 1 = 82 := ⟨rfl, rfl⟩
theorem xc102_82 : pmCode 102 82 = some (.istore 5) ∧ 82 + 2 = 84 := ⟨rfl, rfl⟩
theorem xc102_84 : pmCode 102 84 = some (.iconst 0) ∧ 84 + 1 = 85 := ⟨rfl, rfl⟩
theorem xc102_85 : pmCode 102 85 = some (.istore 6) ∧ 85 + 2 = 87 := ⟨rfl, rfl⟩
theorem xc102_87 : pmCode 102 87 = some (.iload 6) ∧ 87 + 2 = 89 := ⟨rfl, rfl⟩
theorem xc102_89 : pmCode 102 89 = some (.iconst 4) ∧ 89 + 1 = 90 := ⟨rfl, rfl⟩
theorem xc102_90 : pmCode 102 90 = some (.if_icmp .ge 35) ∧ ((90 : Nat) : Int) + 35 = ((125 : Nat) : Int) ∧ 90 + 3 = 93 := ⟨rfl, rfl, rfl⟩
theorem xc102_93 : pmCode 102 93 = some (.iload 5) ∧ 93 + 2 = 95 := ⟨rfl, rfl⟩
theorem xc102_95 : pmCode 102 95 = some (.aload_n 1) ∧ 95 + 1 = 96 := ⟨rfl, rfl⟩
theorem xc102_96 : pmCode 102 96 = some (.getfield 40) ∧ 96 + 3 = 99 := ⟨rfl, rfl⟩
theorem xc102_99 : pmCode 102 99 = some (.iload 6) ∧ 99 + 2 = 101 := ⟨rfl, rfl⟩
theorem xc102_101 : pmCode 102 101 = some (.invokestatic 44) ∧ 101 + 3 = 104 := ⟨rfl, rfl⟩
theorem xc102_104 : pmCode 102 104 = some (.iload 4) ∧ 104 + 2 = 106 := ⟨rfl, rfl⟩
theorem xc102_106 : pmCode 102 106 = some (.iconst 1) ∧ 106 + 1 = 107 := ⟨rfl, rfl⟩
theorem xc102_107 : pmCode 102 107 = some .iadd ∧ 107 + 1 = 108 := ⟨rfl, rfl⟩
theorem xc102_108 : pmCode 102 108 = some (.if_icmp .eq 7) ∧ ((108 : Nat) : Int) + 7 = ((115 : Nat) : Int) ∧ 108 + 3 = 111 := ⟨rfl, rfl, rfl⟩
theorem xc102_111 : pmCode 102 111 = some (.iconst 1) ∧ 111 + 1 = 112 := ⟨rfl, rfl⟩
theorem xc102_112 : pmCode 102 112 = some (.goto 4) ∧ ((112 : Nat) : Int) + 4 = ((116 : Nat) : Int) := ⟨rfl, rfl⟩
theorem xc102_115 : pmCode 102 115 = some (.iconst 0) ∧ 115 + 1 = 116 := ⟨rfl, rfl⟩
theorem xc102_116 : pmCode 102 116 = some .iand ∧ 116 + 1 = 117 := ⟨rfl, rfl⟩
theorem xc102_117 : pmCode 102 117 = some (.istore 5) ∧ 117 + 2 = 119 := ⟨rfl, rfl⟩
theorem xc102_119 : pmCode 102 119 = some (.iinc 6 1) ∧ 119 + 3 = 122 := ⟨rfl, rfl⟩
theorem xc102_122 : pmCode 102 122 = some (.goto (-35)) ∧ ((122 : Nat) : Int) + (-35) = ((87 : Nat) : Int) := ⟨rfl, rfl⟩
theorem xc102_125 : pmCode 102 125 = some (.iload 5) ∧ 125 + 2 = 127 := ⟨rfl, rfl⟩
theorem xc102_127 : pmCode 102 127 = some .ireturn := rfl
theorem xc102_128 : pmCode 102 128 = some (.iload_n 3) ∧ 128 + 1 = 129 := ⟨rfl, rfl⟩
theorem xc102_129 : pmCode 102 129 = some (.invokestatic 52) ∧ 129 + 3 = 132 := ⟨rfl, rfl⟩
theorem xc102_132 : pmCode 102 132 = some (.ifCond .eq 16) ∧ ((132 : Nat) : Int) + 16 = ((148 : Nat) : Int) ∧ 132 + 3 = 135 := ⟨rfl, rfl, rfl⟩
theorem xc102_135 : pmCode 102 135 = some (.aload_n 1) ∧ 135 + 1 = 136 := ⟨rfl, rfl⟩
theorem xc102_136 : pmCode 102 136 = some (.getfield 40) ∧ 136 + 3 = 139 := ⟨rfl, rfl⟩
theorem xc102_139 : pmCode 102 139 = some (.iload_n 3) ∧ 139 + 1 = 140 := ⟨rfl, rfl⟩
theorem xc102_140 : pmCode 102 140 = some (.invokestatic 44) ∧ 140 + 3 = 143 := ⟨rfl, rfl⟩
theorem xc102_143 : pmCode 102 143 = some (.iconst 1) ∧ 143 + 1 = 144 := ⟨rfl, rfl⟩
theorem xc102_144 : pmCode 102 144 = some .isub ∧ 144 + 1 = 145 := ⟨rfl, rfl⟩
theorem xc102_145 : pmCode 102 145 = some (.goto 4) ∧ ((145 : Nat) : Int) + 4 = ((149 : Nat) : Int) := ⟨rfl, rfl⟩
theorem xc102_148 : pmCode 102 148 = some (.iconst (-1)) ∧ 148 + 1 = 149 := ⟨rfl, rfl⟩
theorem xc102_149 : pmCode 102 149 = some (.istore 5) ∧ 149 + 2 = 151 := ⟨rfl, rfl⟩
theorem xc102_151 : pmCode 102 151 = some (.aload_n 1) ∧ 151 + 1 = 152 := ⟨rfl, rfl⟩
theorem xc102_152 : pmCode 102 152 = some (.getfield 40) ∧ 152 + 3 = 155 := ⟨rfl, rfl⟩
theorem xc102_155 : pmCode 102 155 = some (.iconst 0) ∧ 155 + 1 = 156 := ⟨rfl, rfl⟩
theorem xc102_156 : pmCode 102 156 = some (.invokestatic 44) ∧ 156 + 3 = 159 := ⟨rfl, rfl⟩
theorem xc102_159 : pmCode 102 159 = some (.iconst 1) ∧ 159 + 1 = 160 := ⟨rfl, rfl⟩
theorem xc102_160 : pmCode 102 160 = some .isub ∧ 160 + 1 = 161 := ⟨rfl, rfl⟩
theorem xc102_161 : pmCode 102 161 = some (.istore 6) ∧ 161 + 2 = 163 := ⟨rfl, rfl⟩
theorem xc102_163 : pmCode 102 163 = some (.iload 5) ∧ 163 + 2 = 165 := ⟨rfl, rfl⟩
theorem xc102_165 : pmCode 102 165 = some (.ifCond .lt 42) ∧ ((165 : Nat) : Int) + 42 = ((207 : Nat) : Int) ∧ 165 + 3 = 168 := ⟨rfl, rfl, rfl⟩
theorem xc102_168 : pmCode 102 168 = some (.iload 5) ∧ 168 + 2 = 170 := ⟨rfl, rfl⟩
theorem xc102_170 : pmCode 102 170 = some (.bipush 7) ∧ 170 + 2 = 172 := ⟨rfl, rfl⟩
theorem xc102_172 : pmCode 102 172 = some (.if_icmp .ge 35) ∧ ((172 : Nat) : Int) + 35 = ((207 : Nat) : Int) ∧ 172 + 3 = 175 := ⟨rfl, rfl, rfl⟩
theorem xc102_175 : pmCode 102 175 = some (.aload_n 0) ∧ 175 + 1 = 176 := ⟨rfl, rfl⟩
theorem xc102_176 : pmCode 102 176 = some (.getfield 25) ∧ 176 + 3 = 179 := ⟨rfl, rfl⟩
theorem xc102_179 : pmCode 102 179 = some (.iload 5) ∧ 179 + 2 = 181 := ⟨rfl, rfl⟩
theorem xc102_181 : pmCode 102 181 = some (.iload 4) ∧ 181 + 2 = 183 := ⟨rfl, rfl⟩
theorem xc102_183 : pmCode 102 183 = some (.invokevirtual 56) ∧ 183 + 3 = 186 := ⟨rfl, rfl⟩
theorem xc102_186 : pmCode 102 186 = some (.ifCond .eq 21) ∧ ((186 : Nat) : Int) + 21 = ((207 : Nat) : Int) ∧ 186 + 3 = 189 := ⟨rfl, rfl, rfl⟩
theorem xc102_189 : pmCode 102 189 = some (.iload 6) ∧ 189 + 2 = 191 := ⟨rfl, rfl⟩
theorem xc102_191 : pmCode 102 191 = some (.iload 5) ∧ 191 + 2 = 193 := ⟨rfl, rfl⟩
theorem xc102_193 : pmCode 102 193 = some (.if_icmp .eq 14) ∧ ((193 : Nat) : Int) + 14 = ((207 : Nat) : Int) ∧ 193 + 3 = 196 := ⟨rfl, rfl, rfl⟩
theorem xc102_196 : pmCode 102 196 = some (.iload 6) ∧ 196 + 2 = 198 := ⟨rfl, rfl⟩
theorem xc102_198 : pmCode 102 198 = some (.iload 4) ∧ 198 + 2 = 200 := ⟨rfl, rfl⟩
theorem xc102_200 : pmCode 102 200 = some (.if_icmp .eq 7) ∧ ((200 : Nat) : Int) + 7 = ((207 : Nat) : Int) ∧ 200 + 3 = 203 := ⟨rfl, rfl, rfl⟩
theorem xc102_203 : pmCode 102 203 = some (.iconst 1) ∧ 203 + 1 = 204 := ⟨rfl, rfl⟩
theorem xc102_204 : pmCode 102 204 = some (.goto 4) ∧ ((204 : Nat) : Int) + 4 = ((208 : Nat) : Int) := ⟨rfl, rfl⟩
theorem xc102_207 : pmCode 102 207 = some (.iconst 0) ∧ 207 + 1 = 208 := ⟨rfl, rfl⟩
theorem xc102_208 : pmCode 102 208 = some .ireturn := rfl
theorem xc103_0 : pmCode 103 0 = some (.iload_n 2) ∧ 0 + 1 = 1 := ⟨rfl, rfl⟩
theorem xc103_1 : pmCode 103 1 = some (.ifCond .ne 5) ∧ ((1 : Nat) : Int) + 5 = ((6 : Nat) : Int) ∧ 1 + 3 = 4 := ⟨rfl, rfl, rfl⟩
theorem xc103_4 : pmCode 103 4 = some (.iconst 0) ∧ 4 + 1 = 5 := ⟨rfl, rfl⟩
theorem xc103_5 : pmCode 103 5 = some .ireturn := rfl
theorem xc103_6 : pmCode 103 6 = some (.iload_n 2) ∧ 6 + 1 = 7 := ⟨rfl, rfl⟩
theorem xc103_7 : pmCode 103 7 = some (.bipush 6) ∧ 7 + 2 = 9 := ⟨rfl, rfl⟩
theorem xc103_9 : pmCode 103 9 = some .ishr ∧ 9 + 1 = 10 := ⟨rfl, rfl⟩
theorem xc103_10 : pmCode 103 10 = some (.iconst 1) ∧ 10 + 1 = 11 := ⟨rfl, rfl⟩
theorem xc103_11 : pmCode 103 11 = some (.if_icmp .ne 14) ∧ ((11 : Nat) : Int) + 14 = ((25 : Nat) : Int) ∧ 11 + 3 = 14 := ⟨rfl, rfl, rfl⟩
theorem xc103_14 : pmCode 103 14 = some (.iconst 2) ∧ 14 + 1 = 15 := ⟨rfl, rfl⟩
theorem xc103_15 : pmCode 103 15 = some (.aload_n 1) ∧ 15 + 1 = 16 := ⟨rfl, rfl⟩
theorem xc103_16 : pmCode 103 16 = some (.getfield 62) ∧ 16 + 3 = 19 := ⟨rfl, rfl⟩
theorem xc103_19 : pmCode 103 19 = some (.iconst 1) ∧ 19 + 1 = 20 := ⟨rfl, rfl⟩
theorem xc103_20 : pmCode 103 20 = some .iadd ∧ 20 + 1 = 21 := ⟨rfl, rfl⟩
theorem xc103_21 : pmCode 103 21 = some .imul ∧ 21 + 1 = 22 := ⟨rfl, rfl⟩
theorem xc103_22 : pmCode 103 22 = some (.goto 11) ∧ ((22 : Nat) : Int) + 11 = ((33 : Nat) : Int) := ⟨rfl, rfl⟩
theorem xc103_25 : pmCode 103 25 = some (.iconst 3) ∧ 25 + 1 = 26 := ⟨rfl, rfl⟩
theorem xc103_26 : pmCode 103 26 = some (.aload_n 1) ∧ 26 + 1 = 27 := ⟨rfl, rfl⟩
theorem xc103_27 : pmCode 103 27 = some (.getfield 65) ∧ 27 + 3 = 30 := ⟨rfl, rfl⟩
theorem xc103_30 : pmCode 103 30 = some (.iconst 1) ∧ 30 + 1 = 31 := ⟨rfl, rfl⟩
theorem xc103_31 : pmCode 103 31 = some .iadd ∧ 31 + 1 = 32 := ⟨rfl, rfl⟩
theorem xc103_32 : pmCode 103 32 = some .imul ∧ 32 + 1 = 33 := ⟨rfl, rfl⟩
theorem xc103_33 : pmCode 103 33 = some .ireturn := rfl
theorem xc104_0 : pmCode 104 0 = some (.iload_n 2) ∧ 0 + 1 = 1 := ⟨rfl, rfl⟩
theorem xc104_1 : pmCode 104 1 = some (.iconst 3) ∧ 1 + 1 = 2 := ⟨rfl, rfl⟩
theorem xc104_2 : pmCode 104 2 = some .ishr ∧ 2 + 1 = 3 := ⟨rfl, rfl⟩
theorem xc104_3 : pmCode 104 3 = some (.bipush 7) ∧ 3 + 2 = 5 := ⟨rfl, rfl⟩
theorem xc104_5 : pmCode 104 5 = some .iand ∧ 5 + 1 = 6 := ⟨rfl, rfl⟩
theorem xc104_6 : pmCode 104 6 = some (.istore_n 3) ∧ 6 + 1 = 7 := ⟨rfl, rfl⟩
theorem xc104_7 : pmCode 104 7 = some (.iload_n 2) ∧ 7 + 1 = 8 := ⟨rfl, rfl⟩
theorem xc104_8 : pmCode 104 8 = some (.bipush 7) ∧ 8 + 2 = 10 := ⟨rfl, rfl⟩
theorem xc104_10 : pmCode 104 10 = some .iand ∧ 10 + 1 = 11 := ⟨rfl, rfl⟩
theorem xc104_11 : pmCode 104 11 = some (.iconst 1) ∧ 11 + 1 = 12 := ⟨rfl, rfl⟩
theorem xc104_12 : pmCode 104 12 = some .iadd ∧ 12 + 1 = 13 := ⟨rfl, rfl⟩
theorem xc104_13 : pmCode 104 13 = some (.istore 4) ∧ 13 + 2 = 15 := ⟨rfl, rfl⟩
theorem xc104_15 : pmCode 104 15 = some (.aload_n 1) ∧ 15 + 1 = 16 := ⟨rfl, rfl⟩
theorem xc104_16 : pmCode 104 16 = some .dup ∧ 16 + 1 = 17 := ⟨rfl, rfl⟩
theorem xc104_17 : pmCode 104 17 = some (.getfield 68) ∧ 17 + 3 = 20 := ⟨rfl, rfl⟩
theorem xc104_20 : pmCode 104 20 = some (.aload_n 0) ∧ 20 + 1 = 21 := ⟨rfl, rfl⟩
theorem xc104_21 : pmCode 104 21 = some (.aload_n 1) ∧ 21 + 1 = 22 := ⟨rfl, rfl⟩
theorem xc104_22 : pmCode 104 22 = some (.iload_n 2) ∧ 22 + 1 = 23 := ⟨rfl, rfl⟩
theorem xc104_23 : pmCode 104 23 = some (.invokevirtual 71) ∧ 23 + 3 = 26 := ⟨rfl, rfl⟩
theorem xc104_26 : pmCode 104 26 = some .iadd ∧ 26 + 1 = 27 := ⟨rfl, rfl⟩
theorem xc104_27 : pmCode 104 27 = some (.putfield 68) ∧ 27 + 3 = 30 := ⟨rfl, rfl⟩
theorem xc104_30 : pmCode 104 30 = some (.iload_n 2) ∧ 30 + 1 = 31 := ⟨rfl, rfl⟩
theorem xc104_31 : pmCode 104 31 = some (.bipush 6) ∧ 31 + 2 = 33 := ⟨rfl, rfl⟩
theorem xc104_33 : pmCode 104 33 = some .ishr ∧ 33 + 1 = 34 := ⟨rfl, rfl⟩
theorem xc104_34 : pmCode 104 34 = some (.iconst 1) ∧ 34 + 1 = 35 := ⟨rfl, rfl⟩
theorem xc104_35 : pmCode 104 35 = some (.if_icmp .ne 32) ∧ ((35 : Nat) : Int) + 32 = ((67 : Nat) : Int) ∧ 35 + 3 = 38 := ⟨rfl, rfl, rfl⟩
theorem xc104_38 : pmCode 104 38 = some (.aload_n 1) ∧ 38 + 1 = 39 := ⟨rfl, rfl⟩
theorem xc104_39 : pmCode 104 39 = some (.aload_n 1) ∧ 39 + 1 = 40 := ⟨rfl, rfl⟩
theorem xc104_40 : pmCode 104 40 = some (.getfield 40) ∧ 40 + 3 = 43 := ⟨rfl, rfl⟩
theorem xc104_43 : pmCode 104 43 = some (.iconst 4) ∧ 43 + 1 = 44 := ⟨rfl, rfl⟩
theorem xc104_44 : pmCode 104 44 = some (.iload_n 3) ∧ 44 + 1 = 45 := ⟨rfl, rfl⟩
theorem xc104_45 : pmCode 104 45 = some .iadd ∧ 45 + 1 = 46 := ⟨rfl, rfl⟩
theorem xc104_46 : pmCode 104 46 = some (.iload 4) ∧ 46 + 2 = 48 := ⟨rfl, rfl⟩
theorem xc104_48 : pmCode 104 48 = some (.invokestatic 75) ∧ 48 + 3 = 51 := ⟨rfl, rfl⟩
theorem xc104_51 : pmCode 104 51 = some (.putfield 40) ∧ 51 + 3 = 54 := ⟨rfl, rfl⟩
theorem xc104_54 : pmCode 104 54 = some (.aload_n 1) ∧ 54 + 1 = 55 := ⟨rfl, rfl⟩
theorem xc104_55 : pmCode 104 55 = some .dup ∧ 55 + 1 = 56 := ⟨rfl, rfl⟩
theorem xc104_56 : pmCode 104 56 = some (.getfield 62) ∧ 56 + 3 = 59 := ⟨rfl, rfl⟩
theorem xc104_59 : pmCode 104 59 = some (.iconst 1) ∧ 59 + 1 = 60 := ⟨rfl, rfl⟩
theorem xc104_60 : pmCode 104 60 = some .iadd ∧ 60 + 1 = 61 := ⟨rfl, rfl⟩
theorem xc104_61 : pmCode 104 61 = some (.putfield 62) ∧ 61 + 3 = 64 := ⟨rfl, rfl⟩
theorem xc104_64 : pmCode 104 64 = some (.goto 27) ∧ ((64 : Nat) : Int) + 27 = ((91 : Nat) : Int) := ⟨rfl, rfl⟩
theorem xc104_67 : pmCode 104 67 = some (.aload_n 1) ∧ 67 + 1 = 68 := ⟨rfl, rfl⟩
theorem xc104_68 : pmCode 104 68 = some (.aload_n 1) ∧ 68 + 1 = 69 := ⟨rfl, rfl⟩
theorem xc104_69 : pmCode 104 69 = some (.getfield 40) ∧ 69 + 3 = 72 := ⟨rfl, rfl⟩
theorem xc104_72 : pmCode 104 72 = some (.iload_n 3) ∧ 72 + 1 = 73 := ⟨rfl, rfl⟩
theorem xc104_73 : pmCode 104 73 = some (.iload 4) ∧ 73 + 2 = 75 := ⟨rfl, rfl⟩
theorem xc104_75 : pmCode 104 75 = some (.invokestatic 75) ∧ 75 + 3 = 78 := ⟨rfl, rfl⟩
theorem xc104_78 : pmCode 104 78 = some (.putfield 40) ∧ 78 + 3 = 81 := ⟨rfl, rfl⟩
theorem xc104_81 : pmCode 104 81 = some (.aload_n 1) ∧ 81 + 1 = 82 := ⟨rfl, rfl⟩
theorem xc104_82 : pmCode 104 82 = some .dup ∧ 82 + 1 = 83 := ⟨rfl, rfl⟩
theorem xc104_83 : pmCode 104 83 = some (.getfield 65) ∧ 83 + 3 = 86 := ⟨rfl, rfl⟩
theorem xc104_86 : pmCode 104 86 = some (.iconst 1) ∧ 86 + 1 = 87 := ⟨rfl, rfl⟩
theorem xc104_87 : pmCode 104 87 = some .iadd ∧ 87 + 1 = 88 := ⟨rfl, rfl⟩
theorem xc104_88 : pmCode 104 88 = some (.putfield 65) ∧ 88 + 3 = 91 := ⟨rfl, rfl⟩
theorem xc104_91 : pmCode 104 91 = some (.aload_n 1) ∧ 91 + 1 = 92 := ⟨rfl, rfl⟩
theorem xc104_92 : pmCode 104 92 = some (.iconst 1) ∧ 92 + 1 = 93 := ⟨rfl, rfl⟩
theorem xc104_93 : pmCode 104 93 = some (.putfield 37) ∧ 93 + 3 = 96 := ⟨rfl, rfl⟩
theorem xc104_96 : pmCode 104 96 = some (.aload_n 1) ∧ 96 + 1 = 97 := ⟨rfl, rfl⟩
theorem xc104_97 : pmCode 104 97 = some (.invokevirtual 79) ∧ 97 + 3 = 100 := ⟨rfl, rfl⟩
theorem xc104_100 : pmCode 104 100 = some (.aload_n 0) ∧ 100 + 1 = 101 := ⟨rfl, rfl⟩
theorem xc104_101 : pmCode 104 101 = some (.getfield 29) ∧ 101 + 3 = 104 := ⟨rfl, rfl⟩
theorem xc104_104 : pmCode 104 104 = some (.aload_n 1) ∧ 104 + 1 = 105 := ⟨rfl, rfl⟩
theorem xc104_105 : pmCode 104 105 = some (.invokevirtual 82) ∧ 105 + 3 = 108 := ⟨rfl, rfl⟩
theorem xc104_108 : pmCode 104 108 = some .return_ := rfl
theorem w103 {ro : Nat → Nat × (Nat → Int32)} {d : Nat} {Q : Option Value → pmS → Prop} {c : Int} {w : Nat} {a : xA} {b : xB} (hz : uWz w) (hc : 0 ≤ c ∧ c ≤ 511) (hA : xAr a) (hB6 : 0 ≤ a w 6 ∧ a w 6 ≤ 1000) (hB8 : 0 ≤ a w 8 ∧ a w 8 ≤ 1000) (hB9 : 0 ≤ a w 9 ∧ a w 9 ≤ 1000) (hB10 : 0 ≤ a w 10 ∧ a w 10 ≤ 1000000) (hB12 : 0 ≤ a w 12 ∧ a w 12 ≤ 1)
    (k1 : (¬ c = 0) → (¬ c / 64 = 1) → Q (some (xV (3 * (a w 9 + 1)))) (xS a b))
    (k2 : (¬ c = 0) → (c / 64 = 1) → Q (some (xV (2 * (a w 8 + 1)))) (xS a b))
    (k3 : (c = 0) → Q (some (xV 0)) (xS a b)) :
    pmWp ro d 7 103 1 0 [some (.ref 45), some (.ref w), some (xV c)] [] (xS a b) Q := by
  refine x_iloadn xc103_0 rfl ?_
  refine x_ifne xc103_1 (xRk (by have g0 := hc; omega)) (fun h0 => ?_) (fun h0 => ?_)
  · refine x_iloadn xc103_6 rfl ?_
    refine x_bipush xc103_7 (by decide) ?_
    refine x_ishr (M := 64) (by omega) (by omega) (by decide) (xRk (by have g0 := hc; omega)) xc103_9 ?_
    refine x_iconst xc103_10 ?_
    refine x_icne xc103_11 (xRk (by have g0 := hc; omega)) (xRk (by decide)) (fun h1 => ?_) (fun h1 => ?_)
    · refine x_iconst xc103_25 ?_
      refine x_aloadn xc103_26 rfl ?_
      refine x_gfi (k := 9) xc103_27 rfl (Or.inl rfl) rfl hz.1 ?_
      refine x_iconst xc103_30 ?_
      refine x_iadd xc103_31 ?_
      refine x_imul xc103_32 ?_
      refine x_iret xc103_33 (Or.inl rfl) ?_
      exact k1 h0 h1
    · replace h1 := Classical.not_not.mp h1
      refine x_iconst xc103_14 ?_
      refine x_aloadn xc103_15 rfl ?_
      refine x_gfi (k := 8) xc103_16 rfl (Or.inl rfl) rfl hz.1 ?_
      refine x_iconst xc103_19 ?_
      refine x_iadd xc103_20 ?_
      refine x_imul xc103_21 ?_
      refine x_goto xc103_22 ?_
      refine x_iret xc103_33 (Or.inl rfl) ?_
      exact k2 h0 h1
  · replace h0 := Classical.not_not.mp h0
    refine x_iconst xc103_4 ?_
    refine x_iret xc103_5 (Or.inl rfl) ?_
    exact k3 h0

theorem xg103 {ro : Nat → Nat × (Nat → Int32)} {d : Nat} {Q : Option Value → pmS → Prop} {a : xA} {b : xB} {c : Int} {w : Nat} (h : pmWp ro d 7 103 1 0 [some (.ref 45), some (.ref w), some (xV c)] [] (xS a b) Q) : pmCs ro (d + 1) 103 [.ref 45, .ref w, xV c] (xS a b) Q := x_go xi103 rfl rfl rfl rfl rfl h
/-- priceOf -/
def uPc (c s h : Int) : Int := if c = 0 then 0 else if c / 64 = 1 then 2 * (s + 1) else 3 * (h + 1)
theorem uPc_b {c s h : Int} (hs : 0 ≤ s ∧ s ≤ 1000) (hh : 0 ≤ h ∧ h ≤ 1000) : 0 ≤ uPc c s h ∧ uPc c s h ≤ 3003 := by
  unfold uPc
  split
  · omega
  · split <;> omega
theorem rk103 {ro : Nat → Nat × (Nat → Int32)} {d : Nat} {Q : Option Value → pmS → Prop} {c : Int} {w : Nat} {a : xA} {b : xB} (hd : 1 ≤ d) (hz : uWz w) (hc : 0 ≤ c ∧ c ≤ 511) (hA : xAr a) (hB6 : 0 ≤ a w 6 ∧ a w 6 ≤ 1000) (hB8 : 0 ≤ a w 8 ∧ a w 8 ≤ 1000) (hB9 : 0 ≤ a w 9 ∧ a w 9 ≤ 1000) (hB10 : 0 ≤ a w 10 ∧ a w 10 ≤ 1000000) (hB12 : 0 ≤ a w 12 ∧ a w 12 ≤ 1) (hQ : Q (some (xV (uPc c (a w 8) (a w 9)))) (xS a b)) : pmCs ro d 103 [.ref 45, .ref w, xV c] (xS a b) Q := by
  unfold uPc at hQ
  refine pmCs_deep (d := 1) (xg103 (w103 hz hc hA hB6 hB8 hB9 hB10 hB12 ?_ ?_ ?_)) hd <;> intros
  all_goals (simp_all)
theorem w102 {ro : Nat → Nat × (Nat → Int32)} {d : Nat} {Q : Option Value → pmS → Prop} {c : Int} {w : Nat} {a : xA} {b : xB} (hz : uWz w) (hc : 0 ≤ c ∧ c ≤ 511) (hA : xAr a) (hB6 : 0 ≤ a w 6 ∧ a w 6 ≤ 1000) (hB8 : 0 ≤ a w 8 ∧ a w 8 ≤ 1000) (hB9 : 0 ≤ a w 9 ∧ a w 9 ≤ 1000) (hB10 : 0 ≤ a w 10 ∧ a w 10 ≤ 1000000) (hB12 : 0 ≤ a w 12 ∧ a w 12 ≤ 1) (hd : 2 ≤ d)
    (k1 : (a w 6 = 0) → Q (some (xV 0)) (xS a b))
    (k2 : (¬ a w 6 = 0) → (¬ a w 12 = 0) → Q (some (xV 0)) (xS a b))
    (k3 : (¬ a w 6 = 0) → (a w 12 = 0) → (c % 8 < 7) → pmWp ro d 7 102 2 36 [some (.ref 45), some (.ref w), some (xV c), some (xV ((c / 8) % 8)), some (xV (c % 8)), none, none] [] (xS a b) Q)
    (k4 : (¬ a w 6 = 0) → (a w 12 = 0) → (¬ c % 8 < 7) → Q (some (xV 0)) (xS a b)) :
    pmWp ro d 7 102 2 0 [some (.ref 45), some (.ref w), some (xV c), none, none, none, none] [] (xS a b) Q := by
  refine x_iloadn xc102_0 rfl ?_
  refine x_iconst xc102_1 ?_
  refine x_ishr (M := 8) (by omega) (by omega) (by decide) (xRk (by have g0 := hc; omega)) xc102_2 ?_
  refine x_bipush xc102_3 (by decide) ?_
  refine x_iandm (M := 8) 3 (by decide) (by decide) (by decide) xc102_5 ?_
  refine x_istoren (pl' := [some (.ref 45), some (.ref w), some (xV c), some (xV ((c / 8) % 8)), none, none, none]) xc102_6 rfl rfl ?_
  refine x_iloadn xc102_7 rfl ?_
  refine x_bipush xc102_8 (by decide) ?_
  refine x_iandm (M := 8) 3 (by decide) (by decide) (by decide) xc102_10 ?_
  refine x_istore (pl' := [some (.ref 45), some (.ref w), some (xV c), some (xV ((c / 8) % 8)), some (xV (c % 8)), none, none]) xc102_11 rfl rfl ?_
  refine x_aloadn xc102_13 rfl ?_
  refine x_gfi (k := 6) xc102_14 rfl (Or.inl rfl) rfl hz.1 ?_
  refine x_ifeq xc102_17 (xRk (by have g0 := hB6; omega)) (fun h0 => ?_) (fun h0 => ?_)
  · refine x_iconst xc102_34 ?_
    refine x_iret xc102_35 (Or.inr ⟨rfl, (by omega)⟩) ?_
    exact k1 h0
  · refine x_aloadn xc102_20 rfl ?_
    refine x_gfi (k := 12) xc102_21 rfl (Or.inr rfl) rfl hz.1 ?_
    refine x_ifne xc102_24 (xRk (by have g0 := hB12; omega)) (fun h1 => ?_) (fun h1 => ?_)
    · refine x_iconst xc102_34 ?_
      refine x_iret xc102_35 (Or.inr ⟨rfl, (by omega)⟩) ?_
      exact k2 h0 h1
    · replace h1 := Classical.not_not.mp h1
      refine x_iload xc102_27 rfl ?_
      refine x_bipush xc102_29 (by decide) ?_
      refine x_iclt xc102_31 (xRk (by have g0 := hc; omega)) (xRk (by decide)) (fun h2 => ?_) (fun h2 => ?_)
      · exact k3 h0 h1 h2
      · refine x_iconst xc102_34 ?_
        refine x_iret xc102_35 (Or.inr ⟨rfl, (by omega)⟩) ?_
        exact k4 h0 h1 h2

theorem xg102 {ro : Nat → Nat × (Nat → Int32)} {d : Nat} {Q : Option Value → pmS → Prop} {a : xA} {b : xB} {c : Int} {w : Nat} (h : pmWp ro d 7 102 2 0 [some (.ref 45), some (.ref w), some (xV c), none, none, none, none] [] (xS a b) Q) : pmCs ro (d + 1) 102 [.ref 45, .ref w, xV c] (xS a b) Q := x_go xi102 rfl rfl rfl rfl rfl h
theorem w102s {ro : Nat → Nat × (Nat → Int32)} {d : Nat} {Q : Option Value → pmS → Prop} {c i rm : Int} {w : Nat} {a : xA} {b : xB} (hz : uWz w) (hc : 0 ≤ c ∧ c ≤ 511) (hi : 0 ≤ i ∧ i ≤ 7) (hrm : 0 ≤ rm ∧ rm ≤ 6) (hd : 2 ≤ d)
    (k1 : (¬ c / 64 = 1) → (1 ≤ i ∧ i < 4) → (uSl (b w 4) i - 1 < 0) → Q (some (xV 0)) (xS a b))
    (k2 : (¬ c / 64 = 1) → (1 ≤ i ∧ i < 4) → (¬ uSl (b w 4) i - 1 < 0) → (7 ≤ uSl (b w 4) i - 1) → Q (some (xV 0)) (xS a b))
    (k3 : (¬ c / 64 = 1) → (1 ≤ i ∧ i < 4) → (¬ uSl (b w 4) i - 1 < 0) → (¬ 7 ≤ uSl (b w 4) i - 1) → (xBit (b 3 3) (7 * (uSl (b w 4) i - 1) + rm) = true) → (uSl (b w 4) 0 - 1 = uSl (b w 4) i - 1) → Q (some (xV 0)) (xS a b))
    (k4 : (¬ c / 64 = 1) → (1 ≤ i ∧ i < 4) → (¬ uSl (b w 4) i - 1 < 0) → (¬ 7 ≤ uSl (b w 4) i - 1) → (xBit (b 3 3) (7 * (uSl (b w 4) i - 1) + rm) = true) → (¬ uSl (b w 4) 0 - 1 = uSl (b w 4) i - 1) → (uSl (b w 4) 0 - 1 = rm) → Q (some (xV 0)) (xS a b))
    (k5 : (¬ c / 64 = 1) → (1 ≤ i ∧ i < 4) → (¬ uSl (b w 4) i - 1 < 0) → (¬ 7 ≤ uSl (b w 4) i - 1) → (xBit (b 3 3) (7 * (uSl (b w 4) i - 1) + rm) = true) → (¬ uSl (b w 4) 0 - 1 = uSl (b w 4) i - 1) → (¬ uSl (b w 4) 0 - 1 = rm) → Q (some (xV 1)) (xS a b))
    (k6 : (¬ c / 64 = 1) → (1 ≤ i ∧ i < 4) → (¬ uSl (b w 4) i - 1 < 0) → (¬ 7 ≤ uSl (b w 4) i - 1) → (xBit (b 3 3) (7 * (uSl (b w 4) i - 1) + rm) = false) → Q (some (xV 0)) (xS a b))
    (k7 : (¬ c / 64 = 1) → (¬ (1 ≤ i ∧ i < 4)) → Q (some (xV 0)) (xS a b))
    (k8 : (c / 64 = 1) → (5 ≤ i) → pmWp ro d 7 102 2 87 [some (.ref 45), some (.ref w), some (xV c), some (xV i), some (xV rm), some (xV 0), some (xV 0)] [] (xS a b) Q)
    (k9 : (c / 64 = 1) → (¬ 5 ≤ i) → (¬ uSl (b w 4) (4 + i) = 13) → pmWp ro d 7 102 2 87 [some (.ref 45), some (.ref w), some (xV c), some (xV i), some (xV rm), some (xV 0), some (xV 0)] [] (xS a b) Q)
    (k10 : (c / 64 = 1) → (¬ 5 ≤ i) → (uSl (b w 4) (4 + i) = 13) → (((uSt (b w 5) i) / ((2 ^ rm.toNat : Nat) : Int)) % 2 = 0) → pmWp ro d 7 102 2 87 [some (.ref 45), some (.ref w), some (xV c), some (xV i), some (xV rm), some (xV 0), some (xV 0)] [] (xS a b) Q)
    (k11 : (c / 64 = 1) → (¬ 5 ≤ i) → (uSl (b w 4) (4 + i) = 13) → (¬ ((uSt (b w 5) i) / ((2 ^ rm.toNat : Nat) : Int)) % 2 = 0) → pmWp ro d 7 102 2 87 [some (.ref 45), some (.ref w), some (xV c), some (xV i), some (xV rm), some (xV 1), some (xV 0)] [] (xS a b) Q) :
    pmWp ro d 7 102 2 36 [some (.ref 45), some (.ref w), some (xV c), some (xV i), some (xV rm), none, none] [] (xS a b) Q := by
  refine x_iloadn xc102_36 rfl ?_
  refine x_bipush xc102_37 (by decide) ?_
  refine x_ishr (M := 64) (by omega) (by omega) (by decide) (xRk (by have g0 := hc; omega)) xc102_39 ?_
  refine x_iconst xc102_40 ?_
  refine x_icne xc102_41 (xRk (by have g0 := hc; omega)) (xRk (by decide)) (fun h0 => ?_) (fun h0 => ?_)
  · refine x_iloadn xc102_128 rfl ?_
    refine x_cS (as := [xV i]) (rest := []) xc102_129 rfl rfl xi26 ⟨rfl, rfl⟩ rfl rfl ?_
    refine xk26 (by omega) (xRk (by have g0 := hi; omega)) (fun h1 => ?_) (fun h2 => ?_)
    · refine x_ifeq xc102_132 (xRk (by decide)) (fun h => absurd h (by omega)) (fun _ => ?_)
      refine x_aloadn xc102_135 rfl ?_
      refine x_gfl (k := 4) xc102_136 rfl rfl rfl hz.1 ?_
      refine x_iloadn xc102_139 rfl ?_
      refine x_cS (as := [.long (b w 4), xV i]) (rest := []) xc102_140 rfl rfl xi61 ⟨rfl, rfl⟩ rfl rfl ?_
      refine rk61 (by omega) (by have g0 := hi; omega) ?_
      refine x_iconst xc102_143 ?_
      refine x_isub xc102_144 ?_
      refine x_goto xc102_145 ?_
      refine x_istore (pl' := [some (.ref 45), some (.ref w), some (xV c), some (xV i), some (xV rm), some (xV (uSl (b w 4) i - 1)), none]) xc102_149 rfl rfl ?_
      refine x_aloadn xc102_151 rfl ?_
      refine x_gfl (k := 4) xc102_152 rfl rfl rfl hz.1 ?_
      refine x_iconst xc102_155 ?_
      refine x_cS (as := [.long (b w 4), xV 0]) (rest := []) xc102_156 rfl rfl xi61 ⟨rfl, rfl⟩ rfl rfl ?_
      refine rk61 (by omega) (by omega) ?_
      refine x_iconst xc102_159 ?_
      refine x_isub xc102_160 ?_
      refine x_istore (pl' := [some (.ref 45), some (.ref w), some (xV c), some (xV i), some (xV rm), some (xV (uSl (b w 4) i - 1)), some (xV (uSl (b w 4) 0 - 1))]) xc102_161 rfl rfl ?_
      refine x_iload xc102_163 rfl ?_
      refine x_iflt xc102_165 (xRk (by have g0 := uSl_b (l := b w 4) (j := i) (by have g0 := hi; omega) (by have g0 := hi; omega); omega)) (fun h4 => ?_) (fun h4 => ?_)
      · refine x_iconst xc102_207 ?_
        refine x_iret xc102_208 (Or.inr ⟨rfl, (by omega)⟩) ?_
        exact k1 h0 h1 h4
      · refine x_iload xc102_168 rfl ?_
        refine x_bipush xc102_170 (by decide) ?_
        refine x_icge xc102_172 (xRk (by have g0 := uSl_b (l := b w 4) (j := i) (by have g0 := hi; omega) (by have g0 := hi; omega); omega)) (xRk (by decide)) (fun h5 => ?_) (fun h5 => ?_)
        · refine x_iconst xc102_207 ?_
          refine x_iret xc102_208 (Or.inr ⟨rfl, (by omega)⟩) ?_
          exact k2 h0 h1 h4 h5
        · refine x_aloadn xc102_175 rfl ?_
          refine x_gfr xc102_176 rfl rfl xz45 rfl ?_
          refine x_iload xc102_179 rfl ?_
          refine x_iload xc102_181 rfl ?_
          refine x_cV (as := [xV (uSl (b w 4) i - 1), xV rm]) (rest := []) xc102_183 rfl xi16 xz3 ⟨rfl, rfl⟩ rfl rfl ?_
          refine xk16 (by omega) (by have g0 := uSl_b (l := b w 4) (j := i) (by have g0 := hi; omega) (by have g0 := hi; omega); omega) (by have g0 := hrm; omega) (fun h6 => ?_) (fun h7 => ?_)
          · refine x_ifeq xc102_186 (xRk (by decide)) (fun h => absurd h (by omega)) (fun _ => ?_)
            refine x_iload xc102_189 rfl ?_
            refine x_iload xc102_191 rfl ?_
            refine x_iceq xc102_193 (xRk (by have g0 := uSl_b (l := b w 4) (j := 0) (by omega) (by omega); omega)) (xRk (by have g0 := uSl_b (l := b w 4) (j := i) (by have g0 := hi; omega) (by have g0 := hi; omega); omega)) (fun h9 => ?_) (fun h9 => ?_)
            · refine x_iconst xc102_207 ?_
              refine x_iret xc102_208 (Or.inr ⟨rfl, (by omega)⟩) ?_
              exact k3 h0 h1 h4 h5 h6 h9
            · refine x_iload xc102_196 rfl ?_
              refine x_iload xc102_198 rfl ?_
              refine x_iceq xc102_200 (xRk (by have g0 := uSl_b (l := b w 4) (j := 0) (by omega) (by omega); omega)) (xRk (by have g0 := hrm; omega)) (fun h10 => ?_) (fun h10 => ?_)
              · refine x_iconst xc102_207 ?_
                refine x_iret xc102_208 (Or.inr ⟨rfl, (by omega)⟩) ?_
                exact k4 h0 h1 h4 h5 h6 h9 h10
              · refine x_iconst xc102_203 ?_
                refine x_goto xc102_204 ?_
                refine x_iret xc102_208 (Or.inr ⟨rfl, (by omega)⟩) ?_
                exact k5 h0 h1 h4 h5 h6 h9 h10
          · refine x_ifeq xc102_186 (xRk (by decide)) (fun _ => ?_) (fun h => absurd h (by omega))
            refine x_iconst xc102_207 ?_
            refine x_iret xc102_208 (Or.inr ⟨rfl, (by omega)⟩) ?_
            exact k6 h0 h1 h4 h5 h7
    · refine x_ifeq xc102_132 (xRk (by decide)) (fun _ => ?_) (fun h => absurd h (by omega))
      refine x_iconst xc102_148 ?_
      refine x_istore (pl' := [some (.ref 45), some (.ref w), some (xV c), some (xV i), some (xV rm), some (xV (-1)), none]) xc102_149 rfl rfl ?_
      refine x_aloadn xc102_151 rfl ?_
      refine x_gfl (k := 4) xc102_152 rfl rfl rfl hz.1 ?_
      refine x_iconst xc102_155 ?_
      refine x_cS (as := [.long (b w 4), xV 0]) (rest := []) xc102_156 rfl rfl xi61 ⟨rfl, rfl⟩ rfl rfl ?_
      refine rk61 (by omega) (by omega) ?_
      refine x_iconst xc102_159 ?_
      refine x_isub xc102_160 ?_
      refine x_istore (pl' := [some (.ref 45), some (.ref w), some (xV c), some (xV i), some (xV rm), some (xV (-1)), some (xV (uSl (b w 4) 0 - 1))]) xc102_161 rfl rfl ?_
      refine x_iload xc102_163 rfl ?_
      refine x_iflt xc102_165 (xRk (by decide)) (fun _ => ?_) (fun h => absurd h (by omega))
      refine x_iconst xc102_207 ?_
      refine x_iret xc102_208 (Or.inr ⟨rfl, (by omega)⟩) ?_
      exact k7 h0 h2
  · replace h0 := Classical.not_not.mp h0
    refine x_iloadn xc102_44 rfl ?_
    refine x_iconst xc102_45 ?_
    refine x_icge xc102_46 (xRk (by have g0 := hi; omega)) (xRk (by decide)) (fun h14 => ?_) (fun h14 => ?_)
    · refine x_iconst xc102_81 ?_
      refine x_istore (pl' := [some (.ref 45), some (.ref w), some (xV c), some (xV i), some (xV rm), some (xV 0), none]) xc102_82 rfl rfl ?_
      refine x_iconst xc102_84 ?_
      refine x_istore (pl' := [some (.ref 45), some (.ref w), some (xV c), some (xV i), some (xV rm), some (xV 0), some (xV 0)]) xc102_85 rfl rfl ?_
      exact k8 h0 h14
    · refine x_aloadn xc102_49 rfl ?_
      refine x_gfl (k := 4) xc102_50 rfl rfl rfl hz.1 ?_
      refine x_iconst xc102_53 ?_
      refine x_iloadn xc102_54 rfl ?_
      refine x_iadd xc102_55 ?_
      refine x_cS (as := [.long (b w 4), xV (4 + i)]) (rest := []) xc102_56 rfl rfl xi61 ⟨rfl, rfl⟩ rfl rfl ?_
      refine rk61 (by omega) (by have g0 := hi; omega) ?_
      refine x_bipush xc102_59 (by decide) ?_
      refine x_icne xc102_61 (xRk (by have g0 := uSl_b (l := b w 4) (j := 4 + i) (by have g0 := hi; omega) (by have g0 := hi; omega); omega)) (xRk (by decide)) (fun h15 => ?_) (fun h15 => ?_)
      · refine x_iconst xc102_81 ?_
        refine x_istore (pl' := [some (.ref 45), some (.ref w), some (xV c), some (xV i), some (xV rm), some (xV 0), none]) xc102_82 rfl rfl ?_
        refine x_iconst xc102_84 ?_
        refine x_istore (pl' := [some (.ref 45), some (.ref w), some (xV c), some (xV i), some (xV rm), some (xV 0), some (xV 0)]) xc102_85 rfl rfl ?_
        exact k9 h0 h14 h15
      · replace h15 := Classical.not_not.mp h15
        refine x_aloadn xc102_64 rfl ?_
        refine x_iloadn xc102_65 rfl ?_
        refine x_cV (as := [xV i]) (rest := []) xc102_66 rfl xi62 hz.1 ⟨rfl, rfl⟩ rfl rfl ?_
        refine rk62 (by omega) hz (by have g0 := hi; omega) ?_
        refine x_iload xc102_69 rfl ?_
        refine x_ishr (M := ((2 ^ rm.toNat : Nat) : Int)) (by have g0 := hrm; omega) (by have g0 := hrm; omega) rfl (xRk (by have g0 := uSt_b (l := b w 5) (x := i); omega)) xc102_71 ?_
        refine x_iconst xc102_72 ?_
        refine x_iandm (M := 2) 1 (by decide) (by decide) (by decide) xc102_73 ?_
        refine x_ifeq xc102_74 (xRk (by have g0 := uSt_b (l := b w 5) (x := i); have g1 := hrm; omega)) (fun h16 => ?_) (fun h16 => ?_)
        · refine x_iconst xc102_81 ?_
          refine x_istore (pl' := [some (.ref 45), some (.ref w), some (xV c), some (xV i), some (xV rm), some (xV 0), none]) xc102_82 rfl rfl ?_
          refine x_iconst xc102_84 ?_
          refine x_istore (pl' := [some (.ref 45), some (.ref w), some (xV c), some (xV i), some (xV rm), some (xV 0), some (xV 0)]) xc102_85 rfl rfl ?_
          exact k10 h0 h14 h15 h16
        · refine x_iconst xc102_77 ?_
          refine x_goto xc102_78 ?_
          refine x_istore (pl' := [some (.ref 45), some (.ref w), some (xV c), some (xV i), some (xV rm), some (xV 1), none]) xc102_82 rfl rfl ?_
          refine x_iconst xc102_84 ?_
          refine x_istore (pl' := [some (.ref 45), some (.ref w), some (xV c), some (xV i), some (xV rm), some (xV 1), some (xV 0)]) xc102_85 rfl rfl ?_
          exact k11 h0 h14 h15 h16

theorem w102q {ro : Nat → Nat × (Nat → Int32)} {d : Nat} {Q : Option Value → pmS → Prop} {c i rm g q : Int} {w : Nat} {a : xA} {b : xB} (hz : uWz w) (hrm : 0 ≤ rm ∧ rm ≤ 6) (hg : g = 0 ∨ g = 1) (hq : 0 ≤ q ∧ q ≤ 4) (hd : 2 ≤ d)
    (k1 : (4 ≤ q) → Q (some (xV g)) (xS a b))
    (k2 : (¬ 4 ≤ q) → (uSl (b w 4) q = rm + 1) → pmWp ro d 7 102 2 87 [some (.ref 45), some (.ref w), some (xV c), some (xV i), some (xV rm), some (xV (xAnd g 0)), some (xV (q + 1))] [] (xS a b) Q)
    (k3 : (¬ 4 ≤ q) → (¬ uSl (b w 4) q = rm + 1) → pmWp ro d 7 102 2 87 [some (.ref 45), some (.ref w), some (xV c), some (xV i), some (xV rm), some (xV (g % 2)), some (xV (q + 1))] [] (xS a b) Q) :
    pmWp ro d 7 102 2 87 [some (.ref 45), some (.ref w), some (xV c), some (xV i), some (xV rm), some (xV g), some (xV q)] [] (xS a b) Q := by
  refine x_iload xc102_87 rfl ?_
  refine x_iconst xc102_89 ?_
  refine x_icge xc102_90 (xRk (by have g0 := hq; omega)) (xRk (by decide)) (fun h0 => ?_) (fun h0 => ?_)
  · refine x_iload xc102_125 rfl ?_
    refine x_iret xc102_127 (Or.inr ⟨rfl, (by have g0 := hg; omega)⟩) ?_
    exact k1 h0
  · refine x_iload xc102_93 rfl ?_
    refine x_aloadn xc102_95 rfl ?_
    refine x_gfl (k := 4) xc102_96 rfl rfl rfl hz.1 ?_
    refine x_iload xc102_99 rfl ?_
    refine x_cS (as := [.long (b w 4), xV q]) (rest := [xV g]) xc102_101 rfl rfl xi61 ⟨rfl, rfl⟩ rfl rfl ?_
    refine rk61 (by omega) (by have g0 := hq; omega) ?_
    refine x_iload xc102_104 rfl ?_
    refine x_iconst xc102_106 ?_
    refine x_iadd xc102_107 ?_
    refine x_iceq xc102_108 (xRk (by have g0 := uSl_b (l := b w 4) (j := q) (by have g0 := hq; omega) (by have g0 := hq; omega); omega)) (xRk (by have g0 := hrm; omega)) (fun h1 => ?_) (fun h1 => ?_)
    · refine x_iconst xc102_115 ?_
      refine x_iand xc102_116 ?_
      refine x_istore (pl' := [some (.ref 45), some (.ref w), some (xV c), some (xV i), some (xV rm), some (xV (xAnd g 0)), some (xV q)]) xc102_117 rfl rfl ?_
      refine x_iinc (pl' := [some (.ref 45), some (.ref w), some (xV c), some (xV i), some (xV rm), some (xV (xAnd g 0)), some (xV (q + 1))]) xc102_119 rfl rfl ?_
      refine x_goto xc102_122 ?_
      exact k2 h0 h1
    · refine x_iconst xc102_111 ?_
      refine x_goto xc102_112 ?_
      refine x_iandm (M := 2) 1 (by decide) (by decide) (by decide) xc102_116 ?_
      refine x_istore (pl' := [some (.ref 45), some (.ref w), some (xV c), some (xV i), some (xV rm), some (xV (g % 2)), some (xV q)]) xc102_117 rfl rfl ?_
      refine x_iinc (pl' := [some (.ref 45), some (.ref w), some (xV c), some (xV i), some (xV rm), some (xV (g % 2)), some (xV (q + 1))]) xc102_119 rfl rfl ?_
      refine x_goto xc102_122 ?_
      exact k3 h0 h1

theorem w104 {ro : Nat → Nat × (Nat → Int32)} {d : Nat} {Q : Option Value → pmS → Prop} {c : Int} {w : Nat} {a : xA} {b : xB} (hz : uWz w) (hc : 0 ≤ c ∧ c ≤ 511) (hA : xAr a) (hB6 : 0 ≤ a w 6 ∧ a w 6 ≤ 1000) (hB8 : 0 ≤ a w 8 ∧ a w 8 ≤ 1000) (hB9 : 0 ≤ a w 9 ∧ a w 9 ≤ 1000) (hB10 : 0 ≤ a w 10 ∧ a w 10 ≤ 1000000) (hB12 : 0 ≤ a w 12 ∧ a w 12 ≤ 1) (hd : 2 ≤ d)
    (k1 : (¬ c / 64 = 1) → pmCs ro d 59 [.ref 43, .ref w] (xS (uFg w (xU (xU (xU a w 10 (a w 10 + (uPc c (a w 8) (a w 9)))) w 9 (a w 9 + 1)) w 12 1)) (xU b w 4 (xWith (b w 4) ((c / 8) % 8) (c % 8 + 1)))) fun r σ' => pmWp ro d 7 104 0 108 [some (.ref 45), some (.ref w), some (xV c), some (xV ((c / 8) % 8)), some (xV (c % 8 + 1))] (r.toList ++ []) σ' Q)
    (k2 : (c / 64 = 1) → pmCs ro d 59 [.ref 43, .ref w] (xS (uFg w (xU (xU (xU a w 10 (a w 10 + (uPc c (a w 8) (a w 9)))) w 8 (a w 8 + 1)) w 12 1)) (xU b w 4 (xWith (b w 4) (4 + ((c / 8) % 8)) (c % 8 + 1)))) fun r σ' => pmWp ro d 7 104 0 108 [some (.ref 45), some (.ref w), some (xV c), some (xV ((c / 8) % 8)), some (xV (c % 8 + 1))] (r.toList ++ []) σ' Q) :
    pmWp ro d 7 104 0 0 [some (.ref 45), some (.ref w), some (xV c), none, none] [] (xS a b) Q := by
  refine x_iloadn xc104_0 rfl ?_
  refine x_iconst xc104_1 ?_
  refine x_ishr (M := 8) (by omega) (by omega) (by decide) (xRk (by have g0 := hc; omega)) xc104_2 ?_
  refine x_bipush xc104_3 (by decide) ?_
  refine x_iandm (M := 8) 3 (by decide) (by decide) (by decide) xc104_5 ?_
  refine x_istoren (pl' := [some (.ref 45), some (.ref w), some (xV c), some (xV ((c / 8) % 8)), none]) xc104_6 rfl rfl ?_
  refine x_iloadn xc104_7 rfl ?_
  refine x_bipush xc104_8 (by decide) ?_
  refine x_iandm (M := 8) 3 (by decide) (by decide) (by decide) xc104_10 ?_
  refine x_iconst xc104_11 ?_
  refine x_iadd xc104_12 ?_
  refine x_istore (pl' := [some (.ref 45), some (.ref w), some (xV c), some (xV ((c / 8) % 8)), some (xV (c % 8 + 1))]) xc104_13 rfl rfl ?_
  refine x_aloadn xc104_15 rfl ?_
  refine x_dup xc104_16 rfl ?_
  refine x_gfi (k := 10) xc104_17 rfl (Or.inl rfl) rfl hz.1 ?_
  refine x_aloadn xc104_20 rfl ?_
  refine x_aloadn xc104_21 rfl ?_
  refine x_iloadn xc104_22 rfl ?_
  refine x_cV (as := [.ref w, xV c]) (rest := [xV (a w 10), .ref w]) xc104_23 rfl xi103 xz45 ⟨rfl, rfl⟩ rfl rfl ?_
  refine rk103 (by omega) hz (by have g0 := hc; omega) hA hB6 hB8 hB9 hB10 hB12 ?_
  refine x_iadd xc104_26 ?_
  refine x_pfi (k := 10) xc104_27 rfl ⟨rfl, rfl⟩ rfl hz.1 ?_
  refine x_iloadn xc104_30 rfl ?_
  refine x_bipush xc104_31 (by decide) ?_
  refine x_ishr (M := 64) (by omega) (by omega) (by decide) (xRk (by have g0 := hc; omega)) xc104_33 ?_
  refine x_iconst xc104_34 ?_
  refine x_icne xc104_35 (xRk (by have g0 := hc; omega)) (xRk (by decide)) (fun h0 => ?_) (fun h0 => ?_)
  · refine x_aloadn xc104_67 rfl ?_
    refine x_aloadn xc104_68 rfl ?_
    refine x_gfl (k := 4) xc104_69 rfl rfl rfl hz.1 ?_
    refine x_iloadn xc104_72 rfl ?_
    refine x_iload xc104_73 rfl ?_
    refine x_cS (as := [.long (b w 4), xV ((c / 8) % 8), xV (c % 8 + 1)]) (rest := [.ref w]) xc104_75 rfl rfl xi19 ⟨rfl, rfl⟩ rfl rfl ?_
    refine xk19 (by omega) (xRk (by have g0 := hc; omega)) (xRk (by have g0 := hc; omega)) ?_
    refine x_pfl (k := 4) xc104_78 rfl ⟨rfl, rfl⟩ rfl hz.1 ?_
    refine x_aloadn xc104_81 rfl ?_
    refine x_dup xc104_82 rfl ?_
    refine x_gfi' (k := 9) (v := a w 9) xc104_83 rfl (Or.inl rfl) rfl hz.1 (by rw [xUk (by decide)]) ?_
    refine x_iconst xc104_86 ?_
    refine x_iadd xc104_87 ?_
    refine x_pfi (k := 9) xc104_88 rfl ⟨rfl, rfl⟩ rfl hz.1 ?_
    refine x_aloadn xc104_91 rfl ?_
    refine x_iconst xc104_92 ?_
    refine x_pfz (k := 12) (by omega) xc104_93 rfl ⟨rfl, rfl⟩ rfl hz.1 ?_
    refine x_aloadn xc104_96 rfl ?_
    refine x_cV (as := []) (rest := []) xc104_97 rfl xi67 hz.1 ⟨rfl, rfl⟩ rfl rfl ?_
    refine rk67 hz (by omega) ?_
    refine x_aloadn xc104_100 rfl ?_
    refine x_gfr xc104_101 rfl rfl xz45 rfl ?_
    refine x_aloadn xc104_104 rfl ?_
    refine x_cV (as := [.ref w]) (rest := []) xc104_105 rfl xi59 xz43 ⟨rfl, rfl⟩ rfl rfl ?_
    exact k1 h0
  · replace h0 := Classical.not_not.mp h0
    refine x_aloadn xc104_38 rfl ?_
    refine x_aloadn xc104_39 rfl ?_
    refine x_gfl (k := 4) xc104_40 rfl rfl rfl hz.1 ?_
    refine x_iconst xc104_43 ?_
    refine x_iloadn xc104_44 rfl ?_
    refine x_iadd xc104_45 ?_
    refine x_iload xc104_46 rfl ?_
    refine x_cS (as := [.long (b w 4), xV (4 + ((c / 8) % 8)), xV (c % 8 + 1)]) (rest := [.ref w]) xc104_48 rfl rfl xi19 ⟨rfl, rfl⟩ rfl rfl ?_
    refine xk19 (by omega) (xRk (by have g0 := hc; omega)) (xRk (by have g0 := hc; omega)) ?_
    refine x_pfl (k := 4) xc104_51 rfl ⟨rfl, rfl⟩ rfl hz.1 ?_
    refine x_aloadn xc104_54 rfl ?_
    refine x_dup xc104_55 rfl ?_
    refine x_gfi' (k := 8) (v := a w 8) xc104_56 rfl (Or.inl rfl) rfl hz.1 (by rw [xUk (by decide)]) ?_
    refine x_iconst xc104_59 ?_
    refine x_iadd xc104_60 ?_
    refine x_pfi (k := 8) xc104_61 rfl ⟨rfl, rfl⟩ rfl hz.1 ?_
    refine x_goto xc104_64 ?_
    refine x_aloadn xc104_91 rfl ?_
    refine x_iconst xc104_92 ?_
    refine x_pfz (k := 12) (by omega) xc104_93 rfl ⟨rfl, rfl⟩ rfl hz.1 ?_
    refine x_aloadn xc104_96 rfl ?_
    refine x_cV (as := []) (rest := []) xc104_97 rfl xi67 hz.1 ⟨rfl, rfl⟩ rfl rfl ?_
    refine rk67 hz (by omega) ?_
    refine x_aloadn xc104_100 rfl ?_
    refine x_gfr xc104_101 rfl rfl xz45 rfl ?_
    refine x_aloadn xc104_104 rfl ?_
    refine x_cV (as := [.ref w]) (rest := []) xc104_105 rfl xi59 xz43 ⟨rfl, rfl⟩ rfl rfl ?_
    exact k2 h0

theorem xg104 {ro : Nat → Nat × (Nat → Int32)} {d : Nat} {Q : Option Value → pmS → Prop} {a : xA} {b : xB} {c : Int} {w : Nat} (h : pmWp ro d 7 104 0 0 [some (.ref 45), some (.ref w), some (xV c), none, none] [] (xS a b) Q) : pmCs ro (d + 1) 104 [.ref 45, .ref w, xV c] (xS a b) Q := x_go xi104 rfl rfl rfl rfl rfl h
theorem w104r {ro : Nat → Nat × (Nat → Int32)} {d : Nat} {Q : Option Value → pmS → Prop} {c i rm : Int} {w : Nat} {a : xA} {b : xB}
    (k1 : Q none (xS a b)) :
    pmWp ro d 7 104 0 108 [some (.ref 45), some (.ref w), some (xV c), some (xV i), some (xV rm)] [] (xS a b) Q := by
  refine x_ret xc104_108 rfl ?_
  exact k1

end
end
section
/-! acts, by rows -/
section
set_option maxRecDepth 100000


section
variable {ro : Nat → Nat × (Nat → Int32)} {d w : Nat} {Q : Option Value → pmS → Prop} {dr wp co pr cnt W : Int → Int} {T : Int → List Int} {n c p k x v : Int} {r r' : Int → Int} {a a' a0 : xA} {b b' : xB}
/-- whether an act can be done; the row behind it -/
def uAo (dr : Int → Int) (n c : Int) (r : Int → Int) : Prop := if c < 36 then ((c - 1) / 7 < n ∧ r (4 + (c - 1) / 7) = 20 ∧ ¬ r (9 + (c - 1) / 7) / ((2 ^ ((c - 1) % 7).toNat : Nat) : Int) % 2 = 0) ∧ ∀ p, 0 ≤ p → p < 4 → ¬ r p = (c - 1) % 7 else ¬ r (1 + (c - 36) / 7) = 7 ∧ ¬ dr (7 * r (1 + (c - 36) / 7) + (c - 36) % 7) = 0 ∧ (r 0 = 7 ∨ (¬ r 0 = (c - 36) % 7 ∧ ¬ r 0 = r (1 + (c - 36) / 7)))
def uAc (dr : Int → Int) (n c : Int) (r : Int → Int) : Prop := c = 0 ∨ (¬ r 114 = 0 ∧ r 115 = 0 ∧ uAo dr n c r)
def uAa (c : Int) (r : Int → Int) : Int → Int := fun j =>
  if j = 118 then r 118 + uPr c r else if j = 115 then 1
  else if c < 36 then (if j = 4 + (c - 1) / 7 then (c - 1) % 7 else if j = 9 + (c - 1) / 7 then 0 else if j = 116 then r 116 + 1 else r j)
  else (if j = 1 + (c - 36) / 7 then (c - 36) % 7 else if j = 117 then r 117 + 1 else r j)
def uAx (n c : Int) (r : Int → Int) : Int → Int := if c = 0 then r else uAl n (uAa c r)
theorem uAo_s (h : c < 36) : uAo dr n c r ↔ ((c - 1) / 7 < n ∧ r (4 + (c - 1) / 7) = 20 ∧ ¬ r (9 + (c - 1) / 7) / ((2 ^ ((c - 1) % 7).toNat : Nat) : Int) % 2 = 0) ∧ ∀ p, 0 ≤ p → p < 4 → ¬ r p = (c - 1) % 7 := by
  unfold uAo
  rw [if_pos h]
theorem uAo_h (h : ¬ c < 36) : uAo dr n c r ↔ ¬ r (1 + (c - 36) / 7) = 7 ∧ ¬ dr (7 * r (1 + (c - 36) / 7) + (c - 36) % 7) = 0 ∧ (r 0 = 7 ∨ (¬ r 0 = (c - 36) % 7 ∧ ¬ r 0 = r (1 + (c - 36) / 7))) := by
  unfold uAo
  rw [if_neg h]
theorem uAl_hi (hn5 : n ≤ 5) (hr : uRv n r) {j : Int} (hj : 41 ≤ j) : uAl n r j = r j := by
  have h1 := uRv_f hn5 hr
  exact ((uRv_a hn5 3 1 _ h1.1 (by decide) (by decide)).2 j (by omega)).trans (h1.2 j (by omega))
theorem uAa_hi (hc : 1 ≤ c ∧ c ≤ 56) {j : Int} (hj : 41 ≤ j) : uAa c r j = if j = 118 then r 118 + uPr c r else if j = 115 then 1 else if j = 116 ∧ c < 36 then r 116 + 1 else if j = 117 ∧ ¬ c < 36 then r 117 + 1 else r j := by
  unfold uAa
  by_cases h1 : j = 118
  · rw [if_pos h1, if_pos h1]
  rw [if_neg h1, if_neg h1]
  by_cases h2 : j = 115
  · rw [if_pos h2, if_pos h2]
  rw [if_neg h2, if_neg h2]
  by_cases h3 : c < 36
  · rw [if_pos h3, if_neg (show ¬ j = 4 + (c - 1) / 7 by omega), if_neg (show ¬ j = 9 + (c - 1) / 7 by omega)]
    by_cases h4 : j = 116
    · rw [if_pos h4, if_pos ⟨h4, h3⟩]
    · rw [if_neg h4, if_neg (fun h => h4 h.1), if_neg (fun h => h.2 h3)]
  · rw [if_neg h3, if_neg (show ¬ j = 1 + (c - 36) / 7 by omega), if_neg (show ¬ (j = 116 ∧ c < 36) from fun h => h3 h.2)]
    by_cases h4 : j = 117
    · rw [if_pos h4, if_pos ⟨h4, h3⟩]
    · rw [if_neg h4, if_neg (fun h => h4 h.1)]
theorem uAa_lo (hc : 1 ≤ c ∧ c ≤ 56) {j : Int} (hj : j < 41) : uAa c r j = if c < 36 then (if j = 4 + (c - 1) / 7 then (c - 1) % 7 else if j = 9 + (c - 1) / 7 then 0 else r j) else (if j = 1 + (c - 36) / 7 then (c - 36) % 7 else r j) := by
  unfold uAa
  rw [if_neg (show ¬ j = 118 by omega), if_neg (show ¬ j = 115 by omega), if_neg (show ¬ j = 116 by omega), if_neg (show ¬ j = 117 by omega)]
/-- a row behind an act may be -/
theorem uRv_x (hn0 : 0 ≤ n ∧ n ≤ 5) (hr : uRv n r) (hc : 1 ≤ c ∧ c ≤ 56) : uRv n (uAa c r) := by
  have lo : ∀ j, j < 41 → uAa c r j = _ := fun j hj => uAa_lo hc hj
  obtain ⟨g1, g2, g3, g4, g5, g6⟩ := hr
  by_cases hs : c < 36
  · have e : ∀ j, j < 41 → uAa c r j = if j = 4 + (c - 1) / 7 then (c - 1) % 7 else if j = 9 + (c - 1) / 7 then 0 else r j := fun j hj => (lo j hj).trans (if_pos hs)
    have hm : 0 ≤ (c - 1) % 7 ∧ (c - 1) % 7 ≤ 6 := by omega
    have hx : 0 ≤ (c - 1) / 7 ∧ (c - 1) / 7 ≤ 4 := by omega
    clear lo
    generalize (c - 1) % 7 = rm at e hm
    generalize (c - 1) / 7 = x at e hx
    refine ⟨fun q q0 q1 => ?_, fun y y0 y1 => ?_, fun y y0 y1 => ?_, fun f y f0 f1 y0 y1 => ?_, fun f q f0 f1 q0 q1 => ?_, fun f y f0 f1 yn y0 y1 => ?_⟩
    · rw [e q (by omega), if_neg (by omega), if_neg (by omega)]
      exact g1 q q0 q1
    · rw [e _ (by omega)]
      have := g2 y y0 y1
      by_cases c1 : 4 + y = 4 + x
      · rw [if_pos c1]
        omega
      · rw [if_neg c1, if_neg (by omega)]
        exact this
    · rw [e _ (by omega), if_neg (by omega)]
      have := g3 y y0 y1
      by_cases c1 : 9 + y = 9 + x
      · rw [if_pos c1]
        omega
      · rw [if_neg c1]
        exact this
    · rw [e _ (by omega), if_neg (by omega), if_neg (by omega)]
      exact g4 f y f0 f1 y0 y1
    · rw [e _ (by omega), if_neg (by omega), if_neg (by omega)]
      exact g5 f q f0 f1 q0 q1
    · rw [e _ (by omega), if_neg (by omega), if_neg (by omega)]
      exact g6 f y f0 f1 yn y0 y1
  · have e : ∀ j, j < 41 → uAa c r j = if j = 1 + (c - 36) / 7 then (c - 36) % 7 else r j := fun j hj => (lo j hj).trans (if_neg hs)
    have hm : 0 ≤ (c - 36) % 7 ∧ (c - 36) % 7 ≤ 6 := by omega
    have hx : 0 ≤ (c - 36) / 7 ∧ (c - 36) / 7 ≤ 2 := by omega
    clear lo
    generalize (c - 36) % 7 = rm at e hm
    generalize (c - 36) / 7 = x at e hx
    refine ⟨fun q q0 q1 => ?_, fun y y0 y1 => ?_, fun y y0 y1 => ?_, fun f y f0 f1 y0 y1 => ?_, fun f q f0 f1 q0 q1 => ?_, fun f y f0 f1 yn y0 y1 => ?_⟩
    · rw [e q (by omega)]
      have := g1 q q0 q1
      split <;> omega
    · rw [e _ (by omega), if_neg (by omega)]
      exact g2 y y0 y1
    · rw [e _ (by omega), if_neg (by omega)]
      exact g3 y y0 y1
    · rw [e _ (by omega), if_neg (by omega)]
      exact g4 f y f0 f1 y0 y1
    · rw [e _ (by omega), if_neg (by omega)]
      exact g5 f q f0 f1 q0 q1
    · rw [e _ (by omega), if_neg (by omega)]
      exact g6 f y f0 f1 yn y0 y1
/-- canAct of the reference -/
theorem u217 (hA : xAr a) (hn : a 87 2 = n) (hn0 : 0 ≤ n ∧ n ≤ 5) (hdr : ∀ k, 0 ≤ k → k < 49 → a 90 k = dr k ∧ (dr k = 0 ∨ dr k = 1)) (hr : uRv n (a 88)) (hB114 : 0 ≤ a 88 114 ∧ a 88 114 ≤ 100) (hB115 : 0 ≤ a 88 115 ∧ a 88 115 ≤ 1) (hc : 0 ≤ c ∧ c ≤ 56) (hd : 3 ≤ d) (hT : uAc dr n c (a 88) → Q (some (xV 1)) (xS a b)) (hF : ¬ uAc dr n c (a 88) → Q (some (xV 0)) (xS a b)) : pmCs ro d 217 [.ref 87, xV c] (xS a b) Q := by
  refine pmCs_deep (d := 3) (xg217 (w217 hA hc hB114 hB115 (fun e1 e2 => hF (fun h => h.elim e1 (fun h => h.1 e2))) (fun e1 e2 e3 e4 => ?_) (fun e1 e2 e3 e4 => ?_) (fun e1 e2 e3 => hF (fun h => h.elim e1 (fun h => e3 h.2.1))) (fun e => hT (Or.inl e)))) hd
  · have yes : uAo dr n c (a 88) → Q (some (xV 1)) (xS a b) := fun h => hT (Or.inr ⟨e2, e3, h⟩)
    have no : ¬ uAo dr n c (a 88) → Q (some (xV 0)) (xS a b) := fun h => hF (fun g => g.elim e1 (fun g => h g.2.2))
    rw [uAo_h (by omega)] at yes no
    have hp : 1 ≤ 1 + (c - 36) / 7 ∧ 1 + (c - 36) / 7 ≤ 3 := by omega
    have hm : 0 ≤ (c - 36) % 7 ∧ (c - 36) % 7 ≤ 6 := by omega
    generalize 1 + (c - 36) / 7 = p at yes no hp ⊢
    generalize (c - 36) % 7 = rm at yes no hm ⊢
    have hrp := hr.1 p (by omega) (by omega)
    obtain ⟨rp, erp⟩ : ∃ z, a 88 p = z := ⟨_, rfl⟩
    rw [erp] at yes no hrp
    have t : ∀ z, (z = 0 ∨ z = 1) → Q (some (xV z)) (xS a b) → pmWp ro 2 12 217 2 73 [some (.ref 87), some (xV c)] [xV z] (xS a b) Q := fun z hz h => w217b hz h
    refine pmCs_deep (d := 2) (xg219 (w219 hA hp hm (by rw [Int.zero_add]; exact erp) erp hrp (by decide) ?_ ?_ ?_ ?_ ?_ ?_ ?_ ?_)) (by decide)
    · intro _ h1 _ h2 h3 h4
      exact t 0 (by decide) (no (fun h => h.2.2.elim h3 (fun h => h.1 h4)))
    · intro _ h1 _ h2 h3 h4 h5
      exact t 0 (by decide) (no (fun h => h.2.2.elim h3 (fun h => h.2 h5)))
    · intro _ h1 _ h2 h3 h4 h5
      refine t 1 (by decide) (yes ⟨by omega, ?_, Or.inr ⟨h4, h5⟩⟩)
      rw [← (hdr (7 * rp + rm) (by omega) (by omega)).1]
      exact h2
    · intro _ h1 _ h2 h3
      refine t 1 (by decide) (yes ⟨by omega, ?_, Or.inl h3⟩)
      rw [← (hdr (7 * rp + rm) (by omega) (by omega)).1]
      exact h2
    · intro _ h1 _ h2
      refine t 0 (by decide) (no (fun h => h.2.1 ?_))
      rw [← (hdr (7 * rp + rm) (by omega) (by omega)).1]
      exact h2
    · intro _ _ h
      exact absurd ⟨hm.1, by omega⟩ h
    · intro _ h1
      exact t 0 (by decide) (no (fun h => h.1 (by omega)))
    · intro h
      exact absurd ⟨hp.1, by omega⟩ h
  · have yes : uAo dr n c (a 88) → Q (some (xV 1)) (xS a b) := fun h => hT (Or.inr ⟨e2, e3, h⟩)
    have no : ¬ uAo dr n c (a 88) → Q (some (xV 0)) (xS a b) := fun h => hF (fun g => g.elim e1 (fun g => h g.2.2))
    rw [uAo_s (by omega)] at yes no
    have hx : 0 ≤ (c - 1) / 7 ∧ (c - 1) / 7 ≤ 4 := by omega
    have hm : 0 ≤ (c - 1) % 7 ∧ (c - 1) % 7 ≤ 6 := by omega
    generalize (c - 1) / 7 = x at yes no hx ⊢
    generalize (c - 1) % 7 = rm at yes no hm ⊢
    have hst := hr.2.2.1 x hx.1 (by omega)
    have t : ∀ z, (z = 0 ∨ z = 1) → Q (some (xV z)) (xS a b) → pmWp ro 2 12 217 2 50 [some (.ref 87), some (xV c)] [xV z] (xS a b) Q := fun z hz h => w217a hz h
    refine pmCs_deep (d := 2) (xg218 (w218 hA hn hn0 hx hm hst (by decide) ?_ ?_ ?_ ?_ ?_)) (by decide)
    · intro _ _ h
      exact t 0 (by decide) (no (fun g => h g.1.2.1))
    · intro h1 _ h2 h3
      have loop : ∀ (m : Nat) (q : Int), q + (m : Int) = 4 → 0 ≤ q → (∀ p, 0 ≤ p → p < q → ¬ a 88 p = rm) → pmWp ro 1 12 218 2 48 [some (.ref 87), some (xV x), some (xV rm), some (xV q)] [] (xS a b) (fun r' s' => pmWp ro 2 12 217 2 50 [some (.ref 87), some (xV c)] (r'.toList ++ []) s' Q) := by
        intro m
        induction m with
        | zero =>
          intro q hq q0 g
          exact w218p hA hm ⟨q0, by omega⟩ (by decide) (fun _ => t 1 (by decide) (yes ⟨⟨h1.2, h2, h3⟩, fun p p0 p1 => g p p0 (by omega)⟩)) (fun e => absurd (by omega) e) (fun e => absurd (by omega) e)
        | succ m ih =>
          intro q hq q0 g
          refine w218p hA hm ⟨q0, by omega⟩ (by decide) (fun e => absurd e (by omega)) (fun _ e => t 0 (by decide) (no (fun h => h.2 q q0 (by omega) e.2))) (fun _ e => ih (q + 1) (by omega) (by omega) (fun p p0 p1 => ?_))
          by_cases cp : p = q
          · rw [cp]
            exact fun h => e ⟨⟨q0, by omega⟩, h⟩
          · exact g p p0 (by omega)
      exact loop 4 0 (by decide) (by decide) (fun p p0 p1 => absurd p1 (by omega))
    · intro _ _ _ h
      exact t 0 (by decide) (no (fun g => g.1.2.2 h))
    · intro _ h
      exact absurd ⟨hm.1, by omega⟩ h
    · intro h
      exact t 0 (by decide) (no (fun g => h ⟨hx.1, g.1.1⟩))
/-- acts of the reference -/
theorem u221 (hA : xAr a) (hn : a 87 2 = n) (hn0 : 0 ≤ n ∧ n ≤ 5) (hr : uRv n (a 88)) (h116 : 0 ≤ a 88 116 ∧ a 88 116 ≤ 1000) (h117 : 0 ≤ a 88 117 ∧ a 88 117 ≤ 1000) (h118 : 0 ≤ a 88 118 ∧ a 88 118 ≤ 1000000) (hc : 0 ≤ c ∧ c ≤ 56) (hd : 4 ≤ d) (hQ : ∀ a', (∀ q j, q ≠ 88 → a' q j = a q j) → xAr a' → a' 88 = uAx n c (a 88) → Q none (xS a' b)) : pmCs ro d 221 [.ref 87, xV c] (xS a b) Q := by
  have fin : ∀ a1, c ≠ 0 → (∀ q j, q ≠ 88 → a1 q j = a q j) → xAr a1 → a1 88 = uAa c (a 88) → pmCs ro 3 174 [.ref 87] (xS a1 b) (fun r' s' => pmWp ro 3 12 221 0 115 [some (.ref 87), some (xV c)] (r'.toList ++ []) s' Q) := by
    intro a1 c0 x1 A1 R1
    refine u174 A1 ((x1 87 2 (by decide)).trans hn) hn0 (by rw [R1]; exact uRv_x hn0 hr ⟨by omega, hc.2⟩) (by decide) (fun a2 x2 A2 R2 => w221r (hQ a2 (fun q j e => (x2 q j e).trans (x1 q j e)) A2 ?_))
    unfold uAx
    rw [if_neg c0, R2, R1]
  refine pmCs_deep (d := 4) (xg221 (w221 hc (by decide) (fun e1 e2 => fin _ e1 (fun q j h => ?_) ?_ ?_) (fun e1 e2 => fin _ e1 (fun q j h => ?_) ?_ ?_) (fun e => hQ a (fun _ _ _ => rfl) hA ?_))) hd
  · rw [xUn h, xUn h, xUn h, xUn h]
  · have hpb := uPr_b (c := c) h116 h117
    exact xAr_u (xAr_u (xAr_u (xAr_u hA ⟨by omega, by omega⟩) ⟨by decide, by decide⟩) ⟨by omega, by omega⟩) ⟨by omega, by omega⟩
  · funext j
    rw [xU_row, xU_row, xU_row, xU_row]
    unfold uAa
    dsimp only
    rw [if_neg (show ¬ c < 36 by omega)]
    by_cases c1 : j = 1 + (c - 36) / 7
    · rw [if_pos c1, if_neg (by omega), if_neg (by omega), if_pos c1]
    · rw [if_neg c1, if_neg c1]
      by_cases c2 : j = 117
      · rw [if_pos c2, if_neg (by omega), if_neg (by omega), if_pos c2]
      · rw [if_neg c2, if_neg c2]
        by_cases c3 : j = 115
        · rw [if_pos c3, if_neg (by omega), if_pos c3]
        · rw [if_neg c3, if_neg c3]
  · rw [xUn h, xUn h, xUn h, xUn h, xUn h]
  · have hpb := uPr_b (c := c) h116 h117
    exact xAr_u (xAr_u (xAr_u (xAr_u (xAr_u hA ⟨by omega, by omega⟩) ⟨by decide, by decide⟩) ⟨by omega, by omega⟩) ⟨by omega, by omega⟩) xR0
  · funext j
    rw [xU_row, xU_row, xU_row, xU_row, xU_row]
    unfold uAa
    dsimp only
    rw [if_pos (show c < 36 by omega)]
    by_cases c1 : j = 9 + (c - 1) / 7
    · rw [if_pos c1, if_neg (by omega), if_neg (by omega), if_neg (by omega), if_pos c1]
    · rw [if_neg c1, if_neg c1]
      by_cases c4 : j = 4 + (c - 1) / 7
      · rw [if_pos c4, if_neg (by omega), if_neg (by omega), if_pos c4]
      · rw [if_neg c4, if_neg c4]
        by_cases c2 : j = 116
        · rw [if_pos c2, if_neg (by omega), if_neg (by omega), if_pos c2]
        · rw [if_neg c2, if_neg c2]
          by_cases c3 : j = 115
          · rw [if_pos c3, if_neg (by omega), if_pos c3]
          · rw [if_neg c3, if_neg c3]
  · unfold uAx
    rw [if_pos e]
/-- lays, takesUp -/
def uLa (s : Int) (a : xA) : xA := fun q j => if q = 89 ∧ 120 * s ≤ j ∧ j < 120 * s + 120 then a 88 (j - 120 * s) else a q j
theorem u181 {s : Int} (hs : 0 ≤ s ∧ s ≤ 9) (hd : 1 ≤ d) (hQ : Q none (xS (uLa s a) b)) : pmCs ro d 181 [.ref 87, xV s] (xS a b) Q := by
  refine pmCs_deep (d := 1) (xg181 (w181 ?_)) hd
  have loop : ∀ (m : Nat) (k : Int) (a1 : xA), k + (m : Int) = 120 → 0 ≤ k → (a1 = fun q j => if q = 89 ∧ 120 * s ≤ j ∧ j < 120 * s + k then a 88 (j - 120 * s) else a q j) → pmWp ro 0 12 181 0 2 [some (.ref 87), some (xV s), some (xV k)] [] (xS a1 b) Q := by
    intro m
    induction m with
    | zero =>
      intro k a1 hk k0 e
      refine w181k hs ⟨k0, by omega⟩ (fun _ => ?_) (fun h => absurd (by omega) h)
      rw [e, show k = 120 by omega]
      exact hQ
    | succ m ih =>
      intro k a1 hk k0 e
      refine w181k hs ⟨k0, by omega⟩ (fun h => absurd h (by omega)) (fun _ => ih (k + 1) _ (by omega) (by omega) ?_)
      funext q j
      have e88 : a1 88 k = a 88 k := by
        rw [e]
        exact if_neg (fun h => absurd h.1 (by decide))
      by_cases c1 : q = 89 ∧ j = 120 * s + k
      · rw [c1.1, c1.2, xUa, e88]
        rw [if_pos ⟨rfl, by omega, by omega⟩, show 120 * s + k - 120 * s = k by omega]
      · rw [xUo c1, e]
        exact uIfP ⟨fun h => ⟨h.1, h.2.1, by omega⟩, fun h => ⟨h.1, h.2.1, by
          have : ¬ j = 120 * s + k := fun g => c1 ⟨h.1, g⟩
          omega⟩⟩ (fun _ => rfl) (fun _ => rfl)
  refine loop 120 0 a (by decide) (by decide) ?_
  funext q j
  exact (if_neg (fun h => by omega)).symm
def uTa (s : Int) (a : xA) : xA := fun q j => if q = 88 ∧ 0 ≤ j ∧ j < 120 then a 89 (120 * s + j) else a q j
theorem u227 {s : Int} (hs : 0 ≤ s ∧ s ≤ 9) (hd : 1 ≤ d) (hQ : Q none (xS (uTa s a) b)) : pmCs ro d 227 [.ref 87, xV s] (xS a b) Q := by
  refine pmCs_deep (d := 1) (xg227 (w227 ?_)) hd
  have loop : ∀ (m : Nat) (k : Int) (a1 : xA), k + (m : Int) = 120 → 0 ≤ k → (a1 = fun q j => if q = 88 ∧ 0 ≤ j ∧ j < k then a 89 (120 * s + j) else a q j) → pmWp ro 0 12 227 0 2 [some (.ref 87), some (xV s), some (xV k)] [] (xS a1 b) Q := by
    intro m
    induction m with
    | zero =>
      intro k a1 hk k0 e
      refine w227k hs ⟨k0, by omega⟩ (fun _ => ?_) (fun h => absurd (by omega) h)
      rw [e, show k = 120 by omega]
      exact hQ
    | succ m ih =>
      intro k a1 hk k0 e
      refine w227k hs ⟨k0, by omega⟩ (fun h => absurd h (by omega)) (fun _ => ih (k + 1) _ (by omega) (by omega) ?_)
      funext q j
      have e89 : a1 89 (120 * s + k) = a 89 (120 * s + k) := by
        rw [e]
        exact if_neg (fun h => absurd h.1 (by decide))
      by_cases c1 : q = 88 ∧ j = k
      · rw [c1.1, c1.2, xUa, e89]
        rw [if_pos ⟨rfl, by omega, by omega⟩]
      · rw [xUo c1, e]
        exact uIfP ⟨fun h => ⟨h.1, h.2.1, by omega⟩, fun h => ⟨h.1, h.2.1, by
          have : ¬ j = k := fun g => c1 ⟨h.1, g⟩
          omega⟩⟩ (fun _ => rfl) (fun _ => rfl)
  refine loop 120 0 a (by decide) (by decide) ?_
  funext q j
  exact (if_neg (fun h => by omega)).symm
end
end
end
section
/-! acts of the class, by rows -/
section
set_option maxRecDepth 100000


section
variable {ro : Nat → Nat × (Nat → Int32)} {d w : Nat} {Q : Option Value → pmS → Prop} {dr wp co pr cnt W : Int → Int} {T : Int → List Int} {n c p k x v : Int} {r r' : Int → Int} {a a' a0 : xA} {b b' : xB}
/-- a world of the class's by the row, all of it but the laws -/
def uCx (n : Int) (w : Nat) (r : Int → Int) (a : xA) (b : xB) : Prop := uCw n w r a b ∧ a w 6 = r 114 ∧ a w 12 = r 115 ∧ a w 8 = r 116 ∧ a w 9 = r 117 ∧ a w 10 = r 118
/-- numbers of a row -/
def uBd (r : Int → Int) : Prop := (0 ≤ r 114 ∧ r 114 ≤ 200) ∧ (0 ≤ r 115 ∧ r 115 ≤ 1) ∧ (0 ≤ r 116 ∧ r 116 ≤ 400) ∧ (0 ≤ r 117 ∧ r 117 ≤ 400) ∧ (0 ≤ r 118 ∧ r 118 ≤ 800000) ∧ 0 ≤ r 119 ∧ r 119 ≤ 1600
/-- the class's number of an act -/
def uAn (c : Int) : Int := if c = 0 then 0 else if c < 36 then 64 + 8 * ((c - 1) / 7) + (c - 1) % 7 else 128 + 8 * (1 + (c - 36) / 7) + (c - 36) % 7
theorem uAn_s (h : 1 ≤ c ∧ c < 36) : (0 ≤ uAn c ∧ uAn c ≤ 511) ∧ uAn c / 64 = 1 ∧ uAn c / 8 % 8 = (c - 1) / 7 ∧ uAn c % 8 = (c - 1) % 7 := by
  unfold uAn
  rw [if_neg (by omega), if_pos h.2]
  omega
theorem uAn_h (h : 36 ≤ c ∧ c ≤ 56) : (0 ≤ uAn c ∧ uAn c ≤ 511) ∧ uAn c / 64 = 2 ∧ uAn c / 8 % 8 = 1 + (c - 36) / 7 ∧ uAn c % 8 = (c - 36) % 7 := by
  unfold uAn
  rw [if_neg (by omega), if_neg (by omega)]
  omega
theorem uPc_n (hc : 0 ≤ c ∧ c ≤ 56) (h8 : a w 8 = r 116) (h9 : a w 9 = r 117) : uPc (uAn c) (a w 8) (a w 9) = uPr c r := by
  unfold uPc uPr
  rw [h8, h9]
  by_cases c0 : c = 0
  · rw [c0]
    rfl
  rw [if_neg c0]
  by_cases cs : c < 36
  · obtain ⟨g1, g2, g3, g4⟩ := uAn_s ⟨by omega, cs⟩
    rw [if_neg (show ¬ uAn c = 0 by omega), if_pos g2, if_pos cs]
  · obtain ⟨g1, g2, g3, g4⟩ := uAn_h ⟨by omega, hc.2⟩
    rw [if_neg (show ¬ uAn c = 0 by omega), if_neg (show ¬ uAn c / 64 = 1 by omega), if_neg cs]
/-- priceOf of the class -/
theorem u103 (hz : uWz w) (hA : xAr a) (hX : uCx n w r a b) (hB : uBd r) (hc : 0 ≤ c ∧ c ≤ 56) (hd : 1 ≤ d) (hQ : Q (some (xV (uPr c r))) (xS a b)) : pmCs ro d 103 [.ref 45, .ref w, xV (uAn c)] (xS a b) Q := by
  obtain ⟨hW, e6, e12, e8, e9, e10⟩ := hX
  obtain ⟨b1, b2, b3, b4, b5, b6⟩ := hB
  have hn : 0 ≤ uAn c ∧ uAn c ≤ 511 := by
    by_cases c0 : c = 0
    · rw [c0]
      decide
    by_cases cs : c < 36
    · exact (uAn_s ⟨by omega, cs⟩).1
    · exact (uAn_h ⟨by omega, hc.2⟩).1
  refine rk103 hd hz hn hA (by omega) (by omega) (by omega) (by omega) (by omega) ?_
  rw [uPc_n hc e8 e9]
  exact hQ
/-- canAct of the class -/
theorem u102 (hz : uWz w) (hA : xAr a) (hKs : uKs dr wp n a b) (hX : uCx n w r a b) (hB : uBd r) (hc : 1 ≤ c ∧ c ≤ 56) (hd : 3 ≤ d) (hT : uAc dr n c r → Q (some (xV 1)) (xS a b)) (hF : ¬ uAc dr n c r → Q (some (xV 0)) (xS a b)) : pmCs ro d 102 [.ref 45, .ref w, xV (uAn c)] (xS a b) Q := by
  obtain ⟨hW, e6, e12, e8, e9, e10⟩ := hX
  obtain ⟨b1, b2, b3, b4, b5, b6⟩ := hB
  obtain ⟨hr, hTr, hM, hO, hKh, hmk, e11⟩ := hW
  have hn : 0 ≤ uAn c ∧ uAn c ≤ 511 := by
    by_cases cs : c < 36
    · exact (uAn_s ⟨hc.1, cs⟩).1
    · exact (uAn_h ⟨by omega, hc.2⟩).1
  have sl : ∀ p, 0 ≤ p → p < 4 → uSl (b w 4) p = r p + 1 := fun p p0 p1 => (hTr.1 p p0 (by omega)).trans (uWs_p p1)
  refine pmCs_deep (d := 3) (xg102 (w102 hz hn hA (by omega) (by omega) (by omega) (by omega) (by omega) (by decide) (fun h => hF (fun g => ?_)) (fun _ h => hF (fun g => ?_)) (fun h1 h2 h3 => ?_) (fun _ _ h => ?_))) hd
  · exact g.elim (fun g => by omega) (fun g => g.1 (by omega))
  · exact g.elim (fun g => by omega) (fun g => h (by omega))
  · by_cases cs : c < 36
    · obtain ⟨g1, g2, g3, g4⟩ := uAn_s ⟨hc.1, cs⟩
      have yes : uAo dr n c r → Q (some (xV 1)) (xS a b) := fun h => hT (Or.inr ⟨by omega, by omega, h⟩)
      have no : ¬ uAo dr n c r → Q (some (xV 0)) (xS a b) := fun h => hF (fun g => g.elim (fun g => by omega) (fun g => h g.2.2))
      rw [uAo_s cs] at yes no
      have hx : 0 ≤ (c - 1) / 7 ∧ (c - 1) / 7 ≤ 4 := by omega
      have hm : 0 ≤ (c - 1) % 7 ∧ (c - 1) % 7 ≤ 6 := by omega
      rw [g3, g4]
      generalize (c - 1) / 7 = x at yes no hx ⊢
      generalize (c - 1) % 7 = rm at yes no hm ⊢
      have loop : ∀ (m : Nat) (q g : Int), q + (m : Int) = 4 → 0 ≤ q → (g = 0 ∨ g = 1) → (g = 1 → (x < n ∧ r (4 + x) = 20 ∧ ¬ r (9 + x) / ((2 ^ rm.toNat : Nat) : Int) % 2 = 0) ∧ ∀ p, 0 ≤ p → p < q → ¬ r p = rm) → (g = 0 → ¬ ((x < n ∧ r (4 + x) = 20 ∧ ¬ r (9 + x) / ((2 ^ rm.toNat : Nat) : Int) % 2 = 0) ∧ ∀ p, 0 ≤ p → p < 4 → ¬ r p = rm)) → pmWp ro 2 7 102 2 87 [some (.ref 45), some (.ref w), some (xV (uAn c)), some (xV x), some (xV rm), some (xV g), some (xV q)] [] (xS a b) Q := by
        intro m
        induction m with
        | zero =>
          intro q g hq q0 hg f1 f0
          have e4 : q = 4 := by omega
          subst e4
          refine w102q hz hm hg (by decide) (by decide) (fun _ => ?_) (fun e => absurd (by decide) e) (fun e => absurd (by decide) e)
          rcases hg with h | h
          · rw [h]
            exact no (f0 h)
          · rw [h]
            exact yes (f1 h)
        | succ m ih =>
          intro q g hq q0 hg f1 f0
          have eq := sl q q0 (by omega)
          refine w102q hz hm hg ⟨q0, by omega⟩ (by decide) (fun e => absurd e (by omega)) (fun _ e => ?_) (fun _ e => ?_)
          · have ez : xAnd g 0 = 0 := by rcases hg with h | h <;> rw [h] <;> decide
            rw [ez]
            exact ih (q + 1) 0 (by omega) (by omega) (by decide) (fun h => absurd h (by decide)) (fun _ h => h.2 q q0 (by omega) (by omega))
          · have ez : g % 2 = g := by omega
            rw [ez]
            refine ih (q + 1) g (by omega) (by omega) hg (fun h => ⟨(f1 h).1, fun p p0 p1 => ?_⟩) f0
            by_cases cp : p = q
            · rw [cp]
              omega
            · exact (f1 h).2 p p0 (by omega)
      have st0 : ¬ (x < n ∧ r (4 + x) = 20 ∧ ¬ r (9 + x) / ((2 ^ rm.toNat : Nat) : Int) % 2 = 0) → pmWp ro 2 7 102 2 87 [some (.ref 45), some (.ref w), some (xV (uAn c)), some (xV x), some (xV rm), some (xV 0), some (xV 0)] [] (xS a b) Q := fun h => loop 4 0 0 (by decide) (by decide) (by decide) (fun h => absurd h (by decide)) (fun _ g => h g.1)
      have hwx := uWs_x hr hx.1 (by omega)
      have ex := hTr.1 (4 + x) (by omega) (by omega)
      refine w102s hz hn ⟨hx.1, by omega⟩ hm (by decide) (fun e => absurd g2 e) (fun e => absurd g2 e) (fun e => absurd g2 e) (fun e => absurd g2 e) (fun e => absurd g2 e) (fun e => absurd g2 e) (fun e => absurd g2 e) (fun _ e => absurd e (by omega)) (fun _ _ e => st0 (fun h => ?_)) (fun _ _ e1 e2 => st0 (fun h => ?_)) (fun _ _ e1 e2 => ?_)
      · omega
      · rw [hTr.2.2 x hx.1 h.1 h.2.1] at e2
        exact h.2.2 e2
      · have h20 : x < n ∧ r (4 + x) = 20 := by omega
        rw [hTr.2.2 x hx.1 h20.1 h20.2] at e2
        exact loop 4 0 1 (by decide) (by decide) (by decide) (fun _ => ⟨⟨h20.1, h20.2, e2⟩, fun p p0 p1 => absurd p1 (by omega)⟩) (fun h => absurd h (by decide))
    · obtain ⟨g1, g2, g3, g4⟩ := uAn_h ⟨by omega, hc.2⟩
      have yes : uAo dr n c r → Q (some (xV 1)) (xS a b) := fun h => hT (Or.inr ⟨by omega, by omega, h⟩)
      have no : ¬ uAo dr n c r → Q (some (xV 0)) (xS a b) := fun h => hF (fun g => g.elim (fun g => by omega) (fun g => h g.2.2))
      rw [uAo_h cs] at yes no
      have hp : 1 ≤ 1 + (c - 36) / 7 ∧ 1 + (c - 36) / 7 ≤ 3 := by omega
      have hm : 0 ≤ (c - 36) % 7 ∧ (c - 36) % 7 ≤ 6 := by omega
      rw [g3, g4]
      generalize 1 + (c - 36) / 7 = p at yes no hp ⊢
      generalize (c - 36) % 7 = rm at yes no hm ⊢
      have hrp := hr.1 p (by omega) (by omega)
      have ep := sl p (by omega) (by omega)
      have e0 := sl 0 (by decide) (by decide)
      have n1 : ¬ uAn c / 64 = 1 := by omega
      have edr : uSl (b w 4) p - 1 = r p := by omega
      refine w102s hz hn ⟨by omega, by omega⟩ hm (by decide) (fun _ _ e => absurd e (by omega)) (fun _ _ _ e => no (fun h => h.1 (by omega))) (fun _ _ _ e1 e2 e3 => no (fun h => ?_)) (fun _ _ _ e1 e2 e3 e4 => no (fun h => ?_)) (fun _ _ _ e1 e2 e3 e4 => yes ⟨by omega, ?_, ?_⟩) (fun _ _ _ e1 e2 => no (fun h => h.2.1 ?_)) (fun _ e => absurd ⟨hp.1, by omega⟩ e) (fun e => absurd e n1) (fun e => absurd e n1) (fun e => absurd e n1) (fun e => absurd e n1)
      · exact h.2.2.elim (fun g => by omega) (fun g => g.2 (by omega))
      · exact h.2.2.elim (fun g => by omega) (fun g => g.1 (by omega))
      · rw [edr] at e2
        exact (hKs.1 (7 * r p + rm) (by omega) (by omega)).mp e2
      · omega
      · rw [edr] at e2
        refine Classical.byContradiction (fun hn => ?_)
        rw [(hKs.1 (7 * r p + rm) (by omega) (by omega)).mpr hn] at e2
        exact absurd e2 (by decide)
  · exfalso
    by_cases cs : c < 36
    · have := (uAn_s ⟨hc.1, cs⟩).2.2.2
      omega
    · have := (uAn_h ⟨by omega, hc.2⟩).2.2.2
      omega
/-- what an act leaves alone in the class -/
def uXf (w : Nat) (a a' : xA) (b b' : xB) : Prop := (∀ q j, ¬ q = w + 4 → ¬ (q = w ∧ (j = 8 ∨ j = 9 ∨ j = 10 ∨ j = 12)) → a' q j = a q j) ∧ ∀ q j, ¬ (q = w ∧ (j = 4 ∨ j = 5)) → ¬ (q = w + 1 ∧ 1 ≤ j ∧ j ≤ 3) → b' q j = b q j
/-- act of the class -/
theorem u104 (hz : uWz w) (hA : xAr a) (hn0 : 0 ≤ n ∧ n ≤ 5) (hX : uCx n w r a b) (hB : uBd r) (hc : 1 ≤ c ∧ c ≤ 56) (hcan : uAo dr n c r) (hd : 4 ≤ d) (hQ : ∀ a' b', uXf w a a' b b' → xAr a' → uCx n w (uAx n c r) a' b' → (∀ j, 0 ≤ j → j < 3 → a' (w + 4) j = 0) → Q none (xS a' b')) : pmCs ro d 104 [.ref 45, .ref w, xV (uAn c)] (xS a b) Q := by
  obtain ⟨hW, e6, e12, e8, e9, e10⟩ := hX
  obtain ⟨hr, hTr, hM, hO, hKh, hmk, e11⟩ := hW
  have hB0 := hB
  obtain ⟨b1, b2, b3, b4, b5, b6⟩ := hB
  have hn : 0 ≤ uAn c ∧ uAn c ≤ 511 := by
    by_cases cs : c < 36
    · exact (uAn_s ⟨hc.1, cs⟩).1
    · exact (uAn_h ⟨by omega, hc.2⟩).1
  have epc : uPc (uAn c) (a w 8) (a w 9) = uPr c r := uPc_n (by omega) e8 e9
  have hpb := uPr_b (c := c) (r := r) (by omega) (by omega)
  have vx := uRv_x hn0 hr hc
  have hi : ∀ j, 41 ≤ j → uAx n c r j = uAa c r j := fun j hj => by
    unfold uAx
    rw [if_neg (by omega)]
    exact uAl_hi hn0.2 vx hj
  have fin : ∀ (A : xA) (B : xB), (∀ q j, ¬ q = w + 4 → ¬ (q = w ∧ (j = 8 ∨ j = 9 ∨ j = 10 ∨ j = 12)) → A q j = a q j) → xAr A → (A w 8 = uAa c r 116 ∧ A w 9 = uAa c r 117 ∧ A w 10 = uAa c r 118 ∧ A w 12 = 1) → (∀ j, 0 ≤ j → j < 3 → A (w + 4) j = 0) → (∀ q j, ¬ (q = w ∧ j = 4) → B q j = b q j) → uRt n w (uAa c r) B → ∀ pl, pmCs ro 3 59 [.ref 43, .ref w] (xS A B) (fun r' s' => pmWp ro 3 7 104 0 108 [some (.ref 45), some (.ref w), some (xV (uAn c)), some (xV (uAn c / 8 % 8)), some (xV pl)] (r'.toList ++ []) s' Q) := by
    intro A B x1 A1 e1 e2 x2 T1 pl
    have M1 : uRm n w (uAa c r) B := fun f f0 f1 => uRf_c (hM f f0 f1) (fun j j0 j1 => by
      rw [uAa_lo hc (by omega)]
      split
      · rw [if_neg (by omega), if_neg (by omega)]
      · rw [if_neg (by omega)]) (x2 _ _ (by omega))
    refine u59 hz hn0 vx T1 M1 (by decide) (fun B2 y2 T2 M2 O2 => w104r (hQ A B2 ⟨x1, fun q j h1 h2 => (y2 q j h1 h2).trans (x2 q j (fun h => h1 ⟨h.1, Or.inl h.2⟩))⟩ A1 ?_ e2))
    have ex : uAx n c r = uAl n (uAa c r) := by
      unfold uAx
      rw [if_neg (by omega)]
    have q6 : A w 6 = a w 6 := x1 w 6 (by omega) (by omega)
    have q11 : A w 11 = a w 11 := x1 w 11 (by omega) (by omega)
    refine ⟨⟨?_, ?_, ?_, ?_, ?_, fun c c0 c1 => ?_, ?_⟩, ?_, ?_, ?_, ?_, ?_⟩
    · rw [ex]
      exact uRv_l hn0.2 vx
    · rw [ex]
      exact T2
    · rw [ex]
      exact M2
    · rw [ex]
      exact O2
    · rw [ex]
      exact uKh_l hn0.2
    · rw [x1 (w + 2) c (by omega) (by omega)]
      exact hmk c c0 c1
    · rw [q11, hi 119 (by decide), uAa_hi hc (by decide), e11]
      rfl
    · rw [q6, hi 114 (by decide), uAa_hi hc (by decide), e6]
      rfl
    · rw [e1.2.2.2, hi 115 (by decide), uAa_hi hc (by decide)]
      rfl
    · rw [e1.1, hi 116 (by decide)]
    · rw [e1.2.1, hi 117 (by decide)]
    · rw [e1.2.2.1, hi 118 (by decide)]
  have e118 : uAa c r 118 = r 118 + uPr c r := by
    rw [uAa_hi hc (by decide)]
    rfl
  refine pmCs_deep (d := 4) (xg104 (w104 hz hn hA (by omega) (by omega) (by omega) (by omega) (by omega) (by decide) (fun h1 => ?_) (fun h1 => ?_))) hd
  all_goals rw [epc]
  · have cs : ¬ c < 36 := fun cs => h1 (uAn_s ⟨hc.1, cs⟩).2.1
    obtain ⟨g1, g2, g3, g4⟩ := uAn_h ⟨by omega, hc.2⟩
    rw [uAo_h cs] at hcan
    have e116 : uAa c r 116 = r 116 := by
      rw [uAa_hi hc (by decide), if_neg (by decide), if_neg (by decide), if_neg (fun h => cs h.2), if_neg (by omega)]
    have e117 : uAa c r 117 = r 117 + 1 := by
      rw [uAa_hi hc (by decide), if_neg (by decide), if_neg (by decide), if_neg (by omega), if_pos ⟨rfl, cs⟩]
    refine fin _ _ (fun q j f1 f2 => ?_) ?_ ⟨?_, ?_, ?_, ?_⟩ (fun j j0 j1 => ?_) (fun q j f => xUo f) ?_ _
    · unfold uFg
      rw [xUn f1, xUn f1, xUn f1, xUo (fun h => f2 ⟨h.1, by omega⟩), xUo (fun h => f2 ⟨h.1, by omega⟩), xUo (fun h => f2 ⟨h.1, by omega⟩)]
    · unfold uFg
      exact xAr_u (xAr_u (xAr_u (xAr_u (xAr_u (xAr_u hA ⟨by omega, by omega⟩) ⟨by omega, by omega⟩) ⟨by decide, by decide⟩) xR0) xR0) xR0
    · unfold uFg
      rw [xUn (by omega), xUn (by omega), xUn (by omega), xUk (by decide), xUk (by decide), xUk (by decide), e116]
      exact e8
    · unfold uFg
      rw [xUn (by omega), xUn (by omega), xUn (by omega), xUk (by decide), xUa, e117, e9]
    · unfold uFg
      rw [xUn (by omega), xUn (by omega), xUn (by omega), xUk (by decide), xUk (by decide), xUa, e118, e10]
    · unfold uFg
      rw [xUn (by omega), xUn (by omega), xUn (by omega), xUa]
    · unfold uFg
      by_cases j2 : j = 2
      · rw [j2, xUa]
      · rw [xUk j2]
        by_cases j1 : j = 1
        · rw [j1, xUa]
        · rw [xUk j1, show j = 0 by omega, xUa]
    · have lo : ∀ j, j < 41 → uAa c r j = if j = 1 + (c - 36) / 7 then (c - 36) % 7 else r j := fun j hj => (uAa_lo hc hj).trans (if_neg cs)
      have hp : 1 ≤ 1 + (c - 36) / 7 ∧ 1 + (c - 36) / 7 ≤ 3 := by omega
      have hm : 0 ≤ (c - 36) % 7 ∧ (c - 36) % 7 ≤ 6 := by omega
      rw [g3, g4]
      generalize 1 + (c - 36) / 7 = p at lo hp ⊢
      generalize (c - 36) % 7 = rm at lo hm ⊢
      have sl : ∀ j, 0 ≤ j → j < 16 → uSl ((xU b w 4 (xWith (b w 4) p (rm + 1))) w 4) j = if j = p then rm + 1 else uSl (b w 4) j := fun j j0 j1 => by
        rw [xUa]
        exact uWi (by omega) (by omega) (by omega) (by omega) j0 j1
      refine ⟨fun j j0 j1 => ?_, fun j j0 j1 => ?_, fun x x0 xn hx => ?_⟩
      · rw [sl j j0 (by omega)]
        by_cases cj : j = p
        · rw [if_pos cj, uWs_p (by omega), lo j (by omega), if_pos cj]
        · rw [if_neg cj, hTr.1 j j0 j1]
          refine (uWs_c ?_).symm
          rw [lo j (by omega), if_neg cj]
      · rw [sl j (by omega) j1, if_neg (by omega)]
        exact hTr.2.1 j j0 j1
      · rw [lo _ (by omega), if_neg (by omega)] at hx
        dsimp only
        rw [xUk (by decide), lo _ (by omega), if_neg (by omega)]
        exact hTr.2.2 x x0 xn hx
  · have cs : c < 36 := Classical.byContradiction (fun cs => by
      have := (uAn_h ⟨by omega, hc.2⟩).2.1
      omega)
    obtain ⟨g1, g2, g3, g4⟩ := uAn_s ⟨hc.1, cs⟩
    rw [uAo_s cs] at hcan
    have e116 : uAa c r 116 = r 116 + 1 := by
      rw [uAa_hi hc (by decide), if_neg (by decide), if_neg (by decide), if_pos ⟨rfl, cs⟩]
    have e117 : uAa c r 117 = r 117 := by
      rw [uAa_hi hc (by decide), if_neg (by decide), if_neg (by decide), if_neg (by omega), if_neg (fun h => h.2 cs)]
    refine fin _ _ (fun q j f1 f2 => ?_) ?_ ⟨?_, ?_, ?_, ?_⟩ (fun j j0 j1 => ?_) (fun q j f => xUo f) ?_ _
    · unfold uFg
      rw [xUn f1, xUn f1, xUn f1, xUo (fun h => f2 ⟨h.1, by omega⟩), xUo (fun h => f2 ⟨h.1, by omega⟩), xUo (fun h => f2 ⟨h.1, by omega⟩)]
    · unfold uFg
      exact xAr_u (xAr_u (xAr_u (xAr_u (xAr_u (xAr_u hA ⟨by omega, by omega⟩) ⟨by omega, by omega⟩) ⟨by decide, by decide⟩) xR0) xR0) xR0
    · unfold uFg
      rw [xUn (by omega), xUn (by omega), xUn (by omega), xUk (by decide), xUa, e116, e8]
    · unfold uFg
      rw [xUn (by omega), xUn (by omega), xUn (by omega), xUk (by decide), xUk (by decide), xUk (by decide), e117]
      exact e9
    · unfold uFg
      rw [xUn (by omega), xUn (by omega), xUn (by omega), xUk (by decide), xUk (by decide), xUa, e118, e10]
    · unfold uFg
      rw [xUn (by omega), xUn (by omega), xUn (by omega), xUa]
    · unfold uFg
      by_cases j2 : j = 2
      · rw [j2, xUa]
      · rw [xUk j2]
        by_cases j1 : j = 1
        · rw [j1, xUa]
        · rw [xUk j1, show j = 0 by omega, xUa]
    · have lo : ∀ j, j < 41 → uAa c r j = if j = 4 + (c - 1) / 7 then (c - 1) % 7 else if j = 9 + (c - 1) / 7 then 0 else r j := fun j hj => (uAa_lo hc hj).trans (if_pos cs)
      have hp : 0 ≤ (c - 1) / 7 ∧ (c - 1) / 7 ≤ 4 := by omega
      have hm : 0 ≤ (c - 1) % 7 ∧ (c - 1) % 7 ≤ 6 := by omega
      rw [g3, g4]
      generalize (c - 1) / 7 = x at lo hp hcan ⊢
      generalize (c - 1) % 7 = rm at lo hm hcan ⊢
      have hxn := hcan.1.1
      have sl : ∀ j, 0 ≤ j → j < 16 → uSl ((xU b w 4 (xWith (b w 4) (4 + x) (rm + 1))) w 4) j = if j = 4 + x then rm + 1 else uSl (b w 4) j := fun j j0 j1 => by
        rw [xUa]
        exact uWi (by omega) (by omega) (by omega) (by omega) j0 j1
      refine ⟨fun j j0 j1 => ?_, fun j j0 j1 => ?_, fun y y0 yn hy => ?_⟩
      · rw [sl j j0 (by omega)]
        by_cases cj : j = 4 + x
        · have el : uAa c r j = rm := by rw [lo j (by omega), if_pos cj]
          rw [if_pos cj, uWs_v el (by omega) (by omega) (by omega)]
        · rw [if_neg cj, hTr.1 j j0 j1]
          refine (uWs_c ?_).symm
          rw [lo j (by omega), if_neg cj, if_neg (by omega)]
      · rw [sl j (by omega) j1, if_neg (by omega)]
        exact hTr.2.1 j j0 j1
      · rw [lo _ (by omega)] at hy
        by_cases cy : y = x
        · rw [if_pos (by omega)] at hy
          omega
        · rw [if_neg (by omega), if_neg (by omega)] at hy
          dsimp only
          rw [xUk (by decide), lo _ (by omega), if_neg (by omega), if_neg (by omega)]
          exact hTr.2.2 y y0 yn hy
end
end
end
