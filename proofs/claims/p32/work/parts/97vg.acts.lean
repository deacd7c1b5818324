/-! exact: acts of the class -/
section
set_option maxRecDepth 100000
theorem xi102 : pmInf[102]? = some pmI_102 := rfl
theorem xi103 : pmInf[103]? = some pmI_103 := rfl
theorem xi104 : pmInf[104]? = some pmI_104 := rfl
theorem xc102_0 : pmCode 102 0 = some (.iload_n 2) ∧ 0 + 1 = 1 := ⟨rfl, rfl⟩
theorem xc102_1 : pmCode 102 1 = some (.iconst 3) ∧ 1 + 1 = 2 := ⟨rfl, rfl⟩
theorem xc102_2 : pmCode 102 2 = some .ishr ∧ 2 + 1 = 3 := ⟨rfl, rfl⟩
theorem xc102_3 : pmCode 102 3 = some (.bipush 7) ∧ 3 + 2 = 5 := ⟨rfl, rfl⟩
theorem xc102_5 : pmCode 102 5 = some .iand ∧ 5 + 1 = 6 := ⟨rfl, rfl⟩
theorem xc102_6 : pmCode 102 6 = some (.istore_n 3) ∧ 6 + 1 = 7 := ⟨rfl, rfl⟩
theorem xc102_7 : pmCode 102 7 = some (.iload_n 2) ∧ 7 + 1 = 8 := ⟨rfl, rfl⟩
theorem xc102_8 : pmCode 102 8 = some (.bipush 7) ∧ 8 + 2 = 10 := ⟨rfl, rfl⟩
theorem xc102_10 : pmCode 102 10 = some .iand ∧ 10 + 1 = 11 := ⟨rfl, rfl⟩
theorem xc102_11 : pmCode 102 11 = some (.istore 4) ∧ 11 + 2 = 13 := ⟨rfl, rfl⟩
theorem xc102_13 : pmCode 102 13 = some (.aload_n 1) ∧ 13 + 1 = 14 := ⟨rfl, rfl⟩
theorem xc102_14 : pmCode 102 14 = some (.getfield 33) ∧ 14 + 3 = 17 := ⟨rfl, rfl⟩
theorem xc102_17 : pmCode 102 17 = some (.ifCond .eq 17) ∧ ((17 : Nat) : Int) + 17 = ((34 : Nat) : Int) ∧ 17 + 3 = 20 := ⟨rfl, rfl, rfl⟩
theorem xc102_20 : pmCode 102 20 = some (.aload_n 1) ∧ 20 + 1 = 21 := ⟨rfl, rfl⟩
theorem xc102_21 : pmCode 102 21 = some (.getfield 37) ∧ 21 + 3 = 24 := ⟨rfl, rfl⟩
theorem xc102_24 : pmCode 102 24 = some (.ifCond .ne 10) ∧ ((24 : Nat) : Int) + 10 = ((34 : Nat) : Int) ∧ 24 + 3 = 27 := ⟨rfl, rfl, rfl⟩
theorem xc102_27 : pmCode 102 27 = some (.iload 4) ∧ 27 + 2 = 29 := ⟨rfl, rfl⟩
theorem xc102_29 : pmCode 102 29 = some (.bipush 7) ∧ 29 + 2 = 31 := ⟨rfl, rfl⟩
theorem xc102_31 : pmCode 102 31 = some (.if_icmp .lt 5) ∧ ((31 : Nat) : Int) + 5 = ((36 : Nat) : Int) ∧ 31 + 3 = 34 := ⟨rfl, rfl, rfl⟩
theorem xc102_34 : pmCode 102 34 = some (.iconst 0) ∧ 34 + 1 = 35 := ⟨rfl, rfl⟩
theorem xc102_35 : pmCode 102 35 = some .ireturn := rfl
theorem xc102_36 : pmCode 102 36 = some (.iload_n 2) ∧ 36 + 1 = 37 := ⟨rfl, rfl⟩
theorem xc102_37 : pmCode 102 37 = some (.bipush 6) ∧ 37 + 2 = 39 := ⟨rfl, rfl⟩
theorem xc102_39 : pmCode 102 39 = some .ishr ∧ 39 + 1 = 40 := ⟨rfl, rfl⟩
theorem xc102_40 : pmCode 102 40 = some (.iconst 1) ∧ 40 + 1 = 41 := ⟨rfl, rfl⟩
theorem xc102_41 : pmCode 102 41 = some (.if_icmp .ne 87) ∧ ((41 : Nat) : Int) + 87 = ((128 : Nat) : Int) ∧ 41 + 3 = 44 := ⟨rfl, rfl, rfl⟩
theorem xc102_44 : pmCode 102 44 = some (.iload_n 3) ∧ 44 + 1 = 45 := ⟨rfl, rfl⟩
theorem xc102_45 : pmCode 102 45 = some (.iconst 5) ∧ 45 + 1 = 46 := ⟨rfl, rfl⟩
theorem xc102_46 : pmCode 102 46 = some (.if_icmp .ge 35) ∧ ((46 : Nat) : Int) + 35 = ((81 : Nat) : Int) ∧ 46 + 3 = 49 := ⟨rfl, rfl, rfl⟩
theorem xc102_49 : pmCode 102 49 = some (.aload_n 1) ∧ 49 + 1 = 50 := ⟨rfl, rfl⟩
theorem xc102_50 : pmCode 102 50 = some (.getfield 40) ∧ 50 + 3 = 53 := ⟨rfl, rfl⟩
theorem xc102_53 : pmCode 102 53 = some (.iconst 4) ∧ 53 + 1 = 54 := ⟨rfl, rfl⟩
theorem xc102_54 : pmCode 102 54 = some (.iload_n 3) ∧ 54 + 1 = 55 := ⟨rfl, rfl⟩
theorem xc102_55 : pmCode 102 55 = some .iadd ∧ 55 + 1 = 56 := ⟨rfl, rfl⟩
theorem xc102_56 : pmCode 102 56 = some (.invokestatic 44) ∧ 56 + 3 = 59 := ⟨rfl, rfl⟩
theorem xc102_59 : pmCode 102 59 = some (.bipush 13) ∧ 59 + 2 = 61 := ⟨rfl, rfl⟩
theorem xc102_61 : pmCode 102 61 = some (.if_icmp .ne 20) ∧ ((61 : Nat) : Int) + 20 = ((81 : Nat) : Int) ∧ 61 + 3 = 64 := ⟨rfl, rfl, rfl⟩
theorem xc102_64 : pmCode 102 64 = some (.aload_n 1) ∧ 64 + 1 = 65 := ⟨rfl, rfl⟩
theorem xc102_65 : pmCode 102 65 = some (.iload_n 3) ∧ 65 + 1 = 66 := ⟨rfl, rfl⟩
theorem xc102_66 : pmCode 102 66 = some (.invokevirtual 48) ∧ 66 + 3 = 69 := ⟨rfl, rfl⟩
theorem xc102_69 : pmCode 102 69 = some (.iload 4) ∧ 69 + 2 = 71 := ⟨rfl, rfl⟩
theorem xc102_71 : pmCode 102 71 = some .ishr ∧ 71 + 1 = 72 := ⟨rfl, rfl⟩
theorem xc102_72 : pmCode 102 72 = some (.iconst 1) ∧ 72 + 1 = 73 := ⟨rfl, rfl⟩
theorem xc102_73 : pmCode 102 73 = some .iand ∧ 73 + 1 = 74 := ⟨rfl, rfl⟩
theorem xc102_74 : pmCode 102 74 = some (.ifCond .eq 7) ∧ ((74 : Nat) : Int) + 7 = ((81 : Nat) : Int) ∧ 74 + 3 = 77 := ⟨rfl, rfl, rfl⟩
theorem xc102_77 : pmCode 102 77 = some (.iconst 1) ∧ 77 + 1 = 78 := ⟨rfl, rfl⟩
theorem xc102_78 : pmCode 102 78 = some (.goto 4) ∧ ((78 : Nat) : Int) + 4 = ((82 : Nat) : Int) := ⟨rfl, rfl⟩
theorem xc102_81 : pmCode 102 81 = some (.iconst 0) ∧ 81 + 1 = 82 := ⟨rfl, rfl⟩
theorem xc102_82 : pmCode 102 82 = some (.istore 5) ∧ 82 + 2 = 84 := ⟨rfl, rfl⟩
theorem xc102_84 : pmCode 102 84 = some (.iconst 0) ∧ 84 + 1 = 85 := ⟨rfl, rfl⟩
theorem xc102_85 : pmCode 102 85 = some (.istore 6) ∧ 85 + 2 = 87 := ⟨rfl, rfl⟩
theorem xc102_87 : pmCode 102 87 = some (.iload 6) ∧ 87 + 2 = 89 := ⟨rfl, rfl⟩
theorem xc102_89 : pmCode 102 89 = some (.iconst 4) ∧ 89 + 1 = 90 := ⟨rfl, rfl⟩
theorem xc102_90 : pmCode 102 90 = some (.if_icmp .ge 35) ∧ ((90 : Nat) : Int) + 35 = ((125 : Nat) : Int) ∧ 90 + 3 = 93 := ⟨rfl, rfl, rfl⟩
theorem xc102_93 : pmCode 102 93 = some (.iload 5) ∧ 93 + 2 = 95 := ⟨rfl, rfl⟩
theorem xc102_95 : pmCode 102 95 = some (.aload_n 1) ∧ 95 + 1 = 96 := ⟨rfl, rfl⟩
theorem xc102_96 : pmCode 102 96 = some (.getfield 40) ∧ 96 + 3 = 99 := ⟨rfl, rfl⟩
theorem xc102_99 : pmCode 102 99 = some (.iload 6) ∧ 99 + 2 = 101 := ⟨rfl, rfl⟩
theorem xc102_101 : pmCode 102 101 = some (.invokestatic 44) ∧ 101 + 3 = 104 := ⟨rfl, rfl⟩
theorem xc102_104 : pmCode 102 104 = some (.iload 4) ∧ 104 + 2 = 106 := ⟨rfl, rfl⟩
theorem xc102_106 : pmCode 102 106 = some (.iconst 1) ∧ 106 + 1 = 107 := ⟨rfl, rfl⟩
theorem xc102_107 : pmCode 102 107 = some .iadd ∧ 107 + 1 = 108 := ⟨rfl, rfl⟩
theorem xc102_108 : pmCode 102 108 = some (.if_icmp .eq 7) ∧ ((108 : Nat) : Int) + 7 = ((115 : Nat) : Int) ∧ 108 + 3 = 111 := ⟨rfl, rfl, rfl⟩
theorem xc102_111 : pmCode 102 111 = some (.iconst 1) ∧ 111 + 1 = 112 := ⟨rfl, rfl⟩
theorem xc102_112 : pmCode 102 112 = some (.goto 4) ∧ ((112 : Nat) : Int) + 4 = ((116 : Nat) : Int) := ⟨rfl, rfl⟩
theorem xc102_115 : pmCode 102 115 = some (.iconst 0) ∧ 115 + 1 = 116 := ⟨rfl, rfl⟩
theorem xc102_116 : pmCode 102 116 = some .iand ∧ 116 + 1 = 117 := ⟨rfl, rfl⟩
theorem xc102_117 : pmCode 102 117 = some (.istore 5) ∧ 117 + 2 = 119 := ⟨rfl, rfl⟩
theorem xc102_119 : pmCode 102 119 = some (.iinc 6 1) ∧ 119 + 3 = 122 := ⟨rfl, rfl⟩
theorem xc102_122 : pmCode 102 122 = some (.goto (-35)) ∧ ((122 : Nat) : Int) + (-35) = ((87 : Nat) : Int) := ⟨rfl, rfl⟩
theorem xc102_125 : pmCode 102 125 = some (.iload 5) ∧ 125 + 2 = 127 := ⟨rfl, rfl⟩
theorem xc102_127 : pmCode 102 127 = some .ireturn := rfl
theorem xc102_128 : pmCode 102 128 = some (.iload_n 3) ∧ 128 + 1 = 129 := ⟨rfl, rfl⟩
theorem xc102_129 : pmCode 102 129 = some (.invokestatic 52) ∧ 129 + 3 = 132 := ⟨rfl, rfl⟩
theorem xc102_132 : pmCode 102 132 = some (.ifCond .eq 16) ∧ ((132 : Nat) : Int) + 16 = ((148 : Nat) : Int) ∧ 132 + 3 = 135 := ⟨rfl, rfl, rfl⟩
theorem xc102_135 : pmCode 102 135 = some (.aload_n 1) ∧ 135 + 1 = 136 := ⟨rfl, rfl⟩
theorem xc102_136 : pmCode 102 136 = some (.getfield 40) ∧ 136 + 3 = 139 := ⟨rfl, rfl⟩
theorem xc102_139 : pmCode 102 139 = some (.iload_n 3) ∧ 139 + 1 = 140 := ⟨rfl, rfl⟩
theorem xc102_140 : pmCode 102 140 = some (.invokestatic 44) ∧ 140 + 3 = 143 := ⟨rfl, rfl⟩
theorem xc102_143 : pmCode 102 143 = some (.iconst 1) ∧ 143 + 1 = 144 := ⟨rfl, rfl⟩
theorem xc102_144 : pmCode 102 144 = some .isub ∧ 144 + 1 = 145 := ⟨rfl, rfl⟩
theorem xc102_145 : pmCode 102 145 = some (.goto 4) ∧ ((145 : Nat) : Int) + 4 = ((149 : Nat) : Int) := ⟨rfl, rfl⟩
theorem xc102_148 : pmCode 102 148 = some (.iconst (-1)) ∧ 148 + 1 = 149 := ⟨rfl, rfl⟩
theorem xc102_149 : pmCode 102 149 = some (.istore 5) ∧ 149 + 2 = 151 := ⟨rfl, rfl⟩
theorem xc102_151 : pmCode 102 151 = some (.aload_n 1) ∧ 151 + 1 = 152 := ⟨rfl, rfl⟩
theorem xc102_152 : pmCode 102 152 = some (.getfield 40) ∧ 152 + 3 = 155 := ⟨rfl, rfl⟩
theorem xc102_155 : pmCode 102 155 = some (.iconst 0) ∧ 155 + 1 = 156 := ⟨rfl, rfl⟩
theorem xc102_156 : pmCode 102 156 = some (.invokestatic 44) ∧ 156 + 3 = 159 := ⟨rfl, rfl⟩
theorem xc102_159 : pmCode 102 159 = some (.iconst 1) ∧ 159 + 1 = 160 := ⟨rfl, rfl⟩
theorem xc102_160 : pmCode 102 160 = some .isub ∧ 160 + 1 = 161 := ⟨rfl, rfl⟩
theorem xc102_161 : pmCode 102 161 = some (.istore 6) ∧ 161 + 2 = 163 := ⟨rfl, rfl⟩
theorem xc102_163 : pmCode 102 163 = some (.iload 5) ∧ 163 + 2 = 165 := ⟨rfl, rfl⟩
theorem xc102_165 : pmCode 102 165 = some (.ifCond .lt 42) ∧ ((165 : Nat) : Int) + 42 = ((207 : Nat) : Int) ∧ 165 + 3 = 168 := ⟨rfl, rfl, rfl⟩
theorem xc102_168 : pmCode 102 168 = some (.iload 5) ∧ 168 + 2 = 170 := ⟨rfl, rfl⟩
theorem xc102_170 : pmCode 102 170 = some (.bipush 7) ∧ 170 + 2 = 172 := ⟨rfl, rfl⟩
theorem xc102_172 : pmCode 102 172 = some (.if_icmp .ge 35) ∧ ((172 : Nat) : Int) + 35 = ((207 : Nat) : Int) ∧ 172 + 3 = 175 := ⟨rfl, rfl, rfl⟩
theorem xc102_175 : pmCode 102 175 = some (.aload_n 0) ∧ 175 + 1 = 176 := ⟨rfl, rfl⟩
theorem xc102_176 : pmCode 102 176 = some (.getfield 25) ∧ 176 + 3 = 179 := ⟨rfl, rfl⟩
theorem xc102_179 : pmCode 102 179 = some (.iload 5) ∧ 179 + 2 = 181 := ⟨rfl, rfl⟩
theorem xc102_181 : pmCode 102 181 = some (.iload 4) ∧ 181 + 2 = 183 := ⟨rfl, rfl⟩
theorem xc102_183 : pmCode 102 183 = some (.invokevirtual 56) ∧ 183 + 3 = 186 := ⟨rfl, rfl⟩
theorem xc102_186 : pmCode 102 186 = some (.ifCond .eq 21) ∧ ((186 : Nat) : Int) + 21 = ((207 : Nat) : Int) ∧ 186 + 3 = 189 := ⟨rfl, rfl, rfl⟩
theorem xc102_189 : pmCode 102 189 = some (.iload 6) ∧ 189 + 2 = 191 := ⟨rfl, rfl⟩
theorem xc102_191 : pmCode 102 191 = some (.iload 5) ∧ 191 + 2 = 193 := ⟨rfl, rfl⟩
theorem xc102_193 : pmCode 102 193 = some (.if_icmp .eq 14) ∧ ((193 : Nat) : Int) + 14 = ((207 : Nat) : Int) ∧ 193 + 3 = 196 := ⟨rfl, rfl, rfl⟩
theorem xc102_196 : pmCode 102 196 = some (.iload 6) ∧ 196 + 2 = 198 := ⟨rfl, rfl⟩
theorem xc102_198 : pmCode 102 198 = some (.iload 4) ∧ 198 + 2 = 200 := ⟨rfl, rfl⟩
theorem xc102_200 : pmCode 102 200 = some (.if_icmp .eq 7) ∧ ((200 : Nat) : Int) + 7 = ((207 : Nat) : Int) ∧ 200 + 3 = 203 := ⟨rfl, rfl, rfl⟩
theorem xc102_203 : pmCode 102 203 = some (.iconst 1) ∧ 203 + 1 = 204 := ⟨rfl, rfl⟩
theorem xc102_204 : pmCode 102 204 = some (.goto 4) ∧ ((204 : Nat) : Int) + 4 = ((208 : Nat) : Int) := ⟨rfl, rfl⟩
theorem xc102_207 : pmCode 102 207 = some (.iconst 0) ∧ 207 + 1 = 208 := ⟨rfl, rfl⟩
theorem xc102_208 : pmCode 102 208 = some .ireturn := rfl
theorem xc103_0 : pmCode 103 0 = some (.iload_n 2) ∧ 0 + 1 = 1 := ⟨rfl, rfl⟩
theorem xc103_1 : pmCode 103 1 = some (.ifCond .ne 5) ∧ ((1 : Nat) : Int) + 5 = ((6 : Nat) : Int) ∧ 1 + 3 = 4 := ⟨rfl, rfl, rfl⟩
theorem xc103_4 : pmCode 103 4 = some (.iconst 0) ∧ 4 + 1 = 5 := ⟨rfl, rfl⟩
theorem xc103_5 : pmCode 103 5 = some .ireturn := rfl
theorem xc103_6 : pmCode 103 6 = some (.iload_n 2) ∧ 6 + 1 = 7 := ⟨rfl, rfl⟩
theorem xc103_7 : pmCode 103 7 = some (.bipush 6) ∧ 7 + 2 = 9 := ⟨rfl, rfl⟩
theorem xc103_9 : pmCode 103 9 = some .ishr ∧ 9 + 1 = 10 := ⟨rfl, rfl⟩
theorem xc103_10 : pmCode 103 10 = some (.iconst 1) ∧ 10 + 1 = 11 := ⟨rfl, rfl⟩
theorem xc103_11 : pmCode 103 11 = some (.if_icmp .ne 14) ∧ ((11 : Nat) : Int) + 14 = ((25 : Nat) : Int) ∧ 11 + 3 = 14 := ⟨rfl, rfl, rfl⟩
theorem xc103_14 : pmCode 103 14 = some (.iconst 2) ∧ 14 + 1 = 15 := ⟨rfl, rfl⟩
theorem xc103_15 : pmCode 103 15 = some (.aload_n 1) ∧ 15 + 1 = 16 := ⟨rfl, rfl⟩
theorem xc103_16 : pmCode 103 16 = some (.getfield 62) ∧ 16 + 3 = 19 := ⟨rfl, rfl⟩
theorem xc103_19 : pmCode 103 19 = some (.iconst 1) ∧ 19 + 1 = 20 := ⟨rfl, rfl⟩
theorem xc103_20 : pmCode 103 20 = some .iadd ∧ 20 + 1 = 21 := ⟨rfl, rfl⟩
theorem xc103_21 : pmCode 103 21 = some .imul ∧ 21 + 1 = 22 := ⟨rfl, rfl⟩
theorem xc103_22 : pmCode 103 22 = some (.goto 11) ∧ ((22 : Nat) : Int) + 11 = ((33 : Nat) : Int) := ⟨rfl, rfl⟩
theorem xc103_25 : pmCode 103 25 = some (.iconst 3) ∧ 25 + 1 = 26 := ⟨rfl, rfl⟩
theorem xc103_26 : pmCode 103 26 = some (.aload_n 1) ∧ 26 + 1 = 27 := ⟨rfl, rfl⟩
theorem xc103_27 : pmCode 103 27 = some (.getfield 65) ∧ 27 + 3 = 30 := ⟨rfl, rfl⟩
theorem xc103_30 : pmCode 103 30 = some (.iconst 1) ∧ 30 + 1 = 31 := ⟨rfl, rfl⟩
theorem xc103_31 : pmCode 103 31 = some .iadd ∧ 31 + 1 = 32 := ⟨rfl, rfl⟩
theorem xc103_32 : pmCode 103 32 = some .imul ∧ 32 + 1 = 33 := ⟨rfl, rfl⟩
theorem xc103_33 : pmCode 103 33 = some .ireturn := rfl
theorem xc104_0 : pmCode 104 0 = some (.iload_n 2) ∧ 0 + 1 = 1 := ⟨rfl, rfl⟩
theorem xc104_1 : pmCode 104 1 = some (.iconst 3) ∧ 1 + 1 = 2 := ⟨rfl, rfl⟩
theorem xc104_2 : pmCode 104 2 = some .ishr ∧ 2 + 1 = 3 := ⟨rfl, rfl⟩
theorem xc104_3 : pmCode 104 3 = some (.bipush 7) ∧ 3 + 2 = 5 := ⟨rfl, rfl⟩
theorem xc104_5 : pmCode 104 5 = some .iand ∧ 5 + 1 = 6 := ⟨rfl, rfl⟩
theorem xc104_6 : pmCode 104 6 = some (.istore_n 3) ∧ 6 + 1 = 7 := ⟨rfl, rfl⟩
theorem xc104_7 : pmCode 104 7 = some (.iload_n 2) ∧ 7 + 1 = 8 := ⟨rfl, rfl⟩
theorem xc104_8 : pmCode 104 8 = some (.bipush 7) ∧ 8 + 2 = 10 := ⟨rfl, rfl⟩
theorem xc104_10 : pmCode 104 10 = some .iand ∧ 10 + 1 = 11 := ⟨rfl, rfl⟩
theorem xc104_11 : pmCode 104 11 = some (.iconst 1) ∧ 11 + 1 = 12 := ⟨rfl, rfl⟩
theorem xc104_12 : pmCode 104 12 = some .iadd ∧ 12 + 1 = 13 := ⟨rfl, rfl⟩
theorem xc104_13 : pmCode 104 13 = some (.istore 4) ∧ 13 + 2 = 15 := ⟨rfl, rfl⟩
theorem xc104_15 : pmCode 104 15 = some (.aload_n 1) ∧ 15 + 1 = 16 := ⟨rfl, rfl⟩
theorem xc104_16 : pmCode 104 16 = some .dup ∧ 16 + 1 = 17 := ⟨rfl, rfl⟩
theorem xc104_17 : pmCode 104 17 = some (.getfield 68) ∧ 17 + 3 = 20 := ⟨rfl, rfl⟩
theorem xc104_20 : pmCode 104 20 = some (.aload_n 0) ∧ 20 + 1 = 21 := ⟨rfl, rfl⟩
theorem xc104_21 : pmCode 104 21 = some (.aload_n 1) ∧ 21 + 1 = 22 := ⟨rfl, rfl⟩
theorem xc104_22 : pmCode 104 22 = some (.iload_n 2) ∧ 22 + 1 = 23 := ⟨rfl, rfl⟩
theorem xc104_23 : pmCode 104 23 = some (.invokevirtual 71) ∧ 23 + 3 = 26 := ⟨rfl, rfl⟩
theorem xc104_26 : pmCode 104 26 = some .iadd ∧ 26 + 1 = 27 := ⟨rfl, rfl⟩
theorem xc104_27 : pmCode 104 27 = some (.putfield 68) ∧ 27 + 3 = 30 := ⟨rfl, rfl⟩
theorem xc104_30 : pmCode 104 30 = some (.iload_n 2) ∧ 30 + 1 = 31 := ⟨rfl, rfl⟩
theorem xc104_31 : pmCode 104 31 = some (.bipush 6) ∧ 31 + 2 = 33 := ⟨rfl, rfl⟩
theorem xc104_33 : pmCode 104 33 = some .ishr ∧ 33 + 1 = 34 := ⟨rfl, rfl⟩
theorem xc104_34 : pmCode 104 34 = some (.iconst 1) ∧ 34 + 1 = 35 := ⟨rfl, rfl⟩
theorem xc104_35 : pmCode 104 35 = some (.if_icmp .ne 32) ∧ ((35 : Nat) : Int) + 32 = ((67 : Nat) : Int) ∧ 35 + 3 = 38 := ⟨rfl, rfl, rfl⟩
theorem xc104_38 : pmCode 104 38 = some (.aload_n 1) ∧ 38 + 1 = 39 := ⟨rfl, rfl⟩
theorem xc104_39 : pmCode 104 39 = some (.aload_n 1) ∧ 39 + 1 = 40 := ⟨rfl, rfl⟩
theorem xc104_40 : pmCode 104 40 = some (.getfield 40) ∧ 40 + 3 = 43 := ⟨rfl, rfl⟩
theorem xc104_43 : pmCode 104 43 = some (.iconst 4) ∧ 43 + 1 = 44 := ⟨rfl, rfl⟩
theorem xc104_44 : pmCode 104 44 = some (.iload_n 3) ∧ 44 + 1 = 45 := ⟨rfl, rfl⟩
theorem xc104_45 : pmCode 104 45 = some .iadd ∧ 45 + 1 = 46 := ⟨rfl, rfl⟩
theorem xc104_46 : pmCode 104 46 = some (.iload 4) ∧ 46 + 2 = 48 := ⟨rfl, rfl⟩
theorem xc104_48 : pmCode 104 48 = some (.invokestatic 75) ∧ 48 + 3 = 51 := ⟨rfl, rfl⟩
theorem xc104_51 : pmCode 104 51 = some (.putfield 40) ∧ 51 + 3 = 54 := ⟨rfl, rfl⟩
theorem xc104_54 : pmCode 104 54 = some (.aload_n 1) ∧ 54 + 1 = 55 := ⟨rfl, rfl⟩
theorem xc104_55 : pmCode 104 55 = some .dup ∧ 55 + 1 = 56 := ⟨rfl, rfl⟩
theorem xc104_56 : pmCode 104 56 = some (.getfield 62) ∧ 56 + 3 = 59 := ⟨rfl, rfl⟩
theorem xc104_59 : pmCode 104 59 = some (.iconst 1) ∧ 59 + 1 = 60 := ⟨rfl, rfl⟩
theorem xc104_60 : pmCode 104 60 = some .iadd ∧ 60 + 1 = 61 := ⟨rfl, rfl⟩
theorem xc104_61 : pmCode 104 61 = some (.putfield 62) ∧ 61 + 3 = 64 := ⟨rfl, rfl⟩
theorem xc104_64 : pmCode 104 64 = some (.goto 27) ∧ ((64 : Nat) : Int) + 27 = ((91 : Nat) : Int) := ⟨rfl, rfl⟩
theorem xc104_67 : pmCode 104 67 = some (.aload_n 1) ∧ 67 + 1 = 68 := ⟨rfl, rfl⟩
theorem xc104_68 : pmCode 104 68 = some (.aload_n 1) ∧ 68 + 1 = 69 := ⟨rfl, rfl⟩
theorem xc104_69 : pmCode 104 69 = some (.getfield 40) ∧ 69 + 3 = 72 := ⟨rfl, rfl⟩
theorem xc104_72 : pmCode 104 72 = some (.iload_n 3) ∧ 72 + 1 = 73 := ⟨rfl, rfl⟩
theorem xc104_73 : pmCode 104 73 = some (.iload 4) ∧ 73 + 2 = 75 := ⟨rfl, rfl⟩
theorem xc104_75 : pmCode 104 75 = some (.invokestatic 75) ∧ 75 + 3 = 78 := ⟨rfl, rfl⟩
theorem xc104_78 : pmCode 104 78 = some (.putfield 40) ∧ 78 + 3 = 81 := ⟨rfl, rfl⟩
theorem xc104_81 : pmCode 104 81 = some (.aload_n 1) ∧ 81 + 1 = 82 := ⟨rfl, rfl⟩
theorem xc104_82 : pmCode 104 82 = some .dup ∧ 82 + 1 = 83 := ⟨rfl, rfl⟩
theorem xc104_83 : pmCode 104 83 = some (.getfield 65) ∧ 83 + 3 = 86 := ⟨rfl, rfl⟩
theorem xc104_86 : pmCode 104 86 = some (.iconst 1) ∧ 86 + 1 = 87 := ⟨rfl, rfl⟩
theorem xc104_87 : pmCode 104 87 = some .iadd ∧ 87 + 1 = 88 := ⟨rfl, rfl⟩
theorem xc104_88 : pmCode 104 88 = some (.putfield 65) ∧ 88 + 3 = 91 := ⟨rfl, rfl⟩
theorem xc104_91 : pmCode 104 91 = some (.aload_n 1) ∧ 91 + 1 = 92 := ⟨rfl, rfl⟩
theorem xc104_92 : pmCode 104 92 = some (.iconst 1) ∧ 92 + 1 = 93 := ⟨rfl, rfl⟩
theorem xc104_93 : pmCode 104 93 = some (.putfield 37) ∧ 93 + 3 = 96 := ⟨rfl, rfl⟩
theorem xc104_96 : pmCode 104 96 = some (.aload_n 1) ∧ 96 + 1 = 97 := ⟨rfl, rfl⟩
theorem xc104_97 : pmCode 104 97 = some (.invokevirtual 79) ∧ 97 + 3 = 100 := ⟨rfl, rfl⟩
theorem xc104_100 : pmCode 104 100 = some (.aload_n 0) ∧ 100 + 1 = 101 := ⟨rfl, rfl⟩
theorem xc104_101 : pmCode 104 101 = some (.getfield 29) ∧ 101 + 3 = 104 := ⟨rfl, rfl⟩
theorem xc104_104 : pmCode 104 104 = some (.aload_n 1) ∧ 104 + 1 = 105 := ⟨rfl, rfl⟩
theorem xc104_105 : pmCode 104 105 = some (.invokevirtual 82) ∧ 105 + 3 = 108 := ⟨rfl, rfl⟩
theorem xc104_108 : pmCode 104 108 = some .return_ := rfl
theorem w103 {ro : Nat → Nat × (Nat → Int32)} {d : Nat} {Q : Option Value → pmS → Prop} {c : Int} {w : Nat} {a : xA} {b : xB} (hz : uWz w) (hc : 0 ≤ c ∧ c ≤ 511) (hA : xAr a) (hB6 : 0 ≤ a w 6 ∧ a w 6 ≤ 1000) (hB8 : 0 ≤ a w 8 ∧ a w 8 ≤ 1000) (hB9 : 0 ≤ a w 9 ∧ a w 9 ≤ 1000) (hB10 : 0 ≤ a w 10 ∧ a w 10 ≤ 1000000) (hB12 : 0 ≤ a w 12 ∧ a w 12 ≤ 1)
    (k1 : (¬ c = 0) → (¬ c / 64 = 1) → Q (some (xV (3 * (a w 9 + 1)))) (xS a b))
    (k2 : (¬ c = 0) → (c / 64 = 1) → Q (some (xV (2 * (a w 8 + 1)))) (xS a b))
    (k3 : (c = 0) → Q (some (xV 0)) (xS a b)) :
    pmWp ro d 7 103 1 0 [some (.ref 45), some (.ref w), some (xV c)] [] (xS a b) Q := by
  refine x_iloadn xc103_0 rfl ?_
  refine x_ifne xc103_1 (xRk (by have g0 := hc; omega)) (fun h0 => ?_) (fun h0 => ?_)
  · refine x_iloadn xc103_6 rfl ?_
    refine x_bipush xc103_7 (by decide) ?_
    refine x_ishr (M := 64) (by omega) (by omega) (by decide) (xRk (by have g0 := hc; omega)) xc103_9 ?_
    refine x_iconst xc103_10 ?_
    refine x_icne xc103_11 (xRk (by have g0 := hc; omega)) (xRk (by decide)) (fun h1 => ?_) (fun h1 => ?_)
    · refine x_iconst xc103_25 ?_
      refine x_aloadn xc103_26 rfl ?_
      refine x_gfi (k := 9) xc103_27 rfl (Or.inl rfl) rfl hz.1 ?_
      refine x_iconst xc103_30 ?_
      refine x_iadd xc103_31 ?_
      refine x_imul xc103_32 ?_
      refine x_iret xc103_33 (Or.inl rfl) ?_
      exact k1 h0 h1
    · replace h1 := Classical.not_not.mp h1
      refine x_iconst xc103_14 ?_
      refine x_aloadn xc103_15 rfl ?_
      refine x_gfi (k := 8) xc103_16 rfl (Or.inl rfl) rfl hz.1 ?_
      refine x_iconst xc103_19 ?_
      refine x_iadd xc103_20 ?_
      refine x_imul xc103_21 ?_
      refine x_goto xc103_22 ?_
      refine x_iret xc103_33 (Or.inl rfl) ?_
      exact k2 h0 h1
  · replace h0 := Classical.not_not.mp h0
    refine x_iconst xc103_4 ?_
    refine x_iret xc103_5 (Or.inl rfl) ?_
    exact k3 h0

theorem xg103 {ro : Nat → Nat × (Nat → Int32)} {d : Nat} {Q : Option Value → pmS → Prop} {a : xA} {b : xB} {c : Int} {w : Nat} (h : pmWp ro d 7 103 1 0 [some (.ref 45), some (.ref w), some (xV c)] [] (xS a b) Q) : pmCs ro (d + 1) 103 [.ref 45, .ref w, xV c] (xS a b) Q := x_go xi103 rfl rfl rfl rfl rfl h
/-- priceOf -/
def uPc (c s h : Int) : Int := if c = 0 then 0 else if c / 64 = 1 then 2 * (s + 1) else 3 * (h + 1)
theorem uPc_b {c s h : Int} (hs : 0 ≤ s ∧ s ≤ 1000) (hh : 0 ≤ h ∧ h ≤ 1000) : 0 ≤ uPc c s h ∧ uPc c s h ≤ 3003 := by
  unfold uPc
  split
  · omega
  · split <;> omega
theorem rk103 {ro : Nat → Nat × (Nat → Int32)} {d : Nat} {Q : Option Value → pmS → Prop} {c : Int} {w : Nat} {a : xA} {b : xB} (hd : 1 ≤ d) (hz : uWz w) (hc : 0 ≤ c ∧ c ≤ 511) (hA : xAr a) (hB6 : 0 ≤ a w 6 ∧ a w 6 ≤ 1000) (hB8 : 0 ≤ a w 8 ∧ a w 8 ≤ 1000) (hB9 : 0 ≤ a w 9 ∧ a w 9 ≤ 1000) (hB10 : 0 ≤ a w 10 ∧ a w 10 ≤ 1000000) (hB12 : 0 ≤ a w 12 ∧ a w 12 ≤ 1) (hQ : Q (some (xV (uPc c (a w 8) (a w 9)))) (xS a b)) : pmCs ro d 103 [.ref 45, .ref w, xV c] (xS a b) Q := by
  unfold uPc at hQ
  refine pmCs_deep (d := 1) (xg103 (w103 hz hc hA hB6 hB8 hB9 hB10 hB12 ?_ ?_ ?_)) hd <;> intros
  all_goals (simp_all)
theorem w102 {ro : Nat → Nat × (Nat → Int32)} {d : Nat} {Q : Option Value → pmS → Prop} {c : Int} {w : Nat} {a : xA} {b : xB} (hz : uWz w) (hc : 0 ≤ c ∧ c ≤ 511) (hA : xAr a) (hB6 : 0 ≤ a w 6 ∧ a w 6 ≤ 1000) (hB8 : 0 ≤ a w 8 ∧ a w 8 ≤ 1000) (hB9 : 0 ≤ a w 9 ∧ a w 9 ≤ 1000) (hB10 : 0 ≤ a w 10 ∧ a w 10 ≤ 1000000) (hB12 : 0 ≤ a w 12 ∧ a w 12 ≤ 1) (hd : 2 ≤ d)
    (k1 : (a w 6 = 0) → Q (some (xV 0)) (xS a b))
    (k2 : (¬ a w 6 = 0) → (¬ a w 12 = 0) → Q (some (xV 0)) (xS a b))
    (k3 : (¬ a w 6 = 0) → (a w 12 = 0) → (c % 8 < 7) → pmWp ro d 7 102 2 36 [some (.ref 45), some (.ref w), some (xV c), some (xV ((c / 8) % 8)), some (xV (c % 8)), none, none] [] (xS a b) Q)
    (k4 : (¬ a w 6 = 0) → (a w 12 = 0) → (¬ c % 8 < 7) → Q (some (xV 0)) (xS a b)) :
    pmWp ro d 7 102 2 0 [some (.ref 45), some (.ref w), some (xV c), none, none, none, none] [] (xS a b) Q := by
  refine x_iloadn xc102_0 rfl ?_
  refine x_iconst xc102_1 ?_
  refine x_ishr (M := 8) (by omega) (by omega) (by decide) (xRk (by have g0 := hc; omega)) xc102_2 ?_
  refine x_bipush xc102_3 (by decide) ?_
  refine x_iandm (M := 8) 3 (by decide) (by decide) (by decide) xc102_5 ?_
  refine x_istoren (pl' := [some (.ref 45), some (.ref w), some (xV c), some (xV ((c / 8) % 8)), none, none, none]) xc102_6 rfl rfl ?_
  refine x_iloadn xc102_7 rfl ?_
  refine x_bipush xc102_8 (by decide) ?_
  refine x_iandm (M := 8) 3 (by decide) (by decide) (by decide) xc102_10 ?_
  refine x_istore (pl' := [some (.ref 45), some (.ref w), some (xV c), some (xV ((c / 8) % 8)), some (xV (c % 8)), none, none]) xc102_11 rfl rfl ?_
  refine x_aloadn xc102_13 rfl ?_
  refine x_gfi (k := 6) xc102_14 rfl (Or.inl rfl) rfl hz.1 ?_
  refine x_ifeq xc102_17 (xRk (by have g0 := hB6; omega)) (fun h0 => ?_) (fun h0 => ?_)
  · refine x_iconst xc102_34 ?_
    refine x_iret xc102_35 (Or.inr ⟨rfl, (by omega)⟩) ?_
    exact k1 h0
  · refine x_aloadn xc102_20 rfl ?_
    refine x_gfi (k := 12) xc102_21 rfl (Or.inr rfl) rfl hz.1 ?_
    refine x_ifne xc102_24 (xRk (by have g0 := hB12; omega)) (fun h1 => ?_) (fun h1 => ?_)
    · refine x_iconst xc102_34 ?_
      refine x_iret xc102_35 (Or.inr ⟨rfl, (by omega)⟩) ?_
      exact k2 h0 h1
    · replace h1 := Classical.not_not.mp h1
      refine x_iload xc102_27 rfl ?_
      refine x_bipush xc102_29 (by decide) ?_
      refine x_iclt xc102_31 (xRk (by have g0 := hc; omega)) (xRk (by decide)) (fun h2 => ?_) (fun h2 => ?_)
      · exact k3 h0 h1 h2
      · refine x_iconst xc102_34 ?_
        refine x_iret xc102_35 (Or.inr ⟨rfl, (by omega)⟩) ?_
        exact k4 h0 h1 h2

theorem xg102 {ro : Nat → Nat × (Nat → Int32)} {d : Nat} {Q : Option Value → pmS → Prop} {a : xA} {b : xB} {c : Int} {w : Nat} (h : pmWp ro d 7 102 2 0 [some (.ref 45), some (.ref w), some (xV c), none, none, none, none] [] (xS a b) Q) : pmCs ro (d + 1) 102 [.ref 45, .ref w, xV c] (xS a b) Q := x_go xi102 rfl rfl rfl rfl rfl h
theorem w102s {ro : Nat → Nat × (Nat → Int32)} {d : Nat} {Q : Option Value → pmS → Prop} {c i rm : Int} {w : Nat} {a : xA} {b : xB} (hz : uWz w) (hc : 0 ≤ c ∧ c ≤ 511) (hi : 0 ≤ i ∧ i ≤ 7) (hrm : 0 ≤ rm ∧ rm ≤ 6) (hd : 2 ≤ d)
    (k1 : (¬ c / 64 = 1) → (1 ≤ i ∧ i < 4) → (uSl (b w 4) i - 1 < 0) → Q (some (xV 0)) (xS a b))
    (k2 : (¬ c / 64 = 1) → (1 ≤ i ∧ i < 4) → (¬ uSl (b w 4) i - 1 < 0) → (7 ≤ uSl (b w 4) i - 1) → Q (some (xV 0)) (xS a b))
    (k3 : (¬ c / 64 = 1) → (1 ≤ i ∧ i < 4) → (¬ uSl (b w 4) i - 1 < 0) → (¬ 7 ≤ uSl (b w 4) i - 1) → (xBit (b 3 3) (7 * (uSl (b w 4) i - 1) + rm) = true) → (uSl (b w 4) 0 - 1 = uSl (b w 4) i - 1) → Q (some (xV 0)) (xS a b))
    (k4 : (¬ c / 64 = 1) → (1 ≤ i ∧ i < 4) → (¬ uSl (b w 4) i - 1 < 0) → (¬ 7 ≤ uSl (b w 4) i - 1) → (xBit (b 3 3) (7 * (uSl (b w 4) i - 1) + rm) = true) → (¬ uSl (b w 4) 0 - 1 = uSl (b w 4) i - 1) → (uSl (b w 4) 0 - 1 = rm) → Q (some (xV 0)) (xS a b))
    (k5 : (¬ c / 64 = 1) → (1 ≤ i ∧ i < 4) → (¬ uSl (b w 4) i - 1 < 0) → (¬ 7 ≤ uSl (b w 4) i - 1) → (xBit (b 3 3) (7 * (uSl (b w 4) i - 1) + rm) = true) → (¬ uSl (b w 4) 0 - 1 = uSl (b w 4) i - 1) → (¬ uSl (b w 4) 0 - 1 = rm) → Q (some (xV 1)) (xS a b))
    (k6 : (¬ c / 64 = 1) → (1 ≤ i ∧ i < 4) → (¬ uSl (b w 4) i - 1 < 0) → (¬ 7 ≤ uSl (b w 4) i - 1) → (xBit (b 3 3) (7 * (uSl (b w 4) i - 1) + rm) = false) → Q (some (xV 0)) (xS a b))
    (k7 : (¬ c / 64 = 1) → (¬ (1 ≤ i ∧ i < 4)) → Q (some (xV 0)) (xS a b))
    (k8 : (c / 64 = 1) → (5 ≤ i) → pmWp ro d 7 102 2 87 [some (.ref 45), some (.ref w), some (xV c), some (xV i), some (xV rm), some (xV 0), some (xV 0)] [] (xS a b) Q)
    (k9 : (c / 64 = 1) → (¬ 5 ≤ i) → (¬ uSl (b w 4) (4 + i) = 13) → pmWp ro d 7 102 2 87 [some (.ref 45), some (.ref w), some (xV c), some (xV i), some (xV rm), some (xV 0), some (xV 0)] [] (xS a b) Q)
    (k10 : (c / 64 = 1) → (¬ 5 ≤ i) → (uSl (b w 4) (4 + i) = 13) → (((uSt (b w 5) i) / ((2 ^ rm.toNat : Nat) : Int)) % 2 = 0) → pmWp ro d 7 102 2 87 [some (.ref 45), some (.ref w), some (xV c), some (xV i), some (xV rm), some (xV 0), some (xV 0)] [] (xS a b) Q)
    (k11 : (c / 64 = 1) → (¬ 5 ≤ i) → (uSl (b w 4) (4 + i) = 13) → (¬ ((uSt (b w 5) i) / ((2 ^ rm.toNat : Nat) : Int)) % 2 = 0) → pmWp ro d 7 102 2 87 [some (.ref 45), some (.ref w), some (xV c), some (xV i), some (xV rm), some (xV 1), some (xV 0)] [] (xS a b) Q) :
    pmWp ro d 7 102 2 36 [some (.ref 45), some (.ref w), some (xV c), some (xV i), some (xV rm), none, none] [] (xS a b) Q := by
  refine x_iloadn xc102_36 rfl ?_
  refine x_bipush xc102_37 (by decide) ?_
  refine x_ishr (M := 64) (by omega) (by omega) (by decide) (xRk (by have g0 := hc; omega)) xc102_39 ?_
  refine x_iconst xc102_40 ?_
  refine x_icne xc102_41 (xRk (by have g0 := hc; omega)) (xRk (by decide)) (fun h0 => ?_) (fun h0 => ?_)
  · refine x_iloadn xc102_128 rfl ?_
    refine x_cS (as := [xV i]) (rest := []) xc102_129 rfl rfl xi26 ⟨rfl, rfl⟩ rfl rfl ?_
    refine xk26 (by omega) (xRk (by have g0 := hi; omega)) (fun h1 => ?_) (fun h2 => ?_)
    · refine x_ifeq xc102_132 (xRk (by decide)) (fun h => absurd h (by omega)) (fun _ => ?_)
      refine x_aloadn xc102_135 rfl ?_
      refine x_gfl (k := 4) xc102_136 rfl rfl rfl hz.1 ?_
      refine x_iloadn xc102_139 rfl ?_
      refine x_cS (as := [.long (b w 4), xV i]) (rest := []) xc102_140 rfl rfl xi61 ⟨rfl, rfl⟩ rfl rfl ?_
      refine rk61 (by omega) (by have g0 := hi; omega) ?_
      refine x_iconst xc102_143 ?_
      refine x_isub xc102_144 ?_
      refine x_goto xc102_145 ?_
      refine x_istore (pl' := [some (.ref 45), some (.ref w), some (xV c), some (xV i), some (xV rm), some (xV (uSl (b w 4) i - 1)), none]) xc102_149 rfl rfl ?_
      refine x_aloadn xc102_151 rfl ?_
      refine x_gfl (k := 4) xc102_152 rfl rfl rfl hz.1 ?_
      refine x_iconst xc102_155 ?_
      refine x_cS (as := [.long (b w 4), xV 0]) (rest := []) xc102_156 rfl rfl xi61 ⟨rfl, rfl⟩ rfl rfl ?_
      refine rk61 (by omega) (by omega) ?_
      refine x_iconst xc102_159 ?_
      refine x_isub xc102_160 ?_
      refine x_istore (pl' := [some (.ref 45), some (.ref w), some (xV c), some (xV i), some (xV rm), some (xV (uSl (b w 4) i - 1)), some (xV (uSl (b w 4) 0 - 1))]) xc102_161 rfl rfl ?_
      refine x_iload xc102_163 rfl ?_
      refine x_iflt xc102_165 (xRk (by have g0 := uSl_b (l := b w 4) (j := i) (by have g0 := hi; omega) (by have g0 := hi; omega); omega)) (fun h4 => ?_) (fun h4 => ?_)
      · refine x_iconst xc102_207 ?_
        refine x_iret xc102_208 (Or.inr ⟨rfl, (by omega)⟩) ?_
        exact k1 h0 h1 h4
      · refine x_iload xc102_168 rfl ?_
        refine x_bipush xc102_170 (by decide) ?_
        refine x_icge xc102_172 (xRk (by have g0 := uSl_b (l := b w 4) (j := i) (by have g0 := hi; omega) (by have g0 := hi; omega); omega)) (xRk (by decide)) (fun h5 => ?_) (fun h5 => ?_)
        · refine x_iconst xc102_207 ?_
          refine x_iret xc102_208 (Or.inr ⟨rfl, (by omega)⟩) ?_
          exact k2 h0 h1 h4 h5
        · refine x_aloadn xc102_175 rfl ?_
          refine x_gfr xc102_176 rfl rfl xz45 rfl ?_
          refine x_iload xc102_179 rfl ?_
          refine x_iload xc102_181 rfl ?_
          refine x_cV (as := [xV (uSl (b w 4) i - 1), xV rm]) (rest := []) xc102_183 rfl xi16 xz3 ⟨rfl, rfl⟩ rfl rfl ?_
          refine xk16 (by omega) (by have g0 := uSl_b (l := b w 4) (j := i) (by have g0 := hi; omega) (by have g0 := hi; omega); omega) (by have g0 := hrm; omega) (fun h6 => ?_) (fun h7 => ?_)
          · refine x_ifeq xc102_186 (xRk (by decide)) (fun h => absurd h (by omega)) (fun _ => ?_)
            refine x_iload xc102_189 rfl ?_
            refine x_iload xc102_191 rfl ?_
            refine x_iceq xc102_193 (xRk (by have g0 := uSl_b (l := b w 4) (j := 0) (by omega) (by omega); omega)) (xRk (by have g0 := uSl_b (l := b w 4) (j := i) (by have g0 := hi; omega) (by have g0 := hi; omega); omega)) (fun h9 => ?_) (fun h9 => ?_)
            · refine x_iconst xc102_207 ?_
              refine x_iret xc102_208 (Or.inr ⟨rfl, (by omega)⟩) ?_
              exact k3 h0 h1 h4 h5 h6 h9
            · refine x_iload xc102_196 rfl ?_
              refine x_iload xc102_198 rfl ?_
              refine x_iceq xc102_200 (xRk (by have g0 := uSl_b (l := b w 4) (j := 0) (by omega) (by omega); omega)) (xRk (by have g0 := hrm; omega)) (fun h10 => ?_) (fun h10 => ?_)
              · refine x_iconst xc102_207 ?_
                refine x_iret xc102_208 (Or.inr ⟨rfl, (by omega)⟩) ?_
                exact k4 h0 h1 h4 h5 h6 h9 h10
              · refine x_iconst xc102_203 ?_
                refine x_goto xc102_204 ?_
                refine x_iret xc102_208 (Or.inr ⟨rfl, (by omega)⟩) ?_
                exact k5 h0 h1 h4 h5 h6 h9 h10
          · refine x_ifeq xc102_186 (xRk (by decide)) (fun _ => ?_) (fun h => absurd h (by omega))
            refine x_iconst xc102_207 ?_
            refine x_iret xc102_208 (Or.inr ⟨rfl, (by omega)⟩) ?_
            exact k6 h0 h1 h4 h5 h7
    · refine x_ifeq xc102_132 (xRk (by decide)) (fun _ => ?_) (fun h => absurd h (by omega))
      refine x_iconst xc102_148 ?_
      refine x_istore (pl' := [some (.ref 45), some (.ref w), some (xV c), some (xV i), some (xV rm), some (xV (-1)), none]) xc102_149 rfl rfl ?_
      refine x_aloadn xc102_151 rfl ?_
      refine x_gfl (k := 4) xc102_152 rfl rfl rfl hz.1 ?_
      refine x_iconst xc102_155 ?_
      refine x_cS (as := [.long (b w 4), xV 0]) (rest := []) xc102_156 rfl rfl xi61 ⟨rfl, rfl⟩ rfl rfl ?_
      refine rk61 (by omega) (by omega) ?_
      refine x_iconst xc102_159 ?_
      refine x_isub xc102_160 ?_
      refine x_istore (pl' := [some (.ref 45), some (.ref w), some (xV c), some (xV i), some (xV rm), some (xV (-1)), some (xV (uSl (b w 4) 0 - 1))]) xc102_161 rfl rfl ?_
      refine x_iload xc102_163 rfl ?_
      refine x_iflt xc102_165 (xRk (by decide)) (fun _ => ?_) (fun h => absurd h (by omega))
      refine x_iconst xc102_207 ?_
      refine x_iret xc102_208 (Or.inr ⟨rfl, (by omega)⟩) ?_
      exact k7 h0 h2
  · replace h0 := Classical.not_not.mp h0
    refine x_iloadn xc102_44 rfl ?_
    refine x_iconst xc102_45 ?_
    refine x_icge xc102_46 (xRk (by have g0 := hi; omega)) (xRk (by decide)) (fun h14 => ?_) (fun h14 => ?_)
    · refine x_iconst xc102_81 ?_
      refine x_istore (pl' := [some (.ref 45), some (.ref w), some (xV c), some (xV i), some (xV rm), some (xV 0), none]) xc102_82 rfl rfl ?_
      refine x_iconst xc102_84 ?_
      refine x_istore (pl' := [some (.ref 45), some (.ref w), some (xV c), some (xV i), some (xV rm), some (xV 0), some (xV 0)]) xc102_85 rfl rfl ?_
      exact k8 h0 h14
    · refine x_aloadn xc102_49 rfl ?_
      refine x_gfl (k := 4) xc102_50 rfl rfl rfl hz.1 ?_
      refine x_iconst xc102_53 ?_
      refine x_iloadn xc102_54 rfl ?_
      refine x_iadd xc102_55 ?_
      refine x_cS (as := [.long (b w 4), xV (4 + i)]) (rest := []) xc102_56 rfl rfl xi61 ⟨rfl, rfl⟩ rfl rfl ?_
      refine rk61 (by omega) (by have g0 := hi; omega) ?_
      refine x_bipush xc102_59 (by decide) ?_
      refine x_icne xc102_61 (xRk (by have g0 := uSl_b (l := b w 4) (j := 4 + i) (by have g0 := hi; omega) (by have g0 := hi; omega); omega)) (xRk (by decide)) (fun h15 => ?_) (fun h15 => ?_)
      · refine x_iconst xc102_81 ?_
        refine x_istore (pl' := [some (.ref 45), some (.ref w), some (xV c), some (xV i), some (xV rm), some (xV 0), none]) xc102_82 rfl rfl ?_
        refine x_iconst xc102_84 ?_
        refine x_istore (pl' := [some (.ref 45), some (.ref w), some (xV c), some (xV i), some (xV rm), some (xV 0), some (xV 0)]) xc102_85 rfl rfl ?_
        exact k9 h0 h14 h15
      · replace h15 := Classical.not_not.mp h15
        refine x_aloadn xc102_64 rfl ?_
        refine x_iloadn xc102_65 rfl ?_
        refine x_cV (as := [xV i]) (rest := []) xc102_66 rfl xi62 hz.1 ⟨rfl, rfl⟩ rfl rfl ?_
        refine rk62 (by omega) hz (by have g0 := hi; omega) ?_
        refine x_iload xc102_69 rfl ?_
        refine x_ishr (M := ((2 ^ rm.toNat : Nat) : Int)) (by have g0 := hrm; omega) (by have g0 := hrm; omega) rfl (xRk (by have g0 := uSt_b (l := b w 5) (x := i); omega)) xc102_71 ?_
        refine x_iconst xc102_72 ?_
        refine x_iandm (M := 2) 1 (by decide) (by decide) (by decide) xc102_73 ?_
        refine x_ifeq xc102_74 (xRk (by have g0 := uSt_b (l := b w 5) (x := i); have g1 := hrm; omega)) (fun h16 => ?_) (fun h16 => ?_)
        · refine x_iconst xc102_81 ?_
          refine x_istore (pl' := [some (.ref 45), some (.ref w), some (xV c), some (xV i), some (xV rm), some (xV 0), none]) xc102_82 rfl rfl ?_
          refine x_iconst xc102_84 ?_
          refine x_istore (pl' := [some (.ref 45), some (.ref w), some (xV c), some (xV i), some (xV rm), some (xV 0), some (xV 0)]) xc102_85 rfl rfl ?_
          exact k10 h0 h14 h15 h16
        · refine x_iconst xc102_77 ?_
          refine x_goto xc102_78 ?_
          refine x_istore (pl' := [some (.ref 45), some (.ref w), some (xV c), some (xV i), some (xV rm), some (xV 1), none]) xc102_82 rfl rfl ?_
          refine x_iconst xc102_84 ?_
          refine x_istore (pl' := [some (.ref 45), some (.ref w), some (xV c), some (xV i), some (xV rm), some (xV 1), some (xV 0)]) xc102_85 rfl rfl ?_
          exact k11 h0 h14 h15 h16

theorem w102q {ro : Nat → Nat × (Nat → Int32)} {d : Nat} {Q : Option Value → pmS → Prop} {c i rm g q : Int} {w : Nat} {a : xA} {b : xB} (hz : uWz w) (hrm : 0 ≤ rm ∧ rm ≤ 6) (hg : g = 0 ∨ g = 1) (hq : 0 ≤ q ∧ q ≤ 4) (hd : 2 ≤ d)
    (k1 : (4 ≤ q) → Q (some (xV g)) (xS a b))
    (k2 : (¬ 4 ≤ q) → (uSl (b w 4) q = rm + 1) → pmWp ro d 7 102 2 87 [some (.ref 45), some (.ref w), some (xV c), some (xV i), some (xV rm), some (xV (xAnd g 0)), some (xV (q + 1))] [] (xS a b) Q)
    (k3 : (¬ 4 ≤ q) → (¬ uSl (b w 4) q = rm + 1) → pmWp ro d 7 102 2 87 [some (.ref 45), some (.ref w), some (xV c), some (xV i), some (xV rm), some (xV (g % 2)), some (xV (q + 1))] [] (xS a b) Q) :
    pmWp ro d 7 102 2 87 [some (.ref 45), some (.ref w), some (xV c), some (xV i), some (xV rm), some (xV g), some (xV q)] [] (xS a b) Q := by
  refine x_iload xc102_87 rfl ?_
  refine x_iconst xc102_89 ?_
  refine x_icge xc102_90 (xRk (by have g0 := hq; omega)) (xRk (by decide)) (fun h0 => ?_) (fun h0 => ?_)
  · refine x_iload xc102_125 rfl ?_
    refine x_iret xc102_127 (Or.inr ⟨rfl, (by have g0 := hg; omega)⟩) ?_
    exact k1 h0
  · refine x_iload xc102_93 rfl ?_
    refine x_aloadn xc102_95 rfl ?_
    refine x_gfl (k := 4) xc102_96 rfl rfl rfl hz.1 ?_
    refine x_iload xc102_99 rfl ?_
    refine x_cS (as := [.long (b w 4), xV q]) (rest := [xV g]) xc102_101 rfl rfl xi61 ⟨rfl, rfl⟩ rfl rfl ?_
    refine rk61 (by omega) (by have g0 := hq; omega) ?_
    refine x_iload xc102_104 rfl ?_
    refine x_iconst xc102_106 ?_
    refine x_iadd xc102_107 ?_
    refine x_iceq xc102_108 (xRk (by have g0 := uSl_b (l := b w 4) (j := q) (by have g0 := hq; omega) (by have g0 := hq; omega); omega)) (xRk (by have g0 := hrm; omega)) (fun h1 => ?_) (fun h1 => ?_)
    · refine x_iconst xc102_115 ?_
      refine x_iand xc102_116 ?_
      refine x_istore (pl' := [some (.ref 45), some (.ref w), some (xV c), some (xV i), some (xV rm), some (xV (xAnd g 0)), some (xV q)]) xc102_117 rfl rfl ?_
      refine x_iinc (pl' := [some (.ref 45), some (.ref w), some (xV c), some (xV i), some (xV rm), some (xV (xAnd g 0)), some (xV (q + 1))]) xc102_119 rfl rfl ?_
      refine x_goto xc102_122 ?_
      exact k2 h0 h1
    · refine x_iconst xc102_111 ?_
      refine x_goto xc102_112 ?_
      refine x_iandm (M := 2) 1 (by decide) (by decide) (by decide) xc102_116 ?_
      refine x_istore (pl' := [some (.ref 45), some (.ref w), some (xV c), some (xV i), some (xV rm), some (xV (g % 2)), some (xV q)]) xc102_117 rfl rfl ?_
      refine x_iinc (pl' := [some (.ref 45), some (.ref w), some (xV c), some (xV i), some (xV rm), some (xV (g % 2)), some (xV (q + 1))]) xc102_119 rfl rfl ?_
      refine x_goto xc102_122 ?_
      exact k3 h0 h1

theorem w104 {ro : Nat → Nat × (Nat → Int32)} {d : Nat} {Q : Option Value → pmS → Prop} {c : Int} {w : Nat} {a : xA} {b : xB} (hz : uWz w) (hc : 0 ≤ c ∧ c ≤ 511) (hA : xAr a) (hB6 : 0 ≤ a w 6 ∧ a w 6 ≤ 1000) (hB8 : 0 ≤ a w 8 ∧ a w 8 ≤ 1000) (hB9 : 0 ≤ a w 9 ∧ a w 9 ≤ 1000) (hB10 : 0 ≤ a w 10 ∧ a w 10 ≤ 1000000) (hB12 : 0 ≤ a w 12 ∧ a w 12 ≤ 1) (hd : 2 ≤ d)
    (k1 : (¬ c / 64 = 1) → pmCs ro d 59 [.ref 43, .ref w] (xS (uFg w (xU (xU (xU a w 10 (a w 10 + (uPc c (a w 8) (a w 9)))) w 9 (a w 9 + 1)) w 12 1)) (xU b w 4 (xWith (b w 4) ((c / 8) % 8) (c % 8 + 1)))) fun r σ' => pmWp ro d 7 104 0 108 [some (.ref 45), some (.ref w), some (xV c), some (xV ((c / 8) % 8)), some (xV (c % 8 + 1))] (r.toList ++ []) σ' Q)
    (k2 : (c / 64 = 1) → pmCs ro d 59 [.ref 43, .ref w] (xS (uFg w (xU (xU (xU a w 10 (a w 10 + (uPc c (a w 8) (a w 9)))) w 8 (a w 8 + 1)) w 12 1)) (xU b w 4 (xWith (b w 4) (4 + ((c / 8) % 8)) (c % 8 + 1)))) fun r σ' => pmWp ro d 7 104 0 108 [some (.ref 45), some (.ref w), some (xV c), some (xV ((c / 8) % 8)), some (xV (c % 8 + 1))] (r.toList ++ []) σ' Q) :
    pmWp ro d 7 104 0 0 [some (.ref 45), some (.ref w), some (xV c), none, none] [] (xS a b) Q := by
  refine x_iloadn xc104_0 rfl ?_
  refine x_iconst xc104_1 ?_
  refine x_ishr (M := 8) (by omega) (by omega) (by decide) (xRk (by have g0 := hc; omega)) xc104_2 ?_
  refine x_bipush xc104_3 (by decide) ?_
  refine x_iandm (M := 8) 3 (by decide) (by decide) (by decide) xc104_5 ?_
  refine x_istoren (pl' := [some (.ref 45), some (.ref w), some (xV c), some (xV ((c / 8) % 8)), none]) xc104_6 rfl rfl ?_
  refine x_iloadn xc104_7 rfl ?_
  refine x_bipush xc104_8 (by decide) ?_
  refine x_iandm (M := 8) 3 (by decide) (by decide) (by decide) xc104_10 ?_
  refine x_iconst xc104_11 ?_
  refine x_iadd xc104_12 ?_
  refine x_istore (pl' := [some (.ref 45), some (.ref w), some (xV c), some (xV ((c / 8) % 8)), some (xV (c % 8 + 1))]) xc104_13 rfl rfl ?_
  refine x_aloadn xc104_15 rfl ?_
  refine x_dup xc104_16 rfl ?_
  refine x_gfi (k := 10) xc104_17 rfl (Or.inl rfl) rfl hz.1 ?_
  refine x_aloadn xc104_20 rfl ?_
  refine x_aloadn xc104_21 rfl ?_
  refine x_iloadn xc104_22 rfl ?_
  refine x_cV (as := [.ref w, xV c]) (rest := [xV (a w 10), .ref w]) xc104_23 rfl xi103 xz45 ⟨rfl, rfl⟩ rfl rfl ?_
  refine rk103 (by omega) hz (by have g0 := hc; omega) hA hB6 hB8 hB9 hB10 hB12 ?_
  refine x_iadd xc104_26 ?_
  refine x_pfi (k := 10) xc104_27 rfl ⟨rfl, rfl⟩ rfl hz.1 ?_
  refine x_iloadn xc104_30 rfl ?_
  refine x_bipush xc104_31 (by decide) ?_
  refine x_ishr (M := 64) (by omega) (by omega) (by decide) (xRk (by have g0 := hc; omega)) xc104_33 ?_
  refine x_iconst xc104_34 ?_
  refine x_icne xc104_35 (xRk (by have g0 := hc; omega)) (xRk (by decide)) (fun h0 => ?_) (fun h0 => ?_)
  · refine x_aloadn xc104_67 rfl ?_
    refine x_aloadn xc104_68 rfl ?_
    refine x_gfl (k := 4) xc104_69 rfl rfl rfl hz.1 ?_
    refine x_iloadn xc104_72 rfl ?_
    refine x_iload xc104_73 rfl ?_
    refine x_cS (as := [.long (b w 4), xV ((c / 8) % 8), xV (c % 8 + 1)]) (rest := [.ref w]) xc104_75 rfl rfl xi19 ⟨rfl, rfl⟩ rfl rfl ?_
    refine xk19 (by omega) (xRk (by have g0 := hc; omega)) (xRk (by have g0 := hc; omega)) ?_
    refine x_pfl (k := 4) xc104_78 rfl ⟨rfl, rfl⟩ rfl hz.1 ?_
    refine x_aloadn xc104_81 rfl ?_
    refine x_dup xc104_82 rfl ?_
    refine x_gfi' (k := 9) (v := a w 9) xc104_83 rfl (Or.inl rfl) rfl hz.1 (by rw [xUk (by decide)]) ?_
    refine x_iconst xc104_86 ?_
    refine x_iadd xc104_87 ?_
    refine x_pfi (k := 9) xc104_88 rfl ⟨rfl, rfl⟩ rfl hz.1 ?_
    refine x_aloadn xc104_91 rfl ?_
    refine x_iconst xc104_92 ?_
    refine x_pfz (k := 12) (by omega) xc104_93 rfl ⟨rfl, rfl⟩ rfl hz.1 ?_
    refine x_aloadn xc104_96 rfl ?_
    refine x_cV (as := []) (rest := []) xc104_97 rfl xi67 hz.1 ⟨rfl, rfl⟩ rfl rfl ?_
    refine rk67 hz (by omega) ?_
    refine x_aloadn xc104_100 rfl ?_
    refine x_gfr xc104_101 rfl rfl xz45 rfl ?_
    refine x_aloadn xc104_104 rfl ?_
    refine x_cV (as := [.ref w]) (rest := []) xc104_105 rfl xi59 xz43 ⟨rfl, rfl⟩ rfl rfl ?_
    exact k1 h0
  · replace h0 := Classical.not_not.mp h0
    refine x_aloadn xc104_38 rfl ?_
    refine x_aloadn xc104_39 rfl ?_
    refine x_gfl (k := 4) xc104_40 rfl rfl rfl hz.1 ?_
    refine x_iconst xc104_43 ?_
    refine x_iloadn xc104_44 rfl ?_
    refine x_iadd xc104_45 ?_
    refine x_iload xc104_46 rfl ?_
    refine x_cS (as := [.long (b w 4), xV (4 + ((c / 8) % 8)), xV (c % 8 + 1)]) (rest := [.ref w]) xc104_48 rfl rfl xi19 ⟨rfl, rfl⟩ rfl rfl ?_
    refine xk19 (by omega) (xRk (by have g0 := hc; omega)) (xRk (by have g0 := hc; omega)) ?_
    refine x_pfl (k := 4) xc104_51 rfl ⟨rfl, rfl⟩ rfl hz.1 ?_
    refine x_aloadn xc104_54 rfl ?_
    refine x_dup xc104_55 rfl ?_
    refine x_gfi' (k := 8) (v := a w 8) xc104_56 rfl (Or.inl rfl) rfl hz.1 (by rw [xUk (by decide)]) ?_
    refine x_iconst xc104_59 ?_
    refine x_iadd xc104_60 ?_
    refine x_pfi (k := 8) xc104_61 rfl ⟨rfl, rfl⟩ rfl hz.1 ?_
    refine x_goto xc104_64 ?_
    refine x_aloadn xc104_91 rfl ?_
    refine x_iconst xc104_92 ?_
    refine x_pfz (k := 12) (by omega) xc104_93 rfl ⟨rfl, rfl⟩ rfl hz.1 ?_
    refine x_aloadn xc104_96 rfl ?_
    refine x_cV (as := []) (rest := []) xc104_97 rfl xi67 hz.1 ⟨rfl, rfl⟩ rfl rfl ?_
    refine rk67 hz (by omega) ?_
    refine x_aloadn xc104_100 rfl ?_
    refine x_gfr xc104_101 rfl rfl xz45 rfl ?_
    refine x_aloadn xc104_104 rfl ?_
    refine x_cV (as := [.ref w]) (rest := []) xc104_105 rfl xi59 xz43 ⟨rfl, rfl⟩ rfl rfl ?_
    exact k2 h0

theorem xg104 {ro : Nat → Nat × (Nat → Int32)} {d : Nat} {Q : Option Value → pmS → Prop} {a : xA} {b : xB} {c : Int} {w : Nat} (h : pmWp ro d 7 104 0 0 [some (.ref 45), some (.ref w), some (xV c), none, none] [] (xS a b) Q) : pmCs ro (d + 1) 104 [.ref 45, .ref w, xV c] (xS a b) Q := x_go xi104 rfl rfl rfl rfl rfl h
theorem w104r {ro : Nat → Nat × (Nat → Int32)} {d : Nat} {Q : Option Value → pmS → Prop} {c i rm : Int} {w : Nat} {a : xA} {b : xB}
    (k1 : Q none (xS a b)) :
    pmWp ro d 7 104 0 108 [some (.ref 45), some (.ref w), some (xV c), some (xV i), some (xV rm)] [] (xS a b) Q := by
  refine x_ret xc104_108 rfl ?_
  exact k1

end
