/-! exact: the reference, looking -/
section
set_option maxRecDepth 100000
theorem xi144 : pmInf[144]? = some pmI_144 := rfl
theorem xi175 : pmInf[175]? = some pmI_175 := rfl
theorem xi176 : pmInf[176]? = some pmI_176 := rfl
theorem xi177 : pmInf[177]? = some pmI_177 := rfl
theorem xi178 : pmInf[178]? = some pmI_178 := rfl
theorem xi179 : pmInf[179]? = some pmI_179 := rfl
theorem xi180 : pmInf[180]? = some pmI_180 := rfl
theorem xc144_0 : pmCode 144 0 = some (.iconst 0) ∧ 0 + 1 = 1 := ⟨rfl, rfl⟩
theorem xc144_1 : pmCode 144 1 = some (.istore_n 1) ∧ 1 + 1 = 2 := ⟨rfl, rfl⟩
theorem xc144_2 : pmCode 144 2 = some (.iconst 0) ∧ 2 + 1 = 3 := ⟨rfl, rfl⟩
theorem xc144_3 : pmCode 144 3 = some (.istore_n 2) ∧ 3 + 1 = 4 := ⟨rfl, rfl⟩
theorem xc144_4 : pmCode 144 4 = some (.iload_n 2) ∧ 4 + 1 = 5 := ⟨rfl, rfl⟩
theorem xc144_5 : pmCode 144 5 = some (.bipush 7) ∧ 5 + 2 = 7 := ⟨rfl, rfl⟩
theorem xc144_7 : pmCode 144 7 = some (.if_icmp .ge 17) ∧ ((7 : Nat) : Int) + 17 = ((24 : Nat) : Int) ∧ 7 + 3 = 10 := ⟨rfl, rfl, rfl⟩
theorem xc144_10 : pmCode 144 10 = some (.iload_n 1) ∧ 10 + 1 = 11 := ⟨rfl, rfl⟩
theorem xc144_11 : pmCode 144 11 = some (.iload_n 0) ∧ 11 + 1 = 12 := ⟨rfl, rfl⟩
theorem xc144_12 : pmCode 144 12 = some (.iload_n 2) ∧ 12 + 1 = 13 := ⟨rfl, rfl⟩
theorem xc144_13 : pmCode 144 13 = some .ishr ∧ 13 + 1 = 14 := ⟨rfl, rfl⟩
theorem xc144_14 : pmCode 144 14 = some (.iconst 1) ∧ 14 + 1 = 15 := ⟨rfl, rfl⟩
theorem xc144_15 : pmCode 144 15 = some .iand ∧ 15 + 1 = 16 := ⟨rfl, rfl⟩
theorem xc144_16 : pmCode 144 16 = some .iadd ∧ 16 + 1 = 17 := ⟨rfl, rfl⟩
theorem xc144_17 : pmCode 144 17 = some (.istore_n 1) ∧ 17 + 1 = 18 := ⟨rfl, rfl⟩
theorem xc144_18 : pmCode 144 18 = some (.iinc 2 1) ∧ 18 + 3 = 21 := ⟨rfl, rfl⟩
theorem xc144_21 : pmCode 144 21 = some (.goto (-17)) ∧ ((21 : Nat) : Int) + (-17) = ((4 : Nat) : Int) := ⟨rfl, rfl⟩
theorem xc144_24 : pmCode 144 24 = some (.iload_n 1) ∧ 24 + 1 = 25 := ⟨rfl, rfl⟩
theorem xc144_25 : pmCode 144 25 = some .ireturn := rfl
theorem xc174_0 : pmCode 174 0 = some (.aload_n 0) ∧ 0 + 1 = 1 := ⟨rfl, rfl⟩
theorem xc174_1 : pmCode 174 1 = some (.invokevirtual 266) ∧ 1 + 3 = 4 := ⟨rfl, rfl⟩
theorem xc174_4 : pmCode 174 4 = some (.iconst 1) ∧ 4 + 1 = 5 := ⟨rfl, rfl⟩
theorem xc174_5 : pmCode 174 5 = some (.istore_n 1) ∧ 5 + 1 = 6 := ⟨rfl, rfl⟩
theorem xc174_6 : pmCode 174 6 = some (.iload_n 1) ∧ 6 + 1 = 7 := ⟨rfl, rfl⟩
theorem xc174_7 : pmCode 174 7 = some (.iconst 4) ∧ 7 + 1 = 8 := ⟨rfl, rfl⟩
theorem xc174_8 : pmCode 174 8 = some (.if_icmp .ge 22) ∧ ((8 : Nat) : Int) + 22 = ((30 : Nat) : Int) ∧ 8 + 3 = 11 := ⟨rfl, rfl, rfl⟩
theorem xc174_11 : pmCode 174 11 = some (.aload_n 0) ∧ 11 + 1 = 12 := ⟨rfl, rfl⟩
theorem xc174_12 : pmCode 174 12 = some (.iload_n 1) ∧ 12 + 1 = 13 := ⟨rfl, rfl⟩
theorem xc174_13 : pmCode 174 13 = some (.invokevirtual 253) ∧ 13 + 3 = 16 := ⟨rfl, rfl⟩
theorem xc174_16 : pmCode 174 16 = some (.ifCond .eq 8) ∧ ((16 : Nat) : Int) + 8 = ((24 : Nat) : Int) ∧ 16 + 3 = 19 := ⟨rfl, rfl, rfl⟩
theorem xc174_19 : pmCode 174 19 = some (.aload_n 0) ∧ 19 + 1 = 20 := ⟨rfl, rfl⟩
theorem xc174_20 : pmCode 174 20 = some (.iload_n 1) ∧ 20 + 1 = 21 := ⟨rfl, rfl⟩
theorem xc174_21 : pmCode 174 21 = some (.invokevirtual 269) ∧ 21 + 3 = 24 := ⟨rfl, rfl⟩
theorem xc174_24 : pmCode 174 24 = some (.iinc 1 1) ∧ 24 + 3 = 27 := ⟨rfl, rfl⟩
theorem xc174_27 : pmCode 174 27 = some (.goto (-21)) ∧ ((27 : Nat) : Int) + (-21) = ((6 : Nat) : Int) := ⟨rfl, rfl⟩
theorem xc174_30 : pmCode 174 30 = some .return_ := rfl
theorem xc175_0 : pmCode 175 0 = some (.iconst 0) ∧ 0 + 1 = 1 := ⟨rfl, rfl⟩
theorem xc175_1 : pmCode 175 1 = some (.istore_n 1) ∧ 1 + 1 = 2 := ⟨rfl, rfl⟩
theorem xc175_2 : pmCode 175 2 = some (.iload_n 1) ∧ 2 + 1 = 3 := ⟨rfl, rfl⟩
theorem xc175_3 : pmCode 175 3 = some (.iconst 4) ∧ 3 + 1 = 4 := ⟨rfl, rfl⟩
theorem xc175_4 : pmCode 175 4 = some (.if_icmp .ge 129) ∧ ((4 : Nat) : Int) + 129 = ((133 : Nat) : Int) ∧ 4 + 3 = 7 := ⟨rfl, rfl, rfl⟩
theorem xc175_7 : pmCode 175 7 = some (.iconst 0) ∧ 7 + 1 = 8 := ⟨rfl, rfl⟩
theorem xc175_8 : pmCode 175 8 = some (.istore_n 2) ∧ 8 + 1 = 9 := ⟨rfl, rfl⟩
theorem xc175_9 : pmCode 175 9 = some (.iload_n 2) ∧ 9 + 1 = 10 := ⟨rfl, rfl⟩
theorem xc175_10 : pmCode 175 10 = some (.aload_n 0) ∧ 10 + 1 = 11 := ⟨rfl, rfl⟩
theorem xc175_11 : pmCode 175 11 = some (.getfield 127) ∧ 11 + 3 = 14 := ⟨rfl, rfl⟩
theorem xc175_14 : pmCode 175 14 = some (.if_icmp .ge 113) ∧ ((14 : Nat) : Int) + 113 = ((127 : Nat) : Int) ∧ 14 + 3 = 17 := ⟨rfl, rfl, rfl⟩
theorem xc175_17 : pmCode 175 17 = some (.aload_n 0) ∧ 17 + 1 = 18 := ⟨rfl, rfl⟩
theorem xc175_18 : pmCode 175 18 = some (.iload_n 1) ∧ 18 + 1 = 19 := ⟨rfl, rfl⟩
theorem xc175_19 : pmCode 175 19 = some (.invokevirtual 253) ∧ 19 + 3 = 22 := ⟨rfl, rfl⟩
theorem xc175_22 : pmCode 175 22 = some (.ifCond .eq 105) ∧ ((22 : Nat) : Int) + 105 = ((127 : Nat) : Int) ∧ 22 + 3 = 25 := ⟨rfl, rfl, rfl⟩
theorem xc175_25 : pmCode 175 25 = some (.iconst 1) ∧ 25 + 1 = 26 := ⟨rfl, rfl⟩
theorem xc175_26 : pmCode 175 26 = some (.aload_n 0) ∧ 26 + 1 = 27 := ⟨rfl, rfl⟩
theorem xc175_27 : pmCode 175 27 = some (.getfield 7) ∧ 27 + 3 = 30 := ⟨rfl, rfl⟩
theorem xc175_30 : pmCode 175 30 = some (.iconst 0) ∧ 30 + 1 = 31 := ⟨rfl, rfl⟩
theorem xc175_31 : pmCode 175 31 = some (.iload_n 1) ∧ 31 + 1 = 32 := ⟨rfl, rfl⟩
theorem xc175_32 : pmCode 175 32 = some .iadd ∧ 32 + 1 = 33 := ⟨rfl, rfl⟩
theorem xc175_33 : pmCode 175 33 = some .iaload ∧ 33 + 1 = 34 := ⟨rfl, rfl⟩
theorem xc175_34 : pmCode 175 34 = some .ishl ∧ 34 + 1 = 35 := ⟨rfl, rfl⟩
theorem xc175_35 : pmCode 175 35 = some (.istore_n 3) ∧ 35 + 1 = 36 := ⟨rfl, rfl⟩
theorem xc175_36 : pmCode 175 36 = some (.aload_n 0) ∧ 36 + 1 = 37 := ⟨rfl, rfl⟩
theorem xc175_37 : pmCode 175 37 = some (.getfield 7) ∧ 37 + 3 = 40 := ⟨rfl, rfl⟩
theorem xc175_40 : pmCode 175 40 = some (.iconst 4) ∧ 40 + 1 = 41 := ⟨rfl, rfl⟩
theorem xc175_41 : pmCode 175 41 = some (.iload_n 2) ∧ 41 + 1 = 42 := ⟨rfl, rfl⟩
theorem xc175_42 : pmCode 175 42 = some .iadd ∧ 42 + 1 = 43 := ⟨rfl, rfl⟩
theorem xc175_43 : pmCode 175 43 = some .iaload ∧ 43 + 1 = 44 := ⟨rfl, rfl⟩
theorem xc175_44 : pmCode 175 44 = some (.bipush 20) ∧ 44 + 2 = 46 := ⟨rfl, rfl⟩
theorem xc175_46 : pmCode 175 46 = some (.if_icmp .ne 75) ∧ ((46 : Nat) : Int) + 75 = ((121 : Nat) : Int) ∧ 46 + 3 = 49 := ⟨rfl, rfl, rfl⟩
theorem xc175_49 : pmCode 175 49 = some (.aload_n 0) ∧ 49 + 1 = 50 := ⟨rfl, rfl⟩
theorem xc175_50 : pmCode 175 50 = some (.getfield 7) ∧ 50 + 3 = 53 := ⟨rfl, rfl⟩
theorem xc175_53 : pmCode 175 53 = some (.bipush 9) ∧ 53 + 2 = 55 := ⟨rfl, rfl⟩
theorem xc175_55 : pmCode 175 55 = some (.iload_n 2) ∧ 55 + 1 = 56 := ⟨rfl, rfl⟩
theorem xc175_56 : pmCode 175 56 = some .iadd ∧ 56 + 1 = 57 := ⟨rfl, rfl⟩
theorem xc175_57 : pmCode 175 57 = some .iaload ∧ 57 + 1 = 58 := ⟨rfl, rfl⟩
theorem xc175_58 : pmCode 175 58 = some (.iload_n 3) ∧ 58 + 1 = 59 := ⟨rfl, rfl⟩
theorem xc175_59 : pmCode 175 59 = some .iand ∧ 59 + 1 = 60 := ⟨rfl, rfl⟩
theorem xc175_60 : pmCode 175 60 = some (.ifCond .ne 6) ∧ ((60 : Nat) : Int) + 6 = ((66 : Nat) : Int) ∧ 60 + 3 = 63 := ⟨rfl, rfl, rfl⟩
theorem xc175_63 : pmCode 175 63 = some (.goto 58) ∧ ((63 : Nat) : Int) + 58 = ((121 : Nat) : Int) := ⟨rfl, rfl⟩
theorem xc175_66 : pmCode 175 66 = some (.aload_n 0) ∧ 66 + 1 = 67 := ⟨rfl, rfl⟩
theorem xc175_67 : pmCode 175 67 = some (.getfield 7) ∧ 67 + 3 = 70 := ⟨rfl, rfl⟩
theorem xc175_70 : pmCode 175 70 = some (.bipush 9) ∧ 70 + 2 = 72 := ⟨rfl, rfl⟩
theorem xc175_72 : pmCode 175 72 = some (.iload_n 2) ∧ 72 + 1 = 73 := ⟨rfl, rfl⟩
theorem xc175_73 : pmCode 175 73 = some .iadd ∧ 73 + 1 = 74 := ⟨rfl, rfl⟩
theorem xc175_74 : pmCode 175 74 = some (.aload_n 0) ∧ 74 + 1 = 75 := ⟨rfl, rfl⟩
theorem xc175_75 : pmCode 175 75 = some (.getfield 7) ∧ 75 + 3 = 78 := ⟨rfl, rfl⟩
theorem xc175_78 : pmCode 175 78 = some (.bipush 9) ∧ 78 + 2 = 80 := ⟨rfl, rfl⟩
theorem xc175_80 : pmCode 175 80 = some (.iload_n 2) ∧ 80 + 1 = 81 := ⟨rfl, rfl⟩
theorem xc175_81 : pmCode 175 81 = some .iadd ∧ 81 + 1 = 82 := ⟨rfl, rfl⟩
theorem xc175_82 : pmCode 175 82 = some .iaload ∧ 82 + 1 = 83 := ⟨rfl, rfl⟩
theorem xc175_83 : pmCode 175 83 = some (.iload_n 3) ∧ 83 + 1 = 84 := ⟨rfl, rfl⟩
theorem xc175_84 : pmCode 175 84 = some (.iconst (-1)) ∧ 84 + 1 = 85 := ⟨rfl, rfl⟩
theorem xc175_85 : pmCode 175 85 = some .ixor ∧ 85 + 1 = 86 := ⟨rfl, rfl⟩
theorem xc175_86 : pmCode 175 86 = some .iand ∧ 86 + 1 = 87 := ⟨rfl, rfl⟩
theorem xc175_87 : pmCode 175 87 = some .iastore ∧ 87 + 1 = 88 := ⟨rfl, rfl⟩
theorem xc175_88 : pmCode 175 88 = some (.aload_n 0) ∧ 88 + 1 = 89 := ⟨rfl, rfl⟩
theorem xc175_89 : pmCode 175 89 = some (.getfield 7) ∧ 89 + 3 = 92 := ⟨rfl, rfl⟩
theorem xc175_92 : pmCode 175 92 = some (.bipush 9) ∧ 92 + 2 = 94 := ⟨rfl, rfl⟩
theorem xc175_94 : pmCode 175 94 = some (.iload_n 2) ∧ 94 + 1 = 95 := ⟨rfl, rfl⟩
theorem xc175_95 : pmCode 175 95 = some .iadd ∧ 95 + 1 = 96 := ⟨rfl, rfl⟩
theorem xc175_96 : pmCode 175 96 = some .iaload ∧ 96 + 1 = 97 := ⟨rfl, rfl⟩
theorem xc175_97 : pmCode 175 97 = some (.invokestatic 146) ∧ 97 + 3 = 100 := ⟨rfl, rfl⟩
theorem xc175_100 : pmCode 175 100 = some (.iconst 1) ∧ 100 + 1 = 101 := ⟨rfl, rfl⟩
theorem xc175_101 : pmCode 175 101 = some (.if_icmp .ne 20) ∧ ((101 : Nat) : Int) + 20 = ((121 : Nat) : Int) ∧ 101 + 3 = 104 := ⟨rfl, rfl, rfl⟩
theorem xc175_104 : pmCode 175 104 = some (.aload_n 0) ∧ 104 + 1 = 105 := ⟨rfl, rfl⟩
theorem xc175_105 : pmCode 175 105 = some (.iload_n 2) ∧ 105 + 1 = 106 := ⟨rfl, rfl⟩
theorem xc175_106 : pmCode 175 106 = some (.aload_n 0) ∧ 106 + 1 = 107 := ⟨rfl, rfl⟩
theorem xc175_107 : pmCode 175 107 = some (.getfield 7) ∧ 107 + 3 = 110 := ⟨rfl, rfl⟩
theorem xc175_110 : pmCode 175 110 = some (.bipush 9) ∧ 110 + 2 = 112 := ⟨rfl, rfl⟩
theorem xc175_112 : pmCode 175 112 = some (.iload_n 2) ∧ 112 + 1 = 113 := ⟨rfl, rfl⟩
theorem xc175_113 : pmCode 175 113 = some .iadd ∧ 113 + 1 = 114 := ⟨rfl, rfl⟩
theorem xc175_114 : pmCode 175 114 = some .iaload ∧ 114 + 1 = 115 := ⟨rfl, rfl⟩
theorem xc175_115 : pmCode 175 115 = some (.invokestatic 256) ∧ 115 + 3 = 118 := ⟨rfl, rfl⟩
theorem xc175_118 : pmCode 175 118 = some (.invokevirtual 259) ∧ 118 + 3 = 121 := ⟨rfl, rfl⟩
theorem xc175_121 : pmCode 175 121 = some (.iinc 2 1) ∧ 121 + 3 = 124 := ⟨rfl, rfl⟩
theorem xc175_124 : pmCode 175 124 = some (.goto (-115)) ∧ ((124 : Nat) : Int) + (-115) = ((9 : Nat) : Int) := ⟨rfl, rfl⟩
theorem xc175_127 : pmCode 175 127 = some (.iinc 1 1) ∧ 127 + 3 = 130 := ⟨rfl, rfl⟩
theorem xc175_130 : pmCode 175 130 = some (.goto (-128)) ∧ ((130 : Nat) : Int) + (-128) = ((2 : Nat) : Int) := ⟨rfl, rfl⟩
theorem xc175_133 : pmCode 175 133 = some .return_ := rfl
theorem xc176_0 : pmCode 176 0 = some (.aload_n 0) ∧ 0 + 1 = 1 := ⟨rfl, rfl⟩
theorem xc176_1 : pmCode 176 1 = some (.getfield 7) ∧ 1 + 3 = 4 := ⟨rfl, rfl⟩
theorem xc176_4 : pmCode 176 4 = some (.iconst 0) ∧ 4 + 1 = 5 := ⟨rfl, rfl⟩
theorem xc176_5 : pmCode 176 5 = some (.iload_n 1) ∧ 5 + 1 = 6 := ⟨rfl, rfl⟩
theorem xc176_6 : pmCode 176 6 = some .iadd ∧ 6 + 1 = 7 := ⟨rfl, rfl⟩
theorem xc176_7 : pmCode 176 7 = some .iaload ∧ 7 + 1 = 8 := ⟨rfl, rfl⟩
theorem xc176_8 : pmCode 176 8 = some (.bipush 7) ∧ 8 + 2 = 10 := ⟨rfl, rfl⟩
theorem xc176_10 : pmCode 176 10 = some (.if_icmp .eq 7) ∧ ((10 : Nat) : Int) + 7 = ((17 : Nat) : Int) ∧ 10 + 3 = 13 := ⟨rfl, rfl, rfl⟩
theorem xc176_13 : pmCode 176 13 = some (.iconst 1) ∧ 13 + 1 = 14 := ⟨rfl, rfl⟩
theorem xc176_14 : pmCode 176 14 = some (.goto 4) ∧ ((14 : Nat) : Int) + 4 = ((18 : Nat) : Int) := ⟨rfl, rfl⟩
theorem xc176_17 : pmCode 176 17 = some (.iconst 0) ∧ 17 + 1 = 18 := ⟨rfl, rfl⟩
theorem xc176_18 : pmCode 176 18 = some .ireturn := rfl
theorem xc177_0 : pmCode 177 0 = some (.iconst 0) ∧ 0 + 1 = 1 := ⟨rfl, rfl⟩
theorem xc177_1 : pmCode 177 1 = some (.istore_n 1) ∧ 1 + 1 = 2 := ⟨rfl, rfl⟩
theorem xc177_2 : pmCode 177 2 = some (.iload_n 0) ∧ 2 + 1 = 3 := ⟨rfl, rfl⟩
theorem xc177_3 : pmCode 177 3 = some (.iload_n 1) ∧ 3 + 1 = 4 := ⟨rfl, rfl⟩
theorem xc177_4 : pmCode 177 4 = some .ishr ∧ 4 + 1 = 5 := ⟨rfl, rfl⟩
theorem xc177_5 : pmCode 177 5 = some (.iconst 1) ∧ 5 + 1 = 6 := ⟨rfl, rfl⟩
theorem xc177_6 : pmCode 177 6 = some .iand ∧ 6 + 1 = 7 := ⟨rfl, rfl⟩
theorem xc177_7 : pmCode 177 7 = some (.ifCond .ne 10) ∧ ((7 : Nat) : Int) + 10 = ((17 : Nat) : Int) ∧ 7 + 3 = 10 := ⟨rfl, rfl, rfl⟩
theorem xc177_10 : pmCode 177 10 = some (.iload_n 1) ∧ 10 + 1 = 11 := ⟨rfl, rfl⟩
theorem xc177_11 : pmCode 177 11 = some (.iconst 1) ∧ 11 + 1 = 12 := ⟨rfl, rfl⟩
theorem xc177_12 : pmCode 177 12 = some .iadd ∧ 12 + 1 = 13 := ⟨rfl, rfl⟩
theorem xc177_13 : pmCode 177 13 = some (.istore_n 1) ∧ 13 + 1 = 14 := ⟨rfl, rfl⟩
theorem xc177_14 : pmCode 177 14 = some (.goto (-12)) ∧ ((14 : Nat) : Int) + (-12) = ((2 : Nat) : Int) := ⟨rfl, rfl⟩
theorem xc177_17 : pmCode 177 17 = some (.iload_n 1) ∧ 17 + 1 = 18 := ⟨rfl, rfl⟩
theorem xc177_18 : pmCode 177 18 = some .ireturn := rfl
theorem xc178_0 : pmCode 178 0 = some (.aload_n 0) ∧ 0 + 1 = 1 := ⟨rfl, rfl⟩
theorem xc178_1 : pmCode 178 1 = some (.getfield 7) ∧ 1 + 3 = 4 := ⟨rfl, rfl⟩
theorem xc178_4 : pmCode 178 4 = some (.iconst 4) ∧ 4 + 1 = 5 := ⟨rfl, rfl⟩
theorem xc178_5 : pmCode 178 5 = some (.iload_n 1) ∧ 5 + 1 = 6 := ⟨rfl, rfl⟩
theorem xc178_6 : pmCode 178 6 = some .iadd ∧ 6 + 1 = 7 := ⟨rfl, rfl⟩
theorem xc178_7 : pmCode 178 7 = some (.iload_n 2) ∧ 7 + 1 = 8 := ⟨rfl, rfl⟩
theorem xc178_8 : pmCode 178 8 = some .iastore ∧ 8 + 1 = 9 := ⟨rfl, rfl⟩
theorem xc178_9 : pmCode 178 9 = some (.aload_n 0) ∧ 9 + 1 = 10 := ⟨rfl, rfl⟩
theorem xc178_10 : pmCode 178 10 = some (.getfield 7) ∧ 10 + 3 = 13 := ⟨rfl, rfl⟩
theorem xc178_13 : pmCode 178 13 = some (.bipush 9) ∧ 13 + 2 = 15 := ⟨rfl, rfl⟩
theorem xc178_15 : pmCode 178 15 = some (.iload_n 1) ∧ 15 + 1 = 16 := ⟨rfl, rfl⟩
theorem xc178_16 : pmCode 178 16 = some .iadd ∧ 16 + 1 = 17 := ⟨rfl, rfl⟩
theorem xc178_17 : pmCode 178 17 = some (.iconst 0) ∧ 17 + 1 = 18 := ⟨rfl, rfl⟩
theorem xc178_18 : pmCode 178 18 = some .iastore ∧ 18 + 1 = 19 := ⟨rfl, rfl⟩
theorem xc178_19 : pmCode 178 19 = some .return_ := rfl
theorem xc179_0 : pmCode 179 0 = some (.aload_n 0) ∧ 0 + 1 = 1 := ⟨rfl, rfl⟩
theorem xc179_1 : pmCode 179 1 = some (.getfield 7) ∧ 1 + 3 = 4 := ⟨rfl, rfl⟩
theorem xc179_4 : pmCode 179 4 = some (.iconst 0) ∧ 4 + 1 = 5 := ⟨rfl, rfl⟩
theorem xc179_5 : pmCode 179 5 = some (.iload_n 1) ∧ 5 + 1 = 6 := ⟨rfl, rfl⟩
theorem xc179_6 : pmCode 179 6 = some .iadd ∧ 6 + 1 = 7 := ⟨rfl, rfl⟩
theorem xc179_7 : pmCode 179 7 = some .iaload ∧ 7 + 1 = 8 := ⟨rfl, rfl⟩
theorem xc179_8 : pmCode 179 8 = some (.istore_n 2) ∧ 8 + 1 = 9 := ⟨rfl, rfl⟩
theorem xc179_9 : pmCode 179 9 = some (.iconst 0) ∧ 9 + 1 = 10 := ⟨rfl, rfl⟩
theorem xc179_10 : pmCode 179 10 = some (.istore_n 3) ∧ 10 + 1 = 11 := ⟨rfl, rfl⟩
theorem xc179_11 : pmCode 179 11 = some (.iload_n 3) ∧ 11 + 1 = 12 := ⟨rfl, rfl⟩
theorem xc179_12 : pmCode 179 12 = some (.aload_n 0) ∧ 12 + 1 = 13 := ⟨rfl, rfl⟩
theorem xc179_13 : pmCode 179 13 = some (.getfield 127) ∧ 13 + 3 = 16 := ⟨rfl, rfl⟩
theorem xc179_16 : pmCode 179 16 = some (.if_icmp .ge 102) ∧ ((16 : Nat) : Int) + 102 = ((118 : Nat) : Int) ∧ 16 + 3 = 19 := ⟨rfl, rfl, rfl⟩
theorem xc179_19 : pmCode 179 19 = some (.aload_n 0) ∧ 19 + 1 = 20 := ⟨rfl, rfl⟩
theorem xc179_20 : pmCode 179 20 = some (.getfield 7) ∧ 20 + 3 = 23 := ⟨rfl, rfl⟩
theorem xc179_23 : pmCode 179 23 = some (.iconst 4) ∧ 23 + 1 = 24 := ⟨rfl, rfl⟩
theorem xc179_24 : pmCode 179 24 = some (.iload_n 3) ∧ 24 + 1 = 25 := ⟨rfl, rfl⟩
theorem xc179_25 : pmCode 179 25 = some .iadd ∧ 25 + 1 = 26 := ⟨rfl, rfl⟩
theorem xc179_26 : pmCode 179 26 = some .iaload ∧ 26 + 1 = 27 := ⟨rfl, rfl⟩
theorem xc179_27 : pmCode 179 27 = some (.istore 4) ∧ 27 + 2 = 29 := ⟨rfl, rfl⟩
theorem xc179_29 : pmCode 179 29 = some (.aload_n 0) ∧ 29 + 1 = 30 := ⟨rfl, rfl⟩
theorem xc179_30 : pmCode 179 30 = some (.getfield 7) ∧ 30 + 3 = 33 := ⟨rfl, rfl⟩
theorem xc179_33 : pmCode 179 33 = some (.iload_n 1) ∧ 33 + 1 = 34 := ⟨rfl, rfl⟩
theorem xc179_34 : pmCode 179 34 = some (.iload_n 3) ∧ 34 + 1 = 35 := ⟨rfl, rfl⟩
theorem xc179_35 : pmCode 179 35 = some (.invokestatic 160) ∧ 35 + 3 = 38 := ⟨rfl, rfl⟩
theorem xc179_38 : pmCode 179 38 = some .iaload ∧ 38 + 1 = 39 := ⟨rfl, rfl⟩
theorem xc179_39 : pmCode 179 39 = some (.istore 5) ∧ 39 + 2 = 41 := ⟨rfl, rfl⟩
theorem xc179_41 : pmCode 179 41 = some (.iload 4) ∧ 41 + 2 = 43 := ⟨rfl, rfl⟩
theorem xc179_43 : pmCode 179 43 = some (.iload_n 2) ∧ 43 + 1 = 44 := ⟨rfl, rfl⟩
theorem xc179_44 : pmCode 179 44 = some (.if_icmp .eq 16) ∧ ((44 : Nat) : Int) + 16 = ((60 : Nat) : Int) ∧ 44 + 3 = 47 := ⟨rfl, rfl, rfl⟩
theorem xc179_47 : pmCode 179 47 = some (.aload_n 0) ∧ 47 + 1 = 48 := ⟨rfl, rfl⟩
theorem xc179_48 : pmCode 179 48 = some (.iload 4) ∧ 48 + 2 = 50 := ⟨rfl, rfl⟩
theorem xc179_50 : pmCode 179 50 = some (.bipush 10) ∧ 50 + 2 = 52 := ⟨rfl, rfl⟩
theorem xc179_52 : pmCode 179 52 = some .isub ∧ 52 + 1 = 53 := ⟨rfl, rfl⟩
theorem xc179_53 : pmCode 179 53 = some (.iload_n 2) ∧ 53 + 1 = 54 := ⟨rfl, rfl⟩
theorem xc179_54 : pmCode 179 54 = some (.invokevirtual 263) ∧ 54 + 3 = 57 := ⟨rfl, rfl⟩
theorem xc179_57 : pmCode 179 57 = some (.ifCond .eq 18) ∧ ((57 : Nat) : Int) + 18 = ((75 : Nat) : Int) ∧ 57 + 3 = 60 := ⟨rfl, rfl, rfl⟩
theorem xc179_60 : pmCode 179 60 = some (.aload_n 0) ∧ 60 + 1 = 61 := ⟨rfl, rfl⟩
theorem xc179_61 : pmCode 179 61 = some (.getfield 7) ∧ 61 + 3 = 64 := ⟨rfl, rfl⟩
theorem xc179_64 : pmCode 179 64 = some (.iload_n 1) ∧ 64 + 1 = 65 := ⟨rfl, rfl⟩
theorem xc179_65 : pmCode 179 65 = some (.iload_n 3) ∧ 65 + 1 = 66 := ⟨rfl, rfl⟩
theorem xc179_66 : pmCode 179 66 = some (.invokestatic 160) ∧ 66 + 3 = 69 := ⟨rfl, rfl⟩
theorem xc179_69 : pmCode 179 69 = some (.iload 4) ∧ 69 + 2 = 71 := ⟨rfl, rfl⟩
theorem xc179_71 : pmCode 179 71 = some .iastore ∧ 71 + 1 = 72 := ⟨rfl, rfl⟩
theorem xc179_72 : pmCode 179 72 = some (.goto 40) ∧ ((72 : Nat) : Int) + 40 = ((112 : Nat) : Int) := ⟨rfl, rfl⟩
theorem xc179_75 : pmCode 179 75 = some (.iload 5) ∧ 75 + 2 = 77 := ⟨rfl, rfl⟩
theorem xc179_77 : pmCode 179 77 = some (.iload_n 2) ∧ 77 + 1 = 78 := ⟨rfl, rfl⟩
theorem xc179_78 : pmCode 179 78 = some (.if_icmp .eq 23) ∧ ((78 : Nat) : Int) + 23 = ((101 : Nat) : Int) ∧ 78 + 3 = 81 := ⟨rfl, rfl, rfl⟩
theorem xc179_81 : pmCode 179 81 = some (.iload 5) ∧ 81 + 2 = 83 := ⟨rfl, rfl⟩
theorem xc179_83 : pmCode 179 83 = some (.bipush 10) ∧ 83 + 2 = 85 := ⟨rfl, rfl⟩
theorem xc179_85 : pmCode 179 85 = some (.if_icmp .lt 27) ∧ ((85 : Nat) : Int) + 27 = ((112 : Nat) : Int) ∧ 85 + 3 = 88 := ⟨rfl, rfl, rfl⟩
theorem xc179_88 : pmCode 179 88 = some (.aload_n 0) ∧ 88 + 1 = 89 := ⟨rfl, rfl⟩
theorem xc179_89 : pmCode 179 89 = some (.iload 5) ∧ 89 + 2 = 91 := ⟨rfl, rfl⟩
theorem xc179_91 : pmCode 179 91 = some (.bipush 10) ∧ 91 + 2 = 93 := ⟨rfl, rfl⟩
theorem xc179_93 : pmCode 179 93 = some .isub ∧ 93 + 1 = 94 := ⟨rfl, rfl⟩
theorem xc179_94 : pmCode 179 94 = some (.iload_n 2) ∧ 94 + 1 = 95 := ⟨rfl, rfl⟩
theorem xc179_95 : pmCode 179 95 = some (.invokevirtual 263) ∧ 95 + 3 = 98 := ⟨rfl, rfl⟩
theorem xc179_98 : pmCode 179 98 = some (.ifCond .eq 14) ∧ ((98 : Nat) : Int) + 14 = ((112 : Nat) : Int) ∧ 98 + 3 = 101 := ⟨rfl, rfl, rfl⟩
theorem xc179_101 : pmCode 179 101 = some (.aload_n 0) ∧ 101 + 1 = 102 := ⟨rfl, rfl⟩
theorem xc179_102 : pmCode 179 102 = some (.getfield 7) ∧ 102 + 3 = 105 := ⟨rfl, rfl⟩
theorem xc179_105 : pmCode 179 105 = some (.iload_n 1) ∧ 105 + 1 = 106 := ⟨rfl, rfl⟩
theorem xc179_106 : pmCode 179 106 = some (.iload_n 3) ∧ 106 + 1 = 107 := ⟨rfl, rfl⟩
theorem xc179_107 : pmCode 179 107 = some (.invokestatic 160) ∧ 107 + 3 = 110 := ⟨rfl, rfl⟩
theorem xc179_110 : pmCode 179 110 = some (.iconst (-1)) ∧ 110 + 1 = 111 := ⟨rfl, rfl⟩
theorem xc179_111 : pmCode 179 111 = some .iastore ∧ 111 + 1 = 112 := ⟨rfl, rfl⟩
theorem xc179_112 : pmCode 179 112 = some (.iinc 3 1) ∧ 112 + 3 = 115 := ⟨rfl, rfl⟩
theorem xc179_115 : pmCode 179 115 = some (.goto (-104)) ∧ ((115 : Nat) : Int) + (-104) = ((11 : Nat) : Int) := ⟨rfl, rfl⟩
theorem xc179_118 : pmCode 179 118 = some (.iconst 0) ∧ 118 + 1 = 119 := ⟨rfl, rfl⟩
theorem xc179_119 : pmCode 179 119 = some (.istore_n 3) ∧ 119 + 1 = 120 := ⟨rfl, rfl⟩
theorem xc179_120 : pmCode 179 120 = some (.iload_n 3) ∧ 120 + 1 = 121 := ⟨rfl, rfl⟩
theorem xc179_121 : pmCode 179 121 = some (.iconst 4) ∧ 121 + 1 = 122 := ⟨rfl, rfl⟩
theorem xc179_122 : pmCode 179 122 = some (.if_icmp .ge 65) ∧ ((122 : Nat) : Int) + 65 = ((187 : Nat) : Int) ∧ 122 + 3 = 125 := ⟨rfl, rfl, rfl⟩
theorem xc179_125 : pmCode 179 125 = some (.iload_n 3) ∧ 125 + 1 = 126 := ⟨rfl, rfl⟩
theorem xc179_126 : pmCode 179 126 = some (.iload_n 1) ∧ 126 + 1 = 127 := ⟨rfl, rfl⟩
theorem xc179_127 : pmCode 179 127 = some (.if_icmp .ne 6) ∧ ((127 : Nat) : Int) + 6 = ((133 : Nat) : Int) ∧ 127 + 3 = 130 := ⟨rfl, rfl, rfl⟩
theorem xc179_130 : pmCode 179 130 = some (.goto 51) ∧ ((130 : Nat) : Int) + 51 = ((181 : Nat) : Int) := ⟨rfl, rfl⟩
theorem xc179_133 : pmCode 179 133 = some (.aload_n 0) ∧ 133 + 1 = 134 := ⟨rfl, rfl⟩
theorem xc179_134 : pmCode 179 134 = some (.iload_n 3) ∧ 134 + 1 = 135 := ⟨rfl, rfl⟩
theorem xc179_135 : pmCode 179 135 = some (.iload_n 2) ∧ 135 + 1 = 136 := ⟨rfl, rfl⟩
theorem xc179_136 : pmCode 179 136 = some (.invokevirtual 263) ∧ 136 + 3 = 139 := ⟨rfl, rfl⟩
theorem xc179_139 : pmCode 179 139 = some (.ifCond .eq 17) ∧ ((139 : Nat) : Int) + 17 = ((156 : Nat) : Int) ∧ 139 + 3 = 142 := ⟨rfl, rfl, rfl⟩
theorem xc179_142 : pmCode 179 142 = some (.aload_n 0) ∧ 142 + 1 = 143 := ⟨rfl, rfl⟩
theorem xc179_143 : pmCode 179 143 = some (.getfield 7) ∧ 143 + 3 = 146 := ⟨rfl, rfl⟩
theorem xc179_146 : pmCode 179 146 = some (.iload_n 1) ∧ 146 + 1 = 147 := ⟨rfl, rfl⟩
theorem xc179_147 : pmCode 179 147 = some (.iload_n 3) ∧ 147 + 1 = 148 := ⟨rfl, rfl⟩
theorem xc179_148 : pmCode 179 148 = some (.invokestatic 153) ∧ 148 + 3 = 151 := ⟨rfl, rfl⟩
theorem xc179_151 : pmCode 179 151 = some (.iload_n 2) ∧ 151 + 1 = 152 := ⟨rfl, rfl⟩
theorem xc179_152 : pmCode 179 152 = some .iastore ∧ 152 + 1 = 153 := ⟨rfl, rfl⟩
theorem xc179_153 : pmCode 179 153 = some (.goto 28) ∧ ((153 : Nat) : Int) + 28 = ((181 : Nat) : Int) := ⟨rfl, rfl⟩
theorem xc179_156 : pmCode 179 156 = some (.aload_n 0) ∧ 156 + 1 = 157 := ⟨rfl, rfl⟩
theorem xc179_157 : pmCode 179 157 = some (.getfield 7) ∧ 157 + 3 = 160 := ⟨rfl, rfl⟩
theorem xc179_160 : pmCode 179 160 = some (.iload_n 1) ∧ 160 + 1 = 161 := ⟨rfl, rfl⟩
theorem xc179_161 : pmCode 179 161 = some (.iload_n 3) ∧ 161 + 1 = 162 := ⟨rfl, rfl⟩
theorem xc179_162 : pmCode 179 162 = some (.invokestatic 153) ∧ 162 + 3 = 165 := ⟨rfl, rfl⟩
theorem xc179_165 : pmCode 179 165 = some .iaload ∧ 165 + 1 = 166 := ⟨rfl, rfl⟩
theorem xc179_166 : pmCode 179 166 = some (.iload_n 2) ∧ 166 + 1 = 167 := ⟨rfl, rfl⟩
theorem xc179_167 : pmCode 179 167 = some (.if_icmp .ne 14) ∧ ((167 : Nat) : Int) + 14 = ((181 : Nat) : Int) ∧ 167 + 3 = 170 := ⟨rfl, rfl, rfl⟩
theorem xc179_170 : pmCode 179 170 = some (.aload_n 0) ∧ 170 + 1 = 171 := ⟨rfl, rfl⟩
theorem xc179_171 : pmCode 179 171 = some (.getfield 7) ∧ 171 + 3 = 174 := ⟨rfl, rfl⟩
theorem xc179_174 : pmCode 179 174 = some (.iload_n 1) ∧ 174 + 1 = 175 := ⟨rfl, rfl⟩
theorem xc179_175 : pmCode 179 175 = some (.iload_n 3) ∧ 175 + 1 = 176 := ⟨rfl, rfl⟩
theorem xc179_176 : pmCode 179 176 = some (.invokestatic 153) ∧ 176 + 3 = 179 := ⟨rfl, rfl⟩
theorem xc179_179 : pmCode 179 179 = some (.iconst (-1)) ∧ 179 + 1 = 180 := ⟨rfl, rfl⟩
theorem xc179_180 : pmCode 179 180 = some .iastore ∧ 180 + 1 = 181 := ⟨rfl, rfl⟩
theorem xc179_181 : pmCode 179 181 = some (.iinc 3 1) ∧ 181 + 3 = 184 := ⟨rfl, rfl⟩
theorem xc179_184 : pmCode 179 184 = some (.goto (-64)) ∧ ((184 : Nat) : Int) + (-64) = ((120 : Nat) : Int) := ⟨rfl, rfl⟩
theorem xc179_187 : pmCode 179 187 = some .return_ := rfl
theorem xc180_0 : pmCode 180 0 = some (.iload_n 1) ∧ 0 + 1 = 1 := ⟨rfl, rfl⟩
theorem xc180_1 : pmCode 180 1 = some (.ifCond .lt 24) ∧ ((1 : Nat) : Int) + 24 = ((25 : Nat) : Int) ∧ 1 + 3 = 4 := ⟨rfl, rfl, rfl⟩
theorem xc180_4 : pmCode 180 4 = some (.iload_n 1) ∧ 4 + 1 = 5 := ⟨rfl, rfl⟩
theorem xc180_5 : pmCode 180 5 = some (.iconst 4) ∧ 5 + 1 = 6 := ⟨rfl, rfl⟩
theorem xc180_6 : pmCode 180 6 = some (.if_icmp .ge 19) ∧ ((6 : Nat) : Int) + 19 = ((25 : Nat) : Int) ∧ 6 + 3 = 9 := ⟨rfl, rfl, rfl⟩
theorem xc180_9 : pmCode 180 9 = some (.aload_n 0) ∧ 9 + 1 = 10 := ⟨rfl, rfl⟩
theorem xc180_10 : pmCode 180 10 = some (.getfield 7) ∧ 10 + 3 = 13 := ⟨rfl, rfl⟩
theorem xc180_13 : pmCode 180 13 = some (.iconst 0) ∧ 13 + 1 = 14 := ⟨rfl, rfl⟩
theorem xc180_14 : pmCode 180 14 = some (.iload_n 1) ∧ 14 + 1 = 15 := ⟨rfl, rfl⟩
theorem xc180_15 : pmCode 180 15 = some .iadd ∧ 15 + 1 = 16 := ⟨rfl, rfl⟩
theorem xc180_16 : pmCode 180 16 = some .iaload ∧ 16 + 1 = 17 := ⟨rfl, rfl⟩
theorem xc180_17 : pmCode 180 17 = some (.iload_n 2) ∧ 17 + 1 = 18 := ⟨rfl, rfl⟩
theorem xc180_18 : pmCode 180 18 = some (.if_icmp .ne 7) ∧ ((18 : Nat) : Int) + 7 = ((25 : Nat) : Int) ∧ 18 + 3 = 21 := ⟨rfl, rfl, rfl⟩
theorem xc180_21 : pmCode 180 21 = some (.iconst 1) ∧ 21 + 1 = 22 := ⟨rfl, rfl⟩
theorem xc180_22 : pmCode 180 22 = some (.goto 4) ∧ ((22 : Nat) : Int) + 4 = ((26 : Nat) : Int) := ⟨rfl, rfl⟩
theorem xc180_25 : pmCode 180 25 = some (.iconst 0) ∧ 25 + 1 = 26 := ⟨rfl, rfl⟩
theorem xc180_26 : pmCode 180 26 = some .ireturn := rfl
theorem w176 {ro : Nat → Nat × (Nat → Int32)} {d : Nat} {Q : Option Value → pmS → Prop} {p : Int} {a : xA} {b : xB} (hA : xAr a) (hp : 0 ≤ p ∧ p ≤ 3)
    (k1 : (a 88 (0 + p) = 7) → Q (some (xV 0)) (xS a b))
    (k2 : (¬ a 88 (0 + p) = 7) → Q (some (xV 1)) (xS a b)) :
    pmWp ro d 12 176 2 0 [some (.ref 87), some (xV p)] [] (xS a b) Q := by
  refine x_aloadn xc176_0 rfl ?_
  refine x_gfr xc176_1 rfl rfl xz87 rfl ?_
  refine x_iconst xc176_4 ?_
  refine x_iloadn xc176_5 rfl ?_
  refine x_iadd xc176_6 ?_
  refine x_ial xc176_7 xz88 rfl (by have g0 := hp; omega) (by have g0 := hp; omega) (by have g0 := hp; omega) ?_
  refine x_bipush xc176_8 (by decide) ?_
  refine x_iceq xc176_10 (xRk (by have g0 := hp; have g1 := xRb (hA 88 (0 + p)); omega)) (xRk (by decide)) (fun h0 => ?_) (fun h0 => ?_)
  · refine x_iconst xc176_17 ?_
    refine x_iret xc176_18 (Or.inr ⟨rfl, (by omega)⟩) ?_
    exact k1 h0
  · refine x_iconst xc176_13 ?_
    refine x_goto xc176_14 ?_
    refine x_iret xc176_18 (Or.inr ⟨rfl, (by omega)⟩) ?_
    exact k2 h0

theorem xg176 {ro : Nat → Nat × (Nat → Int32)} {d : Nat} {Q : Option Value → pmS → Prop} {a : xA} {b : xB} {p : Int} (h : pmWp ro d 12 176 2 0 [some (.ref 87), some (xV p)] [] (xS a b) Q) : pmCs ro (d + 1) 176 [.ref 87, xV p] (xS a b) Q := x_go xi176 rfl rfl rfl rfl rfl h
theorem w180 {ro : Nat → Nat × (Nat → Int32)} {d : Nat} {Q : Option Value → pmS → Prop} {p rm : Int} {a : xA} {b : xB} (hA : xAr a) (hp : -20 ≤ p ∧ p ≤ 20) (hrm : -1 ≤ rm ∧ rm ≤ 20)
    (k1 : (p < 0) → Q (some (xV 0)) (xS a b))
    (k2 : (¬ p < 0) → (4 ≤ p) → Q (some (xV 0)) (xS a b))
    (k3 : (¬ p < 0) → (¬ 4 ≤ p) → (¬ a 88 (0 + p) = rm) → Q (some (xV 0)) (xS a b))
    (k4 : (¬ p < 0) → (¬ 4 ≤ p) → (a 88 (0 + p) = rm) → Q (some (xV 1)) (xS a b)) :
    pmWp ro d 12 180 2 0 [some (.ref 87), some (xV p), some (xV rm)] [] (xS a b) Q := by
  refine x_iloadn xc180_0 rfl ?_
  refine x_iflt xc180_1 (xRk (by have g0 := hp; omega)) (fun h0 => ?_) (fun h0 => ?_)
  · refine x_iconst xc180_25 ?_
    refine x_iret xc180_26 (Or.inr ⟨rfl, (by omega)⟩) ?_
    exact k1 h0
  · refine x_iloadn xc180_4 rfl ?_
    refine x_iconst xc180_5 ?_
    refine x_icge xc180_6 (xRk (by have g0 := hp; omega)) (xRk (by decide)) (fun h1 => ?_) (fun h1 => ?_)
    · refine x_iconst xc180_25 ?_
      refine x_iret xc180_26 (Or.inr ⟨rfl, (by omega)⟩) ?_
      exact k2 h0 h1
    · refine x_aloadn xc180_9 rfl ?_
      refine x_gfr xc180_10 rfl rfl xz87 rfl ?_
      refine x_iconst xc180_13 ?_
      refine x_iloadn xc180_14 rfl ?_
      refine x_iadd xc180_15 ?_
      refine x_ial xc180_16 xz88 rfl (by have g0 := hp; omega) (by have g0 := hp; omega) (by have g0 := hp; omega) ?_
      refine x_iloadn xc180_17 rfl ?_
      refine x_icne xc180_18 (xRk (by have g0 := hp; have g1 := xRb (hA 88 (0 + p)); omega)) (xRk (by have g0 := hrm; omega)) (fun h2 => ?_) (fun h2 => ?_)
      · refine x_iconst xc180_25 ?_
        refine x_iret xc180_26 (Or.inr ⟨rfl, (by omega)⟩) ?_
        exact k3 h0 h1 h2
      · replace h2 := Classical.not_not.mp h2
        refine x_iconst xc180_21 ?_
        refine x_goto xc180_22 ?_
        refine x_iret xc180_26 (Or.inr ⟨rfl, (by omega)⟩) ?_
        exact k4 h0 h1 h2

theorem xg180 {ro : Nat → Nat × (Nat → Int32)} {d : Nat} {Q : Option Value → pmS → Prop} {a : xA} {b : xB} {p rm : Int} (h : pmWp ro d 12 180 2 0 [some (.ref 87), some (xV p), some (xV rm)] [] (xS a b) Q) : pmCs ro (d + 1) 180 [.ref 87, xV p, xV rm] (xS a b) Q := x_go xi180 rfl rfl rfl rfl rfl h
theorem w178 {ro : Nat → Nat × (Nat → Int32)} {d : Nat} {Q : Option Value → pmS → Prop} {x rm : Int} {a : xA} {b : xB} (hx : 0 ≤ x ∧ x < 5)
    (k1 : Q none (xS (xU (xU a 88 (4 + x) rm) 88 (9 + x) 0) b)) :
    pmWp ro d 12 178 0 0 [some (.ref 87), some (xV x), some (xV rm)] [] (xS a b) Q := by
  refine x_aloadn xc178_0 rfl ?_
  refine x_gfr xc178_1 rfl rfl xz87 rfl ?_
  refine x_iconst xc178_4 ?_
  refine x_iloadn xc178_5 rfl ?_
  refine x_iadd xc178_6 ?_
  refine x_iloadn xc178_7 rfl ?_
  refine x_ias xc178_8 xz88 (by have g0 := hx; omega) (by have g0 := hx; omega) (by have g0 := hx; omega) ?_
  refine x_aloadn xc178_9 rfl ?_
  refine x_gfr xc178_10 rfl rfl xz87 rfl ?_
  refine x_bipush xc178_13 (by decide) ?_
  refine x_iloadn xc178_15 rfl ?_
  refine x_iadd xc178_16 ?_
  refine x_iconst xc178_17 ?_
  refine x_ias xc178_18 xz88 (by have g0 := hx; omega) (by have g0 := hx; omega) (by have g0 := hx; omega) ?_
  refine x_ret xc178_19 rfl ?_
  exact k1

theorem xg178 {ro : Nat → Nat × (Nat → Int32)} {d : Nat} {Q : Option Value → pmS → Prop} {a : xA} {b : xB} {x rm : Int} (h : pmWp ro d 12 178 0 0 [some (.ref 87), some (xV x), some (xV rm)] [] (xS a b) Q) : pmCs ro (d + 1) 178 [.ref 87, xV x, xV rm] (xS a b) Q := x_go xi178 rfl rfl rfl rfl rfl h
theorem w144 {ro : Nat → Nat × (Nat → Int32)} {d : Nat} {Q : Option Value → pmS → Prop} {v : Int} {a : xA} {b : xB}
    (k1 : pmWp ro d 12 144 1 4 [some (xV v), some (xV 0), some (xV 0)] [] (xS a b) Q) :
    pmWp ro d 12 144 1 0 [some (xV v), none, none] [] (xS a b) Q := by
  refine x_iconst xc144_0 ?_
  refine x_istoren (pl' := [some (xV v), some (xV 0), none]) xc144_1 rfl rfl ?_
  refine x_iconst xc144_2 ?_
  refine x_istoren (pl' := [some (xV v), some (xV 0), some (xV 0)]) xc144_3 rfl rfl ?_
  exact k1

theorem xg144 {ro : Nat → Nat × (Nat → Int32)} {d : Nat} {Q : Option Value → pmS → Prop} {a : xA} {b : xB} {v : Int} (h : pmWp ro d 12 144 1 0 [some (xV v), none, none] [] (xS a b) Q) : pmCs ro (d + 1) 144 [xV v] (xS a b) Q := x_go xi144 rfl rfl rfl rfl rfl h
theorem w144l {ro : Nat → Nat × (Nat → Int32)} {d : Nat} {Q : Option Value → pmS → Prop} {v m i : Int} {a : xA} {b : xB} (hv : 0 ≤ v ∧ v ≤ 127) (hm : 0 ≤ m ∧ m ≤ i) (hi : 0 ≤ i ∧ i ≤ 7)
    (k1 : (7 ≤ i) → Q (some (xV m)) (xS a b))
    (k2 : (¬ 7 ≤ i) → pmWp ro d 12 144 1 4 [some (xV v), some (xV (m + ((v / ((2 ^ i.toNat : Nat) : Int)) % 2))), some (xV (i + 1))] [] (xS a b) Q) :
    pmWp ro d 12 144 1 4 [some (xV v), some (xV m), some (xV i)] [] (xS a b) Q := by
  refine x_iloadn xc144_4 rfl ?_
  refine x_bipush xc144_5 (by decide) ?_
  refine x_icge xc144_7 (xRk (by have g0 := hi; omega)) (xRk (by decide)) (fun h0 => ?_) (fun h0 => ?_)
  · refine x_iloadn xc144_24 rfl ?_
    refine x_iret xc144_25 (Or.inl rfl) ?_
    exact k1 h0
  · refine x_iloadn xc144_10 rfl ?_
    refine x_iloadn xc144_11 rfl ?_
    refine x_iloadn xc144_12 rfl ?_
    refine x_ishr (M := ((2 ^ i.toNat : Nat) : Int)) (by have g0 := hi; omega) (by have g0 := hi; omega) rfl (xRk (by have g0 := hv; omega)) xc144_13 ?_
    refine x_iconst xc144_14 ?_
    refine x_iandm (M := 2) 1 (by decide) (by decide) (by decide) xc144_15 ?_
    refine x_iadd xc144_16 ?_
    refine x_istoren (pl' := [some (xV v), some (xV (m + ((v / ((2 ^ i.toNat : Nat) : Int)) % 2))), some (xV i)]) xc144_17 rfl rfl ?_
    refine x_iinc (pl' := [some (xV v), some (xV (m + ((v / ((2 ^ i.toNat : Nat) : Int)) % 2))), some (xV (i + 1))]) xc144_18 rfl rfl ?_
    refine x_goto xc144_21 ?_
    exact k2 h0

theorem w177 {ro : Nat → Nat × (Nat → Int32)} {d : Nat} {Q : Option Value → pmS → Prop} {v : Int} {a : xA} {b : xB}
    (k1 : pmWp ro d 12 177 1 2 [some (xV v), some (xV 0)] [] (xS a b) Q) :
    pmWp ro d 12 177 1 0 [some (xV v), none] [] (xS a b) Q := by
  refine x_iconst xc177_0 ?_
  refine x_istoren (pl' := [some (xV v), some (xV 0)]) xc177_1 rfl rfl ?_
  exact k1

theorem xg177 {ro : Nat → Nat × (Nat → Int32)} {d : Nat} {Q : Option Value → pmS → Prop} {a : xA} {b : xB} {v : Int} (h : pmWp ro d 12 177 1 0 [some (xV v), none] [] (xS a b) Q) : pmCs ro (d + 1) 177 [xV v] (xS a b) Q := x_go xi177 rfl rfl rfl rfl rfl h
theorem w177l {ro : Nat → Nat × (Nat → Int32)} {d : Nat} {Q : Option Value → pmS → Prop} {v i : Int} {a : xA} {b : xB} (hv : 0 ≤ v ∧ v ≤ 127) (hi : 0 ≤ i ∧ i ≤ 7)
    (k1 : (¬ (v / ((2 ^ i.toNat : Nat) : Int)) % 2 = 0) → Q (some (xV i)) (xS a b))
    (k2 : ((v / ((2 ^ i.toNat : Nat) : Int)) % 2 = 0) → pmWp ro d 12 177 1 2 [some (xV v), some (xV (i + 1))] [] (xS a b) Q) :
    pmWp ro d 12 177 1 2 [some (xV v), some (xV i)] [] (xS a b) Q := by
  refine x_iloadn xc177_2 rfl ?_
  refine x_iloadn xc177_3 rfl ?_
  refine x_ishr (M := ((2 ^ i.toNat : Nat) : Int)) (by have g0 := hi; omega) (by have g0 := hi; omega) rfl (xRk (by have g0 := hv; omega)) xc177_4 ?_
  refine x_iconst xc177_5 ?_
  refine x_iandm (M := 2) 1 (by decide) (by decide) (by decide) xc177_6 ?_
  refine x_ifne xc177_7 (xRk (by have g0 := hv; have g1 := hi; omega)) (fun h0 => ?_) (fun h0 => ?_)
  · refine x_iloadn xc177_17 rfl ?_
    refine x_iret xc177_18 (Or.inl rfl) ?_
    exact k1 h0
  · replace h0 := Classical.not_not.mp h0
    refine x_iloadn xc177_10 rfl ?_
    refine x_iconst xc177_11 ?_
    refine x_iadd xc177_12 ?_
    refine x_istoren (pl' := [some (xV v), some (xV (i + 1))]) xc177_13 rfl rfl ?_
    refine x_goto xc177_14 ?_
    exact k2 h0

section
variable {ro : Nat → Nat × (Nat → Int32)} {d : Nat} {Q : Option Value → pmS → Prop} {a : xA} {b : xB} {p rm x v : Int}
theorem rk176 (hd : 1 ≤ d) (hA : xAr a) (hp : 0 ≤ p ∧ p ≤ 3) (hT : ¬ a 88 p = 7 → Q (some (xV 1)) (xS a b)) (hF : a 88 p = 7 → Q (some (xV 0)) (xS a b)) : pmCs ro d 176 [.ref 87, xV p] (xS a b) Q := by
  refine pmCs_deep (d := 1) (xg176 (w176 hA hp ?_ ?_)) hd <;> intro h <;> rw [Int.zero_add] at h <;> first | exact hT h | exact hF h
theorem rk180 (hd : 1 ≤ d) (hA : xAr a) (hp : -20 ≤ p ∧ p ≤ 20) (hrm : -1 ≤ rm ∧ rm ≤ 20) (hT : (0 ≤ p ∧ p < 4) ∧ a 88 p = rm → Q (some (xV 1)) (xS a b)) (hF : ¬ ((0 ≤ p ∧ p < 4) ∧ a 88 p = rm) → Q (some (xV 0)) (xS a b)) : pmCs ro d 180 [.ref 87, xV p, xV rm] (xS a b) Q := by
  refine pmCs_deep (d := 1) (xg180 (w180 hA hp hrm (fun e => hF (by omega)) (fun e1 e2 => hF (by omega)) (fun e1 e2 e3 => hF (fun h => e3 (by rw [Int.zero_add]; exact h.2))) (fun e1 e2 e3 => hT ⟨⟨by omega, by omega⟩, by rw [Int.zero_add] at e3; exact e3⟩))) hd
theorem uBs_b (hv : 0 ≤ v ∧ v ≤ 127) : 0 ≤ uBs v ∧ uBs v ≤ 7 := by
  unfold uBs
  omega
theorem uLo_b (hv : 0 ≤ v ∧ v ≤ 127) : 0 ≤ uLo v ∧ uLo v ≤ 6 := by
  unfold uLo
  repeat' split
  all_goals omega
theorem uBs_1 (h : uBs v = 1) : ¬ v = 0 := by
  rintro rfl
  revert h
  decide
theorem rk144 (hd : 1 ≤ d) (hv : 0 ≤ v ∧ v ≤ 127) (hQ : Q (some (xV (uBs v))) (xS a b)) : pmCs ro d 144 [xV v] (xS a b) Q := by
  refine pmCs_deep (d := 1) (xg144 (w144 ?_)) hd
  refine w144l hv (by decide) (by decide) (fun e => by omega) (fun _ => ?_)
  refine w144l hv (by omega) (by decide) (fun e => by omega) (fun _ => ?_)
  refine w144l hv (by omega) (by decide) (fun e => by omega) (fun _ => ?_)
  refine w144l hv (by omega) (by decide) (fun e => by omega) (fun _ => ?_)
  refine w144l hv (by omega) (by decide) (fun e => by omega) (fun _ => ?_)
  refine w144l hv (by omega) (by decide) (fun e => by omega) (fun _ => ?_)
  refine w144l hv (by omega) (by decide) (fun e => by omega) (fun _ => ?_)
  refine w144l hv (by omega) (by decide) (fun _ => ?_) (fun e => by omega)
  have e : 0 + v / ((2 ^ (0 : Int).toNat : Nat) : Int) % 2 + v / ((2 ^ (0 + 1 : Int).toNat : Nat) : Int) % 2 + v / ((2 ^ (0 + 1 + 1 : Int).toNat : Nat) : Int) % 2 + v / ((2 ^ (0 + 1 + 1 + 1 : Int).toNat : Nat) : Int) % 2 + v / ((2 ^ (0 + 1 + 1 + 1 + 1 : Int).toNat : Nat) : Int) % 2 + v / ((2 ^ (0 + 1 + 1 + 1 + 1 + 1 : Int).toNat : Nat) : Int) % 2 + v / ((2 ^ (0 + 1 + 1 + 1 + 1 + 1 + 1 : Int).toNat : Nat) : Int) % 2 = uBs v := by
    show 0 + v / 1 % 2 + v / 2 % 2 + v / 4 % 2 + v / 8 % 2 + v / 16 % 2 + v / 32 % 2 + v / 64 % 2 = uBs v
    unfold uBs
    omega
  rw [e]
  exact hQ
theorem rk177 (hd : 1 ≤ d) (hv : 0 ≤ v ∧ v ≤ 127) (h0 : ¬ v = 0) (hQ : Q (some (xV (uLo v))) (xS a b)) : pmCs ro d 177 [xV v] (xS a b) Q := by
  refine pmCs_deep (d := 1) (xg177 (w177 ?_)) hd
  unfold uLo at hQ
  refine w177l hv (by decide) (fun e => ?_) (fun e0 => ?_)
  · have e : ¬ v / 1 % 2 = 0 := e
    rw [if_pos (by omega)] at hQ
    exact hQ
  have e0 : v / 1 % 2 = 0 := e0
  rw [if_neg (by omega)] at hQ
  refine w177l hv (by decide) (fun e => ?_) (fun e1 => ?_)
  · have e : ¬ v / 2 % 2 = 0 := e
    rw [if_pos (by omega)] at hQ
    exact hQ
  have e1 : v / 2 % 2 = 0 := e1
  rw [if_neg (by omega)] at hQ
  refine w177l hv (by decide) (fun e => ?_) (fun e2 => ?_)
  · have e : ¬ v / 4 % 2 = 0 := e
    rw [if_pos (by omega)] at hQ
    exact hQ
  have e2 : v / 4 % 2 = 0 := e2
  rw [if_neg (by omega)] at hQ
  refine w177l hv (by decide) (fun e => ?_) (fun e3 => ?_)
  · have e : ¬ v / 8 % 2 = 0 := e
    rw [if_pos (by omega)] at hQ
    exact hQ
  have e3 : v / 8 % 2 = 0 := e3
  rw [if_neg (by omega)] at hQ
  refine w177l hv (by decide) (fun e => ?_) (fun e4 => ?_)
  · have e : ¬ v / 16 % 2 = 0 := e
    rw [if_pos (by omega)] at hQ
    exact hQ
  have e4 : v / 16 % 2 = 0 := e4
  rw [if_neg (by omega)] at hQ
  refine w177l hv (by decide) (fun e => ?_) (fun e5 => ?_)
  · have e : ¬ v / 32 % 2 = 0 := e
    rw [if_pos (by omega)] at hQ
    exact hQ
  have e5 : v / 32 % 2 = 0 := e5
  rw [if_neg (by omega)] at hQ
  refine w177l hv (by decide) (fun e => ?_) (fun e6 => ?_)
  · exact hQ
  have e6 : v / 64 % 2 = 0 := e6
  omega
theorem rk178 (hd : 1 ≤ d) (hx : 0 ≤ x ∧ x < 5) (hQ : Q none (xS (xU (xU a 88 (4 + x) rm) 88 (9 + x) 0) b)) : pmCs ro d 178 [.ref 87, xV x, xV rm] (xS a b) Q := pmCs_deep (d := 1) (xg178 (w178 hx hQ)) hd
end
theorem w175 {ro : Nat → Nat × (Nat → Int32)} {d : Nat} {Q : Option Value → pmS → Prop} {a : xA} {b : xB}
    (k1 : pmWp ro d 12 175 0 2 [some (.ref 87), some (xV 0), none, none] [] (xS a b) Q) :
    pmWp ro d 12 175 0 0 [some (.ref 87), none, none, none] [] (xS a b) Q := by
  refine x_iconst xc175_0 ?_
  refine x_istoren (pl' := [some (.ref 87), some (xV 0), none, none]) xc175_1 rfl rfl ?_
  exact k1

theorem xg175 {ro : Nat → Nat × (Nat → Int32)} {d : Nat} {Q : Option Value → pmS → Prop} {a : xA} {b : xB} (h : pmWp ro d 12 175 0 0 [some (.ref 87), none, none, none] [] (xS a b) Q) : pmCs ro (d + 1) 175 [.ref 87] (xS a b) Q := x_go xi175 rfl rfl rfl rfl rfl h
theorem w175p {ro : Nat → Nat × (Nat → Int32)} {d : Nat} {Q : Option Value → pmS → Prop} {v2 : Option Value} {v3 : Option Value} {p : Int} {a : xA} {b : xB} (hp : 0 ≤ p ∧ p ≤ 4)
    (k1 : (4 ≤ p) → Q none (xS a b))
    (k2 : (¬ 4 ≤ p) → pmWp ro d 12 175 0 9 [some (.ref 87), some (xV p), some (xV 0), v3] [] (xS a b) Q) :
    pmWp ro d 12 175 0 2 [some (.ref 87), some (xV p), v2, v3] [] (xS a b) Q := by
  refine x_iloadn xc175_2 rfl ?_
  refine x_iconst xc175_3 ?_
  refine x_icge xc175_4 (xRk (by have g0 := hp; omega)) (xRk (by decide)) (fun h0 => ?_) (fun h0 => ?_)
  · refine x_ret xc175_133 rfl ?_
    exact k1 h0
  · refine x_iconst xc175_7 ?_
    refine x_istoren (pl' := [some (.ref 87), some (xV p), some (xV 0), v3]) xc175_8 rfl rfl ?_
    exact k2 h0

theorem w175x {ro : Nat → Nat × (Nat → Int32)} {d : Nat} {Q : Option Value → pmS → Prop} {v3 : Option Value} {p x n rm : Int} {a : xA} {b : xB} (hA : xAr a) (hp : 0 ≤ p ∧ p ≤ 3) (hx : 0 ≤ x ∧ x ≤ n) (hn : a 87 2 = n) (hn0 : 0 ≤ n ∧ n ≤ 5) (hrm : a 88 (0 + p) = rm) (hrm0 : 0 ≤ rm ∧ rm ≤ 7) (hd : 1 ≤ d)
    (k1 : (n ≤ x) → pmWp ro d 12 175 0 2 [some (.ref 87), some (xV (p + 1)), some (xV x), v3] [] (xS a b) Q)
    (k2 : (¬ n ≤ x) → (¬ a 88 p = 7) → pmWp ro d 12 175 0 36 [some (.ref 87), some (xV p), some (xV x), some (xV (1 * ((2 ^ rm.toNat : Nat) : Int)))] [] (xS a b) Q)
    (k3 : (¬ n ≤ x) → (a 88 p = 7) → pmWp ro d 12 175 0 2 [some (.ref 87), some (xV (p + 1)), some (xV x), v3] [] (xS a b) Q) :
    pmWp ro d 12 175 0 9 [some (.ref 87), some (xV p), some (xV x), v3] [] (xS a b) Q := by
  refine x_iloadn xc175_9 rfl ?_
  refine x_aloadn xc175_10 rfl ?_
  refine x_gfi' (k := 2) (v := n) xc175_11 rfl (Or.inl rfl) rfl xz87 hn ?_
  refine x_icge xc175_14 (xRk (by have g0 := hx; omega)) (xRk (by have g0 := hn0; omega)) (fun h0 => ?_) (fun h0 => ?_)
  · refine x_iinc (pl' := [some (.ref 87), some (xV (p + 1)), some (xV x), v3]) xc175_127 rfl rfl ?_
    refine x_goto xc175_130 ?_
    exact k1 h0
  · refine x_aloadn xc175_17 rfl ?_
    refine x_iloadn xc175_18 rfl ?_
    refine x_cV (as := [xV p]) (rest := []) xc175_19 rfl xi176 xz87 ⟨rfl, rfl⟩ rfl rfl ?_
    refine rk176 (by omega) hA (by have g0 := hp; omega) (fun h1 => ?_) (fun h2 => ?_)
    · refine x_ifeq xc175_22 (xRk (by decide)) (fun h => absurd h (by omega)) (fun _ => ?_)
      refine x_iconst xc175_25 ?_
      refine x_aloadn xc175_26 rfl ?_
      refine x_gfr xc175_27 rfl rfl xz87 rfl ?_
      refine x_iconst xc175_30 ?_
      refine x_iloadn xc175_31 rfl ?_
      refine x_iadd xc175_32 ?_
      refine x_ial' (v := rm) xc175_33 xz88 rfl (by have g0 := hp; omega) (by have g0 := hp; omega) (by have g0 := hp; omega) hrm ?_
      refine x_ishl (M := ((2 ^ rm.toNat : Nat) : Int)) (by have g0 := hrm0; omega) (by have g0 := hrm0; omega) rfl xc175_34 ?_
      refine x_istoren (pl' := [some (.ref 87), some (xV p), some (xV x), some (xV (1 * ((2 ^ rm.toNat : Nat) : Int)))]) xc175_35 rfl rfl ?_
      exact k2 h0 h1
    · refine x_ifeq xc175_22 (xRk (by decide)) (fun _ => ?_) (fun h => absurd h (by omega))
      refine x_iinc (pl' := [some (.ref 87), some (xV (p + 1)), some (xV x), v3]) xc175_127 rfl rfl ?_
      refine x_goto xc175_130 ?_
      exact k3 h0 h2

theorem w175e {ro : Nat → Nat × (Nat → Int32)} {d : Nat} {Q : Option Value → pmS → Prop} {v3 : Option Value} {p x : Int} {a : xA} {b : xB} (hx : 0 ≤ x ∧ x ≤ 5)
    (k1 : pmWp ro d 12 175 0 9 [some (.ref 87), some (xV p), some (xV (x + 1)), v3] [] (xS a b) Q) :
    pmWp ro d 12 175 0 121 [some (.ref 87), some (xV p), some (xV x), v3] [] (xS a b) Q := by
  refine x_iinc (pl' := [some (.ref 87), some (xV p), some (xV (x + 1)), v3]) xc175_121 rfl rfl ?_
  refine x_goto xc175_124 ?_
  exact k1

theorem w175b {ro : Nat → Nat × (Nat → Int32)} {d : Nat} {Q : Option Value → pmS → Prop} {p x st bt : Int} {a : xA} {b : xB} (hA : xAr a) (hx : 0 ≤ x ∧ x ≤ 4) (hst : a 88 (9 + x) = st) (hst0 : 0 ≤ st ∧ st ≤ 127) (hbt : 1 ≤ bt ∧ bt ≤ 64) (hd : 1 ≤ d)
    (k1 : (¬ a 88 (4 + x) = 20) → pmWp ro d 12 175 0 121 [some (.ref 87), some (xV p), some (xV x), some (xV bt)] [] (xS a b) Q)
    (k2 : (a 88 (4 + x) = 20) → (¬ xAnd st bt = 0) → pmWp ro d 12 175 0 88 [some (.ref 87), some (xV p), some (xV x), some (xV bt)] [] (xS (xU a 88 (9 + x) (xAnd st (xXor bt (-1)))) b) Q)
    (k3 : (a 88 (4 + x) = 20) → (xAnd st bt = 0) → pmWp ro d 12 175 0 121 [some (.ref 87), some (xV p), some (xV x), some (xV bt)] [] (xS a b) Q) :
    pmWp ro d 12 175 0 36 [some (.ref 87), some (xV p), some (xV x), some (xV bt)] [] (xS a b) Q := by
  refine x_aloadn xc175_36 rfl ?_
  refine x_gfr xc175_37 rfl rfl xz87 rfl ?_
  refine x_iconst xc175_40 ?_
  refine x_iloadn xc175_41 rfl ?_
  refine x_iadd xc175_42 ?_
  refine x_ial xc175_43 xz88 rfl (by have g0 := hx; omega) (by have g0 := hx; omega) (by have g0 := hx; omega) ?_
  refine x_bipush xc175_44 (by decide) ?_
  refine x_icne xc175_46 (xRk (by have g0 := hx; have g1 := xRb (hA 88 (4 + x)); omega)) (xRk (by decide)) (fun h0 => ?_) (fun h0 => ?_)
  · exact k1 h0
  · replace h0 := Classical.not_not.mp h0
    refine x_aloadn xc175_49 rfl ?_
    refine x_gfr xc175_50 rfl rfl xz87 rfl ?_
    refine x_bipush xc175_53 (by decide) ?_
    refine x_iloadn xc175_55 rfl ?_
    refine x_iadd xc175_56 ?_
    refine x_ial' (v := st) xc175_57 xz88 rfl (by have g0 := hx; omega) (by have g0 := hx; omega) (by have g0 := hx; omega) hst ?_
    refine x_iloadn xc175_58 rfl ?_
    refine x_iand xc175_59 ?_
    refine x_ifne xc175_60 (xRk (by have g0 := hst0; have g1 := hbt; have g2 := xAndB st bt; omega)) (fun h1 => ?_) (fun h1 => ?_)
    · refine x_aloadn xc175_66 rfl ?_
      refine x_gfr xc175_67 rfl rfl xz87 rfl ?_
      refine x_bipush xc175_70 (by decide) ?_
      refine x_iloadn xc175_72 rfl ?_
      refine x_iadd xc175_73 ?_
      refine x_aloadn xc175_74 rfl ?_
      refine x_gfr xc175_75 rfl rfl xz87 rfl ?_
      refine x_bipush xc175_78 (by decide) ?_
      refine x_iloadn xc175_80 rfl ?_
      refine x_iadd xc175_81 ?_
      refine x_ial' (v := st) xc175_82 xz88 rfl (by have g0 := hx; omega) (by have g0 := hx; omega) (by have g0 := hx; omega) hst ?_
      refine x_iloadn xc175_83 rfl ?_
      refine x_iconst xc175_84 ?_
      refine x_ixor xc175_85 ?_
      refine x_iand xc175_86 ?_
      refine x_ias xc175_87 xz88 (by have g0 := hx; omega) (by have g0 := hx; omega) (by have g0 := hx; omega) ?_
      exact k2 h0 h1
    · replace h1 := Classical.not_not.mp h1
      refine x_goto xc175_63 ?_
      exact k3 h0 h1

theorem w175c {ro : Nat → Nat × (Nat → Int32)} {d : Nat} {Q : Option Value → pmS → Prop} {p x st bt : Int} {a : xA} {b : xB} (hA : xAr a) (hx : 0 ≤ x ∧ x ≤ 4) (hst : a 88 (9 + x) = st) (hst0 : 0 ≤ st ∧ st ≤ 127) (hd : 1 ≤ d)
    (k1 : (¬ uBs st = 1) → pmWp ro d 12 175 0 121 [some (.ref 87), some (xV p), some (xV x), some (xV bt)] [] (xS a b) Q)
    (k2 : (uBs st = 1) → pmCs ro d 178 [.ref 87, xV x, xV (uLo st)] (xS a b) fun r σ' => pmWp ro d 12 175 0 121 [some (.ref 87), some (xV p), some (xV x), some (xV bt)] (r.toList ++ []) σ' Q) :
    pmWp ro d 12 175 0 88 [some (.ref 87), some (xV p), some (xV x), some (xV bt)] [] (xS a b) Q := by
  refine x_aloadn xc175_88 rfl ?_
  refine x_gfr xc175_89 rfl rfl xz87 rfl ?_
  refine x_bipush xc175_92 (by decide) ?_
  refine x_iloadn xc175_94 rfl ?_
  refine x_iadd xc175_95 ?_
  refine x_ial' (v := st) xc175_96 xz88 rfl (by have g0 := hx; omega) (by have g0 := hx; omega) (by have g0 := hx; omega) hst ?_
  refine x_cS (as := [xV st]) (rest := []) xc175_97 rfl rfl xi144 ⟨rfl, rfl⟩ rfl rfl ?_
  refine rk144 (by omega) (by have g0 := hst0; omega) ?_
  refine x_iconst xc175_100 ?_
  refine x_icne xc175_101 (xRk (by have g0 := uBs_b (by have g0 := hst0; omega); omega)) (xRk (by decide)) (fun h0 => ?_) (fun h0 => ?_)
  · exact k1 h0
  · replace h0 := Classical.not_not.mp h0
    refine x_aloadn xc175_104 rfl ?_
    refine x_iloadn xc175_105 rfl ?_
    refine x_aloadn xc175_106 rfl ?_
    refine x_gfr xc175_107 rfl rfl xz87 rfl ?_
    refine x_bipush xc175_110 (by decide) ?_
    refine x_iloadn xc175_112 rfl ?_
    refine x_iadd xc175_113 ?_
    refine x_ial' (v := st) xc175_114 xz88 rfl (by have g0 := hx; omega) (by have g0 := hx; omega) (by have g0 := hx; omega) hst ?_
    refine x_cS (as := [xV st]) (rest := [xV x, .ref 87]) xc175_115 rfl rfl xi177 ⟨rfl, rfl⟩ rfl rfl ?_
    refine rk177 (by omega) (by have g0 := hst0; omega) (uBs_1 ‹_›) ?_
    refine x_cV (as := [xV x, xV (uLo st)]) (rest := []) xc175_118 rfl xi178 xz87 ⟨rfl, rfl⟩ rfl rfl ?_
    exact k2 h0

theorem w179 {ro : Nat → Nat × (Nat → Int32)} {d : Nat} {Q : Option Value → pmS → Prop} {f : Int} {a : xA} {b : xB} (hf : 1 ≤ f ∧ f ≤ 3)
    (k1 : pmWp ro d 12 179 0 11 [some (.ref 87), some (xV f), some (xV (a 88 (0 + f))), some (xV 0), none, none] [] (xS a b) Q) :
    pmWp ro d 12 179 0 0 [some (.ref 87), some (xV f), none, none, none, none] [] (xS a b) Q := by
  refine x_aloadn xc179_0 rfl ?_
  refine x_gfr xc179_1 rfl rfl xz87 rfl ?_
  refine x_iconst xc179_4 ?_
  refine x_iloadn xc179_5 rfl ?_
  refine x_iadd xc179_6 ?_
  refine x_ial xc179_7 xz88 rfl (by have g0 := hf; omega) (by have g0 := hf; omega) (by have g0 := hf; omega) ?_
  refine x_istoren (pl' := [some (.ref 87), some (xV f), some (xV (a 88 (0 + f))), none, none, none]) xc179_8 rfl rfl ?_
  refine x_iconst xc179_9 ?_
  refine x_istoren (pl' := [some (.ref 87), some (xV f), some (xV (a 88 (0 + f))), some (xV 0), none, none]) xc179_10 rfl rfl ?_
  exact k1

theorem xg179 {ro : Nat → Nat × (Nat → Int32)} {d : Nat} {Q : Option Value → pmS → Prop} {a : xA} {b : xB} {f : Int} (h : pmWp ro d 12 179 0 0 [some (.ref 87), some (xV f), none, none, none, none] [] (xS a b) Q) : pmCs ro (d + 1) 179 [.ref 87, xV f] (xS a b) Q := x_go xi179 rfl rfl rfl rfl rfl h
theorem w179x {ro : Nat → Nat × (Nat → Int32)} {d : Nat} {Q : Option Value → pmS → Prop} {v4 : Option Value} {v5 : Option Value} {f n x rm sv bv : Int} {a : xA} {b : xB} (hA : xAr a) (hf : 1 ≤ f ∧ f ≤ 3) (hn : a 87 2 = n) (hn0 : 0 ≤ n ∧ n ≤ 5) (hrm0 : 0 ≤ rm ∧ rm ≤ 6) (hd : 1 ≤ d) (hx : 0 ≤ x ∧ x ≤ n) (hsv : a 88 (4 + x) = sv) (hsv0 : 0 ≤ sv ∧ sv ≤ 20) (hbv : a 88 (14 + 9 * (f - 1) + x) = bv) (hbv0 : -1 ≤ bv ∧ bv ≤ 13)
    (k1 : (n ≤ x) → pmWp ro d 12 179 0 120 [some (.ref 87), some (xV f), some (xV rm), some (xV 0), v4, v5] [] (xS a b) Q)
    (k2 : (¬ n ≤ x) → (sv = rm) → pmWp ro d 12 179 0 112 [some (.ref 87), some (xV f), some (xV rm), some (xV x), some (xV sv), some (xV (a 88 (14 + (9 * (f - 1)) + x)))] [] (xS (xU a 88 (14 + (9 * (f - 1)) + x) sv) b) Q)
    (k3 : (¬ n ≤ x) → (¬ sv = rm) → ((0 ≤ sv - 10 ∧ sv - 10 < 4) ∧ a 88 (sv - 10) = rm) → pmWp ro d 12 179 0 112 [some (.ref 87), some (xV f), some (xV rm), some (xV x), some (xV sv), some (xV (a 88 (14 + (9 * (f - 1)) + x)))] [] (xS (xU a 88 (14 + (9 * (f - 1)) + x) sv) b) Q)
    (k4 : (¬ n ≤ x) → (¬ sv = rm) → (¬ ((0 ≤ sv - 10 ∧ sv - 10 < 4) ∧ a 88 (sv - 10) = rm)) → (a 88 (14 + (9 * (f - 1)) + x) = rm) → pmWp ro d 12 179 0 112 [some (.ref 87), some (xV f), some (xV rm), some (xV x), some (xV sv), some (xV (a 88 (14 + (9 * (f - 1)) + x)))] [] (xS (xU a 88 (14 + (9 * (f - 1)) + x) (-1)) b) Q)
    (k5 : (¬ n ≤ x) → (¬ sv = rm) → (¬ ((0 ≤ sv - 10 ∧ sv - 10 < 4) ∧ a 88 (sv - 10) = rm)) → (¬ a 88 (14 + (9 * (f - 1)) + x) = rm) → (a 88 (14 + (9 * (f - 1)) + x) < 10) → pmWp ro d 12 179 0 112 [some (.ref 87), some (xV f), some (xV rm), some (xV x), some (xV sv), some (xV (a 88 (14 + (9 * (f - 1)) + x)))] [] (xS a b) Q)
    (k6 : (¬ n ≤ x) → (¬ sv = rm) → (¬ ((0 ≤ sv - 10 ∧ sv - 10 < 4) ∧ a 88 (sv - 10) = rm)) → (¬ a 88 (14 + (9 * (f - 1)) + x) = rm) → (¬ a 88 (14 + (9 * (f - 1)) + x) < 10) → ((0 ≤ a 88 (14 + (9 * (f - 1)) + x) - 10 ∧ a 88 (14 + (9 * (f - 1)) + x) - 10 < 4) ∧ a 88 (a 88 (14 + (9 * (f - 1)) + x) - 10) = rm) → pmWp ro d 12 179 0 112 [some (.ref 87), some (xV f), some (xV rm), some (xV x), some (xV sv), some (xV (a 88 (14 + (9 * (f - 1)) + x)))] [] (xS (xU a 88 (14 + (9 * (f - 1)) + x) (-1)) b) Q)
    (k7 : (¬ n ≤ x) → (¬ sv = rm) → (¬ ((0 ≤ sv - 10 ∧ sv - 10 < 4) ∧ a 88 (sv - 10) = rm)) → (¬ a 88 (14 + (9 * (f - 1)) + x) = rm) → (¬ a 88 (14 + (9 * (f - 1)) + x) < 10) → (¬ ((0 ≤ a 88 (14 + (9 * (f - 1)) + x) - 10 ∧ a 88 (14 + (9 * (f - 1)) + x) - 10 < 4) ∧ a 88 (a 88 (14 + (9 * (f - 1)) + x) - 10) = rm)) → pmWp ro d 12 179 0 112 [some (.ref 87), some (xV f), some (xV rm), some (xV x), some (xV sv), some (xV (a 88 (14 + (9 * (f - 1)) + x)))] [] (xS a b) Q) :
    pmWp ro d 12 179 0 11 [some (.ref 87), some (xV f), some (xV rm), some (xV x), v4, v5] [] (xS a b) Q := by
  refine x_iloadn xc179_11 rfl ?_
  refine x_aloadn xc179_12 rfl ?_
  refine x_gfi' (k := 2) (v := n) xc179_13 rfl (Or.inl rfl) rfl xz87 hn ?_
  refine x_icge xc179_16 (xRk (by have g0 := hx; omega)) (xRk (by have g0 := hn0; omega)) (fun h0 => ?_) (fun h0 => ?_)
  · refine x_iconst xc179_118 ?_
    refine x_istoren (pl' := [some (.ref 87), some (xV f), some (xV rm), some (xV 0), v4, v5]) xc179_119 rfl rfl ?_
    exact k1 h0
  · refine x_aloadn xc179_19 rfl ?_
    refine x_gfr xc179_20 rfl rfl xz87 rfl ?_
    refine x_iconst xc179_23 ?_
    refine x_iloadn xc179_24 rfl ?_
    refine x_iadd xc179_25 ?_
    refine x_ial' (v := sv) xc179_26 xz88 rfl (by have g0 := hx; omega) (by have g0 := hx; omega) (by have g0 := hx; omega) hsv ?_
    refine x_istore (pl' := [some (.ref 87), some (xV f), some (xV rm), some (xV x), some (xV sv), v5]) xc179_27 rfl rfl ?_
    refine x_aloadn xc179_29 rfl ?_
    refine x_gfr xc179_30 rfl rfl xz87 rfl ?_
    refine x_iloadn xc179_33 rfl ?_
    refine x_iloadn xc179_34 rfl ?_
    refine x_cS (as := [xV f, xV x]) (rest := [.ref 88]) xc179_35 rfl rfl xi149 ⟨rfl, rfl⟩ rfl rfl ?_
    refine rk149 (by omega) ?_
    refine x_ial xc179_38 xz88 rfl (by have g0 := hf; have g1 := hx; omega) (by have g0 := hf; have g1 := hx; omega) (by have g0 := hf; have g1 := hx; omega) ?_
    refine x_istore (pl' := [some (.ref 87), some (xV f), some (xV rm), some (xV x), some (xV sv), some (xV (a 88 (14 + (9 * (f - 1)) + x)))]) xc179_39 rfl rfl ?_
    refine x_iload xc179_41 rfl ?_
    refine x_iloadn xc179_43 rfl ?_
    refine x_iceq xc179_44 (xRk (by have g0 := hsv0; omega)) (xRk (by have g0 := hrm0; omega)) (fun h1 => ?_) (fun h1 => ?_)
    · refine x_aloadn xc179_60 rfl ?_
      refine x_gfr xc179_61 rfl rfl xz87 rfl ?_
      refine x_iloadn xc179_64 rfl ?_
      refine x_iloadn xc179_65 rfl ?_
      refine x_cS (as := [xV f, xV x]) (rest := [.ref 88]) xc179_66 rfl rfl xi149 ⟨rfl, rfl⟩ rfl rfl ?_
      refine rk149 (by omega) ?_
      refine x_iload xc179_69 rfl ?_
      refine x_ias xc179_71 xz88 (by have g0 := hf; have g1 := hx; omega) (by have g0 := hf; have g1 := hx; omega) (by have g0 := hf; have g1 := hx; omega) ?_
      refine x_goto xc179_72 ?_
      exact k2 h0 h1
    · refine x_aloadn xc179_47 rfl ?_
      refine x_iload xc179_48 rfl ?_
      refine x_bipush xc179_50 (by decide) ?_
      refine x_isub xc179_52 ?_
      refine x_iloadn xc179_53 rfl ?_
      refine x_cV (as := [xV (sv - 10), xV rm]) (rest := []) xc179_54 rfl xi180 xz87 ⟨rfl, rfl⟩ rfl rfl ?_
      refine rk180 (by omega) hA (by have g0 := hsv0; omega) (by have g0 := hrm0; omega) (fun h2 => ?_) (fun h3 => ?_)
      · refine x_ifeq xc179_57 (xRk (by decide)) (fun h => absurd h (by omega)) (fun _ => ?_)
        refine x_aloadn xc179_60 rfl ?_
        refine x_gfr xc179_61 rfl rfl xz87 rfl ?_
        refine x_iloadn xc179_64 rfl ?_
        refine x_iloadn xc179_65 rfl ?_
        refine x_cS (as := [xV f, xV x]) (rest := [.ref 88]) xc179_66 rfl rfl xi149 ⟨rfl, rfl⟩ rfl rfl ?_
        refine rk149 (by omega) ?_
        refine x_iload xc179_69 rfl ?_
        refine x_ias xc179_71 xz88 (by have g0 := hf; have g1 := hx; omega) (by have g0 := hf; have g1 := hx; omega) (by have g0 := hf; have g1 := hx; omega) ?_
        refine x_goto xc179_72 ?_
        exact k3 h0 h1 h2
      · refine x_ifeq xc179_57 (xRk (by decide)) (fun _ => ?_) (fun h => absurd h (by omega))
        refine x_iload xc179_75 rfl ?_
        refine x_iloadn xc179_77 rfl ?_
        refine x_iceq xc179_78 (xRk (by have g0 := hf; have g1 := hx; have g2 := xRb (hA 88 (14 + (9 * (f - 1)) + x)); omega)) (xRk (by have g0 := hrm0; omega)) (fun h6 => ?_) (fun h6 => ?_)
        · refine x_aloadn xc179_101 rfl ?_
          refine x_gfr xc179_102 rfl rfl xz87 rfl ?_
          refine x_iloadn xc179_105 rfl ?_
          refine x_iloadn xc179_106 rfl ?_
          refine x_cS (as := [xV f, xV x]) (rest := [.ref 88]) xc179_107 rfl rfl xi149 ⟨rfl, rfl⟩ rfl rfl ?_
          refine rk149 (by omega) ?_
          refine x_iconst xc179_110 ?_
          refine x_ias xc179_111 xz88 (by have g0 := hf; have g1 := hx; omega) (by have g0 := hf; have g1 := hx; omega) (by have g0 := hf; have g1 := hx; omega) ?_
          exact k4 h0 h1 h3 h6
        · refine x_iload xc179_81 rfl ?_
          refine x_bipush xc179_83 (by decide) ?_
          refine x_iclt xc179_85 (xRk (by have g0 := hf; have g1 := hx; have g2 := xRb (hA 88 (14 + (9 * (f - 1)) + x)); omega)) (xRk (by decide)) (fun h7 => ?_) (fun h7 => ?_)
          · exact k5 h0 h1 h3 h6 h7
          · refine x_aloadn xc179_88 rfl ?_
            refine x_iload xc179_89 rfl ?_
            refine x_bipush xc179_91 (by decide) ?_
            refine x_isub xc179_93 ?_
            refine x_iloadn xc179_94 rfl ?_
            refine x_cV (as := [xV (a 88 (14 + (9 * (f - 1)) + x) - 10), xV rm]) (rest := []) xc179_95 rfl xi180 xz87 ⟨rfl, rfl⟩ rfl rfl ?_
            refine rk180 (by omega) hA (by have g0 := hf; have g1 := hx; have g2 := xRb (hA 88 (14 + (9 * (f - 1)) + x)); omega) (by have g0 := hrm0; omega) (fun h8 => ?_) (fun h9 => ?_)
            · refine x_ifeq xc179_98 (xRk (by decide)) (fun h => absurd h (by omega)) (fun _ => ?_)
              refine x_aloadn xc179_101 rfl ?_
              refine x_gfr xc179_102 rfl rfl xz87 rfl ?_
              refine x_iloadn xc179_105 rfl ?_
              refine x_iloadn xc179_106 rfl ?_
              refine x_cS (as := [xV f, xV x]) (rest := [.ref 88]) xc179_107 rfl rfl xi149 ⟨rfl, rfl⟩ rfl rfl ?_
              refine rk149 (by omega) ?_
              refine x_iconst xc179_110 ?_
              refine x_ias xc179_111 xz88 (by have g0 := hf; have g1 := hx; omega) (by have g0 := hf; have g1 := hx; omega) (by have g0 := hf; have g1 := hx; omega) ?_
              exact k6 h0 h1 h3 h6 h7 h8
            · refine x_ifeq xc179_98 (xRk (by decide)) (fun _ => ?_) (fun h => absurd h (by omega))
              exact k7 h0 h1 h3 h6 h7 h9

theorem w179y {ro : Nat → Nat × (Nat → Int32)} {d : Nat} {Q : Option Value → pmS → Prop} {v4 : Option Value} {v5 : Option Value} {f x rm : Int} {a : xA} {b : xB} (hx : 0 ≤ x ∧ x ≤ 5)
    (k1 : pmWp ro d 12 179 0 11 [some (.ref 87), some (xV f), some (xV rm), some (xV (x + 1)), v4, v5] [] (xS a b) Q) :
    pmWp ro d 12 179 0 112 [some (.ref 87), some (xV f), some (xV rm), some (xV x), v4, v5] [] (xS a b) Q := by
  refine x_iinc (pl' := [some (.ref 87), some (xV f), some (xV rm), some (xV (x + 1)), v4, v5]) xc179_112 rfl rfl ?_
  refine x_goto xc179_115 ?_
  exact k1

theorem w179q {ro : Nat → Nat × (Nat → Int32)} {d : Nat} {Q : Option Value → pmS → Prop} {v4 : Option Value} {v5 : Option Value} {f x rm bv : Int} {a : xA} {b : xB} (hA : xAr a) (hf : 1 ≤ f ∧ f ≤ 3) (hrm0 : 0 ≤ rm ∧ rm ≤ 6) (hd : 1 ≤ d) (hx : 0 ≤ x ∧ x ≤ 4) (hbv : a 88 (14 + 9 * (f - 1) + 5 + x) = bv) (hbv0 : -1 ≤ bv ∧ bv ≤ 7)
    (k1 : (4 ≤ x) → Q none (xS a b))
    (k2 : (¬ 4 ≤ x) → (¬ x = f) → ((0 ≤ x ∧ x < 4) ∧ a 88 x = rm) → pmWp ro d 12 179 0 181 [some (.ref 87), some (xV f), some (xV rm), some (xV x), v4, v5] [] (xS (xU a 88 (14 + (9 * (f - 1)) + 5 + x) rm) b) Q)
    (k3 : (¬ 4 ≤ x) → (¬ x = f) → (¬ ((0 ≤ x ∧ x < 4) ∧ a 88 x = rm)) → (¬ a 88 (14 + (9 * (f - 1)) + 5 + x) = rm) → pmWp ro d 12 179 0 181 [some (.ref 87), some (xV f), some (xV rm), some (xV x), v4, v5] [] (xS a b) Q)
    (k4 : (¬ 4 ≤ x) → (¬ x = f) → (¬ ((0 ≤ x ∧ x < 4) ∧ a 88 x = rm)) → (a 88 (14 + (9 * (f - 1)) + 5 + x) = rm) → pmWp ro d 12 179 0 181 [some (.ref 87), some (xV f), some (xV rm), some (xV x), v4, v5] [] (xS (xU a 88 (14 + (9 * (f - 1)) + 5 + x) (-1)) b) Q)
    (k5 : (¬ 4 ≤ x) → (x = f) → pmWp ro d 12 179 0 181 [some (.ref 87), some (xV f), some (xV rm), some (xV x), v4, v5] [] (xS a b) Q) :
    pmWp ro d 12 179 0 120 [some (.ref 87), some (xV f), some (xV rm), some (xV x), v4, v5] [] (xS a b) Q := by
  refine x_iloadn xc179_120 rfl ?_
  refine x_iconst xc179_121 ?_
  refine x_icge xc179_122 (xRk (by have g0 := hx; omega)) (xRk (by decide)) (fun h0 => ?_) (fun h0 => ?_)
  · refine x_ret xc179_187 rfl ?_
    exact k1 h0
  · refine x_iloadn xc179_125 rfl ?_
    refine x_iloadn xc179_126 rfl ?_
    refine x_icne xc179_127 (xRk (by have g0 := hx; omega)) (xRk (by have g0 := hf; omega)) (fun h1 => ?_) (fun h1 => ?_)
    · refine x_aloadn xc179_133 rfl ?_
      refine x_iloadn xc179_134 rfl ?_
      refine x_iloadn xc179_135 rfl ?_
      refine x_cV (as := [xV x, xV rm]) (rest := []) xc179_136 rfl xi180 xz87 ⟨rfl, rfl⟩ rfl rfl ?_
      refine rk180 (by omega) hA (by have g0 := hx; omega) (by have g0 := hrm0; omega) (fun h2 => ?_) (fun h3 => ?_)
      · refine x_ifeq xc179_139 (xRk (by decide)) (fun h => absurd h (by omega)) (fun _ => ?_)
        refine x_aloadn xc179_142 rfl ?_
        refine x_gfr xc179_143 rfl rfl xz87 rfl ?_
        refine x_iloadn xc179_146 rfl ?_
        refine x_iloadn xc179_147 rfl ?_
        refine x_cS (as := [xV f, xV x]) (rest := [.ref 88]) xc179_148 rfl rfl xi147 ⟨rfl, rfl⟩ rfl rfl ?_
        refine rk147 (by omega) ?_
        refine x_iloadn xc179_151 rfl ?_
        refine x_ias xc179_152 xz88 (by have g0 := hf; have g1 := hx; omega) (by have g0 := hf; have g1 := hx; omega) (by have g0 := hf; have g1 := hx; omega) ?_
        refine x_goto xc179_153 ?_
        exact k2 h0 h1 h2
      · refine x_ifeq xc179_139 (xRk (by decide)) (fun _ => ?_) (fun h => absurd h (by omega))
        refine x_aloadn xc179_156 rfl ?_
        refine x_gfr xc179_157 rfl rfl xz87 rfl ?_
        refine x_iloadn xc179_160 rfl ?_
        refine x_iloadn xc179_161 rfl ?_
        refine x_cS (as := [xV f, xV x]) (rest := [.ref 88]) xc179_162 rfl rfl xi147 ⟨rfl, rfl⟩ rfl rfl ?_
        refine rk147 (by omega) ?_
        refine x_ial xc179_165 xz88 rfl (by have g0 := hf; have g1 := hx; omega) (by have g0 := hf; have g1 := hx; omega) (by have g0 := hf; have g1 := hx; omega) ?_
        refine x_iloadn xc179_166 rfl ?_
        refine x_icne xc179_167 (xRk (by have g0 := hf; have g1 := hx; have g2 := xRb (hA 88 (14 + (9 * (f - 1)) + 5 + x)); omega)) (xRk (by have g0 := hrm0; omega)) (fun h6 => ?_) (fun h6 => ?_)
        · exact k3 h0 h1 h3 h6
        · replace h6 := Classical.not_not.mp h6
          refine x_aloadn xc179_170 rfl ?_
          refine x_gfr xc179_171 rfl rfl xz87 rfl ?_
          refine x_iloadn xc179_174 rfl ?_
          refine x_iloadn xc179_175 rfl ?_
          refine x_cS (as := [xV f, xV x]) (rest := [.ref 88]) xc179_176 rfl rfl xi147 ⟨rfl, rfl⟩ rfl rfl ?_
          refine rk147 (by omega) ?_
          refine x_iconst xc179_179 ?_
          refine x_ias xc179_180 xz88 (by have g0 := hf; have g1 := hx; omega) (by have g0 := hf; have g1 := hx; omega) (by have g0 := hf; have g1 := hx; omega) ?_
          exact k4 h0 h1 h3 h6
    · replace h1 := Classical.not_not.mp h1
      refine x_goto xc179_130 ?_
      exact k5 h0 h1

theorem w179z {ro : Nat → Nat × (Nat → Int32)} {d : Nat} {Q : Option Value → pmS → Prop} {v4 : Option Value} {v5 : Option Value} {f x rm : Int} {a : xA} {b : xB} (hx : 0 ≤ x ∧ x ≤ 5)
    (k1 : pmWp ro d 12 179 0 120 [some (.ref 87), some (xV f), some (xV rm), some (xV (x + 1)), v4, v5] [] (xS a b) Q) :
    pmWp ro d 12 179 0 181 [some (.ref 87), some (xV f), some (xV rm), some (xV x), v4, v5] [] (xS a b) Q := by
  refine x_iinc (pl' := [some (.ref 87), some (xV f), some (xV rm), some (xV (x + 1)), v4, v5]) xc179_181 rfl rfl ?_
  refine x_goto xc179_184 ?_
  exact k1

theorem w179q2 {ro : Nat → Nat × (Nat → Int32)} {d : Nat} {Q : Option Value → pmS → Prop} {v4 : Option Value} {v5 : Option Value} {f rm : Int} {a : xA} {b : xB}
    (k1 : Q none (xS a b)) :
    pmWp ro d 12 179 0 120 [some (.ref 87), some (xV f), some (xV rm), some (xV 4), v4, v5] [] (xS a b) Q := by
  refine x_iloadn xc179_120 rfl ?_
  refine x_iconst xc179_121 ?_
  refine x_icge xc179_122 (xRk (by decide)) (xRk (by decide)) (fun _ => ?_) (fun h => absurd h (by omega))
  refine x_ret xc179_187 rfl ?_
  exact k1

theorem w179x2 {ro : Nat → Nat × (Nat → Int32)} {d : Nat} {Q : Option Value → pmS → Prop} {v4 : Option Value} {v5 : Option Value} {f n x rm : Int} {a : xA} {b : xB} (hn : a 87 2 = n) (hn0 : 0 ≤ n ∧ n ≤ 5) (hx : 0 ≤ x ∧ x ≤ n)
    (k1 : (n ≤ x) → pmWp ro d 12 179 0 120 [some (.ref 87), some (xV f), some (xV rm), some (xV 0), v4, v5] [] (xS a b) Q)
    (k2 : (¬ n ≤ x) → pmWp ro d 12 179 0 19 [some (.ref 87), some (xV f), some (xV rm), some (xV x), v4, v5] [] (xS a b) Q) :
    pmWp ro d 12 179 0 11 [some (.ref 87), some (xV f), some (xV rm), some (xV x), v4, v5] [] (xS a b) Q := by
  refine x_iloadn xc179_11 rfl ?_
  refine x_aloadn xc179_12 rfl ?_
  refine x_gfi' (k := 2) (v := n) xc179_13 rfl (Or.inl rfl) rfl xz87 hn ?_
  refine x_icge xc179_16 (xRk (by have g0 := hx; omega)) (xRk (by have g0 := hn0; omega)) (fun h0 => ?_) (fun h0 => ?_)
  · refine x_iconst xc179_118 ?_
    refine x_istoren (pl' := [some (.ref 87), some (xV f), some (xV rm), some (xV 0), v4, v5]) xc179_119 rfl rfl ?_
    exact k1 h0
  · exact k2 h0

theorem w174 {ro : Nat → Nat × (Nat → Int32)} {d : Nat} {Q : Option Value → pmS → Prop} {a : xA} {b : xB}
    (k1 : pmCs ro d 175 [.ref 87] (xS a b) fun r σ' => pmWp ro d 12 174 0 4 [some (.ref 87), none] (r.toList ++ []) σ' Q) :
    pmWp ro d 12 174 0 0 [some (.ref 87), none] [] (xS a b) Q := by
  refine x_aloadn xc174_0 rfl ?_
  refine x_cV (as := []) (rest := []) xc174_1 rfl xi175 xz87 ⟨rfl, rfl⟩ rfl rfl ?_
  exact k1

theorem xg174 {ro : Nat → Nat × (Nat → Int32)} {d : Nat} {Q : Option Value → pmS → Prop} {a : xA} {b : xB} (h : pmWp ro d 12 174 0 0 [some (.ref 87), none] [] (xS a b) Q) : pmCs ro (d + 1) 174 [.ref 87] (xS a b) Q := x_go xi174 rfl rfl rfl rfl rfl h
theorem w174a {ro : Nat → Nat × (Nat → Int32)} {d : Nat} {Q : Option Value → pmS → Prop} {a : xA} {b : xB}
    (k1 : pmWp ro d 12 174 0 6 [some (.ref 87), some (xV 1)] [] (xS a b) Q) :
    pmWp ro d 12 174 0 4 [some (.ref 87), none] [] (xS a b) Q := by
  refine x_iconst xc174_4 ?_
  refine x_istoren (pl' := [some (.ref 87), some (xV 1)]) xc174_5 rfl rfl ?_
  exact k1

theorem w174f {ro : Nat → Nat × (Nat → Int32)} {d : Nat} {Q : Option Value → pmS → Prop} {f : Int} {a : xA} {b : xB} (hA : xAr a) (hf : 1 ≤ f ∧ f ≤ 4) (hd : 1 ≤ d)
    (k1 : (4 ≤ f) → Q none (xS a b))
    (k2 : (¬ 4 ≤ f) → (¬ a 88 f = 7) → pmCs ro d 179 [.ref 87, xV f] (xS a b) fun r σ' => pmWp ro d 12 174 0 24 [some (.ref 87), some (xV f)] (r.toList ++ []) σ' Q)
    (k3 : (¬ 4 ≤ f) → (a 88 f = 7) → pmWp ro d 12 174 0 6 [some (.ref 87), some (xV (f + 1))] [] (xS a b) Q) :
    pmWp ro d 12 174 0 6 [some (.ref 87), some (xV f)] [] (xS a b) Q := by
  refine x_iloadn xc174_6 rfl ?_
  refine x_iconst xc174_7 ?_
  refine x_icge xc174_8 (xRk (by have g0 := hf; omega)) (xRk (by decide)) (fun h0 => ?_) (fun h0 => ?_)
  · refine x_ret xc174_30 rfl ?_
    exact k1 h0
  · refine x_aloadn xc174_11 rfl ?_
    refine x_iloadn xc174_12 rfl ?_
    refine x_cV (as := [xV f]) (rest := []) xc174_13 rfl xi176 xz87 ⟨rfl, rfl⟩ rfl rfl ?_
    refine rk176 (by omega) hA (by have g0 := hf; omega) (fun h1 => ?_) (fun h2 => ?_)
    · refine x_ifeq xc174_16 (xRk (by decide)) (fun h => absurd h (by omega)) (fun _ => ?_)
      refine x_aloadn xc174_19 rfl ?_
      refine x_iloadn xc174_20 rfl ?_
      refine x_cV (as := [xV f]) (rest := []) xc174_21 rfl xi179 xz87 ⟨rfl, rfl⟩ rfl rfl ?_
      exact k2 h0 h1
    · refine x_ifeq xc174_16 (xRk (by decide)) (fun _ => ?_) (fun h => absurd h (by omega))
      refine x_iinc (pl' := [some (.ref 87), some (xV (f + 1))]) xc174_24 rfl rfl ?_
      refine x_goto xc174_27 ?_
      exact k3 h0 h2

theorem w174e {ro : Nat → Nat × (Nat → Int32)} {d : Nat} {Q : Option Value → pmS → Prop} {f : Int} {a : xA} {b : xB} (hf : 1 ≤ f ∧ f ≤ 4)
    (k1 : pmWp ro d 12 174 0 6 [some (.ref 87), some (xV (f + 1))] [] (xS a b) Q) :
    pmWp ro d 12 174 0 24 [some (.ref 87), some (xV f)] [] (xS a b) Q := by
  refine x_iinc (pl' := [some (.ref 87), some (xV (f + 1))]) xc174_24 rfl rfl ?_
  refine x_goto xc174_27 ?_
  exact k1

end
