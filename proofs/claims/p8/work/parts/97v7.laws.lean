/-! exact: the laws of the class, as frames -/
section
set_option maxRecDepth 100000
theorem xi93 : pmInf[93]? = some pmI_93 := rfl
theorem xi94 : pmInf[94]? = some pmI_94 := rfl
theorem xi95 : pmInf[95]? = some pmI_95 := rfl
theorem xi96 : pmInf[96]? = some pmI_96 := rfl
theorem xi98 : pmInf[98]? = some pmI_98 := rfl
theorem xc93_0 : pmCode 93 0 = some (.iload_n 1) ∧ 0 + 1 = 1 := ⟨rfl, rfl⟩
theorem xc93_1 : pmCode 93 1 = some (.bipush 6) ∧ 1 + 2 = 3 := ⟨rfl, rfl⟩
theorem xc93_3 : pmCode 93 3 = some .ishr ∧ 3 + 1 = 4 := ⟨rfl, rfl⟩
theorem xc93_4 : pmCode 93 4 = some (.bipush 7) ∧ 4 + 2 = 6 := ⟨rfl, rfl⟩
theorem xc93_6 : pmCode 93 6 = some .iand ∧ 6 + 1 = 7 := ⟨rfl, rfl⟩
theorem xc93_7 : pmCode 93 7 = some (.iload_n 0) ∧ 7 + 1 = 8 := ⟨rfl, rfl⟩
theorem xc93_8 : pmCode 93 8 = some (.iconst 3) ∧ 8 + 1 = 9 := ⟨rfl, rfl⟩
theorem xc93_9 : pmCode 93 9 = some .ishl ∧ 9 + 1 = 10 := ⟨rfl, rfl⟩
theorem xc93_10 : pmCode 93 10 = some .ior ∧ 10 + 1 = 11 := ⟨rfl, rfl⟩
theorem xc93_11 : pmCode 93 11 = some (.iload_n 1) ∧ 11 + 1 = 12 := ⟨rfl, rfl⟩
theorem xc93_12 : pmCode 93 12 = some (.iconst 3) ∧ 12 + 1 = 13 := ⟨rfl, rfl⟩
theorem xc93_13 : pmCode 93 13 = some .ishr ∧ 13 + 1 = 14 := ⟨rfl, rfl⟩
theorem xc93_14 : pmCode 93 14 = some (.bipush 7) ∧ 14 + 2 = 16 := ⟨rfl, rfl⟩
theorem xc93_16 : pmCode 93 16 = some .iand ∧ 16 + 1 = 17 := ⟨rfl, rfl⟩
theorem xc93_17 : pmCode 93 17 = some (.bipush 6) ∧ 17 + 2 = 19 := ⟨rfl, rfl⟩
theorem xc93_19 : pmCode 93 19 = some .ishl ∧ 19 + 1 = 20 := ⟨rfl, rfl⟩
theorem xc93_20 : pmCode 93 20 = some .ior ∧ 20 + 1 = 21 := ⟨rfl, rfl⟩
theorem xc93_21 : pmCode 93 21 = some (.iload_n 1) ∧ 21 + 1 = 22 := ⟨rfl, rfl⟩
theorem xc93_22 : pmCode 93 22 = some (.bipush 7) ∧ 22 + 2 = 24 := ⟨rfl, rfl⟩
theorem xc93_24 : pmCode 93 24 = some .iand ∧ 24 + 1 = 25 := ⟨rfl, rfl⟩
theorem xc93_25 : pmCode 93 25 = some (.bipush 9) ∧ 25 + 2 = 27 := ⟨rfl, rfl⟩
theorem xc93_27 : pmCode 93 27 = some .ishl ∧ 27 + 1 = 28 := ⟨rfl, rfl⟩
theorem xc93_28 : pmCode 93 28 = some .ior ∧ 28 + 1 = 29 := ⟨rfl, rfl⟩
theorem xc93_29 : pmCode 93 29 = some (.iload_n 2) ∧ 29 + 1 = 30 := ⟨rfl, rfl⟩
theorem xc93_30 : pmCode 93 30 = some (.ifCond .eq 9) ∧ ((30 : Nat) : Int) + 9 = ((39 : Nat) : Int) ∧ 30 + 3 = 33 := ⟨rfl, rfl, rfl⟩
theorem xc93_33 : pmCode 93 33 = some (.sipush 4096) ∧ 33 + 3 = 36 := ⟨rfl, rfl⟩
theorem xc93_36 : pmCode 93 36 = some (.goto 4) ∧ ((36 : Nat) : Int) + 4 = ((40 : Nat) : Int) := ⟨rfl, rfl⟩
theorem xc93_39 : pmCode 93 39 = some (.iconst 0) ∧ 39 + 1 = 40 := ⟨rfl, rfl⟩
theorem xc93_40 : pmCode 93 40 = some .ior ∧ 40 + 1 = 41 := ⟨rfl, rfl⟩
theorem xc93_41 : pmCode 93 41 = some .ireturn := rfl
theorem xc94_0 : pmCode 94 0 = some (.iconst 0) ∧ 0 + 1 = 1 := ⟨rfl, rfl⟩
theorem xc94_1 : pmCode 94 1 = some (.istore_n 3) ∧ 1 + 1 = 2 := ⟨rfl, rfl⟩
theorem xc94_2 : pmCode 94 2 = some (.iload_n 3) ∧ 2 + 1 = 3 := ⟨rfl, rfl⟩
theorem xc94_3 : pmCode 94 3 = some (.aload_n 0) ∧ 3 + 1 = 4 := ⟨rfl, rfl⟩
theorem xc94_4 : pmCode 94 4 = some (.getfield 33) ∧ 4 + 3 = 7 := ⟨rfl, rfl⟩
theorem xc94_7 : pmCode 94 7 = some (.if_icmp .ge 51) ∧ ((7 : Nat) : Int) + 51 = ((58 : Nat) : Int) ∧ 7 + 3 = 10 := ⟨rfl, rfl, rfl⟩
theorem xc94_10 : pmCode 94 10 = some (.iload_n 3) ∧ 10 + 1 = 11 := ⟨rfl, rfl⟩
theorem xc94_11 : pmCode 94 11 = some (.iconst 4) ∧ 11 + 1 = 12 := ⟨rfl, rfl⟩
theorem xc94_12 : pmCode 94 12 = some .imul ∧ 12 + 1 = 13 := ⟨rfl, rfl⟩
theorem xc94_13 : pmCode 94 13 = some (.istore 4) ∧ 13 + 2 = 15 := ⟨rfl, rfl⟩
theorem xc94_15 : pmCode 94 15 = some (.iload 4) ∧ 15 + 2 = 17 := ⟨rfl, rfl⟩
theorem xc94_17 : pmCode 94 17 = some (.iload_n 3) ∧ 17 + 1 = 18 := ⟨rfl, rfl⟩
theorem xc94_18 : pmCode 94 18 = some (.iconst 4) ∧ 18 + 1 = 19 := ⟨rfl, rfl⟩
theorem xc94_19 : pmCode 94 19 = some .imul ∧ 19 + 1 = 20 := ⟨rfl, rfl⟩
theorem xc94_20 : pmCode 94 20 = some (.aload_n 0) ∧ 20 + 1 = 21 := ⟨rfl, rfl⟩
theorem xc94_21 : pmCode 94 21 = some (.getfield 30) ∧ 21 + 3 = 24 := ⟨rfl, rfl⟩
theorem xc94_24 : pmCode 94 24 = some (.iload_n 3) ∧ 24 + 1 = 25 := ⟨rfl, rfl⟩
theorem xc94_25 : pmCode 94 25 = some .iaload ∧ 25 + 1 = 26 := ⟨rfl, rfl⟩
theorem xc94_26 : pmCode 94 26 = some .iadd ∧ 26 + 1 = 27 := ⟨rfl, rfl⟩
theorem xc94_27 : pmCode 94 27 = some (.if_icmp .ge 25) ∧ ((27 : Nat) : Int) + 25 = ((52 : Nat) : Int) ∧ 27 + 3 = 30 := ⟨rfl, rfl, rfl⟩
theorem xc94_30 : pmCode 94 30 = some (.aload_n 0) ∧ 30 + 1 = 31 := ⟨rfl, rfl⟩
theorem xc94_31 : pmCode 94 31 = some (.aload_n 1) ∧ 31 + 1 = 32 := ⟨rfl, rfl⟩
theorem xc94_32 : pmCode 94 32 = some (.iload 4) ∧ 32 + 2 = 34 := ⟨rfl, rfl⟩
theorem xc94_34 : pmCode 94 34 = some (.iload_n 2) ∧ 34 + 1 = 35 := ⟨rfl, rfl⟩
theorem xc94_35 : pmCode 94 35 = some (.invokevirtual 45) ∧ 35 + 3 = 38 := ⟨rfl, rfl⟩
theorem xc94_38 : pmCode 94 38 = some (.ifCond .eq 8) ∧ ((38 : Nat) : Int) + 8 = ((46 : Nat) : Int) ∧ 38 + 3 = 41 := ⟨rfl, rfl, rfl⟩
theorem xc94_41 : pmCode 94 41 = some (.aload_n 1) ∧ 41 + 1 = 42 := ⟨rfl, rfl⟩
theorem xc94_42 : pmCode 94 42 = some (.iload_n 3) ∧ 42 + 1 = 43 := ⟨rfl, rfl⟩
theorem xc94_43 : pmCode 94 43 = some (.invokestatic 49) ∧ 43 + 3 = 46 := ⟨rfl, rfl⟩
theorem xc94_46 : pmCode 94 46 = some (.iinc 4 1) ∧ 46 + 3 = 49 := ⟨rfl, rfl⟩
theorem xc94_49 : pmCode 94 49 = some (.goto (-34)) ∧ ((49 : Nat) : Int) + (-34) = ((15 : Nat) : Int) := ⟨rfl, rfl⟩
theorem xc94_52 : pmCode 94 52 = some (.iinc 3 1) ∧ 52 + 3 = 55 := ⟨rfl, rfl⟩
theorem xc94_55 : pmCode 94 55 = some (.goto (-53)) ∧ ((55 : Nat) : Int) + (-53) = ((2 : Nat) : Int) := ⟨rfl, rfl⟩
theorem xc94_58 : pmCode 94 58 = some .return_ := rfl
theorem xc95_0 : pmCode 95 0 = some (.iload_n 3) ∧ 0 + 1 = 1 := ⟨rfl, rfl⟩
theorem xc95_1 : pmCode 95 1 = some (.aload_n 0) ∧ 1 + 1 = 2 := ⟨rfl, rfl⟩
theorem xc95_2 : pmCode 95 2 = some (.getfield 15) ∧ 2 + 3 = 5 := ⟨rfl, rfl⟩
theorem xc95_5 : pmCode 95 5 = some (.iload_n 2) ∧ 5 + 1 = 6 := ⟨rfl, rfl⟩
theorem xc95_6 : pmCode 95 6 = some .iaload ∧ 6 + 1 = 7 := ⟨rfl, rfl⟩
theorem xc95_7 : pmCode 95 7 = some .iand ∧ 7 + 1 = 8 := ⟨rfl, rfl⟩
theorem xc95_8 : pmCode 95 8 = some (.aload_n 0) ∧ 8 + 1 = 9 := ⟨rfl, rfl⟩
theorem xc95_9 : pmCode 95 9 = some (.getfield 18) ∧ 9 + 3 = 12 := ⟨rfl, rfl⟩
theorem xc95_12 : pmCode 95 12 = some (.iload_n 2) ∧ 12 + 1 = 13 := ⟨rfl, rfl⟩
theorem xc95_13 : pmCode 95 13 = some .iaload ∧ 13 + 1 = 14 := ⟨rfl, rfl⟩
theorem xc95_14 : pmCode 95 14 = some (.if_icmp .ne 7) ∧ ((14 : Nat) : Int) + 7 = ((21 : Nat) : Int) ∧ 14 + 3 = 17 := ⟨rfl, rfl, rfl⟩
theorem xc95_17 : pmCode 95 17 = some (.iconst 1) ∧ 17 + 1 = 18 := ⟨rfl, rfl⟩
theorem xc95_18 : pmCode 95 18 = some (.goto 4) ∧ ((18 : Nat) : Int) + 4 = ((22 : Nat) : Int) := ⟨rfl, rfl⟩
theorem xc95_21 : pmCode 95 21 = some (.iconst 0) ∧ 21 + 1 = 22 := ⟨rfl, rfl⟩
theorem xc95_22 : pmCode 95 22 = some (.istore 4) ∧ 22 + 2 = 24 := ⟨rfl, rfl⟩
theorem xc95_24 : pmCode 95 24 = some (.iload_n 3) ∧ 24 + 1 = 25 := ⟨rfl, rfl⟩
theorem xc95_25 : pmCode 95 25 = some (.aload_n 0) ∧ 25 + 1 = 26 := ⟨rfl, rfl⟩
theorem xc95_26 : pmCode 95 26 = some (.getfield 21) ∧ 26 + 3 = 29 := ⟨rfl, rfl⟩
theorem xc95_29 : pmCode 95 29 = some (.iload_n 2) ∧ 29 + 1 = 30 := ⟨rfl, rfl⟩
theorem xc95_30 : pmCode 95 30 = some .iaload ∧ 30 + 1 = 31 := ⟨rfl, rfl⟩
theorem xc95_31 : pmCode 95 31 = some .iand ∧ 31 + 1 = 32 := ⟨rfl, rfl⟩
theorem xc95_32 : pmCode 95 32 = some (.aload_n 0) ∧ 32 + 1 = 33 := ⟨rfl, rfl⟩
theorem xc95_33 : pmCode 95 33 = some (.getfield 24) ∧ 33 + 3 = 36 := ⟨rfl, rfl⟩
theorem xc95_36 : pmCode 95 36 = some (.iload_n 2) ∧ 36 + 1 = 37 := ⟨rfl, rfl⟩
theorem xc95_37 : pmCode 95 37 = some .iaload ∧ 37 + 1 = 38 := ⟨rfl, rfl⟩
theorem xc95_38 : pmCode 95 38 = some (.if_icmp .ne 7) ∧ ((38 : Nat) : Int) + 7 = ((45 : Nat) : Int) ∧ 38 + 3 = 41 := ⟨rfl, rfl, rfl⟩
theorem xc95_41 : pmCode 95 41 = some (.iconst 1) ∧ 41 + 1 = 42 := ⟨rfl, rfl⟩
theorem xc95_42 : pmCode 95 42 = some (.goto 4) ∧ ((42 : Nat) : Int) + 4 = ((46 : Nat) : Int) := ⟨rfl, rfl⟩
theorem xc95_45 : pmCode 95 45 = some (.iconst 0) ∧ 45 + 1 = 46 := ⟨rfl, rfl⟩
theorem xc95_46 : pmCode 95 46 = some (.istore 5) ∧ 46 + 2 = 48 := ⟨rfl, rfl⟩
theorem xc95_48 : pmCode 95 48 = some (.aload_n 0) ∧ 48 + 1 = 49 := ⟨rfl, rfl⟩
theorem xc95_49 : pmCode 95 49 = some (.getfield 9) ∧ 49 + 3 = 52 := ⟨rfl, rfl⟩
theorem xc95_52 : pmCode 95 52 = some (.iload_n 2) ∧ 52 + 1 = 53 := ⟨rfl, rfl⟩
theorem xc95_53 : pmCode 95 53 = some .iaload ∧ 53 + 1 = 54 := ⟨rfl, rfl⟩
theorem xc95_54 : pmCode 95 54 = some (.bipush 110) ∧ 54 + 2 = 56 := ⟨rfl, rfl⟩
theorem xc95_56 : pmCode 95 56 = some (.if_icmp .ne 6) ∧ ((56 : Nat) : Int) + 6 = ((62 : Nat) : Int) ∧ 56 + 3 = 59 := ⟨rfl, rfl, rfl⟩
theorem xc95_59 : pmCode 95 59 = some (.iload 4) ∧ 59 + 2 = 61 := ⟨rfl, rfl⟩
theorem xc95_61 : pmCode 95 61 = some .ireturn := rfl
theorem xc95_62 : pmCode 95 62 = some (.aload_n 0) ∧ 62 + 1 = 63 := ⟨rfl, rfl⟩
theorem xc95_63 : pmCode 95 63 = some (.getfield 9) ∧ 63 + 3 = 66 := ⟨rfl, rfl⟩
theorem xc95_66 : pmCode 95 66 = some (.iload_n 2) ∧ 66 + 1 = 67 := ⟨rfl, rfl⟩
theorem xc95_67 : pmCode 95 67 = some .iaload ∧ 67 + 1 = 68 := ⟨rfl, rfl⟩
theorem xc95_68 : pmCode 95 68 = some (.bipush 97) ∧ 68 + 2 = 70 := ⟨rfl, rfl⟩
theorem xc95_70 : pmCode 95 70 = some (.if_icmp .ne 46) ∧ ((70 : Nat) : Int) + 46 = ((116 : Nat) : Int) ∧ 70 + 3 = 73 := ⟨rfl, rfl, rfl⟩
theorem xc95_73 : pmCode 95 73 = some (.iload 5) ∧ 73 + 2 = 75 := ⟨rfl, rfl⟩
theorem xc95_75 : pmCode 95 75 = some (.ifCond .eq 16) ∧ ((75 : Nat) : Int) + 16 = ((91 : Nat) : Int) ∧ 75 + 3 = 78 := ⟨rfl, rfl, rfl⟩
theorem xc95_78 : pmCode 95 78 = some (.aload_n 1) ∧ 78 + 1 = 79 := ⟨rfl, rfl⟩
theorem xc95_79 : pmCode 95 79 = some (.getfield 42) ∧ 79 + 3 = 82 := ⟨rfl, rfl⟩
theorem xc95_82 : pmCode 95 82 = some (.iload_n 2) ∧ 82 + 1 = 83 := ⟨rfl, rfl⟩
theorem xc95_83 : pmCode 95 83 = some .iaload ∧ 83 + 1 = 84 := ⟨rfl, rfl⟩
theorem xc95_84 : pmCode 95 84 = some (.ifCond .ne 7) ∧ ((84 : Nat) : Int) + 7 = ((91 : Nat) : Int) ∧ 84 + 3 = 87 := ⟨rfl, rfl, rfl⟩
theorem xc95_87 : pmCode 95 87 = some (.iconst 1) ∧ 87 + 1 = 88 := ⟨rfl, rfl⟩
theorem xc95_88 : pmCode 95 88 = some (.goto 4) ∧ ((88 : Nat) : Int) + 4 = ((92 : Nat) : Int) := ⟨rfl, rfl⟩
theorem xc95_91 : pmCode 95 91 = some (.iconst 0) ∧ 91 + 1 = 92 := ⟨rfl, rfl⟩
theorem xc95_92 : pmCode 95 92 = some (.istore 6) ∧ 92 + 2 = 94 := ⟨rfl, rfl⟩
theorem xc95_94 : pmCode 95 94 = some (.aload_n 1) ∧ 94 + 1 = 95 := ⟨rfl, rfl⟩
theorem xc95_95 : pmCode 95 95 = some (.getfield 42) ∧ 95 + 3 = 98 := ⟨rfl, rfl⟩
theorem xc95_98 : pmCode 95 98 = some (.iload_n 2) ∧ 98 + 1 = 99 := ⟨rfl, rfl⟩
theorem xc95_99 : pmCode 95 99 = some .dup2 ∧ 99 + 1 = 100 := ⟨rfl, rfl⟩
theorem xc95_100 : pmCode 95 100 = some .iaload ∧ 100 + 1 = 101 := ⟨rfl, rfl⟩
theorem xc95_101 : pmCode 95 101 = some (.iload 4) ∧ 101 + 2 = 103 := ⟨rfl, rfl⟩
theorem xc95_103 : pmCode 95 103 = some (.ifCond .eq 7) ∧ ((103 : Nat) : Int) + 7 = ((110 : Nat) : Int) ∧ 103 + 3 = 106 := ⟨rfl, rfl, rfl⟩
theorem xc95_106 : pmCode 95 106 = some (.iconst 1) ∧ 106 + 1 = 107 := ⟨rfl, rfl⟩
theorem xc95_107 : pmCode 95 107 = some (.goto 4) ∧ ((107 : Nat) : Int) + 4 = ((111 : Nat) : Int) := ⟨rfl, rfl⟩
theorem xc95_110 : pmCode 95 110 = some (.iconst 0) ∧ 110 + 1 = 111 := ⟨rfl, rfl⟩
theorem xc95_111 : pmCode 95 111 = some .ior ∧ 111 + 1 = 112 := ⟨rfl, rfl⟩
theorem xc95_112 : pmCode 95 112 = some .iastore ∧ 112 + 1 = 113 := ⟨rfl, rfl⟩
theorem xc95_113 : pmCode 95 113 = some (.iload 6) ∧ 113 + 2 = 115 := ⟨rfl, rfl⟩
theorem xc95_115 : pmCode 95 115 = some .ireturn := rfl
theorem xc95_116 : pmCode 95 116 = some (.aload_n 0) ∧ 116 + 1 = 117 := ⟨rfl, rfl⟩
theorem xc95_117 : pmCode 95 117 = some (.getfield 9) ∧ 117 + 3 = 120 := ⟨rfl, rfl⟩
theorem xc95_120 : pmCode 95 120 = some (.iload_n 2) ∧ 120 + 1 = 121 := ⟨rfl, rfl⟩
theorem xc95_121 : pmCode 95 121 = some .iaload ∧ 121 + 1 = 122 := ⟨rfl, rfl⟩
theorem xc95_122 : pmCode 95 122 = some (.bipush 114) ∧ 122 + 2 = 124 := ⟨rfl, rfl⟩
theorem xc95_124 : pmCode 95 124 = some (.if_icmp .ne 47) ∧ ((124 : Nat) : Int) + 47 = ((171 : Nat) : Int) ∧ 124 + 3 = 127 := ⟨rfl, rfl, rfl⟩
theorem xc95_127 : pmCode 95 127 = some (.iload 5) ∧ 127 + 2 = 129 := ⟨rfl, rfl⟩
theorem xc95_129 : pmCode 95 129 = some (.ifCond .eq 7) ∧ ((129 : Nat) : Int) + 7 = ((136 : Nat) : Int) ∧ 129 + 3 = 132 := ⟨rfl, rfl, rfl⟩
theorem xc95_132 : pmCode 95 132 = some (.iconst 0) ∧ 132 + 1 = 133 := ⟨rfl, rfl⟩
theorem xc95_133 : pmCode 95 133 = some (.goto 9) ∧ ((133 : Nat) : Int) + 9 = ((142 : Nat) : Int) := ⟨rfl, rfl⟩
theorem xc95_136 : pmCode 95 136 = some (.aload_n 1) ∧ 136 + 1 = 137 := ⟨rfl, rfl⟩
theorem xc95_137 : pmCode 95 137 = some (.getfield 42) ∧ 137 + 3 = 140 := ⟨rfl, rfl⟩
theorem xc95_140 : pmCode 95 140 = some (.iload_n 2) ∧ 140 + 1 = 141 := ⟨rfl, rfl⟩
theorem xc95_141 : pmCode 95 141 = some .iaload ∧ 141 + 1 = 142 := ⟨rfl, rfl⟩
theorem xc95_142 : pmCode 95 142 = some (.istore 6) ∧ 142 + 2 = 144 := ⟨rfl, rfl⟩
theorem xc95_144 : pmCode 95 144 = some (.aload_n 1) ∧ 144 + 1 = 145 := ⟨rfl, rfl⟩
theorem xc95_145 : pmCode 95 145 = some (.getfield 42) ∧ 145 + 3 = 148 := ⟨rfl, rfl⟩
theorem xc95_148 : pmCode 95 148 = some (.iload_n 2) ∧ 148 + 1 = 149 := ⟨rfl, rfl⟩
theorem xc95_149 : pmCode 95 149 = some (.iload 4) ∧ 149 + 2 = 151 := ⟨rfl, rfl⟩
theorem xc95_151 : pmCode 95 151 = some (.ifCond .eq 15) ∧ ((151 : Nat) : Int) + 15 = ((166 : Nat) : Int) ∧ 151 + 3 = 154 := ⟨rfl, rfl, rfl⟩
theorem xc95_154 : pmCode 95 154 = some (.iload 6) ∧ 154 + 2 = 156 := ⟨rfl, rfl⟩
theorem xc95_156 : pmCode 95 156 = some (.ifCond .ne 10) ∧ ((156 : Nat) : Int) + 10 = ((166 : Nat) : Int) ∧ 156 + 3 = 159 := ⟨rfl, rfl, rfl⟩
theorem xc95_159 : pmCode 95 159 = some (.aload_n 1) ∧ 159 + 1 = 160 := ⟨rfl, rfl⟩
theorem xc95_160 : pmCode 95 160 = some (.getfield 53) ∧ 160 + 3 = 163 := ⟨rfl, rfl⟩
theorem xc95_163 : pmCode 95 163 = some (.goto 5) ∧ ((163 : Nat) : Int) + 5 = ((168 : Nat) : Int) := ⟨rfl, rfl⟩
theorem xc95_166 : pmCode 95 166 = some (.iload 6) ∧ 166 + 2 = 168 := ⟨rfl, rfl⟩
theorem xc95_168 : pmCode 95 168 = some .iastore ∧ 168 + 1 = 169 := ⟨rfl, rfl⟩
theorem xc95_169 : pmCode 95 169 = some (.iconst 0) ∧ 169 + 1 = 170 := ⟨rfl, rfl⟩
theorem xc95_170 : pmCode 95 170 = some .ireturn := rfl
theorem xc95_171 : pmCode 95 171 = some (.aload_n 1) ∧ 171 + 1 = 172 := ⟨rfl, rfl⟩
theorem xc95_172 : pmCode 95 172 = some (.getfield 42) ∧ 172 + 3 = 175 := ⟨rfl, rfl⟩
theorem xc95_175 : pmCode 95 175 = some (.iload_n 2) ∧ 175 + 1 = 176 := ⟨rfl, rfl⟩
theorem xc95_176 : pmCode 95 176 = some .dup2 ∧ 176 + 1 = 177 := ⟨rfl, rfl⟩
theorem xc95_177 : pmCode 95 177 = some .iaload ∧ 177 + 1 = 178 := ⟨rfl, rfl⟩
theorem xc95_178 : pmCode 95 178 = some (.iload 4) ∧ 178 + 2 = 180 := ⟨rfl, rfl⟩
theorem xc95_180 : pmCode 95 180 = some (.ifCond .eq 20) ∧ ((180 : Nat) : Int) + 20 = ((200 : Nat) : Int) ∧ 180 + 3 = 183 := ⟨rfl, rfl, rfl⟩
theorem xc95_183 : pmCode 95 183 = some (.aload_n 1) ∧ 183 + 1 = 184 := ⟨rfl, rfl⟩
theorem xc95_184 : pmCode 95 184 = some (.getfield 53) ∧ 184 + 3 = 187 := ⟨rfl, rfl⟩
theorem xc95_187 : pmCode 95 187 = some (.aload_n 0) ∧ 187 + 1 = 188 := ⟨rfl, rfl⟩
theorem xc95_188 : pmCode 95 188 = some (.getfield 27) ∧ 188 + 3 = 191 := ⟨rfl, rfl⟩
theorem xc95_191 : pmCode 95 191 = some (.iload_n 2) ∧ 191 + 1 = 192 := ⟨rfl, rfl⟩
theorem xc95_192 : pmCode 95 192 = some .iaload ∧ 192 + 1 = 193 := ⟨rfl, rfl⟩
theorem xc95_193 : pmCode 95 193 = some (.if_icmp .gt 7) ∧ ((193 : Nat) : Int) + 7 = ((200 : Nat) : Int) ∧ 193 + 3 = 196 := ⟨rfl, rfl, rfl⟩
theorem xc95_196 : pmCode 95 196 = some (.iconst 1) ∧ 196 + 1 = 197 := ⟨rfl, rfl⟩
theorem xc95_197 : pmCode 95 197 = some (.goto 4) ∧ ((197 : Nat) : Int) + 4 = ((201 : Nat) : Int) := ⟨rfl, rfl⟩
theorem xc95_200 : pmCode 95 200 = some (.iconst 0) ∧ 200 + 1 = 201 := ⟨rfl, rfl⟩
theorem xc95_201 : pmCode 95 201 = some .ior ∧ 201 + 1 = 202 := ⟨rfl, rfl⟩
theorem xc95_202 : pmCode 95 202 = some .iastore ∧ 202 + 1 = 203 := ⟨rfl, rfl⟩
theorem xc95_203 : pmCode 95 203 = some (.iconst 0) ∧ 203 + 1 = 204 := ⟨rfl, rfl⟩
theorem xc95_204 : pmCode 95 204 = some .ireturn := rfl
theorem xc96_0 : pmCode 96 0 = some (.aload_n 0) ∧ 0 + 1 = 1 := ⟨rfl, rfl⟩
theorem xc96_1 : pmCode 96 1 = some (.getfield 37) ∧ 1 + 3 = 4 := ⟨rfl, rfl⟩
theorem xc96_4 : pmCode 96 4 = some (.iload_n 1) ∧ 4 + 1 = 5 := ⟨rfl, rfl⟩
theorem xc96_5 : pmCode 96 5 = some .iaload ∧ 5 + 1 = 6 := ⟨rfl, rfl⟩
theorem xc96_6 : pmCode 96 6 = some (.ifCond .ne 23) ∧ ((6 : Nat) : Int) + 23 = ((29 : Nat) : Int) ∧ 6 + 3 = 9 := ⟨rfl, rfl, rfl⟩
theorem xc96_9 : pmCode 96 9 = some (.aload_n 0) ∧ 9 + 1 = 10 := ⟨rfl, rfl⟩
theorem xc96_10 : pmCode 96 10 = some (.getfield 37) ∧ 10 + 3 = 13 := ⟨rfl, rfl⟩
theorem xc96_13 : pmCode 96 13 = some (.iload_n 1) ∧ 13 + 1 = 14 := ⟨rfl, rfl⟩
theorem xc96_14 : pmCode 96 14 = some (.aload_n 0) ∧ 14 + 1 = 15 := ⟨rfl, rfl⟩
theorem xc96_15 : pmCode 96 15 = some (.getfield 53) ∧ 15 + 3 = 18 := ⟨rfl, rfl⟩
theorem xc96_18 : pmCode 96 18 = some .iastore ∧ 18 + 1 = 19 := ⟨rfl, rfl⟩
theorem xc96_19 : pmCode 96 19 = some (.aload_n 0) ∧ 19 + 1 = 20 := ⟨rfl, rfl⟩
theorem xc96_20 : pmCode 96 20 = some .dup ∧ 20 + 1 = 21 := ⟨rfl, rfl⟩
theorem xc96_21 : pmCode 96 21 = some (.getfield 56) ∧ 21 + 3 = 24 := ⟨rfl, rfl⟩
theorem xc96_24 : pmCode 96 24 = some (.iconst 1) ∧ 24 + 1 = 25 := ⟨rfl, rfl⟩
theorem xc96_25 : pmCode 96 25 = some .iadd ∧ 25 + 1 = 26 := ⟨rfl, rfl⟩
theorem xc96_26 : pmCode 96 26 = some (.putfield 56) ∧ 26 + 3 = 29 := ⟨rfl, rfl⟩
theorem xc96_29 : pmCode 96 29 = some .return_ := rfl
theorem xc98_0 : pmCode 98 0 = some (.iconst 0) ∧ 0 + 1 = 1 := ⟨rfl, rfl⟩
theorem xc98_1 : pmCode 98 1 = some (.istore_n 2) ∧ 1 + 1 = 2 := ⟨rfl, rfl⟩
theorem xc98_2 : pmCode 98 2 = some (.iload_n 2) ∧ 2 + 1 = 3 := ⟨rfl, rfl⟩
theorem xc98_3 : pmCode 98 3 = some (.aload_n 0) ∧ 3 + 1 = 4 := ⟨rfl, rfl⟩
theorem xc98_4 : pmCode 98 4 = some (.getfield 33) ∧ 4 + 3 = 7 := ⟨rfl, rfl⟩
theorem xc98_7 : pmCode 98 7 = some (.if_icmp .ge 135) ∧ ((7 : Nat) : Int) + 135 = ((142 : Nat) : Int) ∧ 7 + 3 = 10 := ⟨rfl, rfl, rfl⟩
theorem xc98_10 : pmCode 98 10 = some (.iload_n 2) ∧ 10 + 1 = 11 := ⟨rfl, rfl⟩
theorem xc98_11 : pmCode 98 11 = some (.iconst 4) ∧ 11 + 1 = 12 := ⟨rfl, rfl⟩
theorem xc98_12 : pmCode 98 12 = some .imul ∧ 12 + 1 = 13 := ⟨rfl, rfl⟩
theorem xc98_13 : pmCode 98 13 = some (.istore_n 3) ∧ 13 + 1 = 14 := ⟨rfl, rfl⟩
theorem xc98_14 : pmCode 98 14 = some (.iload_n 3) ∧ 14 + 1 = 15 := ⟨rfl, rfl⟩
theorem xc98_15 : pmCode 98 15 = some (.iload_n 2) ∧ 15 + 1 = 16 := ⟨rfl, rfl⟩
theorem xc98_16 : pmCode 98 16 = some (.iconst 4) ∧ 16 + 1 = 17 := ⟨rfl, rfl⟩
theorem xc98_17 : pmCode 98 17 = some .imul ∧ 17 + 1 = 18 := ⟨rfl, rfl⟩
theorem xc98_18 : pmCode 98 18 = some (.aload_n 0) ∧ 18 + 1 = 19 := ⟨rfl, rfl⟩
theorem xc98_19 : pmCode 98 19 = some (.getfield 30) ∧ 19 + 3 = 22 := ⟨rfl, rfl⟩
theorem xc98_22 : pmCode 98 22 = some (.iload_n 2) ∧ 22 + 1 = 23 := ⟨rfl, rfl⟩
theorem xc98_23 : pmCode 98 23 = some .iaload ∧ 23 + 1 = 24 := ⟨rfl, rfl⟩
theorem xc98_24 : pmCode 98 24 = some .iadd ∧ 24 + 1 = 25 := ⟨rfl, rfl⟩
theorem xc98_25 : pmCode 98 25 = some (.if_icmp .ge 111) ∧ ((25 : Nat) : Int) + 111 = ((136 : Nat) : Int) ∧ 25 + 3 = 28 := ⟨rfl, rfl, rfl⟩
theorem xc98_28 : pmCode 98 28 = some (.aload_n 0) ∧ 28 + 1 = 29 := ⟨rfl, rfl⟩
theorem xc98_29 : pmCode 98 29 = some (.getfield 9) ∧ 29 + 3 = 32 := ⟨rfl, rfl⟩
theorem xc98_32 : pmCode 98 32 = some (.iload_n 3) ∧ 32 + 1 = 33 := ⟨rfl, rfl⟩
theorem xc98_33 : pmCode 98 33 = some .iaload ∧ 33 + 1 = 34 := ⟨rfl, rfl⟩
theorem xc98_34 : pmCode 98 34 = some (.bipush 114) ∧ 34 + 2 = 36 := ⟨rfl, rfl⟩
theorem xc98_36 : pmCode 98 36 = some (.if_icmp .ne 36) ∧ ((36 : Nat) : Int) + 36 = ((72 : Nat) : Int) ∧ 36 + 3 = 39 := ⟨rfl, rfl, rfl⟩
theorem xc98_39 : pmCode 98 39 = some (.aload_n 1) ∧ 39 + 1 = 40 := ⟨rfl, rfl⟩
theorem xc98_40 : pmCode 98 40 = some (.getfield 42) ∧ 40 + 3 = 43 := ⟨rfl, rfl⟩
theorem xc98_43 : pmCode 98 43 = some (.iload_n 3) ∧ 43 + 1 = 44 := ⟨rfl, rfl⟩
theorem xc98_44 : pmCode 98 44 = some .iaload ∧ 44 + 1 = 45 := ⟨rfl, rfl⟩
theorem xc98_45 : pmCode 98 45 = some (.ifCond .eq 27) ∧ ((45 : Nat) : Int) + 27 = ((72 : Nat) : Int) ∧ 45 + 3 = 48 := ⟨rfl, rfl, rfl⟩
theorem xc98_48 : pmCode 98 48 = some (.aload_n 1) ∧ 48 + 1 = 49 := ⟨rfl, rfl⟩
theorem xc98_49 : pmCode 98 49 = some (.getfield 53) ∧ 49 + 3 = 52 := ⟨rfl, rfl⟩
theorem xc98_52 : pmCode 98 52 = some (.aload_n 1) ∧ 52 + 1 = 53 := ⟨rfl, rfl⟩
theorem xc98_53 : pmCode 98 53 = some (.getfield 42) ∧ 53 + 3 = 56 := ⟨rfl, rfl⟩
theorem xc98_56 : pmCode 98 56 = some (.iload_n 3) ∧ 56 + 1 = 57 := ⟨rfl, rfl⟩
theorem xc98_57 : pmCode 98 57 = some .iaload ∧ 57 + 1 = 58 := ⟨rfl, rfl⟩
theorem xc98_58 : pmCode 98 58 = some (.aload_n 0) ∧ 58 + 1 = 59 := ⟨rfl, rfl⟩
theorem xc98_59 : pmCode 98 59 = some (.getfield 27) ∧ 59 + 3 = 62 := ⟨rfl, rfl⟩
theorem xc98_62 : pmCode 98 62 = some (.iload_n 3) ∧ 62 + 1 = 63 := ⟨rfl, rfl⟩
theorem xc98_63 : pmCode 98 63 = some .iaload ∧ 63 + 1 = 64 := ⟨rfl, rfl⟩
theorem xc98_64 : pmCode 98 64 = some .iadd ∧ 64 + 1 = 65 := ⟨rfl, rfl⟩
theorem xc98_65 : pmCode 98 65 = some (.if_icmp .lt 7) ∧ ((65 : Nat) : Int) + 7 = ((72 : Nat) : Int) ∧ 65 + 3 = 68 := ⟨rfl, rfl, rfl⟩
theorem xc98_68 : pmCode 98 68 = some (.iconst 1) ∧ 68 + 1 = 69 := ⟨rfl, rfl⟩
theorem xc98_69 : pmCode 98 69 = some (.goto 4) ∧ ((69 : Nat) : Int) + 4 = ((73 : Nat) : Int) := ⟨rfl, rfl⟩
theorem xc98_72 : pmCode 98 72 = some (.iconst 0) ∧ 72 + 1 = 73 := ⟨rfl, rfl⟩
theorem xc98_73 : pmCode 98 73 = some (.istore 4) ∧ 73 + 2 = 75 := ⟨rfl, rfl⟩
theorem xc98_75 : pmCode 98 75 = some (.aload_n 0) ∧ 75 + 1 = 76 := ⟨rfl, rfl⟩
theorem xc98_76 : pmCode 98 76 = some (.getfield 9) ∧ 76 + 3 = 79 := ⟨rfl, rfl⟩
theorem xc98_79 : pmCode 98 79 = some (.iload_n 3) ∧ 79 + 1 = 80 := ⟨rfl, rfl⟩
theorem xc98_80 : pmCode 98 80 = some .iaload ∧ 80 + 1 = 81 := ⟨rfl, rfl⟩
theorem xc98_81 : pmCode 98 81 = some (.bipush 101) ∧ 81 + 2 = 83 := ⟨rfl, rfl⟩
theorem xc98_83 : pmCode 98 83 = some (.if_icmp .ne 29) ∧ ((83 : Nat) : Int) + 29 = ((112 : Nat) : Int) ∧ 83 + 3 = 86 := ⟨rfl, rfl, rfl⟩
theorem xc98_86 : pmCode 98 86 = some (.aload_n 1) ∧ 86 + 1 = 87 := ⟨rfl, rfl⟩
theorem xc98_87 : pmCode 98 87 = some (.getfield 42) ∧ 87 + 3 = 90 := ⟨rfl, rfl⟩
theorem xc98_90 : pmCode 98 90 = some (.iload_n 3) ∧ 90 + 1 = 91 := ⟨rfl, rfl⟩
theorem xc98_91 : pmCode 98 91 = some .iaload ∧ 91 + 1 = 92 := ⟨rfl, rfl⟩
theorem xc98_92 : pmCode 98 92 = some (.ifCond .ne 20) ∧ ((92 : Nat) : Int) + 20 = ((112 : Nat) : Int) ∧ 92 + 3 = 95 := ⟨rfl, rfl, rfl⟩
theorem xc98_95 : pmCode 98 95 = some (.aload_n 1) ∧ 95 + 1 = 96 := ⟨rfl, rfl⟩
theorem xc98_96 : pmCode 98 96 = some (.getfield 53) ∧ 96 + 3 = 99 := ⟨rfl, rfl⟩
theorem xc98_99 : pmCode 98 99 = some (.aload_n 0) ∧ 99 + 1 = 100 := ⟨rfl, rfl⟩
theorem xc98_100 : pmCode 98 100 = some (.getfield 27) ∧ 100 + 3 = 103 := ⟨rfl, rfl⟩
theorem xc98_103 : pmCode 98 103 = some (.iload_n 3) ∧ 103 + 1 = 104 := ⟨rfl, rfl⟩
theorem xc98_104 : pmCode 98 104 = some .iaload ∧ 104 + 1 = 105 := ⟨rfl, rfl⟩
theorem xc98_105 : pmCode 98 105 = some (.if_icmp .lt 7) ∧ ((105 : Nat) : Int) + 7 = ((112 : Nat) : Int) ∧ 105 + 3 = 108 := ⟨rfl, rfl, rfl⟩
theorem xc98_108 : pmCode 98 108 = some (.iconst 1) ∧ 108 + 1 = 109 := ⟨rfl, rfl⟩
theorem xc98_109 : pmCode 98 109 = some (.goto 4) ∧ ((109 : Nat) : Int) + 4 = ((113 : Nat) : Int) := ⟨rfl, rfl⟩
theorem xc98_112 : pmCode 98 112 = some (.iconst 0) ∧ 112 + 1 = 113 := ⟨rfl, rfl⟩
theorem xc98_113 : pmCode 98 113 = some (.istore 5) ∧ 113 + 2 = 115 := ⟨rfl, rfl⟩
theorem xc98_115 : pmCode 98 115 = some (.iload 4) ∧ 115 + 2 = 117 := ⟨rfl, rfl⟩
theorem xc98_117 : pmCode 98 117 = some (.ifCond .ne 8) ∧ ((117 : Nat) : Int) + 8 = ((125 : Nat) : Int) ∧ 117 + 3 = 120 := ⟨rfl, rfl, rfl⟩
theorem xc98_120 : pmCode 98 120 = some (.iload 5) ∧ 120 + 2 = 122 := ⟨rfl, rfl⟩
theorem xc98_122 : pmCode 98 122 = some (.ifCond .eq 8) ∧ ((122 : Nat) : Int) + 8 = ((130 : Nat) : Int) ∧ 122 + 3 = 125 := ⟨rfl, rfl, rfl⟩
theorem xc98_125 : pmCode 98 125 = some (.aload_n 1) ∧ 125 + 1 = 126 := ⟨rfl, rfl⟩
theorem xc98_126 : pmCode 98 126 = some (.iload_n 2) ∧ 126 + 1 = 127 := ⟨rfl, rfl⟩
theorem xc98_127 : pmCode 98 127 = some (.invokestatic 49) ∧ 127 + 3 = 130 := ⟨rfl, rfl⟩
theorem xc98_130 : pmCode 98 130 = some (.iinc 3 1) ∧ 130 + 3 = 133 := ⟨rfl, rfl⟩
theorem xc98_133 : pmCode 98 133 = some (.goto (-119)) ∧ ((133 : Nat) : Int) + (-119) = ((14 : Nat) : Int) := ⟨rfl, rfl⟩
theorem xc98_136 : pmCode 98 136 = some (.iinc 2 1) ∧ 136 + 3 = 139 := ⟨rfl, rfl⟩
theorem xc98_139 : pmCode 98 139 = some (.goto (-137)) ∧ ((139 : Nat) : Int) + (-137) = ((2 : Nat) : Int) := ⟨rfl, rfl⟩
theorem xc98_142 : pmCode 98 142 = some .return_ := rfl
/-- the laws of the class: how many, how long, what their numbers are -/
def uLx (a : xA) : Prop := (0 ≤ a 13 7 ∧ a 13 7 ≤ 6) ∧ (∀ i, 0 ≤ i → i < 6 → 0 ≤ a 20 i ∧ a 20 i ≤ 4) ∧ ∀ c, 0 ≤ c → c < 24 → 0 ≤ a 19 c ∧ a 19 c ≤ 99
def uMk (w : Nat) (a : xA) : Prop := ∀ c, 0 ≤ c → c < 24 → 0 ≤ a (w + 2) c ∧ a (w + 2) c ≤ 1023
theorem w95 {ro : Nat → Nat × (Nat → Int32)} {d : Nat} {Q : Option Value → pmS → Prop} {w : Nat} {c ev : Int} {a : xA} {b : xB} (hz : uWz w) (hw9 : w ≤ 80) (hA : xAr a) (hL : uLx a) (hmk : uMk w a) (htn : 0 ≤ a w 6 ∧ a w 6 ≤ 1000) (hc : 0 ≤ c ∧ c < 24) (hev : xR ev)
    (k1 : (¬ xAnd ev (a 15 c) = a 16 c) → (¬ xAnd ev (a 17 c) = a 18 c) → (¬ a 14 c = 110) → (¬ a 14 c = 97) → (¬ a 14 c = 114) → Q (some (xV 0)) (xS (xU a (w + 2) c (xOr (a (w + 2) c) 0)) b))
    (k2 : (¬ xAnd ev (a 15 c) = a 16 c) → (¬ xAnd ev (a 17 c) = a 18 c) → (¬ a 14 c = 110) → (¬ a 14 c = 97) → (a 14 c = 114) → Q (some (xV 0)) (xS (xU a (w + 2) c (a (w + 2) c)) b))
    (k3 : (¬ xAnd ev (a 15 c) = a 16 c) → (¬ xAnd ev (a 17 c) = a 18 c) → (¬ a 14 c = 110) → (a 14 c = 97) → Q (some (xV 0)) (xS (xU a (w + 2) c (xOr (a (w + 2) c) 0)) b))
    (k4 : (¬ xAnd ev (a 15 c) = a 16 c) → (¬ xAnd ev (a 17 c) = a 18 c) → (a 14 c = 110) → Q (some (xV 0)) (xS a b))
    (k5 : (¬ xAnd ev (a 15 c) = a 16 c) → (xAnd ev (a 17 c) = a 18 c) → (¬ a 14 c = 110) → (¬ a 14 c = 97) → (¬ a 14 c = 114) → Q (some (xV 0)) (xS (xU a (w + 2) c (xOr (a (w + 2) c) 0)) b))
    (k6 : (¬ xAnd ev (a 15 c) = a 16 c) → (xAnd ev (a 17 c) = a 18 c) → (¬ a 14 c = 110) → (¬ a 14 c = 97) → (a 14 c = 114) → Q (some (xV 0)) (xS (xU a (w + 2) c 0) b))
    (k7 : (¬ xAnd ev (a 15 c) = a 16 c) → (xAnd ev (a 17 c) = a 18 c) → (¬ a 14 c = 110) → (a 14 c = 97) → (¬ a (w + 2) c = 0) → Q (some (xV 0)) (xS (xU a (w + 2) c (xOr (a (w + 2) c) 0)) b))
    (k8 : (¬ xAnd ev (a 15 c) = a 16 c) → (xAnd ev (a 17 c) = a 18 c) → (¬ a 14 c = 110) → (a 14 c = 97) → (a (w + 2) c = 0) → Q (some (xV 1)) (xS (xU a (w + 2) c (xOr (a (w + 2) c) 0)) b))
    (k9 : (¬ xAnd ev (a 15 c) = a 16 c) → (xAnd ev (a 17 c) = a 18 c) → (a 14 c = 110) → Q (some (xV 0)) (xS a b))
    (k10 : (xAnd ev (a 15 c) = a 16 c) → (¬ xAnd ev (a 17 c) = a 18 c) → (¬ a 14 c = 110) → (¬ a 14 c = 97) → (¬ a 14 c = 114) → (a 19 c < a w 6) → Q (some (xV 0)) (xS (xU a (w + 2) c (xOr (a (w + 2) c) 0)) b))
    (k11 : (xAnd ev (a 15 c) = a 16 c) → (¬ xAnd ev (a 17 c) = a 18 c) → (¬ a 14 c = 110) → (¬ a 14 c = 97) → (¬ a 14 c = 114) → (¬ a 19 c < a w 6) → Q (some (xV 0)) (xS (xU a (w + 2) c (xOr (a (w + 2) c) 1)) b))
    (k12 : (xAnd ev (a 15 c) = a 16 c) → (¬ xAnd ev (a 17 c) = a 18 c) → (¬ a 14 c = 110) → (¬ a 14 c = 97) → (a 14 c = 114) → (¬ a (w + 2) c = 0) → Q (some (xV 0)) (xS (xU a (w + 2) c (a (w + 2) c)) b))
    (k13 : (xAnd ev (a 15 c) = a 16 c) → (¬ xAnd ev (a 17 c) = a 18 c) → (¬ a 14 c = 110) → (¬ a 14 c = 97) → (a 14 c = 114) → (a (w + 2) c = 0) → Q (some (xV 0)) (xS (xU a (w + 2) c (a w 6)) b))
    (k14 : (xAnd ev (a 15 c) = a 16 c) → (¬ xAnd ev (a 17 c) = a 18 c) → (¬ a 14 c = 110) → (a 14 c = 97) → Q (some (xV 0)) (xS (xU a (w + 2) c (xOr (a (w + 2) c) 1)) b))
    (k15 : (xAnd ev (a 15 c) = a 16 c) → (¬ xAnd ev (a 17 c) = a 18 c) → (a 14 c = 110) → Q (some (xV 1)) (xS a b))
    (k16 : (xAnd ev (a 15 c) = a 16 c) → (xAnd ev (a 17 c) = a 18 c) → (¬ a 14 c = 110) → (¬ a 14 c = 97) → (¬ a 14 c = 114) → (a 19 c < a w 6) → Q (some (xV 0)) (xS (xU a (w + 2) c (xOr (a (w + 2) c) 0)) b))
    (k17 : (xAnd ev (a 15 c) = a 16 c) → (xAnd ev (a 17 c) = a 18 c) → (¬ a 14 c = 110) → (¬ a 14 c = 97) → (¬ a 14 c = 114) → (¬ a 19 c < a w 6) → Q (some (xV 0)) (xS (xU a (w + 2) c (xOr (a (w + 2) c) 1)) b))
    (k18 : (xAnd ev (a 15 c) = a 16 c) → (xAnd ev (a 17 c) = a 18 c) → (¬ a 14 c = 110) → (¬ a 14 c = 97) → (a 14 c = 114) → Q (some (xV 0)) (xS (xU a (w + 2) c (a w 6)) b))
    (k19 : (xAnd ev (a 15 c) = a 16 c) → (xAnd ev (a 17 c) = a 18 c) → (¬ a 14 c = 110) → (a 14 c = 97) → (¬ a (w + 2) c = 0) → Q (some (xV 0)) (xS (xU a (w + 2) c (xOr (a (w + 2) c) 1)) b))
    (k20 : (xAnd ev (a 15 c) = a 16 c) → (xAnd ev (a 17 c) = a 18 c) → (¬ a 14 c = 110) → (a 14 c = 97) → (a (w + 2) c = 0) → Q (some (xV 1)) (xS (xU a (w + 2) c (xOr (a (w + 2) c) 1)) b))
    (k21 : (xAnd ev (a 15 c) = a 16 c) → (xAnd ev (a 17 c) = a 18 c) → (a 14 c = 110) → Q (some (xV 1)) (xS a b)) :
    pmWp ro d 2 95 2 0 [some (.ref 13), some (.ref w), some (xV c), some (xV ev), none, none, none] [] (xS a b) Q := by
  refine x_iloadn xc95_0 rfl ?_
  refine x_aloadn xc95_1 rfl ?_
  refine x_gfr xc95_2 rfl rfl xz13 rfl ?_
  refine x_iloadn xc95_5 rfl ?_
  refine x_ial xc95_6 xz15 rfl (by have g0 := hc; omega) (by have g0 := hc; omega) (by have g0 := hc; omega) ?_
  refine x_iand xc95_7 ?_
  refine x_aloadn xc95_8 rfl ?_
  refine x_gfr xc95_9 rfl rfl xz13 rfl ?_
  refine x_iloadn xc95_12 rfl ?_
  refine x_ial xc95_13 xz16 rfl (by have g0 := hc; omega) (by have g0 := hc; omega) (by have g0 := hc; omega) ?_
  refine x_icne xc95_14 (xRk (by have g0 := xRb hev; have g1 := hc; have g2 := xRb (hA 15 c); have g3 := xAndB ev (a 15 c); omega)) (xRk (by have g0 := hc; have g1 := xRb (hA 16 c); omega)) (fun h0 => ?_) (fun h0 => ?_)
  · refine x_iconst xc95_21 ?_
    refine x_istore (pl' := [some (.ref 13), some (.ref w), some (xV c), some (xV ev), some (xV 0), none, none]) xc95_22 rfl rfl ?_
    refine x_iloadn xc95_24 rfl ?_
    refine x_aloadn xc95_25 rfl ?_
    refine x_gfr xc95_26 rfl rfl xz13 rfl ?_
    refine x_iloadn xc95_29 rfl ?_
    refine x_ial xc95_30 xz17 rfl (by have g0 := hc; omega) (by have g0 := hc; omega) (by have g0 := hc; omega) ?_
    refine x_iand xc95_31 ?_
    refine x_aloadn xc95_32 rfl ?_
    refine x_gfr xc95_33 rfl rfl xz13 rfl ?_
    refine x_iloadn xc95_36 rfl ?_
    refine x_ial xc95_37 xz18 rfl (by have g0 := hc; omega) (by have g0 := hc; omega) (by have g0 := hc; omega) ?_
    refine x_icne xc95_38 (xRk (by have g0 := xRb hev; have g1 := hc; have g2 := xRb (hA 17 c); have g3 := xAndB ev (a 17 c); omega)) (xRk (by have g0 := hc; have g1 := xRb (hA 18 c); omega)) (fun h1 => ?_) (fun h1 => ?_)
    · refine x_iconst xc95_45 ?_
      refine x_istore (pl' := [some (.ref 13), some (.ref w), some (xV c), some (xV ev), some (xV 0), some (xV 0), none]) xc95_46 rfl rfl ?_
      refine x_aloadn xc95_48 rfl ?_
      refine x_gfr xc95_49 rfl rfl xz13 rfl ?_
      refine x_iloadn xc95_52 rfl ?_
      refine x_ial xc95_53 xz14 rfl (by have g0 := hc; omega) (by have g0 := hc; omega) (by have g0 := hc; omega) ?_
      refine x_bipush xc95_54 (by decide) ?_
      refine x_icne xc95_56 (xRk (by have g0 := hc; have g1 := xRb (hA 14 c); omega)) (xRk (by decide)) (fun h2 => ?_) (fun h2 => ?_)
      · refine x_aloadn xc95_62 rfl ?_
        refine x_gfr xc95_63 rfl rfl xz13 rfl ?_
        refine x_iloadn xc95_66 rfl ?_
        refine x_ial xc95_67 xz14 rfl (by have g0 := hc; omega) (by have g0 := hc; omega) (by have g0 := hc; omega) ?_
        refine x_bipush xc95_68 (by decide) ?_
        refine x_icne xc95_70 (xRk (by have g0 := hc; have g1 := xRb (hA 14 c); omega)) (xRk (by decide)) (fun h3 => ?_) (fun h3 => ?_)
        · refine x_aloadn xc95_116 rfl ?_
          refine x_gfr xc95_117 rfl rfl xz13 rfl ?_
          refine x_iloadn xc95_120 rfl ?_
          refine x_ial xc95_121 xz14 rfl (by have g0 := hc; omega) (by have g0 := hc; omega) (by have g0 := hc; omega) ?_
          refine x_bipush xc95_122 (by decide) ?_
          refine x_icne xc95_124 (xRk (by have g0 := hc; have g1 := xRb (hA 14 c); omega)) (xRk (by decide)) (fun h4 => ?_) (fun h4 => ?_)
          · refine x_aloadn xc95_171 rfl ?_
            refine x_gfr xc95_172 rfl rfl hz.1 rfl ?_
            refine x_iloadn xc95_175 rfl ?_
            refine x_dup2 xc95_176 ⟨rfl, rfl⟩ ?_
            refine x_ial xc95_177 hz.2.2.1 (Nat.ble_eq_true_of_le (by omega)) (by have g0 := hc; omega) (by have g0 := hc; omega) (by have g0 := hc; omega) ?_
            refine x_iload xc95_178 rfl ?_
            refine x_ifeq xc95_180 (xRk (by decide)) (fun _ => ?_) (fun h => absurd h (by omega))
            refine x_iconst xc95_200 ?_
            refine x_ior xc95_201 ?_
            refine x_ias xc95_202 hz.2.2.1 (by have g0 := hc; omega) (by have g0 := hc; omega) (by have g0 := hc; omega) ?_
            refine x_iconst xc95_203 ?_
            refine x_iret xc95_204 (Or.inr ⟨rfl, (by omega)⟩) ?_
            exact k1 h0 h1 h2 h3 h4
          · replace h4 := Classical.not_not.mp h4
            refine x_iload xc95_127 rfl ?_
            refine x_ifeq xc95_129 (xRk (by decide)) (fun _ => ?_) (fun h => absurd h (by omega))
            refine x_aloadn xc95_136 rfl ?_
            refine x_gfr xc95_137 rfl rfl hz.1 rfl ?_
            refine x_iloadn xc95_140 rfl ?_
            refine x_ial xc95_141 hz.2.2.1 (Nat.ble_eq_true_of_le (by omega)) (by have g0 := hc; omega) (by have g0 := hc; omega) (by have g0 := hc; omega) ?_
            refine x_istore (pl' := [some (.ref 13), some (.ref w), some (xV c), some (xV ev), some (xV 0), some (xV 0), some (xV (a (w + 2) c))]) xc95_142 rfl rfl ?_
            refine x_aloadn xc95_144 rfl ?_
            refine x_gfr xc95_145 rfl rfl hz.1 rfl ?_
            refine x_iloadn xc95_148 rfl ?_
            refine x_iload xc95_149 rfl ?_
            refine x_ifeq xc95_151 (xRk (by decide)) (fun _ => ?_) (fun h => absurd h (by omega))
            refine x_iload xc95_166 rfl ?_
            refine x_ias xc95_168 hz.2.2.1 (by have g0 := hc; omega) (by have g0 := hc; omega) (by have g0 := hc; omega) ?_
            refine x_iconst xc95_169 ?_
            refine x_iret xc95_170 (Or.inr ⟨rfl, (by omega)⟩) ?_
            exact k2 h0 h1 h2 h3 h4
        · replace h3 := Classical.not_not.mp h3
          refine x_iload xc95_73 rfl ?_
          refine x_ifeq xc95_75 (xRk (by decide)) (fun _ => ?_) (fun h => absurd h (by omega))
          refine x_iconst xc95_91 ?_
          refine x_istore (pl' := [some (.ref 13), some (.ref w), some (xV c), some (xV ev), some (xV 0), some (xV 0), some (xV 0)]) xc95_92 rfl rfl ?_
          refine x_aloadn xc95_94 rfl ?_
          refine x_gfr xc95_95 rfl rfl hz.1 rfl ?_
          refine x_iloadn xc95_98 rfl ?_
          refine x_dup2 xc95_99 ⟨rfl, rfl⟩ ?_
          refine x_ial xc95_100 hz.2.2.1 (Nat.ble_eq_true_of_le (by omega)) (by have g0 := hc; omega) (by have g0 := hc; omega) (by have g0 := hc; omega) ?_
          refine x_iload xc95_101 rfl ?_
          refine x_ifeq xc95_103 (xRk (by decide)) (fun _ => ?_) (fun h => absurd h (by omega))
          refine x_iconst xc95_110 ?_
          refine x_ior xc95_111 ?_
          refine x_ias xc95_112 hz.2.2.1 (by have g0 := hc; omega) (by have g0 := hc; omega) (by have g0 := hc; omega) ?_
          refine x_iload xc95_113 rfl ?_
          refine x_iret xc95_115 (Or.inr ⟨rfl, (by omega)⟩) ?_
          exact k3 h0 h1 h2 h3
      · replace h2 := Classical.not_not.mp h2
        refine x_iload xc95_59 rfl ?_
        refine x_iret xc95_61 (Or.inr ⟨rfl, (by omega)⟩) ?_
        exact k4 h0 h1 h2
    · replace h1 := Classical.not_not.mp h1
      refine x_iconst xc95_41 ?_
      refine x_goto xc95_42 ?_
      refine x_istore (pl' := [some (.ref 13), some (.ref w), some (xV c), some (xV ev), some (xV 0), some (xV 1), none]) xc95_46 rfl rfl ?_
      refine x_aloadn xc95_48 rfl ?_
      refine x_gfr xc95_49 rfl rfl xz13 rfl ?_
      refine x_iloadn xc95_52 rfl ?_
      refine x_ial xc95_53 xz14 rfl (by have g0 := hc; omega) (by have g0 := hc; omega) (by have g0 := hc; omega) ?_
      refine x_bipush xc95_54 (by decide) ?_
      refine x_icne xc95_56 (xRk (by have g0 := hc; have g1 := xRb (hA 14 c); omega)) (xRk (by decide)) (fun h10 => ?_) (fun h10 => ?_)
      · refine x_aloadn xc95_62 rfl ?_
        refine x_gfr xc95_63 rfl rfl xz13 rfl ?_
        refine x_iloadn xc95_66 rfl ?_
        refine x_ial xc95_67 xz14 rfl (by have g0 := hc; omega) (by have g0 := hc; omega) (by have g0 := hc; omega) ?_
        refine x_bipush xc95_68 (by decide) ?_
        refine x_icne xc95_70 (xRk (by have g0 := hc; have g1 := xRb (hA 14 c); omega)) (xRk (by decide)) (fun h11 => ?_) (fun h11 => ?_)
        · refine x_aloadn xc95_116 rfl ?_
          refine x_gfr xc95_117 rfl rfl xz13 rfl ?_
          refine x_iloadn xc95_120 rfl ?_
          refine x_ial xc95_121 xz14 rfl (by have g0 := hc; omega) (by have g0 := hc; omega) (by have g0 := hc; omega) ?_
          refine x_bipush xc95_122 (by decide) ?_
          refine x_icne xc95_124 (xRk (by have g0 := hc; have g1 := xRb (hA 14 c); omega)) (xRk (by decide)) (fun h12 => ?_) (fun h12 => ?_)
          · refine x_aloadn xc95_171 rfl ?_
            refine x_gfr xc95_172 rfl rfl hz.1 rfl ?_
            refine x_iloadn xc95_175 rfl ?_
            refine x_dup2 xc95_176 ⟨rfl, rfl⟩ ?_
            refine x_ial xc95_177 hz.2.2.1 (Nat.ble_eq_true_of_le (by omega)) (by have g0 := hc; omega) (by have g0 := hc; omega) (by have g0 := hc; omega) ?_
            refine x_iload xc95_178 rfl ?_
            refine x_ifeq xc95_180 (xRk (by decide)) (fun _ => ?_) (fun h => absurd h (by omega))
            refine x_iconst xc95_200 ?_
            refine x_ior xc95_201 ?_
            refine x_ias xc95_202 hz.2.2.1 (by have g0 := hc; omega) (by have g0 := hc; omega) (by have g0 := hc; omega) ?_
            refine x_iconst xc95_203 ?_
            refine x_iret xc95_204 (Or.inr ⟨rfl, (by omega)⟩) ?_
            exact k5 h0 h1 h10 h11 h12
          · replace h12 := Classical.not_not.mp h12
            refine x_iload xc95_127 rfl ?_
            refine x_ifeq xc95_129 (xRk (by decide)) (fun h => absurd h (by omega)) (fun _ => ?_)
            refine x_iconst xc95_132 ?_
            refine x_goto xc95_133 ?_
            refine x_istore (pl' := [some (.ref 13), some (.ref w), some (xV c), some (xV ev), some (xV 0), some (xV 1), some (xV 0)]) xc95_142 rfl rfl ?_
            refine x_aloadn xc95_144 rfl ?_
            refine x_gfr xc95_145 rfl rfl hz.1 rfl ?_
            refine x_iloadn xc95_148 rfl ?_
            refine x_iload xc95_149 rfl ?_
            refine x_ifeq xc95_151 (xRk (by decide)) (fun _ => ?_) (fun h => absurd h (by omega))
            refine x_iload xc95_166 rfl ?_
            refine x_ias xc95_168 hz.2.2.1 (by have g0 := hc; omega) (by have g0 := hc; omega) (by have g0 := hc; omega) ?_
            refine x_iconst xc95_169 ?_
            refine x_iret xc95_170 (Or.inr ⟨rfl, (by omega)⟩) ?_
            exact k6 h0 h1 h10 h11 h12
        · replace h11 := Classical.not_not.mp h11
          refine x_iload xc95_73 rfl ?_
          refine x_ifeq xc95_75 (xRk (by decide)) (fun h => absurd h (by omega)) (fun _ => ?_)
          refine x_aloadn xc95_78 rfl ?_
          refine x_gfr xc95_79 rfl rfl hz.1 rfl ?_
          refine x_iloadn xc95_82 rfl ?_
          refine x_ial xc95_83 hz.2.2.1 (Nat.ble_eq_true_of_le (by omega)) (by have g0 := hc; omega) (by have g0 := hc; omega) (by have g0 := hc; omega) ?_
          refine x_ifne xc95_84 (xRk (by have g0 := hc; have g1 := hmk c (by omega) (by omega); omega)) (fun h17 => ?_) (fun h17 => ?_)
          · refine x_iconst xc95_91 ?_
            refine x_istore (pl' := [some (.ref 13), some (.ref w), some (xV c), some (xV ev), some (xV 0), some (xV 1), some (xV 0)]) xc95_92 rfl rfl ?_
            refine x_aloadn xc95_94 rfl ?_
            refine x_gfr xc95_95 rfl rfl hz.1 rfl ?_
            refine x_iloadn xc95_98 rfl ?_
            refine x_dup2 xc95_99 ⟨rfl, rfl⟩ ?_
            refine x_ial xc95_100 hz.2.2.1 (Nat.ble_eq_true_of_le (by omega)) (by have g0 := hc; omega) (by have g0 := hc; omega) (by have g0 := hc; omega) ?_
            refine x_iload xc95_101 rfl ?_
            refine x_ifeq xc95_103 (xRk (by decide)) (fun _ => ?_) (fun h => absurd h (by omega))
            refine x_iconst xc95_110 ?_
            refine x_ior xc95_111 ?_
            refine x_ias xc95_112 hz.2.2.1 (by have g0 := hc; omega) (by have g0 := hc; omega) (by have g0 := hc; omega) ?_
            refine x_iload xc95_113 rfl ?_
            refine x_iret xc95_115 (Or.inr ⟨rfl, (by omega)⟩) ?_
            exact k7 h0 h1 h10 h11 h17
          · replace h17 := Classical.not_not.mp h17
            refine x_iconst xc95_87 ?_
            refine x_goto xc95_88 ?_
            refine x_istore (pl' := [some (.ref 13), some (.ref w), some (xV c), some (xV ev), some (xV 0), some (xV 1), some (xV 1)]) xc95_92 rfl rfl ?_
            refine x_aloadn xc95_94 rfl ?_
            refine x_gfr xc95_95 rfl rfl hz.1 rfl ?_
            refine x_iloadn xc95_98 rfl ?_
            refine x_dup2 xc95_99 ⟨rfl, rfl⟩ ?_
            refine x_ial xc95_100 hz.2.2.1 (Nat.ble_eq_true_of_le (by omega)) (by have g0 := hc; omega) (by have g0 := hc; omega) (by have g0 := hc; omega) ?_
            refine x_iload xc95_101 rfl ?_
            refine x_ifeq xc95_103 (xRk (by decide)) (fun _ => ?_) (fun h => absurd h (by omega))
            refine x_iconst xc95_110 ?_
            refine x_ior xc95_111 ?_
            refine x_ias xc95_112 hz.2.2.1 (by have g0 := hc; omega) (by have g0 := hc; omega) (by have g0 := hc; omega) ?_
            refine x_iload xc95_113 rfl ?_
            refine x_iret xc95_115 (Or.inr ⟨rfl, (by omega)⟩) ?_
            exact k8 h0 h1 h10 h11 h17
      · replace h10 := Classical.not_not.mp h10
        refine x_iload xc95_59 rfl ?_
        refine x_iret xc95_61 (Or.inr ⟨rfl, (by omega)⟩) ?_
        exact k9 h0 h1 h10
  · replace h0 := Classical.not_not.mp h0
    refine x_iconst xc95_17 ?_
    refine x_goto xc95_18 ?_
    refine x_istore (pl' := [some (.ref 13), some (.ref w), some (xV c), some (xV ev), some (xV 1), none, none]) xc95_22 rfl rfl ?_
    refine x_iloadn xc95_24 rfl ?_
    refine x_aloadn xc95_25 rfl ?_
    refine x_gfr xc95_26 rfl rfl xz13 rfl ?_
    refine x_iloadn xc95_29 rfl ?_
    refine x_ial xc95_30 xz17 rfl (by have g0 := hc; omega) (by have g0 := hc; omega) (by have g0 := hc; omega) ?_
    refine x_iand xc95_31 ?_
    refine x_aloadn xc95_32 rfl ?_
    refine x_gfr xc95_33 rfl rfl xz13 rfl ?_
    refine x_iloadn xc95_36 rfl ?_
    refine x_ial xc95_37 xz18 rfl (by have g0 := hc; omega) (by have g0 := hc; omega) (by have g0 := hc; omega) ?_
    refine x_icne xc95_38 (xRk (by have g0 := xRb hev; have g1 := hc; have g2 := xRb (hA 17 c); have g3 := xAndB ev (a 17 c); omega)) (xRk (by have g0 := hc; have g1 := xRb (hA 18 c); omega)) (fun h20 => ?_) (fun h20 => ?_)
    · refine x_iconst xc95_45 ?_
      refine x_istore (pl' := [some (.ref 13), some (.ref w), some (xV c), some (xV ev), some (xV 1), some (xV 0), none]) xc95_46 rfl rfl ?_
      refine x_aloadn xc95_48 rfl ?_
      refine x_gfr xc95_49 rfl rfl xz13 rfl ?_
      refine x_iloadn xc95_52 rfl ?_
      refine x_ial xc95_53 xz14 rfl (by have g0 := hc; omega) (by have g0 := hc; omega) (by have g0 := hc; omega) ?_
      refine x_bipush xc95_54 (by decide) ?_
      refine x_icne xc95_56 (xRk (by have g0 := hc; have g1 := xRb (hA 14 c); omega)) (xRk (by decide)) (fun h21 => ?_) (fun h21 => ?_)
      · refine x_aloadn xc95_62 rfl ?_
        refine x_gfr xc95_63 rfl rfl xz13 rfl ?_
        refine x_iloadn xc95_66 rfl ?_
        refine x_ial xc95_67 xz14 rfl (by have g0 := hc; omega) (by have g0 := hc; omega) (by have g0 := hc; omega) ?_
        refine x_bipush xc95_68 (by decide) ?_
        refine x_icne xc95_70 (xRk (by have g0 := hc; have g1 := xRb (hA 14 c); omega)) (xRk (by decide)) (fun h22 => ?_) (fun h22 => ?_)
        · refine x_aloadn xc95_116 rfl ?_
          refine x_gfr xc95_117 rfl rfl xz13 rfl ?_
          refine x_iloadn xc95_120 rfl ?_
          refine x_ial xc95_121 xz14 rfl (by have g0 := hc; omega) (by have g0 := hc; omega) (by have g0 := hc; omega) ?_
          refine x_bipush xc95_122 (by decide) ?_
          refine x_icne xc95_124 (xRk (by have g0 := hc; have g1 := xRb (hA 14 c); omega)) (xRk (by decide)) (fun h23 => ?_) (fun h23 => ?_)
          · refine x_aloadn xc95_171 rfl ?_
            refine x_gfr xc95_172 rfl rfl hz.1 rfl ?_
            refine x_iloadn xc95_175 rfl ?_
            refine x_dup2 xc95_176 ⟨rfl, rfl⟩ ?_
            refine x_ial xc95_177 hz.2.2.1 (Nat.ble_eq_true_of_le (by omega)) (by have g0 := hc; omega) (by have g0 := hc; omega) (by have g0 := hc; omega) ?_
            refine x_iload xc95_178 rfl ?_
            refine x_ifeq xc95_180 (xRk (by decide)) (fun h => absurd h (by omega)) (fun _ => ?_)
            refine x_aloadn xc95_183 rfl ?_
            refine x_gfi (k := 6) xc95_184 rfl (Or.inl rfl) rfl hz.1 ?_
            refine x_aloadn xc95_187 rfl ?_
            refine x_gfr xc95_188 rfl rfl xz13 rfl ?_
            refine x_iloadn xc95_191 rfl ?_
            refine x_ial xc95_192 xz19 rfl (by have g0 := hc; omega) (by have g0 := hc; omega) (by have g0 := hc; omega) ?_
            refine x_icgt xc95_193 (xRk (by have g0 := htn; omega)) (xRk (by have g0 := hc; have g1 := hL.2.2 c (by omega) (by omega); omega)) (fun h25 => ?_) (fun h25 => ?_)
            · refine x_iconst xc95_200 ?_
              refine x_ior xc95_201 ?_
              refine x_ias xc95_202 hz.2.2.1 (by have g0 := hc; omega) (by have g0 := hc; omega) (by have g0 := hc; omega) ?_
              refine x_iconst xc95_203 ?_
              refine x_iret xc95_204 (Or.inr ⟨rfl, (by omega)⟩) ?_
              exact k10 h0 h20 h21 h22 h23 h25
            · refine x_iconst xc95_196 ?_
              refine x_goto xc95_197 ?_
              refine x_ior xc95_201 ?_
              refine x_ias xc95_202 hz.2.2.1 (by have g0 := hc; omega) (by have g0 := hc; omega) (by have g0 := hc; omega) ?_
              refine x_iconst xc95_203 ?_
              refine x_iret xc95_204 (Or.inr ⟨rfl, (by omega)⟩) ?_
              exact k11 h0 h20 h21 h22 h23 h25
          · replace h23 := Classical.not_not.mp h23
            refine x_iload xc95_127 rfl ?_
            refine x_ifeq xc95_129 (xRk (by decide)) (fun _ => ?_) (fun h => absurd h (by omega))
            refine x_aloadn xc95_136 rfl ?_
            refine x_gfr xc95_137 rfl rfl hz.1 rfl ?_
            refine x_iloadn xc95_140 rfl ?_
            refine x_ial xc95_141 hz.2.2.1 (Nat.ble_eq_true_of_le (by omega)) (by have g0 := hc; omega) (by have g0 := hc; omega) (by have g0 := hc; omega) ?_
            refine x_istore (pl' := [some (.ref 13), some (.ref w), some (xV c), some (xV ev), some (xV 1), some (xV 0), some (xV (a (w + 2) c))]) xc95_142 rfl rfl ?_
            refine x_aloadn xc95_144 rfl ?_
            refine x_gfr xc95_145 rfl rfl hz.1 rfl ?_
            refine x_iloadn xc95_148 rfl ?_
            refine x_iload xc95_149 rfl ?_
            refine x_ifeq xc95_151 (xRk (by decide)) (fun h => absurd h (by omega)) (fun _ => ?_)
            refine x_iload xc95_154 rfl ?_
            refine x_ifne xc95_156 (xRk (by have g0 := hc; have g1 := hmk c (by omega) (by omega); omega)) (fun h28 => ?_) (fun h28 => ?_)
            · refine x_iload xc95_166 rfl ?_
              refine x_ias xc95_168 hz.2.2.1 (by have g0 := hc; omega) (by have g0 := hc; omega) (by have g0 := hc; omega) ?_
              refine x_iconst xc95_169 ?_
              refine x_iret xc95_170 (Or.inr ⟨rfl, (by omega)⟩) ?_
              exact k12 h0 h20 h21 h22 h23 h28
            · replace h28 := Classical.not_not.mp h28
              refine x_aloadn xc95_159 rfl ?_
              refine x_gfi (k := 6) xc95_160 rfl (Or.inl rfl) rfl hz.1 ?_
              refine x_goto xc95_163 ?_
              refine x_ias xc95_168 hz.2.2.1 (by have g0 := hc; omega) (by have g0 := hc; omega) (by have g0 := hc; omega) ?_
              refine x_iconst xc95_169 ?_
              refine x_iret xc95_170 (Or.inr ⟨rfl, (by omega)⟩) ?_
              exact k13 h0 h20 h21 h22 h23 h28
        · replace h22 := Classical.not_not.mp h22
          refine x_iload xc95_73 rfl ?_
          refine x_ifeq xc95_75 (xRk (by decide)) (fun _ => ?_) (fun h => absurd h (by omega))
          refine x_iconst xc95_91 ?_
          refine x_istore (pl' := [some (.ref 13), some (.ref w), some (xV c), some (xV ev), some (xV 1), some (xV 0), some (xV 0)]) xc95_92 rfl rfl ?_
          refine x_aloadn xc95_94 rfl ?_
          refine x_gfr xc95_95 rfl rfl hz.1 rfl ?_
          refine x_iloadn xc95_98 rfl ?_
          refine x_dup2 xc95_99 ⟨rfl, rfl⟩ ?_
          refine x_ial xc95_100 hz.2.2.1 (Nat.ble_eq_true_of_le (by omega)) (by have g0 := hc; omega) (by have g0 := hc; omega) (by have g0 := hc; omega) ?_
          refine x_iload xc95_101 rfl ?_
          refine x_ifeq xc95_103 (xRk (by decide)) (fun h => absurd h (by omega)) (fun _ => ?_)
          refine x_iconst xc95_106 ?_
          refine x_goto xc95_107 ?_
          refine x_ior xc95_111 ?_
          refine x_ias xc95_112 hz.2.2.1 (by have g0 := hc; omega) (by have g0 := hc; omega) (by have g0 := hc; omega) ?_
          refine x_iload xc95_113 rfl ?_
          refine x_iret xc95_115 (Or.inr ⟨rfl, (by omega)⟩) ?_
          exact k14 h0 h20 h21 h22
      · replace h21 := Classical.not_not.mp h21
        refine x_iload xc95_59 rfl ?_
        refine x_iret xc95_61 (Or.inr ⟨rfl, (by omega)⟩) ?_
        exact k15 h0 h20 h21
    · replace h20 := Classical.not_not.mp h20
      refine x_iconst xc95_41 ?_
      refine x_goto xc95_42 ?_
      refine x_istore (pl' := [some (.ref 13), some (.ref w), some (xV c), some (xV ev), some (xV 1), some (xV 1), none]) xc95_46 rfl rfl ?_
      refine x_aloadn xc95_48 rfl ?_
      refine x_gfr xc95_49 rfl rfl xz13 rfl ?_
      refine x_iloadn xc95_52 rfl ?_
      refine x_ial xc95_53 xz14 rfl (by have g0 := hc; omega) (by have g0 := hc; omega) (by have g0 := hc; omega) ?_
      refine x_bipush xc95_54 (by decide) ?_
      refine x_icne xc95_56 (xRk (by have g0 := hc; have g1 := xRb (hA 14 c); omega)) (xRk (by decide)) (fun h31 => ?_) (fun h31 => ?_)
      · refine x_aloadn xc95_62 rfl ?_
        refine x_gfr xc95_63 rfl rfl xz13 rfl ?_
        refine x_iloadn xc95_66 rfl ?_
        refine x_ial xc95_67 xz14 rfl (by have g0 := hc; omega) (by have g0 := hc; omega) (by have g0 := hc; omega) ?_
        refine x_bipush xc95_68 (by decide) ?_
        refine x_icne xc95_70 (xRk (by have g0 := hc; have g1 := xRb (hA 14 c); omega)) (xRk (by decide)) (fun h32 => ?_) (fun h32 => ?_)
        · refine x_aloadn xc95_116 rfl ?_
          refine x_gfr xc95_117 rfl rfl xz13 rfl ?_
          refine x_iloadn xc95_120 rfl ?_
          refine x_ial xc95_121 xz14 rfl (by have g0 := hc; omega) (by have g0 := hc; omega) (by have g0 := hc; omega) ?_
          refine x_bipush xc95_122 (by decide) ?_
          refine x_icne xc95_124 (xRk (by have g0 := hc; have g1 := xRb (hA 14 c); omega)) (xRk (by decide)) (fun h33 => ?_) (fun h33 => ?_)
          · refine x_aloadn xc95_171 rfl ?_
            refine x_gfr xc95_172 rfl rfl hz.1 rfl ?_
            refine x_iloadn xc95_175 rfl ?_
            refine x_dup2 xc95_176 ⟨rfl, rfl⟩ ?_
            refine x_ial xc95_177 hz.2.2.1 (Nat.ble_eq_true_of_le (by omega)) (by have g0 := hc; omega) (by have g0 := hc; omega) (by have g0 := hc; omega) ?_
            refine x_iload xc95_178 rfl ?_
            refine x_ifeq xc95_180 (xRk (by decide)) (fun h => absurd h (by omega)) (fun _ => ?_)
            refine x_aloadn xc95_183 rfl ?_
            refine x_gfi (k := 6) xc95_184 rfl (Or.inl rfl) rfl hz.1 ?_
            refine x_aloadn xc95_187 rfl ?_
            refine x_gfr xc95_188 rfl rfl xz13 rfl ?_
            refine x_iloadn xc95_191 rfl ?_
            refine x_ial xc95_192 xz19 rfl (by have g0 := hc; omega) (by have g0 := hc; omega) (by have g0 := hc; omega) ?_
            refine x_icgt xc95_193 (xRk (by have g0 := htn; omega)) (xRk (by have g0 := hc; have g1 := hL.2.2 c (by omega) (by omega); omega)) (fun h35 => ?_) (fun h35 => ?_)
            · refine x_iconst xc95_200 ?_
              refine x_ior xc95_201 ?_
              refine x_ias xc95_202 hz.2.2.1 (by have g0 := hc; omega) (by have g0 := hc; omega) (by have g0 := hc; omega) ?_
              refine x_iconst xc95_203 ?_
              refine x_iret xc95_204 (Or.inr ⟨rfl, (by omega)⟩) ?_
              exact k16 h0 h20 h31 h32 h33 h35
            · refine x_iconst xc95_196 ?_
              refine x_goto xc95_197 ?_
              refine x_ior xc95_201 ?_
              refine x_ias xc95_202 hz.2.2.1 (by have g0 := hc; omega) (by have g0 := hc; omega) (by have g0 := hc; omega) ?_
              refine x_iconst xc95_203 ?_
              refine x_iret xc95_204 (Or.inr ⟨rfl, (by omega)⟩) ?_
              exact k17 h0 h20 h31 h32 h33 h35
          · replace h33 := Classical.not_not.mp h33
            refine x_iload xc95_127 rfl ?_
            refine x_ifeq xc95_129 (xRk (by decide)) (fun h => absurd h (by omega)) (fun _ => ?_)
            refine x_iconst xc95_132 ?_
            refine x_goto xc95_133 ?_
            refine x_istore (pl' := [some (.ref 13), some (.ref w), some (xV c), some (xV ev), some (xV 1), some (xV 1), some (xV 0)]) xc95_142 rfl rfl ?_
            refine x_aloadn xc95_144 rfl ?_
            refine x_gfr xc95_145 rfl rfl hz.1 rfl ?_
            refine x_iloadn xc95_148 rfl ?_
            refine x_iload xc95_149 rfl ?_
            refine x_ifeq xc95_151 (xRk (by decide)) (fun h => absurd h (by omega)) (fun _ => ?_)
            refine x_iload xc95_154 rfl ?_
            refine x_ifne xc95_156 (xRk (by decide)) (fun h => absurd h (by omega)) (fun _ => ?_)
            refine x_aloadn xc95_159 rfl ?_
            refine x_gfi (k := 6) xc95_160 rfl (Or.inl rfl) rfl hz.1 ?_
            refine x_goto xc95_163 ?_
            refine x_ias xc95_168 hz.2.2.1 (by have g0 := hc; omega) (by have g0 := hc; omega) (by have g0 := hc; omega) ?_
            refine x_iconst xc95_169 ?_
            refine x_iret xc95_170 (Or.inr ⟨rfl, (by omega)⟩) ?_
            exact k18 h0 h20 h31 h32 h33
        · replace h32 := Classical.not_not.mp h32
          refine x_iload xc95_73 rfl ?_
          refine x_ifeq xc95_75 (xRk (by decide)) (fun h => absurd h (by omega)) (fun _ => ?_)
          refine x_aloadn xc95_78 rfl ?_
          refine x_gfr xc95_79 rfl rfl hz.1 rfl ?_
          refine x_iloadn xc95_82 rfl ?_
          refine x_ial xc95_83 hz.2.2.1 (Nat.ble_eq_true_of_le (by omega)) (by have g0 := hc; omega) (by have g0 := hc; omega) (by have g0 := hc; omega) ?_
          refine x_ifne xc95_84 (xRk (by have g0 := hc; have g1 := hmk c (by omega) (by omega); omega)) (fun h40 => ?_) (fun h40 => ?_)
          · refine x_iconst xc95_91 ?_
            refine x_istore (pl' := [some (.ref 13), some (.ref w), some (xV c), some (xV ev), some (xV 1), some (xV 1), some (xV 0)]) xc95_92 rfl rfl ?_
            refine x_aloadn xc95_94 rfl ?_
            refine x_gfr xc95_95 rfl rfl hz.1 rfl ?_
            refine x_iloadn xc95_98 rfl ?_
            refine x_dup2 xc95_99 ⟨rfl, rfl⟩ ?_
            refine x_ial xc95_100 hz.2.2.1 (Nat.ble_eq_true_of_le (by omega)) (by have g0 := hc; omega) (by have g0 := hc; omega) (by have g0 := hc; omega) ?_
            refine x_iload xc95_101 rfl ?_
            refine x_ifeq xc95_103 (xRk (by decide)) (fun h => absurd h (by omega)) (fun _ => ?_)
            refine x_iconst xc95_106 ?_
            refine x_goto xc95_107 ?_
            refine x_ior xc95_111 ?_
            refine x_ias xc95_112 hz.2.2.1 (by have g0 := hc; omega) (by have g0 := hc; omega) (by have g0 := hc; omega) ?_
            refine x_iload xc95_113 rfl ?_
            refine x_iret xc95_115 (Or.inr ⟨rfl, (by omega)⟩) ?_
            exact k19 h0 h20 h31 h32 h40
          · replace h40 := Classical.not_not.mp h40
            refine x_iconst xc95_87 ?_
            refine x_goto xc95_88 ?_
            refine x_istore (pl' := [some (.ref 13), some (.ref w), some (xV c), some (xV ev), some (xV 1), some (xV 1), some (xV 1)]) xc95_92 rfl rfl ?_
            refine x_aloadn xc95_94 rfl ?_
            refine x_gfr xc95_95 rfl rfl hz.1 rfl ?_
            refine x_iloadn xc95_98 rfl ?_
            refine x_dup2 xc95_99 ⟨rfl, rfl⟩ ?_
            refine x_ial xc95_100 hz.2.2.1 (Nat.ble_eq_true_of_le (by omega)) (by have g0 := hc; omega) (by have g0 := hc; omega) (by have g0 := hc; omega) ?_
            refine x_iload xc95_101 rfl ?_
            refine x_ifeq xc95_103 (xRk (by decide)) (fun h => absurd h (by omega)) (fun _ => ?_)
            refine x_iconst xc95_106 ?_
            refine x_goto xc95_107 ?_
            refine x_ior xc95_111 ?_
            refine x_ias xc95_112 hz.2.2.1 (by have g0 := hc; omega) (by have g0 := hc; omega) (by have g0 := hc; omega) ?_
            refine x_iload xc95_113 rfl ?_
            refine x_iret xc95_115 (Or.inr ⟨rfl, (by omega)⟩) ?_
            exact k20 h0 h20 h31 h32 h40
      · replace h31 := Classical.not_not.mp h31
        refine x_iload xc95_59 rfl ?_
        refine x_iret xc95_61 (Or.inr ⟨rfl, (by omega)⟩) ?_
        exact k21 h0 h20 h31

theorem xg95 {ro : Nat → Nat × (Nat → Int32)} {d : Nat} {Q : Option Value → pmS → Prop} {a : xA} {b : xB} {c ev : Int} {w : Nat} (h : pmWp ro d 2 95 2 0 [some (.ref 13), some (.ref w), some (xV c), some (xV ev), none, none, none] [] (xS a b) Q) : pmCs ro (d + 1) 95 [.ref 13, .ref w, xV c, xV ev] (xS a b) Q := x_go xi95 rfl rfl rfl rfl rfl h
theorem w96 {ro : Nat → Nat × (Nat → Int32)} {d : Nat} {Q : Option Value → pmS → Prop} {w : Nat} {i : Int} {a : xA} {b : xB} (hz : uWz w) (hw9 : w ≤ 80) (hA : xAr a) (htn : 0 ≤ a w 6 ∧ a w 6 ≤ 1000) (hi : 0 ≤ i ∧ i < 6)
    (k1 : (¬ a (w + 3) i = 0) → Q none (xS a b))
    (k2 : (a (w + 3) i = 0) → Q none (xS (xU (xU a (w + 3) i (a w 6)) w 7 ((xU a (w + 3) i (a w 6)) w 7 + 1)) b)) :
    pmWp ro d 2 96 0 0 [some (.ref w), some (xV i)] [] (xS a b) Q := by
  refine x_aloadn xc96_0 rfl ?_
  refine x_gfr xc96_1 rfl rfl hz.1 rfl ?_
  refine x_iloadn xc96_4 rfl ?_
  refine x_ial xc96_5 hz.2.2.2.1 (Nat.ble_eq_true_of_le (by omega)) (by have g0 := hi; omega) (by have g0 := hi; omega) (by have g0 := hi; omega) ?_
  refine x_ifne xc96_6 (xRk (by have g0 := hi; have g1 := xRb (hA (w + 3) i); omega)) (fun h0 => ?_) (fun h0 => ?_)
  · refine x_ret xc96_29 rfl ?_
    exact k1 h0
  · replace h0 := Classical.not_not.mp h0
    refine x_aloadn xc96_9 rfl ?_
    refine x_gfr xc96_10 rfl rfl hz.1 rfl ?_
    refine x_iloadn xc96_13 rfl ?_
    refine x_aloadn xc96_14 rfl ?_
    refine x_gfi (k := 6) xc96_15 rfl (Or.inl rfl) rfl hz.1 ?_
    refine x_ias xc96_18 hz.2.2.2.1 (by have g0 := hi; omega) (by have g0 := hi; omega) (by have g0 := hi; omega) ?_
    refine x_aloadn xc96_19 rfl ?_
    refine x_dup xc96_20 rfl ?_
    refine x_gfi (k := 7) xc96_21 rfl (Or.inl rfl) rfl hz.1 ?_
    refine x_iconst xc96_24 ?_
    refine x_iadd xc96_25 ?_
    refine x_pfi (k := 7) xc96_26 rfl ⟨rfl, rfl⟩ rfl hz.1 ?_
    refine x_ret xc96_29 rfl ?_
    exact k2 h0

theorem xg96 {ro : Nat → Nat × (Nat → Int32)} {d : Nat} {Q : Option Value → pmS → Prop} {a : xA} {b : xB} {i : Int} {w : Nat} (h : pmWp ro d 2 96 0 0 [some (.ref w), some (xV i)] [] (xS a b) Q) : pmCs ro (d + 1) 96 [.ref w, xV i] (xS a b) Q := x_go xi96 rfl rfl rfl rfl rfl h
theorem w94 {ro : Nat → Nat × (Nat → Int32)} {d : Nat} {Q : Option Value → pmS → Prop} {w : Nat} {ev : Int} {a : xA} {b : xB}
    (k1 : pmWp ro d 2 94 0 2 [some (.ref 13), some (.ref w), some (xV ev), some (xV 0), none] [] (xS a b) Q) :
    pmWp ro d 2 94 0 0 [some (.ref 13), some (.ref w), some (xV ev), none, none] [] (xS a b) Q := by
  refine x_iconst xc94_0 ?_
  refine x_istoren (pl' := [some (.ref 13), some (.ref w), some (xV ev), some (xV 0), none]) xc94_1 rfl rfl ?_
  exact k1

theorem xg94 {ro : Nat → Nat × (Nat → Int32)} {d : Nat} {Q : Option Value → pmS → Prop} {a : xA} {b : xB} {ev : Int} {w : Nat} (h : pmWp ro d 2 94 0 0 [some (.ref 13), some (.ref w), some (xV ev), none, none] [] (xS a b) Q) : pmCs ro (d + 1) 94 [.ref 13, .ref w, xV ev] (xS a b) Q := x_go xi94 rfl rfl rfl rfl rfl h
theorem w94i {ro : Nat → Nat × (Nat → Int32)} {d : Nat} {Q : Option Value → pmS → Prop} {v4 : Option Value} {w : Nat} {i ev : Int} {a : xA} {b : xB} (hz : uWz w) (hw9 : w ≤ 80) (hA : xAr a) (hL : uLx a) (hmk : uMk w a) (htn : 0 ≤ a w 6 ∧ a w 6 ≤ 1000) (hev : xR ev) (hi : 0 ≤ i ∧ i ≤ 6)
    (k1 : (a 13 7 ≤ i) → Q none (xS a b))
    (k2 : (¬ a 13 7 ≤ i) → pmWp ro d 2 94 0 15 [some (.ref 13), some (.ref w), some (xV ev), some (xV i), some (xV (i * 4))] [] (xS a b) Q) :
    pmWp ro d 2 94 0 2 [some (.ref 13), some (.ref w), some (xV ev), some (xV i), v4] [] (xS a b) Q := by
  refine x_iloadn xc94_2 rfl ?_
  refine x_aloadn xc94_3 rfl ?_
  refine x_gfi (k := 7) xc94_4 rfl (Or.inl rfl) rfl xz13 ?_
  refine x_icge xc94_7 (xRk (by have g0 := hi; omega)) (xRk (by have g0 := hL.1; omega)) (fun h0 => ?_) (fun h0 => ?_)
  · refine x_ret xc94_58 rfl ?_
    exact k1 h0
  · refine x_iloadn xc94_10 rfl ?_
    refine x_iconst xc94_11 ?_
    refine x_imul xc94_12 ?_
    refine x_istore (pl' := [some (.ref 13), some (.ref w), some (xV ev), some (xV i), some (xV (i * 4))]) xc94_13 rfl rfl ?_
    exact k2 h0

theorem w94c {ro : Nat → Nat × (Nat → Int32)} {d : Nat} {Q : Option Value → pmS → Prop} {w : Nat} {i c ev : Int} {a : xA} {b : xB} (hz : uWz w) (hw9 : w ≤ 80) (hA : xAr a) (hL : uLx a) (hmk : uMk w a) (htn : 0 ≤ a w 6 ∧ a w 6 ≤ 1000) (hev : xR ev) (hi : 0 ≤ i ∧ i < 6) (hc : 4 * i ≤ c ∧ c ≤ 4 * i + 4)
    (k1 : (i * 4 + (a 20 i) ≤ c) → pmWp ro d 2 94 0 52 [some (.ref 13), some (.ref w), some (xV ev), some (xV i), some (xV c)] [] (xS a b) Q)
    (k2 : (¬ i * 4 + (a 20 i) ≤ c) → pmCs ro d 95 [.ref 13, .ref w, xV c, xV ev] (xS a b) fun r σ' => pmWp ro d 2 94 0 38 [some (.ref 13), some (.ref w), some (xV ev), some (xV i), some (xV c)] (r.toList ++ []) σ' Q) :
    pmWp ro d 2 94 0 15 [some (.ref 13), some (.ref w), some (xV ev), some (xV i), some (xV c)] [] (xS a b) Q := by
  refine x_iload xc94_15 rfl ?_
  refine x_iloadn xc94_17 rfl ?_
  refine x_iconst xc94_18 ?_
  refine x_imul xc94_19 ?_
  refine x_aloadn xc94_20 rfl ?_
  refine x_gfr xc94_21 rfl rfl xz13 rfl ?_
  refine x_iloadn xc94_24 rfl ?_
  refine x_ial xc94_25 xz20 rfl (by have g0 := hi; omega) (by have g0 := hi; omega) (by have g0 := hi; omega) ?_
  refine x_iadd xc94_26 ?_
  refine x_icge xc94_27 (xRk (by have g0 := hc; omega)) (xRk (by have g0 := hi; have g1 := hL.2.1 i (by omega) (by omega); omega)) (fun h0 => ?_) (fun h0 => ?_)
  · exact k1 h0
  · refine x_aloadn xc94_30 rfl ?_
    refine x_aloadn xc94_31 rfl ?_
    refine x_iload xc94_32 rfl ?_
    refine x_iloadn xc94_34 rfl ?_
    refine x_cV (as := [.ref w, xV c, xV ev]) (rest := []) xc94_35 rfl xi95 xz13 ⟨rfl, rfl⟩ rfl rfl ?_
    exact k2 h0

theorem w94d {ro : Nat → Nat × (Nat → Int32)} {d : Nat} {Q : Option Value → pmS → Prop} {w : Nat} {z i c ev : Int} {a : xA} {b : xB} (hz : uWz w) (hw9 : w ≤ 80) (hA : xAr a) (hL : uLx a) (hmk : uMk w a) (htn : 0 ≤ a w 6 ∧ a w 6 ≤ 1000) (hev : xR ev) (hi : 0 ≤ i ∧ i < 6) (hc : 4 * i ≤ c ∧ c ≤ 4 * i + 3) (hzz : z = 0 ∨ z = 1)
    (k1 : (z = 0) → pmWp ro d 2 94 0 46 [some (.ref 13), some (.ref w), some (xV ev), some (xV i), some (xV c)] [] (xS a b) Q)
    (k2 : (¬ z = 0) → pmCs ro d 96 [.ref w, xV i] (xS a b) fun r σ' => pmWp ro d 2 94 0 46 [some (.ref 13), some (.ref w), some (xV ev), some (xV i), some (xV c)] (r.toList ++ []) σ' Q) :
    pmWp ro d 2 94 0 38 [some (.ref 13), some (.ref w), some (xV ev), some (xV i), some (xV c)] [xV z] (xS a b) Q := by
  refine x_ifeq xc94_38 (xRk (by have g0 := hzz; omega)) (fun h0 => ?_) (fun h0 => ?_)
  · exact k1 h0
  · refine x_aloadn xc94_41 rfl ?_
    refine x_iloadn xc94_42 rfl ?_
    refine x_cS (as := [.ref w, xV i]) (rest := []) xc94_43 rfl rfl xi96 ⟨rfl, rfl⟩ rfl rfl ?_
    exact k2 h0

theorem w94e {ro : Nat → Nat × (Nat → Int32)} {d : Nat} {Q : Option Value → pmS → Prop} {w : Nat} {ev i c : Int} {a : xA} {b : xB}
    (k1 : pmWp ro d 2 94 0 15 [some (.ref 13), some (.ref w), some (xV ev), some (xV i), some (xV (c + 1))] [] (xS a b) Q) :
    pmWp ro d 2 94 0 46 [some (.ref 13), some (.ref w), some (xV ev), some (xV i), some (xV c)] [] (xS a b) Q := by
  refine x_iinc (pl' := [some (.ref 13), some (.ref w), some (xV ev), some (xV i), some (xV (c + 1))]) xc94_46 rfl rfl ?_
  refine x_goto xc94_49 ?_
  exact k1

theorem w94f {ro : Nat → Nat × (Nat → Int32)} {d : Nat} {Q : Option Value → pmS → Prop} {v4 : Option Value} {w : Nat} {ev i : Int} {a : xA} {b : xB}
    (k1 : pmWp ro d 2 94 0 2 [some (.ref 13), some (.ref w), some (xV ev), some (xV (i + 1)), v4] [] (xS a b) Q) :
    pmWp ro d 2 94 0 52 [some (.ref 13), some (.ref w), some (xV ev), some (xV i), v4] [] (xS a b) Q := by
  refine x_iinc (pl' := [some (.ref 13), some (.ref w), some (xV ev), some (xV (i + 1)), v4]) xc94_52 rfl rfl ?_
  refine x_goto xc94_55 ?_
  exact k1

theorem w98 {ro : Nat → Nat × (Nat → Int32)} {d : Nat} {Q : Option Value → pmS → Prop} {w : Nat} {a : xA} {b : xB}
    (k1 : pmWp ro d 2 98 0 2 [some (.ref 13), some (.ref w), some (xV 0), none, none, none] [] (xS a b) Q) :
    pmWp ro d 2 98 0 0 [some (.ref 13), some (.ref w), none, none, none, none] [] (xS a b) Q := by
  refine x_iconst xc98_0 ?_
  refine x_istoren (pl' := [some (.ref 13), some (.ref w), some (xV 0), none, none, none]) xc98_1 rfl rfl ?_
  exact k1

theorem xg98 {ro : Nat → Nat × (Nat → Int32)} {d : Nat} {Q : Option Value → pmS → Prop} {a : xA} {b : xB} {w : Nat} (h : pmWp ro d 2 98 0 0 [some (.ref 13), some (.ref w), none, none, none, none] [] (xS a b) Q) : pmCs ro (d + 1) 98 [.ref 13, .ref w] (xS a b) Q := x_go xi98 rfl rfl rfl rfl rfl h
theorem w98i {ro : Nat → Nat × (Nat → Int32)} {d : Nat} {Q : Option Value → pmS → Prop} {v3 : Option Value} {v4 : Option Value} {v5 : Option Value} {w : Nat} {i : Int} {a : xA} {b : xB} (hz : uWz w) (hw9 : w ≤ 80) (hA : xAr a) (hL : uLx a) (hmk : uMk w a) (htn : 0 ≤ a w 6 ∧ a w 6 ≤ 1000) (hi : 0 ≤ i ∧ i ≤ 6)
    (k1 : (a 13 7 ≤ i) → Q none (xS a b))
    (k2 : (¬ a 13 7 ≤ i) → pmWp ro d 2 98 0 14 [some (.ref 13), some (.ref w), some (xV i), some (xV (i * 4)), v4, v5] [] (xS a b) Q) :
    pmWp ro d 2 98 0 2 [some (.ref 13), some (.ref w), some (xV i), v3, v4, v5] [] (xS a b) Q := by
  refine x_iloadn xc98_2 rfl ?_
  refine x_aloadn xc98_3 rfl ?_
  refine x_gfi (k := 7) xc98_4 rfl (Or.inl rfl) rfl xz13 ?_
  refine x_icge xc98_7 (xRk (by have g0 := hi; omega)) (xRk (by have g0 := hL.1; omega)) (fun h0 => ?_) (fun h0 => ?_)
  · refine x_ret xc98_142 rfl ?_
    exact k1 h0
  · refine x_iloadn xc98_10 rfl ?_
    refine x_iconst xc98_11 ?_
    refine x_imul xc98_12 ?_
    refine x_istoren (pl' := [some (.ref 13), some (.ref w), some (xV i), some (xV (i * 4)), v4, v5]) xc98_13 rfl rfl ?_
    exact k2 h0

theorem w98c {ro : Nat → Nat × (Nat → Int32)} {d : Nat} {Q : Option Value → pmS → Prop} {v4 : Option Value} {v5 : Option Value} {w : Nat} {i c : Int} {a : xA} {b : xB} (hz : uWz w) (hw9 : w ≤ 80) (hA : xAr a) (hL : uLx a) (hmk : uMk w a) (htn : 0 ≤ a w 6 ∧ a w 6 ≤ 1000) (hi : 0 ≤ i ∧ i < 6) (hc : 4 * i ≤ c ∧ c ≤ 4 * i + 4)
    (k1 : (i * 4 + (a 20 i) ≤ c) → pmWp ro d 2 98 0 136 [some (.ref 13), some (.ref w), some (xV i), some (xV c), v4, v5] [] (xS a b) Q)
    (k2 : (¬ i * 4 + (a 20 i) ≤ c) → (¬ a 14 c = 114) → (¬ a 14 c = 101) → pmWp ro d 2 98 0 130 [some (.ref 13), some (.ref w), some (xV i), some (xV c), some (xV 0), some (xV 0)] [] (xS a b) Q)
    (k3 : (¬ i * 4 + (a 20 i) ≤ c) → (¬ a 14 c = 114) → (a 14 c = 101) → (¬ a (w + 2) c = 0) → pmWp ro d 2 98 0 130 [some (.ref 13), some (.ref w), some (xV i), some (xV c), some (xV 0), some (xV 0)] [] (xS a b) Q)
    (k4 : (¬ i * 4 + (a 20 i) ≤ c) → (¬ a 14 c = 114) → (a 14 c = 101) → (a (w + 2) c = 0) → (a w 6 < a 19 c) → pmWp ro d 2 98 0 130 [some (.ref 13), some (.ref w), some (xV i), some (xV c), some (xV 0), some (xV 0)] [] (xS a b) Q)
    (k5 : (¬ i * 4 + (a 20 i) ≤ c) → (¬ a 14 c = 114) → (a 14 c = 101) → (a (w + 2) c = 0) → (¬ a w 6 < a 19 c) → pmCs ro d 96 [.ref w, xV i] (xS a b) fun r σ' => pmWp ro d 2 98 0 130 [some (.ref 13), some (.ref w), some (xV i), some (xV c), some (xV 0), some (xV 1)] (r.toList ++ []) σ' Q)
    (k6 : (¬ i * 4 + (a 20 i) ≤ c) → (a 14 c = 114) → (a (w + 2) c = 0) → pmWp ro d 2 98 0 130 [some (.ref 13), some (.ref w), some (xV i), some (xV c), some (xV 0), some (xV 0)] [] (xS a b) Q)
    (k7 : (¬ i * 4 + (a 20 i) ≤ c) → (a 14 c = 114) → (¬ a (w + 2) c = 0) → (a w 6 < a (w + 2) c + (a 19 c)) → pmWp ro d 2 98 0 130 [some (.ref 13), some (.ref w), some (xV i), some (xV c), some (xV 0), some (xV 0)] [] (xS a b) Q)
    (k8 : (¬ i * 4 + (a 20 i) ≤ c) → (a 14 c = 114) → (¬ a (w + 2) c = 0) → (¬ a w 6 < a (w + 2) c + (a 19 c)) → pmCs ro d 96 [.ref w, xV i] (xS a b) fun r σ' => pmWp ro d 2 98 0 130 [some (.ref 13), some (.ref w), some (xV i), some (xV c), some (xV 1), some (xV 0)] (r.toList ++ []) σ' Q) :
    pmWp ro d 2 98 0 14 [some (.ref 13), some (.ref w), some (xV i), some (xV c), v4, v5] [] (xS a b) Q := by
  refine x_iloadn xc98_14 rfl ?_
  refine x_iloadn xc98_15 rfl ?_
  refine x_iconst xc98_16 ?_
  refine x_imul xc98_17 ?_
  refine x_aloadn xc98_18 rfl ?_
  refine x_gfr xc98_19 rfl rfl xz13 rfl ?_
  refine x_iloadn xc98_22 rfl ?_
  refine x_ial xc98_23 xz20 rfl (by have g0 := hi; omega) (by have g0 := hi; omega) (by have g0 := hi; omega) ?_
  refine x_iadd xc98_24 ?_
  refine x_icge xc98_25 (xRk (by have g0 := hc; have g1 := hL.2.1 i (by omega) (by omega); omega)) (xRk (by have g0 := hi; have g1 := hL.2.1 i (by omega) (by omega); omega)) (fun h0 => ?_) (fun h0 => ?_)
  · exact k1 h0
  · refine x_aloadn xc98_28 rfl ?_
    refine x_gfr xc98_29 rfl rfl xz13 rfl ?_
    refine x_iloadn xc98_32 rfl ?_
    refine x_ial xc98_33 xz14 rfl (by have g0 := hc; have g1 := hL.2.1 i (by omega) (by omega); omega) (by have g0 := hc; have g1 := hL.2.1 i (by omega) (by omega); omega) (by have g0 := hc; have g1 := hL.2.1 i (by omega) (by omega); omega) ?_
    refine x_bipush xc98_34 (by decide) ?_
    refine x_icne xc98_36 (xRk (by have g0 := hc; have g1 := hL.2.1 i (by omega) (by omega); have g2 := xRb (hA 14 c); omega)) (xRk (by decide)) (fun h1 => ?_) (fun h1 => ?_)
    · refine x_iconst xc98_72 ?_
      refine x_istore (pl' := [some (.ref 13), some (.ref w), some (xV i), some (xV c), some (xV 0), v5]) xc98_73 rfl rfl ?_
      refine x_aloadn xc98_75 rfl ?_
      refine x_gfr xc98_76 rfl rfl xz13 rfl ?_
      refine x_iloadn xc98_79 rfl ?_
      refine x_ial xc98_80 xz14 rfl (by have g0 := hc; have g1 := hL.2.1 i (by omega) (by omega); omega) (by have g0 := hc; have g1 := hL.2.1 i (by omega) (by omega); omega) (by have g0 := hc; have g1 := hL.2.1 i (by omega) (by omega); omega) ?_
      refine x_bipush xc98_81 (by decide) ?_
      refine x_icne xc98_83 (xRk (by have g0 := hc; have g1 := hL.2.1 i (by omega) (by omega); have g2 := xRb (hA 14 c); omega)) (xRk (by decide)) (fun h2 => ?_) (fun h2 => ?_)
      · refine x_iconst xc98_112 ?_
        refine x_istore (pl' := [some (.ref 13), some (.ref w), some (xV i), some (xV c), some (xV 0), some (xV 0)]) xc98_113 rfl rfl ?_
        refine x_iload xc98_115 rfl ?_
        refine x_ifne xc98_117 (xRk (by decide)) (fun h => absurd h (by omega)) (fun _ => ?_)
        refine x_iload xc98_120 rfl ?_
        refine x_ifeq xc98_122 (xRk (by decide)) (fun _ => ?_) (fun h => absurd h (by omega))
        exact k2 h0 h1 h2
      · replace h2 := Classical.not_not.mp h2
        refine x_aloadn xc98_86 rfl ?_
        refine x_gfr xc98_87 rfl rfl hz.1 rfl ?_
        refine x_iloadn xc98_90 rfl ?_
        refine x_ial xc98_91 hz.2.2.1 (Nat.ble_eq_true_of_le (by omega)) (by have g0 := hc; have g1 := hL.2.1 i (by omega) (by omega); omega) (by have g0 := hc; have g1 := hL.2.1 i (by omega) (by omega); omega) (by have g0 := hc; have g1 := hL.2.1 i (by omega) (by omega); omega) ?_
        refine x_ifne xc98_92 (xRk (by have g0 := hc; have g1 := hL.2.1 i (by omega) (by omega); have g2 := hmk c (by omega) (by omega); omega)) (fun h5 => ?_) (fun h5 => ?_)
        · refine x_iconst xc98_112 ?_
          refine x_istore (pl' := [some (.ref 13), some (.ref w), some (xV i), some (xV c), some (xV 0), some (xV 0)]) xc98_113 rfl rfl ?_
          refine x_iload xc98_115 rfl ?_
          refine x_ifne xc98_117 (xRk (by decide)) (fun h => absurd h (by omega)) (fun _ => ?_)
          refine x_iload xc98_120 rfl ?_
          refine x_ifeq xc98_122 (xRk (by decide)) (fun _ => ?_) (fun h => absurd h (by omega))
          exact k3 h0 h1 h2 h5
        · replace h5 := Classical.not_not.mp h5
          refine x_aloadn xc98_95 rfl ?_
          refine x_gfi (k := 6) xc98_96 rfl (Or.inl rfl) rfl hz.1 ?_
          refine x_aloadn xc98_99 rfl ?_
          refine x_gfr xc98_100 rfl rfl xz13 rfl ?_
          refine x_iloadn xc98_103 rfl ?_
          refine x_ial xc98_104 xz19 rfl (by have g0 := hc; have g1 := hL.2.1 i (by omega) (by omega); omega) (by have g0 := hc; have g1 := hL.2.1 i (by omega) (by omega); omega) (by have g0 := hc; have g1 := hL.2.1 i (by omega) (by omega); omega) ?_
          refine x_iclt xc98_105 (xRk (by have g0 := htn; omega)) (xRk (by have g0 := hc; have g1 := hL.2.1 i (by omega) (by omega); have g2 := hL.2.2 c (by omega) (by omega); omega)) (fun h8 => ?_) (fun h8 => ?_)
          · refine x_iconst xc98_112 ?_
            refine x_istore (pl' := [some (.ref 13), some (.ref w), some (xV i), some (xV c), some (xV 0), some (xV 0)]) xc98_113 rfl rfl ?_
            refine x_iload xc98_115 rfl ?_
            refine x_ifne xc98_117 (xRk (by decide)) (fun h => absurd h (by omega)) (fun _ => ?_)
            refine x_iload xc98_120 rfl ?_
            refine x_ifeq xc98_122 (xRk (by decide)) (fun _ => ?_) (fun h => absurd h (by omega))
            exact k4 h0 h1 h2 h5 h8
          · refine x_iconst xc98_108 ?_
            refine x_goto xc98_109 ?_
            refine x_istore (pl' := [some (.ref 13), some (.ref w), some (xV i), some (xV c), some (xV 0), some (xV 1)]) xc98_113 rfl rfl ?_
            refine x_iload xc98_115 rfl ?_
            refine x_ifne xc98_117 (xRk (by decide)) (fun h => absurd h (by omega)) (fun _ => ?_)
            refine x_iload xc98_120 rfl ?_
            refine x_ifeq xc98_122 (xRk (by decide)) (fun h => absurd h (by omega)) (fun _ => ?_)
            refine x_aloadn xc98_125 rfl ?_
            refine x_iloadn xc98_126 rfl ?_
            refine x_cS (as := [.ref w, xV i]) (rest := []) xc98_127 rfl rfl xi96 ⟨rfl, rfl⟩ rfl rfl ?_
            exact k5 h0 h1 h2 h5 h8
    · replace h1 := Classical.not_not.mp h1
      refine x_aloadn xc98_39 rfl ?_
      refine x_gfr xc98_40 rfl rfl hz.1 rfl ?_
      refine x_iloadn xc98_43 rfl ?_
      refine x_ial xc98_44 hz.2.2.1 (Nat.ble_eq_true_of_le (by omega)) (by have g0 := hc; have g1 := hL.2.1 i (by omega) (by omega); omega) (by have g0 := hc; have g1 := hL.2.1 i (by omega) (by omega); omega) (by have g0 := hc; have g1 := hL.2.1 i (by omega) (by omega); omega) ?_
      refine x_ifeq xc98_45 (xRk (by have g0 := hc; have g1 := hL.2.1 i (by omega) (by omega); have g2 := hmk c (by omega) (by omega); omega)) (fun h13 => ?_) (fun h13 => ?_)
      · refine x_iconst xc98_72 ?_
        refine x_istore (pl' := [some (.ref 13), some (.ref w), some (xV i), some (xV c), some (xV 0), v5]) xc98_73 rfl rfl ?_
        refine x_aloadn xc98_75 rfl ?_
        refine x_gfr xc98_76 rfl rfl xz13 rfl ?_
        refine x_iloadn xc98_79 rfl ?_
        refine x_ial xc98_80 xz14 rfl (by have g0 := hc; have g1 := hL.2.1 i (by omega) (by omega); omega) (by have g0 := hc; have g1 := hL.2.1 i (by omega) (by omega); omega) (by have g0 := hc; have g1 := hL.2.1 i (by omega) (by omega); omega) ?_
        refine x_bipush xc98_81 (by decide) ?_
        refine x_icne xc98_83 (xRk (by have g0 := hc; have g1 := hL.2.1 i (by omega) (by omega); have g2 := xRb (hA 14 c); omega)) (xRk (by decide)) (fun _ => ?_) (fun h => absurd h (by omega))
        refine x_iconst xc98_112 ?_
        refine x_istore (pl' := [some (.ref 13), some (.ref w), some (xV i), some (xV c), some (xV 0), some (xV 0)]) xc98_113 rfl rfl ?_
        refine x_iload xc98_115 rfl ?_
        refine x_ifne xc98_117 (xRk (by decide)) (fun h => absurd h (by omega)) (fun _ => ?_)
        refine x_iload xc98_120 rfl ?_
        refine x_ifeq xc98_122 (xRk (by decide)) (fun _ => ?_) (fun h => absurd h (by omega))
        exact k6 h0 h1 h13
      · refine x_aloadn xc98_48 rfl ?_
        refine x_gfi (k := 6) xc98_49 rfl (Or.inl rfl) rfl hz.1 ?_
        refine x_aloadn xc98_52 rfl ?_
        refine x_gfr xc98_53 rfl rfl hz.1 rfl ?_
        refine x_iloadn xc98_56 rfl ?_
        refine x_ial xc98_57 hz.2.2.1 (Nat.ble_eq_true_of_le (by omega)) (by have g0 := hc; have g1 := hL.2.1 i (by omega) (by omega); omega) (by have g0 := hc; have g1 := hL.2.1 i (by omega) (by omega); omega) (by have g0 := hc; have g1 := hL.2.1 i (by omega) (by omega); omega) ?_
        refine x_aloadn xc98_58 rfl ?_
        refine x_gfr xc98_59 rfl rfl xz13 rfl ?_
        refine x_iloadn xc98_62 rfl ?_
        refine x_ial xc98_63 xz19 rfl (by have g0 := hc; have g1 := hL.2.1 i (by omega) (by omega); omega) (by have g0 := hc; have g1 := hL.2.1 i (by omega) (by omega); omega) (by have g0 := hc; have g1 := hL.2.1 i (by omega) (by omega); omega) ?_
        refine x_iadd xc98_64 ?_
        refine x_iclt xc98_65 (xRk (by have g0 := htn; omega)) (xRk (by have g0 := hc; have g1 := hL.2.1 i (by omega) (by omega); have g2 := hmk c (by omega) (by omega); have g3 := hL.2.2 c (by omega) (by omega); omega)) (fun h17 => ?_) (fun h17 => ?_)
        · refine x_iconst xc98_72 ?_
          refine x_istore (pl' := [some (.ref 13), some (.ref w), some (xV i), some (xV c), some (xV 0), v5]) xc98_73 rfl rfl ?_
          refine x_aloadn xc98_75 rfl ?_
          refine x_gfr xc98_76 rfl rfl xz13 rfl ?_
          refine x_iloadn xc98_79 rfl ?_
          refine x_ial xc98_80 xz14 rfl (by have g0 := hc; have g1 := hL.2.1 i (by omega) (by omega); omega) (by have g0 := hc; have g1 := hL.2.1 i (by omega) (by omega); omega) (by have g0 := hc; have g1 := hL.2.1 i (by omega) (by omega); omega) ?_
          refine x_bipush xc98_81 (by decide) ?_
          refine x_icne xc98_83 (xRk (by have g0 := hc; have g1 := hL.2.1 i (by omega) (by omega); have g2 := xRb (hA 14 c); omega)) (xRk (by decide)) (fun _ => ?_) (fun h => absurd h (by omega))
          refine x_iconst xc98_112 ?_
          refine x_istore (pl' := [some (.ref 13), some (.ref w), some (xV i), some (xV c), some (xV 0), some (xV 0)]) xc98_113 rfl rfl ?_
          refine x_iload xc98_115 rfl ?_
          refine x_ifne xc98_117 (xRk (by decide)) (fun h => absurd h (by omega)) (fun _ => ?_)
          refine x_iload xc98_120 rfl ?_
          refine x_ifeq xc98_122 (xRk (by decide)) (fun _ => ?_) (fun h => absurd h (by omega))
          exact k7 h0 h1 h13 h17
        · refine x_iconst xc98_68 ?_
          refine x_goto xc98_69 ?_
          refine x_istore (pl' := [some (.ref 13), some (.ref w), some (xV i), some (xV c), some (xV 1), v5]) xc98_73 rfl rfl ?_
          refine x_aloadn xc98_75 rfl ?_
          refine x_gfr xc98_76 rfl rfl xz13 rfl ?_
          refine x_iloadn xc98_79 rfl ?_
          refine x_ial xc98_80 xz14 rfl (by have g0 := hc; have g1 := hL.2.1 i (by omega) (by omega); omega) (by have g0 := hc; have g1 := hL.2.1 i (by omega) (by omega); omega) (by have g0 := hc; have g1 := hL.2.1 i (by omega) (by omega); omega) ?_
          refine x_bipush xc98_81 (by decide) ?_
          refine x_icne xc98_83 (xRk (by have g0 := hc; have g1 := hL.2.1 i (by omega) (by omega); have g2 := xRb (hA 14 c); omega)) (xRk (by decide)) (fun _ => ?_) (fun h => absurd h (by omega))
          refine x_iconst xc98_112 ?_
          refine x_istore (pl' := [some (.ref 13), some (.ref w), some (xV i), some (xV c), some (xV 1), some (xV 0)]) xc98_113 rfl rfl ?_
          refine x_iload xc98_115 rfl ?_
          refine x_ifne xc98_117 (xRk (by decide)) (fun _ => ?_) (fun h => absurd h (by omega))
          refine x_aloadn xc98_125 rfl ?_
          refine x_iloadn xc98_126 rfl ?_
          refine x_cS (as := [.ref w, xV i]) (rest := []) xc98_127 rfl rfl xi96 ⟨rfl, rfl⟩ rfl rfl ?_
          exact k8 h0 h1 h13 h17

theorem w98e {ro : Nat → Nat × (Nat → Int32)} {d : Nat} {Q : Option Value → pmS → Prop} {v4 : Option Value} {v5 : Option Value} {w : Nat} {i c : Int} {a : xA} {b : xB}
    (k1 : pmWp ro d 2 98 0 14 [some (.ref 13), some (.ref w), some (xV i), some (xV (c + 1)), v4, v5] [] (xS a b) Q) :
    pmWp ro d 2 98 0 130 [some (.ref 13), some (.ref w), some (xV i), some (xV c), v4, v5] [] (xS a b) Q := by
  refine x_iinc (pl' := [some (.ref 13), some (.ref w), some (xV i), some (xV (c + 1)), v4, v5]) xc98_130 rfl rfl ?_
  refine x_goto xc98_133 ?_
  exact k1

theorem w98f {ro : Nat → Nat × (Nat → Int32)} {d : Nat} {Q : Option Value → pmS → Prop} {v3 : Option Value} {v4 : Option Value} {v5 : Option Value} {w : Nat} {i : Int} {a : xA} {b : xB}
    (k1 : pmWp ro d 2 98 0 2 [some (.ref 13), some (.ref w), some (xV (i + 1)), v3, v4, v5] [] (xS a b) Q) :
    pmWp ro d 2 98 0 136 [some (.ref 13), some (.ref w), some (xV i), v3, v4, v5] [] (xS a b) Q := by
  refine x_iinc (pl' := [some (.ref 13), some (.ref w), some (xV (i + 1)), v3, v4, v5]) xc98_136 rfl rfl ?_
  refine x_goto xc98_139 ?_
  exact k1

theorem w93 {ro : Nat → Nat × (Nat → Int32)} {d : Nat} {Q : Option Value → pmS → Prop} {p k z : Int} {a : xA} {b : xB} (hp : 0 ≤ p ∧ p ≤ 3) (hk : 0 ≤ k ∧ k ≤ 511) (hzz : z = 0 ∨ z = 1)
    (k1 : (z = 0) → Q (some (xV (xOr (xOr (xOr (xOr ((k / 64) % 8) (p * 8)) (((k / 8) % 8) * 64)) ((k % 8) * 512)) 0))) (xS a b))
    (k2 : (¬ z = 0) → Q (some (xV (xOr (xOr (xOr (xOr ((k / 64) % 8) (p * 8)) (((k / 8) % 8) * 64)) ((k % 8) * 512)) 4096))) (xS a b)) :
    pmWp ro d 2 93 1 0 [some (xV p), some (xV k), some (xV z)] [] (xS a b) Q := by
  refine x_iloadn xc93_0 rfl ?_
  refine x_bipush xc93_1 (by decide) ?_
  refine x_ishr (M := 64) (by omega) (by omega) (by decide) (xRk (by have g0 := hk; omega)) xc93_3 ?_
  refine x_bipush xc93_4 (by decide) ?_
  refine x_iandm (M := 8) 3 (by decide) (by decide) (by decide) xc93_6 ?_
  refine x_iloadn xc93_7 rfl ?_
  refine x_iconst xc93_8 ?_
  refine x_ishl (M := 8) (by omega) (by omega) (by decide) xc93_9 ?_
  refine x_ior xc93_10 ?_
  refine x_iloadn xc93_11 rfl ?_
  refine x_iconst xc93_12 ?_
  refine x_ishr (M := 8) (by omega) (by omega) (by decide) (xRk (by have g0 := hk; omega)) xc93_13 ?_
  refine x_bipush xc93_14 (by decide) ?_
  refine x_iandm (M := 8) 3 (by decide) (by decide) (by decide) xc93_16 ?_
  refine x_bipush xc93_17 (by decide) ?_
  refine x_ishl (M := 64) (by omega) (by omega) (by decide) xc93_19 ?_
  refine x_ior xc93_20 ?_
  refine x_iloadn xc93_21 rfl ?_
  refine x_bipush xc93_22 (by decide) ?_
  refine x_iandm (M := 8) 3 (by decide) (by decide) (by decide) xc93_24 ?_
  refine x_bipush xc93_25 (by decide) ?_
  refine x_ishl (M := 512) (by omega) (by omega) (by decide) xc93_27 ?_
  refine x_ior xc93_28 ?_
  refine x_iloadn xc93_29 rfl ?_
  refine x_ifeq xc93_30 (xRk (by have g0 := hzz; omega)) (fun h0 => ?_) (fun h0 => ?_)
  · refine x_iconst xc93_39 ?_
    refine x_ior xc93_40 ?_
    refine x_iret xc93_41 (Or.inl rfl) ?_
    exact k1 h0
  · refine x_sipush xc93_33 (by decide) ?_
    refine x_goto xc93_36 ?_
    refine x_ior xc93_40 ?_
    refine x_iret xc93_41 (Or.inl rfl) ?_
    exact k2 h0

theorem xg93 {ro : Nat → Nat × (Nat → Int32)} {d : Nat} {Q : Option Value → pmS → Prop} {a : xA} {b : xB} {p k z : Int} (h : pmWp ro d 2 93 1 0 [some (xV p), some (xV k), some (xV z)] [] (xS a b) Q) : pmCs ro (d + 1) 93 [xV p, xV k, xV z] (xS a b) Q := x_go xi93 rfl rfl rfl rfl rfl h
end
