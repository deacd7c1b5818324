/-! exact: a wish taken, on both sides: walks -/
section
set_option maxRecDepth 100000
theorem xi31 : pmInf[31]? = some pmI_31 := rfl
theorem xi46 : pmInf[46]? = some pmI_46 := rfl
theorem xi153 : pmInf[153]? = some pmI_153 := rfl
theorem xc31_0 : pmCode 31 0 = some (.iload_n 1) ∧ 0 + 1 = 1 := ⟨rfl, rfl⟩
theorem xc31_1 : pmCode 31 1 = some (.invokestatic 144) ∧ 1 + 3 = 4 := ⟨rfl, rfl⟩
theorem xc31_4 : pmCode 31 4 = some (.ifCond .eq 29) ∧ ((4 : Nat) : Int) + 29 = ((33 : Nat) : Int) ∧ 4 + 3 = 7 := ⟨rfl, rfl, rfl⟩
theorem xc31_7 : pmCode 31 7 = some (.iload_n 2) ∧ 7 + 1 = 8 := ⟨rfl, rfl⟩
theorem xc31_8 : pmCode 31 8 = some (.iconst 1) ∧ 8 + 1 = 9 := ⟨rfl, rfl⟩
theorem xc31_9 : pmCode 31 9 = some (.if_icmp .lt 24) ∧ ((9 : Nat) : Int) + 24 = ((33 : Nat) : Int) ∧ 9 + 3 = 12 := ⟨rfl, rfl, rfl⟩
theorem xc31_12 : pmCode 31 12 = some (.iload_n 2) ∧ 12 + 1 = 13 := ⟨rfl, rfl⟩
theorem xc31_13 : pmCode 31 13 = some (.bipush 9) ∧ 13 + 2 = 15 := ⟨rfl, rfl⟩
theorem xc31_15 : pmCode 31 15 = some (.if_icmp .gt 18) ∧ ((15 : Nat) : Int) + 18 = ((33 : Nat) : Int) ∧ 15 + 3 = 18 := ⟨rfl, rfl, rfl⟩
theorem xc31_18 : pmCode 31 18 = some (.iload_n 3) ∧ 18 + 1 = 19 := ⟨rfl, rfl⟩
theorem xc31_19 : pmCode 31 19 = some (.iconst 1) ∧ 19 + 1 = 20 := ⟨rfl, rfl⟩
theorem xc31_20 : pmCode 31 20 = some (.if_icmp .lt 13) ∧ ((20 : Nat) : Int) + 13 = ((33 : Nat) : Int) ∧ 20 + 3 = 23 := ⟨rfl, rfl, rfl⟩
theorem xc31_23 : pmCode 31 23 = some (.iload_n 3) ∧ 23 + 1 = 24 := ⟨rfl, rfl⟩
theorem xc31_24 : pmCode 31 24 = some (.bipush 40) ∧ 24 + 2 = 26 := ⟨rfl, rfl⟩
theorem xc31_26 : pmCode 31 26 = some (.if_icmp .gt 7) ∧ ((26 : Nat) : Int) + 7 = ((33 : Nat) : Int) ∧ 26 + 3 = 29 := ⟨rfl, rfl, rfl⟩
theorem xc31_29 : pmCode 31 29 = some (.iconst 1) ∧ 29 + 1 = 30 := ⟨rfl, rfl⟩
theorem xc31_30 : pmCode 31 30 = some (.goto 4) ∧ ((30 : Nat) : Int) + 4 = ((34 : Nat) : Int) := ⟨rfl, rfl⟩
theorem xc31_33 : pmCode 31 33 = some (.iconst 0) ∧ 33 + 1 = 34 := ⟨rfl, rfl⟩
theorem xc31_34 : pmCode 31 34 = some (.istore 4) ∧ 34 + 2 = 36 := ⟨rfl, rfl⟩
theorem xc31_36 : pmCode 31 36 = some (.aload_n 0) ∧ 36 + 1 = 37 := ⟨rfl, rfl⟩
theorem xc31_37 : pmCode 31 37 = some (.getfield 101) ∧ 37 + 3 = 40 := ⟨rfl, rfl⟩
theorem xc31_40 : pmCode 31 40 = some (.ifCond .ne 32) ∧ ((40 : Nat) : Int) + 32 = ((72 : Nat) : Int) ∧ 40 + 3 = 43 := ⟨rfl, rfl, rfl⟩
theorem xc31_43 : pmCode 31 43 = some (.iload 4) ∧ 43 + 2 = 45 := ⟨rfl, rfl⟩
theorem xc31_45 : pmCode 31 45 = some (.ifCond .eq 27) ∧ ((45 : Nat) : Int) + 27 = ((72 : Nat) : Int) ∧ 45 + 3 = 48 := ⟨rfl, rfl, rfl⟩
theorem xc31_48 : pmCode 31 48 = some (.aload_n 0) ∧ 48 + 1 = 49 := ⟨rfl, rfl⟩
theorem xc31_49 : pmCode 31 49 = some (.getfield 26) ∧ 49 + 3 = 52 := ⟨rfl, rfl⟩
theorem xc31_52 : pmCode 31 52 = some (.getfield 166) ∧ 52 + 3 = 55 := ⟨rfl, rfl⟩
theorem xc31_55 : pmCode 31 55 = some (.iload_n 1) ∧ 55 + 1 = 56 := ⟨rfl, rfl⟩
theorem xc31_56 : pmCode 31 56 = some .iaload ∧ 56 + 1 = 57 := ⟨rfl, rfl⟩
theorem xc31_57 : pmCode 31 57 = some (.iconst 3) ∧ 57 + 1 = 58 := ⟨rfl, rfl⟩
theorem xc31_58 : pmCode 31 58 = some (.if_icmp .ge 14) ∧ ((58 : Nat) : Int) + 14 = ((72 : Nat) : Int) ∧ 58 + 3 = 61 := ⟨rfl, rfl, rfl⟩
theorem xc31_61 : pmCode 31 61 = some (.iload_n 3) ∧ 61 + 1 = 62 := ⟨rfl, rfl⟩
theorem xc31_62 : pmCode 31 62 = some (.aload_n 0) ∧ 62 + 1 = 63 := ⟨rfl, rfl⟩
theorem xc31_63 : pmCode 31 63 = some (.getfield 10) ∧ 63 + 3 = 66 := ⟨rfl, rfl⟩
theorem xc31_66 : pmCode 31 66 = some (.getfield 159) ∧ 66 + 3 = 69 := ⟨rfl, rfl⟩
theorem xc31_69 : pmCode 31 69 = some (.if_icmp .le 5) ∧ ((69 : Nat) : Int) + 5 = ((74 : Nat) : Int) ∧ 69 + 3 = 72 := ⟨rfl, rfl, rfl⟩
theorem xc31_72 : pmCode 31 72 = some (.iconst (-1)) ∧ 72 + 1 = 73 := ⟨rfl, rfl⟩
theorem xc31_73 : pmCode 31 73 = some .ireturn := rfl
theorem xc31_74 : pmCode 31 74 = some (.aload_n 0) ∧ 74 + 1 = 75 := ⟨rfl, rfl⟩
theorem xc31_75 : pmCode 31 75 = some (.getfield 52) ∧ 75 + 3 = 78 := ⟨rfl, rfl⟩
theorem xc31_78 : pmCode 31 78 = some (.iload_n 3) ∧ 78 + 1 = 79 := ⟨rfl, rfl⟩
theorem xc31_79 : pmCode 31 79 = some (.invokevirtual 170) ∧ 79 + 3 = 82 := ⟨rfl, rfl⟩
theorem xc31_82 : pmCode 31 82 = some (.istore 5) ∧ 82 + 2 = 84 := ⟨rfl, rfl⟩
theorem xc31_84 : pmCode 31 84 = some (.aload_n 0) ∧ 84 + 1 = 85 := ⟨rfl, rfl⟩
theorem xc31_85 : pmCode 31 85 = some (.getfield 10) ∧ 85 + 3 = 88 := ⟨rfl, rfl⟩
theorem xc31_88 : pmCode 31 88 = some (.invokevirtual 173) ∧ 88 + 3 = 91 := ⟨rfl, rfl⟩
theorem xc31_91 : pmCode 31 91 = some (.iload 5) ∧ 91 + 2 = 93 := ⟨rfl, rfl⟩
theorem xc31_93 : pmCode 31 93 = some (.ifCond .eq 8) ∧ ((93 : Nat) : Int) + 8 = ((101 : Nat) : Int) ∧ 93 + 3 = 96 := ⟨rfl, rfl, rfl⟩
theorem xc31_96 : pmCode 31 96 = some (.iload 5) ∧ 96 + 2 = 98 := ⟨rfl, rfl⟩
theorem xc31_98 : pmCode 31 98 = some (.goto 26) ∧ ((98 : Nat) : Int) + 26 = ((124 : Nat) : Int) := ⟨rfl, rfl⟩
theorem xc31_101 : pmCode 31 101 = some (.aload_n 0) ∧ 101 + 1 = 102 := ⟨rfl, rfl⟩
theorem xc31_102 : pmCode 31 102 = some (.getfield 26) ∧ 102 + 3 = 105 := ⟨rfl, rfl⟩
theorem xc31_105 : pmCode 31 105 = some (.iload_n 1) ∧ 105 + 1 = 106 := ⟨rfl, rfl⟩
theorem xc31_106 : pmCode 31 106 = some (.iload_n 2) ∧ 106 + 1 = 107 := ⟨rfl, rfl⟩
theorem xc31_107 : pmCode 31 107 = some (.aload_n 0) ∧ 107 + 1 = 108 := ⟨rfl, rfl⟩
theorem xc31_108 : pmCode 31 108 = some (.getfield 52) ∧ 108 + 3 = 111 := ⟨rfl, rfl⟩
theorem xc31_111 : pmCode 31 111 = some (.getfield 176) ∧ 111 + 3 = 114 := ⟨rfl, rfl⟩
theorem xc31_114 : pmCode 31 114 = some (.aload_n 0) ∧ 114 + 1 = 115 := ⟨rfl, rfl⟩
theorem xc31_115 : pmCode 31 115 = some (.getfield 52) ∧ 115 + 3 = 118 := ⟨rfl, rfl⟩
theorem xc31_118 : pmCode 31 118 = some (.getfield 179) ∧ 118 + 3 = 121 := ⟨rfl, rfl⟩
theorem xc31_121 : pmCode 31 121 = some (.invokevirtual 182) ∧ 121 + 3 = 124 := ⟨rfl, rfl⟩
theorem xc31_124 : pmCode 31 124 = some .ireturn := rfl
theorem xc46_0 : pmCode 46 0 = some (.iload_n 1) ∧ 0 + 1 = 1 := ⟨rfl, rfl⟩
theorem xc46_1 : pmCode 46 1 = some (.ifCond .lt 17) ∧ ((1 : Nat) : Int) + 17 = ((18 : Nat) : Int) ∧ 1 + 3 = 4 := ⟨rfl, rfl, rfl⟩
theorem xc46_4 : pmCode 46 4 = some (.iload_n 1) ∧ 4 + 1 = 5 := ⟨rfl, rfl⟩
theorem xc46_5 : pmCode 46 5 = some (.iconst 4) ∧ 5 + 1 = 6 := ⟨rfl, rfl⟩
theorem xc46_6 : pmCode 46 6 = some (.if_icmp .ge 12) ∧ ((6 : Nat) : Int) + 12 = ((18 : Nat) : Int) ∧ 6 + 3 = 9 := ⟨rfl, rfl, rfl⟩
theorem xc46_9 : pmCode 46 9 = some (.aload_n 0) ∧ 9 + 1 = 10 := ⟨rfl, rfl⟩
theorem xc46_10 : pmCode 46 10 = some (.getfield 24) ∧ 10 + 3 = 13 := ⟨rfl, rfl⟩
theorem xc46_13 : pmCode 46 13 = some (.iload_n 1) ∧ 13 + 1 = 14 := ⟨rfl, rfl⟩
theorem xc46_14 : pmCode 46 14 = some .iaload ∧ 14 + 1 = 15 := ⟨rfl, rfl⟩
theorem xc46_15 : pmCode 46 15 = some (.goto 4) ∧ ((15 : Nat) : Int) + 4 = ((19 : Nat) : Int) := ⟨rfl, rfl⟩
theorem xc46_18 : pmCode 46 18 = some (.iconst 3) ∧ 18 + 1 = 19 := ⟨rfl, rfl⟩
theorem xc46_19 : pmCode 46 19 = some (.istore 5) ∧ 19 + 2 = 21 := ⟨rfl, rfl⟩
theorem xc46_21 : pmCode 46 21 = some (.iload 5) ∧ 21 + 2 = 23 := ⟨rfl, rfl⟩
theorem xc46_23 : pmCode 46 23 = some (.iconst 3) ∧ 23 + 1 = 24 := ⟨rfl, rfl⟩
theorem xc46_24 : pmCode 46 24 = some (.if_icmp .lt 5) ∧ ((24 : Nat) : Int) + 5 = ((29 : Nat) : Int) ∧ 24 + 3 = 27 := ⟨rfl, rfl, rfl⟩
theorem xc46_27 : pmCode 46 27 = some (.iconst (-1)) ∧ 27 + 1 = 28 := ⟨rfl, rfl⟩
theorem xc46_28 : pmCode 46 28 = some .ireturn := rfl
theorem xc46_29 : pmCode 46 29 = some (.iload_n 1) ∧ 29 + 1 = 30 := ⟨rfl, rfl⟩
theorem xc46_30 : pmCode 46 30 = some (.iconst 3) ∧ 30 + 1 = 31 := ⟨rfl, rfl⟩
theorem xc46_31 : pmCode 46 31 = some .imul ∧ 31 + 1 = 32 := ⟨rfl, rfl⟩
theorem xc46_32 : pmCode 46 32 = some (.iload 5) ∧ 32 + 2 = 34 := ⟨rfl, rfl⟩
theorem xc46_34 : pmCode 46 34 = some .iadd ∧ 34 + 1 = 35 := ⟨rfl, rfl⟩
theorem xc46_35 : pmCode 46 35 = some (.istore 6) ∧ 35 + 2 = 37 := ⟨rfl, rfl⟩
theorem xc46_37 : pmCode 46 37 = some (.aload_n 3) ∧ 37 + 1 = 38 := ⟨rfl, rfl⟩
theorem xc46_38 : pmCode 46 38 = some (.iconst 0) ∧ 38 + 1 = 39 := ⟨rfl, rfl⟩
theorem xc46_39 : pmCode 46 39 = some (.aload_n 0) ∧ 39 + 1 = 40 := ⟨rfl, rfl⟩
theorem xc46_40 : pmCode 46 40 = some (.getfield 9) ∧ 40 + 3 = 43 := ⟨rfl, rfl⟩
theorem xc46_43 : pmCode 46 43 = some (.iload 6) ∧ 43 + 2 = 45 := ⟨rfl, rfl⟩
theorem xc46_45 : pmCode 46 45 = some (.bipush 40) ∧ 45 + 2 = 47 := ⟨rfl, rfl⟩
theorem xc46_47 : pmCode 46 47 = some .imul ∧ 47 + 1 = 48 := ⟨rfl, rfl⟩
theorem xc46_48 : pmCode 46 48 = some (.bipush 40) ∧ 48 + 2 = 50 := ⟨rfl, rfl⟩
theorem xc46_50 : pmCode 46 50 = some (.invokestatic 27) ∧ 50 + 3 = 53 := ⟨rfl, rfl⟩
theorem xc46_53 : pmCode 46 53 = some (.aload_n 0) ∧ 53 + 1 = 54 := ⟨rfl, rfl⟩
theorem xc46_54 : pmCode 46 54 = some (.getfield 15) ∧ 54 + 3 = 57 := ⟨rfl, rfl⟩
theorem xc46_57 : pmCode 46 57 = some (.iload 6) ∧ 57 + 2 = 59 := ⟨rfl, rfl⟩
theorem xc46_59 : pmCode 46 59 = some (.iload 4) ∧ 59 + 2 = 61 := ⟨rfl, rfl⟩
theorem xc46_61 : pmCode 46 61 = some .iastore ∧ 61 + 1 = 62 := ⟨rfl, rfl⟩
theorem xc46_62 : pmCode 46 62 = some (.aload_n 0) ∧ 62 + 1 = 63 := ⟨rfl, rfl⟩
theorem xc46_63 : pmCode 46 63 = some (.getfield 18) ∧ 63 + 3 = 66 := ⟨rfl, rfl⟩
theorem xc46_66 : pmCode 46 66 = some (.iload 6) ∧ 66 + 2 = 68 := ⟨rfl, rfl⟩
theorem xc46_68 : pmCode 46 68 = some (.iload_n 2) ∧ 68 + 1 = 69 := ⟨rfl, rfl⟩
theorem xc46_69 : pmCode 46 69 = some .iastore ∧ 69 + 1 = 70 := ⟨rfl, rfl⟩
theorem xc46_70 : pmCode 46 70 = some (.aload_n 0) ∧ 70 + 1 = 71 := ⟨rfl, rfl⟩
theorem xc46_71 : pmCode 46 71 = some (.getfield 24) ∧ 71 + 3 = 74 := ⟨rfl, rfl⟩
theorem xc46_74 : pmCode 46 74 = some (.iload_n 1) ∧ 74 + 1 = 75 := ⟨rfl, rfl⟩
theorem xc46_75 : pmCode 46 75 = some .dup2 ∧ 75 + 1 = 76 := ⟨rfl, rfl⟩
theorem xc46_76 : pmCode 46 76 = some .iaload ∧ 76 + 1 = 77 := ⟨rfl, rfl⟩
theorem xc46_77 : pmCode 46 77 = some (.iconst 1) ∧ 77 + 1 = 78 := ⟨rfl, rfl⟩
theorem xc46_78 : pmCode 46 78 = some .iadd ∧ 78 + 1 = 79 := ⟨rfl, rfl⟩
theorem xc46_79 : pmCode 46 79 = some .iastore ∧ 79 + 1 = 80 := ⟨rfl, rfl⟩
theorem xc46_80 : pmCode 46 80 = some (.iload 6) ∧ 80 + 2 = 82 := ⟨rfl, rfl⟩
theorem xc46_82 : pmCode 46 82 = some (.istore 7) ∧ 82 + 2 = 84 := ⟨rfl, rfl⟩
theorem xc46_84 : pmCode 46 84 = some (.iload 7) ∧ 84 + 2 = 86 := ⟨rfl, rfl⟩
theorem xc46_86 : pmCode 46 86 = some (.iload_n 1) ∧ 86 + 1 = 87 := ⟨rfl, rfl⟩
theorem xc46_87 : pmCode 46 87 = some (.iconst 3) ∧ 87 + 1 = 88 := ⟨rfl, rfl⟩
theorem xc46_88 : pmCode 46 88 = some .imul ∧ 88 + 1 = 89 := ⟨rfl, rfl⟩
theorem xc46_89 : pmCode 46 89 = some (.if_icmp .le 47) ∧ ((89 : Nat) : Int) + 47 = ((136 : Nat) : Int) ∧ 89 + 3 = 92 := ⟨rfl, rfl, rfl⟩
theorem xc46_92 : pmCode 46 92 = some (.aload_n 0) ∧ 92 + 1 = 93 := ⟨rfl, rfl⟩
theorem xc46_93 : pmCode 46 93 = some (.getfield 18) ∧ 93 + 3 = 96 := ⟨rfl, rfl⟩
theorem xc46_96 : pmCode 46 96 = some (.iload_n 1) ∧ 96 + 1 = 97 := ⟨rfl, rfl⟩
theorem xc46_97 : pmCode 46 97 = some (.iconst 3) ∧ 97 + 1 = 98 := ⟨rfl, rfl⟩
theorem xc46_98 : pmCode 46 98 = some .imul ∧ 98 + 1 = 99 := ⟨rfl, rfl⟩
theorem xc46_99 : pmCode 46 99 = some (.aload_n 0) ∧ 99 + 1 = 100 := ⟨rfl, rfl⟩
theorem xc46_100 : pmCode 46 100 = some (.getfield 21) ∧ 100 + 3 = 103 := ⟨rfl, rfl⟩
theorem xc46_103 : pmCode 46 103 = some (.iload 7) ∧ 103 + 2 = 105 := ⟨rfl, rfl⟩
theorem xc46_105 : pmCode 46 105 = some (.iconst 1) ∧ 105 + 1 = 106 := ⟨rfl, rfl⟩
theorem xc46_106 : pmCode 46 106 = some .isub ∧ 106 + 1 = 107 := ⟨rfl, rfl⟩
theorem xc46_107 : pmCode 46 107 = some .iaload ∧ 107 + 1 = 108 := ⟨rfl, rfl⟩
theorem xc46_108 : pmCode 46 108 = some .iadd ∧ 108 + 1 = 109 := ⟨rfl, rfl⟩
theorem xc46_109 : pmCode 46 109 = some .iaload ∧ 109 + 1 = 110 := ⟨rfl, rfl⟩
theorem xc46_110 : pmCode 46 110 = some (.iload_n 2) ∧ 110 + 1 = 111 := ⟨rfl, rfl⟩
theorem xc46_111 : pmCode 46 111 = some (.if_icmp .ge 25) ∧ ((111 : Nat) : Int) + 25 = ((136 : Nat) : Int) ∧ 111 + 3 = 114 := ⟨rfl, rfl, rfl⟩
theorem xc46_114 : pmCode 46 114 = some (.aload_n 0) ∧ 114 + 1 = 115 := ⟨rfl, rfl⟩
theorem xc46_115 : pmCode 46 115 = some (.getfield 21) ∧ 115 + 3 = 118 := ⟨rfl, rfl⟩
theorem xc46_118 : pmCode 46 118 = some (.iload 7) ∧ 118 + 2 = 120 := ⟨rfl, rfl⟩
theorem xc46_120 : pmCode 46 120 = some (.aload_n 0) ∧ 120 + 1 = 121 := ⟨rfl, rfl⟩
theorem xc46_121 : pmCode 46 121 = some (.getfield 21) ∧ 121 + 3 = 124 := ⟨rfl, rfl⟩
theorem xc46_124 : pmCode 46 124 = some (.iload 7) ∧ 124 + 2 = 126 := ⟨rfl, rfl⟩
theorem xc46_126 : pmCode 46 126 = some (.iconst 1) ∧ 126 + 1 = 127 := ⟨rfl, rfl⟩
theorem xc46_127 : pmCode 46 127 = some .isub ∧ 127 + 1 = 128 := ⟨rfl, rfl⟩
theorem xc46_128 : pmCode 46 128 = some .iaload ∧ 128 + 1 = 129 := ⟨rfl, rfl⟩
theorem xc46_129 : pmCode 46 129 = some .iastore ∧ 129 + 1 = 130 := ⟨rfl, rfl⟩
theorem xc46_130 : pmCode 46 130 = some (.iinc 7 (-1)) ∧ 130 + 3 = 133 := ⟨rfl, rfl⟩
theorem xc46_133 : pmCode 46 133 = some (.goto (-49)) ∧ ((133 : Nat) : Int) + (-49) = ((84 : Nat) : Int) := ⟨rfl, rfl⟩
theorem xc46_136 : pmCode 46 136 = some (.aload_n 0) ∧ 136 + 1 = 137 := ⟨rfl, rfl⟩
theorem xc46_137 : pmCode 46 137 = some (.getfield 21) ∧ 137 + 3 = 140 := ⟨rfl, rfl⟩
theorem xc46_140 : pmCode 46 140 = some (.iload 7) ∧ 140 + 2 = 142 := ⟨rfl, rfl⟩
theorem xc46_142 : pmCode 46 142 = some (.iload 5) ∧ 142 + 2 = 144 := ⟨rfl, rfl⟩
theorem xc46_144 : pmCode 46 144 = some .iastore ∧ 144 + 1 = 145 := ⟨rfl, rfl⟩
theorem xc46_145 : pmCode 46 145 = some (.iload 5) ∧ 145 + 2 = 147 := ⟨rfl, rfl⟩
theorem xc46_147 : pmCode 46 147 = some .ireturn := rfl
theorem xc153_0 : pmCode 153 0 = some (.aload_n 0) ∧ 0 + 1 = 1 := ⟨rfl, rfl⟩
theorem xc153_1 : pmCode 153 1 = some (.getfield 131) ∧ 1 + 3 = 4 := ⟨rfl, rfl⟩
theorem xc153_4 : pmCode 153 4 = some (.ifCond .ne 48) ∧ ((4 : Nat) : Int) + 48 = ((52 : Nat) : Int) ∧ 4 + 3 = 7 := ⟨rfl, rfl, rfl⟩
theorem xc153_7 : pmCode 153 7 = some (.iload_n 1) ∧ 7 + 1 = 8 := ⟨rfl, rfl⟩
theorem xc153_8 : pmCode 153 8 = some (.invokestatic 150) ∧ 8 + 3 = 11 := ⟨rfl, rfl⟩
theorem xc153_11 : pmCode 153 11 = some (.ifCond .eq 41) ∧ ((11 : Nat) : Int) + 41 = ((52 : Nat) : Int) ∧ 11 + 3 = 14 := ⟨rfl, rfl, rfl⟩
theorem xc153_14 : pmCode 153 14 = some (.iload_n 2) ∧ 14 + 1 = 15 := ⟨rfl, rfl⟩
theorem xc153_15 : pmCode 153 15 = some (.iconst 1) ∧ 15 + 1 = 16 := ⟨rfl, rfl⟩
theorem xc153_16 : pmCode 153 16 = some (.bipush 9) ∧ 16 + 2 = 18 := ⟨rfl, rfl⟩
theorem xc153_18 : pmCode 153 18 = some (.invokestatic 142) ∧ 18 + 3 = 21 := ⟨rfl, rfl⟩
theorem xc153_21 : pmCode 153 21 = some (.ifCond .eq 31) ∧ ((21 : Nat) : Int) + 31 = ((52 : Nat) : Int) ∧ 21 + 3 = 24 := ⟨rfl, rfl, rfl⟩
theorem xc153_24 : pmCode 153 24 = some (.iload_n 3) ∧ 24 + 1 = 25 := ⟨rfl, rfl⟩
theorem xc153_25 : pmCode 153 25 = some (.iconst 1) ∧ 25 + 1 = 26 := ⟨rfl, rfl⟩
theorem xc153_26 : pmCode 153 26 = some (.bipush 40) ∧ 26 + 2 = 28 := ⟨rfl, rfl⟩
theorem xc153_28 : pmCode 153 28 = some (.invokestatic 142) ∧ 28 + 3 = 31 := ⟨rfl, rfl⟩
theorem xc153_31 : pmCode 153 31 = some (.ifCond .eq 21) ∧ ((31 : Nat) : Int) + 21 = ((52 : Nat) : Int) ∧ 31 + 3 = 34 := ⟨rfl, rfl, rfl⟩
theorem xc153_34 : pmCode 153 34 = some (.iload_n 3) ∧ 34 + 1 = 35 := ⟨rfl, rfl⟩
theorem xc153_35 : pmCode 153 35 = some (.aload_n 0) ∧ 35 + 1 = 36 := ⟨rfl, rfl⟩
theorem xc153_36 : pmCode 153 36 = some (.getfield 163) ∧ 36 + 3 = 39 := ⟨rfl, rfl⟩
theorem xc153_39 : pmCode 153 39 = some (.if_icmp .gt 13) ∧ ((39 : Nat) : Int) + 13 = ((52 : Nat) : Int) ∧ 39 + 3 = 42 := ⟨rfl, rfl, rfl⟩
theorem xc153_42 : pmCode 153 42 = some (.aload_n 0) ∧ 42 + 1 = 43 := ⟨rfl, rfl⟩
theorem xc153_43 : pmCode 153 43 = some (.getfield 36) ∧ 43 + 3 = 46 := ⟨rfl, rfl⟩
theorem xc153_46 : pmCode 153 46 = some (.iload_n 1) ∧ 46 + 1 = 47 := ⟨rfl, rfl⟩
theorem xc153_47 : pmCode 153 47 = some .iaload ∧ 47 + 1 = 48 := ⟨rfl, rfl⟩
theorem xc153_48 : pmCode 153 48 = some (.iconst 3) ∧ 48 + 1 = 49 := ⟨rfl, rfl⟩
theorem xc153_49 : pmCode 153 49 = some (.if_icmp .ne 5) ∧ ((49 : Nat) : Int) + 5 = ((54 : Nat) : Int) ∧ 49 + 3 = 52 := ⟨rfl, rfl, rfl⟩
theorem xc153_52 : pmCode 153 52 = some (.iconst (-1)) ∧ 52 + 1 = 53 := ⟨rfl, rfl⟩
theorem xc153_53 : pmCode 153 53 = some .ireturn := rfl
theorem xc153_54 : pmCode 153 54 = some (.aload_n 0) ∧ 54 + 1 = 55 := ⟨rfl, rfl⟩
theorem xc153_55 : pmCode 153 55 = some (.iload_n 3) ∧ 55 + 1 = 56 := ⟨rfl, rfl⟩
theorem xc153_56 : pmCode 153 56 = some (.invokevirtual 226) ∧ 56 + 3 = 59 := ⟨rfl, rfl⟩
theorem xc153_59 : pmCode 153 59 = some (.aload_n 0) ∧ 59 + 1 = 60 := ⟨rfl, rfl⟩
theorem xc153_60 : pmCode 153 60 = some (.invokevirtual 229) ∧ 60 + 3 = 63 := ⟨rfl, rfl⟩
theorem xc153_63 : pmCode 153 63 = some (.istore 4) ∧ 63 + 2 = 65 := ⟨rfl, rfl⟩
theorem xc153_65 : pmCode 153 65 = some (.aload_n 0) ∧ 65 + 1 = 66 := ⟨rfl, rfl⟩
theorem xc153_66 : pmCode 153 66 = some (.iconst 0) ∧ 66 + 1 = 67 := ⟨rfl, rfl⟩
theorem xc153_67 : pmCode 153 67 = some (.putfield 163) ∧ 67 + 3 = 70 := ⟨rfl, rfl⟩
theorem xc153_70 : pmCode 153 70 = some (.iload 4) ∧ 70 + 2 = 72 := ⟨rfl, rfl⟩
theorem xc153_72 : pmCode 153 72 = some (.ifCond .ne 8) ∧ ((72 : Nat) : Int) + 8 = ((80 : Nat) : Int) ∧ 72 + 3 = 75 := ⟨rfl, rfl, rfl⟩
theorem xc153_75 : pmCode 153 75 = some (.aload_n 0) ∧ 75 + 1 = 76 := ⟨rfl, rfl⟩
theorem xc153_76 : pmCode 153 76 = some (.getfield 176) ∧ 76 + 3 = 79 := ⟨rfl, rfl⟩
theorem xc153_79 : pmCode 153 79 = some .ireturn := rfl
theorem xc153_80 : pmCode 153 80 = some (.iconst 3) ∧ 80 + 1 = 81 := ⟨rfl, rfl⟩
theorem xc153_81 : pmCode 153 81 = some (.iload_n 1) ∧ 81 + 1 = 82 := ⟨rfl, rfl⟩
theorem xc153_82 : pmCode 153 82 = some .imul ∧ 82 + 1 = 83 := ⟨rfl, rfl⟩
theorem xc153_83 : pmCode 153 83 = some (.aload_n 0) ∧ 83 + 1 = 84 := ⟨rfl, rfl⟩
theorem xc153_84 : pmCode 153 84 = some (.getfield 36) ∧ 84 + 3 = 87 := ⟨rfl, rfl⟩
theorem xc153_87 : pmCode 153 87 = some (.iload_n 1) ∧ 87 + 1 = 88 := ⟨rfl, rfl⟩
theorem xc153_88 : pmCode 153 88 = some .iaload ∧ 88 + 1 = 89 := ⟨rfl, rfl⟩
theorem xc153_89 : pmCode 153 89 = some .iadd ∧ 89 + 1 = 90 := ⟨rfl, rfl⟩
theorem xc153_90 : pmCode 153 90 = some (.istore 5) ∧ 90 + 2 = 92 := ⟨rfl, rfl⟩
theorem xc153_92 : pmCode 153 92 = some (.aload_n 0) ∧ 92 + 1 = 93 := ⟨rfl, rfl⟩
theorem xc153_93 : pmCode 153 93 = some (.getfield 39) ∧ 93 + 3 = 96 := ⟨rfl, rfl⟩
theorem xc153_96 : pmCode 153 96 = some (.iload 5) ∧ 96 + 2 = 98 := ⟨rfl, rfl⟩
theorem xc153_98 : pmCode 153 98 = some (.iload_n 2) ∧ 98 + 1 = 99 := ⟨rfl, rfl⟩
theorem xc153_99 : pmCode 153 99 = some .iastore ∧ 99 + 1 = 100 := ⟨rfl, rfl⟩
theorem xc153_100 : pmCode 153 100 = some (.aload_n 0) ∧ 100 + 1 = 101 := ⟨rfl, rfl⟩
theorem xc153_101 : pmCode 153 101 = some (.getfield 42) ∧ 101 + 3 = 104 := ⟨rfl, rfl⟩
theorem xc153_104 : pmCode 153 104 = some (.iload 5) ∧ 104 + 2 = 106 := ⟨rfl, rfl⟩
theorem xc153_106 : pmCode 153 106 = some (.aload_n 0) ∧ 106 + 1 = 107 := ⟨rfl, rfl⟩
theorem xc153_107 : pmCode 153 107 = some (.getfield 190) ∧ 107 + 3 = 110 := ⟨rfl, rfl⟩
theorem xc153_110 : pmCode 153 110 = some .iastore ∧ 110 + 1 = 111 := ⟨rfl, rfl⟩
theorem xc153_111 : pmCode 153 111 = some (.iconst 0) ∧ 111 + 1 = 112 := ⟨rfl, rfl⟩
theorem xc153_112 : pmCode 153 112 = some (.istore 6) ∧ 112 + 2 = 114 := ⟨rfl, rfl⟩
theorem xc153_114 : pmCode 153 114 = some (.iload 6) ∧ 114 + 2 = 116 := ⟨rfl, rfl⟩
theorem xc153_116 : pmCode 153 116 = some (.aload_n 0) ∧ 116 + 1 = 117 := ⟨rfl, rfl⟩
theorem xc153_117 : pmCode 153 117 = some (.getfield 190) ∧ 117 + 3 = 120 := ⟨rfl, rfl⟩
theorem xc153_120 : pmCode 153 120 = some (.if_icmp .ge 29) ∧ ((120 : Nat) : Int) + 29 = ((149 : Nat) : Int) ∧ 120 + 3 = 123 := ⟨rfl, rfl, rfl⟩
theorem xc153_123 : pmCode 153 123 = some (.aload_n 0) ∧ 123 + 1 = 124 := ⟨rfl, rfl⟩
theorem xc153_124 : pmCode 153 124 = some (.getfield 45) ∧ 124 + 3 = 127 := ⟨rfl, rfl⟩
theorem xc153_127 : pmCode 153 127 = some (.bipush 60) ∧ 127 + 2 = 129 := ⟨rfl, rfl⟩
theorem xc153_129 : pmCode 153 129 = some (.iload 5) ∧ 129 + 2 = 131 := ⟨rfl, rfl⟩
theorem xc153_131 : pmCode 153 131 = some .imul ∧ 131 + 1 = 132 := ⟨rfl, rfl⟩
theorem xc153_132 : pmCode 153 132 = some (.iload 6) ∧ 132 + 2 = 134 := ⟨rfl, rfl⟩
theorem xc153_134 : pmCode 153 134 = some .iadd ∧ 134 + 1 = 135 := ⟨rfl, rfl⟩
theorem xc153_135 : pmCode 153 135 = some (.aload_n 0) ∧ 135 + 1 = 136 := ⟨rfl, rfl⟩
theorem xc153_136 : pmCode 153 136 = some (.getfield 33) ∧ 136 + 3 = 139 := ⟨rfl, rfl⟩
theorem xc153_139 : pmCode 153 139 = some (.iload 6) ∧ 139 + 2 = 141 := ⟨rfl, rfl⟩
theorem xc153_141 : pmCode 153 141 = some .iaload ∧ 141 + 1 = 142 := ⟨rfl, rfl⟩
theorem xc153_142 : pmCode 153 142 = some .iastore ∧ 142 + 1 = 143 := ⟨rfl, rfl⟩
theorem xc153_143 : pmCode 153 143 = some (.iinc 6 1) ∧ 143 + 3 = 146 := ⟨rfl, rfl⟩
theorem xc153_146 : pmCode 153 146 = some (.goto (-32)) ∧ ((146 : Nat) : Int) + (-32) = ((114 : Nat) : Int) := ⟨rfl, rfl⟩
theorem xc153_149 : pmCode 153 149 = some (.aload_n 0) ∧ 149 + 1 = 150 := ⟨rfl, rfl⟩
theorem xc153_150 : pmCode 153 150 = some (.getfield 36) ∧ 150 + 3 = 153 := ⟨rfl, rfl⟩
theorem xc153_153 : pmCode 153 153 = some (.iload_n 1) ∧ 153 + 1 = 154 := ⟨rfl, rfl⟩
theorem xc153_154 : pmCode 153 154 = some (.aload_n 0) ∧ 154 + 1 = 155 := ⟨rfl, rfl⟩
theorem xc153_155 : pmCode 153 155 = some (.getfield 36) ∧ 155 + 3 = 158 := ⟨rfl, rfl⟩
theorem xc153_158 : pmCode 153 158 = some (.iload_n 1) ∧ 158 + 1 = 159 := ⟨rfl, rfl⟩
theorem xc153_159 : pmCode 153 159 = some .iaload ∧ 159 + 1 = 160 := ⟨rfl, rfl⟩
theorem xc153_160 : pmCode 153 160 = some (.iconst 1) ∧ 160 + 1 = 161 := ⟨rfl, rfl⟩
theorem xc153_161 : pmCode 153 161 = some .iadd ∧ 161 + 1 = 162 := ⟨rfl, rfl⟩
theorem xc153_162 : pmCode 153 162 = some .iastore ∧ 162 + 1 = 163 := ⟨rfl, rfl⟩
theorem xc153_163 : pmCode 153 163 = some (.aload_n 0) ∧ 163 + 1 = 164 := ⟨rfl, rfl⟩
theorem xc153_164 : pmCode 153 164 = some (.getfield 36) ∧ 164 + 3 = 167 := ⟨rfl, rfl⟩
theorem xc153_167 : pmCode 153 167 = some (.iload_n 1) ∧ 167 + 1 = 168 := ⟨rfl, rfl⟩
theorem xc153_168 : pmCode 153 168 = some .iaload ∧ 168 + 1 = 169 := ⟨rfl, rfl⟩
theorem xc153_169 : pmCode 153 169 = some (.iconst 1) ∧ 169 + 1 = 170 := ⟨rfl, rfl⟩
theorem xc153_170 : pmCode 153 170 = some .isub ∧ 170 + 1 = 171 := ⟨rfl, rfl⟩
theorem xc153_171 : pmCode 153 171 = some .ireturn := rfl
/-- arraycopy -/
def xCp (a : xA) (p q : Nat) (sp dp s : Int) : xA := fun r j => if r = q ∧ dp ≤ j ∧ j < dp + s then a p (sp + (j - dp)) else a r j
section
variable {a : xA} {b : xB} {p q r : Nat} {sp dp s j : Int}
theorem xCpN (h : r ≠ q) : xCp a p q sp dp s r j = a r j := if_neg (fun e => h e.1)
theorem xAr_cp (h : xAr a) : xAr (xCp a p q sp dp s) := fun r j => by
  unfold xCp
  split
  · exact h _ _
  · exact h _ _
theorem xNn {z : Int} (h0 : 0 ≤ z) (h1 : z < 2147483648) : ¬ (Int32.ofInt z) < 0 := by
  rw [Int32.lt_iff_toInt_lt, xI ⟨by omega, by omega⟩]
  have : (0 : Int32).toInt = 0 := rfl
  omega
theorem x_cpy {ro : Nat → Nat × (Nat → Int32)} {d o m rt pc t k na nb wd : Nat} {ra rb : List (Option Nat)} {nst : Bool} {pl : pmL} {rest : List Value} {Q : Option Value → pmS → Prop} (hc : pmCode m pc = some (.invokestatic k) ∧ pc + 3 = t) (hm : pmM o k = some (9000, wd, nst)) (ha : xZ[p]? = some (50, na, ra)) (hb : xZ[q]? = some (50, nb, rb)) (h0 : 0 ≤ sp ∧ sp + s ≤ 100000) (h1 : 0 ≤ dp ∧ dp + s ≤ 100000) (h2 : 0 ≤ s) (h3 : sp + s ≤ na) (h4 : dp + s ≤ nb) (hcat : Nat.ble (pmCats rest) 8 = true) (hw : pmWp ro d o m rt t pl rest (xS (xCp a p q sp dp s) b) Q) : pmWp ro d o m rt pc pl (xV s :: xV dp :: .ref q :: xV sp :: .ref p :: rest) (xS a b) Q := by
  obtain ⟨g1, rfl⟩ := hc
  have i0 := xIx (k := sp) h0.1 (by omega)
  have i1 := xIx (k := dp) h1.1 (by omega)
  have i2 := xIx (k := s) h2 (by omega)
  refine pmWp_cpy g1 hm (show (xS a b).1[p]? = _ from ha) (show (xS a b).1[q]? = _ from hb) ⟨xNn h0.1 (by omega), xNn h1.1 (by omega), xNn h2 (by omega), by omega, by omega⟩ (Nat.le_of_ble_eq_true hcat) ?_
  have e : pmRow (fun p (k : Nat) => Int32.ofInt (a p (k : Int))) q (va_cpy ((fun p (k : Nat) => Int32.ofInt (a p (k : Int))) p) ((fun p (k : Nat) => Int32.ofInt (a p (k : Int))) q) (Int32.ofInt sp).toNatClampNeg (Int32.ofInt dp).toNatClampNeg (Int32.ofInt s).toNatClampNeg) = fun r (k : Nat) => Int32.ofInt (xCp a p q sp dp s r (k : Int)) := by
    funext r k
    show (if r = q then va_cpy _ _ _ _ _ k else Int32.ofInt (a r (k : Int))) = Int32.ofInt (if r = q ∧ dp ≤ (k : Int) ∧ (k : Int) < dp + s then a p (sp + ((k : Int) - dp)) else a r (k : Int))
    by_cases hr : r = q
    · rw [if_pos hr]
      unfold va_cpy
      by_cases hk : dp ≤ (k : Int) ∧ (k : Int) < dp + s
      · rw [if_pos (by omega), if_pos ⟨hr, hk⟩]
        show Int32.ofInt (a p _) = _
        congr 2
        omega
      · rw [if_neg (by omega), if_neg (fun e => hk e.2), hr]
    · rw [if_neg hr, if_neg (fun e => hr e.1)]
  rw [show ((xS a b).1, pmRow (xS a b).2.1 q (va_cpy ((xS a b).2.1 p) ((xS a b).2.1 q) (Int32.ofInt sp).toNatClampNeg (Int32.ofInt dp).toNatClampNeg (Int32.ofInt s).toNatClampNeg), (xS a b).2.2) = xS (xCp a p q sp dp s) b from congrArg (fun z => (xZ, z, fun p (k : Nat) => b p (k : Int))) e]
  exact hw
end
theorem xg46 {ro : Nat → Nat × (Nat → Int32)} {d : Nat} {Q : Option Value → pmS → Prop} {a : xA} {b : xB} {p g z : Int} (h : pmWp ro d 9 46 1 0 [some (.ref 7), some (xV p), some (xV g), some (.ref 32), some (xV z), none, none, none] [] (xS a b) Q) : pmCs ro (d + 1) 46 [.ref 7, xV p, xV g, .ref 32, xV z] (xS a b) Q := x_go xi46 rfl rfl rfl rfl rfl h
theorem w46 {ro : Nat → Nat × (Nat → Int32)} {d : Nat} {Q : Option Value → pmS → Prop} {p g z k : Int} {a : xA} {b : xB} (h_p : xR p) (h_g : xR g) (h_z : xR z) (hk : a 12 p = k) (hp : 1 ≤ p ∧ p ≤ 3) (hk0 : 0 ≤ k ∧ k < 3) (hA : xAr a)
    (k1 : (p < 0) → Q (some (xV (-1))) (xS a b))
    (k2 : (¬ p < 0) → (4 ≤ p) → Q (some (xV (-1))) (xS a b))
    (k3 : (¬ p < 0) → (¬ 4 ≤ p) → (k < 3) → pmWp ro d 9 46 1 84 [some (.ref 7), some (xV p), some (xV g), some (.ref 32), some (xV z), some (xV k), some (xV (p * 3 + k)), some (xV (p * 3 + k))] [] (xS (xU (xU (xU (xCp a 32 8 0 ((p * 3 + k) * 40) 40) 9 (p * 3 + k) z) 10 (p * 3 + k) g) 12 p (k + 1)) b) Q)
    (k4 : (¬ p < 0) → (¬ 4 ≤ p) → (¬ k < 3) → Q (some (xV (-1))) (xS a b)) :
    pmWp ro d 9 46 1 0 [some (.ref 7), some (xV p), some (xV g), some (.ref 32), some (xV z), none, none, none] [] (xS a b) Q := by
  refine x_iloadn xc46_0 rfl ?_
  refine x_iflt xc46_1 (xRk (by have g0 := xRb h_p; omega)) (fun h0 => ?_) (fun h0 => ?_)
  · refine x_iconst xc46_18 ?_
    refine x_istore (pl' := [some (.ref 7), some (xV p), some (xV g), some (.ref 32), some (xV z), some (xV 3), none, none]) xc46_19 rfl rfl ?_
    refine x_iload xc46_21 rfl ?_
    refine x_iconst xc46_23 ?_
    refine x_iclt xc46_24 (xRk (by decide)) (xRk (by decide)) (fun h => absurd h (by omega)) (fun _ => ?_)
    refine x_iconst xc46_27 ?_
    refine x_iret xc46_28 (Or.inl rfl) ?_
    exact k1 h0
  · refine x_iloadn xc46_4 rfl ?_
    refine x_iconst xc46_5 ?_
    refine x_icge xc46_6 (xRk (by have g0 := xRb h_p; omega)) (xRk (by decide)) (fun h2 => ?_) (fun h2 => ?_)
    · refine x_iconst xc46_18 ?_
      refine x_istore (pl' := [some (.ref 7), some (xV p), some (xV g), some (.ref 32), some (xV z), some (xV 3), none, none]) xc46_19 rfl rfl ?_
      refine x_iload xc46_21 rfl ?_
      refine x_iconst xc46_23 ?_
      refine x_iclt xc46_24 (xRk (by decide)) (xRk (by decide)) (fun h => absurd h (by omega)) (fun _ => ?_)
      refine x_iconst xc46_27 ?_
      refine x_iret xc46_28 (Or.inl rfl) ?_
      exact k2 h0 h2
    · refine x_aloadn xc46_9 rfl ?_
      refine x_gfr xc46_10 rfl rfl xz7 rfl ?_
      refine x_iloadn xc46_13 rfl ?_
      refine x_ial' (v := k) xc46_14 xz12 rfl (by have g0 := xRb h_p; omega) (by have g0 := xRb h_p; omega) (by have g0 := xRb h_p; omega) hk ?_
      refine x_goto xc46_15 ?_
      refine x_istore (pl' := [some (.ref 7), some (xV p), some (xV g), some (.ref 32), some (xV z), some (xV k), none, none]) xc46_19 rfl rfl ?_
      refine x_iload xc46_21 rfl ?_
      refine x_iconst xc46_23 ?_
      refine x_iclt xc46_24 (xRk (by omega)) (xRk (by decide)) (fun h4 => ?_) (fun h4 => ?_)
      · refine x_iloadn xc46_29 rfl ?_
        refine x_iconst xc46_30 ?_
        refine x_imul xc46_31 ?_
        refine x_iload xc46_32 rfl ?_
        refine x_iadd xc46_34 ?_
        refine x_istore (pl' := [some (.ref 7), some (xV p), some (xV g), some (.ref 32), some (xV z), some (xV k), some (xV (p * 3 + k)), none]) xc46_35 rfl rfl ?_
        refine x_aloadn xc46_37 rfl ?_
        refine x_iconst xc46_38 ?_
        refine x_aloadn xc46_39 rfl ?_
        refine x_gfr xc46_40 rfl rfl xz7 rfl ?_
        refine x_iload xc46_43 rfl ?_
        refine x_bipush xc46_45 (by decide) ?_
        refine x_imul xc46_47 ?_
        refine x_bipush xc46_48 (by decide) ?_
        refine x_cpy xc46_50 rfl xz32 xz8 (by omega) (by have g0 := xRb h_p; omega) (by omega) (by omega) (by have g0 := xRb h_p; omega) rfl ?_
        refine x_aloadn xc46_53 rfl ?_
        refine x_gfr xc46_54 rfl rfl xz7 rfl ?_
        refine x_iload xc46_57 rfl ?_
        refine x_iload xc46_59 rfl ?_
        refine x_ias xc46_61 xz9 (by have g0 := xRb h_p; omega) (by have g0 := xRb h_p; omega) (by have g0 := xRb h_p; omega) ?_
        refine x_aloadn xc46_62 rfl ?_
        refine x_gfr xc46_63 rfl rfl xz7 rfl ?_
        refine x_iload xc46_66 rfl ?_
        refine x_iloadn xc46_68 rfl ?_
        refine x_ias xc46_69 xz10 (by have g0 := xRb h_p; omega) (by have g0 := xRb h_p; omega) (by have g0 := xRb h_p; omega) ?_
        refine x_aloadn xc46_70 rfl ?_
        refine x_gfr xc46_71 rfl rfl xz7 rfl ?_
        refine x_iloadn xc46_74 rfl ?_
        refine x_dup2 xc46_75 ⟨rfl, rfl⟩ ?_
        refine x_ial' (v := k) xc46_76 xz12 rfl (by have g0 := xRb h_p; omega) (by have g0 := xRb h_p; omega) (by have g0 := xRb h_p; omega) (by rw [xUn (by decide), xUn (by decide), ((xCpN (by decide)).trans hk)]) ?_
        refine x_iconst xc46_77 ?_
        refine x_iadd xc46_78 ?_
        refine x_ias xc46_79 xz12 (by have g0 := xRb h_p; omega) (by have g0 := xRb h_p; omega) (by have g0 := xRb h_p; omega) ?_
        refine x_iload xc46_80 rfl ?_
        refine x_istore (pl' := [some (.ref 7), some (xV p), some (xV g), some (.ref 32), some (xV z), some (xV k), some (xV (p * 3 + k)), some (xV (p * 3 + k))]) xc46_82 rfl rfl ?_
        exact k3 h0 h2 h4
      · refine x_iconst xc46_27 ?_
        refine x_iret xc46_28 (Or.inl rfl) ?_
        exact k4 h0 h2 h4

theorem w46l {ro : Nat → Nat × (Nat → Int32)} {d : Nat} {Q : Option Value → pmS → Prop} {p g z k r q y : Int} {a : xA} {b : xB} (h_p : xR p) (h_g : xR g) (hp : 1 ≤ p ∧ p ≤ 3) (hk0 : 0 ≤ k ∧ k < 3) (hq : p * 3 ≤ q ∧ q ≤ p * 3 + k) (hy : a 11 (q - 1) = y) (hy0 : 0 ≤ y ∧ y ≤ 2) (hA : xAr a)
    (k1 : (q ≤ p * 3) → Q (some (xV k)) (xS (xU a 11 q k) b))
    (k2 : (¬ q ≤ p * 3) → (g ≤ a 10 (p * 3 + y)) → Q (some (xV k)) (xS (xU a 11 q k) b))
    (k3 : (¬ q ≤ p * 3) → (¬ g ≤ a 10 (p * 3 + y)) → pmWp ro d 9 46 1 84 [some (.ref 7), some (xV p), some (xV g), some (.ref 32), some (xV z), some (xV k), some (xV r), some (xV (q + (-1)))] [] (xS (xU a 11 q y) b) Q) :
    pmWp ro d 9 46 1 84 [some (.ref 7), some (xV p), some (xV g), some (.ref 32), some (xV z), some (xV k), some (xV r), some (xV q)] [] (xS a b) Q := by
  refine x_iload xc46_84 rfl ?_
  refine x_iloadn xc46_86 rfl ?_
  refine x_iconst xc46_87 ?_
  refine x_imul xc46_88 ?_
  refine x_icle xc46_89 (xRk (by omega)) (xRk (by have g0 := xRb h_p; omega)) (fun h0 => ?_) (fun h0 => ?_)
  · refine x_aloadn xc46_136 rfl ?_
    refine x_gfr xc46_137 rfl rfl xz7 rfl ?_
    refine x_iload xc46_140 rfl ?_
    refine x_iload xc46_142 rfl ?_
    refine x_ias xc46_144 xz11 (by omega) (by omega) (by omega) ?_
    refine x_iload xc46_145 rfl ?_
    refine x_iret xc46_147 (Or.inl rfl) ?_
    exact k1 h0
  · refine x_aloadn xc46_92 rfl ?_
    refine x_gfr xc46_93 rfl rfl xz7 rfl ?_
    refine x_iloadn xc46_96 rfl ?_
    refine x_iconst xc46_97 ?_
    refine x_imul xc46_98 ?_
    refine x_aloadn xc46_99 rfl ?_
    refine x_gfr xc46_100 rfl rfl xz7 rfl ?_
    refine x_iload xc46_103 rfl ?_
    refine x_iconst xc46_105 ?_
    refine x_isub xc46_106 ?_
    refine x_ial' (v := y) xc46_107 xz11 rfl (by omega) (by omega) (by omega) hy ?_
    refine x_iadd xc46_108 ?_
    refine x_ial xc46_109 xz10 rfl (by have g0 := xRb h_p; omega) (by have g0 := xRb h_p; omega) (by have g0 := xRb h_p; omega) ?_
    refine x_iloadn xc46_110 rfl ?_
    refine x_icge xc46_111 (xRk (by have g0 := xRb h_p; have g1 := xRb (hA 10 (p * 3 + y)); omega)) (xRk (by have g0 := xRb h_g; omega)) (fun h1 => ?_) (fun h1 => ?_)
    · refine x_aloadn xc46_136 rfl ?_
      refine x_gfr xc46_137 rfl rfl xz7 rfl ?_
      refine x_iload xc46_140 rfl ?_
      refine x_iload xc46_142 rfl ?_
      refine x_ias xc46_144 xz11 (by omega) (by omega) (by omega) ?_
      refine x_iload xc46_145 rfl ?_
      refine x_iret xc46_147 (Or.inl rfl) ?_
      exact k2 h0 h1
    · refine x_aloadn xc46_114 rfl ?_
      refine x_gfr xc46_115 rfl rfl xz7 rfl ?_
      refine x_iload xc46_118 rfl ?_
      refine x_aloadn xc46_120 rfl ?_
      refine x_gfr xc46_121 rfl rfl xz7 rfl ?_
      refine x_iload xc46_124 rfl ?_
      refine x_iconst xc46_126 ?_
      refine x_isub xc46_127 ?_
      refine x_ial' (v := y) xc46_128 xz11 rfl (by omega) (by omega) (by omega) hy ?_
      refine x_ias xc46_129 xz11 (by omega) (by omega) (by omega) ?_
      refine x_iinc (pl' := [some (.ref 7), some (xV p), some (xV g), some (.ref 32), some (xV z), some (xV k), some (xV r), some (xV (q + (-1)))]) xc46_130 rfl rfl ?_
      refine x_goto xc46_133 ?_
      exact k3 h0 h1

theorem xg31 {ro : Nat → Nat × (Nat → Int32)} {d : Nat} {Q : Option Value → pmS → Prop} {a : xA} {b : xB} {p x n : Int} (h : pmWp ro d 11 31 1 0 [some (.ref 0), some (xV p), some (xV x), some (xV n), none, none] [] (xS a b) Q) : pmCs ro (d + 1) 31 [.ref 0, xV p, xV x, xV n] (xS a b) Q := x_go xi31 rfl rfl rfl rfl rfl h
theorem w31 {ro : Nat → Nat × (Nat → Int32)} {d : Nat} {Q : Option Value → pmS → Prop} {p x n g l : Int} {a : xA} {b : xB} (h_p : xR p) (h_x : xR x) (h_n : xR n) (hg : a 0 12 = g) (hl : a 1 1 = l) (hg0 : 0 ≤ g ∧ g ≤ 1) (hl0 : 0 ≤ l ∧ l ≤ 400) (hA : xAr a) (hd : 2 ≤ d)
    (k1 : xK ((1 ≤ p ∧ p < 4) → (x < 1) → (¬ g = 0) → Q (some (xV (-1))) (xS a b)))
    (k2 : xK ((1 ≤ p ∧ p < 4) → (x < 1) → (¬ ¬ g = 0) → Q (some (xV (-1))) (xS a b)))
    (k3 : xK ((1 ≤ p ∧ p < 4) → (¬ x < 1) → (9 < x) → (¬ g = 0) → Q (some (xV (-1))) (xS a b)))
    (k4 : xK ((1 ≤ p ∧ p < 4) → (¬ x < 1) → (9 < x) → (¬ ¬ g = 0) → Q (some (xV (-1))) (xS a b)))
    (k5 : xK ((1 ≤ p ∧ p < 4) → (¬ x < 1) → (¬ 9 < x) → (n < 1) → (¬ g = 0) → Q (some (xV (-1))) (xS a b)))
    (k6 : xK ((1 ≤ p ∧ p < 4) → (¬ x < 1) → (¬ 9 < x) → (n < 1) → (¬ ¬ g = 0) → Q (some (xV (-1))) (xS a b)))
    (k7 : xK ((1 ≤ p ∧ p < 4) → (¬ x < 1) → (¬ 9 < x) → (¬ n < 1) → (40 < n) → (¬ g = 0) → Q (some (xV (-1))) (xS a b)))
    (k8 : xK ((1 ≤ p ∧ p < 4) → (¬ x < 1) → (¬ 9 < x) → (¬ n < 1) → (40 < n) → (¬ ¬ g = 0) → Q (some (xV (-1))) (xS a b)))
    (k9 : xK ((1 ≤ p ∧ p < 4) → (¬ x < 1) → (¬ 9 < x) → (¬ n < 1) → (¬ 40 < n) → (¬ g = 0) → Q (some (xV (-1))) (xS a b)))
    (k10 : xK ((1 ≤ p ∧ p < 4) → (¬ x < 1) → (¬ 9 < x) → (¬ n < 1) → (¬ 40 < n) → (¬ ¬ g = 0) → (3 ≤ a 12 p) → Q (some (xV (-1))) (xS a b)))
    (k11 : xK ((1 ≤ p ∧ p < 4) → (¬ x < 1) → (¬ 9 < x) → (¬ n < 1) → (¬ 40 < n) → (¬ ¬ g = 0) → (¬ 3 ≤ a 12 p) → (n ≤ l) → pmCs ro d 32 [.ref 31, xV n] (xS a b) fun r σ' => pmWp ro d 11 31 1 82 [some (.ref 0), some (xV p), some (xV x), some (xV n), some (xV 1), none] (r.toList ++ []) σ' Q))
    (k12 : xK ((1 ≤ p ∧ p < 4) → (¬ x < 1) → (¬ 9 < x) → (¬ n < 1) → (¬ 40 < n) → (¬ ¬ g = 0) → (¬ 3 ≤ a 12 p) → (¬ n ≤ l) → Q (some (xV (-1))) (xS a b)))
    (k13 : xK ((¬ (1 ≤ p ∧ p < 4)) → (¬ g = 0) → Q (some (xV (-1))) (xS a b)))
    (k14 : xK ((¬ (1 ≤ p ∧ p < 4)) → (¬ ¬ g = 0) → Q (some (xV (-1))) (xS a b))) :
    pmWp ro d 11 31 1 0 [some (.ref 0), some (xV p), some (xV x), some (xV n), none, none] [] (xS a b) Q := by
  refine x_iloadn xc31_0 rfl ?_
  refine x_cS (as := [xV p]) (rest := []) xc31_1 rfl rfl xi26 ⟨rfl, rfl⟩ rfl rfl ?_
  refine xk26 (by omega) (xRk (by have g0 := xRb h_p; omega)) (fun h0 => ?_) (fun h1 => ?_)
  · refine x_ifeq xc31_4 (xRk (by decide)) (fun h => absurd h (by omega)) (fun _ => ?_)
    refine x_iloadn xc31_7 rfl ?_
    refine x_iconst xc31_8 ?_
    refine x_iclt xc31_9 (xRk (by have g0 := xRb h_x; omega)) (xRk (by decide)) (fun h3 => ?_) (fun h3 => ?_)
    · refine x_iconst xc31_33 ?_
      refine x_istore (pl' := [some (.ref 0), some (xV p), some (xV x), some (xV n), some (xV 0), none]) xc31_34 rfl rfl ?_
      refine x_aloadn xc31_36 rfl ?_
      refine x_gfi' (k := 12) (v := g) xc31_37 rfl (Or.inr rfl) rfl xz0 hg ?_
      refine x_ifne xc31_40 (xRk (by omega)) (fun h4 => ?_) (fun h4 => ?_)
      · refine x_iconst xc31_72 ?_
        refine x_iret xc31_73 (Or.inl rfl) ?_
        exact k1 h0 h3 h4
      · refine x_iload xc31_43 rfl ?_
        refine x_ifeq xc31_45 (xRk (by decide)) (fun _ => ?_) (fun h => absurd h (by omega))
        refine x_iconst xc31_72 ?_
        refine x_iret xc31_73 (Or.inl rfl) ?_
        exact k2 h0 h3 h4
    · refine x_iloadn xc31_12 rfl ?_
      refine x_bipush xc31_13 (by decide) ?_
      refine x_icgt xc31_15 (xRk (by have g0 := xRb h_x; omega)) (xRk (by decide)) (fun h6 => ?_) (fun h6 => ?_)
      · refine x_iconst xc31_33 ?_
        refine x_istore (pl' := [some (.ref 0), some (xV p), some (xV x), some (xV n), some (xV 0), none]) xc31_34 rfl rfl ?_
        refine x_aloadn xc31_36 rfl ?_
        refine x_gfi' (k := 12) (v := g) xc31_37 rfl (Or.inr rfl) rfl xz0 hg ?_
        refine x_ifne xc31_40 (xRk (by omega)) (fun h7 => ?_) (fun h7 => ?_)
        · refine x_iconst xc31_72 ?_
          refine x_iret xc31_73 (Or.inl rfl) ?_
          exact k3 h0 h3 h6 h7
        · refine x_iload xc31_43 rfl ?_
          refine x_ifeq xc31_45 (xRk (by decide)) (fun _ => ?_) (fun h => absurd h (by omega))
          refine x_iconst xc31_72 ?_
          refine x_iret xc31_73 (Or.inl rfl) ?_
          exact k4 h0 h3 h6 h7
      · refine x_iloadn xc31_18 rfl ?_
        refine x_iconst xc31_19 ?_
        refine x_iclt xc31_20 (xRk (by have g0 := xRb h_n; omega)) (xRk (by decide)) (fun h9 => ?_) (fun h9 => ?_)
        · refine x_iconst xc31_33 ?_
          refine x_istore (pl' := [some (.ref 0), some (xV p), some (xV x), some (xV n), some (xV 0), none]) xc31_34 rfl rfl ?_
          refine x_aloadn xc31_36 rfl ?_
          refine x_gfi' (k := 12) (v := g) xc31_37 rfl (Or.inr rfl) rfl xz0 hg ?_
          refine x_ifne xc31_40 (xRk (by omega)) (fun h10 => ?_) (fun h10 => ?_)
          · refine x_iconst xc31_72 ?_
            refine x_iret xc31_73 (Or.inl rfl) ?_
            exact k5 h0 h3 h6 h9 h10
          · refine x_iload xc31_43 rfl ?_
            refine x_ifeq xc31_45 (xRk (by decide)) (fun _ => ?_) (fun h => absurd h (by omega))
            refine x_iconst xc31_72 ?_
            refine x_iret xc31_73 (Or.inl rfl) ?_
            exact k6 h0 h3 h6 h9 h10
        · refine x_iloadn xc31_23 rfl ?_
          refine x_bipush xc31_24 (by decide) ?_
          refine x_icgt xc31_26 (xRk (by have g0 := xRb h_n; omega)) (xRk (by decide)) (fun h12 => ?_) (fun h12 => ?_)
          · refine x_iconst xc31_33 ?_
            refine x_istore (pl' := [some (.ref 0), some (xV p), some (xV x), some (xV n), some (xV 0), none]) xc31_34 rfl rfl ?_
            refine x_aloadn xc31_36 rfl ?_
            refine x_gfi' (k := 12) (v := g) xc31_37 rfl (Or.inr rfl) rfl xz0 hg ?_
            refine x_ifne xc31_40 (xRk (by omega)) (fun h13 => ?_) (fun h13 => ?_)
            · refine x_iconst xc31_72 ?_
              refine x_iret xc31_73 (Or.inl rfl) ?_
              exact k7 h0 h3 h6 h9 h12 h13
            · refine x_iload xc31_43 rfl ?_
              refine x_ifeq xc31_45 (xRk (by decide)) (fun _ => ?_) (fun h => absurd h (by omega))
              refine x_iconst xc31_72 ?_
              refine x_iret xc31_73 (Or.inl rfl) ?_
              exact k8 h0 h3 h6 h9 h12 h13
          · refine x_iconst xc31_29 ?_
            refine x_goto xc31_30 ?_
            refine x_istore (pl' := [some (.ref 0), some (xV p), some (xV x), some (xV n), some (xV 1), none]) xc31_34 rfl rfl ?_
            refine x_aloadn xc31_36 rfl ?_
            refine x_gfi' (k := 12) (v := g) xc31_37 rfl (Or.inr rfl) rfl xz0 hg ?_
            refine x_ifne xc31_40 (xRk (by omega)) (fun h15 => ?_) (fun h15 => ?_)
            · refine x_iconst xc31_72 ?_
              refine x_iret xc31_73 (Or.inl rfl) ?_
              exact k9 h0 h3 h6 h9 h12 h15
            · refine x_iload xc31_43 rfl ?_
              refine x_ifeq xc31_45 (xRk (by decide)) (fun h => absurd h (by omega)) (fun _ => ?_)
              refine x_aloadn xc31_48 rfl ?_
              refine x_gfr xc31_49 rfl rfl xz0 rfl ?_
              refine x_gfr xc31_52 rfl rfl xz7 rfl ?_
              refine x_iloadn xc31_55 rfl ?_
              refine x_ial xc31_56 xz12 rfl (by have g0 := xRb h_p; omega) (by have g0 := xRb h_p; omega) (by have g0 := xRb h_p; omega) ?_
              refine x_iconst xc31_57 ?_
              refine x_icge xc31_58 (xRk (by have g0 := xRb h_p; have g1 := xRb (hA 12 p); omega)) (xRk (by decide)) (fun h17 => ?_) (fun h17 => ?_)
              · refine x_iconst xc31_72 ?_
                refine x_iret xc31_73 (Or.inl rfl) ?_
                exact k10 h0 h3 h6 h9 h12 h15 h17
              · refine x_iloadn xc31_61 rfl ?_
                refine x_aloadn xc31_62 rfl ?_
                refine x_gfr xc31_63 rfl rfl xz0 rfl ?_
                refine x_gfi' (k := 1) (v := l) xc31_66 rfl (Or.inl rfl) rfl xz1 hl ?_
                refine x_icle xc31_69 (xRk (by have g0 := xRb h_n; omega)) (xRk (by omega)) (fun h18 => ?_) (fun h18 => ?_)
                · refine x_aloadn xc31_74 rfl ?_
                  refine x_gfr xc31_75 rfl rfl xz0 rfl ?_
                  refine x_iloadn xc31_78 rfl ?_
                  refine x_cV (as := [xV n]) (rest := []) xc31_79 rfl xi32 xz31 ⟨rfl, rfl⟩ rfl rfl ?_
                  exact k11 h0 h3 h6 h9 h12 h15 h17 h18
                · refine x_iconst xc31_72 ?_
                  refine x_iret xc31_73 (Or.inl rfl) ?_
                  exact k12 h0 h3 h6 h9 h12 h15 h17 h18
  · refine x_ifeq xc31_4 (xRk (by decide)) (fun _ => ?_) (fun h => absurd h (by omega))
    refine x_iconst xc31_33 ?_
    refine x_istore (pl' := [some (.ref 0), some (xV p), some (xV x), some (xV n), some (xV 0), none]) xc31_34 rfl rfl ?_
    refine x_aloadn xc31_36 rfl ?_
    refine x_gfi' (k := 12) (v := g) xc31_37 rfl (Or.inr rfl) rfl xz0 hg ?_
    refine x_ifne xc31_40 (xRk (by omega)) (fun h20 => ?_) (fun h20 => ?_)
    · refine x_iconst xc31_72 ?_
      refine x_iret xc31_73 (Or.inl rfl) ?_
      exact k13 h1 h20
    · refine x_iload xc31_43 rfl ?_
      refine x_ifeq xc31_45 (xRk (by decide)) (fun _ => ?_) (fun h => absurd h (by omega))
      refine x_iconst xc31_72 ?_
      refine x_iret xc31_73 (Or.inl rfl) ?_
      exact k14 h1 h20

theorem w31b {ro : Nat → Nat × (Nat → Int32)} {d : Nat} {Q : Option Value → pmS → Prop} {v4 : Option Value} {v5 : Option Value} {p x n f s : Int} {a : xA} {b : xB} (h_f : -10000 < f ∧ f < 0 ∨ f = 0) (hs : a 31 2 = s) (hd : 1 ≤ d)
    (k1 : (f = 0) → pmCs ro d 46 [.ref 7, xV p, xV x, .ref 32, xV s] (xS (xU a 1 1 0) b) fun r σ' => pmWp ro d 11 31 1 124 [some (.ref 0), some (xV p), some (xV x), some (xV n), v4, some (xV f)] (r.toList ++ []) σ' Q)
    (k2 : (¬ f = 0) → Q (some (xV f)) (xS (xU a 1 1 0) b)) :
    pmWp ro d 11 31 1 82 [some (.ref 0), some (xV p), some (xV x), some (xV n), v4, v5] [xV f] (xS a b) Q := by
  refine x_istore (pl' := [some (.ref 0), some (xV p), some (xV x), some (xV n), v4, some (xV f)]) xc31_82 rfl rfl ?_
  refine x_aloadn xc31_84 rfl ?_
  refine x_gfr xc31_85 rfl rfl xz0 rfl ?_
  refine x_cV (as := []) (rest := []) xc31_88 rfl xi45 xz1 ⟨rfl, rfl⟩ rfl rfl ?_
  refine xk45 (by omega) ?_
  refine x_iload xc31_91 rfl ?_
  refine x_ifeq xc31_93 (xRk (by omega)) (fun h0 => ?_) (fun h0 => ?_)
  · refine x_aloadn xc31_101 rfl ?_
    refine x_gfr xc31_102 rfl rfl xz0 rfl ?_
    refine x_iloadn xc31_105 rfl ?_
    refine x_iloadn xc31_106 rfl ?_
    refine x_aloadn xc31_107 rfl ?_
    refine x_gfr xc31_108 rfl rfl xz0 rfl ?_
    refine x_gfr xc31_111 rfl rfl xz31 rfl ?_
    refine x_aloadn xc31_114 rfl ?_
    refine x_gfr xc31_115 rfl rfl xz0 rfl ?_
    refine x_gfi' (k := 2) (v := s) xc31_118 rfl (Or.inl rfl) rfl xz31 (by rw [xUn (by decide), hs]) ?_
    refine x_cV (as := [xV p, xV x, .ref 32, xV s]) (rest := []) xc31_121 rfl xi46 xz7 ⟨rfl, rfl⟩ rfl rfl ?_
    exact k1 h0
  · refine x_iload xc31_96 rfl ?_
    refine x_goto xc31_98 ?_
    refine x_iret xc31_124 (Or.inl rfl) ?_
    exact k2 h0

theorem w31c {ro : Nat → Nat × (Nat → Int32)} {d : Nat} {Q : Option Value → pmS → Prop} {v4 : Option Value} {v5 : Option Value} {p x n f : Int} {a : xA} {b : xB}
    (k1 : Q (some (xV f)) (xS a b)) :
    pmWp ro d 11 31 1 124 [some (.ref 0), some (xV p), some (xV x), some (xV n), v4, v5] [xV f] (xS a b) Q := by
  refine x_iret xc31_124 (Or.inl rfl) ?_
  exact k1

theorem xg153 {ro : Nat → Nat × (Nat → Int32)} {d : Nat} {Q : Option Value → pmS → Prop} {a : xA} {b : xB} {p x n : Int} (h : pmWp ro d 12 153 1 0 [some (.ref 87), some (xV p), some (xV x), some (xV n), none, none, none] [] (xS a b) Q) : pmCs ro (d + 1) 153 [.ref 87, xV p, xV x, xV n] (xS a b) Q := x_go xi153 rfl rfl rfl rfl rfl h
theorem w153 {ro : Nat → Nat × (Nat → Int32)} {d : Nat} {Q : Option Value → pmS → Prop} {p x n g l : Int} {a : xA} {b : xB} (h_p : xR p) (h_x : xR x) (h_n : xR n) (hg : a 87 4 = g) (hl : a 87 9 = l) (hg0 : 0 ≤ g ∧ g ≤ 1) (hl0 : 0 ≤ l ∧ l ≤ 400) (hA : xAr a) (hd : 2 ≤ d)
    (k1 : xK ((¬ g = 0) → Q (some (xV (-1))) (xS a b)))
    (k2 : xK ((¬ ¬ g = 0) → (1 ≤ p ∧ p < 4) → (1 ≤ x ∧ x ≤ 9) → (1 ≤ n ∧ n ≤ 40) → (l < n) → Q (some (xV (-1))) (xS a b)))
    (k3 : xK ((¬ ¬ g = 0) → (1 ≤ p ∧ p < 4) → (1 ≤ x ∧ x ≤ 9) → (1 ≤ n ∧ n ≤ 40) → (¬ l < n) → (¬ a 96 p = 3) → pmCs ro d 155 [.ref 87] (xS (xU (xU (xU (xU (xU a 87 10 0) 87 11 n) 87 13 0) 87 14 0) 87 15 0) b) fun r σ' => pmWp ro d 12 153 1 63 [some (.ref 87), some (xV p), some (xV x), some (xV n), none, none, none] (r.toList ++ []) σ' Q))
    (k4 : xK ((¬ ¬ g = 0) → (1 ≤ p ∧ p < 4) → (1 ≤ x ∧ x ≤ 9) → (1 ≤ n ∧ n ≤ 40) → (¬ l < n) → (¬ ¬ a 96 p = 3) → Q (some (xV (-1))) (xS a b)))
    (k5 : xK ((¬ ¬ g = 0) → (1 ≤ p ∧ p < 4) → (1 ≤ x ∧ x ≤ 9) → (¬ (1 ≤ n ∧ n ≤ 40)) → Q (some (xV (-1))) (xS a b)))
    (k6 : xK ((¬ ¬ g = 0) → (1 ≤ p ∧ p < 4) → (¬ (1 ≤ x ∧ x ≤ 9)) → Q (some (xV (-1))) (xS a b)))
    (k7 : xK ((¬ ¬ g = 0) → (¬ (1 ≤ p ∧ p < 4)) → Q (some (xV (-1))) (xS a b))) :
    pmWp ro d 12 153 1 0 [some (.ref 87), some (xV p), some (xV x), some (xV n), none, none, none] [] (xS a b) Q := by
  refine x_aloadn xc153_0 rfl ?_
  refine x_gfi' (k := 4) (v := g) xc153_1 rfl (Or.inr rfl) rfl xz87 hg ?_
  refine x_ifne xc153_4 (xRk (by omega)) (fun h0 => ?_) (fun h0 => ?_)
  · refine x_iconst xc153_52 ?_
    refine x_iret xc153_53 (Or.inl rfl) ?_
    exact k1 h0
  · refine x_iloadn xc153_7 rfl ?_
    refine x_cS (as := [xV p]) (rest := []) xc153_8 rfl rfl xi146 ⟨rfl, rfl⟩ rfl rfl ?_
    refine xk146 (by omega) (xRk (by have g0 := xRb h_p; omega)) (fun h1 => ?_) (fun h2 => ?_)
    · refine x_ifeq xc153_11 (xRk (by decide)) (fun h => absurd h (by omega)) (fun _ => ?_)
      refine x_iloadn xc153_14 rfl ?_
      refine x_iconst xc153_15 ?_
      refine x_bipush xc153_16 (by decide) ?_
      refine x_cS (as := [xV x, xV 1, xV 9]) (rest := []) xc153_18 rfl rfl xi143 ⟨rfl, rfl⟩ rfl rfl ?_
      refine xk143 (xRk (by have g0 := xRb h_x; omega)) (xRk (by decide)) (xRk (by decide)) (by omega) (fun h4 => ?_) (fun h5 => ?_)
      · refine x_ifeq xc153_21 (xRk (by decide)) (fun h => absurd h (by omega)) (fun _ => ?_)
        refine x_iloadn xc153_24 rfl ?_
        refine x_iconst xc153_25 ?_
        refine x_bipush xc153_26 (by decide) ?_
        refine x_cS (as := [xV n, xV 1, xV 40]) (rest := []) xc153_28 rfl rfl xi143 ⟨rfl, rfl⟩ rfl rfl ?_
        refine xk143 (xRk (by have g0 := xRb h_n; omega)) (xRk (by decide)) (xRk (by decide)) (by omega) (fun h7 => ?_) (fun h8 => ?_)
        · refine x_ifeq xc153_31 (xRk (by decide)) (fun h => absurd h (by omega)) (fun _ => ?_)
          refine x_iloadn xc153_34 rfl ?_
          refine x_aloadn xc153_35 rfl ?_
          refine x_gfi' (k := 9) (v := l) xc153_36 rfl (Or.inl rfl) rfl xz87 hl ?_
          refine x_icgt xc153_39 (xRk (by have g0 := xRb h_n; omega)) (xRk (by omega)) (fun h10 => ?_) (fun h10 => ?_)
          · refine x_iconst xc153_52 ?_
            refine x_iret xc153_53 (Or.inl rfl) ?_
            exact k2 h0 h1 h4 h7 h10
          · refine x_aloadn xc153_42 rfl ?_
            refine x_gfr xc153_43 rfl rfl xz87 rfl ?_
            refine x_iloadn xc153_46 rfl ?_
            refine x_ial xc153_47 xz96 rfl (by have g0 := xRb h_p; omega) (by have g0 := xRb h_p; omega) (by have g0 := xRb h_p; omega) ?_
            refine x_iconst xc153_48 ?_
            refine x_icne xc153_49 (xRk (by have g0 := xRb h_p; have g1 := xRb (hA 96 p); omega)) (xRk (by decide)) (fun h11 => ?_) (fun h11 => ?_)
            · refine x_aloadn xc153_54 rfl ?_
              refine x_iloadn xc153_55 rfl ?_
              refine x_cV (as := [xV n]) (rest := []) xc153_56 rfl xi154 xz87 ⟨rfl, rfl⟩ rfl rfl ?_
              refine xk154 (xRk (by have g0 := xRb h_n; omega)) (by omega) ?_
              refine x_aloadn xc153_59 rfl ?_
              refine x_cV (as := []) (rest := []) xc153_60 rfl xi155 xz87 ⟨rfl, rfl⟩ rfl rfl ?_
              exact k3 h0 h1 h4 h7 h10 h11
            · refine x_iconst xc153_52 ?_
              refine x_iret xc153_53 (Or.inl rfl) ?_
              exact k4 h0 h1 h4 h7 h10 h11
        · refine x_ifeq xc153_31 (xRk (by decide)) (fun _ => ?_) (fun h => absurd h (by omega))
          refine x_iconst xc153_52 ?_
          refine x_iret xc153_53 (Or.inl rfl) ?_
          exact k5 h0 h1 h4 h8
      · refine x_ifeq xc153_21 (xRk (by decide)) (fun _ => ?_) (fun h => absurd h (by omega))
        refine x_iconst xc153_52 ?_
        refine x_iret xc153_53 (Or.inl rfl) ?_
        exact k6 h0 h1 h5
    · refine x_ifeq xc153_11 (xRk (by decide)) (fun _ => ?_) (fun h => absurd h (by omega))
      refine x_iconst xc153_52 ?_
      refine x_iret xc153_53 (Or.inl rfl) ?_
      exact k7 h0 h2

theorem w153f {ro : Nat → Nat × (Nat → Int32)} {d : Nat} {Q : Option Value → pmS → Prop} {v4 : Option Value} {v5 : Option Value} {v6 : Option Value} {p x n f : Int} {a : xA} {b : xB} (h_f : xR f) (hf : a 87 12 = f)
    (k1 : Q (some (xV f)) (xS (xU a 87 9 0) b)) :
    pmWp ro d 12 153 1 63 [some (.ref 87), some (xV p), some (xV x), some (xV n), v4, v5, v6] [xV 0] (xS a b) Q := by
  refine x_istore (pl' := [some (.ref 87), some (xV p), some (xV x), some (xV n), some (xV 0), v5, v6]) xc153_63 rfl rfl ?_
  refine x_aloadn xc153_65 rfl ?_
  refine x_iconst xc153_66 ?_
  refine x_pfi (k := 9) xc153_67 rfl ⟨rfl, rfl⟩ rfl xz87 ?_
  refine x_iload xc153_70 rfl ?_
  refine x_ifne xc153_72 (xRk (by decide)) (fun h => absurd h (by omega)) (fun _ => ?_)
  refine x_aloadn xc153_75 rfl ?_
  refine x_gfi' (k := 12) (v := f) xc153_76 rfl (Or.inl rfl) rfl xz87 (by rw [xUk (by decide), hf]) ?_
  refine x_iret xc153_79 (Or.inl rfl) ?_
  exact k1

theorem w153g {ro : Nat → Nat × (Nat → Int32)} {d : Nat} {Q : Option Value → pmS → Prop} {v4 : Option Value} {v5 : Option Value} {v6 : Option Value} {p x n k o : Int} {a : xA} {b : xB} (h_p : xR p) (h_x : xR x) (hp : 1 ≤ p ∧ p ≤ 3) (hk : a 96 p = k) (hk0 : 0 ≤ k ∧ k < 3) (ho : a 87 15 = o) (ho0 : 0 ≤ o ∧ o ≤ 40)
    (k1 : pmWp ro d 12 153 1 114 [some (.ref 87), some (xV p), some (xV x), some (xV n), some (xV 1), some (xV (3 * p + k)), some (xV 0)] [] (xS (xU (xU (xU a 87 9 0) 97 (3 * p + k) x) 98 (3 * p + k) o) b) Q) :
    pmWp ro d 12 153 1 63 [some (.ref 87), some (xV p), some (xV x), some (xV n), v4, v5, v6] [xV 1] (xS a b) Q := by
  refine x_istore (pl' := [some (.ref 87), some (xV p), some (xV x), some (xV n), some (xV 1), v5, v6]) xc153_63 rfl rfl ?_
  refine x_aloadn xc153_65 rfl ?_
  refine x_iconst xc153_66 ?_
  refine x_pfi (k := 9) xc153_67 rfl ⟨rfl, rfl⟩ rfl xz87 ?_
  refine x_iload xc153_70 rfl ?_
  refine x_ifne xc153_72 (xRk (by decide)) (fun _ => ?_) (fun h => absurd h (by omega))
  refine x_iconst xc153_80 ?_
  refine x_iloadn xc153_81 rfl ?_
  refine x_imul xc153_82 ?_
  refine x_aloadn xc153_83 rfl ?_
  refine x_gfr xc153_84 rfl rfl xz87 rfl ?_
  refine x_iloadn xc153_87 rfl ?_
  refine x_ial' (v := k) xc153_88 xz96 rfl (by have g0 := xRb h_p; omega) (by have g0 := xRb h_p; omega) (by have g0 := xRb h_p; omega) (by rw [xUn (by decide), hk]) ?_
  refine x_iadd xc153_89 ?_
  refine x_istore (pl' := [some (.ref 87), some (xV p), some (xV x), some (xV n), some (xV 1), some (xV (3 * p + k)), v6]) xc153_90 rfl rfl ?_
  refine x_aloadn xc153_92 rfl ?_
  refine x_gfr xc153_93 rfl rfl xz87 rfl ?_
  refine x_iload xc153_96 rfl ?_
  refine x_iloadn xc153_98 rfl ?_
  refine x_ias xc153_99 xz97 (by have g0 := xRb h_p; omega) (by have g0 := xRb h_p; omega) (by have g0 := xRb h_p; omega) ?_
  refine x_aloadn xc153_100 rfl ?_
  refine x_gfr xc153_101 rfl rfl xz87 rfl ?_
  refine x_iload xc153_104 rfl ?_
  refine x_aloadn xc153_106 rfl ?_
  refine x_gfi' (k := 15) (v := o) xc153_107 rfl (Or.inl rfl) rfl xz87 (by rw [xUn (by decide), xUk (by decide), ho]) ?_
  refine x_ias xc153_110 xz98 (by have g0 := xRb h_p; omega) (by have g0 := xRb h_p; omega) (by have g0 := xRb h_p; omega) ?_
  refine x_iconst xc153_111 ?_
  refine x_istore (pl' := [some (.ref 87), some (xV p), some (xV x), some (xV n), some (xV 1), some (xV (3 * p + k)), some (xV 0)]) xc153_112 rfl rfl ?_
  exact k1

theorem w153l {ro : Nat → Nat × (Nat → Int32)} {d : Nat} {Q : Option Value → pmS → Prop} {v4 : Option Value} {p x n k o r i : Int} {a : xA} {b : xB} (h_p : xR p) (h_x : xR x) (hp : 1 ≤ p ∧ p ≤ 3) (hk : a 96 p = k) (hk0 : 0 ≤ k ∧ k < 3) (ho : a 87 15 = o) (ho0 : 0 ≤ o ∧ o ≤ 40) (hr : 3 ≤ r ∧ r < 12) (hi : 0 ≤ i ∧ i ≤ o) (hA : xAr a)
    (k1 : (o ≤ i) → Q (some (xV (k + 1 - 1))) (xS (xU a 96 p (k + 1)) b))
    (k2 : (¬ o ≤ i) → pmWp ro d 12 153 1 114 [some (.ref 87), some (xV p), some (xV x), some (xV n), v4, some (xV r), some (xV (i + 1))] [] (xS (xU a 99 (60 * r + i) (a 95 i)) b) Q) :
    pmWp ro d 12 153 1 114 [some (.ref 87), some (xV p), some (xV x), some (xV n), v4, some (xV r), some (xV i)] [] (xS a b) Q := by
  refine x_iload xc153_114 rfl ?_
  refine x_aloadn xc153_116 rfl ?_
  refine x_gfi' (k := 15) (v := o) xc153_117 rfl (Or.inl rfl) rfl xz87 ho ?_
  refine x_icge xc153_120 (xRk (by omega)) (xRk (by omega)) (fun h0 => ?_) (fun h0 => ?_)
  · refine x_aloadn xc153_149 rfl ?_
    refine x_gfr xc153_150 rfl rfl xz87 rfl ?_
    refine x_iloadn xc153_153 rfl ?_
    refine x_aloadn xc153_154 rfl ?_
    refine x_gfr xc153_155 rfl rfl xz87 rfl ?_
    refine x_iloadn xc153_158 rfl ?_
    refine x_ial' (v := k) xc153_159 xz96 rfl (by have g0 := xRb h_p; omega) (by have g0 := xRb h_p; omega) (by have g0 := xRb h_p; omega) hk ?_
    refine x_iconst xc153_160 ?_
    refine x_iadd xc153_161 ?_
    refine x_ias xc153_162 xz96 (by have g0 := xRb h_p; omega) (by have g0 := xRb h_p; omega) (by have g0 := xRb h_p; omega) ?_
    refine x_aloadn xc153_163 rfl ?_
    refine x_gfr xc153_164 rfl rfl xz87 rfl ?_
    refine x_iloadn xc153_167 rfl ?_
    refine x_ial' (v := k + 1) xc153_168 xz96 rfl (by have g0 := xRb h_p; omega) (by have g0 := xRb h_p; omega) (by have g0 := xRb h_p; omega) (by rw [xUa]) ?_
    refine x_iconst xc153_169 ?_
    refine x_isub xc153_170 ?_
    refine x_iret xc153_171 (Or.inl rfl) ?_
    exact k1 h0
  · refine x_aloadn xc153_123 rfl ?_
    refine x_gfr xc153_124 rfl rfl xz87 rfl ?_
    refine x_bipush xc153_127 (by decide) ?_
    refine x_iload xc153_129 rfl ?_
    refine x_imul xc153_131 ?_
    refine x_iload xc153_132 rfl ?_
    refine x_iadd xc153_134 ?_
    refine x_aloadn xc153_135 rfl ?_
    refine x_gfr xc153_136 rfl rfl xz87 rfl ?_
    refine x_iload xc153_139 rfl ?_
    refine x_ial xc153_141 xz95 rfl (by omega) (by omega) (by omega) ?_
    refine x_ias xc153_142 xz99 (by omega) (by omega) (by omega) ?_
    refine x_iinc (pl' := [some (.ref 87), some (xV p), some (xV x), some (xV n), v4, some (xV r), some (xV (i + 1))]) xc153_143 rfl rfl ?_
    refine x_goto xc153_146 ?_
    exact k2 h0

end
