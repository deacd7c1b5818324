/-! exact: turn -/
section
set_option maxRecDepth 100000
theorem xi88 : pmInf[88]? = some pmI_88 := rfl
theorem xi99 : pmInf[99]? = some pmI_99 := rfl
theorem xc87_7 : pmCode 87 7 = some (.aload_n 0) ∧ 7 + 1 = 8 := ⟨rfl, rfl⟩
theorem xc87_8 : pmCode 87 8 = some (.getfield 40) ∧ 8 + 3 = 11 := ⟨rfl, rfl⟩
theorem xc87_11 : pmCode 87 11 = some (.getfield 234) ∧ 11 + 3 = 14 := ⟨rfl, rfl⟩
theorem xc87_14 : pmCode 87 14 = some (.bipush 60) ∧ 14 + 2 = 16 := ⟨rfl, rfl⟩
theorem xc87_16 : pmCode 87 16 = some (.if_icmp .lt 5) ∧ ((16 : Nat) : Int) + 5 = ((21 : Nat) : Int) ∧ 16 + 3 = 19 := ⟨rfl, rfl, rfl⟩
theorem xc87_21 : pmCode 87 21 = some (.iload_n 1) ∧ 21 + 1 = 22 := ⟨rfl, rfl⟩
theorem xc87_22 : pmCode 87 22 = some (.iload_n 2) ∧ 22 + 1 = 23 := ⟨rfl, rfl⟩
theorem xc87_23 : pmCode 87 23 = some (.iload_n 3) ∧ 23 + 1 = 24 := ⟨rfl, rfl⟩
theorem xc87_24 : pmCode 87 24 = some (.invokestatic 237) ∧ 24 + 3 = 27 := ⟨rfl, rfl⟩
theorem xc87_27 : pmCode 87 27 = some (.istore 4) ∧ 27 + 2 = 29 := ⟨rfl, rfl⟩
theorem xc87_29 : pmCode 87 29 = some (.iload 4) ∧ 29 + 2 = 31 := ⟨rfl, rfl⟩
theorem xc87_31 : pmCode 87 31 = some (.iconst (-1)) ∧ 31 + 1 = 32 := ⟨rfl, rfl⟩
theorem xc87_32 : pmCode 87 32 = some (.if_icmp .eq 23) ∧ ((32 : Nat) : Int) + 23 = ((55 : Nat) : Int) ∧ 32 + 3 = 35 := ⟨rfl, rfl, rfl⟩
theorem xc87_35 : pmCode 87 35 = some (.aload_n 0) ∧ 35 + 1 = 36 := ⟨rfl, rfl⟩
theorem xc87_36 : pmCode 87 36 = some (.getfield 19) ∧ 36 + 3 = 39 := ⟨rfl, rfl⟩
theorem xc87_39 : pmCode 87 39 = some (.aload_n 0) ∧ 39 + 1 = 40 := ⟨rfl, rfl⟩
theorem xc87_40 : pmCode 87 40 = some (.getfield 40) ∧ 40 + 3 = 43 := ⟨rfl, rfl⟩
theorem xc87_43 : pmCode 87 43 = some (.getfield 116) ∧ 43 + 3 = 46 := ⟨rfl, rfl⟩
theorem xc87_46 : pmCode 87 46 = some (.iconst 0) ∧ 46 + 1 = 47 := ⟨rfl, rfl⟩
theorem xc87_47 : pmCode 87 47 = some (.iload 4) ∧ 47 + 2 = 49 := ⟨rfl, rfl⟩
theorem xc87_49 : pmCode 87 49 = some (.invokevirtual 241) ∧ 49 + 3 = 52 := ⟨rfl, rfl⟩
theorem xc87_52 : pmCode 87 52 = some (.ifCond .ne 6) ∧ ((52 : Nat) : Int) + 6 = ((58 : Nat) : Int) ∧ 52 + 3 = 55 := ⟨rfl, rfl, rfl⟩
theorem xc87_55 : pmCode 87 55 = some (.bipush (-2)) ∧ 55 + 2 = 57 := ⟨rfl, rfl⟩
theorem xc87_57 : pmCode 87 57 = some .ireturn := rfl
theorem xc87_58 : pmCode 87 58 = some (.aload_n 0) ∧ 58 + 1 = 59 := ⟨rfl, rfl⟩
theorem xc87_59 : pmCode 87 59 = some (.getfield 79) ∧ 59 + 3 = 62 := ⟨rfl, rfl⟩
theorem xc87_62 : pmCode 87 62 = some (.aload_n 0) ∧ 62 + 1 = 63 := ⟨rfl, rfl⟩
theorem xc87_63 : pmCode 87 63 = some (.getfield 40) ∧ 63 + 3 = 66 := ⟨rfl, rfl⟩
theorem xc87_66 : pmCode 87 66 = some (.iload 4) ∧ 66 + 2 = 68 := ⟨rfl, rfl⟩
theorem xc87_68 : pmCode 87 68 = some (.iconst 0) ∧ 68 + 1 = 69 := ⟨rfl, rfl⟩
theorem xc87_69 : pmCode 87 69 = some (.invokevirtual 244) ∧ 69 + 3 = 72 := ⟨rfl, rfl⟩
theorem xc87_72 : pmCode 87 72 = some (.aload_n 0) ∧ 72 + 1 = 73 := ⟨rfl, rfl⟩
theorem xc87_73 : pmCode 87 73 = some (.getfield 97) ∧ 73 + 3 = 76 := ⟨rfl, rfl⟩
theorem xc87_76 : pmCode 87 76 = some (.aload_n 0) ∧ 76 + 1 = 77 := ⟨rfl, rfl⟩
theorem xc87_77 : pmCode 87 77 = some (.getfield 40) ∧ 77 + 3 = 80 := ⟨rfl, rfl⟩
theorem xc87_80 : pmCode 87 80 = some (.getfield 234) ∧ 80 + 3 = 83 := ⟨rfl, rfl⟩
theorem xc87_83 : pmCode 87 83 = some (.invokevirtual 248) ∧ 83 + 3 = 86 := ⟨rfl, rfl⟩
theorem xc87_86 : pmCode 87 86 = some (.aload_n 0) ∧ 86 + 1 = 87 := ⟨rfl, rfl⟩
theorem xc87_87 : pmCode 87 87 = some (.getfield 40) ∧ 87 + 3 = 90 := ⟨rfl, rfl⟩
theorem xc87_90 : pmCode 87 90 = some (.getfield 234) ∧ 90 + 3 = 93 := ⟨rfl, rfl⟩
theorem xc87_93 : pmCode 87 93 = some .ireturn := rfl
theorem xc88_0 : pmCode 88 0 = some (.iload_n 0) ∧ 0 + 1 = 1 := ⟨rfl, rfl⟩
theorem xc88_1 : pmCode 88 1 = some (.ifCond .lt 9) ∧ ((1 : Nat) : Int) + 9 = ((10 : Nat) : Int) ∧ 1 + 3 = 4 := ⟨rfl, rfl, rfl⟩
theorem xc88_4 : pmCode 88 4 = some (.iload_n 0) ∧ 4 + 1 = 5 := ⟨rfl, rfl⟩
theorem xc88_5 : pmCode 88 5 = some (.bipush 6) ∧ 5 + 2 = 7 := ⟨rfl, rfl⟩
theorem xc88_7 : pmCode 88 7 = some (.if_icmp .le 5) ∧ ((7 : Nat) : Int) + 5 = ((12 : Nat) : Int) ∧ 7 + 3 = 10 := ⟨rfl, rfl, rfl⟩
theorem xc88_10 : pmCode 88 10 = some (.iconst (-1)) ∧ 10 + 1 = 11 := ⟨rfl, rfl⟩
theorem xc88_11 : pmCode 88 11 = some .ireturn := rfl
theorem xc88_12 : pmCode 88 12 = some (.iload_n 0) ∧ 12 + 1 = 13 := ⟨rfl, rfl⟩
theorem xc88_13 : pmCode 88 13 = some (.ifCond .ne 16) ∧ ((13 : Nat) : Int) + 16 = ((29 : Nat) : Int) ∧ 13 + 3 = 16 := ⟨rfl, rfl, rfl⟩
theorem xc88_16 : pmCode 88 16 = some (.iload_n 1) ∧ 16 + 1 = 17 := ⟨rfl, rfl⟩
theorem xc88_17 : pmCode 88 17 = some (.iconst (-1)) ∧ 17 + 1 = 18 := ⟨rfl, rfl⟩
theorem xc88_18 : pmCode 88 18 = some (.if_icmp .ne 7) ∧ ((18 : Nat) : Int) + 7 = ((25 : Nat) : Int) ∧ 18 + 3 = 21 := ⟨rfl, rfl, rfl⟩
theorem xc88_21 : pmCode 88 21 = some (.iconst 1) ∧ 21 + 1 = 22 := ⟨rfl, rfl⟩
theorem xc88_22 : pmCode 88 22 = some (.goto 40) ∧ ((22 : Nat) : Int) + 40 = ((62 : Nat) : Int) := ⟨rfl, rfl⟩
theorem xc88_25 : pmCode 88 25 = some (.iconst 0) ∧ 25 + 1 = 26 := ⟨rfl, rfl⟩
theorem xc88_26 : pmCode 88 26 = some (.goto 36) ∧ ((26 : Nat) : Int) + 36 = ((62 : Nat) : Int) := ⟨rfl, rfl⟩
theorem xc88_29 : pmCode 88 29 = some (.iload_n 1) ∧ 29 + 1 = 30 := ⟨rfl, rfl⟩
theorem xc88_30 : pmCode 88 30 = some (.ifCond .lt 31) ∧ ((30 : Nat) : Int) + 31 = ((61 : Nat) : Int) ∧ 30 + 3 = 33 := ⟨rfl, rfl, rfl⟩
theorem xc88_33 : pmCode 88 33 = some (.iload_n 1) ∧ 33 + 1 = 34 := ⟨rfl, rfl⟩
theorem xc88_34 : pmCode 88 34 = some (.iload_n 0) ∧ 34 + 1 = 35 := ⟨rfl, rfl⟩
theorem xc88_35 : pmCode 88 35 = some (.iconst 1) ∧ 35 + 1 = 36 := ⟨rfl, rfl⟩
theorem xc88_36 : pmCode 88 36 = some (.if_icmp .ne 8) ∧ ((36 : Nat) : Int) + 8 = ((44 : Nat) : Int) ∧ 36 + 3 = 39 := ⟨rfl, rfl, rfl⟩
theorem xc88_39 : pmCode 88 39 = some (.bipush 7) ∧ 39 + 2 = 41 := ⟨rfl, rfl⟩
theorem xc88_41 : pmCode 88 41 = some (.goto 13) ∧ ((41 : Nat) : Int) + 13 = ((54 : Nat) : Int) := ⟨rfl, rfl⟩
theorem xc88_44 : pmCode 88 44 = some (.iload_n 0) ∧ 44 + 1 = 45 := ⟨rfl, rfl⟩
theorem xc88_45 : pmCode 88 45 = some (.iconst 5) ∧ 45 + 1 = 46 := ⟨rfl, rfl⟩
theorem xc88_46 : pmCode 88 46 = some (.if_icmp .ne 7) ∧ ((46 : Nat) : Int) + 7 = ((53 : Nat) : Int) ∧ 46 + 3 = 49 := ⟨rfl, rfl, rfl⟩
theorem xc88_49 : pmCode 88 49 = some (.iconst 4) ∧ 49 + 1 = 50 := ⟨rfl, rfl⟩
theorem xc88_50 : pmCode 88 50 = some (.goto 4) ∧ ((50 : Nat) : Int) + 4 = ((54 : Nat) : Int) := ⟨rfl, rfl⟩
theorem xc88_53 : pmCode 88 53 = some (.iconst 5) ∧ 53 + 1 = 54 := ⟨rfl, rfl⟩
theorem xc88_54 : pmCode 88 54 = some (.if_icmp .ge 7) ∧ ((54 : Nat) : Int) + 7 = ((61 : Nat) : Int) ∧ 54 + 3 = 57 := ⟨rfl, rfl, rfl⟩
theorem xc88_57 : pmCode 88 57 = some (.iconst 1) ∧ 57 + 1 = 58 := ⟨rfl, rfl⟩
theorem xc88_58 : pmCode 88 58 = some (.goto 4) ∧ ((58 : Nat) : Int) + 4 = ((62 : Nat) : Int) := ⟨rfl, rfl⟩
theorem xc88_61 : pmCode 88 61 = some (.iconst 0) ∧ 61 + 1 = 62 := ⟨rfl, rfl⟩
theorem xc88_62 : pmCode 88 62 = some (.istore_n 3) ∧ 62 + 1 = 63 := ⟨rfl, rfl⟩
theorem xc88_63 : pmCode 88 63 = some (.iload_n 0) ∧ 63 + 1 = 64 := ⟨rfl, rfl⟩
theorem xc88_64 : pmCode 88 64 = some (.iconst 4) ∧ 64 + 1 = 65 := ⟨rfl, rfl⟩
theorem xc88_65 : pmCode 88 65 = some (.if_icmp .eq 9) ∧ ((65 : Nat) : Int) + 9 = ((74 : Nat) : Int) ∧ 65 + 3 = 68 := ⟨rfl, rfl, rfl⟩
theorem xc88_68 : pmCode 88 68 = some (.iload_n 0) ∧ 68 + 1 = 69 := ⟨rfl, rfl⟩
theorem xc88_69 : pmCode 88 69 = some (.bipush 6) ∧ 69 + 2 = 71 := ⟨rfl, rfl⟩
theorem xc88_71 : pmCode 88 71 = some (.if_icmp .ne 10) ∧ ((71 : Nat) : Int) + 10 = ((81 : Nat) : Int) ∧ 71 + 3 = 74 := ⟨rfl, rfl, rfl⟩
theorem xc88_74 : pmCode 88 74 = some (.iload_n 2) ∧ 74 + 1 = 75 := ⟨rfl, rfl⟩
theorem xc88_75 : pmCode 88 75 = some (.invokestatic 113) ∧ 75 + 3 = 78 := ⟨rfl, rfl⟩
theorem xc88_78 : pmCode 88 78 = some (.goto 13) ∧ ((78 : Nat) : Int) + 13 = ((91 : Nat) : Int) := ⟨rfl, rfl⟩
theorem xc88_81 : pmCode 88 81 = some (.iload_n 2) ∧ 81 + 1 = 82 := ⟨rfl, rfl⟩
theorem xc88_82 : pmCode 88 82 = some (.iconst (-1)) ∧ 82 + 1 = 83 := ⟨rfl, rfl⟩
theorem xc88_83 : pmCode 88 83 = some (.if_icmp .ne 7) ∧ ((83 : Nat) : Int) + 7 = ((90 : Nat) : Int) ∧ 83 + 3 = 86 := ⟨rfl, rfl, rfl⟩
theorem xc88_86 : pmCode 88 86 = some (.iconst 1) ∧ 86 + 1 = 87 := ⟨rfl, rfl⟩
theorem xc88_87 : pmCode 88 87 = some (.goto 4) ∧ ((87 : Nat) : Int) + 4 = ((91 : Nat) : Int) := ⟨rfl, rfl⟩
theorem xc88_90 : pmCode 88 90 = some (.iconst 0) ∧ 90 + 1 = 91 := ⟨rfl, rfl⟩
theorem xc88_91 : pmCode 88 91 = some (.istore 4) ∧ 91 + 2 = 93 := ⟨rfl, rfl⟩
theorem xc88_93 : pmCode 88 93 = some (.iload_n 3) ∧ 93 + 1 = 94 := ⟨rfl, rfl⟩
theorem xc88_94 : pmCode 88 94 = some (.ifCond .eq 25) ∧ ((94 : Nat) : Int) + 25 = ((119 : Nat) : Int) ∧ 94 + 3 = 97 := ⟨rfl, rfl, rfl⟩
theorem xc88_97 : pmCode 88 97 = some (.iload 4) ∧ 97 + 2 = 99 := ⟨rfl, rfl⟩
theorem xc88_99 : pmCode 88 99 = some (.ifCond .eq 20) ∧ ((99 : Nat) : Int) + 20 = ((119 : Nat) : Int) ∧ 99 + 3 = 102 := ⟨rfl, rfl, rfl⟩
theorem xc88_102 : pmCode 88 102 = some (.iload_n 0) ∧ 102 + 1 = 103 := ⟨rfl, rfl⟩
theorem xc88_103 : pmCode 88 103 = some (.bipush 6) ∧ 103 + 2 = 105 := ⟨rfl, rfl⟩
theorem xc88_105 : pmCode 88 105 = some .ishl ∧ 105 + 1 = 106 := ⟨rfl, rfl⟩
theorem xc88_106 : pmCode 88 106 = some (.iload_n 1) ∧ 106 + 1 = 107 := ⟨rfl, rfl⟩
theorem xc88_107 : pmCode 88 107 = some (.iconst 1) ∧ 107 + 1 = 108 := ⟨rfl, rfl⟩
theorem xc88_108 : pmCode 88 108 = some .iadd ∧ 108 + 1 = 109 := ⟨rfl, rfl⟩
theorem xc88_109 : pmCode 88 109 = some (.iconst 3) ∧ 109 + 1 = 110 := ⟨rfl, rfl⟩
theorem xc88_110 : pmCode 88 110 = some .ishl ∧ 110 + 1 = 111 := ⟨rfl, rfl⟩
theorem xc88_111 : pmCode 88 111 = some .ior ∧ 111 + 1 = 112 := ⟨rfl, rfl⟩
theorem xc88_112 : pmCode 88 112 = some (.iload_n 2) ∧ 112 + 1 = 113 := ⟨rfl, rfl⟩
theorem xc88_113 : pmCode 88 113 = some (.iconst 1) ∧ 113 + 1 = 114 := ⟨rfl, rfl⟩
theorem xc88_114 : pmCode 88 114 = some .iadd ∧ 114 + 1 = 115 := ⟨rfl, rfl⟩
theorem xc88_115 : pmCode 88 115 = some .ior ∧ 115 + 1 = 116 := ⟨rfl, rfl⟩
theorem xc88_116 : pmCode 88 116 = some (.goto 4) ∧ ((116 : Nat) : Int) + 4 = ((120 : Nat) : Int) := ⟨rfl, rfl⟩
theorem xc88_119 : pmCode 88 119 = some (.iconst (-1)) ∧ 119 + 1 = 120 := ⟨rfl, rfl⟩
theorem xc88_120 : pmCode 88 120 = some .ireturn := rfl
theorem xc99_0 : pmCode 99 0 = some (.iload_n 1) ∧ 0 + 1 = 1 := ⟨rfl, rfl⟩
theorem xc99_1 : pmCode 99 1 = some (.iconst 1) ∧ 1 + 1 = 2 := ⟨rfl, rfl⟩
theorem xc99_2 : pmCode 99 2 = some (.if_icmp .lt 33) ∧ ((2 : Nat) : Int) + 33 = ((35 : Nat) : Int) ∧ 2 + 3 = 5 := ⟨rfl, rfl, rfl⟩
theorem xc99_5 : pmCode 99 5 = some (.iload_n 1) ∧ 5 + 1 = 6 := ⟨rfl, rfl⟩
theorem xc99_6 : pmCode 99 6 = some (.bipush 60) ∧ 6 + 2 = 8 := ⟨rfl, rfl⟩
theorem xc99_8 : pmCode 99 8 = some (.if_icmp .gt 27) ∧ ((8 : Nat) : Int) + 27 = ((35 : Nat) : Int) ∧ 8 + 3 = 11 := ⟨rfl, rfl, rfl⟩
theorem xc99_11 : pmCode 99 11 = some (.aload_n 0) ∧ 11 + 1 = 12 := ⟨rfl, rfl⟩
theorem xc99_12 : pmCode 99 12 = some (.iload_n 1) ∧ 12 + 1 = 13 := ⟨rfl, rfl⟩
theorem xc99_13 : pmCode 99 13 = some (.putfield 41) ∧ 13 + 3 = 16 := ⟨rfl, rfl⟩
theorem xc99_16 : pmCode 99 16 = some (.aload_n 0) ∧ 16 + 1 = 17 := ⟨rfl, rfl⟩
theorem xc99_17 : pmCode 99 17 = some (.getfield 29) ∧ 17 + 3 = 20 := ⟨rfl, rfl⟩
theorem xc99_20 : pmCode 99 20 = some (.getfield 45) ∧ 20 + 3 = 23 := ⟨rfl, rfl⟩
theorem xc99_23 : pmCode 99 23 = some (.iconst 0) ∧ 23 + 1 = 24 := ⟨rfl, rfl⟩
theorem xc99_24 : pmCode 99 24 = some (.aload_n 0) ∧ 24 + 1 = 25 := ⟨rfl, rfl⟩
theorem xc99_25 : pmCode 99 25 = some (.getfield 18) ∧ 25 + 3 = 28 := ⟨rfl, rfl⟩
theorem xc99_28 : pmCode 99 28 = some (.iload_n 1) ∧ 28 + 1 = 29 := ⟨rfl, rfl⟩
theorem xc99_29 : pmCode 99 29 = some (.iconst 4) ∧ 29 + 1 = 30 := ⟨rfl, rfl⟩
theorem xc99_30 : pmCode 99 30 = some .imul ∧ 30 + 1 = 31 := ⟨rfl, rfl⟩
theorem xc99_31 : pmCode 99 31 = some (.iconst 4) ∧ 31 + 1 = 32 := ⟨rfl, rfl⟩
theorem xc99_32 : pmCode 99 32 = some (.invokestatic 48) ∧ 32 + 3 = 35 := ⟨rfl, rfl⟩
theorem xc99_35 : pmCode 99 35 = some .return_ := rfl
theorem xc204_7 : pmCode 204 7 = some (.aload_n 0) ∧ 7 + 1 = 8 := ⟨rfl, rfl⟩
theorem xc204_8 : pmCode 204 8 = some (.getfield 7) ∧ 8 + 3 = 11 := ⟨rfl, rfl⟩
theorem xc204_11 : pmCode 204 11 = some (.bipush 114) ∧ 11 + 2 = 13 := ⟨rfl, rfl⟩
theorem xc204_13 : pmCode 204 13 = some .iaload ∧ 13 + 1 = 14 := ⟨rfl, rfl⟩
theorem xc204_14 : pmCode 204 14 = some (.bipush 60) ∧ 14 + 2 = 16 := ⟨rfl, rfl⟩
theorem xc204_16 : pmCode 204 16 = some (.if_icmp .lt 5) ∧ ((16 : Nat) : Int) + 5 = ((21 : Nat) : Int) ∧ 16 + 3 = 19 := ⟨rfl, rfl, rfl⟩
theorem xc204_21 : pmCode 204 21 = some (.iload_n 1) ∧ 21 + 1 = 22 := ⟨rfl, rfl⟩
theorem xc204_22 : pmCode 204 22 = some (.ifCond .ne 7) ∧ ((22 : Nat) : Int) + 7 = ((29 : Nat) : Int) ∧ 22 + 3 = 25 := ⟨rfl, rfl, rfl⟩
theorem xc204_25 : pmCode 204 25 = some (.iconst (-1)) ∧ 25 + 1 = 26 := ⟨rfl, rfl⟩
theorem xc204_26 : pmCode 204 26 = some (.goto 9) ∧ ((26 : Nat) : Int) + 9 = ((35 : Nat) : Int) := ⟨rfl, rfl⟩
theorem xc204_29 : pmCode 204 29 = some (.iload_n 1) ∧ 29 + 1 = 30 := ⟨rfl, rfl⟩
theorem xc204_30 : pmCode 204 30 = some (.iload_n 2) ∧ 30 + 1 = 31 := ⟨rfl, rfl⟩
theorem xc204_31 : pmCode 204 31 = some (.iload_n 3) ∧ 31 + 1 = 32 := ⟨rfl, rfl⟩
theorem xc204_32 : pmCode 204 32 = some (.invokestatic 373) ∧ 32 + 3 = 35 := ⟨rfl, rfl⟩
theorem xc204_35 : pmCode 204 35 = some (.istore 4) ∧ 35 + 2 = 37 := ⟨rfl, rfl⟩
theorem xc204_37 : pmCode 204 37 = some (.iload_n 1) ∧ 37 + 1 = 38 := ⟨rfl, rfl⟩
theorem xc204_38 : pmCode 204 38 = some (.ifCond .ne 21) ∧ ((38 : Nat) : Int) + 21 = ((59 : Nat) : Int) ∧ 38 + 3 = 41 := ⟨rfl, rfl, rfl⟩
theorem xc204_41 : pmCode 204 41 = some (.iload_n 2) ∧ 41 + 1 = 42 := ⟨rfl, rfl⟩
theorem xc204_42 : pmCode 204 42 = some (.iconst (-1)) ∧ 42 + 1 = 43 := ⟨rfl, rfl⟩
theorem xc204_43 : pmCode 204 43 = some (.if_icmp .ne 12) ∧ ((43 : Nat) : Int) + 12 = ((55 : Nat) : Int) ∧ 43 + 3 = 46 := ⟨rfl, rfl, rfl⟩
theorem xc204_46 : pmCode 204 46 = some (.iload_n 3) ∧ 46 + 1 = 47 := ⟨rfl, rfl⟩
theorem xc204_47 : pmCode 204 47 = some (.iconst (-1)) ∧ 47 + 1 = 48 := ⟨rfl, rfl⟩
theorem xc204_48 : pmCode 204 48 = some (.if_icmp .ne 7) ∧ ((48 : Nat) : Int) + 7 = ((55 : Nat) : Int) ∧ 48 + 3 = 51 := ⟨rfl, rfl, rfl⟩
theorem xc204_51 : pmCode 204 51 = some (.iconst 1) ∧ 51 + 1 = 52 := ⟨rfl, rfl⟩
theorem xc204_52 : pmCode 204 52 = some (.goto 28) ∧ ((52 : Nat) : Int) + 28 = ((80 : Nat) : Int) := ⟨rfl, rfl⟩
theorem xc204_55 : pmCode 204 55 = some (.iconst 0) ∧ 55 + 1 = 56 := ⟨rfl, rfl⟩
theorem xc204_56 : pmCode 204 56 = some (.goto 24) ∧ ((56 : Nat) : Int) + 24 = ((80 : Nat) : Int) := ⟨rfl, rfl⟩
theorem xc204_59 : pmCode 204 59 = some (.iload 4) ∧ 59 + 2 = 61 := ⟨rfl, rfl⟩
theorem xc204_61 : pmCode 204 61 = some (.iconst (-1)) ∧ 61 + 1 = 62 := ⟨rfl, rfl⟩
theorem xc204_62 : pmCode 204 62 = some (.if_icmp .eq 17) ∧ ((62 : Nat) : Int) + 17 = ((79 : Nat) : Int) ∧ 62 + 3 = 65 := ⟨rfl, rfl, rfl⟩
theorem xc204_65 : pmCode 204 65 = some (.aload_n 0) ∧ 65 + 1 = 66 := ⟨rfl, rfl⟩
theorem xc204_66 : pmCode 204 66 = some (.iconst 0) ∧ 66 + 1 = 67 := ⟨rfl, rfl⟩
theorem xc204_67 : pmCode 204 67 = some (.iload 4) ∧ 67 + 2 = 69 := ⟨rfl, rfl⟩
theorem xc204_69 : pmCode 204 69 = some (.invokevirtual 377) ∧ 69 + 3 = 72 := ⟨rfl, rfl⟩
theorem xc204_72 : pmCode 204 72 = some (.ifCond .eq 7) ∧ ((72 : Nat) : Int) + 7 = ((79 : Nat) : Int) ∧ 72 + 3 = 75 := ⟨rfl, rfl, rfl⟩
theorem xc204_75 : pmCode 204 75 = some (.iconst 1) ∧ 75 + 1 = 76 := ⟨rfl, rfl⟩
theorem xc204_76 : pmCode 204 76 = some (.goto 4) ∧ ((76 : Nat) : Int) + 4 = ((80 : Nat) : Int) := ⟨rfl, rfl⟩
theorem xc204_79 : pmCode 204 79 = some (.iconst 0) ∧ 79 + 1 = 80 := ⟨rfl, rfl⟩
theorem xc204_80 : pmCode 204 80 = some (.istore 5) ∧ 80 + 2 = 82 := ⟨rfl, rfl⟩
theorem xc204_82 : pmCode 204 82 = some (.iload 5) ∧ 82 + 2 = 84 := ⟨rfl, rfl⟩
theorem xc204_84 : pmCode 204 84 = some (.ifCond .ne 6) ∧ ((84 : Nat) : Int) + 6 = ((90 : Nat) : Int) ∧ 84 + 3 = 87 := ⟨rfl, rfl, rfl⟩
theorem xc204_87 : pmCode 204 87 = some (.bipush (-2)) ∧ 87 + 2 = 89 := ⟨rfl, rfl⟩
theorem xc204_89 : pmCode 204 89 = some .ireturn := rfl
theorem xc204_90 : pmCode 204 90 = some (.aload_n 0) ∧ 90 + 1 = 91 := ⟨rfl, rfl⟩
theorem xc204_91 : pmCode 204 91 = some (.iload 4) ∧ 91 + 2 = 93 := ⟨rfl, rfl⟩
theorem xc204_93 : pmCode 204 93 = some (.iconst (-1)) ∧ 93 + 1 = 94 := ⟨rfl, rfl⟩
theorem xc204_94 : pmCode 204 94 = some (.invokevirtual 380) ∧ 94 + 3 = 97 := ⟨rfl, rfl⟩
theorem xc204_97 : pmCode 204 97 = some (.aload_n 0) ∧ 97 + 1 = 98 := ⟨rfl, rfl⟩
theorem xc204_98 : pmCode 204 98 = some (.getfield 7) ∧ 98 + 3 = 101 := ⟨rfl, rfl⟩
theorem xc204_101 : pmCode 204 101 = some (.bipush 114) ∧ 101 + 2 = 103 := ⟨rfl, rfl⟩
theorem xc204_103 : pmCode 204 103 = some .iaload ∧ 103 + 1 = 104 := ⟨rfl, rfl⟩
theorem xc204_104 : pmCode 204 104 = some (.istore 6) ∧ 104 + 2 = 106 := ⟨rfl, rfl⟩
theorem xc204_106 : pmCode 204 106 = some (.aload_n 0) ∧ 106 + 1 = 107 := ⟨rfl, rfl⟩
theorem xc204_107 : pmCode 204 107 = some (.getfield 118) ∧ 107 + 3 = 110 := ⟨rfl, rfl⟩
theorem xc204_110 : pmCode 204 110 = some (.iload 6) ∧ 110 + 2 = 112 := ⟨rfl, rfl⟩
theorem xc204_112 : pmCode 204 112 = some (.iconst 0) ∧ 112 + 1 = 113 := ⟨rfl, rfl⟩
theorem xc204_113 : pmCode 204 113 = some .iastore ∧ 113 + 1 = 114 := ⟨rfl, rfl⟩
theorem xc204_114 : pmCode 204 114 = some (.iconst 0) ∧ 114 + 1 = 115 := ⟨rfl, rfl⟩
theorem xc204_115 : pmCode 204 115 = some (.istore 7) ∧ 115 + 2 = 117 := ⟨rfl, rfl⟩
theorem xc204_117 : pmCode 204 117 = some (.iload 7) ∧ 117 + 2 = 119 := ⟨rfl, rfl⟩
theorem xc204_119 : pmCode 204 119 = some (.iconst 4) ∧ 119 + 1 = 120 := ⟨rfl, rfl⟩
theorem xc204_120 : pmCode 204 120 = some (.if_icmp .ge 85) ∧ ((120 : Nat) : Int) + 85 = ((205 : Nat) : Int) ∧ 120 + 3 = 123 := ⟨rfl, rfl, rfl⟩
theorem xc204_123 : pmCode 204 123 = some (.aload_n 0) ∧ 123 + 1 = 124 := ⟨rfl, rfl⟩
theorem xc204_124 : pmCode 204 124 = some (.getfield 121) ∧ 124 + 3 = 127 := ⟨rfl, rfl⟩
theorem xc204_127 : pmCode 204 127 = some (.iconst 4) ∧ 127 + 1 = 128 := ⟨rfl, rfl⟩
theorem xc204_128 : pmCode 204 128 = some (.iload 6) ∧ 128 + 2 = 130 := ⟨rfl, rfl⟩
theorem xc204_130 : pmCode 204 130 = some .imul ∧ 130 + 1 = 131 := ⟨rfl, rfl⟩
theorem xc204_131 : pmCode 204 131 = some (.iload 7) ∧ 131 + 2 = 133 := ⟨rfl, rfl⟩
theorem xc204_133 : pmCode 204 133 = some .iadd ∧ 133 + 1 = 134 := ⟨rfl, rfl⟩
theorem xc204_134 : pmCode 204 134 = some (.aload_n 0) ∧ 134 + 1 = 135 := ⟨rfl, rfl⟩
theorem xc204_135 : pmCode 204 135 = some (.getfield 106) ∧ 135 + 3 = 138 := ⟨rfl, rfl⟩
theorem xc204_138 : pmCode 204 138 = some (.iload 7) ∧ 138 + 2 = 140 := ⟨rfl, rfl⟩
theorem xc204_140 : pmCode 204 140 = some .baload ∧ 140 + 1 = 141 := ⟨rfl, rfl⟩
theorem xc204_141 : pmCode 204 141 = some .bastore ∧ 141 + 1 = 142 := ⟨rfl, rfl⟩
theorem xc204_142 : pmCode 204 142 = some (.aload_n 0) ∧ 142 + 1 = 143 := ⟨rfl, rfl⟩
theorem xc204_143 : pmCode 204 143 = some (.getfield 109) ∧ 143 + 3 = 146 := ⟨rfl, rfl⟩
theorem xc204_146 : pmCode 204 146 = some (.iconst 4) ∧ 146 + 1 = 147 := ⟨rfl, rfl⟩
theorem xc204_147 : pmCode 204 147 = some (.iload 6) ∧ 147 + 2 = 149 := ⟨rfl, rfl⟩
theorem xc204_149 : pmCode 204 149 = some .imul ∧ 149 + 1 = 150 := ⟨rfl, rfl⟩
theorem xc204_150 : pmCode 204 150 = some (.iload 7) ∧ 150 + 2 = 152 := ⟨rfl, rfl⟩
theorem xc204_152 : pmCode 204 152 = some .iadd ∧ 152 + 1 = 153 := ⟨rfl, rfl⟩
theorem xc204_153 : pmCode 204 153 = some (.aload_n 0) ∧ 153 + 1 = 154 := ⟨rfl, rfl⟩
theorem xc204_154 : pmCode 204 154 = some (.getfield 97) ∧ 154 + 3 = 157 := ⟨rfl, rfl⟩
theorem xc204_157 : pmCode 204 157 = some (.iload 7) ∧ 157 + 2 = 159 := ⟨rfl, rfl⟩
theorem xc204_159 : pmCode 204 159 = some .iaload ∧ 159 + 1 = 160 := ⟨rfl, rfl⟩
theorem xc204_160 : pmCode 204 160 = some .iastore ∧ 160 + 1 = 161 := ⟨rfl, rfl⟩
theorem xc204_161 : pmCode 204 161 = some (.aload_n 0) ∧ 161 + 1 = 162 := ⟨rfl, rfl⟩
theorem xc204_162 : pmCode 204 162 = some (.getfield 112) ∧ 162 + 3 = 165 := ⟨rfl, rfl⟩
theorem xc204_165 : pmCode 204 165 = some (.iconst 4) ∧ 165 + 1 = 166 := ⟨rfl, rfl⟩
theorem xc204_166 : pmCode 204 166 = some (.iload 6) ∧ 166 + 2 = 168 := ⟨rfl, rfl⟩
theorem xc204_168 : pmCode 204 168 = some .imul ∧ 168 + 1 = 169 := ⟨rfl, rfl⟩
theorem xc204_169 : pmCode 204 169 = some (.iload 7) ∧ 169 + 2 = 171 := ⟨rfl, rfl⟩
theorem xc204_171 : pmCode 204 171 = some .iadd ∧ 171 + 1 = 172 := ⟨rfl, rfl⟩
theorem xc204_172 : pmCode 204 172 = some (.aload_n 0) ∧ 172 + 1 = 173 := ⟨rfl, rfl⟩
theorem xc204_173 : pmCode 204 173 = some (.getfield 100) ∧ 173 + 3 = 176 := ⟨rfl, rfl⟩
theorem xc204_176 : pmCode 204 176 = some (.iload 7) ∧ 176 + 2 = 178 := ⟨rfl, rfl⟩
theorem xc204_178 : pmCode 204 178 = some .iaload ∧ 178 + 1 = 179 := ⟨rfl, rfl⟩
theorem xc204_179 : pmCode 204 179 = some .iastore ∧ 179 + 1 = 180 := ⟨rfl, rfl⟩
theorem xc204_180 : pmCode 204 180 = some (.aload_n 0) ∧ 180 + 1 = 181 := ⟨rfl, rfl⟩
theorem xc204_181 : pmCode 204 181 = some (.getfield 115) ∧ 181 + 3 = 184 := ⟨rfl, rfl⟩
theorem xc204_184 : pmCode 204 184 = some (.iconst 4) ∧ 184 + 1 = 185 := ⟨rfl, rfl⟩
theorem xc204_185 : pmCode 204 185 = some (.iload 6) ∧ 185 + 2 = 187 := ⟨rfl, rfl⟩
theorem xc204_187 : pmCode 204 187 = some .imul ∧ 187 + 1 = 188 := ⟨rfl, rfl⟩
theorem xc204_188 : pmCode 204 188 = some (.iload 7) ∧ 188 + 2 = 190 := ⟨rfl, rfl⟩
theorem xc204_190 : pmCode 204 190 = some .iadd ∧ 190 + 1 = 191 := ⟨rfl, rfl⟩
theorem xc204_191 : pmCode 204 191 = some (.aload_n 0) ∧ 191 + 1 = 192 := ⟨rfl, rfl⟩
theorem xc204_192 : pmCode 204 192 = some (.getfield 103) ∧ 192 + 3 = 195 := ⟨rfl, rfl⟩
theorem xc204_195 : pmCode 204 195 = some (.iload 7) ∧ 195 + 2 = 197 := ⟨rfl, rfl⟩
theorem xc204_197 : pmCode 204 197 = some .iaload ∧ 197 + 1 = 198 := ⟨rfl, rfl⟩
theorem xc204_198 : pmCode 204 198 = some .iastore ∧ 198 + 1 = 199 := ⟨rfl, rfl⟩
theorem xc204_199 : pmCode 204 199 = some (.iinc 7 1) ∧ 199 + 3 = 202 := ⟨rfl, rfl⟩
theorem xc204_202 : pmCode 204 202 = some (.goto (-85)) ∧ ((202 : Nat) : Int) + (-85) = ((117 : Nat) : Int) := ⟨rfl, rfl⟩
theorem xc204_205 : pmCode 204 205 = some (.iload 6) ∧ 205 + 2 = 207 := ⟨rfl, rfl⟩
theorem xc204_207 : pmCode 204 207 = some .ireturn := rfl
theorem xc205_2 : pmCode 205 2 = some (.iload_n 3) ∧ 2 + 1 = 3 := ⟨rfl, rfl⟩
theorem xc205_3 : pmCode 205 3 = some (.bipush 61) ∧ 3 + 2 = 5 := ⟨rfl, rfl⟩
theorem xc205_5 : pmCode 205 5 = some (.if_icmp .ge 35) ∧ ((5 : Nat) : Int) + 35 = ((40 : Nat) : Int) ∧ 5 + 3 = 8 := ⟨rfl, rfl, rfl⟩
theorem xc205_8 : pmCode 205 8 = some (.iload_n 3) ∧ 8 + 1 = 9 := ⟨rfl, rfl⟩
theorem xc205_9 : pmCode 205 9 = some (.invokestatic 279) ∧ 9 + 3 = 12 := ⟨rfl, rfl⟩
theorem xc205_12 : pmCode 205 12 = some (.iload_n 0) ∧ 12 + 1 = 13 := ⟨rfl, rfl⟩
theorem xc205_13 : pmCode 205 13 = some (.if_icmp .ne 21) ∧ ((13 : Nat) : Int) + 21 = ((34 : Nat) : Int) ∧ 13 + 3 = 16 := ⟨rfl, rfl, rfl⟩
theorem xc205_16 : pmCode 205 16 = some (.iload_n 3) ∧ 16 + 1 = 17 := ⟨rfl, rfl⟩
theorem xc205_17 : pmCode 205 17 = some (.invokestatic 276) ∧ 17 + 3 = 20 := ⟨rfl, rfl⟩
theorem xc205_20 : pmCode 205 20 = some (.iload_n 1) ∧ 20 + 1 = 21 := ⟨rfl, rfl⟩
theorem xc205_21 : pmCode 205 21 = some (.if_icmp .ne 13) ∧ ((21 : Nat) : Int) + 13 = ((34 : Nat) : Int) ∧ 21 + 3 = 24 := ⟨rfl, rfl, rfl⟩
theorem xc205_24 : pmCode 205 24 = some (.iload_n 3) ∧ 24 + 1 = 25 := ⟨rfl, rfl⟩
theorem xc205_25 : pmCode 205 25 = some (.invokestatic 282) ∧ 25 + 3 = 28 := ⟨rfl, rfl⟩
theorem xc205_28 : pmCode 205 28 = some (.iload_n 2) ∧ 28 + 1 = 29 := ⟨rfl, rfl⟩
theorem xc205_29 : pmCode 205 29 = some (.if_icmp .ne 5) ∧ ((29 : Nat) : Int) + 5 = ((34 : Nat) : Int) ∧ 29 + 3 = 32 := ⟨rfl, rfl, rfl⟩
theorem xc205_32 : pmCode 205 32 = some (.iload_n 3) ∧ 32 + 1 = 33 := ⟨rfl, rfl⟩
theorem xc205_33 : pmCode 205 33 = some .ireturn := rfl
theorem xc205_34 : pmCode 205 34 = some (.iinc 3 1) ∧ 34 + 3 = 37 := ⟨rfl, rfl⟩
theorem xc205_37 : pmCode 205 37 = some (.goto (-35)) ∧ ((37 : Nat) : Int) + (-35) = ((2 : Nat) : Int) := ⟨rfl, rfl⟩
theorem xc205_40 : pmCode 205 40 = some (.iconst (-1)) ∧ 40 + 1 = 41 := ⟨rfl, rfl⟩
theorem xc205_41 : pmCode 205 41 = some .ireturn := rfl
theorem w205k {ro : Nat → Nat × (Nat → Int32)} {d : Nat} {Q : Option Value → pmS → Prop} {kk x y k : Int} {a : xA} {b : xB} (qr1 : xR kk) (qr2 : xR x) (qr3 : xR y) (hk : 0 ≤ k ∧ k ≤ 61) (hkk : 0 ≤ uK k ∧ uK k ≤ 6) (hxk : -1 ≤ uX k ∧ uX k ≤ 6) (hyk : -1 ≤ uY k ∧ uY k ≤ 3) (hd : 1 ≤ d)
    (k1 : (61 ≤ k) → Q (some (xV (-1))) (xS a b))
    (k2 : (¬ 61 ≤ k) → (¬ uK k = kk) → pmWp ro d 12 205 1 2 [some (xV kk), some (xV x), some (xV y), some (xV (k + 1))] [] (xS a b) Q)
    (k3 : (¬ 61 ≤ k) → (uK k = kk) → (¬ uX k = x) → pmWp ro d 12 205 1 2 [some (xV kk), some (xV x), some (xV y), some (xV (k + 1))] [] (xS a b) Q)
    (k4 : (¬ 61 ≤ k) → (uK k = kk) → (uX k = x) → (¬ uY k = y) → pmWp ro d 12 205 1 2 [some (xV kk), some (xV x), some (xV y), some (xV (k + 1))] [] (xS a b) Q)
    (k5 : (¬ 61 ≤ k) → (uK k = kk) → (uX k = x) → (uY k = y) → Q (some (xV k)) (xS a b)) :
    pmWp ro d 12 205 1 2 [some (xV kk), some (xV x), some (xV y), some (xV k)] [] (xS a b) Q := by
  refine x_iloadn xc205_2 rfl ?_
  refine x_bipush xc205_3 (by decide) ?_
  refine x_icge xc205_5 (xRk (by have g0 := hk; omega)) (xRk (by decide)) (fun h0 => ?_) (fun h0 => ?_)
  · refine x_iconst xc205_40 ?_
    refine x_iret xc205_41 (Or.inl rfl) ?_
    exact k1 h0
  · refine x_iloadn xc205_8 rfl ?_
    refine x_cS (as := [xV k]) (rest := []) xc205_9 rfl rfl xi193 ⟨rfl, rfl⟩ rfl rfl ?_
    refine rk193 (by omega) ⟨by omega, by omega⟩ ?_
    refine x_iloadn xc205_12 rfl ?_
    refine x_icne xc205_13 (xRk (by have g0 := hkk; omega)) (xRk (by have g0 := xRb qr1; omega)) (fun h1 => ?_) (fun h1 => ?_)
    · refine x_iinc (pl' := [some (xV kk), some (xV x), some (xV y), some (xV (k + 1))]) xc205_34 rfl rfl ?_
      refine x_goto xc205_37 ?_
      exact k2 h0 h1
    · replace h1 := Classical.not_not.mp h1
      refine x_iloadn xc205_16 rfl ?_
      refine x_cS (as := [xV k]) (rest := []) xc205_17 rfl rfl xi192 ⟨rfl, rfl⟩ rfl rfl ?_
      refine rk192 (by omega) ⟨by omega, by omega⟩ ?_
      refine x_iloadn xc205_20 rfl ?_
      refine x_icne xc205_21 (xRk (by have g0 := hxk; omega)) (xRk (by have g0 := xRb qr2; omega)) (fun h2 => ?_) (fun h2 => ?_)
      · refine x_iinc (pl' := [some (xV kk), some (xV x), some (xV y), some (xV (k + 1))]) xc205_34 rfl rfl ?_
        refine x_goto xc205_37 ?_
        exact k3 h0 h1 h2
      · replace h2 := Classical.not_not.mp h2
        refine x_iloadn xc205_24 rfl ?_
        refine x_cS (as := [xV k]) (rest := []) xc205_25 rfl rfl xi194 ⟨rfl, rfl⟩ rfl rfl ?_
        refine rk194 (by omega) ⟨by omega, by omega⟩ ?_
        refine x_iloadn xc205_28 rfl ?_
        refine x_icne xc205_29 (xRk (by have g0 := hyk; omega)) (xRk (by have g0 := xRb qr3; omega)) (fun h3 => ?_) (fun h3 => ?_)
        · refine x_iinc (pl' := [some (xV kk), some (xV x), some (xV y), some (xV (k + 1))]) xc205_34 rfl rfl ?_
          refine x_goto xc205_37 ?_
          exact k4 h0 h1 h2 h3
        · replace h3 := Classical.not_not.mp h3
          refine x_iloadn xc205_32 rfl ?_
          refine x_iret xc205_33 (Or.inl rfl) ?_
          exact k5 h0 h1 h2 h3

theorem w88 {ro : Nat → Nat × (Nat → Int32)} {d : Nat} {Q : Option Value → pmS → Prop} {kk x y : Int} {a : xA} {b : xB} (qr1 : xR kk) (qr2 : xR x) (qr3 : xR y) (hd : 1 ≤ d)
    (k1 : (kk < 0) → Q (some (xV (-1))) (xS a b))
    (k2 : (¬ kk < 0) → (kk ≤ 6) → (¬ kk = 0) → (x < 0) → pmWp ro d 11 88 1 63 [some (xV kk), some (xV x), some (xV y), some (xV 0), none] [] (xS a b) Q)
    (k3 : (¬ kk < 0) → (kk ≤ 6) → (¬ kk = 0) → (¬ x < 0) → (¬ kk = 1) → (¬ kk = 5) → (5 ≤ x) → pmWp ro d 11 88 1 63 [some (xV kk), some (xV x), some (xV y), some (xV 0), none] [] (xS a b) Q)
    (k4 : (¬ kk < 0) → (kk ≤ 6) → (¬ kk = 0) → (¬ x < 0) → (¬ kk = 1) → (¬ kk = 5) → (¬ 5 ≤ x) → pmWp ro d 11 88 1 63 [some (xV kk), some (xV x), some (xV y), some (xV 1), none] [] (xS a b) Q)
    (k5 : (¬ kk < 0) → (kk ≤ 6) → (¬ kk = 0) → (¬ x < 0) → (¬ kk = 1) → (kk = 5) → (4 ≤ x) → pmWp ro d 11 88 1 63 [some (xV kk), some (xV x), some (xV y), some (xV 0), none] [] (xS a b) Q)
    (k6 : (¬ kk < 0) → (kk ≤ 6) → (¬ kk = 0) → (¬ x < 0) → (¬ kk = 1) → (kk = 5) → (¬ 4 ≤ x) → pmWp ro d 11 88 1 63 [some (xV kk), some (xV x), some (xV y), some (xV 1), none] [] (xS a b) Q)
    (k7 : (¬ kk < 0) → (kk ≤ 6) → (¬ kk = 0) → (¬ x < 0) → (kk = 1) → (7 ≤ x) → pmWp ro d 11 88 1 63 [some (xV kk), some (xV x), some (xV y), some (xV 0), none] [] (xS a b) Q)
    (k8 : (¬ kk < 0) → (kk ≤ 6) → (¬ kk = 0) → (¬ x < 0) → (kk = 1) → (¬ 7 ≤ x) → pmWp ro d 11 88 1 63 [some (xV kk), some (xV x), some (xV y), some (xV 1), none] [] (xS a b) Q)
    (k9 : (¬ kk < 0) → (kk ≤ 6) → (kk = 0) → (¬ x = -1) → pmWp ro d 11 88 1 63 [some (xV kk), some (xV x), some (xV y), some (xV 0), none] [] (xS a b) Q)
    (k10 : (¬ kk < 0) → (kk ≤ 6) → (kk = 0) → (x = -1) → pmWp ro d 11 88 1 63 [some (xV kk), some (xV x), some (xV y), some (xV 1), none] [] (xS a b) Q)
    (k11 : (¬ kk < 0) → (¬ kk ≤ 6) → Q (some (xV (-1))) (xS a b)) :
    pmWp ro d 11 88 1 0 [some (xV kk), some (xV x), some (xV y), none, none] [] (xS a b) Q := by
  refine x_iloadn xc88_0 rfl ?_
  refine x_iflt xc88_1 (xRk (by have g0 := xRb qr1; omega)) (fun h0 => ?_) (fun h0 => ?_)
  · refine x_iconst xc88_10 ?_
    refine x_iret xc88_11 (Or.inl rfl) ?_
    exact k1 h0
  · refine x_iloadn xc88_4 rfl ?_
    refine x_bipush xc88_5 (by decide) ?_
    refine x_icle xc88_7 (xRk (by have g0 := xRb qr1; omega)) (xRk (by decide)) (fun h1 => ?_) (fun h1 => ?_)
    · refine x_iloadn xc88_12 rfl ?_
      refine x_ifne xc88_13 (xRk (by have g0 := xRb qr1; omega)) (fun h2 => ?_) (fun h2 => ?_)
      · refine x_iloadn xc88_29 rfl ?_
        refine x_iflt xc88_30 (xRk (by have g0 := xRb qr2; omega)) (fun h3 => ?_) (fun h3 => ?_)
        · refine x_iconst xc88_61 ?_
          refine x_istoren (pl' := [some (xV kk), some (xV x), some (xV y), some (xV 0), none]) xc88_62 rfl rfl ?_
          exact k2 h0 h1 h2 h3
        · refine x_iloadn xc88_33 rfl ?_
          refine x_iloadn xc88_34 rfl ?_
          refine x_iconst xc88_35 ?_
          refine x_icne xc88_36 (xRk (by have g0 := xRb qr1; omega)) (xRk (by decide)) (fun h4 => ?_) (fun h4 => ?_)
          · refine x_iloadn xc88_44 rfl ?_
            refine x_iconst xc88_45 ?_
            refine x_icne xc88_46 (xRk (by have g0 := xRb qr1; omega)) (xRk (by decide)) (fun h5 => ?_) (fun h5 => ?_)
            · refine x_iconst xc88_53 ?_
              refine x_icge xc88_54 (xRk (by have g0 := xRb qr2; omega)) (xRk (by decide)) (fun h6 => ?_) (fun h6 => ?_)
              · refine x_iconst xc88_61 ?_
                refine x_istoren (pl' := [some (xV kk), some (xV x), some (xV y), some (xV 0), none]) xc88_62 rfl rfl ?_
                exact k3 h0 h1 h2 h3 h4 h5 h6
              · refine x_iconst xc88_57 ?_
                refine x_goto xc88_58 ?_
                refine x_istoren (pl' := [some (xV kk), some (xV x), some (xV y), some (xV 1), none]) xc88_62 rfl rfl ?_
                exact k4 h0 h1 h2 h3 h4 h5 h6
            · replace h5 := Classical.not_not.mp h5
              refine x_iconst xc88_49 ?_
              refine x_goto xc88_50 ?_
              refine x_icge xc88_54 (xRk (by have g0 := xRb qr2; omega)) (xRk (by decide)) (fun h7 => ?_) (fun h7 => ?_)
              · refine x_iconst xc88_61 ?_
                refine x_istoren (pl' := [some (xV kk), some (xV x), some (xV y), some (xV 0), none]) xc88_62 rfl rfl ?_
                exact k5 h0 h1 h2 h3 h4 h5 h7
              · refine x_iconst xc88_57 ?_
                refine x_goto xc88_58 ?_
                refine x_istoren (pl' := [some (xV kk), some (xV x), some (xV y), some (xV 1), none]) xc88_62 rfl rfl ?_
                exact k6 h0 h1 h2 h3 h4 h5 h7
          · replace h4 := Classical.not_not.mp h4
            refine x_bipush xc88_39 (by decide) ?_
            refine x_goto xc88_41 ?_
            refine x_icge xc88_54 (xRk (by have g0 := xRb qr2; omega)) (xRk (by decide)) (fun h8 => ?_) (fun h8 => ?_)
            · refine x_iconst xc88_61 ?_
              refine x_istoren (pl' := [some (xV kk), some (xV x), some (xV y), some (xV 0), none]) xc88_62 rfl rfl ?_
              exact k7 h0 h1 h2 h3 h4 h8
            · refine x_iconst xc88_57 ?_
              refine x_goto xc88_58 ?_
              refine x_istoren (pl' := [some (xV kk), some (xV x), some (xV y), some (xV 1), none]) xc88_62 rfl rfl ?_
              exact k8 h0 h1 h2 h3 h4 h8
      · replace h2 := Classical.not_not.mp h2
        refine x_iloadn xc88_16 rfl ?_
        refine x_iconst xc88_17 ?_
        refine x_icne xc88_18 (xRk (by have g0 := xRb qr2; omega)) (xRk (by decide)) (fun h9 => ?_) (fun h9 => ?_)
        · refine x_iconst xc88_25 ?_
          refine x_goto xc88_26 ?_
          refine x_istoren (pl' := [some (xV kk), some (xV x), some (xV y), some (xV 0), none]) xc88_62 rfl rfl ?_
          exact k9 h0 h1 h2 h9
        · replace h9 := Classical.not_not.mp h9
          refine x_iconst xc88_21 ?_
          refine x_goto xc88_22 ?_
          refine x_istoren (pl' := [some (xV kk), some (xV x), some (xV y), some (xV 1), none]) xc88_62 rfl rfl ?_
          exact k10 h0 h1 h2 h9
    · refine x_iconst xc88_10 ?_
      refine x_iret xc88_11 (Or.inl rfl) ?_
      exact k11 h0 h1

theorem xg88 {ro : Nat → Nat × (Nat → Int32)} {d : Nat} {Q : Option Value → pmS → Prop} {a : xA} {b : xB} {kk x y : Int} (h : pmWp ro d 11 88 1 0 [some (xV kk), some (xV x), some (xV y), none, none] [] (xS a b) Q) : pmCs ro (d + 1) 88 [xV kk, xV x, xV y] (xS a b) Q := x_go xi88 rfl rfl rfl rfl rfl h
theorem w88b {ro : Nat → Nat × (Nat → Int32)} {d : Nat} {Q : Option Value → pmS → Prop} {kk x y g : Int} {a : xA} {b : xB} (hkk : 0 ≤ kk ∧ kk ≤ 6) (qr2 : xR x) (qr3 : xR y) (hg : g = 0 ∨ g = 1) (hd : 1 ≤ d)
    (k1 : (kk = 4) → (0 ≤ y ∧ y < 4) → pmWp ro d 11 88 1 93 [some (xV kk), some (xV x), some (xV y), some (xV g), some (xV 1)] [] (xS a b) Q)
    (k2 : (kk = 4) → (¬ (0 ≤ y ∧ y < 4)) → pmWp ro d 11 88 1 93 [some (xV kk), some (xV x), some (xV y), some (xV g), some (xV 0)] [] (xS a b) Q)
    (k3 : (¬ kk = 4) → (¬ kk = 6) → (¬ y = -1) → pmWp ro d 11 88 1 93 [some (xV kk), some (xV x), some (xV y), some (xV g), some (xV 0)] [] (xS a b) Q)
    (k4 : (¬ kk = 4) → (¬ kk = 6) → (y = -1) → pmWp ro d 11 88 1 93 [some (xV kk), some (xV x), some (xV y), some (xV g), some (xV 1)] [] (xS a b) Q)
    (k5 : (¬ kk = 4) → (kk = 6) → (0 ≤ y ∧ y < 4) → pmWp ro d 11 88 1 93 [some (xV kk), some (xV x), some (xV y), some (xV g), some (xV 1)] [] (xS a b) Q)
    (k6 : (¬ kk = 4) → (kk = 6) → (¬ (0 ≤ y ∧ y < 4)) → pmWp ro d 11 88 1 93 [some (xV kk), some (xV x), some (xV y), some (xV g), some (xV 0)] [] (xS a b) Q) :
    pmWp ro d 11 88 1 63 [some (xV kk), some (xV x), some (xV y), some (xV g), none] [] (xS a b) Q := by
  refine x_iloadn xc88_63 rfl ?_
  refine x_iconst xc88_64 ?_
  refine x_iceq xc88_65 (xRk (by have g0 := hkk; omega)) (xRk (by decide)) (fun h0 => ?_) (fun h0 => ?_)
  · refine x_iloadn xc88_74 rfl ?_
    refine x_cS (as := [xV y]) (rest := []) xc88_75 rfl rfl xi18 ⟨rfl, rfl⟩ rfl rfl ?_
    refine xk18 (by omega) (xRk (by have g0 := xRb qr3; omega)) (fun h1 => ?_) (fun h2 => ?_)
    · refine x_goto xc88_78 ?_
      refine x_istore (pl' := [some (xV kk), some (xV x), some (xV y), some (xV g), some (xV 1)]) xc88_91 rfl rfl ?_
      exact k1 h0 h1
    · refine x_goto xc88_78 ?_
      refine x_istore (pl' := [some (xV kk), some (xV x), some (xV y), some (xV g), some (xV 0)]) xc88_91 rfl rfl ?_
      exact k2 h0 h2
  · refine x_iloadn xc88_68 rfl ?_
    refine x_bipush xc88_69 (by decide) ?_
    refine x_icne xc88_71 (xRk (by have g0 := hkk; omega)) (xRk (by decide)) (fun h3 => ?_) (fun h3 => ?_)
    · refine x_iloadn xc88_81 rfl ?_
      refine x_iconst xc88_82 ?_
      refine x_icne xc88_83 (xRk (by have g0 := xRb qr3; omega)) (xRk (by decide)) (fun h4 => ?_) (fun h4 => ?_)
      · refine x_iconst xc88_90 ?_
        refine x_istore (pl' := [some (xV kk), some (xV x), some (xV y), some (xV g), some (xV 0)]) xc88_91 rfl rfl ?_
        exact k3 h0 h3 h4
      · replace h4 := Classical.not_not.mp h4
        refine x_iconst xc88_86 ?_
        refine x_goto xc88_87 ?_
        refine x_istore (pl' := [some (xV kk), some (xV x), some (xV y), some (xV g), some (xV 1)]) xc88_91 rfl rfl ?_
        exact k4 h0 h3 h4
    · replace h3 := Classical.not_not.mp h3
      refine x_iloadn xc88_74 rfl ?_
      refine x_cS (as := [xV y]) (rest := []) xc88_75 rfl rfl xi18 ⟨rfl, rfl⟩ rfl rfl ?_
      refine xk18 (by omega) (xRk (by have g0 := xRb qr3; omega)) (fun h5 => ?_) (fun h6 => ?_)
      · refine x_goto xc88_78 ?_
        refine x_istore (pl' := [some (xV kk), some (xV x), some (xV y), some (xV g), some (xV 1)]) xc88_91 rfl rfl ?_
        exact k5 h0 h3 h5
      · refine x_goto xc88_78 ?_
        refine x_istore (pl' := [some (xV kk), some (xV x), some (xV y), some (xV g), some (xV 0)]) xc88_91 rfl rfl ?_
        exact k6 h0 h3 h6

theorem w88c {ro : Nat → Nat × (Nat → Int32)} {d : Nat} {Q : Option Value → pmS → Prop} {kk x y g g2 : Int} {a : xA} {b : xB} (hkk : 0 ≤ kk ∧ kk ≤ 6) (qr2 : xR x) (qr3 : xR y) (hg : g = 0 ∨ g = 1) (hg2 : g2 = 0 ∨ g2 = 1) (hd : 1 ≤ d)
    (k1 : (g = 0) → Q (some (xV (-1))) (xS a b))
    (k2 : (¬ g = 0) → (g2 = 0) → Q (some (xV (-1))) (xS a b))
    (k3 : (¬ g = 0) → (¬ g2 = 0) → Q (some (xV (xOr (xOr (kk * 64) ((x + 1) * 8)) (y + 1)))) (xS a b)) :
    pmWp ro d 11 88 1 93 [some (xV kk), some (xV x), some (xV y), some (xV g), some (xV g2)] [] (xS a b) Q := by
  refine x_iloadn xc88_93 rfl ?_
  refine x_ifeq xc88_94 (xRk (by have g0 := hg; omega)) (fun h0 => ?_) (fun h0 => ?_)
  · refine x_iconst xc88_119 ?_
    refine x_iret xc88_120 (Or.inl rfl) ?_
    exact k1 h0
  · refine x_iload xc88_97 rfl ?_
    refine x_ifeq xc88_99 (xRk (by have g0 := hg2; omega)) (fun h1 => ?_) (fun h1 => ?_)
    · refine x_iconst xc88_119 ?_
      refine x_iret xc88_120 (Or.inl rfl) ?_
      exact k2 h0 h1
    · refine x_iloadn xc88_102 rfl ?_
      refine x_bipush xc88_103 (by decide) ?_
      refine x_ishl (M := 64) (by omega) (by omega) (by decide) xc88_105 ?_
      refine x_iloadn xc88_106 rfl ?_
      refine x_iconst xc88_107 ?_
      refine x_iadd xc88_108 ?_
      refine x_iconst xc88_109 ?_
      refine x_ishl (M := 8) (by omega) (by omega) (by decide) xc88_110 ?_
      refine x_ior xc88_111 ?_
      refine x_iloadn xc88_112 rfl ?_
      refine x_iconst xc88_113 ?_
      refine x_iadd xc88_114 ?_
      refine x_ior xc88_115 ?_
      refine x_goto xc88_116 ?_
      refine x_iret xc88_120 (Or.inl rfl) ?_
      exact k3 h0 h1

theorem w87 {ro : Nat → Nat × (Nat → Int32)} {d : Nat} {Q : Option Value → pmS → Prop} {kk x y : Int} {a : xA} {b : xB} (qr1 : xR kk) (qr2 : xR x) (qr3 : xR y) (hbg : 0 ≤ a 0 12 ∧ a 0 12 ≤ 1) (htn : 0 ≤ a 21 6 ∧ a 21 6 ≤ 1000) (hd : 1 ≤ d)
    (k1 : (a 0 12 = 0) → Q (some (xV (-1))) (xS a b))
    (k2 : (¬ a 0 12 = 0) → (a 21 6 < 60) → pmCs ro d 88 [xV kk, xV x, xV y] (xS a b) fun r σ' => pmWp ro d 11 87 1 27 [some (.ref 0), some (xV kk), some (xV x), some (xV y), none] (r.toList ++ []) σ' Q)
    (k3 : (¬ a 0 12 = 0) → (¬ a 21 6 < 60) → Q (some (xV (-1))) (xS a b)) :
    pmWp ro d 11 87 1 0 [some (.ref 0), some (xV kk), some (xV x), some (xV y), none] [] (xS a b) Q := by
  refine x_aloadn xc87_0 rfl ?_
  refine x_gfi (k := 12) xc87_1 rfl (Or.inr rfl) rfl xz0 ?_
  refine x_ifeq xc87_4 (xRk (by have g0 := hbg; omega)) (fun h0 => ?_) (fun h0 => ?_)
  · refine x_iconst xc87_19 ?_
    refine x_iret xc87_20 (Or.inl rfl) ?_
    exact k1 h0
  · refine x_aloadn xc87_7 rfl ?_
    refine x_gfr xc87_8 rfl rfl xz0 rfl ?_
    refine x_gfi (k := 6) xc87_11 rfl (Or.inl rfl) rfl xz21 ?_
    refine x_bipush xc87_14 (by decide) ?_
    refine x_iclt xc87_16 (xRk (by have g0 := htn; omega)) (xRk (by decide)) (fun h1 => ?_) (fun h1 => ?_)
    · refine x_iloadn xc87_21 rfl ?_
      refine x_iloadn xc87_22 rfl ?_
      refine x_iloadn xc87_23 rfl ?_
      refine x_cS (as := [xV kk, xV x, xV y]) (rest := []) xc87_24 rfl rfl xi88 ⟨rfl, rfl⟩ rfl rfl ?_
      exact k2 h0 h1
    · refine x_iconst xc87_19 ?_
      refine x_iret xc87_20 (Or.inl rfl) ?_
      exact k3 h0 h1

theorem w87a {ro : Nat → Nat × (Nat → Int32)} {d : Nat} {Q : Option Value → pmS → Prop} {kk x y dd : Int} {a : xA} {b : xB} (hdd : xR dd)
    (k1 : (dd = -1) → Q (some (xV (-2))) (xS a b))
    (k2 : (¬ dd = -1) → pmCs ro d 80 [.ref 3, .long (b 21 4), xV 0, xV dd] (xS a b) fun r σ' => pmWp ro d 11 87 1 52 [some (.ref 0), some (xV kk), some (xV x), some (xV y), some (xV dd)] (r.toList ++ []) σ' Q) :
    pmWp ro d 11 87 1 27 [some (.ref 0), some (xV kk), some (xV x), some (xV y), none] [xV dd] (xS a b) Q := by
  refine x_istore (pl' := [some (.ref 0), some (xV kk), some (xV x), some (xV y), some (xV dd)]) xc87_27 rfl rfl ?_
  refine x_iload xc87_29 rfl ?_
  refine x_iconst xc87_31 ?_
  refine x_iceq xc87_32 (xRk (by have g0 := xRb hdd; omega)) (xRk (by decide)) (fun h0 => ?_) (fun h0 => ?_)
  · refine x_bipush xc87_55 (by decide) ?_
    refine x_iret xc87_57 (Or.inl rfl) ?_
    exact k1 h0
  · refine x_aloadn xc87_35 rfl ?_
    refine x_gfr xc87_36 rfl rfl xz0 rfl ?_
    refine x_aloadn xc87_39 rfl ?_
    refine x_gfr xc87_40 rfl rfl xz0 rfl ?_
    refine x_gfl (k := 4) xc87_43 rfl rfl rfl xz21 ?_
    refine x_iconst xc87_46 ?_
    refine x_iload xc87_47 rfl ?_
    refine x_cV (as := [.long (b 21 4), xV 0, xV dd]) (rest := []) xc87_49 rfl xi80 xz3 ⟨rfl, rfl⟩ rfl rfl ?_
    exact k2 h0

theorem w87b {ro : Nat → Nat × (Nat → Int32)} {d : Nat} {Q : Option Value → pmS → Prop} {kk x y dd z : Int} {a : xA} {b : xB} (hdd : xR dd) (hzz : z = 0 ∨ z = 1)
    (k1 : (¬ z = 0) → pmCs ro d 89 [.ref 43, .ref 21, xV dd, xV 0] (xS a b) fun r σ' => pmWp ro d 11 87 1 72 [some (.ref 0), some (xV kk), some (xV x), some (xV y), some (xV dd)] (r.toList ++ []) σ' Q)
    (k2 : (z = 0) → Q (some (xV (-2))) (xS a b)) :
    pmWp ro d 11 87 1 52 [some (.ref 0), some (xV kk), some (xV x), some (xV y), some (xV dd)] [xV z] (xS a b) Q := by
  refine x_ifne xc87_52 (xRk (by have g0 := hzz; omega)) (fun h0 => ?_) (fun h0 => ?_)
  · refine x_aloadn xc87_58 rfl ?_
    refine x_gfr xc87_59 rfl rfl xz0 rfl ?_
    refine x_aloadn xc87_62 rfl ?_
    refine x_gfr xc87_63 rfl rfl xz0 rfl ?_
    refine x_iload xc87_66 rfl ?_
    refine x_iconst xc87_68 ?_
    refine x_cV (as := [.ref 21, xV dd, xV 0]) (rest := []) xc87_69 rfl xi89 xz43 ⟨rfl, rfl⟩ rfl rfl ?_
    exact k1 h0
  · replace h0 := Classical.not_not.mp h0
    refine x_bipush xc87_55 (by decide) ?_
    refine x_iret xc87_57 (Or.inl rfl) ?_
    exact k2 h0

theorem w87c {ro : Nat → Nat × (Nat → Int32)} {d : Nat} {Q : Option Value → pmS → Prop} {kk x y dd : Int} {a : xA} {b : xB}
    (k1 : pmCs ro d 99 [.ref 79, xV (a 21 6)] (xS a b) fun r σ' => pmWp ro d 11 87 1 86 [some (.ref 0), some (xV kk), some (xV x), some (xV y), some (xV dd)] (r.toList ++ []) σ' Q) :
    pmWp ro d 11 87 1 72 [some (.ref 0), some (xV kk), some (xV x), some (xV y), some (xV dd)] [] (xS a b) Q := by
  refine x_aloadn xc87_72 rfl ?_
  refine x_gfr xc87_73 rfl rfl xz0 rfl ?_
  refine x_aloadn xc87_76 rfl ?_
  refine x_gfr xc87_77 rfl rfl xz0 rfl ?_
  refine x_gfi (k := 6) xc87_80 rfl (Or.inl rfl) rfl xz21 ?_
  refine x_cV (as := [xV (a 21 6)]) (rest := []) xc87_83 rfl xi99 xz79 ⟨rfl, rfl⟩ rfl rfl ?_
  exact k1

theorem w87d {ro : Nat → Nat × (Nat → Int32)} {d : Nat} {Q : Option Value → pmS → Prop} {kk x y dd : Int} {a : xA} {b : xB}
    (k1 : Q (some (xV (a 21 6))) (xS a b)) :
    pmWp ro d 11 87 1 86 [some (.ref 0), some (xV kk), some (xV x), some (xV y), some (xV dd)] [] (xS a b) Q := by
  refine x_aloadn xc87_86 rfl ?_
  refine x_gfr xc87_87 rfl rfl xz0 rfl ?_
  refine x_gfi (k := 6) xc87_90 rfl (Or.inl rfl) rfl xz21 ?_
  refine x_iret xc87_93 (Or.inl rfl) ?_
  exact k1

theorem w99 {ro : Nat → Nat × (Nat → Int32)} {d : Nat} {Q : Option Value → pmS → Prop} {t : Int} {a : xA} {b : xB} (ht : 1 ≤ t ∧ t ≤ 60)
    (k1 : (t < 1) → Q none (xS a b))
    (k2 : (¬ t < 1) → (60 < t) → Q none (xS a b))
    (k3 : (¬ t < 1) → (¬ 60 < t) → Q none (xS (xCp (xU a 79 6 t) 44 85 0 (t * 4) 4) b)) :
    pmWp ro d 0 99 0 0 [some (.ref 79), some (xV t)] [] (xS a b) Q := by
  refine x_iloadn xc99_0 rfl ?_
  refine x_iconst xc99_1 ?_
  refine x_iclt xc99_2 (xRk (by have g0 := ht; omega)) (xRk (by decide)) (fun h0 => ?_) (fun h0 => ?_)
  · refine x_ret xc99_35 rfl ?_
    exact k1 h0
  · refine x_iloadn xc99_5 rfl ?_
    refine x_bipush xc99_6 (by decide) ?_
    refine x_icgt xc99_8 (xRk (by have g0 := ht; omega)) (xRk (by decide)) (fun h1 => ?_) (fun h1 => ?_)
    · refine x_ret xc99_35 rfl ?_
      exact k2 h0 h1
    · refine x_aloadn xc99_11 rfl ?_
      refine x_iloadn xc99_12 rfl ?_
      refine x_pfi (k := 6) xc99_13 rfl ⟨rfl, rfl⟩ rfl xz79 ?_
      refine x_aloadn xc99_16 rfl ?_
      refine x_gfr xc99_17 rfl rfl xz79 rfl ?_
      refine x_gfr xc99_20 rfl rfl xz43 rfl ?_
      refine x_iconst xc99_23 ?_
      refine x_aloadn xc99_24 rfl ?_
      refine x_gfr xc99_25 rfl rfl xz79 rfl ?_
      refine x_iloadn xc99_28 rfl ?_
      refine x_iconst xc99_29 ?_
      refine x_imul xc99_30 ?_
      refine x_iconst xc99_31 ?_
      refine x_cpy xc99_32 rfl xz44 xz85 (by omega) (by have g0 := ht; omega) (by omega) (by omega) (by have g0 := ht; omega) rfl ?_
      refine x_ret xc99_35 rfl ?_
      exact k3 h0 h1

theorem xg99 {ro : Nat → Nat × (Nat → Int32)} {d : Nat} {Q : Option Value → pmS → Prop} {a : xA} {b : xB} {t : Int} (h : pmWp ro d 0 99 0 0 [some (.ref 79), some (xV t)] [] (xS a b) Q) : pmCs ro (d + 1) 99 [.ref 79, xV t] (xS a b) Q := x_go xi99 rfl rfl rfl rfl rfl h
theorem w204 {ro : Nat → Nat × (Nat → Int32)} {d : Nat} {Q : Option Value → pmS → Prop} {kk x y : Int} {a : xA} {b : xB} (qr1 : xR kk) (qr2 : xR x) (qr3 : xR y) (hbg : 0 ≤ a 87 4 ∧ a 87 4 ≤ 1) (htn : 0 ≤ a 88 114 ∧ a 88 114 ≤ 1000) (hd : 1 ≤ d)
    (k1 : (a 87 4 = 0) → Q (some (xV (-1))) (xS a b))
    (k2 : (¬ a 87 4 = 0) → (a 88 114 < 60) → (¬ kk = 0) → pmCs ro d 205 [xV kk, xV x, xV y] (xS a b) fun r σ' => pmWp ro d 12 204 1 35 [some (.ref 87), some (xV kk), some (xV x), some (xV y), none, none, none, none] (r.toList ++ []) σ' Q)
    (k3 : (¬ a 87 4 = 0) → (a 88 114 < 60) → (kk = 0) → (¬ x = -1) → Q (some (xV (-2))) (xS a b))
    (k4 : (¬ a 87 4 = 0) → (a 88 114 < 60) → (kk = 0) → (x = -1) → (¬ y = -1) → Q (some (xV (-2))) (xS a b))
    (k5 : (¬ a 87 4 = 0) → (a 88 114 < 60) → (kk = 0) → (x = -1) → (y = -1) → pmCs ro d 208 [.ref 87, xV (-1), xV (-1)] (xS a b) fun r σ' => pmWp ro d 12 204 1 97 [some (.ref 87), some (xV kk), some (xV x), some (xV y), some (xV (-1)), some (xV 1), none, none] (r.toList ++ []) σ' Q)
    (k6 : (¬ a 87 4 = 0) → (¬ a 88 114 < 60) → Q (some (xV (-1))) (xS a b)) :
    pmWp ro d 12 204 1 0 [some (.ref 87), some (xV kk), some (xV x), some (xV y), none, none, none, none] [] (xS a b) Q := by
  refine x_aloadn xc204_0 rfl ?_
  refine x_gfi (k := 4) xc204_1 rfl (Or.inr rfl) rfl xz87 ?_
  refine x_ifeq xc204_4 (xRk (by have g0 := hbg; omega)) (fun h0 => ?_) (fun h0 => ?_)
  · refine x_iconst xc204_19 ?_
    refine x_iret xc204_20 (Or.inl rfl) ?_
    exact k1 h0
  · refine x_aloadn xc204_7 rfl ?_
    refine x_gfr xc204_8 rfl rfl xz87 rfl ?_
    refine x_bipush xc204_11 (by decide) ?_
    refine x_ial xc204_13 xz88 rfl (by omega) (by omega) (by omega) ?_
    refine x_bipush xc204_14 (by decide) ?_
    refine x_iclt xc204_16 (xRk (by have g0 := htn; omega)) (xRk (by decide)) (fun h1 => ?_) (fun h1 => ?_)
    · refine x_iloadn xc204_21 rfl ?_
      refine x_ifne xc204_22 (xRk (by have g0 := xRb qr1; omega)) (fun h2 => ?_) (fun h2 => ?_)
      · refine x_iloadn xc204_29 rfl ?_
        refine x_iloadn xc204_30 rfl ?_
        refine x_iloadn xc204_31 rfl ?_
        refine x_cS (as := [xV kk, xV x, xV y]) (rest := []) xc204_32 rfl rfl xi205 ⟨rfl, rfl⟩ rfl rfl ?_
        exact k2 h0 h1 h2
      · replace h2 := Classical.not_not.mp h2
        refine x_iconst xc204_25 ?_
        refine x_goto xc204_26 ?_
        refine x_istore (pl' := [some (.ref 87), some (xV kk), some (xV x), some (xV y), some (xV (-1)), none, none, none]) xc204_35 rfl rfl ?_
        refine x_iloadn xc204_37 rfl ?_
        refine x_ifne xc204_38 (xRk (by have g0 := xRb qr1; omega)) (fun h => absurd h (by omega)) (fun _ => ?_)
        refine x_iloadn xc204_41 rfl ?_
        refine x_iconst xc204_42 ?_
        refine x_icne xc204_43 (xRk (by have g0 := xRb qr2; omega)) (xRk (by decide)) (fun h4 => ?_) (fun h4 => ?_)
        · refine x_iconst xc204_55 ?_
          refine x_goto xc204_56 ?_
          refine x_istore (pl' := [some (.ref 87), some (xV kk), some (xV x), some (xV y), some (xV (-1)), some (xV 0), none, none]) xc204_80 rfl rfl ?_
          refine x_iload xc204_82 rfl ?_
          refine x_ifne xc204_84 (xRk (by decide)) (fun h => absurd h (by omega)) (fun _ => ?_)
          refine x_bipush xc204_87 (by decide) ?_
          refine x_iret xc204_89 (Or.inl rfl) ?_
          exact k3 h0 h1 h2 h4
        · replace h4 := Classical.not_not.mp h4
          refine x_iloadn xc204_46 rfl ?_
          refine x_iconst xc204_47 ?_
          refine x_icne xc204_48 (xRk (by have g0 := xRb qr3; omega)) (xRk (by decide)) (fun h6 => ?_) (fun h6 => ?_)
          · refine x_iconst xc204_55 ?_
            refine x_goto xc204_56 ?_
            refine x_istore (pl' := [some (.ref 87), some (xV kk), some (xV x), some (xV y), some (xV (-1)), some (xV 0), none, none]) xc204_80 rfl rfl ?_
            refine x_iload xc204_82 rfl ?_
            refine x_ifne xc204_84 (xRk (by decide)) (fun h => absurd h (by omega)) (fun _ => ?_)
            refine x_bipush xc204_87 (by decide) ?_
            refine x_iret xc204_89 (Or.inl rfl) ?_
            exact k4 h0 h1 h2 h4 h6
          · replace h6 := Classical.not_not.mp h6
            refine x_iconst xc204_51 ?_
            refine x_goto xc204_52 ?_
            refine x_istore (pl' := [some (.ref 87), some (xV kk), some (xV x), some (xV y), some (xV (-1)), some (xV 1), none, none]) xc204_80 rfl rfl ?_
            refine x_iload xc204_82 rfl ?_
            refine x_ifne xc204_84 (xRk (by decide)) (fun _ => ?_) (fun h => absurd h (by omega))
            refine x_aloadn xc204_90 rfl ?_
            refine x_iload xc204_91 rfl ?_
            refine x_iconst xc204_93 ?_
            refine x_cV (as := [xV (-1), xV (-1)]) (rest := []) xc204_94 rfl xi208 xz87 ⟨rfl, rfl⟩ rfl rfl ?_
            exact k5 h0 h1 h2 h4 h6
    · refine x_iconst xc204_19 ?_
      refine x_iret xc204_20 (Or.inl rfl) ?_
      exact k6 h0 h1

theorem w204a {ro : Nat → Nat × (Nat → Int32)} {d : Nat} {Q : Option Value → pmS → Prop} {kk x y c : Int} {a : xA} {b : xB} (qr1 : xR kk) (hk0 : ¬ kk = 0) (hc : -1 ≤ c ∧ c ≤ 60)
    (k1 : (¬ kk = 0) → (c = -1) → Q (some (xV (-2))) (xS a b))
    (k2 : (¬ kk = 0) → (¬ c = -1) → pmCs ro d 206 [.ref 87, xV 0, xV c] (xS a b) fun r σ' => pmWp ro d 12 204 1 72 [some (.ref 87), some (xV kk), some (xV x), some (xV y), some (xV c), none, none, none] (r.toList ++ []) σ' Q)
    (k3 : (kk = 0) → (¬ x = -1) → Q (some (xV (-2))) (xS a b))
    (k4 : (kk = 0) → (x = -1) → (¬ y = -1) → Q (some (xV (-2))) (xS a b))
    (k5 : (kk = 0) → (x = -1) → (y = -1) → pmCs ro d 208 [.ref 87, xV c, xV (-1)] (xS a b) fun r σ' => pmWp ro d 12 204 1 97 [some (.ref 87), some (xV kk), some (xV x), some (xV y), some (xV c), some (xV 1), none, none] (r.toList ++ []) σ' Q) :
    pmWp ro d 12 204 1 35 [some (.ref 87), some (xV kk), some (xV x), some (xV y), none, none, none, none] [xV c] (xS a b) Q := by
  refine x_istore (pl' := [some (.ref 87), some (xV kk), some (xV x), some (xV y), some (xV c), none, none, none]) xc204_35 rfl rfl ?_
  refine x_iloadn xc204_37 rfl ?_
  refine x_ifne xc204_38 (xRk (by have g0 := xRb qr1; omega)) (fun h0 => ?_) (fun h0 => ?_)
  · refine x_iload xc204_59 rfl ?_
    refine x_iconst xc204_61 ?_
    refine x_iceq xc204_62 (xRk (by have g0 := hc; omega)) (xRk (by decide)) (fun h1 => ?_) (fun h1 => ?_)
    · refine x_iconst xc204_79 ?_
      refine x_istore (pl' := [some (.ref 87), some (xV kk), some (xV x), some (xV y), some (xV c), some (xV 0), none, none]) xc204_80 rfl rfl ?_
      refine x_iload xc204_82 rfl ?_
      refine x_ifne xc204_84 (xRk (by decide)) (fun h => absurd h (by omega)) (fun _ => ?_)
      refine x_bipush xc204_87 (by decide) ?_
      refine x_iret xc204_89 (Or.inl rfl) ?_
      exact k1 h0 h1
    · refine x_aloadn xc204_65 rfl ?_
      refine x_iconst xc204_66 ?_
      refine x_iload xc204_67 rfl ?_
      refine x_cV (as := [xV 0, xV c]) (rest := []) xc204_69 rfl xi206 xz87 ⟨rfl, rfl⟩ rfl rfl ?_
      exact k2 h0 h1
  · replace h0 := Classical.not_not.mp h0
    refine x_iloadn xc204_41 rfl ?_
    refine x_iconst xc204_42 ?_
    refine x_icne xc204_43 (xRk (by omega)) (xRk (by decide)) (fun h3 => ?_) (fun h3 => ?_)
    · refine x_iconst xc204_55 ?_
      refine x_goto xc204_56 ?_
      refine x_istore (pl' := [some (.ref 87), some (xV kk), some (xV x), some (xV y), some (xV c), some (xV 0), none, none]) xc204_80 rfl rfl ?_
      refine x_iload xc204_82 rfl ?_
      refine x_ifne xc204_84 (xRk (by decide)) (fun h => absurd h (by omega)) (fun _ => ?_)
      refine x_bipush xc204_87 (by decide) ?_
      refine x_iret xc204_89 (Or.inl rfl) ?_
      exact k3 h0 h3
    · replace h3 := Classical.not_not.mp h3
      refine x_iloadn xc204_46 rfl ?_
      refine x_iconst xc204_47 ?_
      refine x_icne xc204_48 (xRk (by omega)) (xRk (by decide)) (fun h5 => ?_) (fun h5 => ?_)
      · refine x_iconst xc204_55 ?_
        refine x_goto xc204_56 ?_
        refine x_istore (pl' := [some (.ref 87), some (xV kk), some (xV x), some (xV y), some (xV c), some (xV 0), none, none]) xc204_80 rfl rfl ?_
        refine x_iload xc204_82 rfl ?_
        refine x_ifne xc204_84 (xRk (by decide)) (fun h => absurd h (by omega)) (fun _ => ?_)
        refine x_bipush xc204_87 (by decide) ?_
        refine x_iret xc204_89 (Or.inl rfl) ?_
        exact k4 h0 h3 h5
      · replace h5 := Classical.not_not.mp h5
        refine x_iconst xc204_51 ?_
        refine x_goto xc204_52 ?_
        refine x_istore (pl' := [some (.ref 87), some (xV kk), some (xV x), some (xV y), some (xV c), some (xV 1), none, none]) xc204_80 rfl rfl ?_
        refine x_iload xc204_82 rfl ?_
        refine x_ifne xc204_84 (xRk (by decide)) (fun _ => ?_) (fun h => absurd h (by omega))
        refine x_aloadn xc204_90 rfl ?_
        refine x_iload xc204_91 rfl ?_
        refine x_iconst xc204_93 ?_
        refine x_cV (as := [xV c, xV (-1)]) (rest := []) xc204_94 rfl xi208 xz87 ⟨rfl, rfl⟩ rfl rfl ?_
        exact k5 h0 h3 h5

theorem w204b {ro : Nat → Nat × (Nat → Int32)} {d : Nat} {Q : Option Value → pmS → Prop} {kk x y c z : Int} {a : xA} {b : xB} (hc : -1 ≤ c ∧ c ≤ 60) (hzz : z = 0 ∨ z = 1)
    (k1 : (z = 0) → Q (some (xV (-2))) (xS a b))
    (k2 : (¬ z = 0) → pmCs ro d 208 [.ref 87, xV c, xV (-1)] (xS a b) fun r σ' => pmWp ro d 12 204 1 97 [some (.ref 87), some (xV kk), some (xV x), some (xV y), some (xV c), some (xV 1), none, none] (r.toList ++ []) σ' Q) :
    pmWp ro d 12 204 1 72 [some (.ref 87), some (xV kk), some (xV x), some (xV y), some (xV c), none, none, none] [xV z] (xS a b) Q := by
  refine x_ifeq xc204_72 (xRk (by have g0 := hzz; omega)) (fun h0 => ?_) (fun h0 => ?_)
  · refine x_iconst xc204_79 ?_
    refine x_istore (pl' := [some (.ref 87), some (xV kk), some (xV x), some (xV y), some (xV c), some (xV 0), none, none]) xc204_80 rfl rfl ?_
    refine x_iload xc204_82 rfl ?_
    refine x_ifne xc204_84 (xRk (by decide)) (fun h => absurd h (by omega)) (fun _ => ?_)
    refine x_bipush xc204_87 (by decide) ?_
    refine x_iret xc204_89 (Or.inl rfl) ?_
    exact k1 h0
  · refine x_iconst xc204_75 ?_
    refine x_goto xc204_76 ?_
    refine x_istore (pl' := [some (.ref 87), some (xV kk), some (xV x), some (xV y), some (xV c), some (xV 1), none, none]) xc204_80 rfl rfl ?_
    refine x_iload xc204_82 rfl ?_
    refine x_ifne xc204_84 (xRk (by decide)) (fun _ => ?_) (fun h => absurd h (by omega))
    refine x_aloadn xc204_90 rfl ?_
    refine x_iload xc204_91 rfl ?_
    refine x_iconst xc204_93 ?_
    refine x_cV (as := [xV c, xV (-1)]) (rest := []) xc204_94 rfl xi208 xz87 ⟨rfl, rfl⟩ rfl rfl ?_
    exact k2 h0

theorem w204c {ro : Nat → Nat × (Nat → Int32)} {d : Nat} {Q : Option Value → pmS → Prop} {kk x y c g t : Int} {a : xA} {b : xB} (htn : a 88 114 = t) (ht : 0 ≤ t ∧ t ≤ 60)
    (k1 : pmWp ro d 12 204 1 117 [some (.ref 87), some (xV kk), some (xV x), some (xV y), some (xV c), some (xV g), some (xV t), some (xV 0)] [] (xS (xU a 123 t 0) b) Q) :
    pmWp ro d 12 204 1 97 [some (.ref 87), some (xV kk), some (xV x), some (xV y), some (xV c), some (xV g), none, none] [] (xS a b) Q := by
  refine x_aloadn xc204_97 rfl ?_
  refine x_gfr xc204_98 rfl rfl xz87 rfl ?_
  refine x_bipush xc204_101 (by decide) ?_
  refine x_ial' (v := t) xc204_103 xz88 rfl (by omega) (by omega) (by omega) htn ?_
  refine x_istore (pl' := [some (.ref 87), some (xV kk), some (xV x), some (xV y), some (xV c), some (xV g), some (xV t), none]) xc204_104 rfl rfl ?_
  refine x_aloadn xc204_106 rfl ?_
  refine x_gfr xc204_107 rfl rfl xz87 rfl ?_
  refine x_iload xc204_110 rfl ?_
  refine x_iconst xc204_112 ?_
  refine x_ias xc204_113 xz123 (by have g0 := ht; omega) (by have g0 := ht; omega) (by have g0 := ht; omega) ?_
  refine x_iconst xc204_114 ?_
  refine x_istore (pl' := [some (.ref 87), some (xV kk), some (xV x), some (xV y), some (xV c), some (xV g), some (xV t), some (xV 0)]) xc204_115 rfl rfl ?_
  exact k1

theorem w204d {ro : Nat → Nat × (Nat → Int32)} {d : Nat} {Q : Option Value → pmS → Prop} {kk x y c g t p : Int} {a : xA} {b : xB} (hb : p < 4 → 0 ≤ a 119 p ∧ a 119 p ≤ 1) (ht : 0 ≤ t ∧ t ≤ 60) (hp : 0 ≤ p ∧ p ≤ 4)
    (k1 : (4 ≤ p) → Q (some (xV t)) (xS a b))
    (k2 : (¬ 4 ≤ p) → pmWp ro d 12 204 1 117 [some (.ref 87), some (xV kk), some (xV x), some (xV y), some (xV c), some (xV g), some (xV t), some (xV (p + 1))] [] (xS (xU (xU (xU (xU a 124 (4 * t + p) (a 119 p)) 120 (4 * t + p) (a 116 p)) 121 (4 * t + p) (a 117 p)) 122 (4 * t + p) (a 118 p)) b) Q) :
    pmWp ro d 12 204 1 117 [some (.ref 87), some (xV kk), some (xV x), some (xV y), some (xV c), some (xV g), some (xV t), some (xV p)] [] (xS a b) Q := by
  refine x_iload xc204_117 rfl ?_
  refine x_iconst xc204_119 ?_
  refine x_icge xc204_120 (xRk (by have g0 := hp; omega)) (xRk (by decide)) (fun h0 => ?_) (fun h0 => ?_)
  · refine x_iload xc204_205 rfl ?_
    refine x_iret xc204_207 (Or.inl rfl) ?_
    exact k1 h0
  · refine x_aloadn xc204_123 rfl ?_
    refine x_gfr xc204_124 rfl rfl xz87 rfl ?_
    refine x_iconst xc204_127 ?_
    refine x_iload xc204_128 rfl ?_
    refine x_imul xc204_130 ?_
    refine x_iload xc204_131 rfl ?_
    refine x_iadd xc204_133 ?_
    refine x_aloadn xc204_134 rfl ?_
    refine x_gfr xc204_135 rfl rfl xz87 rfl ?_
    refine x_iload xc204_138 rfl ?_
    refine x_bal xc204_140 xz119 (Or.inl rfl) (by have g0 := hp; omega) (by have g0 := hp; omega) (by have g0 := hp; omega) ?_
    refine x_zas (by have g0 := hp; have g1 := hb (by omega); omega) xc204_141 xz124 (by have g0 := ht; have g1 := hp; omega) (by have g0 := ht; have g1 := hp; omega) (by have g0 := ht; have g1 := hp; omega) ?_
    refine x_aloadn xc204_142 rfl ?_
    refine x_gfr xc204_143 rfl rfl xz87 rfl ?_
    refine x_iconst xc204_146 ?_
    refine x_iload xc204_147 rfl ?_
    refine x_imul xc204_149 ?_
    refine x_iload xc204_150 rfl ?_
    refine x_iadd xc204_152 ?_
    refine x_aloadn xc204_153 rfl ?_
    refine x_gfr xc204_154 rfl rfl xz87 rfl ?_
    refine x_iload xc204_157 rfl ?_
    refine x_ial' (v := a 116 p) xc204_159 xz116 rfl (by have g0 := hp; omega) (by have g0 := hp; omega) (by have g0 := hp; omega) (by rw [xUn (by decide)]) ?_
    refine x_ias xc204_160 xz120 (by have g0 := ht; have g1 := hp; omega) (by have g0 := ht; have g1 := hp; omega) (by have g0 := ht; have g1 := hp; omega) ?_
    refine x_aloadn xc204_161 rfl ?_
    refine x_gfr xc204_162 rfl rfl xz87 rfl ?_
    refine x_iconst xc204_165 ?_
    refine x_iload xc204_166 rfl ?_
    refine x_imul xc204_168 ?_
    refine x_iload xc204_169 rfl ?_
    refine x_iadd xc204_171 ?_
    refine x_aloadn xc204_172 rfl ?_
    refine x_gfr xc204_173 rfl rfl xz87 rfl ?_
    refine x_iload xc204_176 rfl ?_
    refine x_ial' (v := a 117 p) xc204_178 xz117 rfl (by have g0 := hp; omega) (by have g0 := hp; omega) (by have g0 := hp; omega) (by rw [xUn (by decide), xUn (by decide)]) ?_
    refine x_ias xc204_179 xz121 (by have g0 := ht; have g1 := hp; omega) (by have g0 := ht; have g1 := hp; omega) (by have g0 := ht; have g1 := hp; omega) ?_
    refine x_aloadn xc204_180 rfl ?_
    refine x_gfr xc204_181 rfl rfl xz87 rfl ?_
    refine x_iconst xc204_184 ?_
    refine x_iload xc204_185 rfl ?_
    refine x_imul xc204_187 ?_
    refine x_iload xc204_188 rfl ?_
    refine x_iadd xc204_190 ?_
    refine x_aloadn xc204_191 rfl ?_
    refine x_gfr xc204_192 rfl rfl xz87 rfl ?_
    refine x_iload xc204_195 rfl ?_
    refine x_ial' (v := a 118 p) xc204_197 xz118 rfl (by have g0 := hp; omega) (by have g0 := hp; omega) (by have g0 := hp; omega) (by rw [xUn (by decide), xUn (by decide), xUn (by decide)]) ?_
    refine x_ias xc204_198 xz122 (by have g0 := ht; have g1 := hp; omega) (by have g0 := ht; have g1 := hp; omega) (by have g0 := ht; have g1 := hp; omega) ?_
    refine x_iinc (pl' := [some (.ref 87), some (xV kk), some (xV x), some (xV y), some (xV c), some (xV g), some (xV t), some (xV (p + 1))]) xc204_199 rfl rfl ?_
    refine x_goto xc204_202 ?_
    exact k2 h0

end
