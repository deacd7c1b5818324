/-! exact: check -/
section
set_option maxRecDepth 100000
theorem xi131 : pmInf[131]? = some pmI_131 := rfl
theorem xi242 : pmInf[242]? = some pmI_242 := rfl
theorem xc129_50 : pmCode 129 50 = some (.istore_n 3) ∧ 50 + 1 = 51 := ⟨rfl, rfl⟩
theorem xc129_51 : pmCode 129 51 = some (.aload_n 0) ∧ 51 + 1 = 52 := ⟨rfl, rfl⟩
theorem xc129_52 : pmCode 129 52 = some (.getfield 10) ∧ 52 + 3 = 55 := ⟨rfl, rfl⟩
theorem xc129_55 : pmCode 129 55 = some (.invokevirtual 173) ∧ 55 + 3 = 58 := ⟨rfl, rfl⟩
theorem xc129_58 : pmCode 129 58 = some (.iload_n 3) ∧ 58 + 1 = 59 := ⟨rfl, rfl⟩
theorem xc129_59 : pmCode 129 59 = some .ireturn := rfl
theorem xc130_0 : pmCode 130 0 = some (.iconst 0) ∧ 0 + 1 = 1 := ⟨rfl, rfl⟩
theorem xc130_1 : pmCode 130 1 = some (.istore 4) ∧ 1 + 2 = 3 := ⟨rfl, rfl⟩
theorem xc130_3 : pmCode 130 3 = some (.iconst 0) ∧ 3 + 1 = 4 := ⟨rfl, rfl⟩
theorem xc130_4 : pmCode 130 4 = some (.istore 5) ∧ 4 + 2 = 6 := ⟨rfl, rfl⟩
theorem xc130_6 : pmCode 130 6 = some (.iload 5) ∧ 6 + 2 = 8 := ⟨rfl, rfl⟩
theorem xc130_8 : pmCode 130 8 = some (.iconst 4) ∧ 8 + 1 = 9 := ⟨rfl, rfl⟩
theorem xc130_9 : pmCode 130 9 = some (.if_icmp .ge 84) ∧ ((9 : Nat) : Int) + 84 = ((93 : Nat) : Int) ∧ 9 + 3 = 12 := ⟨rfl, rfl, rfl⟩
theorem xc130_12 : pmCode 130 12 = some (.aload_n 0) ∧ 12 + 1 = 13 := ⟨rfl, rfl⟩
theorem xc130_13 : pmCode 130 13 = some (.iload_n 2) ∧ 13 + 1 = 14 := ⟨rfl, rfl⟩
theorem xc130_14 : pmCode 130 14 = some (.iload 5) ∧ 14 + 2 = 16 := ⟨rfl, rfl⟩
theorem xc130_16 : pmCode 130 16 = some (.invokevirtual 58) ∧ 16 + 3 = 19 := ⟨rfl, rfl⟩
theorem xc130_19 : pmCode 130 19 = some (.istore 6) ∧ 19 + 2 = 21 := ⟨rfl, rfl⟩
theorem xc130_21 : pmCode 130 21 = some (.iconst (-1)) ∧ 21 + 1 = 22 := ⟨rfl, rfl⟩
theorem xc130_22 : pmCode 130 22 = some (.istore 7) ∧ 22 + 2 = 24 := ⟨rfl, rfl⟩
theorem xc130_24 : pmCode 130 24 = some (.iload 7) ∧ 24 + 2 = 26 := ⟨rfl, rfl⟩
theorem xc130_26 : pmCode 130 26 = some (.iconst 3) ∧ 26 + 1 = 27 := ⟨rfl, rfl⟩
theorem xc130_27 : pmCode 130 27 = some (.if_icmp .ge 60) ∧ ((27 : Nat) : Int) + 60 = ((87 : Nat) : Int) ∧ 27 + 3 = 30 := ⟨rfl, rfl, rfl⟩
theorem xc130_30 : pmCode 130 30 = some (.iload 6) ∧ 30 + 2 = 32 := ⟨rfl, rfl⟩
theorem xc130_32 : pmCode 130 32 = some (.iconst (-1)) ∧ 32 + 1 = 33 := ⟨rfl, rfl⟩
theorem xc130_33 : pmCode 130 33 = some (.if_icmp .eq 54) ∧ ((33 : Nat) : Int) + 54 = ((87 : Nat) : Int) ∧ 33 + 3 = 36 := ⟨rfl, rfl, rfl⟩
theorem xc130_36 : pmCode 130 36 = some (.iload 7) ∧ 36 + 2 = 38 := ⟨rfl, rfl⟩
theorem xc130_38 : pmCode 130 38 = some (.iconst (-1)) ∧ 38 + 1 = 39 := ⟨rfl, rfl⟩
theorem xc130_39 : pmCode 130 39 = some (.if_icmp .ne 8) ∧ ((39 : Nat) : Int) + 8 = ((47 : Nat) : Int) ∧ 39 + 3 = 42 := ⟨rfl, rfl, rfl⟩
theorem xc130_42 : pmCode 130 42 = some (.iload 5) ∧ 42 + 2 = 44 := ⟨rfl, rfl⟩
theorem xc130_44 : pmCode 130 44 = some (.goto 10) ∧ ((44 : Nat) : Int) + 10 = ((54 : Nat) : Int) := ⟨rfl, rfl⟩
theorem xc130_47 : pmCode 130 47 = some (.iload 6) ∧ 47 + 2 = 49 := ⟨rfl, rfl⟩
theorem xc130_49 : pmCode 130 49 = some (.iload 7) ∧ 49 + 2 = 51 := ⟨rfl, rfl⟩
theorem xc130_51 : pmCode 130 51 = some (.invokestatic 86) ∧ 51 + 3 = 54 := ⟨rfl, rfl⟩
theorem xc130_54 : pmCode 130 54 = some (.istore 8) ∧ 54 + 2 = 56 := ⟨rfl, rfl⟩
theorem xc130_56 : pmCode 130 56 = some (.iload 4) ∧ 56 + 2 = 58 := ⟨rfl, rfl⟩
theorem xc130_58 : pmCode 130 58 = some (.iconst 4) ∧ 58 + 1 = 59 := ⟨rfl, rfl⟩
theorem xc130_59 : pmCode 130 59 = some (.iload_n 3) ∧ 59 + 1 = 60 := ⟨rfl, rfl⟩
theorem xc130_60 : pmCode 130 60 = some .imul ∧ 60 + 1 = 61 := ⟨rfl, rfl⟩
theorem xc130_61 : pmCode 130 61 = some (.if_icmp .ge 14) ∧ ((61 : Nat) : Int) + 14 = ((75 : Nat) : Int) ∧ 61 + 3 = 64 := ⟨rfl, rfl, rfl⟩
theorem xc130_64 : pmCode 130 64 = some (.aload_n 1) ∧ 64 + 1 = 65 := ⟨rfl, rfl⟩
theorem xc130_65 : pmCode 130 65 = some (.iload 4) ∧ 65 + 2 = 67 := ⟨rfl, rfl⟩
theorem xc130_67 : pmCode 130 67 = some (.invokevirtual 92) ∧ 67 + 3 = 70 := ⟨rfl, rfl⟩
theorem xc130_70 : pmCode 130 70 = some (.iload 8) ∧ 70 + 2 = 72 := ⟨rfl, rfl⟩
theorem xc130_72 : pmCode 130 72 = some (.if_icmp .eq 6) ∧ ((72 : Nat) : Int) + 6 = ((78 : Nat) : Int) ∧ 72 + 3 = 75 := ⟨rfl, rfl, rfl⟩
theorem xc130_75 : pmCode 130 75 = some (.iload 4) ∧ 75 + 2 = 77 := ⟨rfl, rfl⟩
theorem xc130_77 : pmCode 130 77 = some .ireturn := rfl
theorem xc130_78 : pmCode 130 78 = some (.iinc 4 1) ∧ 78 + 3 = 81 := ⟨rfl, rfl⟩
theorem xc130_81 : pmCode 130 81 = some (.iinc 7 1) ∧ 81 + 3 = 84 := ⟨rfl, rfl⟩
theorem xc130_84 : pmCode 130 84 = some (.goto (-60)) ∧ ((84 : Nat) : Int) + (-60) = ((24 : Nat) : Int) := ⟨rfl, rfl⟩
theorem xc130_87 : pmCode 130 87 = some (.iinc 5 1) ∧ 87 + 3 = 90 := ⟨rfl, rfl⟩
theorem xc130_90 : pmCode 130 90 = some (.goto (-84)) ∧ ((90 : Nat) : Int) + (-84) = ((6 : Nat) : Int) := ⟨rfl, rfl⟩
theorem xc130_93 : pmCode 130 93 = some (.iload 4) ∧ 93 + 2 = 95 := ⟨rfl, rfl⟩
theorem xc130_95 : pmCode 130 95 = some (.iconst 4) ∧ 95 + 1 = 96 := ⟨rfl, rfl⟩
theorem xc130_96 : pmCode 130 96 = some (.iload_n 3) ∧ 96 + 1 = 97 := ⟨rfl, rfl⟩
theorem xc130_97 : pmCode 130 97 = some .imul ∧ 97 + 1 = 98 := ⟨rfl, rfl⟩
theorem xc130_98 : pmCode 130 98 = some (.if_icmp .ge 8) ∧ ((98 : Nat) : Int) + 8 = ((106 : Nat) : Int) ∧ 98 + 3 = 101 := ⟨rfl, rfl, rfl⟩
theorem xc130_101 : pmCode 130 101 = some (.iload 4) ∧ 101 + 2 = 103 := ⟨rfl, rfl⟩
theorem xc130_103 : pmCode 130 103 = some (.goto 4) ∧ ((103 : Nat) : Int) + 4 = ((107 : Nat) : Int) := ⟨rfl, rfl⟩
theorem xc130_106 : pmCode 130 106 = some (.iconst (-1)) ∧ 106 + 1 = 107 := ⟨rfl, rfl⟩
theorem xc130_107 : pmCode 130 107 = some .ireturn := rfl
theorem xc131_0 : pmCode 131 0 = some (.iconst 0) ∧ 0 + 1 = 1 := ⟨rfl, rfl⟩
theorem xc131_1 : pmCode 131 1 = some (.istore_n 2) ∧ 1 + 1 = 2 := ⟨rfl, rfl⟩
theorem xc131_2 : pmCode 131 2 = some (.iconst 0) ∧ 2 + 1 = 3 := ⟨rfl, rfl⟩
theorem xc131_3 : pmCode 131 3 = some (.istore_n 3) ∧ 3 + 1 = 4 := ⟨rfl, rfl⟩
theorem xc131_4 : pmCode 131 4 = some (.iload_n 3) ∧ 4 + 1 = 5 := ⟨rfl, rfl⟩
theorem xc131_5 : pmCode 131 5 = some (.iconst 4) ∧ 5 + 1 = 6 := ⟨rfl, rfl⟩
theorem xc131_6 : pmCode 131 6 = some (.if_icmp .ge 47) ∧ ((6 : Nat) : Int) + 47 = ((53 : Nat) : Int) ∧ 6 + 3 = 9 := ⟨rfl, rfl, rfl⟩
theorem xc131_9 : pmCode 131 9 = some (.iconst 4) ∧ 9 + 1 = 10 := ⟨rfl, rfl⟩
theorem xc131_10 : pmCode 131 10 = some (.iload_n 1) ∧ 10 + 1 = 11 := ⟨rfl, rfl⟩
theorem xc131_11 : pmCode 131 11 = some .imul ∧ 11 + 1 = 12 := ⟨rfl, rfl⟩
theorem xc131_12 : pmCode 131 12 = some (.iload_n 3) ∧ 12 + 1 = 13 := ⟨rfl, rfl⟩
theorem xc131_13 : pmCode 131 13 = some .iadd ∧ 13 + 1 = 14 := ⟨rfl, rfl⟩
theorem xc131_14 : pmCode 131 14 = some (.istore 4) ∧ 14 + 2 = 16 := ⟨rfl, rfl⟩
theorem xc131_16 : pmCode 131 16 = some (.iload_n 2) ∧ 16 + 1 = 17 := ⟨rfl, rfl⟩
theorem xc131_17 : pmCode 131 17 = some (.bipush 8) ∧ 17 + 2 = 19 := ⟨rfl, rfl⟩
theorem xc131_19 : pmCode 131 19 = some .ishl ∧ 19 + 1 = 20 := ⟨rfl, rfl⟩
theorem xc131_20 : pmCode 131 20 = some (.iload 4) ∧ 20 + 2 = 22 := ⟨rfl, rfl⟩
theorem xc131_22 : pmCode 131 22 = some (.ifCond .lt 22) ∧ ((22 : Nat) : Int) + 22 = ((44 : Nat) : Int) ∧ 22 + 3 = 25 := ⟨rfl, rfl, rfl⟩
theorem xc131_25 : pmCode 131 25 = some (.iload 4) ∧ 25 + 2 = 27 := ⟨rfl, rfl⟩
theorem xc131_27 : pmCode 131 27 = some (.aload_n 0) ∧ 27 + 1 = 28 := ⟨rfl, rfl⟩
theorem xc131_28 : pmCode 131 28 = some (.getfield 15) ∧ 28 + 3 = 31 := ⟨rfl, rfl⟩
theorem xc131_31 : pmCode 131 31 = some (.if_icmp .ge 13) ∧ ((31 : Nat) : Int) + 13 = ((44 : Nat) : Int) ∧ 31 + 3 = 34 := ⟨rfl, rfl, rfl⟩
theorem xc131_34 : pmCode 131 34 = some (.aload_n 0) ∧ 34 + 1 = 35 := ⟨rfl, rfl⟩
theorem xc131_35 : pmCode 131 35 = some (.getfield 9) ∧ 35 + 3 = 38 := ⟨rfl, rfl⟩
theorem xc131_38 : pmCode 131 38 = some (.iload 4) ∧ 38 + 2 = 40 := ⟨rfl, rfl⟩
theorem xc131_40 : pmCode 131 40 = some .iaload ∧ 40 + 1 = 41 := ⟨rfl, rfl⟩
theorem xc131_41 : pmCode 131 41 = some (.goto 4) ∧ ((41 : Nat) : Int) + 4 = ((45 : Nat) : Int) := ⟨rfl, rfl⟩
theorem xc131_44 : pmCode 131 44 = some (.iconst 0) ∧ 44 + 1 = 45 := ⟨rfl, rfl⟩
theorem xc131_45 : pmCode 131 45 = some .ior ∧ 45 + 1 = 46 := ⟨rfl, rfl⟩
theorem xc131_46 : pmCode 131 46 = some (.istore_n 2) ∧ 46 + 1 = 47 := ⟨rfl, rfl⟩
theorem xc131_47 : pmCode 131 47 = some (.iinc 3 1) ∧ 47 + 3 = 50 := ⟨rfl, rfl⟩
theorem xc131_50 : pmCode 131 50 = some (.goto (-46)) ∧ ((50 : Nat) : Int) + (-46) = ((4 : Nat) : Int) := ⟨rfl, rfl⟩
theorem xc131_53 : pmCode 131 53 = some (.iload_n 2) ∧ 53 + 1 = 54 := ⟨rfl, rfl⟩
theorem xc131_54 : pmCode 131 54 = some .ireturn := rfl
theorem xc241_15 : pmCode 241 15 = some (.iload_n 2) ∧ 15 + 1 = 16 := ⟨rfl, rfl⟩
theorem xc241_16 : pmCode 241 16 = some (.ifCond .lt 14) ∧ ((16 : Nat) : Int) + 14 = ((30 : Nat) : Int) ∧ 16 + 3 = 19 := ⟨rfl, rfl, rfl⟩
theorem xc241_19 : pmCode 241 19 = some (.iload_n 2) ∧ 19 + 1 = 20 := ⟨rfl, rfl⟩
theorem xc241_20 : pmCode 241 20 = some (.aload_n 0) ∧ 20 + 1 = 21 := ⟨rfl, rfl⟩
theorem xc241_21 : pmCode 241 21 = some (.getfield 163) ∧ 21 + 3 = 24 := ⟨rfl, rfl⟩
theorem xc241_24 : pmCode 241 24 = some (.bipush 16) ∧ 24 + 2 = 26 := ⟨rfl, rfl⟩
theorem xc241_26 : pmCode 241 26 = some .idiv ∧ 26 + 1 = 27 := ⟨rfl, rfl⟩
theorem xc241_27 : pmCode 241 27 = some (.if_icmp .le 6) ∧ ((27 : Nat) : Int) + 6 = ((33 : Nat) : Int) ∧ 27 + 3 = 30 := ⟨rfl, rfl, rfl⟩
theorem xc241_33 : pmCode 241 33 = some (.aload_n 0) ∧ 33 + 1 = 34 := ⟨rfl, rfl⟩
theorem xc241_34 : pmCode 241 34 = some (.iconst 0) ∧ 34 + 1 = 35 := ⟨rfl, rfl⟩
theorem xc241_35 : pmCode 241 35 = some (.putfield 163) ∧ 35 + 3 = 38 := ⟨rfl, rfl⟩
theorem xc241_38 : pmCode 241 38 = some (.iconst 0) ∧ 38 + 1 = 39 := ⟨rfl, rfl⟩
theorem xc241_39 : pmCode 241 39 = some (.istore_n 3) ∧ 39 + 1 = 40 := ⟨rfl, rfl⟩
theorem xc241_40 : pmCode 241 40 = some (.iconst 0) ∧ 40 + 1 = 41 := ⟨rfl, rfl⟩
theorem xc241_41 : pmCode 241 41 = some (.istore 4) ∧ 41 + 2 = 43 := ⟨rfl, rfl⟩
theorem xc241_43 : pmCode 241 43 = some (.iload 4) ∧ 43 + 2 = 45 := ⟨rfl, rfl⟩
theorem xc241_45 : pmCode 241 45 = some (.iconst 4) ∧ 45 + 1 = 46 := ⟨rfl, rfl⟩
theorem xc241_46 : pmCode 241 46 = some (.if_icmp .ge 119) ∧ ((46 : Nat) : Int) + 119 = ((165 : Nat) : Int) ∧ 46 + 3 = 49 := ⟨rfl, rfl, rfl⟩
theorem xc241_49 : pmCode 241 49 = some (.aload_n 0) ∧ 49 + 1 = 50 := ⟨rfl, rfl⟩
theorem xc241_50 : pmCode 241 50 = some (.getfield 121) ∧ 50 + 3 = 53 := ⟨rfl, rfl⟩
theorem xc241_53 : pmCode 241 53 = some (.iconst 4) ∧ 53 + 1 = 54 := ⟨rfl, rfl⟩
theorem xc241_54 : pmCode 241 54 = some (.iload_n 1) ∧ 54 + 1 = 55 := ⟨rfl, rfl⟩
theorem xc241_55 : pmCode 241 55 = some .imul ∧ 55 + 1 = 56 := ⟨rfl, rfl⟩
theorem xc241_56 : pmCode 241 56 = some (.iload 4) ∧ 56 + 2 = 58 := ⟨rfl, rfl⟩
theorem xc241_58 : pmCode 241 58 = some .iadd ∧ 58 + 1 = 59 := ⟨rfl, rfl⟩
theorem xc241_59 : pmCode 241 59 = some .baload ∧ 59 + 1 = 60 := ⟨rfl, rfl⟩
theorem xc241_60 : pmCode 241 60 = some (.ifCond .ne 6) ∧ ((60 : Nat) : Int) + 6 = ((66 : Nat) : Int) ∧ 60 + 3 = 63 := ⟨rfl, rfl, rfl⟩
theorem xc241_63 : pmCode 241 63 = some (.goto 96) ∧ ((63 : Nat) : Int) + 96 = ((159 : Nat) : Int) := ⟨rfl, rfl⟩
theorem xc241_66 : pmCode 241 66 = some (.aload_n 0) ∧ 66 + 1 = 67 := ⟨rfl, rfl⟩
theorem xc241_67 : pmCode 241 67 = some (.getfield 109) ∧ 67 + 3 = 70 := ⟨rfl, rfl⟩
theorem xc241_70 : pmCode 241 70 = some (.iconst 4) ∧ 70 + 1 = 71 := ⟨rfl, rfl⟩
theorem xc241_71 : pmCode 241 71 = some (.iload_n 1) ∧ 71 + 1 = 72 := ⟨rfl, rfl⟩
theorem xc241_72 : pmCode 241 72 = some .imul ∧ 72 + 1 = 73 := ⟨rfl, rfl⟩
theorem xc241_73 : pmCode 241 73 = some (.iload 4) ∧ 73 + 2 = 75 := ⟨rfl, rfl⟩
theorem xc241_75 : pmCode 241 75 = some .iadd ∧ 75 + 1 = 76 := ⟨rfl, rfl⟩
theorem xc241_76 : pmCode 241 76 = some .iaload ∧ 76 + 1 = 77 := ⟨rfl, rfl⟩
theorem xc241_77 : pmCode 241 77 = some (.istore 5) ∧ 77 + 2 = 79 := ⟨rfl, rfl⟩
theorem xc241_79 : pmCode 241 79 = some (.iload_n 3) ∧ 79 + 1 = 80 := ⟨rfl, rfl⟩
theorem xc241_80 : pmCode 241 80 = some (.iconst 4) ∧ 80 + 1 = 81 := ⟨rfl, rfl⟩
theorem xc241_81 : pmCode 241 81 = some (.iload_n 2) ∧ 81 + 1 = 82 := ⟨rfl, rfl⟩
theorem xc241_82 : pmCode 241 82 = some .imul ∧ 82 + 1 = 83 := ⟨rfl, rfl⟩
theorem xc241_83 : pmCode 241 83 = some (.if_icmp .eq 13) ∧ ((83 : Nat) : Int) + 13 = ((96 : Nat) : Int) ∧ 83 + 3 = 86 := ⟨rfl, rfl, rfl⟩
theorem xc241_86 : pmCode 241 86 = some (.aload_n 0) ∧ 86 + 1 = 87 := ⟨rfl, rfl⟩
theorem xc241_87 : pmCode 241 87 = some (.iload_n 3) ∧ 87 + 1 = 88 := ⟨rfl, rfl⟩
theorem xc241_88 : pmCode 241 88 = some (.invokevirtual 433) ∧ 88 + 3 = 91 := ⟨rfl, rfl⟩
theorem xc241_91 : pmCode 241 91 = some (.iload 4) ∧ 91 + 2 = 93 := ⟨rfl, rfl⟩
theorem xc241_93 : pmCode 241 93 = some (.if_icmp .eq 5) ∧ ((93 : Nat) : Int) + 5 = ((98 : Nat) : Int) ∧ 93 + 3 = 96 := ⟨rfl, rfl, rfl⟩
theorem xc241_96 : pmCode 241 96 = some (.iload_n 3) ∧ 96 + 1 = 97 := ⟨rfl, rfl⟩
theorem xc241_97 : pmCode 241 97 = some .ireturn := rfl
theorem xc241_98 : pmCode 241 98 = some (.aload_n 0) ∧ 98 + 1 = 99 := ⟨rfl, rfl⟩
theorem xc241_99 : pmCode 241 99 = some (.iload_n 3) ∧ 99 + 1 = 100 := ⟨rfl, rfl⟩
theorem xc241_100 : pmCode 241 100 = some (.iconst 1) ∧ 100 + 1 = 101 := ⟨rfl, rfl⟩
theorem xc241_101 : pmCode 241 101 = some .iadd ∧ 101 + 1 = 102 := ⟨rfl, rfl⟩
theorem xc241_102 : pmCode 241 102 = some (.invokevirtual 433) ∧ 102 + 3 = 105 := ⟨rfl, rfl⟩
theorem xc241_105 : pmCode 241 105 = some (.iload 5) ∧ 105 + 2 = 107 := ⟨rfl, rfl⟩
theorem xc241_107 : pmCode 241 107 = some (.invokestatic 279) ∧ 107 + 3 = 110 := ⟨rfl, rfl⟩
theorem xc241_110 : pmCode 241 110 = some (.if_icmp .eq 7) ∧ ((110 : Nat) : Int) + 7 = ((117 : Nat) : Int) ∧ 110 + 3 = 113 := ⟨rfl, rfl, rfl⟩
theorem xc241_113 : pmCode 241 113 = some (.iload_n 3) ∧ 113 + 1 = 114 := ⟨rfl, rfl⟩
theorem xc241_114 : pmCode 241 114 = some (.iconst 1) ∧ 114 + 1 = 115 := ⟨rfl, rfl⟩
theorem xc241_115 : pmCode 241 115 = some .iadd ∧ 115 + 1 = 116 := ⟨rfl, rfl⟩
theorem xc241_116 : pmCode 241 116 = some .ireturn := rfl
theorem xc241_117 : pmCode 241 117 = some (.aload_n 0) ∧ 117 + 1 = 118 := ⟨rfl, rfl⟩
theorem xc241_118 : pmCode 241 118 = some (.iload_n 3) ∧ 118 + 1 = 119 := ⟨rfl, rfl⟩
theorem xc241_119 : pmCode 241 119 = some (.iconst 2) ∧ 119 + 1 = 120 := ⟨rfl, rfl⟩
theorem xc241_120 : pmCode 241 120 = some .iadd ∧ 120 + 1 = 121 := ⟨rfl, rfl⟩
theorem xc241_121 : pmCode 241 121 = some (.invokevirtual 433) ∧ 121 + 3 = 124 := ⟨rfl, rfl⟩
theorem xc241_124 : pmCode 241 124 = some (.iload 5) ∧ 124 + 2 = 126 := ⟨rfl, rfl⟩
theorem xc241_126 : pmCode 241 126 = some (.invokestatic 276) ∧ 126 + 3 = 129 := ⟨rfl, rfl⟩
theorem xc241_129 : pmCode 241 129 = some (.if_icmp .eq 7) ∧ ((129 : Nat) : Int) + 7 = ((136 : Nat) : Int) ∧ 129 + 3 = 132 := ⟨rfl, rfl, rfl⟩
theorem xc241_132 : pmCode 241 132 = some (.iload_n 3) ∧ 132 + 1 = 133 := ⟨rfl, rfl⟩
theorem xc241_133 : pmCode 241 133 = some (.iconst 2) ∧ 133 + 1 = 134 := ⟨rfl, rfl⟩
theorem xc241_134 : pmCode 241 134 = some .iadd ∧ 134 + 1 = 135 := ⟨rfl, rfl⟩
theorem xc241_135 : pmCode 241 135 = some .ireturn := rfl
theorem xc241_136 : pmCode 241 136 = some (.aload_n 0) ∧ 136 + 1 = 137 := ⟨rfl, rfl⟩
theorem xc241_137 : pmCode 241 137 = some (.iload_n 3) ∧ 137 + 1 = 138 := ⟨rfl, rfl⟩
theorem xc241_138 : pmCode 241 138 = some (.iconst 3) ∧ 138 + 1 = 139 := ⟨rfl, rfl⟩
theorem xc241_139 : pmCode 241 139 = some .iadd ∧ 139 + 1 = 140 := ⟨rfl, rfl⟩
theorem xc241_140 : pmCode 241 140 = some (.invokevirtual 433) ∧ 140 + 3 = 143 := ⟨rfl, rfl⟩
theorem xc241_143 : pmCode 241 143 = some (.iload 5) ∧ 143 + 2 = 145 := ⟨rfl, rfl⟩
theorem xc241_145 : pmCode 241 145 = some (.invokestatic 282) ∧ 145 + 3 = 148 := ⟨rfl, rfl⟩
theorem xc241_148 : pmCode 241 148 = some (.if_icmp .eq 7) ∧ ((148 : Nat) : Int) + 7 = ((155 : Nat) : Int) ∧ 148 + 3 = 151 := ⟨rfl, rfl, rfl⟩
theorem xc241_151 : pmCode 241 151 = some (.iload_n 3) ∧ 151 + 1 = 152 := ⟨rfl, rfl⟩
theorem xc241_152 : pmCode 241 152 = some (.iconst 3) ∧ 152 + 1 = 153 := ⟨rfl, rfl⟩
theorem xc241_153 : pmCode 241 153 = some .iadd ∧ 153 + 1 = 154 := ⟨rfl, rfl⟩
theorem xc241_154 : pmCode 241 154 = some .ireturn := rfl
theorem xc241_155 : pmCode 241 155 = some (.iload_n 3) ∧ 155 + 1 = 156 := ⟨rfl, rfl⟩
theorem xc241_156 : pmCode 241 156 = some (.iconst 4) ∧ 156 + 1 = 157 := ⟨rfl, rfl⟩
theorem xc241_157 : pmCode 241 157 = some .iadd ∧ 157 + 1 = 158 := ⟨rfl, rfl⟩
theorem xc241_158 : pmCode 241 158 = some (.istore_n 3) ∧ 158 + 1 = 159 := ⟨rfl, rfl⟩
theorem xc241_159 : pmCode 241 159 = some (.iinc 4 1) ∧ 159 + 3 = 162 := ⟨rfl, rfl⟩
theorem xc241_162 : pmCode 241 162 = some (.goto (-119)) ∧ ((162 : Nat) : Int) + (-119) = ((43 : Nat) : Int) := ⟨rfl, rfl⟩
theorem xc241_165 : pmCode 241 165 = some (.iload_n 3) ∧ 165 + 1 = 166 := ⟨rfl, rfl⟩
theorem xc241_166 : pmCode 241 166 = some (.iconst 4) ∧ 166 + 1 = 167 := ⟨rfl, rfl⟩
theorem xc241_167 : pmCode 241 167 = some (.iload_n 2) ∧ 167 + 1 = 168 := ⟨rfl, rfl⟩
theorem xc241_168 : pmCode 241 168 = some .imul ∧ 168 + 1 = 169 := ⟨rfl, rfl⟩
theorem xc241_169 : pmCode 241 169 = some (.if_icmp .ge 7) ∧ ((169 : Nat) : Int) + 7 = ((176 : Nat) : Int) ∧ 169 + 3 = 172 := ⟨rfl, rfl, rfl⟩
theorem xc241_172 : pmCode 241 172 = some (.iload_n 3) ∧ 172 + 1 = 173 := ⟨rfl, rfl⟩
theorem xc241_173 : pmCode 241 173 = some (.goto 4) ∧ ((173 : Nat) : Int) + 4 = ((177 : Nat) : Int) := ⟨rfl, rfl⟩
theorem xc241_176 : pmCode 241 176 = some (.iconst (-1)) ∧ 176 + 1 = 177 := ⟨rfl, rfl⟩
theorem xc241_177 : pmCode 241 177 = some .ireturn := rfl
theorem xc242_0 : pmCode 242 0 = some (.iconst 0) ∧ 0 + 1 = 1 := ⟨rfl, rfl⟩
theorem xc242_1 : pmCode 242 1 = some (.istore_n 2) ∧ 1 + 1 = 2 := ⟨rfl, rfl⟩
theorem xc242_2 : pmCode 242 2 = some (.iconst 4) ∧ 2 + 1 = 3 := ⟨rfl, rfl⟩
theorem xc242_3 : pmCode 242 3 = some (.iload_n 1) ∧ 3 + 1 = 4 := ⟨rfl, rfl⟩
theorem xc242_4 : pmCode 242 4 = some .imul ∧ 4 + 1 = 5 := ⟨rfl, rfl⟩
theorem xc242_5 : pmCode 242 5 = some (.istore_n 3) ∧ 5 + 1 = 6 := ⟨rfl, rfl⟩
theorem xc242_6 : pmCode 242 6 = some (.iload_n 3) ∧ 6 + 1 = 7 := ⟨rfl, rfl⟩
theorem xc242_7 : pmCode 242 7 = some (.iconst 4) ∧ 7 + 1 = 8 := ⟨rfl, rfl⟩
theorem xc242_8 : pmCode 242 8 = some (.iload_n 1) ∧ 8 + 1 = 9 := ⟨rfl, rfl⟩
theorem xc242_9 : pmCode 242 9 = some .imul ∧ 9 + 1 = 10 := ⟨rfl, rfl⟩
theorem xc242_10 : pmCode 242 10 = some (.iconst 4) ∧ 10 + 1 = 11 := ⟨rfl, rfl⟩
theorem xc242_11 : pmCode 242 11 = some .iadd ∧ 11 + 1 = 12 := ⟨rfl, rfl⟩
theorem xc242_12 : pmCode 242 12 = some (.if_icmp .ge 25) ∧ ((12 : Nat) : Int) + 25 = ((37 : Nat) : Int) ∧ 12 + 3 = 15 := ⟨rfl, rfl, rfl⟩
theorem xc242_15 : pmCode 242 15 = some (.iload_n 2) ∧ 15 + 1 = 16 := ⟨rfl, rfl⟩
theorem xc242_16 : pmCode 242 16 = some (.bipush 8) ∧ 16 + 2 = 18 := ⟨rfl, rfl⟩
theorem xc242_18 : pmCode 242 18 = some .ishl ∧ 18 + 1 = 19 := ⟨rfl, rfl⟩
theorem xc242_19 : pmCode 242 19 = some (.aload_n 0) ∧ 19 + 1 = 20 := ⟨rfl, rfl⟩
theorem xc242_20 : pmCode 242 20 = some (.getfield 26) ∧ 20 + 3 = 23 := ⟨rfl, rfl⟩
theorem xc242_23 : pmCode 242 23 = some (.iload_n 3) ∧ 23 + 1 = 24 := ⟨rfl, rfl⟩
theorem xc242_24 : pmCode 242 24 = some .baload ∧ 24 + 1 = 25 := ⟨rfl, rfl⟩
theorem xc242_25 : pmCode 242 25 = some (.sipush 255) ∧ 25 + 3 = 28 := ⟨rfl, rfl⟩
theorem xc242_28 : pmCode 242 28 = some .iand ∧ 28 + 1 = 29 := ⟨rfl, rfl⟩
theorem xc242_29 : pmCode 242 29 = some .ior ∧ 29 + 1 = 30 := ⟨rfl, rfl⟩
theorem xc242_30 : pmCode 242 30 = some (.istore_n 2) ∧ 30 + 1 = 31 := ⟨rfl, rfl⟩
theorem xc242_31 : pmCode 242 31 = some (.iinc 3 1) ∧ 31 + 3 = 34 := ⟨rfl, rfl⟩
theorem xc242_34 : pmCode 242 34 = some (.goto (-28)) ∧ ((34 : Nat) : Int) + (-28) = ((6 : Nat) : Int) := ⟨rfl, rfl⟩
theorem xc242_37 : pmCode 242 37 = some (.iload_n 2) ∧ 37 + 1 = 38 := ⟨rfl, rfl⟩
theorem xc242_38 : pmCode 242 38 = some .ireturn := rfl
theorem wa45 {ro : Nat → Nat × (Nat → Int32)} {d : Nat} {Q : Option Value → pmS → Prop} {a : xA} {b : xB}
    (k1 : Q none (xS (xU a 1 1 0) b)) :
    pmWp ro d 6 45 0 0 [some (.ref 1)] [] (xS a b) Q := by
  refine x_aloadn xc45_0 rfl ?_
  refine x_iconst xc45_1 ?_
  refine x_pfi (k := 1) xc45_2 rfl ⟨rfl, rfl⟩ rfl xz1 ?_
  refine x_ret xc45_5 rfl ?_
  exact k1

theorem wa131 {ro : Nat → Nat × (Nat → Int32)} {d : Nat} {Q : Option Value → pmS → Prop} {c : Int} {a : xA} {b : xB}
    (k1 : pmWp ro d 6 131 1 4 [some (.ref 1), some (xV c), some (xV 0), some (xV 0), none] [] (xS a b) Q) :
    pmWp ro d 6 131 1 0 [some (.ref 1), some (xV c), none, none, none] [] (xS a b) Q := by
  refine x_iconst xc131_0 ?_
  refine x_istoren (pl' := [some (.ref 1), some (xV c), some (xV 0), none, none]) xc131_1 rfl rfl ?_
  refine x_iconst xc131_2 ?_
  refine x_istoren (pl' := [some (.ref 1), some (xV c), some (xV 0), some (xV 0), none]) xc131_3 rfl rfl ?_
  exact k1

theorem xg131 {ro : Nat → Nat × (Nat → Int32)} {d : Nat} {Q : Option Value → pmS → Prop} {a : xA} {b : xB} {c : Int} (h : pmWp ro d 6 131 1 0 [some (.ref 1), some (xV c), none, none, none] [] (xS a b) Q) : pmCs ro (d + 1) 131 [.ref 1, xV c] (xS a b) Q := x_go xi131 rfl rfl rfl rfl rfl h
theorem wa131a {ro : Nat → Nat × (Nat → Int32)} {d : Nat} {Q : Option Value → pmS → Prop} {v4 : Option Value} {c z i l : Int} {a : xA} {b : xB} (hA : xAr a) (hc : 0 ≤ c ∧ 4 * c + 4 ≤ l) (qz : xR z) (hi : 0 ≤ i ∧ i ≤ 4) (hl : a 1 1 = l) (hl0 : 0 ≤ l ∧ l ≤ 400)
    (k1 : (4 ≤ i) → Q (some (xV z)) (xS a b))
    (k2 : (¬ 4 ≤ i) → (4 * c + i < 0) → pmWp ro d 6 131 1 4 [some (.ref 1), some (xV c), some (xV (xOr (z * 256) 0)), some (xV (i + 1)), some (xV (4 * c + i))] [] (xS a b) Q)
    (k3 : (¬ 4 ≤ i) → (¬ 4 * c + i < 0) → (l ≤ 4 * c + i) → pmWp ro d 6 131 1 4 [some (.ref 1), some (xV c), some (xV (xOr (z * 256) 0)), some (xV (i + 1)), some (xV (4 * c + i))] [] (xS a b) Q)
    (k4 : (¬ 4 ≤ i) → (¬ 4 * c + i < 0) → (¬ l ≤ 4 * c + i) → pmWp ro d 6 131 1 4 [some (.ref 1), some (xV c), some (xV (xOr (z * 256) (a 2 (4 * c + i)))), some (xV (i + 1)), some (xV (4 * c + i))] [] (xS a b) Q) :
    pmWp ro d 6 131 1 4 [some (.ref 1), some (xV c), some (xV z), some (xV i), v4] [] (xS a b) Q := by
  refine x_iloadn xc131_4 rfl ?_
  refine x_iconst xc131_5 ?_
  refine x_icge xc131_6 (xRk (by have g0 := hi; omega)) (xRk (by decide)) (fun h0 => ?_) (fun h0 => ?_)
  · refine x_iloadn xc131_53 rfl ?_
    refine x_iret xc131_54 (Or.inl rfl) ?_
    exact k1 h0
  · refine x_iconst xc131_9 ?_
    refine x_iloadn xc131_10 rfl ?_
    refine x_imul xc131_11 ?_
    refine x_iloadn xc131_12 rfl ?_
    refine x_iadd xc131_13 ?_
    refine x_istore (pl' := [some (.ref 1), some (xV c), some (xV z), some (xV i), some (xV (4 * c + i))]) xc131_14 rfl rfl ?_
    refine x_iloadn xc131_16 rfl ?_
    refine x_bipush xc131_17 (by decide) ?_
    refine x_ishl (M := 256) (by omega) (by omega) (by decide) xc131_19 ?_
    refine x_iload xc131_20 rfl ?_
    refine x_iflt xc131_22 (xRk (by have g0 := hc; have g1 := hi; omega)) (fun h1 => ?_) (fun h1 => ?_)
    · refine x_iconst xc131_44 ?_
      refine x_ior xc131_45 ?_
      refine x_istoren (pl' := [some (.ref 1), some (xV c), some (xV (xOr (z * 256) 0)), some (xV i), some (xV (4 * c + i))]) xc131_46 rfl rfl ?_
      refine x_iinc (pl' := [some (.ref 1), some (xV c), some (xV (xOr (z * 256) 0)), some (xV (i + 1)), some (xV (4 * c + i))]) xc131_47 rfl rfl ?_
      refine x_goto xc131_50 ?_
      exact k2 h0 h1
    · refine x_iload xc131_25 rfl ?_
      refine x_aloadn xc131_27 rfl ?_
      refine x_gfi' (k := 1) (v := l) xc131_28 rfl (Or.inl rfl) rfl xz1 hl ?_
      refine x_icge xc131_31 (xRk (by have g0 := hc; have g1 := hi; omega)) (xRk (by have g0 := hl0; omega)) (fun h2 => ?_) (fun h2 => ?_)
      · refine x_iconst xc131_44 ?_
        refine x_ior xc131_45 ?_
        refine x_istoren (pl' := [some (.ref 1), some (xV c), some (xV (xOr (z * 256) 0)), some (xV i), some (xV (4 * c + i))]) xc131_46 rfl rfl ?_
        refine x_iinc (pl' := [some (.ref 1), some (xV c), some (xV (xOr (z * 256) 0)), some (xV (i + 1)), some (xV (4 * c + i))]) xc131_47 rfl rfl ?_
        refine x_goto xc131_50 ?_
        exact k3 h0 h1 h2
      · refine x_aloadn xc131_34 rfl ?_
        refine x_gfr xc131_35 rfl rfl xz1 rfl ?_
        refine x_iload xc131_38 rfl ?_
        refine x_ial xc131_40 xz2 rfl (by have g0 := hc; have g1 := hi; omega) (by have g0 := hc; have g1 := hi; omega) (by have g0 := hc; have g1 := hi; omega) ?_
        refine x_goto xc131_41 ?_
        refine x_ior xc131_45 ?_
        refine x_istoren (pl' := [some (.ref 1), some (xV c), some (xV (xOr (z * 256) (a 2 (4 * c + i)))), some (xV i), some (xV (4 * c + i))]) xc131_46 rfl rfl ?_
        refine x_iinc (pl' := [some (.ref 1), some (xV c), some (xV (xOr (z * 256) (a 2 (4 * c + i)))), some (xV (i + 1)), some (xV (4 * c + i))]) xc131_47 rfl rfl ?_
        refine x_goto xc131_50 ?_
        exact k4 h0 h1 h2

theorem wa130 {ro : Nat → Nat × (Nat → Int32)} {d : Nat} {Q : Option Value → pmS → Prop} {t n : Int} {a : xA} {b : xB}
    (k1 : pmWp ro d 0 130 1 6 [some (.ref 79), some (.ref 1), some (xV t), some (xV n), some (xV 0), some (xV 0), none, none, none] [] (xS a b) Q) :
    pmWp ro d 0 130 1 0 [some (.ref 79), some (.ref 1), some (xV t), some (xV n), none, none, none, none, none] [] (xS a b) Q := by
  refine x_iconst xc130_0 ?_
  refine x_istore (pl' := [some (.ref 79), some (.ref 1), some (xV t), some (xV n), some (xV 0), none, none, none, none]) xc130_1 rfl rfl ?_
  refine x_iconst xc130_3 ?_
  refine x_istore (pl' := [some (.ref 79), some (.ref 1), some (xV t), some (xV n), some (xV 0), some (xV 0), none, none, none]) xc130_4 rfl rfl ?_
  exact k1

theorem xg130 {ro : Nat → Nat × (Nat → Int32)} {d : Nat} {Q : Option Value → pmS → Prop} {a : xA} {b : xB} {t n : Int} (h : pmWp ro d 0 130 1 0 [some (.ref 79), some (.ref 1), some (xV t), some (xV n), none, none, none, none, none] [] (xS a b) Q) : pmCs ro (d + 1) 130 [.ref 79, .ref 1, xV t, xV n] (xS a b) Q := x_go xi130 rfl rfl rfl rfl rfl h
theorem wa130a {ro : Nat → Nat × (Nat → Int32)} {d : Nat} {Q : Option Value → pmS → Prop} {v6 : Option Value} {v7 : Option Value} {v8 : Option Value} {t n c p : Int} {a : xA} {b : xB} (hA : xAr a) (ht : 1 ≤ t ∧ t ≤ 60) (hn : 0 ≤ n ∧ n ≤ 25) (hc : 0 ≤ c ∧ c ≤ 100) (hp : 0 ≤ p ∧ p ≤ 4) (hd : 2 ≤ d)
    (k1 : (4 ≤ p) → (4 * n ≤ c) → Q (some (xV (-1))) (xS a b))
    (k2 : (4 ≤ p) → (¬ 4 * n ≤ c) → Q (some (xV c)) (xS a b))
    (k3 : (¬ 4 ≤ p) → pmWp ro d 0 130 1 24 [some (.ref 79), some (.ref 1), some (xV t), some (xV n), some (xV c), some (xV p), some (xV (a 85 (t * 4 + p))), some (xV (-1)), v8] [] (xS a b) Q) :
    pmWp ro d 0 130 1 6 [some (.ref 79), some (.ref 1), some (xV t), some (xV n), some (xV c), some (xV p), v6, v7, v8] [] (xS a b) Q := by
  refine x_iload xc130_6 rfl ?_
  refine x_iconst xc130_8 ?_
  refine x_icge xc130_9 (xRk (by have g0 := hp; omega)) (xRk (by decide)) (fun h0 => ?_) (fun h0 => ?_)
  · refine x_iload xc130_93 rfl ?_
    refine x_iconst xc130_95 ?_
    refine x_iloadn xc130_96 rfl ?_
    refine x_imul xc130_97 ?_
    refine x_icge xc130_98 (xRk (by have g0 := hc; omega)) (xRk (by have g0 := hn; omega)) (fun h1 => ?_) (fun h1 => ?_)
    · refine x_iconst xc130_106 ?_
      refine x_iret xc130_107 (Or.inl rfl) ?_
      exact k1 h0 h1
    · refine x_iload xc130_101 rfl ?_
      refine x_goto xc130_103 ?_
      refine x_iret xc130_107 (Or.inl rfl) ?_
      exact k2 h0 h1
  · refine x_aloadn xc130_12 rfl ?_
    refine x_iloadn xc130_13 rfl ?_
    refine x_iload xc130_14 rfl ?_
    refine x_cV (as := [xV t, xV p]) (rest := []) xc130_16 rfl xi118 xz79 ⟨rfl, rfl⟩ rfl rfl ?_
    refine rk118 (by omega) (by have g0 := ht; omega) (by have g0 := hp; omega) ?_
    refine x_istore (pl' := [some (.ref 79), some (.ref 1), some (xV t), some (xV n), some (xV c), some (xV p), some (xV (a 85 (t * 4 + p))), v7, v8]) xc130_19 rfl rfl ?_
    refine x_iconst xc130_21 ?_
    refine x_istore (pl' := [some (.ref 79), some (.ref 1), some (xV t), some (xV n), some (xV c), some (xV p), some (xV (a 85 (t * 4 + p))), some (xV (-1)), v8]) xc130_22 rfl rfl ?_
    exact k3 h0

theorem wa130b {ro : Nat → Nat × (Nat → Int32)} {d : Nat} {Q : Option Value → pmS → Prop} {v8 : Option Value} {e s t n c p : Int} {a : xA} {b : xB} (hA : xAr a) (ht : 1 ≤ t ∧ t ≤ 60) (hn : 0 ≤ n ∧ n ≤ 25) (hc : 0 ≤ c ∧ c ≤ 100) (hp : 0 ≤ p ∧ p ≤ 3) (hd : 2 ≤ d) (he : -1 ≤ e ∧ e ≤ 50000) (hs : -1 ≤ s ∧ s ≤ 3)
    (k1 : (3 ≤ s) → pmWp ro d 0 130 1 87 [some (.ref 79), some (.ref 1), some (xV t), some (xV n), some (xV c), some (xV p), some (xV e), some (xV s), v8] [] (xS a b) Q)
    (k2 : (¬ 3 ≤ s) → (e = -1) → pmWp ro d 0 130 1 87 [some (.ref 79), some (.ref 1), some (xV t), some (xV n), some (xV c), some (xV p), some (xV e), some (xV s), v8] [] (xS a b) Q)
    (k3 : (¬ 3 ≤ s) → (¬ e = -1) → (¬ s = -1) → (4 * n ≤ c) → Q (some (xV c)) (xS a b))
    (k4 : (¬ 3 ≤ s) → (¬ e = -1) → (¬ s = -1) → (¬ 4 * n ≤ c) → pmCs ro d 131 [.ref 1, xV c] (xS a b) fun r σ' => pmWp ro d 0 130 1 70 [some (.ref 79), some (.ref 1), some (xV t), some (xV n), some (xV c), some (xV p), some (xV e), some (xV s), some (xV (uPrt e s))] (r.toList ++ []) σ' Q)
    (k5 : (¬ 3 ≤ s) → (¬ e = -1) → (s = -1) → (4 * n ≤ c) → Q (some (xV c)) (xS a b))
    (k6 : (¬ 3 ≤ s) → (¬ e = -1) → (s = -1) → (¬ 4 * n ≤ c) → pmCs ro d 131 [.ref 1, xV c] (xS a b) fun r σ' => pmWp ro d 0 130 1 70 [some (.ref 79), some (.ref 1), some (xV t), some (xV n), some (xV c), some (xV p), some (xV e), some (xV s), some (xV p)] (r.toList ++ []) σ' Q) :
    pmWp ro d 0 130 1 24 [some (.ref 79), some (.ref 1), some (xV t), some (xV n), some (xV c), some (xV p), some (xV e), some (xV s), v8] [] (xS a b) Q := by
  refine x_iload xc130_24 rfl ?_
  refine x_iconst xc130_26 ?_
  refine x_icge xc130_27 (xRk (by have g0 := hs; omega)) (xRk (by decide)) (fun h0 => ?_) (fun h0 => ?_)
  · exact k1 h0
  · refine x_iload xc130_30 rfl ?_
    refine x_iconst xc130_32 ?_
    refine x_iceq xc130_33 (xRk (by have g0 := he; omega)) (xRk (by decide)) (fun h1 => ?_) (fun h1 => ?_)
    · exact k2 h0 h1
    · refine x_iload xc130_36 rfl ?_
      refine x_iconst xc130_38 ?_
      refine x_icne xc130_39 (xRk (by have g0 := hs; omega)) (xRk (by decide)) (fun h2 => ?_) (fun h2 => ?_)
      · refine x_iload xc130_47 rfl ?_
        refine x_iload xc130_49 rfl ?_
        refine x_cS (as := [xV e, xV s]) (rest := []) xc130_51 rfl rfl xi83 ⟨rfl, rfl⟩ rfl rfl ?_
        refine rk83x (by omega) (xRk (by have g0 := he; omega)) (by have g0 := hs; omega) ?_
        refine x_istore (pl' := [some (.ref 79), some (.ref 1), some (xV t), some (xV n), some (xV c), some (xV p), some (xV e), some (xV s), some (xV (uPrt e s))]) xc130_54 rfl rfl ?_
        refine x_iload xc130_56 rfl ?_
        refine x_iconst xc130_58 ?_
        refine x_iloadn xc130_59 rfl ?_
        refine x_imul xc130_60 ?_
        refine x_icge xc130_61 (xRk (by have g0 := hc; omega)) (xRk (by have g0 := hn; omega)) (fun h3 => ?_) (fun h3 => ?_)
        · refine x_iload xc130_75 rfl ?_
          refine x_iret xc130_77 (Or.inl rfl) ?_
          exact k3 h0 h1 h2 h3
        · refine x_aloadn xc130_64 rfl ?_
          refine x_iload xc130_65 rfl ?_
          refine x_cV (as := [xV c]) (rest := []) xc130_67 rfl xi131 xz1 ⟨rfl, rfl⟩ rfl rfl ?_
          exact k4 h0 h1 h2 h3
      · replace h2 := Classical.not_not.mp h2
        refine x_iload xc130_42 rfl ?_
        refine x_goto xc130_44 ?_
        refine x_istore (pl' := [some (.ref 79), some (.ref 1), some (xV t), some (xV n), some (xV c), some (xV p), some (xV e), some (xV s), some (xV p)]) xc130_54 rfl rfl ?_
        refine x_iload xc130_56 rfl ?_
        refine x_iconst xc130_58 ?_
        refine x_iloadn xc130_59 rfl ?_
        refine x_imul xc130_60 ?_
        refine x_icge xc130_61 (xRk (by have g0 := hc; omega)) (xRk (by have g0 := hn; omega)) (fun h4 => ?_) (fun h4 => ?_)
        · refine x_iload xc130_75 rfl ?_
          refine x_iret xc130_77 (Or.inl rfl) ?_
          exact k5 h0 h1 h2 h4
        · refine x_aloadn xc130_64 rfl ?_
          refine x_iload xc130_65 rfl ?_
          refine x_cV (as := [xV c]) (rest := []) xc130_67 rfl xi131 xz1 ⟨rfl, rfl⟩ rfl rfl ?_
          exact k6 h0 h1 h2 h4

theorem wa130c {ro : Nat → Nat × (Nat → Int32)} {d : Nat} {Q : Option Value → pmS → Prop} {z v e s t n c p : Int} {a : xA} {b : xB} (hA : xAr a) (ht : 1 ≤ t ∧ t ≤ 60) (hn : 0 ≤ n ∧ n ≤ 25) (hc : 0 ≤ c ∧ c ≤ 100) (hp : 0 ≤ p ∧ p ≤ 3) (hd : 2 ≤ d) (he : -1 ≤ e ∧ e ≤ 50000) (hs : -1 ≤ s ∧ s ≤ 3) (hv : -1 ≤ v ∧ v ≤ 7) (qz : xR z)
    (k1 : (z = v) → pmWp ro d 0 130 1 24 [some (.ref 79), some (.ref 1), some (xV t), some (xV n), some (xV (c + 1)), some (xV p), some (xV e), some (xV (s + 1)), some (xV v)] [] (xS a b) Q)
    (k2 : (¬ z = v) → Q (some (xV c)) (xS a b)) :
    pmWp ro d 0 130 1 70 [some (.ref 79), some (.ref 1), some (xV t), some (xV n), some (xV c), some (xV p), some (xV e), some (xV s), some (xV v)] [xV z] (xS a b) Q := by
  refine x_iload xc130_70 rfl ?_
  refine x_iceq xc130_72 (xRk (by have g0 := xRb qz; omega)) (xRk (by have g0 := hv; omega)) (fun h0 => ?_) (fun h0 => ?_)
  · refine x_iinc (pl' := [some (.ref 79), some (.ref 1), some (xV t), some (xV n), some (xV (c + 1)), some (xV p), some (xV e), some (xV s), some (xV v)]) xc130_78 rfl rfl ?_
    refine x_iinc (pl' := [some (.ref 79), some (.ref 1), some (xV t), some (xV n), some (xV (c + 1)), some (xV p), some (xV e), some (xV (s + 1)), some (xV v)]) xc130_81 rfl rfl ?_
    refine x_goto xc130_84 ?_
    exact k1 h0
  · refine x_iload xc130_75 rfl ?_
    refine x_iret xc130_77 (Or.inl rfl) ?_
    exact k2 h0

theorem wa130d {ro : Nat → Nat × (Nat → Int32)} {d : Nat} {Q : Option Value → pmS → Prop} {v8 : Option Value} {e s t n c p : Int} {a : xA} {b : xB} (hA : xAr a) (ht : 1 ≤ t ∧ t ≤ 60) (hn : 0 ≤ n ∧ n ≤ 25) (hc : 0 ≤ c ∧ c ≤ 100) (hp : 0 ≤ p ∧ p ≤ 3) (hd : 2 ≤ d) (he : -1 ≤ e ∧ e ≤ 50000) (hs : -1 ≤ s ∧ s ≤ 3)
    (k1 : pmWp ro d 0 130 1 6 [some (.ref 79), some (.ref 1), some (xV t), some (xV n), some (xV c), some (xV (p + 1)), some (xV e), some (xV s), v8] [] (xS a b) Q) :
    pmWp ro d 0 130 1 87 [some (.ref 79), some (.ref 1), some (xV t), some (xV n), some (xV c), some (xV p), some (xV e), some (xV s), v8] [] (xS a b) Q := by
  refine x_iinc (pl' := [some (.ref 79), some (.ref 1), some (xV t), some (xV n), some (xV c), some (xV (p + 1)), some (xV e), some (xV s), v8]) xc130_87 rfl rfl ?_
  refine x_goto xc130_90 ?_
  exact k1

theorem wa129 {ro : Nat → Nat × (Nat → Int32)} {d : Nat} {Q : Option Value → pmS → Prop} {t n l : Int} {a : xA} {b : xB} (qr1 : xR t) (qr2 : xR n) (htn : 0 ≤ a 21 6 ∧ a 21 6 ≤ 60) (hl : a 1 1 = l) (hl0 : 0 ≤ l ∧ l ≤ 400)
    (k1 : (t < 1) → Q (some (xV (-2))) (xS a b))
    (k2 : (¬ t < 1) → (a 21 6 < t) → Q (some (xV (-2))) (xS a b))
    (k3 : (¬ t < 1) → (¬ a 21 6 < t) → (n < 0) → Q (some (xV (-2))) (xS a b))
    (k4 : (¬ t < 1) → (¬ a 21 6 < t) → (¬ n < 0) → (n ≤ l / 16) → pmCs ro d 130 [.ref 79, .ref 1, xV t, xV n] (xS a b) fun r σ' => pmWp ro d 11 129 1 50 [some (.ref 0), some (xV t), some (xV n), none] (r.toList ++ []) σ' Q)
    (k5 : (¬ t < 1) → (¬ a 21 6 < t) → (¬ n < 0) → (¬ n ≤ l / 16) → Q (some (xV (-2))) (xS a b)) :
    pmWp ro d 11 129 1 0 [some (.ref 0), some (xV t), some (xV n), none] [] (xS a b) Q := by
  refine x_iloadn xc129_0 rfl ?_
  refine x_iconst xc129_1 ?_
  refine x_iclt xc129_2 (xRk (by have g0 := xRb qr1; omega)) (xRk (by decide)) (fun h0 => ?_) (fun h0 => ?_)
  · refine x_bipush xc129_34 (by decide) ?_
    refine x_iret xc129_36 (Or.inl rfl) ?_
    exact k1 h0
  · refine x_iloadn xc129_5 rfl ?_
    refine x_aloadn xc129_6 rfl ?_
    refine x_gfr xc129_7 rfl rfl xz0 rfl ?_
    refine x_gfi (k := 6) xc129_10 rfl (Or.inl rfl) rfl xz21 ?_
    refine x_icgt xc129_13 (xRk (by have g0 := xRb qr1; omega)) (xRk (by have g0 := htn; omega)) (fun h1 => ?_) (fun h1 => ?_)
    · refine x_bipush xc129_34 (by decide) ?_
      refine x_iret xc129_36 (Or.inl rfl) ?_
      exact k2 h0 h1
    · refine x_iloadn xc129_16 rfl ?_
      refine x_iflt xc129_17 (xRk (by have g0 := xRb qr2; omega)) (fun h2 => ?_) (fun h2 => ?_)
      · refine x_bipush xc129_34 (by decide) ?_
        refine x_iret xc129_36 (Or.inl rfl) ?_
        exact k3 h0 h1 h2
      · refine x_iloadn xc129_20 rfl ?_
        refine x_aloadn xc129_21 rfl ?_
        refine x_gfr xc129_22 rfl rfl xz0 rfl ?_
        refine x_gfi' (k := 1) (v := l) xc129_25 rfl (Or.inl rfl) rfl xz1 hl ?_
        refine x_bipush xc129_28 (by decide) ?_
        refine x_idiv (by have g0 := hl0; omega) (xRk (by have g0 := hl0; omega)) (by omega) (xRk (by decide)) xc129_30 ?_
        refine x_icle xc129_31 (xRk (by have g0 := xRb qr2; omega)) (xRk (by have g0 := hl0; omega)) (fun h3 => ?_) (fun h3 => ?_)
        · refine x_aloadn xc129_37 rfl ?_
          refine x_gfr xc129_38 rfl rfl xz0 rfl ?_
          refine x_aloadn xc129_41 rfl ?_
          refine x_gfr xc129_42 rfl rfl xz0 rfl ?_
          refine x_iloadn xc129_45 rfl ?_
          refine x_iloadn xc129_46 rfl ?_
          refine x_cV (as := [.ref 1, xV t, xV n]) (rest := []) xc129_47 rfl xi130 xz79 ⟨rfl, rfl⟩ rfl rfl ?_
          exact k4 h0 h1 h2 h3
        · refine x_bipush xc129_34 (by decide) ?_
          refine x_iret xc129_36 (Or.inl rfl) ?_
          exact k5 h0 h1 h2 h3

theorem wa129a {ro : Nat → Nat × (Nat → Int32)} {d : Nat} {Q : Option Value → pmS → Prop} {t n z : Int} {a : xA} {b : xB}
    (k1 : pmCs ro d 45 [.ref 1] (xS a b) fun r σ' => pmWp ro d 11 129 1 58 [some (.ref 0), some (xV t), some (xV n), some (xV z)] (r.toList ++ []) σ' Q) :
    pmWp ro d 11 129 1 50 [some (.ref 0), some (xV t), some (xV n), none] [xV z] (xS a b) Q := by
  refine x_istoren (pl' := [some (.ref 0), some (xV t), some (xV n), some (xV z)]) xc129_50 rfl rfl ?_
  refine x_aloadn xc129_51 rfl ?_
  refine x_gfr xc129_52 rfl rfl xz0 rfl ?_
  refine x_cV (as := []) (rest := []) xc129_55 rfl xi45 xz1 ⟨rfl, rfl⟩ rfl rfl ?_
  exact k1

theorem wa129b {ro : Nat → Nat × (Nat → Int32)} {d : Nat} {Q : Option Value → pmS → Prop} {t n z : Int} {a : xA} {b : xB}
    (k1 : Q (some (xV z)) (xS a b)) :
    pmWp ro d 11 129 1 58 [some (.ref 0), some (xV t), some (xV n), some (xV z)] [] (xS a b) Q := by
  refine x_iloadn xc129_58 rfl ?_
  refine x_iret xc129_59 (Or.inl rfl) ?_
  exact k1

theorem wa242 {ro : Nat → Nat × (Nat → Int32)} {d : Nat} {Q : Option Value → pmS → Prop} {c : Int} {a : xA} {b : xB} (hc : 0 ≤ c ∧ c ≤ 99)
    (k1 : pmWp ro d 12 242 1 6 [some (.ref 87), some (xV c), some (xV 0), some (xV (4 * c))] [] (xS a b) Q) :
    pmWp ro d 12 242 1 0 [some (.ref 87), some (xV c), none, none] [] (xS a b) Q := by
  refine x_iconst xc242_0 ?_
  refine x_istoren (pl' := [some (.ref 87), some (xV c), some (xV 0), none]) xc242_1 rfl rfl ?_
  refine x_iconst xc242_2 ?_
  refine x_iloadn xc242_3 rfl ?_
  refine x_imul xc242_4 ?_
  refine x_istoren (pl' := [some (.ref 87), some (xV c), some (xV 0), some (xV (4 * c))]) xc242_5 rfl rfl ?_
  exact k1

theorem xg242 {ro : Nat → Nat × (Nat → Int32)} {d : Nat} {Q : Option Value → pmS → Prop} {a : xA} {b : xB} {c : Int} (h : pmWp ro d 12 242 1 0 [some (.ref 87), some (xV c), none, none] [] (xS a b) Q) : pmCs ro (d + 1) 242 [.ref 87, xV c] (xS a b) Q := x_go xi242 rfl rfl rfl rfl rfl h
theorem wa242a {ro : Nat → Nat × (Nat → Int32)} {d : Nat} {Q : Option Value → pmS → Prop} {c z i : Int} {a : xA} {b : xB} (hA : xAr a) (hc : 0 ≤ c ∧ c ≤ 99) (qz : xR z) (hi : 4 * c ≤ i ∧ i ≤ 4 * c + 4)
    (k1 : (4 * c + 4 ≤ i) → Q (some (xV z)) (xS a b))
    (k2 : (¬ 4 * c + 4 ≤ i) → pmWp ro d 12 242 1 6 [some (.ref 87), some (xV c), some (xV (xOr (z * 256) ((a 93 i) % 256))), some (xV (i + 1))] [] (xS a b) Q) :
    pmWp ro d 12 242 1 6 [some (.ref 87), some (xV c), some (xV z), some (xV i)] [] (xS a b) Q := by
  refine x_iloadn xc242_6 rfl ?_
  refine x_iconst xc242_7 ?_
  refine x_iloadn xc242_8 rfl ?_
  refine x_imul xc242_9 ?_
  refine x_iconst xc242_10 ?_
  refine x_iadd xc242_11 ?_
  refine x_icge xc242_12 (xRk (by have g0 := hi; omega)) (xRk (by have g0 := hc; omega)) (fun h0 => ?_) (fun h0 => ?_)
  · refine x_iloadn xc242_37 rfl ?_
    refine x_iret xc242_38 (Or.inl rfl) ?_
    exact k1 h0
  · refine x_iloadn xc242_15 rfl ?_
    refine x_bipush xc242_16 (by decide) ?_
    refine x_ishl (M := 256) (by omega) (by omega) (by decide) xc242_18 ?_
    refine x_aloadn xc242_19 rfl ?_
    refine x_gfr xc242_20 rfl rfl xz87 rfl ?_
    refine x_iloadn xc242_23 rfl ?_
    refine x_bal xc242_24 xz93 (Or.inr rfl) (by have g0 := hi; omega) (by have g0 := hi; omega) (by have g0 := hi; omega) ?_
    refine x_sipush xc242_25 (by decide) ?_
    refine x_iandm (M := 256) 8 (by decide) (by decide) (by decide) xc242_28 ?_
    refine x_ior xc242_29 ?_
    refine x_istoren (pl' := [some (.ref 87), some (xV c), some (xV (xOr (z * 256) ((a 93 i) % 256))), some (xV i)]) xc242_30 rfl rfl ?_
    refine x_iinc (pl' := [some (.ref 87), some (xV c), some (xV (xOr (z * 256) ((a 93 i) % 256))), some (xV (i + 1))]) xc242_31 rfl rfl ?_
    refine x_goto xc242_34 ?_
    exact k2 h0

theorem wa241 {ro : Nat → Nat × (Nat → Int32)} {d : Nat} {Q : Option Value → pmS → Prop} {t n tn l : Int} {a : xA} {b : xB} (qr1 : xR t) (qr2 : xR n) (hx : a 88 114 = tn) (htn : 0 ≤ tn ∧ tn ≤ 60) (hl : a 87 9 = l) (hl0 : 0 ≤ l ∧ l ≤ 400) (hd : 1 ≤ d)
    (k1 : (1 ≤ t ∧ t ≤ tn) → (n < 0) → Q (some (xV (-2))) (xS a b))
    (k2 : (1 ≤ t ∧ t ≤ tn) → (¬ n < 0) → (n ≤ l / 16) → pmWp ro d 12 241 1 43 [some (.ref 87), some (xV t), some (xV n), some (xV 0), some (xV 0), none] [] (xS (xU a 87 9 0) b) Q)
    (k3 : (1 ≤ t ∧ t ≤ tn) → (¬ n < 0) → (¬ n ≤ l / 16) → Q (some (xV (-2))) (xS a b))
    (k4 : (¬ (1 ≤ t ∧ t ≤ tn)) → Q (some (xV (-2))) (xS a b)) :
    pmWp ro d 12 241 1 0 [some (.ref 87), some (xV t), some (xV n), none, none, none] [] (xS a b) Q := by
  refine x_iloadn xc241_0 rfl ?_
  refine x_iconst xc241_1 ?_
  refine x_aloadn xc241_2 rfl ?_
  refine x_gfr xc241_3 rfl rfl xz87 rfl ?_
  refine x_bipush xc241_6 (by decide) ?_
  refine x_ial' (v := tn) xc241_8 xz88 rfl (by omega) (by omega) (by omega) hx ?_
  refine x_cS (as := [xV t, xV 1, xV tn]) (rest := []) xc241_9 rfl rfl xi143 ⟨rfl, rfl⟩ rfl rfl ?_
  refine xk143 (xRk (by have g0 := xRb qr1; omega)) (xRk (by decide)) (xRk (by have g0 := htn; omega)) (by omega) (fun h0 => ?_) (fun h1 => ?_)
  · refine x_ifeq xc241_12 (xRk (by decide)) (fun h => absurd h (by omega)) (fun _ => ?_)
    refine x_iloadn xc241_15 rfl ?_
    refine x_iflt xc241_16 (xRk (by have g0 := xRb qr2; omega)) (fun h3 => ?_) (fun h3 => ?_)
    · refine x_bipush xc241_30 (by decide) ?_
      refine x_iret xc241_32 (Or.inl rfl) ?_
      exact k1 h0 h3
    · refine x_iloadn xc241_19 rfl ?_
      refine x_aloadn xc241_20 rfl ?_
      refine x_gfi' (k := 9) (v := l) xc241_21 rfl (Or.inl rfl) rfl xz87 hl ?_
      refine x_bipush xc241_24 (by decide) ?_
      refine x_idiv (by have g0 := hl0; omega) (xRk (by have g0 := hl0; omega)) (by omega) (xRk (by decide)) xc241_26 ?_
      refine x_icle xc241_27 (xRk (by have g0 := xRb qr2; omega)) (xRk (by have g0 := hl0; omega)) (fun h4 => ?_) (fun h4 => ?_)
      · refine x_aloadn xc241_33 rfl ?_
        refine x_iconst xc241_34 ?_
        refine x_pfi (k := 9) xc241_35 rfl ⟨rfl, rfl⟩ rfl xz87 ?_
        refine x_iconst xc241_38 ?_
        refine x_istoren (pl' := [some (.ref 87), some (xV t), some (xV n), some (xV 0), none, none]) xc241_39 rfl rfl ?_
        refine x_iconst xc241_40 ?_
        refine x_istore (pl' := [some (.ref 87), some (xV t), some (xV n), some (xV 0), some (xV 0), none]) xc241_41 rfl rfl ?_
        exact k2 h0 h3 h4
      · refine x_bipush xc241_30 (by decide) ?_
        refine x_iret xc241_32 (Or.inl rfl) ?_
        exact k3 h0 h3 h4
  · refine x_ifeq xc241_12 (xRk (by decide)) (fun _ => ?_) (fun h => absurd h (by omega))
    refine x_bipush xc241_30 (by decide) ?_
    refine x_iret xc241_32 (Or.inl rfl) ?_
    exact k4 h1

theorem wa241a {ro : Nat → Nat × (Nat → Int32)} {d : Nat} {Q : Option Value → pmS → Prop} {v5 : Option Value} {t n c p : Int} {a : xA} {b : xB} (hA : xAr a) (ht : 1 ≤ t ∧ t ≤ 60) (hn : 0 ≤ n ∧ n ≤ 25) (hc : 0 ≤ c ∧ c ≤ 100) (hp : 0 ≤ p ∧ p ≤ 4) (hd : 2 ≤ d)
    (k1 : (4 ≤ p) → (4 * n ≤ c) → Q (some (xV (-1))) (xS a b))
    (k2 : (4 ≤ p) → (¬ 4 * n ≤ c) → Q (some (xV c)) (xS a b))
    (k3 : (¬ 4 ≤ p) → (¬ a 124 (4 * t + p) = 0) → (c = 4 * n) → Q (some (xV c)) (xS a b))
    (k4 : (¬ 4 ≤ p) → (¬ a 124 (4 * t + p) = 0) → (¬ c = 4 * n) → pmCs ro d 242 [.ref 87, xV c] (xS a b) fun r σ' => pmWp ro d 12 241 1 91 [some (.ref 87), some (xV t), some (xV n), some (xV c), some (xV p), some (xV (a 120 (4 * t + p)))] (r.toList ++ []) σ' Q)
    (k5 : (¬ 4 ≤ p) → (a 124 (4 * t + p) = 0) → pmWp ro d 12 241 1 159 [some (.ref 87), some (xV t), some (xV n), some (xV c), some (xV p), v5] [] (xS a b) Q) :
    pmWp ro d 12 241 1 43 [some (.ref 87), some (xV t), some (xV n), some (xV c), some (xV p), v5] [] (xS a b) Q := by
  refine x_iload xc241_43 rfl ?_
  refine x_iconst xc241_45 ?_
  refine x_icge xc241_46 (xRk (by have g0 := hp; omega)) (xRk (by decide)) (fun h0 => ?_) (fun h0 => ?_)
  · refine x_iloadn xc241_165 rfl ?_
    refine x_iconst xc241_166 ?_
    refine x_iloadn xc241_167 rfl ?_
    refine x_imul xc241_168 ?_
    refine x_icge xc241_169 (xRk (by have g0 := hc; omega)) (xRk (by have g0 := hn; omega)) (fun h1 => ?_) (fun h1 => ?_)
    · refine x_iconst xc241_176 ?_
      refine x_iret xc241_177 (Or.inl rfl) ?_
      exact k1 h0 h1
    · refine x_iloadn xc241_172 rfl ?_
      refine x_goto xc241_173 ?_
      refine x_iret xc241_177 (Or.inl rfl) ?_
      exact k2 h0 h1
  · refine x_aloadn xc241_49 rfl ?_
    refine x_gfr xc241_50 rfl rfl xz87 rfl ?_
    refine x_iconst xc241_53 ?_
    refine x_iloadn xc241_54 rfl ?_
    refine x_imul xc241_55 ?_
    refine x_iload xc241_56 rfl ?_
    refine x_iadd xc241_58 ?_
    refine x_bal xc241_59 xz124 (Or.inl rfl) (by have g0 := ht; have g1 := hp; omega) (by have g0 := ht; have g1 := hp; omega) (by have g0 := ht; have g1 := hp; omega) ?_
    refine x_ifne xc241_60 (xRk (by have g0 := ht; have g1 := hp; have g2 := xRb (hA 124 (4 * t + p)); omega)) (fun h2 => ?_) (fun h2 => ?_)
    · refine x_aloadn xc241_66 rfl ?_
      refine x_gfr xc241_67 rfl rfl xz87 rfl ?_
      refine x_iconst xc241_70 ?_
      refine x_iloadn xc241_71 rfl ?_
      refine x_imul xc241_72 ?_
      refine x_iload xc241_73 rfl ?_
      refine x_iadd xc241_75 ?_
      refine x_ial xc241_76 xz120 rfl (by have g0 := ht; have g1 := hp; omega) (by have g0 := ht; have g1 := hp; omega) (by have g0 := ht; have g1 := hp; omega) ?_
      refine x_istore (pl' := [some (.ref 87), some (xV t), some (xV n), some (xV c), some (xV p), some (xV (a 120 (4 * t + p)))]) xc241_77 rfl rfl ?_
      refine x_iloadn xc241_79 rfl ?_
      refine x_iconst xc241_80 ?_
      refine x_iloadn xc241_81 rfl ?_
      refine x_imul xc241_82 ?_
      refine x_iceq xc241_83 (xRk (by have g0 := hc; omega)) (xRk (by have g0 := hn; omega)) (fun h3 => ?_) (fun h3 => ?_)
      · refine x_iloadn xc241_96 rfl ?_
        refine x_iret xc241_97 (Or.inl rfl) ?_
        exact k3 h0 h2 h3
      · refine x_aloadn xc241_86 rfl ?_
        refine x_iloadn xc241_87 rfl ?_
        refine x_cV (as := [xV c]) (rest := []) xc241_88 rfl xi242 xz87 ⟨rfl, rfl⟩ rfl rfl ?_
        exact k4 h0 h2 h3
    · replace h2 := Classical.not_not.mp h2
      refine x_goto xc241_63 ?_
      exact k5 h0 h2

theorem wa241b {ro : Nat → Nat × (Nat → Int32)} {d : Nat} {Q : Option Value → pmS → Prop} {t n c p z cd : Int} {a : xA} {b : xB} (hA : xAr a) (ht : 1 ≤ t ∧ t ≤ 60) (hn : 0 ≤ n ∧ n ≤ 25) (hc : 0 ≤ c ∧ c ≤ 96) (hp : 0 ≤ p ∧ p ≤ 3) (qz : xR z) (hcd : -1 ≤ cd ∧ cd < 61) (hd : 2 ≤ d)
    (k1 : (z = p) → pmCs ro d 242 [.ref 87, xV (c + 1)] (xS a b) fun r σ' => pmWp ro d 12 241 1 105 [some (.ref 87), some (xV t), some (xV n), some (xV c), some (xV p), some (xV cd)] (r.toList ++ []) σ' Q)
    (k2 : (¬ z = p) → Q (some (xV c)) (xS a b)) :
    pmWp ro d 12 241 1 91 [some (.ref 87), some (xV t), some (xV n), some (xV c), some (xV p), some (xV cd)] [xV z] (xS a b) Q := by
  refine x_iload xc241_91 rfl ?_
  refine x_iceq xc241_93 (xRk (by have g0 := xRb qz; omega)) (xRk (by have g0 := hp; omega)) (fun h0 => ?_) (fun h0 => ?_)
  · refine x_aloadn xc241_98 rfl ?_
    refine x_iloadn xc241_99 rfl ?_
    refine x_iconst xc241_100 ?_
    refine x_iadd xc241_101 ?_
    refine x_cV (as := [xV (c + 1)]) (rest := []) xc241_102 rfl xi242 xz87 ⟨rfl, rfl⟩ rfl rfl ?_
    exact k1 h0
  · refine x_iloadn xc241_96 rfl ?_
    refine x_iret xc241_97 (Or.inl rfl) ?_
    exact k2 h0

theorem wa241c {ro : Nat → Nat × (Nat → Int32)} {d : Nat} {Q : Option Value → pmS → Prop} {t n c p z cd : Int} {a : xA} {b : xB} (hA : xAr a) (ht : 1 ≤ t ∧ t ≤ 60) (hn : 0 ≤ n ∧ n ≤ 25) (hc : 0 ≤ c ∧ c ≤ 96) (hp : 0 ≤ p ∧ p ≤ 3) (qz : xR z) (hcd : -1 ≤ cd ∧ cd < 61) (hd : 2 ≤ d)
    (k1 : (z = uK cd) → pmCs ro d 242 [.ref 87, xV (c + 2)] (xS a b) fun r σ' => pmWp ro d 12 241 1 124 [some (.ref 87), some (xV t), some (xV n), some (xV c), some (xV p), some (xV cd)] (r.toList ++ []) σ' Q)
    (k2 : (¬ z = uK cd) → Q (some (xV (c + 1))) (xS a b)) :
    pmWp ro d 12 241 1 105 [some (.ref 87), some (xV t), some (xV n), some (xV c), some (xV p), some (xV cd)] [xV z] (xS a b) Q := by
  refine x_iload xc241_105 rfl ?_
  refine x_cS (as := [xV cd]) (rest := [xV z]) xc241_107 rfl rfl xi193 ⟨rfl, rfl⟩ rfl rfl ?_
  refine rk193 (by omega) (by have g0 := hcd; omega) ?_
  refine x_iceq xc241_110 (xRk (by have g0 := xRb qz; omega)) (xRk (by have g0 := uKb (by have g0 := hcd; omega); omega)) (fun h0 => ?_) (fun h0 => ?_)
  · refine x_aloadn xc241_117 rfl ?_
    refine x_iloadn xc241_118 rfl ?_
    refine x_iconst xc241_119 ?_
    refine x_iadd xc241_120 ?_
    refine x_cV (as := [xV (c + 2)]) (rest := []) xc241_121 rfl xi242 xz87 ⟨rfl, rfl⟩ rfl rfl ?_
    exact k1 h0
  · refine x_iloadn xc241_113 rfl ?_
    refine x_iconst xc241_114 ?_
    refine x_iadd xc241_115 ?_
    refine x_iret xc241_116 (Or.inl rfl) ?_
    exact k2 h0

theorem wa241d {ro : Nat → Nat × (Nat → Int32)} {d : Nat} {Q : Option Value → pmS → Prop} {t n c p z cd : Int} {a : xA} {b : xB} (hA : xAr a) (ht : 1 ≤ t ∧ t ≤ 60) (hn : 0 ≤ n ∧ n ≤ 25) (hc : 0 ≤ c ∧ c ≤ 96) (hp : 0 ≤ p ∧ p ≤ 3) (qz : xR z) (hcd : -1 ≤ cd ∧ cd < 61) (hd : 2 ≤ d)
    (k1 : (z = uX cd) → pmCs ro d 242 [.ref 87, xV (c + 3)] (xS a b) fun r σ' => pmWp ro d 12 241 1 143 [some (.ref 87), some (xV t), some (xV n), some (xV c), some (xV p), some (xV cd)] (r.toList ++ []) σ' Q)
    (k2 : (¬ z = uX cd) → Q (some (xV (c + 2))) (xS a b)) :
    pmWp ro d 12 241 1 124 [some (.ref 87), some (xV t), some (xV n), some (xV c), some (xV p), some (xV cd)] [xV z] (xS a b) Q := by
  refine x_iload xc241_124 rfl ?_
  refine x_cS (as := [xV cd]) (rest := [xV z]) xc241_126 rfl rfl xi192 ⟨rfl, rfl⟩ rfl rfl ?_
  refine rk192 (by omega) (by have g0 := hcd; omega) ?_
  refine x_iceq xc241_129 (xRk (by have g0 := xRb qz; omega)) (xRk (by have g0 := uXb (by have g0 := hcd; omega); omega)) (fun h0 => ?_) (fun h0 => ?_)
  · refine x_aloadn xc241_136 rfl ?_
    refine x_iloadn xc241_137 rfl ?_
    refine x_iconst xc241_138 ?_
    refine x_iadd xc241_139 ?_
    refine x_cV (as := [xV (c + 3)]) (rest := []) xc241_140 rfl xi242 xz87 ⟨rfl, rfl⟩ rfl rfl ?_
    exact k1 h0
  · refine x_iloadn xc241_132 rfl ?_
    refine x_iconst xc241_133 ?_
    refine x_iadd xc241_134 ?_
    refine x_iret xc241_135 (Or.inl rfl) ?_
    exact k2 h0

theorem wa241e {ro : Nat → Nat × (Nat → Int32)} {d : Nat} {Q : Option Value → pmS → Prop} {t n c p z cd : Int} {a : xA} {b : xB} (hA : xAr a) (ht : 1 ≤ t ∧ t ≤ 60) (hn : 0 ≤ n ∧ n ≤ 25) (hc : 0 ≤ c ∧ c ≤ 96) (hp : 0 ≤ p ∧ p ≤ 3) (qz : xR z) (hcd : -1 ≤ cd ∧ cd < 61) (hd : 2 ≤ d)
    (k1 : (z = uY cd) → pmWp ro d 12 241 1 159 [some (.ref 87), some (xV t), some (xV n), some (xV (c + 4)), some (xV p), some (xV cd)] [] (xS a b) Q)
    (k2 : (¬ z = uY cd) → Q (some (xV (c + 3))) (xS a b)) :
    pmWp ro d 12 241 1 143 [some (.ref 87), some (xV t), some (xV n), some (xV c), some (xV p), some (xV cd)] [xV z] (xS a b) Q := by
  refine x_iload xc241_143 rfl ?_
  refine x_cS (as := [xV cd]) (rest := [xV z]) xc241_145 rfl rfl xi194 ⟨rfl, rfl⟩ rfl rfl ?_
  refine rk194 (by omega) (by have g0 := hcd; omega) ?_
  refine x_iceq xc241_148 (xRk (by have g0 := xRb qz; omega)) (xRk (by have g0 := uYb (by have g0 := hcd; omega); omega)) (fun h0 => ?_) (fun h0 => ?_)
  · refine x_iloadn xc241_155 rfl ?_
    refine x_iconst xc241_156 ?_
    refine x_iadd xc241_157 ?_
    refine x_istoren (pl' := [some (.ref 87), some (xV t), some (xV n), some (xV (c + 4)), some (xV p), some (xV cd)]) xc241_158 rfl rfl ?_
    exact k1 h0
  · refine x_iloadn xc241_151 rfl ?_
    refine x_iconst xc241_152 ?_
    refine x_iadd xc241_153 ?_
    refine x_iret xc241_154 (Or.inl rfl) ?_
    exact k2 h0

theorem wa241f {ro : Nat → Nat × (Nat → Int32)} {d : Nat} {Q : Option Value → pmS → Prop} {v5 : Option Value} {t n c p : Int} {a : xA} {b : xB} (hA : xAr a) (ht : 1 ≤ t ∧ t ≤ 60) (hn : 0 ≤ n ∧ n ≤ 25) (hc : 0 ≤ c ∧ c ≤ 100) (hp : 0 ≤ p ∧ p ≤ 3) (hd : 2 ≤ d)
    (k1 : pmWp ro d 12 241 1 43 [some (.ref 87), some (xV t), some (xV n), some (xV c), some (xV (p + 1)), v5] [] (xS a b) Q) :
    pmWp ro d 12 241 1 159 [some (.ref 87), some (xV t), some (xV n), some (xV c), some (xV p), v5] [] (xS a b) Q := by
  refine x_iinc (pl' := [some (.ref 87), some (xV t), some (xV n), some (xV c), some (xV (p + 1)), v5]) xc241_159 rfl rfl ?_
  refine x_goto xc241_162 ?_
  exact k1

end
