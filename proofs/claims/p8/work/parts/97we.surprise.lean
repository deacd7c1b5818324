/-! exact: surprise -/
section
set_option maxRecDepth 100000
theorem xi124 : pmInf[124]? = some pmI_124 := rfl
theorem xi125 : pmInf[125]? = some pmI_125 := rfl
theorem xi126 : pmInf[126]? = some pmI_126 := rfl
theorem xi239 : pmInf[239]? = some pmI_239 := rfl
theorem xc124_0 : pmCode 124 0 = some (.iload_n 1) ∧ 0 + 1 = 1 := ⟨rfl, rfl⟩
theorem xc124_1 : pmCode 124 1 = some (.iconst 1) ∧ 1 + 1 = 2 := ⟨rfl, rfl⟩
theorem xc124_2 : pmCode 124 2 = some (.if_icmp .lt 14) ∧ ((2 : Nat) : Int) + 14 = ((16 : Nat) : Int) ∧ 2 + 3 = 5 := ⟨rfl, rfl, rfl⟩
theorem xc124_5 : pmCode 124 5 = some (.iload_n 1) ∧ 5 + 1 = 6 := ⟨rfl, rfl⟩
theorem xc124_6 : pmCode 124 6 = some (.aload_n 0) ∧ 6 + 1 = 7 := ⟨rfl, rfl⟩
theorem xc124_7 : pmCode 124 7 = some (.getfield 40) ∧ 7 + 3 = 10 := ⟨rfl, rfl⟩
theorem xc124_10 : pmCode 124 10 = some (.getfield 234) ∧ 10 + 3 = 13 := ⟨rfl, rfl⟩
theorem xc124_13 : pmCode 124 13 = some (.if_icmp .le 7) ∧ ((13 : Nat) : Int) + 7 = ((20 : Nat) : Int) ∧ 13 + 3 = 16 := ⟨rfl, rfl, rfl⟩
theorem xc124_16 : pmCode 124 16 = some (.iconst (-1)) ∧ 16 + 1 = 17 := ⟨rfl, rfl⟩
theorem xc124_17 : pmCode 124 17 = some (.goto 11) ∧ ((17 : Nat) : Int) + 11 = ((28 : Nat) : Int) := ⟨rfl, rfl⟩
theorem xc124_20 : pmCode 124 20 = some (.aload_n 0) ∧ 20 + 1 = 21 := ⟨rfl, rfl⟩
theorem xc124_21 : pmCode 124 21 = some (.getfield 97) ∧ 21 + 3 = 24 := ⟨rfl, rfl⟩
theorem xc124_24 : pmCode 124 24 = some (.iload_n 1) ∧ 24 + 1 = 25 := ⟨rfl, rfl⟩
theorem xc124_25 : pmCode 124 25 = some (.invokevirtual 285) ∧ 25 + 3 = 28 := ⟨rfl, rfl⟩
theorem xc124_28 : pmCode 124 28 = some .ireturn := rfl
theorem xc125_0 : pmCode 125 0 = some (.iconst 0) ∧ 0 + 1 = 1 := ⟨rfl, rfl⟩
theorem xc125_1 : pmCode 125 1 = some (.istore_n 2) ∧ 1 + 1 = 2 := ⟨rfl, rfl⟩
theorem xc125_2 : pmCode 125 2 = some (.iconst 1) ∧ 2 + 1 = 3 := ⟨rfl, rfl⟩
theorem xc125_3 : pmCode 125 3 = some (.istore_n 3) ∧ 3 + 1 = 4 := ⟨rfl, rfl⟩
theorem xc125_4 : pmCode 125 4 = some (.iload_n 3) ∧ 4 + 1 = 5 := ⟨rfl, rfl⟩
theorem xc125_5 : pmCode 125 5 = some (.iconst 4) ∧ 5 + 1 = 6 := ⟨rfl, rfl⟩
theorem xc125_6 : pmCode 125 6 = some (.if_icmp .ge 46) ∧ ((6 : Nat) : Int) + 46 = ((52 : Nat) : Int) ∧ 6 + 3 = 9 := ⟨rfl, rfl, rfl⟩
theorem xc125_9 : pmCode 125 9 = some (.iload_n 1) ∧ 9 + 1 = 10 := ⟨rfl, rfl⟩
theorem xc125_10 : pmCode 125 10 = some (.iconst 1) ∧ 10 + 1 = 11 := ⟨rfl, rfl⟩
theorem xc125_11 : pmCode 125 11 = some (.if_icmp .le 41) ∧ ((11 : Nat) : Int) + 41 = ((52 : Nat) : Int) ∧ 11 + 3 = 14 := ⟨rfl, rfl, rfl⟩
theorem xc125_14 : pmCode 125 14 = some (.aload_n 0) ∧ 14 + 1 = 15 := ⟨rfl, rfl⟩
theorem xc125_15 : pmCode 125 15 = some (.iload_n 1) ∧ 15 + 1 = 16 := ⟨rfl, rfl⟩
theorem xc125_16 : pmCode 125 16 = some (.iload_n 3) ∧ 16 + 1 = 17 := ⟨rfl, rfl⟩
theorem xc125_17 : pmCode 125 17 = some (.invokevirtual 58) ∧ 17 + 3 = 20 := ⟨rfl, rfl⟩
theorem xc125_20 : pmCode 125 20 = some (.istore 4) ∧ 20 + 2 = 22 := ⟨rfl, rfl⟩
theorem xc125_22 : pmCode 125 22 = some (.iload 4) ∧ 22 + 2 = 24 := ⟨rfl, rfl⟩
theorem xc125_24 : pmCode 125 24 = some (.iconst (-1)) ∧ 24 + 1 = 25 := ⟨rfl, rfl⟩
theorem xc125_25 : pmCode 125 25 = some (.if_icmp .eq 21) ∧ ((25 : Nat) : Int) + 21 = ((46 : Nat) : Int) ∧ 25 + 3 = 28 := ⟨rfl, rfl, rfl⟩
theorem xc125_28 : pmCode 125 28 = some (.iload 4) ∧ 28 + 2 = 30 := ⟨rfl, rfl⟩
theorem xc125_30 : pmCode 125 30 = some (.iconst 0) ∧ 30 + 1 = 31 := ⟨rfl, rfl⟩
theorem xc125_31 : pmCode 125 31 = some (.invokestatic 86) ∧ 31 + 3 = 34 := ⟨rfl, rfl⟩
theorem xc125_34 : pmCode 125 34 = some (.aload_n 0) ∧ 34 + 1 = 35 := ⟨rfl, rfl⟩
theorem xc125_35 : pmCode 125 35 = some (.iload_n 1) ∧ 35 + 1 = 36 := ⟨rfl, rfl⟩
theorem xc125_36 : pmCode 125 36 = some (.iload_n 3) ∧ 36 + 1 = 37 := ⟨rfl, rfl⟩
theorem xc125_37 : pmCode 125 37 = some (.invokevirtual 89) ∧ 37 + 3 = 40 := ⟨rfl, rfl⟩
theorem xc125_40 : pmCode 125 40 = some (.if_icmp .eq 6) ∧ ((40 : Nat) : Int) + 6 = ((46 : Nat) : Int) ∧ 40 + 3 = 43 := ⟨rfl, rfl, rfl⟩
theorem xc125_43 : pmCode 125 43 = some (.iinc 2 1) ∧ 43 + 3 = 46 := ⟨rfl, rfl⟩
theorem xc125_46 : pmCode 125 46 = some (.iinc 3 1) ∧ 46 + 3 = 49 := ⟨rfl, rfl⟩
theorem xc125_49 : pmCode 125 49 = some (.goto (-45)) ∧ ((49 : Nat) : Int) + (-45) = ((4 : Nat) : Int) := ⟨rfl, rfl⟩
theorem xc125_52 : pmCode 125 52 = some (.iload_n 2) ∧ 52 + 1 = 53 := ⟨rfl, rfl⟩
theorem xc125_53 : pmCode 125 53 = some .ireturn := rfl
theorem xc126_0 : pmCode 126 0 = some (.iconst 0) ∧ 0 + 1 = 1 := ⟨rfl, rfl⟩
theorem xc126_1 : pmCode 126 1 = some (.istore_n 3) ∧ 1 + 1 = 2 := ⟨rfl, rfl⟩
theorem xc126_2 : pmCode 126 2 = some (.iconst 0) ∧ 2 + 1 = 3 := ⟨rfl, rfl⟩
theorem xc126_3 : pmCode 126 3 = some (.istore 4) ∧ 3 + 2 = 5 := ⟨rfl, rfl⟩
theorem xc126_5 : pmCode 126 5 = some (.iconst 0) ∧ 5 + 1 = 6 := ⟨rfl, rfl⟩
theorem xc126_6 : pmCode 126 6 = some (.istore 5) ∧ 6 + 2 = 8 := ⟨rfl, rfl⟩
theorem xc126_8 : pmCode 126 8 = some (.iload 5) ∧ 8 + 2 = 10 := ⟨rfl, rfl⟩
theorem xc126_10 : pmCode 126 10 = some (.bipush 7) ∧ 10 + 2 = 12 := ⟨rfl, rfl⟩
theorem xc126_12 : pmCode 126 12 = some (.if_icmp .ge 78) ∧ ((12 : Nat) : Int) + 78 = ((90 : Nat) : Int) ∧ 12 + 3 = 15 := ⟨rfl, rfl, rfl⟩
theorem xc126_15 : pmCode 126 15 = some (.iconst 0) ∧ 15 + 1 = 16 := ⟨rfl, rfl⟩
theorem xc126_16 : pmCode 126 16 = some (.istore 6) ∧ 16 + 2 = 18 := ⟨rfl, rfl⟩
theorem xc126_18 : pmCode 126 18 = some (.iconst 1) ∧ 18 + 1 = 19 := ⟨rfl, rfl⟩
theorem xc126_19 : pmCode 126 19 = some (.istore 7) ∧ 19 + 2 = 21 := ⟨rfl, rfl⟩
theorem xc126_21 : pmCode 126 21 = some (.iload 7) ∧ 21 + 2 = 23 := ⟨rfl, rfl⟩
theorem xc126_23 : pmCode 126 23 = some (.iload_n 1) ∧ 23 + 1 = 24 := ⟨rfl, rfl⟩
theorem xc126_24 : pmCode 126 24 = some (.if_icmp .ge 46) ∧ ((24 : Nat) : Int) + 46 = ((70 : Nat) : Int) ∧ 24 + 3 = 27 := ⟨rfl, rfl, rfl⟩
theorem xc126_27 : pmCode 126 27 = some (.iload 6) ∧ 27 + 2 = 29 := ⟨rfl, rfl⟩
theorem xc126_29 : pmCode 126 29 = some (.aload_n 0) ∧ 29 + 1 = 30 := ⟨rfl, rfl⟩
theorem xc126_30 : pmCode 126 30 = some (.iload 7) ∧ 30 + 2 = 32 := ⟨rfl, rfl⟩
theorem xc126_32 : pmCode 126 32 = some (.iload_n 2) ∧ 32 + 1 = 33 := ⟨rfl, rfl⟩
theorem xc126_33 : pmCode 126 33 = some (.invokevirtual 58) ∧ 33 + 3 = 36 := ⟨rfl, rfl⟩
theorem xc126_36 : pmCode 126 36 = some (.iconst (-1)) ∧ 36 + 1 = 37 := ⟨rfl, rfl⟩
theorem xc126_37 : pmCode 126 37 = some (.if_icmp .eq 23) ∧ ((37 : Nat) : Int) + 23 = ((60 : Nat) : Int) ∧ 37 + 3 = 40 := ⟨rfl, rfl, rfl⟩
theorem xc126_40 : pmCode 126 40 = some (.aload_n 0) ∧ 40 + 1 = 41 := ⟨rfl, rfl⟩
theorem xc126_41 : pmCode 126 41 = some (.iload 7) ∧ 41 + 2 = 43 := ⟨rfl, rfl⟩
theorem xc126_43 : pmCode 126 43 = some (.iload_n 2) ∧ 43 + 1 = 44 := ⟨rfl, rfl⟩
theorem xc126_44 : pmCode 126 44 = some (.invokevirtual 58) ∧ 44 + 3 = 47 := ⟨rfl, rfl⟩
theorem xc126_47 : pmCode 126 47 = some (.iconst 0) ∧ 47 + 1 = 48 := ⟨rfl, rfl⟩
theorem xc126_48 : pmCode 126 48 = some (.invokestatic 86) ∧ 48 + 3 = 51 := ⟨rfl, rfl⟩
theorem xc126_51 : pmCode 126 51 = some (.iload 5) ∧ 51 + 2 = 53 := ⟨rfl, rfl⟩
theorem xc126_53 : pmCode 126 53 = some (.if_icmp .ne 7) ∧ ((53 : Nat) : Int) + 7 = ((60 : Nat) : Int) ∧ 53 + 3 = 56 := ⟨rfl, rfl, rfl⟩
theorem xc126_56 : pmCode 126 56 = some (.iconst 1) ∧ 56 + 1 = 57 := ⟨rfl, rfl⟩
theorem xc126_57 : pmCode 126 57 = some (.goto 4) ∧ ((57 : Nat) : Int) + 4 = ((61 : Nat) : Int) := ⟨rfl, rfl⟩
theorem xc126_60 : pmCode 126 60 = some (.iconst 0) ∧ 60 + 1 = 61 := ⟨rfl, rfl⟩
theorem xc126_61 : pmCode 126 61 = some .iadd ∧ 61 + 1 = 62 := ⟨rfl, rfl⟩
theorem xc126_62 : pmCode 126 62 = some (.istore 6) ∧ 62 + 2 = 64 := ⟨rfl, rfl⟩
theorem xc126_64 : pmCode 126 64 = some (.iinc 7 1) ∧ 64 + 3 = 67 := ⟨rfl, rfl⟩
theorem xc126_67 : pmCode 126 67 = some (.goto (-46)) ∧ ((67 : Nat) : Int) + (-46) = ((21 : Nat) : Int) := ⟨rfl, rfl⟩
theorem xc126_70 : pmCode 126 70 = some (.iload 6) ∧ 70 + 2 = 72 := ⟨rfl, rfl⟩
theorem xc126_72 : pmCode 126 72 = some (.iload 4) ∧ 72 + 2 = 74 := ⟨rfl, rfl⟩
theorem xc126_74 : pmCode 126 74 = some (.if_icmp .le 10) ∧ ((74 : Nat) : Int) + 10 = ((84 : Nat) : Int) ∧ 74 + 3 = 77 := ⟨rfl, rfl, rfl⟩
theorem xc126_77 : pmCode 126 77 = some (.iload 6) ∧ 77 + 2 = 79 := ⟨rfl, rfl⟩
theorem xc126_79 : pmCode 126 79 = some (.istore 4) ∧ 79 + 2 = 81 := ⟨rfl, rfl⟩
theorem xc126_81 : pmCode 126 81 = some (.iload 5) ∧ 81 + 2 = 83 := ⟨rfl, rfl⟩
theorem xc126_83 : pmCode 126 83 = some (.istore_n 3) ∧ 83 + 1 = 84 := ⟨rfl, rfl⟩
theorem xc126_84 : pmCode 126 84 = some (.iinc 5 1) ∧ 84 + 3 = 87 := ⟨rfl, rfl⟩
theorem xc126_87 : pmCode 126 87 = some (.goto (-79)) ∧ ((87 : Nat) : Int) + (-79) = ((8 : Nat) : Int) := ⟨rfl, rfl⟩
theorem xc126_90 : pmCode 126 90 = some (.iload_n 3) ∧ 90 + 1 = 91 := ⟨rfl, rfl⟩
theorem xc126_91 : pmCode 126 91 = some .ireturn := rfl
theorem xc239_0 : pmCode 239 0 = some (.iload_n 1) ∧ 0 + 1 = 1 := ⟨rfl, rfl⟩
theorem xc239_1 : pmCode 239 1 = some (.iconst 1) ∧ 1 + 1 = 2 := ⟨rfl, rfl⟩
theorem xc239_2 : pmCode 239 2 = some (.aload_n 0) ∧ 2 + 1 = 3 := ⟨rfl, rfl⟩
theorem xc239_3 : pmCode 239 3 = some (.getfield 7) ∧ 3 + 3 = 6 := ⟨rfl, rfl⟩
theorem xc239_6 : pmCode 239 6 = some (.bipush 114) ∧ 6 + 2 = 8 := ⟨rfl, rfl⟩
theorem xc239_8 : pmCode 239 8 = some .iaload ∧ 8 + 1 = 9 := ⟨rfl, rfl⟩
theorem xc239_9 : pmCode 239 9 = some (.invokestatic 142) ∧ 9 + 3 = 12 := ⟨rfl, rfl⟩
theorem xc239_12 : pmCode 239 12 = some (.ifCond .ne 5) ∧ ((12 : Nat) : Int) + 5 = ((17 : Nat) : Int) ∧ 12 + 3 = 15 := ⟨rfl, rfl, rfl⟩
theorem xc239_15 : pmCode 239 15 = some (.iconst (-1)) ∧ 15 + 1 = 16 := ⟨rfl, rfl⟩
theorem xc239_16 : pmCode 239 16 = some .ireturn := rfl
theorem xc239_17 : pmCode 239 17 = some (.iconst 0) ∧ 17 + 1 = 18 := ⟨rfl, rfl⟩
theorem xc239_18 : pmCode 239 18 = some (.istore_n 2) ∧ 18 + 1 = 19 := ⟨rfl, rfl⟩
theorem xc239_19 : pmCode 239 19 = some (.iconst 1) ∧ 19 + 1 = 20 := ⟨rfl, rfl⟩
theorem xc239_20 : pmCode 239 20 = some (.istore_n 3) ∧ 20 + 1 = 21 := ⟨rfl, rfl⟩
theorem xc239_21 : pmCode 239 21 = some (.iload_n 3) ∧ 21 + 1 = 22 := ⟨rfl, rfl⟩
theorem xc239_22 : pmCode 239 22 = some (.iconst 4) ∧ 22 + 1 = 23 := ⟨rfl, rfl⟩
theorem xc239_23 : pmCode 239 23 = some (.if_icmp .ge 180) ∧ ((23 : Nat) : Int) + 180 = ((203 : Nat) : Int) ∧ 23 + 3 = 26 := ⟨rfl, rfl, rfl⟩
theorem xc239_26 : pmCode 239 26 = some (.iload_n 1) ∧ 26 + 1 = 27 := ⟨rfl, rfl⟩
theorem xc239_27 : pmCode 239 27 = some (.iconst 1) ∧ 27 + 1 = 28 := ⟨rfl, rfl⟩
theorem xc239_28 : pmCode 239 28 = some (.if_icmp .le 175) ∧ ((28 : Nat) : Int) + 175 = ((203 : Nat) : Int) ∧ 28 + 3 = 31 := ⟨rfl, rfl, rfl⟩
theorem xc239_31 : pmCode 239 31 = some (.aload_n 0) ∧ 31 + 1 = 32 := ⟨rfl, rfl⟩
theorem xc239_32 : pmCode 239 32 = some (.getfield 121) ∧ 32 + 3 = 35 := ⟨rfl, rfl⟩
theorem xc239_35 : pmCode 239 35 = some (.iconst 4) ∧ 35 + 1 = 36 := ⟨rfl, rfl⟩
theorem xc239_36 : pmCode 239 36 = some (.iload_n 1) ∧ 36 + 1 = 37 := ⟨rfl, rfl⟩
theorem xc239_37 : pmCode 239 37 = some .imul ∧ 37 + 1 = 38 := ⟨rfl, rfl⟩
theorem xc239_38 : pmCode 239 38 = some (.iload_n 3) ∧ 38 + 1 = 39 := ⟨rfl, rfl⟩
theorem xc239_39 : pmCode 239 39 = some .iadd ∧ 39 + 1 = 40 := ⟨rfl, rfl⟩
theorem xc239_40 : pmCode 239 40 = some .baload ∧ 40 + 1 = 41 := ⟨rfl, rfl⟩
theorem xc239_41 : pmCode 239 41 = some (.ifCond .ne 6) ∧ ((41 : Nat) : Int) + 6 = ((47 : Nat) : Int) ∧ 41 + 3 = 44 := ⟨rfl, rfl, rfl⟩
theorem xc239_44 : pmCode 239 44 = some (.goto 153) ∧ ((44 : Nat) : Int) + 153 = ((197 : Nat) : Int) := ⟨rfl, rfl⟩
theorem xc239_47 : pmCode 239 47 = some (.iconst 0) ∧ 47 + 1 = 48 := ⟨rfl, rfl⟩
theorem xc239_48 : pmCode 239 48 = some (.istore 4) ∧ 48 + 2 = 50 := ⟨rfl, rfl⟩
theorem xc239_50 : pmCode 239 50 = some (.iload 4) ∧ 50 + 2 = 52 := ⟨rfl, rfl⟩
theorem xc239_52 : pmCode 239 52 = some (.bipush 7) ∧ 52 + 2 = 54 := ⟨rfl, rfl⟩
theorem xc239_54 : pmCode 239 54 = some (.if_icmp .ge 17) ∧ ((54 : Nat) : Int) + 17 = ((71 : Nat) : Int) ∧ 54 + 3 = 57 := ⟨rfl, rfl, rfl⟩
theorem xc239_57 : pmCode 239 57 = some (.aload_n 0) ∧ 57 + 1 = 58 := ⟨rfl, rfl⟩
theorem xc239_58 : pmCode 239 58 = some (.getfield 124) ∧ 58 + 3 = 61 := ⟨rfl, rfl⟩
theorem xc239_61 : pmCode 239 61 = some (.iload 4) ∧ 61 + 2 = 63 := ⟨rfl, rfl⟩
theorem xc239_63 : pmCode 239 63 = some (.iconst 0) ∧ 63 + 1 = 64 := ⟨rfl, rfl⟩
theorem xc239_64 : pmCode 239 64 = some .iastore ∧ 64 + 1 = 65 := ⟨rfl, rfl⟩
theorem xc239_65 : pmCode 239 65 = some (.iinc 4 1) ∧ 65 + 3 = 68 := ⟨rfl, rfl⟩
theorem xc239_68 : pmCode 239 68 = some (.goto (-18)) ∧ ((68 : Nat) : Int) + (-18) = ((50 : Nat) : Int) := ⟨rfl, rfl⟩
theorem xc239_71 : pmCode 239 71 = some (.iconst 1) ∧ 71 + 1 = 72 := ⟨rfl, rfl⟩
theorem xc239_72 : pmCode 239 72 = some (.istore 4) ∧ 72 + 2 = 74 := ⟨rfl, rfl⟩
theorem xc239_74 : pmCode 239 74 = some (.iload 4) ∧ 74 + 2 = 76 := ⟨rfl, rfl⟩
theorem xc239_76 : pmCode 239 76 = some (.iload_n 1) ∧ 76 + 1 = 77 := ⟨rfl, rfl⟩
theorem xc239_77 : pmCode 239 77 = some (.if_icmp .ge 49) ∧ ((77 : Nat) : Int) + 49 = ((126 : Nat) : Int) ∧ 77 + 3 = 80 := ⟨rfl, rfl, rfl⟩
theorem xc239_80 : pmCode 239 80 = some (.aload_n 0) ∧ 80 + 1 = 81 := ⟨rfl, rfl⟩
theorem xc239_81 : pmCode 239 81 = some (.getfield 124) ∧ 81 + 3 = 84 := ⟨rfl, rfl⟩
theorem xc239_84 : pmCode 239 84 = some (.aload_n 0) ∧ 84 + 1 = 85 := ⟨rfl, rfl⟩
theorem xc239_85 : pmCode 239 85 = some (.getfield 109) ∧ 85 + 3 = 88 := ⟨rfl, rfl⟩
theorem xc239_88 : pmCode 239 88 = some (.iconst 4) ∧ 88 + 1 = 89 := ⟨rfl, rfl⟩
theorem xc239_89 : pmCode 239 89 = some (.iload 4) ∧ 89 + 2 = 91 := ⟨rfl, rfl⟩
theorem xc239_91 : pmCode 239 91 = some .imul ∧ 91 + 1 = 92 := ⟨rfl, rfl⟩
theorem xc239_92 : pmCode 239 92 = some (.iload_n 3) ∧ 92 + 1 = 93 := ⟨rfl, rfl⟩
theorem xc239_93 : pmCode 239 93 = some .iadd ∧ 93 + 1 = 94 := ⟨rfl, rfl⟩
theorem xc239_94 : pmCode 239 94 = some .iaload ∧ 94 + 1 = 95 := ⟨rfl, rfl⟩
theorem xc239_95 : pmCode 239 95 = some (.invokestatic 279) ∧ 95 + 3 = 98 := ⟨rfl, rfl⟩
theorem xc239_98 : pmCode 239 98 = some (.aload_n 0) ∧ 98 + 1 = 99 := ⟨rfl, rfl⟩
theorem xc239_99 : pmCode 239 99 = some (.getfield 124) ∧ 99 + 3 = 102 := ⟨rfl, rfl⟩
theorem xc239_102 : pmCode 239 102 = some (.aload_n 0) ∧ 102 + 1 = 103 := ⟨rfl, rfl⟩
theorem xc239_103 : pmCode 239 103 = some (.getfield 109) ∧ 103 + 3 = 106 := ⟨rfl, rfl⟩
theorem xc239_106 : pmCode 239 106 = some (.iconst 4) ∧ 106 + 1 = 107 := ⟨rfl, rfl⟩
theorem xc239_107 : pmCode 239 107 = some (.iload 4) ∧ 107 + 2 = 109 := ⟨rfl, rfl⟩
theorem xc239_109 : pmCode 239 109 = some .imul ∧ 109 + 1 = 110 := ⟨rfl, rfl⟩
theorem xc239_110 : pmCode 239 110 = some (.iload_n 3) ∧ 110 + 1 = 111 := ⟨rfl, rfl⟩
theorem xc239_111 : pmCode 239 111 = some .iadd ∧ 111 + 1 = 112 := ⟨rfl, rfl⟩
theorem xc239_112 : pmCode 239 112 = some .iaload ∧ 112 + 1 = 113 := ⟨rfl, rfl⟩
theorem xc239_113 : pmCode 239 113 = some (.invokestatic 279) ∧ 113 + 3 = 116 := ⟨rfl, rfl⟩
theorem xc239_116 : pmCode 239 116 = some .iaload ∧ 116 + 1 = 117 := ⟨rfl, rfl⟩
theorem xc239_117 : pmCode 239 117 = some (.iconst 1) ∧ 117 + 1 = 118 := ⟨rfl, rfl⟩
theorem xc239_118 : pmCode 239 118 = some .iadd ∧ 118 + 1 = 119 := ⟨rfl, rfl⟩
theorem xc239_119 : pmCode 239 119 = some .iastore ∧ 119 + 1 = 120 := ⟨rfl, rfl⟩
theorem xc239_120 : pmCode 239 120 = some (.iinc 4 1) ∧ 120 + 3 = 123 := ⟨rfl, rfl⟩
theorem xc239_123 : pmCode 239 123 = some (.goto (-49)) ∧ ((123 : Nat) : Int) + (-49) = ((74 : Nat) : Int) := ⟨rfl, rfl⟩
theorem xc239_126 : pmCode 239 126 = some (.iconst 0) ∧ 126 + 1 = 127 := ⟨rfl, rfl⟩
theorem xc239_127 : pmCode 239 127 = some (.istore 4) ∧ 127 + 2 = 129 := ⟨rfl, rfl⟩
theorem xc239_129 : pmCode 239 129 = some (.iconst 1) ∧ 129 + 1 = 130 := ⟨rfl, rfl⟩
theorem xc239_130 : pmCode 239 130 = some (.istore 5) ∧ 130 + 2 = 132 := ⟨rfl, rfl⟩
theorem xc239_132 : pmCode 239 132 = some (.iload 5) ∧ 132 + 2 = 134 := ⟨rfl, rfl⟩
theorem xc239_134 : pmCode 239 134 = some (.bipush 7) ∧ 134 + 2 = 136 := ⟨rfl, rfl⟩
theorem xc239_136 : pmCode 239 136 = some (.if_icmp .ge 35) ∧ ((136 : Nat) : Int) + 35 = ((171 : Nat) : Int) ∧ 136 + 3 = 139 := ⟨rfl, rfl, rfl⟩
theorem xc239_139 : pmCode 239 139 = some (.aload_n 0) ∧ 139 + 1 = 140 := ⟨rfl, rfl⟩
theorem xc239_140 : pmCode 239 140 = some (.getfield 124) ∧ 140 + 3 = 143 := ⟨rfl, rfl⟩
theorem xc239_143 : pmCode 239 143 = some (.iload 5) ∧ 143 + 2 = 145 := ⟨rfl, rfl⟩
theorem xc239_145 : pmCode 239 145 = some .iaload ∧ 145 + 1 = 146 := ⟨rfl, rfl⟩
theorem xc239_146 : pmCode 239 146 = some (.aload_n 0) ∧ 146 + 1 = 147 := ⟨rfl, rfl⟩
theorem xc239_147 : pmCode 239 147 = some (.getfield 124) ∧ 147 + 3 = 150 := ⟨rfl, rfl⟩
theorem xc239_150 : pmCode 239 150 = some (.iload 4) ∧ 150 + 2 = 152 := ⟨rfl, rfl⟩
theorem xc239_152 : pmCode 239 152 = some .iaload ∧ 152 + 1 = 153 := ⟨rfl, rfl⟩
theorem xc239_153 : pmCode 239 153 = some (.if_icmp .le 8) ∧ ((153 : Nat) : Int) + 8 = ((161 : Nat) : Int) ∧ 153 + 3 = 156 := ⟨rfl, rfl, rfl⟩
theorem xc239_156 : pmCode 239 156 = some (.iload 5) ∧ 156 + 2 = 158 := ⟨rfl, rfl⟩
theorem xc239_158 : pmCode 239 158 = some (.goto 5) ∧ ((158 : Nat) : Int) + 5 = ((163 : Nat) : Int) := ⟨rfl, rfl⟩
theorem xc239_161 : pmCode 239 161 = some (.iload 4) ∧ 161 + 2 = 163 := ⟨rfl, rfl⟩
theorem xc239_163 : pmCode 239 163 = some (.istore 4) ∧ 163 + 2 = 165 := ⟨rfl, rfl⟩
theorem xc239_165 : pmCode 239 165 = some (.iinc 5 1) ∧ 165 + 3 = 168 := ⟨rfl, rfl⟩
theorem xc239_168 : pmCode 239 168 = some (.goto (-36)) ∧ ((168 : Nat) : Int) + (-36) = ((132 : Nat) : Int) := ⟨rfl, rfl⟩
theorem xc239_171 : pmCode 239 171 = some (.iload_n 2) ∧ 171 + 1 = 172 := ⟨rfl, rfl⟩
theorem xc239_172 : pmCode 239 172 = some (.aload_n 0) ∧ 172 + 1 = 173 := ⟨rfl, rfl⟩
theorem xc239_173 : pmCode 239 173 = some (.getfield 109) ∧ 173 + 3 = 176 := ⟨rfl, rfl⟩
theorem xc239_176 : pmCode 239 176 = some (.iconst 4) ∧ 176 + 1 = 177 := ⟨rfl, rfl⟩
theorem xc239_177 : pmCode 239 177 = some (.iload_n 1) ∧ 177 + 1 = 178 := ⟨rfl, rfl⟩
theorem xc239_178 : pmCode 239 178 = some .imul ∧ 178 + 1 = 179 := ⟨rfl, rfl⟩
theorem xc239_179 : pmCode 239 179 = some (.iload_n 3) ∧ 179 + 1 = 180 := ⟨rfl, rfl⟩
theorem xc239_180 : pmCode 239 180 = some .iadd ∧ 180 + 1 = 181 := ⟨rfl, rfl⟩
theorem xc239_181 : pmCode 239 181 = some .iaload ∧ 181 + 1 = 182 := ⟨rfl, rfl⟩
theorem xc239_182 : pmCode 239 182 = some (.invokestatic 279) ∧ 182 + 3 = 185 := ⟨rfl, rfl⟩
theorem xc239_185 : pmCode 239 185 = some (.iload 4) ∧ 185 + 2 = 187 := ⟨rfl, rfl⟩
theorem xc239_187 : pmCode 239 187 = some (.if_icmp .ne 7) ∧ ((187 : Nat) : Int) + 7 = ((194 : Nat) : Int) ∧ 187 + 3 = 190 := ⟨rfl, rfl, rfl⟩
theorem xc239_190 : pmCode 239 190 = some (.iconst 0) ∧ 190 + 1 = 191 := ⟨rfl, rfl⟩
theorem xc239_191 : pmCode 239 191 = some (.goto 4) ∧ ((191 : Nat) : Int) + 4 = ((195 : Nat) : Int) := ⟨rfl, rfl⟩
theorem xc239_194 : pmCode 239 194 = some (.iconst 1) ∧ 194 + 1 = 195 := ⟨rfl, rfl⟩
theorem xc239_195 : pmCode 239 195 = some .iadd ∧ 195 + 1 = 196 := ⟨rfl, rfl⟩
theorem xc239_196 : pmCode 239 196 = some (.istore_n 2) ∧ 196 + 1 = 197 := ⟨rfl, rfl⟩
theorem xc239_197 : pmCode 239 197 = some (.iinc 3 1) ∧ 197 + 3 = 200 := ⟨rfl, rfl⟩
theorem xc239_200 : pmCode 239 200 = some (.goto (-179)) ∧ ((200 : Nat) : Int) + (-179) = ((21 : Nat) : Int) := ⟨rfl, rfl⟩
theorem xc239_203 : pmCode 239 203 = some (.iload_n 2) ∧ 203 + 1 = 204 := ⟨rfl, rfl⟩
theorem xc239_204 : pmCode 239 204 = some .ireturn := rfl
theorem wa124 {ro : Nat → Nat × (Nat → Int32)} {d : Nat} {Q : Option Value → pmS → Prop} {t : Int} {a : xA} {b : xB} (qr1 : xR t) (htn : 0 ≤ a 21 6 ∧ a 21 6 ≤ 60)
    (k1 : (t < 1) → Q (some (xV (-1))) (xS a b))
    (k2 : (¬ t < 1) → (t ≤ a 21 6) → pmCs ro d 125 [.ref 79, xV t] (xS a b) fun r σ' => pmWp ro d 11 124 1 28 [some (.ref 0), some (xV t)] (r.toList ++ []) σ' Q)
    (k3 : (¬ t < 1) → (¬ t ≤ a 21 6) → Q (some (xV (-1))) (xS a b)) :
    pmWp ro d 11 124 1 0 [some (.ref 0), some (xV t)] [] (xS a b) Q := by
  refine x_iloadn xc124_0 rfl ?_
  refine x_iconst xc124_1 ?_
  refine x_iclt xc124_2 (xRk (by have g0 := xRb qr1; omega)) (xRk (by decide)) (fun h0 => ?_) (fun h0 => ?_)
  · refine x_iconst xc124_16 ?_
    refine x_goto xc124_17 ?_
    refine x_iret xc124_28 (Or.inl rfl) ?_
    exact k1 h0
  · refine x_iloadn xc124_5 rfl ?_
    refine x_aloadn xc124_6 rfl ?_
    refine x_gfr xc124_7 rfl rfl xz0 rfl ?_
    refine x_gfi (k := 6) xc124_10 rfl (Or.inl rfl) rfl xz21 ?_
    refine x_icle xc124_13 (xRk (by have g0 := xRb qr1; omega)) (xRk (by have g0 := htn; omega)) (fun h1 => ?_) (fun h1 => ?_)
    · refine x_aloadn xc124_20 rfl ?_
      refine x_gfr xc124_21 rfl rfl xz0 rfl ?_
      refine x_iloadn xc124_24 rfl ?_
      refine x_cV (as := [xV t]) (rest := []) xc124_25 rfl xi125 xz79 ⟨rfl, rfl⟩ rfl rfl ?_
      exact k2 h0 h1
    · refine x_iconst xc124_16 ?_
      refine x_goto xc124_17 ?_
      refine x_iret xc124_28 (Or.inl rfl) ?_
      exact k3 h0 h1

theorem xg124 {ro : Nat → Nat × (Nat → Int32)} {d : Nat} {Q : Option Value → pmS → Prop} {a : xA} {b : xB} {t : Int} (h : pmWp ro d 11 124 1 0 [some (.ref 0), some (xV t)] [] (xS a b) Q) : pmCs ro (d + 1) 124 [.ref 0, xV t] (xS a b) Q := x_go xi124 rfl rfl rfl rfl rfl h
theorem wa124a {ro : Nat → Nat × (Nat → Int32)} {d : Nat} {Q : Option Value → pmS → Prop} {t z : Int} {a : xA} {b : xB}
    (k1 : Q (some (xV z)) (xS a b)) :
    pmWp ro d 11 124 1 28 [some (.ref 0), some (xV t)] [xV z] (xS a b) Q := by
  refine x_iret xc124_28 (Or.inl rfl) ?_
  exact k1

theorem wa125 {ro : Nat → Nat × (Nat → Int32)} {d : Nat} {Q : Option Value → pmS → Prop} {t : Int} {a : xA} {b : xB} (ht : 1 ≤ t ∧ t ≤ 60)
    (k1 : pmWp ro d 0 125 1 4 [some (.ref 79), some (xV t), some (xV 0), some (xV 1), none] [] (xS a b) Q) :
    pmWp ro d 0 125 1 0 [some (.ref 79), some (xV t), none, none, none] [] (xS a b) Q := by
  refine x_iconst xc125_0 ?_
  refine x_istoren (pl' := [some (.ref 79), some (xV t), some (xV 0), none, none]) xc125_1 rfl rfl ?_
  refine x_iconst xc125_2 ?_
  refine x_istoren (pl' := [some (.ref 79), some (xV t), some (xV 0), some (xV 1), none]) xc125_3 rfl rfl ?_
  exact k1

theorem xg125 {ro : Nat → Nat × (Nat → Int32)} {d : Nat} {Q : Option Value → pmS → Prop} {a : xA} {b : xB} {t : Int} (h : pmWp ro d 0 125 1 0 [some (.ref 79), some (xV t), none, none, none] [] (xS a b) Q) : pmCs ro (d + 1) 125 [.ref 79, xV t] (xS a b) Q := x_go xi125 rfl rfl rfl rfl rfl h
theorem wa125a {ro : Nat → Nat × (Nat → Int32)} {d : Nat} {Q : Option Value → pmS → Prop} {v4 : Option Value} {t n p : Int} {a : xA} {b : xB} (hA : xAr a) (ht : 1 ≤ t ∧ t ≤ 60) (hn : 0 ≤ n ∧ n ≤ 4) (hp : 1 ≤ p ∧ p ≤ 4) (hd : 2 ≤ d)
    (k1 : (4 ≤ p) → Q (some (xV n)) (xS a b))
    (k2 : (¬ 4 ≤ p) → (t ≤ 1) → Q (some (xV n)) (xS a b))
    (k3 : (¬ 4 ≤ p) → (¬ t ≤ 1) → (a 85 (t * 4 + p) = -1) → pmWp ro d 0 125 1 46 [some (.ref 79), some (xV t), some (xV n), some (xV p), some (xV (a 85 (t * 4 + p)))] [] (xS a b) Q)
    (k4 : (¬ 4 ≤ p) → (¬ t ≤ 1) → (¬ a 85 (t * 4 + p) = -1) → pmCs ro d 126 [.ref 79, xV t, xV p] (xS a b) fun r σ' => pmWp ro d 0 125 1 40 [some (.ref 79), some (xV t), some (xV n), some (xV p), some (xV (a 85 (t * 4 + p)))] (r.toList ++ [xV (uPrt (a 85 (t * 4 + p)) 0)]) σ' Q) :
    pmWp ro d 0 125 1 4 [some (.ref 79), some (xV t), some (xV n), some (xV p), v4] [] (xS a b) Q := by
  refine x_iloadn xc125_4 rfl ?_
  refine x_iconst xc125_5 ?_
  refine x_icge xc125_6 (xRk (by have g0 := hp; omega)) (xRk (by decide)) (fun h0 => ?_) (fun h0 => ?_)
  · refine x_iloadn xc125_52 rfl ?_
    refine x_iret xc125_53 (Or.inl rfl) ?_
    exact k1 h0
  · refine x_iloadn xc125_9 rfl ?_
    refine x_iconst xc125_10 ?_
    refine x_icle xc125_11 (xRk (by have g0 := ht; omega)) (xRk (by decide)) (fun h1 => ?_) (fun h1 => ?_)
    · refine x_iloadn xc125_52 rfl ?_
      refine x_iret xc125_53 (Or.inl rfl) ?_
      exact k2 h0 h1
    · refine x_aloadn xc125_14 rfl ?_
      refine x_iloadn xc125_15 rfl ?_
      refine x_iloadn xc125_16 rfl ?_
      refine x_cV (as := [xV t, xV p]) (rest := []) xc125_17 rfl xi118 xz79 ⟨rfl, rfl⟩ rfl rfl ?_
      refine rk118 (by omega) (by have g0 := ht; omega) (by have g0 := hp; omega) ?_
      refine x_istore (pl' := [some (.ref 79), some (xV t), some (xV n), some (xV p), some (xV (a 85 (t * 4 + p)))]) xc125_20 rfl rfl ?_
      refine x_iload xc125_22 rfl ?_
      refine x_iconst xc125_24 ?_
      refine x_iceq xc125_25 (xRk (by have g0 := xRb (hA 85 (t * 4 + p)); omega)) (xRk (by decide)) (fun h2 => ?_) (fun h2 => ?_)
      · exact k3 h0 h1 h2
      · refine x_iload xc125_28 rfl ?_
        refine x_iconst xc125_30 ?_
        refine x_cS (as := [xV (a 85 (t * 4 + p)), xV 0]) (rest := []) xc125_31 rfl rfl xi83 ⟨rfl, rfl⟩ rfl rfl ?_
        refine rk83x (by omega) (xRk (by have g0 := xRb (hA 85 (t * 4 + p)); omega)) (by omega) ?_
        refine x_aloadn xc125_34 rfl ?_
        refine x_iloadn xc125_35 rfl ?_
        refine x_iloadn xc125_36 rfl ?_
        refine x_cV (as := [xV t, xV p]) (rest := [xV (uPrt (a 85 (t * 4 + p)) 0)]) xc125_37 rfl xi126 xz79 ⟨rfl, rfl⟩ rfl rfl ?_
        exact k4 h0 h1 h2

theorem wa125b {ro : Nat → Nat × (Nat → Int32)} {d : Nat} {Q : Option Value → pmS → Prop} {e k z t n p : Int} {a : xA} {b : xB} (hA : xAr a) (ht : 1 ≤ t ∧ t ≤ 60) (hn : 0 ≤ n ∧ n ≤ 4) (hp : 1 ≤ p ∧ p ≤ 4) (hd : 2 ≤ d) (hk : -1 ≤ k ∧ k ≤ 7) (hz : -1 ≤ z ∧ z ≤ 7)
    (k1 : (k = z) → pmWp ro d 0 125 1 46 [some (.ref 79), some (xV t), some (xV n), some (xV p), some (xV e)] [] (xS a b) Q)
    (k2 : (¬ k = z) → pmWp ro d 0 125 1 46 [some (.ref 79), some (xV t), some (xV (n + 1)), some (xV p), some (xV e)] [] (xS a b) Q) :
    pmWp ro d 0 125 1 40 [some (.ref 79), some (xV t), some (xV n), some (xV p), some (xV e)] [xV z, xV k] (xS a b) Q := by
  refine x_iceq xc125_40 (xRk (by have g0 := hk; omega)) (xRk (by have g0 := hz; omega)) (fun h0 => ?_) (fun h0 => ?_)
  · exact k1 h0
  · refine x_iinc (pl' := [some (.ref 79), some (xV t), some (xV (n + 1)), some (xV p), some (xV e)]) xc125_43 rfl rfl ?_
    exact k2 h0

theorem wa125c {ro : Nat → Nat × (Nat → Int32)} {d : Nat} {Q : Option Value → pmS → Prop} {v4 : Option Value} {t n p : Int} {a : xA} {b : xB} (hA : xAr a) (ht : 1 ≤ t ∧ t ≤ 60) (hn : 0 ≤ n ∧ n ≤ 4) (hp : 1 ≤ p ∧ p ≤ 3) (hd : 2 ≤ d)
    (k1 : pmWp ro d 0 125 1 4 [some (.ref 79), some (xV t), some (xV n), some (xV (p + 1)), v4] [] (xS a b) Q) :
    pmWp ro d 0 125 1 46 [some (.ref 79), some (xV t), some (xV n), some (xV p), v4] [] (xS a b) Q := by
  refine x_iinc (pl' := [some (.ref 79), some (xV t), some (xV n), some (xV (p + 1)), v4]) xc125_46 rfl rfl ?_
  refine x_goto xc125_49 ?_
  exact k1

theorem wa126 {ro : Nat → Nat × (Nat → Int32)} {d : Nat} {Q : Option Value → pmS → Prop} {t p : Int} {a : xA} {b : xB} (ht : 1 ≤ t ∧ t ≤ 60) (hp : 1 ≤ p ∧ p ≤ 3)
    (k1 : pmWp ro d 0 126 1 8 [some (.ref 79), some (xV t), some (xV p), some (xV 0), some (xV 0), some (xV 0), none, none] [] (xS a b) Q) :
    pmWp ro d 0 126 1 0 [some (.ref 79), some (xV t), some (xV p), none, none, none, none, none] [] (xS a b) Q := by
  refine x_iconst xc126_0 ?_
  refine x_istoren (pl' := [some (.ref 79), some (xV t), some (xV p), some (xV 0), none, none, none, none]) xc126_1 rfl rfl ?_
  refine x_iconst xc126_2 ?_
  refine x_istore (pl' := [some (.ref 79), some (xV t), some (xV p), some (xV 0), some (xV 0), none, none, none]) xc126_3 rfl rfl ?_
  refine x_iconst xc126_5 ?_
  refine x_istore (pl' := [some (.ref 79), some (xV t), some (xV p), some (xV 0), some (xV 0), some (xV 0), none, none]) xc126_6 rfl rfl ?_
  exact k1

theorem xg126 {ro : Nat → Nat × (Nat → Int32)} {d : Nat} {Q : Option Value → pmS → Prop} {a : xA} {b : xB} {t p : Int} (h : pmWp ro d 0 126 1 0 [some (.ref 79), some (xV t), some (xV p), none, none, none, none, none] [] (xS a b) Q) : pmCs ro (d + 1) 126 [.ref 79, xV t, xV p] (xS a b) Q := x_go xi126 rfl rfl rfl rfl rfl h
theorem wa126a {ro : Nat → Nat × (Nat → Int32)} {d : Nat} {Q : Option Value → pmS → Prop} {v6 : Option Value} {v7 : Option Value} {t p be cn kd : Int} {a : xA} {b : xB} (hA : xAr a) (ht : 1 ≤ t ∧ t ≤ 60) (hp : 1 ≤ p ∧ p ≤ 3) (hbe : 0 ≤ be ∧ be ≤ 6) (hcn : 0 ≤ cn ∧ cn ≤ 60) (hkd : 0 ≤ kd ∧ kd ≤ 7) (hd : 2 ≤ d)
    (k1 : (7 ≤ kd) → Q (some (xV be)) (xS a b))
    (k2 : (¬ 7 ≤ kd) → pmWp ro d 0 126 1 21 [some (.ref 79), some (xV t), some (xV p), some (xV be), some (xV cn), some (xV kd), some (xV 0), some (xV 1)] [] (xS a b) Q) :
    pmWp ro d 0 126 1 8 [some (.ref 79), some (xV t), some (xV p), some (xV be), some (xV cn), some (xV kd), v6, v7] [] (xS a b) Q := by
  refine x_iload xc126_8 rfl ?_
  refine x_bipush xc126_10 (by decide) ?_
  refine x_icge xc126_12 (xRk (by have g0 := hkd; omega)) (xRk (by decide)) (fun h0 => ?_) (fun h0 => ?_)
  · refine x_iloadn xc126_90 rfl ?_
    refine x_iret xc126_91 (Or.inl rfl) ?_
    exact k1 h0
  · refine x_iconst xc126_15 ?_
    refine x_istore (pl' := [some (.ref 79), some (xV t), some (xV p), some (xV be), some (xV cn), some (xV kd), some (xV 0), v7]) xc126_16 rfl rfl ?_
    refine x_iconst xc126_18 ?_
    refine x_istore (pl' := [some (.ref 79), some (xV t), some (xV p), some (xV be), some (xV cn), some (xV kd), some (xV 0), some (xV 1)]) xc126_19 rfl rfl ?_
    exact k2 h0

theorem wa126b {ro : Nat → Nat × (Nat → Int32)} {d : Nat} {Q : Option Value → pmS → Prop} {n i t p be cn kd : Int} {a : xA} {b : xB} (hA : xAr a) (ht : 1 ≤ t ∧ t ≤ 60) (hp : 1 ≤ p ∧ p ≤ 3) (hbe : 0 ≤ be ∧ be ≤ 6) (hcn : 0 ≤ cn ∧ cn ≤ 60) (hkd : 0 ≤ kd ∧ kd ≤ 7) (hd : 2 ≤ d) (hn : 0 ≤ n ∧ n ≤ 60) (hi : 1 ≤ i ∧ i ≤ 60)
    (k1 : (t ≤ i) → pmWp ro d 0 126 1 70 [some (.ref 79), some (xV t), some (xV p), some (xV be), some (xV cn), some (xV kd), some (xV n), some (xV i)] [] (xS a b) Q)
    (k2 : (¬ t ≤ i) → (a 85 (i * 4 + p) = -1) → pmWp ro d 0 126 1 64 [some (.ref 79), some (xV t), some (xV p), some (xV be), some (xV cn), some (xV kd), some (xV (n + 0)), some (xV i)] [] (xS a b) Q)
    (k3 : (¬ t ≤ i) → (¬ a 85 (i * 4 + p) = -1) → (¬ uPrt (a 85 (i * 4 + p)) 0 = kd) → pmWp ro d 0 126 1 64 [some (.ref 79), some (xV t), some (xV p), some (xV be), some (xV cn), some (xV kd), some (xV (n + 0)), some (xV i)] [] (xS a b) Q)
    (k4 : (¬ t ≤ i) → (¬ a 85 (i * 4 + p) = -1) → (uPrt (a 85 (i * 4 + p)) 0 = kd) → pmWp ro d 0 126 1 64 [some (.ref 79), some (xV t), some (xV p), some (xV be), some (xV cn), some (xV kd), some (xV (n + 1)), some (xV i)] [] (xS a b) Q) :
    pmWp ro d 0 126 1 21 [some (.ref 79), some (xV t), some (xV p), some (xV be), some (xV cn), some (xV kd), some (xV n), some (xV i)] [] (xS a b) Q := by
  refine x_iload xc126_21 rfl ?_
  refine x_iloadn xc126_23 rfl ?_
  refine x_icge xc126_24 (xRk (by have g0 := hi; omega)) (xRk (by have g0 := ht; omega)) (fun h0 => ?_) (fun h0 => ?_)
  · exact k1 h0
  · refine x_iload xc126_27 rfl ?_
    refine x_aloadn xc126_29 rfl ?_
    refine x_iload xc126_30 rfl ?_
    refine x_iloadn xc126_32 rfl ?_
    refine x_cV (as := [xV i, xV p]) (rest := [xV n]) xc126_33 rfl xi118 xz79 ⟨rfl, rfl⟩ rfl rfl ?_
    refine rk118 (by omega) (by have g0 := hi; omega) (by have g0 := hp; omega) ?_
    refine x_iconst xc126_36 ?_
    refine x_iceq xc126_37 (xRk (by have g0 := xRb (hA 85 (i * 4 + p)); omega)) (xRk (by decide)) (fun h1 => ?_) (fun h1 => ?_)
    · refine x_iconst xc126_60 ?_
      refine x_iadd xc126_61 ?_
      refine x_istore (pl' := [some (.ref 79), some (xV t), some (xV p), some (xV be), some (xV cn), some (xV kd), some (xV (n + 0)), some (xV i)]) xc126_62 rfl rfl ?_
      exact k2 h0 h1
    · refine x_aloadn xc126_40 rfl ?_
      refine x_iload xc126_41 rfl ?_
      refine x_iloadn xc126_43 rfl ?_
      refine x_cV (as := [xV i, xV p]) (rest := [xV n]) xc126_44 rfl xi118 xz79 ⟨rfl, rfl⟩ rfl rfl ?_
      refine rk118 (by omega) (by have g0 := hi; omega) (by have g0 := hp; omega) ?_
      refine x_iconst xc126_47 ?_
      refine x_cS (as := [xV (a 85 (i * 4 + p)), xV 0]) (rest := [xV n]) xc126_48 rfl rfl xi83 ⟨rfl, rfl⟩ rfl rfl ?_
      refine rk83x (by omega) (xRk (by have g0 := xRb (hA 85 (i * 4 + p)); omega)) (by omega) ?_
      refine x_iload xc126_51 rfl ?_
      refine x_icne xc126_53 (xRk (by have g0 := uPrt_b (e := a 85 (i * 4 + p)) (pt := 0); omega)) (xRk (by have g0 := hkd; omega)) (fun h2 => ?_) (fun h2 => ?_)
      · refine x_iconst xc126_60 ?_
        refine x_iadd xc126_61 ?_
        refine x_istore (pl' := [some (.ref 79), some (xV t), some (xV p), some (xV be), some (xV cn), some (xV kd), some (xV (n + 0)), some (xV i)]) xc126_62 rfl rfl ?_
        exact k3 h0 h1 h2
      · replace h2 := Classical.not_not.mp h2
        refine x_iconst xc126_56 ?_
        refine x_goto xc126_57 ?_
        refine x_iadd xc126_61 ?_
        refine x_istore (pl' := [some (.ref 79), some (xV t), some (xV p), some (xV be), some (xV cn), some (xV kd), some (xV (n + 1)), some (xV i)]) xc126_62 rfl rfl ?_
        exact k4 h0 h1 h2

theorem wa126c {ro : Nat → Nat × (Nat → Int32)} {d : Nat} {Q : Option Value → pmS → Prop} {n i t p be cn kd : Int} {a : xA} {b : xB} (hA : xAr a) (ht : 1 ≤ t ∧ t ≤ 60) (hp : 1 ≤ p ∧ p ≤ 3) (hbe : 0 ≤ be ∧ be ≤ 6) (hcn : 0 ≤ cn ∧ cn ≤ 60) (hkd : 0 ≤ kd ∧ kd ≤ 7) (hd : 2 ≤ d) (hn : 0 ≤ n ∧ n ≤ 60) (hi : 1 ≤ i ∧ i ≤ 60)
    (k1 : pmWp ro d 0 126 1 21 [some (.ref 79), some (xV t), some (xV p), some (xV be), some (xV cn), some (xV kd), some (xV n), some (xV (i + 1))] [] (xS a b) Q) :
    pmWp ro d 0 126 1 64 [some (.ref 79), some (xV t), some (xV p), some (xV be), some (xV cn), some (xV kd), some (xV n), some (xV i)] [] (xS a b) Q := by
  refine x_iinc (pl' := [some (.ref 79), some (xV t), some (xV p), some (xV be), some (xV cn), some (xV kd), some (xV n), some (xV (i + 1))]) xc126_64 rfl rfl ?_
  refine x_goto xc126_67 ?_
  exact k1

theorem wa126d {ro : Nat → Nat × (Nat → Int32)} {d : Nat} {Q : Option Value → pmS → Prop} {n i t p be cn kd : Int} {a : xA} {b : xB} (hA : xAr a) (ht : 1 ≤ t ∧ t ≤ 60) (hp : 1 ≤ p ∧ p ≤ 3) (hbe : 0 ≤ be ∧ be ≤ 6) (hcn : 0 ≤ cn ∧ cn ≤ 60) (hkd : 0 ≤ kd ∧ kd ≤ 7) (hd : 2 ≤ d) (hn : 0 ≤ n ∧ n ≤ 60) (hi : 1 ≤ i ∧ i ≤ 60)
    (k1 : (n ≤ cn) → pmWp ro d 0 126 1 8 [some (.ref 79), some (xV t), some (xV p), some (xV be), some (xV cn), some (xV (kd + 1)), some (xV n), some (xV i)] [] (xS a b) Q)
    (k2 : (¬ n ≤ cn) → pmWp ro d 0 126 1 8 [some (.ref 79), some (xV t), some (xV p), some (xV kd), some (xV n), some (xV (kd + 1)), some (xV n), some (xV i)] [] (xS a b) Q) :
    pmWp ro d 0 126 1 70 [some (.ref 79), some (xV t), some (xV p), some (xV be), some (xV cn), some (xV kd), some (xV n), some (xV i)] [] (xS a b) Q := by
  refine x_iload xc126_70 rfl ?_
  refine x_iload xc126_72 rfl ?_
  refine x_icle xc126_74 (xRk (by have g0 := hn; omega)) (xRk (by have g0 := hcn; omega)) (fun h0 => ?_) (fun h0 => ?_)
  · refine x_iinc (pl' := [some (.ref 79), some (xV t), some (xV p), some (xV be), some (xV cn), some (xV (kd + 1)), some (xV n), some (xV i)]) xc126_84 rfl rfl ?_
    refine x_goto xc126_87 ?_
    exact k1 h0
  · refine x_iload xc126_77 rfl ?_
    refine x_istore (pl' := [some (.ref 79), some (xV t), some (xV p), some (xV be), some (xV n), some (xV kd), some (xV n), some (xV i)]) xc126_79 rfl rfl ?_
    refine x_iload xc126_81 rfl ?_
    refine x_istoren (pl' := [some (.ref 79), some (xV t), some (xV p), some (xV kd), some (xV n), some (xV kd), some (xV n), some (xV i)]) xc126_83 rfl rfl ?_
    refine x_iinc (pl' := [some (.ref 79), some (xV t), some (xV p), some (xV kd), some (xV n), some (xV (kd + 1)), some (xV n), some (xV i)]) xc126_84 rfl rfl ?_
    refine x_goto xc126_87 ?_
    exact k2 h0

theorem wa239 {ro : Nat → Nat × (Nat → Int32)} {d : Nat} {Q : Option Value → pmS → Prop} {t tn : Int} {a : xA} {b : xB} (qr1 : xR t) (hx : a 88 114 = tn) (htn : 0 ≤ tn ∧ tn ≤ 60) (hd : 1 ≤ d)
    (k1 : (1 ≤ t ∧ t ≤ tn) → pmWp ro d 12 239 1 21 [some (.ref 87), some (xV t), some (xV 0), some (xV 1), none, none] [] (xS a b) Q)
    (k2 : (¬ (1 ≤ t ∧ t ≤ tn)) → Q (some (xV (-1))) (xS a b)) :
    pmWp ro d 12 239 1 0 [some (.ref 87), some (xV t), none, none, none, none] [] (xS a b) Q := by
  refine x_iloadn xc239_0 rfl ?_
  refine x_iconst xc239_1 ?_
  refine x_aloadn xc239_2 rfl ?_
  refine x_gfr xc239_3 rfl rfl xz87 rfl ?_
  refine x_bipush xc239_6 (by decide) ?_
  refine x_ial' (v := tn) xc239_8 xz88 rfl (by omega) (by omega) (by omega) hx ?_
  refine x_cS (as := [xV t, xV 1, xV tn]) (rest := []) xc239_9 rfl rfl xi143 ⟨rfl, rfl⟩ rfl rfl ?_
  refine xk143 (xRk (by have g0 := xRb qr1; omega)) (xRk (by decide)) (xRk (by have g0 := htn; omega)) (by omega) (fun h0 => ?_) (fun h1 => ?_)
  · refine x_ifne xc239_12 (xRk (by decide)) (fun _ => ?_) (fun h => absurd h (by omega))
    refine x_iconst xc239_17 ?_
    refine x_istoren (pl' := [some (.ref 87), some (xV t), some (xV 0), none, none, none]) xc239_18 rfl rfl ?_
    refine x_iconst xc239_19 ?_
    refine x_istoren (pl' := [some (.ref 87), some (xV t), some (xV 0), some (xV 1), none, none]) xc239_20 rfl rfl ?_
    exact k1 h0
  · refine x_ifne xc239_12 (xRk (by decide)) (fun h => absurd h (by omega)) (fun _ => ?_)
    refine x_iconst xc239_15 ?_
    refine x_iret xc239_16 (Or.inl rfl) ?_
    exact k2 h1

theorem xg239 {ro : Nat → Nat × (Nat → Int32)} {d : Nat} {Q : Option Value → pmS → Prop} {a : xA} {b : xB} {t : Int} (h : pmWp ro d 12 239 1 0 [some (.ref 87), some (xV t), none, none, none, none] [] (xS a b) Q) : pmCs ro (d + 1) 239 [.ref 87, xV t] (xS a b) Q := x_go xi239 rfl rfl rfl rfl rfl h
theorem wa239a {ro : Nat → Nat × (Nat → Int32)} {d : Nat} {Q : Option Value → pmS → Prop} {v4 : Option Value} {v5 : Option Value} {t n p : Int} {a : xA} {b : xB} (hA : xAr a) (ht : 1 ≤ t ∧ t ≤ 60) (hn : 0 ≤ n ∧ n ≤ 4) (hp : 1 ≤ p ∧ p ≤ 4) (hd : 2 ≤ d)
    (k1 : (4 ≤ p) → Q (some (xV n)) (xS a b))
    (k2 : (¬ 4 ≤ p) → (t ≤ 1) → Q (some (xV n)) (xS a b))
    (k3 : (¬ 4 ≤ p) → (¬ t ≤ 1) → (¬ a 124 (4 * t + p) = 0) → pmWp ro d 12 239 1 50 [some (.ref 87), some (xV t), some (xV n), some (xV p), some (xV 0), v5] [] (xS a b) Q)
    (k4 : (¬ 4 ≤ p) → (¬ t ≤ 1) → (a 124 (4 * t + p) = 0) → pmWp ro d 12 239 1 197 [some (.ref 87), some (xV t), some (xV n), some (xV p), v4, v5] [] (xS a b) Q) :
    pmWp ro d 12 239 1 21 [some (.ref 87), some (xV t), some (xV n), some (xV p), v4, v5] [] (xS a b) Q := by
  refine x_iloadn xc239_21 rfl ?_
  refine x_iconst xc239_22 ?_
  refine x_icge xc239_23 (xRk (by have g0 := hp; omega)) (xRk (by decide)) (fun h0 => ?_) (fun h0 => ?_)
  · refine x_iloadn xc239_203 rfl ?_
    refine x_iret xc239_204 (Or.inl rfl) ?_
    exact k1 h0
  · refine x_iloadn xc239_26 rfl ?_
    refine x_iconst xc239_27 ?_
    refine x_icle xc239_28 (xRk (by have g0 := ht; omega)) (xRk (by decide)) (fun h1 => ?_) (fun h1 => ?_)
    · refine x_iloadn xc239_203 rfl ?_
      refine x_iret xc239_204 (Or.inl rfl) ?_
      exact k2 h0 h1
    · refine x_aloadn xc239_31 rfl ?_
      refine x_gfr xc239_32 rfl rfl xz87 rfl ?_
      refine x_iconst xc239_35 ?_
      refine x_iloadn xc239_36 rfl ?_
      refine x_imul xc239_37 ?_
      refine x_iloadn xc239_38 rfl ?_
      refine x_iadd xc239_39 ?_
      refine x_bal xc239_40 xz124 (Or.inl rfl) (by have g0 := ht; have g1 := hp; omega) (by have g0 := ht; have g1 := hp; omega) (by have g0 := ht; have g1 := hp; omega) ?_
      refine x_ifne xc239_41 (xRk (by have g0 := ht; have g1 := hp; have g2 := xRb (hA 124 (4 * t + p)); omega)) (fun h2 => ?_) (fun h2 => ?_)
      · refine x_iconst xc239_47 ?_
        refine x_istore (pl' := [some (.ref 87), some (xV t), some (xV n), some (xV p), some (xV 0), v5]) xc239_48 rfl rfl ?_
        exact k3 h0 h1 h2
      · replace h2 := Classical.not_not.mp h2
        refine x_goto xc239_44 ?_
        exact k4 h0 h1 h2

theorem wa239b {ro : Nat → Nat × (Nat → Int32)} {d : Nat} {Q : Option Value → pmS → Prop} {v5 : Option Value} {k t n p : Int} {a : xA} {b : xB} (hA : xAr a) (ht : 1 ≤ t ∧ t ≤ 60) (hn : 0 ≤ n ∧ n ≤ 4) (hp : 1 ≤ p ∧ p ≤ 3) (hd : 2 ≤ d) (hk : 0 ≤ k ∧ k ≤ 7)
    (k1 : (7 ≤ k) → pmWp ro d 12 239 1 74 [some (.ref 87), some (xV t), some (xV n), some (xV p), some (xV 1), v5] [] (xS a b) Q)
    (k2 : (¬ 7 ≤ k) → pmWp ro d 12 239 1 50 [some (.ref 87), some (xV t), some (xV n), some (xV p), some (xV (k + 1)), v5] [] (xS (xU a 125 k 0) b) Q) :
    pmWp ro d 12 239 1 50 [some (.ref 87), some (xV t), some (xV n), some (xV p), some (xV k), v5] [] (xS a b) Q := by
  refine x_iload xc239_50 rfl ?_
  refine x_bipush xc239_52 (by decide) ?_
  refine x_icge xc239_54 (xRk (by have g0 := hk; omega)) (xRk (by decide)) (fun h0 => ?_) (fun h0 => ?_)
  · refine x_iconst xc239_71 ?_
    refine x_istore (pl' := [some (.ref 87), some (xV t), some (xV n), some (xV p), some (xV 1), v5]) xc239_72 rfl rfl ?_
    exact k1 h0
  · refine x_aloadn xc239_57 rfl ?_
    refine x_gfr xc239_58 rfl rfl xz87 rfl ?_
    refine x_iload xc239_61 rfl ?_
    refine x_iconst xc239_63 ?_
    refine x_ias xc239_64 xz125 (by have g0 := hk; omega) (by have g0 := hk; omega) (by have g0 := hk; omega) ?_
    refine x_iinc (pl' := [some (.ref 87), some (xV t), some (xV n), some (xV p), some (xV (k + 1)), v5]) xc239_65 rfl rfl ?_
    refine x_goto xc239_68 ?_
    exact k2 h0

theorem wa239c {ro : Nat → Nat × (Nat → Int32)} {d : Nat} {Q : Option Value → pmS → Prop} {v5 : Option Value} {c v k t n p : Int} {a : xA} {b : xB} (hA : xAr a) (ht : 1 ≤ t ∧ t ≤ 60) (hn : 0 ≤ n ∧ n ≤ 4) (hp : 1 ≤ p ∧ p ≤ 3) (hd : 2 ≤ d) (hk : 1 ≤ k ∧ k ≤ 60) (hcx : a 120 (4 * k + p) = c) (hc : -1 ≤ c ∧ c < 61) (hvx : a 125 (uK c) = v) (hv : 0 ≤ v ∧ v ≤ 60)
    (k1 : (t ≤ k) → pmWp ro d 12 239 1 126 [some (.ref 87), some (xV t), some (xV n), some (xV p), some (xV k), v5] [] (xS a b) Q)
    (k2 : (¬ t ≤ k) → pmWp ro d 12 239 1 74 [some (.ref 87), some (xV t), some (xV n), some (xV p), some (xV (k + 1)), v5] [] (xS (xU a 125 (uK c) (v + 1)) b) Q) :
    pmWp ro d 12 239 1 74 [some (.ref 87), some (xV t), some (xV n), some (xV p), some (xV k), v5] [] (xS a b) Q := by
  refine x_iload xc239_74 rfl ?_
  refine x_iloadn xc239_76 rfl ?_
  refine x_icge xc239_77 (xRk (by have g0 := hk; omega)) (xRk (by have g0 := ht; omega)) (fun h0 => ?_) (fun h0 => ?_)
  · exact k1 h0
  · refine x_aloadn xc239_80 rfl ?_
    refine x_gfr xc239_81 rfl rfl xz87 rfl ?_
    refine x_aloadn xc239_84 rfl ?_
    refine x_gfr xc239_85 rfl rfl xz87 rfl ?_
    refine x_iconst xc239_88 ?_
    refine x_iload xc239_89 rfl ?_
    refine x_imul xc239_91 ?_
    refine x_iloadn xc239_92 rfl ?_
    refine x_iadd xc239_93 ?_
    refine x_ial' (v := c) xc239_94 xz120 rfl (by have g0 := hk; have g1 := hp; omega) (by have g0 := hk; have g1 := hp; omega) (by have g0 := hk; have g1 := hp; omega) hcx ?_
    refine x_cS (as := [xV c]) (rest := [.ref 125]) xc239_95 rfl rfl xi193 ⟨rfl, rfl⟩ rfl rfl ?_
    refine rk193 (by omega) (by have g0 := hc; omega) ?_
    refine x_aloadn xc239_98 rfl ?_
    refine x_gfr xc239_99 rfl rfl xz87 rfl ?_
    refine x_aloadn xc239_102 rfl ?_
    refine x_gfr xc239_103 rfl rfl xz87 rfl ?_
    refine x_iconst xc239_106 ?_
    refine x_iload xc239_107 rfl ?_
    refine x_imul xc239_109 ?_
    refine x_iloadn xc239_110 rfl ?_
    refine x_iadd xc239_111 ?_
    refine x_ial' (v := c) xc239_112 xz120 rfl (by have g0 := hk; have g1 := hp; omega) (by have g0 := hk; have g1 := hp; omega) (by have g0 := hk; have g1 := hp; omega) hcx ?_
    refine x_cS (as := [xV c]) (rest := [.ref 125, xV (uK c), .ref 125]) xc239_113 rfl rfl xi193 ⟨rfl, rfl⟩ rfl rfl ?_
    refine rk193 (by omega) (by have g0 := hc; omega) ?_
    refine x_ial' (v := v) xc239_116 xz125 rfl (by have g0 := uKb (by have g0 := hc; omega); omega) (by have g0 := uKb (by have g0 := hc; omega); omega) (by have g0 := uKb (by have g0 := hc; omega); omega) hvx ?_
    refine x_iconst xc239_117 ?_
    refine x_iadd xc239_118 ?_
    refine x_ias xc239_119 xz125 (by have g0 := uKb (by have g0 := hc; omega); omega) (by have g0 := uKb (by have g0 := hc; omega); omega) (by have g0 := uKb (by have g0 := hc; omega); omega) ?_
    refine x_iinc (pl' := [some (.ref 87), some (xV t), some (xV n), some (xV p), some (xV (k + 1)), v5]) xc239_120 rfl rfl ?_
    refine x_goto xc239_123 ?_
    exact k2 h0

theorem wa239d {ro : Nat → Nat × (Nat → Int32)} {d : Nat} {Q : Option Value → pmS → Prop} {v5 : Option Value} {k t n p : Int} {a : xA} {b : xB} (hA : xAr a) (ht : 1 ≤ t ∧ t ≤ 60) (hn : 0 ≤ n ∧ n ≤ 4) (hp : 1 ≤ p ∧ p ≤ 3) (hd : 2 ≤ d)
    (k1 : pmWp ro d 12 239 1 132 [some (.ref 87), some (xV t), some (xV n), some (xV p), some (xV 0), some (xV 1)] [] (xS a b) Q) :
    pmWp ro d 12 239 1 126 [some (.ref 87), some (xV t), some (xV n), some (xV p), some (xV k), v5] [] (xS a b) Q := by
  refine x_iconst xc239_126 ?_
  refine x_istore (pl' := [some (.ref 87), some (xV t), some (xV n), some (xV p), some (xV 0), v5]) xc239_127 rfl rfl ?_
  refine x_iconst xc239_129 ?_
  refine x_istore (pl' := [some (.ref 87), some (xV t), some (xV n), some (xV p), some (xV 0), some (xV 1)]) xc239_130 rfl rfl ?_
  exact k1

theorem wa239e {ro : Nat → Nat × (Nat → Int32)} {d : Nat} {Q : Option Value → pmS → Prop} {be k t n p : Int} {a : xA} {b : xB} (hA : xAr a) (ht : 1 ≤ t ∧ t ≤ 60) (hn : 0 ≤ n ∧ n ≤ 4) (hp : 1 ≤ p ∧ p ≤ 3) (hd : 2 ≤ d) (hbe : 0 ≤ be ∧ be ≤ 6) (hk : 1 ≤ k ∧ k ≤ 7)
    (k1 : (7 ≤ k) → pmWp ro d 12 239 1 171 [some (.ref 87), some (xV t), some (xV n), some (xV p), some (xV be), some (xV k)] [] (xS a b) Q)
    (k2 : (¬ 7 ≤ k) → (a 125 k ≤ a 125 be) → pmWp ro d 12 239 1 132 [some (.ref 87), some (xV t), some (xV n), some (xV p), some (xV be), some (xV (k + 1))] [] (xS a b) Q)
    (k3 : (¬ 7 ≤ k) → (¬ a 125 k ≤ a 125 be) → pmWp ro d 12 239 1 132 [some (.ref 87), some (xV t), some (xV n), some (xV p), some (xV k), some (xV (k + 1))] [] (xS a b) Q) :
    pmWp ro d 12 239 1 132 [some (.ref 87), some (xV t), some (xV n), some (xV p), some (xV be), some (xV k)] [] (xS a b) Q := by
  refine x_iload xc239_132 rfl ?_
  refine x_bipush xc239_134 (by decide) ?_
  refine x_icge xc239_136 (xRk (by have g0 := hk; omega)) (xRk (by decide)) (fun h0 => ?_) (fun h0 => ?_)
  · exact k1 h0
  · refine x_aloadn xc239_139 rfl ?_
    refine x_gfr xc239_140 rfl rfl xz87 rfl ?_
    refine x_iload xc239_143 rfl ?_
    refine x_ial xc239_145 xz125 rfl (by have g0 := hk; omega) (by have g0 := hk; omega) (by have g0 := hk; omega) ?_
    refine x_aloadn xc239_146 rfl ?_
    refine x_gfr xc239_147 rfl rfl xz87 rfl ?_
    refine x_iload xc239_150 rfl ?_
    refine x_ial xc239_152 xz125 rfl (by have g0 := hbe; omega) (by have g0 := hbe; omega) (by have g0 := hbe; omega) ?_
    refine x_icle xc239_153 (xRk (by have g0 := hk; have g1 := xRb (hA 125 k); omega)) (xRk (by have g0 := hbe; have g1 := xRb (hA 125 be); omega)) (fun h1 => ?_) (fun h1 => ?_)
    · refine x_iload xc239_161 rfl ?_
      refine x_istore (pl' := [some (.ref 87), some (xV t), some (xV n), some (xV p), some (xV be), some (xV k)]) xc239_163 rfl rfl ?_
      refine x_iinc (pl' := [some (.ref 87), some (xV t), some (xV n), some (xV p), some (xV be), some (xV (k + 1))]) xc239_165 rfl rfl ?_
      refine x_goto xc239_168 ?_
      exact k2 h0 h1
    · refine x_iload xc239_156 rfl ?_
      refine x_goto xc239_158 ?_
      refine x_istore (pl' := [some (.ref 87), some (xV t), some (xV n), some (xV p), some (xV k), some (xV k)]) xc239_163 rfl rfl ?_
      refine x_iinc (pl' := [some (.ref 87), some (xV t), some (xV n), some (xV p), some (xV k), some (xV (k + 1))]) xc239_165 rfl rfl ?_
      refine x_goto xc239_168 ?_
      exact k3 h0 h1

theorem wa239f {ro : Nat → Nat × (Nat → Int32)} {d : Nat} {Q : Option Value → pmS → Prop} {c be k t n p : Int} {a : xA} {b : xB} (hA : xAr a) (ht : 1 ≤ t ∧ t ≤ 60) (hn : 0 ≤ n ∧ n ≤ 4) (hp : 1 ≤ p ∧ p ≤ 3) (hd : 2 ≤ d) (hbe : 0 ≤ be ∧ be ≤ 6) (hk : 1 ≤ k ∧ k ≤ 7) (hcx : a 120 (4 * t + p) = c) (hc : -1 ≤ c ∧ c < 61)
    (k1 : (¬ uK c = be) → pmWp ro d 12 239 1 197 [some (.ref 87), some (xV t), some (xV (n + 1)), some (xV p), some (xV be), some (xV k)] [] (xS a b) Q)
    (k2 : (uK c = be) → pmWp ro d 12 239 1 197 [some (.ref 87), some (xV t), some (xV (n + 0)), some (xV p), some (xV be), some (xV k)] [] (xS a b) Q) :
    pmWp ro d 12 239 1 171 [some (.ref 87), some (xV t), some (xV n), some (xV p), some (xV be), some (xV k)] [] (xS a b) Q := by
  refine x_iloadn xc239_171 rfl ?_
  refine x_aloadn xc239_172 rfl ?_
  refine x_gfr xc239_173 rfl rfl xz87 rfl ?_
  refine x_iconst xc239_176 ?_
  refine x_iloadn xc239_177 rfl ?_
  refine x_imul xc239_178 ?_
  refine x_iloadn xc239_179 rfl ?_
  refine x_iadd xc239_180 ?_
  refine x_ial' (v := c) xc239_181 xz120 rfl (by have g0 := ht; have g1 := hp; omega) (by have g0 := ht; have g1 := hp; omega) (by have g0 := ht; have g1 := hp; omega) hcx ?_
  refine x_cS (as := [xV c]) (rest := [xV n]) xc239_182 rfl rfl xi193 ⟨rfl, rfl⟩ rfl rfl ?_
  refine rk193 (by omega) (by have g0 := hc; omega) ?_
  refine x_iload xc239_185 rfl ?_
  refine x_icne xc239_187 (xRk (by have g0 := uKb (by have g0 := hc; omega); omega)) (xRk (by have g0 := hbe; omega)) (fun h0 => ?_) (fun h0 => ?_)
  · refine x_iconst xc239_194 ?_
    refine x_iadd xc239_195 ?_
    refine x_istoren (pl' := [some (.ref 87), some (xV t), some (xV (n + 1)), some (xV p), some (xV be), some (xV k)]) xc239_196 rfl rfl ?_
    exact k1 h0
  · replace h0 := Classical.not_not.mp h0
    refine x_iconst xc239_190 ?_
    refine x_goto xc239_191 ?_
    refine x_iadd xc239_195 ?_
    refine x_istoren (pl' := [some (.ref 87), some (xV t), some (xV (n + 0)), some (xV p), some (xV be), some (xV k)]) xc239_196 rfl rfl ?_
    exact k2 h0

theorem wa239g {ro : Nat → Nat × (Nat → Int32)} {d : Nat} {Q : Option Value → pmS → Prop} {v4 : Option Value} {v5 : Option Value} {t n p : Int} {a : xA} {b : xB} (hA : xAr a) (ht : 1 ≤ t ∧ t ≤ 60) (hn : 0 ≤ n ∧ n ≤ 4) (hp : 1 ≤ p ∧ p ≤ 3) (hd : 2 ≤ d)
    (k1 : pmWp ro d 12 239 1 21 [some (.ref 87), some (xV t), some (xV n), some (xV (p + 1)), v4, v5] [] (xS a b) Q) :
    pmWp ro d 12 239 1 197 [some (.ref 87), some (xV t), some (xV n), some (xV p), v4, v5] [] (xS a b) Q := by
  refine x_iinc (pl' := [some (.ref 87), some (xV t), some (xV n), some (xV (p + 1)), v4, v5]) xc239_197 rfl rfl ?_
  refine x_goto xc239_200 ?_
  exact k1

end
