/-! exact: acts -/
section
set_option maxRecDepth 100000
theorem xi148 : pmInf[148]? = some pmI_148 := rfl
theorem xi205 : pmInf[205]? = some pmI_205 := rfl
theorem xi217 : pmInf[217]? = some pmI_217 := rfl
theorem xi218 : pmInf[218]? = some pmI_218 := rfl
theorem xi219 : pmInf[219]? = some pmI_219 := rfl
theorem xi220 : pmInf[220]? = some pmI_220 := rfl
theorem xi221 : pmInf[221]? = some pmI_221 := rfl
theorem xi227 : pmInf[227]? = some pmI_227 := rfl
theorem xc148_0 : pmCode 148 0 = some (.iload_n 1) ∧ 0 + 1 = 1 := ⟨rfl, rfl⟩
theorem xc148_1 : pmCode 148 1 = some (.ifCond .lt 15) ∧ ((1 : Nat) : Int) + 15 = ((16 : Nat) : Int) ∧ 1 + 3 = 4 := ⟨rfl, rfl, rfl⟩
theorem xc148_4 : pmCode 148 4 = some (.iload_n 1) ∧ 4 + 1 = 5 := ⟨rfl, rfl⟩
theorem xc148_5 : pmCode 148 5 = some (.aload_n 0) ∧ 5 + 1 = 6 := ⟨rfl, rfl⟩
theorem xc148_6 : pmCode 148 6 = some (.getfield 127) ∧ 6 + 3 = 9 := ⟨rfl, rfl⟩
theorem xc148_9 : pmCode 148 9 = some (.if_icmp .ge 7) ∧ ((9 : Nat) : Int) + 7 = ((16 : Nat) : Int) ∧ 9 + 3 = 12 := ⟨rfl, rfl, rfl⟩
theorem xc148_12 : pmCode 148 12 = some (.iconst 1) ∧ 12 + 1 = 13 := ⟨rfl, rfl⟩
theorem xc148_13 : pmCode 148 13 = some (.goto 4) ∧ ((13 : Nat) : Int) + 4 = ((17 : Nat) : Int) := ⟨rfl, rfl⟩
theorem xc148_16 : pmCode 148 16 = some (.iconst 0) ∧ 16 + 1 = 17 := ⟨rfl, rfl⟩
theorem xc148_17 : pmCode 148 17 = some .ireturn := rfl
theorem xc181_0 : pmCode 181 0 = some (.iconst 0) ∧ 0 + 1 = 1 := ⟨rfl, rfl⟩
theorem xc181_1 : pmCode 181 1 = some (.istore_n 2) ∧ 1 + 1 = 2 := ⟨rfl, rfl⟩
theorem xc181_2 : pmCode 181 2 = some (.iload_n 2) ∧ 2 + 1 = 3 := ⟨rfl, rfl⟩
theorem xc181_3 : pmCode 181 3 = some (.bipush 120) ∧ 3 + 2 = 5 := ⟨rfl, rfl⟩
theorem xc181_5 : pmCode 181 5 = some (.if_icmp .ge 26) ∧ ((5 : Nat) : Int) + 26 = ((31 : Nat) : Int) ∧ 5 + 3 = 8 := ⟨rfl, rfl, rfl⟩
theorem xc181_8 : pmCode 181 8 = some (.aload_n 0) ∧ 8 + 1 = 9 := ⟨rfl, rfl⟩
theorem xc181_9 : pmCode 181 9 = some (.getfield 13) ∧ 9 + 3 = 12 := ⟨rfl, rfl⟩
theorem xc181_12 : pmCode 181 12 = some (.bipush 120) ∧ 12 + 2 = 14 := ⟨rfl, rfl⟩
theorem xc181_14 : pmCode 181 14 = some (.iload_n 1) ∧ 14 + 1 = 15 := ⟨rfl, rfl⟩
theorem xc181_15 : pmCode 181 15 = some .imul ∧ 15 + 1 = 16 := ⟨rfl, rfl⟩
theorem xc181_16 : pmCode 181 16 = some (.iload_n 2) ∧ 16 + 1 = 17 := ⟨rfl, rfl⟩
theorem xc181_17 : pmCode 181 17 = some .iadd ∧ 17 + 1 = 18 := ⟨rfl, rfl⟩
theorem xc181_18 : pmCode 181 18 = some (.aload_n 0) ∧ 18 + 1 = 19 := ⟨rfl, rfl⟩
theorem xc181_19 : pmCode 181 19 = some (.getfield 7) ∧ 19 + 3 = 22 := ⟨rfl, rfl⟩
theorem xc181_22 : pmCode 181 22 = some (.iload_n 2) ∧ 22 + 1 = 23 := ⟨rfl, rfl⟩
theorem xc181_23 : pmCode 181 23 = some .iaload ∧ 23 + 1 = 24 := ⟨rfl, rfl⟩
theorem xc181_24 : pmCode 181 24 = some .iastore ∧ 24 + 1 = 25 := ⟨rfl, rfl⟩
theorem xc181_25 : pmCode 181 25 = some (.iinc 2 1) ∧ 25 + 3 = 28 := ⟨rfl, rfl⟩
theorem xc181_28 : pmCode 181 28 = some (.goto (-26)) ∧ ((28 : Nat) : Int) + (-26) = ((2 : Nat) : Int) := ⟨rfl, rfl⟩
theorem xc181_31 : pmCode 181 31 = some .return_ := rfl
theorem xc205_0 : pmCode 205 0 = some (.iconst 0) ∧ 0 + 1 = 1 := ⟨rfl, rfl⟩
theorem xc205_1 : pmCode 205 1 = some (.istore_n 3) ∧ 1 + 1 = 2 := ⟨rfl, rfl⟩
theorem xc217_0 : pmCode 217 0 = some (.iload_n 1) ∧ 0 + 1 = 1 := ⟨rfl, rfl⟩
theorem xc217_1 : pmCode 217 1 = some (.ifCond .ne 5) ∧ ((1 : Nat) : Int) + 5 = ((6 : Nat) : Int) ∧ 1 + 3 = 4 := ⟨rfl, rfl, rfl⟩
theorem xc217_4 : pmCode 217 4 = some (.iconst 1) ∧ 4 + 1 = 5 := ⟨rfl, rfl⟩
theorem xc217_5 : pmCode 217 5 = some .ireturn := rfl
theorem xc217_6 : pmCode 217 6 = some (.aload_n 0) ∧ 6 + 1 = 7 := ⟨rfl, rfl⟩
theorem xc217_7 : pmCode 217 7 = some (.getfield 7) ∧ 7 + 3 = 10 := ⟨rfl, rfl⟩
theorem xc217_10 : pmCode 217 10 = some (.bipush 114) ∧ 10 + 2 = 12 := ⟨rfl, rfl⟩
theorem xc217_12 : pmCode 217 12 = some .iaload ∧ 12 + 1 = 13 := ⟨rfl, rfl⟩
theorem xc217_13 : pmCode 217 13 = some (.ifCond .eq 13) ∧ ((13 : Nat) : Int) + 13 = ((26 : Nat) : Int) ∧ 13 + 3 = 16 := ⟨rfl, rfl, rfl⟩
theorem xc217_16 : pmCode 217 16 = some (.aload_n 0) ∧ 16 + 1 = 17 := ⟨rfl, rfl⟩
theorem xc217_17 : pmCode 217 17 = some (.getfield 7) ∧ 17 + 3 = 20 := ⟨rfl, rfl⟩
theorem xc217_20 : pmCode 217 20 = some (.bipush 115) ∧ 20 + 2 = 22 := ⟨rfl, rfl⟩
theorem xc217_22 : pmCode 217 22 = some .iaload ∧ 22 + 1 = 23 := ⟨rfl, rfl⟩
theorem xc217_23 : pmCode 217 23 = some (.ifCond .eq 5) ∧ ((23 : Nat) : Int) + 5 = ((28 : Nat) : Int) ∧ 23 + 3 = 26 := ⟨rfl, rfl, rfl⟩
theorem xc217_26 : pmCode 217 26 = some (.iconst 0) ∧ 26 + 1 = 27 := ⟨rfl, rfl⟩
theorem xc217_27 : pmCode 217 27 = some .ireturn := rfl
theorem xc217_28 : pmCode 217 28 = some (.iload_n 1) ∧ 28 + 1 = 29 := ⟨rfl, rfl⟩
theorem xc217_29 : pmCode 217 29 = some (.bipush 36) ∧ 29 + 2 = 31 := ⟨rfl, rfl⟩
theorem xc217_31 : pmCode 217 31 = some (.if_icmp .ge 22) ∧ ((31 : Nat) : Int) + 22 = ((53 : Nat) : Int) ∧ 31 + 3 = 34 := ⟨rfl, rfl, rfl⟩
theorem xc217_34 : pmCode 217 34 = some (.aload_n 0) ∧ 34 + 1 = 35 := ⟨rfl, rfl⟩
theorem xc217_35 : pmCode 217 35 = some (.iload_n 1) ∧ 35 + 1 = 36 := ⟨rfl, rfl⟩
theorem xc217_36 : pmCode 217 36 = some (.iconst 1) ∧ 36 + 1 = 37 := ⟨rfl, rfl⟩
theorem xc217_37 : pmCode 217 37 = some .isub ∧ 37 + 1 = 38 := ⟨rfl, rfl⟩
theorem xc217_38 : pmCode 217 38 = some (.bipush 7) ∧ 38 + 2 = 40 := ⟨rfl, rfl⟩
theorem xc217_40 : pmCode 217 40 = some .idiv ∧ 40 + 1 = 41 := ⟨rfl, rfl⟩
theorem xc217_41 : pmCode 217 41 = some (.iload_n 1) ∧ 41 + 1 = 42 := ⟨rfl, rfl⟩
theorem xc217_42 : pmCode 217 42 = some (.iconst 1) ∧ 42 + 1 = 43 := ⟨rfl, rfl⟩
theorem xc217_43 : pmCode 217 43 = some .isub ∧ 43 + 1 = 44 := ⟨rfl, rfl⟩
theorem xc217_44 : pmCode 217 44 = some (.bipush 7) ∧ 44 + 2 = 46 := ⟨rfl, rfl⟩
theorem xc217_46 : pmCode 217 46 = some .irem ∧ 46 + 1 = 47 := ⟨rfl, rfl⟩
theorem xc217_47 : pmCode 217 47 = some (.invokevirtual 383) ∧ 47 + 3 = 50 := ⟨rfl, rfl⟩
theorem xc217_50 : pmCode 217 50 = some (.goto 23) ∧ ((50 : Nat) : Int) + 23 = ((73 : Nat) : Int) := ⟨rfl, rfl⟩
theorem xc217_53 : pmCode 217 53 = some (.aload_n 0) ∧ 53 + 1 = 54 := ⟨rfl, rfl⟩
theorem xc217_54 : pmCode 217 54 = some (.iconst 1) ∧ 54 + 1 = 55 := ⟨rfl, rfl⟩
theorem xc217_55 : pmCode 217 55 = some (.iload_n 1) ∧ 55 + 1 = 56 := ⟨rfl, rfl⟩
theorem xc217_56 : pmCode 217 56 = some (.bipush 36) ∧ 56 + 2 = 58 := ⟨rfl, rfl⟩
theorem xc217_58 : pmCode 217 58 = some .isub ∧ 58 + 1 = 59 := ⟨rfl, rfl⟩
theorem xc217_59 : pmCode 217 59 = some (.bipush 7) ∧ 59 + 2 = 61 := ⟨rfl, rfl⟩
theorem xc217_61 : pmCode 217 61 = some .idiv ∧ 61 + 1 = 62 := ⟨rfl, rfl⟩
theorem xc217_62 : pmCode 217 62 = some .iadd ∧ 62 + 1 = 63 := ⟨rfl, rfl⟩
theorem xc217_63 : pmCode 217 63 = some (.iload_n 1) ∧ 63 + 1 = 64 := ⟨rfl, rfl⟩
theorem xc217_64 : pmCode 217 64 = some (.bipush 36) ∧ 64 + 2 = 66 := ⟨rfl, rfl⟩
theorem xc217_66 : pmCode 217 66 = some .isub ∧ 66 + 1 = 67 := ⟨rfl, rfl⟩
theorem xc217_67 : pmCode 217 67 = some (.bipush 7) ∧ 67 + 2 = 69 := ⟨rfl, rfl⟩
theorem xc217_69 : pmCode 217 69 = some .irem ∧ 69 + 1 = 70 := ⟨rfl, rfl⟩
theorem xc217_70 : pmCode 217 70 = some (.invokevirtual 386) ∧ 70 + 3 = 73 := ⟨rfl, rfl⟩
theorem xc217_73 : pmCode 217 73 = some .ireturn := rfl
theorem xc218_0 : pmCode 218 0 = some (.aload_n 0) ∧ 0 + 1 = 1 := ⟨rfl, rfl⟩
theorem xc218_1 : pmCode 218 1 = some (.iload_n 1) ∧ 1 + 1 = 2 := ⟨rfl, rfl⟩
theorem xc218_2 : pmCode 218 2 = some (.invokevirtual 157) ∧ 2 + 3 = 5 := ⟨rfl, rfl⟩
theorem xc218_5 : pmCode 218 5 = some (.ifCond .eq 39) ∧ ((5 : Nat) : Int) + 39 = ((44 : Nat) : Int) ∧ 5 + 3 = 8 := ⟨rfl, rfl, rfl⟩
theorem xc218_8 : pmCode 218 8 = some (.iload_n 2) ∧ 8 + 1 = 9 := ⟨rfl, rfl⟩
theorem xc218_9 : pmCode 218 9 = some (.invokestatic 135) ∧ 9 + 3 = 12 := ⟨rfl, rfl⟩
theorem xc218_12 : pmCode 218 12 = some (.ifCond .eq 32) ∧ ((12 : Nat) : Int) + 32 = ((44 : Nat) : Int) ∧ 12 + 3 = 15 := ⟨rfl, rfl, rfl⟩
theorem xc218_15 : pmCode 218 15 = some (.aload_n 0) ∧ 15 + 1 = 16 := ⟨rfl, rfl⟩
theorem xc218_16 : pmCode 218 16 = some (.getfield 7) ∧ 16 + 3 = 19 := ⟨rfl, rfl⟩
theorem xc218_19 : pmCode 218 19 = some (.iconst 4) ∧ 19 + 1 = 20 := ⟨rfl, rfl⟩
theorem xc218_20 : pmCode 218 20 = some (.iload_n 1) ∧ 20 + 1 = 21 := ⟨rfl, rfl⟩
theorem xc218_21 : pmCode 218 21 = some .iadd ∧ 21 + 1 = 22 := ⟨rfl, rfl⟩
theorem xc218_22 : pmCode 218 22 = some .iaload ∧ 22 + 1 = 23 := ⟨rfl, rfl⟩
theorem xc218_23 : pmCode 218 23 = some (.bipush 20) ∧ 23 + 2 = 25 := ⟨rfl, rfl⟩
theorem xc218_25 : pmCode 218 25 = some (.if_icmp .ne 19) ∧ ((25 : Nat) : Int) + 19 = ((44 : Nat) : Int) ∧ 25 + 3 = 28 := ⟨rfl, rfl, rfl⟩
theorem xc218_28 : pmCode 218 28 = some (.aload_n 0) ∧ 28 + 1 = 29 := ⟨rfl, rfl⟩
theorem xc218_29 : pmCode 218 29 = some (.getfield 7) ∧ 29 + 3 = 32 := ⟨rfl, rfl⟩
theorem xc218_32 : pmCode 218 32 = some (.bipush 9) ∧ 32 + 2 = 34 := ⟨rfl, rfl⟩
theorem xc218_34 : pmCode 218 34 = some (.iload_n 1) ∧ 34 + 1 = 35 := ⟨rfl, rfl⟩
theorem xc218_35 : pmCode 218 35 = some .iadd ∧ 35 + 1 = 36 := ⟨rfl, rfl⟩
theorem xc218_36 : pmCode 218 36 = some .iaload ∧ 36 + 1 = 37 := ⟨rfl, rfl⟩
theorem xc218_37 : pmCode 218 37 = some (.iload_n 2) ∧ 37 + 1 = 38 := ⟨rfl, rfl⟩
theorem xc218_38 : pmCode 218 38 = some .ishr ∧ 38 + 1 = 39 := ⟨rfl, rfl⟩
theorem xc218_39 : pmCode 218 39 = some (.iconst 1) ∧ 39 + 1 = 40 := ⟨rfl, rfl⟩
theorem xc218_40 : pmCode 218 40 = some .iand ∧ 40 + 1 = 41 := ⟨rfl, rfl⟩
theorem xc218_41 : pmCode 218 41 = some (.ifCond .ne 5) ∧ ((41 : Nat) : Int) + 5 = ((46 : Nat) : Int) ∧ 41 + 3 = 44 := ⟨rfl, rfl, rfl⟩
theorem xc218_44 : pmCode 218 44 = some (.iconst 0) ∧ 44 + 1 = 45 := ⟨rfl, rfl⟩
theorem xc218_45 : pmCode 218 45 = some .ireturn := rfl
theorem xc218_46 : pmCode 218 46 = some (.iconst 0) ∧ 46 + 1 = 47 := ⟨rfl, rfl⟩
theorem xc218_47 : pmCode 218 47 = some (.istore_n 3) ∧ 47 + 1 = 48 := ⟨rfl, rfl⟩
theorem xc218_48 : pmCode 218 48 = some (.iload_n 3) ∧ 48 + 1 = 49 := ⟨rfl, rfl⟩
theorem xc218_49 : pmCode 218 49 = some (.iconst 4) ∧ 49 + 1 = 50 := ⟨rfl, rfl⟩
theorem xc218_50 : pmCode 218 50 = some (.if_icmp .ge 20) ∧ ((50 : Nat) : Int) + 20 = ((70 : Nat) : Int) ∧ 50 + 3 = 53 := ⟨rfl, rfl, rfl⟩
theorem xc218_53 : pmCode 218 53 = some (.aload_n 0) ∧ 53 + 1 = 54 := ⟨rfl, rfl⟩
theorem xc218_54 : pmCode 218 54 = some (.iload_n 3) ∧ 54 + 1 = 55 := ⟨rfl, rfl⟩
theorem xc218_55 : pmCode 218 55 = some (.iload_n 2) ∧ 55 + 1 = 56 := ⟨rfl, rfl⟩
theorem xc218_56 : pmCode 218 56 = some (.invokevirtual 263) ∧ 56 + 3 = 59 := ⟨rfl, rfl⟩
theorem xc218_59 : pmCode 218 59 = some (.ifCond .eq 5) ∧ ((59 : Nat) : Int) + 5 = ((64 : Nat) : Int) ∧ 59 + 3 = 62 := ⟨rfl, rfl, rfl⟩
theorem xc218_62 : pmCode 218 62 = some (.iconst 0) ∧ 62 + 1 = 63 := ⟨rfl, rfl⟩
theorem xc218_63 : pmCode 218 63 = some .ireturn := rfl
theorem xc218_64 : pmCode 218 64 = some (.iinc 3 1) ∧ 64 + 3 = 67 := ⟨rfl, rfl⟩
theorem xc218_67 : pmCode 218 67 = some (.goto (-19)) ∧ ((67 : Nat) : Int) + (-19) = ((48 : Nat) : Int) := ⟨rfl, rfl⟩
theorem xc218_70 : pmCode 218 70 = some (.iconst 1) ∧ 70 + 1 = 71 := ⟨rfl, rfl⟩
theorem xc218_71 : pmCode 218 71 = some .ireturn := rfl
theorem xc219_0 : pmCode 219 0 = some (.iload_n 1) ∧ 0 + 1 = 1 := ⟨rfl, rfl⟩
theorem xc219_1 : pmCode 219 1 = some (.invokestatic 150) ∧ 1 + 3 = 4 := ⟨rfl, rfl⟩
theorem xc219_4 : pmCode 219 4 = some (.ifCond .eq 39) ∧ ((4 : Nat) : Int) + 39 = ((43 : Nat) : Int) ∧ 4 + 3 = 7 := ⟨rfl, rfl, rfl⟩
theorem xc219_7 : pmCode 219 7 = some (.aload_n 0) ∧ 7 + 1 = 8 := ⟨rfl, rfl⟩
theorem xc219_8 : pmCode 219 8 = some (.iload_n 1) ∧ 8 + 1 = 9 := ⟨rfl, rfl⟩
theorem xc219_9 : pmCode 219 9 = some (.invokevirtual 253) ∧ 9 + 3 = 12 := ⟨rfl, rfl⟩
theorem xc219_12 : pmCode 219 12 = some (.ifCond .eq 31) ∧ ((12 : Nat) : Int) + 31 = ((43 : Nat) : Int) ∧ 12 + 3 = 15 := ⟨rfl, rfl, rfl⟩
theorem xc219_15 : pmCode 219 15 = some (.iload_n 2) ∧ 15 + 1 = 16 := ⟨rfl, rfl⟩
theorem xc219_16 : pmCode 219 16 = some (.invokestatic 135) ∧ 16 + 3 = 19 := ⟨rfl, rfl⟩
theorem xc219_19 : pmCode 219 19 = some (.ifCond .eq 24) ∧ ((19 : Nat) : Int) + 24 = ((43 : Nat) : Int) ∧ 19 + 3 = 22 := ⟨rfl, rfl, rfl⟩
theorem xc219_22 : pmCode 219 22 = some (.aload_n 0) ∧ 22 + 1 = 23 := ⟨rfl, rfl⟩
theorem xc219_23 : pmCode 219 23 = some (.getfield 16) ∧ 23 + 3 = 26 := ⟨rfl, rfl⟩
theorem xc219_26 : pmCode 219 26 = some (.bipush 7) ∧ 26 + 2 = 28 := ⟨rfl, rfl⟩
theorem xc219_28 : pmCode 219 28 = some (.aload_n 0) ∧ 28 + 1 = 29 := ⟨rfl, rfl⟩
theorem xc219_29 : pmCode 219 29 = some (.getfield 7) ∧ 29 + 3 = 32 := ⟨rfl, rfl⟩
theorem xc219_32 : pmCode 219 32 = some (.iconst 0) ∧ 32 + 1 = 33 := ⟨rfl, rfl⟩
theorem xc219_33 : pmCode 219 33 = some (.iload_n 1) ∧ 33 + 1 = 34 := ⟨rfl, rfl⟩
theorem xc219_34 : pmCode 219 34 = some .iadd ∧ 34 + 1 = 35 := ⟨rfl, rfl⟩
theorem xc219_35 : pmCode 219 35 = some .iaload ∧ 35 + 1 = 36 := ⟨rfl, rfl⟩
theorem xc219_36 : pmCode 219 36 = some .imul ∧ 36 + 1 = 37 := ⟨rfl, rfl⟩
theorem xc219_37 : pmCode 219 37 = some (.iload_n 2) ∧ 37 + 1 = 38 := ⟨rfl, rfl⟩
theorem xc219_38 : pmCode 219 38 = some .iadd ∧ 38 + 1 = 39 := ⟨rfl, rfl⟩
theorem xc219_39 : pmCode 219 39 = some .baload ∧ 39 + 1 = 40 := ⟨rfl, rfl⟩
theorem xc219_40 : pmCode 219 40 = some (.ifCond .ne 5) ∧ ((40 : Nat) : Int) + 5 = ((45 : Nat) : Int) ∧ 40 + 3 = 43 := ⟨rfl, rfl, rfl⟩
theorem xc219_43 : pmCode 219 43 = some (.iconst 0) ∧ 43 + 1 = 44 := ⟨rfl, rfl⟩
theorem xc219_44 : pmCode 219 44 = some .ireturn := rfl
theorem xc219_45 : pmCode 219 45 = some (.aload_n 0) ∧ 45 + 1 = 46 := ⟨rfl, rfl⟩
theorem xc219_46 : pmCode 219 46 = some (.iconst 0) ∧ 46 + 1 = 47 := ⟨rfl, rfl⟩
theorem xc219_47 : pmCode 219 47 = some (.invokevirtual 253) ∧ 47 + 3 = 50 := ⟨rfl, rfl⟩
theorem xc219_50 : pmCode 219 50 = some (.ifCond .eq 30) ∧ ((50 : Nat) : Int) + 30 = ((80 : Nat) : Int) ∧ 50 + 3 = 53 := ⟨rfl, rfl, rfl⟩
theorem xc219_53 : pmCode 219 53 = some (.aload_n 0) ∧ 53 + 1 = 54 := ⟨rfl, rfl⟩
theorem xc219_54 : pmCode 219 54 = some (.getfield 7) ∧ 54 + 3 = 57 := ⟨rfl, rfl⟩
theorem xc219_57 : pmCode 219 57 = some (.iconst 0) ∧ 57 + 1 = 58 := ⟨rfl, rfl⟩
theorem xc219_58 : pmCode 219 58 = some .iaload ∧ 58 + 1 = 59 := ⟨rfl, rfl⟩
theorem xc219_59 : pmCode 219 59 = some (.iload_n 2) ∧ 59 + 1 = 60 := ⟨rfl, rfl⟩
theorem xc219_60 : pmCode 219 60 = some (.if_icmp .eq 24) ∧ ((60 : Nat) : Int) + 24 = ((84 : Nat) : Int) ∧ 60 + 3 = 63 := ⟨rfl, rfl, rfl⟩
theorem xc219_63 : pmCode 219 63 = some (.aload_n 0) ∧ 63 + 1 = 64 := ⟨rfl, rfl⟩
theorem xc219_64 : pmCode 219 64 = some (.getfield 7) ∧ 64 + 3 = 67 := ⟨rfl, rfl⟩
theorem xc219_67 : pmCode 219 67 = some (.iconst 0) ∧ 67 + 1 = 68 := ⟨rfl, rfl⟩
theorem xc219_68 : pmCode 219 68 = some .iaload ∧ 68 + 1 = 69 := ⟨rfl, rfl⟩
theorem xc219_69 : pmCode 219 69 = some (.aload_n 0) ∧ 69 + 1 = 70 := ⟨rfl, rfl⟩
theorem xc219_70 : pmCode 219 70 = some (.getfield 7) ∧ 70 + 3 = 73 := ⟨rfl, rfl⟩
theorem xc219_73 : pmCode 219 73 = some (.iconst 0) ∧ 73 + 1 = 74 := ⟨rfl, rfl⟩
theorem xc219_74 : pmCode 219 74 = some (.iload_n 1) ∧ 74 + 1 = 75 := ⟨rfl, rfl⟩
theorem xc219_75 : pmCode 219 75 = some .iadd ∧ 75 + 1 = 76 := ⟨rfl, rfl⟩
theorem xc219_76 : pmCode 219 76 = some .iaload ∧ 76 + 1 = 77 := ⟨rfl, rfl⟩
theorem xc219_77 : pmCode 219 77 = some (.if_icmp .eq 7) ∧ ((77 : Nat) : Int) + 7 = ((84 : Nat) : Int) ∧ 77 + 3 = 80 := ⟨rfl, rfl, rfl⟩
theorem xc219_80 : pmCode 219 80 = some (.iconst 1) ∧ 80 + 1 = 81 := ⟨rfl, rfl⟩
theorem xc219_81 : pmCode 219 81 = some (.goto 4) ∧ ((81 : Nat) : Int) + 4 = ((85 : Nat) : Int) := ⟨rfl, rfl⟩
theorem xc219_84 : pmCode 219 84 = some (.iconst 0) ∧ 84 + 1 = 85 := ⟨rfl, rfl⟩
theorem xc219_85 : pmCode 219 85 = some .ireturn := rfl
theorem xc220_0 : pmCode 220 0 = some (.iload_n 1) ∧ 0 + 1 = 1 := ⟨rfl, rfl⟩
theorem xc220_1 : pmCode 220 1 = some (.ifCond .ne 7) ∧ ((1 : Nat) : Int) + 7 = ((8 : Nat) : Int) ∧ 1 + 3 = 4 := ⟨rfl, rfl, rfl⟩
theorem xc220_4 : pmCode 220 4 = some (.iconst 0) ∧ 4 + 1 = 5 := ⟨rfl, rfl⟩
theorem xc220_5 : pmCode 220 5 = some (.goto 34) ∧ ((5 : Nat) : Int) + 34 = ((39 : Nat) : Int) := ⟨rfl, rfl⟩
theorem xc220_8 : pmCode 220 8 = some (.iload_n 1) ∧ 8 + 1 = 9 := ⟨rfl, rfl⟩
theorem xc220_9 : pmCode 220 9 = some (.bipush 36) ∧ 9 + 2 = 11 := ⟨rfl, rfl⟩
theorem xc220_11 : pmCode 220 11 = some (.if_icmp .ge 17) ∧ ((11 : Nat) : Int) + 17 = ((28 : Nat) : Int) ∧ 11 + 3 = 14 := ⟨rfl, rfl, rfl⟩
theorem xc220_14 : pmCode 220 14 = some (.iconst 2) ∧ 14 + 1 = 15 := ⟨rfl, rfl⟩
theorem xc220_15 : pmCode 220 15 = some (.aload_n 0) ∧ 15 + 1 = 16 := ⟨rfl, rfl⟩
theorem xc220_16 : pmCode 220 16 = some (.getfield 7) ∧ 16 + 3 = 19 := ⟨rfl, rfl⟩
theorem xc220_19 : pmCode 220 19 = some (.bipush 116) ∧ 19 + 2 = 21 := ⟨rfl, rfl⟩
theorem xc220_21 : pmCode 220 21 = some .iaload ∧ 21 + 1 = 22 := ⟨rfl, rfl⟩
theorem xc220_22 : pmCode 220 22 = some (.iconst 1) ∧ 22 + 1 = 23 := ⟨rfl, rfl⟩
theorem xc220_23 : pmCode 220 23 = some .iadd ∧ 23 + 1 = 24 := ⟨rfl, rfl⟩
theorem xc220_24 : pmCode 220 24 = some .imul ∧ 24 + 1 = 25 := ⟨rfl, rfl⟩
theorem xc220_25 : pmCode 220 25 = some (.goto 14) ∧ ((25 : Nat) : Int) + 14 = ((39 : Nat) : Int) := ⟨rfl, rfl⟩
theorem xc220_28 : pmCode 220 28 = some (.iconst 3) ∧ 28 + 1 = 29 := ⟨rfl, rfl⟩
theorem xc220_29 : pmCode 220 29 = some (.aload_n 0) ∧ 29 + 1 = 30 := ⟨rfl, rfl⟩
theorem xc220_30 : pmCode 220 30 = some (.getfield 7) ∧ 30 + 3 = 33 := ⟨rfl, rfl⟩
theorem xc220_33 : pmCode 220 33 = some (.bipush 117) ∧ 33 + 2 = 35 := ⟨rfl, rfl⟩
theorem xc220_35 : pmCode 220 35 = some .iaload ∧ 35 + 1 = 36 := ⟨rfl, rfl⟩
theorem xc220_36 : pmCode 220 36 = some (.iconst 1) ∧ 36 + 1 = 37 := ⟨rfl, rfl⟩
theorem xc220_37 : pmCode 220 37 = some .iadd ∧ 37 + 1 = 38 := ⟨rfl, rfl⟩
theorem xc220_38 : pmCode 220 38 = some .imul ∧ 38 + 1 = 39 := ⟨rfl, rfl⟩
theorem xc220_39 : pmCode 220 39 = some .ireturn := rfl
theorem xc221_0 : pmCode 221 0 = some (.iload_n 1) ∧ 0 + 1 = 1 := ⟨rfl, rfl⟩
theorem xc221_1 : pmCode 221 1 = some (.ifCond .ne 4) ∧ ((1 : Nat) : Int) + 4 = ((5 : Nat) : Int) ∧ 1 + 3 = 4 := ⟨rfl, rfl, rfl⟩
theorem xc221_4 : pmCode 221 4 = some .return_ := rfl
theorem xc221_5 : pmCode 221 5 = some (.aload_n 0) ∧ 5 + 1 = 6 := ⟨rfl, rfl⟩
theorem xc221_6 : pmCode 221 6 = some (.getfield 7) ∧ 6 + 3 = 9 := ⟨rfl, rfl⟩
theorem xc221_9 : pmCode 221 9 = some (.bipush 118) ∧ 9 + 2 = 11 := ⟨rfl, rfl⟩
theorem xc221_11 : pmCode 221 11 = some (.aload_n 0) ∧ 11 + 1 = 12 := ⟨rfl, rfl⟩
theorem xc221_12 : pmCode 221 12 = some (.getfield 7) ∧ 12 + 3 = 15 := ⟨rfl, rfl⟩
theorem xc221_15 : pmCode 221 15 = some (.bipush 118) ∧ 15 + 2 = 17 := ⟨rfl, rfl⟩
theorem xc221_17 : pmCode 221 17 = some .iaload ∧ 17 + 1 = 18 := ⟨rfl, rfl⟩
theorem xc221_18 : pmCode 221 18 = some (.aload_n 0) ∧ 18 + 1 = 19 := ⟨rfl, rfl⟩
theorem xc221_19 : pmCode 221 19 = some (.iload_n 1) ∧ 19 + 1 = 20 := ⟨rfl, rfl⟩
theorem xc221_20 : pmCode 221 20 = some (.invokevirtual 389) ∧ 20 + 3 = 23 := ⟨rfl, rfl⟩
theorem xc221_23 : pmCode 221 23 = some .iadd ∧ 23 + 1 = 24 := ⟨rfl, rfl⟩
theorem xc221_24 : pmCode 221 24 = some .iastore ∧ 24 + 1 = 25 := ⟨rfl, rfl⟩
theorem xc221_25 : pmCode 221 25 = some (.aload_n 0) ∧ 25 + 1 = 26 := ⟨rfl, rfl⟩
theorem xc221_26 : pmCode 221 26 = some (.getfield 7) ∧ 26 + 3 = 29 := ⟨rfl, rfl⟩
theorem xc221_29 : pmCode 221 29 = some (.bipush 115) ∧ 29 + 2 = 31 := ⟨rfl, rfl⟩
theorem xc221_31 : pmCode 221 31 = some (.iconst 1) ∧ 31 + 1 = 32 := ⟨rfl, rfl⟩
theorem xc221_32 : pmCode 221 32 = some .iastore ∧ 32 + 1 = 33 := ⟨rfl, rfl⟩
theorem xc221_33 : pmCode 221 33 = some (.iload_n 1) ∧ 33 + 1 = 34 := ⟨rfl, rfl⟩
theorem xc221_34 : pmCode 221 34 = some (.bipush 36) ∧ 34 + 2 = 36 := ⟨rfl, rfl⟩
theorem xc221_36 : pmCode 221 36 = some (.if_icmp .ge 38) ∧ ((36 : Nat) : Int) + 38 = ((74 : Nat) : Int) ∧ 36 + 3 = 39 := ⟨rfl, rfl, rfl⟩
theorem xc221_39 : pmCode 221 39 = some (.aload_n 0) ∧ 39 + 1 = 40 := ⟨rfl, rfl⟩
theorem xc221_40 : pmCode 221 40 = some (.getfield 7) ∧ 40 + 3 = 43 := ⟨rfl, rfl⟩
theorem xc221_43 : pmCode 221 43 = some (.bipush 116) ∧ 43 + 2 = 45 := ⟨rfl, rfl⟩
theorem xc221_45 : pmCode 221 45 = some (.aload_n 0) ∧ 45 + 1 = 46 := ⟨rfl, rfl⟩
theorem xc221_46 : pmCode 221 46 = some (.getfield 7) ∧ 46 + 3 = 49 := ⟨rfl, rfl⟩
theorem xc221_49 : pmCode 221 49 = some (.bipush 116) ∧ 49 + 2 = 51 := ⟨rfl, rfl⟩
theorem xc221_51 : pmCode 221 51 = some .iaload ∧ 51 + 1 = 52 := ⟨rfl, rfl⟩
theorem xc221_52 : pmCode 221 52 = some (.iconst 1) ∧ 52 + 1 = 53 := ⟨rfl, rfl⟩
theorem xc221_53 : pmCode 221 53 = some .iadd ∧ 53 + 1 = 54 := ⟨rfl, rfl⟩
theorem xc221_54 : pmCode 221 54 = some .iastore ∧ 54 + 1 = 55 := ⟨rfl, rfl⟩
theorem xc221_55 : pmCode 221 55 = some (.aload_n 0) ∧ 55 + 1 = 56 := ⟨rfl, rfl⟩
theorem xc221_56 : pmCode 221 56 = some (.iload_n 1) ∧ 56 + 1 = 57 := ⟨rfl, rfl⟩
theorem xc221_57 : pmCode 221 57 = some (.iconst 1) ∧ 57 + 1 = 58 := ⟨rfl, rfl⟩
theorem xc221_58 : pmCode 221 58 = some .isub ∧ 58 + 1 = 59 := ⟨rfl, rfl⟩
theorem xc221_59 : pmCode 221 59 = some (.bipush 7) ∧ 59 + 2 = 61 := ⟨rfl, rfl⟩
theorem xc221_61 : pmCode 221 61 = some .idiv ∧ 61 + 1 = 62 := ⟨rfl, rfl⟩
theorem xc221_62 : pmCode 221 62 = some (.iload_n 1) ∧ 62 + 1 = 63 := ⟨rfl, rfl⟩
theorem xc221_63 : pmCode 221 63 = some (.iconst 1) ∧ 63 + 1 = 64 := ⟨rfl, rfl⟩
theorem xc221_64 : pmCode 221 64 = some .isub ∧ 64 + 1 = 65 := ⟨rfl, rfl⟩
theorem xc221_65 : pmCode 221 65 = some (.bipush 7) ∧ 65 + 2 = 67 := ⟨rfl, rfl⟩
theorem xc221_67 : pmCode 221 67 = some .irem ∧ 67 + 1 = 68 := ⟨rfl, rfl⟩
theorem xc221_68 : pmCode 221 68 = some (.invokevirtual 259) ∧ 68 + 3 = 71 := ⟨rfl, rfl⟩
theorem xc221_71 : pmCode 221 71 = some (.goto 40) ∧ ((71 : Nat) : Int) + 40 = ((111 : Nat) : Int) := ⟨rfl, rfl⟩
theorem xc221_74 : pmCode 221 74 = some (.aload_n 0) ∧ 74 + 1 = 75 := ⟨rfl, rfl⟩
theorem xc221_75 : pmCode 221 75 = some (.getfield 7) ∧ 75 + 3 = 78 := ⟨rfl, rfl⟩
theorem xc221_78 : pmCode 221 78 = some (.bipush 117) ∧ 78 + 2 = 80 := ⟨rfl, rfl⟩
theorem xc221_80 : pmCode 221 80 = some (.aload_n 0) ∧ 80 + 1 = 81 := ⟨rfl, rfl⟩
theorem xc221_81 : pmCode 221 81 = some (.getfield 7) ∧ 81 + 3 = 84 := ⟨rfl, rfl⟩
theorem xc221_84 : pmCode 221 84 = some (.bipush 117) ∧ 84 + 2 = 86 := ⟨rfl, rfl⟩
theorem xc221_86 : pmCode 221 86 = some .iaload ∧ 86 + 1 = 87 := ⟨rfl, rfl⟩
theorem xc221_87 : pmCode 221 87 = some (.iconst 1) ∧ 87 + 1 = 88 := ⟨rfl, rfl⟩
theorem xc221_88 : pmCode 221 88 = some .iadd ∧ 88 + 1 = 89 := ⟨rfl, rfl⟩
theorem xc221_89 : pmCode 221 89 = some .iastore ∧ 89 + 1 = 90 := ⟨rfl, rfl⟩
theorem xc221_90 : pmCode 221 90 = some (.aload_n 0) ∧ 90 + 1 = 91 := ⟨rfl, rfl⟩
theorem xc221_91 : pmCode 221 91 = some (.getfield 7) ∧ 91 + 3 = 94 := ⟨rfl, rfl⟩
theorem xc221_94 : pmCode 221 94 = some (.iconst 1) ∧ 94 + 1 = 95 := ⟨rfl, rfl⟩
theorem xc221_95 : pmCode 221 95 = some (.iload_n 1) ∧ 95 + 1 = 96 := ⟨rfl, rfl⟩
theorem xc221_96 : pmCode 221 96 = some (.bipush 36) ∧ 96 + 2 = 98 := ⟨rfl, rfl⟩
theorem xc221_98 : pmCode 221 98 = some .isub ∧ 98 + 1 = 99 := ⟨rfl, rfl⟩
theorem xc221_99 : pmCode 221 99 = some (.bipush 7) ∧ 99 + 2 = 101 := ⟨rfl, rfl⟩
theorem xc221_101 : pmCode 221 101 = some .idiv ∧ 101 + 1 = 102 := ⟨rfl, rfl⟩
theorem xc221_102 : pmCode 221 102 = some .iadd ∧ 102 + 1 = 103 := ⟨rfl, rfl⟩
theorem xc221_103 : pmCode 221 103 = some (.iload_n 1) ∧ 103 + 1 = 104 := ⟨rfl, rfl⟩
theorem xc221_104 : pmCode 221 104 = some (.bipush 36) ∧ 104 + 2 = 106 := ⟨rfl, rfl⟩
theorem xc221_106 : pmCode 221 106 = some .isub ∧ 106 + 1 = 107 := ⟨rfl, rfl⟩
theorem xc221_107 : pmCode 221 107 = some (.bipush 7) ∧ 107 + 2 = 109 := ⟨rfl, rfl⟩
theorem xc221_109 : pmCode 221 109 = some .irem ∧ 109 + 1 = 110 := ⟨rfl, rfl⟩
theorem xc221_110 : pmCode 221 110 = some .iastore ∧ 110 + 1 = 111 := ⟨rfl, rfl⟩
theorem xc221_111 : pmCode 221 111 = some (.aload_n 0) ∧ 111 + 1 = 112 := ⟨rfl, rfl⟩
theorem xc221_112 : pmCode 221 112 = some (.invokevirtual 333) ∧ 112 + 3 = 115 := ⟨rfl, rfl⟩
theorem xc221_115 : pmCode 221 115 = some .return_ := rfl
theorem xc227_0 : pmCode 227 0 = some (.iconst 0) ∧ 0 + 1 = 1 := ⟨rfl, rfl⟩
theorem xc227_1 : pmCode 227 1 = some (.istore_n 2) ∧ 1 + 1 = 2 := ⟨rfl, rfl⟩
theorem xc227_2 : pmCode 227 2 = some (.iload_n 2) ∧ 2 + 1 = 3 := ⟨rfl, rfl⟩
theorem xc227_3 : pmCode 227 3 = some (.bipush 120) ∧ 3 + 2 = 5 := ⟨rfl, rfl⟩
theorem xc227_5 : pmCode 227 5 = some (.if_icmp .ge 26) ∧ ((5 : Nat) : Int) + 26 = ((31 : Nat) : Int) ∧ 5 + 3 = 8 := ⟨rfl, rfl, rfl⟩
theorem xc227_8 : pmCode 227 8 = some (.aload_n 0) ∧ 8 + 1 = 9 := ⟨rfl, rfl⟩
theorem xc227_9 : pmCode 227 9 = some (.getfield 7) ∧ 9 + 3 = 12 := ⟨rfl, rfl⟩
theorem xc227_12 : pmCode 227 12 = some (.iload_n 2) ∧ 12 + 1 = 13 := ⟨rfl, rfl⟩
theorem xc227_13 : pmCode 227 13 = some (.aload_n 0) ∧ 13 + 1 = 14 := ⟨rfl, rfl⟩
theorem xc227_14 : pmCode 227 14 = some (.getfield 13) ∧ 14 + 3 = 17 := ⟨rfl, rfl⟩
theorem xc227_17 : pmCode 227 17 = some (.bipush 120) ∧ 17 + 2 = 19 := ⟨rfl, rfl⟩
theorem xc227_19 : pmCode 227 19 = some (.iload_n 1) ∧ 19 + 1 = 20 := ⟨rfl, rfl⟩
theorem xc227_20 : pmCode 227 20 = some .imul ∧ 20 + 1 = 21 := ⟨rfl, rfl⟩
theorem xc227_21 : pmCode 227 21 = some (.iload_n 2) ∧ 21 + 1 = 22 := ⟨rfl, rfl⟩
theorem xc227_22 : pmCode 227 22 = some .iadd ∧ 22 + 1 = 23 := ⟨rfl, rfl⟩
theorem xc227_23 : pmCode 227 23 = some .iaload ∧ 23 + 1 = 24 := ⟨rfl, rfl⟩
theorem xc227_24 : pmCode 227 24 = some .iastore ∧ 24 + 1 = 25 := ⟨rfl, rfl⟩
theorem xc227_25 : pmCode 227 25 = some (.iinc 2 1) ∧ 25 + 3 = 28 := ⟨rfl, rfl⟩
theorem xc227_28 : pmCode 227 28 = some (.goto (-26)) ∧ ((28 : Nat) : Int) + (-26) = ((2 : Nat) : Int) := ⟨rfl, rfl⟩
theorem xc227_31 : pmCode 227 31 = some .return_ := rfl
theorem w148 {ro : Nat → Nat × (Nat → Int32)} {d : Nat} {Q : Option Value → pmS → Prop} {x n : Int} {a : xA} {b : xB} (hx : xR x) (hn : a 87 2 = n) (hn0 : 0 ≤ n ∧ n ≤ 5)
    (k1 : (x < 0) → Q (some (xV 0)) (xS a b))
    (k2 : (¬ x < 0) → (n ≤ x) → Q (some (xV 0)) (xS a b))
    (k3 : (¬ x < 0) → (¬ n ≤ x) → Q (some (xV 1)) (xS a b)) :
    pmWp ro d 12 148 2 0 [some (.ref 87), some (xV x)] [] (xS a b) Q := by
  refine x_iloadn xc148_0 rfl ?_
  refine x_iflt xc148_1 (xRk (by have g0 := xRb hx; omega)) (fun h0 => ?_) (fun h0 => ?_)
  · refine x_iconst xc148_16 ?_
    refine x_iret xc148_17 (Or.inr ⟨rfl, (by omega)⟩) ?_
    exact k1 h0
  · refine x_iloadn xc148_4 rfl ?_
    refine x_aloadn xc148_5 rfl ?_
    refine x_gfi' (k := 2) (v := n) xc148_6 rfl (Or.inl rfl) rfl xz87 hn ?_
    refine x_icge xc148_9 (xRk (by have g0 := xRb hx; omega)) (xRk (by have g0 := hn0; omega)) (fun h1 => ?_) (fun h1 => ?_)
    · refine x_iconst xc148_16 ?_
      refine x_iret xc148_17 (Or.inr ⟨rfl, (by omega)⟩) ?_
      exact k2 h0 h1
    · refine x_iconst xc148_12 ?_
      refine x_goto xc148_13 ?_
      refine x_iret xc148_17 (Or.inr ⟨rfl, (by omega)⟩) ?_
      exact k3 h0 h1

theorem xg148 {ro : Nat → Nat × (Nat → Int32)} {d : Nat} {Q : Option Value → pmS → Prop} {a : xA} {b : xB} {x : Int} (h : pmWp ro d 12 148 2 0 [some (.ref 87), some (xV x)] [] (xS a b) Q) : pmCs ro (d + 1) 148 [.ref 87, xV x] (xS a b) Q := x_go xi148 rfl rfl rfl rfl rfl h
theorem w205 {ro : Nat → Nat × (Nat → Int32)} {d : Nat} {Q : Option Value → pmS → Prop} {kk x y : Int} {a : xA} {b : xB}
    (k1 : pmWp ro d 12 205 1 2 [some (xV kk), some (xV x), some (xV y), some (xV 0)] [] (xS a b) Q) :
    pmWp ro d 12 205 1 0 [some (xV kk), some (xV x), some (xV y), none] [] (xS a b) Q := by
  refine x_iconst xc205_0 ?_
  refine x_istoren (pl' := [some (xV kk), some (xV x), some (xV y), some (xV 0)]) xc205_1 rfl rfl ?_
  exact k1

theorem xg205 {ro : Nat → Nat × (Nat → Int32)} {d : Nat} {Q : Option Value → pmS → Prop} {a : xA} {b : xB} {kk x y : Int} (h : pmWp ro d 12 205 1 0 [some (xV kk), some (xV x), some (xV y), none] [] (xS a b) Q) : pmCs ro (d + 1) 205 [xV kk, xV x, xV y] (xS a b) Q := x_go xi205 rfl rfl rfl rfl rfl h
theorem w217 {ro : Nat → Nat × (Nat → Int32)} {d : Nat} {Q : Option Value → pmS → Prop} {c : Int} {a : xA} {b : xB} (hA : xAr a) (hc : 0 ≤ c ∧ c ≤ 56) (hB114 : 0 ≤ a 88 114 ∧ a 88 114 ≤ 100) (hB115 : 0 ≤ a 88 115 ∧ a 88 115 ≤ 1)
    (k1 : (¬ c = 0) → (a 88 114 = 0) → Q (some (xV 0)) (xS a b))
    (k2 : (¬ c = 0) → (¬ a 88 114 = 0) → (a 88 115 = 0) → (36 ≤ c) → pmCs ro d 219 [.ref 87, xV (1 + ((c - 36) / 7)), xV ((c - 36) % 7)] (xS a b) fun r σ' => pmWp ro d 12 217 2 73 [some (.ref 87), some (xV c)] (r.toList ++ []) σ' Q)
    (k3 : (¬ c = 0) → (¬ a 88 114 = 0) → (a 88 115 = 0) → (¬ 36 ≤ c) → pmCs ro d 218 [.ref 87, xV ((c - 1) / 7), xV ((c - 1) % 7)] (xS a b) fun r σ' => pmWp ro d 12 217 2 50 [some (.ref 87), some (xV c)] (r.toList ++ []) σ' Q)
    (k4 : (¬ c = 0) → (¬ a 88 114 = 0) → (¬ a 88 115 = 0) → Q (some (xV 0)) (xS a b))
    (k5 : (c = 0) → Q (some (xV 1)) (xS a b)) :
    pmWp ro d 12 217 2 0 [some (.ref 87), some (xV c)] [] (xS a b) Q := by
  refine x_iloadn xc217_0 rfl ?_
  refine x_ifne xc217_1 (xRk (by have g0 := hc; omega)) (fun h0 => ?_) (fun h0 => ?_)
  · refine x_aloadn xc217_6 rfl ?_
    refine x_gfr xc217_7 rfl rfl xz87 rfl ?_
    refine x_bipush xc217_10 (by decide) ?_
    refine x_ial xc217_12 xz88 rfl (by omega) (by omega) (by omega) ?_
    refine x_ifeq xc217_13 (xRk (by have g0 := hB114; omega)) (fun h1 => ?_) (fun h1 => ?_)
    · refine x_iconst xc217_26 ?_
      refine x_iret xc217_27 (Or.inr ⟨rfl, (by omega)⟩) ?_
      exact k1 h0 h1
    · refine x_aloadn xc217_16 rfl ?_
      refine x_gfr xc217_17 rfl rfl xz87 rfl ?_
      refine x_bipush xc217_20 (by decide) ?_
      refine x_ial xc217_22 xz88 rfl (by omega) (by omega) (by omega) ?_
      refine x_ifeq xc217_23 (xRk (by have g0 := hB115; omega)) (fun h2 => ?_) (fun h2 => ?_)
      · refine x_iloadn xc217_28 rfl ?_
        refine x_bipush xc217_29 (by decide) ?_
        refine x_icge xc217_31 (xRk (by have g0 := hc; omega)) (xRk (by decide)) (fun h3 => ?_) (fun h3 => ?_)
        · refine x_aloadn xc217_53 rfl ?_
          refine x_iconst xc217_54 ?_
          refine x_iloadn xc217_55 rfl ?_
          refine x_bipush xc217_56 (by decide) ?_
          refine x_isub xc217_58 ?_
          refine x_bipush xc217_59 (by decide) ?_
          refine x_idiv (by have g0 := hc; omega) (xRk (by have g0 := hc; omega)) (by omega) (xRk (by decide)) xc217_61 ?_
          refine x_iadd xc217_62 ?_
          refine x_iloadn xc217_63 rfl ?_
          refine x_bipush xc217_64 (by decide) ?_
          refine x_isub xc217_66 ?_
          refine x_bipush xc217_67 (by decide) ?_
          refine x_irem (by have g0 := hc; omega) (xRk (by have g0 := hc; omega)) (by omega) (xRk (by decide)) xc217_69 ?_
          refine x_cV (as := [xV (1 + ((c - 36) / 7)), xV ((c - 36) % 7)]) (rest := []) xc217_70 rfl xi219 xz87 ⟨rfl, rfl⟩ rfl rfl ?_
          exact k2 h0 h1 h2 h3
        · refine x_aloadn xc217_34 rfl ?_
          refine x_iloadn xc217_35 rfl ?_
          refine x_iconst xc217_36 ?_
          refine x_isub xc217_37 ?_
          refine x_bipush xc217_38 (by decide) ?_
          refine x_idiv (by have g0 := hc; omega) (xRk (by have g0 := hc; omega)) (by omega) (xRk (by decide)) xc217_40 ?_
          refine x_iloadn xc217_41 rfl ?_
          refine x_iconst xc217_42 ?_
          refine x_isub xc217_43 ?_
          refine x_bipush xc217_44 (by decide) ?_
          refine x_irem (by have g0 := hc; omega) (xRk (by have g0 := hc; omega)) (by omega) (xRk (by decide)) xc217_46 ?_
          refine x_cV (as := [xV ((c - 1) / 7), xV ((c - 1) % 7)]) (rest := []) xc217_47 rfl xi218 xz87 ⟨rfl, rfl⟩ rfl rfl ?_
          exact k3 h0 h1 h2 h3
      · refine x_iconst xc217_26 ?_
        refine x_iret xc217_27 (Or.inr ⟨rfl, (by omega)⟩) ?_
        exact k4 h0 h1 h2
  · replace h0 := Classical.not_not.mp h0
    refine x_iconst xc217_4 ?_
    refine x_iret xc217_5 (Or.inr ⟨rfl, (by omega)⟩) ?_
    exact k5 h0

theorem xg217 {ro : Nat → Nat × (Nat → Int32)} {d : Nat} {Q : Option Value → pmS → Prop} {a : xA} {b : xB} {c : Int} (h : pmWp ro d 12 217 2 0 [some (.ref 87), some (xV c)] [] (xS a b) Q) : pmCs ro (d + 1) 217 [.ref 87, xV c] (xS a b) Q := x_go xi217 rfl rfl rfl rfl rfl h
theorem w220 {ro : Nat → Nat × (Nat → Int32)} {d : Nat} {Q : Option Value → pmS → Prop} {c : Int} {a : xA} {b : xB} (hc : 0 ≤ c ∧ c ≤ 56)
    (k1 : (¬ c = 0) → (36 ≤ c) → Q (some (xV (3 * (a 88 117 + 1)))) (xS a b))
    (k2 : (¬ c = 0) → (¬ 36 ≤ c) → Q (some (xV (2 * (a 88 116 + 1)))) (xS a b))
    (k3 : (c = 0) → Q (some (xV 0)) (xS a b)) :
    pmWp ro d 12 220 1 0 [some (.ref 87), some (xV c)] [] (xS a b) Q := by
  refine x_iloadn xc220_0 rfl ?_
  refine x_ifne xc220_1 (xRk (by have g0 := hc; omega)) (fun h0 => ?_) (fun h0 => ?_)
  · refine x_iloadn xc220_8 rfl ?_
    refine x_bipush xc220_9 (by decide) ?_
    refine x_icge xc220_11 (xRk (by have g0 := hc; omega)) (xRk (by decide)) (fun h1 => ?_) (fun h1 => ?_)
    · refine x_iconst xc220_28 ?_
      refine x_aloadn xc220_29 rfl ?_
      refine x_gfr xc220_30 rfl rfl xz87 rfl ?_
      refine x_bipush xc220_33 (by decide) ?_
      refine x_ial xc220_35 xz88 rfl (by omega) (by omega) (by omega) ?_
      refine x_iconst xc220_36 ?_
      refine x_iadd xc220_37 ?_
      refine x_imul xc220_38 ?_
      refine x_iret xc220_39 (Or.inl rfl) ?_
      exact k1 h0 h1
    · refine x_iconst xc220_14 ?_
      refine x_aloadn xc220_15 rfl ?_
      refine x_gfr xc220_16 rfl rfl xz87 rfl ?_
      refine x_bipush xc220_19 (by decide) ?_
      refine x_ial xc220_21 xz88 rfl (by omega) (by omega) (by omega) ?_
      refine x_iconst xc220_22 ?_
      refine x_iadd xc220_23 ?_
      refine x_imul xc220_24 ?_
      refine x_goto xc220_25 ?_
      refine x_iret xc220_39 (Or.inl rfl) ?_
      exact k2 h0 h1
  · replace h0 := Classical.not_not.mp h0
    refine x_iconst xc220_4 ?_
    refine x_goto xc220_5 ?_
    refine x_iret xc220_39 (Or.inl rfl) ?_
    exact k3 h0

theorem xg220 {ro : Nat → Nat × (Nat → Int32)} {d : Nat} {Q : Option Value → pmS → Prop} {a : xA} {b : xB} {c : Int} (h : pmWp ro d 12 220 1 0 [some (.ref 87), some (xV c)] [] (xS a b) Q) : pmCs ro (d + 1) 220 [.ref 87, xV c] (xS a b) Q := x_go xi220 rfl rfl rfl rfl rfl h
theorem w181 {ro : Nat → Nat × (Nat → Int32)} {d : Nat} {Q : Option Value → pmS → Prop} {s : Int} {a : xA} {b : xB}
    (k1 : pmWp ro d 12 181 0 2 [some (.ref 87), some (xV s), some (xV 0)] [] (xS a b) Q) :
    pmWp ro d 12 181 0 0 [some (.ref 87), some (xV s), none] [] (xS a b) Q := by
  refine x_iconst xc181_0 ?_
  refine x_istoren (pl' := [some (.ref 87), some (xV s), some (xV 0)]) xc181_1 rfl rfl ?_
  exact k1

theorem xg181 {ro : Nat → Nat × (Nat → Int32)} {d : Nat} {Q : Option Value → pmS → Prop} {a : xA} {b : xB} {s : Int} (h : pmWp ro d 12 181 0 0 [some (.ref 87), some (xV s), none] [] (xS a b) Q) : pmCs ro (d + 1) 181 [.ref 87, xV s] (xS a b) Q := x_go xi181 rfl rfl rfl rfl rfl h
theorem w181k {ro : Nat → Nat × (Nat → Int32)} {d : Nat} {Q : Option Value → pmS → Prop} {s k : Int} {a : xA} {b : xB} (hs : 0 ≤ s ∧ s ≤ 9) (hk : 0 ≤ k ∧ k ≤ 120)
    (k1 : (120 ≤ k) → Q none (xS a b))
    (k2 : (¬ 120 ≤ k) → pmWp ro d 12 181 0 2 [some (.ref 87), some (xV s), some (xV (k + 1))] [] (xS (xU a 89 (120 * s + k) (a 88 k)) b) Q) :
    pmWp ro d 12 181 0 2 [some (.ref 87), some (xV s), some (xV k)] [] (xS a b) Q := by
  refine x_iloadn xc181_2 rfl ?_
  refine x_bipush xc181_3 (by decide) ?_
  refine x_icge xc181_5 (xRk (by have g0 := hk; omega)) (xRk (by decide)) (fun h0 => ?_) (fun h0 => ?_)
  · refine x_ret xc181_31 rfl ?_
    exact k1 h0
  · refine x_aloadn xc181_8 rfl ?_
    refine x_gfr xc181_9 rfl rfl xz87 rfl ?_
    refine x_bipush xc181_12 (by decide) ?_
    refine x_iloadn xc181_14 rfl ?_
    refine x_imul xc181_15 ?_
    refine x_iloadn xc181_16 rfl ?_
    refine x_iadd xc181_17 ?_
    refine x_aloadn xc181_18 rfl ?_
    refine x_gfr xc181_19 rfl rfl xz87 rfl ?_
    refine x_iloadn xc181_22 rfl ?_
    refine x_ial xc181_23 xz88 rfl (by have g0 := hk; omega) (by have g0 := hk; omega) (by have g0 := hk; omega) ?_
    refine x_ias xc181_24 xz89 (by have g0 := hs; have g1 := hk; omega) (by have g0 := hs; have g1 := hk; omega) (by have g0 := hs; have g1 := hk; omega) ?_
    refine x_iinc (pl' := [some (.ref 87), some (xV s), some (xV (k + 1))]) xc181_25 rfl rfl ?_
    refine x_goto xc181_28 ?_
    exact k2 h0

theorem w227 {ro : Nat → Nat × (Nat → Int32)} {d : Nat} {Q : Option Value → pmS → Prop} {s : Int} {a : xA} {b : xB}
    (k1 : pmWp ro d 12 227 0 2 [some (.ref 87), some (xV s), some (xV 0)] [] (xS a b) Q) :
    pmWp ro d 12 227 0 0 [some (.ref 87), some (xV s), none] [] (xS a b) Q := by
  refine x_iconst xc227_0 ?_
  refine x_istoren (pl' := [some (.ref 87), some (xV s), some (xV 0)]) xc227_1 rfl rfl ?_
  exact k1

theorem xg227 {ro : Nat → Nat × (Nat → Int32)} {d : Nat} {Q : Option Value → pmS → Prop} {a : xA} {b : xB} {s : Int} (h : pmWp ro d 12 227 0 0 [some (.ref 87), some (xV s), none] [] (xS a b) Q) : pmCs ro (d + 1) 227 [.ref 87, xV s] (xS a b) Q := x_go xi227 rfl rfl rfl rfl rfl h
theorem w227k {ro : Nat → Nat × (Nat → Int32)} {d : Nat} {Q : Option Value → pmS → Prop} {s k : Int} {a : xA} {b : xB} (hs : 0 ≤ s ∧ s ≤ 9) (hk : 0 ≤ k ∧ k ≤ 120)
    (k1 : (120 ≤ k) → Q none (xS a b))
    (k2 : (¬ 120 ≤ k) → pmWp ro d 12 227 0 2 [some (.ref 87), some (xV s), some (xV (k + 1))] [] (xS (xU a 88 k (a 89 (120 * s + k))) b) Q) :
    pmWp ro d 12 227 0 2 [some (.ref 87), some (xV s), some (xV k)] [] (xS a b) Q := by
  refine x_iloadn xc227_2 rfl ?_
  refine x_bipush xc227_3 (by decide) ?_
  refine x_icge xc227_5 (xRk (by have g0 := hk; omega)) (xRk (by decide)) (fun h0 => ?_) (fun h0 => ?_)
  · refine x_ret xc227_31 rfl ?_
    exact k1 h0
  · refine x_aloadn xc227_8 rfl ?_
    refine x_gfr xc227_9 rfl rfl xz87 rfl ?_
    refine x_iloadn xc227_12 rfl ?_
    refine x_aloadn xc227_13 rfl ?_
    refine x_gfr xc227_14 rfl rfl xz87 rfl ?_
    refine x_bipush xc227_17 (by decide) ?_
    refine x_iloadn xc227_19 rfl ?_
    refine x_imul xc227_20 ?_
    refine x_iloadn xc227_21 rfl ?_
    refine x_iadd xc227_22 ?_
    refine x_ial xc227_23 xz89 rfl (by have g0 := hs; have g1 := hk; omega) (by have g0 := hs; have g1 := hk; omega) (by have g0 := hs; have g1 := hk; omega) ?_
    refine x_ias xc227_24 xz88 (by have g0 := hk; omega) (by have g0 := hk; omega) (by have g0 := hk; omega) ?_
    refine x_iinc (pl' := [some (.ref 87), some (xV s), some (xV (k + 1))]) xc227_25 rfl rfl ?_
    refine x_goto xc227_28 ?_
    exact k2 h0

theorem w217a {ro : Nat → Nat × (Nat → Int32)} {d : Nat} {Q : Option Value → pmS → Prop} {c z : Int} {a : xA} {b : xB} (hzz : z = 0 ∨ z = 1)
    (k1 : Q (some (xV z)) (xS a b)) :
    pmWp ro d 12 217 2 50 [some (.ref 87), some (xV c)] [xV z] (xS a b) Q := by
  refine x_goto xc217_50 ?_
  refine x_iret xc217_73 (Or.inr ⟨rfl, (by have g0 := hzz; omega)⟩) ?_
  exact k1

theorem w217b {ro : Nat → Nat × (Nat → Int32)} {d : Nat} {Q : Option Value → pmS → Prop} {c z : Int} {a : xA} {b : xB} (hzz : z = 0 ∨ z = 1)
    (k1 : Q (some (xV z)) (xS a b)) :
    pmWp ro d 12 217 2 73 [some (.ref 87), some (xV c)] [xV z] (xS a b) Q := by
  refine x_iret xc217_73 (Or.inr ⟨rfl, (by have g0 := hzz; omega)⟩) ?_
  exact k1

theorem rk148 {ro : Nat → Nat × (Nat → Int32)} {d : Nat} {Q : Option Value → pmS → Prop} {x n : Int} {a : xA} {b : xB} (hd : 1 ≤ d) (hx : xR x) (hn : a 87 2 = n) (hn0 : 0 ≤ n ∧ n ≤ 5) (hT : 0 ≤ x ∧ x < n → Q (some (xV 1)) (xS a b)) (hF : ¬ (0 ≤ x ∧ x < n) → Q (some (xV 0)) (xS a b)) : pmCs ro d 148 [.ref 87, xV x] (xS a b) Q := pmCs_deep (d := 1) (xg148 (w148 hx hn hn0 (fun e => hF (fun h => by omega)) (fun _ e => hF (fun h => by omega)) (fun e1 e2 => hT ⟨by omega, by omega⟩))) hd
/-- what an act costs -/
def uPr (c : Int) (r : Int → Int) : Int := if c = 0 then 0 else if c < 36 then 2 * (r 116 + 1) else 3 * (r 117 + 1)
theorem uPr_b {c : Int} {r : Int → Int} (h1 : 0 ≤ r 116 ∧ r 116 ≤ 1000) (h2 : 0 ≤ r 117 ∧ r 117 ≤ 1000) : 0 ≤ uPr c r ∧ uPr c r ≤ 3003 := by
  unfold uPr
  split
  · omega
  · split <;> omega
theorem rk220 {ro : Nat → Nat × (Nat → Int32)} {d : Nat} {Q : Option Value → pmS → Prop} {c : Int} {a : xA} {b : xB} (hd : 1 ≤ d) (hc : 0 ≤ c ∧ c ≤ 56) (hQ : Q (some (xV (uPr c (a 88)))) (xS a b)) : pmCs ro d 220 [.ref 87, xV c] (xS a b) Q := by
  unfold uPr at hQ
  exact pmCs_deep (d := 1) (xg220 (w220 hc (fun e1 e2 => by rw [if_neg e1, if_neg (by omega)] at hQ; exact hQ) (fun e1 e2 => by rw [if_neg e1, if_pos (by omega)] at hQ; exact hQ) (fun e => by rw [if_pos e] at hQ; exact hQ))) hd
theorem w218 {ro : Nat → Nat × (Nat → Int32)} {d : Nat} {Q : Option Value → pmS → Prop} {x rm n : Int} {a : xA} {b : xB} (hA : xAr a) (hn : a 87 2 = n) (hn0 : 0 ≤ n ∧ n ≤ 5) (hx : 0 ≤ x ∧ x ≤ 4) (hrm : 0 ≤ rm ∧ rm ≤ 6) (hst : 0 ≤ a 88 (9 + x) ∧ a 88 (9 + x) ≤ 127) (hd : 1 ≤ d)
    (k1 : (0 ≤ x ∧ x < n) → (0 ≤ rm ∧ rm < 7) → (¬ a 88 (4 + x) = 20) → Q (some (xV 0)) (xS a b))
    (k2 : (0 ≤ x ∧ x < n) → (0 ≤ rm ∧ rm < 7) → (a 88 (4 + x) = 20) → (¬ ((a 88 (9 + x)) / ((2 ^ rm.toNat : Nat) : Int)) % 2 = 0) → pmWp ro d 12 218 2 48 [some (.ref 87), some (xV x), some (xV rm), some (xV 0)] [] (xS a b) Q)
    (k3 : (0 ≤ x ∧ x < n) → (0 ≤ rm ∧ rm < 7) → (a 88 (4 + x) = 20) → (((a 88 (9 + x)) / ((2 ^ rm.toNat : Nat) : Int)) % 2 = 0) → Q (some (xV 0)) (xS a b))
    (k4 : (0 ≤ x ∧ x < n) → (¬ (0 ≤ rm ∧ rm < 7)) → Q (some (xV 0)) (xS a b))
    (k5 : (¬ (0 ≤ x ∧ x < n)) → Q (some (xV 0)) (xS a b)) :
    pmWp ro d 12 218 2 0 [some (.ref 87), some (xV x), some (xV rm), none] [] (xS a b) Q := by
  refine x_aloadn xc218_0 rfl ?_
  refine x_iloadn xc218_1 rfl ?_
  refine x_cV (as := [xV x]) (rest := []) xc218_2 rfl xi148 xz87 ⟨rfl, rfl⟩ rfl rfl ?_
  refine rk148 (by omega) (xRk (by have g0 := hx; omega)) hn hn0 (fun h0 => ?_) (fun h1 => ?_)
  · refine x_ifeq xc218_5 (xRk (by decide)) (fun h => absurd h (by omega)) (fun _ => ?_)
    refine x_iloadn xc218_8 rfl ?_
    refine x_cS (as := [xV rm]) (rest := []) xc218_9 rfl rfl xi138 ⟨rfl, rfl⟩ rfl rfl ?_
    refine xk138 (by omega) (xRk (by have g0 := hrm; omega)) (fun h3 => ?_) (fun h4 => ?_)
    · refine x_ifeq xc218_12 (xRk (by decide)) (fun h => absurd h (by omega)) (fun _ => ?_)
      refine x_aloadn xc218_15 rfl ?_
      refine x_gfr xc218_16 rfl rfl xz87 rfl ?_
      refine x_iconst xc218_19 ?_
      refine x_iloadn xc218_20 rfl ?_
      refine x_iadd xc218_21 ?_
      refine x_ial xc218_22 xz88 rfl (by have g0 := hx; omega) (by have g0 := hx; omega) (by have g0 := hx; omega) ?_
      refine x_bipush xc218_23 (by decide) ?_
      refine x_icne xc218_25 (xRk (by have g0 := hx; have g1 := xRb (hA 88 (4 + x)); omega)) (xRk (by decide)) (fun h6 => ?_) (fun h6 => ?_)
      · refine x_iconst xc218_44 ?_
        refine x_iret xc218_45 (Or.inr ⟨rfl, (by omega)⟩) ?_
        exact k1 h0 h3 h6
      · replace h6 := Classical.not_not.mp h6
        refine x_aloadn xc218_28 rfl ?_
        refine x_gfr xc218_29 rfl rfl xz87 rfl ?_
        refine x_bipush xc218_32 (by decide) ?_
        refine x_iloadn xc218_34 rfl ?_
        refine x_iadd xc218_35 ?_
        refine x_ial xc218_36 xz88 rfl (by have g0 := hx; omega) (by have g0 := hx; omega) (by have g0 := hx; omega) ?_
        refine x_iloadn xc218_37 rfl ?_
        refine x_ishr (M := ((2 ^ rm.toNat : Nat) : Int)) (by have g0 := hrm; omega) (by have g0 := hrm; omega) rfl (xRk (by have g0 := hx; have g1 := hst; omega)) xc218_38 ?_
        refine x_iconst xc218_39 ?_
        refine x_iandm (M := 2) 1 (by decide) (by decide) (by decide) xc218_40 ?_
        refine x_ifne xc218_41 (xRk (by have g0 := hx; have g1 := hst; have g2 := hrm; omega)) (fun h7 => ?_) (fun h7 => ?_)
        · refine x_iconst xc218_46 ?_
          refine x_istoren (pl' := [some (.ref 87), some (xV x), some (xV rm), some (xV 0)]) xc218_47 rfl rfl ?_
          exact k2 h0 h3 h6 h7
        · replace h7 := Classical.not_not.mp h7
          refine x_iconst xc218_44 ?_
          refine x_iret xc218_45 (Or.inr ⟨rfl, (by omega)⟩) ?_
          exact k3 h0 h3 h6 h7
    · refine x_ifeq xc218_12 (xRk (by decide)) (fun _ => ?_) (fun h => absurd h (by omega))
      refine x_iconst xc218_44 ?_
      refine x_iret xc218_45 (Or.inr ⟨rfl, (by omega)⟩) ?_
      exact k4 h0 h4
  · refine x_ifeq xc218_5 (xRk (by decide)) (fun _ => ?_) (fun h => absurd h (by omega))
    refine x_iconst xc218_44 ?_
    refine x_iret xc218_45 (Or.inr ⟨rfl, (by omega)⟩) ?_
    exact k5 h1

theorem xg218 {ro : Nat → Nat × (Nat → Int32)} {d : Nat} {Q : Option Value → pmS → Prop} {a : xA} {b : xB} {x rm : Int} (h : pmWp ro d 12 218 2 0 [some (.ref 87), some (xV x), some (xV rm), none] [] (xS a b) Q) : pmCs ro (d + 1) 218 [.ref 87, xV x, xV rm] (xS a b) Q := x_go xi218 rfl rfl rfl rfl rfl h
theorem w218p {ro : Nat → Nat × (Nat → Int32)} {d : Nat} {Q : Option Value → pmS → Prop} {x rm p : Int} {a : xA} {b : xB} (hA : xAr a) (hrm : 0 ≤ rm ∧ rm ≤ 6) (hp : 0 ≤ p ∧ p ≤ 4) (hd : 1 ≤ d)
    (k1 : (4 ≤ p) → Q (some (xV 1)) (xS a b))
    (k2 : (¬ 4 ≤ p) → ((0 ≤ p ∧ p < 4) ∧ a 88 p = rm) → Q (some (xV 0)) (xS a b))
    (k3 : (¬ 4 ≤ p) → (¬ ((0 ≤ p ∧ p < 4) ∧ a 88 p = rm)) → pmWp ro d 12 218 2 48 [some (.ref 87), some (xV x), some (xV rm), some (xV (p + 1))] [] (xS a b) Q) :
    pmWp ro d 12 218 2 48 [some (.ref 87), some (xV x), some (xV rm), some (xV p)] [] (xS a b) Q := by
  refine x_iloadn xc218_48 rfl ?_
  refine x_iconst xc218_49 ?_
  refine x_icge xc218_50 (xRk (by have g0 := hp; omega)) (xRk (by decide)) (fun h0 => ?_) (fun h0 => ?_)
  · refine x_iconst xc218_70 ?_
    refine x_iret xc218_71 (Or.inr ⟨rfl, (by omega)⟩) ?_
    exact k1 h0
  · refine x_aloadn xc218_53 rfl ?_
    refine x_iloadn xc218_54 rfl ?_
    refine x_iloadn xc218_55 rfl ?_
    refine x_cV (as := [xV p, xV rm]) (rest := []) xc218_56 rfl xi180 xz87 ⟨rfl, rfl⟩ rfl rfl ?_
    refine rk180 (by omega) hA (by have g0 := hp; omega) (by have g0 := hrm; omega) (fun h1 => ?_) (fun h2 => ?_)
    · refine x_ifeq xc218_59 (xRk (by decide)) (fun h => absurd h (by omega)) (fun _ => ?_)
      refine x_iconst xc218_62 ?_
      refine x_iret xc218_63 (Or.inr ⟨rfl, (by omega)⟩) ?_
      exact k2 h0 h1
    · refine x_ifeq xc218_59 (xRk (by decide)) (fun _ => ?_) (fun h => absurd h (by omega))
      refine x_iinc (pl' := [some (.ref 87), some (xV x), some (xV rm), some (xV (p + 1))]) xc218_64 rfl rfl ?_
      refine x_goto xc218_67 ?_
      exact k3 h0 h2

theorem w219 {ro : Nat → Nat × (Nat → Int32)} {d : Nat} {Q : Option Value → pmS → Prop} {p rm rp : Int} {a : xA} {b : xB} (hA : xAr a) (hp : 1 ≤ p ∧ p ≤ 3) (hrm : 0 ≤ rm ∧ rm ≤ 6) (hpe : a 88 (0 + p) = rp) (hpf : a 88 p = rp) (hrp : 0 ≤ rp ∧ rp ≤ 7) (hd : 1 ≤ d)
    (k1 : (1 ≤ p ∧ p < 4) → (¬ a 88 p = 7) → (0 ≤ rm ∧ rm < 7) → (¬ a 90 (7 * rp + rm) = 0) → (¬ a 88 0 = 7) → (a 88 0 = rm) → Q (some (xV 0)) (xS a b))
    (k2 : (1 ≤ p ∧ p < 4) → (¬ a 88 p = 7) → (0 ≤ rm ∧ rm < 7) → (¬ a 90 (7 * rp + rm) = 0) → (¬ a 88 0 = 7) → (¬ a 88 0 = rm) → (a 88 0 = rp) → Q (some (xV 0)) (xS a b))
    (k3 : (1 ≤ p ∧ p < 4) → (¬ a 88 p = 7) → (0 ≤ rm ∧ rm < 7) → (¬ a 90 (7 * rp + rm) = 0) → (¬ a 88 0 = 7) → (¬ a 88 0 = rm) → (¬ a 88 0 = rp) → Q (some (xV 1)) (xS a b))
    (k4 : (1 ≤ p ∧ p < 4) → (¬ a 88 p = 7) → (0 ≤ rm ∧ rm < 7) → (¬ a 90 (7 * rp + rm) = 0) → (a 88 0 = 7) → Q (some (xV 1)) (xS a b))
    (k5 : (1 ≤ p ∧ p < 4) → (¬ a 88 p = 7) → (0 ≤ rm ∧ rm < 7) → (a 90 (7 * rp + rm) = 0) → Q (some (xV 0)) (xS a b))
    (k6 : (1 ≤ p ∧ p < 4) → (¬ a 88 p = 7) → (¬ (0 ≤ rm ∧ rm < 7)) → Q (some (xV 0)) (xS a b))
    (k7 : (1 ≤ p ∧ p < 4) → (a 88 p = 7) → Q (some (xV 0)) (xS a b))
    (k8 : (¬ (1 ≤ p ∧ p < 4)) → Q (some (xV 0)) (xS a b)) :
    pmWp ro d 12 219 2 0 [some (.ref 87), some (xV p), some (xV rm)] [] (xS a b) Q := by
  refine x_iloadn xc219_0 rfl ?_
  refine x_cS (as := [xV p]) (rest := []) xc219_1 rfl rfl xi146 ⟨rfl, rfl⟩ rfl rfl ?_
  refine xk146 (by omega) (xRk (by have g0 := hp; omega)) (fun h0 => ?_) (fun h1 => ?_)
  · refine x_ifeq xc219_4 (xRk (by decide)) (fun h => absurd h (by omega)) (fun _ => ?_)
    refine x_aloadn xc219_7 rfl ?_
    refine x_iloadn xc219_8 rfl ?_
    refine x_cV (as := [xV p]) (rest := []) xc219_9 rfl xi176 xz87 ⟨rfl, rfl⟩ rfl rfl ?_
    refine rk176 (by omega) hA (by have g0 := hp; omega) (fun h3 => ?_) (fun h4 => ?_)
    · refine x_ifeq xc219_12 (xRk (by decide)) (fun h => absurd h (by omega)) (fun _ => ?_)
      refine x_iloadn xc219_15 rfl ?_
      refine x_cS (as := [xV rm]) (rest := []) xc219_16 rfl rfl xi138 ⟨rfl, rfl⟩ rfl rfl ?_
      refine xk138 (by omega) (xRk (by have g0 := hrm; omega)) (fun h6 => ?_) (fun h7 => ?_)
      · refine x_ifeq xc219_19 (xRk (by decide)) (fun h => absurd h (by omega)) (fun _ => ?_)
        refine x_aloadn xc219_22 rfl ?_
        refine x_gfr xc219_23 rfl rfl xz87 rfl ?_
        refine x_bipush xc219_26 (by decide) ?_
        refine x_aloadn xc219_28 rfl ?_
        refine x_gfr xc219_29 rfl rfl xz87 rfl ?_
        refine x_iconst xc219_32 ?_
        refine x_iloadn xc219_33 rfl ?_
        refine x_iadd xc219_34 ?_
        refine x_ial' (v := rp) xc219_35 xz88 rfl (by have g0 := hp; omega) (by have g0 := hp; omega) (by have g0 := hp; omega) hpe ?_
        refine x_imul xc219_36 ?_
        refine x_iloadn xc219_37 rfl ?_
        refine x_iadd xc219_38 ?_
        refine x_bal xc219_39 xz90 (Or.inl rfl) (by have g0 := hrp; have g1 := hpf; have g2 := hrm; omega) (by have g0 := hrp; have g1 := hpf; have g2 := hrm; omega) (by have g0 := hrp; have g1 := hpf; have g2 := hrm; omega) ?_
        refine x_ifne xc219_40 (xRk (by have g0 := hrp; have g1 := hpf; have g2 := hrm; have g3 := xRb (hA 90 (7 * rp + rm)); omega)) (fun h9 => ?_) (fun h9 => ?_)
        · refine x_aloadn xc219_45 rfl ?_
          refine x_iconst xc219_46 ?_
          refine x_cV (as := [xV 0]) (rest := []) xc219_47 rfl xi176 xz87 ⟨rfl, rfl⟩ rfl rfl ?_
          refine rk176 (by omega) hA (by omega) (fun h10 => ?_) (fun h11 => ?_)
          · refine x_ifeq xc219_50 (xRk (by decide)) (fun h => absurd h (by omega)) (fun _ => ?_)
            refine x_aloadn xc219_53 rfl ?_
            refine x_gfr xc219_54 rfl rfl xz87 rfl ?_
            refine x_iconst xc219_57 ?_
            refine x_ial xc219_58 xz88 rfl (by omega) (by omega) (by omega) ?_
            refine x_iloadn xc219_59 rfl ?_
            refine x_iceq xc219_60 (xRk (by have g0 := xRb (hA 88 0); omega)) (xRk (by have g0 := hrm; omega)) (fun h13 => ?_) (fun h13 => ?_)
            · refine x_iconst xc219_84 ?_
              refine x_iret xc219_85 (Or.inr ⟨rfl, (by omega)⟩) ?_
              exact k1 h0 h3 h6 h9 h10 h13
            · refine x_aloadn xc219_63 rfl ?_
              refine x_gfr xc219_64 rfl rfl xz87 rfl ?_
              refine x_iconst xc219_67 ?_
              refine x_ial xc219_68 xz88 rfl (by omega) (by omega) (by omega) ?_
              refine x_aloadn xc219_69 rfl ?_
              refine x_gfr xc219_70 rfl rfl xz87 rfl ?_
              refine x_iconst xc219_73 ?_
              refine x_iloadn xc219_74 rfl ?_
              refine x_iadd xc219_75 ?_
              refine x_ial' (v := rp) xc219_76 xz88 rfl (by have g0 := hp; omega) (by have g0 := hp; omega) (by have g0 := hp; omega) hpe ?_
              refine x_iceq xc219_77 (xRk (by have g0 := xRb (hA 88 0); omega)) (xRk (by have g0 := hrp; have g1 := hpf; omega)) (fun h14 => ?_) (fun h14 => ?_)
              · refine x_iconst xc219_84 ?_
                refine x_iret xc219_85 (Or.inr ⟨rfl, (by omega)⟩) ?_
                exact k2 h0 h3 h6 h9 h10 h13 h14
              · refine x_iconst xc219_80 ?_
                refine x_goto xc219_81 ?_
                refine x_iret xc219_85 (Or.inr ⟨rfl, (by omega)⟩) ?_
                exact k3 h0 h3 h6 h9 h10 h13 h14
          · refine x_ifeq xc219_50 (xRk (by decide)) (fun _ => ?_) (fun h => absurd h (by omega))
            refine x_iconst xc219_80 ?_
            refine x_goto xc219_81 ?_
            refine x_iret xc219_85 (Or.inr ⟨rfl, (by omega)⟩) ?_
            exact k4 h0 h3 h6 h9 h11
        · replace h9 := Classical.not_not.mp h9
          refine x_iconst xc219_43 ?_
          refine x_iret xc219_44 (Or.inr ⟨rfl, (by omega)⟩) ?_
          exact k5 h0 h3 h6 h9
      · refine x_ifeq xc219_19 (xRk (by decide)) (fun _ => ?_) (fun h => absurd h (by omega))
        refine x_iconst xc219_43 ?_
        refine x_iret xc219_44 (Or.inr ⟨rfl, (by omega)⟩) ?_
        exact k6 h0 h3 h7
    · refine x_ifeq xc219_12 (xRk (by decide)) (fun _ => ?_) (fun h => absurd h (by omega))
      refine x_iconst xc219_43 ?_
      refine x_iret xc219_44 (Or.inr ⟨rfl, (by omega)⟩) ?_
      exact k7 h0 h4
  · refine x_ifeq xc219_4 (xRk (by decide)) (fun _ => ?_) (fun h => absurd h (by omega))
    refine x_iconst xc219_43 ?_
    refine x_iret xc219_44 (Or.inr ⟨rfl, (by omega)⟩) ?_
    exact k8 h1

theorem xg219 {ro : Nat → Nat × (Nat → Int32)} {d : Nat} {Q : Option Value → pmS → Prop} {a : xA} {b : xB} {p rm : Int} (h : pmWp ro d 12 219 2 0 [some (.ref 87), some (xV p), some (xV rm)] [] (xS a b) Q) : pmCs ro (d + 1) 219 [.ref 87, xV p, xV rm] (xS a b) Q := x_go xi219 rfl rfl rfl rfl rfl h
theorem w221 {ro : Nat → Nat × (Nat → Int32)} {d : Nat} {Q : Option Value → pmS → Prop} {c : Int} {a : xA} {b : xB} (hc : 0 ≤ c ∧ c ≤ 56) (hd : 2 ≤ d)
    (k1 : (¬ c = 0) → (36 ≤ c) → pmCs ro d 174 [.ref 87] (xS (xU (xU (xU (xU a 88 118 (a 88 118 + (uPr c (a 88)))) 88 115 1) 88 117 (a 88 117 + 1)) 88 (1 + ((c - 36) / 7)) ((c - 36) % 7)) b) fun r σ' => pmWp ro d 12 221 0 115 [some (.ref 87), some (xV c)] (r.toList ++ []) σ' Q)
    (k2 : (¬ c = 0) → (¬ 36 ≤ c) → pmCs ro d 174 [.ref 87] (xS (xU (xU (xU (xU (xU a 88 118 (a 88 118 + (uPr c (a 88)))) 88 115 1) 88 116 (a 88 116 + 1)) 88 (4 + ((c - 1) / 7)) ((c - 1) % 7)) 88 (9 + ((c - 1) / 7)) 0) b) fun r σ' => pmWp ro d 12 221 0 115 [some (.ref 87), some (xV c)] (r.toList ++ []) σ' Q)
    (k3 : (c = 0) → Q none (xS a b)) :
    pmWp ro d 12 221 0 0 [some (.ref 87), some (xV c)] [] (xS a b) Q := by
  refine x_iloadn xc221_0 rfl ?_
  refine x_ifne xc221_1 (xRk (by have g0 := hc; omega)) (fun h0 => ?_) (fun h0 => ?_)
  · refine x_aloadn xc221_5 rfl ?_
    refine x_gfr xc221_6 rfl rfl xz87 rfl ?_
    refine x_bipush xc221_9 (by decide) ?_
    refine x_aloadn xc221_11 rfl ?_
    refine x_gfr xc221_12 rfl rfl xz87 rfl ?_
    refine x_bipush xc221_15 (by decide) ?_
    refine x_ial xc221_17 xz88 rfl (by omega) (by omega) (by omega) ?_
    refine x_aloadn xc221_18 rfl ?_
    refine x_iloadn xc221_19 rfl ?_
    refine x_cV (as := [xV c]) (rest := [xV (a 88 118), xV 118, .ref 88]) xc221_20 rfl xi220 xz87 ⟨rfl, rfl⟩ rfl rfl ?_
    refine rk220 (by omega) (by have g0 := hc; omega) ?_
    refine x_iadd xc221_23 ?_
    refine x_ias xc221_24 xz88 (by omega) (by omega) (by omega) ?_
    refine x_aloadn xc221_25 rfl ?_
    refine x_gfr xc221_26 rfl rfl xz87 rfl ?_
    refine x_bipush xc221_29 (by decide) ?_
    refine x_iconst xc221_31 ?_
    refine x_ias xc221_32 xz88 (by omega) (by omega) (by omega) ?_
    refine x_iloadn xc221_33 rfl ?_
    refine x_bipush xc221_34 (by decide) ?_
    refine x_icge xc221_36 (xRk (by have g0 := hc; omega)) (xRk (by decide)) (fun h1 => ?_) (fun h1 => ?_)
    · refine x_aloadn xc221_74 rfl ?_
      refine x_gfr xc221_75 rfl rfl xz87 rfl ?_
      refine x_bipush xc221_78 (by decide) ?_
      refine x_aloadn xc221_80 rfl ?_
      refine x_gfr xc221_81 rfl rfl xz87 rfl ?_
      refine x_bipush xc221_84 (by decide) ?_
      refine x_ial' (v := a 88 117) xc221_86 xz88 rfl (by omega) (by omega) (by omega) (by rw [xUk (by decide), xUk (by decide)]) ?_
      refine x_iconst xc221_87 ?_
      refine x_iadd xc221_88 ?_
      refine x_ias xc221_89 xz88 (by omega) (by omega) (by omega) ?_
      refine x_aloadn xc221_90 rfl ?_
      refine x_gfr xc221_91 rfl rfl xz87 rfl ?_
      refine x_iconst xc221_94 ?_
      refine x_iloadn xc221_95 rfl ?_
      refine x_bipush xc221_96 (by decide) ?_
      refine x_isub xc221_98 ?_
      refine x_bipush xc221_99 (by decide) ?_
      refine x_idiv (by have g0 := hc; omega) (xRk (by have g0 := hc; omega)) (by omega) (xRk (by decide)) xc221_101 ?_
      refine x_iadd xc221_102 ?_
      refine x_iloadn xc221_103 rfl ?_
      refine x_bipush xc221_104 (by decide) ?_
      refine x_isub xc221_106 ?_
      refine x_bipush xc221_107 (by decide) ?_
      refine x_irem (by have g0 := hc; omega) (xRk (by have g0 := hc; omega)) (by omega) (xRk (by decide)) xc221_109 ?_
      refine x_ias xc221_110 xz88 (by have g0 := hc; omega) (by have g0 := hc; omega) (by have g0 := hc; omega) ?_
      refine x_aloadn xc221_111 rfl ?_
      refine x_cV (as := []) (rest := []) xc221_112 rfl xi174 xz87 ⟨rfl, rfl⟩ rfl rfl ?_
      exact k1 h0 h1
    · refine x_aloadn xc221_39 rfl ?_
      refine x_gfr xc221_40 rfl rfl xz87 rfl ?_
      refine x_bipush xc221_43 (by decide) ?_
      refine x_aloadn xc221_45 rfl ?_
      refine x_gfr xc221_46 rfl rfl xz87 rfl ?_
      refine x_bipush xc221_49 (by decide) ?_
      refine x_ial' (v := a 88 116) xc221_51 xz88 rfl (by omega) (by omega) (by omega) (by rw [xUk (by decide), xUk (by decide)]) ?_
      refine x_iconst xc221_52 ?_
      refine x_iadd xc221_53 ?_
      refine x_ias xc221_54 xz88 (by omega) (by omega) (by omega) ?_
      refine x_aloadn xc221_55 rfl ?_
      refine x_iloadn xc221_56 rfl ?_
      refine x_iconst xc221_57 ?_
      refine x_isub xc221_58 ?_
      refine x_bipush xc221_59 (by decide) ?_
      refine x_idiv (by have g0 := hc; omega) (xRk (by have g0 := hc; omega)) (by omega) (xRk (by decide)) xc221_61 ?_
      refine x_iloadn xc221_62 rfl ?_
      refine x_iconst xc221_63 ?_
      refine x_isub xc221_64 ?_
      refine x_bipush xc221_65 (by decide) ?_
      refine x_irem (by have g0 := hc; omega) (xRk (by have g0 := hc; omega)) (by omega) (xRk (by decide)) xc221_67 ?_
      refine x_cV (as := [xV ((c - 1) / 7), xV ((c - 1) % 7)]) (rest := []) xc221_68 rfl xi178 xz87 ⟨rfl, rfl⟩ rfl rfl ?_
      refine rk178 (by omega) (by have g0 := hc; omega) ?_
      refine x_goto xc221_71 ?_
      refine x_aloadn xc221_111 rfl ?_
      refine x_cV (as := []) (rest := []) xc221_112 rfl xi174 xz87 ⟨rfl, rfl⟩ rfl rfl ?_
      exact k2 h0 h1
  · replace h0 := Classical.not_not.mp h0
    refine x_ret xc221_4 rfl ?_
    exact k3 h0

theorem xg221 {ro : Nat → Nat × (Nat → Int32)} {d : Nat} {Q : Option Value → pmS → Prop} {a : xA} {b : xB} {c : Int} (h : pmWp ro d 12 221 0 0 [some (.ref 87), some (xV c)] [] (xS a b) Q) : pmCs ro (d + 1) 221 [.ref 87, xV c] (xS a b) Q := x_go xi221 rfl rfl rfl rfl rfl h
theorem w221r {ro : Nat → Nat × (Nat → Int32)} {d : Nat} {Q : Option Value → pmS → Prop} {c : Int} {a : xA} {b : xB}
    (k1 : Q none (xS a b)) :
    pmWp ro d 12 221 0 115 [some (.ref 87), some (xV c)] [] (xS a b) Q := by
  refine x_ret xc221_115 rfl ?_
  exact k1

end
