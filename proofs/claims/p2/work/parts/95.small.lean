/-! exact: small methods; door -/
section
set_option maxRecDepth 100000
theorem xi13 : pmInf[13]? = some pmI_13 := rfl
theorem xi14 : pmInf[14]? = some pmI_14 := rfl
theorem xi15 : pmInf[15]? = some pmI_15 := rfl
theorem xi16 : pmInf[16]? = some pmI_16 := rfl
theorem xi18 : pmInf[18]? = some pmI_18 := rfl
theorem xi26 : pmInf[26]? = some pmI_26 := rfl
theorem xi137 : pmInf[137]? = some pmI_137 := rfl
theorem xi138 : pmInf[138]? = some pmI_138 := rfl
theorem xi140 : pmInf[140]? = some pmI_140 := rfl
theorem xi146 : pmInf[146]? = some pmI_146 := rfl
theorem xc13_0 : pmCode 13 0 = some (.aload_n 0) ∧ 0 + 1 = 1 := ⟨rfl, rfl⟩
theorem xc13_1 : pmCode 13 1 = some (.getfield 101) ∧ 1 + 3 = 4 := ⟨rfl, rfl⟩
theorem xc13_4 : pmCode 13 4 = some (.ifCond .ne 38) ∧ ((4 : Nat) : Int) + 38 = ((42 : Nat) : Int) ∧ 4 + 3 = 7 := ⟨rfl, rfl, rfl⟩
theorem xc13_7 : pmCode 13 7 = some (.iload_n 1) ∧ 7 + 1 = 8 := ⟨rfl, rfl⟩
theorem xc13_8 : pmCode 13 8 = some (.invokestatic 105) ∧ 8 + 3 = 11 := ⟨rfl, rfl⟩
theorem xc13_11 : pmCode 13 11 = some (.ifCond .eq 31) ∧ ((11 : Nat) : Int) + 31 = ((42 : Nat) : Int) ∧ 11 + 3 = 14 := ⟨rfl, rfl, rfl⟩
theorem xc13_14 : pmCode 13 14 = some (.iload_n 2) ∧ 14 + 1 = 15 := ⟨rfl, rfl⟩
theorem xc13_15 : pmCode 13 15 = some (.invokestatic 105) ∧ 15 + 3 = 18 := ⟨rfl, rfl⟩
theorem xc13_18 : pmCode 13 18 = some (.ifCond .eq 24) ∧ ((18 : Nat) : Int) + 24 = ((42 : Nat) : Int) ∧ 18 + 3 = 21 := ⟨rfl, rfl, rfl⟩
theorem xc13_21 : pmCode 13 21 = some (.iload_n 1) ∧ 21 + 1 = 22 := ⟨rfl, rfl⟩
theorem xc13_22 : pmCode 13 22 = some (.iload_n 2) ∧ 22 + 1 = 23 := ⟨rfl, rfl⟩
theorem xc13_23 : pmCode 13 23 = some (.if_icmp .eq 19) ∧ ((23 : Nat) : Int) + 19 = ((42 : Nat) : Int) ∧ 23 + 3 = 26 := ⟨rfl, rfl, rfl⟩
theorem xc13_26 : pmCode 13 26 = some (.aload_n 0) ∧ 26 + 1 = 27 := ⟨rfl, rfl⟩
theorem xc13_27 : pmCode 13 27 = some (.getfield 19) ∧ 27 + 3 = 30 := ⟨rfl, rfl⟩
theorem xc13_30 : pmCode 13 30 = some (.iload_n 1) ∧ 30 + 1 = 31 := ⟨rfl, rfl⟩
theorem xc13_31 : pmCode 13 31 = some (.iload_n 2) ∧ 31 + 1 = 32 := ⟨rfl, rfl⟩
theorem xc13_32 : pmCode 13 32 = some (.invokevirtual 109) ∧ 32 + 3 = 35 := ⟨rfl, rfl⟩
theorem xc13_42 : pmCode 13 42 = some (.iconst 0) ∧ 42 + 1 = 43 := ⟨rfl, rfl⟩
theorem xc13_43 : pmCode 13 43 = some .ireturn := rfl
theorem xc14_0 : pmCode 14 0 = some (.iload_n 0) ∧ 0 + 1 = 1 := ⟨rfl, rfl⟩
theorem xc14_1 : pmCode 14 1 = some (.ifCond .lt 13) ∧ ((1 : Nat) : Int) + 13 = ((14 : Nat) : Int) ∧ 1 + 3 = 4 := ⟨rfl, rfl, rfl⟩
theorem xc14_4 : pmCode 14 4 = some (.iload_n 0) ∧ 4 + 1 = 5 := ⟨rfl, rfl⟩
theorem xc14_5 : pmCode 14 5 = some (.bipush 7) ∧ 5 + 2 = 7 := ⟨rfl, rfl⟩
theorem xc14_7 : pmCode 14 7 = some (.if_icmp .ge 7) ∧ ((7 : Nat) : Int) + 7 = ((14 : Nat) : Int) ∧ 7 + 3 = 10 := ⟨rfl, rfl, rfl⟩
theorem xc14_10 : pmCode 14 10 = some (.iconst 1) ∧ 10 + 1 = 11 := ⟨rfl, rfl⟩
theorem xc14_11 : pmCode 14 11 = some (.goto 4) ∧ ((11 : Nat) : Int) + 4 = ((15 : Nat) : Int) := ⟨rfl, rfl⟩
theorem xc14_14 : pmCode 14 14 = some (.iconst 0) ∧ 14 + 1 = 15 := ⟨rfl, rfl⟩
theorem xc14_15 : pmCode 14 15 = some .ireturn := rfl
theorem xc15_0 : pmCode 15 0 = some (.aload_n 0) ∧ 0 + 1 = 1 := ⟨rfl, rfl⟩
theorem xc15_1 : pmCode 15 1 = some (.iload_n 1) ∧ 1 + 1 = 2 := ⟨rfl, rfl⟩
theorem xc15_2 : pmCode 15 2 = some (.iload_n 2) ∧ 2 + 1 = 3 := ⟨rfl, rfl⟩
theorem xc15_3 : pmCode 15 3 = some (.invokevirtual 38) ∧ 3 + 3 = 6 := ⟨rfl, rfl⟩
theorem xc16_0 : pmCode 16 0 = some (.aload_n 0) ∧ 0 + 1 = 1 := ⟨rfl, rfl⟩
theorem xc16_1 : pmCode 16 1 = some (.getfield 42) ∧ 1 + 3 = 4 := ⟨rfl, rfl⟩
theorem xc16_4 : pmCode 16 4 = some (.bipush 7) ∧ 4 + 2 = 6 := ⟨rfl, rfl⟩
theorem xc16_6 : pmCode 16 6 = some (.iload_n 1) ∧ 6 + 1 = 7 := ⟨rfl, rfl⟩
theorem xc16_7 : pmCode 16 7 = some .imul ∧ 7 + 1 = 8 := ⟨rfl, rfl⟩
theorem xc16_8 : pmCode 16 8 = some (.iload_n 2) ∧ 8 + 1 = 9 := ⟨rfl, rfl⟩
theorem xc16_9 : pmCode 16 9 = some .iadd ∧ 9 + 1 = 10 := ⟨rfl, rfl⟩
theorem xc16_10 : pmCode 16 10 = some .lushr ∧ 10 + 1 = 11 := ⟨rfl, rfl⟩
theorem xc16_11 : pmCode 16 11 = some (.lconst 1) ∧ 11 + 1 = 12 := ⟨rfl, rfl⟩
theorem xc16_12 : pmCode 16 12 = some .land ∧ 12 + 1 = 13 := ⟨rfl, rfl⟩
theorem xc16_13 : pmCode 16 13 = some (.lconst 0) ∧ 13 + 1 = 14 := ⟨rfl, rfl⟩
theorem xc16_14 : pmCode 16 14 = some .lcmp ∧ 14 + 1 = 15 := ⟨rfl, rfl⟩
theorem xc16_15 : pmCode 16 15 = some (.ifCond .eq 7) ∧ ((15 : Nat) : Int) + 7 = ((22 : Nat) : Int) ∧ 15 + 3 = 18 := ⟨rfl, rfl, rfl⟩
theorem xc16_18 : pmCode 16 18 = some (.iconst 1) ∧ 18 + 1 = 19 := ⟨rfl, rfl⟩
theorem xc16_19 : pmCode 16 19 = some (.goto 4) ∧ ((19 : Nat) : Int) + 4 = ((23 : Nat) : Int) := ⟨rfl, rfl⟩
theorem xc16_22 : pmCode 16 22 = some (.iconst 0) ∧ 22 + 1 = 23 := ⟨rfl, rfl⟩
theorem xc16_23 : pmCode 16 23 = some .ireturn := rfl
theorem xc18_0 : pmCode 18 0 = some (.iload_n 0) ∧ 0 + 1 = 1 := ⟨rfl, rfl⟩
theorem xc18_1 : pmCode 18 1 = some (.ifCond .lt 12) ∧ ((1 : Nat) : Int) + 12 = ((13 : Nat) : Int) ∧ 1 + 3 = 4 := ⟨rfl, rfl, rfl⟩
theorem xc18_4 : pmCode 18 4 = some (.iload_n 0) ∧ 4 + 1 = 5 := ⟨rfl, rfl⟩
theorem xc18_5 : pmCode 18 5 = some (.iconst 4) ∧ 5 + 1 = 6 := ⟨rfl, rfl⟩
theorem xc18_6 : pmCode 18 6 = some (.if_icmp .ge 7) ∧ ((6 : Nat) : Int) + 7 = ((13 : Nat) : Int) ∧ 6 + 3 = 9 := ⟨rfl, rfl, rfl⟩
theorem xc18_9 : pmCode 18 9 = some (.iconst 1) ∧ 9 + 1 = 10 := ⟨rfl, rfl⟩
theorem xc18_10 : pmCode 18 10 = some (.goto 4) ∧ ((10 : Nat) : Int) + 4 = ((14 : Nat) : Int) := ⟨rfl, rfl⟩
theorem xc18_13 : pmCode 18 13 = some (.iconst 0) ∧ 13 + 1 = 14 := ⟨rfl, rfl⟩
theorem xc18_14 : pmCode 18 14 = some .ireturn := rfl
theorem xc26_0 : pmCode 26 0 = some (.iload_n 0) ∧ 0 + 1 = 1 := ⟨rfl, rfl⟩
theorem xc26_1 : pmCode 26 1 = some (.iconst 1) ∧ 1 + 1 = 2 := ⟨rfl, rfl⟩
theorem xc26_2 : pmCode 26 2 = some (.if_icmp .lt 12) ∧ ((2 : Nat) : Int) + 12 = ((14 : Nat) : Int) ∧ 2 + 3 = 5 := ⟨rfl, rfl, rfl⟩
theorem xc26_5 : pmCode 26 5 = some (.iload_n 0) ∧ 5 + 1 = 6 := ⟨rfl, rfl⟩
theorem xc26_6 : pmCode 26 6 = some (.iconst 4) ∧ 6 + 1 = 7 := ⟨rfl, rfl⟩
theorem xc26_7 : pmCode 26 7 = some (.if_icmp .ge 7) ∧ ((7 : Nat) : Int) + 7 = ((14 : Nat) : Int) ∧ 7 + 3 = 10 := ⟨rfl, rfl, rfl⟩
theorem xc26_10 : pmCode 26 10 = some (.iconst 1) ∧ 10 + 1 = 11 := ⟨rfl, rfl⟩
theorem xc26_11 : pmCode 26 11 = some (.goto 4) ∧ ((11 : Nat) : Int) + 4 = ((15 : Nat) : Int) := ⟨rfl, rfl⟩
theorem xc26_14 : pmCode 26 14 = some (.iconst 0) ∧ 14 + 1 = 15 := ⟨rfl, rfl⟩
theorem xc26_15 : pmCode 26 15 = some .ireturn := rfl
theorem xc137_0 : pmCode 137 0 = some (.aload_n 0) ∧ 0 + 1 = 1 := ⟨rfl, rfl⟩
theorem xc137_1 : pmCode 137 1 = some (.getfield 131) ∧ 1 + 3 = 4 := ⟨rfl, rfl⟩
theorem xc137_4 : pmCode 137 4 = some (.ifCond .ne 36) ∧ ((4 : Nat) : Int) + 36 = ((40 : Nat) : Int) ∧ 4 + 3 = 7 := ⟨rfl, rfl, rfl⟩
theorem xc137_7 : pmCode 137 7 = some (.iload_n 1) ∧ 7 + 1 = 8 := ⟨rfl, rfl⟩
theorem xc137_8 : pmCode 137 8 = some (.invokestatic 135) ∧ 8 + 3 = 11 := ⟨rfl, rfl⟩
theorem xc137_11 : pmCode 137 11 = some (.ifCond .eq 29) ∧ ((11 : Nat) : Int) + 29 = ((40 : Nat) : Int) ∧ 11 + 3 = 14 := ⟨rfl, rfl, rfl⟩
theorem xc137_14 : pmCode 137 14 = some (.iload_n 2) ∧ 14 + 1 = 15 := ⟨rfl, rfl⟩
theorem xc137_15 : pmCode 137 15 = some (.invokestatic 135) ∧ 15 + 3 = 18 := ⟨rfl, rfl⟩
theorem xc137_18 : pmCode 137 18 = some (.ifCond .eq 22) ∧ ((18 : Nat) : Int) + 22 = ((40 : Nat) : Int) ∧ 18 + 3 = 21 := ⟨rfl, rfl, rfl⟩
theorem xc137_21 : pmCode 137 21 = some (.iload_n 1) ∧ 21 + 1 = 22 := ⟨rfl, rfl⟩
theorem xc137_22 : pmCode 137 22 = some (.iload_n 2) ∧ 22 + 1 = 23 := ⟨rfl, rfl⟩
theorem xc137_23 : pmCode 137 23 = some (.if_icmp .eq 17) ∧ ((23 : Nat) : Int) + 17 = ((40 : Nat) : Int) ∧ 23 + 3 = 26 := ⟨rfl, rfl, rfl⟩
theorem xc137_26 : pmCode 137 26 = some (.aload_n 0) ∧ 26 + 1 = 27 := ⟨rfl, rfl⟩
theorem xc137_27 : pmCode 137 27 = some (.getfield 16) ∧ 27 + 3 = 30 := ⟨rfl, rfl⟩
theorem xc137_30 : pmCode 137 30 = some (.bipush 7) ∧ 30 + 2 = 32 := ⟨rfl, rfl⟩
theorem xc137_32 : pmCode 137 32 = some (.iload_n 1) ∧ 32 + 1 = 33 := ⟨rfl, rfl⟩
theorem xc137_33 : pmCode 137 33 = some .imul ∧ 33 + 1 = 34 := ⟨rfl, rfl⟩
theorem xc137_34 : pmCode 137 34 = some (.iload_n 2) ∧ 34 + 1 = 35 := ⟨rfl, rfl⟩
theorem xc137_35 : pmCode 137 35 = some .iadd ∧ 35 + 1 = 36 := ⟨rfl, rfl⟩
theorem xc137_36 : pmCode 137 36 = some .baload ∧ 36 + 1 = 37 := ⟨rfl, rfl⟩
theorem xc137_37 : pmCode 137 37 = some (.ifCond .eq 5) ∧ ((37 : Nat) : Int) + 5 = ((42 : Nat) : Int) ∧ 37 + 3 = 40 := ⟨rfl, rfl, rfl⟩
theorem xc137_40 : pmCode 137 40 = some (.iconst 0) ∧ 40 + 1 = 41 := ⟨rfl, rfl⟩
theorem xc137_41 : pmCode 137 41 = some .ireturn := rfl
theorem xc137_42 : pmCode 137 42 = some (.aload_n 0) ∧ 42 + 1 = 43 := ⟨rfl, rfl⟩
theorem xc137_43 : pmCode 137 43 = some (.getfield 16) ∧ 43 + 3 = 46 := ⟨rfl, rfl⟩
theorem xc137_46 : pmCode 137 46 = some (.bipush 7) ∧ 46 + 2 = 48 := ⟨rfl, rfl⟩
theorem xc137_48 : pmCode 137 48 = some (.iload_n 1) ∧ 48 + 1 = 49 := ⟨rfl, rfl⟩
theorem xc137_49 : pmCode 137 49 = some .imul ∧ 49 + 1 = 50 := ⟨rfl, rfl⟩
theorem xc137_50 : pmCode 137 50 = some (.iload_n 2) ∧ 50 + 1 = 51 := ⟨rfl, rfl⟩
theorem xc137_51 : pmCode 137 51 = some .iadd ∧ 51 + 1 = 52 := ⟨rfl, rfl⟩
theorem xc137_52 : pmCode 137 52 = some (.iconst 1) ∧ 52 + 1 = 53 := ⟨rfl, rfl⟩
theorem xc137_53 : pmCode 137 53 = some .bastore ∧ 53 + 1 = 54 := ⟨rfl, rfl⟩
theorem xc137_54 : pmCode 137 54 = some (.aload_n 0) ∧ 54 + 1 = 55 := ⟨rfl, rfl⟩
theorem xc137_55 : pmCode 137 55 = some (.getfield 16) ∧ 55 + 3 = 58 := ⟨rfl, rfl⟩
theorem xc137_58 : pmCode 137 58 = some (.bipush 7) ∧ 58 + 2 = 60 := ⟨rfl, rfl⟩
theorem xc137_60 : pmCode 137 60 = some (.iload_n 2) ∧ 60 + 1 = 61 := ⟨rfl, rfl⟩
theorem xc137_61 : pmCode 137 61 = some .imul ∧ 61 + 1 = 62 := ⟨rfl, rfl⟩
theorem xc137_62 : pmCode 137 62 = some (.iload_n 1) ∧ 62 + 1 = 63 := ⟨rfl, rfl⟩
theorem xc137_63 : pmCode 137 63 = some .iadd ∧ 63 + 1 = 64 := ⟨rfl, rfl⟩
theorem xc137_64 : pmCode 137 64 = some (.iconst 1) ∧ 64 + 1 = 65 := ⟨rfl, rfl⟩
theorem xc137_65 : pmCode 137 65 = some .bastore ∧ 65 + 1 = 66 := ⟨rfl, rfl⟩
theorem xc137_66 : pmCode 137 66 = some (.iconst 1) ∧ 66 + 1 = 67 := ⟨rfl, rfl⟩
theorem xc137_67 : pmCode 137 67 = some .ireturn := rfl
theorem xc138_0 : pmCode 138 0 = some (.iload_n 0) ∧ 0 + 1 = 1 := ⟨rfl, rfl⟩
theorem xc138_1 : pmCode 138 1 = some (.ifCond .lt 13) ∧ ((1 : Nat) : Int) + 13 = ((14 : Nat) : Int) ∧ 1 + 3 = 4 := ⟨rfl, rfl, rfl⟩
theorem xc138_4 : pmCode 138 4 = some (.iload_n 0) ∧ 4 + 1 = 5 := ⟨rfl, rfl⟩
theorem xc138_5 : pmCode 138 5 = some (.bipush 7) ∧ 5 + 2 = 7 := ⟨rfl, rfl⟩
theorem xc138_7 : pmCode 138 7 = some (.if_icmp .ge 7) ∧ ((7 : Nat) : Int) + 7 = ((14 : Nat) : Int) ∧ 7 + 3 = 10 := ⟨rfl, rfl, rfl⟩
theorem xc138_10 : pmCode 138 10 = some (.iconst 1) ∧ 10 + 1 = 11 := ⟨rfl, rfl⟩
theorem xc138_11 : pmCode 138 11 = some (.goto 4) ∧ ((11 : Nat) : Int) + 4 = ((15 : Nat) : Int) := ⟨rfl, rfl⟩
theorem xc138_14 : pmCode 138 14 = some (.iconst 0) ∧ 14 + 1 = 15 := ⟨rfl, rfl⟩
theorem xc138_15 : pmCode 138 15 = some .ireturn := rfl
theorem xc140_0 : pmCode 140 0 = some (.iload_n 0) ∧ 0 + 1 = 1 := ⟨rfl, rfl⟩
theorem xc140_1 : pmCode 140 1 = some (.ifCond .lt 12) ∧ ((1 : Nat) : Int) + 12 = ((13 : Nat) : Int) ∧ 1 + 3 = 4 := ⟨rfl, rfl, rfl⟩
theorem xc140_4 : pmCode 140 4 = some (.iload_n 0) ∧ 4 + 1 = 5 := ⟨rfl, rfl⟩
theorem xc140_5 : pmCode 140 5 = some (.iconst 3) ∧ 5 + 1 = 6 := ⟨rfl, rfl⟩
theorem xc140_6 : pmCode 140 6 = some (.if_icmp .gt 7) ∧ ((6 : Nat) : Int) + 7 = ((13 : Nat) : Int) ∧ 6 + 3 = 9 := ⟨rfl, rfl, rfl⟩
theorem xc140_9 : pmCode 140 9 = some (.iconst 1) ∧ 9 + 1 = 10 := ⟨rfl, rfl⟩
theorem xc140_10 : pmCode 140 10 = some (.goto 4) ∧ ((10 : Nat) : Int) + 4 = ((14 : Nat) : Int) := ⟨rfl, rfl⟩
theorem xc140_13 : pmCode 140 13 = some (.iconst 0) ∧ 13 + 1 = 14 := ⟨rfl, rfl⟩
theorem xc140_14 : pmCode 140 14 = some .ireturn := rfl
theorem xc146_0 : pmCode 146 0 = some (.iload_n 0) ∧ 0 + 1 = 1 := ⟨rfl, rfl⟩
theorem xc146_1 : pmCode 146 1 = some (.iconst 1) ∧ 1 + 1 = 2 := ⟨rfl, rfl⟩
theorem xc146_2 : pmCode 146 2 = some (.if_icmp .lt 12) ∧ ((2 : Nat) : Int) + 12 = ((14 : Nat) : Int) ∧ 2 + 3 = 5 := ⟨rfl, rfl, rfl⟩
theorem xc146_5 : pmCode 146 5 = some (.iload_n 0) ∧ 5 + 1 = 6 := ⟨rfl, rfl⟩
theorem xc146_6 : pmCode 146 6 = some (.iconst 3) ∧ 6 + 1 = 7 := ⟨rfl, rfl⟩
theorem xc146_7 : pmCode 146 7 = some (.if_icmp .gt 7) ∧ ((7 : Nat) : Int) + 7 = ((14 : Nat) : Int) ∧ 7 + 3 = 10 := ⟨rfl, rfl, rfl⟩
theorem xc146_10 : pmCode 146 10 = some (.iconst 1) ∧ 10 + 1 = 11 := ⟨rfl, rfl⟩
theorem xc146_11 : pmCode 146 11 = some (.goto 4) ∧ ((11 : Nat) : Int) + 4 = ((15 : Nat) : Int) := ⟨rfl, rfl⟩
theorem xc146_14 : pmCode 146 14 = some (.iconst 0) ∧ 14 + 1 = 15 := ⟨rfl, rfl⟩
theorem xc146_15 : pmCode 146 15 = some .ireturn := rfl
theorem xg14 {ro : Nat → Nat × (Nat → Int32)} {d : Nat} {Q : Option Value → pmS → Prop} {a : xA} {b : xB} {r : Int} (h : pmWp ro d 11 14 2 0 [some (xV r)] [] (xS a b) Q) : pmCs ro (d + 1) 14 [xV r] (xS a b) Q := x_go xi14 rfl rfl rfl rfl rfl h
theorem w14 {ro : Nat → Nat × (Nat → Int32)} {d : Nat} {Q : Option Value → pmS → Prop} {r : Int} {a : xA} {b : xB} (h_r : xR r)
    (k1 : (r < 0) → Q (some (xV 0)) (xS a b))
    (k2 : (¬ r < 0) → (7 ≤ r) → Q (some (xV 0)) (xS a b))
    (k3 : (¬ r < 0) → (¬ 7 ≤ r) → Q (some (xV 1)) (xS a b)) :
    pmWp ro d 11 14 2 0 [some (xV r)] [] (xS a b) Q := by
  refine x_iloadn xc14_0 rfl ?_
  refine x_iflt xc14_1 (xRk (by have g0 := xRb h_r; omega)) (fun h0 => ?_) (fun h0 => ?_)
  · refine x_iconst xc14_14 ?_
    refine x_iret xc14_15 (Or.inr ⟨rfl, (by omega)⟩) ?_
    exact k1 h0
  · refine x_iloadn xc14_4 rfl ?_
    refine x_bipush xc14_5 (by decide) ?_
    refine x_icge xc14_7 (xRk (by have g0 := xRb h_r; omega)) (xRk (by decide)) (fun h1 => ?_) (fun h1 => ?_)
    · refine x_iconst xc14_14 ?_
      refine x_iret xc14_15 (Or.inr ⟨rfl, (by omega)⟩) ?_
      exact k2 h0 h1
    · refine x_iconst xc14_10 ?_
      refine x_goto xc14_11 ?_
      refine x_iret xc14_15 (Or.inr ⟨rfl, (by omega)⟩) ?_
      exact k3 h0 h1

theorem xk14 {ro : Nat → Nat × (Nat → Int32)} {d : Nat} {Q : Option Value → pmS → Prop} {r : Int} {a : xA} {b : xB} (hd : 1 ≤ d) (h_r : xR r) (hT : 0 ≤ r ∧ r < 7 → Q (some (xV 1)) (xS a b)) (hF : ¬ (0 ≤ r ∧ r < 7) → Q (some (xV 0)) (xS a b)) : pmCs ro d 14 [xV r] (xS a b) Q := pmCs_deep (d := 1) (xg14 (w14 h_r (fun g0 => hF (by omega)) (fun g0 g1 => hF (by omega)) (fun g0 g1 => hT (by omega)))) hd
theorem xg138 {ro : Nat → Nat × (Nat → Int32)} {d : Nat} {Q : Option Value → pmS → Prop} {a : xA} {b : xB} {r : Int} (h : pmWp ro d 12 138 2 0 [some (xV r)] [] (xS a b) Q) : pmCs ro (d + 1) 138 [xV r] (xS a b) Q := x_go xi138 rfl rfl rfl rfl rfl h
theorem w138 {ro : Nat → Nat × (Nat → Int32)} {d : Nat} {Q : Option Value → pmS → Prop} {r : Int} {a : xA} {b : xB} (h_r : xR r)
    (k1 : (r < 0) → Q (some (xV 0)) (xS a b))
    (k2 : (¬ r < 0) → (7 ≤ r) → Q (some (xV 0)) (xS a b))
    (k3 : (¬ r < 0) → (¬ 7 ≤ r) → Q (some (xV 1)) (xS a b)) :
    pmWp ro d 12 138 2 0 [some (xV r)] [] (xS a b) Q := by
  refine x_iloadn xc138_0 rfl ?_
  refine x_iflt xc138_1 (xRk (by have g0 := xRb h_r; omega)) (fun h0 => ?_) (fun h0 => ?_)
  · refine x_iconst xc138_14 ?_
    refine x_iret xc138_15 (Or.inr ⟨rfl, (by omega)⟩) ?_
    exact k1 h0
  · refine x_iloadn xc138_4 rfl ?_
    refine x_bipush xc138_5 (by decide) ?_
    refine x_icge xc138_7 (xRk (by have g0 := xRb h_r; omega)) (xRk (by decide)) (fun h1 => ?_) (fun h1 => ?_)
    · refine x_iconst xc138_14 ?_
      refine x_iret xc138_15 (Or.inr ⟨rfl, (by omega)⟩) ?_
      exact k2 h0 h1
    · refine x_iconst xc138_10 ?_
      refine x_goto xc138_11 ?_
      refine x_iret xc138_15 (Or.inr ⟨rfl, (by omega)⟩) ?_
      exact k3 h0 h1

theorem xk138 {ro : Nat → Nat × (Nat → Int32)} {d : Nat} {Q : Option Value → pmS → Prop} {r : Int} {a : xA} {b : xB} (hd : 1 ≤ d) (h_r : xR r) (hT : 0 ≤ r ∧ r < 7 → Q (some (xV 1)) (xS a b)) (hF : ¬ (0 ≤ r ∧ r < 7) → Q (some (xV 0)) (xS a b)) : pmCs ro d 138 [xV r] (xS a b) Q := pmCs_deep (d := 1) (xg138 (w138 h_r (fun g0 => hF (by omega)) (fun g0 g1 => hF (by omega)) (fun g0 g1 => hT (by omega)))) hd
theorem xg18 {ro : Nat → Nat × (Nat → Int32)} {d : Nat} {Q : Option Value → pmS → Prop} {a : xA} {b : xB} {r : Int} (h : pmWp ro d 11 18 2 0 [some (xV r)] [] (xS a b) Q) : pmCs ro (d + 1) 18 [xV r] (xS a b) Q := x_go xi18 rfl rfl rfl rfl rfl h
theorem w18 {ro : Nat → Nat × (Nat → Int32)} {d : Nat} {Q : Option Value → pmS → Prop} {r : Int} {a : xA} {b : xB} (h_r : xR r)
    (k1 : (r < 0) → Q (some (xV 0)) (xS a b))
    (k2 : (¬ r < 0) → (4 ≤ r) → Q (some (xV 0)) (xS a b))
    (k3 : (¬ r < 0) → (¬ 4 ≤ r) → Q (some (xV 1)) (xS a b)) :
    pmWp ro d 11 18 2 0 [some (xV r)] [] (xS a b) Q := by
  refine x_iloadn xc18_0 rfl ?_
  refine x_iflt xc18_1 (xRk (by have g0 := xRb h_r; omega)) (fun h0 => ?_) (fun h0 => ?_)
  · refine x_iconst xc18_13 ?_
    refine x_iret xc18_14 (Or.inr ⟨rfl, (by omega)⟩) ?_
    exact k1 h0
  · refine x_iloadn xc18_4 rfl ?_
    refine x_iconst xc18_5 ?_
    refine x_icge xc18_6 (xRk (by have g0 := xRb h_r; omega)) (xRk (by decide)) (fun h1 => ?_) (fun h1 => ?_)
    · refine x_iconst xc18_13 ?_
      refine x_iret xc18_14 (Or.inr ⟨rfl, (by omega)⟩) ?_
      exact k2 h0 h1
    · refine x_iconst xc18_9 ?_
      refine x_goto xc18_10 ?_
      refine x_iret xc18_14 (Or.inr ⟨rfl, (by omega)⟩) ?_
      exact k3 h0 h1

theorem xk18 {ro : Nat → Nat × (Nat → Int32)} {d : Nat} {Q : Option Value → pmS → Prop} {r : Int} {a : xA} {b : xB} (hd : 1 ≤ d) (h_r : xR r) (hT : 0 ≤ r ∧ r < 4 → Q (some (xV 1)) (xS a b)) (hF : ¬ (0 ≤ r ∧ r < 4) → Q (some (xV 0)) (xS a b)) : pmCs ro d 18 [xV r] (xS a b) Q := pmCs_deep (d := 1) (xg18 (w18 h_r (fun g0 => hF (by omega)) (fun g0 g1 => hF (by omega)) (fun g0 g1 => hT (by omega)))) hd
theorem xg140 {ro : Nat → Nat × (Nat → Int32)} {d : Nat} {Q : Option Value → pmS → Prop} {a : xA} {b : xB} {r : Int} (h : pmWp ro d 12 140 2 0 [some (xV r)] [] (xS a b) Q) : pmCs ro (d + 1) 140 [xV r] (xS a b) Q := x_go xi140 rfl rfl rfl rfl rfl h
theorem w140 {ro : Nat → Nat × (Nat → Int32)} {d : Nat} {Q : Option Value → pmS → Prop} {r : Int} {a : xA} {b : xB} (h_r : xR r)
    (k1 : (r < 0) → Q (some (xV 0)) (xS a b))
    (k2 : (¬ r < 0) → (3 < r) → Q (some (xV 0)) (xS a b))
    (k3 : (¬ r < 0) → (¬ 3 < r) → Q (some (xV 1)) (xS a b)) :
    pmWp ro d 12 140 2 0 [some (xV r)] [] (xS a b) Q := by
  refine x_iloadn xc140_0 rfl ?_
  refine x_iflt xc140_1 (xRk (by have g0 := xRb h_r; omega)) (fun h0 => ?_) (fun h0 => ?_)
  · refine x_iconst xc140_13 ?_
    refine x_iret xc140_14 (Or.inr ⟨rfl, (by omega)⟩) ?_
    exact k1 h0
  · refine x_iloadn xc140_4 rfl ?_
    refine x_iconst xc140_5 ?_
    refine x_icgt xc140_6 (xRk (by have g0 := xRb h_r; omega)) (xRk (by decide)) (fun h1 => ?_) (fun h1 => ?_)
    · refine x_iconst xc140_13 ?_
      refine x_iret xc140_14 (Or.inr ⟨rfl, (by omega)⟩) ?_
      exact k2 h0 h1
    · refine x_iconst xc140_9 ?_
      refine x_goto xc140_10 ?_
      refine x_iret xc140_14 (Or.inr ⟨rfl, (by omega)⟩) ?_
      exact k3 h0 h1

theorem xk140 {ro : Nat → Nat × (Nat → Int32)} {d : Nat} {Q : Option Value → pmS → Prop} {r : Int} {a : xA} {b : xB} (hd : 1 ≤ d) (h_r : xR r) (hT : 0 ≤ r ∧ r < 4 → Q (some (xV 1)) (xS a b)) (hF : ¬ (0 ≤ r ∧ r < 4) → Q (some (xV 0)) (xS a b)) : pmCs ro d 140 [xV r] (xS a b) Q := pmCs_deep (d := 1) (xg140 (w140 h_r (fun g0 => hF (by omega)) (fun g0 g1 => hF (by omega)) (fun g0 g1 => hT (by omega)))) hd
theorem xg26 {ro : Nat → Nat × (Nat → Int32)} {d : Nat} {Q : Option Value → pmS → Prop} {a : xA} {b : xB} {r : Int} (h : pmWp ro d 11 26 2 0 [some (xV r)] [] (xS a b) Q) : pmCs ro (d + 1) 26 [xV r] (xS a b) Q := x_go xi26 rfl rfl rfl rfl rfl h
theorem w26 {ro : Nat → Nat × (Nat → Int32)} {d : Nat} {Q : Option Value → pmS → Prop} {r : Int} {a : xA} {b : xB} (h_r : xR r)
    (k1 : (r < 1) → Q (some (xV 0)) (xS a b))
    (k2 : (¬ r < 1) → (4 ≤ r) → Q (some (xV 0)) (xS a b))
    (k3 : (¬ r < 1) → (¬ 4 ≤ r) → Q (some (xV 1)) (xS a b)) :
    pmWp ro d 11 26 2 0 [some (xV r)] [] (xS a b) Q := by
  refine x_iloadn xc26_0 rfl ?_
  refine x_iconst xc26_1 ?_
  refine x_iclt xc26_2 (xRk (by have g0 := xRb h_r; omega)) (xRk (by decide)) (fun h0 => ?_) (fun h0 => ?_)
  · refine x_iconst xc26_14 ?_
    refine x_iret xc26_15 (Or.inr ⟨rfl, (by omega)⟩) ?_
    exact k1 h0
  · refine x_iloadn xc26_5 rfl ?_
    refine x_iconst xc26_6 ?_
    refine x_icge xc26_7 (xRk (by have g0 := xRb h_r; omega)) (xRk (by decide)) (fun h1 => ?_) (fun h1 => ?_)
    · refine x_iconst xc26_14 ?_
      refine x_iret xc26_15 (Or.inr ⟨rfl, (by omega)⟩) ?_
      exact k2 h0 h1
    · refine x_iconst xc26_10 ?_
      refine x_goto xc26_11 ?_
      refine x_iret xc26_15 (Or.inr ⟨rfl, (by omega)⟩) ?_
      exact k3 h0 h1

theorem xk26 {ro : Nat → Nat × (Nat → Int32)} {d : Nat} {Q : Option Value → pmS → Prop} {r : Int} {a : xA} {b : xB} (hd : 1 ≤ d) (h_r : xR r) (hT : 1 ≤ r ∧ r < 4 → Q (some (xV 1)) (xS a b)) (hF : ¬ (1 ≤ r ∧ r < 4) → Q (some (xV 0)) (xS a b)) : pmCs ro d 26 [xV r] (xS a b) Q := pmCs_deep (d := 1) (xg26 (w26 h_r (fun g0 => hF (by omega)) (fun g0 g1 => hF (by omega)) (fun g0 g1 => hT (by omega)))) hd
theorem xg146 {ro : Nat → Nat × (Nat → Int32)} {d : Nat} {Q : Option Value → pmS → Prop} {a : xA} {b : xB} {r : Int} (h : pmWp ro d 12 146 2 0 [some (xV r)] [] (xS a b) Q) : pmCs ro (d + 1) 146 [xV r] (xS a b) Q := x_go xi146 rfl rfl rfl rfl rfl h
theorem w146 {ro : Nat → Nat × (Nat → Int32)} {d : Nat} {Q : Option Value → pmS → Prop} {r : Int} {a : xA} {b : xB} (h_r : xR r)
    (k1 : (r < 1) → Q (some (xV 0)) (xS a b))
    (k2 : (¬ r < 1) → (3 < r) → Q (some (xV 0)) (xS a b))
    (k3 : (¬ r < 1) → (¬ 3 < r) → Q (some (xV 1)) (xS a b)) :
    pmWp ro d 12 146 2 0 [some (xV r)] [] (xS a b) Q := by
  refine x_iloadn xc146_0 rfl ?_
  refine x_iconst xc146_1 ?_
  refine x_iclt xc146_2 (xRk (by have g0 := xRb h_r; omega)) (xRk (by decide)) (fun h0 => ?_) (fun h0 => ?_)
  · refine x_iconst xc146_14 ?_
    refine x_iret xc146_15 (Or.inr ⟨rfl, (by omega)⟩) ?_
    exact k1 h0
  · refine x_iloadn xc146_5 rfl ?_
    refine x_iconst xc146_6 ?_
    refine x_icgt xc146_7 (xRk (by have g0 := xRb h_r; omega)) (xRk (by decide)) (fun h1 => ?_) (fun h1 => ?_)
    · refine x_iconst xc146_14 ?_
      refine x_iret xc146_15 (Or.inr ⟨rfl, (by omega)⟩) ?_
      exact k2 h0 h1
    · refine x_iconst xc146_10 ?_
      refine x_goto xc146_11 ?_
      refine x_iret xc146_15 (Or.inr ⟨rfl, (by omega)⟩) ?_
      exact k3 h0 h1

theorem xk146 {ro : Nat → Nat × (Nat → Int32)} {d : Nat} {Q : Option Value → pmS → Prop} {r : Int} {a : xA} {b : xB} (hd : 1 ≤ d) (h_r : xR r) (hT : 1 ≤ r ∧ r < 4 → Q (some (xV 1)) (xS a b)) (hF : ¬ (1 ≤ r ∧ r < 4) → Q (some (xV 0)) (xS a b)) : pmCs ro d 146 [xV r] (xS a b) Q := pmCs_deep (d := 1) (xg146 (w146 h_r (fun g0 => hF (by omega)) (fun g0 g1 => hF (by omega)) (fun g0 g1 => hT (by omega)))) hd
theorem xg16 {ro : Nat → Nat × (Nat → Int32)} {d : Nat} {Q : Option Value → pmS → Prop} {a : xA} {b : xB} {x y : Int} (h : pmWp ro d 5 16 2 0 [some (.ref 3), some (xV x), some (xV y)] [] (xS a b) Q) : pmCs ro (d + 1) 16 [.ref 3, xV x, xV y] (xS a b) Q := x_go xi16 rfl rfl rfl rfl rfl h
theorem w16 {ro : Nat → Nat × (Nat → Int32)} {d : Nat} {Q : Option Value → pmS → Prop} {x y : Int} {a : xA} {b : xB} (h_x : xR x) (h_y : xR y)
    (k1 : (xCmp ((xShr (b 3 3) (7 * x + y)) &&& (1 : Int64)) (0 : Int64) = 0) → Q (some (xV 0)) (xS a b))
    (k2 : (¬ xCmp ((xShr (b 3 3) (7 * x + y)) &&& (1 : Int64)) (0 : Int64) = 0) → Q (some (xV 1)) (xS a b)) :
    pmWp ro d 5 16 2 0 [some (.ref 3), some (xV x), some (xV y)] [] (xS a b) Q := by
  refine x_aloadn xc16_0 rfl ?_
  refine x_gfl (k := 3) xc16_1 rfl rfl rfl xz3 ?_
  refine x_bipush xc16_4 (by decide) ?_
  refine x_iloadn xc16_6 rfl ?_
  refine x_imul xc16_7 ?_
  refine x_iloadn xc16_8 rfl ?_
  refine x_iadd xc16_9 ?_
  refine x_lushr xc16_10 ?_
  refine x_lconst (l := 1) xc16_11 rfl ?_
  refine x_land xc16_12 ?_
  refine x_lconst (l := 0) xc16_13 rfl ?_
  refine x_lcmp xc16_14 ?_
  refine x_ifeq xc16_15 (xRk (by have g0 := xCmpB ((xShr (b 3 3) (7 * x + y)) &&& (1 : Int64)) (0 : Int64); omega)) (fun h0 => ?_) (fun h0 => ?_)
  · refine x_iconst xc16_22 ?_
    refine x_iret xc16_23 (Or.inr ⟨rfl, (by omega)⟩) ?_
    exact k1 h0
  · refine x_iconst xc16_18 ?_
    refine x_goto xc16_19 ?_
    refine x_iret xc16_23 (Or.inr ⟨rfl, (by omega)⟩) ?_
    exact k2 h0

theorem xg15 {ro : Nat → Nat × (Nat → Int32)} {d : Nat} {Q : Option Value → pmS → Prop} {a : xA} {b : xB} {x y : Int} (h : pmWp ro d 5 15 2 0 [some (.ref 3), some (xV x), some (xV y)] [] (xS a b) Q) : pmCs ro (d + 1) 15 [.ref 3, xV x, xV y] (xS a b) Q := x_go xi15 rfl rfl rfl rfl rfl h
theorem w15 {ro : Nat → Nat × (Nat → Int32)} {d : Nat} {Q : Option Value → pmS → Prop} {x y : Int} {a : xA} {b : xB} (h_x : xR x) (h_y : xR y)
    (k1 : pmCs ro d 16 [.ref 3, xV x, xV y] (xS a b) fun r σ' => pmWp ro d 5 15 2 6 [some (.ref 3), some (xV x), some (xV y)] (r.toList ++ []) σ' Q) :
    pmWp ro d 5 15 2 0 [some (.ref 3), some (xV x), some (xV y)] [] (xS a b) Q := by
  refine x_aloadn xc15_0 rfl ?_
  refine x_iloadn xc15_1 rfl ?_
  refine x_iloadn xc15_2 rfl ?_
  refine x_cV (as := [xV x, xV y]) (rest := []) xc15_3 rfl xi16 xz3 ⟨rfl, rfl⟩ rfl rfl ?_
  exact k1

theorem xg13 {ro : Nat → Nat × (Nat → Int32)} {d : Nat} {Q : Option Value → pmS → Prop} {a : xA} {b : xB} {x y : Int} (h : pmWp ro d 11 13 2 0 [some (.ref 0), some (xV x), some (xV y)] [] (xS a b) Q) : pmCs ro (d + 1) 13 [.ref 0, xV x, xV y] (xS a b) Q := x_go xi13 rfl rfl rfl rfl rfl h
theorem w13 {ro : Nat → Nat × (Nat → Int32)} {d : Nat} {Q : Option Value → pmS → Prop} {x y : Int} {a : xA} {b : xB} (hT : kOk (xS a b)) (hA : xAr a) (h_x : xR x) (h_y : xR y) (hd : 4 ≤ d)
    (k1 : (¬ a 0 12 = 0) → Q (some (xV 0)) (xS a b))
    (k2 : (¬ ¬ a 0 12 = 0) → (0 ≤ x ∧ x < 7) → (0 ≤ y ∧ y < 7) → (x = y) → Q (some (xV 0)) (xS a b))
    (k3 : (¬ ¬ a 0 12 = 0) → (0 ≤ x ∧ x < 7) → (0 ≤ y ∧ y < 7) → (¬ x = y) → pmCs ro d 15 [.ref 3, xV x, xV y] (xS a b) fun r σ' => pmWp ro d 11 13 2 35 [some (.ref 0), some (xV x), some (xV y)] (r.toList ++ []) σ' Q)
    (k4 : (¬ ¬ a 0 12 = 0) → (0 ≤ x ∧ x < 7) → (¬ (0 ≤ y ∧ y < 7)) → Q (some (xV 0)) (xS a b))
    (k5 : (¬ ¬ a 0 12 = 0) → (¬ (0 ≤ x ∧ x < 7)) → Q (some (xV 0)) (xS a b)) :
    pmWp ro d 11 13 2 0 [some (.ref 0), some (xV x), some (xV y)] [] (xS a b) Q := by
  refine x_aloadn xc13_0 rfl ?_
  refine x_gfi (k := 12) xc13_1 rfl (Or.inr rfl) rfl xz0 ?_
  refine x_ifne xc13_4 (xRk (by have g0 := xt0_12 hT hA; omega)) (fun h0 => ?_) (fun h0 => ?_)
  · refine x_iconst xc13_42 ?_
    refine x_iret xc13_43 (Or.inr ⟨rfl, (by omega)⟩) ?_
    exact k1 h0
  · refine x_iloadn xc13_7 rfl ?_
    refine x_cS (as := [xV x]) (rest := []) xc13_8 rfl rfl xi14 ⟨rfl, rfl⟩ rfl rfl ?_
    refine xk14 (by omega) (xRk (by have g0 := xRb h_x; omega)) (fun h1 => ?_) (fun h2 => ?_)
    · refine x_ifeq xc13_11 (xRk (by decide)) (fun h => absurd h (by omega)) (fun _ => ?_)
      refine x_iloadn xc13_14 rfl ?_
      refine x_cS (as := [xV y]) (rest := []) xc13_15 rfl rfl xi14 ⟨rfl, rfl⟩ rfl rfl ?_
      refine xk14 (by omega) (xRk (by have g0 := xRb h_y; omega)) (fun h4 => ?_) (fun h5 => ?_)
      · refine x_ifeq xc13_18 (xRk (by decide)) (fun h => absurd h (by omega)) (fun _ => ?_)
        refine x_iloadn xc13_21 rfl ?_
        refine x_iloadn xc13_22 rfl ?_
        refine x_iceq xc13_23 (xRk (by have g0 := xRb h_x; omega)) (xRk (by have g0 := xRb h_y; omega)) (fun h7 => ?_) (fun h7 => ?_)
        · refine x_iconst xc13_42 ?_
          refine x_iret xc13_43 (Or.inr ⟨rfl, (by omega)⟩) ?_
          exact k2 h0 h1 h4 h7
        · refine x_aloadn xc13_26 rfl ?_
          refine x_gfr xc13_27 rfl rfl xz0 rfl ?_
          refine x_iloadn xc13_30 rfl ?_
          refine x_iloadn xc13_31 rfl ?_
          refine x_cV (as := [xV x, xV y]) (rest := []) xc13_32 rfl xi15 xz3 ⟨rfl, rfl⟩ rfl rfl ?_
          exact k3 h0 h1 h4 h7
      · refine x_ifeq xc13_18 (xRk (by decide)) (fun _ => ?_) (fun h => absurd h (by omega))
        refine x_iconst xc13_42 ?_
        refine x_iret xc13_43 (Or.inr ⟨rfl, (by omega)⟩) ?_
        exact k4 h0 h1 h5
    · refine x_ifeq xc13_11 (xRk (by decide)) (fun _ => ?_) (fun h => absurd h (by omega))
      refine x_iconst xc13_42 ?_
      refine x_iret xc13_43 (Or.inr ⟨rfl, (by omega)⟩) ?_
      exact k5 h0 h2

theorem xg137 {ro : Nat → Nat × (Nat → Int32)} {d : Nat} {Q : Option Value → pmS → Prop} {a : xA} {b : xB} {x y : Int} (h : pmWp ro d 12 137 2 0 [some (.ref 87), some (xV x), some (xV y)] [] (xS a b) Q) : pmCs ro (d + 1) 137 [.ref 87, xV x, xV y] (xS a b) Q := x_go xi137 rfl rfl rfl rfl rfl h
theorem w137 {ro : Nat → Nat × (Nat → Int32)} {d : Nat} {Q : Option Value → pmS → Prop} {x y : Int} {a : xA} {b : xB} (hT : kOk (xS a b)) (hA : xAr a) (h_x : xR x) (h_y : xR y) (hd : 4 ≤ d)
    (k1 : (¬ a 87 4 = 0) → Q (some (xV 0)) (xS a b))
    (k2 : (¬ ¬ a 87 4 = 0) → (0 ≤ x ∧ x < 7) → (0 ≤ y ∧ y < 7) → (x = y) → Q (some (xV 0)) (xS a b))
    (k3 : (¬ ¬ a 87 4 = 0) → (0 ≤ x ∧ x < 7) → (0 ≤ y ∧ y < 7) → (¬ x = y) → (a 90 (7 * x + y) = 0) → Q (some (xV 1)) (xS (xU (xU a 90 (7 * x + y) 1) 90 (7 * y + x) 1) b))
    (k4 : (¬ ¬ a 87 4 = 0) → (0 ≤ x ∧ x < 7) → (0 ≤ y ∧ y < 7) → (¬ x = y) → (¬ a 90 (7 * x + y) = 0) → Q (some (xV 0)) (xS a b))
    (k5 : (¬ ¬ a 87 4 = 0) → (0 ≤ x ∧ x < 7) → (¬ (0 ≤ y ∧ y < 7)) → Q (some (xV 0)) (xS a b))
    (k6 : (¬ ¬ a 87 4 = 0) → (¬ (0 ≤ x ∧ x < 7)) → Q (some (xV 0)) (xS a b)) :
    pmWp ro d 12 137 2 0 [some (.ref 87), some (xV x), some (xV y)] [] (xS a b) Q := by
  refine x_aloadn xc137_0 rfl ?_
  refine x_gfi (k := 4) xc137_1 rfl (Or.inr rfl) rfl xz87 ?_
  refine x_ifne xc137_4 (xRk (by have g0 := xt87_4 hT hA; omega)) (fun h0 => ?_) (fun h0 => ?_)
  · refine x_iconst xc137_40 ?_
    refine x_iret xc137_41 (Or.inr ⟨rfl, (by omega)⟩) ?_
    exact k1 h0
  · refine x_iloadn xc137_7 rfl ?_
    refine x_cS (as := [xV x]) (rest := []) xc137_8 rfl rfl xi138 ⟨rfl, rfl⟩ rfl rfl ?_
    refine xk138 (by omega) (xRk (by have g0 := xRb h_x; omega)) (fun h1 => ?_) (fun h2 => ?_)
    · refine x_ifeq xc137_11 (xRk (by decide)) (fun h => absurd h (by omega)) (fun _ => ?_)
      refine x_iloadn xc137_14 rfl ?_
      refine x_cS (as := [xV y]) (rest := []) xc137_15 rfl rfl xi138 ⟨rfl, rfl⟩ rfl rfl ?_
      refine xk138 (by omega) (xRk (by have g0 := xRb h_y; omega)) (fun h4 => ?_) (fun h5 => ?_)
      · refine x_ifeq xc137_18 (xRk (by decide)) (fun h => absurd h (by omega)) (fun _ => ?_)
        refine x_iloadn xc137_21 rfl ?_
        refine x_iloadn xc137_22 rfl ?_
        refine x_iceq xc137_23 (xRk (by have g0 := xRb h_x; omega)) (xRk (by have g0 := xRb h_y; omega)) (fun h7 => ?_) (fun h7 => ?_)
        · refine x_iconst xc137_40 ?_
          refine x_iret xc137_41 (Or.inr ⟨rfl, (by omega)⟩) ?_
          exact k2 h0 h1 h4 h7
        · refine x_aloadn xc137_26 rfl ?_
          refine x_gfr xc137_27 rfl rfl xz87 rfl ?_
          refine x_bipush xc137_30 (by decide) ?_
          refine x_iloadn xc137_32 rfl ?_
          refine x_imul xc137_33 ?_
          refine x_iloadn xc137_34 rfl ?_
          refine x_iadd xc137_35 ?_
          refine x_bal xc137_36 xz90 (Or.inl rfl) (by have g0 := xRb h_x; have g1 := xRb h_y; omega) (by have g0 := xRb h_x; have g1 := xRb h_y; omega) (by have g0 := xRb h_x; have g1 := xRb h_y; omega) ?_
          refine x_ifeq xc137_37 (xRk (by have g0 := xRb h_x; have g1 := xRb h_y; have g2 := xt90 hT hA (k := 7 * x + y) (by omega); omega)) (fun h8 => ?_) (fun h8 => ?_)
          · refine x_aloadn xc137_42 rfl ?_
            refine x_gfr xc137_43 rfl rfl xz87 rfl ?_
            refine x_bipush xc137_46 (by decide) ?_
            refine x_iloadn xc137_48 rfl ?_
            refine x_imul xc137_49 ?_
            refine x_iloadn xc137_50 rfl ?_
            refine x_iadd xc137_51 ?_
            refine x_iconst xc137_52 ?_
            refine x_zas (by omega) xc137_53 xz90 (by have g0 := xRb h_x; have g1 := xRb h_y; omega) (by have g0 := xRb h_x; have g1 := xRb h_y; omega) (by have g0 := xRb h_x; have g1 := xRb h_y; omega) ?_
            refine x_aloadn xc137_54 rfl ?_
            refine x_gfr xc137_55 rfl rfl xz87 rfl ?_
            refine x_bipush xc137_58 (by decide) ?_
            refine x_iloadn xc137_60 rfl ?_
            refine x_imul xc137_61 ?_
            refine x_iloadn xc137_62 rfl ?_
            refine x_iadd xc137_63 ?_
            refine x_iconst xc137_64 ?_
            refine x_zas (by omega) xc137_65 xz90 (by have g0 := xRb h_y; have g1 := xRb h_x; omega) (by have g0 := xRb h_y; have g1 := xRb h_x; omega) (by have g0 := xRb h_y; have g1 := xRb h_x; omega) ?_
            refine x_iconst xc137_66 ?_
            refine x_iret xc137_67 (Or.inr ⟨rfl, (by omega)⟩) ?_
            exact k3 h0 h1 h4 h7 h8
          · refine x_iconst xc137_40 ?_
            refine x_iret xc137_41 (Or.inr ⟨rfl, (by omega)⟩) ?_
            exact k4 h0 h1 h4 h7 h8
      · refine x_ifeq xc137_18 (xRk (by decide)) (fun _ => ?_) (fun h => absurd h (by omega))
        refine x_iconst xc137_40 ?_
        refine x_iret xc137_41 (Or.inr ⟨rfl, (by omega)⟩) ?_
        exact k5 h0 h1 h5
    · refine x_ifeq xc137_11 (xRk (by decide)) (fun _ => ?_) (fun h => absurd h (by omega))
      refine x_iconst xc137_40 ?_
      refine x_iret xc137_41 (Or.inr ⟨rfl, (by omega)⟩) ?_
      exact k6 h0 h2

end
