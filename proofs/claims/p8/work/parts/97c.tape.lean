/-! exact: the tape, the class reads a law -/
section
set_option maxRecDepth 100000
theorem xi33 : pmInf[33]? = some pmI_33 := rfl
theorem xi37 : pmInf[37]? = some pmI_37 := rfl
theorem xi39 : pmInf[39]? = some pmI_39 := rfl
theorem xi40 : pmInf[40]? = some pmI_40 := rfl
theorem xi44 : pmInf[44]? = some pmI_44 := rfl
theorem xi45 : pmInf[45]? = some pmI_45 := rfl
theorem xi47 : pmInf[47]? = some pmI_47 := rfl
theorem xi48 : pmInf[48]? = some pmI_48 := rfl
theorem xi49 : pmInf[49]? = some pmI_49 := rfl
theorem xi50 : pmInf[50]? = some pmI_50 := rfl
theorem xi51 : pmInf[51]? = some pmI_51 := rfl
theorem xi52 : pmInf[52]? = some pmI_52 := rfl
theorem xi53 : pmInf[53]? = some pmI_53 := rfl
theorem xi54 : pmInf[54]? = some pmI_54 := rfl
theorem xi55 : pmInf[55]? = some pmI_55 := rfl
theorem xi56 : pmInf[56]? = some pmI_56 := rfl
theorem xc33_0 : pmCode 33 0 = some (.aload_n 0) ∧ 0 + 1 = 1 := ⟨rfl, rfl⟩
theorem xc33_1 : pmCode 33 1 = some (.iload_n 1) ∧ 1 + 1 = 2 := ⟨rfl, rfl⟩
theorem xc33_2 : pmCode 33 2 = some (.aload_n 0) ∧ 2 + 1 = 3 := ⟨rfl, rfl⟩
theorem xc33_3 : pmCode 33 3 = some (.getfield 15) ∧ 3 + 3 = 6 := ⟨rfl, rfl⟩
theorem xc33_6 : pmCode 33 6 = some (.invokestatic 19) ∧ 6 + 3 = 9 := ⟨rfl, rfl⟩
theorem xc33_9 : pmCode 33 9 = some (.putfield 25) ∧ 9 + 3 = 12 := ⟨rfl, rfl⟩
theorem xc33_12 : pmCode 33 12 = some (.aload_n 0) ∧ 12 + 1 = 13 := ⟨rfl, rfl⟩
theorem xc33_13 : pmCode 33 13 = some (.iconst 0) ∧ 13 + 1 = 14 := ⟨rfl, rfl⟩
theorem xc33_14 : pmCode 33 14 = some (.putfield 28) ∧ 14 + 3 = 17 := ⟨rfl, rfl⟩
theorem xc33_17 : pmCode 33 17 = some (.aload_n 0) ∧ 17 + 1 = 18 := ⟨rfl, rfl⟩
theorem xc33_18 : pmCode 33 18 = some (.iconst 0) ∧ 18 + 1 = 19 := ⟨rfl, rfl⟩
theorem xc33_19 : pmCode 33 19 = some (.putfield 31) ∧ 19 + 3 = 22 := ⟨rfl, rfl⟩
theorem xc33_22 : pmCode 33 22 = some .return_ := rfl
theorem xc37_0 : pmCode 37 0 = some (.aload_n 0) ∧ 0 + 1 = 1 := ⟨rfl, rfl⟩
theorem xc37_1 : pmCode 37 1 = some (.getfield 28) ∧ 1 + 3 = 4 := ⟨rfl, rfl⟩
theorem xc37_4 : pmCode 37 4 = some (.ifCond .lt 26) ∧ ((4 : Nat) : Int) + 26 = ((30 : Nat) : Int) ∧ 4 + 3 = 7 := ⟨rfl, rfl, rfl⟩
theorem xc37_7 : pmCode 37 7 = some (.aload_n 0) ∧ 7 + 1 = 8 := ⟨rfl, rfl⟩
theorem xc37_8 : pmCode 37 8 = some (.getfield 28) ∧ 8 + 3 = 11 := ⟨rfl, rfl⟩
theorem xc37_11 : pmCode 37 11 = some (.aload_n 0) ∧ 11 + 1 = 12 := ⟨rfl, rfl⟩
theorem xc37_12 : pmCode 37 12 = some (.getfield 25) ∧ 12 + 3 = 15 := ⟨rfl, rfl⟩
theorem xc37_15 : pmCode 37 15 = some (.if_icmp .ge 15) ∧ ((15 : Nat) : Int) + 15 = ((30 : Nat) : Int) ∧ 15 + 3 = 18 := ⟨rfl, rfl, rfl⟩
theorem xc37_18 : pmCode 37 18 = some (.aload_n 0) ∧ 18 + 1 = 19 := ⟨rfl, rfl⟩
theorem xc37_19 : pmCode 37 19 = some (.getfield 9) ∧ 19 + 3 = 22 := ⟨rfl, rfl⟩
theorem xc37_22 : pmCode 37 22 = some (.aload_n 0) ∧ 22 + 1 = 23 := ⟨rfl, rfl⟩
theorem xc37_23 : pmCode 37 23 = some (.getfield 28) ∧ 23 + 3 = 26 := ⟨rfl, rfl⟩
theorem xc37_26 : pmCode 37 26 = some .iaload ∧ 26 + 1 = 27 := ⟨rfl, rfl⟩
theorem xc37_27 : pmCode 37 27 = some (.goto 4) ∧ ((27 : Nat) : Int) + 4 = ((31 : Nat) : Int) := ⟨rfl, rfl⟩
theorem xc37_30 : pmCode 37 30 = some (.iconst (-1)) ∧ 30 + 1 = 31 := ⟨rfl, rfl⟩
theorem xc37_31 : pmCode 37 31 = some .ireturn := rfl
theorem xc39_0 : pmCode 39 0 = some (.aload_n 0) ∧ 0 + 1 = 1 := ⟨rfl, rfl⟩
theorem xc39_1 : pmCode 39 1 = some (.sipush (-1000)) ∧ 1 + 3 = 4 := ⟨rfl, rfl⟩
theorem xc39_4 : pmCode 39 4 = some (.iload_n 1) ∧ 4 + 1 = 5 := ⟨rfl, rfl⟩
theorem xc39_5 : pmCode 39 5 = some .imul ∧ 5 + 1 = 6 := ⟨rfl, rfl⟩
theorem xc39_6 : pmCode 39 6 = some (.aload_n 0) ∧ 6 + 1 = 7 := ⟨rfl, rfl⟩
theorem xc39_7 : pmCode 39 7 = some (.getfield 28) ∧ 7 + 3 = 10 := ⟨rfl, rfl⟩
theorem xc39_10 : pmCode 39 10 = some .isub ∧ 10 + 1 = 11 := ⟨rfl, rfl⟩
theorem xc39_11 : pmCode 39 11 = some (.putfield 31) ∧ 11 + 3 = 14 := ⟨rfl, rfl⟩
theorem xc39_14 : pmCode 39 14 = some (.iconst 0) ∧ 14 + 1 = 15 := ⟨rfl, rfl⟩
theorem xc39_15 : pmCode 39 15 = some .ireturn := rfl
theorem xc40_0 : pmCode 40 0 = some (.aload_n 0) ∧ 0 + 1 = 1 := ⟨rfl, rfl⟩
theorem xc40_1 : pmCode 40 1 = some (.invokevirtual 34) ∧ 1 + 3 = 4 := ⟨rfl, rfl⟩
theorem xc40_4 : pmCode 40 4 = some (.bipush 48) ∧ 4 + 2 = 6 := ⟨rfl, rfl⟩
theorem xc40_6 : pmCode 40 6 = some .isub ∧ 6 + 1 = 7 := ⟨rfl, rfl⟩
theorem xc40_7 : pmCode 40 7 = some (.istore_n 2) ∧ 7 + 1 = 8 := ⟨rfl, rfl⟩
theorem xc40_8 : pmCode 40 8 = some (.iload_n 2) ∧ 8 + 1 = 9 := ⟨rfl, rfl⟩
theorem xc40_9 : pmCode 40 9 = some (.ifCond .lt 9) ∧ ((9 : Nat) : Int) + 9 = ((18 : Nat) : Int) ∧ 9 + 3 = 12 := ⟨rfl, rfl, rfl⟩
theorem xc40_12 : pmCode 40 12 = some (.iload_n 2) ∧ 12 + 1 = 13 := ⟨rfl, rfl⟩
theorem xc40_13 : pmCode 40 13 = some (.bipush 9) ∧ 13 + 2 = 15 := ⟨rfl, rfl⟩
theorem xc40_15 : pmCode 40 15 = some (.if_icmp .le 11) ∧ ((15 : Nat) : Int) + 11 = ((26 : Nat) : Int) ∧ 15 + 3 = 18 := ⟨rfl, rfl, rfl⟩
theorem xc40_18 : pmCode 40 18 = some (.aload_n 0) ∧ 18 + 1 = 19 := ⟨rfl, rfl⟩
theorem xc40_19 : pmCode 40 19 = some (.iconst 1) ∧ 19 + 1 = 20 := ⟨rfl, rfl⟩
theorem xc40_20 : pmCode 40 20 = some (.invokevirtual 38) ∧ 20 + 3 = 23 := ⟨rfl, rfl⟩
theorem xc40_23 : pmCode 40 23 = some .pop ∧ 23 + 1 = 24 := ⟨rfl, rfl⟩
theorem xc40_24 : pmCode 40 24 = some (.iconst (-1)) ∧ 24 + 1 = 25 := ⟨rfl, rfl⟩
theorem xc40_25 : pmCode 40 25 = some .ireturn := rfl
theorem xc40_26 : pmCode 40 26 = some (.iload_n 2) ∧ 26 + 1 = 27 := ⟨rfl, rfl⟩
theorem xc40_27 : pmCode 40 27 = some (.iload_n 1) ∧ 27 + 1 = 28 := ⟨rfl, rfl⟩
theorem xc40_28 : pmCode 40 28 = some (.if_icmp .le 11) ∧ ((28 : Nat) : Int) + 11 = ((39 : Nat) : Int) ∧ 28 + 3 = 31 := ⟨rfl, rfl, rfl⟩
theorem xc40_31 : pmCode 40 31 = some (.aload_n 0) ∧ 31 + 1 = 32 := ⟨rfl, rfl⟩
theorem xc40_32 : pmCode 40 32 = some (.iconst 3) ∧ 32 + 1 = 33 := ⟨rfl, rfl⟩
theorem xc40_33 : pmCode 40 33 = some (.invokevirtual 38) ∧ 33 + 3 = 36 := ⟨rfl, rfl⟩
theorem xc40_36 : pmCode 40 36 = some .pop ∧ 36 + 1 = 37 := ⟨rfl, rfl⟩
theorem xc40_37 : pmCode 40 37 = some (.iconst (-1)) ∧ 37 + 1 = 38 := ⟨rfl, rfl⟩
theorem xc40_38 : pmCode 40 38 = some .ireturn := rfl
theorem xc40_39 : pmCode 40 39 = some (.aload_n 0) ∧ 39 + 1 = 40 := ⟨rfl, rfl⟩
theorem xc40_40 : pmCode 40 40 = some .dup ∧ 40 + 1 = 41 := ⟨rfl, rfl⟩
theorem xc40_41 : pmCode 40 41 = some (.getfield 28) ∧ 41 + 3 = 44 := ⟨rfl, rfl⟩
theorem xc40_44 : pmCode 40 44 = some (.iconst 1) ∧ 44 + 1 = 45 := ⟨rfl, rfl⟩
theorem xc40_45 : pmCode 40 45 = some .iadd ∧ 45 + 1 = 46 := ⟨rfl, rfl⟩
theorem xc40_46 : pmCode 40 46 = some (.putfield 28) ∧ 46 + 3 = 49 := ⟨rfl, rfl⟩
theorem xc40_49 : pmCode 40 49 = some (.iload_n 2) ∧ 49 + 1 = 50 := ⟨rfl, rfl⟩
theorem xc40_50 : pmCode 40 50 = some .ireturn := rfl
theorem xc44_0 : pmCode 44 0 = some (.aload_n 0) ∧ 0 + 1 = 1 := ⟨rfl, rfl⟩
theorem xc44_1 : pmCode 44 1 = some (.invokevirtual 34) ∧ 1 + 3 = 4 := ⟨rfl, rfl⟩
theorem xc44_4 : pmCode 44 4 = some (.iload_n 1) ∧ 4 + 1 = 5 := ⟨rfl, rfl⟩
theorem xc44_5 : pmCode 44 5 = some (.if_icmp .eq 5) ∧ ((5 : Nat) : Int) + 5 = ((10 : Nat) : Int) ∧ 5 + 3 = 8 := ⟨rfl, rfl, rfl⟩
theorem xc44_8 : pmCode 44 8 = some (.iconst 0) ∧ 8 + 1 = 9 := ⟨rfl, rfl⟩
theorem xc44_9 : pmCode 44 9 = some .ireturn := rfl
theorem xc44_10 : pmCode 44 10 = some (.aload_n 0) ∧ 10 + 1 = 11 := ⟨rfl, rfl⟩
theorem xc44_11 : pmCode 44 11 = some .dup ∧ 11 + 1 = 12 := ⟨rfl, rfl⟩
theorem xc44_12 : pmCode 44 12 = some (.getfield 28) ∧ 12 + 3 = 15 := ⟨rfl, rfl⟩
theorem xc44_15 : pmCode 44 15 = some (.iconst 1) ∧ 15 + 1 = 16 := ⟨rfl, rfl⟩
theorem xc44_16 : pmCode 44 16 = some .iadd ∧ 16 + 1 = 17 := ⟨rfl, rfl⟩
theorem xc44_17 : pmCode 44 17 = some (.putfield 28) ∧ 17 + 3 = 20 := ⟨rfl, rfl⟩
theorem xc44_20 : pmCode 44 20 = some (.iconst 1) ∧ 20 + 1 = 21 := ⟨rfl, rfl⟩
theorem xc44_21 : pmCode 44 21 = some .ireturn := rfl
theorem xc45_0 : pmCode 45 0 = some (.aload_n 0) ∧ 0 + 1 = 1 := ⟨rfl, rfl⟩
theorem xc45_1 : pmCode 45 1 = some (.iconst 0) ∧ 1 + 1 = 2 := ⟨rfl, rfl⟩
theorem xc45_2 : pmCode 45 2 = some (.putfield 15) ∧ 2 + 3 = 5 := ⟨rfl, rfl⟩
theorem xc45_5 : pmCode 45 5 = some .return_ := rfl
theorem xc47_0 : pmCode 47 0 = some (.aload_n 0) ∧ 0 + 1 = 1 := ⟨rfl, rfl⟩
theorem xc47_1 : pmCode 47 1 = some (.getfield 101) ∧ 1 + 3 = 4 := ⟨rfl, rfl⟩
theorem xc47_4 : pmCode 47 4 = some (.ifCond .ne 37) ∧ ((4 : Nat) : Int) + 37 = ((41 : Nat) : Int) ∧ 4 + 3 = 7 := ⟨rfl, rfl, rfl⟩
theorem xc47_7 : pmCode 47 7 = some (.iload_n 1) ∧ 7 + 1 = 8 := ⟨rfl, rfl⟩
theorem xc47_8 : pmCode 47 8 = some (.iconst 1) ∧ 8 + 1 = 9 := ⟨rfl, rfl⟩
theorem xc47_9 : pmCode 47 9 = some (.if_icmp .lt 32) ∧ ((9 : Nat) : Int) + 32 = ((41 : Nat) : Int) ∧ 9 + 3 = 12 := ⟨rfl, rfl, rfl⟩
theorem xc47_12 : pmCode 47 12 = some (.iload_n 1) ∧ 12 + 1 = 13 := ⟨rfl, rfl⟩
theorem xc47_13 : pmCode 47 13 = some (.bipush 60) ∧ 13 + 2 = 15 := ⟨rfl, rfl⟩
theorem xc47_15 : pmCode 47 15 = some (.if_icmp .gt 26) ∧ ((15 : Nat) : Int) + 26 = ((41 : Nat) : Int) ∧ 15 + 3 = 18 := ⟨rfl, rfl, rfl⟩
theorem xc47_18 : pmCode 47 18 = some (.aload_n 0) ∧ 18 + 1 = 19 := ⟨rfl, rfl⟩
theorem xc47_19 : pmCode 47 19 = some (.getfield 33) ∧ 19 + 3 = 22 := ⟨rfl, rfl⟩
theorem xc47_22 : pmCode 47 22 = some (.getfield 186) ∧ 22 + 3 = 25 := ⟨rfl, rfl⟩
theorem xc47_25 : pmCode 47 25 = some (.bipush 6) ∧ 25 + 2 = 27 := ⟨rfl, rfl⟩
theorem xc47_27 : pmCode 47 27 = some (.if_icmp .ge 14) ∧ ((27 : Nat) : Int) + 14 = ((41 : Nat) : Int) ∧ 27 + 3 = 30 := ⟨rfl, rfl, rfl⟩
theorem xc47_30 : pmCode 47 30 = some (.iload_n 1) ∧ 30 + 1 = 31 := ⟨rfl, rfl⟩
theorem xc47_31 : pmCode 47 31 = some (.aload_n 0) ∧ 31 + 1 = 32 := ⟨rfl, rfl⟩
theorem xc47_32 : pmCode 47 32 = some (.getfield 10) ∧ 32 + 3 = 35 := ⟨rfl, rfl⟩
theorem xc47_35 : pmCode 47 35 = some (.getfield 159) ∧ 35 + 3 = 38 := ⟨rfl, rfl⟩
theorem xc47_38 : pmCode 47 38 = some (.if_icmp .le 5) ∧ ((38 : Nat) : Int) + 5 = ((43 : Nat) : Int) ∧ 38 + 3 = 41 := ⟨rfl, rfl, rfl⟩
theorem xc47_41 : pmCode 47 41 = some (.iconst (-1)) ∧ 41 + 1 = 42 := ⟨rfl, rfl⟩
theorem xc47_42 : pmCode 47 42 = some .ireturn := rfl
theorem xc47_43 : pmCode 47 43 = some (.aload_n 0) ∧ 43 + 1 = 44 := ⟨rfl, rfl⟩
theorem xc47_44 : pmCode 47 44 = some (.getfield 61) ∧ 44 + 3 = 47 := ⟨rfl, rfl⟩
theorem xc47_47 : pmCode 47 47 = some (.iload_n 1) ∧ 47 + 1 = 48 := ⟨rfl, rfl⟩
theorem xc47_48 : pmCode 47 48 = some (.invokevirtual 189) ∧ 48 + 3 = 51 := ⟨rfl, rfl⟩
theorem xc47_51 : pmCode 47 51 = some (.istore_n 2) ∧ 51 + 1 = 52 := ⟨rfl, rfl⟩
theorem xc47_52 : pmCode 47 52 = some (.aload_n 0) ∧ 52 + 1 = 53 := ⟨rfl, rfl⟩
theorem xc47_53 : pmCode 47 53 = some (.getfield 10) ∧ 53 + 3 = 56 := ⟨rfl, rfl⟩
theorem xc47_56 : pmCode 47 56 = some (.invokevirtual 173) ∧ 56 + 3 = 59 := ⟨rfl, rfl⟩
theorem xc47_59 : pmCode 47 59 = some (.iload_n 2) ∧ 59 + 1 = 60 := ⟨rfl, rfl⟩
theorem xc47_60 : pmCode 47 60 = some (.ifCond .eq 7) ∧ ((60 : Nat) : Int) + 7 = ((67 : Nat) : Int) ∧ 60 + 3 = 63 := ⟨rfl, rfl, rfl⟩
theorem xc47_63 : pmCode 47 63 = some (.iload_n 2) ∧ 63 + 1 = 64 := ⟨rfl, rfl⟩
theorem xc47_64 : pmCode 47 64 = some (.goto 17) ∧ ((64 : Nat) : Int) + 17 = ((81 : Nat) : Int) := ⟨rfl, rfl⟩
theorem xc47_67 : pmCode 47 67 = some (.aload_n 0) ∧ 67 + 1 = 68 := ⟨rfl, rfl⟩
theorem xc47_68 : pmCode 47 68 = some (.getfield 33) ∧ 68 + 3 = 71 := ⟨rfl, rfl⟩
theorem xc47_71 : pmCode 47 71 = some (.aload_n 0) ∧ 71 + 1 = 72 := ⟨rfl, rfl⟩
theorem xc47_72 : pmCode 47 72 = some (.getfield 61) ∧ 72 + 3 = 75 := ⟨rfl, rfl⟩
theorem xc47_75 : pmCode 47 75 = some (.getfield 190) ∧ 75 + 3 = 78 := ⟨rfl, rfl⟩
theorem xc47_78 : pmCode 47 78 = some (.invokevirtual 193) ∧ 78 + 3 = 81 := ⟨rfl, rfl⟩
theorem xc47_81 : pmCode 47 81 = some .ireturn := rfl
theorem xc48_0 : pmCode 48 0 = some (.aload_n 0) ∧ 0 + 1 = 1 := ⟨rfl, rfl⟩
theorem xc48_1 : pmCode 48 1 = some (.getfield 9) ∧ 1 + 3 = 4 := ⟨rfl, rfl⟩
theorem xc48_4 : pmCode 48 4 = some (.iload_n 1) ∧ 4 + 1 = 5 := ⟨rfl, rfl⟩
theorem xc48_5 : pmCode 48 5 = some (.invokevirtual 19) ∧ 5 + 3 = 8 := ⟨rfl, rfl⟩
theorem xc48_8 : pmCode 48 8 = some (.aload_n 0) ∧ 8 + 1 = 9 := ⟨rfl, rfl⟩
theorem xc48_9 : pmCode 48 9 = some (.iconst 0) ∧ 9 + 1 = 10 := ⟨rfl, rfl⟩
theorem xc48_10 : pmCode 48 10 = some (.putfield 25) ∧ 10 + 3 = 13 := ⟨rfl, rfl⟩
theorem xc48_13 : pmCode 48 13 = some (.iconst 0) ∧ 13 + 1 = 14 := ⟨rfl, rfl⟩
theorem xc48_14 : pmCode 48 14 = some (.istore_n 2) ∧ 14 + 1 = 15 := ⟨rfl, rfl⟩
theorem xc48_15 : pmCode 48 15 = some (.iload_n 2) ∧ 15 + 1 = 16 := ⟨rfl, rfl⟩
theorem xc48_16 : pmCode 48 16 = some (.bipush 60) ∧ 16 + 2 = 18 := ⟨rfl, rfl⟩
theorem xc48_18 : pmCode 48 18 = some (.if_icmp .ge 58) ∧ ((18 : Nat) : Int) + 58 = ((76 : Nat) : Int) ∧ 18 + 3 = 21 := ⟨rfl, rfl, rfl⟩
theorem xc48_21 : pmCode 48 21 = some (.aload_n 0) ∧ 21 + 1 = 22 := ⟨rfl, rfl⟩
theorem xc48_22 : pmCode 48 22 = some (.invokevirtual 29) ∧ 22 + 3 = 25 := ⟨rfl, rfl⟩
theorem xc48_25 : pmCode 48 25 = some (.ifCond .eq 51) ∧ ((25 : Nat) : Int) + 51 = ((76 : Nat) : Int) ∧ 25 + 3 = 28 := ⟨rfl, rfl, rfl⟩
theorem xc48_28 : pmCode 48 28 = some (.aload_n 0) ∧ 28 + 1 = 29 := ⟨rfl, rfl⟩
theorem xc48_29 : pmCode 48 29 = some (.getfield 9) ∧ 29 + 3 = 32 := ⟨rfl, rfl⟩
theorem xc48_32 : pmCode 48 32 = some (.getfield 33) ∧ 32 + 3 = 35 := ⟨rfl, rfl⟩
theorem xc48_35 : pmCode 48 35 = some (.iload_n 1) ∧ 35 + 1 = 36 := ⟨rfl, rfl⟩
theorem xc48_36 : pmCode 48 36 = some (.if_icmp .lt 5) ∧ ((36 : Nat) : Int) + 5 = ((41 : Nat) : Int) ∧ 36 + 3 = 39 := ⟨rfl, rfl, rfl⟩
theorem xc48_39 : pmCode 48 39 = some (.iconst 0) ∧ 39 + 1 = 40 := ⟨rfl, rfl⟩
theorem xc48_40 : pmCode 48 40 = some .ireturn := rfl
theorem xc48_41 : pmCode 48 41 = some (.aload_n 0) ∧ 41 + 1 = 42 := ⟨rfl, rfl⟩
theorem xc48_42 : pmCode 48 42 = some (.getfield 9) ∧ 42 + 3 = 45 := ⟨rfl, rfl⟩
theorem xc48_45 : pmCode 48 45 = some (.bipush 59) ∧ 45 + 2 = 47 := ⟨rfl, rfl⟩
theorem xc48_47 : pmCode 48 47 = some (.invokevirtual 36) ∧ 47 + 3 = 50 := ⟨rfl, rfl⟩
theorem xc48_50 : pmCode 48 50 = some (.ifCond .ne 20) ∧ ((50 : Nat) : Int) + 20 = ((70 : Nat) : Int) ∧ 50 + 3 = 53 := ⟨rfl, rfl, rfl⟩
theorem xc48_53 : pmCode 48 53 = some (.aload_n 0) ∧ 53 + 1 = 54 := ⟨rfl, rfl⟩
theorem xc48_54 : pmCode 48 54 = some (.getfield 9) ∧ 54 + 3 = 57 := ⟨rfl, rfl⟩
theorem xc48_57 : pmCode 48 57 = some (.iconst 1) ∧ 57 + 1 = 58 := ⟨rfl, rfl⟩
theorem xc48_58 : pmCode 48 58 = some (.invokevirtual 40) ∧ 58 + 3 = 61 := ⟨rfl, rfl⟩
theorem xc48_61 : pmCode 48 61 = some .pop ∧ 61 + 1 = 62 := ⟨rfl, rfl⟩
theorem xc48_62 : pmCode 48 62 = some (.aload_n 0) ∧ 62 + 1 = 63 := ⟨rfl, rfl⟩
theorem xc48_63 : pmCode 48 63 = some (.getfield 9) ∧ 63 + 3 = 66 := ⟨rfl, rfl⟩
theorem xc48_66 : pmCode 48 66 = some (.getfield 44) ∧ 66 + 3 = 69 := ⟨rfl, rfl⟩
theorem xc48_69 : pmCode 48 69 = some .ireturn := rfl
theorem xc48_70 : pmCode 48 70 = some (.iinc 2 1) ∧ 70 + 3 = 73 := ⟨rfl, rfl⟩
theorem xc48_73 : pmCode 48 73 = some (.goto (-58)) ∧ ((73 : Nat) : Int) + (-58) = ((15 : Nat) : Int) := ⟨rfl, rfl⟩
theorem xc48_76 : pmCode 48 76 = some (.aload_n 0) ∧ 76 + 1 = 77 := ⟨rfl, rfl⟩
theorem xc48_77 : pmCode 48 77 = some (.getfield 9) ∧ 77 + 3 = 80 := ⟨rfl, rfl⟩
theorem xc48_80 : pmCode 48 80 = some (.getfield 44) ∧ 80 + 3 = 83 := ⟨rfl, rfl⟩
theorem xc48_83 : pmCode 48 83 = some .ireturn := rfl
theorem xc49_0 : pmCode 49 0 = some (.aload_n 0) ∧ 0 + 1 = 1 := ⟨rfl, rfl⟩
theorem xc49_1 : pmCode 49 1 = some (.getfield 9) ∧ 1 + 3 = 4 := ⟨rfl, rfl⟩
theorem xc49_4 : pmCode 49 4 = some (.invokevirtual 47) ∧ 4 + 3 = 7 := ⟨rfl, rfl⟩
theorem xc49_7 : pmCode 49 7 = some (.istore_n 1) ∧ 7 + 1 = 8 := ⟨rfl, rfl⟩
theorem xc49_8 : pmCode 49 8 = some (.iload_n 1) ∧ 8 + 1 = 9 := ⟨rfl, rfl⟩
theorem xc49_9 : pmCode 49 9 = some (.bipush 110) ∧ 9 + 2 = 11 := ⟨rfl, rfl⟩
theorem xc49_11 : pmCode 49 11 = some (.if_icmp .eq 30) ∧ ((11 : Nat) : Int) + 30 = ((41 : Nat) : Int) ∧ 11 + 3 = 14 := ⟨rfl, rfl, rfl⟩
theorem xc49_14 : pmCode 49 14 = some (.iload_n 1) ∧ 14 + 1 = 15 := ⟨rfl, rfl⟩
theorem xc49_15 : pmCode 49 15 = some (.bipush 97) ∧ 15 + 2 = 17 := ⟨rfl, rfl⟩
theorem xc49_17 : pmCode 49 17 = some (.if_icmp .eq 24) ∧ ((17 : Nat) : Int) + 24 = ((41 : Nat) : Int) ∧ 17 + 3 = 20 := ⟨rfl, rfl, rfl⟩
theorem xc49_20 : pmCode 49 20 = some (.iload_n 1) ∧ 20 + 1 = 21 := ⟨rfl, rfl⟩
theorem xc49_21 : pmCode 49 21 = some (.bipush 114) ∧ 21 + 2 = 23 := ⟨rfl, rfl⟩
theorem xc49_23 : pmCode 49 23 = some (.if_icmp .eq 18) ∧ ((23 : Nat) : Int) + 18 = ((41 : Nat) : Int) ∧ 23 + 3 = 26 := ⟨rfl, rfl, rfl⟩
theorem xc49_26 : pmCode 49 26 = some (.iload_n 1) ∧ 26 + 1 = 27 := ⟨rfl, rfl⟩
theorem xc49_27 : pmCode 49 27 = some (.bipush 101) ∧ 27 + 2 = 29 := ⟨rfl, rfl⟩
theorem xc49_29 : pmCode 49 29 = some (.if_icmp .eq 12) ∧ ((29 : Nat) : Int) + 12 = ((41 : Nat) : Int) ∧ 29 + 3 = 32 := ⟨rfl, rfl, rfl⟩
theorem xc49_32 : pmCode 49 32 = some (.aload_n 0) ∧ 32 + 1 = 33 := ⟨rfl, rfl⟩
theorem xc49_33 : pmCode 49 33 = some (.getfield 9) ∧ 33 + 3 = 36 := ⟨rfl, rfl⟩
theorem xc49_36 : pmCode 49 36 = some (.iconst 1) ∧ 36 + 1 = 37 := ⟨rfl, rfl⟩
theorem xc49_37 : pmCode 49 37 = some (.invokevirtual 40) ∧ 37 + 3 = 40 := ⟨rfl, rfl⟩
theorem xc49_40 : pmCode 49 40 = some .ireturn := rfl
theorem xc49_41 : pmCode 49 41 = some (.aload_n 0) ∧ 41 + 1 = 42 := ⟨rfl, rfl⟩
theorem xc49_42 : pmCode 49 42 = some (.getfield 15) ∧ 42 + 3 = 45 := ⟨rfl, rfl⟩
theorem xc49_45 : pmCode 49 45 = some (.getfield 51) ∧ 45 + 3 = 48 := ⟨rfl, rfl⟩
theorem xc49_48 : pmCode 49 48 = some (.iconst 4) ∧ 48 + 1 = 49 := ⟨rfl, rfl⟩
theorem xc49_49 : pmCode 49 49 = some .imul ∧ 49 + 1 = 50 := ⟨rfl, rfl⟩
theorem xc49_50 : pmCode 49 50 = some (.aload_n 0) ∧ 50 + 1 = 51 := ⟨rfl, rfl⟩
theorem xc49_51 : pmCode 49 51 = some (.getfield 25) ∧ 51 + 3 = 54 := ⟨rfl, rfl⟩
theorem xc49_54 : pmCode 49 54 = some .iadd ∧ 54 + 1 = 55 := ⟨rfl, rfl⟩
theorem xc49_55 : pmCode 49 55 = some (.istore_n 2) ∧ 55 + 1 = 56 := ⟨rfl, rfl⟩
theorem xc49_56 : pmCode 49 56 = some (.aload_n 0) ∧ 56 + 1 = 57 := ⟨rfl, rfl⟩
theorem xc49_57 : pmCode 49 57 = some (.getfield 25) ∧ 57 + 3 = 60 := ⟨rfl, rfl⟩
theorem xc49_60 : pmCode 49 60 = some (.iconst 4) ∧ 60 + 1 = 61 := ⟨rfl, rfl⟩
theorem xc49_61 : pmCode 49 61 = some (.if_icmp .ge 9) ∧ ((61 : Nat) : Int) + 9 = ((70 : Nat) : Int) ∧ 61 + 3 = 64 := ⟨rfl, rfl, rfl⟩
theorem xc49_64 : pmCode 49 64 = some (.iload_n 2) ∧ 64 + 1 = 65 := ⟨rfl, rfl⟩
theorem xc49_65 : pmCode 49 65 = some (.bipush 24) ∧ 65 + 2 = 67 := ⟨rfl, rfl⟩
theorem xc49_67 : pmCode 49 67 = some (.if_icmp .lt 12) ∧ ((67 : Nat) : Int) + 12 = ((79 : Nat) : Int) ∧ 67 + 3 = 70 := ⟨rfl, rfl, rfl⟩
theorem xc49_70 : pmCode 49 70 = some (.aload_n 0) ∧ 70 + 1 = 71 := ⟨rfl, rfl⟩
theorem xc49_71 : pmCode 49 71 = some (.getfield 9) ∧ 71 + 3 = 74 := ⟨rfl, rfl⟩
theorem xc49_74 : pmCode 49 74 = some (.iconst 4) ∧ 74 + 1 = 75 := ⟨rfl, rfl⟩
theorem xc49_75 : pmCode 49 75 = some (.invokevirtual 40) ∧ 75 + 3 = 78 := ⟨rfl, rfl⟩
theorem xc49_78 : pmCode 49 78 = some .ireturn := rfl
theorem xc49_79 : pmCode 49 79 = some (.aload_n 0) ∧ 79 + 1 = 80 := ⟨rfl, rfl⟩
theorem xc49_80 : pmCode 49 80 = some (.getfield 9) ∧ 80 + 3 = 83 := ⟨rfl, rfl⟩
theorem xc49_83 : pmCode 49 83 = some .dup ∧ 83 + 1 = 84 := ⟨rfl, rfl⟩
theorem xc49_84 : pmCode 49 84 = some (.getfield 33) ∧ 84 + 3 = 87 := ⟨rfl, rfl⟩
theorem xc49_87 : pmCode 49 87 = some (.iconst 1) ∧ 87 + 1 = 88 := ⟨rfl, rfl⟩
theorem xc49_88 : pmCode 49 88 = some .iadd ∧ 88 + 1 = 89 := ⟨rfl, rfl⟩
theorem xc49_89 : pmCode 49 89 = some (.putfield 33) ∧ 89 + 3 = 92 := ⟨rfl, rfl⟩
theorem xc49_92 : pmCode 49 92 = some (.aload_n 0) ∧ 92 + 1 = 93 := ⟨rfl, rfl⟩
theorem xc49_93 : pmCode 49 93 = some .dup ∧ 93 + 1 = 94 := ⟨rfl, rfl⟩
theorem xc49_94 : pmCode 49 94 = some (.getfield 25) ∧ 94 + 3 = 97 := ⟨rfl, rfl⟩
theorem xc49_97 : pmCode 49 97 = some (.iconst 1) ∧ 97 + 1 = 98 := ⟨rfl, rfl⟩
theorem xc49_98 : pmCode 49 98 = some .iadd ∧ 98 + 1 = 99 := ⟨rfl, rfl⟩
theorem xc49_99 : pmCode 49 99 = some (.putfield 25) ∧ 99 + 3 = 102 := ⟨rfl, rfl⟩
theorem xc49_102 : pmCode 49 102 = some (.aload_n 0) ∧ 102 + 1 = 103 := ⟨rfl, rfl⟩
theorem xc49_103 : pmCode 49 103 = some (.getfield 15) ∧ 103 + 3 = 106 := ⟨rfl, rfl⟩
theorem xc49_106 : pmCode 49 106 = some (.getfield 56) ∧ 106 + 3 = 109 := ⟨rfl, rfl⟩
theorem xc49_109 : pmCode 49 109 = some (.iload_n 2) ∧ 109 + 1 = 110 := ⟨rfl, rfl⟩
theorem xc49_110 : pmCode 49 110 = some (.iload_n 1) ∧ 110 + 1 = 111 := ⟨rfl, rfl⟩
theorem xc49_111 : pmCode 49 111 = some .iastore ∧ 111 + 1 = 112 := ⟨rfl, rfl⟩
theorem xc49_112 : pmCode 49 112 = some (.aload_n 0) ∧ 112 + 1 = 113 := ⟨rfl, rfl⟩
theorem xc49_113 : pmCode 49 113 = some (.invokevirtual 60) ∧ 113 + 3 = 116 := ⟨rfl, rfl⟩
theorem xc49_116 : pmCode 49 116 = some (.ifCond .ne 5) ∧ ((116 : Nat) : Int) + 5 = ((121 : Nat) : Int) ∧ 116 + 3 = 119 := ⟨rfl, rfl, rfl⟩
theorem xc49_119 : pmCode 49 119 = some (.iconst 0) ∧ 119 + 1 = 120 := ⟨rfl, rfl⟩
theorem xc49_120 : pmCode 49 120 = some .ireturn := rfl
theorem xc49_121 : pmCode 49 121 = some (.aload_n 0) ∧ 121 + 1 = 122 := ⟨rfl, rfl⟩
theorem xc49_122 : pmCode 49 122 = some (.getfield 15) ∧ 122 + 3 = 125 := ⟨rfl, rfl⟩
theorem xc49_125 : pmCode 49 125 = some (.getfield 63) ∧ 125 + 3 = 128 := ⟨rfl, rfl⟩
theorem xc49_128 : pmCode 49 128 = some (.iload_n 2) ∧ 128 + 1 = 129 := ⟨rfl, rfl⟩
theorem xc49_129 : pmCode 49 129 = some (.aload_n 0) ∧ 129 + 1 = 130 := ⟨rfl, rfl⟩
theorem xc49_130 : pmCode 49 130 = some (.getfield 66) ∧ 130 + 3 = 133 := ⟨rfl, rfl⟩
theorem xc49_133 : pmCode 49 133 = some .iastore ∧ 133 + 1 = 134 := ⟨rfl, rfl⟩
theorem xc49_134 : pmCode 49 134 = some (.aload_n 0) ∧ 134 + 1 = 135 := ⟨rfl, rfl⟩
theorem xc49_135 : pmCode 49 135 = some (.getfield 15) ∧ 135 + 3 = 138 := ⟨rfl, rfl⟩
theorem xc49_138 : pmCode 49 138 = some (.getfield 69) ∧ 138 + 3 = 141 := ⟨rfl, rfl⟩
theorem xc49_141 : pmCode 49 141 = some (.iload_n 2) ∧ 141 + 1 = 142 := ⟨rfl, rfl⟩
theorem xc49_142 : pmCode 49 142 = some (.aload_n 0) ∧ 142 + 1 = 143 := ⟨rfl, rfl⟩
theorem xc49_143 : pmCode 49 143 = some (.getfield 72) ∧ 143 + 3 = 146 := ⟨rfl, rfl⟩
theorem xc49_146 : pmCode 49 146 = some .iastore ∧ 146 + 1 = 147 := ⟨rfl, rfl⟩
theorem xc49_147 : pmCode 49 147 = some (.iload_n 1) ∧ 147 + 1 = 148 := ⟨rfl, rfl⟩
theorem xc49_148 : pmCode 49 148 = some (.bipush 97) ∧ 148 + 2 = 150 := ⟨rfl, rfl⟩
theorem xc49_150 : pmCode 49 150 = some (.if_icmp .eq 9) ∧ ((150 : Nat) : Int) + 9 = ((159 : Nat) : Int) ∧ 150 + 3 = 153 := ⟨rfl, rfl, rfl⟩
theorem xc49_153 : pmCode 49 153 = some (.iload_n 1) ∧ 153 + 1 = 154 := ⟨rfl, rfl⟩
theorem xc49_154 : pmCode 49 154 = some (.bipush 114) ∧ 154 + 2 = 156 := ⟨rfl, rfl⟩
theorem xc49_156 : pmCode 49 156 = some (.if_icmp .ne 45) ∧ ((156 : Nat) : Int) + 45 = ((201 : Nat) : Int) ∧ 156 + 3 = 159 := ⟨rfl, rfl, rfl⟩
theorem xc49_159 : pmCode 49 159 = some (.aload_n 0) ∧ 159 + 1 = 160 := ⟨rfl, rfl⟩
theorem xc49_160 : pmCode 49 160 = some (.invokevirtual 75) ∧ 160 + 3 = 163 := ⟨rfl, rfl⟩
theorem xc49_163 : pmCode 49 163 = some (.ifCond .eq 10) ∧ ((163 : Nat) : Int) + 10 = ((173 : Nat) : Int) ∧ 163 + 3 = 166 := ⟨rfl, rfl, rfl⟩
theorem xc49_166 : pmCode 49 166 = some (.aload_n 0) ∧ 166 + 1 = 167 := ⟨rfl, rfl⟩
theorem xc49_167 : pmCode 49 167 = some (.invokevirtual 60) ∧ 167 + 3 = 170 := ⟨rfl, rfl⟩
theorem xc49_170 : pmCode 49 170 = some (.ifCond .ne 5) ∧ ((170 : Nat) : Int) + 5 = ((175 : Nat) : Int) ∧ 170 + 3 = 173 := ⟨rfl, rfl, rfl⟩
theorem xc49_173 : pmCode 49 173 = some (.iconst 0) ∧ 173 + 1 = 174 := ⟨rfl, rfl⟩
theorem xc49_174 : pmCode 49 174 = some .ireturn := rfl
theorem xc49_175 : pmCode 49 175 = some (.aload_n 0) ∧ 175 + 1 = 176 := ⟨rfl, rfl⟩
theorem xc49_176 : pmCode 49 176 = some (.getfield 15) ∧ 176 + 3 = 179 := ⟨rfl, rfl⟩
theorem xc49_179 : pmCode 49 179 = some (.getfield 78) ∧ 179 + 3 = 182 := ⟨rfl, rfl⟩
theorem xc49_182 : pmCode 49 182 = some (.iload_n 2) ∧ 182 + 1 = 183 := ⟨rfl, rfl⟩
theorem xc49_183 : pmCode 49 183 = some (.aload_n 0) ∧ 183 + 1 = 184 := ⟨rfl, rfl⟩
theorem xc49_184 : pmCode 49 184 = some (.getfield 66) ∧ 184 + 3 = 187 := ⟨rfl, rfl⟩
theorem xc49_187 : pmCode 49 187 = some .iastore ∧ 187 + 1 = 188 := ⟨rfl, rfl⟩
theorem xc49_188 : pmCode 49 188 = some (.aload_n 0) ∧ 188 + 1 = 189 := ⟨rfl, rfl⟩
theorem xc49_189 : pmCode 49 189 = some (.getfield 15) ∧ 189 + 3 = 192 := ⟨rfl, rfl⟩
theorem xc49_192 : pmCode 49 192 = some (.getfield 81) ∧ 192 + 3 = 195 := ⟨rfl, rfl⟩
theorem xc49_195 : pmCode 49 195 = some (.iload_n 2) ∧ 195 + 1 = 196 := ⟨rfl, rfl⟩
theorem xc49_196 : pmCode 49 196 = some (.aload_n 0) ∧ 196 + 1 = 197 := ⟨rfl, rfl⟩
theorem xc49_197 : pmCode 49 197 = some (.getfield 72) ∧ 197 + 3 = 200 := ⟨rfl, rfl⟩
theorem xc49_200 : pmCode 49 200 = some .iastore ∧ 200 + 1 = 201 := ⟨rfl, rfl⟩
theorem xc49_201 : pmCode 49 201 = some (.iload_n 1) ∧ 201 + 1 = 202 := ⟨rfl, rfl⟩
theorem xc49_202 : pmCode 49 202 = some (.bipush 110) ∧ 202 + 2 = 204 := ⟨rfl, rfl⟩
theorem xc49_204 : pmCode 49 204 = some (.if_icmp .eq 24) ∧ ((204 : Nat) : Int) + 24 = ((228 : Nat) : Int) ∧ 204 + 3 = 207 := ⟨rfl, rfl, rfl⟩
theorem xc49_207 : pmCode 49 207 = some (.iload_n 1) ∧ 207 + 1 = 208 := ⟨rfl, rfl⟩
theorem xc49_208 : pmCode 49 208 = some (.bipush 97) ∧ 208 + 2 = 210 := ⟨rfl, rfl⟩
theorem xc49_210 : pmCode 49 210 = some (.if_icmp .eq 18) ∧ ((210 : Nat) : Int) + 18 = ((228 : Nat) : Int) ∧ 210 + 3 = 213 := ⟨rfl, rfl, rfl⟩
theorem xc49_213 : pmCode 49 213 = some (.aload_n 0) ∧ 213 + 1 = 214 := ⟨rfl, rfl⟩
theorem xc49_214 : pmCode 49 214 = some (.invokevirtual 75) ∧ 214 + 3 = 217 := ⟨rfl, rfl⟩
theorem xc49_217 : pmCode 49 217 = some (.ifCond .eq 15) ∧ ((217 : Nat) : Int) + 15 = ((232 : Nat) : Int) ∧ 217 + 3 = 220 := ⟨rfl, rfl, rfl⟩
theorem xc49_220 : pmCode 49 220 = some (.aload_n 0) ∧ 220 + 1 = 221 := ⟨rfl, rfl⟩
theorem xc49_221 : pmCode 49 221 = some (.iload_n 2) ∧ 221 + 1 = 222 := ⟨rfl, rfl⟩
theorem xc49_222 : pmCode 49 222 = some (.invokevirtual 84) ∧ 222 + 3 = 225 := ⟨rfl, rfl⟩
theorem xc49_225 : pmCode 49 225 = some (.ifCond .eq 7) ∧ ((225 : Nat) : Int) + 7 = ((232 : Nat) : Int) ∧ 225 + 3 = 228 := ⟨rfl, rfl, rfl⟩
theorem xc49_228 : pmCode 49 228 = some (.iconst 1) ∧ 228 + 1 = 229 := ⟨rfl, rfl⟩
theorem xc49_229 : pmCode 49 229 = some (.goto 4) ∧ ((229 : Nat) : Int) + 4 = ((233 : Nat) : Int) := ⟨rfl, rfl⟩
theorem xc49_232 : pmCode 49 232 = some (.iconst 0) ∧ 232 + 1 = 233 := ⟨rfl, rfl⟩
theorem xc49_233 : pmCode 49 233 = some .ireturn := rfl
theorem xc50_0 : pmCode 50 0 = some (.aload_n 0) ∧ 0 + 1 = 1 := ⟨rfl, rfl⟩
theorem xc50_1 : pmCode 50 1 = some (.getfield 9) ∧ 1 + 3 = 4 := ⟨rfl, rfl⟩
theorem xc50_4 : pmCode 50 4 = some (.invokevirtual 47) ∧ 4 + 3 = 7 := ⟨rfl, rfl⟩
theorem xc50_7 : pmCode 50 7 = some (.invokestatic 97) ∧ 7 + 3 = 10 := ⟨rfl, rfl⟩
theorem xc50_10 : pmCode 50 10 = some (.istore_n 1) ∧ 10 + 1 = 11 := ⟨rfl, rfl⟩
theorem xc50_11 : pmCode 50 11 = some (.iload_n 1) ∧ 11 + 1 = 12 := ⟨rfl, rfl⟩
theorem xc50_12 : pmCode 50 12 = some (.iconst (-1)) ∧ 12 + 1 = 13 := ⟨rfl, rfl⟩
theorem xc50_13 : pmCode 50 13 = some (.if_icmp .ne 12) ∧ ((13 : Nat) : Int) + 12 = ((25 : Nat) : Int) ∧ 13 + 3 = 16 := ⟨rfl, rfl, rfl⟩
theorem xc50_16 : pmCode 50 16 = some (.aload_n 0) ∧ 16 + 1 = 17 := ⟨rfl, rfl⟩
theorem xc50_17 : pmCode 50 17 = some (.getfield 9) ∧ 17 + 3 = 20 := ⟨rfl, rfl⟩
theorem xc50_20 : pmCode 50 20 = some (.iconst 1) ∧ 20 + 1 = 21 := ⟨rfl, rfl⟩
theorem xc50_21 : pmCode 50 21 = some (.invokevirtual 40) ∧ 21 + 3 = 24 := ⟨rfl, rfl⟩
theorem xc50_24 : pmCode 50 24 = some .ireturn := rfl
theorem xc50_25 : pmCode 50 25 = some (.aload_n 0) ∧ 25 + 1 = 26 := ⟨rfl, rfl⟩
theorem xc50_26 : pmCode 50 26 = some (.getfield 9) ∧ 26 + 3 = 29 := ⟨rfl, rfl⟩
theorem xc50_29 : pmCode 50 29 = some .dup ∧ 29 + 1 = 30 := ⟨rfl, rfl⟩
theorem xc50_30 : pmCode 50 30 = some (.getfield 33) ∧ 30 + 3 = 33 := ⟨rfl, rfl⟩
theorem xc50_33 : pmCode 50 33 = some (.iconst 1) ∧ 33 + 1 = 34 := ⟨rfl, rfl⟩
theorem xc50_34 : pmCode 50 34 = some .iadd ∧ 34 + 1 = 35 := ⟨rfl, rfl⟩
theorem xc50_35 : pmCode 50 35 = some (.putfield 33) ∧ 35 + 3 = 38 := ⟨rfl, rfl⟩
theorem xc50_38 : pmCode 50 38 = some (.aload_n 0) ∧ 38 + 1 = 39 := ⟨rfl, rfl⟩
theorem xc50_39 : pmCode 50 39 = some (.bipush 7) ∧ 39 + 2 = 41 := ⟨rfl, rfl⟩
theorem xc50_41 : pmCode 50 41 = some (.putfield 66) ∧ 41 + 3 = 44 := ⟨rfl, rfl⟩
theorem xc50_44 : pmCode 50 44 = some (.aload_n 0) ∧ 44 + 1 = 45 := ⟨rfl, rfl⟩
theorem xc50_45 : pmCode 50 45 = some (.iload_n 1) ∧ 45 + 1 = 46 := ⟨rfl, rfl⟩
theorem xc50_46 : pmCode 50 46 = some (.putfield 72) ∧ 46 + 3 = 49 := ⟨rfl, rfl⟩
theorem xc50_49 : pmCode 50 49 = some (.aload_n 0) ∧ 49 + 1 = 50 := ⟨rfl, rfl⟩
theorem xc50_50 : pmCode 50 50 = some (.iconst 3) ∧ 50 + 1 = 51 := ⟨rfl, rfl⟩
theorem xc50_51 : pmCode 50 51 = some (.iconst 0) ∧ 51 + 1 = 52 := ⟨rfl, rfl⟩
theorem xc50_52 : pmCode 50 52 = some (.invokevirtual 100) ∧ 52 + 3 = 55 := ⟨rfl, rfl⟩
theorem xc50_55 : pmCode 50 55 = some (.ifCond .eq 23) ∧ ((55 : Nat) : Int) + 23 = ((78 : Nat) : Int) ∧ 55 + 3 = 58 := ⟨rfl, rfl, rfl⟩
theorem xc50_58 : pmCode 50 58 = some (.aload_n 0) ∧ 58 + 1 = 59 := ⟨rfl, rfl⟩
theorem xc50_59 : pmCode 50 59 = some (.bipush 6) ∧ 59 + 2 = 61 := ⟨rfl, rfl⟩
theorem xc50_61 : pmCode 50 61 = some (.iconst 1) ∧ 61 + 1 = 62 := ⟨rfl, rfl⟩
theorem xc50_62 : pmCode 50 62 = some (.invokevirtual 100) ∧ 62 + 3 = 65 := ⟨rfl, rfl⟩
theorem xc50_65 : pmCode 50 65 = some (.ifCond .eq 13) ∧ ((65 : Nat) : Int) + 13 = ((78 : Nat) : Int) ∧ 65 + 3 = 68 := ⟨rfl, rfl, rfl⟩
theorem xc50_68 : pmCode 50 68 = some (.aload_n 0) ∧ 68 + 1 = 69 := ⟨rfl, rfl⟩
theorem xc50_69 : pmCode 50 69 = some (.bipush 9) ∧ 69 + 2 = 71 := ⟨rfl, rfl⟩
theorem xc50_71 : pmCode 50 71 = some (.iconst 1) ∧ 71 + 1 = 72 := ⟨rfl, rfl⟩
theorem xc50_72 : pmCode 50 72 = some (.invokevirtual 100) ∧ 72 + 3 = 75 := ⟨rfl, rfl⟩
theorem xc50_75 : pmCode 50 75 = some (.ifCond .ne 5) ∧ ((75 : Nat) : Int) + 5 = ((80 : Nat) : Int) ∧ 75 + 3 = 78 := ⟨rfl, rfl, rfl⟩
theorem xc50_78 : pmCode 50 78 = some (.iconst 0) ∧ 78 + 1 = 79 := ⟨rfl, rfl⟩
theorem xc50_79 : pmCode 50 79 = some .ireturn := rfl
theorem xc50_80 : pmCode 50 80 = some (.aload_n 0) ∧ 80 + 1 = 81 := ⟨rfl, rfl⟩
theorem xc50_81 : pmCode 50 81 = some (.getfield 9) ∧ 81 + 3 = 84 := ⟨rfl, rfl⟩
theorem xc50_84 : pmCode 50 84 = some (.bipush 117) ∧ 84 + 2 = 86 := ⟨rfl, rfl⟩
theorem xc50_86 : pmCode 50 86 = some (.invokevirtual 36) ∧ 86 + 3 = 89 := ⟨rfl, rfl⟩
theorem xc50_89 : pmCode 50 89 = some (.ifCond .eq 27) ∧ ((89 : Nat) : Int) + 27 = ((116 : Nat) : Int) ∧ 89 + 3 = 92 := ⟨rfl, rfl, rfl⟩
theorem xc50_92 : pmCode 50 92 = some (.aload_n 0) ∧ 92 + 1 = 93 := ⟨rfl, rfl⟩
theorem xc50_93 : pmCode 50 93 = some .dup ∧ 93 + 1 = 94 := ⟨rfl, rfl⟩
theorem xc50_94 : pmCode 50 94 = some (.getfield 66) ∧ 94 + 3 = 97 := ⟨rfl, rfl⟩
theorem xc50_97 : pmCode 50 97 = some (.sipush 4096) ∧ 97 + 3 = 100 := ⟨rfl, rfl⟩
theorem xc50_100 : pmCode 50 100 = some .ior ∧ 100 + 1 = 101 := ⟨rfl, rfl⟩
theorem xc50_101 : pmCode 50 101 = some (.putfield 66) ∧ 101 + 3 = 104 := ⟨rfl, rfl⟩
theorem xc50_104 : pmCode 50 104 = some (.aload_n 0) ∧ 104 + 1 = 105 := ⟨rfl, rfl⟩
theorem xc50_105 : pmCode 50 105 = some .dup ∧ 105 + 1 = 106 := ⟨rfl, rfl⟩
theorem xc50_106 : pmCode 50 106 = some (.getfield 72) ∧ 106 + 3 = 109 := ⟨rfl, rfl⟩
theorem xc50_109 : pmCode 50 109 = some (.sipush 4096) ∧ 109 + 3 = 112 := ⟨rfl, rfl⟩
theorem xc50_112 : pmCode 50 112 = some .ior ∧ 112 + 1 = 113 := ⟨rfl, rfl⟩
theorem xc50_113 : pmCode 50 113 = some (.putfield 72) ∧ 113 + 3 = 116 := ⟨rfl, rfl⟩
theorem xc50_116 : pmCode 50 116 = some (.iconst 1) ∧ 116 + 1 = 117 := ⟨rfl, rfl⟩
theorem xc50_117 : pmCode 50 117 = some .ireturn := rfl
theorem xc51_0 : pmCode 51 0 = some (.iload_n 0) ∧ 0 + 1 = 1 := ⟨rfl, rfl⟩
theorem xc51_1 : pmCode 51 1 = some (.tableswitch 104 100 118 #[95, 104, 104, 91, 99, 104, 104, 104, 101, 104, 104, 104, 104, 104, 104, 104, 93, 104, 97]) ∧ ((1 : Nat) : Int) + 104 = ((105 : Nat) : Int) := ⟨rfl, rfl⟩
theorem xc51_92 : pmCode 51 92 = some (.iconst 1) ∧ 92 + 1 = 93 := ⟨rfl, rfl⟩
theorem xc51_93 : pmCode 51 93 = some .ireturn := rfl
theorem xc51_94 : pmCode 51 94 = some (.iconst 2) ∧ 94 + 1 = 95 := ⟨rfl, rfl⟩
theorem xc51_95 : pmCode 51 95 = some .ireturn := rfl
theorem xc51_96 : pmCode 51 96 = some (.iconst 3) ∧ 96 + 1 = 97 := ⟨rfl, rfl⟩
theorem xc51_97 : pmCode 51 97 = some .ireturn := rfl
theorem xc51_98 : pmCode 51 98 = some (.iconst 4) ∧ 98 + 1 = 99 := ⟨rfl, rfl⟩
theorem xc51_99 : pmCode 51 99 = some .ireturn := rfl
theorem xc51_100 : pmCode 51 100 = some (.iconst 5) ∧ 100 + 1 = 101 := ⟨rfl, rfl⟩
theorem xc51_101 : pmCode 51 101 = some .ireturn := rfl
theorem xc51_102 : pmCode 51 102 = some (.bipush 6) ∧ 102 + 2 = 104 := ⟨rfl, rfl⟩
theorem xc51_104 : pmCode 51 104 = some .ireturn := rfl
theorem xc51_105 : pmCode 51 105 = some (.iconst (-1)) ∧ 105 + 1 = 106 := ⟨rfl, rfl⟩
theorem xc51_106 : pmCode 51 106 = some .ireturn := rfl
theorem xc52_0 : pmCode 52 0 = some (.aload_n 0) ∧ 0 + 1 = 1 := ⟨rfl, rfl⟩
theorem xc52_1 : pmCode 52 1 = some (.getfield 9) ∧ 1 + 3 = 4 := ⟨rfl, rfl⟩
theorem xc52_4 : pmCode 52 4 = some (.bipush 46) ∧ 4 + 2 = 6 := ⟨rfl, rfl⟩
theorem xc52_6 : pmCode 52 6 = some (.invokevirtual 36) ∧ 6 + 3 = 9 := ⟨rfl, rfl⟩
theorem xc52_9 : pmCode 52 9 = some (.ifCond .eq 5) ∧ ((9 : Nat) : Int) + 5 = ((14 : Nat) : Int) ∧ 9 + 3 = 12 := ⟨rfl, rfl, rfl⟩
theorem xc52_12 : pmCode 52 12 = some (.iconst 1) ∧ 12 + 1 = 13 := ⟨rfl, rfl⟩
theorem xc52_13 : pmCode 52 13 = some .ireturn := rfl
theorem xc52_14 : pmCode 52 14 = some (.aload_n 0) ∧ 14 + 1 = 15 := ⟨rfl, rfl⟩
theorem xc52_15 : pmCode 52 15 = some (.getfield 9) ∧ 15 + 3 = 18 := ⟨rfl, rfl⟩
theorem xc52_18 : pmCode 52 18 = some (.bipush 6) ∧ 18 + 2 = 20 := ⟨rfl, rfl⟩
theorem xc52_20 : pmCode 52 20 = some (.invokevirtual 87) ∧ 20 + 3 = 23 := ⟨rfl, rfl⟩
theorem xc52_23 : pmCode 52 23 = some (.istore_n 3) ∧ 23 + 1 = 24 := ⟨rfl, rfl⟩
theorem xc52_24 : pmCode 52 24 = some (.iload_n 3) ∧ 24 + 1 = 25 := ⟨rfl, rfl⟩
theorem xc52_25 : pmCode 52 25 = some (.iconst (-1)) ∧ 25 + 1 = 26 := ⟨rfl, rfl⟩
theorem xc52_26 : pmCode 52 26 = some (.if_icmp .ne 5) ∧ ((26 : Nat) : Int) + 5 = ((31 : Nat) : Int) ∧ 26 + 3 = 29 := ⟨rfl, rfl, rfl⟩
theorem xc52_29 : pmCode 52 29 = some (.iconst 0) ∧ 29 + 1 = 30 := ⟨rfl, rfl⟩
theorem xc52_30 : pmCode 52 30 = some .ireturn := rfl
theorem xc52_31 : pmCode 52 31 = some (.aload_n 0) ∧ 31 + 1 = 32 := ⟨rfl, rfl⟩
theorem xc52_32 : pmCode 52 32 = some .dup ∧ 32 + 1 = 33 := ⟨rfl, rfl⟩
theorem xc52_33 : pmCode 52 33 = some (.getfield 66) ∧ 33 + 3 = 36 := ⟨rfl, rfl⟩
theorem xc52_36 : pmCode 52 36 = some (.bipush 7) ∧ 36 + 2 = 38 := ⟨rfl, rfl⟩
theorem xc52_38 : pmCode 52 38 = some (.iload_n 1) ∧ 38 + 1 = 39 := ⟨rfl, rfl⟩
theorem xc52_39 : pmCode 52 39 = some .ishl ∧ 39 + 1 = 40 := ⟨rfl, rfl⟩
theorem xc52_40 : pmCode 52 40 = some .ior ∧ 40 + 1 = 41 := ⟨rfl, rfl⟩
theorem xc52_41 : pmCode 52 41 = some (.putfield 66) ∧ 41 + 3 = 44 := ⟨rfl, rfl⟩
theorem xc52_44 : pmCode 52 44 = some (.aload_n 0) ∧ 44 + 1 = 45 := ⟨rfl, rfl⟩
theorem xc52_45 : pmCode 52 45 = some .dup ∧ 45 + 1 = 46 := ⟨rfl, rfl⟩
theorem xc52_46 : pmCode 52 46 = some (.getfield 72) ∧ 46 + 3 = 49 := ⟨rfl, rfl⟩
theorem xc52_49 : pmCode 52 49 = some (.iload_n 3) ∧ 49 + 1 = 50 := ⟨rfl, rfl⟩
theorem xc52_50 : pmCode 52 50 = some (.iload_n 2) ∧ 50 + 1 = 51 := ⟨rfl, rfl⟩
theorem xc52_51 : pmCode 52 51 = some .iadd ∧ 51 + 1 = 52 := ⟨rfl, rfl⟩
theorem xc52_52 : pmCode 52 52 = some (.iload_n 1) ∧ 52 + 1 = 53 := ⟨rfl, rfl⟩
theorem xc52_53 : pmCode 52 53 = some .ishl ∧ 53 + 1 = 54 := ⟨rfl, rfl⟩
theorem xc52_54 : pmCode 52 54 = some .ior ∧ 54 + 1 = 55 := ⟨rfl, rfl⟩
theorem xc52_55 : pmCode 52 55 = some (.putfield 72) ∧ 55 + 3 = 58 := ⟨rfl, rfl⟩
theorem xc52_58 : pmCode 52 58 = some (.iconst 1) ∧ 58 + 1 = 59 := ⟨rfl, rfl⟩
theorem xc52_59 : pmCode 52 59 = some .ireturn := rfl
theorem xc53_0 : pmCode 53 0 = some (.aload_n 0) ∧ 0 + 1 = 1 := ⟨rfl, rfl⟩
theorem xc53_1 : pmCode 53 1 = some (.getfield 9) ∧ 1 + 3 = 4 := ⟨rfl, rfl⟩
theorem xc53_4 : pmCode 53 4 = some (.bipush 44) ∧ 4 + 2 = 6 := ⟨rfl, rfl⟩
theorem xc53_6 : pmCode 53 6 = some (.invokevirtual 36) ∧ 6 + 3 = 9 := ⟨rfl, rfl⟩
theorem xc53_9 : pmCode 53 9 = some (.ifCond .ne 14) ∧ ((9 : Nat) : Int) + 14 = ((23 : Nat) : Int) ∧ 9 + 3 = 12 := ⟨rfl, rfl, rfl⟩
theorem xc53_12 : pmCode 53 12 = some (.aload_n 0) ∧ 12 + 1 = 13 := ⟨rfl, rfl⟩
theorem xc53_13 : pmCode 53 13 = some (.getfield 9) ∧ 13 + 3 = 16 := ⟨rfl, rfl⟩
theorem xc53_16 : pmCode 53 16 = some (.iconst 1) ∧ 16 + 1 = 17 := ⟨rfl, rfl⟩
theorem xc53_17 : pmCode 53 17 = some (.invokevirtual 40) ∧ 17 + 3 = 20 := ⟨rfl, rfl⟩
theorem xc53_20 : pmCode 53 20 = some (.ifCond .eq 7) ∧ ((20 : Nat) : Int) + 7 = ((27 : Nat) : Int) ∧ 20 + 3 = 23 := ⟨rfl, rfl, rfl⟩
theorem xc53_23 : pmCode 53 23 = some (.iconst 1) ∧ 23 + 1 = 24 := ⟨rfl, rfl⟩
theorem xc53_24 : pmCode 53 24 = some (.goto 4) ∧ ((24 : Nat) : Int) + 4 = ((28 : Nat) : Int) := ⟨rfl, rfl⟩
theorem xc53_27 : pmCode 53 27 = some (.iconst 0) ∧ 27 + 1 = 28 := ⟨rfl, rfl⟩
theorem xc53_28 : pmCode 53 28 = some .ireturn := rfl
theorem xc54_0 : pmCode 54 0 = some (.aload_n 0) ∧ 0 + 1 = 1 := ⟨rfl, rfl⟩
theorem xc54_1 : pmCode 54 1 = some (.getfield 9) ∧ 1 + 3 = 4 := ⟨rfl, rfl⟩
theorem xc54_4 : pmCode 54 4 = some (.bipush 9) ∧ 4 + 2 = 6 := ⟨rfl, rfl⟩
theorem xc54_6 : pmCode 54 6 = some (.invokevirtual 87) ∧ 6 + 3 = 9 := ⟨rfl, rfl⟩
theorem xc54_9 : pmCode 54 9 = some (.istore_n 2) ∧ 9 + 1 = 10 := ⟨rfl, rfl⟩
theorem xc54_10 : pmCode 54 10 = some (.iload_n 2) ∧ 10 + 1 = 11 := ⟨rfl, rfl⟩
theorem xc54_11 : pmCode 54 11 = some (.iconst (-1)) ∧ 11 + 1 = 12 := ⟨rfl, rfl⟩
theorem xc54_12 : pmCode 54 12 = some (.if_icmp .ne 5) ∧ ((12 : Nat) : Int) + 5 = ((17 : Nat) : Int) ∧ 12 + 3 = 15 := ⟨rfl, rfl, rfl⟩
theorem xc54_15 : pmCode 54 15 = some (.iconst 0) ∧ 15 + 1 = 16 := ⟨rfl, rfl⟩
theorem xc54_16 : pmCode 54 16 = some .ireturn := rfl
theorem xc54_17 : pmCode 54 17 = some (.aload_n 0) ∧ 17 + 1 = 18 := ⟨rfl, rfl⟩
theorem xc54_18 : pmCode 54 18 = some (.getfield 9) ∧ 18 + 3 = 21 := ⟨rfl, rfl⟩
theorem xc54_21 : pmCode 54 21 = some (.invokevirtual 91) ∧ 21 + 3 = 24 := ⟨rfl, rfl⟩
theorem xc54_24 : pmCode 54 24 = some (.ifCond .eq 18) ∧ ((24 : Nat) : Int) + 18 = ((42 : Nat) : Int) ∧ 24 + 3 = 27 := ⟨rfl, rfl, rfl⟩
theorem xc54_27 : pmCode 54 27 = some (.bipush 10) ∧ 27 + 2 = 29 := ⟨rfl, rfl⟩
theorem xc54_29 : pmCode 54 29 = some (.iload_n 2) ∧ 29 + 1 = 30 := ⟨rfl, rfl⟩
theorem xc54_30 : pmCode 54 30 = some .imul ∧ 30 + 1 = 31 := ⟨rfl, rfl⟩
theorem xc54_31 : pmCode 54 31 = some (.aload_n 0) ∧ 31 + 1 = 32 := ⟨rfl, rfl⟩
theorem xc54_32 : pmCode 54 32 = some (.getfield 9) ∧ 32 + 3 = 35 := ⟨rfl, rfl⟩
theorem xc54_35 : pmCode 54 35 = some (.bipush 9) ∧ 35 + 2 = 37 := ⟨rfl, rfl⟩
theorem xc54_37 : pmCode 54 37 = some (.invokevirtual 87) ∧ 37 + 3 = 40 := ⟨rfl, rfl⟩
theorem xc54_40 : pmCode 54 40 = some .iadd ∧ 40 + 1 = 41 := ⟨rfl, rfl⟩
theorem xc54_41 : pmCode 54 41 = some (.istore_n 2) ∧ 41 + 1 = 42 := ⟨rfl, rfl⟩
theorem xc54_42 : pmCode 54 42 = some (.aload_n 0) ∧ 42 + 1 = 43 := ⟨rfl, rfl⟩
theorem xc54_43 : pmCode 54 43 = some (.getfield 9) ∧ 43 + 3 = 46 := ⟨rfl, rfl⟩
theorem xc54_46 : pmCode 54 46 = some (.invokevirtual 91) ∧ 46 + 3 = 49 := ⟨rfl, rfl⟩
theorem xc54_49 : pmCode 54 49 = some (.ifCond .eq 12) ∧ ((49 : Nat) : Int) + 12 = ((61 : Nat) : Int) ∧ 49 + 3 = 52 := ⟨rfl, rfl, rfl⟩
theorem xc54_52 : pmCode 54 52 = some (.aload_n 0) ∧ 52 + 1 = 53 := ⟨rfl, rfl⟩
theorem xc54_53 : pmCode 54 53 = some (.getfield 9) ∧ 53 + 3 = 56 := ⟨rfl, rfl⟩
theorem xc54_56 : pmCode 54 56 = some (.iconst 2) ∧ 56 + 1 = 57 := ⟨rfl, rfl⟩
theorem xc54_57 : pmCode 54 57 = some (.invokevirtual 40) ∧ 57 + 3 = 60 := ⟨rfl, rfl⟩
theorem xc54_60 : pmCode 54 60 = some .ireturn := rfl
theorem xc54_61 : pmCode 54 61 = some (.aload_n 0) ∧ 61 + 1 = 62 := ⟨rfl, rfl⟩
theorem xc54_62 : pmCode 54 62 = some (.getfield 15) ∧ 62 + 3 = 65 := ⟨rfl, rfl⟩
theorem xc54_65 : pmCode 54 65 = some (.getfield 94) ∧ 65 + 3 = 68 := ⟨rfl, rfl⟩
theorem xc54_68 : pmCode 54 68 = some (.iload_n 1) ∧ 68 + 1 = 69 := ⟨rfl, rfl⟩
theorem xc54_69 : pmCode 54 69 = some (.iload_n 2) ∧ 69 + 1 = 70 := ⟨rfl, rfl⟩
theorem xc54_70 : pmCode 54 70 = some .iastore ∧ 70 + 1 = 71 := ⟨rfl, rfl⟩
theorem xc54_71 : pmCode 54 71 = some (.iconst 1) ∧ 71 + 1 = 72 := ⟨rfl, rfl⟩
theorem xc54_72 : pmCode 54 72 = some .ireturn := rfl
theorem xc55_0 : pmCode 55 0 = some (.aload_n 0) ∧ 0 + 1 = 1 := ⟨rfl, rfl⟩
theorem xc55_1 : pmCode 55 1 = some (.invokevirtual 34) ∧ 1 + 3 = 4 := ⟨rfl, rfl⟩
theorem xc55_4 : pmCode 55 4 = some (.bipush 48) ∧ 4 + 2 = 6 := ⟨rfl, rfl⟩
theorem xc55_6 : pmCode 55 6 = some (.if_icmp .lt 16) ∧ ((6 : Nat) : Int) + 16 = ((22 : Nat) : Int) ∧ 6 + 3 = 9 := ⟨rfl, rfl, rfl⟩
theorem xc55_9 : pmCode 55 9 = some (.aload_n 0) ∧ 9 + 1 = 10 := ⟨rfl, rfl⟩
theorem xc55_10 : pmCode 55 10 = some (.invokevirtual 34) ∧ 10 + 3 = 13 := ⟨rfl, rfl⟩
theorem xc55_13 : pmCode 55 13 = some (.bipush 57) ∧ 13 + 2 = 15 := ⟨rfl, rfl⟩
theorem xc55_15 : pmCode 55 15 = some (.if_icmp .gt 7) ∧ ((15 : Nat) : Int) + 7 = ((22 : Nat) : Int) ∧ 15 + 3 = 18 := ⟨rfl, rfl, rfl⟩
theorem xc55_18 : pmCode 55 18 = some (.iconst 1) ∧ 18 + 1 = 19 := ⟨rfl, rfl⟩
theorem xc55_19 : pmCode 55 19 = some (.goto 4) ∧ ((19 : Nat) : Int) + 4 = ((23 : Nat) : Int) := ⟨rfl, rfl⟩
theorem xc55_22 : pmCode 55 22 = some (.iconst 0) ∧ 22 + 1 = 23 := ⟨rfl, rfl⟩
theorem xc55_23 : pmCode 55 23 = some .ireturn := rfl
theorem xc56_0 : pmCode 56 0 = some (.aload_n 0) ∧ 0 + 1 = 1 := ⟨rfl, rfl⟩
theorem xc56_1 : pmCode 56 1 = some (.getfield 33) ∧ 1 + 3 = 4 := ⟨rfl, rfl⟩
theorem xc56_4 : pmCode 56 4 = some (.bipush 6) ∧ 4 + 2 = 6 := ⟨rfl, rfl⟩
theorem xc56_6 : pmCode 56 6 = some (.if_icmp .lt 5) ∧ ((6 : Nat) : Int) + 5 = ((11 : Nat) : Int) ∧ 6 + 3 = 9 := ⟨rfl, rfl, rfl⟩
theorem xc56_9 : pmCode 56 9 = some (.iconst (-1)) ∧ 9 + 1 = 10 := ⟨rfl, rfl⟩
theorem xc56_10 : pmCode 56 10 = some .ireturn := rfl
theorem xc56_11 : pmCode 56 11 = some (.aload_n 0) ∧ 11 + 1 = 12 := ⟨rfl, rfl⟩
theorem xc56_12 : pmCode 56 12 = some (.getfield 30) ∧ 12 + 3 = 15 := ⟨rfl, rfl⟩
theorem xc56_15 : pmCode 56 15 = some (.aload_n 0) ∧ 15 + 1 = 16 := ⟨rfl, rfl⟩
theorem xc56_16 : pmCode 56 16 = some (.getfield 33) ∧ 16 + 3 = 19 := ⟨rfl, rfl⟩
theorem xc56_19 : pmCode 56 19 = some (.iload_n 1) ∧ 19 + 1 = 20 := ⟨rfl, rfl⟩
theorem xc56_20 : pmCode 56 20 = some .iastore ∧ 20 + 1 = 21 := ⟨rfl, rfl⟩
theorem xc56_21 : pmCode 56 21 = some (.aload_n 0) ∧ 21 + 1 = 22 := ⟨rfl, rfl⟩
theorem xc56_22 : pmCode 56 22 = some .dup ∧ 22 + 1 = 23 := ⟨rfl, rfl⟩
theorem xc56_23 : pmCode 56 23 = some (.getfield 33) ∧ 23 + 3 = 26 := ⟨rfl, rfl⟩
theorem xc56_26 : pmCode 56 26 = some (.iconst 1) ∧ 26 + 1 = 27 := ⟨rfl, rfl⟩
theorem xc56_27 : pmCode 56 27 = some .iadd ∧ 27 + 1 = 28 := ⟨rfl, rfl⟩
theorem xc56_28 : pmCode 56 28 = some (.putfield 33) ∧ 28 + 3 = 31 := ⟨rfl, rfl⟩
theorem xc56_31 : pmCode 56 31 = some (.aload_n 0) ∧ 31 + 1 = 32 := ⟨rfl, rfl⟩
theorem xc56_32 : pmCode 56 32 = some (.getfield 33) ∧ 32 + 3 = 35 := ⟨rfl, rfl⟩
theorem xc56_35 : pmCode 56 35 = some (.iconst 1) ∧ 35 + 1 = 36 := ⟨rfl, rfl⟩
theorem xc56_36 : pmCode 56 36 = some .isub ∧ 36 + 1 = 37 := ⟨rfl, rfl⟩
theorem xc56_37 : pmCode 56 37 = some .ireturn := rfl
/-- what stands at p, of n -/
def sG (t : Int → Int) (n p : Int) : Int := if p < n then t p else -1
theorem xUrow {β : Type} {f : Nat → Int → β} {w : β} {p q : Nat} {k : Int} (h : q ≠ p) : xU f p k w q = f q := funext fun j => xUn h
/-- the class's text: its bytes, its end, the place -/
def tC (a : xA) (t : Int → Int) (n p : Int) : Prop := (∀ j, 0 ≤ j → j < n → a 2 j = t j) ∧ a 1 2 = n ∧ a 1 3 = p
section
variable {a a1 : xA} {t : Int → Int} {n p v k : Int} {q : Nat}
theorem tC.at (h : tC a t n p) : tC (xU a 1 3 v) t n v := ⟨fun j h0 h1 => by rw [xUn (by decide)]; exact h.1 j h0 h1, by rw [xUk (by decide)]; exact h.2.1, xUa⟩
theorem tC.fl (h : tC a t n p) : tC (xU a 1 4 v) t n p := ⟨fun j h0 h1 => by rw [xUn (by decide)]; exact h.1 j h0 h1, by rw [xUk (by decide)]; exact h.2.1, by rw [xUk (by decide)]; exact h.2.2⟩
theorem tC.ot (h1 : 1 ≠ q) (h2 : 2 ≠ q) (h : tC a t n p) : tC (xU a q k v) t n p := ⟨fun j g0 g1 => by rw [xUn h2]; exact h.1 j g0 g1, by rw [xUn h1]; exact h.2.1, by rw [xUn h1]; exact h.2.2⟩
/-- bytes -/
def tB (t : Int → Int) : Prop := ∀ j, 0 ≤ j → 0 ≤ t j ∧ t j ≤ 255
theorem sGB (h : tB t) (hp : 0 ≤ p) : -1 ≤ sG t n p ∧ sG t n p ≤ 255 := by
  unfold sG
  split
  · have := h p hp
    omega
  · omega
theorem sGd : sG t n p = -1 ∨ p < n := by
  unfold sG
  split
  · exact Or.inr (by assumption)
  · exact Or.inl rfl
theorem sGn (h : ¬ sG t n p = -1) : p < n := by
  unfold sG at h
  split at h
  · assumption
  · exact absurd rfl h
/-- what a law's reading leaves as it was -/
def kL (a a1 : xA) : Prop := xAr a1 ∧ a1 33 2 = a 33 2 ∧ a1 13 7 = a 13 7
theorem kL.r (h : xAr a) : kL a a := ⟨h, rfl, rfl⟩
theorem kL.u (hv : xR v) (h1 : ¬ (33 = q ∧ 2 = k)) (h2 : ¬ (13 = q ∧ 7 = k)) (h : kL a a1) : kL a (xU a1 q k v) := ⟨xAr_u h.1 hv, by
  rw [← h.2.1]
  exact if_neg h1, by
  rw [← h.2.2]
  exact if_neg h2⟩
theorem kL.tr {a2 : xA} (h1 : kL a a1) (h2 : kL a1 a2) : kL a a2 := ⟨h2.1, h2.2.1.trans h1.2.1, h2.2.2.trans h1.2.2⟩
end
/-! what a text is read as: a fault (0: none), the place behind -/
def rDig (t : Int → Int) (n g p : Int) : Int × Int := if sG t n p < 48 ∨ 57 < sG t n p then (-1000 - p, p) else if g < sG t n p - 48 then (-3000 - p, p) else (0, p + 1)
def rSig (t : Int → Int) (n p : Int) : Int × Int := if sG t n p = 46 then (0, p + 1) else rDig t n 6 p
def rKd (c : Int) : Int := if c = 103 then 1 else if c = 116 then 2 else if c = 100 then 3 else if c = 118 then 4 else if c = 104 then 5 else if c = 108 then 6 else -1
def rSeq (q : Int × Int) (f : Int → Int × Int) : Int × Int := if q.1 = 0 then f q.2 else q
def rEv (t : Int → Int) (n p : Int) : Int × Int := if rKd (sG t n p) = -1 then (-1000 - p, p) else rSeq (rSig t n (p + 1)) fun p => rSeq (rSig t n p) fun p => rSeq (rSig t n p) fun p => if sG t n p = 117 then (0, p + 1) else (0, p)
def rCom (t : Int → Int) (n c p : Int) : Int × Int := if sG t n p = c then (0, p + 1) else (-1000 - p, p)
def rNum (t : Int → Int) (n p : Int) : Int × Int := if sG t n p < 48 ∨ 57 < sG t n p then (-1000 - p, p) else if sG t n (p + 1) < 48 ∨ 57 < sG t n (p + 1) then (0, p + 1) else if sG t n (p + 1 + 1) < 48 ∨ 57 < sG t n (p + 1 + 1) then (0, p + 1 + 1) else (-2000 - (p + 1 + 1), p + 1 + 1)
def rCl (t : Int → Int) (n p many : Int) : Int × Int := if ¬ (sG t n p = 110 ∨ sG t n p = 97 ∨ sG t n p = 114 ∨ sG t n p = 101) then (-1000 - p, p) else if 4 ≤ many then (-4000 - p, p) else rSeq (rEv t n (p + 1)) fun p1 => rSeq (if sG t n p = 97 ∨ sG t n p = 114 then rSeq (rCom t n 44 p1) (rEv t n) else (0, p1)) fun p2 => if sG t n p = 114 ∨ sG t n p = 101 then rSeq (rCom t n 44 p2) (rNum t n) else (0, p2)
/-- a law: the fault, how many clauses -/
def rLw (t : Int → Int) (n : Int) : Nat → Int → Int → Int × Int
  | 0, many, _ => (0, many)
  | k + 1, many, p => if (rCl t n p many).1 = 0 then (if n ≤ (rCl t n p many).2 then (0, many + 1) else if sG t n (rCl t n p many).2 = 59 then rLw t n k (many + 1) ((rCl t n p many).2 + 1) else (-1000 - (rCl t n p many).2, many + 1)) else ((rCl t n p many).1, many)
theorem rSeq_0 {q : Int × Int} {f : Int → Int × Int} {p : Int} (h : q = (0, p)) : rSeq q f = f p := by
  rw [h]
  rfl
theorem rSeq_00 {f : Int → Int × Int} {p : Int} : rSeq (0, p) f = f p := rfl
theorem rFst {q : Int × Int} {e p : Int} (h : q = (e, p)) : q.1 = e := by rw [h]
theorem rSeq_as {q : Int × Int} {f g : Int → Int × Int} : rSeq (rSeq q f) g = rSeq q fun p => rSeq (f p) g := by
  unfold rSeq
  by_cases h : q.1 = 0
  · rw [if_pos h, if_pos h]
  · rw [if_neg h, if_neg h, if_neg h]
theorem rSeq_n {q : Int × Int} {f : Int → Int × Int} {p e : Int} (h : q = (e, p)) (he : e < 0) : rSeq q f = (e, p) := by
  rw [h]
  exact if_neg (by omega)

theorem xg37 {ro : Nat → Nat × (Nat → Int32)} {d : Nat} {Q : Option Value → pmS → Prop} {a : xA} {b : xB} (h : pmWp ro d 6 37 1 0 [some (.ref 1)] [] (xS a b) Q) : pmCs ro (d + 1) 37 [.ref 1] (xS a b) Q := x_go xi37 rfl rfl rfl rfl rfl h
theorem w37 {ro : Nat → Nat × (Nat → Int32)} {d : Nat} {Q : Option Value → pmS → Prop} {a : xA} {b : xB} {t : Int → Int} {n p : Int} (hC : tC a t n p) (hp : 0 ≤ p) (hn : n ≤ 400) (hA : xAr a) (hg1 : -2147483648 ≤ p ∧ p ≤ 2147483647) (hg2 : -2147483648 ≤ n ∧ n ≤ 2147483647)
    (k1 : (p < 0) → Q (some (xV (-1))) (xS a b))
    (k2 : (¬ p < 0) → (n ≤ p) → Q (some (xV (-1))) (xS a b))
    (k3 : (¬ p < 0) → (¬ n ≤ p) → Q (some (xV (a 2 p))) (xS a b)) :
    pmWp ro d 6 37 1 0 [some (.ref 1)] [] (xS a b) Q := by
  refine x_aloadn xc37_0 rfl ?_
  refine x_gfi' (k := 3) (v := p) xc37_1 rfl (Or.inl rfl) rfl xz1 hC.2.2 ?_
  refine x_iflt xc37_4 (xRk (by omega)) (fun h0 => ?_) (fun h0 => ?_)
  · refine x_iconst xc37_30 ?_
    refine x_iret xc37_31 (Or.inl rfl) ?_
    exact k1 h0
  · refine x_aloadn xc37_7 rfl ?_
    refine x_gfi' (k := 3) (v := p) xc37_8 rfl (Or.inl rfl) rfl xz1 hC.2.2 ?_
    refine x_aloadn xc37_11 rfl ?_
    refine x_gfi' (k := 2) (v := n) xc37_12 rfl (Or.inl rfl) rfl xz1 hC.2.1 ?_
    refine x_icge xc37_15 (xRk (by omega)) (xRk (by omega)) (fun h1 => ?_) (fun h1 => ?_)
    · refine x_iconst xc37_30 ?_
      refine x_iret xc37_31 (Or.inl rfl) ?_
      exact k2 h0 h1
    · refine x_aloadn xc37_18 rfl ?_
      refine x_gfr xc37_19 rfl rfl xz1 rfl ?_
      refine x_aloadn xc37_22 rfl ?_
      refine x_gfi' (k := 3) (v := p) xc37_23 rfl (Or.inl rfl) rfl xz1 hC.2.2 ?_
      refine x_ial xc37_26 xz2 rfl (by omega) (by omega) (by omega) ?_
      refine x_goto xc37_27 ?_
      refine x_iret xc37_31 (Or.inl rfl) ?_
      exact k3 h0 h1

theorem xk37 {ro : Nat → Nat × (Nat → Int32)} {d : Nat} {Q : Option Value → pmS → Prop} {a : xA} {b : xB} {t : Int → Int} {n p : Int} (hd : 1 ≤ d) (hC : tC a t n p) (hp : 0 ≤ p) (hn : n ≤ 400) (hb : tB t) (hA : xAr a) (hQ0 : (sG t n p = -1 ∨ p < n) → Q (some (xV (sG t n p))) (xS a b)) : pmCs ro d 37 [.ref 1] (xS a b) Q := by
  have hQ := hQ0 sGd
  have g1 := xRb (hA 1 3)
  have g2 := xRb (hA 1 2)
  rw [hC.2.2] at g1
  rw [hC.2.1] at g2
  refine pmCs_deep (d := 1) (xg37 (w37 hC hp hn hA g1 g2 (fun e => absurd e (by omega)) (fun e1 e2 => ?_) (fun e1 e2 => ?_))) hd
  · unfold sG at hQ
    rw [if_neg (by omega)] at hQ
    exact hQ
  · unfold sG at hQ
    rw [if_pos (by omega)] at hQ
    rw [hC.1 p hp (by omega)]
    exact hQ
theorem xg44 {ro : Nat → Nat × (Nat → Int32)} {d : Nat} {Q : Option Value → pmS → Prop} {a : xA} {b : xB} {c : Int} (h : pmWp ro d 6 44 2 0 [some (.ref 1), some (xV c)] [] (xS a b) Q) : pmCs ro (d + 1) 44 [.ref 1, xV c] (xS a b) Q := x_go xi44 rfl rfl rfl rfl rfl h
theorem w44 {ro : Nat → Nat × (Nat → Int32)} {d : Nat} {Q : Option Value → pmS → Prop} {a : xA} {b : xB} {t : Int → Int} {n p : Int} (hC : tC a t n p) (hp : 0 ≤ p ∧ p ≤ n) (hn : n ≤ 60) (hb : tB t) (hA : xAr a) {c : Int} (h_c : xR c) (hd : 1 ≤ d)
    (k1 : (sG t n p = -1 ∨ p < n) → (sG t n p = c) → Q (some (xV 1)) (xS (xU a 1 3 (p + 1)) b))
    (k2 : (sG t n p = -1 ∨ p < n) → (¬ sG t n p = c) → Q (some (xV 0)) (xS a b)) :
    pmWp ro d 6 44 2 0 [some (.ref 1), some (xV c)] [] (xS a b) Q := by
  refine x_aloadn xc44_0 rfl ?_
  refine x_cV (as := []) (rest := []) xc44_1 rfl xi37 xz1 ⟨rfl, rfl⟩ rfl rfl ?_
  refine xk37 (by omega) hC (by omega) (by omega) hb hA (fun h0 => ?_)
  refine x_iloadn xc44_4 rfl ?_
  refine x_iceq xc44_5 (xRk (by have g0 := sGB (n := n) (p := p) hb (by omega); omega)) (xRk (by have g0 := xRb h_c; omega)) (fun h1 => ?_) (fun h1 => ?_)
  · refine x_aloadn xc44_10 rfl ?_
    refine x_dup xc44_11 rfl ?_
    refine x_gfi' (k := 3) (v := p) xc44_12 rfl (Or.inl rfl) rfl xz1 hC.2.2 ?_
    refine x_iconst xc44_15 ?_
    refine x_iadd xc44_16 ?_
    refine x_pfi (k := 3) xc44_17 rfl ⟨rfl, rfl⟩ rfl xz1 ?_
    refine x_iconst xc44_20 ?_
    refine x_iret xc44_21 (Or.inr ⟨rfl, (by omega)⟩) ?_
    exact k1 h0 h1
  · refine x_iconst xc44_8 ?_
    refine x_iret xc44_9 (Or.inr ⟨rfl, (by omega)⟩) ?_
    exact k2 h0 h1

theorem xk44 {ro : Nat → Nat × (Nat → Int32)} {d : Nat} {Q : Option Value → pmS → Prop} {a : xA} {b : xB} {t : Int → Int} {n p : Int} (hC : tC a t n p) (hp : 0 ≤ p ∧ p ≤ n) (hn : n ≤ 60) (hb : tB t) (hA : xAr a) {c : Int} (h_c : 0 ≤ c ∧ c ≤ 255) (hd : 2 ≤ d) (hT : sG t n p = c → p < n → Q (some (xV 1)) (xS (xU a 1 3 (p + 1)) b)) (hF : ¬ sG t n p = c → Q (some (xV 0)) (xS a b)) : pmCs ro d 44 [.ref 1, xV c] (xS a b) Q := pmCs_deep (d := 2) (xg44 (w44 hC hp hn hb hA ⟨by omega, by omega⟩ (by decide) (fun e0 e => hT e (sGn (t := t) (by omega))) (fun _ e => hF e))) hd
theorem xg39 {ro : Nat → Nat × (Nat → Int32)} {d : Nat} {Q : Option Value → pmS → Prop} {a : xA} {b : xB} {k : Int} (h : pmWp ro d 6 39 2 0 [some (.ref 1), some (xV k)] [] (xS a b) Q) : pmCs ro (d + 1) 39 [.ref 1, xV k] (xS a b) Q := x_go xi39 rfl rfl rfl rfl rfl h
theorem w39 {ro : Nat → Nat × (Nat → Int32)} {d : Nat} {Q : Option Value → pmS → Prop} {a : xA} {b : xB} {t : Int → Int} {n p : Int} (hC : tC a t n p) (hp : 0 ≤ p ∧ p ≤ n) (hn : n ≤ 60) (hb : tB t) (hA : xAr a) {k : Int} (h_k : xR k)
    (k1 : Q (some (xV 0)) (xS (xU a 1 4 ((-1000) * k - p)) b)) :
    pmWp ro d 6 39 2 0 [some (.ref 1), some (xV k)] [] (xS a b) Q := by
  refine x_aloadn xc39_0 rfl ?_
  refine x_sipush xc39_1 (by decide) ?_
  refine x_iloadn xc39_4 rfl ?_
  refine x_imul xc39_5 ?_
  refine x_aloadn xc39_6 rfl ?_
  refine x_gfi' (k := 3) (v := p) xc39_7 rfl (Or.inl rfl) rfl xz1 hC.2.2 ?_
  refine x_isub xc39_10 ?_
  refine x_pfi (k := 4) xc39_11 rfl ⟨rfl, rfl⟩ rfl xz1 ?_
  refine x_iconst xc39_14 ?_
  refine x_iret xc39_15 (Or.inr ⟨rfl, (by omega)⟩) ?_
  exact k1

theorem xk39 {ro : Nat → Nat × (Nat → Int32)} {d : Nat} {Q : Option Value → pmS → Prop} {a : xA} {b : xB} {t : Int → Int} {n p : Int} (hC : tC a t n p) (hp : 0 ≤ p ∧ p ≤ n) (hn : n ≤ 60) (hb : tB t) (hA : xAr a) {k : Int} (h_k : xR k) (hd : 1 ≤ d) (hQ : Q (some (xV 0)) (xS (xU a 1 4 (-1000 * k - p)) b)) : pmCs ro d 39 [.ref 1, xV k] (xS a b) Q := pmCs_deep (d := 1) (xg39 (w39 hC hp hn hb hA h_k hQ)) hd
theorem xg55 {ro : Nat → Nat × (Nat → Int32)} {d : Nat} {Q : Option Value → pmS → Prop} {a : xA} {b : xB} (h : pmWp ro d 6 55 2 0 [some (.ref 1)] [] (xS a b) Q) : pmCs ro (d + 1) 55 [.ref 1] (xS a b) Q := x_go xi55 rfl rfl rfl rfl rfl h
theorem w55 {ro : Nat → Nat × (Nat → Int32)} {d : Nat} {Q : Option Value → pmS → Prop} {a : xA} {b : xB} {t : Int → Int} {n p : Int} (hC : tC a t n p) (hp : 0 ≤ p ∧ p ≤ n) (hn : n ≤ 60) (hb : tB t) (hA : xAr a) (hd : 1 ≤ d)
    (k1 : (sG t n p = -1 ∨ p < n) → (sG t n p < 48) → Q (some (xV 0)) (xS a b))
    (k2 : (sG t n p = -1 ∨ p < n) → (¬ sG t n p < 48) → (sG t n p = -1 ∨ p < n) → (57 < sG t n p) → Q (some (xV 0)) (xS a b))
    (k3 : (sG t n p = -1 ∨ p < n) → (¬ sG t n p < 48) → (sG t n p = -1 ∨ p < n) → (¬ 57 < sG t n p) → Q (some (xV 1)) (xS a b)) :
    pmWp ro d 6 55 2 0 [some (.ref 1)] [] (xS a b) Q := by
  refine x_aloadn xc55_0 rfl ?_
  refine x_cV (as := []) (rest := []) xc55_1 rfl xi37 xz1 ⟨rfl, rfl⟩ rfl rfl ?_
  refine xk37 (by omega) hC (by omega) (by omega) hb hA (fun h0 => ?_)
  refine x_bipush xc55_4 (by decide) ?_
  refine x_iclt xc55_6 (xRk (by have g0 := sGB (n := n) (p := p) hb (by omega); omega)) (xRk (by decide)) (fun h1 => ?_) (fun h1 => ?_)
  · refine x_iconst xc55_22 ?_
    refine x_iret xc55_23 (Or.inr ⟨rfl, (by omega)⟩) ?_
    exact k1 h0 h1
  · refine x_aloadn xc55_9 rfl ?_
    refine x_cV (as := []) (rest := []) xc55_10 rfl xi37 xz1 ⟨rfl, rfl⟩ rfl rfl ?_
    refine xk37 (by omega) hC (by omega) (by omega) hb hA (fun h2 => ?_)
    refine x_bipush xc55_13 (by decide) ?_
    refine x_icgt xc55_15 (xRk (by have g0 := sGB (n := n) (p := p) hb (by omega); omega)) (xRk (by decide)) (fun h3 => ?_) (fun h3 => ?_)
    · refine x_iconst xc55_22 ?_
      refine x_iret xc55_23 (Or.inr ⟨rfl, (by omega)⟩) ?_
      exact k2 h0 h1 h2 h3
    · refine x_iconst xc55_18 ?_
      refine x_goto xc55_19 ?_
      refine x_iret xc55_23 (Or.inr ⟨rfl, (by omega)⟩) ?_
      exact k3 h0 h1 h2 h3

theorem xk55 {ro : Nat → Nat × (Nat → Int32)} {d : Nat} {Q : Option Value → pmS → Prop} {a : xA} {b : xB} {t : Int → Int} {n p : Int} (hC : tC a t n p) (hp : 0 ≤ p ∧ p ≤ n) (hn : n ≤ 60) (hb : tB t) (hA : xAr a) (hd : 2 ≤ d) (hT : ¬ (sG t n p < 48 ∨ 57 < sG t n p) → Q (some (xV 1)) (xS a b)) (hF : sG t n p < 48 ∨ 57 < sG t n p → Q (some (xV 0)) (xS a b)) : pmCs ro d 55 [.ref 1] (xS a b) Q := pmCs_deep (d := 2) (xg55 (w55 hC hp hn hb hA (by decide) (fun e0 e1 => hF (by omega)) (fun e0 e1 e2 e3 => hF (by omega)) (fun e0 e1 e2 e3 => hT (by omega)))) hd
theorem xg40 {ro : Nat → Nat × (Nat → Int32)} {d : Nat} {Q : Option Value → pmS → Prop} {a : xA} {b : xB} {g : Int} (h : pmWp ro d 6 40 1 0 [some (.ref 1), some (xV g), none] [] (xS a b) Q) : pmCs ro (d + 1) 40 [.ref 1, xV g] (xS a b) Q := x_go xi40 rfl rfl rfl rfl rfl h
theorem w40 {ro : Nat → Nat × (Nat → Int32)} {d : Nat} {Q : Option Value → pmS → Prop} {a : xA} {b : xB} {t : Int → Int} {n p : Int} (hC : tC a t n p) (hp : 0 ≤ p ∧ p ≤ n) (hn : n ≤ 60) (hb : tB t) (hA : xAr a) {g : Int} (h_g : xR g) (hd : 1 ≤ d)
    (k1 : (sG t n p = -1 ∨ p < n) → (sG t n p - 48 < 0) → Q (some (xV (-1))) (xS (xU a 1 4 (-1000 * 1 - p)) b))
    (k2 : (sG t n p = -1 ∨ p < n) → (¬ sG t n p - 48 < 0) → (sG t n p - 48 ≤ 9) → (sG t n p - 48 ≤ g) → Q (some (xV (sG t n p - 48))) (xS (xU a 1 3 (p + 1)) b))
    (k3 : (sG t n p = -1 ∨ p < n) → (¬ sG t n p - 48 < 0) → (sG t n p - 48 ≤ 9) → (¬ sG t n p - 48 ≤ g) → Q (some (xV (-1))) (xS (xU a 1 4 (-1000 * 3 - p)) b))
    (k4 : (sG t n p = -1 ∨ p < n) → (¬ sG t n p - 48 < 0) → (¬ sG t n p - 48 ≤ 9) → Q (some (xV (-1))) (xS (xU a 1 4 (-1000 * 1 - p)) b)) :
    pmWp ro d 6 40 1 0 [some (.ref 1), some (xV g), none] [] (xS a b) Q := by
  refine x_aloadn xc40_0 rfl ?_
  refine x_cV (as := []) (rest := []) xc40_1 rfl xi37 xz1 ⟨rfl, rfl⟩ rfl rfl ?_
  refine xk37 (by omega) hC (by omega) (by omega) hb hA (fun h0 => ?_)
  refine x_bipush xc40_4 (by decide) ?_
  refine x_isub xc40_6 ?_
  refine x_istoren (pl' := [some (.ref 1), some (xV g), some (xV (sG t n p - 48))]) xc40_7 rfl rfl ?_
  refine x_iloadn xc40_8 rfl ?_
  refine x_iflt xc40_9 (xRk (by have g0 := sGB (n := n) (p := p) hb (by omega); omega)) (fun h1 => ?_) (fun h1 => ?_)
  · refine x_aloadn xc40_18 rfl ?_
    refine x_iconst xc40_19 ?_
    refine x_cV (as := [xV 1]) (rest := []) xc40_20 rfl xi39 xz1 ⟨rfl, rfl⟩ rfl rfl ?_
    refine xk39 hC (by omega) (by omega) hb hA (xRk (by decide)) (by omega) ?_
    refine x_pop xc40_23 rfl ?_
    refine x_iconst xc40_24 ?_
    refine x_iret xc40_25 (Or.inl rfl) ?_
    exact k1 h0 h1
  · refine x_iloadn xc40_12 rfl ?_
    refine x_bipush xc40_13 (by decide) ?_
    refine x_icle xc40_15 (xRk (by have g0 := sGB (n := n) (p := p) hb (by omega); omega)) (xRk (by decide)) (fun h2 => ?_) (fun h2 => ?_)
    · refine x_iloadn xc40_26 rfl ?_
      refine x_iloadn xc40_27 rfl ?_
      refine x_icle xc40_28 (xRk (by have g0 := sGB (n := n) (p := p) hb (by omega); omega)) (xRk (by have g0 := xRb h_g; omega)) (fun h3 => ?_) (fun h3 => ?_)
      · refine x_aloadn xc40_39 rfl ?_
        refine x_dup xc40_40 rfl ?_
        refine x_gfi' (k := 3) (v := p) xc40_41 rfl (Or.inl rfl) rfl xz1 hC.2.2 ?_
        refine x_iconst xc40_44 ?_
        refine x_iadd xc40_45 ?_
        refine x_pfi (k := 3) xc40_46 rfl ⟨rfl, rfl⟩ rfl xz1 ?_
        refine x_iloadn xc40_49 rfl ?_
        refine x_iret xc40_50 (Or.inl rfl) ?_
        exact k2 h0 h1 h2 h3
      · refine x_aloadn xc40_31 rfl ?_
        refine x_iconst xc40_32 ?_
        refine x_cV (as := [xV 3]) (rest := []) xc40_33 rfl xi39 xz1 ⟨rfl, rfl⟩ rfl rfl ?_
        refine xk39 hC (by omega) (by omega) hb hA (xRk (by decide)) (by omega) ?_
        refine x_pop xc40_36 rfl ?_
        refine x_iconst xc40_37 ?_
        refine x_iret xc40_38 (Or.inl rfl) ?_
        exact k3 h0 h1 h2 h3
    · refine x_aloadn xc40_18 rfl ?_
      refine x_iconst xc40_19 ?_
      refine x_cV (as := [xV 1]) (rest := []) xc40_20 rfl xi39 xz1 ⟨rfl, rfl⟩ rfl rfl ?_
      refine xk39 hC (by omega) (by omega) hb hA (xRk (by decide)) (by omega) ?_
      refine x_pop xc40_23 rfl ?_
      refine x_iconst xc40_24 ?_
      refine x_iret xc40_25 (Or.inl rfl) ?_
      exact k4 h0 h1 h2

theorem xk40 {ro : Nat → Nat × (Nat → Int32)} {d : Nat} {Q : Option Value → pmS → Prop} {a : xA} {b : xB} {t : Int → Int} {n p : Int} (hC : tC a t n p) (hp : 0 ≤ p ∧ p ≤ n) (hn : n ≤ 60) (hb : tB t) (hA : xAr a) {g : Int} (h_g : xR g) (hd : 2 ≤ d) (h1 : sG t n p < 48 ∨ 57 < sG t n p → Q (some (xV (-1))) (xS (xU a 1 4 (-1000 * 1 - p)) b)) (h2 : ¬ (sG t n p < 48 ∨ 57 < sG t n p) → g < sG t n p - 48 → Q (some (xV (-1))) (xS (xU a 1 4 (-1000 * 3 - p)) b)) (h3 : ¬ (sG t n p < 48 ∨ 57 < sG t n p) → ¬ g < sG t n p - 48 → p < n → Q (some (xV (sG t n p - 48))) (xS (xU a 1 3 (p + 1)) b)) : pmCs ro d 40 [.ref 1, xV g] (xS a b) Q := pmCs_deep (d := 2) (xg40 (w40 hC hp hn hb hA h_g (by decide) (fun e0 e1 => h1 (by omega)) (fun e0 e1 e2 e3 => h3 (by omega) (by omega) (sGn (t := t) (by omega))) (fun e0 e1 e2 e3 => h2 (by omega) (by omega)) (fun e0 e1 e2 => h1 (by omega)))) hd
theorem rKdC (c : Int) : rKd c = -1 ∨ 97 ≤ c := by
  unfold rKd
  repeat (first | (split <;> try omega))
theorem xg51 {ro : Nat → Nat × (Nat → Int32)} {d : Nat} {Q : Option Value → pmS → Prop} {a : xA} {b : xB} {c : Int} (h : pmWp ro d 1 51 1 0 [some (xV c)] [] (xS a b) Q) : pmCs ro (d + 1) 51 [xV c] (xS a b) Q := x_go xi51 rfl rfl rfl rfl rfl h
theorem w51 {ro : Nat → Nat × (Nat → Int32)} {d : Nat} {Q : Option Value → pmS → Prop} {c : Int} {a : xA} {b : xB} (h_c : xR c)
    (k1 : (c = 100) → Q (some (xV 3)) (xS a b))
    (k2 : (¬ c = 100) → (c = 101) → Q (some (xV (-1))) (xS a b))
    (k3 : (¬ c = 100) → (¬ c = 101) → (c = 102) → Q (some (xV (-1))) (xS a b))
    (k4 : (¬ c = 100) → (¬ c = 101) → (¬ c = 102) → (c = 103) → Q (some (xV 1)) (xS a b))
    (k5 : (¬ c = 100) → (¬ c = 101) → (¬ c = 102) → (¬ c = 103) → (c = 104) → Q (some (xV 5)) (xS a b))
    (k6 : (¬ c = 100) → (¬ c = 101) → (¬ c = 102) → (¬ c = 103) → (¬ c = 104) → (c = 105) → Q (some (xV (-1))) (xS a b))
    (k7 : (¬ c = 100) → (¬ c = 101) → (¬ c = 102) → (¬ c = 103) → (¬ c = 104) → (¬ c = 105) → (c = 106) → Q (some (xV (-1))) (xS a b))
    (k8 : (¬ c = 100) → (¬ c = 101) → (¬ c = 102) → (¬ c = 103) → (¬ c = 104) → (¬ c = 105) → (¬ c = 106) → (c = 107) → Q (some (xV (-1))) (xS a b))
    (k9 : (¬ c = 100) → (¬ c = 101) → (¬ c = 102) → (¬ c = 103) → (¬ c = 104) → (¬ c = 105) → (¬ c = 106) → (¬ c = 107) → (c = 108) → Q (some (xV 6)) (xS a b))
    (k10 : (¬ c = 100) → (¬ c = 101) → (¬ c = 102) → (¬ c = 103) → (¬ c = 104) → (¬ c = 105) → (¬ c = 106) → (¬ c = 107) → (¬ c = 108) → (c = 109) → Q (some (xV (-1))) (xS a b))
    (k11 : (¬ c = 100) → (¬ c = 101) → (¬ c = 102) → (¬ c = 103) → (¬ c = 104) → (¬ c = 105) → (¬ c = 106) → (¬ c = 107) → (¬ c = 108) → (¬ c = 109) → (c = 110) → Q (some (xV (-1))) (xS a b))
    (k12 : (¬ c = 100) → (¬ c = 101) → (¬ c = 102) → (¬ c = 103) → (¬ c = 104) → (¬ c = 105) → (¬ c = 106) → (¬ c = 107) → (¬ c = 108) → (¬ c = 109) → (¬ c = 110) → (c = 111) → Q (some (xV (-1))) (xS a b))
    (k13 : (¬ c = 100) → (¬ c = 101) → (¬ c = 102) → (¬ c = 103) → (¬ c = 104) → (¬ c = 105) → (¬ c = 106) → (¬ c = 107) → (¬ c = 108) → (¬ c = 109) → (¬ c = 110) → (¬ c = 111) → (c = 112) → Q (some (xV (-1))) (xS a b))
    (k14 : (¬ c = 100) → (¬ c = 101) → (¬ c = 102) → (¬ c = 103) → (¬ c = 104) → (¬ c = 105) → (¬ c = 106) → (¬ c = 107) → (¬ c = 108) → (¬ c = 109) → (¬ c = 110) → (¬ c = 111) → (¬ c = 112) → (c = 113) → Q (some (xV (-1))) (xS a b))
    (k15 : (¬ c = 100) → (¬ c = 101) → (¬ c = 102) → (¬ c = 103) → (¬ c = 104) → (¬ c = 105) → (¬ c = 106) → (¬ c = 107) → (¬ c = 108) → (¬ c = 109) → (¬ c = 110) → (¬ c = 111) → (¬ c = 112) → (¬ c = 113) → (c = 114) → Q (some (xV (-1))) (xS a b))
    (k16 : (¬ c = 100) → (¬ c = 101) → (¬ c = 102) → (¬ c = 103) → (¬ c = 104) → (¬ c = 105) → (¬ c = 106) → (¬ c = 107) → (¬ c = 108) → (¬ c = 109) → (¬ c = 110) → (¬ c = 111) → (¬ c = 112) → (¬ c = 113) → (¬ c = 114) → (c = 115) → Q (some (xV (-1))) (xS a b))
    (k17 : (¬ c = 100) → (¬ c = 101) → (¬ c = 102) → (¬ c = 103) → (¬ c = 104) → (¬ c = 105) → (¬ c = 106) → (¬ c = 107) → (¬ c = 108) → (¬ c = 109) → (¬ c = 110) → (¬ c = 111) → (¬ c = 112) → (¬ c = 113) → (¬ c = 114) → (¬ c = 115) → (c = 116) → Q (some (xV 2)) (xS a b))
    (k18 : (¬ c = 100) → (¬ c = 101) → (¬ c = 102) → (¬ c = 103) → (¬ c = 104) → (¬ c = 105) → (¬ c = 106) → (¬ c = 107) → (¬ c = 108) → (¬ c = 109) → (¬ c = 110) → (¬ c = 111) → (¬ c = 112) → (¬ c = 113) → (¬ c = 114) → (¬ c = 115) → (¬ c = 116) → (c = 117) → Q (some (xV (-1))) (xS a b))
    (k19 : (¬ c = 100) → (¬ c = 101) → (¬ c = 102) → (¬ c = 103) → (¬ c = 104) → (¬ c = 105) → (¬ c = 106) → (¬ c = 107) → (¬ c = 108) → (¬ c = 109) → (¬ c = 110) → (¬ c = 111) → (¬ c = 112) → (¬ c = 113) → (¬ c = 114) → (¬ c = 115) → (¬ c = 116) → (¬ c = 117) → (c = 118) → Q (some (xV 4)) (xS a b))
    (k20 : (¬ c = 100) → (¬ c = 101) → (¬ c = 102) → (¬ c = 103) → (¬ c = 104) → (¬ c = 105) → (¬ c = 106) → (¬ c = 107) → (¬ c = 108) → (¬ c = 109) → (¬ c = 110) → (¬ c = 111) → (¬ c = 112) → (¬ c = 113) → (¬ c = 114) → (¬ c = 115) → (¬ c = 116) → (¬ c = 117) → (¬ c = 118) → Q (some (xV (-1))) (xS a b)) :
    pmWp ro d 1 51 1 0 [some (xV c)] [] (xS a b) Q := by
  refine x_iloadn xc51_0 rfl ?_
  by_cases h0 : c = 100
  · refine x_sw (c := 100) (t := 96) h0 xc51_1.1 rfl ?_
    refine x_iconst xc51_96 ?_
    refine x_iret xc51_97 (Or.inl rfl) ?_
    exact k1 h0
  by_cases h1 : c = 101
  · refine x_sw (c := 101) (t := 105) h1 xc51_1.1 rfl ?_
    refine x_iconst xc51_105 ?_
    refine x_iret xc51_106 (Or.inl rfl) ?_
    exact k2 h0 h1
  by_cases h2 : c = 102
  · refine x_sw (c := 102) (t := 105) h2 xc51_1.1 rfl ?_
    refine x_iconst xc51_105 ?_
    refine x_iret xc51_106 (Or.inl rfl) ?_
    exact k3 h0 h1 h2
  by_cases h3 : c = 103
  · refine x_sw (c := 103) (t := 92) h3 xc51_1.1 rfl ?_
    refine x_iconst xc51_92 ?_
    refine x_iret xc51_93 (Or.inl rfl) ?_
    exact k4 h0 h1 h2 h3
  by_cases h4 : c = 104
  · refine x_sw (c := 104) (t := 100) h4 xc51_1.1 rfl ?_
    refine x_iconst xc51_100 ?_
    refine x_iret xc51_101 (Or.inl rfl) ?_
    exact k5 h0 h1 h2 h3 h4
  by_cases h5 : c = 105
  · refine x_sw (c := 105) (t := 105) h5 xc51_1.1 rfl ?_
    refine x_iconst xc51_105 ?_
    refine x_iret xc51_106 (Or.inl rfl) ?_
    exact k6 h0 h1 h2 h3 h4 h5
  by_cases h6 : c = 106
  · refine x_sw (c := 106) (t := 105) h6 xc51_1.1 rfl ?_
    refine x_iconst xc51_105 ?_
    refine x_iret xc51_106 (Or.inl rfl) ?_
    exact k7 h0 h1 h2 h3 h4 h5 h6
  by_cases h7 : c = 107
  · refine x_sw (c := 107) (t := 105) h7 xc51_1.1 rfl ?_
    refine x_iconst xc51_105 ?_
    refine x_iret xc51_106 (Or.inl rfl) ?_
    exact k8 h0 h1 h2 h3 h4 h5 h6 h7
  by_cases h8 : c = 108
  · refine x_sw (c := 108) (t := 102) h8 xc51_1.1 rfl ?_
    refine x_bipush xc51_102 (by decide) ?_
    refine x_iret xc51_104 (Or.inl rfl) ?_
    exact k9 h0 h1 h2 h3 h4 h5 h6 h7 h8
  by_cases h9 : c = 109
  · refine x_sw (c := 109) (t := 105) h9 xc51_1.1 rfl ?_
    refine x_iconst xc51_105 ?_
    refine x_iret xc51_106 (Or.inl rfl) ?_
    exact k10 h0 h1 h2 h3 h4 h5 h6 h7 h8 h9
  by_cases h10 : c = 110
  · refine x_sw (c := 110) (t := 105) h10 xc51_1.1 rfl ?_
    refine x_iconst xc51_105 ?_
    refine x_iret xc51_106 (Or.inl rfl) ?_
    exact k11 h0 h1 h2 h3 h4 h5 h6 h7 h8 h9 h10
  by_cases h11 : c = 111
  · refine x_sw (c := 111) (t := 105) h11 xc51_1.1 rfl ?_
    refine x_iconst xc51_105 ?_
    refine x_iret xc51_106 (Or.inl rfl) ?_
    exact k12 h0 h1 h2 h3 h4 h5 h6 h7 h8 h9 h10 h11
  by_cases h12 : c = 112
  · refine x_sw (c := 112) (t := 105) h12 xc51_1.1 rfl ?_
    refine x_iconst xc51_105 ?_
    refine x_iret xc51_106 (Or.inl rfl) ?_
    exact k13 h0 h1 h2 h3 h4 h5 h6 h7 h8 h9 h10 h11 h12
  by_cases h13 : c = 113
  · refine x_sw (c := 113) (t := 105) h13 xc51_1.1 rfl ?_
    refine x_iconst xc51_105 ?_
    refine x_iret xc51_106 (Or.inl rfl) ?_
    exact k14 h0 h1 h2 h3 h4 h5 h6 h7 h8 h9 h10 h11 h12 h13
  by_cases h14 : c = 114
  · refine x_sw (c := 114) (t := 105) h14 xc51_1.1 rfl ?_
    refine x_iconst xc51_105 ?_
    refine x_iret xc51_106 (Or.inl rfl) ?_
    exact k15 h0 h1 h2 h3 h4 h5 h6 h7 h8 h9 h10 h11 h12 h13 h14
  by_cases h15 : c = 115
  · refine x_sw (c := 115) (t := 105) h15 xc51_1.1 rfl ?_
    refine x_iconst xc51_105 ?_
    refine x_iret xc51_106 (Or.inl rfl) ?_
    exact k16 h0 h1 h2 h3 h4 h5 h6 h7 h8 h9 h10 h11 h12 h13 h14 h15
  by_cases h16 : c = 116
  · refine x_sw (c := 116) (t := 94) h16 xc51_1.1 rfl ?_
    refine x_iconst xc51_94 ?_
    refine x_iret xc51_95 (Or.inl rfl) ?_
    exact k17 h0 h1 h2 h3 h4 h5 h6 h7 h8 h9 h10 h11 h12 h13 h14 h15 h16
  by_cases h17 : c = 117
  · refine x_sw (c := 117) (t := 105) h17 xc51_1.1 rfl ?_
    refine x_iconst xc51_105 ?_
    refine x_iret xc51_106 (Or.inl rfl) ?_
    exact k18 h0 h1 h2 h3 h4 h5 h6 h7 h8 h9 h10 h11 h12 h13 h14 h15 h16 h17
  by_cases h18 : c = 118
  · refine x_sw (c := 118) (t := 98) h18 xc51_1.1 rfl ?_
    refine x_iconst xc51_98 ?_
    refine x_iret xc51_99 (Or.inl rfl) ?_
    exact k19 h0 h1 h2 h3 h4 h5 h6 h7 h8 h9 h10 h11 h12 h13 h14 h15 h16 h17 h18
  refine x_tsd xc51_1 (xRk (by have g0 := xRb h_c; omega)) (by omega) ?_
  refine x_iconst xc51_105 ?_
  refine x_iret xc51_106 (Or.inl rfl) ?_
  exact k20 h0 h1 h2 h3 h4 h5 h6 h7 h8 h9 h10 h11 h12 h13 h14 h15 h16 h17 h18

theorem xk51 {ro : Nat → Nat × (Nat → Int32)} {d : Nat} {Q : Option Value → pmS → Prop} {a : xA} {b : xB} {c : Int} (h_c : xR c) (hd : 1 ≤ d) (hQ0 : (rKd c = -1 ∨ 97 ≤ c) → Q (some (xV (rKd c))) (xS a b)) : pmCs ro d 51 [xV c] (xS a b) Q := by
  have hQ := hQ0 (rKdC c)
  refine pmCs_deep (d := 1) (xg51 (w51 h_c ?_ ?_ ?_ ?_ ?_ ?_ ?_ ?_ ?_ ?_ ?_ ?_ ?_ ?_ ?_ ?_ ?_ ?_ ?_ ?_)) hd
  · intro e0
    have e : rKd c = 3 := by unfold rKd; repeat (first | rw [if_pos (by omega)] | rw [if_neg (by omega)])
    rw [e] at hQ
    exact hQ
  · intro e0 e1
    have e : rKd c = -1 := by unfold rKd; repeat (first | rw [if_pos (by omega)] | rw [if_neg (by omega)])
    rw [e] at hQ
    exact hQ
  · intro e0 e1 e2
    have e : rKd c = -1 := by unfold rKd; repeat (first | rw [if_pos (by omega)] | rw [if_neg (by omega)])
    rw [e] at hQ
    exact hQ
  · intro e0 e1 e2 e3
    have e : rKd c = 1 := by unfold rKd; repeat (first | rw [if_pos (by omega)] | rw [if_neg (by omega)])
    rw [e] at hQ
    exact hQ
  · intro e0 e1 e2 e3 e4
    have e : rKd c = 5 := by unfold rKd; repeat (first | rw [if_pos (by omega)] | rw [if_neg (by omega)])
    rw [e] at hQ
    exact hQ
  · intro e0 e1 e2 e3 e4 e5
    have e : rKd c = -1 := by unfold rKd; repeat (first | rw [if_pos (by omega)] | rw [if_neg (by omega)])
    rw [e] at hQ
    exact hQ
  · intro e0 e1 e2 e3 e4 e5 e6
    have e : rKd c = -1 := by unfold rKd; repeat (first | rw [if_pos (by omega)] | rw [if_neg (by omega)])
    rw [e] at hQ
    exact hQ
  · intro e0 e1 e2 e3 e4 e5 e6 e7
    have e : rKd c = -1 := by unfold rKd; repeat (first | rw [if_pos (by omega)] | rw [if_neg (by omega)])
    rw [e] at hQ
    exact hQ
  · intro e0 e1 e2 e3 e4 e5 e6 e7 e8
    have e : rKd c = 6 := by unfold rKd; repeat (first | rw [if_pos (by omega)] | rw [if_neg (by omega)])
    rw [e] at hQ
    exact hQ
  · intro e0 e1 e2 e3 e4 e5 e6 e7 e8 e9
    have e : rKd c = -1 := by unfold rKd; repeat (first | rw [if_pos (by omega)] | rw [if_neg (by omega)])
    rw [e] at hQ
    exact hQ
  · intro e0 e1 e2 e3 e4 e5 e6 e7 e8 e9 e10
    have e : rKd c = -1 := by unfold rKd; repeat (first | rw [if_pos (by omega)] | rw [if_neg (by omega)])
    rw [e] at hQ
    exact hQ
  · intro e0 e1 e2 e3 e4 e5 e6 e7 e8 e9 e10 e11
    have e : rKd c = -1 := by unfold rKd; repeat (first | rw [if_pos (by omega)] | rw [if_neg (by omega)])
    rw [e] at hQ
    exact hQ
  · intro e0 e1 e2 e3 e4 e5 e6 e7 e8 e9 e10 e11 e12
    have e : rKd c = -1 := by unfold rKd; repeat (first | rw [if_pos (by omega)] | rw [if_neg (by omega)])
    rw [e] at hQ
    exact hQ
  · intro e0 e1 e2 e3 e4 e5 e6 e7 e8 e9 e10 e11 e12 e13
    have e : rKd c = -1 := by unfold rKd; repeat (first | rw [if_pos (by omega)] | rw [if_neg (by omega)])
    rw [e] at hQ
    exact hQ
  · intro e0 e1 e2 e3 e4 e5 e6 e7 e8 e9 e10 e11 e12 e13 e14
    have e : rKd c = -1 := by unfold rKd; repeat (first | rw [if_pos (by omega)] | rw [if_neg (by omega)])
    rw [e] at hQ
    exact hQ
  · intro e0 e1 e2 e3 e4 e5 e6 e7 e8 e9 e10 e11 e12 e13 e14 e15
    have e : rKd c = -1 := by unfold rKd; repeat (first | rw [if_pos (by omega)] | rw [if_neg (by omega)])
    rw [e] at hQ
    exact hQ
  · intro e0 e1 e2 e3 e4 e5 e6 e7 e8 e9 e10 e11 e12 e13 e14 e15 e16
    have e : rKd c = 2 := by unfold rKd; repeat (first | rw [if_pos (by omega)] | rw [if_neg (by omega)])
    rw [e] at hQ
    exact hQ
  · intro e0 e1 e2 e3 e4 e5 e6 e7 e8 e9 e10 e11 e12 e13 e14 e15 e16 e17
    have e : rKd c = -1 := by unfold rKd; repeat (first | rw [if_pos (by omega)] | rw [if_neg (by omega)])
    rw [e] at hQ
    exact hQ
  · intro e0 e1 e2 e3 e4 e5 e6 e7 e8 e9 e10 e11 e12 e13 e14 e15 e16 e17 e18
    have e : rKd c = 4 := by unfold rKd; repeat (first | rw [if_pos (by omega)] | rw [if_neg (by omega)])
    rw [e] at hQ
    exact hQ
  · intro e0 e1 e2 e3 e4 e5 e6 e7 e8 e9 e10 e11 e12 e13 e14 e15 e16 e17 e18
    have e : rKd c = -1 := by unfold rKd; repeat (first | rw [if_pos (by omega)] | rw [if_neg (by omega)])
    rw [e] at hQ
    exact hQ
theorem rKdB (c : Int) : -1 ≤ rKd c ∧ rKd c ≤ 6 := by
  unfold rKd
  repeat (first | (split <;> try omega))
theorem xg52 {ro : Nat → Nat × (Nat → Int32)} {d : Nat} {Q : Option Value → pmS → Prop} {a : xA} {b : xB} {x y : Int} (h : pmWp ro d 1 52 2 0 [some (.ref 33), some (xV x), some (xV y), none] [] (xS a b) Q) : pmCs ro (d + 1) 52 [.ref 33, xV x, xV y] (xS a b) Q := x_go xi52 rfl rfl rfl rfl rfl h
theorem w52 {ro : Nat → Nat × (Nat → Int32)} {d : Nat} {Q : Option Value → pmS → Prop} {a : xA} {b : xB} {t : Int → Int} {n p : Int} (hC : tC a t n p) (hp : 0 ≤ p ∧ p ≤ n) (hn : n ≤ 60) (hb : tB t) (hA : xAr a) (hf : a 1 4 = 0) {x y : Int} (h_x : xR x) (h_y : xR y) (hx : 0 ≤ x ∧ x ≤ 20) (hy : 0 ≤ y ∧ y ≤ 1) (hd : 2 ≤ d)
    (k1 : (sG t n p = 46) → (p < n) → Q (some (xV 1)) (xS (xU a 1 3 (p + 1)) b))
    (k2 : (¬ sG t n p = 46) → (sG t n p < 48 ∨ 57 < sG t n p) → Q (some (xV 0)) (xS (xU a 1 4 (-1000 * 1 - p)) b))
    (k3 : (¬ sG t n p = 46) → (¬ (sG t n p < 48 ∨ 57 < sG t n p)) → (6 < sG t n p - 48) → Q (some (xV 0)) (xS (xU a 1 4 (-1000 * 3 - p)) b))
    (k4 : (¬ sG t n p = 46) → (¬ (sG t n p < 48 ∨ 57 < sG t n p)) → (¬ 6 < sG t n p - 48) → (p < n) → (¬ sG t n p - 48 = -1) → Q (some (xV 1)) (xS (xU (xU (xU a 1 3 (p + 1)) 33 3 (xOr (a 33 3) (7 * ((2 ^ x.toNat : Nat) : Int)))) 33 4 (xOr (a 33 4) ((sG t n p - 48 + y) * ((2 ^ x.toNat : Nat) : Int)))) b))
    (k5 : (¬ sG t n p = 46) → (¬ (sG t n p < 48 ∨ 57 < sG t n p)) → (¬ 6 < sG t n p - 48) → (p < n) → (¬ ¬ sG t n p - 48 = -1) → Q (some (xV 0)) (xS (xU a 1 3 (p + 1)) b)) :
    pmWp ro d 1 52 2 0 [some (.ref 33), some (xV x), some (xV y), none] [] (xS a b) Q := by
  refine x_aloadn xc52_0 rfl ?_
  refine x_gfr xc52_1 rfl rfl xz33 rfl ?_
  refine x_bipush xc52_4 (by decide) ?_
  refine x_cV (as := [xV 46]) (rest := []) xc52_6 rfl xi44 xz1 ⟨rfl, rfl⟩ rfl rfl ?_
  refine xk44 hC (by omega) (by omega) hb hA (by omega) (by omega) (fun h0 h1 => ?_) (fun h2 => ?_)
  · refine x_ifeq xc52_9 (xRk (by decide)) (fun h => absurd h (by omega)) (fun _ => ?_)
    refine x_iconst xc52_12 ?_
    refine x_iret xc52_13 (Or.inr ⟨rfl, (by omega)⟩) ?_
    exact k1 h0 h1
  · refine x_ifeq xc52_9 (xRk (by decide)) (fun _ => ?_) (fun h => absurd h (by omega))
    refine x_aloadn xc52_14 rfl ?_
    refine x_gfr xc52_15 rfl rfl xz33 rfl ?_
    refine x_bipush xc52_18 (by decide) ?_
    refine x_cV (as := [xV 6]) (rest := []) xc52_20 rfl xi40 xz1 ⟨rfl, rfl⟩ rfl rfl ?_
    refine xk40 hC (by omega) (by omega) hb hA (xRk (by decide)) (by omega) (fun h5 => ?_) (fun h6 h7 => ?_) (fun h8 h9 h10 => ?_)
    · refine x_istoren (pl' := [some (.ref 33), some (xV x), some (xV y), some (xV (-1))]) xc52_23 rfl rfl ?_
      refine x_iloadn xc52_24 rfl ?_
      refine x_iconst xc52_25 ?_
      refine x_icne xc52_26 (xRk (by decide)) (xRk (by decide)) (fun h => absurd h (by omega)) (fun _ => ?_)
      refine x_iconst xc52_29 ?_
      refine x_iret xc52_30 (Or.inr ⟨rfl, (by omega)⟩) ?_
      exact k2 h2 h5
    · refine x_istoren (pl' := [some (.ref 33), some (xV x), some (xV y), some (xV (-1))]) xc52_23 rfl rfl ?_
      refine x_iloadn xc52_24 rfl ?_
      refine x_iconst xc52_25 ?_
      refine x_icne xc52_26 (xRk (by decide)) (xRk (by decide)) (fun h => absurd h (by omega)) (fun _ => ?_)
      refine x_iconst xc52_29 ?_
      refine x_iret xc52_30 (Or.inr ⟨rfl, (by omega)⟩) ?_
      exact k3 h2 h6 h7
    · refine x_istoren (pl' := [some (.ref 33), some (xV x), some (xV y), some (xV (sG t n p - 48))]) xc52_23 rfl rfl ?_
      refine x_iloadn xc52_24 rfl ?_
      refine x_iconst xc52_25 ?_
      refine x_icne xc52_26 (xRk (by have g0 := sGB (n := n) (p := p) hb (by omega); omega)) (xRk (by decide)) (fun h13 => ?_) (fun h13 => ?_)
      · refine x_aloadn xc52_31 rfl ?_
        refine x_dup xc52_32 rfl ?_
        refine x_gfi' (k := 3) (v := a 33 3) xc52_33 rfl (Or.inl rfl) rfl xz33 (by rw [xUn (by decide)]) ?_
        refine x_bipush xc52_36 (by decide) ?_
        refine x_iloadn xc52_38 rfl ?_
        refine x_ishl (M := ((2 ^ x.toNat : Nat) : Int)) (by have g0 := xRb h_x; omega) (by have g0 := xRb h_x; omega) rfl xc52_39 ?_
        refine x_ior xc52_40 ?_
        refine x_pfi (k := 3) xc52_41 rfl ⟨rfl, rfl⟩ rfl xz33 ?_
        refine x_aloadn xc52_44 rfl ?_
        refine x_dup xc52_45 rfl ?_
        refine x_gfi' (k := 4) (v := a 33 4) xc52_46 rfl (Or.inl rfl) rfl xz33 (by rw [xUk (by decide), xUn (by decide)]) ?_
        refine x_iloadn xc52_49 rfl ?_
        refine x_iloadn xc52_50 rfl ?_
        refine x_iadd xc52_51 ?_
        refine x_iloadn xc52_52 rfl ?_
        refine x_ishl (M := ((2 ^ x.toNat : Nat) : Int)) (by have g0 := xRb h_x; omega) (by have g0 := xRb h_x; omega) rfl xc52_53 ?_
        refine x_ior xc52_54 ?_
        refine x_pfi (k := 4) xc52_55 rfl ⟨rfl, rfl⟩ rfl xz33 ?_
        refine x_iconst xc52_58 ?_
        refine x_iret xc52_59 (Or.inr ⟨rfl, (by omega)⟩) ?_
        exact k4 h2 h8 h9 h10 h13
      · refine x_iconst xc52_29 ?_
        refine x_iret xc52_30 (Or.inr ⟨rfl, (by omega)⟩) ?_
        exact k5 h2 h8 h9 h10 h13

theorem xk52 {ro : Nat → Nat × (Nat → Int32)} {d : Nat} {Q : Option Value → pmS → Prop} {a : xA} {b : xB} {t : Int → Int} {n p : Int} (hC : tC a t n p) (hp : 0 ≤ p ∧ p ≤ n) (hn : n ≤ 60) (hb : tB t) (hA : xAr a) {x y : Int} (hx : 0 ≤ x ∧ x ≤ 20) (hy : 0 ≤ y ∧ y ≤ 1) (hf : a 1 4 = 0) (hd : 3 ≤ d)
    (hT : ∀ (a1 : xA) (p1 : Int), tC a1 t n p1 → kL a a1 → a1 1 4 = 0 → rSig t n p = (0, p1) → p < p1 ∧ p1 ≤ n → Q (some (xV 1)) (xS a1 b))
    (hF : ∀ (a1 : xA) (f q : Int), kL a a1 → a1 1 4 = f → f < 0 ∧ -10000 < f → rSig t n p = (f, q) → Q (some (xV 0)) (xS a1 b)) : pmCs ro d 52 [.ref 33, xV x, xV y] (xS a b) Q := by
  refine pmCs_deep (d := 3) (xg52 (w52 hC hp hn hb hA hf ⟨by omega, by omega⟩ ⟨by omega, by omega⟩ hx hy (by decide) ?_ ?_ ?_ ?_ ?_)) hd
  · intro h0 h1
    first | (exfalso; omega) | exact hT _ (p + 1) (tC.at hC) (kL.u (xRk (by omega)) (by omega) (by omega) (kL.r hA)) (by rw [xUk (by decide), hf]) (by unfold rSig rDig; (repeat (first | rw [rSeq_00] | rw [rSeq_as] | rw [rSeq_0 (by assumption)] | rw [rSeq_n (by assumption) (by omega)] | rw [if_neg (by omega)] | rw [if_pos (by omega)])); all_goals (repeat' split); all_goals (first | (exfalso; omega) | assumption | rfl)) (by omega)
  · intro h2 h5
    first | (exfalso; omega) | exact hF _ (-1000 * 1 - p) _ (kL.u (xRk (by omega)) (by omega) (by omega) (kL.r hA)) (by rw [xUa]) (by omega) (Prod.ext (by unfold rSig rDig; (repeat (first | rw [rSeq_00] | rw [rSeq_as] | rw [rSeq_0 (by assumption)] | rw [rSeq_n (by assumption) (by omega)] | rw [if_neg (by omega)] | rw [if_pos (by omega)])); all_goals (repeat' split); all_goals (first | (exfalso; omega) | (dsimp only; exact rFst (by assumption)) | (dsimp only; omega) | omega)) rfl)
  · intro h2 h6 h7
    first | (exfalso; omega) | exact hF _ (-1000 * 3 - p) _ (kL.u (xRk (by omega)) (by omega) (by omega) (kL.r hA)) (by rw [xUa]) (by omega) (Prod.ext (by unfold rSig rDig; (repeat (first | rw [rSeq_00] | rw [rSeq_as] | rw [rSeq_0 (by assumption)] | rw [rSeq_n (by assumption) (by omega)] | rw [if_neg (by omega)] | rw [if_pos (by omega)])); all_goals (repeat' split); all_goals (first | (exfalso; omega) | (dsimp only; exact rFst (by assumption)) | (dsimp only; omega) | omega)) rfl)
  · intro h2 h8 h9 h10 h13
    first | (exfalso; omega) | exact hT _ (p + 1) (tC.ot (by decide) (by decide) (tC.ot (by decide) (by decide) (tC.at hC))) (kL.u (xRk (by have g0 := xOrB (a 33 4) ((sG t n p - 48 + y) * ((2 ^ x.toNat : Nat) : Int)); omega)) (by omega) (by omega) (kL.u (xRk (by have g0 := xOrB (a 33 3) (7 * ((2 ^ x.toNat : Nat) : Int)); omega)) (by omega) (by omega) (kL.u (xRk (by omega)) (by omega) (by omega) (kL.r hA)))) (by rw [xUn (by decide), xUn (by decide), xUk (by decide), hf]) (by unfold rSig rDig; (repeat (first | rw [rSeq_00] | rw [rSeq_as] | rw [rSeq_0 (by assumption)] | rw [rSeq_n (by assumption) (by omega)] | rw [if_neg (by omega)] | rw [if_pos (by omega)])); all_goals (repeat' split); all_goals (first | (exfalso; omega) | assumption | rfl)) (by omega)
  · intro h2 h8 h9 h10 h13
    first | (exfalso; omega) | exact hF _ (0) _ (kL.u (xRk (by omega)) (by omega) (by omega) (kL.r hA)) (by rw [xUk (by decide), hf]) (by omega) (Prod.ext (by unfold rSig rDig; (repeat (first | rw [rSeq_00] | rw [rSeq_as] | rw [rSeq_0 (by assumption)] | rw [rSeq_n (by assumption) (by omega)] | rw [if_neg (by omega)] | rw [if_pos (by omega)])); all_goals (repeat' split); all_goals (first | (exfalso; omega) | (dsimp only; exact rFst (by assumption)) | (dsimp only; omega) | omega)) rfl)

theorem xg50 {ro : Nat → Nat × (Nat → Int32)} {d : Nat} {Q : Option Value → pmS → Prop} {a : xA} {b : xB} (h : pmWp ro d 1 50 2 0 [some (.ref 33), none] [] (xS a b) Q) : pmCs ro (d + 1) 50 [.ref 33] (xS a b) Q := x_go xi50 rfl rfl rfl rfl rfl h
theorem w50 {ro : Nat → Nat × (Nat → Int32)} {d : Nat} {Q : Option Value → pmS → Prop} {a : xA} {b : xB} {t : Int → Int} {n p : Int} (hC : tC a t n p) (hp : 0 ≤ p ∧ p ≤ n) (hn : n ≤ 60) (hb : tB t) (hA : xAr a) (hf : a 1 4 = 0) (hd : 3 ≤ d)
    (k1 : (sG t n p = -1 ∨ p < n) → (rKd (sG t n p) = -1 ∨ 97 ≤ sG t n p) → (¬ rKd (sG t n p) = -1) → ∀ a1 : xA, ∀ p1 : Int, (tC a1 t n p1) → (kL (xU (xU (xU a 1 3 (p + 1)) 33 3 7) 33 4 (rKd (sG t n p))) a1) → (a1 1 4 = 0) → (rSig t n (p + 1) = (0, p1)) → (p + 1 < p1 ∧ p1 ≤ n) → ∀ a3 : xA, ∀ p3 : Int, (tC a3 t n p3) → (kL a1 a3) → (a3 1 4 = 0) → (rSig t n p1 = (0, p3)) → (p1 < p3 ∧ p3 ≤ n) → ∀ a5 : xA, ∀ p5 : Int, (tC a5 t n p5) → (kL a3 a5) → (a5 1 4 = 0) → (rSig t n p3 = (0, p5)) → (p3 < p5 ∧ p5 ≤ n) → (sG t n p5 = 117) → (p5 < n) → Q (some (xV 1)) (xS (xU (xU (xU a5 1 3 (p5 + 1)) 33 3 (xOr (a5 33 3) 4096)) 33 4 (xOr (a5 33 4) 4096)) b))
    (k2 : (sG t n p = -1 ∨ p < n) → (rKd (sG t n p) = -1 ∨ 97 ≤ sG t n p) → (¬ rKd (sG t n p) = -1) → ∀ a1 : xA, ∀ p1 : Int, (tC a1 t n p1) → (kL (xU (xU (xU a 1 3 (p + 1)) 33 3 7) 33 4 (rKd (sG t n p))) a1) → (a1 1 4 = 0) → (rSig t n (p + 1) = (0, p1)) → (p + 1 < p1 ∧ p1 ≤ n) → ∀ a3 : xA, ∀ p3 : Int, (tC a3 t n p3) → (kL a1 a3) → (a3 1 4 = 0) → (rSig t n p1 = (0, p3)) → (p1 < p3 ∧ p3 ≤ n) → ∀ a5 : xA, ∀ p5 : Int, (tC a5 t n p5) → (kL a3 a5) → (a5 1 4 = 0) → (rSig t n p3 = (0, p5)) → (p3 < p5 ∧ p5 ≤ n) → (¬ sG t n p5 = 117) → Q (some (xV 1)) (xS a5 b))
    (k3 : (sG t n p = -1 ∨ p < n) → (rKd (sG t n p) = -1 ∨ 97 ≤ sG t n p) → (¬ rKd (sG t n p) = -1) → ∀ a1 : xA, ∀ p1 : Int, (tC a1 t n p1) → (kL (xU (xU (xU a 1 3 (p + 1)) 33 3 7) 33 4 (rKd (sG t n p))) a1) → (a1 1 4 = 0) → (rSig t n (p + 1) = (0, p1)) → (p + 1 < p1 ∧ p1 ≤ n) → ∀ a3 : xA, ∀ p3 : Int, (tC a3 t n p3) → (kL a1 a3) → (a3 1 4 = 0) → (rSig t n p1 = (0, p3)) → (p1 < p3 ∧ p3 ≤ n) → ∀ a6 : xA, ∀ f6 : Int, ∀ q6 : Int, (kL a3 a6) → (a6 1 4 = f6) → (f6 < 0 ∧ -10000 < f6) → (rSig t n p3 = (f6, q6)) → Q (some (xV 0)) (xS a6 b))
    (k4 : (sG t n p = -1 ∨ p < n) → (rKd (sG t n p) = -1 ∨ 97 ≤ sG t n p) → (¬ rKd (sG t n p) = -1) → ∀ a1 : xA, ∀ p1 : Int, (tC a1 t n p1) → (kL (xU (xU (xU a 1 3 (p + 1)) 33 3 7) 33 4 (rKd (sG t n p))) a1) → (a1 1 4 = 0) → (rSig t n (p + 1) = (0, p1)) → (p + 1 < p1 ∧ p1 ≤ n) → ∀ a4 : xA, ∀ f4 : Int, ∀ q4 : Int, (kL a1 a4) → (a4 1 4 = f4) → (f4 < 0 ∧ -10000 < f4) → (rSig t n p1 = (f4, q4)) → Q (some (xV 0)) (xS a4 b))
    (k5 : (sG t n p = -1 ∨ p < n) → (rKd (sG t n p) = -1 ∨ 97 ≤ sG t n p) → (¬ rKd (sG t n p) = -1) → ∀ a2 : xA, ∀ f2 : Int, ∀ q2 : Int, (kL (xU (xU (xU a 1 3 (p + 1)) 33 3 7) 33 4 (rKd (sG t n p))) a2) → (a2 1 4 = f2) → (f2 < 0 ∧ -10000 < f2) → (rSig t n (p + 1) = (f2, q2)) → Q (some (xV 0)) (xS a2 b))
    (k6 : (sG t n p = -1 ∨ p < n) → (rKd (sG t n p) = -1 ∨ 97 ≤ sG t n p) → (¬ ¬ rKd (sG t n p) = -1) → Q (some (xV 0)) (xS (xU a 1 4 (-1000 * 1 - p)) b)) :
    pmWp ro d 1 50 2 0 [some (.ref 33), none] [] (xS a b) Q := by
  refine x_aloadn xc50_0 rfl ?_
  refine x_gfr xc50_1 rfl rfl xz33 rfl ?_
  refine x_cV (as := []) (rest := []) xc50_4 rfl xi37 xz1 ⟨rfl, rfl⟩ rfl rfl ?_
  refine xk37 (by omega) hC (by omega) (by omega) hb hA (fun h0 => ?_)
  refine x_cS (as := [xV (sG t n p)]) (rest := []) xc50_7 rfl rfl xi51 ⟨rfl, rfl⟩ rfl rfl ?_
  refine xk51 (xRk (by have g0 := sGB (n := n) (p := p) hb (by omega); omega)) (by omega) (fun h1 => ?_)
  refine x_istoren (pl' := [some (.ref 33), some (xV (rKd (sG t n p)))]) xc50_10 rfl rfl ?_
  refine x_iloadn xc50_11 rfl ?_
  refine x_iconst xc50_12 ?_
  refine x_icne xc50_13 (xRk (by have g0 := rKdB (sG t n p); omega)) (xRk (by decide)) (fun h2 => ?_) (fun h2 => ?_)
  · refine x_aloadn xc50_25 rfl ?_
    refine x_gfr xc50_26 rfl rfl xz33 rfl ?_
    refine x_dup xc50_29 rfl ?_
    refine x_gfi' (k := 3) (v := p) xc50_30 rfl (Or.inl rfl) rfl xz1 hC.2.2 ?_
    refine x_iconst xc50_33 ?_
    refine x_iadd xc50_34 ?_
    refine x_pfi (k := 3) xc50_35 rfl ⟨rfl, rfl⟩ rfl xz1 ?_
    refine x_aloadn xc50_38 rfl ?_
    refine x_bipush xc50_39 (by decide) ?_
    refine x_pfi (k := 3) xc50_41 rfl ⟨rfl, rfl⟩ rfl xz33 ?_
    refine x_aloadn xc50_44 rfl ?_
    refine x_iloadn xc50_45 rfl ?_
    refine x_pfi (k := 4) xc50_46 rfl ⟨rfl, rfl⟩ rfl xz33 ?_
    refine x_aloadn xc50_49 rfl ?_
    refine x_iconst xc50_50 ?_
    refine x_iconst xc50_51 ?_
    refine x_cV (as := [xV 3, xV 0]) (rest := []) xc50_52 rfl xi52 xz33 ⟨rfl, rfl⟩ rfl rfl ?_
    refine xk52 (tC.ot (by decide) (by decide) (tC.ot (by decide) (by decide) (tC.at hC))) (by omega) (by omega) hb (xAr_u (xAr_u (xAr_u hA (xRk (by omega))) (xRk (by decide))) (xRk (by have g0 := rKdB (sG t n p); omega))) (by omega) (by omega) (by rw [xUn (by decide), xUn (by decide), xUk (by decide), hf]) (by omega) (fun a1 p1 h3 h4 h5 h6 h7 => ?_) (fun a2 f2 q2 h8 h9 h10 h11 => ?_)
    · refine x_ifeq xc50_55 (xRk (by decide)) (fun h => absurd h (by omega)) (fun _ => ?_)
      refine x_aloadn xc50_58 rfl ?_
      refine x_bipush xc50_59 (by decide) ?_
      refine x_iconst xc50_61 ?_
      refine x_cV (as := [xV 6, xV 1]) (rest := []) xc50_62 rfl xi52 xz33 ⟨rfl, rfl⟩ rfl rfl ?_
      refine xk52 h3 (by omega) (by omega) hb h4.1 (by omega) (by omega) h5 (by omega) (fun a3 p3 h13 h14 h15 h16 h17 => ?_) (fun a4 f4 q4 h18 h19 h20 h21 => ?_)
      · refine x_ifeq xc50_65 (xRk (by decide)) (fun h => absurd h (by omega)) (fun _ => ?_)
        refine x_aloadn xc50_68 rfl ?_
        refine x_bipush xc50_69 (by decide) ?_
        refine x_iconst xc50_71 ?_
        refine x_cV (as := [xV 9, xV 1]) (rest := []) xc50_72 rfl xi52 xz33 ⟨rfl, rfl⟩ rfl rfl ?_
        refine xk52 h13 (by omega) (by omega) hb h14.1 (by omega) (by omega) h15 (by omega) (fun a5 p5 h23 h24 h25 h26 h27 => ?_) (fun a6 f6 q6 h28 h29 h30 h31 => ?_)
        · refine x_ifne xc50_75 (xRk (by decide)) (fun _ => ?_) (fun h => absurd h (by omega))
          refine x_aloadn xc50_80 rfl ?_
          refine x_gfr xc50_81 rfl rfl xz33 rfl ?_
          refine x_bipush xc50_84 (by decide) ?_
          refine x_cV (as := [xV 117]) (rest := []) xc50_86 rfl xi44 xz1 ⟨rfl, rfl⟩ rfl rfl ?_
          refine xk44 h23 (by omega) (by omega) hb h24.1 (by omega) (by omega) (fun h33 h34 => ?_) (fun h35 => ?_)
          · refine x_ifeq xc50_89 (xRk (by decide)) (fun h => absurd h (by omega)) (fun _ => ?_)
            refine x_aloadn xc50_92 rfl ?_
            refine x_dup xc50_93 rfl ?_
            refine x_gfi' (k := 3) (v := a5 33 3) xc50_94 rfl (Or.inl rfl) rfl xz33 (by rw [xUn (by decide)]) ?_
            refine x_sipush xc50_97 (by decide) ?_
            refine x_ior xc50_100 ?_
            refine x_pfi (k := 3) xc50_101 rfl ⟨rfl, rfl⟩ rfl xz33 ?_
            refine x_aloadn xc50_104 rfl ?_
            refine x_dup xc50_105 rfl ?_
            refine x_gfi' (k := 4) (v := a5 33 4) xc50_106 rfl (Or.inl rfl) rfl xz33 (by rw [xUk (by decide), xUn (by decide)]) ?_
            refine x_sipush xc50_109 (by decide) ?_
            refine x_ior xc50_112 ?_
            refine x_pfi (k := 4) xc50_113 rfl ⟨rfl, rfl⟩ rfl xz33 ?_
            refine x_iconst xc50_116 ?_
            refine x_iret xc50_117 (Or.inr ⟨rfl, (by omega)⟩) ?_
            exact k1 h0 h1 h2 a1 p1 h3 h4 h5 h6 h7 a3 p3 h13 h14 h15 h16 h17 a5 p5 h23 h24 h25 h26 h27 h33 h34
          · refine x_ifeq xc50_89 (xRk (by decide)) (fun _ => ?_) (fun h => absurd h (by omega))
            refine x_iconst xc50_116 ?_
            refine x_iret xc50_117 (Or.inr ⟨rfl, (by omega)⟩) ?_
            exact k2 h0 h1 h2 a1 p1 h3 h4 h5 h6 h7 a3 p3 h13 h14 h15 h16 h17 a5 p5 h23 h24 h25 h26 h27 h35
        · refine x_ifne xc50_75 (xRk (by decide)) (fun h => absurd h (by omega)) (fun _ => ?_)
          refine x_iconst xc50_78 ?_
          refine x_iret xc50_79 (Or.inr ⟨rfl, (by omega)⟩) ?_
          exact k3 h0 h1 h2 a1 p1 h3 h4 h5 h6 h7 a3 p3 h13 h14 h15 h16 h17 a6 f6 q6 h28 h29 h30 h31
      · refine x_ifeq xc50_65 (xRk (by decide)) (fun _ => ?_) (fun h => absurd h (by omega))
        refine x_iconst xc50_78 ?_
        refine x_iret xc50_79 (Or.inr ⟨rfl, (by omega)⟩) ?_
        exact k4 h0 h1 h2 a1 p1 h3 h4 h5 h6 h7 a4 f4 q4 h18 h19 h20 h21
    · refine x_ifeq xc50_55 (xRk (by decide)) (fun _ => ?_) (fun h => absurd h (by omega))
      refine x_iconst xc50_78 ?_
      refine x_iret xc50_79 (Or.inr ⟨rfl, (by omega)⟩) ?_
      exact k5 h0 h1 h2 a2 f2 q2 h8 h9 h10 h11
  · refine x_aloadn xc50_16 rfl ?_
    refine x_gfr xc50_17 rfl rfl xz33 rfl ?_
    refine x_iconst xc50_20 ?_
    refine x_cV (as := [xV 1]) (rest := []) xc50_21 rfl xi39 xz1 ⟨rfl, rfl⟩ rfl rfl ?_
    refine xk39 hC (by omega) (by omega) hb hA (xRk (by decide)) (by omega) ?_
    refine x_iret xc50_24 (Or.inr ⟨rfl, (by omega)⟩) ?_
    exact k6 h0 h1 h2

theorem xk50 {ro : Nat → Nat × (Nat → Int32)} {d : Nat} {Q : Option Value → pmS → Prop} {a : xA} {b : xB} {t : Int → Int} {n p : Int} (hC : tC a t n p) (hp : 0 ≤ p ∧ p ≤ n) (hn : n ≤ 60) (hb : tB t) (hA : xAr a) (hf : a 1 4 = 0) (hd : 4 ≤ d)
    (hT : ∀ (a1 : xA) (p1 : Int), tC a1 t n p1 → kL a a1 → a1 1 4 = 0 → rEv t n p = (0, p1) → p < p1 ∧ p1 ≤ n → Q (some (xV 1)) (xS a1 b))
    (hF : ∀ (a1 : xA) (f q : Int), kL a a1 → a1 1 4 = f → f < 0 ∧ -10000 < f → rEv t n p = (f, q) → Q (some (xV 0)) (xS a1 b)) : pmCs ro d 50 [.ref 33] (xS a b) Q := by
  refine pmCs_deep (d := 4) (xg50 (w50 hC hp hn hb hA hf (by decide) ?_ ?_ ?_ ?_ ?_ ?_)) hd
  · intro h0 h1 h2 a1 p1 h3 h4 h5 h6 h7 a3 p3 h13 h14 h15 h16 h17 a5 p5 h23 h24 h25 h26 h27 h33 h34
    first | (exfalso; omega) | exact hT _ (p5 + 1) (tC.ot (by decide) (by decide) (tC.ot (by decide) (by decide) (tC.at h23))) (kL.u (xRk (by have g0 := xOrB (a5 33 4) 4096; omega)) (by omega) (by omega) (kL.u (xRk (by have g0 := xOrB (a5 33 3) 4096; omega)) (by omega) (by omega) (kL.u (xRk (by omega)) (by omega) (by omega) (kL.tr (kL.tr (kL.tr (kL.u (xRk (by have g0 := rKdB (sG t n p); omega)) (by omega) (by omega) (kL.u (xRk (by decide)) (by omega) (by omega) (kL.u (xRk (by omega)) (by omega) (by omega) (kL.r hA)))) h4) h14) h24)))) (by rw [xUn (by decide), xUn (by decide), xUk (by decide), h25]) (by unfold rEv; (repeat (first | rw [rSeq_00] | rw [rSeq_as] | rw [rSeq_0 (by assumption)] | rw [rSeq_n (by assumption) (by omega)] | rw [if_neg (by omega)] | rw [if_pos (by omega)])); all_goals (repeat' split); all_goals (first | (exfalso; omega) | assumption | rfl)) (by omega)
  · intro h0 h1 h2 a1 p1 h3 h4 h5 h6 h7 a3 p3 h13 h14 h15 h16 h17 a5 p5 h23 h24 h25 h26 h27 h35
    first | (exfalso; omega) | exact hT _ (p5) h23 (kL.tr (kL.tr (kL.tr (kL.u (xRk (by have g0 := rKdB (sG t n p); omega)) (by omega) (by omega) (kL.u (xRk (by decide)) (by omega) (by omega) (kL.u (xRk (by omega)) (by omega) (by omega) (kL.r hA)))) h4) h14) h24) h25 (by unfold rEv; (repeat (first | rw [rSeq_00] | rw [rSeq_as] | rw [rSeq_0 (by assumption)] | rw [rSeq_n (by assumption) (by omega)] | rw [if_neg (by omega)] | rw [if_pos (by omega)])); all_goals (repeat' split); all_goals (first | (exfalso; omega) | assumption | rfl)) (by omega)
  · intro h0 h1 h2 a1 p1 h3 h4 h5 h6 h7 a3 p3 h13 h14 h15 h16 h17 a6 f6 q6 h28 h29 h30 h31
    first | (exfalso; omega) | exact hF _ (f6) _ (kL.tr (kL.tr (kL.tr (kL.u (xRk (by have g0 := rKdB (sG t n p); omega)) (by omega) (by omega) (kL.u (xRk (by decide)) (by omega) (by omega) (kL.u (xRk (by omega)) (by omega) (by omega) (kL.r hA)))) h4) h14) h28) h29 (by omega) (Prod.ext (by unfold rEv; (repeat (first | rw [rSeq_00] | rw [rSeq_as] | rw [rSeq_0 (by assumption)] | rw [rSeq_n (by assumption) (by omega)] | rw [if_neg (by omega)] | rw [if_pos (by omega)])); all_goals (repeat' split); all_goals (first | (exfalso; omega) | (dsimp only; exact rFst (by assumption)) | (dsimp only; omega) | omega)) rfl)
  · intro h0 h1 h2 a1 p1 h3 h4 h5 h6 h7 a4 f4 q4 h18 h19 h20 h21
    first | (exfalso; omega) | exact hF _ (f4) _ (kL.tr (kL.tr (kL.u (xRk (by have g0 := rKdB (sG t n p); omega)) (by omega) (by omega) (kL.u (xRk (by decide)) (by omega) (by omega) (kL.u (xRk (by omega)) (by omega) (by omega) (kL.r hA)))) h4) h18) h19 (by omega) (Prod.ext (by unfold rEv; (repeat (first | rw [rSeq_00] | rw [rSeq_as] | rw [rSeq_0 (by assumption)] | rw [rSeq_n (by assumption) (by omega)] | rw [if_neg (by omega)] | rw [if_pos (by omega)])); all_goals (repeat' split); all_goals (first | (exfalso; omega) | (dsimp only; exact rFst (by assumption)) | (dsimp only; omega) | omega)) rfl)
  · intro h0 h1 h2 a2 f2 q2 h8 h9 h10 h11
    first | (exfalso; omega) | exact hF _ (f2) _ (kL.tr (kL.u (xRk (by have g0 := rKdB (sG t n p); omega)) (by omega) (by omega) (kL.u (xRk (by decide)) (by omega) (by omega) (kL.u (xRk (by omega)) (by omega) (by omega) (kL.r hA)))) h8) h9 (by omega) (Prod.ext (by unfold rEv; (repeat (first | rw [rSeq_00] | rw [rSeq_as] | rw [rSeq_0 (by assumption)] | rw [rSeq_n (by assumption) (by omega)] | rw [if_neg (by omega)] | rw [if_pos (by omega)])); all_goals (repeat' split); all_goals (first | (exfalso; omega) | (dsimp only; exact rFst (by assumption)) | (dsimp only; omega) | omega)) rfl)
  · intro h0 h1 h2
    first | (exfalso; omega) | exact hF _ (-1000 * 1 - p) _ (kL.u (xRk (by omega)) (by omega) (by omega) (kL.r hA)) (by rw [xUa]) (by omega) (Prod.ext (by unfold rEv; (repeat (first | rw [rSeq_00] | rw [rSeq_as] | rw [rSeq_0 (by assumption)] | rw [rSeq_n (by assumption) (by omega)] | rw [if_neg (by omega)] | rw [if_pos (by omega)])); all_goals (repeat' split); all_goals (first | (exfalso; omega) | (dsimp only; exact rFst (by assumption)) | (dsimp only; omega) | omega)) rfl)

theorem xg53 {ro : Nat → Nat × (Nat → Int32)} {d : Nat} {Q : Option Value → pmS → Prop} {a : xA} {b : xB} (h : pmWp ro d 1 53 2 0 [some (.ref 33)] [] (xS a b) Q) : pmCs ro (d + 1) 53 [.ref 33] (xS a b) Q := x_go xi53 rfl rfl rfl rfl rfl h
theorem w53 {ro : Nat → Nat × (Nat → Int32)} {d : Nat} {Q : Option Value → pmS → Prop} {a : xA} {b : xB} {t : Int → Int} {n p : Int} (hC : tC a t n p) (hp : 0 ≤ p ∧ p ≤ n) (hn : n ≤ 60) (hb : tB t) (hA : xAr a) (hf : a 1 4 = 0) (hd : 2 ≤ d)
    (k1 : (sG t n p = 44) → (p < n) → Q (some (xV 1)) (xS (xU a 1 3 (p + 1)) b))
    (k2 : (¬ sG t n p = 44) → Q (some (xV 0)) (xS (xU a 1 4 (-1000 * 1 - p)) b)) :
    pmWp ro d 1 53 2 0 [some (.ref 33)] [] (xS a b) Q := by
  refine x_aloadn xc53_0 rfl ?_
  refine x_gfr xc53_1 rfl rfl xz33 rfl ?_
  refine x_bipush xc53_4 (by decide) ?_
  refine x_cV (as := [xV 44]) (rest := []) xc53_6 rfl xi44 xz1 ⟨rfl, rfl⟩ rfl rfl ?_
  refine xk44 hC (by omega) (by omega) hb hA (by omega) (by omega) (fun h0 h1 => ?_) (fun h2 => ?_)
  · refine x_ifne xc53_9 (xRk (by decide)) (fun _ => ?_) (fun h => absurd h (by omega))
    refine x_iconst xc53_23 ?_
    refine x_goto xc53_24 ?_
    refine x_iret xc53_28 (Or.inr ⟨rfl, (by omega)⟩) ?_
    exact k1 h0 h1
  · refine x_ifne xc53_9 (xRk (by decide)) (fun h => absurd h (by omega)) (fun _ => ?_)
    refine x_aloadn xc53_12 rfl ?_
    refine x_gfr xc53_13 rfl rfl xz33 rfl ?_
    refine x_iconst xc53_16 ?_
    refine x_cV (as := [xV 1]) (rest := []) xc53_17 rfl xi39 xz1 ⟨rfl, rfl⟩ rfl rfl ?_
    refine xk39 hC (by omega) (by omega) hb hA (xRk (by decide)) (by omega) ?_
    refine x_ifeq xc53_20 (xRk (by decide)) (fun _ => ?_) (fun h => absurd h (by omega))
    refine x_iconst xc53_27 ?_
    refine x_iret xc53_28 (Or.inr ⟨rfl, (by omega)⟩) ?_
    exact k2 h2

theorem xk53 {ro : Nat → Nat × (Nat → Int32)} {d : Nat} {Q : Option Value → pmS → Prop} {a : xA} {b : xB} {t : Int → Int} {n p : Int} (hC : tC a t n p) (hp : 0 ≤ p ∧ p ≤ n) (hn : n ≤ 60) (hb : tB t) (hA : xAr a) (hf : a 1 4 = 0) (hd : 3 ≤ d)
    (hT : ∀ (a1 : xA) (p1 : Int), tC a1 t n p1 → kL a a1 → a1 1 4 = 0 → rCom t n 44 p = (0, p1) → p < p1 ∧ p1 ≤ n → Q (some (xV 1)) (xS a1 b))
    (hF : ∀ (a1 : xA) (f q : Int), kL a a1 → a1 1 4 = f → f < 0 ∧ -10000 < f → rCom t n 44 p = (f, q) → Q (some (xV 0)) (xS a1 b)) : pmCs ro d 53 [.ref 33] (xS a b) Q := by
  refine pmCs_deep (d := 3) (xg53 (w53 hC hp hn hb hA hf (by decide) ?_ ?_)) hd
  · intro h0 h1
    first | (exfalso; omega) | exact hT _ (p + 1) (tC.at hC) (kL.u (xRk (by omega)) (by omega) (by omega) (kL.r hA)) (by rw [xUk (by decide), hf]) (by unfold rCom; (repeat (first | rw [rSeq_00] | rw [rSeq_as] | rw [rSeq_0 (by assumption)] | rw [rSeq_n (by assumption) (by omega)] | rw [if_neg (by omega)] | rw [if_pos (by omega)])); all_goals (repeat' split); all_goals (first | (exfalso; omega) | assumption | rfl)) (by omega)
  · intro h2
    first | (exfalso; omega) | exact hF _ (-1000 * 1 - p) _ (kL.u (xRk (by omega)) (by omega) (by omega) (kL.r hA)) (by rw [xUa]) (by omega) (Prod.ext (by unfold rCom; (repeat (first | rw [rSeq_00] | rw [rSeq_as] | rw [rSeq_0 (by assumption)] | rw [rSeq_n (by assumption) (by omega)] | rw [if_neg (by omega)] | rw [if_pos (by omega)])); all_goals (repeat' split); all_goals (first | (exfalso; omega) | (dsimp only; exact rFst (by assumption)) | (dsimp only; omega) | omega)) rfl)

theorem xg54 {ro : Nat → Nat × (Nat → Int32)} {d : Nat} {Q : Option Value → pmS → Prop} {a : xA} {b : xB} {x : Int} (h : pmWp ro d 1 54 2 0 [some (.ref 33), some (xV x), none] [] (xS a b) Q) : pmCs ro (d + 1) 54 [.ref 33, xV x] (xS a b) Q := x_go xi54 rfl rfl rfl rfl rfl h
theorem w54 {ro : Nat → Nat × (Nat → Int32)} {d : Nat} {Q : Option Value → pmS → Prop} {a : xA} {b : xB} {t : Int → Int} {n p : Int} (hC : tC a t n p) (hp : 0 ≤ p ∧ p ≤ n) (hn : n ≤ 60) (hb : tB t) (hA : xAr a) (hf : a 1 4 = 0) {x : Int} (h_x : xR x) (hx : 0 ≤ x ∧ x < 24) (hd : 2 ≤ d)
    (k1 : (sG t n p < 48 ∨ 57 < sG t n p) → Q (some (xV 0)) (xS (xU a 1 4 (-1000 * 1 - p)) b))
    (k2 : (¬ (sG t n p < 48 ∨ 57 < sG t n p)) → (9 < sG t n p - 48) → Q (some (xV 0)) (xS (xU a 1 4 (-1000 * 3 - p)) b))
    (k3 : (¬ (sG t n p < 48 ∨ 57 < sG t n p)) → (¬ 9 < sG t n p - 48) → (p < n) → (¬ sG t n p - 48 = -1) → (¬ (sG t n (p + 1) < 48 ∨ 57 < sG t n (p + 1))) → (sG t n (p + 1) < 48 ∨ 57 < sG t n (p + 1)) → (¬ (sG t n (p + 1) < 48 ∨ 57 < sG t n (p + 1))) → Q (some (xV 0)) (xS (xU (xU (xU a 1 3 (p + 1)) 1 4 (-1000 * 1 - (p + 1))) 1 4 (-1000 * 2 - (p + 1))) b))
    (k4 : (¬ (sG t n p < 48 ∨ 57 < sG t n p)) → (¬ 9 < sG t n p - 48) → (p < n) → (¬ sG t n p - 48 = -1) → (¬ (sG t n (p + 1) < 48 ∨ 57 < sG t n (p + 1))) → (sG t n (p + 1) < 48 ∨ 57 < sG t n (p + 1)) → (sG t n (p + 1) < 48 ∨ 57 < sG t n (p + 1)) → Q (some (xV 1)) (xS (xU (xU (xU a 1 3 (p + 1)) 1 4 (-1000 * 1 - (p + 1))) 19 x (10 * (sG t n p - 48) + (-1))) b))
    (k5 : (¬ (sG t n p < 48 ∨ 57 < sG t n p)) → (¬ 9 < sG t n p - 48) → (p < n) → (¬ sG t n p - 48 = -1) → (¬ (sG t n (p + 1) < 48 ∨ 57 < sG t n (p + 1))) → (¬ (sG t n (p + 1) < 48 ∨ 57 < sG t n (p + 1))) → (9 < sG t n (p + 1) - 48) → (¬ (sG t n (p + 1) < 48 ∨ 57 < sG t n (p + 1))) → Q (some (xV 0)) (xS (xU (xU (xU a 1 3 (p + 1)) 1 4 (-1000 * 3 - (p + 1))) 1 4 (-1000 * 2 - (p + 1))) b))
    (k6 : (¬ (sG t n p < 48 ∨ 57 < sG t n p)) → (¬ 9 < sG t n p - 48) → (p < n) → (¬ sG t n p - 48 = -1) → (¬ (sG t n (p + 1) < 48 ∨ 57 < sG t n (p + 1))) → (¬ (sG t n (p + 1) < 48 ∨ 57 < sG t n (p + 1))) → (9 < sG t n (p + 1) - 48) → (sG t n (p + 1) < 48 ∨ 57 < sG t n (p + 1)) → Q (some (xV 1)) (xS (xU (xU (xU a 1 3 (p + 1)) 1 4 (-1000 * 3 - (p + 1))) 19 x (10 * (sG t n p - 48) + (-1))) b))
    (k7 : (¬ (sG t n p < 48 ∨ 57 < sG t n p)) → (¬ 9 < sG t n p - 48) → (p < n) → (¬ sG t n p - 48 = -1) → (¬ (sG t n (p + 1) < 48 ∨ 57 < sG t n (p + 1))) → (¬ (sG t n (p + 1) < 48 ∨ 57 < sG t n (p + 1))) → (¬ 9 < sG t n (p + 1) - 48) → (p + 1 < n) → (¬ (sG t n (p + 1 + 1) < 48 ∨ 57 < sG t n (p + 1 + 1))) → Q (some (xV 0)) (xS (xU (xU (xU a 1 3 (p + 1)) 1 3 (p + 1 + 1)) 1 4 (-1000 * 2 - (p + 1 + 1))) b))
    (k8 : (¬ (sG t n p < 48 ∨ 57 < sG t n p)) → (¬ 9 < sG t n p - 48) → (p < n) → (¬ sG t n p - 48 = -1) → (¬ (sG t n (p + 1) < 48 ∨ 57 < sG t n (p + 1))) → (¬ (sG t n (p + 1) < 48 ∨ 57 < sG t n (p + 1))) → (¬ 9 < sG t n (p + 1) - 48) → (p + 1 < n) → (sG t n (p + 1 + 1) < 48 ∨ 57 < sG t n (p + 1 + 1)) → Q (some (xV 1)) (xS (xU (xU (xU a 1 3 (p + 1)) 1 3 (p + 1 + 1)) 19 x (10 * (sG t n p - 48) + (sG t n (p + 1) - 48))) b))
    (k9 : (¬ (sG t n p < 48 ∨ 57 < sG t n p)) → (¬ 9 < sG t n p - 48) → (p < n) → (¬ sG t n p - 48 = -1) → (sG t n (p + 1) < 48 ∨ 57 < sG t n (p + 1)) → (¬ (sG t n (p + 1) < 48 ∨ 57 < sG t n (p + 1))) → Q (some (xV 0)) (xS (xU (xU a 1 3 (p + 1)) 1 4 (-1000 * 2 - (p + 1))) b))
    (k10 : (¬ (sG t n p < 48 ∨ 57 < sG t n p)) → (¬ 9 < sG t n p - 48) → (p < n) → (¬ sG t n p - 48 = -1) → (sG t n (p + 1) < 48 ∨ 57 < sG t n (p + 1)) → (sG t n (p + 1) < 48 ∨ 57 < sG t n (p + 1)) → Q (some (xV 1)) (xS (xU (xU a 1 3 (p + 1)) 19 x (sG t n p - 48)) b))
    (k11 : (¬ (sG t n p < 48 ∨ 57 < sG t n p)) → (¬ 9 < sG t n p - 48) → (p < n) → (¬ ¬ sG t n p - 48 = -1) → Q (some (xV 0)) (xS (xU a 1 3 (p + 1)) b)) :
    pmWp ro d 1 54 2 0 [some (.ref 33), some (xV x), none] [] (xS a b) Q := by
  refine x_aloadn xc54_0 rfl ?_
  refine x_gfr xc54_1 rfl rfl xz33 rfl ?_
  refine x_bipush xc54_4 (by decide) ?_
  refine x_cV (as := [xV 9]) (rest := []) xc54_6 rfl xi40 xz1 ⟨rfl, rfl⟩ rfl rfl ?_
  refine xk40 hC (by omega) (by omega) hb hA (xRk (by decide)) (by omega) (fun h0 => ?_) (fun h1 h2 => ?_) (fun h3 h4 h5 => ?_)
  · refine x_istoren (pl' := [some (.ref 33), some (xV x), some (xV (-1))]) xc54_9 rfl rfl ?_
    refine x_iloadn xc54_10 rfl ?_
    refine x_iconst xc54_11 ?_
    refine x_icne xc54_12 (xRk (by decide)) (xRk (by decide)) (fun h => absurd h (by omega)) (fun _ => ?_)
    refine x_iconst xc54_15 ?_
    refine x_iret xc54_16 (Or.inr ⟨rfl, (by omega)⟩) ?_
    exact k1 h0
  · refine x_istoren (pl' := [some (.ref 33), some (xV x), some (xV (-1))]) xc54_9 rfl rfl ?_
    refine x_iloadn xc54_10 rfl ?_
    refine x_iconst xc54_11 ?_
    refine x_icne xc54_12 (xRk (by decide)) (xRk (by decide)) (fun h => absurd h (by omega)) (fun _ => ?_)
    refine x_iconst xc54_15 ?_
    refine x_iret xc54_16 (Or.inr ⟨rfl, (by omega)⟩) ?_
    exact k2 h1 h2
  · refine x_istoren (pl' := [some (.ref 33), some (xV x), some (xV (sG t n p - 48))]) xc54_9 rfl rfl ?_
    refine x_iloadn xc54_10 rfl ?_
    refine x_iconst xc54_11 ?_
    refine x_icne xc54_12 (xRk (by have g0 := sGB (n := n) (p := p) hb (by omega); omega)) (xRk (by decide)) (fun h8 => ?_) (fun h8 => ?_)
    · refine x_aloadn xc54_17 rfl ?_
      refine x_gfr xc54_18 rfl rfl xz33 rfl ?_
      refine x_cV (as := []) (rest := []) xc54_21 rfl xi55 xz1 ⟨rfl, rfl⟩ rfl rfl ?_
      refine xk55 (tC.at hC) (by omega) (by omega) hb (xAr_u hA (xRk (by omega))) (by omega) (fun h9 => ?_) (fun h10 => ?_)
      · refine x_ifeq xc54_24 (xRk (by decide)) (fun h => absurd h (by omega)) (fun _ => ?_)
        refine x_bipush xc54_27 (by decide) ?_
        refine x_iloadn xc54_29 rfl ?_
        refine x_imul xc54_30 ?_
        refine x_aloadn xc54_31 rfl ?_
        refine x_gfr xc54_32 rfl rfl xz33 rfl ?_
        refine x_bipush xc54_35 (by decide) ?_
        refine x_cV (as := [xV 9]) (rest := [xV (10 * (sG t n p - 48))]) xc54_37 rfl xi40 xz1 ⟨rfl, rfl⟩ rfl rfl ?_
        refine xk40 (tC.at hC) (by omega) (by omega) hb (xAr_u hA (xRk (by omega))) (xRk (by decide)) (by omega) (fun h12 => ?_) (fun h13 h14 => ?_) (fun h15 h16 h17 => ?_)
        · refine x_iadd xc54_40 ?_
          refine x_istoren (pl' := [some (.ref 33), some (xV x), some (xV (10 * (sG t n p - 48) + (-1)))]) xc54_41 rfl rfl ?_
          refine x_aloadn xc54_42 rfl ?_
          refine x_gfr xc54_43 rfl rfl xz33 rfl ?_
          refine x_cV (as := []) (rest := []) xc54_46 rfl xi55 xz1 ⟨rfl, rfl⟩ rfl rfl ?_
          refine xk55 (tC.fl (tC.at hC)) (by omega) (by omega) hb (xAr_u (xAr_u hA (xRk (by omega))) (xRk (by omega))) (by omega) (fun h18 => ?_) (fun h19 => ?_)
          · refine x_ifeq xc54_49 (xRk (by decide)) (fun h => absurd h (by omega)) (fun _ => ?_)
            refine x_aloadn xc54_52 rfl ?_
            refine x_gfr xc54_53 rfl rfl xz33 rfl ?_
            refine x_iconst xc54_56 ?_
            refine x_cV (as := [xV 2]) (rest := []) xc54_57 rfl xi39 xz1 ⟨rfl, rfl⟩ rfl rfl ?_
            refine xk39 (tC.fl (tC.at hC)) (by omega) (by omega) hb (xAr_u (xAr_u hA (xRk (by omega))) (xRk (by omega))) (xRk (by decide)) (by omega) ?_
            refine x_iret xc54_60 (Or.inr ⟨rfl, (by omega)⟩) ?_
            exact k3 h3 h4 h5 h8 h9 h12 h18
          · refine x_ifeq xc54_49 (xRk (by decide)) (fun _ => ?_) (fun h => absurd h (by omega))
            refine x_aloadn xc54_61 rfl ?_
            refine x_gfr xc54_62 rfl rfl xz33 rfl ?_
            refine x_gfr xc54_65 rfl rfl xz13 rfl ?_
            refine x_iloadn xc54_68 rfl ?_
            refine x_iloadn xc54_69 rfl ?_
            refine x_ias xc54_70 xz19 (by have g0 := xRb h_x; omega) (by have g0 := xRb h_x; omega) (by have g0 := xRb h_x; omega) ?_
            refine x_iconst xc54_71 ?_
            refine x_iret xc54_72 (Or.inr ⟨rfl, (by omega)⟩) ?_
            exact k4 h3 h4 h5 h8 h9 h12 h19
        · refine x_iadd xc54_40 ?_
          refine x_istoren (pl' := [some (.ref 33), some (xV x), some (xV (10 * (sG t n p - 48) + (-1)))]) xc54_41 rfl rfl ?_
          refine x_aloadn xc54_42 rfl ?_
          refine x_gfr xc54_43 rfl rfl xz33 rfl ?_
          refine x_cV (as := []) (rest := []) xc54_46 rfl xi55 xz1 ⟨rfl, rfl⟩ rfl rfl ?_
          refine xk55 (tC.fl (tC.at hC)) (by omega) (by omega) hb (xAr_u (xAr_u hA (xRk (by omega))) (xRk (by omega))) (by omega) (fun h22 => ?_) (fun h23 => ?_)
          · refine x_ifeq xc54_49 (xRk (by decide)) (fun h => absurd h (by omega)) (fun _ => ?_)
            refine x_aloadn xc54_52 rfl ?_
            refine x_gfr xc54_53 rfl rfl xz33 rfl ?_
            refine x_iconst xc54_56 ?_
            refine x_cV (as := [xV 2]) (rest := []) xc54_57 rfl xi39 xz1 ⟨rfl, rfl⟩ rfl rfl ?_
            refine xk39 (tC.fl (tC.at hC)) (by omega) (by omega) hb (xAr_u (xAr_u hA (xRk (by omega))) (xRk (by omega))) (xRk (by decide)) (by omega) ?_
            refine x_iret xc54_60 (Or.inr ⟨rfl, (by omega)⟩) ?_
            exact k5 h3 h4 h5 h8 h9 h13 h14 h22
          · refine x_ifeq xc54_49 (xRk (by decide)) (fun _ => ?_) (fun h => absurd h (by omega))
            refine x_aloadn xc54_61 rfl ?_
            refine x_gfr xc54_62 rfl rfl xz33 rfl ?_
            refine x_gfr xc54_65 rfl rfl xz13 rfl ?_
            refine x_iloadn xc54_68 rfl ?_
            refine x_iloadn xc54_69 rfl ?_
            refine x_ias xc54_70 xz19 (by have g0 := xRb h_x; omega) (by have g0 := xRb h_x; omega) (by have g0 := xRb h_x; omega) ?_
            refine x_iconst xc54_71 ?_
            refine x_iret xc54_72 (Or.inr ⟨rfl, (by omega)⟩) ?_
            exact k6 h3 h4 h5 h8 h9 h13 h14 h23
        · refine x_iadd xc54_40 ?_
          refine x_istoren (pl' := [some (.ref 33), some (xV x), some (xV (10 * (sG t n p - 48) + (sG t n (p + 1) - 48)))]) xc54_41 rfl rfl ?_
          refine x_aloadn xc54_42 rfl ?_
          refine x_gfr xc54_43 rfl rfl xz33 rfl ?_
          refine x_cV (as := []) (rest := []) xc54_46 rfl xi55 xz1 ⟨rfl, rfl⟩ rfl rfl ?_
          refine xk55 (tC.at (tC.at hC)) (by omega) (by omega) hb (xAr_u (xAr_u hA (xRk (by omega))) (xRk (by omega))) (by omega) (fun h26 => ?_) (fun h27 => ?_)
          · refine x_ifeq xc54_49 (xRk (by decide)) (fun h => absurd h (by omega)) (fun _ => ?_)
            refine x_aloadn xc54_52 rfl ?_
            refine x_gfr xc54_53 rfl rfl xz33 rfl ?_
            refine x_iconst xc54_56 ?_
            refine x_cV (as := [xV 2]) (rest := []) xc54_57 rfl xi39 xz1 ⟨rfl, rfl⟩ rfl rfl ?_
            refine xk39 (tC.at (tC.at hC)) (by omega) (by omega) hb (xAr_u (xAr_u hA (xRk (by omega))) (xRk (by omega))) (xRk (by decide)) (by omega) ?_
            refine x_iret xc54_60 (Or.inr ⟨rfl, (by omega)⟩) ?_
            exact k7 h3 h4 h5 h8 h9 h15 h16 h17 h26
          · refine x_ifeq xc54_49 (xRk (by decide)) (fun _ => ?_) (fun h => absurd h (by omega))
            refine x_aloadn xc54_61 rfl ?_
            refine x_gfr xc54_62 rfl rfl xz33 rfl ?_
            refine x_gfr xc54_65 rfl rfl xz13 rfl ?_
            refine x_iloadn xc54_68 rfl ?_
            refine x_iloadn xc54_69 rfl ?_
            refine x_ias xc54_70 xz19 (by have g0 := xRb h_x; omega) (by have g0 := xRb h_x; omega) (by have g0 := xRb h_x; omega) ?_
            refine x_iconst xc54_71 ?_
            refine x_iret xc54_72 (Or.inr ⟨rfl, (by omega)⟩) ?_
            exact k8 h3 h4 h5 h8 h9 h15 h16 h17 h27
      · refine x_ifeq xc54_24 (xRk (by decide)) (fun _ => ?_) (fun h => absurd h (by omega))
        refine x_aloadn xc54_42 rfl ?_
        refine x_gfr xc54_43 rfl rfl xz33 rfl ?_
        refine x_cV (as := []) (rest := []) xc54_46 rfl xi55 xz1 ⟨rfl, rfl⟩ rfl rfl ?_
        refine xk55 (tC.at hC) (by omega) (by omega) hb (xAr_u hA (xRk (by omega))) (by omega) (fun h31 => ?_) (fun h32 => ?_)
        · refine x_ifeq xc54_49 (xRk (by decide)) (fun h => absurd h (by omega)) (fun _ => ?_)
          refine x_aloadn xc54_52 rfl ?_
          refine x_gfr xc54_53 rfl rfl xz33 rfl ?_
          refine x_iconst xc54_56 ?_
          refine x_cV (as := [xV 2]) (rest := []) xc54_57 rfl xi39 xz1 ⟨rfl, rfl⟩ rfl rfl ?_
          refine xk39 (tC.at hC) (by omega) (by omega) hb (xAr_u hA (xRk (by omega))) (xRk (by decide)) (by omega) ?_
          refine x_iret xc54_60 (Or.inr ⟨rfl, (by omega)⟩) ?_
          exact k9 h3 h4 h5 h8 h10 h31
        · refine x_ifeq xc54_49 (xRk (by decide)) (fun _ => ?_) (fun h => absurd h (by omega))
          refine x_aloadn xc54_61 rfl ?_
          refine x_gfr xc54_62 rfl rfl xz33 rfl ?_
          refine x_gfr xc54_65 rfl rfl xz13 rfl ?_
          refine x_iloadn xc54_68 rfl ?_
          refine x_iloadn xc54_69 rfl ?_
          refine x_ias xc54_70 xz19 (by have g0 := xRb h_x; omega) (by have g0 := xRb h_x; omega) (by have g0 := xRb h_x; omega) ?_
          refine x_iconst xc54_71 ?_
          refine x_iret xc54_72 (Or.inr ⟨rfl, (by omega)⟩) ?_
          exact k10 h3 h4 h5 h8 h10 h32
    · refine x_iconst xc54_15 ?_
      refine x_iret xc54_16 (Or.inr ⟨rfl, (by omega)⟩) ?_
      exact k11 h3 h4 h5 h8

theorem xk54 {ro : Nat → Nat × (Nat → Int32)} {d : Nat} {Q : Option Value → pmS → Prop} {a : xA} {b : xB} {t : Int → Int} {n p : Int} (hC : tC a t n p) (hp : 0 ≤ p ∧ p ≤ n) (hn : n ≤ 60) (hb : tB t) (hA : xAr a) {x : Int} (hx : 0 ≤ x ∧ x < 24) (hf : a 1 4 = 0) (hd : 3 ≤ d)
    (hT : ∀ (a1 : xA) (p1 : Int), tC a1 t n p1 → kL a a1 → a1 1 4 = 0 → rNum t n p = (0, p1) → p < p1 ∧ p1 ≤ n → Q (some (xV 1)) (xS a1 b))
    (hF : ∀ (a1 : xA) (f q : Int), kL a a1 → a1 1 4 = f → f < 0 ∧ -10000 < f → rNum t n p = (f, q) → Q (some (xV 0)) (xS a1 b)) : pmCs ro d 54 [.ref 33, xV x] (xS a b) Q := by
  refine pmCs_deep (d := 3) (xg54 (w54 hC hp hn hb hA hf ⟨by omega, by omega⟩ hx (by decide) ?_ ?_ ?_ ?_ ?_ ?_ ?_ ?_ ?_ ?_ ?_)) hd
  · intro h0
    first | (exfalso; omega) | exact hF _ (-1000 * 1 - p) _ (kL.u (xRk (by omega)) (by omega) (by omega) (kL.r hA)) (by rw [xUa]) (by omega) (Prod.ext (by unfold rNum; (repeat (first | rw [rSeq_00] | rw [rSeq_as] | rw [rSeq_0 (by assumption)] | rw [rSeq_n (by assumption) (by omega)] | rw [if_neg (by omega)] | rw [if_pos (by omega)])); all_goals (repeat' split); all_goals (first | (exfalso; omega) | (dsimp only; exact rFst (by assumption)) | (dsimp only; omega) | omega)) rfl)
  · intro h1 h2
    first | (exfalso; omega) | exact hF _ (-1000 * 3 - p) _ (kL.u (xRk (by omega)) (by omega) (by omega) (kL.r hA)) (by rw [xUa]) (by omega) (Prod.ext (by unfold rNum; (repeat (first | rw [rSeq_00] | rw [rSeq_as] | rw [rSeq_0 (by assumption)] | rw [rSeq_n (by assumption) (by omega)] | rw [if_neg (by omega)] | rw [if_pos (by omega)])); all_goals (repeat' split); all_goals (first | (exfalso; omega) | (dsimp only; exact rFst (by assumption)) | (dsimp only; omega) | omega)) rfl)
  · intro h3 h4 h5 h8 h9 h12 h18
    first | (exfalso; omega) | exact hF _ (-1000 * 2 - (p + 1)) _ (kL.u (xRk (by omega)) (by omega) (by omega) (kL.u (xRk (by omega)) (by omega) (by omega) (kL.u (xRk (by omega)) (by omega) (by omega) (kL.r hA)))) (by rw [xUa]) (by omega) (Prod.ext (by unfold rNum; (repeat (first | rw [rSeq_00] | rw [rSeq_as] | rw [rSeq_0 (by assumption)] | rw [rSeq_n (by assumption) (by omega)] | rw [if_neg (by omega)] | rw [if_pos (by omega)])); all_goals (repeat' split); all_goals (first | (exfalso; omega) | (dsimp only; exact rFst (by assumption)) | (dsimp only; omega) | omega)) rfl)
  · intro h3 h4 h5 h8 h9 h12 h19
    first | (exfalso; omega) | exact hT _ (p + 1) (tC.ot (by decide) (by decide) (tC.fl (tC.at hC))) (kL.u (xRk (by have g0 := sGB (n := n) (p := p) hb (by omega); omega)) (by omega) (by omega) (kL.u (xRk (by omega)) (by omega) (by omega) (kL.u (xRk (by omega)) (by omega) (by omega) (kL.r hA)))) (by rw [xUn (by decide), xUa]) (by unfold rNum; (repeat (first | rw [rSeq_00] | rw [rSeq_as] | rw [rSeq_0 (by assumption)] | rw [rSeq_n (by assumption) (by omega)] | rw [if_neg (by omega)] | rw [if_pos (by omega)])); all_goals (repeat' split); all_goals (first | (exfalso; omega) | assumption | rfl)) (by omega)
  · intro h3 h4 h5 h8 h9 h13 h14 h22
    first | (exfalso; omega) | exact hF _ (-1000 * 2 - (p + 1)) _ (kL.u (xRk (by omega)) (by omega) (by omega) (kL.u (xRk (by omega)) (by omega) (by omega) (kL.u (xRk (by omega)) (by omega) (by omega) (kL.r hA)))) (by rw [xUa]) (by omega) (Prod.ext (by unfold rNum; (repeat (first | rw [rSeq_00] | rw [rSeq_as] | rw [rSeq_0 (by assumption)] | rw [rSeq_n (by assumption) (by omega)] | rw [if_neg (by omega)] | rw [if_pos (by omega)])); all_goals (repeat' split); all_goals (first | (exfalso; omega) | (dsimp only; exact rFst (by assumption)) | (dsimp only; omega) | omega)) rfl)
  · intro h3 h4 h5 h8 h9 h13 h14 h23
    first | (exfalso; omega) | exact hT _ (p + 1) (tC.ot (by decide) (by decide) (tC.fl (tC.at hC))) (kL.u (xRk (by have g0 := sGB (n := n) (p := p) hb (by omega); omega)) (by omega) (by omega) (kL.u (xRk (by omega)) (by omega) (by omega) (kL.u (xRk (by omega)) (by omega) (by omega) (kL.r hA)))) (by rw [xUn (by decide), xUa]) (by unfold rNum; (repeat (first | rw [rSeq_00] | rw [rSeq_as] | rw [rSeq_0 (by assumption)] | rw [rSeq_n (by assumption) (by omega)] | rw [if_neg (by omega)] | rw [if_pos (by omega)])); all_goals (repeat' split); all_goals (first | (exfalso; omega) | assumption | rfl)) (by omega)
  · intro h3 h4 h5 h8 h9 h15 h16 h17 h26
    first | (exfalso; omega) | exact hF _ (-1000 * 2 - (p + 1 + 1)) _ (kL.u (xRk (by omega)) (by omega) (by omega) (kL.u (xRk (by omega)) (by omega) (by omega) (kL.u (xRk (by omega)) (by omega) (by omega) (kL.r hA)))) (by rw [xUa]) (by omega) (Prod.ext (by unfold rNum; (repeat (first | rw [rSeq_00] | rw [rSeq_as] | rw [rSeq_0 (by assumption)] | rw [rSeq_n (by assumption) (by omega)] | rw [if_neg (by omega)] | rw [if_pos (by omega)])); all_goals (repeat' split); all_goals (first | (exfalso; omega) | (dsimp only; exact rFst (by assumption)) | (dsimp only; omega) | omega)) rfl)
  · intro h3 h4 h5 h8 h9 h15 h16 h17 h27
    first | (exfalso; omega) | exact hT _ (p + 1 + 1) (tC.ot (by decide) (by decide) (tC.at (tC.at hC))) (kL.u (xRk (by have g0 := sGB (n := n) (p := p) hb (by omega); have g1 := sGB (n := n) (p := p + 1) hb (by omega); omega)) (by omega) (by omega) (kL.u (xRk (by omega)) (by omega) (by omega) (kL.u (xRk (by omega)) (by omega) (by omega) (kL.r hA)))) (by rw [xUn (by decide), xUk (by decide), xUk (by decide), hf]) (by unfold rNum; (repeat (first | rw [rSeq_00] | rw [rSeq_as] | rw [rSeq_0 (by assumption)] | rw [rSeq_n (by assumption) (by omega)] | rw [if_neg (by omega)] | rw [if_pos (by omega)])); all_goals (repeat' split); all_goals (first | (exfalso; omega) | assumption | rfl)) (by omega)
  · intro h3 h4 h5 h8 h10 h31
    first | (exfalso; omega) | exact hF _ (-1000 * 2 - (p + 1)) _ (kL.u (xRk (by omega)) (by omega) (by omega) (kL.u (xRk (by omega)) (by omega) (by omega) (kL.r hA))) (by rw [xUa]) (by omega) (Prod.ext (by unfold rNum; (repeat (first | rw [rSeq_00] | rw [rSeq_as] | rw [rSeq_0 (by assumption)] | rw [rSeq_n (by assumption) (by omega)] | rw [if_neg (by omega)] | rw [if_pos (by omega)])); all_goals (repeat' split); all_goals (first | (exfalso; omega) | (dsimp only; exact rFst (by assumption)) | (dsimp only; omega) | omega)) rfl)
  · intro h3 h4 h5 h8 h10 h32
    first | (exfalso; omega) | exact hT _ (p + 1) (tC.ot (by decide) (by decide) (tC.at hC)) (kL.u (xRk (by have g0 := sGB (n := n) (p := p) hb (by omega); omega)) (by omega) (by omega) (kL.u (xRk (by omega)) (by omega) (by omega) (kL.r hA))) (by rw [xUn (by decide), xUk (by decide), hf]) (by unfold rNum; (repeat (first | rw [rSeq_00] | rw [rSeq_as] | rw [rSeq_0 (by assumption)] | rw [rSeq_n (by assumption) (by omega)] | rw [if_neg (by omega)] | rw [if_pos (by omega)])); all_goals (repeat' split); all_goals (first | (exfalso; omega) | assumption | rfl)) (by omega)
  · intro h3 h4 h5 h8
    first | (exfalso; omega) | exact hF _ (0) _ (kL.u (xRk (by omega)) (by omega) (by omega) (kL.r hA)) (by rw [xUk (by decide), hf]) (by omega) (Prod.ext (by unfold rNum; (repeat (first | rw [rSeq_00] | rw [rSeq_as] | rw [rSeq_0 (by assumption)] | rw [rSeq_n (by assumption) (by omega)] | rw [if_neg (by omega)] | rw [if_pos (by omega)])); all_goals (repeat' split); all_goals (first | (exfalso; omega) | (dsimp only; exact rFst (by assumption)) | (dsimp only; omega) | omega)) rfl)

theorem xg49 {ro : Nat → Nat × (Nat → Int32)} {d : Nat} {Q : Option Value → pmS → Prop} {a : xA} {b : xB} (h : pmWp ro d 1 49 2 0 [some (.ref 33), none, none] [] (xS a b) Q) : pmCs ro (d + 1) 49 [.ref 33] (xS a b) Q := x_go xi49 rfl rfl rfl rfl rfl h
theorem w49 {ro : Nat → Nat × (Nat → Int32)} {d : Nat} {Q : Option Value → pmS → Prop} {a : xA} {b : xB} {t : Int → Int} {n p : Int} (hC : tC a t n p) (hp : 0 ≤ p ∧ p ≤ n) (hn : n ≤ 60) (hb : tB t) (hA : xAr a) (hf : a 1 4 = 0) {c m : Int} (hc : a 33 2 = c) (hm : a 13 7 = m) (hc0 : 0 ≤ c ∧ c ≤ 4) (hm0 : 0 ≤ m ∧ m < 6) (hd : 4 ≤ d)
    (k1 : (sG t n p = -1 ∨ p < n) → (sG t n p = 110) → (4 ≤ c) → Q (some (xV 0)) (xS (xU a 1 4 (-1000 * 4 - p)) b))
    (k2 : (sG t n p = -1 ∨ p < n) → (sG t n p = 110) → (¬ 4 ≤ c) → (m * 4 + c < 24) → ∀ a1 : xA, ∀ p1 : Int, (tC a1 t n p1) → (kL (xU (xU (xU a 1 3 (p + 1)) 33 2 (c + 1)) 14 (m * 4 + c) (sG t n p)) a1) → (a1 1 4 = 0) → (rEv t n (p + 1) = (0, p1)) → (p + 1 < p1 ∧ p1 ≤ n) → Q (some (xV 1)) (xS (xU (xU a1 15 (m * 4 + c) (a1 33 3)) 16 (m * 4 + c) (a1 33 4)) b))
    (k3 : (sG t n p = -1 ∨ p < n) → (sG t n p = 110) → (¬ 4 ≤ c) → (m * 4 + c < 24) → ∀ a2 : xA, ∀ f2 : Int, ∀ q2 : Int, (kL (xU (xU (xU a 1 3 (p + 1)) 33 2 (c + 1)) 14 (m * 4 + c) (sG t n p)) a2) → (a2 1 4 = f2) → (f2 < 0 ∧ -10000 < f2) → (rEv t n (p + 1) = (f2, q2)) → Q (some (xV 0)) (xS a2 b))
    (k4 : (sG t n p = -1 ∨ p < n) → (sG t n p = 110) → (¬ 4 ≤ c) → (¬ m * 4 + c < 24) → Q (some (xV 0)) (xS (xU a 1 4 (-1000 * 4 - p)) b))
    (k5 : (sG t n p = -1 ∨ p < n) → (¬ sG t n p = 110) → (sG t n p = 97) → (4 ≤ c) → Q (some (xV 0)) (xS (xU a 1 4 (-1000 * 4 - p)) b))
    (k6 : (sG t n p = -1 ∨ p < n) → (¬ sG t n p = 110) → (sG t n p = 97) → (¬ 4 ≤ c) → (m * 4 + c < 24) → ∀ a3 : xA, ∀ p3 : Int, (tC a3 t n p3) → (kL (xU (xU (xU a 1 3 (p + 1)) 33 2 (c + 1)) 14 (m * 4 + c) (sG t n p)) a3) → (a3 1 4 = 0) → (rEv t n (p + 1) = (0, p3)) → (p + 1 < p3 ∧ p3 ≤ n) → ∀ a5 : xA, ∀ p5 : Int, (tC a5 t n p5) → (kL (xU (xU a3 15 (m * 4 + c) (a3 33 3)) 16 (m * 4 + c) (a3 33 4)) a5) → (a5 1 4 = 0) → (rCom t n 44 p3 = (0, p5)) → (p3 < p5 ∧ p5 ≤ n) → ∀ a7 : xA, ∀ p7 : Int, (tC a7 t n p7) → (kL a5 a7) → (a7 1 4 = 0) → (rEv t n p5 = (0, p7)) → (p5 < p7 ∧ p7 ≤ n) → Q (some (xV 1)) (xS (xU (xU a7 17 (m * 4 + c) (a7 33 3)) 18 (m * 4 + c) (a7 33 4)) b))
    (k7 : (sG t n p = -1 ∨ p < n) → (¬ sG t n p = 110) → (sG t n p = 97) → (¬ 4 ≤ c) → (m * 4 + c < 24) → ∀ a3 : xA, ∀ p3 : Int, (tC a3 t n p3) → (kL (xU (xU (xU a 1 3 (p + 1)) 33 2 (c + 1)) 14 (m * 4 + c) (sG t n p)) a3) → (a3 1 4 = 0) → (rEv t n (p + 1) = (0, p3)) → (p + 1 < p3 ∧ p3 ≤ n) → ∀ a5 : xA, ∀ p5 : Int, (tC a5 t n p5) → (kL (xU (xU a3 15 (m * 4 + c) (a3 33 3)) 16 (m * 4 + c) (a3 33 4)) a5) → (a5 1 4 = 0) → (rCom t n 44 p3 = (0, p5)) → (p3 < p5 ∧ p5 ≤ n) → ∀ a8 : xA, ∀ f8 : Int, ∀ q8 : Int, (kL a5 a8) → (a8 1 4 = f8) → (f8 < 0 ∧ -10000 < f8) → (rEv t n p5 = (f8, q8)) → Q (some (xV 0)) (xS a8 b))
    (k8 : (sG t n p = -1 ∨ p < n) → (¬ sG t n p = 110) → (sG t n p = 97) → (¬ 4 ≤ c) → (m * 4 + c < 24) → ∀ a3 : xA, ∀ p3 : Int, (tC a3 t n p3) → (kL (xU (xU (xU a 1 3 (p + 1)) 33 2 (c + 1)) 14 (m * 4 + c) (sG t n p)) a3) → (a3 1 4 = 0) → (rEv t n (p + 1) = (0, p3)) → (p + 1 < p3 ∧ p3 ≤ n) → ∀ a6 : xA, ∀ f6 : Int, ∀ q6 : Int, (kL (xU (xU a3 15 (m * 4 + c) (a3 33 3)) 16 (m * 4 + c) (a3 33 4)) a6) → (a6 1 4 = f6) → (f6 < 0 ∧ -10000 < f6) → (rCom t n 44 p3 = (f6, q6)) → Q (some (xV 0)) (xS a6 b))
    (k9 : (sG t n p = -1 ∨ p < n) → (¬ sG t n p = 110) → (sG t n p = 97) → (¬ 4 ≤ c) → (m * 4 + c < 24) → ∀ a4 : xA, ∀ f4 : Int, ∀ q4 : Int, (kL (xU (xU (xU a 1 3 (p + 1)) 33 2 (c + 1)) 14 (m * 4 + c) (sG t n p)) a4) → (a4 1 4 = f4) → (f4 < 0 ∧ -10000 < f4) → (rEv t n (p + 1) = (f4, q4)) → Q (some (xV 0)) (xS a4 b))
    (k10 : (sG t n p = -1 ∨ p < n) → (¬ sG t n p = 110) → (sG t n p = 97) → (¬ 4 ≤ c) → (¬ m * 4 + c < 24) → Q (some (xV 0)) (xS (xU a 1 4 (-1000 * 4 - p)) b))
    (k11 : (sG t n p = -1 ∨ p < n) → (¬ sG t n p = 110) → (¬ sG t n p = 97) → (sG t n p = 114) → (4 ≤ c) → Q (some (xV 0)) (xS (xU a 1 4 (-1000 * 4 - p)) b))
    (k12 : (sG t n p = -1 ∨ p < n) → (¬ sG t n p = 110) → (¬ sG t n p = 97) → (sG t n p = 114) → (¬ 4 ≤ c) → (m * 4 + c < 24) → ∀ a9 : xA, ∀ p9 : Int, (tC a9 t n p9) → (kL (xU (xU (xU a 1 3 (p + 1)) 33 2 (c + 1)) 14 (m * 4 + c) (sG t n p)) a9) → (a9 1 4 = 0) → (rEv t n (p + 1) = (0, p9)) → (p + 1 < p9 ∧ p9 ≤ n) → ∀ a11 : xA, ∀ p11 : Int, (tC a11 t n p11) → (kL (xU (xU a9 15 (m * 4 + c) (a9 33 3)) 16 (m * 4 + c) (a9 33 4)) a11) → (a11 1 4 = 0) → (rCom t n 44 p9 = (0, p11)) → (p9 < p11 ∧ p11 ≤ n) → ∀ a13 : xA, ∀ p13 : Int, (tC a13 t n p13) → (kL a11 a13) → (a13 1 4 = 0) → (rEv t n p11 = (0, p13)) → (p11 < p13 ∧ p13 ≤ n) → ∀ a15 : xA, ∀ p15 : Int, (tC a15 t n p15) → (kL (xU (xU a13 17 (m * 4 + c) (a13 33 3)) 18 (m * 4 + c) (a13 33 4)) a15) → (a15 1 4 = 0) → (rCom t n 44 p13 = (0, p15)) → (p13 < p15 ∧ p15 ≤ n) → ∀ a17 : xA, ∀ p17 : Int, (tC a17 t n p17) → (kL a15 a17) → (a17 1 4 = 0) → (rNum t n p15 = (0, p17)) → (p15 < p17 ∧ p17 ≤ n) → Q (some (xV 1)) (xS a17 b))
    (k13 : (sG t n p = -1 ∨ p < n) → (¬ sG t n p = 110) → (¬ sG t n p = 97) → (sG t n p = 114) → (¬ 4 ≤ c) → (m * 4 + c < 24) → ∀ a9 : xA, ∀ p9 : Int, (tC a9 t n p9) → (kL (xU (xU (xU a 1 3 (p + 1)) 33 2 (c + 1)) 14 (m * 4 + c) (sG t n p)) a9) → (a9 1 4 = 0) → (rEv t n (p + 1) = (0, p9)) → (p + 1 < p9 ∧ p9 ≤ n) → ∀ a11 : xA, ∀ p11 : Int, (tC a11 t n p11) → (kL (xU (xU a9 15 (m * 4 + c) (a9 33 3)) 16 (m * 4 + c) (a9 33 4)) a11) → (a11 1 4 = 0) → (rCom t n 44 p9 = (0, p11)) → (p9 < p11 ∧ p11 ≤ n) → ∀ a13 : xA, ∀ p13 : Int, (tC a13 t n p13) → (kL a11 a13) → (a13 1 4 = 0) → (rEv t n p11 = (0, p13)) → (p11 < p13 ∧ p13 ≤ n) → ∀ a15 : xA, ∀ p15 : Int, (tC a15 t n p15) → (kL (xU (xU a13 17 (m * 4 + c) (a13 33 3)) 18 (m * 4 + c) (a13 33 4)) a15) → (a15 1 4 = 0) → (rCom t n 44 p13 = (0, p15)) → (p13 < p15 ∧ p15 ≤ n) → ∀ a18 : xA, ∀ f18 : Int, ∀ q18 : Int, (kL a15 a18) → (a18 1 4 = f18) → (f18 < 0 ∧ -10000 < f18) → (rNum t n p15 = (f18, q18)) → Q (some (xV 0)) (xS a18 b))
    (k14 : (sG t n p = -1 ∨ p < n) → (¬ sG t n p = 110) → (¬ sG t n p = 97) → (sG t n p = 114) → (¬ 4 ≤ c) → (m * 4 + c < 24) → ∀ a9 : xA, ∀ p9 : Int, (tC a9 t n p9) → (kL (xU (xU (xU a 1 3 (p + 1)) 33 2 (c + 1)) 14 (m * 4 + c) (sG t n p)) a9) → (a9 1 4 = 0) → (rEv t n (p + 1) = (0, p9)) → (p + 1 < p9 ∧ p9 ≤ n) → ∀ a11 : xA, ∀ p11 : Int, (tC a11 t n p11) → (kL (xU (xU a9 15 (m * 4 + c) (a9 33 3)) 16 (m * 4 + c) (a9 33 4)) a11) → (a11 1 4 = 0) → (rCom t n 44 p9 = (0, p11)) → (p9 < p11 ∧ p11 ≤ n) → ∀ a13 : xA, ∀ p13 : Int, (tC a13 t n p13) → (kL a11 a13) → (a13 1 4 = 0) → (rEv t n p11 = (0, p13)) → (p11 < p13 ∧ p13 ≤ n) → ∀ a16 : xA, ∀ f16 : Int, ∀ q16 : Int, (kL (xU (xU a13 17 (m * 4 + c) (a13 33 3)) 18 (m * 4 + c) (a13 33 4)) a16) → (a16 1 4 = f16) → (f16 < 0 ∧ -10000 < f16) → (rCom t n 44 p13 = (f16, q16)) → Q (some (xV 0)) (xS a16 b))
    (k15 : (sG t n p = -1 ∨ p < n) → (¬ sG t n p = 110) → (¬ sG t n p = 97) → (sG t n p = 114) → (¬ 4 ≤ c) → (m * 4 + c < 24) → ∀ a9 : xA, ∀ p9 : Int, (tC a9 t n p9) → (kL (xU (xU (xU a 1 3 (p + 1)) 33 2 (c + 1)) 14 (m * 4 + c) (sG t n p)) a9) → (a9 1 4 = 0) → (rEv t n (p + 1) = (0, p9)) → (p + 1 < p9 ∧ p9 ≤ n) → ∀ a11 : xA, ∀ p11 : Int, (tC a11 t n p11) → (kL (xU (xU a9 15 (m * 4 + c) (a9 33 3)) 16 (m * 4 + c) (a9 33 4)) a11) → (a11 1 4 = 0) → (rCom t n 44 p9 = (0, p11)) → (p9 < p11 ∧ p11 ≤ n) → ∀ a14 : xA, ∀ f14 : Int, ∀ q14 : Int, (kL a11 a14) → (a14 1 4 = f14) → (f14 < 0 ∧ -10000 < f14) → (rEv t n p11 = (f14, q14)) → Q (some (xV 0)) (xS a14 b))
    (k16 : (sG t n p = -1 ∨ p < n) → (¬ sG t n p = 110) → (¬ sG t n p = 97) → (sG t n p = 114) → (¬ 4 ≤ c) → (m * 4 + c < 24) → ∀ a9 : xA, ∀ p9 : Int, (tC a9 t n p9) → (kL (xU (xU (xU a 1 3 (p + 1)) 33 2 (c + 1)) 14 (m * 4 + c) (sG t n p)) a9) → (a9 1 4 = 0) → (rEv t n (p + 1) = (0, p9)) → (p + 1 < p9 ∧ p9 ≤ n) → ∀ a12 : xA, ∀ f12 : Int, ∀ q12 : Int, (kL (xU (xU a9 15 (m * 4 + c) (a9 33 3)) 16 (m * 4 + c) (a9 33 4)) a12) → (a12 1 4 = f12) → (f12 < 0 ∧ -10000 < f12) → (rCom t n 44 p9 = (f12, q12)) → Q (some (xV 0)) (xS a12 b))
    (k17 : (sG t n p = -1 ∨ p < n) → (¬ sG t n p = 110) → (¬ sG t n p = 97) → (sG t n p = 114) → (¬ 4 ≤ c) → (m * 4 + c < 24) → ∀ a10 : xA, ∀ f10 : Int, ∀ q10 : Int, (kL (xU (xU (xU a 1 3 (p + 1)) 33 2 (c + 1)) 14 (m * 4 + c) (sG t n p)) a10) → (a10 1 4 = f10) → (f10 < 0 ∧ -10000 < f10) → (rEv t n (p + 1) = (f10, q10)) → Q (some (xV 0)) (xS a10 b))
    (k18 : (sG t n p = -1 ∨ p < n) → (¬ sG t n p = 110) → (¬ sG t n p = 97) → (sG t n p = 114) → (¬ 4 ≤ c) → (¬ m * 4 + c < 24) → Q (some (xV 0)) (xS (xU a 1 4 (-1000 * 4 - p)) b))
    (k19 : (sG t n p = -1 ∨ p < n) → (¬ sG t n p = 110) → (¬ sG t n p = 97) → (¬ sG t n p = 114) → (sG t n p = 101) → (4 ≤ c) → Q (some (xV 0)) (xS (xU a 1 4 (-1000 * 4 - p)) b))
    (k20 : (sG t n p = -1 ∨ p < n) → (¬ sG t n p = 110) → (¬ sG t n p = 97) → (¬ sG t n p = 114) → (sG t n p = 101) → (¬ 4 ≤ c) → (m * 4 + c < 24) → ∀ a19 : xA, ∀ p19 : Int, (tC a19 t n p19) → (kL (xU (xU (xU a 1 3 (p + 1)) 33 2 (c + 1)) 14 (m * 4 + c) (sG t n p)) a19) → (a19 1 4 = 0) → (rEv t n (p + 1) = (0, p19)) → (p + 1 < p19 ∧ p19 ≤ n) → ∀ a21 : xA, ∀ p21 : Int, (tC a21 t n p21) → (kL (xU (xU a19 15 (m * 4 + c) (a19 33 3)) 16 (m * 4 + c) (a19 33 4)) a21) → (a21 1 4 = 0) → (rCom t n 44 p19 = (0, p21)) → (p19 < p21 ∧ p21 ≤ n) → ∀ a23 : xA, ∀ p23 : Int, (tC a23 t n p23) → (kL a21 a23) → (a23 1 4 = 0) → (rNum t n p21 = (0, p23)) → (p21 < p23 ∧ p23 ≤ n) → Q (some (xV 1)) (xS a23 b))
    (k21 : (sG t n p = -1 ∨ p < n) → (¬ sG t n p = 110) → (¬ sG t n p = 97) → (¬ sG t n p = 114) → (sG t n p = 101) → (¬ 4 ≤ c) → (m * 4 + c < 24) → ∀ a19 : xA, ∀ p19 : Int, (tC a19 t n p19) → (kL (xU (xU (xU a 1 3 (p + 1)) 33 2 (c + 1)) 14 (m * 4 + c) (sG t n p)) a19) → (a19 1 4 = 0) → (rEv t n (p + 1) = (0, p19)) → (p + 1 < p19 ∧ p19 ≤ n) → ∀ a21 : xA, ∀ p21 : Int, (tC a21 t n p21) → (kL (xU (xU a19 15 (m * 4 + c) (a19 33 3)) 16 (m * 4 + c) (a19 33 4)) a21) → (a21 1 4 = 0) → (rCom t n 44 p19 = (0, p21)) → (p19 < p21 ∧ p21 ≤ n) → ∀ a24 : xA, ∀ f24 : Int, ∀ q24 : Int, (kL a21 a24) → (a24 1 4 = f24) → (f24 < 0 ∧ -10000 < f24) → (rNum t n p21 = (f24, q24)) → Q (some (xV 0)) (xS a24 b))
    (k22 : (sG t n p = -1 ∨ p < n) → (¬ sG t n p = 110) → (¬ sG t n p = 97) → (¬ sG t n p = 114) → (sG t n p = 101) → (¬ 4 ≤ c) → (m * 4 + c < 24) → ∀ a19 : xA, ∀ p19 : Int, (tC a19 t n p19) → (kL (xU (xU (xU a 1 3 (p + 1)) 33 2 (c + 1)) 14 (m * 4 + c) (sG t n p)) a19) → (a19 1 4 = 0) → (rEv t n (p + 1) = (0, p19)) → (p + 1 < p19 ∧ p19 ≤ n) → ∀ a22 : xA, ∀ f22 : Int, ∀ q22 : Int, (kL (xU (xU a19 15 (m * 4 + c) (a19 33 3)) 16 (m * 4 + c) (a19 33 4)) a22) → (a22 1 4 = f22) → (f22 < 0 ∧ -10000 < f22) → (rCom t n 44 p19 = (f22, q22)) → Q (some (xV 0)) (xS a22 b))
    (k23 : (sG t n p = -1 ∨ p < n) → (¬ sG t n p = 110) → (¬ sG t n p = 97) → (¬ sG t n p = 114) → (sG t n p = 101) → (¬ 4 ≤ c) → (m * 4 + c < 24) → ∀ a20 : xA, ∀ f20 : Int, ∀ q20 : Int, (kL (xU (xU (xU a 1 3 (p + 1)) 33 2 (c + 1)) 14 (m * 4 + c) (sG t n p)) a20) → (a20 1 4 = f20) → (f20 < 0 ∧ -10000 < f20) → (rEv t n (p + 1) = (f20, q20)) → Q (some (xV 0)) (xS a20 b))
    (k24 : (sG t n p = -1 ∨ p < n) → (¬ sG t n p = 110) → (¬ sG t n p = 97) → (¬ sG t n p = 114) → (sG t n p = 101) → (¬ 4 ≤ c) → (¬ m * 4 + c < 24) → Q (some (xV 0)) (xS (xU a 1 4 (-1000 * 4 - p)) b))
    (k25 : (sG t n p = -1 ∨ p < n) → (¬ sG t n p = 110) → (¬ sG t n p = 97) → (¬ sG t n p = 114) → (¬ sG t n p = 101) → Q (some (xV 0)) (xS (xU a 1 4 (-1000 * 1 - p)) b)) :
    pmWp ro d 1 49 2 0 [some (.ref 33), none, none] [] (xS a b) Q := by
  refine x_aloadn xc49_0 rfl ?_
  refine x_gfr xc49_1 rfl rfl xz33 rfl ?_
  refine x_cV (as := []) (rest := []) xc49_4 rfl xi37 xz1 ⟨rfl, rfl⟩ rfl rfl ?_
  refine xk37 (by omega) hC (by omega) (by omega) hb hA (fun h0 => ?_)
  refine x_istoren (pl' := [some (.ref 33), some (xV (sG t n p)), none]) xc49_7 rfl rfl ?_
  refine x_iloadn xc49_8 rfl ?_
  refine x_bipush xc49_9 (by decide) ?_
  refine x_iceq xc49_11 (xRk (by have g0 := sGB (n := n) (p := p) hb (by omega); omega)) (xRk (by decide)) (fun h1 => ?_) (fun h1 => ?_)
  · refine x_aloadn xc49_41 rfl ?_
    refine x_gfr xc49_42 rfl rfl xz33 rfl ?_
    refine x_gfi' (k := 7) (v := m) xc49_45 rfl (Or.inl rfl) rfl xz13 hm ?_
    refine x_iconst xc49_48 ?_
    refine x_imul xc49_49 ?_
    refine x_aloadn xc49_50 rfl ?_
    refine x_gfi' (k := 2) (v := c) xc49_51 rfl (Or.inl rfl) rfl xz33 hc ?_
    refine x_iadd xc49_54 ?_
    refine x_istoren (pl' := [some (.ref 33), some (xV (sG t n p)), some (xV (m * 4 + c))]) xc49_55 rfl rfl ?_
    refine x_aloadn xc49_56 rfl ?_
    refine x_gfi' (k := 2) (v := c) xc49_57 rfl (Or.inl rfl) rfl xz33 hc ?_
    refine x_iconst xc49_60 ?_
    refine x_icge xc49_61 (xRk (by omega)) (xRk (by decide)) (fun h2 => ?_) (fun h2 => ?_)
    · refine x_aloadn xc49_70 rfl ?_
      refine x_gfr xc49_71 rfl rfl xz33 rfl ?_
      refine x_iconst xc49_74 ?_
      refine x_cV (as := [xV 4]) (rest := []) xc49_75 rfl xi39 xz1 ⟨rfl, rfl⟩ rfl rfl ?_
      refine xk39 hC (by omega) (by omega) hb hA (xRk (by decide)) (by omega) ?_
      refine x_iret xc49_78 (Or.inr ⟨rfl, (by omega)⟩) ?_
      exact k1 h0 h1 h2
    · refine x_iloadn xc49_64 rfl ?_
      refine x_bipush xc49_65 (by decide) ?_
      refine x_iclt xc49_67 (xRk (by omega)) (xRk (by decide)) (fun h3 => ?_) (fun h3 => ?_)
      · refine x_aloadn xc49_79 rfl ?_
        refine x_gfr xc49_80 rfl rfl xz33 rfl ?_
        refine x_dup xc49_83 rfl ?_
        refine x_gfi' (k := 3) (v := p) xc49_84 rfl (Or.inl rfl) rfl xz1 hC.2.2 ?_
        refine x_iconst xc49_87 ?_
        refine x_iadd xc49_88 ?_
        refine x_pfi (k := 3) xc49_89 rfl ⟨rfl, rfl⟩ rfl xz1 ?_
        refine x_aloadn xc49_92 rfl ?_
        refine x_dup xc49_93 rfl ?_
        refine x_gfi' (k := 2) (v := c) xc49_94 rfl (Or.inl rfl) rfl xz33 (by rw [xUn (by decide), hc]) ?_
        refine x_iconst xc49_97 ?_
        refine x_iadd xc49_98 ?_
        refine x_pfi (k := 2) xc49_99 rfl ⟨rfl, rfl⟩ rfl xz33 ?_
        refine x_aloadn xc49_102 rfl ?_
        refine x_gfr xc49_103 rfl rfl xz33 rfl ?_
        refine x_gfr xc49_106 rfl rfl xz13 rfl ?_
        refine x_iloadn xc49_109 rfl ?_
        refine x_iloadn xc49_110 rfl ?_
        refine x_ias xc49_111 xz14 (by omega) (by omega) (by omega) ?_
        refine x_aloadn xc49_112 rfl ?_
        refine x_cV (as := []) (rest := []) xc49_113 rfl xi50 xz33 ⟨rfl, rfl⟩ rfl rfl ?_
        refine xk50 (tC.ot (by decide) (by decide) (tC.ot (by decide) (by decide) (tC.at hC))) (by omega) (by omega) hb (xAr_u (xAr_u (xAr_u hA (xRk (by omega))) (xRk (by omega))) (xRk (by have g0 := sGB (n := n) (p := p) hb (by omega); omega))) (by rw [xUn (by decide), xUn (by decide), xUk (by decide), hf]) (by omega) (fun a1 p1 h4 h5 h6 h7 h8 => ?_) (fun a2 f2 q2 h9 h10 h11 h12 => ?_)
        · refine x_ifne xc49_116 (xRk (by decide)) (fun _ => ?_) (fun h => absurd h (by omega))
          refine x_aloadn xc49_121 rfl ?_
          refine x_gfr xc49_122 rfl rfl xz33 rfl ?_
          refine x_gfr xc49_125 rfl rfl xz13 rfl ?_
          refine x_iloadn xc49_128 rfl ?_
          refine x_aloadn xc49_129 rfl ?_
          refine x_gfi (k := 3) xc49_130 rfl (Or.inl rfl) rfl xz33 ?_
          refine x_ias xc49_133 xz15 (by omega) (by omega) (by omega) ?_
          refine x_aloadn xc49_134 rfl ?_
          refine x_gfr xc49_135 rfl rfl xz33 rfl ?_
          refine x_gfr xc49_138 rfl rfl xz13 rfl ?_
          refine x_iloadn xc49_141 rfl ?_
          refine x_aloadn xc49_142 rfl ?_
          refine x_gfi' (k := 4) (v := a1 33 4) xc49_143 rfl (Or.inl rfl) rfl xz33 (by rw [xUn (by decide)]) ?_
          refine x_ias xc49_146 xz16 (by omega) (by omega) (by omega) ?_
          refine x_iloadn xc49_147 rfl ?_
          refine x_bipush xc49_148 (by decide) ?_
          refine x_iceq xc49_150 (xRk (by have g0 := sGB (n := n) (p := p) hb (by omega); omega)) (xRk (by decide)) (fun h => absurd h (by omega)) (fun _ => ?_)
          refine x_iloadn xc49_153 rfl ?_
          refine x_bipush xc49_154 (by decide) ?_
          refine x_icne xc49_156 (xRk (by have g0 := sGB (n := n) (p := p) hb (by omega); omega)) (xRk (by decide)) (fun _ => ?_) (fun h => absurd h (by omega))
          refine x_iloadn xc49_201 rfl ?_
          refine x_bipush xc49_202 (by decide) ?_
          refine x_iceq xc49_204 (xRk (by have g0 := sGB (n := n) (p := p) hb (by omega); omega)) (xRk (by decide)) (fun _ => ?_) (fun h => absurd h (by omega))
          refine x_iconst xc49_228 ?_
          refine x_goto xc49_229 ?_
          refine x_iret xc49_233 (Or.inr ⟨rfl, (by omega)⟩) ?_
          exact k2 h0 h1 h2 h3 a1 p1 h4 h5 h6 h7 h8
        · refine x_ifne xc49_116 (xRk (by decide)) (fun h => absurd h (by omega)) (fun _ => ?_)
          refine x_iconst xc49_119 ?_
          refine x_iret xc49_120 (Or.inr ⟨rfl, (by omega)⟩) ?_
          exact k3 h0 h1 h2 h3 a2 f2 q2 h9 h10 h11 h12
      · refine x_aloadn xc49_70 rfl ?_
        refine x_gfr xc49_71 rfl rfl xz33 rfl ?_
        refine x_iconst xc49_74 ?_
        refine x_cV (as := [xV 4]) (rest := []) xc49_75 rfl xi39 xz1 ⟨rfl, rfl⟩ rfl rfl ?_
        refine xk39 hC (by omega) (by omega) hb hA (xRk (by decide)) (by omega) ?_
        refine x_iret xc49_78 (Or.inr ⟨rfl, (by omega)⟩) ?_
        exact k4 h0 h1 h2 h3
  · refine x_iloadn xc49_14 rfl ?_
    refine x_bipush xc49_15 (by decide) ?_
    refine x_iceq xc49_17 (xRk (by have g0 := sGB (n := n) (p := p) hb (by omega); omega)) (xRk (by decide)) (fun h18 => ?_) (fun h18 => ?_)
    · refine x_aloadn xc49_41 rfl ?_
      refine x_gfr xc49_42 rfl rfl xz33 rfl ?_
      refine x_gfi' (k := 7) (v := m) xc49_45 rfl (Or.inl rfl) rfl xz13 hm ?_
      refine x_iconst xc49_48 ?_
      refine x_imul xc49_49 ?_
      refine x_aloadn xc49_50 rfl ?_
      refine x_gfi' (k := 2) (v := c) xc49_51 rfl (Or.inl rfl) rfl xz33 hc ?_
      refine x_iadd xc49_54 ?_
      refine x_istoren (pl' := [some (.ref 33), some (xV (sG t n p)), some (xV (m * 4 + c))]) xc49_55 rfl rfl ?_
      refine x_aloadn xc49_56 rfl ?_
      refine x_gfi' (k := 2) (v := c) xc49_57 rfl (Or.inl rfl) rfl xz33 hc ?_
      refine x_iconst xc49_60 ?_
      refine x_icge xc49_61 (xRk (by omega)) (xRk (by decide)) (fun h19 => ?_) (fun h19 => ?_)
      · refine x_aloadn xc49_70 rfl ?_
        refine x_gfr xc49_71 rfl rfl xz33 rfl ?_
        refine x_iconst xc49_74 ?_
        refine x_cV (as := [xV 4]) (rest := []) xc49_75 rfl xi39 xz1 ⟨rfl, rfl⟩ rfl rfl ?_
        refine xk39 hC (by omega) (by omega) hb hA (xRk (by decide)) (by omega) ?_
        refine x_iret xc49_78 (Or.inr ⟨rfl, (by omega)⟩) ?_
        exact k5 h0 h1 h18 h19
      · refine x_iloadn xc49_64 rfl ?_
        refine x_bipush xc49_65 (by decide) ?_
        refine x_iclt xc49_67 (xRk (by omega)) (xRk (by decide)) (fun h20 => ?_) (fun h20 => ?_)
        · refine x_aloadn xc49_79 rfl ?_
          refine x_gfr xc49_80 rfl rfl xz33 rfl ?_
          refine x_dup xc49_83 rfl ?_
          refine x_gfi' (k := 3) (v := p) xc49_84 rfl (Or.inl rfl) rfl xz1 hC.2.2 ?_
          refine x_iconst xc49_87 ?_
          refine x_iadd xc49_88 ?_
          refine x_pfi (k := 3) xc49_89 rfl ⟨rfl, rfl⟩ rfl xz1 ?_
          refine x_aloadn xc49_92 rfl ?_
          refine x_dup xc49_93 rfl ?_
          refine x_gfi' (k := 2) (v := c) xc49_94 rfl (Or.inl rfl) rfl xz33 (by rw [xUn (by decide), hc]) ?_
          refine x_iconst xc49_97 ?_
          refine x_iadd xc49_98 ?_
          refine x_pfi (k := 2) xc49_99 rfl ⟨rfl, rfl⟩ rfl xz33 ?_
          refine x_aloadn xc49_102 rfl ?_
          refine x_gfr xc49_103 rfl rfl xz33 rfl ?_
          refine x_gfr xc49_106 rfl rfl xz13 rfl ?_
          refine x_iloadn xc49_109 rfl ?_
          refine x_iloadn xc49_110 rfl ?_
          refine x_ias xc49_111 xz14 (by omega) (by omega) (by omega) ?_
          refine x_aloadn xc49_112 rfl ?_
          refine x_cV (as := []) (rest := []) xc49_113 rfl xi50 xz33 ⟨rfl, rfl⟩ rfl rfl ?_
          refine xk50 (tC.ot (by decide) (by decide) (tC.ot (by decide) (by decide) (tC.at hC))) (by omega) (by omega) hb (xAr_u (xAr_u (xAr_u hA (xRk (by omega))) (xRk (by omega))) (xRk (by have g0 := sGB (n := n) (p := p) hb (by omega); omega))) (by rw [xUn (by decide), xUn (by decide), xUk (by decide), hf]) (by omega) (fun a3 p3 h21 h22 h23 h24 h25 => ?_) (fun a4 f4 q4 h26 h27 h28 h29 => ?_)
          · refine x_ifne xc49_116 (xRk (by decide)) (fun _ => ?_) (fun h => absurd h (by omega))
            refine x_aloadn xc49_121 rfl ?_
            refine x_gfr xc49_122 rfl rfl xz33 rfl ?_
            refine x_gfr xc49_125 rfl rfl xz13 rfl ?_
            refine x_iloadn xc49_128 rfl ?_
            refine x_aloadn xc49_129 rfl ?_
            refine x_gfi (k := 3) xc49_130 rfl (Or.inl rfl) rfl xz33 ?_
            refine x_ias xc49_133 xz15 (by omega) (by omega) (by omega) ?_
            refine x_aloadn xc49_134 rfl ?_
            refine x_gfr xc49_135 rfl rfl xz33 rfl ?_
            refine x_gfr xc49_138 rfl rfl xz13 rfl ?_
            refine x_iloadn xc49_141 rfl ?_
            refine x_aloadn xc49_142 rfl ?_
            refine x_gfi' (k := 4) (v := a3 33 4) xc49_143 rfl (Or.inl rfl) rfl xz33 (by rw [xUn (by decide)]) ?_
            refine x_ias xc49_146 xz16 (by omega) (by omega) (by omega) ?_
            refine x_iloadn xc49_147 rfl ?_
            refine x_bipush xc49_148 (by decide) ?_
            refine x_iceq xc49_150 (xRk (by have g0 := sGB (n := n) (p := p) hb (by omega); omega)) (xRk (by decide)) (fun _ => ?_) (fun h => absurd h (by omega))
            refine x_aloadn xc49_159 rfl ?_
            refine x_cV (as := []) (rest := []) xc49_160 rfl xi53 xz33 ⟨rfl, rfl⟩ rfl rfl ?_
            refine xk53 (tC.ot (by decide) (by decide) (tC.ot (by decide) (by decide) h21)) (by omega) (by omega) hb (xAr_u (xAr_u h22.1 (xRk (by have g0 := xRb (h22.1 33 3); omega))) (xRk (by have g0 := xRb (h22.1 33 4); omega))) (by rw [xUn (by decide), xUn (by decide), h23]) (by omega) (fun a5 p5 h32 h33 h34 h35 h36 => ?_) (fun a6 f6 q6 h37 h38 h39 h40 => ?_)
            · refine x_ifeq xc49_163 (xRk (by decide)) (fun h => absurd h (by omega)) (fun _ => ?_)
              refine x_aloadn xc49_166 rfl ?_
              refine x_cV (as := []) (rest := []) xc49_167 rfl xi50 xz33 ⟨rfl, rfl⟩ rfl rfl ?_
              refine xk50 h32 (by omega) (by omega) hb h33.1 h34 (by omega) (fun a7 p7 h42 h43 h44 h45 h46 => ?_) (fun a8 f8 q8 h47 h48 h49 h50 => ?_)
              · refine x_ifne xc49_170 (xRk (by decide)) (fun _ => ?_) (fun h => absurd h (by omega))
                refine x_aloadn xc49_175 rfl ?_
                refine x_gfr xc49_176 rfl rfl xz33 rfl ?_
                refine x_gfr xc49_179 rfl rfl xz13 rfl ?_
                refine x_iloadn xc49_182 rfl ?_
                refine x_aloadn xc49_183 rfl ?_
                refine x_gfi (k := 3) xc49_184 rfl (Or.inl rfl) rfl xz33 ?_
                refine x_ias xc49_187 xz17 (by omega) (by omega) (by omega) ?_
                refine x_aloadn xc49_188 rfl ?_
                refine x_gfr xc49_189 rfl rfl xz33 rfl ?_
                refine x_gfr xc49_192 rfl rfl xz13 rfl ?_
                refine x_iloadn xc49_195 rfl ?_
                refine x_aloadn xc49_196 rfl ?_
                refine x_gfi' (k := 4) (v := a7 33 4) xc49_197 rfl (Or.inl rfl) rfl xz33 (by rw [xUn (by decide)]) ?_
                refine x_ias xc49_200 xz18 (by omega) (by omega) (by omega) ?_
                refine x_iloadn xc49_201 rfl ?_
                refine x_bipush xc49_202 (by decide) ?_
                refine x_iceq xc49_204 (xRk (by have g0 := sGB (n := n) (p := p) hb (by omega); omega)) (xRk (by decide)) (fun h => absurd h (by omega)) (fun _ => ?_)
                refine x_iloadn xc49_207 rfl ?_
                refine x_bipush xc49_208 (by decide) ?_
                refine x_iceq xc49_210 (xRk (by have g0 := sGB (n := n) (p := p) hb (by omega); omega)) (xRk (by decide)) (fun _ => ?_) (fun h => absurd h (by omega))
                refine x_iconst xc49_228 ?_
                refine x_goto xc49_229 ?_
                refine x_iret xc49_233 (Or.inr ⟨rfl, (by omega)⟩) ?_
                exact k6 h0 h1 h18 h19 h20 a3 p3 h21 h22 h23 h24 h25 a5 p5 h32 h33 h34 h35 h36 a7 p7 h42 h43 h44 h45 h46
              · refine x_ifne xc49_170 (xRk (by decide)) (fun h => absurd h (by omega)) (fun _ => ?_)
                refine x_iconst xc49_173 ?_
                refine x_iret xc49_174 (Or.inr ⟨rfl, (by omega)⟩) ?_
                exact k7 h0 h1 h18 h19 h20 a3 p3 h21 h22 h23 h24 h25 a5 p5 h32 h33 h34 h35 h36 a8 f8 q8 h47 h48 h49 h50
            · refine x_ifeq xc49_163 (xRk (by decide)) (fun _ => ?_) (fun h => absurd h (by omega))
              refine x_iconst xc49_173 ?_
              refine x_iret xc49_174 (Or.inr ⟨rfl, (by omega)⟩) ?_
              exact k8 h0 h1 h18 h19 h20 a3 p3 h21 h22 h23 h24 h25 a6 f6 q6 h37 h38 h39 h40
          · refine x_ifne xc49_116 (xRk (by decide)) (fun h => absurd h (by omega)) (fun _ => ?_)
            refine x_iconst xc49_119 ?_
            refine x_iret xc49_120 (Or.inr ⟨rfl, (by omega)⟩) ?_
            exact k9 h0 h1 h18 h19 h20 a4 f4 q4 h26 h27 h28 h29
        · refine x_aloadn xc49_70 rfl ?_
          refine x_gfr xc49_71 rfl rfl xz33 rfl ?_
          refine x_iconst xc49_74 ?_
          refine x_cV (as := [xV 4]) (rest := []) xc49_75 rfl xi39 xz1 ⟨rfl, rfl⟩ rfl rfl ?_
          refine xk39 hC (by omega) (by omega) hb hA (xRk (by decide)) (by omega) ?_
          refine x_iret xc49_78 (Or.inr ⟨rfl, (by omega)⟩) ?_
          exact k10 h0 h1 h18 h19 h20
    · refine x_iloadn xc49_20 rfl ?_
      refine x_bipush xc49_21 (by decide) ?_
      refine x_iceq xc49_23 (xRk (by have g0 := sGB (n := n) (p := p) hb (by omega); omega)) (xRk (by decide)) (fun h57 => ?_) (fun h57 => ?_)
      · refine x_aloadn xc49_41 rfl ?_
        refine x_gfr xc49_42 rfl rfl xz33 rfl ?_
        refine x_gfi' (k := 7) (v := m) xc49_45 rfl (Or.inl rfl) rfl xz13 hm ?_
        refine x_iconst xc49_48 ?_
        refine x_imul xc49_49 ?_
        refine x_aloadn xc49_50 rfl ?_
        refine x_gfi' (k := 2) (v := c) xc49_51 rfl (Or.inl rfl) rfl xz33 hc ?_
        refine x_iadd xc49_54 ?_
        refine x_istoren (pl' := [some (.ref 33), some (xV (sG t n p)), some (xV (m * 4 + c))]) xc49_55 rfl rfl ?_
        refine x_aloadn xc49_56 rfl ?_
        refine x_gfi' (k := 2) (v := c) xc49_57 rfl (Or.inl rfl) rfl xz33 hc ?_
        refine x_iconst xc49_60 ?_
        refine x_icge xc49_61 (xRk (by omega)) (xRk (by decide)) (fun h58 => ?_) (fun h58 => ?_)
        · refine x_aloadn xc49_70 rfl ?_
          refine x_gfr xc49_71 rfl rfl xz33 rfl ?_
          refine x_iconst xc49_74 ?_
          refine x_cV (as := [xV 4]) (rest := []) xc49_75 rfl xi39 xz1 ⟨rfl, rfl⟩ rfl rfl ?_
          refine xk39 hC (by omega) (by omega) hb hA (xRk (by decide)) (by omega) ?_
          refine x_iret xc49_78 (Or.inr ⟨rfl, (by omega)⟩) ?_
          exact k11 h0 h1 h18 h57 h58
        · refine x_iloadn xc49_64 rfl ?_
          refine x_bipush xc49_65 (by decide) ?_
          refine x_iclt xc49_67 (xRk (by omega)) (xRk (by decide)) (fun h59 => ?_) (fun h59 => ?_)
          · refine x_aloadn xc49_79 rfl ?_
            refine x_gfr xc49_80 rfl rfl xz33 rfl ?_
            refine x_dup xc49_83 rfl ?_
            refine x_gfi' (k := 3) (v := p) xc49_84 rfl (Or.inl rfl) rfl xz1 hC.2.2 ?_
            refine x_iconst xc49_87 ?_
            refine x_iadd xc49_88 ?_
            refine x_pfi (k := 3) xc49_89 rfl ⟨rfl, rfl⟩ rfl xz1 ?_
            refine x_aloadn xc49_92 rfl ?_
            refine x_dup xc49_93 rfl ?_
            refine x_gfi' (k := 2) (v := c) xc49_94 rfl (Or.inl rfl) rfl xz33 (by rw [xUn (by decide), hc]) ?_
            refine x_iconst xc49_97 ?_
            refine x_iadd xc49_98 ?_
            refine x_pfi (k := 2) xc49_99 rfl ⟨rfl, rfl⟩ rfl xz33 ?_
            refine x_aloadn xc49_102 rfl ?_
            refine x_gfr xc49_103 rfl rfl xz33 rfl ?_
            refine x_gfr xc49_106 rfl rfl xz13 rfl ?_
            refine x_iloadn xc49_109 rfl ?_
            refine x_iloadn xc49_110 rfl ?_
            refine x_ias xc49_111 xz14 (by omega) (by omega) (by omega) ?_
            refine x_aloadn xc49_112 rfl ?_
            refine x_cV (as := []) (rest := []) xc49_113 rfl xi50 xz33 ⟨rfl, rfl⟩ rfl rfl ?_
            refine xk50 (tC.ot (by decide) (by decide) (tC.ot (by decide) (by decide) (tC.at hC))) (by omega) (by omega) hb (xAr_u (xAr_u (xAr_u hA (xRk (by omega))) (xRk (by omega))) (xRk (by have g0 := sGB (n := n) (p := p) hb (by omega); omega))) (by rw [xUn (by decide), xUn (by decide), xUk (by decide), hf]) (by omega) (fun a9 p9 h60 h61 h62 h63 h64 => ?_) (fun a10 f10 q10 h65 h66 h67 h68 => ?_)
            · refine x_ifne xc49_116 (xRk (by decide)) (fun _ => ?_) (fun h => absurd h (by omega))
              refine x_aloadn xc49_121 rfl ?_
              refine x_gfr xc49_122 rfl rfl xz33 rfl ?_
              refine x_gfr xc49_125 rfl rfl xz13 rfl ?_
              refine x_iloadn xc49_128 rfl ?_
              refine x_aloadn xc49_129 rfl ?_
              refine x_gfi (k := 3) xc49_130 rfl (Or.inl rfl) rfl xz33 ?_
              refine x_ias xc49_133 xz15 (by omega) (by omega) (by omega) ?_
              refine x_aloadn xc49_134 rfl ?_
              refine x_gfr xc49_135 rfl rfl xz33 rfl ?_
              refine x_gfr xc49_138 rfl rfl xz13 rfl ?_
              refine x_iloadn xc49_141 rfl ?_
              refine x_aloadn xc49_142 rfl ?_
              refine x_gfi' (k := 4) (v := a9 33 4) xc49_143 rfl (Or.inl rfl) rfl xz33 (by rw [xUn (by decide)]) ?_
              refine x_ias xc49_146 xz16 (by omega) (by omega) (by omega) ?_
              refine x_iloadn xc49_147 rfl ?_
              refine x_bipush xc49_148 (by decide) ?_
              refine x_iceq xc49_150 (xRk (by have g0 := sGB (n := n) (p := p) hb (by omega); omega)) (xRk (by decide)) (fun h => absurd h (by omega)) (fun _ => ?_)
              refine x_iloadn xc49_153 rfl ?_
              refine x_bipush xc49_154 (by decide) ?_
              refine x_icne xc49_156 (xRk (by have g0 := sGB (n := n) (p := p) hb (by omega); omega)) (xRk (by decide)) (fun h => absurd h (by omega)) (fun _ => ?_)
              refine x_aloadn xc49_159 rfl ?_
              refine x_cV (as := []) (rest := []) xc49_160 rfl xi53 xz33 ⟨rfl, rfl⟩ rfl rfl ?_
              refine xk53 (tC.ot (by decide) (by decide) (tC.ot (by decide) (by decide) h60)) (by omega) (by omega) hb (xAr_u (xAr_u h61.1 (xRk (by have g0 := xRb (h61.1 33 3); omega))) (xRk (by have g0 := xRb (h61.1 33 4); omega))) (by rw [xUn (by decide), xUn (by decide), h62]) (by omega) (fun a11 p11 h72 h73 h74 h75 h76 => ?_) (fun a12 f12 q12 h77 h78 h79 h80 => ?_)
              · refine x_ifeq xc49_163 (xRk (by decide)) (fun h => absurd h (by omega)) (fun _ => ?_)
                refine x_aloadn xc49_166 rfl ?_
                refine x_cV (as := []) (rest := []) xc49_167 rfl xi50 xz33 ⟨rfl, rfl⟩ rfl rfl ?_
                refine xk50 h72 (by omega) (by omega) hb h73.1 h74 (by omega) (fun a13 p13 h82 h83 h84 h85 h86 => ?_) (fun a14 f14 q14 h87 h88 h89 h90 => ?_)
                · refine x_ifne xc49_170 (xRk (by decide)) (fun _ => ?_) (fun h => absurd h (by omega))
                  refine x_aloadn xc49_175 rfl ?_
                  refine x_gfr xc49_176 rfl rfl xz33 rfl ?_
                  refine x_gfr xc49_179 rfl rfl xz13 rfl ?_
                  refine x_iloadn xc49_182 rfl ?_
                  refine x_aloadn xc49_183 rfl ?_
                  refine x_gfi (k := 3) xc49_184 rfl (Or.inl rfl) rfl xz33 ?_
                  refine x_ias xc49_187 xz17 (by omega) (by omega) (by omega) ?_
                  refine x_aloadn xc49_188 rfl ?_
                  refine x_gfr xc49_189 rfl rfl xz33 rfl ?_
                  refine x_gfr xc49_192 rfl rfl xz13 rfl ?_
                  refine x_iloadn xc49_195 rfl ?_
                  refine x_aloadn xc49_196 rfl ?_
                  refine x_gfi' (k := 4) (v := a13 33 4) xc49_197 rfl (Or.inl rfl) rfl xz33 (by rw [xUn (by decide)]) ?_
                  refine x_ias xc49_200 xz18 (by omega) (by omega) (by omega) ?_
                  refine x_iloadn xc49_201 rfl ?_
                  refine x_bipush xc49_202 (by decide) ?_
                  refine x_iceq xc49_204 (xRk (by have g0 := sGB (n := n) (p := p) hb (by omega); omega)) (xRk (by decide)) (fun h => absurd h (by omega)) (fun _ => ?_)
                  refine x_iloadn xc49_207 rfl ?_
                  refine x_bipush xc49_208 (by decide) ?_
                  refine x_iceq xc49_210 (xRk (by have g0 := sGB (n := n) (p := p) hb (by omega); omega)) (xRk (by decide)) (fun h => absurd h (by omega)) (fun _ => ?_)
                  refine x_aloadn xc49_213 rfl ?_
                  refine x_cV (as := []) (rest := []) xc49_214 rfl xi53 xz33 ⟨rfl, rfl⟩ rfl rfl ?_
                  refine xk53 (tC.ot (by decide) (by decide) (tC.ot (by decide) (by decide) h82)) (by omega) (by omega) hb (xAr_u (xAr_u h83.1 (xRk (by have g0 := xRb (h83.1 33 3); omega))) (xRk (by have g0 := xRb (h83.1 33 4); omega))) (by rw [xUn (by decide), xUn (by decide), h84]) (by omega) (fun a15 p15 h94 h95 h96 h97 h98 => ?_) (fun a16 f16 q16 h99 h100 h101 h102 => ?_)
                  · refine x_ifeq xc49_217 (xRk (by decide)) (fun h => absurd h (by omega)) (fun _ => ?_)
                    refine x_aloadn xc49_220 rfl ?_
                    refine x_iloadn xc49_221 rfl ?_
                    refine x_cV (as := [xV (m * 4 + c)]) (rest := []) xc49_222 rfl xi54 xz33 ⟨rfl, rfl⟩ rfl rfl ?_
                    refine xk54 h94 (by omega) (by omega) hb h95.1 (by omega) h96 (by omega) (fun a17 p17 h104 h105 h106 h107 h108 => ?_) (fun a18 f18 q18 h109 h110 h111 h112 => ?_)
                    · refine x_ifeq xc49_225 (xRk (by decide)) (fun h => absurd h (by omega)) (fun _ => ?_)
                      refine x_iconst xc49_228 ?_
                      refine x_goto xc49_229 ?_
                      refine x_iret xc49_233 (Or.inr ⟨rfl, (by omega)⟩) ?_
                      exact k12 h0 h1 h18 h57 h58 h59 a9 p9 h60 h61 h62 h63 h64 a11 p11 h72 h73 h74 h75 h76 a13 p13 h82 h83 h84 h85 h86 a15 p15 h94 h95 h96 h97 h98 a17 p17 h104 h105 h106 h107 h108
                    · refine x_ifeq xc49_225 (xRk (by decide)) (fun _ => ?_) (fun h => absurd h (by omega))
                      refine x_iconst xc49_232 ?_
                      refine x_iret xc49_233 (Or.inr ⟨rfl, (by omega)⟩) ?_
                      exact k13 h0 h1 h18 h57 h58 h59 a9 p9 h60 h61 h62 h63 h64 a11 p11 h72 h73 h74 h75 h76 a13 p13 h82 h83 h84 h85 h86 a15 p15 h94 h95 h96 h97 h98 a18 f18 q18 h109 h110 h111 h112
                  · refine x_ifeq xc49_217 (xRk (by decide)) (fun _ => ?_) (fun h => absurd h (by omega))
                    refine x_iconst xc49_232 ?_
                    refine x_iret xc49_233 (Or.inr ⟨rfl, (by omega)⟩) ?_
                    exact k14 h0 h1 h18 h57 h58 h59 a9 p9 h60 h61 h62 h63 h64 a11 p11 h72 h73 h74 h75 h76 a13 p13 h82 h83 h84 h85 h86 a16 f16 q16 h99 h100 h101 h102
                · refine x_ifne xc49_170 (xRk (by decide)) (fun h => absurd h (by omega)) (fun _ => ?_)
                  refine x_iconst xc49_173 ?_
                  refine x_iret xc49_174 (Or.inr ⟨rfl, (by omega)⟩) ?_
                  exact k15 h0 h1 h18 h57 h58 h59 a9 p9 h60 h61 h62 h63 h64 a11 p11 h72 h73 h74 h75 h76 a14 f14 q14 h87 h88 h89 h90
              · refine x_ifeq xc49_163 (xRk (by decide)) (fun _ => ?_) (fun h => absurd h (by omega))
                refine x_iconst xc49_173 ?_
                refine x_iret xc49_174 (Or.inr ⟨rfl, (by omega)⟩) ?_
                exact k16 h0 h1 h18 h57 h58 h59 a9 p9 h60 h61 h62 h63 h64 a12 f12 q12 h77 h78 h79 h80
            · refine x_ifne xc49_116 (xRk (by decide)) (fun h => absurd h (by omega)) (fun _ => ?_)
              refine x_iconst xc49_119 ?_
              refine x_iret xc49_120 (Or.inr ⟨rfl, (by omega)⟩) ?_
              exact k17 h0 h1 h18 h57 h58 h59 a10 f10 q10 h65 h66 h67 h68
          · refine x_aloadn xc49_70 rfl ?_
            refine x_gfr xc49_71 rfl rfl xz33 rfl ?_
            refine x_iconst xc49_74 ?_
            refine x_cV (as := [xV 4]) (rest := []) xc49_75 rfl xi39 xz1 ⟨rfl, rfl⟩ rfl rfl ?_
            refine xk39 hC (by omega) (by omega) hb hA (xRk (by decide)) (by omega) ?_
            refine x_iret xc49_78 (Or.inr ⟨rfl, (by omega)⟩) ?_
            exact k18 h0 h1 h18 h57 h58 h59
      · refine x_iloadn xc49_26 rfl ?_
        refine x_bipush xc49_27 (by decide) ?_
        refine x_iceq xc49_29 (xRk (by have g0 := sGB (n := n) (p := p) hb (by omega); omega)) (xRk (by decide)) (fun h119 => ?_) (fun h119 => ?_)
        · refine x_aloadn xc49_41 rfl ?_
          refine x_gfr xc49_42 rfl rfl xz33 rfl ?_
          refine x_gfi' (k := 7) (v := m) xc49_45 rfl (Or.inl rfl) rfl xz13 hm ?_
          refine x_iconst xc49_48 ?_
          refine x_imul xc49_49 ?_
          refine x_aloadn xc49_50 rfl ?_
          refine x_gfi' (k := 2) (v := c) xc49_51 rfl (Or.inl rfl) rfl xz33 hc ?_
          refine x_iadd xc49_54 ?_
          refine x_istoren (pl' := [some (.ref 33), some (xV (sG t n p)), some (xV (m * 4 + c))]) xc49_55 rfl rfl ?_
          refine x_aloadn xc49_56 rfl ?_
          refine x_gfi' (k := 2) (v := c) xc49_57 rfl (Or.inl rfl) rfl xz33 hc ?_
          refine x_iconst xc49_60 ?_
          refine x_icge xc49_61 (xRk (by omega)) (xRk (by decide)) (fun h120 => ?_) (fun h120 => ?_)
          · refine x_aloadn xc49_70 rfl ?_
            refine x_gfr xc49_71 rfl rfl xz33 rfl ?_
            refine x_iconst xc49_74 ?_
            refine x_cV (as := [xV 4]) (rest := []) xc49_75 rfl xi39 xz1 ⟨rfl, rfl⟩ rfl rfl ?_
            refine xk39 hC (by omega) (by omega) hb hA (xRk (by decide)) (by omega) ?_
            refine x_iret xc49_78 (Or.inr ⟨rfl, (by omega)⟩) ?_
            exact k19 h0 h1 h18 h57 h119 h120
          · refine x_iloadn xc49_64 rfl ?_
            refine x_bipush xc49_65 (by decide) ?_
            refine x_iclt xc49_67 (xRk (by omega)) (xRk (by decide)) (fun h121 => ?_) (fun h121 => ?_)
            · refine x_aloadn xc49_79 rfl ?_
              refine x_gfr xc49_80 rfl rfl xz33 rfl ?_
              refine x_dup xc49_83 rfl ?_
              refine x_gfi' (k := 3) (v := p) xc49_84 rfl (Or.inl rfl) rfl xz1 hC.2.2 ?_
              refine x_iconst xc49_87 ?_
              refine x_iadd xc49_88 ?_
              refine x_pfi (k := 3) xc49_89 rfl ⟨rfl, rfl⟩ rfl xz1 ?_
              refine x_aloadn xc49_92 rfl ?_
              refine x_dup xc49_93 rfl ?_
              refine x_gfi' (k := 2) (v := c) xc49_94 rfl (Or.inl rfl) rfl xz33 (by rw [xUn (by decide), hc]) ?_
              refine x_iconst xc49_97 ?_
              refine x_iadd xc49_98 ?_
              refine x_pfi (k := 2) xc49_99 rfl ⟨rfl, rfl⟩ rfl xz33 ?_
              refine x_aloadn xc49_102 rfl ?_
              refine x_gfr xc49_103 rfl rfl xz33 rfl ?_
              refine x_gfr xc49_106 rfl rfl xz13 rfl ?_
              refine x_iloadn xc49_109 rfl ?_
              refine x_iloadn xc49_110 rfl ?_
              refine x_ias xc49_111 xz14 (by omega) (by omega) (by omega) ?_
              refine x_aloadn xc49_112 rfl ?_
              refine x_cV (as := []) (rest := []) xc49_113 rfl xi50 xz33 ⟨rfl, rfl⟩ rfl rfl ?_
              refine xk50 (tC.ot (by decide) (by decide) (tC.ot (by decide) (by decide) (tC.at hC))) (by omega) (by omega) hb (xAr_u (xAr_u (xAr_u hA (xRk (by omega))) (xRk (by omega))) (xRk (by have g0 := sGB (n := n) (p := p) hb (by omega); omega))) (by rw [xUn (by decide), xUn (by decide), xUk (by decide), hf]) (by omega) (fun a19 p19 h122 h123 h124 h125 h126 => ?_) (fun a20 f20 q20 h127 h128 h129 h130 => ?_)
              · refine x_ifne xc49_116 (xRk (by decide)) (fun _ => ?_) (fun h => absurd h (by omega))
                refine x_aloadn xc49_121 rfl ?_
                refine x_gfr xc49_122 rfl rfl xz33 rfl ?_
                refine x_gfr xc49_125 rfl rfl xz13 rfl ?_
                refine x_iloadn xc49_128 rfl ?_
                refine x_aloadn xc49_129 rfl ?_
                refine x_gfi (k := 3) xc49_130 rfl (Or.inl rfl) rfl xz33 ?_
                refine x_ias xc49_133 xz15 (by omega) (by omega) (by omega) ?_
                refine x_aloadn xc49_134 rfl ?_
                refine x_gfr xc49_135 rfl rfl xz33 rfl ?_
                refine x_gfr xc49_138 rfl rfl xz13 rfl ?_
                refine x_iloadn xc49_141 rfl ?_
                refine x_aloadn xc49_142 rfl ?_
                refine x_gfi' (k := 4) (v := a19 33 4) xc49_143 rfl (Or.inl rfl) rfl xz33 (by rw [xUn (by decide)]) ?_
                refine x_ias xc49_146 xz16 (by omega) (by omega) (by omega) ?_
                refine x_iloadn xc49_147 rfl ?_
                refine x_bipush xc49_148 (by decide) ?_
                refine x_iceq xc49_150 (xRk (by have g0 := sGB (n := n) (p := p) hb (by omega); omega)) (xRk (by decide)) (fun h => absurd h (by omega)) (fun _ => ?_)
                refine x_iloadn xc49_153 rfl ?_
                refine x_bipush xc49_154 (by decide) ?_
                refine x_icne xc49_156 (xRk (by have g0 := sGB (n := n) (p := p) hb (by omega); omega)) (xRk (by decide)) (fun _ => ?_) (fun h => absurd h (by omega))
                refine x_iloadn xc49_201 rfl ?_
                refine x_bipush xc49_202 (by decide) ?_
                refine x_iceq xc49_204 (xRk (by have g0 := sGB (n := n) (p := p) hb (by omega); omega)) (xRk (by decide)) (fun h => absurd h (by omega)) (fun _ => ?_)
                refine x_iloadn xc49_207 rfl ?_
                refine x_bipush xc49_208 (by decide) ?_
                refine x_iceq xc49_210 (xRk (by have g0 := sGB (n := n) (p := p) hb (by omega); omega)) (xRk (by decide)) (fun h => absurd h (by omega)) (fun _ => ?_)
                refine x_aloadn xc49_213 rfl ?_
                refine x_cV (as := []) (rest := []) xc49_214 rfl xi53 xz33 ⟨rfl, rfl⟩ rfl rfl ?_
                refine xk53 (tC.ot (by decide) (by decide) (tC.ot (by decide) (by decide) h122)) (by omega) (by omega) hb (xAr_u (xAr_u h123.1 (xRk (by have g0 := xRb (h123.1 33 3); omega))) (xRk (by have g0 := xRb (h123.1 33 4); omega))) (by rw [xUn (by decide), xUn (by decide), h124]) (by omega) (fun a21 p21 h136 h137 h138 h139 h140 => ?_) (fun a22 f22 q22 h141 h142 h143 h144 => ?_)
                · refine x_ifeq xc49_217 (xRk (by decide)) (fun h => absurd h (by omega)) (fun _ => ?_)
                  refine x_aloadn xc49_220 rfl ?_
                  refine x_iloadn xc49_221 rfl ?_
                  refine x_cV (as := [xV (m * 4 + c)]) (rest := []) xc49_222 rfl xi54 xz33 ⟨rfl, rfl⟩ rfl rfl ?_
                  refine xk54 h136 (by omega) (by omega) hb h137.1 (by omega) h138 (by omega) (fun a23 p23 h146 h147 h148 h149 h150 => ?_) (fun a24 f24 q24 h151 h152 h153 h154 => ?_)
                  · refine x_ifeq xc49_225 (xRk (by decide)) (fun h => absurd h (by omega)) (fun _ => ?_)
                    refine x_iconst xc49_228 ?_
                    refine x_goto xc49_229 ?_
                    refine x_iret xc49_233 (Or.inr ⟨rfl, (by omega)⟩) ?_
                    exact k20 h0 h1 h18 h57 h119 h120 h121 a19 p19 h122 h123 h124 h125 h126 a21 p21 h136 h137 h138 h139 h140 a23 p23 h146 h147 h148 h149 h150
                  · refine x_ifeq xc49_225 (xRk (by decide)) (fun _ => ?_) (fun h => absurd h (by omega))
                    refine x_iconst xc49_232 ?_
                    refine x_iret xc49_233 (Or.inr ⟨rfl, (by omega)⟩) ?_
                    exact k21 h0 h1 h18 h57 h119 h120 h121 a19 p19 h122 h123 h124 h125 h126 a21 p21 h136 h137 h138 h139 h140 a24 f24 q24 h151 h152 h153 h154
                · refine x_ifeq xc49_217 (xRk (by decide)) (fun _ => ?_) (fun h => absurd h (by omega))
                  refine x_iconst xc49_232 ?_
                  refine x_iret xc49_233 (Or.inr ⟨rfl, (by omega)⟩) ?_
                  exact k22 h0 h1 h18 h57 h119 h120 h121 a19 p19 h122 h123 h124 h125 h126 a22 f22 q22 h141 h142 h143 h144
              · refine x_ifne xc49_116 (xRk (by decide)) (fun h => absurd h (by omega)) (fun _ => ?_)
                refine x_iconst xc49_119 ?_
                refine x_iret xc49_120 (Or.inr ⟨rfl, (by omega)⟩) ?_
                exact k23 h0 h1 h18 h57 h119 h120 h121 a20 f20 q20 h127 h128 h129 h130
            · refine x_aloadn xc49_70 rfl ?_
              refine x_gfr xc49_71 rfl rfl xz33 rfl ?_
              refine x_iconst xc49_74 ?_
              refine x_cV (as := [xV 4]) (rest := []) xc49_75 rfl xi39 xz1 ⟨rfl, rfl⟩ rfl rfl ?_
              refine xk39 hC (by omega) (by omega) hb hA (xRk (by decide)) (by omega) ?_
              refine x_iret xc49_78 (Or.inr ⟨rfl, (by omega)⟩) ?_
              exact k24 h0 h1 h18 h57 h119 h120 h121
        · refine x_aloadn xc49_32 rfl ?_
          refine x_gfr xc49_33 rfl rfl xz33 rfl ?_
          refine x_iconst xc49_36 ?_
          refine x_cV (as := [xV 1]) (rest := []) xc49_37 rfl xi39 xz1 ⟨rfl, rfl⟩ rfl rfl ?_
          refine xk39 hC (by omega) (by omega) hb hA (xRk (by decide)) (by omega) ?_
          refine x_iret xc49_40 (Or.inr ⟨rfl, (by omega)⟩) ?_
          exact k25 h0 h1 h18 h57 h119

theorem xk49 {ro : Nat → Nat × (Nat → Int32)} {d : Nat} {Q : Option Value → pmS → Prop} {a : xA} {b : xB} {t : Int → Int} {n p : Int} (hC : tC a t n p) (hp : 0 ≤ p ∧ p ≤ n) (hn : n ≤ 60) (hb : tB t) (hA : xAr a) {c m : Int} (hc : a 33 2 = c) (hm : a 13 7 = m) (hc0 : 0 ≤ c ∧ c ≤ 4) (hm0 : 0 ≤ m ∧ m < 6) (hf : a 1 4 = 0) (hd : 5 ≤ d)
    (hT : ∀ (a1 : xA) (p1 : Int), tC a1 t n p1 → xAr a1 → a1 33 2 = c + 1 → a1 13 7 = m → a1 1 4 = 0 → rCl t n p c = (0, p1) → p < p1 ∧ p1 ≤ n ∧ c < 4 → Q (some (xV 1)) (xS a1 b))
    (hF : ∀ (a1 : xA) (f q : Int), xAr a1 → a1 13 7 = m → a1 1 4 = f → f < 0 ∧ -10000 < f → rCl t n p c = (f, q) → Q (some (xV 0)) (xS a1 b)) : pmCs ro d 49 [.ref 33] (xS a b) Q := by
  refine pmCs_deep (d := 5) (xg49 (w49 hC hp hn hb hA hf hc hm hc0 hm0 (by decide) ?_ ?_ ?_ ?_ ?_ ?_ ?_ ?_ ?_ ?_ ?_ ?_ ?_ ?_ ?_ ?_ ?_ ?_ ?_ ?_ ?_ ?_ ?_ ?_ ?_)) hd
  · intro h0 h1 h2
    first | (exfalso; omega) | exact hF _ (-1000 * 4 - p) _ (xAr_u hA (xRk (by omega))) (by rw [xUn (by decide), hm]) (by rw [xUa]) (by omega) (Prod.ext (by unfold rCl; (repeat (first | rw [rSeq_00] | rw [rSeq_as] | rw [rSeq_0 (by assumption)] | rw [rSeq_n (by assumption) (by omega)] | rw [if_neg (by omega)] | rw [if_pos (by omega)])); all_goals (repeat' split); all_goals (first | (exfalso; omega) | (dsimp only; exact rFst (by assumption)) | (dsimp only; omega) | omega)) rfl)
  · intro h0 h1 h2 h3 a1 p1 h4 h5 h6 h7 h8
    first | (exfalso; omega) | exact hT _ (p1) (tC.ot (by decide) (by decide) (tC.ot (by decide) (by decide) h4)) (xAr_u (xAr_u h5.1 (xRk (by have g0 := xRb (h5.1 33 3); omega))) (xRk (by have g0 := xRb (h5.1 33 4); omega))) (by rw [xUn (by decide), xUn (by decide), (h5.2.1.trans (by rw [xUn (by decide), xUa]))]) (by rw [xUn (by decide), xUn (by decide), (h5.2.2.trans (by rw [xUn (by decide), xUn (by decide), xUn (by decide), hm]))]) (by rw [xUn (by decide), xUn (by decide), h6]) (by unfold rCl; (repeat (first | rw [rSeq_00] | rw [rSeq_as] | rw [rSeq_0 (by assumption)] | rw [rSeq_n (by assumption) (by omega)] | rw [if_neg (by omega)] | rw [if_pos (by omega)])); all_goals (repeat' split); all_goals (first | (exfalso; omega) | assumption | rfl)) (by omega)
  · intro h0 h1 h2 h3 a2 f2 q2 h9 h10 h11 h12
    first | (exfalso; omega) | exact hF _ (f2) _ h9.1 (h9.2.2.trans (by rw [xUn (by decide), xUn (by decide), xUn (by decide), hm])) h10 (by omega) (Prod.ext (by unfold rCl; (repeat (first | rw [rSeq_00] | rw [rSeq_as] | rw [rSeq_0 (by assumption)] | rw [rSeq_n (by assumption) (by omega)] | rw [if_neg (by omega)] | rw [if_pos (by omega)])); all_goals (repeat' split); all_goals (first | (exfalso; omega) | (dsimp only; exact rFst (by assumption)) | (dsimp only; omega) | omega)) rfl)
  · intro h0 h1 h2 h3
    first | (exfalso; omega) | exact hF _ (-1000 * 4 - p) _ (xAr_u hA (xRk (by omega))) (by rw [xUn (by decide), hm]) (by rw [xUa]) (by omega) (Prod.ext (by unfold rCl; (repeat (first | rw [rSeq_00] | rw [rSeq_as] | rw [rSeq_0 (by assumption)] | rw [rSeq_n (by assumption) (by omega)] | rw [if_neg (by omega)] | rw [if_pos (by omega)])); all_goals (repeat' split); all_goals (first | (exfalso; omega) | (dsimp only; exact rFst (by assumption)) | (dsimp only; omega) | omega)) rfl)
  · intro h0 h1 h18 h19
    first | (exfalso; omega) | exact hF _ (-1000 * 4 - p) _ (xAr_u hA (xRk (by omega))) (by rw [xUn (by decide), hm]) (by rw [xUa]) (by omega) (Prod.ext (by unfold rCl; (repeat (first | rw [rSeq_00] | rw [rSeq_as] | rw [rSeq_0 (by assumption)] | rw [rSeq_n (by assumption) (by omega)] | rw [if_neg (by omega)] | rw [if_pos (by omega)])); all_goals (repeat' split); all_goals (first | (exfalso; omega) | (dsimp only; exact rFst (by assumption)) | (dsimp only; omega) | omega)) rfl)
  · intro h0 h1 h18 h19 h20 a3 p3 h21 h22 h23 h24 h25 a5 p5 h32 h33 h34 h35 h36 a7 p7 h42 h43 h44 h45 h46
    first | (exfalso; omega) | exact hT _ (p7) (tC.ot (by decide) (by decide) (tC.ot (by decide) (by decide) h42)) (xAr_u (xAr_u h43.1 (xRk (by have g0 := xRb (h43.1 33 3); omega))) (xRk (by have g0 := xRb (h43.1 33 4); omega))) (by rw [xUn (by decide), xUn (by decide), (h43.2.1.trans (h33.2.1.trans (by rw [xUn (by decide), xUn (by decide), (h22.2.1.trans (by rw [xUn (by decide), xUa]))])))]) (by rw [xUn (by decide), xUn (by decide), (h43.2.2.trans (h33.2.2.trans (by rw [xUn (by decide), xUn (by decide), (h22.2.2.trans (by rw [xUn (by decide), xUn (by decide), xUn (by decide), hm]))])))]) (by rw [xUn (by decide), xUn (by decide), h44]) (by unfold rCl; (repeat (first | rw [rSeq_00] | rw [rSeq_as] | rw [rSeq_0 (by assumption)] | rw [rSeq_n (by assumption) (by omega)] | rw [if_neg (by omega)] | rw [if_pos (by omega)])); all_goals (repeat' split); all_goals (first | (exfalso; omega) | assumption | rfl)) (by omega)
  · intro h0 h1 h18 h19 h20 a3 p3 h21 h22 h23 h24 h25 a5 p5 h32 h33 h34 h35 h36 a8 f8 q8 h47 h48 h49 h50
    first | (exfalso; omega) | exact hF _ (f8) _ h47.1 (h47.2.2.trans (h33.2.2.trans (by rw [xUn (by decide), xUn (by decide), (h22.2.2.trans (by rw [xUn (by decide), xUn (by decide), xUn (by decide), hm]))]))) h48 (by omega) (Prod.ext (by unfold rCl; (repeat (first | rw [rSeq_00] | rw [rSeq_as] | rw [rSeq_0 (by assumption)] | rw [rSeq_n (by assumption) (by omega)] | rw [if_neg (by omega)] | rw [if_pos (by omega)])); all_goals (repeat' split); all_goals (first | (exfalso; omega) | (dsimp only; exact rFst (by assumption)) | (dsimp only; omega) | omega)) rfl)
  · intro h0 h1 h18 h19 h20 a3 p3 h21 h22 h23 h24 h25 a6 f6 q6 h37 h38 h39 h40
    first | (exfalso; omega) | exact hF _ (f6) _ h37.1 (h37.2.2.trans (by rw [xUn (by decide), xUn (by decide), (h22.2.2.trans (by rw [xUn (by decide), xUn (by decide), xUn (by decide), hm]))])) h38 (by omega) (Prod.ext (by unfold rCl; (repeat (first | rw [rSeq_00] | rw [rSeq_as] | rw [rSeq_0 (by assumption)] | rw [rSeq_n (by assumption) (by omega)] | rw [if_neg (by omega)] | rw [if_pos (by omega)])); all_goals (repeat' split); all_goals (first | (exfalso; omega) | (dsimp only; exact rFst (by assumption)) | (dsimp only; omega) | omega)) rfl)
  · intro h0 h1 h18 h19 h20 a4 f4 q4 h26 h27 h28 h29
    first | (exfalso; omega) | exact hF _ (f4) _ h26.1 (h26.2.2.trans (by rw [xUn (by decide), xUn (by decide), xUn (by decide), hm])) h27 (by omega) (Prod.ext (by unfold rCl; (repeat (first | rw [rSeq_00] | rw [rSeq_as] | rw [rSeq_0 (by assumption)] | rw [rSeq_n (by assumption) (by omega)] | rw [if_neg (by omega)] | rw [if_pos (by omega)])); all_goals (repeat' split); all_goals (first | (exfalso; omega) | (dsimp only; exact rFst (by assumption)) | (dsimp only; omega) | omega)) rfl)
  · intro h0 h1 h18 h19 h20
    first | (exfalso; omega) | exact hF _ (-1000 * 4 - p) _ (xAr_u hA (xRk (by omega))) (by rw [xUn (by decide), hm]) (by rw [xUa]) (by omega) (Prod.ext (by unfold rCl; (repeat (first | rw [rSeq_00] | rw [rSeq_as] | rw [rSeq_0 (by assumption)] | rw [rSeq_n (by assumption) (by omega)] | rw [if_neg (by omega)] | rw [if_pos (by omega)])); all_goals (repeat' split); all_goals (first | (exfalso; omega) | (dsimp only; exact rFst (by assumption)) | (dsimp only; omega) | omega)) rfl)
  · intro h0 h1 h18 h57 h58
    first | (exfalso; omega) | exact hF _ (-1000 * 4 - p) _ (xAr_u hA (xRk (by omega))) (by rw [xUn (by decide), hm]) (by rw [xUa]) (by omega) (Prod.ext (by unfold rCl; (repeat (first | rw [rSeq_00] | rw [rSeq_as] | rw [rSeq_0 (by assumption)] | rw [rSeq_n (by assumption) (by omega)] | rw [if_neg (by omega)] | rw [if_pos (by omega)])); all_goals (repeat' split); all_goals (first | (exfalso; omega) | (dsimp only; exact rFst (by assumption)) | (dsimp only; omega) | omega)) rfl)
  · intro h0 h1 h18 h57 h58 h59 a9 p9 h60 h61 h62 h63 h64 a11 p11 h72 h73 h74 h75 h76 a13 p13 h82 h83 h84 h85 h86 a15 p15 h94 h95 h96 h97 h98 a17 p17 h104 h105 h106 h107 h108
    first | (exfalso; omega) | exact hT _ (p17) h104 h105.1 (h105.2.1.trans (h95.2.1.trans (by rw [xUn (by decide), xUn (by decide), (h83.2.1.trans (h73.2.1.trans (by rw [xUn (by decide), xUn (by decide), (h61.2.1.trans (by rw [xUn (by decide), xUa]))])))]))) (h105.2.2.trans (h95.2.2.trans (by rw [xUn (by decide), xUn (by decide), (h83.2.2.trans (h73.2.2.trans (by rw [xUn (by decide), xUn (by decide), (h61.2.2.trans (by rw [xUn (by decide), xUn (by decide), xUn (by decide), hm]))])))]))) h106 (by unfold rCl; (repeat (first | rw [rSeq_00] | rw [rSeq_as] | rw [rSeq_0 (by assumption)] | rw [rSeq_n (by assumption) (by omega)] | rw [if_neg (by omega)] | rw [if_pos (by omega)])); all_goals (repeat' split); all_goals (first | (exfalso; omega) | assumption | rfl)) (by omega)
  · intro h0 h1 h18 h57 h58 h59 a9 p9 h60 h61 h62 h63 h64 a11 p11 h72 h73 h74 h75 h76 a13 p13 h82 h83 h84 h85 h86 a15 p15 h94 h95 h96 h97 h98 a18 f18 q18 h109 h110 h111 h112
    first | (exfalso; omega) | exact hF _ (f18) _ h109.1 (h109.2.2.trans (h95.2.2.trans (by rw [xUn (by decide), xUn (by decide), (h83.2.2.trans (h73.2.2.trans (by rw [xUn (by decide), xUn (by decide), (h61.2.2.trans (by rw [xUn (by decide), xUn (by decide), xUn (by decide), hm]))])))]))) h110 (by omega) (Prod.ext (by unfold rCl; (repeat (first | rw [rSeq_00] | rw [rSeq_as] | rw [rSeq_0 (by assumption)] | rw [rSeq_n (by assumption) (by omega)] | rw [if_neg (by omega)] | rw [if_pos (by omega)])); all_goals (repeat' split); all_goals (first | (exfalso; omega) | (dsimp only; exact rFst (by assumption)) | (dsimp only; omega) | omega)) rfl)
  · intro h0 h1 h18 h57 h58 h59 a9 p9 h60 h61 h62 h63 h64 a11 p11 h72 h73 h74 h75 h76 a13 p13 h82 h83 h84 h85 h86 a16 f16 q16 h99 h100 h101 h102
    first | (exfalso; omega) | exact hF _ (f16) _ h99.1 (h99.2.2.trans (by rw [xUn (by decide), xUn (by decide), (h83.2.2.trans (h73.2.2.trans (by rw [xUn (by decide), xUn (by decide), (h61.2.2.trans (by rw [xUn (by decide), xUn (by decide), xUn (by decide), hm]))])))])) h100 (by omega) (Prod.ext (by unfold rCl; (repeat (first | rw [rSeq_00] | rw [rSeq_as] | rw [rSeq_0 (by assumption)] | rw [rSeq_n (by assumption) (by omega)] | rw [if_neg (by omega)] | rw [if_pos (by omega)])); all_goals (repeat' split); all_goals (first | (exfalso; omega) | (dsimp only; exact rFst (by assumption)) | (dsimp only; omega) | omega)) rfl)
  · intro h0 h1 h18 h57 h58 h59 a9 p9 h60 h61 h62 h63 h64 a11 p11 h72 h73 h74 h75 h76 a14 f14 q14 h87 h88 h89 h90
    first | (exfalso; omega) | exact hF _ (f14) _ h87.1 (h87.2.2.trans (h73.2.2.trans (by rw [xUn (by decide), xUn (by decide), (h61.2.2.trans (by rw [xUn (by decide), xUn (by decide), xUn (by decide), hm]))]))) h88 (by omega) (Prod.ext (by unfold rCl; (repeat (first | rw [rSeq_00] | rw [rSeq_as] | rw [rSeq_0 (by assumption)] | rw [rSeq_n (by assumption) (by omega)] | rw [if_neg (by omega)] | rw [if_pos (by omega)])); all_goals (repeat' split); all_goals (first | (exfalso; omega) | (dsimp only; exact rFst (by assumption)) | (dsimp only; omega) | omega)) rfl)
  · intro h0 h1 h18 h57 h58 h59 a9 p9 h60 h61 h62 h63 h64 a12 f12 q12 h77 h78 h79 h80
    first | (exfalso; omega) | exact hF _ (f12) _ h77.1 (h77.2.2.trans (by rw [xUn (by decide), xUn (by decide), (h61.2.2.trans (by rw [xUn (by decide), xUn (by decide), xUn (by decide), hm]))])) h78 (by omega) (Prod.ext (by unfold rCl; (repeat (first | rw [rSeq_00] | rw [rSeq_as] | rw [rSeq_0 (by assumption)] | rw [rSeq_n (by assumption) (by omega)] | rw [if_neg (by omega)] | rw [if_pos (by omega)])); all_goals (repeat' split); all_goals (first | (exfalso; omega) | (dsimp only; exact rFst (by assumption)) | (dsimp only; omega) | omega)) rfl)
  · intro h0 h1 h18 h57 h58 h59 a10 f10 q10 h65 h66 h67 h68
    first | (exfalso; omega) | exact hF _ (f10) _ h65.1 (h65.2.2.trans (by rw [xUn (by decide), xUn (by decide), xUn (by decide), hm])) h66 (by omega) (Prod.ext (by unfold rCl; (repeat (first | rw [rSeq_00] | rw [rSeq_as] | rw [rSeq_0 (by assumption)] | rw [rSeq_n (by assumption) (by omega)] | rw [if_neg (by omega)] | rw [if_pos (by omega)])); all_goals (repeat' split); all_goals (first | (exfalso; omega) | (dsimp only; exact rFst (by assumption)) | (dsimp only; omega) | omega)) rfl)
  · intro h0 h1 h18 h57 h58 h59
    first | (exfalso; omega) | exact hF _ (-1000 * 4 - p) _ (xAr_u hA (xRk (by omega))) (by rw [xUn (by decide), hm]) (by rw [xUa]) (by omega) (Prod.ext (by unfold rCl; (repeat (first | rw [rSeq_00] | rw [rSeq_as] | rw [rSeq_0 (by assumption)] | rw [rSeq_n (by assumption) (by omega)] | rw [if_neg (by omega)] | rw [if_pos (by omega)])); all_goals (repeat' split); all_goals (first | (exfalso; omega) | (dsimp only; exact rFst (by assumption)) | (dsimp only; omega) | omega)) rfl)
  · intro h0 h1 h18 h57 h119 h120
    first | (exfalso; omega) | exact hF _ (-1000 * 4 - p) _ (xAr_u hA (xRk (by omega))) (by rw [xUn (by decide), hm]) (by rw [xUa]) (by omega) (Prod.ext (by unfold rCl; (repeat (first | rw [rSeq_00] | rw [rSeq_as] | rw [rSeq_0 (by assumption)] | rw [rSeq_n (by assumption) (by omega)] | rw [if_neg (by omega)] | rw [if_pos (by omega)])); all_goals (repeat' split); all_goals (first | (exfalso; omega) | (dsimp only; exact rFst (by assumption)) | (dsimp only; omega) | omega)) rfl)
  · intro h0 h1 h18 h57 h119 h120 h121 a19 p19 h122 h123 h124 h125 h126 a21 p21 h136 h137 h138 h139 h140 a23 p23 h146 h147 h148 h149 h150
    first | (exfalso; omega) | exact hT _ (p23) h146 h147.1 (h147.2.1.trans (h137.2.1.trans (by rw [xUn (by decide), xUn (by decide), (h123.2.1.trans (by rw [xUn (by decide), xUa]))]))) (h147.2.2.trans (h137.2.2.trans (by rw [xUn (by decide), xUn (by decide), (h123.2.2.trans (by rw [xUn (by decide), xUn (by decide), xUn (by decide), hm]))]))) h148 (by unfold rCl; (repeat (first | rw [rSeq_00] | rw [rSeq_as] | rw [rSeq_0 (by assumption)] | rw [rSeq_n (by assumption) (by omega)] | rw [if_neg (by omega)] | rw [if_pos (by omega)])); all_goals (repeat' split); all_goals (first | (exfalso; omega) | assumption | rfl)) (by omega)
  · intro h0 h1 h18 h57 h119 h120 h121 a19 p19 h122 h123 h124 h125 h126 a21 p21 h136 h137 h138 h139 h140 a24 f24 q24 h151 h152 h153 h154
    first | (exfalso; omega) | exact hF _ (f24) _ h151.1 (h151.2.2.trans (h137.2.2.trans (by rw [xUn (by decide), xUn (by decide), (h123.2.2.trans (by rw [xUn (by decide), xUn (by decide), xUn (by decide), hm]))]))) h152 (by omega) (Prod.ext (by unfold rCl; (repeat (first | rw [rSeq_00] | rw [rSeq_as] | rw [rSeq_0 (by assumption)] | rw [rSeq_n (by assumption) (by omega)] | rw [if_neg (by omega)] | rw [if_pos (by omega)])); all_goals (repeat' split); all_goals (first | (exfalso; omega) | (dsimp only; exact rFst (by assumption)) | (dsimp only; omega) | omega)) rfl)
  · intro h0 h1 h18 h57 h119 h120 h121 a19 p19 h122 h123 h124 h125 h126 a22 f22 q22 h141 h142 h143 h144
    first | (exfalso; omega) | exact hF _ (f22) _ h141.1 (h141.2.2.trans (by rw [xUn (by decide), xUn (by decide), (h123.2.2.trans (by rw [xUn (by decide), xUn (by decide), xUn (by decide), hm]))])) h142 (by omega) (Prod.ext (by unfold rCl; (repeat (first | rw [rSeq_00] | rw [rSeq_as] | rw [rSeq_0 (by assumption)] | rw [rSeq_n (by assumption) (by omega)] | rw [if_neg (by omega)] | rw [if_pos (by omega)])); all_goals (repeat' split); all_goals (first | (exfalso; omega) | (dsimp only; exact rFst (by assumption)) | (dsimp only; omega) | omega)) rfl)
  · intro h0 h1 h18 h57 h119 h120 h121 a20 f20 q20 h127 h128 h129 h130
    first | (exfalso; omega) | exact hF _ (f20) _ h127.1 (h127.2.2.trans (by rw [xUn (by decide), xUn (by decide), xUn (by decide), hm])) h128 (by omega) (Prod.ext (by unfold rCl; (repeat (first | rw [rSeq_00] | rw [rSeq_as] | rw [rSeq_0 (by assumption)] | rw [rSeq_n (by assumption) (by omega)] | rw [if_neg (by omega)] | rw [if_pos (by omega)])); all_goals (repeat' split); all_goals (first | (exfalso; omega) | (dsimp only; exact rFst (by assumption)) | (dsimp only; omega) | omega)) rfl)
  · intro h0 h1 h18 h57 h119 h120 h121
    first | (exfalso; omega) | exact hF _ (-1000 * 4 - p) _ (xAr_u hA (xRk (by omega))) (by rw [xUn (by decide), hm]) (by rw [xUa]) (by omega) (Prod.ext (by unfold rCl; (repeat (first | rw [rSeq_00] | rw [rSeq_as] | rw [rSeq_0 (by assumption)] | rw [rSeq_n (by assumption) (by omega)] | rw [if_neg (by omega)] | rw [if_pos (by omega)])); all_goals (repeat' split); all_goals (first | (exfalso; omega) | (dsimp only; exact rFst (by assumption)) | (dsimp only; omega) | omega)) rfl)
  · intro h0 h1 h18 h57 h119
    first | (exfalso; omega) | exact hF _ (-1000 * 1 - p) _ (xAr_u hA (xRk (by omega))) (by rw [xUn (by decide), hm]) (by rw [xUa]) (by omega) (Prod.ext (by unfold rCl; (repeat (first | rw [rSeq_00] | rw [rSeq_as] | rw [rSeq_0 (by assumption)] | rw [rSeq_n (by assumption) (by omega)] | rw [if_neg (by omega)] | rw [if_pos (by omega)])); all_goals (repeat' split); all_goals (first | (exfalso; omega) | (dsimp only; exact rFst (by assumption)) | (dsimp only; omega) | omega)) rfl)

theorem w48 {ro : Nat → Nat × (Nat → Int32)} {d : Nat} {Q : Option Value → pmS → Prop} {a : xA} {b : xB} {t : Int → Int} {n p : Int} (hC : tC a t n p) (hp : 0 ≤ p ∧ p ≤ n) (hn : n ≤ 60) (hb : tB t) (hA : xAr a) {c m : Int} (hc : a 33 2 = c) (hm : a 13 7 = m) (hc0 : 0 ≤ c ∧ c ≤ 4) (hm0 : 0 ≤ m ∧ m < 6) (hf : a 1 4 = 0) (hd : 5 ≤ d)
    (k1 : (60 ≤ c) → Q (some (xV 0)) (xS a b))
    (k2 : (¬ 60 ≤ c) → ∀ a1 : xA, ∀ p1 : Int, (tC a1 t n p1) → (xAr a1) → (a1 33 2 = c + 1) → (a1 13 7 = m) → (a1 1 4 = 0) → (rCl t n p c = (0, p1)) → (p < p1 ∧ p1 ≤ n ∧ c < 4) → (p1 < n) → (sG t n p1 = 59) → (p1 < n) → pmWp ro d 1 48 1 15 [some (.ref 33), some (xV n), some (xV (c + 1))] [] (xS (xU a1 1 3 (p1 + 1)) b) Q)
    (k3 : (¬ 60 ≤ c) → ∀ a1 : xA, ∀ p1 : Int, (tC a1 t n p1) → (xAr a1) → (a1 33 2 = c + 1) → (a1 13 7 = m) → (a1 1 4 = 0) → (rCl t n p c = (0, p1)) → (p < p1 ∧ p1 ≤ n ∧ c < 4) → (p1 < n) → (¬ sG t n p1 = 59) → Q (some (xV (-1000 * 1 - p1))) (xS (xU a1 1 4 (-1000 * 1 - p1)) b))
    (k4 : (¬ 60 ≤ c) → ∀ a1 : xA, ∀ p1 : Int, (tC a1 t n p1) → (xAr a1) → (a1 33 2 = c + 1) → (a1 13 7 = m) → (a1 1 4 = 0) → (rCl t n p c = (0, p1)) → (p < p1 ∧ p1 ≤ n ∧ c < 4) → (¬ p1 < n) → Q (some (xV 0)) (xS a1 b))
    (k5 : (¬ 60 ≤ c) → ∀ a2 : xA, ∀ f2 : Int, ∀ q2 : Int, (xAr a2) → (a2 13 7 = m) → (a2 1 4 = f2) → (f2 < 0 ∧ -10000 < f2) → (rCl t n p c = (f2, q2)) → Q (some (xV f2)) (xS a2 b)) :
    pmWp ro d 1 48 1 15 [some (.ref 33), some (xV n), some (xV c)] [] (xS a b) Q := by
  refine x_iloadn xc48_15 rfl ?_
  refine x_bipush xc48_16 (by decide) ?_
  refine x_icge xc48_18 (xRk (by omega)) (xRk (by decide)) (fun h0 => ?_) (fun h0 => ?_)
  · refine x_aloadn xc48_76 rfl ?_
    refine x_gfr xc48_77 rfl rfl xz33 rfl ?_
    refine x_gfi' (k := 4) (v := 0) xc48_80 rfl (Or.inl rfl) rfl xz1 hf ?_
    refine x_iret xc48_83 (Or.inl rfl) ?_
    exact k1 h0
  · refine x_aloadn xc48_21 rfl ?_
    refine x_cV (as := []) (rest := []) xc48_22 rfl xi49 xz33 ⟨rfl, rfl⟩ rfl rfl ?_
    refine xk49 hC (by omega) (by omega) hb hA hc hm (by omega) (by omega) hf (by omega) (fun a1 p1 h1 h2 h3 h4 h5 h6 h7 => ?_) (fun a2 f2 q2 h8 h9 h10 h11 h12 => ?_)
    · refine x_ifeq xc48_25 (xRk (by decide)) (fun h => absurd h (by omega)) (fun _ => ?_)
      refine x_aloadn xc48_28 rfl ?_
      refine x_gfr xc48_29 rfl rfl xz33 rfl ?_
      refine x_gfi' (k := 3) (v := p1) xc48_32 rfl (Or.inl rfl) rfl xz1 h1.2.2 ?_
      refine x_iloadn xc48_35 rfl ?_
      refine x_iclt xc48_36 (xRk (by omega)) (xRk (by omega)) (fun h14 => ?_) (fun h14 => ?_)
      · refine x_aloadn xc48_41 rfl ?_
        refine x_gfr xc48_42 rfl rfl xz33 rfl ?_
        refine x_bipush xc48_45 (by decide) ?_
        refine x_cV (as := [xV 59]) (rest := []) xc48_47 rfl xi44 xz1 ⟨rfl, rfl⟩ rfl rfl ?_
        refine xk44 h1 (by omega) (by omega) hb h2 (by omega) (by omega) (fun h15 h16 => ?_) (fun h17 => ?_)
        · refine x_ifne xc48_50 (xRk (by decide)) (fun _ => ?_) (fun h => absurd h (by omega))
          refine x_iinc (pl' := [some (.ref 33), some (xV n), some (xV (c + 1))]) xc48_70 rfl rfl ?_
          refine x_goto xc48_73 ?_
          exact k2 h0 a1 p1 h1 h2 h3 h4 h5 h6 h7 h14 h15 h16
        · refine x_ifne xc48_50 (xRk (by decide)) (fun h => absurd h (by omega)) (fun _ => ?_)
          refine x_aloadn xc48_53 rfl ?_
          refine x_gfr xc48_54 rfl rfl xz33 rfl ?_
          refine x_iconst xc48_57 ?_
          refine x_cV (as := [xV 1]) (rest := []) xc48_58 rfl xi39 xz1 ⟨rfl, rfl⟩ rfl rfl ?_
          refine xk39 h1 (by omega) (by omega) hb h2 (xRk (by decide)) (by omega) ?_
          refine x_pop xc48_61 rfl ?_
          refine x_aloadn xc48_62 rfl ?_
          refine x_gfr xc48_63 rfl rfl xz33 rfl ?_
          refine x_gfi' (k := 4) (v := -1000 * 1 - p1) xc48_66 rfl (Or.inl rfl) rfl xz1 (by rw [xUa]) ?_
          refine x_iret xc48_69 (Or.inl rfl) ?_
          exact k3 h0 a1 p1 h1 h2 h3 h4 h5 h6 h7 h14 h17
      · refine x_iconst xc48_39 ?_
        refine x_iret xc48_40 (Or.inl rfl) ?_
        exact k4 h0 a1 p1 h1 h2 h3 h4 h5 h6 h7 h14
    · refine x_ifeq xc48_25 (xRk (by decide)) (fun _ => ?_) (fun h => absurd h (by omega))
      refine x_aloadn xc48_76 rfl ?_
      refine x_gfr xc48_77 rfl rfl xz33 rfl ?_
      refine x_gfi' (k := 4) (v := f2) xc48_80 rfl (Or.inl rfl) rfl xz1 h10 ?_
      refine x_iret xc48_83 (Or.inl rfl) ?_
      exact k5 h0 a2 f2 q2 h8 h9 h10 h11 h12

theorem xl48 {ro : Nat → Nat × (Nat → Int32)} {d : Nat} {Q : Option Value → pmS → Prop} {b : xB} {t : Int → Int} {n m : Int} (hn : n ≤ 60) (hb : tB t) (hm0 : 0 ≤ m ∧ m < 6) (hd : 5 ≤ d) : ∀ (k : Nat) (a : xA) (c p : Int), 5 - c ≤ (k : Int) → tC a t n p → 0 ≤ p ∧ p ≤ n → xAr a → a 33 2 = c → a 13 7 = m → 0 ≤ c ∧ c ≤ 4 → a 1 4 = 0 →
    (∀ a1, xAr a1 → a1 13 7 = m → ((rLw t n k c p).1 = 0 → a1 33 2 = (rLw t n k c p).2 ∧ 1 ≤ (rLw t n k c p).2 ∧ (rLw t n k c p).2 ≤ 4) → (-10000 < (rLw t n k c p).1 ∧ (rLw t n k c p).1 ≤ 0) → Q (some (xV (rLw t n k c p).1)) (xS a1 b)) → pmWp ro d 1 48 1 15 [some (.ref 33), some (xV n), some (xV c)] [] (xS a b) Q := by
  intro k
  induction k with
  | zero =>
    intro a c p hk hC hp hA hc hm hc0 hf hQ
    exfalso
    omega
  | succ k ih =>
    intro a c p hk hC hp hA hc hm hc0 hf hQ
    refine w48 hC hp hn hb hA hc hm hc0 hm0 hf hd (fun e => absurd e (by omega)) ?_ ?_ ?_ ?_
    · intro e a1 p1 h1 h2 h3 h4 h5 h6 h7 h8 h9 h10
      have er : rLw t n (k + 1) c p = rLw t n k (c + 1) (p1 + 1) := by
        show (if (rCl t n p c).1 = 0 then _ else _) = _
        rw [h6, if_pos rfl, if_neg (by omega), if_pos h9]
      rw [er] at hQ
      exact ih (xU a1 1 3 (p1 + 1)) (c + 1) (p1 + 1) (by omega) h1.at (by omega) (xAr_u h2 ⟨by omega, by omega⟩) (by rw [xUn (by decide)]; exact h3) (by rw [xUn (by decide)]; exact h4) (by omega) (by rw [xUk (by decide)]; exact h5) hQ
    · intro e a1 p1 h1 h2 h3 h4 h5 h6 h7 h8 h9
      have er : rLw t n (k + 1) c p = (-1000 - p1, c + 1) := by
        show (if (rCl t n p c).1 = 0 then _ else _) = _
        rw [h6, if_pos rfl, if_neg (by omega), if_neg h9]
      rw [er] at hQ
      have := hQ (xU a1 1 4 (-1000 * 1 - p1)) (xAr_u h2 ⟨by omega, by omega⟩) (by rw [xUn (by decide)]; exact h4) (fun e => by have e : -1000 - p1 = 0 := e; omega) (by show -10000 < -1000 - p1 ∧ -1000 - p1 ≤ 0; omega)
      rw [show (-1000 * 1 - p1 : Int) = -1000 - p1 by omega] at this ⊢
      exact this
    · intro e a1 p1 h1 h2 h3 h4 h5 h6 h7 h8
      have er : rLw t n (k + 1) c p = (0, c + 1) := by
        show (if (rCl t n p c).1 = 0 then _ else _) = _
        rw [h6, if_pos rfl, if_pos (by omega)]
      rw [er] at hQ
      exact hQ a1 h2 h4 (fun _ => ⟨h3, by show 1 ≤ c + 1 ∧ c + 1 ≤ 4; omega⟩) (by show (-10000 : Int) < 0 ∧ (0 : Int) ≤ 0; omega)
    · intro e a2 f2 q2 h1 h2 h3 h4 h5
      have er : rLw t n (k + 1) c p = (f2, c) := by
        show (if (rCl t n p c).1 = 0 then _ else _) = _
        rw [h5, if_neg (by show ¬ f2 = 0; omega)]
      rw [er] at hQ
      exact hQ a2 h1 h2 (fun e => by have e : f2 = 0 := e; omega) (by show -10000 < f2 ∧ f2 ≤ 0; omega)
theorem xg33 {ro : Nat → Nat × (Nat → Int32)} {d : Nat} {Q : Option Value → pmS → Prop} {a : xA} {b : xB} {n : Int} (h : pmWp ro d 6 33 0 0 [some (.ref 1), some (xV n)] [] (xS a b) Q) : pmCs ro (d + 1) 33 [.ref 1, xV n] (xS a b) Q := x_go xi33 rfl rfl rfl rfl rfl h
theorem w33 {ro : Nat → Nat × (Nat → Int32)} {d : Nat} {Q : Option Value → pmS → Prop} {a : xA} {b : xB} {n l : Int} (h_n : xR n) (hl : a 1 1 = l) (h_l : xR l)
    (k1 : Q none (xS (xU (xU (xU a 1 2 (if l < n then l else n)) 1 3 0) 1 4 0) b)) :
    pmWp ro d 6 33 0 0 [some (.ref 1), some (xV n)] [] (xS a b) Q := by
  refine x_aloadn xc33_0 rfl ?_
  refine x_iloadn xc33_1 rfl ?_
  refine x_aloadn xc33_2 rfl ?_
  refine x_gfi' (k := 1) (v := l) xc33_3 rfl (Or.inl rfl) rfl xz1 hl ?_
  refine x_min xc33_6 rfl (xRk (by have g0 := xRb h_n; omega)) (xRk (by have g0 := xRb h_l; omega)) rfl ?_
  refine x_pfi (k := 2) xc33_9 rfl ⟨rfl, rfl⟩ rfl xz1 ?_
  refine x_aloadn xc33_12 rfl ?_
  refine x_iconst xc33_13 ?_
  refine x_pfi (k := 3) xc33_14 rfl ⟨rfl, rfl⟩ rfl xz1 ?_
  refine x_aloadn xc33_17 rfl ?_
  refine x_iconst xc33_18 ?_
  refine x_pfi (k := 4) xc33_19 rfl ⟨rfl, rfl⟩ rfl xz1 ?_
  refine x_ret xc33_22 rfl ?_
  exact k1

theorem xk33 {ro : Nat → Nat × (Nat → Int32)} {d : Nat} {Q : Option Value → pmS → Prop} {a : xA} {b : xB} {n l : Int} (hl : a 1 1 = l) (h0 : 0 ≤ n ∧ n ≤ l) (h1 : l ≤ 400) (hd : 1 ≤ d) (hQ : Q none (xS (xU (xU (xU a 1 2 n) 1 3 0) 1 4 0) b)) : pmCs ro d 33 [.ref 1, xV n] (xS a b) Q := by
  refine pmCs_deep (d := 1) (xg33 (w33 ⟨by omega, by omega⟩ hl ⟨by omega, by omega⟩ ?_)) hd
  have e : (if l < n then l else n) = n := if_neg (by omega)
  rw [e]
  exact hQ
theorem xg48 {ro : Nat → Nat × (Nat → Int32)} {d : Nat} {Q : Option Value → pmS → Prop} {a : xA} {b : xB} {n : Int} (h : pmWp ro d 1 48 1 0 [some (.ref 33), some (xV n), none] [] (xS a b) Q) : pmCs ro (d + 1) 48 [.ref 33, xV n] (xS a b) Q := x_go xi48 rfl rfl rfl rfl rfl h
theorem w48a {ro : Nat → Nat × (Nat → Int32)} {d : Nat} {Q : Option Value → pmS → Prop} {a : xA} {b : xB} {n l m : Int} (hl : a 1 1 = l) (h0 : 0 ≤ n ∧ n ≤ l) (h1 : l ≤ 400) (hm : a 13 7 = m) (hd : 5 ≤ d)
    (k1 : pmWp ro d 1 48 1 15 [some (.ref 33), some (xV n), some (xV 0)] [] (xS (xU (xU (xU (xU a 1 2 n) 1 3 0) 1 4 0) 33 2 0) b) Q) :
    pmWp ro d 1 48 1 0 [some (.ref 33), some (xV n), none] [] (xS a b) Q := by
  refine x_aloadn xc48_0 rfl ?_
  refine x_gfr xc48_1 rfl rfl xz33 rfl ?_
  refine x_iloadn xc48_4 rfl ?_
  refine x_cV (as := [xV n]) (rest := []) xc48_5 rfl xi33 xz1 ⟨rfl, rfl⟩ rfl rfl ?_
  refine xk33 hl (by omega) (by omega) (by omega) ?_
  refine x_aloadn xc48_8 rfl ?_
  refine x_iconst xc48_9 ?_
  refine x_pfi (k := 2) xc48_10 rfl ⟨rfl, rfl⟩ rfl xz33 ?_
  refine x_iconst xc48_13 ?_
  refine x_istoren (pl' := [some (.ref 33), some (xV n), some (xV 0)]) xc48_14 rfl rfl ?_
  exact k1

theorem xk48 {ro : Nat → Nat × (Nat → Int32)} {d : Nat} {Q : Option Value → pmS → Prop} {a : xA} {b : xB} {n l m : Int} (hl : a 1 1 = l) (h0 : 1 ≤ n ∧ n ≤ l) (h1 : l ≤ 400) (hn : n ≤ 60) {t : Int → Int} (ht : ∀ j, 0 ≤ j → j < n → a 2 j = t j) (hb : tB t) (hm : a 13 7 = m) (hm0 : 0 ≤ m ∧ m < 6) (hA : xAr a) (hd : 6 ≤ d) (hQ : ∀ a1, xAr a1 → a1 13 7 = m → ((rLw t n 6 0 0).1 = 0 → a1 33 2 = (rLw t n 6 0 0).2 ∧ 1 ≤ (rLw t n 6 0 0).2 ∧ (rLw t n 6 0 0).2 ≤ 4) → (-10000 < (rLw t n 6 0 0).1 ∧ (rLw t n 6 0 0).1 ≤ 0) → Q (some (xV (rLw t n 6 0 0).1)) (xS a1 b)) : pmCs ro d 48 [.ref 33, xV n] (xS a b) Q := by
  refine pmCs_deep (d := 6) (xg48 (w48a hl (by omega) h1 hm (by decide) ?_)) hd
  refine xl48 hn hb hm0 (by decide) 6 _ 0 0 (by decide) ⟨?_, ?_, ?_⟩ (by omega) ?_ ?_ ?_ (by decide) ?_ hQ
  · intro j j0 j1
    rw [xUn (by decide), xUn (by decide), xUn (by decide), xUn (by decide)]
    exact ht j j0 j1
  · rw [xUn (by decide), xUk (by decide), xUk (by decide), xUa]
  · rw [xUn (by decide), xUk (by decide), xUa]
  · exact xAr_u (xAr_u (xAr_u (xAr_u hA ⟨by omega, by omega⟩) xR0) xR0) xR0
  · rw [xUa]
  · rw [xUn (by decide), xUn (by decide), xUn (by decide), xUn (by decide)]
    exact hm
  · rw [xUn (by decide), xUa]
theorem xg45 {ro : Nat → Nat × (Nat → Int32)} {d : Nat} {Q : Option Value → pmS → Prop} {a : xA} {b : xB} (h : pmWp ro d 6 45 0 0 [some (.ref 1)] [] (xS a b) Q) : pmCs ro (d + 1) 45 [.ref 1] (xS a b) Q := x_go xi45 rfl rfl rfl rfl rfl h
theorem w45 {ro : Nat → Nat × (Nat → Int32)} {d : Nat} {Q : Option Value → pmS → Prop} {a : xA} {b : xB}
    (k1 : Q none (xS (xU a 1 1 0) b)) :
    pmWp ro d 6 45 0 0 [some (.ref 1)] [] (xS a b) Q := by
  refine x_aloadn xc45_0 rfl ?_
  refine x_iconst xc45_1 ?_
  refine x_pfi (k := 1) xc45_2 rfl ⟨rfl, rfl⟩ rfl xz1 ?_
  refine x_ret xc45_5 rfl ?_
  exact k1

theorem xk45 {ro : Nat → Nat × (Nat → Int32)} {d : Nat} {Q : Option Value → pmS → Prop} {a : xA} {b : xB} (hd : 1 ≤ d) (hQ : Q none (xS (xU a 1 1 0) b)) : pmCs ro d 45 [.ref 1] (xS a b) Q := pmCs_deep (d := 1) (xg45 (w45 hQ)) hd
theorem xg56 {ro : Nat → Nat × (Nat → Int32)} {d : Nat} {Q : Option Value → pmS → Prop} {a : xA} {b : xB} {c : Int} (h : pmWp ro d 2 56 1 0 [some (.ref 13), some (xV c)] [] (xS a b) Q) : pmCs ro (d + 1) 56 [.ref 13, xV c] (xS a b) Q := x_go xi56 rfl rfl rfl rfl rfl h
theorem w56 {ro : Nat → Nat × (Nat → Int32)} {d : Nat} {Q : Option Value → pmS → Prop} {a : xA} {b : xB} {c m : Int} (hm : a 13 7 = m) (hm0 : 0 ≤ m ∧ m < 6)
    (k1 : (m < 6) → Q (some (xV (m + 1 - 1))) (xS (xU (xU a 20 m c) 13 7 (m + 1)) b))
    (k2 : (¬ m < 6) → Q (some (xV (-1))) (xS a b)) :
    pmWp ro d 2 56 1 0 [some (.ref 13), some (xV c)] [] (xS a b) Q := by
  refine x_aloadn xc56_0 rfl ?_
  refine x_gfi' (k := 7) (v := m) xc56_1 rfl (Or.inl rfl) rfl xz13 hm ?_
  refine x_bipush xc56_4 (by decide) ?_
  refine x_iclt xc56_6 (xRk (by omega)) (xRk (by decide)) (fun h0 => ?_) (fun h0 => ?_)
  · refine x_aloadn xc56_11 rfl ?_
    refine x_gfr xc56_12 rfl rfl xz13 rfl ?_
    refine x_aloadn xc56_15 rfl ?_
    refine x_gfi' (k := 7) (v := m) xc56_16 rfl (Or.inl rfl) rfl xz13 hm ?_
    refine x_iloadn xc56_19 rfl ?_
    refine x_ias xc56_20 xz20 (by omega) (by omega) (by omega) ?_
    refine x_aloadn xc56_21 rfl ?_
    refine x_dup xc56_22 rfl ?_
    refine x_gfi' (k := 7) (v := m) xc56_23 rfl (Or.inl rfl) rfl xz13 (by rw [xUn (by decide), hm]) ?_
    refine x_iconst xc56_26 ?_
    refine x_iadd xc56_27 ?_
    refine x_pfi (k := 7) xc56_28 rfl ⟨rfl, rfl⟩ rfl xz13 ?_
    refine x_aloadn xc56_31 rfl ?_
    refine x_gfi' (k := 7) (v := m + 1) xc56_32 rfl (Or.inl rfl) rfl xz13 (by rw [xUa]) ?_
    refine x_iconst xc56_35 ?_
    refine x_isub xc56_36 ?_
    refine x_iret xc56_37 (Or.inl rfl) ?_
    exact k1 h0
  · refine x_iconst xc56_9 ?_
    refine x_iret xc56_10 (Or.inl rfl) ?_
    exact k2 h0

theorem xk56 {ro : Nat → Nat × (Nat → Int32)} {d : Nat} {Q : Option Value → pmS → Prop} {a : xA} {b : xB} {c m : Int} (hm : a 13 7 = m) (hm0 : 0 ≤ m ∧ m < 6) (hd : 1 ≤ d) (hQ : Q (some (xV m)) (xS (xU (xU a 20 m c) 13 7 (m + 1)) b)) : pmCs ro d 56 [.ref 13, xV c] (xS a b) Q := pmCs_deep (d := 1) (xg56 (w56 hm hm0 (fun _ => by rw [show (m + 1 - 1 : Int) = m by omega]; exact hQ) (fun e => absurd hm0.2 e))) hd
theorem xg47 {ro : Nat → Nat × (Nat → Int32)} {d : Nat} {Q : Option Value → pmS → Prop} {a : xA} {b : xB} {n : Int} (h : pmWp ro d 11 47 1 0 [some (.ref 0), some (xV n), none] [] (xS a b) Q) : pmCs ro (d + 1) 47 [.ref 0, xV n] (xS a b) Q := x_go xi47 rfl rfl rfl rfl rfl h
theorem w47 {ro : Nat → Nat × (Nat → Int32)} {d : Nat} {Q : Option Value → pmS → Prop} {a : xA} {b : xB} {n m l g : Int} (h_n : xR n) (hg : a 0 12 = g) (hm : a 13 7 = m) (hl : a 1 1 = l) (hg0 : 0 ≤ g ∧ g ≤ 1) (hm0 : 0 ≤ m ∧ m ≤ 6) (hl0 : 0 ≤ l ∧ l ≤ 400)
    (k1 : (¬ g = 0) → Q (some (xV (-1))) (xS a b))
    (k2 : (¬ ¬ g = 0) → (n < 1) → Q (some (xV (-1))) (xS a b))
    (k3 : (¬ ¬ g = 0) → (¬ n < 1) → (60 < n) → Q (some (xV (-1))) (xS a b))
    (k4 : (¬ ¬ g = 0) → (¬ n < 1) → (¬ 60 < n) → (6 ≤ m) → Q (some (xV (-1))) (xS a b))
    (k5 : (¬ ¬ g = 0) → (¬ n < 1) → (¬ 60 < n) → (¬ 6 ≤ m) → (n ≤ l) → pmCs ro d 48 [.ref 33, xV n] (xS a b) fun r σ' => pmWp ro d 11 47 1 51 [some (.ref 0), some (xV n), none] (r.toList ++ []) σ' Q)
    (k6 : (¬ ¬ g = 0) → (¬ n < 1) → (¬ 60 < n) → (¬ 6 ≤ m) → (¬ n ≤ l) → Q (some (xV (-1))) (xS a b)) :
    pmWp ro d 11 47 1 0 [some (.ref 0), some (xV n), none] [] (xS a b) Q := by
  refine x_aloadn xc47_0 rfl ?_
  refine x_gfi' (k := 12) (v := g) xc47_1 rfl (Or.inr rfl) rfl xz0 hg ?_
  refine x_ifne xc47_4 (xRk (by omega)) (fun h0 => ?_) (fun h0 => ?_)
  · refine x_iconst xc47_41 ?_
    refine x_iret xc47_42 (Or.inl rfl) ?_
    exact k1 h0
  · refine x_iloadn xc47_7 rfl ?_
    refine x_iconst xc47_8 ?_
    refine x_iclt xc47_9 (xRk (by have g0 := xRb h_n; omega)) (xRk (by decide)) (fun h1 => ?_) (fun h1 => ?_)
    · refine x_iconst xc47_41 ?_
      refine x_iret xc47_42 (Or.inl rfl) ?_
      exact k2 h0 h1
    · refine x_iloadn xc47_12 rfl ?_
      refine x_bipush xc47_13 (by decide) ?_
      refine x_icgt xc47_15 (xRk (by have g0 := xRb h_n; omega)) (xRk (by decide)) (fun h2 => ?_) (fun h2 => ?_)
      · refine x_iconst xc47_41 ?_
        refine x_iret xc47_42 (Or.inl rfl) ?_
        exact k3 h0 h1 h2
      · refine x_aloadn xc47_18 rfl ?_
        refine x_gfr xc47_19 rfl rfl xz0 rfl ?_
        refine x_gfi' (k := 7) (v := m) xc47_22 rfl (Or.inl rfl) rfl xz13 hm ?_
        refine x_bipush xc47_25 (by decide) ?_
        refine x_icge xc47_27 (xRk (by omega)) (xRk (by decide)) (fun h3 => ?_) (fun h3 => ?_)
        · refine x_iconst xc47_41 ?_
          refine x_iret xc47_42 (Or.inl rfl) ?_
          exact k4 h0 h1 h2 h3
        · refine x_iloadn xc47_30 rfl ?_
          refine x_aloadn xc47_31 rfl ?_
          refine x_gfr xc47_32 rfl rfl xz0 rfl ?_
          refine x_gfi' (k := 1) (v := l) xc47_35 rfl (Or.inl rfl) rfl xz1 hl ?_
          refine x_icle xc47_38 (xRk (by have g0 := xRb h_n; omega)) (xRk (by omega)) (fun h4 => ?_) (fun h4 => ?_)
          · refine x_aloadn xc47_43 rfl ?_
            refine x_gfr xc47_44 rfl rfl xz0 rfl ?_
            refine x_iloadn xc47_47 rfl ?_
            refine x_cV (as := [xV n]) (rest := []) xc47_48 rfl xi48 xz33 ⟨rfl, rfl⟩ rfl rfl ?_
            exact k5 h0 h1 h2 h3 h4
          · refine x_iconst xc47_41 ?_
            refine x_iret xc47_42 (Or.inl rfl) ?_
            exact k6 h0 h1 h2 h3 h4

theorem w47f {ro : Nat → Nat × (Nat → Int32)} {d : Nat} {Q : Option Value → pmS → Prop} {v2 : Option Value} {a : xA} {b : xB} {n m f : Int} (h_f : -10000 < f ∧ f < 0) (hd : 1 ≤ d)
    (k1 : (f = 0) → pmCs ro d 56 [.ref 13, xV (a 33 2)] (xS (xU a 1 1 0) b) fun r σ' => pmWp ro d 11 47 1 81 [some (.ref 0), some (xV n), some (xV f)] (r.toList ++ []) σ' Q)
    (k2 : (¬ f = 0) → Q (some (xV f)) (xS (xU a 1 1 0) b)) :
    pmWp ro d 11 47 1 51 [some (.ref 0), some (xV n), v2] [xV f] (xS a b) Q := by
  refine x_istoren (pl' := [some (.ref 0), some (xV n), some (xV f)]) xc47_51 rfl rfl ?_
  refine x_aloadn xc47_52 rfl ?_
  refine x_gfr xc47_53 rfl rfl xz0 rfl ?_
  refine x_cV (as := []) (rest := []) xc47_56 rfl xi45 xz1 ⟨rfl, rfl⟩ rfl rfl ?_
  refine xk45 (by omega) ?_
  refine x_iloadn xc47_59 rfl ?_
  refine x_ifeq xc47_60 (xRk (by omega)) (fun h0 => ?_) (fun h0 => ?_)
  · refine x_aloadn xc47_67 rfl ?_
    refine x_gfr xc47_68 rfl rfl xz0 rfl ?_
    refine x_aloadn xc47_71 rfl ?_
    refine x_gfr xc47_72 rfl rfl xz0 rfl ?_
    refine x_gfi' (k := 2) (v := a 33 2) xc47_75 rfl (Or.inl rfl) rfl xz33 (by rw [xUn (by decide)]) ?_
    refine x_cV (as := [xV (a 33 2)]) (rest := []) xc47_78 rfl xi56 xz13 ⟨rfl, rfl⟩ rfl rfl ?_
    exact k1 h0
  · refine x_iloadn xc47_63 rfl ?_
    refine x_goto xc47_64 ?_
    refine x_iret xc47_81 (Or.inl rfl) ?_
    exact k2 h0

theorem w47g {ro : Nat → Nat × (Nat → Int32)} {d : Nat} {Q : Option Value → pmS → Prop} {v2 : Option Value} {a : xA} {b : xB} {n m c : Int} (hm : a 13 7 = m) (hm0 : 0 ≤ m ∧ m < 6) (hc : a 33 2 = c) (hc0 : 0 ≤ c ∧ c ≤ 4) (hd : 1 ≤ d)
    (k1 : Q (some (xV m)) (xS (xU (xU (xU a 1 1 0) 20 m c) 13 7 (m + 1)) b)) :
    pmWp ro d 11 47 1 51 [some (.ref 0), some (xV n), v2] [xV 0] (xS a b) Q := by
  refine x_istoren (pl' := [some (.ref 0), some (xV n), some (xV 0)]) xc47_51 rfl rfl ?_
  refine x_aloadn xc47_52 rfl ?_
  refine x_gfr xc47_53 rfl rfl xz0 rfl ?_
  refine x_cV (as := []) (rest := []) xc47_56 rfl xi45 xz1 ⟨rfl, rfl⟩ rfl rfl ?_
  refine xk45 (by omega) ?_
  refine x_iloadn xc47_59 rfl ?_
  refine x_ifeq xc47_60 (xRk (by decide)) (fun _ => ?_) (fun h => absurd h (by omega))
  refine x_aloadn xc47_67 rfl ?_
  refine x_gfr xc47_68 rfl rfl xz0 rfl ?_
  refine x_aloadn xc47_71 rfl ?_
  refine x_gfr xc47_72 rfl rfl xz0 rfl ?_
  refine x_gfi' (k := 2) (v := c) xc47_75 rfl (Or.inl rfl) rfl xz33 (by rw [xUn (by decide), hc]) ?_
  refine x_cV (as := [xV c]) (rest := []) xc47_78 rfl xi56 xz13 ⟨rfl, rfl⟩ rfl rfl ?_
  refine xk56 (by rw [xUn (by decide), hm]) (by omega) (by omega) ?_
  refine x_iret xc47_81 (Or.inl rfl) ?_
  exact k1

end
