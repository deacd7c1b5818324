/-! exact: keeping of the reference -/
section
set_option maxRecDepth 100000
theorem xi202 : pmInf[202]? = some pmI_202 := rfl
theorem xi224 : pmInf[224]? = some pmI_224 := rfl
theorem xi225 : pmInf[225]? = some pmI_225 := rfl
theorem xi226 : pmInf[226]? = some pmI_226 := rfl
theorem xi228 : pmInf[228]? = some pmI_228 := rfl
theorem xi229 : pmInf[229]? = some pmI_229 := rfl
theorem xc202_0 : pmCode 202 0 = some (.iconst 0) ∧ 0 + 1 = 1 := ⟨rfl, rfl⟩
theorem xc202_1 : pmCode 202 1 = some (.istore_n 2) ∧ 1 + 1 = 2 := ⟨rfl, rfl⟩
theorem xc202_2 : pmCode 202 2 = some (.iload_n 2) ∧ 2 + 1 = 3 := ⟨rfl, rfl⟩
theorem xc202_3 : pmCode 202 3 = some (.aload_n 0) ∧ 3 + 1 = 4 := ⟨rfl, rfl⟩
theorem xc202_4 : pmCode 202 4 = some (.getfield 48) ∧ 4 + 3 = 7 := ⟨rfl, rfl⟩
theorem xc202_7 : pmCode 202 7 = some (.iload_n 1) ∧ 7 + 1 = 8 := ⟨rfl, rfl⟩
theorem xc202_8 : pmCode 202 8 = some .iaload ∧ 8 + 1 = 9 := ⟨rfl, rfl⟩
theorem xc202_9 : pmCode 202 9 = some (.if_icmp .ge 31) ∧ ((9 : Nat) : Int) + 31 = ((40 : Nat) : Int) ∧ 9 + 3 = 12 := ⟨rfl, rfl, rfl⟩
theorem xc202_12 : pmCode 202 12 = some (.aload_n 0) ∧ 12 + 1 = 13 := ⟨rfl, rfl⟩
theorem xc202_13 : pmCode 202 13 = some (.getfield 7) ∧ 13 + 3 = 16 := ⟨rfl, rfl⟩
theorem xc202_16 : pmCode 202 16 = some (.bipush 41) ∧ 16 + 2 = 18 := ⟨rfl, rfl⟩
theorem xc202_18 : pmCode 202 18 = some (.iconst 3) ∧ 18 + 1 = 19 := ⟨rfl, rfl⟩
theorem xc202_19 : pmCode 202 19 = some (.iconst 4) ∧ 19 + 1 = 20 := ⟨rfl, rfl⟩
theorem xc202_20 : pmCode 202 20 = some (.iload_n 1) ∧ 20 + 1 = 21 := ⟨rfl, rfl⟩
theorem xc202_21 : pmCode 202 21 = some .imul ∧ 21 + 1 = 22 := ⟨rfl, rfl⟩
theorem xc202_22 : pmCode 202 22 = some (.iload_n 2) ∧ 22 + 1 = 23 := ⟨rfl, rfl⟩
theorem xc202_23 : pmCode 202 23 = some .iadd ∧ 23 + 1 = 24 := ⟨rfl, rfl⟩
theorem xc202_24 : pmCode 202 24 = some .imul ∧ 24 + 1 = 25 := ⟨rfl, rfl⟩
theorem xc202_25 : pmCode 202 25 = some .iadd ∧ 25 + 1 = 26 := ⟨rfl, rfl⟩
theorem xc202_26 : pmCode 202 26 = some (.iconst 2) ∧ 26 + 1 = 27 := ⟨rfl, rfl⟩
theorem xc202_27 : pmCode 202 27 = some .iadd ∧ 27 + 1 = 28 := ⟨rfl, rfl⟩
theorem xc202_28 : pmCode 202 28 = some .iaload ∧ 28 + 1 = 29 := ⟨rfl, rfl⟩
theorem xc202_29 : pmCode 202 29 = some (.ifCond .eq 5) ∧ ((29 : Nat) : Int) + 5 = ((34 : Nat) : Int) ∧ 29 + 3 = 32 := ⟨rfl, rfl, rfl⟩
theorem xc202_32 : pmCode 202 32 = some (.iconst 1) ∧ 32 + 1 = 33 := ⟨rfl, rfl⟩
theorem xc202_33 : pmCode 202 33 = some .ireturn := rfl
theorem xc202_34 : pmCode 202 34 = some (.iinc 2 1) ∧ 34 + 3 = 37 := ⟨rfl, rfl⟩
theorem xc202_37 : pmCode 202 37 = some (.goto (-35)) ∧ ((37 : Nat) : Int) + (-35) = ((2 : Nat) : Int) := ⟨rfl, rfl⟩
theorem xc202_40 : pmCode 202 40 = some (.iconst 0) ∧ 40 + 1 = 41 := ⟨rfl, rfl⟩
theorem xc202_41 : pmCode 202 41 = some .ireturn := rfl
theorem xc223_7 : pmCode 223 7 = some (.iload_n 1) ∧ 7 + 1 = 8 := ⟨rfl, rfl⟩
theorem xc223_8 : pmCode 223 8 = some (.iconst 0) ∧ 8 + 1 = 9 := ⟨rfl, rfl⟩
theorem xc223_9 : pmCode 223 9 = some (.iconst 2) ∧ 9 + 1 = 10 := ⟨rfl, rfl⟩
theorem xc223_10 : pmCode 223 10 = some (.invokestatic 142) ∧ 10 + 3 = 13 := ⟨rfl, rfl⟩
theorem xc223_13 : pmCode 223 13 = some (.ifCond .ne 5) ∧ ((13 : Nat) : Int) + 5 = ((18 : Nat) : Int) ∧ 13 + 3 = 16 := ⟨rfl, rfl, rfl⟩
theorem xc223_18 : pmCode 223 18 = some (.aload_n 0) ∧ 18 + 1 = 19 := ⟨rfl, rfl⟩
theorem xc223_19 : pmCode 223 19 = some (.invokevirtual 401) ∧ 19 + 3 = 22 := ⟨rfl, rfl⟩
theorem xc223_22 : pmCode 223 22 = some (.ifCond .eq 5) ∧ ((22 : Nat) : Int) + 5 = ((27 : Nat) : Int) ∧ 22 + 3 = 25 := ⟨rfl, rfl, rfl⟩
theorem xc223_25 : pmCode 223 25 = some (.iconst 0) ∧ 25 + 1 = 26 := ⟨rfl, rfl⟩
theorem xc223_26 : pmCode 223 26 = some .ireturn := rfl
theorem xc223_27 : pmCode 223 27 = some (.iload_n 1) ∧ 27 + 1 = 28 := ⟨rfl, rfl⟩
theorem xc223_28 : pmCode 223 28 = some (.ifCond .ne 5) ∧ ((28 : Nat) : Int) + 5 = ((33 : Nat) : Int) ∧ 28 + 3 = 31 := ⟨rfl, rfl, rfl⟩
theorem xc223_31 : pmCode 223 31 = some (.iconst 1) ∧ 31 + 1 = 32 := ⟨rfl, rfl⟩
theorem xc223_32 : pmCode 223 32 = some .ireturn := rfl
theorem xc223_33 : pmCode 223 33 = some (.iload_n 1) ∧ 33 + 1 = 34 := ⟨rfl, rfl⟩
theorem xc223_34 : pmCode 223 34 = some (.iconst 1) ∧ 34 + 1 = 35 := ⟨rfl, rfl⟩
theorem xc223_35 : pmCode 223 35 = some (.if_icmp .ne 19) ∧ ((35 : Nat) : Int) + 19 = ((54 : Nat) : Int) ∧ 35 + 3 = 38 := ⟨rfl, rfl, rfl⟩
theorem xc223_38 : pmCode 223 38 = some (.aload_n 0) ∧ 38 + 1 = 39 := ⟨rfl, rfl⟩
theorem xc223_39 : pmCode 223 39 = some (.iconst 1) ∧ 39 + 1 = 40 := ⟨rfl, rfl⟩
theorem xc223_40 : pmCode 223 40 = some (.invokevirtual 410) ∧ 40 + 3 = 43 := ⟨rfl, rfl⟩
theorem xc223_43 : pmCode 223 43 = some (.ifCond .eq 7) ∧ ((43 : Nat) : Int) + 7 = ((50 : Nat) : Int) ∧ 43 + 3 = 46 := ⟨rfl, rfl, rfl⟩
theorem xc223_46 : pmCode 223 46 = some (.iconst 1) ∧ 46 + 1 = 47 := ⟨rfl, rfl⟩
theorem xc223_47 : pmCode 223 47 = some (.goto 20) ∧ ((47 : Nat) : Int) + 20 = ((67 : Nat) : Int) := ⟨rfl, rfl⟩
theorem xc223_50 : pmCode 223 50 = some (.iconst 0) ∧ 50 + 1 = 51 := ⟨rfl, rfl⟩
theorem xc223_51 : pmCode 223 51 = some (.goto 16) ∧ ((51 : Nat) : Int) + 16 = ((67 : Nat) : Int) := ⟨rfl, rfl⟩
theorem xc223_54 : pmCode 223 54 = some (.aload_n 0) ∧ 54 + 1 = 55 := ⟨rfl, rfl⟩
theorem xc223_55 : pmCode 223 55 = some (.iconst 1) ∧ 55 + 1 = 56 := ⟨rfl, rfl⟩
theorem xc223_56 : pmCode 223 56 = some (.invokevirtual 416) ∧ 56 + 3 = 59 := ⟨rfl, rfl⟩
theorem xc223_59 : pmCode 223 59 = some (.ifCond .eq 7) ∧ ((59 : Nat) : Int) + 7 = ((66 : Nat) : Int) ∧ 59 + 3 = 62 := ⟨rfl, rfl, rfl⟩
theorem xc223_62 : pmCode 223 62 = some (.iconst 1) ∧ 62 + 1 = 63 := ⟨rfl, rfl⟩
theorem xc223_63 : pmCode 223 63 = some (.goto 4) ∧ ((63 : Nat) : Int) + 4 = ((67 : Nat) : Int) := ⟨rfl, rfl⟩
theorem xc223_66 : pmCode 223 66 = some (.iconst 0) ∧ 66 + 1 = 67 := ⟨rfl, rfl⟩
theorem xc223_67 : pmCode 223 67 = some .ireturn := rfl
theorem xc224_0 : pmCode 224 0 = some (.iconst 0) ∧ 0 + 1 = 1 := ⟨rfl, rfl⟩
theorem xc224_1 : pmCode 224 1 = some (.istore_n 1) ∧ 1 + 1 = 2 := ⟨rfl, rfl⟩
theorem xc224_2 : pmCode 224 2 = some (.iload_n 1) ∧ 2 + 1 = 3 := ⟨rfl, rfl⟩
theorem xc224_3 : pmCode 224 3 = some (.aload_n 0) ∧ 3 + 1 = 4 := ⟨rfl, rfl⟩
theorem xc224_4 : pmCode 224 4 = some (.getfield 247) ∧ 4 + 3 = 7 := ⟨rfl, rfl⟩
theorem xc224_7 : pmCode 224 7 = some (.if_icmp .ge 19) ∧ ((7 : Nat) : Int) + 19 = ((26 : Nat) : Int) ∧ 7 + 3 = 10 := ⟨rfl, rfl, rfl⟩
theorem xc224_10 : pmCode 224 10 = some (.aload_n 0) ∧ 10 + 1 = 11 := ⟨rfl, rfl⟩
theorem xc224_11 : pmCode 224 11 = some (.iload_n 1) ∧ 11 + 1 = 12 := ⟨rfl, rfl⟩
theorem xc224_12 : pmCode 224 12 = some (.invokevirtual 364) ∧ 12 + 3 = 15 := ⟨rfl, rfl⟩
theorem xc224_15 : pmCode 224 15 = some (.ifCond .eq 5) ∧ ((15 : Nat) : Int) + 5 = ((20 : Nat) : Int) ∧ 15 + 3 = 18 := ⟨rfl, rfl, rfl⟩
theorem xc224_18 : pmCode 224 18 = some (.iconst 1) ∧ 18 + 1 = 19 := ⟨rfl, rfl⟩
theorem xc224_19 : pmCode 224 19 = some .ireturn := rfl
theorem xc224_20 : pmCode 224 20 = some (.iinc 1 1) ∧ 20 + 3 = 23 := ⟨rfl, rfl⟩
theorem xc224_23 : pmCode 224 23 = some (.goto (-21)) ∧ ((23 : Nat) : Int) + (-21) = ((2 : Nat) : Int) := ⟨rfl, rfl⟩
theorem xc224_26 : pmCode 224 26 = some (.iconst 0) ∧ 26 + 1 = 27 := ⟨rfl, rfl⟩
theorem xc224_27 : pmCode 224 27 = some .ireturn := rfl
theorem xc225_0 : pmCode 225 0 = some (.aload_n 0) ∧ 0 + 1 = 1 := ⟨rfl, rfl⟩
theorem xc225_1 : pmCode 225 1 = some (.iload_n 1) ∧ 1 + 1 = 2 := ⟨rfl, rfl⟩
theorem xc225_2 : pmCode 225 2 = some (.invokevirtual 336) ∧ 2 + 3 = 5 := ⟨rfl, rfl⟩
theorem xc225_5 : pmCode 225 5 = some (.iconst 0) ∧ 5 + 1 = 6 := ⟨rfl, rfl⟩
theorem xc225_6 : pmCode 225 6 = some (.istore_n 2) ∧ 6 + 1 = 7 := ⟨rfl, rfl⟩
theorem xc225_7 : pmCode 225 7 = some (.iload_n 2) ∧ 7 + 1 = 8 := ⟨rfl, rfl⟩
theorem xc225_8 : pmCode 225 8 = some (.bipush 57) ∧ 8 + 2 = 10 := ⟨rfl, rfl⟩
theorem xc225_10 : pmCode 225 10 = some (.if_icmp .ge 28) ∧ ((10 : Nat) : Int) + 28 = ((38 : Nat) : Int) ∧ 10 + 3 = 13 := ⟨rfl, rfl, rfl⟩
theorem xc225_13 : pmCode 225 13 = some (.aload_n 0) ∧ 13 + 1 = 14 := ⟨rfl, rfl⟩
theorem xc225_14 : pmCode 225 14 = some (.iload_n 2) ∧ 14 + 1 = 15 := ⟨rfl, rfl⟩
theorem xc225_15 : pmCode 225 15 = some (.invokevirtual 392) ∧ 15 + 3 = 18 := ⟨rfl, rfl⟩
theorem xc225_18 : pmCode 225 18 = some (.ifCond .eq 14) ∧ ((18 : Nat) : Int) + 14 = ((32 : Nat) : Int) ∧ 18 + 3 = 21 := ⟨rfl, rfl, rfl⟩
theorem xc225_21 : pmCode 225 21 = some (.aload_n 0) ∧ 21 + 1 = 22 := ⟨rfl, rfl⟩
theorem xc225_22 : pmCode 225 22 = some (.iload_n 2) ∧ 22 + 1 = 23 := ⟨rfl, rfl⟩
theorem xc225_23 : pmCode 225 23 = some (.iload_n 1) ∧ 23 + 1 = 24 := ⟨rfl, rfl⟩
theorem xc225_24 : pmCode 225 24 = some (.invokevirtual 407) ∧ 24 + 3 = 27 := ⟨rfl, rfl⟩
theorem xc225_27 : pmCode 225 27 = some (.ifCond .eq 5) ∧ ((27 : Nat) : Int) + 5 = ((32 : Nat) : Int) ∧ 27 + 3 = 30 := ⟨rfl, rfl, rfl⟩
theorem xc225_30 : pmCode 225 30 = some (.iconst 1) ∧ 30 + 1 = 31 := ⟨rfl, rfl⟩
theorem xc225_31 : pmCode 225 31 = some .ireturn := rfl
theorem xc225_32 : pmCode 225 32 = some (.iinc 2 1) ∧ 32 + 3 = 35 := ⟨rfl, rfl⟩
theorem xc225_35 : pmCode 225 35 = some (.goto (-28)) ∧ ((35 : Nat) : Int) + (-28) = ((7 : Nat) : Int) := ⟨rfl, rfl⟩
theorem xc225_38 : pmCode 225 38 = some (.iconst 0) ∧ 38 + 1 = 39 := ⟨rfl, rfl⟩
theorem xc225_39 : pmCode 225 39 = some .ireturn := rfl
theorem xc226_0 : pmCode 226 0 = some (.aload_n 0) ∧ 0 + 1 = 1 := ⟨rfl, rfl⟩
theorem xc226_1 : pmCode 226 1 = some (.iload_n 1) ∧ 1 + 1 = 2 := ⟨rfl, rfl⟩
theorem xc226_2 : pmCode 226 2 = some (.invokevirtual 395) ∧ 2 + 3 = 5 := ⟨rfl, rfl⟩
theorem xc226_5 : pmCode 226 5 = some (.aload_n 0) ∧ 5 + 1 = 6 := ⟨rfl, rfl⟩
theorem xc226_6 : pmCode 226 6 = some (.iload_n 2) ∧ 6 + 1 = 7 := ⟨rfl, rfl⟩
theorem xc226_7 : pmCode 226 7 = some (.iconst 1) ∧ 7 + 1 = 8 := ⟨rfl, rfl⟩
theorem xc226_8 : pmCode 226 8 = some .iadd ∧ 8 + 1 = 9 := ⟨rfl, rfl⟩
theorem xc226_9 : pmCode 226 9 = some (.invokevirtual 336) ∧ 9 + 3 = 12 := ⟨rfl, rfl⟩
theorem xc226_12 : pmCode 226 12 = some (.iconst 1) ∧ 12 + 1 = 13 := ⟨rfl, rfl⟩
theorem xc226_13 : pmCode 226 13 = some (.istore_n 3) ∧ 13 + 1 = 14 := ⟨rfl, rfl⟩
theorem xc226_14 : pmCode 226 14 = some (.iconst (-1)) ∧ 14 + 1 = 15 := ⟨rfl, rfl⟩
theorem xc226_15 : pmCode 226 15 = some (.istore 4) ∧ 15 + 2 = 17 := ⟨rfl, rfl⟩
theorem xc226_17 : pmCode 226 17 = some (.iload 4) ∧ 17 + 2 = 19 := ⟨rfl, rfl⟩
theorem xc226_19 : pmCode 226 19 = some (.bipush 61) ∧ 19 + 2 = 21 := ⟨rfl, rfl⟩
theorem xc226_21 : pmCode 226 21 = some (.if_icmp .ge 59) ∧ ((21 : Nat) : Int) + 59 = ((80 : Nat) : Int) ∧ 21 + 3 = 24 := ⟨rfl, rfl, rfl⟩
theorem xc226_24 : pmCode 226 24 = some (.iload_n 3) ∧ 24 + 1 = 25 := ⟨rfl, rfl⟩
theorem xc226_25 : pmCode 226 25 = some (.ifCond .eq 55) ∧ ((25 : Nat) : Int) + 55 = ((80 : Nat) : Int) ∧ 25 + 3 = 28 := ⟨rfl, rfl, rfl⟩
theorem xc226_28 : pmCode 226 28 = some (.iload 4) ∧ 28 + 2 = 30 := ⟨rfl, rfl⟩
theorem xc226_30 : pmCode 226 30 = some (.iconst (-1)) ∧ 30 + 1 = 31 := ⟨rfl, rfl⟩
theorem xc226_31 : pmCode 226 31 = some (.if_icmp .eq 16) ∧ ((31 : Nat) : Int) + 16 = ((47 : Nat) : Int) ∧ 31 + 3 = 34 := ⟨rfl, rfl, rfl⟩
theorem xc226_34 : pmCode 226 34 = some (.aload_n 0) ∧ 34 + 1 = 35 := ⟨rfl, rfl⟩
theorem xc226_35 : pmCode 226 35 = some (.iconst 0) ∧ 35 + 1 = 36 := ⟨rfl, rfl⟩
theorem xc226_36 : pmCode 226 36 = some (.iload 4) ∧ 36 + 2 = 38 := ⟨rfl, rfl⟩
theorem xc226_38 : pmCode 226 38 = some (.invokevirtual 377) ∧ 38 + 3 = 41 := ⟨rfl, rfl⟩
theorem xc226_41 : pmCode 226 41 = some (.ifCond .ne 6) ∧ ((41 : Nat) : Int) + 6 = ((47 : Nat) : Int) ∧ 41 + 3 = 44 := ⟨rfl, rfl, rfl⟩
theorem xc226_44 : pmCode 226 44 = some (.goto 30) ∧ ((44 : Nat) : Int) + 30 = ((74 : Nat) : Int) := ⟨rfl, rfl⟩
theorem xc226_47 : pmCode 226 47 = some (.aload_n 0) ∧ 47 + 1 = 48 := ⟨rfl, rfl⟩
theorem xc226_48 : pmCode 226 48 = some (.iload 4) ∧ 48 + 2 = 50 := ⟨rfl, rfl⟩
theorem xc226_50 : pmCode 226 50 = some (.iconst (-1)) ∧ 50 + 1 = 51 := ⟨rfl, rfl⟩
theorem xc226_51 : pmCode 226 51 = some (.invokevirtual 380) ∧ 51 + 3 = 54 := ⟨rfl, rfl⟩
theorem xc226_54 : pmCode 226 54 = some (.aload_n 0) ∧ 54 + 1 = 55 := ⟨rfl, rfl⟩
theorem xc226_55 : pmCode 226 55 = some (.invokevirtual 401) ∧ 55 + 3 = 58 := ⟨rfl, rfl⟩
theorem xc226_58 : pmCode 226 58 = some (.ifCond .ne 7) ∧ ((58 : Nat) : Int) + 7 = ((65 : Nat) : Int) ∧ 58 + 3 = 61 := ⟨rfl, rfl, rfl⟩
theorem xc226_61 : pmCode 226 61 = some (.iconst 1) ∧ 61 + 1 = 62 := ⟨rfl, rfl⟩
theorem xc226_62 : pmCode 226 62 = some (.goto 4) ∧ ((62 : Nat) : Int) + 4 = ((66 : Nat) : Int) := ⟨rfl, rfl⟩
theorem xc226_65 : pmCode 226 65 = some (.iconst 0) ∧ 65 + 1 = 66 := ⟨rfl, rfl⟩
theorem xc226_66 : pmCode 226 66 = some (.istore_n 3) ∧ 66 + 1 = 67 := ⟨rfl, rfl⟩
theorem xc226_67 : pmCode 226 67 = some (.aload_n 0) ∧ 67 + 1 = 68 := ⟨rfl, rfl⟩
theorem xc226_68 : pmCode 226 68 = some (.iload_n 2) ∧ 68 + 1 = 69 := ⟨rfl, rfl⟩
theorem xc226_69 : pmCode 226 69 = some (.iconst 1) ∧ 69 + 1 = 70 := ⟨rfl, rfl⟩
theorem xc226_70 : pmCode 226 70 = some .iadd ∧ 70 + 1 = 71 := ⟨rfl, rfl⟩
theorem xc226_71 : pmCode 226 71 = some (.invokevirtual 404) ∧ 71 + 3 = 74 := ⟨rfl, rfl⟩
theorem xc226_74 : pmCode 226 74 = some (.iinc 4 1) ∧ 74 + 3 = 77 := ⟨rfl, rfl⟩
theorem xc226_77 : pmCode 226 77 = some (.goto (-60)) ∧ ((77 : Nat) : Int) + (-60) = ((17 : Nat) : Int) := ⟨rfl, rfl⟩
theorem xc226_80 : pmCode 226 80 = some (.aload_n 0) ∧ 80 + 1 = 81 := ⟨rfl, rfl⟩
theorem xc226_81 : pmCode 226 81 = some (.iload_n 2) ∧ 81 + 1 = 82 := ⟨rfl, rfl⟩
theorem xc226_82 : pmCode 226 82 = some (.invokevirtual 404) ∧ 82 + 3 = 85 := ⟨rfl, rfl⟩
theorem xc226_85 : pmCode 226 85 = some (.iload_n 3) ∧ 85 + 1 = 86 := ⟨rfl, rfl⟩
theorem xc226_86 : pmCode 226 86 = some .ireturn := rfl
theorem xc228_0 : pmCode 228 0 = some (.aload_n 0) ∧ 0 + 1 = 1 := ⟨rfl, rfl⟩
theorem xc228_1 : pmCode 228 1 = some (.iload_n 1) ∧ 1 + 1 = 2 := ⟨rfl, rfl⟩
theorem xc228_2 : pmCode 228 2 = some (.invokevirtual 336) ∧ 2 + 3 = 5 := ⟨rfl, rfl⟩
theorem xc228_5 : pmCode 228 5 = some (.iconst 0) ∧ 5 + 1 = 6 := ⟨rfl, rfl⟩
theorem xc228_6 : pmCode 228 6 = some (.istore_n 2) ∧ 6 + 1 = 7 := ⟨rfl, rfl⟩
theorem xc228_7 : pmCode 228 7 = some (.iload_n 2) ∧ 7 + 1 = 8 := ⟨rfl, rfl⟩
theorem xc228_8 : pmCode 228 8 = some (.bipush 57) ∧ 8 + 2 = 10 := ⟨rfl, rfl⟩
theorem xc228_10 : pmCode 228 10 = some (.if_icmp .ge 28) ∧ ((10 : Nat) : Int) + 28 = ((38 : Nat) : Int) ∧ 10 + 3 = 13 := ⟨rfl, rfl, rfl⟩
theorem xc228_13 : pmCode 228 13 = some (.aload_n 0) ∧ 13 + 1 = 14 := ⟨rfl, rfl⟩
theorem xc228_14 : pmCode 228 14 = some (.iload_n 2) ∧ 14 + 1 = 15 := ⟨rfl, rfl⟩
theorem xc228_15 : pmCode 228 15 = some (.invokevirtual 392) ∧ 15 + 3 = 18 := ⟨rfl, rfl⟩
theorem xc228_18 : pmCode 228 18 = some (.ifCond .eq 14) ∧ ((18 : Nat) : Int) + 14 = ((32 : Nat) : Int) ∧ 18 + 3 = 21 := ⟨rfl, rfl, rfl⟩
theorem xc228_21 : pmCode 228 21 = some (.aload_n 0) ∧ 21 + 1 = 22 := ⟨rfl, rfl⟩
theorem xc228_22 : pmCode 228 22 = some (.iload_n 2) ∧ 22 + 1 = 23 := ⟨rfl, rfl⟩
theorem xc228_23 : pmCode 228 23 = some (.iload_n 1) ∧ 23 + 1 = 24 := ⟨rfl, rfl⟩
theorem xc228_24 : pmCode 228 24 = some (.invokevirtual 413) ∧ 24 + 3 = 27 := ⟨rfl, rfl⟩
theorem xc228_27 : pmCode 228 27 = some (.ifCond .eq 5) ∧ ((27 : Nat) : Int) + 5 = ((32 : Nat) : Int) ∧ 27 + 3 = 30 := ⟨rfl, rfl, rfl⟩
theorem xc228_30 : pmCode 228 30 = some (.iconst 1) ∧ 30 + 1 = 31 := ⟨rfl, rfl⟩
theorem xc228_31 : pmCode 228 31 = some .ireturn := rfl
theorem xc228_32 : pmCode 228 32 = some (.iinc 2 1) ∧ 32 + 3 = 35 := ⟨rfl, rfl⟩
theorem xc228_35 : pmCode 228 35 = some (.goto (-28)) ∧ ((35 : Nat) : Int) + (-28) = ((7 : Nat) : Int) := ⟨rfl, rfl⟩
theorem xc228_38 : pmCode 228 38 = some (.iconst 0) ∧ 38 + 1 = 39 := ⟨rfl, rfl⟩
theorem xc228_39 : pmCode 228 39 = some .ireturn := rfl
theorem xc229_0 : pmCode 229 0 = some (.aload_n 0) ∧ 0 + 1 = 1 := ⟨rfl, rfl⟩
theorem xc229_1 : pmCode 229 1 = some (.iload_n 1) ∧ 1 + 1 = 2 := ⟨rfl, rfl⟩
theorem xc229_2 : pmCode 229 2 = some (.invokevirtual 395) ∧ 2 + 3 = 5 := ⟨rfl, rfl⟩
theorem xc229_5 : pmCode 229 5 = some (.aload_n 0) ∧ 5 + 1 = 6 := ⟨rfl, rfl⟩
theorem xc229_6 : pmCode 229 6 = some (.iload_n 2) ∧ 6 + 1 = 7 := ⟨rfl, rfl⟩
theorem xc229_7 : pmCode 229 7 = some (.iconst 1) ∧ 7 + 1 = 8 := ⟨rfl, rfl⟩
theorem xc229_8 : pmCode 229 8 = some .iadd ∧ 8 + 1 = 9 := ⟨rfl, rfl⟩
theorem xc229_9 : pmCode 229 9 = some (.invokevirtual 336) ∧ 9 + 3 = 12 := ⟨rfl, rfl⟩
theorem xc229_12 : pmCode 229 12 = some (.iconst 1) ∧ 12 + 1 = 13 := ⟨rfl, rfl⟩
theorem xc229_13 : pmCode 229 13 = some (.istore_n 3) ∧ 13 + 1 = 14 := ⟨rfl, rfl⟩
theorem xc229_14 : pmCode 229 14 = some (.iconst (-1)) ∧ 14 + 1 = 15 := ⟨rfl, rfl⟩
theorem xc229_15 : pmCode 229 15 = some (.istore 4) ∧ 15 + 2 = 17 := ⟨rfl, rfl⟩
theorem xc229_17 : pmCode 229 17 = some (.iload 4) ∧ 17 + 2 = 19 := ⟨rfl, rfl⟩
theorem xc229_19 : pmCode 229 19 = some (.bipush 61) ∧ 19 + 2 = 21 := ⟨rfl, rfl⟩
theorem xc229_21 : pmCode 229 21 = some (.if_icmp .ge 69) ∧ ((21 : Nat) : Int) + 69 = ((90 : Nat) : Int) ∧ 21 + 3 = 24 := ⟨rfl, rfl, rfl⟩
theorem xc229_24 : pmCode 229 24 = some (.iload_n 3) ∧ 24 + 1 = 25 := ⟨rfl, rfl⟩
theorem xc229_25 : pmCode 229 25 = some (.ifCond .eq 65) ∧ ((25 : Nat) : Int) + 65 = ((90 : Nat) : Int) ∧ 25 + 3 = 28 := ⟨rfl, rfl, rfl⟩
theorem xc229_28 : pmCode 229 28 = some (.iload 4) ∧ 28 + 2 = 30 := ⟨rfl, rfl⟩
theorem xc229_30 : pmCode 229 30 = some (.iconst (-1)) ∧ 30 + 1 = 31 := ⟨rfl, rfl⟩
theorem xc229_31 : pmCode 229 31 = some (.if_icmp .eq 16) ∧ ((31 : Nat) : Int) + 16 = ((47 : Nat) : Int) ∧ 31 + 3 = 34 := ⟨rfl, rfl, rfl⟩
theorem xc229_34 : pmCode 229 34 = some (.aload_n 0) ∧ 34 + 1 = 35 := ⟨rfl, rfl⟩
theorem xc229_35 : pmCode 229 35 = some (.iconst 0) ∧ 35 + 1 = 36 := ⟨rfl, rfl⟩
theorem xc229_36 : pmCode 229 36 = some (.iload 4) ∧ 36 + 2 = 38 := ⟨rfl, rfl⟩
theorem xc229_38 : pmCode 229 38 = some (.invokevirtual 377) ∧ 38 + 3 = 41 := ⟨rfl, rfl⟩
theorem xc229_41 : pmCode 229 41 = some (.ifCond .ne 6) ∧ ((41 : Nat) : Int) + 6 = ((47 : Nat) : Int) ∧ 41 + 3 = 44 := ⟨rfl, rfl, rfl⟩
theorem xc229_44 : pmCode 229 44 = some (.goto 40) ∧ ((44 : Nat) : Int) + 40 = ((84 : Nat) : Int) := ⟨rfl, rfl⟩
theorem xc229_47 : pmCode 229 47 = some (.aload_n 0) ∧ 47 + 1 = 48 := ⟨rfl, rfl⟩
theorem xc229_48 : pmCode 229 48 = some (.iload 4) ∧ 48 + 2 = 50 := ⟨rfl, rfl⟩
theorem xc229_50 : pmCode 229 50 = some (.iconst (-1)) ∧ 50 + 1 = 51 := ⟨rfl, rfl⟩
theorem xc229_51 : pmCode 229 51 = some (.invokevirtual 380) ∧ 51 + 3 = 54 := ⟨rfl, rfl⟩
theorem xc229_54 : pmCode 229 54 = some (.aload_n 0) ∧ 54 + 1 = 55 := ⟨rfl, rfl⟩
theorem xc229_55 : pmCode 229 55 = some (.invokevirtual 401) ∧ 55 + 3 = 58 := ⟨rfl, rfl⟩
theorem xc229_58 : pmCode 229 58 = some (.ifCond .ne 17) ∧ ((58 : Nat) : Int) + 17 = ((75 : Nat) : Int) ∧ 58 + 3 = 61 := ⟨rfl, rfl, rfl⟩
theorem xc229_61 : pmCode 229 61 = some (.aload_n 0) ∧ 61 + 1 = 62 := ⟨rfl, rfl⟩
theorem xc229_62 : pmCode 229 62 = some (.iload_n 2) ∧ 62 + 1 = 63 := ⟨rfl, rfl⟩
theorem xc229_63 : pmCode 229 63 = some (.iconst 2) ∧ 63 + 1 = 64 := ⟨rfl, rfl⟩
theorem xc229_64 : pmCode 229 64 = some .iadd ∧ 64 + 1 = 65 := ⟨rfl, rfl⟩
theorem xc229_65 : pmCode 229 65 = some (.invokevirtual 410) ∧ 65 + 3 = 68 := ⟨rfl, rfl⟩
theorem xc229_68 : pmCode 229 68 = some (.ifCond .eq 7) ∧ ((68 : Nat) : Int) + 7 = ((75 : Nat) : Int) ∧ 68 + 3 = 71 := ⟨rfl, rfl, rfl⟩
theorem xc229_71 : pmCode 229 71 = some (.iconst 1) ∧ 71 + 1 = 72 := ⟨rfl, rfl⟩
theorem xc229_72 : pmCode 229 72 = some (.goto 4) ∧ ((72 : Nat) : Int) + 4 = ((76 : Nat) : Int) := ⟨rfl, rfl⟩
theorem xc229_75 : pmCode 229 75 = some (.iconst 0) ∧ 75 + 1 = 76 := ⟨rfl, rfl⟩
theorem xc229_76 : pmCode 229 76 = some (.istore_n 3) ∧ 76 + 1 = 77 := ⟨rfl, rfl⟩
theorem xc229_77 : pmCode 229 77 = some (.aload_n 0) ∧ 77 + 1 = 78 := ⟨rfl, rfl⟩
theorem xc229_78 : pmCode 229 78 = some (.iload_n 2) ∧ 78 + 1 = 79 := ⟨rfl, rfl⟩
theorem xc229_79 : pmCode 229 79 = some (.iconst 1) ∧ 79 + 1 = 80 := ⟨rfl, rfl⟩
theorem xc229_80 : pmCode 229 80 = some .iadd ∧ 80 + 1 = 81 := ⟨rfl, rfl⟩
theorem xc229_81 : pmCode 229 81 = some (.invokevirtual 404) ∧ 81 + 3 = 84 := ⟨rfl, rfl⟩
theorem xc229_84 : pmCode 229 84 = some (.iinc 4 1) ∧ 84 + 3 = 87 := ⟨rfl, rfl⟩
theorem xc229_87 : pmCode 229 87 = some (.goto (-70)) ∧ ((87 : Nat) : Int) + (-70) = ((17 : Nat) : Int) := ⟨rfl, rfl⟩
theorem xc229_90 : pmCode 229 90 = some (.aload_n 0) ∧ 90 + 1 = 91 := ⟨rfl, rfl⟩
theorem xc229_91 : pmCode 229 91 = some (.iload_n 2) ∧ 91 + 1 = 92 := ⟨rfl, rfl⟩
theorem xc229_92 : pmCode 229 92 = some (.invokevirtual 404) ∧ 92 + 3 = 95 := ⟨rfl, rfl⟩
theorem xc229_95 : pmCode 229 95 = some (.iload_n 3) ∧ 95 + 1 = 96 := ⟨rfl, rfl⟩
theorem xc229_96 : pmCode 229 96 = some .ireturn := rfl
theorem xc230_9 : pmCode 230 9 = some (.aload_n 0) ∧ 9 + 1 = 10 := ⟨rfl, rfl⟩
theorem xc230_10 : pmCode 230 10 = some (.invokevirtual 401) ∧ 10 + 3 = 13 := ⟨rfl, rfl⟩
theorem xc230_13 : pmCode 230 13 = some (.ifCond .eq 5) ∧ ((13 : Nat) : Int) + 5 = ((18 : Nat) : Int) ∧ 13 + 3 = 16 := ⟨rfl, rfl, rfl⟩
theorem xc230_16 : pmCode 230 16 = some (.iconst 0) ∧ 16 + 1 = 17 := ⟨rfl, rfl⟩
theorem xc230_17 : pmCode 230 17 = some .ireturn := rfl
theorem xc230_18 : pmCode 230 18 = some (.aload_n 0) ∧ 18 + 1 = 19 := ⟨rfl, rfl⟩
theorem xc230_19 : pmCode 230 19 = some (.iconst 1) ∧ 19 + 1 = 20 := ⟨rfl, rfl⟩
theorem xc230_20 : pmCode 230 20 = some (.invokevirtual 410) ∧ 20 + 3 = 23 := ⟨rfl, rfl⟩
theorem xc230_23 : pmCode 230 23 = some (.ifCond .ne 5) ∧ ((23 : Nat) : Int) + 5 = ((28 : Nat) : Int) ∧ 23 + 3 = 26 := ⟨rfl, rfl, rfl⟩
theorem xc230_26 : pmCode 230 26 = some (.iconst 1) ∧ 26 + 1 = 27 := ⟨rfl, rfl⟩
theorem xc230_27 : pmCode 230 27 = some .ireturn := rfl
theorem xc230_28 : pmCode 230 28 = some (.aload_n 0) ∧ 28 + 1 = 29 := ⟨rfl, rfl⟩
theorem xc230_29 : pmCode 230 29 = some (.iconst 1) ∧ 29 + 1 = 30 := ⟨rfl, rfl⟩
theorem xc230_30 : pmCode 230 30 = some (.invokevirtual 416) ∧ 30 + 3 = 33 := ⟨rfl, rfl⟩
theorem xc230_33 : pmCode 230 33 = some (.ifCond .eq 7) ∧ ((33 : Nat) : Int) + 7 = ((40 : Nat) : Int) ∧ 33 + 3 = 36 := ⟨rfl, rfl, rfl⟩
theorem xc230_36 : pmCode 230 36 = some (.iconst 3) ∧ 36 + 1 = 37 := ⟨rfl, rfl⟩
theorem xc230_37 : pmCode 230 37 = some (.goto 4) ∧ ((37 : Nat) : Int) + 4 = ((41 : Nat) : Int) := ⟨rfl, rfl⟩
theorem xc230_40 : pmCode 230 40 = some (.iconst 2) ∧ 40 + 1 = 41 := ⟨rfl, rfl⟩
theorem xc230_41 : pmCode 230 41 = some .ireturn := rfl
theorem xc231_7 : pmCode 231 7 = some (.iload_n 1) ∧ 7 + 1 = 8 := ⟨rfl, rfl⟩
theorem xc231_8 : pmCode 231 8 = some (.iconst 1) ∧ 8 + 1 = 9 := ⟨rfl, rfl⟩
theorem xc231_9 : pmCode 231 9 = some (.iconst 2) ∧ 9 + 1 = 10 := ⟨rfl, rfl⟩
theorem xc231_10 : pmCode 231 10 = some (.invokestatic 142) ∧ 10 + 3 = 13 := ⟨rfl, rfl⟩
theorem xc231_13 : pmCode 231 13 = some (.ifCond .eq 12) ∧ ((13 : Nat) : Int) + 12 = ((25 : Nat) : Int) ∧ 13 + 3 = 16 := ⟨rfl, rfl, rfl⟩
theorem xc231_16 : pmCode 231 16 = some (.iload_n 2) ∧ 16 + 1 = 17 := ⟨rfl, rfl⟩
theorem xc231_17 : pmCode 231 17 = some (.iconst 0) ∧ 17 + 1 = 18 := ⟨rfl, rfl⟩
theorem xc231_18 : pmCode 231 18 = some (.iconst 3) ∧ 18 + 1 = 19 := ⟨rfl, rfl⟩
theorem xc231_19 : pmCode 231 19 = some (.invokestatic 142) ∧ 19 + 3 = 22 := ⟨rfl, rfl⟩
theorem xc231_22 : pmCode 231 22 = some (.ifCond .ne 5) ∧ ((22 : Nat) : Int) + 5 = ((27 : Nat) : Int) ∧ 22 + 3 = 25 := ⟨rfl, rfl, rfl⟩
theorem xc231_27 : pmCode 231 27 = some (.aload_n 0) ∧ 27 + 1 = 28 := ⟨rfl, rfl⟩
theorem xc231_28 : pmCode 231 28 = some (.invokevirtual 401) ∧ 28 + 3 = 31 := ⟨rfl, rfl⟩
theorem xc231_31 : pmCode 231 31 = some (.ifCond .eq 6) ∧ ((31 : Nat) : Int) + 6 = ((37 : Nat) : Int) ∧ 31 + 3 = 34 := ⟨rfl, rfl, rfl⟩
theorem xc231_34 : pmCode 231 34 = some (.bipush (-2)) ∧ 34 + 2 = 36 := ⟨rfl, rfl⟩
theorem xc231_36 : pmCode 231 36 = some .ireturn := rfl
theorem xc231_37 : pmCode 231 37 = some (.aload_n 0) ∧ 37 + 1 = 38 := ⟨rfl, rfl⟩
theorem xc231_38 : pmCode 231 38 = some (.iconst 1) ∧ 38 + 1 = 39 := ⟨rfl, rfl⟩
theorem xc231_39 : pmCode 231 39 = some (.invokevirtual 336) ∧ 39 + 3 = 42 := ⟨rfl, rfl⟩
theorem xc231_42 : pmCode 231 42 = some (.iconst (-1)) ∧ 42 + 1 = 43 := ⟨rfl, rfl⟩
theorem xc231_43 : pmCode 231 43 = some (.istore_n 3) ∧ 43 + 1 = 44 := ⟨rfl, rfl⟩
theorem xc231_44 : pmCode 231 44 = some (.iconst 0) ∧ 44 + 1 = 45 := ⟨rfl, rfl⟩
theorem xc231_45 : pmCode 231 45 = some (.istore 4) ∧ 45 + 2 = 47 := ⟨rfl, rfl⟩
theorem xc231_47 : pmCode 231 47 = some (.iload 4) ∧ 47 + 2 = 49 := ⟨rfl, rfl⟩
theorem xc231_49 : pmCode 231 49 = some (.bipush 57) ∧ 49 + 2 = 51 := ⟨rfl, rfl⟩
theorem xc231_51 : pmCode 231 51 = some (.if_icmp .ge 71) ∧ ((51 : Nat) : Int) + 71 = ((122 : Nat) : Int) ∧ 51 + 3 = 54 := ⟨rfl, rfl, rfl⟩
theorem xc231_54 : pmCode 231 54 = some (.aload_n 0) ∧ 54 + 1 = 55 := ⟨rfl, rfl⟩
theorem xc231_55 : pmCode 231 55 = some (.iload 4) ∧ 55 + 2 = 57 := ⟨rfl, rfl⟩
theorem xc231_57 : pmCode 231 57 = some (.invokevirtual 392) ∧ 57 + 3 = 60 := ⟨rfl, rfl⟩
theorem xc231_60 : pmCode 231 60 = some (.ifCond .eq 56) ∧ ((60 : Nat) : Int) + 56 = ((116 : Nat) : Int) ∧ 60 + 3 = 63 := ⟨rfl, rfl, rfl⟩
theorem xc231_63 : pmCode 231 63 = some (.iload_n 3) ∧ 63 + 1 = 64 := ⟨rfl, rfl⟩
theorem xc231_64 : pmCode 231 64 = some (.iconst (-1)) ∧ 64 + 1 = 65 := ⟨rfl, rfl⟩
theorem xc231_65 : pmCode 231 65 = some (.if_icmp .eq 20) ∧ ((65 : Nat) : Int) + 20 = ((85 : Nat) : Int) ∧ 65 + 3 = 68 := ⟨rfl, rfl, rfl⟩
theorem xc231_68 : pmCode 231 68 = some (.aload_n 0) ∧ 68 + 1 = 69 := ⟨rfl, rfl⟩
theorem xc231_69 : pmCode 231 69 = some (.iload 4) ∧ 69 + 2 = 71 := ⟨rfl, rfl⟩
theorem xc231_71 : pmCode 231 71 = some (.invokevirtual 389) ∧ 71 + 3 = 74 := ⟨rfl, rfl⟩
theorem xc231_74 : pmCode 231 74 = some (.aload_n 0) ∧ 74 + 1 = 75 := ⟨rfl, rfl⟩
theorem xc231_75 : pmCode 231 75 = some (.iload_n 3) ∧ 75 + 1 = 76 := ⟨rfl, rfl⟩
theorem xc231_76 : pmCode 231 76 = some (.invokevirtual 389) ∧ 76 + 3 = 79 := ⟨rfl, rfl⟩
theorem xc231_79 : pmCode 231 79 = some (.if_icmp .lt 6) ∧ ((79 : Nat) : Int) + 6 = ((85 : Nat) : Int) ∧ 79 + 3 = 82 := ⟨rfl, rfl, rfl⟩
theorem xc231_82 : pmCode 231 82 = some (.goto 34) ∧ ((82 : Nat) : Int) + 34 = ((116 : Nat) : Int) := ⟨rfl, rfl⟩
theorem xc231_85 : pmCode 231 85 = some (.iload_n 1) ∧ 85 + 1 = 86 := ⟨rfl, rfl⟩
theorem xc231_86 : pmCode 231 86 = some (.iconst 1) ∧ 86 + 1 = 87 := ⟨rfl, rfl⟩
theorem xc231_87 : pmCode 231 87 = some (.if_icmp .ne 16) ∧ ((87 : Nat) : Int) + 16 = ((103 : Nat) : Int) ∧ 87 + 3 = 90 := ⟨rfl, rfl, rfl⟩
theorem xc231_90 : pmCode 231 90 = some (.aload_n 0) ∧ 90 + 1 = 91 := ⟨rfl, rfl⟩
theorem xc231_91 : pmCode 231 91 = some (.iload 4) ∧ 91 + 2 = 93 := ⟨rfl, rfl⟩
theorem xc231_93 : pmCode 231 93 = some (.iconst 1) ∧ 93 + 1 = 94 := ⟨rfl, rfl⟩
theorem xc231_94 : pmCode 231 94 = some (.invokevirtual 407) ∧ 94 + 3 = 97 := ⟨rfl, rfl⟩
theorem xc231_97 : pmCode 231 97 = some (.ifCond .eq 19) ∧ ((97 : Nat) : Int) + 19 = ((116 : Nat) : Int) ∧ 97 + 3 = 100 := ⟨rfl, rfl, rfl⟩
theorem xc231_100 : pmCode 231 100 = some (.goto 13) ∧ ((100 : Nat) : Int) + 13 = ((113 : Nat) : Int) := ⟨rfl, rfl⟩
theorem xc231_103 : pmCode 231 103 = some (.aload_n 0) ∧ 103 + 1 = 104 := ⟨rfl, rfl⟩
theorem xc231_104 : pmCode 231 104 = some (.iload 4) ∧ 104 + 2 = 106 := ⟨rfl, rfl⟩
theorem xc231_106 : pmCode 231 106 = some (.iconst 1) ∧ 106 + 1 = 107 := ⟨rfl, rfl⟩
theorem xc231_107 : pmCode 231 107 = some (.invokevirtual 413) ∧ 107 + 3 = 110 := ⟨rfl, rfl⟩
theorem xc231_110 : pmCode 231 110 = some (.ifCond .eq 6) ∧ ((110 : Nat) : Int) + 6 = ((116 : Nat) : Int) ∧ 110 + 3 = 113 := ⟨rfl, rfl, rfl⟩
theorem xc231_113 : pmCode 231 113 = some (.iload 4) ∧ 113 + 2 = 115 := ⟨rfl, rfl⟩
theorem xc231_115 : pmCode 231 115 = some (.istore_n 3) ∧ 115 + 1 = 116 := ⟨rfl, rfl⟩
theorem xc231_116 : pmCode 231 116 = some (.iinc 4 1) ∧ 116 + 3 = 119 := ⟨rfl, rfl⟩
theorem xc231_119 : pmCode 231 119 = some (.goto (-72)) ∧ ((119 : Nat) : Int) + (-72) = ((47 : Nat) : Int) := ⟨rfl, rfl⟩
theorem xc231_122 : pmCode 231 122 = some (.iload_n 3) ∧ 122 + 1 = 123 := ⟨rfl, rfl⟩
theorem xc231_123 : pmCode 231 123 = some (.iconst (-1)) ∧ 123 + 1 = 124 := ⟨rfl, rfl⟩
theorem xc231_124 : pmCode 231 124 = some (.if_icmp .ne 6) ∧ ((124 : Nat) : Int) + 6 = ((130 : Nat) : Int) ∧ 124 + 3 = 127 := ⟨rfl, rfl, rfl⟩
theorem xc231_127 : pmCode 231 127 = some (.bipush (-2)) ∧ 127 + 2 = 129 := ⟨rfl, rfl⟩
theorem xc231_129 : pmCode 231 129 = some .ireturn := rfl
theorem xc231_130 : pmCode 231 130 = some (.iload_n 2) ∧ 130 + 1 = 131 := ⟨rfl, rfl⟩
theorem xc231_131 : pmCode 231 131 = some (.tableswitch 109 0 2 #[25, 45, 78]) ∧ ((131 : Nat) : Int) + 109 = ((240 : Nat) : Int) := ⟨rfl, rfl⟩
theorem xc231_156 : pmCode 231 156 = some (.iload_n 3) ∧ 156 + 1 = 157 := ⟨rfl, rfl⟩
theorem xc231_157 : pmCode 231 157 = some (.ifCond .ne 7) ∧ ((157 : Nat) : Int) + 7 = ((164 : Nat) : Int) ∧ 157 + 3 = 160 := ⟨rfl, rfl, rfl⟩
theorem xc231_160 : pmCode 231 160 = some (.iconst 0) ∧ 160 + 1 = 161 := ⟨rfl, rfl⟩
theorem xc231_161 : pmCode 231 161 = some (.goto 14) ∧ ((161 : Nat) : Int) + 14 = ((175 : Nat) : Int) := ⟨rfl, rfl⟩
theorem xc231_164 : pmCode 231 164 = some (.iload_n 3) ∧ 164 + 1 = 165 := ⟨rfl, rfl⟩
theorem xc231_165 : pmCode 231 165 = some (.bipush 36) ∧ 165 + 2 = 167 := ⟨rfl, rfl⟩
theorem xc231_167 : pmCode 231 167 = some (.if_icmp .ge 7) ∧ ((167 : Nat) : Int) + 7 = ((174 : Nat) : Int) ∧ 167 + 3 = 170 := ⟨rfl, rfl, rfl⟩
theorem xc231_170 : pmCode 231 170 = some (.iconst 1) ∧ 170 + 1 = 171 := ⟨rfl, rfl⟩
theorem xc231_171 : pmCode 231 171 = some (.goto 4) ∧ ((171 : Nat) : Int) + 4 = ((175 : Nat) : Int) := ⟨rfl, rfl⟩
theorem xc231_174 : pmCode 231 174 = some (.iconst 2) ∧ 174 + 1 = 175 := ⟨rfl, rfl⟩
theorem xc231_175 : pmCode 231 175 = some .ireturn := rfl
theorem xc231_176 : pmCode 231 176 = some (.iload_n 3) ∧ 176 + 1 = 177 := ⟨rfl, rfl⟩
theorem xc231_177 : pmCode 231 177 = some (.ifCond .ne 7) ∧ ((177 : Nat) : Int) + 7 = ((184 : Nat) : Int) ∧ 177 + 3 = 180 := ⟨rfl, rfl, rfl⟩
theorem xc231_180 : pmCode 231 180 = some (.iconst (-1)) ∧ 180 + 1 = 181 := ⟨rfl, rfl⟩
theorem xc231_181 : pmCode 231 181 = some (.goto 27) ∧ ((181 : Nat) : Int) + 27 = ((208 : Nat) : Int) := ⟨rfl, rfl⟩
theorem xc231_184 : pmCode 231 184 = some (.iload_n 3) ∧ 184 + 1 = 185 := ⟨rfl, rfl⟩
theorem xc231_185 : pmCode 231 185 = some (.bipush 36) ∧ 185 + 2 = 187 := ⟨rfl, rfl⟩
theorem xc231_187 : pmCode 231 187 = some (.if_icmp .ge 12) ∧ ((187 : Nat) : Int) + 12 = ((199 : Nat) : Int) ∧ 187 + 3 = 190 := ⟨rfl, rfl, rfl⟩
theorem xc231_190 : pmCode 231 190 = some (.iload_n 3) ∧ 190 + 1 = 191 := ⟨rfl, rfl⟩
theorem xc231_191 : pmCode 231 191 = some (.iconst 1) ∧ 191 + 1 = 192 := ⟨rfl, rfl⟩
theorem xc231_192 : pmCode 231 192 = some .isub ∧ 192 + 1 = 193 := ⟨rfl, rfl⟩
theorem xc231_193 : pmCode 231 193 = some (.bipush 7) ∧ 193 + 2 = 195 := ⟨rfl, rfl⟩
theorem xc231_195 : pmCode 231 195 = some .idiv ∧ 195 + 1 = 196 := ⟨rfl, rfl⟩
theorem xc231_196 : pmCode 231 196 = some (.goto 12) ∧ ((196 : Nat) : Int) + 12 = ((208 : Nat) : Int) := ⟨rfl, rfl⟩
theorem xc231_199 : pmCode 231 199 = some (.iconst 1) ∧ 199 + 1 = 200 := ⟨rfl, rfl⟩
theorem xc231_200 : pmCode 231 200 = some (.iload_n 3) ∧ 200 + 1 = 201 := ⟨rfl, rfl⟩
theorem xc231_201 : pmCode 231 201 = some (.bipush 36) ∧ 201 + 2 = 203 := ⟨rfl, rfl⟩
theorem xc231_203 : pmCode 231 203 = some .isub ∧ 203 + 1 = 204 := ⟨rfl, rfl⟩
theorem xc231_204 : pmCode 231 204 = some (.bipush 7) ∧ 204 + 2 = 206 := ⟨rfl, rfl⟩
theorem xc231_206 : pmCode 231 206 = some .idiv ∧ 206 + 1 = 207 := ⟨rfl, rfl⟩
theorem xc231_207 : pmCode 231 207 = some .iadd ∧ 207 + 1 = 208 := ⟨rfl, rfl⟩
theorem xc231_208 : pmCode 231 208 = some .ireturn := rfl
theorem xc231_209 : pmCode 231 209 = some (.iload_n 3) ∧ 209 + 1 = 210 := ⟨rfl, rfl⟩
theorem xc231_210 : pmCode 231 210 = some (.ifCond .ne 7) ∧ ((210 : Nat) : Int) + 7 = ((217 : Nat) : Int) ∧ 210 + 3 = 213 := ⟨rfl, rfl, rfl⟩
theorem xc231_213 : pmCode 231 213 = some (.iconst (-1)) ∧ 213 + 1 = 214 := ⟨rfl, rfl⟩
theorem xc231_214 : pmCode 231 214 = some (.goto 25) ∧ ((214 : Nat) : Int) + 25 = ((239 : Nat) : Int) := ⟨rfl, rfl⟩
theorem xc231_217 : pmCode 231 217 = some (.iload_n 3) ∧ 217 + 1 = 218 := ⟨rfl, rfl⟩
theorem xc231_218 : pmCode 231 218 = some (.bipush 36) ∧ 218 + 2 = 220 := ⟨rfl, rfl⟩
theorem xc231_220 : pmCode 231 220 = some (.if_icmp .ge 12) ∧ ((220 : Nat) : Int) + 12 = ((232 : Nat) : Int) ∧ 220 + 3 = 223 := ⟨rfl, rfl, rfl⟩
theorem xc231_223 : pmCode 231 223 = some (.iload_n 3) ∧ 223 + 1 = 224 := ⟨rfl, rfl⟩
theorem xc231_224 : pmCode 231 224 = some (.iconst 1) ∧ 224 + 1 = 225 := ⟨rfl, rfl⟩
theorem xc231_225 : pmCode 231 225 = some .isub ∧ 225 + 1 = 226 := ⟨rfl, rfl⟩
theorem xc231_226 : pmCode 231 226 = some (.bipush 7) ∧ 226 + 2 = 228 := ⟨rfl, rfl⟩
theorem xc231_228 : pmCode 231 228 = some .irem ∧ 228 + 1 = 229 := ⟨rfl, rfl⟩
theorem xc231_229 : pmCode 231 229 = some (.goto 10) ∧ ((229 : Nat) : Int) + 10 = ((239 : Nat) : Int) := ⟨rfl, rfl⟩
theorem xc231_232 : pmCode 231 232 = some (.iload_n 3) ∧ 232 + 1 = 233 := ⟨rfl, rfl⟩
theorem xc231_233 : pmCode 231 233 = some (.bipush 36) ∧ 233 + 2 = 235 := ⟨rfl, rfl⟩
theorem xc231_235 : pmCode 231 235 = some .isub ∧ 235 + 1 = 236 := ⟨rfl, rfl⟩
theorem xc231_236 : pmCode 231 236 = some (.bipush 7) ∧ 236 + 2 = 238 := ⟨rfl, rfl⟩
theorem xc231_238 : pmCode 231 238 = some .irem ∧ 238 + 1 = 239 := ⟨rfl, rfl⟩
theorem xc231_239 : pmCode 231 239 = some .ireturn := rfl
theorem xc231_240 : pmCode 231 240 = some (.aload_n 0) ∧ 240 + 1 = 241 := ⟨rfl, rfl⟩
theorem xc231_241 : pmCode 231 241 = some (.iload_n 3) ∧ 241 + 1 = 242 := ⟨rfl, rfl⟩
theorem xc231_242 : pmCode 231 242 = some (.invokevirtual 389) ∧ 242 + 3 = 245 := ⟨rfl, rfl⟩
theorem xc231_245 : pmCode 231 245 = some .ireturn := rfl
theorem w202 {ro : Nat → Nat × (Nat → Int32)} {d : Nat} {Q : Option Value → pmS → Prop} {i : Int} {a : xA} {b : xB}
    (k1 : pmWp ro d 12 202 2 2 [some (.ref 87), some (xV i), some (xV 0)] [] (xS a b) Q) :
    pmWp ro d 12 202 2 0 [some (.ref 87), some (xV i), none] [] (xS a b) Q := by
  refine x_iconst xc202_0 ?_
  refine x_istoren (pl' := [some (.ref 87), some (xV i), some (xV 0)]) xc202_1 rfl rfl ?_
  exact k1

theorem xg202 {ro : Nat → Nat × (Nat → Int32)} {d : Nat} {Q : Option Value → pmS → Prop} {a : xA} {b : xB} {i : Int} (h : pmWp ro d 12 202 2 0 [some (.ref 87), some (xV i), none] [] (xS a b) Q) : pmCs ro (d + 1) 202 [.ref 87, xV i] (xS a b) Q := x_go xi202 rfl rfl rfl rfl rfl h
theorem w202j {ro : Nat → Nat × (Nat → Int32)} {d : Nat} {Q : Option Value → pmS → Prop} {i j : Int} {a : xA} {b : xB} (hA : xAr a) (hi : 0 ≤ i ∧ i ≤ 5) (hcl : ∀ i, 0 ≤ i → i < 6 → 0 ≤ a 100 i ∧ a 100 i ≤ 4) (hj : 0 ≤ j ∧ j ≤ 4)
    (k1 : (a 100 i ≤ j) → Q (some (xV 0)) (xS a b))
    (k2 : (¬ a 100 i ≤ j) → (a 88 (41 + (3 * (4 * i + j)) + 2) = 0) → pmWp ro d 12 202 2 2 [some (.ref 87), some (xV i), some (xV (j + 1))] [] (xS a b) Q)
    (k3 : (¬ a 100 i ≤ j) → (¬ a 88 (41 + (3 * (4 * i + j)) + 2) = 0) → Q (some (xV 1)) (xS a b)) :
    pmWp ro d 12 202 2 2 [some (.ref 87), some (xV i), some (xV j)] [] (xS a b) Q := by
  refine x_iloadn xc202_2 rfl ?_
  refine x_aloadn xc202_3 rfl ?_
  refine x_gfr xc202_4 rfl rfl xz87 rfl ?_
  refine x_iloadn xc202_7 rfl ?_
  refine x_ial xc202_8 xz100 rfl (by have g0 := hi; omega) (by have g0 := hi; omega) (by have g0 := hi; omega) ?_
  refine x_icge xc202_9 (xRk (by have g0 := hj; have g1 := hcl i (by omega) (by omega); omega)) (xRk (by have g0 := hi; have g1 := hcl i (by omega) (by omega); omega)) (fun h0 => ?_) (fun h0 => ?_)
  · refine x_iconst xc202_40 ?_
    refine x_iret xc202_41 (Or.inr ⟨rfl, (by omega)⟩) ?_
    exact k1 h0
  · refine x_aloadn xc202_12 rfl ?_
    refine x_gfr xc202_13 rfl rfl xz87 rfl ?_
    refine x_bipush xc202_16 (by decide) ?_
    refine x_iconst xc202_18 ?_
    refine x_iconst xc202_19 ?_
    refine x_iloadn xc202_20 rfl ?_
    refine x_imul xc202_21 ?_
    refine x_iloadn xc202_22 rfl ?_
    refine x_iadd xc202_23 ?_
    refine x_imul xc202_24 ?_
    refine x_iadd xc202_25 ?_
    refine x_iconst xc202_26 ?_
    refine x_iadd xc202_27 ?_
    refine x_ial xc202_28 xz88 rfl (by have g0 := hi; have g1 := hj; have g2 := hcl i (by omega) (by omega); omega) (by have g0 := hi; have g1 := hj; have g2 := hcl i (by omega) (by omega); omega) (by have g0 := hi; have g1 := hj; have g2 := hcl i (by omega) (by omega); omega) ?_
    refine x_ifeq xc202_29 (xRk (by have g0 := hi; have g1 := hj; have g2 := hcl i (by omega) (by omega); have g3 := xRb (hA 88 (41 + (3 * (4 * i + j)) + 2)); omega)) (fun h1 => ?_) (fun h1 => ?_)
    · refine x_iinc (pl' := [some (.ref 87), some (xV i), some (xV (j + 1))]) xc202_34 rfl rfl ?_
      refine x_goto xc202_37 ?_
      exact k2 h0 h1
    · refine x_iconst xc202_32 ?_
      refine x_iret xc202_33 (Or.inr ⟨rfl, (by omega)⟩) ?_
      exact k3 h0 h1

theorem w224 {ro : Nat → Nat × (Nat → Int32)} {d : Nat} {Q : Option Value → pmS → Prop} {a : xA} {b : xB}
    (k1 : pmWp ro d 12 224 2 2 [some (.ref 87), some (xV 0)] [] (xS a b) Q) :
    pmWp ro d 12 224 2 0 [some (.ref 87), none] [] (xS a b) Q := by
  refine x_iconst xc224_0 ?_
  refine x_istoren (pl' := [some (.ref 87), some (xV 0)]) xc224_1 rfl rfl ?_
  exact k1

theorem xg224 {ro : Nat → Nat × (Nat → Int32)} {d : Nat} {Q : Option Value → pmS → Prop} {a : xA} {b : xB} (h : pmWp ro d 12 224 2 0 [some (.ref 87), none] [] (xS a b) Q) : pmCs ro (d + 1) 224 [.ref 87] (xS a b) Q := x_go xi224 rfl rfl rfl rfl rfl h
theorem w224i {ro : Nat → Nat × (Nat → Int32)} {d : Nat} {Q : Option Value → pmS → Prop} {i lw : Int} {a : xA} {b : xB} (hi : 0 ≤ i ∧ i ≤ 6) (hlw : a 87 3 = lw) (hlw0 : 0 ≤ lw ∧ lw ≤ 6)
    (k1 : (lw ≤ i) → Q (some (xV 0)) (xS a b))
    (k2 : (¬ lw ≤ i) → pmCs ro d 202 [.ref 87, xV i] (xS a b) fun r σ' => pmWp ro d 12 224 2 15 [some (.ref 87), some (xV i)] (r.toList ++ []) σ' Q) :
    pmWp ro d 12 224 2 2 [some (.ref 87), some (xV i)] [] (xS a b) Q := by
  refine x_iloadn xc224_2 rfl ?_
  refine x_aloadn xc224_3 rfl ?_
  refine x_gfi' (k := 3) (v := lw) xc224_4 rfl (Or.inl rfl) rfl xz87 hlw ?_
  refine x_icge xc224_7 (xRk (by have g0 := hi; omega)) (xRk (by have g0 := hlw0; omega)) (fun h0 => ?_) (fun h0 => ?_)
  · refine x_iconst xc224_26 ?_
    refine x_iret xc224_27 (Or.inr ⟨rfl, (by omega)⟩) ?_
    exact k1 h0
  · refine x_aloadn xc224_10 rfl ?_
    refine x_iloadn xc224_11 rfl ?_
    refine x_cV (as := [xV i]) (rest := []) xc224_12 rfl xi202 xz87 ⟨rfl, rfl⟩ rfl rfl ?_
    exact k2 h0

theorem w224z {ro : Nat → Nat × (Nat → Int32)} {d : Nat} {Q : Option Value → pmS → Prop} {i z : Int} {a : xA} {b : xB} (hzz : z = 0 ∨ z = 1)
    (k1 : (z = 0) → pmWp ro d 12 224 2 2 [some (.ref 87), some (xV (i + 1))] [] (xS a b) Q)
    (k2 : (¬ z = 0) → Q (some (xV 1)) (xS a b)) :
    pmWp ro d 12 224 2 15 [some (.ref 87), some (xV i)] [xV z] (xS a b) Q := by
  refine x_ifeq xc224_15 (xRk (by have g0 := hzz; omega)) (fun h0 => ?_) (fun h0 => ?_)
  · refine x_iinc (pl' := [some (.ref 87), some (xV (i + 1))]) xc224_20 rfl rfl ?_
    refine x_goto xc224_23 ?_
    exact k1 h0
  · refine x_iconst xc224_18 ?_
    refine x_iret xc224_19 (Or.inr ⟨rfl, (by omega)⟩) ?_
    exact k2 h0

theorem w225 {ro : Nat → Nat × (Nat → Int32)} {d : Nat} {Q : Option Value → pmS → Prop} {s : Int} {a : xA} {b : xB}
    (k1 : pmCs ro d 181 [.ref 87, xV s] (xS a b) fun r σ' => pmWp ro d 12 225 2 5 [some (.ref 87), some (xV s), none] (r.toList ++ []) σ' Q) :
    pmWp ro d 12 225 2 0 [some (.ref 87), some (xV s), none] [] (xS a b) Q := by
  refine x_aloadn xc225_0 rfl ?_
  refine x_iloadn xc225_1 rfl ?_
  refine x_cV (as := [xV s]) (rest := []) xc225_2 rfl xi181 xz87 ⟨rfl, rfl⟩ rfl rfl ?_
  exact k1

theorem xg225 {ro : Nat → Nat × (Nat → Int32)} {d : Nat} {Q : Option Value → pmS → Prop} {a : xA} {b : xB} {s : Int} (h : pmWp ro d 12 225 2 0 [some (.ref 87), some (xV s), none] [] (xS a b) Q) : pmCs ro (d + 1) 225 [.ref 87, xV s] (xS a b) Q := x_go xi225 rfl rfl rfl rfl rfl h
theorem w225a {ro : Nat → Nat × (Nat → Int32)} {d : Nat} {Q : Option Value → pmS → Prop} {s : Int} {a : xA} {b : xB}
    (k1 : pmWp ro d 12 225 2 7 [some (.ref 87), some (xV s), some (xV 0)] [] (xS a b) Q) :
    pmWp ro d 12 225 2 5 [some (.ref 87), some (xV s), none] [] (xS a b) Q := by
  refine x_iconst xc225_5 ?_
  refine x_istoren (pl' := [some (.ref 87), some (xV s), some (xV 0)]) xc225_6 rfl rfl ?_
  exact k1

theorem w225c {ro : Nat → Nat × (Nat → Int32)} {d : Nat} {Q : Option Value → pmS → Prop} {s c : Int} {a : xA} {b : xB} (hc : 0 ≤ c ∧ c ≤ 57)
    (k1 : (57 ≤ c) → Q (some (xV 0)) (xS a b))
    (k2 : (¬ 57 ≤ c) → pmCs ro d 217 [.ref 87, xV c] (xS a b) fun r σ' => pmWp ro d 12 225 2 18 [some (.ref 87), some (xV s), some (xV c)] (r.toList ++ []) σ' Q) :
    pmWp ro d 12 225 2 7 [some (.ref 87), some (xV s), some (xV c)] [] (xS a b) Q := by
  refine x_iloadn xc225_7 rfl ?_
  refine x_bipush xc225_8 (by decide) ?_
  refine x_icge xc225_10 (xRk (by have g0 := hc; omega)) (xRk (by decide)) (fun h0 => ?_) (fun h0 => ?_)
  · refine x_iconst xc225_38 ?_
    refine x_iret xc225_39 (Or.inr ⟨rfl, (by omega)⟩) ?_
    exact k1 h0
  · refine x_aloadn xc225_13 rfl ?_
    refine x_iloadn xc225_14 rfl ?_
    refine x_cV (as := [xV c]) (rest := []) xc225_15 rfl xi217 xz87 ⟨rfl, rfl⟩ rfl rfl ?_
    exact k2 h0

theorem w225z {ro : Nat → Nat × (Nat → Int32)} {d : Nat} {Q : Option Value → pmS → Prop} {s c z : Int} {a : xA} {b : xB} (hzz : z = 0 ∨ z = 1)
    (k1 : (z = 0) → pmWp ro d 12 225 2 32 [some (.ref 87), some (xV s), some (xV c)] [] (xS a b) Q)
    (k2 : (¬ z = 0) → pmCs ro d 226 [.ref 87, xV c, xV s] (xS a b) fun r σ' => pmWp ro d 12 225 2 27 [some (.ref 87), some (xV s), some (xV c)] (r.toList ++ []) σ' Q) :
    pmWp ro d 12 225 2 18 [some (.ref 87), some (xV s), some (xV c)] [xV z] (xS a b) Q := by
  refine x_ifeq xc225_18 (xRk (by have g0 := hzz; omega)) (fun h0 => ?_) (fun h0 => ?_)
  · exact k1 h0
  · refine x_aloadn xc225_21 rfl ?_
    refine x_iloadn xc225_22 rfl ?_
    refine x_iloadn xc225_23 rfl ?_
    refine x_cV (as := [xV c, xV s]) (rest := []) xc225_24 rfl xi226 xz87 ⟨rfl, rfl⟩ rfl rfl ?_
    exact k2 h0

theorem w225y {ro : Nat → Nat × (Nat → Int32)} {d : Nat} {Q : Option Value → pmS → Prop} {s c z : Int} {a : xA} {b : xB} (hzz : z = 0 ∨ z = 1)
    (k1 : (z = 0) → pmWp ro d 12 225 2 32 [some (.ref 87), some (xV s), some (xV c)] [] (xS a b) Q)
    (k2 : (¬ z = 0) → Q (some (xV 1)) (xS a b)) :
    pmWp ro d 12 225 2 27 [some (.ref 87), some (xV s), some (xV c)] [xV z] (xS a b) Q := by
  refine x_ifeq xc225_27 (xRk (by have g0 := hzz; omega)) (fun h0 => ?_) (fun h0 => ?_)
  · exact k1 h0
  · refine x_iconst xc225_30 ?_
    refine x_iret xc225_31 (Or.inr ⟨rfl, (by omega)⟩) ?_
    exact k2 h0

theorem w225n {ro : Nat → Nat × (Nat → Int32)} {d : Nat} {Q : Option Value → pmS → Prop} {s c : Int} {a : xA} {b : xB}
    (k1 : pmWp ro d 12 225 2 7 [some (.ref 87), some (xV s), some (xV (c + 1))] [] (xS a b) Q) :
    pmWp ro d 12 225 2 32 [some (.ref 87), some (xV s), some (xV c)] [] (xS a b) Q := by
  refine x_iinc (pl' := [some (.ref 87), some (xV s), some (xV (c + 1))]) xc225_32 rfl rfl ?_
  refine x_goto xc225_35 ?_
  exact k1

theorem w228 {ro : Nat → Nat × (Nat → Int32)} {d : Nat} {Q : Option Value → pmS → Prop} {s : Int} {a : xA} {b : xB}
    (k1 : pmCs ro d 181 [.ref 87, xV s] (xS a b) fun r σ' => pmWp ro d 12 228 2 5 [some (.ref 87), some (xV s), none] (r.toList ++ []) σ' Q) :
    pmWp ro d 12 228 2 0 [some (.ref 87), some (xV s), none] [] (xS a b) Q := by
  refine x_aloadn xc228_0 rfl ?_
  refine x_iloadn xc228_1 rfl ?_
  refine x_cV (as := [xV s]) (rest := []) xc228_2 rfl xi181 xz87 ⟨rfl, rfl⟩ rfl rfl ?_
  exact k1

theorem xg228 {ro : Nat → Nat × (Nat → Int32)} {d : Nat} {Q : Option Value → pmS → Prop} {a : xA} {b : xB} {s : Int} (h : pmWp ro d 12 228 2 0 [some (.ref 87), some (xV s), none] [] (xS a b) Q) : pmCs ro (d + 1) 228 [.ref 87, xV s] (xS a b) Q := x_go xi228 rfl rfl rfl rfl rfl h
theorem w228a {ro : Nat → Nat × (Nat → Int32)} {d : Nat} {Q : Option Value → pmS → Prop} {s : Int} {a : xA} {b : xB}
    (k1 : pmWp ro d 12 228 2 7 [some (.ref 87), some (xV s), some (xV 0)] [] (xS a b) Q) :
    pmWp ro d 12 228 2 5 [some (.ref 87), some (xV s), none] [] (xS a b) Q := by
  refine x_iconst xc228_5 ?_
  refine x_istoren (pl' := [some (.ref 87), some (xV s), some (xV 0)]) xc228_6 rfl rfl ?_
  exact k1

theorem w228c {ro : Nat → Nat × (Nat → Int32)} {d : Nat} {Q : Option Value → pmS → Prop} {s c : Int} {a : xA} {b : xB} (hc : 0 ≤ c ∧ c ≤ 57)
    (k1 : (57 ≤ c) → Q (some (xV 0)) (xS a b))
    (k2 : (¬ 57 ≤ c) → pmCs ro d 217 [.ref 87, xV c] (xS a b) fun r σ' => pmWp ro d 12 228 2 18 [some (.ref 87), some (xV s), some (xV c)] (r.toList ++ []) σ' Q) :
    pmWp ro d 12 228 2 7 [some (.ref 87), some (xV s), some (xV c)] [] (xS a b) Q := by
  refine x_iloadn xc228_7 rfl ?_
  refine x_bipush xc228_8 (by decide) ?_
  refine x_icge xc228_10 (xRk (by have g0 := hc; omega)) (xRk (by decide)) (fun h0 => ?_) (fun h0 => ?_)
  · refine x_iconst xc228_38 ?_
    refine x_iret xc228_39 (Or.inr ⟨rfl, (by omega)⟩) ?_
    exact k1 h0
  · refine x_aloadn xc228_13 rfl ?_
    refine x_iloadn xc228_14 rfl ?_
    refine x_cV (as := [xV c]) (rest := []) xc228_15 rfl xi217 xz87 ⟨rfl, rfl⟩ rfl rfl ?_
    exact k2 h0

theorem w228z {ro : Nat → Nat × (Nat → Int32)} {d : Nat} {Q : Option Value → pmS → Prop} {s c z : Int} {a : xA} {b : xB} (hzz : z = 0 ∨ z = 1)
    (k1 : (z = 0) → pmWp ro d 12 228 2 32 [some (.ref 87), some (xV s), some (xV c)] [] (xS a b) Q)
    (k2 : (¬ z = 0) → pmCs ro d 229 [.ref 87, xV c, xV s] (xS a b) fun r σ' => pmWp ro d 12 228 2 27 [some (.ref 87), some (xV s), some (xV c)] (r.toList ++ []) σ' Q) :
    pmWp ro d 12 228 2 18 [some (.ref 87), some (xV s), some (xV c)] [xV z] (xS a b) Q := by
  refine x_ifeq xc228_18 (xRk (by have g0 := hzz; omega)) (fun h0 => ?_) (fun h0 => ?_)
  · exact k1 h0
  · refine x_aloadn xc228_21 rfl ?_
    refine x_iloadn xc228_22 rfl ?_
    refine x_iloadn xc228_23 rfl ?_
    refine x_cV (as := [xV c, xV s]) (rest := []) xc228_24 rfl xi229 xz87 ⟨rfl, rfl⟩ rfl rfl ?_
    exact k2 h0

theorem w228y {ro : Nat → Nat × (Nat → Int32)} {d : Nat} {Q : Option Value → pmS → Prop} {s c z : Int} {a : xA} {b : xB} (hzz : z = 0 ∨ z = 1)
    (k1 : (z = 0) → pmWp ro d 12 228 2 32 [some (.ref 87), some (xV s), some (xV c)] [] (xS a b) Q)
    (k2 : (¬ z = 0) → Q (some (xV 1)) (xS a b)) :
    pmWp ro d 12 228 2 27 [some (.ref 87), some (xV s), some (xV c)] [xV z] (xS a b) Q := by
  refine x_ifeq xc228_27 (xRk (by have g0 := hzz; omega)) (fun h0 => ?_) (fun h0 => ?_)
  · exact k1 h0
  · refine x_iconst xc228_30 ?_
    refine x_iret xc228_31 (Or.inr ⟨rfl, (by omega)⟩) ?_
    exact k2 h0

theorem w228n {ro : Nat → Nat × (Nat → Int32)} {d : Nat} {Q : Option Value → pmS → Prop} {s c : Int} {a : xA} {b : xB}
    (k1 : pmWp ro d 12 228 2 7 [some (.ref 87), some (xV s), some (xV (c + 1))] [] (xS a b) Q) :
    pmWp ro d 12 228 2 32 [some (.ref 87), some (xV s), some (xV c)] [] (xS a b) Q := by
  refine x_iinc (pl' := [some (.ref 87), some (xV s), some (xV (c + 1))]) xc228_32 rfl rfl ?_
  refine x_goto xc228_35 ?_
  exact k1

theorem w226 {ro : Nat → Nat × (Nat → Int32)} {d : Nat} {Q : Option Value → pmS → Prop} {c s : Int} {a : xA} {b : xB}
    (k1 : pmCs ro d 221 [.ref 87, xV c] (xS a b) fun r σ' => pmWp ro d 12 226 2 5 [some (.ref 87), some (xV c), some (xV s), none, none] (r.toList ++ []) σ' Q) :
    pmWp ro d 12 226 2 0 [some (.ref 87), some (xV c), some (xV s), none, none] [] (xS a b) Q := by
  refine x_aloadn xc226_0 rfl ?_
  refine x_iloadn xc226_1 rfl ?_
  refine x_cV (as := [xV c]) (rest := []) xc226_2 rfl xi221 xz87 ⟨rfl, rfl⟩ rfl rfl ?_
  exact k1

theorem xg226 {ro : Nat → Nat × (Nat → Int32)} {d : Nat} {Q : Option Value → pmS → Prop} {a : xA} {b : xB} {c s : Int} (h : pmWp ro d 12 226 2 0 [some (.ref 87), some (xV c), some (xV s), none, none] [] (xS a b) Q) : pmCs ro (d + 1) 226 [.ref 87, xV c, xV s] (xS a b) Q := x_go xi226 rfl rfl rfl rfl rfl h
theorem w226a {ro : Nat → Nat × (Nat → Int32)} {d : Nat} {Q : Option Value → pmS → Prop} {c s : Int} {a : xA} {b : xB} (hs : 0 ≤ s ∧ s ≤ 7)
    (k1 : pmCs ro d 181 [.ref 87, xV (s + 1)] (xS a b) fun r σ' => pmWp ro d 12 226 2 12 [some (.ref 87), some (xV c), some (xV s), none, none] (r.toList ++ []) σ' Q) :
    pmWp ro d 12 226 2 5 [some (.ref 87), some (xV c), some (xV s), none, none] [] (xS a b) Q := by
  refine x_aloadn xc226_5 rfl ?_
  refine x_iloadn xc226_6 rfl ?_
  refine x_iconst xc226_7 ?_
  refine x_iadd xc226_8 ?_
  refine x_cV (as := [xV (s + 1)]) (rest := []) xc226_9 rfl xi181 xz87 ⟨rfl, rfl⟩ rfl rfl ?_
  exact k1

theorem w226b {ro : Nat → Nat × (Nat → Int32)} {d : Nat} {Q : Option Value → pmS → Prop} {c s : Int} {a : xA} {b : xB}
    (k1 : pmWp ro d 12 226 2 17 [some (.ref 87), some (xV c), some (xV s), some (xV 1), some (xV (-1))] [] (xS a b) Q) :
    pmWp ro d 12 226 2 12 [some (.ref 87), some (xV c), some (xV s), none, none] [] (xS a b) Q := by
  refine x_iconst xc226_12 ?_
  refine x_istoren (pl' := [some (.ref 87), some (xV c), some (xV s), some (xV 1), none]) xc226_13 rfl rfl ?_
  refine x_iconst xc226_14 ?_
  refine x_istore (pl' := [some (.ref 87), some (xV c), some (xV s), some (xV 1), some (xV (-1))]) xc226_15 rfl rfl ?_
  exact k1

theorem w226k {ro : Nat → Nat × (Nat → Int32)} {d : Nat} {Q : Option Value → pmS → Prop} {c s g k : Int} {a : xA} {b : xB} (hg : g = 0 ∨ g = 1) (hk : -1 ≤ k ∧ k ≤ 61)
    (k1 : (61 ≤ k) → pmWp ro d 12 226 2 80 [some (.ref 87), some (xV c), some (xV s), some (xV g), some (xV k)] [] (xS a b) Q)
    (k2 : (¬ 61 ≤ k) → (g = 0) → pmWp ro d 12 226 2 80 [some (.ref 87), some (xV c), some (xV s), some (xV g), some (xV k)] [] (xS a b) Q)
    (k3 : (¬ 61 ≤ k) → (¬ g = 0) → (k = -1) → pmWp ro d 12 226 2 47 [some (.ref 87), some (xV c), some (xV s), some (xV g), some (xV k)] [] (xS a b) Q)
    (k4 : (¬ 61 ≤ k) → (¬ g = 0) → (¬ k = -1) → pmCs ro d 206 [.ref 87, xV 0, xV k] (xS a b) fun r σ' => pmWp ro d 12 226 2 41 [some (.ref 87), some (xV c), some (xV s), some (xV g), some (xV k)] (r.toList ++ []) σ' Q) :
    pmWp ro d 12 226 2 17 [some (.ref 87), some (xV c), some (xV s), some (xV g), some (xV k)] [] (xS a b) Q := by
  refine x_iload xc226_17 rfl ?_
  refine x_bipush xc226_19 (by decide) ?_
  refine x_icge xc226_21 (xRk (by have g0 := hk; omega)) (xRk (by decide)) (fun h0 => ?_) (fun h0 => ?_)
  · exact k1 h0
  · refine x_iloadn xc226_24 rfl ?_
    refine x_ifeq xc226_25 (xRk (by have g0 := hg; omega)) (fun h1 => ?_) (fun h1 => ?_)
    · exact k2 h0 h1
    · refine x_iload xc226_28 rfl ?_
      refine x_iconst xc226_30 ?_
      refine x_iceq xc226_31 (xRk (by have g0 := hk; omega)) (xRk (by decide)) (fun h2 => ?_) (fun h2 => ?_)
      · exact k3 h0 h1 h2
      · refine x_aloadn xc226_34 rfl ?_
        refine x_iconst xc226_35 ?_
        refine x_iload xc226_36 rfl ?_
        refine x_cV (as := [xV 0, xV k]) (rest := []) xc226_38 rfl xi206 xz87 ⟨rfl, rfl⟩ rfl rfl ?_
        exact k4 h0 h1 h2

theorem w226z {ro : Nat → Nat × (Nat → Int32)} {d : Nat} {Q : Option Value → pmS → Prop} {z c s g k : Int} {a : xA} {b : xB} (hg : g = 0 ∨ g = 1) (hk : -1 ≤ k ∧ k ≤ 61) (hzz : z = 0 ∨ z = 1)
    (k1 : (¬ z = 0) → pmWp ro d 12 226 2 47 [some (.ref 87), some (xV c), some (xV s), some (xV g), some (xV k)] [] (xS a b) Q)
    (k2 : (z = 0) → pmWp ro d 12 226 2 74 [some (.ref 87), some (xV c), some (xV s), some (xV g), some (xV k)] [] (xS a b) Q) :
    pmWp ro d 12 226 2 41 [some (.ref 87), some (xV c), some (xV s), some (xV g), some (xV k)] [xV z] (xS a b) Q := by
  refine x_ifne xc226_41 (xRk (by have g0 := hzz; omega)) (fun h0 => ?_) (fun h0 => ?_)
  · exact k1 h0
  · replace h0 := Classical.not_not.mp h0
    refine x_goto xc226_44 ?_
    exact k2 h0

theorem w226p {ro : Nat → Nat × (Nat → Int32)} {d : Nat} {Q : Option Value → pmS → Prop} {c s g k : Int} {a : xA} {b : xB} (hg : g = 0 ∨ g = 1) (hk : -1 ≤ k ∧ k ≤ 61)
    (k1 : pmCs ro d 208 [.ref 87, xV k, xV (-1)] (xS a b) fun r σ' => pmWp ro d 12 226 2 54 [some (.ref 87), some (xV c), some (xV s), some (xV g), some (xV k)] (r.toList ++ []) σ' Q) :
    pmWp ro d 12 226 2 47 [some (.ref 87), some (xV c), some (xV s), some (xV g), some (xV k)] [] (xS a b) Q := by
  refine x_aloadn xc226_47 rfl ?_
  refine x_iload xc226_48 rfl ?_
  refine x_iconst xc226_50 ?_
  refine x_cV (as := [xV k, xV (-1)]) (rest := []) xc226_51 rfl xi208 xz87 ⟨rfl, rfl⟩ rfl rfl ?_
  exact k1

theorem w226q {ro : Nat → Nat × (Nat → Int32)} {d : Nat} {Q : Option Value → pmS → Prop} {c s g k : Int} {a : xA} {b : xB} (hg : g = 0 ∨ g = 1) (hk : -1 ≤ k ∧ k ≤ 61)
    (k1 : pmCs ro d 224 [.ref 87] (xS a b) fun r σ' => pmWp ro d 12 226 2 58 [some (.ref 87), some (xV c), some (xV s), some (xV g), some (xV k)] (r.toList ++ []) σ' Q) :
    pmWp ro d 12 226 2 54 [some (.ref 87), some (xV c), some (xV s), some (xV g), some (xV k)] [] (xS a b) Q := by
  refine x_aloadn xc226_54 rfl ?_
  refine x_cV (as := []) (rest := []) xc226_55 rfl xi224 xz87 ⟨rfl, rfl⟩ rfl rfl ?_
  exact k1

theorem w226r {ro : Nat → Nat × (Nat → Int32)} {d : Nat} {Q : Option Value → pmS → Prop} {z c s g k : Int} {a : xA} {b : xB} (hg : g = 0 ∨ g = 1) (hk : -1 ≤ k ∧ k ≤ 61) (hzz : z = 0 ∨ z = 1) (hs : 0 ≤ s ∧ s ≤ 7)
    (k1 : (¬ z = 0) → pmWp ro d 12 226 2 67 [some (.ref 87), some (xV c), some (xV s), some (xV 0), some (xV k)] [] (xS a b) Q)
    (k2 : (z = 0) → pmWp ro d 12 226 2 67 [some (.ref 87), some (xV c), some (xV s), some (xV 1), some (xV k)] [] (xS a b) Q) :
    pmWp ro d 12 226 2 58 [some (.ref 87), some (xV c), some (xV s), some (xV g), some (xV k)] [xV z] (xS a b) Q := by
  refine x_ifne xc226_58 (xRk (by have g0 := hzz; omega)) (fun h0 => ?_) (fun h0 => ?_)
  · refine x_iconst xc226_65 ?_
    refine x_istoren (pl' := [some (.ref 87), some (xV c), some (xV s), some (xV 0), some (xV k)]) xc226_66 rfl rfl ?_
    exact k1 h0
  · replace h0 := Classical.not_not.mp h0
    refine x_iconst xc226_61 ?_
    refine x_goto xc226_62 ?_
    refine x_istoren (pl' := [some (.ref 87), some (xV c), some (xV s), some (xV 1), some (xV k)]) xc226_66 rfl rfl ?_
    exact k2 h0

theorem w226t {ro : Nat → Nat × (Nat → Int32)} {d : Nat} {Q : Option Value → pmS → Prop} {c s g k : Int} {a : xA} {b : xB} (hg : g = 0 ∨ g = 1) (hk : -1 ≤ k ∧ k ≤ 61) (hs : 0 ≤ s ∧ s ≤ 7)
    (k1 : pmCs ro d 227 [.ref 87, xV (s + 1)] (xS a b) fun r σ' => pmWp ro d 12 226 2 74 [some (.ref 87), some (xV c), some (xV s), some (xV g), some (xV k)] (r.toList ++ []) σ' Q) :
    pmWp ro d 12 226 2 67 [some (.ref 87), some (xV c), some (xV s), some (xV g), some (xV k)] [] (xS a b) Q := by
  refine x_aloadn xc226_67 rfl ?_
  refine x_iloadn xc226_68 rfl ?_
  refine x_iconst xc226_69 ?_
  refine x_iadd xc226_70 ?_
  refine x_cV (as := [xV (s + 1)]) (rest := []) xc226_71 rfl xi227 xz87 ⟨rfl, rfl⟩ rfl rfl ?_
  exact k1

theorem w226n {ro : Nat → Nat × (Nat → Int32)} {d : Nat} {Q : Option Value → pmS → Prop} {c s g k : Int} {a : xA} {b : xB} (hg : g = 0 ∨ g = 1) (hk : -1 ≤ k ∧ k ≤ 61)
    (k1 : pmWp ro d 12 226 2 17 [some (.ref 87), some (xV c), some (xV s), some (xV g), some (xV (k + 1))] [] (xS a b) Q) :
    pmWp ro d 12 226 2 74 [some (.ref 87), some (xV c), some (xV s), some (xV g), some (xV k)] [] (xS a b) Q := by
  refine x_iinc (pl' := [some (.ref 87), some (xV c), some (xV s), some (xV g), some (xV (k + 1))]) xc226_74 rfl rfl ?_
  refine x_goto xc226_77 ?_
  exact k1

theorem w226e {ro : Nat → Nat × (Nat → Int32)} {d : Nat} {Q : Option Value → pmS → Prop} {c s g k : Int} {a : xA} {b : xB} (hg : g = 0 ∨ g = 1) (hk : -1 ≤ k ∧ k ≤ 61)
    (k1 : pmCs ro d 227 [.ref 87, xV s] (xS a b) fun r σ' => pmWp ro d 12 226 2 85 [some (.ref 87), some (xV c), some (xV s), some (xV g), some (xV k)] (r.toList ++ []) σ' Q) :
    pmWp ro d 12 226 2 80 [some (.ref 87), some (xV c), some (xV s), some (xV g), some (xV k)] [] (xS a b) Q := by
  refine x_aloadn xc226_80 rfl ?_
  refine x_iloadn xc226_81 rfl ?_
  refine x_cV (as := [xV s]) (rest := []) xc226_82 rfl xi227 xz87 ⟨rfl, rfl⟩ rfl rfl ?_
  exact k1

theorem w226f {ro : Nat → Nat × (Nat → Int32)} {d : Nat} {Q : Option Value → pmS → Prop} {c s g k : Int} {a : xA} {b : xB} (hg : g = 0 ∨ g = 1) (hk : -1 ≤ k ∧ k ≤ 61)
    (k1 : Q (some (xV g)) (xS a b)) :
    pmWp ro d 12 226 2 85 [some (.ref 87), some (xV c), some (xV s), some (xV g), some (xV k)] [] (xS a b) Q := by
  refine x_iloadn xc226_85 rfl ?_
  refine x_iret xc226_86 (Or.inr ⟨rfl, (by have g0 := hg; omega)⟩) ?_
  exact k1

theorem w229 {ro : Nat → Nat × (Nat → Int32)} {d : Nat} {Q : Option Value → pmS → Prop} {c s : Int} {a : xA} {b : xB}
    (k1 : pmCs ro d 221 [.ref 87, xV c] (xS a b) fun r σ' => pmWp ro d 12 229 2 5 [some (.ref 87), some (xV c), some (xV s), none, none] (r.toList ++ []) σ' Q) :
    pmWp ro d 12 229 2 0 [some (.ref 87), some (xV c), some (xV s), none, none] [] (xS a b) Q := by
  refine x_aloadn xc229_0 rfl ?_
  refine x_iloadn xc229_1 rfl ?_
  refine x_cV (as := [xV c]) (rest := []) xc229_2 rfl xi221 xz87 ⟨rfl, rfl⟩ rfl rfl ?_
  exact k1

theorem xg229 {ro : Nat → Nat × (Nat → Int32)} {d : Nat} {Q : Option Value → pmS → Prop} {a : xA} {b : xB} {c s : Int} (h : pmWp ro d 12 229 2 0 [some (.ref 87), some (xV c), some (xV s), none, none] [] (xS a b) Q) : pmCs ro (d + 1) 229 [.ref 87, xV c, xV s] (xS a b) Q := x_go xi229 rfl rfl rfl rfl rfl h
theorem w229a {ro : Nat → Nat × (Nat → Int32)} {d : Nat} {Q : Option Value → pmS → Prop} {c s : Int} {a : xA} {b : xB} (hs : 0 ≤ s ∧ s ≤ 7)
    (k1 : pmCs ro d 181 [.ref 87, xV (s + 1)] (xS a b) fun r σ' => pmWp ro d 12 229 2 12 [some (.ref 87), some (xV c), some (xV s), none, none] (r.toList ++ []) σ' Q) :
    pmWp ro d 12 229 2 5 [some (.ref 87), some (xV c), some (xV s), none, none] [] (xS a b) Q := by
  refine x_aloadn xc229_5 rfl ?_
  refine x_iloadn xc229_6 rfl ?_
  refine x_iconst xc229_7 ?_
  refine x_iadd xc229_8 ?_
  refine x_cV (as := [xV (s + 1)]) (rest := []) xc229_9 rfl xi181 xz87 ⟨rfl, rfl⟩ rfl rfl ?_
  exact k1

theorem w229b {ro : Nat → Nat × (Nat → Int32)} {d : Nat} {Q : Option Value → pmS → Prop} {c s : Int} {a : xA} {b : xB}
    (k1 : pmWp ro d 12 229 2 17 [some (.ref 87), some (xV c), some (xV s), some (xV 1), some (xV (-1))] [] (xS a b) Q) :
    pmWp ro d 12 229 2 12 [some (.ref 87), some (xV c), some (xV s), none, none] [] (xS a b) Q := by
  refine x_iconst xc229_12 ?_
  refine x_istoren (pl' := [some (.ref 87), some (xV c), some (xV s), some (xV 1), none]) xc229_13 rfl rfl ?_
  refine x_iconst xc229_14 ?_
  refine x_istore (pl' := [some (.ref 87), some (xV c), some (xV s), some (xV 1), some (xV (-1))]) xc229_15 rfl rfl ?_
  exact k1

theorem w229k {ro : Nat → Nat × (Nat → Int32)} {d : Nat} {Q : Option Value → pmS → Prop} {c s g k : Int} {a : xA} {b : xB} (hg : g = 0 ∨ g = 1) (hk : -1 ≤ k ∧ k ≤ 61)
    (k1 : (61 ≤ k) → pmWp ro d 12 229 2 90 [some (.ref 87), some (xV c), some (xV s), some (xV g), some (xV k)] [] (xS a b) Q)
    (k2 : (¬ 61 ≤ k) → (g = 0) → pmWp ro d 12 229 2 90 [some (.ref 87), some (xV c), some (xV s), some (xV g), some (xV k)] [] (xS a b) Q)
    (k3 : (¬ 61 ≤ k) → (¬ g = 0) → (k = -1) → pmWp ro d 12 229 2 47 [some (.ref 87), some (xV c), some (xV s), some (xV g), some (xV k)] [] (xS a b) Q)
    (k4 : (¬ 61 ≤ k) → (¬ g = 0) → (¬ k = -1) → pmCs ro d 206 [.ref 87, xV 0, xV k] (xS a b) fun r σ' => pmWp ro d 12 229 2 41 [some (.ref 87), some (xV c), some (xV s), some (xV g), some (xV k)] (r.toList ++ []) σ' Q) :
    pmWp ro d 12 229 2 17 [some (.ref 87), some (xV c), some (xV s), some (xV g), some (xV k)] [] (xS a b) Q := by
  refine x_iload xc229_17 rfl ?_
  refine x_bipush xc229_19 (by decide) ?_
  refine x_icge xc229_21 (xRk (by have g0 := hk; omega)) (xRk (by decide)) (fun h0 => ?_) (fun h0 => ?_)
  · exact k1 h0
  · refine x_iloadn xc229_24 rfl ?_
    refine x_ifeq xc229_25 (xRk (by have g0 := hg; omega)) (fun h1 => ?_) (fun h1 => ?_)
    · exact k2 h0 h1
    · refine x_iload xc229_28 rfl ?_
      refine x_iconst xc229_30 ?_
      refine x_iceq xc229_31 (xRk (by have g0 := hk; omega)) (xRk (by decide)) (fun h2 => ?_) (fun h2 => ?_)
      · exact k3 h0 h1 h2
      · refine x_aloadn xc229_34 rfl ?_
        refine x_iconst xc229_35 ?_
        refine x_iload xc229_36 rfl ?_
        refine x_cV (as := [xV 0, xV k]) (rest := []) xc229_38 rfl xi206 xz87 ⟨rfl, rfl⟩ rfl rfl ?_
        exact k4 h0 h1 h2

theorem w229z {ro : Nat → Nat × (Nat → Int32)} {d : Nat} {Q : Option Value → pmS → Prop} {z c s g k : Int} {a : xA} {b : xB} (hg : g = 0 ∨ g = 1) (hk : -1 ≤ k ∧ k ≤ 61) (hzz : z = 0 ∨ z = 1)
    (k1 : (¬ z = 0) → pmWp ro d 12 229 2 47 [some (.ref 87), some (xV c), some (xV s), some (xV g), some (xV k)] [] (xS a b) Q)
    (k2 : (z = 0) → pmWp ro d 12 229 2 84 [some (.ref 87), some (xV c), some (xV s), some (xV g), some (xV k)] [] (xS a b) Q) :
    pmWp ro d 12 229 2 41 [some (.ref 87), some (xV c), some (xV s), some (xV g), some (xV k)] [xV z] (xS a b) Q := by
  refine x_ifne xc229_41 (xRk (by have g0 := hzz; omega)) (fun h0 => ?_) (fun h0 => ?_)
  · exact k1 h0
  · replace h0 := Classical.not_not.mp h0
    refine x_goto xc229_44 ?_
    exact k2 h0

theorem w229p {ro : Nat → Nat × (Nat → Int32)} {d : Nat} {Q : Option Value → pmS → Prop} {c s g k : Int} {a : xA} {b : xB} (hg : g = 0 ∨ g = 1) (hk : -1 ≤ k ∧ k ≤ 61)
    (k1 : pmCs ro d 208 [.ref 87, xV k, xV (-1)] (xS a b) fun r σ' => pmWp ro d 12 229 2 54 [some (.ref 87), some (xV c), some (xV s), some (xV g), some (xV k)] (r.toList ++ []) σ' Q) :
    pmWp ro d 12 229 2 47 [some (.ref 87), some (xV c), some (xV s), some (xV g), some (xV k)] [] (xS a b) Q := by
  refine x_aloadn xc229_47 rfl ?_
  refine x_iload xc229_48 rfl ?_
  refine x_iconst xc229_50 ?_
  refine x_cV (as := [xV k, xV (-1)]) (rest := []) xc229_51 rfl xi208 xz87 ⟨rfl, rfl⟩ rfl rfl ?_
  exact k1

theorem w229q {ro : Nat → Nat × (Nat → Int32)} {d : Nat} {Q : Option Value → pmS → Prop} {c s g k : Int} {a : xA} {b : xB} (hg : g = 0 ∨ g = 1) (hk : -1 ≤ k ∧ k ≤ 61)
    (k1 : pmCs ro d 224 [.ref 87] (xS a b) fun r σ' => pmWp ro d 12 229 2 58 [some (.ref 87), some (xV c), some (xV s), some (xV g), some (xV k)] (r.toList ++ []) σ' Q) :
    pmWp ro d 12 229 2 54 [some (.ref 87), some (xV c), some (xV s), some (xV g), some (xV k)] [] (xS a b) Q := by
  refine x_aloadn xc229_54 rfl ?_
  refine x_cV (as := []) (rest := []) xc229_55 rfl xi224 xz87 ⟨rfl, rfl⟩ rfl rfl ?_
  exact k1

theorem w229r {ro : Nat → Nat × (Nat → Int32)} {d : Nat} {Q : Option Value → pmS → Prop} {z c s g k : Int} {a : xA} {b : xB} (hg : g = 0 ∨ g = 1) (hk : -1 ≤ k ∧ k ≤ 61) (hzz : z = 0 ∨ z = 1) (hs : 0 ≤ s ∧ s ≤ 7)
    (k1 : (¬ z = 0) → pmWp ro d 12 229 2 77 [some (.ref 87), some (xV c), some (xV s), some (xV 0), some (xV k)] [] (xS a b) Q)
    (k2 : (z = 0) → pmCs ro d 225 [.ref 87, xV (s + 2)] (xS a b) fun r σ' => pmWp ro d 12 229 2 68 [some (.ref 87), some (xV c), some (xV s), some (xV g), some (xV k)] (r.toList ++ []) σ' Q) :
    pmWp ro d 12 229 2 58 [some (.ref 87), some (xV c), some (xV s), some (xV g), some (xV k)] [xV z] (xS a b) Q := by
  refine x_ifne xc229_58 (xRk (by have g0 := hzz; omega)) (fun h0 => ?_) (fun h0 => ?_)
  · refine x_iconst xc229_75 ?_
    refine x_istoren (pl' := [some (.ref 87), some (xV c), some (xV s), some (xV 0), some (xV k)]) xc229_76 rfl rfl ?_
    exact k1 h0
  · replace h0 := Classical.not_not.mp h0
    refine x_aloadn xc229_61 rfl ?_
    refine x_iloadn xc229_62 rfl ?_
    refine x_iconst xc229_63 ?_
    refine x_iadd xc229_64 ?_
    refine x_cV (as := [xV (s + 2)]) (rest := []) xc229_65 rfl xi225 xz87 ⟨rfl, rfl⟩ rfl rfl ?_
    exact k2 h0

theorem w229x {ro : Nat → Nat × (Nat → Int32)} {d : Nat} {Q : Option Value → pmS → Prop} {z c s g k : Int} {a : xA} {b : xB} (hg : g = 0 ∨ g = 1) (hk : -1 ≤ k ∧ k ≤ 61) (hzz : z = 0 ∨ z = 1)
    (k1 : (z = 0) → pmWp ro d 12 229 2 77 [some (.ref 87), some (xV c), some (xV s), some (xV 0), some (xV k)] [] (xS a b) Q)
    (k2 : (¬ z = 0) → pmWp ro d 12 229 2 77 [some (.ref 87), some (xV c), some (xV s), some (xV 1), some (xV k)] [] (xS a b) Q) :
    pmWp ro d 12 229 2 68 [some (.ref 87), some (xV c), some (xV s), some (xV g), some (xV k)] [xV z] (xS a b) Q := by
  refine x_ifeq xc229_68 (xRk (by have g0 := hzz; omega)) (fun h0 => ?_) (fun h0 => ?_)
  · refine x_iconst xc229_75 ?_
    refine x_istoren (pl' := [some (.ref 87), some (xV c), some (xV s), some (xV 0), some (xV k)]) xc229_76 rfl rfl ?_
    exact k1 h0
  · refine x_iconst xc229_71 ?_
    refine x_goto xc229_72 ?_
    refine x_istoren (pl' := [some (.ref 87), some (xV c), some (xV s), some (xV 1), some (xV k)]) xc229_76 rfl rfl ?_
    exact k2 h0

theorem w229t {ro : Nat → Nat × (Nat → Int32)} {d : Nat} {Q : Option Value → pmS → Prop} {c s g k : Int} {a : xA} {b : xB} (hg : g = 0 ∨ g = 1) (hk : -1 ≤ k ∧ k ≤ 61) (hs : 0 ≤ s ∧ s ≤ 7)
    (k1 : pmCs ro d 227 [.ref 87, xV (s + 1)] (xS a b) fun r σ' => pmWp ro d 12 229 2 84 [some (.ref 87), some (xV c), some (xV s), some (xV g), some (xV k)] (r.toList ++ []) σ' Q) :
    pmWp ro d 12 229 2 77 [some (.ref 87), some (xV c), some (xV s), some (xV g), some (xV k)] [] (xS a b) Q := by
  refine x_aloadn xc229_77 rfl ?_
  refine x_iloadn xc229_78 rfl ?_
  refine x_iconst xc229_79 ?_
  refine x_iadd xc229_80 ?_
  refine x_cV (as := [xV (s + 1)]) (rest := []) xc229_81 rfl xi227 xz87 ⟨rfl, rfl⟩ rfl rfl ?_
  exact k1

theorem w229n {ro : Nat → Nat × (Nat → Int32)} {d : Nat} {Q : Option Value → pmS → Prop} {c s g k : Int} {a : xA} {b : xB} (hg : g = 0 ∨ g = 1) (hk : -1 ≤ k ∧ k ≤ 61)
    (k1 : pmWp ro d 12 229 2 17 [some (.ref 87), some (xV c), some (xV s), some (xV g), some (xV (k + 1))] [] (xS a b) Q) :
    pmWp ro d 12 229 2 84 [some (.ref 87), some (xV c), some (xV s), some (xV g), some (xV k)] [] (xS a b) Q := by
  refine x_iinc (pl' := [some (.ref 87), some (xV c), some (xV s), some (xV g), some (xV (k + 1))]) xc229_84 rfl rfl ?_
  refine x_goto xc229_87 ?_
  exact k1

theorem w229e {ro : Nat → Nat × (Nat → Int32)} {d : Nat} {Q : Option Value → pmS → Prop} {c s g k : Int} {a : xA} {b : xB} (hg : g = 0 ∨ g = 1) (hk : -1 ≤ k ∧ k ≤ 61)
    (k1 : pmCs ro d 227 [.ref 87, xV s] (xS a b) fun r σ' => pmWp ro d 12 229 2 95 [some (.ref 87), some (xV c), some (xV s), some (xV g), some (xV k)] (r.toList ++ []) σ' Q) :
    pmWp ro d 12 229 2 90 [some (.ref 87), some (xV c), some (xV s), some (xV g), some (xV k)] [] (xS a b) Q := by
  refine x_aloadn xc229_90 rfl ?_
  refine x_iloadn xc229_91 rfl ?_
  refine x_cV (as := [xV s]) (rest := []) xc229_92 rfl xi227 xz87 ⟨rfl, rfl⟩ rfl rfl ?_
  exact k1

theorem w229f {ro : Nat → Nat × (Nat → Int32)} {d : Nat} {Q : Option Value → pmS → Prop} {c s g k : Int} {a : xA} {b : xB} (hg : g = 0 ∨ g = 1) (hk : -1 ≤ k ∧ k ≤ 61)
    (k1 : Q (some (xV g)) (xS a b)) :
    pmWp ro d 12 229 2 95 [some (.ref 87), some (xV c), some (xV s), some (xV g), some (xV k)] [] (xS a b) Q := by
  refine x_iloadn xc229_95 rfl ?_
  refine x_iret xc229_96 (Or.inr ⟨rfl, (by have g0 := hg; omega)⟩) ?_
  exact k1

theorem w223 {ro : Nat → Nat × (Nat → Int32)} {d : Nat} {Q : Option Value → pmS → Prop} {t bg : Int} {a : xA} {b : xB} (qr1 : xR t) (hb : a 87 4 = bg) (hbg : bg = 0 ∨ bg = 1) (hd : 1 ≤ d)
    (k1 : (bg = 0) → Q (some (xV (-1))) (xS a b))
    (k2 : (¬ bg = 0) → (0 ≤ t ∧ t ≤ 2) → pmCs ro d 224 [.ref 87] (xS a b) fun r σ' => pmWp ro d 12 223 1 22 [some (.ref 87), some (xV t)] (r.toList ++ []) σ' Q)
    (k3 : (¬ bg = 0) → (¬ (0 ≤ t ∧ t ≤ 2)) → Q (some (xV (-1))) (xS a b)) :
    pmWp ro d 12 223 1 0 [some (.ref 87), some (xV t)] [] (xS a b) Q := by
  refine x_aloadn xc223_0 rfl ?_
  refine x_gfi' (k := 4) (v := bg) xc223_1 rfl (Or.inr rfl) rfl xz87 hb ?_
  refine x_ifeq xc223_4 (xRk (by have g0 := hbg; omega)) (fun h0 => ?_) (fun h0 => ?_)
  · refine x_iconst xc223_16 ?_
    refine x_iret xc223_17 (Or.inl rfl) ?_
    exact k1 h0
  · refine x_iloadn xc223_7 rfl ?_
    refine x_iconst xc223_8 ?_
    refine x_iconst xc223_9 ?_
    refine x_cS (as := [xV t, xV 0, xV 2]) (rest := []) xc223_10 rfl rfl xi143 ⟨rfl, rfl⟩ rfl rfl ?_
    refine xk143 (xRk (by have g0 := xRb qr1; omega)) (xRk (by decide)) (xRk (by decide)) (by omega) (fun h1 => ?_) (fun h2 => ?_)
    · refine x_ifne xc223_13 (xRk (by decide)) (fun _ => ?_) (fun h => absurd h (by omega))
      refine x_aloadn xc223_18 rfl ?_
      refine x_cV (as := []) (rest := []) xc223_19 rfl xi224 xz87 ⟨rfl, rfl⟩ rfl rfl ?_
      exact k2 h0 h1
    · refine x_ifne xc223_13 (xRk (by decide)) (fun h => absurd h (by omega)) (fun _ => ?_)
      refine x_iconst xc223_16 ?_
      refine x_iret xc223_17 (Or.inl rfl) ?_
      exact k3 h0 h2

theorem w223a {ro : Nat → Nat × (Nat → Int32)} {d : Nat} {Q : Option Value → pmS → Prop} {t z : Int} {a : xA} {b : xB} (ht : 0 ≤ t ∧ t ≤ 2) (hzz : z = 0 ∨ z = 1)
    (k1 : (z = 0) → (¬ t = 0) → (¬ t = 1) → pmCs ro d 228 [.ref 87, xV 1] (xS a b) fun r σ' => pmWp ro d 12 223 1 59 [some (.ref 87), some (xV t)] (r.toList ++ []) σ' Q)
    (k2 : (z = 0) → (¬ t = 0) → (t = 1) → pmCs ro d 225 [.ref 87, xV 1] (xS a b) fun r σ' => pmWp ro d 12 223 1 43 [some (.ref 87), some (xV t)] (r.toList ++ []) σ' Q)
    (k3 : (z = 0) → (t = 0) → Q (some (xV 1)) (xS a b))
    (k4 : (¬ z = 0) → Q (some (xV 0)) (xS a b)) :
    pmWp ro d 12 223 1 22 [some (.ref 87), some (xV t)] [xV z] (xS a b) Q := by
  refine x_ifeq xc223_22 (xRk (by have g0 := hzz; omega)) (fun h0 => ?_) (fun h0 => ?_)
  · refine x_iloadn xc223_27 rfl ?_
    refine x_ifne xc223_28 (xRk (by have g0 := ht; omega)) (fun h1 => ?_) (fun h1 => ?_)
    · refine x_iloadn xc223_33 rfl ?_
      refine x_iconst xc223_34 ?_
      refine x_icne xc223_35 (xRk (by have g0 := ht; omega)) (xRk (by decide)) (fun h2 => ?_) (fun h2 => ?_)
      · refine x_aloadn xc223_54 rfl ?_
        refine x_iconst xc223_55 ?_
        refine x_cV (as := [xV 1]) (rest := []) xc223_56 rfl xi228 xz87 ⟨rfl, rfl⟩ rfl rfl ?_
        exact k1 h0 h1 h2
      · replace h2 := Classical.not_not.mp h2
        refine x_aloadn xc223_38 rfl ?_
        refine x_iconst xc223_39 ?_
        refine x_cV (as := [xV 1]) (rest := []) xc223_40 rfl xi225 xz87 ⟨rfl, rfl⟩ rfl rfl ?_
        exact k2 h0 h1 h2
    · replace h1 := Classical.not_not.mp h1
      refine x_iconst xc223_31 ?_
      refine x_iret xc223_32 (Or.inl rfl) ?_
      exact k3 h0 h1
  · refine x_iconst xc223_25 ?_
    refine x_iret xc223_26 (Or.inl rfl) ?_
    exact k4 h0

theorem w223b {ro : Nat → Nat × (Nat → Int32)} {d : Nat} {Q : Option Value → pmS → Prop} {t z : Int} {a : xA} {b : xB} (hzz : z = 0 ∨ z = 1)
    (k1 : (z = 0) → Q (some (xV 0)) (xS a b))
    (k2 : (¬ z = 0) → Q (some (xV 1)) (xS a b)) :
    pmWp ro d 12 223 1 43 [some (.ref 87), some (xV t)] [xV z] (xS a b) Q := by
  refine x_ifeq xc223_43 (xRk (by have g0 := hzz; omega)) (fun h0 => ?_) (fun h0 => ?_)
  · refine x_iconst xc223_50 ?_
    refine x_goto xc223_51 ?_
    refine x_iret xc223_67 (Or.inl rfl) ?_
    exact k1 h0
  · refine x_iconst xc223_46 ?_
    refine x_goto xc223_47 ?_
    refine x_iret xc223_67 (Or.inl rfl) ?_
    exact k2 h0

theorem w223c {ro : Nat → Nat × (Nat → Int32)} {d : Nat} {Q : Option Value → pmS → Prop} {t z : Int} {a : xA} {b : xB} (hzz : z = 0 ∨ z = 1)
    (k1 : (z = 0) → Q (some (xV 0)) (xS a b))
    (k2 : (¬ z = 0) → Q (some (xV 1)) (xS a b)) :
    pmWp ro d 12 223 1 59 [some (.ref 87), some (xV t)] [xV z] (xS a b) Q := by
  refine x_ifeq xc223_59 (xRk (by have g0 := hzz; omega)) (fun h0 => ?_) (fun h0 => ?_)
  · refine x_iconst xc223_66 ?_
    refine x_iret xc223_67 (Or.inl rfl) ?_
    exact k1 h0
  · refine x_iconst xc223_62 ?_
    refine x_goto xc223_63 ?_
    refine x_iret xc223_67 (Or.inl rfl) ?_
    exact k2 h0

theorem w230 {ro : Nat → Nat × (Nat → Int32)} {d : Nat} {Q : Option Value → pmS → Prop} {bg : Int} {a : xA} {b : xB} (hb : a 87 4 = bg) (hbg : bg = 0 ∨ bg = 1) (hd : 1 ≤ d)
    (k1 : (¬ bg = 0) → pmCs ro d 224 [.ref 87] (xS a b) fun r σ' => pmWp ro d 12 230 1 13 [some (.ref 87)] (r.toList ++ []) σ' Q)
    (k2 : (bg = 0) → Q (some (xV (-1))) (xS a b)) :
    pmWp ro d 12 230 1 0 [some (.ref 87)] [] (xS a b) Q := by
  refine x_aloadn xc230_0 rfl ?_
  refine x_gfi' (k := 4) (v := bg) xc230_1 rfl (Or.inr rfl) rfl xz87 hb ?_
  refine x_ifne xc230_4 (xRk (by have g0 := hbg; omega)) (fun h0 => ?_) (fun h0 => ?_)
  · refine x_aloadn xc230_9 rfl ?_
    refine x_cV (as := []) (rest := []) xc230_10 rfl xi224 xz87 ⟨rfl, rfl⟩ rfl rfl ?_
    exact k1 h0
  · replace h0 := Classical.not_not.mp h0
    refine x_iconst xc230_7 ?_
    refine x_iret xc230_8 (Or.inl rfl) ?_
    exact k2 h0

theorem w230a {ro : Nat → Nat × (Nat → Int32)} {d : Nat} {Q : Option Value → pmS → Prop} {z : Int} {a : xA} {b : xB} (hzz : z = 0 ∨ z = 1)
    (k1 : (z = 0) → pmCs ro d 225 [.ref 87, xV 1] (xS a b) fun r σ' => pmWp ro d 12 230 1 23 [some (.ref 87)] (r.toList ++ []) σ' Q)
    (k2 : (¬ z = 0) → Q (some (xV 0)) (xS a b)) :
    pmWp ro d 12 230 1 13 [some (.ref 87)] [xV z] (xS a b) Q := by
  refine x_ifeq xc230_13 (xRk (by have g0 := hzz; omega)) (fun h0 => ?_) (fun h0 => ?_)
  · refine x_aloadn xc230_18 rfl ?_
    refine x_iconst xc230_19 ?_
    refine x_cV (as := [xV 1]) (rest := []) xc230_20 rfl xi225 xz87 ⟨rfl, rfl⟩ rfl rfl ?_
    exact k1 h0
  · refine x_iconst xc230_16 ?_
    refine x_iret xc230_17 (Or.inl rfl) ?_
    exact k2 h0

theorem w230b {ro : Nat → Nat × (Nat → Int32)} {d : Nat} {Q : Option Value → pmS → Prop} {z : Int} {a : xA} {b : xB} (hzz : z = 0 ∨ z = 1)
    (k1 : (¬ z = 0) → pmCs ro d 228 [.ref 87, xV 1] (xS a b) fun r σ' => pmWp ro d 12 230 1 33 [some (.ref 87)] (r.toList ++ []) σ' Q)
    (k2 : (z = 0) → Q (some (xV 1)) (xS a b)) :
    pmWp ro d 12 230 1 23 [some (.ref 87)] [xV z] (xS a b) Q := by
  refine x_ifne xc230_23 (xRk (by have g0 := hzz; omega)) (fun h0 => ?_) (fun h0 => ?_)
  · refine x_aloadn xc230_28 rfl ?_
    refine x_iconst xc230_29 ?_
    refine x_cV (as := [xV 1]) (rest := []) xc230_30 rfl xi228 xz87 ⟨rfl, rfl⟩ rfl rfl ?_
    exact k1 h0
  · replace h0 := Classical.not_not.mp h0
    refine x_iconst xc230_26 ?_
    refine x_iret xc230_27 (Or.inl rfl) ?_
    exact k2 h0

theorem w230c {ro : Nat → Nat × (Nat → Int32)} {d : Nat} {Q : Option Value → pmS → Prop} {z : Int} {a : xA} {b : xB} (hzz : z = 0 ∨ z = 1)
    (k1 : (z = 0) → Q (some (xV 2)) (xS a b))
    (k2 : (¬ z = 0) → Q (some (xV 3)) (xS a b)) :
    pmWp ro d 12 230 1 33 [some (.ref 87)] [xV z] (xS a b) Q := by
  refine x_ifeq xc230_33 (xRk (by have g0 := hzz; omega)) (fun h0 => ?_) (fun h0 => ?_)
  · refine x_iconst xc230_40 ?_
    refine x_iret xc230_41 (Or.inl rfl) ?_
    exact k1 h0
  · refine x_iconst xc230_36 ?_
    refine x_goto xc230_37 ?_
    refine x_iret xc230_41 (Or.inl rfl) ?_
    exact k2 h0

theorem wa231 {ro : Nat → Nat × (Nat → Int32)} {d : Nat} {Q : Option Value → pmS → Prop} {t wh bg : Int} {a : xA} {b : xB} (qr1 : xR t) (qr2 : xR wh) (hb : a 87 4 = bg) (hbg : bg = 0 ∨ bg = 1) (hd : 1 ≤ d)
    (k1 : (bg = 0) → Q (some (xV (-1))) (xS a b))
    (k2 : (¬ bg = 0) → (1 ≤ t ∧ t ≤ 2) → (0 ≤ wh ∧ wh ≤ 3) → pmCs ro d 224 [.ref 87] (xS a b) fun r σ' => pmWp ro d 12 231 1 31 [some (.ref 87), some (xV t), some (xV wh), none, none] (r.toList ++ []) σ' Q)
    (k3 : (¬ bg = 0) → (1 ≤ t ∧ t ≤ 2) → (¬ (0 ≤ wh ∧ wh ≤ 3)) → Q (some (xV (-1))) (xS a b))
    (k4 : (¬ bg = 0) → (¬ (1 ≤ t ∧ t ≤ 2)) → Q (some (xV (-1))) (xS a b)) :
    pmWp ro d 12 231 1 0 [some (.ref 87), some (xV t), some (xV wh), none, none] [] (xS a b) Q := by
  refine x_aloadn xc231_0 rfl ?_
  refine x_gfi' (k := 4) (v := bg) xc231_1 rfl (Or.inr rfl) rfl xz87 hb ?_
  refine x_ifeq xc231_4 (xRk (by have g0 := hbg; omega)) (fun h0 => ?_) (fun h0 => ?_)
  · refine x_iconst xc231_25 ?_
    refine x_iret xc231_26 (Or.inl rfl) ?_
    exact k1 h0
  · refine x_iloadn xc231_7 rfl ?_
    refine x_iconst xc231_8 ?_
    refine x_iconst xc231_9 ?_
    refine x_cS (as := [xV t, xV 1, xV 2]) (rest := []) xc231_10 rfl rfl xi143 ⟨rfl, rfl⟩ rfl rfl ?_
    refine xk143 (xRk (by have g0 := xRb qr1; omega)) (xRk (by decide)) (xRk (by decide)) (by omega) (fun h1 => ?_) (fun h2 => ?_)
    · refine x_ifeq xc231_13 (xRk (by decide)) (fun h => absurd h (by omega)) (fun _ => ?_)
      refine x_iloadn xc231_16 rfl ?_
      refine x_iconst xc231_17 ?_
      refine x_iconst xc231_18 ?_
      refine x_cS (as := [xV wh, xV 0, xV 3]) (rest := []) xc231_19 rfl rfl xi143 ⟨rfl, rfl⟩ rfl rfl ?_
      refine xk143 (xRk (by have g0 := xRb qr2; omega)) (xRk (by decide)) (xRk (by decide)) (by omega) (fun h4 => ?_) (fun h5 => ?_)
      · refine x_ifne xc231_22 (xRk (by decide)) (fun _ => ?_) (fun h => absurd h (by omega))
        refine x_aloadn xc231_27 rfl ?_
        refine x_cV (as := []) (rest := []) xc231_28 rfl xi224 xz87 ⟨rfl, rfl⟩ rfl rfl ?_
        exact k2 h0 h1 h4
      · refine x_ifne xc231_22 (xRk (by decide)) (fun h => absurd h (by omega)) (fun _ => ?_)
        refine x_iconst xc231_25 ?_
        refine x_iret xc231_26 (Or.inl rfl) ?_
        exact k3 h0 h1 h5
    · refine x_ifeq xc231_13 (xRk (by decide)) (fun _ => ?_) (fun h => absurd h (by omega))
      refine x_iconst xc231_25 ?_
      refine x_iret xc231_26 (Or.inl rfl) ?_
      exact k4 h0 h2

theorem wa231a {ro : Nat → Nat × (Nat → Int32)} {d : Nat} {Q : Option Value → pmS → Prop} {t wh z : Int} {a : xA} {b : xB} (hzz : z = 0 ∨ z = 1) (ht : 1 ≤ t ∧ t ≤ 2) (hw : 0 ≤ wh ∧ wh ≤ 3)
    (k1 : (z = 0) → pmCs ro d 181 [.ref 87, xV 1] (xS a b) fun r σ' => pmWp ro d 12 231 1 42 [some (.ref 87), some (xV t), some (xV wh), none, none] (r.toList ++ []) σ' Q)
    (k2 : (¬ z = 0) → Q (some (xV (-2))) (xS a b)) :
    pmWp ro d 12 231 1 31 [some (.ref 87), some (xV t), some (xV wh), none, none] [xV z] (xS a b) Q := by
  refine x_ifeq xc231_31 (xRk (by have g0 := hzz; omega)) (fun h0 => ?_) (fun h0 => ?_)
  · refine x_aloadn xc231_37 rfl ?_
    refine x_iconst xc231_38 ?_
    refine x_cV (as := [xV 1]) (rest := []) xc231_39 rfl xi181 xz87 ⟨rfl, rfl⟩ rfl rfl ?_
    exact k1 h0
  · refine x_bipush xc231_34 (by decide) ?_
    refine x_iret xc231_36 (Or.inl rfl) ?_
    exact k2 h0

theorem wa231b {ro : Nat → Nat × (Nat → Int32)} {d : Nat} {Q : Option Value → pmS → Prop} {t wh : Int} {a : xA} {b : xB}
    (k1 : pmWp ro d 12 231 1 47 [some (.ref 87), some (xV t), some (xV wh), some (xV (-1)), some (xV 0)] [] (xS a b) Q) :
    pmWp ro d 12 231 1 42 [some (.ref 87), some (xV t), some (xV wh), none, none] [] (xS a b) Q := by
  refine x_iconst xc231_42 ?_
  refine x_istoren (pl' := [some (.ref 87), some (xV t), some (xV wh), some (xV (-1)), none]) xc231_43 rfl rfl ?_
  refine x_iconst xc231_44 ?_
  refine x_istore (pl' := [some (.ref 87), some (xV t), some (xV wh), some (xV (-1)), some (xV 0)]) xc231_45 rfl rfl ?_
  exact k1

theorem wa231k {ro : Nat → Nat × (Nat → Int32)} {d : Nat} {Q : Option Value → pmS → Prop} {t wh bs c : Int} {a : xA} {b : xB} (ht : 1 ≤ t ∧ t ≤ 2) (hw : 0 ≤ wh ∧ wh ≤ 3) (hbs : -1 ≤ bs ∧ bs ≤ 56) (hc : 0 ≤ c ∧ c ≤ 57)
    (k1 : (57 ≤ c) → pmWp ro d 12 231 1 122 [some (.ref 87), some (xV t), some (xV wh), some (xV bs), some (xV c)] [] (xS a b) Q)
    (k2 : (¬ 57 ≤ c) → pmCs ro d 217 [.ref 87, xV c] (xS a b) fun r σ' => pmWp ro d 12 231 1 60 [some (.ref 87), some (xV t), some (xV wh), some (xV bs), some (xV c)] (r.toList ++ []) σ' Q) :
    pmWp ro d 12 231 1 47 [some (.ref 87), some (xV t), some (xV wh), some (xV bs), some (xV c)] [] (xS a b) Q := by
  refine x_iload xc231_47 rfl ?_
  refine x_bipush xc231_49 (by decide) ?_
  refine x_icge xc231_51 (xRk (by have g0 := hc; omega)) (xRk (by decide)) (fun h0 => ?_) (fun h0 => ?_)
  · exact k1 h0
  · refine x_aloadn xc231_54 rfl ?_
    refine x_iload xc231_55 rfl ?_
    refine x_cV (as := [xV c]) (rest := []) xc231_57 rfl xi217 xz87 ⟨rfl, rfl⟩ rfl rfl ?_
    exact k2 h0

theorem wa231z {ro : Nat → Nat × (Nat → Int32)} {d : Nat} {Q : Option Value → pmS → Prop} {z t wh bs c : Int} {a : xA} {b : xB} (ht : 1 ≤ t ∧ t ≤ 2) (hw : 0 ≤ wh ∧ wh ≤ 3) (hbs : -1 ≤ bs ∧ bs ≤ 56) (hc : 0 ≤ c ∧ c ≤ 56) (hzz : z = 0 ∨ z = 1) (h116 : 0 ≤ a 88 116 ∧ a 88 116 ≤ 1000) (h117 : 0 ≤ a 88 117 ∧ a 88 117 ≤ 1000) (hd : 1 ≤ d)
    (k1 : (z = 0) → pmWp ro d 12 231 1 116 [some (.ref 87), some (xV t), some (xV wh), some (xV bs), some (xV c)] [] (xS a b) Q)
    (k2 : (¬ z = 0) → (bs = -1) → pmWp ro d 12 231 1 85 [some (.ref 87), some (xV t), some (xV wh), some (xV bs), some (xV c)] [] (xS a b) Q)
    (k3 : (¬ z = 0) → (¬ bs = -1) → (uPr c (a 88) < uPr bs (a 88)) → pmWp ro d 12 231 1 85 [some (.ref 87), some (xV t), some (xV wh), some (xV bs), some (xV c)] [] (xS a b) Q)
    (k4 : (¬ z = 0) → (¬ bs = -1) → (¬ uPr c (a 88) < uPr bs (a 88)) → pmWp ro d 12 231 1 116 [some (.ref 87), some (xV t), some (xV wh), some (xV bs), some (xV c)] [] (xS a b) Q) :
    pmWp ro d 12 231 1 60 [some (.ref 87), some (xV t), some (xV wh), some (xV bs), some (xV c)] [xV z] (xS a b) Q := by
  refine x_ifeq xc231_60 (xRk (by have g0 := hzz; omega)) (fun h0 => ?_) (fun h0 => ?_)
  · exact k1 h0
  · refine x_iloadn xc231_63 rfl ?_
    refine x_iconst xc231_64 ?_
    refine x_iceq xc231_65 (xRk (by have g0 := hbs; omega)) (xRk (by decide)) (fun h1 => ?_) (fun h1 => ?_)
    · exact k2 h0 h1
    · refine x_aloadn xc231_68 rfl ?_
      refine x_iload xc231_69 rfl ?_
      refine x_cV (as := [xV c]) (rest := []) xc231_71 rfl xi220 xz87 ⟨rfl, rfl⟩ rfl rfl ?_
      refine rk220 (by omega) (by have g0 := hc; omega) ?_
      refine x_aloadn xc231_74 rfl ?_
      refine x_iloadn xc231_75 rfl ?_
      refine x_cV (as := [xV bs]) (rest := [xV (uPr c (a 88))]) xc231_76 rfl xi220 xz87 ⟨rfl, rfl⟩ rfl rfl ?_
      refine rk220 (by omega) (by have g0 := hbs; omega) ?_
      refine x_iclt xc231_79 (xRk (by have g0 := uPr_b (c := c) (r := a 88) h116 h117; omega)) (xRk (by have g0 := uPr_b (c := bs) (r := a 88) h116 h117; omega)) (fun h2 => ?_) (fun h2 => ?_)
      · exact k3 h0 h1 h2
      · refine x_goto xc231_82 ?_
        exact k4 h0 h1 h2

theorem wa231y {ro : Nat → Nat × (Nat → Int32)} {d : Nat} {Q : Option Value → pmS → Prop} {t wh bs c : Int} {a : xA} {b : xB} (ht : 1 ≤ t ∧ t ≤ 2) (hw : 0 ≤ wh ∧ wh ≤ 3) (hbs : -1 ≤ bs ∧ bs ≤ 56) (hc : 0 ≤ c ∧ c ≤ 56)
    (k1 : (¬ t = 1) → pmCs ro d 229 [.ref 87, xV c, xV 1] (xS a b) fun r σ' => pmWp ro d 12 231 1 110 [some (.ref 87), some (xV t), some (xV wh), some (xV bs), some (xV c)] (r.toList ++ []) σ' Q)
    (k2 : (t = 1) → pmCs ro d 226 [.ref 87, xV c, xV 1] (xS a b) fun r σ' => pmWp ro d 12 231 1 97 [some (.ref 87), some (xV t), some (xV wh), some (xV bs), some (xV c)] (r.toList ++ []) σ' Q) :
    pmWp ro d 12 231 1 85 [some (.ref 87), some (xV t), some (xV wh), some (xV bs), some (xV c)] [] (xS a b) Q := by
  refine x_iloadn xc231_85 rfl ?_
  refine x_iconst xc231_86 ?_
  refine x_icne xc231_87 (xRk (by have g0 := ht; omega)) (xRk (by decide)) (fun h0 => ?_) (fun h0 => ?_)
  · refine x_aloadn xc231_103 rfl ?_
    refine x_iload xc231_104 rfl ?_
    refine x_iconst xc231_106 ?_
    refine x_cV (as := [xV c, xV 1]) (rest := []) xc231_107 rfl xi229 xz87 ⟨rfl, rfl⟩ rfl rfl ?_
    exact k1 h0
  · replace h0 := Classical.not_not.mp h0
    refine x_aloadn xc231_90 rfl ?_
    refine x_iload xc231_91 rfl ?_
    refine x_iconst xc231_93 ?_
    refine x_cV (as := [xV c, xV 1]) (rest := []) xc231_94 rfl xi226 xz87 ⟨rfl, rfl⟩ rfl rfl ?_
    exact k2 h0

theorem wa231p {ro : Nat → Nat × (Nat → Int32)} {d : Nat} {Q : Option Value → pmS → Prop} {z t wh bs c : Int} {a : xA} {b : xB} (ht : 1 ≤ t ∧ t ≤ 2) (hw : 0 ≤ wh ∧ wh ≤ 3) (hbs : -1 ≤ bs ∧ bs ≤ 56) (hc : 0 ≤ c ∧ c ≤ 56) (hzz : z = 0 ∨ z = 1)
    (k1 : (z = 0) → pmWp ro d 12 231 1 116 [some (.ref 87), some (xV t), some (xV wh), some (xV bs), some (xV c)] [] (xS a b) Q)
    (k2 : (¬ z = 0) → pmWp ro d 12 231 1 116 [some (.ref 87), some (xV t), some (xV wh), some (xV c), some (xV c)] [] (xS a b) Q) :
    pmWp ro d 12 231 1 97 [some (.ref 87), some (xV t), some (xV wh), some (xV bs), some (xV c)] [xV z] (xS a b) Q := by
  refine x_ifeq xc231_97 (xRk (by have g0 := hzz; omega)) (fun h0 => ?_) (fun h0 => ?_)
  · exact k1 h0
  · refine x_goto xc231_100 ?_
    refine x_iload xc231_113 rfl ?_
    refine x_istoren (pl' := [some (.ref 87), some (xV t), some (xV wh), some (xV c), some (xV c)]) xc231_115 rfl rfl ?_
    exact k2 h0

theorem wa231q {ro : Nat → Nat × (Nat → Int32)} {d : Nat} {Q : Option Value → pmS → Prop} {z t wh bs c : Int} {a : xA} {b : xB} (ht : 1 ≤ t ∧ t ≤ 2) (hw : 0 ≤ wh ∧ wh ≤ 3) (hbs : -1 ≤ bs ∧ bs ≤ 56) (hc : 0 ≤ c ∧ c ≤ 56) (hzz : z = 0 ∨ z = 1)
    (k1 : (z = 0) → pmWp ro d 12 231 1 116 [some (.ref 87), some (xV t), some (xV wh), some (xV bs), some (xV c)] [] (xS a b) Q)
    (k2 : (¬ z = 0) → pmWp ro d 12 231 1 116 [some (.ref 87), some (xV t), some (xV wh), some (xV c), some (xV c)] [] (xS a b) Q) :
    pmWp ro d 12 231 1 110 [some (.ref 87), some (xV t), some (xV wh), some (xV bs), some (xV c)] [xV z] (xS a b) Q := by
  refine x_ifeq xc231_110 (xRk (by have g0 := hzz; omega)) (fun h0 => ?_) (fun h0 => ?_)
  · exact k1 h0
  · refine x_iload xc231_113 rfl ?_
    refine x_istoren (pl' := [some (.ref 87), some (xV t), some (xV wh), some (xV c), some (xV c)]) xc231_115 rfl rfl ?_
    exact k2 h0

theorem wa231n {ro : Nat → Nat × (Nat → Int32)} {d : Nat} {Q : Option Value → pmS → Prop} {t wh bs c : Int} {a : xA} {b : xB}
    (k1 : pmWp ro d 12 231 1 47 [some (.ref 87), some (xV t), some (xV wh), some (xV bs), some (xV (c + 1))] [] (xS a b) Q) :
    pmWp ro d 12 231 1 116 [some (.ref 87), some (xV t), some (xV wh), some (xV bs), some (xV c)] [] (xS a b) Q := by
  refine x_iinc (pl' := [some (.ref 87), some (xV t), some (xV wh), some (xV bs), some (xV (c + 1))]) xc231_116 rfl rfl ?_
  refine x_goto xc231_119 ?_
  exact k1

theorem wa231e {ro : Nat → Nat × (Nat → Int32)} {d : Nat} {Q : Option Value → pmS → Prop} {t wh bs c : Int} {a : xA} {b : xB} (ht : 1 ≤ t ∧ t ≤ 2) (hw : 0 ≤ wh ∧ wh ≤ 3) (hbs : -1 ≤ bs ∧ bs ≤ 56) (hc : 0 ≤ c ∧ c ≤ 57) (h116 : 0 ≤ a 88 116 ∧ a 88 116 ≤ 1000) (h117 : 0 ≤ a 88 117 ∧ a 88 117 ≤ 1000) (hd : 1 ≤ d)
    (k1 : (¬ bs = -1) → (wh = 0) → (¬ bs = 0) → (36 ≤ bs) → Q (some (xV 2)) (xS a b))
    (k2 : (¬ bs = -1) → (wh = 0) → (¬ bs = 0) → (¬ 36 ≤ bs) → Q (some (xV 1)) (xS a b))
    (k3 : (¬ bs = -1) → (wh = 0) → (bs = 0) → Q (some (xV 0)) (xS a b))
    (k4 : (¬ bs = -1) → (¬ wh = 0) → (wh = 1) → (¬ bs = 0) → (36 ≤ bs) → Q (some (xV (1 + ((bs - 36) / 7)))) (xS a b))
    (k5 : (¬ bs = -1) → (¬ wh = 0) → (wh = 1) → (¬ bs = 0) → (¬ 36 ≤ bs) → Q (some (xV ((bs - 1) / 7))) (xS a b))
    (k6 : (¬ bs = -1) → (¬ wh = 0) → (wh = 1) → (bs = 0) → Q (some (xV (-1))) (xS a b))
    (k7 : (¬ bs = -1) → (¬ wh = 0) → (¬ wh = 1) → (wh = 2) → (¬ bs = 0) → (36 ≤ bs) → Q (some (xV ((bs - 36) % 7))) (xS a b))
    (k8 : (¬ bs = -1) → (¬ wh = 0) → (¬ wh = 1) → (wh = 2) → (¬ bs = 0) → (¬ 36 ≤ bs) → Q (some (xV ((bs - 1) % 7))) (xS a b))
    (k9 : (¬ bs = -1) → (¬ wh = 0) → (¬ wh = 1) → (wh = 2) → (bs = 0) → Q (some (xV (-1))) (xS a b))
    (k10 : (¬ bs = -1) → (¬ wh = 0) → (¬ wh = 1) → (¬ wh = 2) → Q (some (xV (uPr bs (a 88)))) (xS a b))
    (k11 : (bs = -1) → Q (some (xV (-2))) (xS a b)) :
    pmWp ro d 12 231 1 122 [some (.ref 87), some (xV t), some (xV wh), some (xV bs), some (xV c)] [] (xS a b) Q := by
  refine x_iloadn xc231_122 rfl ?_
  refine x_iconst xc231_123 ?_
  refine x_icne xc231_124 (xRk (by have g0 := hbs; omega)) (xRk (by decide)) (fun h0 => ?_) (fun h0 => ?_)
  · refine x_iloadn xc231_130 rfl ?_
    by_cases h1 : wh = 0
    · refine x_sw (c := 0) (t := 156) h1 xc231_131.1 rfl ?_
      refine x_iloadn xc231_156 rfl ?_
      refine x_ifne xc231_157 (xRk (by have g0 := hbs; omega)) (fun h2 => ?_) (fun h2 => ?_)
      · refine x_iloadn xc231_164 rfl ?_
        refine x_bipush xc231_165 (by decide) ?_
        refine x_icge xc231_167 (xRk (by have g0 := hbs; omega)) (xRk (by decide)) (fun h3 => ?_) (fun h3 => ?_)
        · refine x_iconst xc231_174 ?_
          refine x_iret xc231_175 (Or.inl rfl) ?_
          exact k1 h0 h1 h2 h3
        · refine x_iconst xc231_170 ?_
          refine x_goto xc231_171 ?_
          refine x_iret xc231_175 (Or.inl rfl) ?_
          exact k2 h0 h1 h2 h3
      · replace h2 := Classical.not_not.mp h2
        refine x_iconst xc231_160 ?_
        refine x_goto xc231_161 ?_
        refine x_iret xc231_175 (Or.inl rfl) ?_
        exact k3 h0 h1 h2
    by_cases h4 : wh = 1
    · refine x_sw (c := 1) (t := 176) h4 xc231_131.1 rfl ?_
      refine x_iloadn xc231_176 rfl ?_
      refine x_ifne xc231_177 (xRk (by have g0 := hbs; omega)) (fun h5 => ?_) (fun h5 => ?_)
      · refine x_iloadn xc231_184 rfl ?_
        refine x_bipush xc231_185 (by decide) ?_
        refine x_icge xc231_187 (xRk (by have g0 := hbs; omega)) (xRk (by decide)) (fun h6 => ?_) (fun h6 => ?_)
        · refine x_iconst xc231_199 ?_
          refine x_iloadn xc231_200 rfl ?_
          refine x_bipush xc231_201 (by decide) ?_
          refine x_isub xc231_203 ?_
          refine x_bipush xc231_204 (by decide) ?_
          refine x_idiv (by have g0 := hbs; omega) (xRk (by have g0 := hbs; omega)) (by omega) (xRk (by decide)) xc231_206 ?_
          refine x_iadd xc231_207 ?_
          refine x_iret xc231_208 (Or.inl rfl) ?_
          exact k4 h0 h1 h4 h5 h6
        · refine x_iloadn xc231_190 rfl ?_
          refine x_iconst xc231_191 ?_
          refine x_isub xc231_192 ?_
          refine x_bipush xc231_193 (by decide) ?_
          refine x_idiv (by have g0 := hbs; omega) (xRk (by have g0 := hbs; omega)) (by omega) (xRk (by decide)) xc231_195 ?_
          refine x_goto xc231_196 ?_
          refine x_iret xc231_208 (Or.inl rfl) ?_
          exact k5 h0 h1 h4 h5 h6
      · replace h5 := Classical.not_not.mp h5
        refine x_iconst xc231_180 ?_
        refine x_goto xc231_181 ?_
        refine x_iret xc231_208 (Or.inl rfl) ?_
        exact k6 h0 h1 h4 h5
    by_cases h7 : wh = 2
    · refine x_sw (c := 2) (t := 209) h7 xc231_131.1 rfl ?_
      refine x_iloadn xc231_209 rfl ?_
      refine x_ifne xc231_210 (xRk (by have g0 := hbs; omega)) (fun h8 => ?_) (fun h8 => ?_)
      · refine x_iloadn xc231_217 rfl ?_
        refine x_bipush xc231_218 (by decide) ?_
        refine x_icge xc231_220 (xRk (by have g0 := hbs; omega)) (xRk (by decide)) (fun h9 => ?_) (fun h9 => ?_)
        · refine x_iloadn xc231_232 rfl ?_
          refine x_bipush xc231_233 (by decide) ?_
          refine x_isub xc231_235 ?_
          refine x_bipush xc231_236 (by decide) ?_
          refine x_irem (by have g0 := hbs; omega) (xRk (by have g0 := hbs; omega)) (by omega) (xRk (by decide)) xc231_238 ?_
          refine x_iret xc231_239 (Or.inl rfl) ?_
          exact k7 h0 h1 h4 h7 h8 h9
        · refine x_iloadn xc231_223 rfl ?_
          refine x_iconst xc231_224 ?_
          refine x_isub xc231_225 ?_
          refine x_bipush xc231_226 (by decide) ?_
          refine x_irem (by have g0 := hbs; omega) (xRk (by have g0 := hbs; omega)) (by omega) (xRk (by decide)) xc231_228 ?_
          refine x_goto xc231_229 ?_
          refine x_iret xc231_239 (Or.inl rfl) ?_
          exact k8 h0 h1 h4 h7 h8 h9
      · replace h8 := Classical.not_not.mp h8
        refine x_iconst xc231_213 ?_
        refine x_goto xc231_214 ?_
        refine x_iret xc231_239 (Or.inl rfl) ?_
        exact k9 h0 h1 h4 h7 h8
    refine x_tsd xc231_131 (xRk (by have g0 := hw; omega)) (by omega) ?_
    refine x_aloadn xc231_240 rfl ?_
    refine x_iloadn xc231_241 rfl ?_
    refine x_cV (as := [xV bs]) (rest := []) xc231_242 rfl xi220 xz87 ⟨rfl, rfl⟩ rfl rfl ?_
    refine rk220 (by omega) (by have g0 := hbs; omega) ?_
    refine x_iret xc231_245 (Or.inl rfl) ?_
    exact k10 h0 h1 h4 h7
  · replace h0 := Classical.not_not.mp h0
    refine x_bipush xc231_127 (by decide) ?_
    refine x_iret xc231_129 (Or.inl rfl) ?_
    exact k11 h0

end
