/-! exact: the reference reads a law -/
section
set_option maxRecDepth 100000
theorem xi143 : pmInf[143]? = some pmI_143 := rfl
theorem xi154 : pmInf[154]? = some pmI_154 := rfl
theorem xi156 : pmInf[156]? = some pmI_156 := rfl
theorem xi158 : pmInf[158]? = some pmI_158 := rfl
theorem xi160 : pmInf[160]? = some pmI_160 := rfl
theorem xi166 : pmInf[166]? = some pmI_166 := rfl
theorem xi167 : pmInf[167]? = some pmI_167 := rfl
theorem xi168 : pmInf[168]? = some pmI_168 := rfl
theorem xi169 : pmInf[169]? = some pmI_169 := rfl
theorem xi170 : pmInf[170]? = some pmI_170 := rfl
theorem xi171 : pmInf[171]? = some pmI_171 := rfl
theorem xi172 : pmInf[172]? = some pmI_172 := rfl
theorem xc143_0 : pmCode 143 0 = some (.iload_n 0) ∧ 0 + 1 = 1 := ⟨rfl, rfl⟩
theorem xc143_1 : pmCode 143 1 = some (.iload_n 1) ∧ 1 + 1 = 2 := ⟨rfl, rfl⟩
theorem xc143_2 : pmCode 143 2 = some (.if_icmp .lt 12) ∧ ((2 : Nat) : Int) + 12 = ((14 : Nat) : Int) ∧ 2 + 3 = 5 := ⟨rfl, rfl, rfl⟩
theorem xc143_5 : pmCode 143 5 = some (.iload_n 0) ∧ 5 + 1 = 6 := ⟨rfl, rfl⟩
theorem xc143_6 : pmCode 143 6 = some (.iload_n 2) ∧ 6 + 1 = 7 := ⟨rfl, rfl⟩
theorem xc143_7 : pmCode 143 7 = some (.if_icmp .gt 7) ∧ ((7 : Nat) : Int) + 7 = ((14 : Nat) : Int) ∧ 7 + 3 = 10 := ⟨rfl, rfl, rfl⟩
theorem xc143_10 : pmCode 143 10 = some (.iconst 1) ∧ 10 + 1 = 11 := ⟨rfl, rfl⟩
theorem xc143_11 : pmCode 143 11 = some (.goto 4) ∧ ((11 : Nat) : Int) + 4 = ((15 : Nat) : Int) := ⟨rfl, rfl⟩
theorem xc143_14 : pmCode 143 14 = some (.iconst 0) ∧ 14 + 1 = 15 := ⟨rfl, rfl⟩
theorem xc143_15 : pmCode 143 15 = some .ireturn := rfl
theorem xc154_0 : pmCode 154 0 = some (.aload_n 0) ∧ 0 + 1 = 1 := ⟨rfl, rfl⟩
theorem xc154_1 : pmCode 154 1 = some (.iconst 0) ∧ 1 + 1 = 2 := ⟨rfl, rfl⟩
theorem xc154_2 : pmCode 154 2 = some (.putfield 170) ∧ 2 + 3 = 5 := ⟨rfl, rfl⟩
theorem xc154_5 : pmCode 154 5 = some (.aload_n 0) ∧ 5 + 1 = 6 := ⟨rfl, rfl⟩
theorem xc154_6 : pmCode 154 6 = some (.iload_n 1) ∧ 6 + 1 = 7 := ⟨rfl, rfl⟩
theorem xc154_7 : pmCode 154 7 = some (.putfield 173) ∧ 7 + 3 = 10 := ⟨rfl, rfl⟩
theorem xc154_10 : pmCode 154 10 = some (.aload_n 0) ∧ 10 + 1 = 11 := ⟨rfl, rfl⟩
theorem xc154_11 : pmCode 154 11 = some (.iconst 0) ∧ 11 + 1 = 12 := ⟨rfl, rfl⟩
theorem xc154_12 : pmCode 154 12 = some (.putfield 193) ∧ 12 + 3 = 15 := ⟨rfl, rfl⟩
theorem xc154_15 : pmCode 154 15 = some (.aload_n 0) ∧ 15 + 1 = 16 := ⟨rfl, rfl⟩
theorem xc154_16 : pmCode 154 16 = some (.iconst 0) ∧ 16 + 1 = 17 := ⟨rfl, rfl⟩
theorem xc154_17 : pmCode 154 17 = some (.putfield 196) ∧ 17 + 3 = 20 := ⟨rfl, rfl⟩
theorem xc154_20 : pmCode 154 20 = some (.aload_n 0) ∧ 20 + 1 = 21 := ⟨rfl, rfl⟩
theorem xc154_21 : pmCode 154 21 = some (.iconst 0) ∧ 21 + 1 = 22 := ⟨rfl, rfl⟩
theorem xc154_22 : pmCode 154 22 = some (.putfield 190) ∧ 22 + 3 = 25 := ⟨rfl, rfl⟩
theorem xc154_25 : pmCode 154 25 = some .return_ := rfl
theorem xc156_0 : pmCode 156 0 = some (.aload_n 0) ∧ 0 + 1 = 1 := ⟨rfl, rfl⟩
theorem xc156_1 : pmCode 156 1 = some (.getfield 170) ∧ 1 + 3 = 4 := ⟨rfl, rfl⟩
theorem xc156_4 : pmCode 156 4 = some (.aload_n 0) ∧ 4 + 1 = 5 := ⟨rfl, rfl⟩
theorem xc156_5 : pmCode 156 5 = some (.getfield 173) ∧ 5 + 3 = 8 := ⟨rfl, rfl⟩
theorem xc156_8 : pmCode 156 8 = some (.if_icmp .ge 19) ∧ ((8 : Nat) : Int) + 19 = ((27 : Nat) : Int) ∧ 8 + 3 = 11 := ⟨rfl, rfl, rfl⟩
theorem xc156_11 : pmCode 156 11 = some (.aload_n 0) ∧ 11 + 1 = 12 := ⟨rfl, rfl⟩
theorem xc156_12 : pmCode 156 12 = some (.getfield 26) ∧ 12 + 3 = 15 := ⟨rfl, rfl⟩
theorem xc156_15 : pmCode 156 15 = some (.aload_n 0) ∧ 15 + 1 = 16 := ⟨rfl, rfl⟩
theorem xc156_16 : pmCode 156 16 = some (.getfield 170) ∧ 16 + 3 = 19 := ⟨rfl, rfl⟩
theorem xc156_19 : pmCode 156 19 = some .baload ∧ 19 + 1 = 20 := ⟨rfl, rfl⟩
theorem xc156_20 : pmCode 156 20 = some (.sipush 255) ∧ 20 + 3 = 23 := ⟨rfl, rfl⟩
theorem xc156_23 : pmCode 156 23 = some .iand ∧ 23 + 1 = 24 := ⟨rfl, rfl⟩
theorem xc156_24 : pmCode 156 24 = some (.goto 4) ∧ ((24 : Nat) : Int) + 4 = ((28 : Nat) : Int) := ⟨rfl, rfl⟩
theorem xc156_27 : pmCode 156 27 = some (.iconst (-1)) ∧ 27 + 1 = 28 := ⟨rfl, rfl⟩
theorem xc156_28 : pmCode 156 28 = some .ireturn := rfl
theorem xc158_0 : pmCode 158 0 = some (.aload_n 0) ∧ 0 + 1 = 1 := ⟨rfl, rfl⟩
theorem xc158_1 : pmCode 158 1 = some (.sipush (-1000)) ∧ 1 + 3 = 4 := ⟨rfl, rfl⟩
theorem xc158_4 : pmCode 158 4 = some (.iload_n 1) ∧ 4 + 1 = 5 := ⟨rfl, rfl⟩
theorem xc158_5 : pmCode 158 5 = some .imul ∧ 5 + 1 = 6 := ⟨rfl, rfl⟩
theorem xc158_6 : pmCode 158 6 = some (.iload_n 2) ∧ 6 + 1 = 7 := ⟨rfl, rfl⟩
theorem xc158_7 : pmCode 158 7 = some .isub ∧ 7 + 1 = 8 := ⟨rfl, rfl⟩
theorem xc158_8 : pmCode 158 8 = some (.putfield 176) ∧ 8 + 3 = 11 := ⟨rfl, rfl⟩
theorem xc158_11 : pmCode 158 11 = some (.iconst 0) ∧ 11 + 1 = 12 := ⟨rfl, rfl⟩
theorem xc158_12 : pmCode 158 12 = some .ireturn := rfl
theorem xc160_0 : pmCode 160 0 = some (.aload_n 0) ∧ 0 + 1 = 1 := ⟨rfl, rfl⟩
theorem xc160_1 : pmCode 160 1 = some (.invokevirtual 179) ∧ 1 + 3 = 4 := ⟨rfl, rfl⟩
theorem xc160_4 : pmCode 160 4 = some (.bipush 48) ∧ 4 + 2 = 6 := ⟨rfl, rfl⟩
theorem xc160_6 : pmCode 160 6 = some (.if_icmp .lt 12) ∧ ((6 : Nat) : Int) + 12 = ((18 : Nat) : Int) ∧ 6 + 3 = 9 := ⟨rfl, rfl, rfl⟩
theorem xc160_9 : pmCode 160 9 = some (.aload_n 0) ∧ 9 + 1 = 10 := ⟨rfl, rfl⟩
theorem xc160_10 : pmCode 160 10 = some (.invokevirtual 179) ∧ 10 + 3 = 13 := ⟨rfl, rfl⟩
theorem xc160_13 : pmCode 160 13 = some (.bipush 57) ∧ 13 + 2 = 15 := ⟨rfl, rfl⟩
theorem xc160_15 : pmCode 160 15 = some (.if_icmp .le 13) ∧ ((15 : Nat) : Int) + 13 = ((28 : Nat) : Int) ∧ 15 + 3 = 18 := ⟨rfl, rfl, rfl⟩
theorem xc160_18 : pmCode 160 18 = some (.aload_n 0) ∧ 18 + 1 = 19 := ⟨rfl, rfl⟩
theorem xc160_19 : pmCode 160 19 = some (.iconst 1) ∧ 19 + 1 = 20 := ⟨rfl, rfl⟩
theorem xc160_20 : pmCode 160 20 = some (.aload_n 0) ∧ 20 + 1 = 21 := ⟨rfl, rfl⟩
theorem xc160_21 : pmCode 160 21 = some (.getfield 170) ∧ 21 + 3 = 24 := ⟨rfl, rfl⟩
theorem xc160_24 : pmCode 160 24 = some (.invokevirtual 183) ∧ 24 + 3 = 27 := ⟨rfl, rfl⟩
theorem xc160_27 : pmCode 160 27 = some .ireturn := rfl
theorem xc160_28 : pmCode 160 28 = some (.aload_n 0) ∧ 28 + 1 = 29 := ⟨rfl, rfl⟩
theorem xc160_29 : pmCode 160 29 = some (.aload_n 0) ∧ 29 + 1 = 30 := ⟨rfl, rfl⟩
theorem xc160_30 : pmCode 160 30 = some (.invokevirtual 179) ∧ 30 + 3 = 33 := ⟨rfl, rfl⟩
theorem xc160_33 : pmCode 160 33 = some (.bipush 48) ∧ 33 + 2 = 35 := ⟨rfl, rfl⟩
theorem xc160_35 : pmCode 160 35 = some .isub ∧ 35 + 1 = 36 := ⟨rfl, rfl⟩
theorem xc160_36 : pmCode 160 36 = some (.putfield 187) ∧ 36 + 3 = 39 := ⟨rfl, rfl⟩
theorem xc160_39 : pmCode 160 39 = some (.aload_n 0) ∧ 39 + 1 = 40 := ⟨rfl, rfl⟩
theorem xc160_40 : pmCode 160 40 = some (.getfield 187) ∧ 40 + 3 = 43 := ⟨rfl, rfl⟩
theorem xc160_43 : pmCode 160 43 = some (.iload_n 1) ∧ 43 + 1 = 44 := ⟨rfl, rfl⟩
theorem xc160_44 : pmCode 160 44 = some (.if_icmp .le 13) ∧ ((44 : Nat) : Int) + 13 = ((57 : Nat) : Int) ∧ 44 + 3 = 47 := ⟨rfl, rfl, rfl⟩
theorem xc160_47 : pmCode 160 47 = some (.aload_n 0) ∧ 47 + 1 = 48 := ⟨rfl, rfl⟩
theorem xc160_48 : pmCode 160 48 = some (.iconst 3) ∧ 48 + 1 = 49 := ⟨rfl, rfl⟩
theorem xc160_49 : pmCode 160 49 = some (.aload_n 0) ∧ 49 + 1 = 50 := ⟨rfl, rfl⟩
theorem xc160_50 : pmCode 160 50 = some (.getfield 170) ∧ 50 + 3 = 53 := ⟨rfl, rfl⟩
theorem xc160_53 : pmCode 160 53 = some (.invokevirtual 183) ∧ 53 + 3 = 56 := ⟨rfl, rfl⟩
theorem xc160_56 : pmCode 160 56 = some .ireturn := rfl
theorem xc160_57 : pmCode 160 57 = some (.aload_n 0) ∧ 57 + 1 = 58 := ⟨rfl, rfl⟩
theorem xc160_58 : pmCode 160 58 = some (.aload_n 0) ∧ 58 + 1 = 59 := ⟨rfl, rfl⟩
theorem xc160_59 : pmCode 160 59 = some (.getfield 170) ∧ 59 + 3 = 62 := ⟨rfl, rfl⟩
theorem xc160_62 : pmCode 160 62 = some (.iconst 1) ∧ 62 + 1 = 63 := ⟨rfl, rfl⟩
theorem xc160_63 : pmCode 160 63 = some .iadd ∧ 63 + 1 = 64 := ⟨rfl, rfl⟩
theorem xc160_64 : pmCode 160 64 = some (.putfield 170) ∧ 64 + 3 = 67 := ⟨rfl, rfl⟩
theorem xc160_67 : pmCode 160 67 = some (.iconst 1) ∧ 67 + 1 = 68 := ⟨rfl, rfl⟩
theorem xc160_68 : pmCode 160 68 = some .ireturn := rfl
theorem xc166_0 : pmCode 166 0 = some (.aload_n 0) ∧ 0 + 1 = 1 := ⟨rfl, rfl⟩
theorem xc166_1 : pmCode 166 1 = some (.getfield 131) ∧ 1 + 3 = 4 := ⟨rfl, rfl⟩
theorem xc166_4 : pmCode 166 4 = some (.ifCond .ne 30) ∧ ((4 : Nat) : Int) + 30 = ((34 : Nat) : Int) ∧ 4 + 3 = 7 := ⟨rfl, rfl, rfl⟩
theorem xc166_7 : pmCode 166 7 = some (.iload_n 1) ∧ 7 + 1 = 8 := ⟨rfl, rfl⟩
theorem xc166_8 : pmCode 166 8 = some (.iconst 1) ∧ 8 + 1 = 9 := ⟨rfl, rfl⟩
theorem xc166_9 : pmCode 166 9 = some (.bipush 60) ∧ 9 + 2 = 11 := ⟨rfl, rfl⟩
theorem xc166_11 : pmCode 166 11 = some (.invokestatic 142) ∧ 11 + 3 = 14 := ⟨rfl, rfl⟩
theorem xc166_14 : pmCode 166 14 = some (.ifCond .eq 20) ∧ ((14 : Nat) : Int) + 20 = ((34 : Nat) : Int) ∧ 14 + 3 = 17 := ⟨rfl, rfl, rfl⟩
theorem xc166_17 : pmCode 166 17 = some (.iload_n 1) ∧ 17 + 1 = 18 := ⟨rfl, rfl⟩
theorem xc166_18 : pmCode 166 18 = some (.aload_n 0) ∧ 18 + 1 = 19 := ⟨rfl, rfl⟩
theorem xc166_19 : pmCode 166 19 = some (.getfield 163) ∧ 19 + 3 = 22 := ⟨rfl, rfl⟩
theorem xc166_22 : pmCode 166 22 = some (.if_icmp .gt 12) ∧ ((22 : Nat) : Int) + 12 = ((34 : Nat) : Int) ∧ 22 + 3 = 25 := ⟨rfl, rfl, rfl⟩
theorem xc166_25 : pmCode 166 25 = some (.aload_n 0) ∧ 25 + 1 = 26 := ⟨rfl, rfl⟩
theorem xc166_26 : pmCode 166 26 = some (.getfield 247) ∧ 26 + 3 = 29 := ⟨rfl, rfl⟩
theorem xc166_29 : pmCode 166 29 = some (.bipush 6) ∧ 29 + 2 = 31 := ⟨rfl, rfl⟩
theorem xc166_31 : pmCode 166 31 = some (.if_icmp .ne 5) ∧ ((31 : Nat) : Int) + 5 = ((36 : Nat) : Int) ∧ 31 + 3 = 34 := ⟨rfl, rfl, rfl⟩
theorem xc166_34 : pmCode 166 34 = some (.iconst (-1)) ∧ 34 + 1 = 35 := ⟨rfl, rfl⟩
theorem xc166_35 : pmCode 166 35 = some .ireturn := rfl
theorem xc166_36 : pmCode 166 36 = some (.aload_n 0) ∧ 36 + 1 = 37 := ⟨rfl, rfl⟩
theorem xc166_37 : pmCode 166 37 = some (.iload_n 1) ∧ 37 + 1 = 38 := ⟨rfl, rfl⟩
theorem xc166_38 : pmCode 166 38 = some (.invokevirtual 226) ∧ 38 + 3 = 41 := ⟨rfl, rfl⟩
theorem xc166_41 : pmCode 166 41 = some (.iconst 0) ∧ 41 + 1 = 42 := ⟨rfl, rfl⟩
theorem xc166_42 : pmCode 166 42 = some (.istore_n 2) ∧ 42 + 1 = 43 := ⟨rfl, rfl⟩
theorem xc166_43 : pmCode 166 43 = some (.aload_n 0) ∧ 43 + 1 = 44 := ⟨rfl, rfl⟩
theorem xc166_44 : pmCode 166 44 = some (.iconst 4) ∧ 44 + 1 = 45 := ⟨rfl, rfl⟩
theorem xc166_45 : pmCode 166 45 = some (.aload_n 0) ∧ 45 + 1 = 46 := ⟨rfl, rfl⟩
theorem xc166_46 : pmCode 166 46 = some (.getfield 247) ∧ 46 + 3 = 49 := ⟨rfl, rfl⟩
theorem xc166_49 : pmCode 166 49 = some .imul ∧ 49 + 1 = 50 := ⟨rfl, rfl⟩
theorem xc166_50 : pmCode 166 50 = some (.iconst 0) ∧ 50 + 1 = 51 := ⟨rfl, rfl⟩
theorem xc166_51 : pmCode 166 51 = some (.invokevirtual 250) ∧ 51 + 3 = 54 := ⟨rfl, rfl⟩
theorem xc166_54 : pmCode 166 54 = some (.istore_n 3) ∧ 54 + 1 = 55 := ⟨rfl, rfl⟩
theorem xc166_55 : pmCode 166 55 = some (.iload_n 3) ∧ 55 + 1 = 56 := ⟨rfl, rfl⟩
theorem xc166_56 : pmCode 166 56 = some (.ifCond .eq 64) ∧ ((56 : Nat) : Int) + 64 = ((120 : Nat) : Int) ∧ 56 + 3 = 59 := ⟨rfl, rfl, rfl⟩
theorem xc166_59 : pmCode 166 59 = some (.iload_n 2) ∧ 59 + 1 = 60 := ⟨rfl, rfl⟩
theorem xc166_60 : pmCode 166 60 = some (.iconst 1) ∧ 60 + 1 = 61 := ⟨rfl, rfl⟩
theorem xc166_61 : pmCode 166 61 = some .iadd ∧ 61 + 1 = 62 := ⟨rfl, rfl⟩
theorem xc166_62 : pmCode 166 62 = some (.istore_n 2) ∧ 62 + 1 = 63 := ⟨rfl, rfl⟩
theorem xc166_63 : pmCode 166 63 = some (.aload_n 0) ∧ 63 + 1 = 64 := ⟨rfl, rfl⟩
theorem xc166_64 : pmCode 166 64 = some (.getfield 170) ∧ 64 + 3 = 67 := ⟨rfl, rfl⟩
theorem xc166_67 : pmCode 166 67 = some (.aload_n 0) ∧ 67 + 1 = 68 := ⟨rfl, rfl⟩
theorem xc166_68 : pmCode 166 68 = some (.getfield 173) ∧ 68 + 3 = 71 := ⟨rfl, rfl⟩
theorem xc166_71 : pmCode 166 71 = some (.if_icmp .ne 6) ∧ ((71 : Nat) : Int) + 6 = ((77 : Nat) : Int) ∧ 71 + 3 = 74 := ⟨rfl, rfl, rfl⟩
theorem xc166_74 : pmCode 166 74 = some (.goto 46) ∧ ((74 : Nat) : Int) + 46 = ((120 : Nat) : Int) := ⟨rfl, rfl⟩
theorem xc166_77 : pmCode 166 77 = some (.aload_n 0) ∧ 77 + 1 = 78 := ⟨rfl, rfl⟩
theorem xc166_78 : pmCode 166 78 = some (.bipush 59) ∧ 78 + 2 = 80 := ⟨rfl, rfl⟩
theorem xc166_80 : pmCode 166 80 = some (.invokevirtual 238) ∧ 80 + 3 = 83 := ⟨rfl, rfl⟩
theorem xc166_83 : pmCode 166 83 = some (.ifCond .eq 32) ∧ ((83 : Nat) : Int) + 32 = ((115 : Nat) : Int) ∧ 83 + 3 = 86 := ⟨rfl, rfl, rfl⟩
theorem xc166_86 : pmCode 166 86 = some (.aload_n 0) ∧ 86 + 1 = 87 := ⟨rfl, rfl⟩
theorem xc166_87 : pmCode 166 87 = some (.iconst 4) ∧ 87 + 1 = 88 := ⟨rfl, rfl⟩
theorem xc166_88 : pmCode 166 88 = some (.aload_n 0) ∧ 88 + 1 = 89 := ⟨rfl, rfl⟩
theorem xc166_89 : pmCode 166 89 = some (.getfield 247) ∧ 89 + 3 = 92 := ⟨rfl, rfl⟩
theorem xc166_92 : pmCode 166 92 = some .imul ∧ 92 + 1 = 93 := ⟨rfl, rfl⟩
theorem xc166_93 : pmCode 166 93 = some (.iload_n 2) ∧ 93 + 1 = 94 := ⟨rfl, rfl⟩
theorem xc166_94 : pmCode 166 94 = some (.iconst 4) ∧ 94 + 1 = 95 := ⟨rfl, rfl⟩
theorem xc166_95 : pmCode 166 95 = some (.if_icmp .ge 7) ∧ ((95 : Nat) : Int) + 7 = ((102 : Nat) : Int) ∧ 95 + 3 = 98 := ⟨rfl, rfl, rfl⟩
theorem xc166_98 : pmCode 166 98 = some (.iload_n 2) ∧ 98 + 1 = 99 := ⟨rfl, rfl⟩
theorem xc166_99 : pmCode 166 99 = some (.goto 4) ∧ ((99 : Nat) : Int) + 4 = ((103 : Nat) : Int) := ⟨rfl, rfl⟩
theorem xc166_102 : pmCode 166 102 = some (.iconst 0) ∧ 102 + 1 = 103 := ⟨rfl, rfl⟩
theorem xc166_103 : pmCode 166 103 = some .iadd ∧ 103 + 1 = 104 := ⟨rfl, rfl⟩
theorem xc166_104 : pmCode 166 104 = some (.iload_n 2) ∧ 104 + 1 = 105 := ⟨rfl, rfl⟩
theorem xc166_105 : pmCode 166 105 = some (.invokevirtual 250) ∧ 105 + 3 = 108 := ⟨rfl, rfl⟩
theorem xc166_108 : pmCode 166 108 = some (.ifCond .eq 7) ∧ ((108 : Nat) : Int) + 7 = ((115 : Nat) : Int) ∧ 108 + 3 = 111 := ⟨rfl, rfl, rfl⟩
theorem xc166_111 : pmCode 166 111 = some (.iconst 1) ∧ 111 + 1 = 112 := ⟨rfl, rfl⟩
theorem xc166_112 : pmCode 166 112 = some (.goto 4) ∧ ((112 : Nat) : Int) + 4 = ((116 : Nat) : Int) := ⟨rfl, rfl⟩
theorem xc166_115 : pmCode 166 115 = some (.iconst 0) ∧ 115 + 1 = 116 := ⟨rfl, rfl⟩
theorem xc166_116 : pmCode 166 116 = some (.istore_n 3) ∧ 116 + 1 = 117 := ⟨rfl, rfl⟩
theorem xc166_117 : pmCode 166 117 = some (.goto (-62)) ∧ ((117 : Nat) : Int) + (-62) = ((55 : Nat) : Int) := ⟨rfl, rfl⟩
theorem xc166_120 : pmCode 166 120 = some (.aload_n 0) ∧ 120 + 1 = 121 := ⟨rfl, rfl⟩
theorem xc166_121 : pmCode 166 121 = some (.iconst 0) ∧ 121 + 1 = 122 := ⟨rfl, rfl⟩
theorem xc166_122 : pmCode 166 122 = some (.putfield 163) ∧ 122 + 3 = 125 := ⟨rfl, rfl⟩
theorem xc166_125 : pmCode 166 125 = some (.iload_n 3) ∧ 125 + 1 = 126 := ⟨rfl, rfl⟩
theorem xc166_126 : pmCode 166 126 = some (.ifCond .ne 8) ∧ ((126 : Nat) : Int) + 8 = ((134 : Nat) : Int) ∧ 126 + 3 = 129 := ⟨rfl, rfl, rfl⟩
theorem xc166_129 : pmCode 166 129 = some (.aload_n 0) ∧ 129 + 1 = 130 := ⟨rfl, rfl⟩
theorem xc166_130 : pmCode 166 130 = some (.getfield 176) ∧ 130 + 3 = 133 := ⟨rfl, rfl⟩
theorem xc166_133 : pmCode 166 133 = some .ireturn := rfl
theorem xc166_134 : pmCode 166 134 = some (.aload_n 0) ∧ 134 + 1 = 135 := ⟨rfl, rfl⟩
theorem xc166_135 : pmCode 166 135 = some (.getfield 48) ∧ 135 + 3 = 138 := ⟨rfl, rfl⟩
theorem xc166_138 : pmCode 166 138 = some (.aload_n 0) ∧ 138 + 1 = 139 := ⟨rfl, rfl⟩
theorem xc166_139 : pmCode 166 139 = some (.getfield 247) ∧ 139 + 3 = 142 := ⟨rfl, rfl⟩
theorem xc166_142 : pmCode 166 142 = some (.iload_n 2) ∧ 142 + 1 = 143 := ⟨rfl, rfl⟩
theorem xc166_143 : pmCode 166 143 = some .iastore ∧ 143 + 1 = 144 := ⟨rfl, rfl⟩
theorem xc166_144 : pmCode 166 144 = some (.aload_n 0) ∧ 144 + 1 = 145 := ⟨rfl, rfl⟩
theorem xc166_145 : pmCode 166 145 = some (.aload_n 0) ∧ 145 + 1 = 146 := ⟨rfl, rfl⟩
theorem xc166_146 : pmCode 166 146 = some (.getfield 247) ∧ 146 + 3 = 149 := ⟨rfl, rfl⟩
theorem xc166_149 : pmCode 166 149 = some (.iconst 1) ∧ 149 + 1 = 150 := ⟨rfl, rfl⟩
theorem xc166_150 : pmCode 166 150 = some .iadd ∧ 150 + 1 = 151 := ⟨rfl, rfl⟩
theorem xc166_151 : pmCode 166 151 = some (.putfield 247) ∧ 151 + 3 = 154 := ⟨rfl, rfl⟩
theorem xc166_154 : pmCode 166 154 = some (.aload_n 0) ∧ 154 + 1 = 155 := ⟨rfl, rfl⟩
theorem xc166_155 : pmCode 166 155 = some (.getfield 247) ∧ 155 + 3 = 158 := ⟨rfl, rfl⟩
theorem xc166_158 : pmCode 166 158 = some (.iconst 1) ∧ 158 + 1 = 159 := ⟨rfl, rfl⟩
theorem xc166_159 : pmCode 166 159 = some .isub ∧ 159 + 1 = 160 := ⟨rfl, rfl⟩
theorem xc166_160 : pmCode 166 160 = some .ireturn := rfl
theorem xc167_0 : pmCode 167 0 = some (.aload_n 0) ∧ 0 + 1 = 1 := ⟨rfl, rfl⟩
theorem xc167_1 : pmCode 167 1 = some (.invokevirtual 179) ∧ 1 + 3 = 4 := ⟨rfl, rfl⟩
theorem xc167_4 : pmCode 167 4 = some (.istore_n 3) ∧ 4 + 1 = 5 := ⟨rfl, rfl⟩
theorem xc167_5 : pmCode 167 5 = some (.iload_n 3) ∧ 5 + 1 = 6 := ⟨rfl, rfl⟩
theorem xc167_6 : pmCode 167 6 = some (.bipush 110) ∧ 6 + 2 = 8 := ⟨rfl, rfl⟩
theorem xc167_8 : pmCode 167 8 = some (.if_icmp .eq 31) ∧ ((8 : Nat) : Int) + 31 = ((39 : Nat) : Int) ∧ 8 + 3 = 11 := ⟨rfl, rfl, rfl⟩
theorem xc167_11 : pmCode 167 11 = some (.iload_n 3) ∧ 11 + 1 = 12 := ⟨rfl, rfl⟩
theorem xc167_12 : pmCode 167 12 = some (.bipush 97) ∧ 12 + 2 = 14 := ⟨rfl, rfl⟩
theorem xc167_14 : pmCode 167 14 = some (.if_icmp .eq 25) ∧ ((14 : Nat) : Int) + 25 = ((39 : Nat) : Int) ∧ 14 + 3 = 17 := ⟨rfl, rfl, rfl⟩
theorem xc167_17 : pmCode 167 17 = some (.iload_n 3) ∧ 17 + 1 = 18 := ⟨rfl, rfl⟩
theorem xc167_18 : pmCode 167 18 = some (.bipush 114) ∧ 18 + 2 = 20 := ⟨rfl, rfl⟩
theorem xc167_20 : pmCode 167 20 = some (.if_icmp .eq 19) ∧ ((20 : Nat) : Int) + 19 = ((39 : Nat) : Int) ∧ 20 + 3 = 23 := ⟨rfl, rfl, rfl⟩
theorem xc167_23 : pmCode 167 23 = some (.iload_n 3) ∧ 23 + 1 = 24 := ⟨rfl, rfl⟩
theorem xc167_24 : pmCode 167 24 = some (.bipush 101) ∧ 24 + 2 = 26 := ⟨rfl, rfl⟩
theorem xc167_26 : pmCode 167 26 = some (.if_icmp .eq 13) ∧ ((26 : Nat) : Int) + 13 = ((39 : Nat) : Int) ∧ 26 + 3 = 29 := ⟨rfl, rfl, rfl⟩
theorem xc167_29 : pmCode 167 29 = some (.aload_n 0) ∧ 29 + 1 = 30 := ⟨rfl, rfl⟩
theorem xc167_30 : pmCode 167 30 = some (.iconst 1) ∧ 30 + 1 = 31 := ⟨rfl, rfl⟩
theorem xc167_31 : pmCode 167 31 = some (.aload_n 0) ∧ 31 + 1 = 32 := ⟨rfl, rfl⟩
theorem xc167_32 : pmCode 167 32 = some (.getfield 170) ∧ 32 + 3 = 35 := ⟨rfl, rfl⟩
theorem xc167_35 : pmCode 167 35 = some (.invokevirtual 183) ∧ 35 + 3 = 38 := ⟨rfl, rfl⟩
theorem xc167_38 : pmCode 167 38 = some .ireturn := rfl
theorem xc167_39 : pmCode 167 39 = some (.iload_n 2) ∧ 39 + 1 = 40 := ⟨rfl, rfl⟩
theorem xc167_40 : pmCode 167 40 = some (.iconst 4) ∧ 40 + 1 = 41 := ⟨rfl, rfl⟩
theorem xc167_41 : pmCode 167 41 = some (.if_icmp .ne 13) ∧ ((41 : Nat) : Int) + 13 = ((54 : Nat) : Int) ∧ 41 + 3 = 44 := ⟨rfl, rfl, rfl⟩
theorem xc167_44 : pmCode 167 44 = some (.aload_n 0) ∧ 44 + 1 = 45 := ⟨rfl, rfl⟩
theorem xc167_45 : pmCode 167 45 = some (.iconst 4) ∧ 45 + 1 = 46 := ⟨rfl, rfl⟩
theorem xc167_46 : pmCode 167 46 = some (.aload_n 0) ∧ 46 + 1 = 47 := ⟨rfl, rfl⟩
theorem xc167_47 : pmCode 167 47 = some (.getfield 170) ∧ 47 + 3 = 50 := ⟨rfl, rfl⟩
theorem xc167_50 : pmCode 167 50 = some (.invokevirtual 183) ∧ 50 + 3 = 53 := ⟨rfl, rfl⟩
theorem xc167_53 : pmCode 167 53 = some .ireturn := rfl
theorem xc167_54 : pmCode 167 54 = some (.aload_n 0) ∧ 54 + 1 = 55 := ⟨rfl, rfl⟩
theorem xc167_55 : pmCode 167 55 = some (.aload_n 0) ∧ 55 + 1 = 56 := ⟨rfl, rfl⟩
theorem xc167_56 : pmCode 167 56 = some (.getfield 170) ∧ 56 + 3 = 59 := ⟨rfl, rfl⟩
theorem xc167_59 : pmCode 167 59 = some (.iconst 1) ∧ 59 + 1 = 60 := ⟨rfl, rfl⟩
theorem xc167_60 : pmCode 167 60 = some .iadd ∧ 60 + 1 = 61 := ⟨rfl, rfl⟩
theorem xc167_61 : pmCode 167 61 = some (.putfield 170) ∧ 61 + 3 = 64 := ⟨rfl, rfl⟩
theorem xc167_64 : pmCode 167 64 = some (.aload_n 0) ∧ 64 + 1 = 65 := ⟨rfl, rfl⟩
theorem xc167_65 : pmCode 167 65 = some (.getfield 51) ∧ 65 + 3 = 68 := ⟨rfl, rfl⟩
theorem xc167_68 : pmCode 167 68 = some (.iload_n 1) ∧ 68 + 1 = 69 := ⟨rfl, rfl⟩
theorem xc167_69 : pmCode 167 69 = some (.iload_n 3) ∧ 69 + 1 = 70 := ⟨rfl, rfl⟩
theorem xc167_70 : pmCode 167 70 = some .iastore ∧ 70 + 1 = 71 := ⟨rfl, rfl⟩
theorem xc167_71 : pmCode 167 71 = some (.aload_n 0) ∧ 71 + 1 = 72 := ⟨rfl, rfl⟩
theorem xc167_72 : pmCode 167 72 = some (.iconst 2) ∧ 72 + 1 = 73 := ⟨rfl, rfl⟩
theorem xc167_73 : pmCode 167 73 = some (.iload_n 1) ∧ 73 + 1 = 74 := ⟨rfl, rfl⟩
theorem xc167_74 : pmCode 167 74 = some .imul ∧ 74 + 1 = 75 := ⟨rfl, rfl⟩
theorem xc167_75 : pmCode 167 75 = some (.invokevirtual 241) ∧ 75 + 3 = 78 := ⟨rfl, rfl⟩
theorem xc167_78 : pmCode 167 78 = some (.ifCond .ne 5) ∧ ((78 : Nat) : Int) + 5 = ((83 : Nat) : Int) ∧ 78 + 3 = 81 := ⟨rfl, rfl, rfl⟩
theorem xc167_81 : pmCode 167 81 = some (.iconst 0) ∧ 81 + 1 = 82 := ⟨rfl, rfl⟩
theorem xc167_82 : pmCode 167 82 = some .ireturn := rfl
theorem xc167_83 : pmCode 167 83 = some (.iload_n 3) ∧ 83 + 1 = 84 := ⟨rfl, rfl⟩
theorem xc167_84 : pmCode 167 84 = some (.bipush 97) ∧ 84 + 2 = 86 := ⟨rfl, rfl⟩
theorem xc167_86 : pmCode 167 86 = some (.if_icmp .eq 9) ∧ ((86 : Nat) : Int) + 9 = ((95 : Nat) : Int) ∧ 86 + 3 = 89 := ⟨rfl, rfl, rfl⟩
theorem xc167_89 : pmCode 167 89 = some (.iload_n 3) ∧ 89 + 1 = 90 := ⟨rfl, rfl⟩
theorem xc167_90 : pmCode 167 90 = some (.bipush 114) ∧ 90 + 2 = 92 := ⟨rfl, rfl⟩
theorem xc167_92 : pmCode 167 92 = some (.if_icmp .ne 26) ∧ ((92 : Nat) : Int) + 26 = ((118 : Nat) : Int) ∧ 92 + 3 = 95 := ⟨rfl, rfl, rfl⟩
theorem xc167_95 : pmCode 167 95 = some (.aload_n 0) ∧ 95 + 1 = 96 := ⟨rfl, rfl⟩
theorem xc167_96 : pmCode 167 96 = some (.bipush 44) ∧ 96 + 2 = 98 := ⟨rfl, rfl⟩
theorem xc167_98 : pmCode 167 98 = some (.invokevirtual 238) ∧ 98 + 3 = 101 := ⟨rfl, rfl⟩
theorem xc167_101 : pmCode 167 101 = some (.ifCond .eq 15) ∧ ((101 : Nat) : Int) + 15 = ((116 : Nat) : Int) ∧ 101 + 3 = 104 := ⟨rfl, rfl, rfl⟩
theorem xc167_104 : pmCode 167 104 = some (.aload_n 0) ∧ 104 + 1 = 105 := ⟨rfl, rfl⟩
theorem xc167_105 : pmCode 167 105 = some (.iconst 2) ∧ 105 + 1 = 106 := ⟨rfl, rfl⟩
theorem xc167_106 : pmCode 167 106 = some (.iload_n 1) ∧ 106 + 1 = 107 := ⟨rfl, rfl⟩
theorem xc167_107 : pmCode 167 107 = some .imul ∧ 107 + 1 = 108 := ⟨rfl, rfl⟩
theorem xc167_108 : pmCode 167 108 = some (.iconst 1) ∧ 108 + 1 = 109 := ⟨rfl, rfl⟩
theorem xc167_109 : pmCode 167 109 = some .iadd ∧ 109 + 1 = 110 := ⟨rfl, rfl⟩
theorem xc167_110 : pmCode 167 110 = some (.invokevirtual 241) ∧ 110 + 3 = 113 := ⟨rfl, rfl⟩
theorem xc167_113 : pmCode 167 113 = some (.ifCond .ne 5) ∧ ((113 : Nat) : Int) + 5 = ((118 : Nat) : Int) ∧ 113 + 3 = 116 := ⟨rfl, rfl, rfl⟩
theorem xc167_116 : pmCode 167 116 = some (.iconst 0) ∧ 116 + 1 = 117 := ⟨rfl, rfl⟩
theorem xc167_117 : pmCode 167 117 = some .ireturn := rfl
theorem xc167_118 : pmCode 167 118 = some (.iload_n 3) ∧ 118 + 1 = 119 := ⟨rfl, rfl⟩
theorem xc167_119 : pmCode 167 119 = some (.bipush 114) ∧ 119 + 2 = 121 := ⟨rfl, rfl⟩
theorem xc167_121 : pmCode 167 121 = some (.if_icmp .eq 9) ∧ ((121 : Nat) : Int) + 9 = ((130 : Nat) : Int) ∧ 121 + 3 = 124 := ⟨rfl, rfl, rfl⟩
theorem xc167_124 : pmCode 167 124 = some (.iload_n 3) ∧ 124 + 1 = 125 := ⟨rfl, rfl⟩
theorem xc167_125 : pmCode 167 125 = some (.bipush 101) ∧ 125 + 2 = 127 := ⟨rfl, rfl⟩
theorem xc167_127 : pmCode 167 127 = some (.if_icmp .ne 11) ∧ ((127 : Nat) : Int) + 11 = ((138 : Nat) : Int) ∧ 127 + 3 = 130 := ⟨rfl, rfl, rfl⟩
theorem xc167_130 : pmCode 167 130 = some (.aload_n 0) ∧ 130 + 1 = 131 := ⟨rfl, rfl⟩
theorem xc167_131 : pmCode 167 131 = some (.iload_n 1) ∧ 131 + 1 = 132 := ⟨rfl, rfl⟩
theorem xc167_132 : pmCode 167 132 = some (.invokevirtual 244) ∧ 132 + 3 = 135 := ⟨rfl, rfl⟩
theorem xc167_135 : pmCode 167 135 = some (.ifCond .eq 7) ∧ ((135 : Nat) : Int) + 7 = ((142 : Nat) : Int) ∧ 135 + 3 = 138 := ⟨rfl, rfl, rfl⟩
theorem xc167_138 : pmCode 167 138 = some (.iconst 1) ∧ 138 + 1 = 139 := ⟨rfl, rfl⟩
theorem xc167_139 : pmCode 167 139 = some (.goto 4) ∧ ((139 : Nat) : Int) + 4 = ((143 : Nat) : Int) := ⟨rfl, rfl⟩
theorem xc167_142 : pmCode 167 142 = some (.iconst 0) ∧ 142 + 1 = 143 := ⟨rfl, rfl⟩
theorem xc167_143 : pmCode 167 143 = some .ireturn := rfl
theorem xc168_0 : pmCode 168 0 = some (.aload_n 0) ∧ 0 + 1 = 1 := ⟨rfl, rfl⟩
theorem xc168_1 : pmCode 168 1 = some (.invokevirtual 179) ∧ 1 + 3 = 4 := ⟨rfl, rfl⟩
theorem xc168_4 : pmCode 168 4 = some (.invokestatic 232) ∧ 4 + 3 = 7 := ⟨rfl, rfl⟩
theorem xc168_7 : pmCode 168 7 = some (.iconst (-1)) ∧ 7 + 1 = 8 := ⟨rfl, rfl⟩
theorem xc168_8 : pmCode 168 8 = some (.if_icmp .ne 13) ∧ ((8 : Nat) : Int) + 13 = ((21 : Nat) : Int) ∧ 8 + 3 = 11 := ⟨rfl, rfl, rfl⟩
theorem xc168_11 : pmCode 168 11 = some (.aload_n 0) ∧ 11 + 1 = 12 := ⟨rfl, rfl⟩
theorem xc168_12 : pmCode 168 12 = some (.iconst 1) ∧ 12 + 1 = 13 := ⟨rfl, rfl⟩
theorem xc168_13 : pmCode 168 13 = some (.aload_n 0) ∧ 13 + 1 = 14 := ⟨rfl, rfl⟩
theorem xc168_14 : pmCode 168 14 = some (.getfield 170) ∧ 14 + 3 = 17 := ⟨rfl, rfl⟩
theorem xc168_17 : pmCode 168 17 = some (.invokevirtual 183) ∧ 17 + 3 = 20 := ⟨rfl, rfl⟩
theorem xc168_20 : pmCode 168 20 = some .ireturn := rfl
theorem xc168_21 : pmCode 168 21 = some (.aload_n 0) ∧ 21 + 1 = 22 := ⟨rfl, rfl⟩
theorem xc168_22 : pmCode 168 22 = some (.getfield 54) ∧ 22 + 3 = 25 := ⟨rfl, rfl⟩
theorem xc168_25 : pmCode 168 25 = some (.iload_n 1) ∧ 25 + 1 = 26 := ⟨rfl, rfl⟩
theorem xc168_26 : pmCode 168 26 = some (.aload_n 0) ∧ 26 + 1 = 27 := ⟨rfl, rfl⟩
theorem xc168_27 : pmCode 168 27 = some (.invokevirtual 179) ∧ 27 + 3 = 30 := ⟨rfl, rfl⟩
theorem xc168_30 : pmCode 168 30 = some (.invokestatic 232) ∧ 30 + 3 = 33 := ⟨rfl, rfl⟩
theorem xc168_33 : pmCode 168 33 = some .iastore ∧ 33 + 1 = 34 := ⟨rfl, rfl⟩
theorem xc168_34 : pmCode 168 34 = some (.aload_n 0) ∧ 34 + 1 = 35 := ⟨rfl, rfl⟩
theorem xc168_35 : pmCode 168 35 = some (.aload_n 0) ∧ 35 + 1 = 36 := ⟨rfl, rfl⟩
theorem xc168_36 : pmCode 168 36 = some (.getfield 170) ∧ 36 + 3 = 39 := ⟨rfl, rfl⟩
theorem xc168_39 : pmCode 168 39 = some (.iconst 1) ∧ 39 + 1 = 40 := ⟨rfl, rfl⟩
theorem xc168_40 : pmCode 168 40 = some .iadd ∧ 40 + 1 = 41 := ⟨rfl, rfl⟩
theorem xc168_41 : pmCode 168 41 = some (.putfield 170) ∧ 41 + 3 = 44 := ⟨rfl, rfl⟩
theorem xc168_44 : pmCode 168 44 = some (.aload_n 0) ∧ 44 + 1 = 45 := ⟨rfl, rfl⟩
theorem xc168_45 : pmCode 168 45 = some (.invokevirtual 235) ∧ 45 + 3 = 48 := ⟨rfl, rfl⟩
theorem xc168_48 : pmCode 168 48 = some (.ifCond .ne 5) ∧ ((48 : Nat) : Int) + 5 = ((53 : Nat) : Int) ∧ 48 + 3 = 51 := ⟨rfl, rfl, rfl⟩
theorem xc168_51 : pmCode 168 51 = some (.iconst 0) ∧ 51 + 1 = 52 := ⟨rfl, rfl⟩
theorem xc168_52 : pmCode 168 52 = some .ireturn := rfl
theorem xc168_53 : pmCode 168 53 = some (.aload_n 0) ∧ 53 + 1 = 54 := ⟨rfl, rfl⟩
theorem xc168_54 : pmCode 168 54 = some (.getfield 57) ∧ 54 + 3 = 57 := ⟨rfl, rfl⟩
theorem xc168_57 : pmCode 168 57 = some (.iload_n 1) ∧ 57 + 1 = 58 := ⟨rfl, rfl⟩
theorem xc168_58 : pmCode 168 58 = some (.aload_n 0) ∧ 58 + 1 = 59 := ⟨rfl, rfl⟩
theorem xc168_59 : pmCode 168 59 = some (.getfield 187) ∧ 59 + 3 = 62 := ⟨rfl, rfl⟩
theorem xc168_62 : pmCode 168 62 = some .iastore ∧ 62 + 1 = 63 := ⟨rfl, rfl⟩
theorem xc168_63 : pmCode 168 63 = some (.aload_n 0) ∧ 63 + 1 = 64 := ⟨rfl, rfl⟩
theorem xc168_64 : pmCode 168 64 = some (.invokevirtual 235) ∧ 64 + 3 = 67 := ⟨rfl, rfl⟩
theorem xc168_67 : pmCode 168 67 = some (.ifCond .ne 5) ∧ ((67 : Nat) : Int) + 5 = ((72 : Nat) : Int) ∧ 67 + 3 = 70 := ⟨rfl, rfl, rfl⟩
theorem xc168_70 : pmCode 168 70 = some (.iconst 0) ∧ 70 + 1 = 71 := ⟨rfl, rfl⟩
theorem xc168_71 : pmCode 168 71 = some .ireturn := rfl
theorem xc168_72 : pmCode 168 72 = some (.aload_n 0) ∧ 72 + 1 = 73 := ⟨rfl, rfl⟩
theorem xc168_73 : pmCode 168 73 = some (.getfield 60) ∧ 73 + 3 = 76 := ⟨rfl, rfl⟩
theorem xc168_76 : pmCode 168 76 = some (.iload_n 1) ∧ 76 + 1 = 77 := ⟨rfl, rfl⟩
theorem xc168_77 : pmCode 168 77 = some (.aload_n 0) ∧ 77 + 1 = 78 := ⟨rfl, rfl⟩
theorem xc168_78 : pmCode 168 78 = some (.getfield 187) ∧ 78 + 3 = 81 := ⟨rfl, rfl⟩
theorem xc168_81 : pmCode 168 81 = some .iastore ∧ 81 + 1 = 82 := ⟨rfl, rfl⟩
theorem xc168_82 : pmCode 168 82 = some (.aload_n 0) ∧ 82 + 1 = 83 := ⟨rfl, rfl⟩
theorem xc168_83 : pmCode 168 83 = some (.invokevirtual 235) ∧ 83 + 3 = 86 := ⟨rfl, rfl⟩
theorem xc168_86 : pmCode 168 86 = some (.ifCond .ne 5) ∧ ((86 : Nat) : Int) + 5 = ((91 : Nat) : Int) ∧ 86 + 3 = 89 := ⟨rfl, rfl, rfl⟩
theorem xc168_89 : pmCode 168 89 = some (.iconst 0) ∧ 89 + 1 = 90 := ⟨rfl, rfl⟩
theorem xc168_90 : pmCode 168 90 = some .ireturn := rfl
theorem xc168_91 : pmCode 168 91 = some (.aload_n 0) ∧ 91 + 1 = 92 := ⟨rfl, rfl⟩
theorem xc168_92 : pmCode 168 92 = some (.getfield 63) ∧ 92 + 3 = 95 := ⟨rfl, rfl⟩
theorem xc168_95 : pmCode 168 95 = some (.iload_n 1) ∧ 95 + 1 = 96 := ⟨rfl, rfl⟩
theorem xc168_96 : pmCode 168 96 = some (.aload_n 0) ∧ 96 + 1 = 97 := ⟨rfl, rfl⟩
theorem xc168_97 : pmCode 168 97 = some (.getfield 187) ∧ 97 + 3 = 100 := ⟨rfl, rfl⟩
theorem xc168_100 : pmCode 168 100 = some .iastore ∧ 100 + 1 = 101 := ⟨rfl, rfl⟩
theorem xc168_101 : pmCode 168 101 = some (.aload_n 0) ∧ 101 + 1 = 102 := ⟨rfl, rfl⟩
theorem xc168_102 : pmCode 168 102 = some (.getfield 69) ∧ 102 + 3 = 105 := ⟨rfl, rfl⟩
theorem xc168_105 : pmCode 168 105 = some (.iload_n 1) ∧ 105 + 1 = 106 := ⟨rfl, rfl⟩
theorem xc168_106 : pmCode 168 106 = some (.aload_n 0) ∧ 106 + 1 = 107 := ⟨rfl, rfl⟩
theorem xc168_107 : pmCode 168 107 = some (.invokevirtual 179) ∧ 107 + 3 = 110 := ⟨rfl, rfl⟩
theorem xc168_110 : pmCode 168 110 = some (.bipush 117) ∧ 110 + 2 = 112 := ⟨rfl, rfl⟩
theorem xc168_112 : pmCode 168 112 = some (.if_icmp .ne 7) ∧ ((112 : Nat) : Int) + 7 = ((119 : Nat) : Int) ∧ 112 + 3 = 115 := ⟨rfl, rfl, rfl⟩
theorem xc168_115 : pmCode 168 115 = some (.iconst 1) ∧ 115 + 1 = 116 := ⟨rfl, rfl⟩
theorem xc168_116 : pmCode 168 116 = some (.goto 4) ∧ ((116 : Nat) : Int) + 4 = ((120 : Nat) : Int) := ⟨rfl, rfl⟩
theorem xc168_119 : pmCode 168 119 = some (.iconst 0) ∧ 119 + 1 = 120 := ⟨rfl, rfl⟩
theorem xc168_120 : pmCode 168 120 = some .bastore ∧ 120 + 1 = 121 := ⟨rfl, rfl⟩
theorem xc168_121 : pmCode 168 121 = some (.aload_n 0) ∧ 121 + 1 = 122 := ⟨rfl, rfl⟩
theorem xc168_122 : pmCode 168 122 = some (.getfield 69) ∧ 122 + 3 = 125 := ⟨rfl, rfl⟩
theorem xc168_125 : pmCode 168 125 = some (.iload_n 1) ∧ 125 + 1 = 126 := ⟨rfl, rfl⟩
theorem xc168_126 : pmCode 168 126 = some .baload ∧ 126 + 1 = 127 := ⟨rfl, rfl⟩
theorem xc168_127 : pmCode 168 127 = some (.ifCond .eq 13) ∧ ((127 : Nat) : Int) + 13 = ((140 : Nat) : Int) ∧ 127 + 3 = 130 := ⟨rfl, rfl, rfl⟩
theorem xc168_130 : pmCode 168 130 = some (.aload_n 0) ∧ 130 + 1 = 131 := ⟨rfl, rfl⟩
theorem xc168_131 : pmCode 168 131 = some (.aload_n 0) ∧ 131 + 1 = 132 := ⟨rfl, rfl⟩
theorem xc168_132 : pmCode 168 132 = some (.getfield 170) ∧ 132 + 3 = 135 := ⟨rfl, rfl⟩
theorem xc168_135 : pmCode 168 135 = some (.iconst 1) ∧ 135 + 1 = 136 := ⟨rfl, rfl⟩
theorem xc168_136 : pmCode 168 136 = some .iadd ∧ 136 + 1 = 137 := ⟨rfl, rfl⟩
theorem xc168_137 : pmCode 168 137 = some (.putfield 170) ∧ 137 + 3 = 140 := ⟨rfl, rfl⟩
theorem xc168_140 : pmCode 168 140 = some (.iconst 1) ∧ 140 + 1 = 141 := ⟨rfl, rfl⟩
theorem xc168_141 : pmCode 168 141 = some .ireturn := rfl
theorem xc169_0 : pmCode 169 0 = some (.iload_n 0) ∧ 0 + 1 = 1 := ⟨rfl, rfl⟩
theorem xc169_1 : pmCode 169 1 = some (.bipush 103) ∧ 1 + 2 = 3 := ⟨rfl, rfl⟩
theorem xc169_3 : pmCode 169 3 = some (.if_icmp .ne 7) ∧ ((3 : Nat) : Int) + 7 = ((10 : Nat) : Int) ∧ 3 + 3 = 6 := ⟨rfl, rfl, rfl⟩
theorem xc169_6 : pmCode 169 6 = some (.iconst 1) ∧ 6 + 1 = 7 := ⟨rfl, rfl⟩
theorem xc169_7 : pmCode 169 7 = some (.goto 55) ∧ ((7 : Nat) : Int) + 55 = ((62 : Nat) : Int) := ⟨rfl, rfl⟩
theorem xc169_10 : pmCode 169 10 = some (.iload_n 0) ∧ 10 + 1 = 11 := ⟨rfl, rfl⟩
theorem xc169_11 : pmCode 169 11 = some (.bipush 116) ∧ 11 + 2 = 13 := ⟨rfl, rfl⟩
theorem xc169_13 : pmCode 169 13 = some (.if_icmp .ne 7) ∧ ((13 : Nat) : Int) + 7 = ((20 : Nat) : Int) ∧ 13 + 3 = 16 := ⟨rfl, rfl, rfl⟩
theorem xc169_16 : pmCode 169 16 = some (.iconst 2) ∧ 16 + 1 = 17 := ⟨rfl, rfl⟩
theorem xc169_17 : pmCode 169 17 = some (.goto 45) ∧ ((17 : Nat) : Int) + 45 = ((62 : Nat) : Int) := ⟨rfl, rfl⟩
theorem xc169_20 : pmCode 169 20 = some (.iload_n 0) ∧ 20 + 1 = 21 := ⟨rfl, rfl⟩
theorem xc169_21 : pmCode 169 21 = some (.bipush 100) ∧ 21 + 2 = 23 := ⟨rfl, rfl⟩
theorem xc169_23 : pmCode 169 23 = some (.if_icmp .ne 7) ∧ ((23 : Nat) : Int) + 7 = ((30 : Nat) : Int) ∧ 23 + 3 = 26 := ⟨rfl, rfl, rfl⟩
theorem xc169_26 : pmCode 169 26 = some (.iconst 3) ∧ 26 + 1 = 27 := ⟨rfl, rfl⟩
theorem xc169_27 : pmCode 169 27 = some (.goto 35) ∧ ((27 : Nat) : Int) + 35 = ((62 : Nat) : Int) := ⟨rfl, rfl⟩
theorem xc169_30 : pmCode 169 30 = some (.iload_n 0) ∧ 30 + 1 = 31 := ⟨rfl, rfl⟩
theorem xc169_31 : pmCode 169 31 = some (.bipush 118) ∧ 31 + 2 = 33 := ⟨rfl, rfl⟩
theorem xc169_33 : pmCode 169 33 = some (.if_icmp .ne 7) ∧ ((33 : Nat) : Int) + 7 = ((40 : Nat) : Int) ∧ 33 + 3 = 36 := ⟨rfl, rfl, rfl⟩
theorem xc169_36 : pmCode 169 36 = some (.iconst 4) ∧ 36 + 1 = 37 := ⟨rfl, rfl⟩
theorem xc169_37 : pmCode 169 37 = some (.goto 25) ∧ ((37 : Nat) : Int) + 25 = ((62 : Nat) : Int) := ⟨rfl, rfl⟩
theorem xc169_40 : pmCode 169 40 = some (.iload_n 0) ∧ 40 + 1 = 41 := ⟨rfl, rfl⟩
theorem xc169_41 : pmCode 169 41 = some (.bipush 104) ∧ 41 + 2 = 43 := ⟨rfl, rfl⟩
theorem xc169_43 : pmCode 169 43 = some (.if_icmp .ne 7) ∧ ((43 : Nat) : Int) + 7 = ((50 : Nat) : Int) ∧ 43 + 3 = 46 := ⟨rfl, rfl, rfl⟩
theorem xc169_46 : pmCode 169 46 = some (.iconst 5) ∧ 46 + 1 = 47 := ⟨rfl, rfl⟩
theorem xc169_47 : pmCode 169 47 = some (.goto 15) ∧ ((47 : Nat) : Int) + 15 = ((62 : Nat) : Int) := ⟨rfl, rfl⟩
theorem xc169_50 : pmCode 169 50 = some (.iload_n 0) ∧ 50 + 1 = 51 := ⟨rfl, rfl⟩
theorem xc169_51 : pmCode 169 51 = some (.bipush 108) ∧ 51 + 2 = 53 := ⟨rfl, rfl⟩
theorem xc169_53 : pmCode 169 53 = some (.if_icmp .ne 8) ∧ ((53 : Nat) : Int) + 8 = ((61 : Nat) : Int) ∧ 53 + 3 = 56 := ⟨rfl, rfl, rfl⟩
theorem xc169_56 : pmCode 169 56 = some (.bipush 6) ∧ 56 + 2 = 58 := ⟨rfl, rfl⟩
theorem xc169_58 : pmCode 169 58 = some (.goto 4) ∧ ((58 : Nat) : Int) + 4 = ((62 : Nat) : Int) := ⟨rfl, rfl⟩
theorem xc169_61 : pmCode 169 61 = some (.iconst (-1)) ∧ 61 + 1 = 62 := ⟨rfl, rfl⟩
theorem xc169_62 : pmCode 169 62 = some .ireturn := rfl
theorem xc170_0 : pmCode 170 0 = some (.aload_n 0) ∧ 0 + 1 = 1 := ⟨rfl, rfl⟩
theorem xc170_1 : pmCode 170 1 = some (.iconst (-1)) ∧ 1 + 1 = 2 := ⟨rfl, rfl⟩
theorem xc170_2 : pmCode 170 2 = some (.putfield 187) ∧ 2 + 3 = 5 := ⟨rfl, rfl⟩
theorem xc170_5 : pmCode 170 5 = some (.aload_n 0) ∧ 5 + 1 = 6 := ⟨rfl, rfl⟩
theorem xc170_6 : pmCode 170 6 = some (.invokevirtual 179) ∧ 6 + 3 = 9 := ⟨rfl, rfl⟩
theorem xc170_9 : pmCode 170 9 = some (.bipush 46) ∧ 9 + 2 = 11 := ⟨rfl, rfl⟩
theorem xc170_11 : pmCode 170 11 = some (.if_icmp .eq 10) ∧ ((11 : Nat) : Int) + 10 = ((21 : Nat) : Int) ∧ 11 + 3 = 14 := ⟨rfl, rfl, rfl⟩
theorem xc170_14 : pmCode 170 14 = some (.aload_n 0) ∧ 14 + 1 = 15 := ⟨rfl, rfl⟩
theorem xc170_15 : pmCode 170 15 = some (.bipush 6) ∧ 15 + 2 = 17 := ⟨rfl, rfl⟩
theorem xc170_17 : pmCode 170 17 = some (.invokevirtual 199) ∧ 17 + 3 = 20 := ⟨rfl, rfl⟩
theorem xc170_20 : pmCode 170 20 = some .ireturn := rfl
theorem xc170_21 : pmCode 170 21 = some (.aload_n 0) ∧ 21 + 1 = 22 := ⟨rfl, rfl⟩
theorem xc170_22 : pmCode 170 22 = some (.aload_n 0) ∧ 22 + 1 = 23 := ⟨rfl, rfl⟩
theorem xc170_23 : pmCode 170 23 = some (.getfield 170) ∧ 23 + 3 = 26 := ⟨rfl, rfl⟩
theorem xc170_26 : pmCode 170 26 = some (.iconst 1) ∧ 26 + 1 = 27 := ⟨rfl, rfl⟩
theorem xc170_27 : pmCode 170 27 = some .iadd ∧ 27 + 1 = 28 := ⟨rfl, rfl⟩
theorem xc170_28 : pmCode 170 28 = some (.putfield 170) ∧ 28 + 3 = 31 := ⟨rfl, rfl⟩
theorem xc170_31 : pmCode 170 31 = some (.iconst 1) ∧ 31 + 1 = 32 := ⟨rfl, rfl⟩
theorem xc170_32 : pmCode 170 32 = some .ireturn := rfl
theorem xc171_0 : pmCode 171 0 = some (.aload_n 0) ∧ 0 + 1 = 1 := ⟨rfl, rfl⟩
theorem xc171_1 : pmCode 171 1 = some (.invokevirtual 179) ∧ 1 + 3 = 4 := ⟨rfl, rfl⟩
theorem xc171_4 : pmCode 171 4 = some (.iload_n 1) ∧ 4 + 1 = 5 := ⟨rfl, rfl⟩
theorem xc171_5 : pmCode 171 5 = some (.if_icmp .eq 13) ∧ ((5 : Nat) : Int) + 13 = ((18 : Nat) : Int) ∧ 5 + 3 = 8 := ⟨rfl, rfl, rfl⟩
theorem xc171_8 : pmCode 171 8 = some (.aload_n 0) ∧ 8 + 1 = 9 := ⟨rfl, rfl⟩
theorem xc171_9 : pmCode 171 9 = some (.iconst 1) ∧ 9 + 1 = 10 := ⟨rfl, rfl⟩
theorem xc171_10 : pmCode 171 10 = some (.aload_n 0) ∧ 10 + 1 = 11 := ⟨rfl, rfl⟩
theorem xc171_11 : pmCode 171 11 = some (.getfield 170) ∧ 11 + 3 = 14 := ⟨rfl, rfl⟩
theorem xc171_14 : pmCode 171 14 = some (.invokevirtual 183) ∧ 14 + 3 = 17 := ⟨rfl, rfl⟩
theorem xc171_17 : pmCode 171 17 = some .ireturn := rfl
theorem xc171_18 : pmCode 171 18 = some (.aload_n 0) ∧ 18 + 1 = 19 := ⟨rfl, rfl⟩
theorem xc171_19 : pmCode 171 19 = some (.aload_n 0) ∧ 19 + 1 = 20 := ⟨rfl, rfl⟩
theorem xc171_20 : pmCode 171 20 = some (.getfield 170) ∧ 20 + 3 = 23 := ⟨rfl, rfl⟩
theorem xc171_23 : pmCode 171 23 = some (.iconst 1) ∧ 23 + 1 = 24 := ⟨rfl, rfl⟩
theorem xc171_24 : pmCode 171 24 = some .iadd ∧ 24 + 1 = 25 := ⟨rfl, rfl⟩
theorem xc171_25 : pmCode 171 25 = some (.putfield 170) ∧ 25 + 3 = 28 := ⟨rfl, rfl⟩
theorem xc171_28 : pmCode 171 28 = some (.iconst 1) ∧ 28 + 1 = 29 := ⟨rfl, rfl⟩
theorem xc171_29 : pmCode 171 29 = some .ireturn := rfl
theorem xc172_0 : pmCode 172 0 = some (.aload_n 0) ∧ 0 + 1 = 1 := ⟨rfl, rfl⟩
theorem xc172_1 : pmCode 172 1 = some (.bipush 44) ∧ 1 + 2 = 3 := ⟨rfl, rfl⟩
theorem xc172_3 : pmCode 172 3 = some (.invokevirtual 238) ∧ 3 + 3 = 6 := ⟨rfl, rfl⟩
theorem xc172_6 : pmCode 172 6 = some (.ifCond .ne 5) ∧ ((6 : Nat) : Int) + 5 = ((11 : Nat) : Int) ∧ 6 + 3 = 9 := ⟨rfl, rfl, rfl⟩
theorem xc172_9 : pmCode 172 9 = some (.iconst 0) ∧ 9 + 1 = 10 := ⟨rfl, rfl⟩
theorem xc172_10 : pmCode 172 10 = some .ireturn := rfl
theorem xc172_11 : pmCode 172 11 = some (.aload_n 0) ∧ 11 + 1 = 12 := ⟨rfl, rfl⟩
theorem xc172_12 : pmCode 172 12 = some (.getfield 170) ∧ 12 + 3 = 15 := ⟨rfl, rfl⟩
theorem xc172_15 : pmCode 172 15 = some (.istore_n 2) ∧ 15 + 1 = 16 := ⟨rfl, rfl⟩
theorem xc172_16 : pmCode 172 16 = some (.aload_n 0) ∧ 16 + 1 = 17 := ⟨rfl, rfl⟩
theorem xc172_17 : pmCode 172 17 = some (.invokevirtual 179) ∧ 17 + 3 = 20 := ⟨rfl, rfl⟩
theorem xc172_20 : pmCode 172 20 = some (.bipush 48) ∧ 20 + 2 = 22 := ⟨rfl, rfl⟩
theorem xc172_22 : pmCode 172 22 = some (.if_icmp .lt 12) ∧ ((22 : Nat) : Int) + 12 = ((34 : Nat) : Int) ∧ 22 + 3 = 25 := ⟨rfl, rfl, rfl⟩
theorem xc172_25 : pmCode 172 25 = some (.aload_n 0) ∧ 25 + 1 = 26 := ⟨rfl, rfl⟩
theorem xc172_26 : pmCode 172 26 = some (.invokevirtual 179) ∧ 26 + 3 = 29 := ⟨rfl, rfl⟩
theorem xc172_29 : pmCode 172 29 = some (.bipush 57) ∧ 29 + 2 = 31 := ⟨rfl, rfl⟩
theorem xc172_31 : pmCode 172 31 = some (.if_icmp .le 13) ∧ ((31 : Nat) : Int) + 13 = ((44 : Nat) : Int) ∧ 31 + 3 = 34 := ⟨rfl, rfl, rfl⟩
theorem xc172_34 : pmCode 172 34 = some (.aload_n 0) ∧ 34 + 1 = 35 := ⟨rfl, rfl⟩
theorem xc172_35 : pmCode 172 35 = some (.iconst 1) ∧ 35 + 1 = 36 := ⟨rfl, rfl⟩
theorem xc172_36 : pmCode 172 36 = some (.aload_n 0) ∧ 36 + 1 = 37 := ⟨rfl, rfl⟩
theorem xc172_37 : pmCode 172 37 = some (.getfield 170) ∧ 37 + 3 = 40 := ⟨rfl, rfl⟩
theorem xc172_40 : pmCode 172 40 = some (.invokevirtual 183) ∧ 40 + 3 = 43 := ⟨rfl, rfl⟩
theorem xc172_43 : pmCode 172 43 = some .ireturn := rfl
theorem xc172_44 : pmCode 172 44 = some (.aload_n 0) ∧ 44 + 1 = 45 := ⟨rfl, rfl⟩
theorem xc172_45 : pmCode 172 45 = some (.getfield 66) ∧ 45 + 3 = 48 := ⟨rfl, rfl⟩
theorem xc172_48 : pmCode 172 48 = some (.iload_n 1) ∧ 48 + 1 = 49 := ⟨rfl, rfl⟩
theorem xc172_49 : pmCode 172 49 = some (.iconst 0) ∧ 49 + 1 = 50 := ⟨rfl, rfl⟩
theorem xc172_50 : pmCode 172 50 = some .iastore ∧ 50 + 1 = 51 := ⟨rfl, rfl⟩
theorem xc172_51 : pmCode 172 51 = some (.aload_n 0) ∧ 51 + 1 = 52 := ⟨rfl, rfl⟩
theorem xc172_52 : pmCode 172 52 = some (.invokevirtual 179) ∧ 52 + 3 = 55 := ⟨rfl, rfl⟩
theorem xc172_55 : pmCode 172 55 = some (.bipush 48) ∧ 55 + 2 = 57 := ⟨rfl, rfl⟩
theorem xc172_57 : pmCode 172 57 = some (.if_icmp .lt 68) ∧ ((57 : Nat) : Int) + 68 = ((125 : Nat) : Int) ∧ 57 + 3 = 60 := ⟨rfl, rfl, rfl⟩
theorem xc172_60 : pmCode 172 60 = some (.aload_n 0) ∧ 60 + 1 = 61 := ⟨rfl, rfl⟩
theorem xc172_61 : pmCode 172 61 = some (.invokevirtual 179) ∧ 61 + 3 = 64 := ⟨rfl, rfl⟩
theorem xc172_64 : pmCode 172 64 = some (.bipush 57) ∧ 64 + 2 = 66 := ⟨rfl, rfl⟩
theorem xc172_66 : pmCode 172 66 = some (.if_icmp .gt 59) ∧ ((66 : Nat) : Int) + 59 = ((125 : Nat) : Int) ∧ 66 + 3 = 69 := ⟨rfl, rfl, rfl⟩
theorem xc172_69 : pmCode 172 69 = some (.aload_n 0) ∧ 69 + 1 = 70 := ⟨rfl, rfl⟩
theorem xc172_70 : pmCode 172 70 = some (.getfield 170) ∧ 70 + 3 = 73 := ⟨rfl, rfl⟩
theorem xc172_73 : pmCode 172 73 = some (.iload_n 2) ∧ 73 + 1 = 74 := ⟨rfl, rfl⟩
theorem xc172_74 : pmCode 172 74 = some (.iconst 2) ∧ 74 + 1 = 75 := ⟨rfl, rfl⟩
theorem xc172_75 : pmCode 172 75 = some .iadd ∧ 75 + 1 = 76 := ⟨rfl, rfl⟩
theorem xc172_76 : pmCode 172 76 = some (.if_icmp .ne 13) ∧ ((76 : Nat) : Int) + 13 = ((89 : Nat) : Int) ∧ 76 + 3 = 79 := ⟨rfl, rfl, rfl⟩
theorem xc172_79 : pmCode 172 79 = some (.aload_n 0) ∧ 79 + 1 = 80 := ⟨rfl, rfl⟩
theorem xc172_80 : pmCode 172 80 = some (.iconst 2) ∧ 80 + 1 = 81 := ⟨rfl, rfl⟩
theorem xc172_81 : pmCode 172 81 = some (.aload_n 0) ∧ 81 + 1 = 82 := ⟨rfl, rfl⟩
theorem xc172_82 : pmCode 172 82 = some (.getfield 170) ∧ 82 + 3 = 85 := ⟨rfl, rfl⟩
theorem xc172_85 : pmCode 172 85 = some (.invokevirtual 183) ∧ 85 + 3 = 88 := ⟨rfl, rfl⟩
theorem xc172_88 : pmCode 172 88 = some .ireturn := rfl
theorem xc172_89 : pmCode 172 89 = some (.aload_n 0) ∧ 89 + 1 = 90 := ⟨rfl, rfl⟩
theorem xc172_90 : pmCode 172 90 = some (.getfield 66) ∧ 90 + 3 = 93 := ⟨rfl, rfl⟩
theorem xc172_93 : pmCode 172 93 = some (.iload_n 1) ∧ 93 + 1 = 94 := ⟨rfl, rfl⟩
theorem xc172_94 : pmCode 172 94 = some (.bipush 10) ∧ 94 + 2 = 96 := ⟨rfl, rfl⟩
theorem xc172_96 : pmCode 172 96 = some (.aload_n 0) ∧ 96 + 1 = 97 := ⟨rfl, rfl⟩
theorem xc172_97 : pmCode 172 97 = some (.getfield 66) ∧ 97 + 3 = 100 := ⟨rfl, rfl⟩
theorem xc172_100 : pmCode 172 100 = some (.iload_n 1) ∧ 100 + 1 = 101 := ⟨rfl, rfl⟩
theorem xc172_101 : pmCode 172 101 = some .iaload ∧ 101 + 1 = 102 := ⟨rfl, rfl⟩
theorem xc172_102 : pmCode 172 102 = some .imul ∧ 102 + 1 = 103 := ⟨rfl, rfl⟩
theorem xc172_103 : pmCode 172 103 = some (.aload_n 0) ∧ 103 + 1 = 104 := ⟨rfl, rfl⟩
theorem xc172_104 : pmCode 172 104 = some (.invokevirtual 179) ∧ 104 + 3 = 107 := ⟨rfl, rfl⟩
theorem xc172_107 : pmCode 172 107 = some .iadd ∧ 107 + 1 = 108 := ⟨rfl, rfl⟩
theorem xc172_108 : pmCode 172 108 = some (.bipush 48) ∧ 108 + 2 = 110 := ⟨rfl, rfl⟩
theorem xc172_110 : pmCode 172 110 = some .isub ∧ 110 + 1 = 111 := ⟨rfl, rfl⟩
theorem xc172_111 : pmCode 172 111 = some .iastore ∧ 111 + 1 = 112 := ⟨rfl, rfl⟩
theorem xc172_112 : pmCode 172 112 = some (.aload_n 0) ∧ 112 + 1 = 113 := ⟨rfl, rfl⟩
theorem xc172_113 : pmCode 172 113 = some (.aload_n 0) ∧ 113 + 1 = 114 := ⟨rfl, rfl⟩
theorem xc172_114 : pmCode 172 114 = some (.getfield 170) ∧ 114 + 3 = 117 := ⟨rfl, rfl⟩
theorem xc172_117 : pmCode 172 117 = some (.iconst 1) ∧ 117 + 1 = 118 := ⟨rfl, rfl⟩
theorem xc172_118 : pmCode 172 118 = some .iadd ∧ 118 + 1 = 119 := ⟨rfl, rfl⟩
theorem xc172_119 : pmCode 172 119 = some (.putfield 170) ∧ 119 + 3 = 122 := ⟨rfl, rfl⟩
theorem xc172_122 : pmCode 172 122 = some (.goto (-71)) ∧ ((122 : Nat) : Int) + (-71) = ((51 : Nat) : Int) := ⟨rfl, rfl⟩
theorem xc172_125 : pmCode 172 125 = some (.iconst 1) ∧ 125 + 1 = 126 := ⟨rfl, rfl⟩
theorem xc172_126 : pmCode 172 126 = some .ireturn := rfl
/-- the reference's text -/
def tR (a : xA) (t : Int → Int) (n p : Int) : Prop := (∀ j, 0 ≤ j → j < n → a 93 j % 256 = t j) ∧ a 87 11 = n ∧ a 87 10 = p
/-- the count of laws, kept -/
def kM (a a1 : xA) : Prop := xAr a1 ∧ a1 87 3 = a 87 3
section
variable {a a1 : xA} {t : Int → Int} {n p v k : Int} {q : Nat}
theorem tR.at (h : tR a t n p) : tR (xU a 87 10 v) t n v := ⟨fun j g0 g1 => by rw [xUn (by decide)]; exact h.1 j g0 g1, by rw [xUk (by decide)]; exact h.2.1, xUa⟩
theorem tR.fd (h1 : k ≠ 10) (h2 : k ≠ 11) (h : tR a t n p) : tR (xU a 87 k v) t n p := ⟨fun j g0 g1 => by rw [xUn (by decide)]; exact h.1 j g0 g1, by rw [xUk h2.symm]; exact h.2.1, by rw [xUk h1.symm]; exact h.2.2⟩
theorem tR.ot (h1 : 87 ≠ q) (h2 : 93 ≠ q) (h : tR a t n p) : tR (xU a q k v) t n p := ⟨fun j g0 g1 => by rw [xUn h2]; exact h.1 j g0 g1, by rw [xUn h1]; exact h.2.1, by rw [xUn h1]; exact h.2.2⟩
theorem kM.r (h : xAr a) : kM a a := ⟨h, rfl⟩
theorem kM.u (hv : xR v) (h1 : ¬ (87 = q ∧ 3 = k)) (h : kM a a1) : kM a (xU a1 q k v) := ⟨xAr_u h.1 hv, by
  rw [← h.2]
  exact if_neg h1⟩
theorem kM.tr {a2 : xA} (h1 : kM a a1) (h2 : kM a1 a2) : kM a a2 := ⟨h2.1, h2.2.trans h1.2⟩
end
theorem xg156 {ro : Nat → Nat × (Nat → Int32)} {d : Nat} {Q : Option Value → pmS → Prop} {a : xA} {b : xB} (h : pmWp ro d 12 156 1 0 [some (.ref 87)] [] (xS a b) Q) : pmCs ro (d + 1) 156 [.ref 87] (xS a b) Q := x_go xi156 rfl rfl rfl rfl rfl h
theorem w156 {ro : Nat → Nat × (Nat → Int32)} {d : Nat} {Q : Option Value → pmS → Prop} {a : xA} {b : xB} {t : Int → Int} {n p : Int} (hC : tR a t n p) (hp : 0 ≤ p ∧ p ≤ n) (hn : n ≤ 60) (hb : tB t) (hA : xAr a)
    (k1 : (n ≤ p) → Q (some (xV (-1))) (xS a b))
    (k2 : (¬ n ≤ p) → Q (some (xV ((a 93 p) % 256))) (xS a b)) :
    pmWp ro d 12 156 1 0 [some (.ref 87)] [] (xS a b) Q := by
  refine x_aloadn xc156_0 rfl ?_
  refine x_gfi' (k := 10) (v := p) xc156_1 rfl (Or.inl rfl) rfl xz87 hC.2.2 ?_
  refine x_aloadn xc156_4 rfl ?_
  refine x_gfi' (k := 11) (v := n) xc156_5 rfl (Or.inl rfl) rfl xz87 hC.2.1 ?_
  refine x_icge xc156_8 (xRk (by omega)) (xRk (by omega)) (fun h0 => ?_) (fun h0 => ?_)
  · refine x_iconst xc156_27 ?_
    refine x_iret xc156_28 (Or.inl rfl) ?_
    exact k1 h0
  · refine x_aloadn xc156_11 rfl ?_
    refine x_gfr xc156_12 rfl rfl xz87 rfl ?_
    refine x_aloadn xc156_15 rfl ?_
    refine x_gfi' (k := 10) (v := p) xc156_16 rfl (Or.inl rfl) rfl xz87 hC.2.2 ?_
    refine x_bal xc156_19 xz93 (Or.inr rfl) (by omega) (by omega) (by omega) ?_
    refine x_sipush xc156_20 (by decide) ?_
    refine x_iandm (M := 256) 8 (by decide) (by decide) (by decide) xc156_23 ?_
    refine x_goto xc156_24 ?_
    refine x_iret xc156_28 (Or.inl rfl) ?_
    exact k2 h0

theorem xk156 {ro : Nat → Nat × (Nat → Int32)} {d : Nat} {Q : Option Value → pmS → Prop} {a : xA} {b : xB} {t : Int → Int} {n p : Int} (hC : tR a t n p) (hp : 0 ≤ p ∧ p ≤ n) (hn : n ≤ 60) (hb : tB t) (hA : xAr a) (hd : 1 ≤ d) (hQ0 : (sG t n p = -1 ∨ p < n) → Q (some (xV (sG t n p))) (xS a b)) : pmCs ro d 156 [.ref 87] (xS a b) Q := by
  have hQ := hQ0 sGd
  refine pmCs_deep (d := 1) (xg156 (w156 hC hp hn hb hA (fun e => ?_) (fun e => ?_))) hd
  · unfold sG at hQ
    rw [if_neg (by omega)] at hQ
    exact hQ
  · unfold sG at hQ
    rw [if_pos (by omega)] at hQ
    rw [hC.1 p hp.1 (by omega)]
    exact hQ
theorem xg158 {ro : Nat → Nat × (Nat → Int32)} {d : Nat} {Q : Option Value → pmS → Prop} {a : xA} {b : xB} {x y : Int} (h : pmWp ro d 12 158 2 0 [some (.ref 87), some (xV x), some (xV y)] [] (xS a b) Q) : pmCs ro (d + 1) 158 [.ref 87, xV x, xV y] (xS a b) Q := x_go xi158 rfl rfl rfl rfl rfl h
theorem w158 {ro : Nat → Nat × (Nat → Int32)} {d : Nat} {Q : Option Value → pmS → Prop} {x y : Int} {a : xA} {b : xB} (h_x : xR x) (h_y : xR y)
    (k1 : Q (some (xV 0)) (xS (xU a 87 12 ((-1000) * x - y)) b)) :
    pmWp ro d 12 158 2 0 [some (.ref 87), some (xV x), some (xV y)] [] (xS a b) Q := by
  refine x_aloadn xc158_0 rfl ?_
  refine x_sipush xc158_1 (by decide) ?_
  refine x_iloadn xc158_4 rfl ?_
  refine x_imul xc158_5 ?_
  refine x_iloadn xc158_6 rfl ?_
  refine x_isub xc158_7 ?_
  refine x_pfi (k := 12) xc158_8 rfl ⟨rfl, rfl⟩ rfl xz87 ?_
  refine x_iconst xc158_11 ?_
  refine x_iret xc158_12 (Or.inr ⟨rfl, (by omega)⟩) ?_
  exact k1

theorem xk158 {ro : Nat → Nat × (Nat → Int32)} {d : Nat} {Q : Option Value → pmS → Prop} {a : xA} {b : xB} {x y : Int} (h_x : xR x) (h_y : xR y) (hd : 1 ≤ d) (hQ : Q (some (xV 0)) (xS (xU a 87 12 (-1000 * x - y)) b)) : pmCs ro d 158 [.ref 87, xV x, xV y] (xS a b) Q := pmCs_deep (d := 1) (xg158 (w158 h_x h_y hQ)) hd
theorem xg169 {ro : Nat → Nat × (Nat → Int32)} {d : Nat} {Q : Option Value → pmS → Prop} {a : xA} {b : xB} {c : Int} (h : pmWp ro d 12 169 1 0 [some (xV c)] [] (xS a b) Q) : pmCs ro (d + 1) 169 [xV c] (xS a b) Q := x_go xi169 rfl rfl rfl rfl rfl h
theorem w169 {ro : Nat → Nat × (Nat → Int32)} {d : Nat} {Q : Option Value → pmS → Prop} {c : Int} {a : xA} {b : xB} (h_c : xR c)
    (k1 : (¬ c = 103) → (¬ c = 116) → (¬ c = 100) → (¬ c = 118) → (¬ c = 104) → (¬ c = 108) → Q (some (xV (-1))) (xS a b))
    (k2 : (¬ c = 103) → (¬ c = 116) → (¬ c = 100) → (¬ c = 118) → (¬ c = 104) → (¬ ¬ c = 108) → Q (some (xV 6)) (xS a b))
    (k3 : (¬ c = 103) → (¬ c = 116) → (¬ c = 100) → (¬ c = 118) → (¬ ¬ c = 104) → Q (some (xV 5)) (xS a b))
    (k4 : (¬ c = 103) → (¬ c = 116) → (¬ c = 100) → (¬ ¬ c = 118) → Q (some (xV 4)) (xS a b))
    (k5 : (¬ c = 103) → (¬ c = 116) → (¬ ¬ c = 100) → Q (some (xV 3)) (xS a b))
    (k6 : (¬ c = 103) → (¬ ¬ c = 116) → Q (some (xV 2)) (xS a b))
    (k7 : (¬ ¬ c = 103) → Q (some (xV 1)) (xS a b)) :
    pmWp ro d 12 169 1 0 [some (xV c)] [] (xS a b) Q := by
  refine x_iloadn xc169_0 rfl ?_
  refine x_bipush xc169_1 (by decide) ?_
  refine x_icne xc169_3 (xRk (by have g0 := xRb h_c; omega)) (xRk (by decide)) (fun h0 => ?_) (fun h0 => ?_)
  · refine x_iloadn xc169_10 rfl ?_
    refine x_bipush xc169_11 (by decide) ?_
    refine x_icne xc169_13 (xRk (by have g0 := xRb h_c; omega)) (xRk (by decide)) (fun h1 => ?_) (fun h1 => ?_)
    · refine x_iloadn xc169_20 rfl ?_
      refine x_bipush xc169_21 (by decide) ?_
      refine x_icne xc169_23 (xRk (by have g0 := xRb h_c; omega)) (xRk (by decide)) (fun h2 => ?_) (fun h2 => ?_)
      · refine x_iloadn xc169_30 rfl ?_
        refine x_bipush xc169_31 (by decide) ?_
        refine x_icne xc169_33 (xRk (by have g0 := xRb h_c; omega)) (xRk (by decide)) (fun h3 => ?_) (fun h3 => ?_)
        · refine x_iloadn xc169_40 rfl ?_
          refine x_bipush xc169_41 (by decide) ?_
          refine x_icne xc169_43 (xRk (by have g0 := xRb h_c; omega)) (xRk (by decide)) (fun h4 => ?_) (fun h4 => ?_)
          · refine x_iloadn xc169_50 rfl ?_
            refine x_bipush xc169_51 (by decide) ?_
            refine x_icne xc169_53 (xRk (by have g0 := xRb h_c; omega)) (xRk (by decide)) (fun h5 => ?_) (fun h5 => ?_)
            · refine x_iconst xc169_61 ?_
              refine x_iret xc169_62 (Or.inl rfl) ?_
              exact k1 h0 h1 h2 h3 h4 h5
            · refine x_bipush xc169_56 (by decide) ?_
              refine x_goto xc169_58 ?_
              refine x_iret xc169_62 (Or.inl rfl) ?_
              exact k2 h0 h1 h2 h3 h4 h5
          · refine x_iconst xc169_46 ?_
            refine x_goto xc169_47 ?_
            refine x_iret xc169_62 (Or.inl rfl) ?_
            exact k3 h0 h1 h2 h3 h4
        · refine x_iconst xc169_36 ?_
          refine x_goto xc169_37 ?_
          refine x_iret xc169_62 (Or.inl rfl) ?_
          exact k4 h0 h1 h2 h3
      · refine x_iconst xc169_26 ?_
        refine x_goto xc169_27 ?_
        refine x_iret xc169_62 (Or.inl rfl) ?_
        exact k5 h0 h1 h2
    · refine x_iconst xc169_16 ?_
      refine x_goto xc169_17 ?_
      refine x_iret xc169_62 (Or.inl rfl) ?_
      exact k6 h0 h1
  · refine x_iconst xc169_6 ?_
    refine x_goto xc169_7 ?_
    refine x_iret xc169_62 (Or.inl rfl) ?_
    exact k7 h0

theorem xk169 {ro : Nat → Nat × (Nat → Int32)} {d : Nat} {Q : Option Value → pmS → Prop} {a : xA} {b : xB} {c : Int} (h_c : xR c) (hd : 1 ≤ d) (hQ0 : (rKd c = -1 ∨ 97 ≤ c) → Q (some (xV (rKd c))) (xS a b)) : pmCs ro d 169 [xV c] (xS a b) Q := by
  have hQ := hQ0 (rKdC c)
  refine pmCs_deep (d := 1) (xg169 (w169 h_c ?_ ?_ ?_ ?_ ?_ ?_ ?_)) hd
  · intro e0 e1 e2 e3 e4 e5
    have e : rKd c = -1 := by unfold rKd; repeat (first | rw [if_pos (by omega)] | rw [if_neg (by omega)])
    rw [e] at hQ
    exact hQ
  · intro e0 e1 e2 e3 e4 e5
    have e : rKd c = 6 := by unfold rKd; repeat (first | rw [if_pos (by omega)] | rw [if_neg (by omega)])
    rw [e] at hQ
    exact hQ
  · intro e0 e1 e2 e3 e4
    have e : rKd c = 5 := by unfold rKd; repeat (first | rw [if_pos (by omega)] | rw [if_neg (by omega)])
    rw [e] at hQ
    exact hQ
  · intro e0 e1 e2 e3
    have e : rKd c = 4 := by unfold rKd; repeat (first | rw [if_pos (by omega)] | rw [if_neg (by omega)])
    rw [e] at hQ
    exact hQ
  · intro e0 e1 e2
    have e : rKd c = 3 := by unfold rKd; repeat (first | rw [if_pos (by omega)] | rw [if_neg (by omega)])
    rw [e] at hQ
    exact hQ
  · intro e0 e1
    have e : rKd c = 2 := by unfold rKd; repeat (first | rw [if_pos (by omega)] | rw [if_neg (by omega)])
    rw [e] at hQ
    exact hQ
  · intro e0
    have e : rKd c = 1 := by unfold rKd; repeat (first | rw [if_pos (by omega)] | rw [if_neg (by omega)])
    rw [e] at hQ
    exact hQ
theorem xg171 {ro : Nat → Nat × (Nat → Int32)} {d : Nat} {Q : Option Value → pmS → Prop} {a : xA} {b : xB} {c : Int} (h : pmWp ro d 12 171 2 0 [some (.ref 87), some (xV c)] [] (xS a b) Q) : pmCs ro (d + 1) 171 [.ref 87, xV c] (xS a b) Q := x_go xi171 rfl rfl rfl rfl rfl h
theorem w171 {ro : Nat → Nat × (Nat → Int32)} {d : Nat} {Q : Option Value → pmS → Prop} {a : xA} {b : xB} {t : Int → Int} {n p : Int} (hC : tR a t n p) (hp : 0 ≤ p ∧ p ≤ n) (hn : n ≤ 60) (hb : tB t) (hA : xAr a) {c : Int} (h_c : xR c) (hc : 0 ≤ c) (hd : 1 ≤ d)
    (k1 : (sG t n p = -1 ∨ p < n) → (sG t n p = c) → Q (some (xV 1)) (xS (xU a 87 10 (p + 1)) b))
    (k2 : (sG t n p = -1 ∨ p < n) → (¬ sG t n p = c) → Q (some (xV 0)) (xS (xU a 87 12 (-1000 * 1 - p)) b)) :
    pmWp ro d 12 171 2 0 [some (.ref 87), some (xV c)] [] (xS a b) Q := by
  refine x_aloadn xc171_0 rfl ?_
  refine x_cV (as := []) (rest := []) xc171_1 rfl xi156 xz87 ⟨rfl, rfl⟩ rfl rfl ?_
  refine xk156 hC (by omega) (by omega) hb hA (by omega) (fun h0 => ?_)
  refine x_iloadn xc171_4 rfl ?_
  refine x_iceq xc171_5 (xRk (by have g0 := sGB (n := n) (p := p) hb (by omega); omega)) (xRk (by have g0 := xRb h_c; omega)) (fun h1 => ?_) (fun h1 => ?_)
  · refine x_aloadn xc171_18 rfl ?_
    refine x_aloadn xc171_19 rfl ?_
    refine x_gfi' (k := 10) (v := p) xc171_20 rfl (Or.inl rfl) rfl xz87 hC.2.2 ?_
    refine x_iconst xc171_23 ?_
    refine x_iadd xc171_24 ?_
    refine x_pfi (k := 10) xc171_25 rfl ⟨rfl, rfl⟩ rfl xz87 ?_
    refine x_iconst xc171_28 ?_
    refine x_iret xc171_29 (Or.inr ⟨rfl, (by omega)⟩) ?_
    exact k1 h0 h1
  · refine x_aloadn xc171_8 rfl ?_
    refine x_iconst xc171_9 ?_
    refine x_aloadn xc171_10 rfl ?_
    refine x_gfi' (k := 10) (v := p) xc171_11 rfl (Or.inl rfl) rfl xz87 hC.2.2 ?_
    refine x_cV (as := [xV 1, xV p]) (rest := []) xc171_14 rfl xi158 xz87 ⟨rfl, rfl⟩ rfl rfl ?_
    refine xk158 (xRk (by decide)) (xRk (by omega)) (by omega) ?_
    refine x_iret xc171_17 (Or.inr ⟨rfl, (by omega)⟩) ?_
    exact k2 h0 h1

theorem xk171 {ro : Nat → Nat × (Nat → Int32)} {d : Nat} {Q : Option Value → pmS → Prop} {a : xA} {b : xB} {t : Int → Int} {n p : Int} (hC : tR a t n p) (hp : 0 ≤ p ∧ p ≤ n) (hn : n ≤ 60) (hb : tB t) (hA : xAr a) {c : Int} (hc : 0 ≤ c ∧ c ≤ 255) (hd : 2 ≤ d)
    (hT : ∀ (a1 : xA) (p1 : Int), tR a1 t n p1 → kM a a1 → rCom t n c p = (0, p1) → p < p1 ∧ p1 ≤ n → Q (some (xV 1)) (xS a1 b))
    (hF : ∀ (a1 : xA) (f q : Int), kM a a1 → a1 87 12 = f → f < 0 ∧ -10000 < f → rCom t n c p = (f, q) → Q (some (xV 0)) (xS a1 b)) : pmCs ro d 171 [.ref 87, xV c] (xS a b) Q := by
  refine pmCs_deep (d := 2) (xg171 (w171 hC hp hn hb hA ⟨by omega, by omega⟩ hc.1 (by decide) ?_ ?_)) hd
  · intro h0 h1
    first | (exfalso; omega) | exact hT _ (p + 1) (tR.at hC) (kM.u (xRk (by omega)) (by omega) (kM.r hA)) (by unfold rCom; (repeat (first | rw [rSeq_00] | rw [rSeq_as] | rw [rSeq_0 (by assumption)] | rw [rSeq_n (by assumption) (by omega)] | rw [if_neg (by omega)] | rw [if_pos (by omega)])); all_goals (repeat' split); all_goals (first | (exfalso; omega) | assumption | rfl)) (by omega)
  · intro h0 h1
    first | (exfalso; omega) | exact hF _ (-1000 * 1 - p) _ (kM.u (xRk (by omega)) (by omega) (kM.r hA)) (by rw [xUa]) (by omega) (Prod.ext (by unfold rCom; (repeat (first | rw [rSeq_00] | rw [rSeq_as] | rw [rSeq_0 (by assumption)] | rw [rSeq_n (by assumption) (by omega)] | rw [if_neg (by omega)] | rw [if_pos (by omega)])); all_goals (repeat' split); all_goals (first | (exfalso; omega) | (dsimp only; exact rFst (by assumption)) | (dsimp only; omega) | omega)) rfl)

theorem xg160 {ro : Nat → Nat × (Nat → Int32)} {d : Nat} {Q : Option Value → pmS → Prop} {a : xA} {b : xB} {g : Int} (h : pmWp ro d 12 160 2 0 [some (.ref 87), some (xV g)] [] (xS a b) Q) : pmCs ro (d + 1) 160 [.ref 87, xV g] (xS a b) Q := x_go xi160 rfl rfl rfl rfl rfl h
theorem w160 {ro : Nat → Nat × (Nat → Int32)} {d : Nat} {Q : Option Value → pmS → Prop} {a : xA} {b : xB} {t : Int → Int} {n p : Int} (hC : tR a t n p) (hp : 0 ≤ p ∧ p ≤ n) (hn : n ≤ 60) (hb : tB t) (hA : xAr a) {g : Int} (h_g : xR g) (hd : 1 ≤ d)
    (k1 : (sG t n p = -1 ∨ p < n) → (sG t n p < 48) → Q (some (xV 0)) (xS (xU a 87 12 (-1000 * 1 - p)) b))
    (k2 : (sG t n p = -1 ∨ p < n) → (¬ sG t n p < 48) → (sG t n p = -1 ∨ p < n) → (sG t n p ≤ 57) → (sG t n p = -1 ∨ p < n) → (sG t n p - 48 ≤ g) → Q (some (xV 1)) (xS (xU (xU a 87 22 (sG t n p - 48)) 87 10 (p + 1)) b))
    (k3 : (sG t n p = -1 ∨ p < n) → (¬ sG t n p < 48) → (sG t n p = -1 ∨ p < n) → (sG t n p ≤ 57) → (sG t n p = -1 ∨ p < n) → (¬ sG t n p - 48 ≤ g) → Q (some (xV 0)) (xS (xU (xU a 87 22 (sG t n p - 48)) 87 12 (-1000 * 3 - p)) b))
    (k4 : (sG t n p = -1 ∨ p < n) → (¬ sG t n p < 48) → (sG t n p = -1 ∨ p < n) → (¬ sG t n p ≤ 57) → Q (some (xV 0)) (xS (xU a 87 12 (-1000 * 1 - p)) b)) :
    pmWp ro d 12 160 2 0 [some (.ref 87), some (xV g)] [] (xS a b) Q := by
  refine x_aloadn xc160_0 rfl ?_
  refine x_cV (as := []) (rest := []) xc160_1 rfl xi156 xz87 ⟨rfl, rfl⟩ rfl rfl ?_
  refine xk156 hC (by omega) (by omega) hb hA (by omega) (fun h0 => ?_)
  refine x_bipush xc160_4 (by decide) ?_
  refine x_iclt xc160_6 (xRk (by have g0 := sGB (n := n) (p := p) hb (by omega); omega)) (xRk (by decide)) (fun h1 => ?_) (fun h1 => ?_)
  · refine x_aloadn xc160_18 rfl ?_
    refine x_iconst xc160_19 ?_
    refine x_aloadn xc160_20 rfl ?_
    refine x_gfi' (k := 10) (v := p) xc160_21 rfl (Or.inl rfl) rfl xz87 hC.2.2 ?_
    refine x_cV (as := [xV 1, xV p]) (rest := []) xc160_24 rfl xi158 xz87 ⟨rfl, rfl⟩ rfl rfl ?_
    refine xk158 (xRk (by decide)) (xRk (by omega)) (by omega) ?_
    refine x_iret xc160_27 (Or.inr ⟨rfl, (by omega)⟩) ?_
    exact k1 h0 h1
  · refine x_aloadn xc160_9 rfl ?_
    refine x_cV (as := []) (rest := []) xc160_10 rfl xi156 xz87 ⟨rfl, rfl⟩ rfl rfl ?_
    refine xk156 hC (by omega) (by omega) hb hA (by omega) (fun h2 => ?_)
    refine x_bipush xc160_13 (by decide) ?_
    refine x_icle xc160_15 (xRk (by have g0 := sGB (n := n) (p := p) hb (by omega); omega)) (xRk (by decide)) (fun h3 => ?_) (fun h3 => ?_)
    · refine x_aloadn xc160_28 rfl ?_
      refine x_aloadn xc160_29 rfl ?_
      refine x_cV (as := []) (rest := [.ref 87]) xc160_30 rfl xi156 xz87 ⟨rfl, rfl⟩ rfl rfl ?_
      refine xk156 hC (by omega) (by omega) hb hA (by omega) (fun h4 => ?_)
      refine x_bipush xc160_33 (by decide) ?_
      refine x_isub xc160_35 ?_
      refine x_pfi (k := 22) xc160_36 rfl ⟨rfl, rfl⟩ rfl xz87 ?_
      refine x_aloadn xc160_39 rfl ?_
      refine x_gfi' (k := 22) (v := sG t n p - 48) xc160_40 rfl (Or.inl rfl) rfl xz87 (by rw [xUa]) ?_
      refine x_iloadn xc160_43 rfl ?_
      refine x_icle xc160_44 (xRk (by have g0 := sGB (n := n) (p := p) hb (by omega); omega)) (xRk (by have g0 := xRb h_g; omega)) (fun h5 => ?_) (fun h5 => ?_)
      · refine x_aloadn xc160_57 rfl ?_
        refine x_aloadn xc160_58 rfl ?_
        refine x_gfi' (k := 10) (v := p) xc160_59 rfl (Or.inl rfl) rfl xz87 (by rw [xUk (by decide), hC.2.2]) ?_
        refine x_iconst xc160_62 ?_
        refine x_iadd xc160_63 ?_
        refine x_pfi (k := 10) xc160_64 rfl ⟨rfl, rfl⟩ rfl xz87 ?_
        refine x_iconst xc160_67 ?_
        refine x_iret xc160_68 (Or.inr ⟨rfl, (by omega)⟩) ?_
        exact k2 h0 h1 h2 h3 h4 h5
      · refine x_aloadn xc160_47 rfl ?_
        refine x_iconst xc160_48 ?_
        refine x_aloadn xc160_49 rfl ?_
        refine x_gfi' (k := 10) (v := p) xc160_50 rfl (Or.inl rfl) rfl xz87 (by rw [xUk (by decide), hC.2.2]) ?_
        refine x_cV (as := [xV 3, xV p]) (rest := []) xc160_53 rfl xi158 xz87 ⟨rfl, rfl⟩ rfl rfl ?_
        refine xk158 (xRk (by decide)) (xRk (by omega)) (by omega) ?_
        refine x_iret xc160_56 (Or.inr ⟨rfl, (by omega)⟩) ?_
        exact k3 h0 h1 h2 h3 h4 h5
    · refine x_aloadn xc160_18 rfl ?_
      refine x_iconst xc160_19 ?_
      refine x_aloadn xc160_20 rfl ?_
      refine x_gfi' (k := 10) (v := p) xc160_21 rfl (Or.inl rfl) rfl xz87 hC.2.2 ?_
      refine x_cV (as := [xV 1, xV p]) (rest := []) xc160_24 rfl xi158 xz87 ⟨rfl, rfl⟩ rfl rfl ?_
      refine xk158 (xRk (by decide)) (xRk (by omega)) (by omega) ?_
      refine x_iret xc160_27 (Or.inr ⟨rfl, (by omega)⟩) ?_
      exact k4 h0 h1 h2 h3

theorem xk160 {ro : Nat → Nat × (Nat → Int32)} {d : Nat} {Q : Option Value → pmS → Prop} {a : xA} {b : xB} {t : Int → Int} {n p : Int} (hC : tR a t n p) (hp : 0 ≤ p ∧ p ≤ n) (hn : n ≤ 60) (hb : tB t) (hA : xAr a) {g : Int} (hg : 0 ≤ g ∧ g ≤ 9) (hd : 2 ≤ d)
    (hT : ∀ (a1 : xA) (p1 : Int), tR a1 t n p1 → kM a a1 → -1 ≤ a1 87 22 ∧ a1 87 22 ≤ 9 → rDig t n g p = (0, p1) → p < p1 ∧ p1 ≤ n → Q (some (xV 1)) (xS a1 b))
    (hF : ∀ (a1 : xA) (f q : Int), kM a a1 → a1 87 12 = f → f < 0 ∧ -10000 < f → rDig t n g p = (f, q) → Q (some (xV 0)) (xS a1 b)) : pmCs ro d 160 [.ref 87, xV g] (xS a b) Q := by
  refine pmCs_deep (d := 2) (xg160 (w160 hC hp hn hb hA ⟨by omega, by omega⟩ (by decide) ?_ ?_ ?_ ?_)) hd
  · intro h0 h1
    first | (exfalso; omega) | exact hF _ (-1000 * 1 - p) _ (kM.u (xRk (by omega)) (by omega) (kM.r hA)) (by rw [xUa]) (by omega) (Prod.ext (by unfold rDig; (repeat (first | rw [rSeq_00] | rw [rSeq_as] | rw [rSeq_0 (by assumption)] | rw [rSeq_n (by assumption) (by omega)] | rw [if_neg (by omega)] | rw [if_pos (by omega)])); all_goals (repeat' split); all_goals (first | (exfalso; omega) | (dsimp only; exact rFst (by assumption)) | (dsimp only; omega) | omega)) rfl)
  · intro h0 h1 h2 h3 h4 h5
    first | (exfalso; omega) | exact hT _ (p + 1) (tR.at (tR.fd (by decide) (by decide) hC)) (kM.u (xRk (by omega)) (by omega) (kM.u (xRk (by have g0 := sGB (n := n) (p := p) hb (by omega); omega)) (by omega) (kM.r hA))) (by rw [show (xU (xU a 87 22 (sG t n p - 48)) 87 10 (p + 1)) 87 22 = (sG t n p - 48) from (by rw [xUk (by decide), xUa])]; have g0 := sGB (n := n) (p := p) hb (by omega); omega) (by unfold rDig; (repeat (first | rw [rSeq_00] | rw [rSeq_as] | rw [rSeq_0 (by assumption)] | rw [rSeq_n (by assumption) (by omega)] | rw [if_neg (by omega)] | rw [if_pos (by omega)])); all_goals (repeat' split); all_goals (first | (exfalso; omega) | assumption | rfl)) (by omega)
  · intro h0 h1 h2 h3 h4 h5
    first | (exfalso; omega) | exact hF _ (-1000 * 3 - p) _ (kM.u (xRk (by omega)) (by omega) (kM.u (xRk (by have g0 := sGB (n := n) (p := p) hb (by omega); omega)) (by omega) (kM.r hA))) (by rw [xUa]) (by omega) (Prod.ext (by unfold rDig; (repeat (first | rw [rSeq_00] | rw [rSeq_as] | rw [rSeq_0 (by assumption)] | rw [rSeq_n (by assumption) (by omega)] | rw [if_neg (by omega)] | rw [if_pos (by omega)])); all_goals (repeat' split); all_goals (first | (exfalso; omega) | (dsimp only; exact rFst (by assumption)) | (dsimp only; omega) | omega)) rfl)
  · intro h0 h1 h2 h3
    first | (exfalso; omega) | exact hF _ (-1000 * 1 - p) _ (kM.u (xRk (by omega)) (by omega) (kM.r hA)) (by rw [xUa]) (by omega) (Prod.ext (by unfold rDig; (repeat (first | rw [rSeq_00] | rw [rSeq_as] | rw [rSeq_0 (by assumption)] | rw [rSeq_n (by assumption) (by omega)] | rw [if_neg (by omega)] | rw [if_pos (by omega)])); all_goals (repeat' split); all_goals (first | (exfalso; omega) | (dsimp only; exact rFst (by assumption)) | (dsimp only; omega) | omega)) rfl)

theorem xg170 {ro : Nat → Nat × (Nat → Int32)} {d : Nat} {Q : Option Value → pmS → Prop} {a : xA} {b : xB} (h : pmWp ro d 12 170 2 0 [some (.ref 87)] [] (xS a b) Q) : pmCs ro (d + 1) 170 [.ref 87] (xS a b) Q := x_go xi170 rfl rfl rfl rfl rfl h
theorem w170 {ro : Nat → Nat × (Nat → Int32)} {d : Nat} {Q : Option Value → pmS → Prop} {a : xA} {b : xB} {t : Int → Int} {n p : Int} (hC : tR a t n p) (hp : 0 ≤ p ∧ p ≤ n) (hn : n ≤ 60) (hb : tB t) (hA : xAr a) (hd : 2 ≤ d)
    (k1 : (sG t n p = -1 ∨ p < n) → (sG t n p = 46) → Q (some (xV 1)) (xS (xU (xU a 87 22 (-1)) 87 10 (p + 1)) b))
    (k2 : (sG t n p = -1 ∨ p < n) → (¬ sG t n p = 46) → ∀ a1 : xA, ∀ p1 : Int, (tR a1 t n p1) → (kM (xU a 87 22 (-1)) a1) → (-1 ≤ a1 87 22 ∧ a1 87 22 ≤ 9) → (rDig t n 6 p = (0, p1)) → (p < p1 ∧ p1 ≤ n) → Q (some (xV 1)) (xS a1 b))
    (k3 : (sG t n p = -1 ∨ p < n) → (¬ sG t n p = 46) → ∀ a2 : xA, ∀ f2 : Int, ∀ q2 : Int, (kM (xU a 87 22 (-1)) a2) → (a2 87 12 = f2) → (f2 < 0 ∧ -10000 < f2) → (rDig t n 6 p = (f2, q2)) → Q (some (xV 0)) (xS a2 b)) :
    pmWp ro d 12 170 2 0 [some (.ref 87)] [] (xS a b) Q := by
  refine x_aloadn xc170_0 rfl ?_
  refine x_iconst xc170_1 ?_
  refine x_pfi (k := 22) xc170_2 rfl ⟨rfl, rfl⟩ rfl xz87 ?_
  refine x_aloadn xc170_5 rfl ?_
  refine x_cV (as := []) (rest := []) xc170_6 rfl xi156 xz87 ⟨rfl, rfl⟩ rfl rfl ?_
  refine xk156 (tR.fd (by decide) (by decide) hC) (by omega) (by omega) hb (xAr_u hA (xRk (by decide))) (by omega) (fun h0 => ?_)
  refine x_bipush xc170_9 (by decide) ?_
  refine x_iceq xc170_11 (xRk (by have g0 := sGB (n := n) (p := p) hb (by omega); omega)) (xRk (by decide)) (fun h1 => ?_) (fun h1 => ?_)
  · refine x_aloadn xc170_21 rfl ?_
    refine x_aloadn xc170_22 rfl ?_
    refine x_gfi' (k := 10) (v := p) xc170_23 rfl (Or.inl rfl) rfl xz87 (by rw [xUk (by decide), hC.2.2]) ?_
    refine x_iconst xc170_26 ?_
    refine x_iadd xc170_27 ?_
    refine x_pfi (k := 10) xc170_28 rfl ⟨rfl, rfl⟩ rfl xz87 ?_
    refine x_iconst xc170_31 ?_
    refine x_iret xc170_32 (Or.inr ⟨rfl, (by omega)⟩) ?_
    exact k1 h0 h1
  · refine x_aloadn xc170_14 rfl ?_
    refine x_bipush xc170_15 (by decide) ?_
    refine x_cV (as := [xV 6]) (rest := []) xc170_17 rfl xi160 xz87 ⟨rfl, rfl⟩ rfl rfl ?_
    refine xk160 (tR.fd (by decide) (by decide) hC) (by omega) (by omega) hb (xAr_u hA (xRk (by decide))) (by omega) (by omega) (fun a1 p1 h2 h3 h4 h5 h6 => ?_) (fun a2 f2 q2 h7 h8 h9 h10 => ?_)
    · refine x_iret xc170_20 (Or.inr ⟨rfl, (by omega)⟩) ?_
      exact k2 h0 h1 a1 p1 h2 h3 h4 h5 h6
    · refine x_iret xc170_20 (Or.inr ⟨rfl, (by omega)⟩) ?_
      exact k3 h0 h1 a2 f2 q2 h7 h8 h9 h10

theorem xk170 {ro : Nat → Nat × (Nat → Int32)} {d : Nat} {Q : Option Value → pmS → Prop} {a : xA} {b : xB} {t : Int → Int} {n p : Int} (hC : tR a t n p) (hp : 0 ≤ p ∧ p ≤ n) (hn : n ≤ 60) (hb : tB t) (hA : xAr a) (hd : 3 ≤ d)
    (hT : ∀ (a1 : xA) (p1 : Int), tR a1 t n p1 → kM a a1 → -1 ≤ a1 87 22 ∧ a1 87 22 ≤ 9 → rSig t n p = (0, p1) → p < p1 ∧ p1 ≤ n → Q (some (xV 1)) (xS a1 b))
    (hF : ∀ (a1 : xA) (f q : Int), kM a a1 → a1 87 12 = f → f < 0 ∧ -10000 < f → rSig t n p = (f, q) → Q (some (xV 0)) (xS a1 b)) : pmCs ro d 170 [.ref 87] (xS a b) Q := by
  refine pmCs_deep (d := 3) (xg170 (w170 hC hp hn hb hA (by decide) ?_ ?_ ?_)) hd
  · intro h0 h1
    first | (exfalso; omega) | exact hT _ (p + 1) (tR.at (tR.fd (by decide) (by decide) hC)) (kM.u (xRk (by omega)) (by omega) (kM.u (xRk (by decide)) (by omega) (kM.r hA))) (by rw [show (xU (xU a 87 22 (-1)) 87 10 (p + 1)) 87 22 = (-1) from (by rw [xUk (by decide), xUa])]; skip; omega) (by unfold rSig; (repeat (first | rw [rSeq_00] | rw [rSeq_as] | rw [rSeq_0 (by assumption)] | rw [rSeq_n (by assumption) (by omega)] | rw [if_neg (by omega)] | rw [if_pos (by omega)])); all_goals (repeat' split); all_goals (first | (exfalso; omega) | assumption | rfl)) (by omega)
  · intro h0 h1 a1 p1 h2 h3 h4 h5 h6
    first | (exfalso; omega) | exact hT _ (p1) h2 (kM.tr (kM.u (xRk (by decide)) (by omega) (kM.r hA)) h3) (by rw [show a1 87 22 = (a1 87 22) from rfl]; have g0 := h4; omega) (by unfold rSig; (repeat (first | rw [rSeq_00] | rw [rSeq_as] | rw [rSeq_0 (by assumption)] | rw [rSeq_n (by assumption) (by omega)] | rw [if_neg (by omega)] | rw [if_pos (by omega)])); all_goals (repeat' split); all_goals (first | (exfalso; omega) | assumption | rfl)) (by omega)
  · intro h0 h1 a2 f2 q2 h7 h8 h9 h10
    first | (exfalso; omega) | exact hF _ (f2) _ (kM.tr (kM.u (xRk (by decide)) (by omega) (kM.r hA)) h7) h8 (by omega) (Prod.ext (by unfold rSig; (repeat (first | rw [rSeq_00] | rw [rSeq_as] | rw [rSeq_0 (by assumption)] | rw [rSeq_n (by assumption) (by omega)] | rw [if_neg (by omega)] | rw [if_pos (by omega)])); all_goals (repeat' split); all_goals (first | (exfalso; omega) | (dsimp only; exact rFst (by assumption)) | (dsimp only; omega) | omega)) rfl)

theorem xg168 {ro : Nat → Nat × (Nat → Int32)} {d : Nat} {Q : Option Value → pmS → Prop} {a : xA} {b : xB} {x : Int} (h : pmWp ro d 12 168 2 0 [some (.ref 87), some (xV x)] [] (xS a b) Q) : pmCs ro (d + 1) 168 [.ref 87, xV x] (xS a b) Q := x_go xi168 rfl rfl rfl rfl rfl h
theorem w168 {ro : Nat → Nat × (Nat → Int32)} {d : Nat} {Q : Option Value → pmS → Prop} {a : xA} {b : xB} {t : Int → Int} {n p : Int} (hC : tR a t n p) (hp : 0 ≤ p ∧ p ≤ n) (hn : n ≤ 60) (hb : tB t) (hA : xAr a) {x : Int} (h_x : xR x) (hx : 0 ≤ x ∧ x < 48) (hd : 3 ≤ d)
    (k1 : (sG t n p = -1 ∨ p < n) → (rKd (sG t n p) = -1 ∨ 97 ≤ sG t n p) → (¬ rKd (sG t n p) = -1) → (sG t n p = -1 ∨ p < n) → (rKd (sG t n p) = -1 ∨ 97 ≤ sG t n p) → ∀ a1 : xA, ∀ p1 : Int, (tR a1 t n p1) → (kM (xU (xU a 102 x (rKd (sG t n p))) 87 10 (p + 1)) a1) → (-1 ≤ a1 87 22 ∧ a1 87 22 ≤ 9) → (rSig t n (p + 1) = (0, p1)) → (p + 1 < p1 ∧ p1 ≤ n) → ∀ a3 : xA, ∀ p3 : Int, (tR a3 t n p3) → (kM (xU a1 103 x (a1 87 22)) a3) → (-1 ≤ a3 87 22 ∧ a3 87 22 ≤ 9) → (rSig t n p1 = (0, p3)) → (p1 < p3 ∧ p3 ≤ n) → ∀ a5 : xA, ∀ p5 : Int, (tR a5 t n p5) → (kM (xU a3 104 x (a3 87 22)) a5) → (-1 ≤ a5 87 22 ∧ a5 87 22 ≤ 9) → (rSig t n p3 = (0, p5)) → (p3 < p5 ∧ p5 ≤ n) → (sG t n p5 = -1 ∨ p5 < n) → (¬ sG t n p5 = 117) → Q (some (xV 1)) (xS (xU (xU a5 105 x (a5 87 22)) 107 x 0) b))
    (k2 : (sG t n p = -1 ∨ p < n) → (rKd (sG t n p) = -1 ∨ 97 ≤ sG t n p) → (¬ rKd (sG t n p) = -1) → (sG t n p = -1 ∨ p < n) → (rKd (sG t n p) = -1 ∨ 97 ≤ sG t n p) → ∀ a1 : xA, ∀ p1 : Int, (tR a1 t n p1) → (kM (xU (xU a 102 x (rKd (sG t n p))) 87 10 (p + 1)) a1) → (-1 ≤ a1 87 22 ∧ a1 87 22 ≤ 9) → (rSig t n (p + 1) = (0, p1)) → (p + 1 < p1 ∧ p1 ≤ n) → ∀ a3 : xA, ∀ p3 : Int, (tR a3 t n p3) → (kM (xU a1 103 x (a1 87 22)) a3) → (-1 ≤ a3 87 22 ∧ a3 87 22 ≤ 9) → (rSig t n p1 = (0, p3)) → (p1 < p3 ∧ p3 ≤ n) → ∀ a5 : xA, ∀ p5 : Int, (tR a5 t n p5) → (kM (xU a3 104 x (a3 87 22)) a5) → (-1 ≤ a5 87 22 ∧ a5 87 22 ≤ 9) → (rSig t n p3 = (0, p5)) → (p3 < p5 ∧ p5 ≤ n) → (sG t n p5 = -1 ∨ p5 < n) → (¬ ¬ sG t n p5 = 117) → Q (some (xV 1)) (xS (xU (xU (xU a5 105 x (a5 87 22)) 107 x 1) 87 10 (p5 + 1)) b))
    (k3 : (sG t n p = -1 ∨ p < n) → (rKd (sG t n p) = -1 ∨ 97 ≤ sG t n p) → (¬ rKd (sG t n p) = -1) → (sG t n p = -1 ∨ p < n) → (rKd (sG t n p) = -1 ∨ 97 ≤ sG t n p) → ∀ a1 : xA, ∀ p1 : Int, (tR a1 t n p1) → (kM (xU (xU a 102 x (rKd (sG t n p))) 87 10 (p + 1)) a1) → (-1 ≤ a1 87 22 ∧ a1 87 22 ≤ 9) → (rSig t n (p + 1) = (0, p1)) → (p + 1 < p1 ∧ p1 ≤ n) → ∀ a3 : xA, ∀ p3 : Int, (tR a3 t n p3) → (kM (xU a1 103 x (a1 87 22)) a3) → (-1 ≤ a3 87 22 ∧ a3 87 22 ≤ 9) → (rSig t n p1 = (0, p3)) → (p1 < p3 ∧ p3 ≤ n) → ∀ a6 : xA, ∀ f6 : Int, ∀ q6 : Int, (kM (xU a3 104 x (a3 87 22)) a6) → (a6 87 12 = f6) → (f6 < 0 ∧ -10000 < f6) → (rSig t n p3 = (f6, q6)) → Q (some (xV 0)) (xS a6 b))
    (k4 : (sG t n p = -1 ∨ p < n) → (rKd (sG t n p) = -1 ∨ 97 ≤ sG t n p) → (¬ rKd (sG t n p) = -1) → (sG t n p = -1 ∨ p < n) → (rKd (sG t n p) = -1 ∨ 97 ≤ sG t n p) → ∀ a1 : xA, ∀ p1 : Int, (tR a1 t n p1) → (kM (xU (xU a 102 x (rKd (sG t n p))) 87 10 (p + 1)) a1) → (-1 ≤ a1 87 22 ∧ a1 87 22 ≤ 9) → (rSig t n (p + 1) = (0, p1)) → (p + 1 < p1 ∧ p1 ≤ n) → ∀ a4 : xA, ∀ f4 : Int, ∀ q4 : Int, (kM (xU a1 103 x (a1 87 22)) a4) → (a4 87 12 = f4) → (f4 < 0 ∧ -10000 < f4) → (rSig t n p1 = (f4, q4)) → Q (some (xV 0)) (xS a4 b))
    (k5 : (sG t n p = -1 ∨ p < n) → (rKd (sG t n p) = -1 ∨ 97 ≤ sG t n p) → (¬ rKd (sG t n p) = -1) → (sG t n p = -1 ∨ p < n) → (rKd (sG t n p) = -1 ∨ 97 ≤ sG t n p) → ∀ a2 : xA, ∀ f2 : Int, ∀ q2 : Int, (kM (xU (xU a 102 x (rKd (sG t n p))) 87 10 (p + 1)) a2) → (a2 87 12 = f2) → (f2 < 0 ∧ -10000 < f2) → (rSig t n (p + 1) = (f2, q2)) → Q (some (xV 0)) (xS a2 b))
    (k6 : (sG t n p = -1 ∨ p < n) → (rKd (sG t n p) = -1 ∨ 97 ≤ sG t n p) → (¬ ¬ rKd (sG t n p) = -1) → Q (some (xV 0)) (xS (xU a 87 12 (-1000 * 1 - p)) b)) :
    pmWp ro d 12 168 2 0 [some (.ref 87), some (xV x)] [] (xS a b) Q := by
  refine x_aloadn xc168_0 rfl ?_
  refine x_cV (as := []) (rest := []) xc168_1 rfl xi156 xz87 ⟨rfl, rfl⟩ rfl rfl ?_
  refine xk156 hC (by omega) (by omega) hb hA (by omega) (fun h0 => ?_)
  refine x_cS (as := [xV (sG t n p)]) (rest := []) xc168_4 rfl rfl xi169 ⟨rfl, rfl⟩ rfl rfl ?_
  refine xk169 (xRk (by have g0 := sGB (n := n) (p := p) hb (by omega); omega)) (by omega) (fun h1 => ?_)
  refine x_iconst xc168_7 ?_
  refine x_icne xc168_8 (xRk (by have g0 := rKdB (sG t n p); omega)) (xRk (by decide)) (fun h2 => ?_) (fun h2 => ?_)
  · refine x_aloadn xc168_21 rfl ?_
    refine x_gfr xc168_22 rfl rfl xz87 rfl ?_
    refine x_iloadn xc168_25 rfl ?_
    refine x_aloadn xc168_26 rfl ?_
    refine x_cV (as := []) (rest := [xV x, .ref 102]) xc168_27 rfl xi156 xz87 ⟨rfl, rfl⟩ rfl rfl ?_
    refine xk156 hC (by omega) (by omega) hb hA (by omega) (fun h3 => ?_)
    refine x_cS (as := [xV (sG t n p)]) (rest := [xV x, .ref 102]) xc168_30 rfl rfl xi169 ⟨rfl, rfl⟩ rfl rfl ?_
    refine xk169 (xRk (by have g0 := sGB (n := n) (p := p) hb (by omega); omega)) (by omega) (fun h4 => ?_)
    refine x_ias xc168_33 xz102 (by have g0 := xRb h_x; omega) (by have g0 := xRb h_x; omega) (by have g0 := xRb h_x; omega) ?_
    refine x_aloadn xc168_34 rfl ?_
    refine x_aloadn xc168_35 rfl ?_
    refine x_gfi' (k := 10) (v := p) xc168_36 rfl (Or.inl rfl) rfl xz87 (by rw [xUn (by decide), hC.2.2]) ?_
    refine x_iconst xc168_39 ?_
    refine x_iadd xc168_40 ?_
    refine x_pfi (k := 10) xc168_41 rfl ⟨rfl, rfl⟩ rfl xz87 ?_
    refine x_aloadn xc168_44 rfl ?_
    refine x_cV (as := []) (rest := []) xc168_45 rfl xi170 xz87 ⟨rfl, rfl⟩ rfl rfl ?_
    refine xk170 (tR.at (tR.ot (by decide) (by decide) hC)) (by omega) (by omega) hb (xAr_u (xAr_u hA (xRk (by have g0 := rKdB (sG t n p); omega))) (xRk (by omega))) (by omega) (fun a1 p1 h5 h6 h7 h8 h9 => ?_) (fun a2 f2 q2 h10 h11 h12 h13 => ?_)
    · refine x_ifne xc168_48 (xRk (by decide)) (fun _ => ?_) (fun h => absurd h (by omega))
      refine x_aloadn xc168_53 rfl ?_
      refine x_gfr xc168_54 rfl rfl xz87 rfl ?_
      refine x_iloadn xc168_57 rfl ?_
      refine x_aloadn xc168_58 rfl ?_
      refine x_gfi' (k := 22) (v := a1 87 22) xc168_59 rfl (Or.inl rfl) rfl xz87 rfl ?_
      refine x_ias xc168_62 xz103 (by have g0 := xRb h_x; omega) (by have g0 := xRb h_x; omega) (by have g0 := xRb h_x; omega) ?_
      refine x_aloadn xc168_63 rfl ?_
      refine x_cV (as := []) (rest := []) xc168_64 rfl xi170 xz87 ⟨rfl, rfl⟩ rfl rfl ?_
      refine xk170 (tR.ot (by decide) (by decide) h5) (by omega) (by omega) hb (xAr_u h6.1 (xRk (by have g0 := h7; omega))) (by omega) (fun a3 p3 h15 h16 h17 h18 h19 => ?_) (fun a4 f4 q4 h20 h21 h22 h23 => ?_)
      · refine x_ifne xc168_67 (xRk (by decide)) (fun _ => ?_) (fun h => absurd h (by omega))
        refine x_aloadn xc168_72 rfl ?_
        refine x_gfr xc168_73 rfl rfl xz87 rfl ?_
        refine x_iloadn xc168_76 rfl ?_
        refine x_aloadn xc168_77 rfl ?_
        refine x_gfi' (k := 22) (v := a3 87 22) xc168_78 rfl (Or.inl rfl) rfl xz87 rfl ?_
        refine x_ias xc168_81 xz104 (by have g0 := xRb h_x; omega) (by have g0 := xRb h_x; omega) (by have g0 := xRb h_x; omega) ?_
        refine x_aloadn xc168_82 rfl ?_
        refine x_cV (as := []) (rest := []) xc168_83 rfl xi170 xz87 ⟨rfl, rfl⟩ rfl rfl ?_
        refine xk170 (tR.ot (by decide) (by decide) h15) (by omega) (by omega) hb (xAr_u h16.1 (xRk (by have g0 := h17; omega))) (by omega) (fun a5 p5 h25 h26 h27 h28 h29 => ?_) (fun a6 f6 q6 h30 h31 h32 h33 => ?_)
        · refine x_ifne xc168_86 (xRk (by decide)) (fun _ => ?_) (fun h => absurd h (by omega))
          refine x_aloadn xc168_91 rfl ?_
          refine x_gfr xc168_92 rfl rfl xz87 rfl ?_
          refine x_iloadn xc168_95 rfl ?_
          refine x_aloadn xc168_96 rfl ?_
          refine x_gfi' (k := 22) (v := a5 87 22) xc168_97 rfl (Or.inl rfl) rfl xz87 rfl ?_
          refine x_ias xc168_100 xz105 (by have g0 := xRb h_x; omega) (by have g0 := xRb h_x; omega) (by have g0 := xRb h_x; omega) ?_
          refine x_aloadn xc168_101 rfl ?_
          refine x_gfr xc168_102 rfl rfl xz87 rfl ?_
          refine x_iloadn xc168_105 rfl ?_
          refine x_aloadn xc168_106 rfl ?_
          refine x_cV (as := []) (rest := [xV x, .ref 107]) xc168_107 rfl xi156 xz87 ⟨rfl, rfl⟩ rfl rfl ?_
          refine xk156 (tR.ot (by decide) (by decide) h25) (by omega) (by omega) hb (xAr_u h26.1 (xRk (by have g0 := h27; omega))) (by omega) (fun h35 => ?_)
          refine x_bipush xc168_110 (by decide) ?_
          refine x_icne xc168_112 (xRk (by have g0 := sGB (n := n) (p := p5) hb (by omega); omega)) (xRk (by decide)) (fun h36 => ?_) (fun h36 => ?_)
          · refine x_iconst xc168_119 ?_
            refine x_zas (by omega) xc168_120 xz107 (by have g0 := xRb h_x; omega) (by have g0 := xRb h_x; omega) (by have g0 := xRb h_x; omega) ?_
            refine x_aloadn xc168_121 rfl ?_
            refine x_gfr xc168_122 rfl rfl xz87 rfl ?_
            refine x_iloadn xc168_125 rfl ?_
            refine x_bal' (v := 0) xc168_126 xz107 (Or.inl rfl) (by have g0 := xRb h_x; omega) (by have g0 := xRb h_x; omega) (by have g0 := xRb h_x; omega) (by rw [xUa]) ?_
            refine x_ifeq xc168_127 (xRk (by decide)) (fun _ => ?_) (fun h => absurd h (by omega))
            refine x_iconst xc168_140 ?_
            refine x_iret xc168_141 (Or.inr ⟨rfl, (by omega)⟩) ?_
            exact k1 h0 h1 h2 h3 h4 a1 p1 h5 h6 h7 h8 h9 a3 p3 h15 h16 h17 h18 h19 a5 p5 h25 h26 h27 h28 h29 h35 h36
          · refine x_iconst xc168_115 ?_
            refine x_goto xc168_116 ?_
            refine x_zas (by omega) xc168_120 xz107 (by have g0 := xRb h_x; omega) (by have g0 := xRb h_x; omega) (by have g0 := xRb h_x; omega) ?_
            refine x_aloadn xc168_121 rfl ?_
            refine x_gfr xc168_122 rfl rfl xz87 rfl ?_
            refine x_iloadn xc168_125 rfl ?_
            refine x_bal' (v := 1) xc168_126 xz107 (Or.inl rfl) (by have g0 := xRb h_x; omega) (by have g0 := xRb h_x; omega) (by have g0 := xRb h_x; omega) (by rw [xUa]) ?_
            refine x_ifeq xc168_127 (xRk (by decide)) (fun h => absurd h (by omega)) (fun _ => ?_)
            refine x_aloadn xc168_130 rfl ?_
            refine x_aloadn xc168_131 rfl ?_
            refine x_gfi' (k := 10) (v := p5) xc168_132 rfl (Or.inl rfl) rfl xz87 (by rw [xUn (by decide), xUn (by decide), h25.2.2]) ?_
            refine x_iconst xc168_135 ?_
            refine x_iadd xc168_136 ?_
            refine x_pfi (k := 10) xc168_137 rfl ⟨rfl, rfl⟩ rfl xz87 ?_
            refine x_iconst xc168_140 ?_
            refine x_iret xc168_141 (Or.inr ⟨rfl, (by omega)⟩) ?_
            exact k2 h0 h1 h2 h3 h4 a1 p1 h5 h6 h7 h8 h9 a3 p3 h15 h16 h17 h18 h19 a5 p5 h25 h26 h27 h28 h29 h35 h36
        · refine x_ifne xc168_86 (xRk (by decide)) (fun h => absurd h (by omega)) (fun _ => ?_)
          refine x_iconst xc168_89 ?_
          refine x_iret xc168_90 (Or.inr ⟨rfl, (by omega)⟩) ?_
          exact k3 h0 h1 h2 h3 h4 a1 p1 h5 h6 h7 h8 h9 a3 p3 h15 h16 h17 h18 h19 a6 f6 q6 h30 h31 h32 h33
      · refine x_ifne xc168_67 (xRk (by decide)) (fun h => absurd h (by omega)) (fun _ => ?_)
        refine x_iconst xc168_70 ?_
        refine x_iret xc168_71 (Or.inr ⟨rfl, (by omega)⟩) ?_
        exact k4 h0 h1 h2 h3 h4 a1 p1 h5 h6 h7 h8 h9 a4 f4 q4 h20 h21 h22 h23
    · refine x_ifne xc168_48 (xRk (by decide)) (fun h => absurd h (by omega)) (fun _ => ?_)
      refine x_iconst xc168_51 ?_
      refine x_iret xc168_52 (Or.inr ⟨rfl, (by omega)⟩) ?_
      exact k5 h0 h1 h2 h3 h4 a2 f2 q2 h10 h11 h12 h13
  · refine x_aloadn xc168_11 rfl ?_
    refine x_iconst xc168_12 ?_
    refine x_aloadn xc168_13 rfl ?_
    refine x_gfi' (k := 10) (v := p) xc168_14 rfl (Or.inl rfl) rfl xz87 hC.2.2 ?_
    refine x_cV (as := [xV 1, xV p]) (rest := []) xc168_17 rfl xi158 xz87 ⟨rfl, rfl⟩ rfl rfl ?_
    refine xk158 (xRk (by decide)) (xRk (by omega)) (by omega) ?_
    refine x_iret xc168_20 (Or.inr ⟨rfl, (by omega)⟩) ?_
    exact k6 h0 h1 h2

theorem xk168 {ro : Nat → Nat × (Nat → Int32)} {d : Nat} {Q : Option Value → pmS → Prop} {a : xA} {b : xB} {t : Int → Int} {n p : Int} (hC : tR a t n p) (hp : 0 ≤ p ∧ p ≤ n) (hn : n ≤ 60) (hb : tB t) (hA : xAr a) {x : Int} (hx : 0 ≤ x ∧ x < 48) (hd : 4 ≤ d)
    (hT : ∀ (a1 : xA) (p1 : Int), tR a1 t n p1 → kM a a1 → rEv t n p = (0, p1) → p < p1 ∧ p1 ≤ n → Q (some (xV 1)) (xS a1 b))
    (hF : ∀ (a1 : xA) (f q : Int), kM a a1 → a1 87 12 = f → f < 0 ∧ -10000 < f → rEv t n p = (f, q) → Q (some (xV 0)) (xS a1 b)) : pmCs ro d 168 [.ref 87, xV x] (xS a b) Q := by
  refine pmCs_deep (d := 4) (xg168 (w168 hC hp hn hb hA ⟨by omega, by omega⟩ hx (by decide) ?_ ?_ ?_ ?_ ?_ ?_)) hd
  · intro h0 h1 h2 h3 h4 a1 p1 h5 h6 h7 h8 h9 a3 p3 h15 h16 h17 h18 h19 a5 p5 h25 h26 h27 h28 h29 h35 h36
    first | (exfalso; omega) | exact hT _ (p5) (tR.ot (by decide) (by decide) (tR.ot (by decide) (by decide) h25)) (kM.u (xRk (by decide)) (by omega) (kM.u (xRk (by have g0 := h27; omega)) (by omega) (kM.tr (kM.u (xRk (by have g0 := h17; omega)) (by omega) (kM.tr (kM.u (xRk (by have g0 := h7; omega)) (by omega) (kM.tr (kM.u (xRk (by omega)) (by omega) (kM.u (xRk (by have g0 := rKdB (sG t n p); omega)) (by omega) (kM.r hA))) h6)) h16)) h26))) (by unfold rEv; (repeat (first | rw [rSeq_00] | rw [rSeq_as] | rw [rSeq_0 (by assumption)] | rw [rSeq_n (by assumption) (by omega)] | rw [if_neg (by omega)] | rw [if_pos (by omega)])); all_goals (repeat' split); all_goals (first | (exfalso; omega) | assumption | rfl)) (by omega)
  · intro h0 h1 h2 h3 h4 a1 p1 h5 h6 h7 h8 h9 a3 p3 h15 h16 h17 h18 h19 a5 p5 h25 h26 h27 h28 h29 h35 h36
    first | (exfalso; omega) | exact hT _ (p5 + 1) (tR.at (tR.ot (by decide) (by decide) (tR.ot (by decide) (by decide) h25))) (kM.u (xRk (by omega)) (by omega) (kM.u (xRk (by decide)) (by omega) (kM.u (xRk (by have g0 := h27; omega)) (by omega) (kM.tr (kM.u (xRk (by have g0 := h17; omega)) (by omega) (kM.tr (kM.u (xRk (by have g0 := h7; omega)) (by omega) (kM.tr (kM.u (xRk (by omega)) (by omega) (kM.u (xRk (by have g0 := rKdB (sG t n p); omega)) (by omega) (kM.r hA))) h6)) h16)) h26)))) (by unfold rEv; (repeat (first | rw [rSeq_00] | rw [rSeq_as] | rw [rSeq_0 (by assumption)] | rw [rSeq_n (by assumption) (by omega)] | rw [if_neg (by omega)] | rw [if_pos (by omega)])); all_goals (repeat' split); all_goals (first | (exfalso; omega) | assumption | rfl)) (by omega)
  · intro h0 h1 h2 h3 h4 a1 p1 h5 h6 h7 h8 h9 a3 p3 h15 h16 h17 h18 h19 a6 f6 q6 h30 h31 h32 h33
    first | (exfalso; omega) | exact hF _ (f6) _ (kM.tr (kM.u (xRk (by have g0 := h17; omega)) (by omega) (kM.tr (kM.u (xRk (by have g0 := h7; omega)) (by omega) (kM.tr (kM.u (xRk (by omega)) (by omega) (kM.u (xRk (by have g0 := rKdB (sG t n p); omega)) (by omega) (kM.r hA))) h6)) h16)) h30) h31 (by omega) (Prod.ext (by unfold rEv; (repeat (first | rw [rSeq_00] | rw [rSeq_as] | rw [rSeq_0 (by assumption)] | rw [rSeq_n (by assumption) (by omega)] | rw [if_neg (by omega)] | rw [if_pos (by omega)])); all_goals (repeat' split); all_goals (first | (exfalso; omega) | (dsimp only; exact rFst (by assumption)) | (dsimp only; omega) | omega)) rfl)
  · intro h0 h1 h2 h3 h4 a1 p1 h5 h6 h7 h8 h9 a4 f4 q4 h20 h21 h22 h23
    first | (exfalso; omega) | exact hF _ (f4) _ (kM.tr (kM.u (xRk (by have g0 := h7; omega)) (by omega) (kM.tr (kM.u (xRk (by omega)) (by omega) (kM.u (xRk (by have g0 := rKdB (sG t n p); omega)) (by omega) (kM.r hA))) h6)) h20) h21 (by omega) (Prod.ext (by unfold rEv; (repeat (first | rw [rSeq_00] | rw [rSeq_as] | rw [rSeq_0 (by assumption)] | rw [rSeq_n (by assumption) (by omega)] | rw [if_neg (by omega)] | rw [if_pos (by omega)])); all_goals (repeat' split); all_goals (first | (exfalso; omega) | (dsimp only; exact rFst (by assumption)) | (dsimp only; omega) | omega)) rfl)
  · intro h0 h1 h2 h3 h4 a2 f2 q2 h10 h11 h12 h13
    first | (exfalso; omega) | exact hF _ (f2) _ (kM.tr (kM.u (xRk (by omega)) (by omega) (kM.u (xRk (by have g0 := rKdB (sG t n p); omega)) (by omega) (kM.r hA))) h10) h11 (by omega) (Prod.ext (by unfold rEv; (repeat (first | rw [rSeq_00] | rw [rSeq_as] | rw [rSeq_0 (by assumption)] | rw [rSeq_n (by assumption) (by omega)] | rw [if_neg (by omega)] | rw [if_pos (by omega)])); all_goals (repeat' split); all_goals (first | (exfalso; omega) | (dsimp only; exact rFst (by assumption)) | (dsimp only; omega) | omega)) rfl)
  · intro h0 h1 h2
    first | (exfalso; omega) | exact hF _ (-1000 * 1 - p) _ (kM.u (xRk (by omega)) (by omega) (kM.r hA)) (by rw [xUa]) (by omega) (Prod.ext (by unfold rEv; (repeat (first | rw [rSeq_00] | rw [rSeq_as] | rw [rSeq_0 (by assumption)] | rw [rSeq_n (by assumption) (by omega)] | rw [if_neg (by omega)] | rw [if_pos (by omega)])); all_goals (repeat' split); all_goals (first | (exfalso; omega) | (dsimp only; exact rFst (by assumption)) | (dsimp only; omega) | omega)) rfl)

theorem xg172 {ro : Nat → Nat × (Nat → Int32)} {d : Nat} {Q : Option Value → pmS → Prop} {a : xA} {b : xB} {x : Int} (h : pmWp ro d 12 172 2 0 [some (.ref 87), some (xV x), none] [] (xS a b) Q) : pmCs ro (d + 1) 172 [.ref 87, xV x] (xS a b) Q := x_go xi172 rfl rfl rfl rfl rfl h
theorem w172 {ro : Nat → Nat × (Nat → Int32)} {d : Nat} {Q : Option Value → pmS → Prop} {a : xA} {b : xB} {t : Int → Int} {n p : Int} (hC : tR a t n p) (hp : 0 ≤ p ∧ p ≤ n) (hn : n ≤ 60) (hb : tB t) (hA : xAr a) {x : Int} (h_x : xR x) (hx : 0 ≤ x ∧ x < 24) (hd : 3 ≤ d)
    (k1 : ∀ a1 : xA, ∀ p1 : Int, (tR a1 t n p1) → (kM a a1) → (rCom t n 44 p = (0, p1)) → (p < p1 ∧ p1 ≤ n) → (sG t n p1 = -1 ∨ p1 < n) → (sG t n p1 < 48) → Q (some (xV 0)) (xS (xU a1 87 12 (-1000 * 1 - p1)) b))
    (k2 : ∀ a1 : xA, ∀ p1 : Int, (tR a1 t n p1) → (kM a a1) → (rCom t n 44 p = (0, p1)) → (p < p1 ∧ p1 ≤ n) → (sG t n p1 = -1 ∨ p1 < n) → (¬ sG t n p1 < 48) → (sG t n p1 = -1 ∨ p1 < n) → (sG t n p1 ≤ 57) → (sG t n p1 = -1 ∨ p1 < n) → (sG t n p1 = -1 ∨ p1 < n) → (57 < sG t n p1) → Q (some (xV 1)) (xS (xU a1 106 x 0) b))
    (k3 : ∀ a1 : xA, ∀ p1 : Int, (tR a1 t n p1) → (kM a a1) → (rCom t n 44 p = (0, p1)) → (p < p1 ∧ p1 ≤ n) → (sG t n p1 = -1 ∨ p1 < n) → (¬ sG t n p1 < 48) → (sG t n p1 = -1 ∨ p1 < n) → (sG t n p1 ≤ 57) → (sG t n p1 = -1 ∨ p1 < n) → (sG t n p1 = -1 ∨ p1 < n) → (¬ 57 < sG t n p1) → (sG t n p1 = -1 ∨ p1 < n) → (sG t n (p1 + 1) = -1 ∨ p1 + 1 < n) → (sG t n (p1 + 1) < 48) → Q (some (xV 1)) (xS (xU (xU (xU a1 106 x 0) 106 x (10 * 0 + (sG t n p1) - 48)) 87 10 (p1 + 1)) b))
    (k4 : ∀ a1 : xA, ∀ p1 : Int, (tR a1 t n p1) → (kM a a1) → (rCom t n 44 p = (0, p1)) → (p < p1 ∧ p1 ≤ n) → (sG t n p1 = -1 ∨ p1 < n) → (¬ sG t n p1 < 48) → (sG t n p1 = -1 ∨ p1 < n) → (sG t n p1 ≤ 57) → (sG t n p1 = -1 ∨ p1 < n) → (sG t n p1 = -1 ∨ p1 < n) → (¬ 57 < sG t n p1) → (sG t n p1 = -1 ∨ p1 < n) → (sG t n (p1 + 1) = -1 ∨ p1 + 1 < n) → (¬ sG t n (p1 + 1) < 48) → (sG t n (p1 + 1) = -1 ∨ p1 + 1 < n) → (57 < sG t n (p1 + 1)) → Q (some (xV 1)) (xS (xU (xU (xU a1 106 x 0) 106 x (10 * 0 + (sG t n p1) - 48)) 87 10 (p1 + 1)) b))
    (k5 : ∀ a1 : xA, ∀ p1 : Int, (tR a1 t n p1) → (kM a a1) → (rCom t n 44 p = (0, p1)) → (p < p1 ∧ p1 ≤ n) → (sG t n p1 = -1 ∨ p1 < n) → (¬ sG t n p1 < 48) → (sG t n p1 = -1 ∨ p1 < n) → (sG t n p1 ≤ 57) → (sG t n p1 = -1 ∨ p1 < n) → (sG t n p1 = -1 ∨ p1 < n) → (¬ 57 < sG t n p1) → (sG t n p1 = -1 ∨ p1 < n) → (sG t n (p1 + 1) = -1 ∨ p1 + 1 < n) → (¬ sG t n (p1 + 1) < 48) → (sG t n (p1 + 1) = -1 ∨ p1 + 1 < n) → (¬ 57 < sG t n (p1 + 1)) → (sG t n (p1 + 1) = -1 ∨ p1 + 1 < n) → (sG t n (p1 + 1 + 1) = -1 ∨ p1 + 1 + 1 < n) → (sG t n (p1 + 1 + 1) < 48) → Q (some (xV 1)) (xS (xU (xU (xU (xU (xU a1 106 x 0) 106 x (10 * 0 + (sG t n p1) - 48)) 87 10 (p1 + 1)) 106 x (10 * (10 * 0 + (sG t n p1) - 48) + (sG t n (p1 + 1)) - 48)) 87 10 (p1 + 1 + 1)) b))
    (k6 : ∀ a1 : xA, ∀ p1 : Int, (tR a1 t n p1) → (kM a a1) → (rCom t n 44 p = (0, p1)) → (p < p1 ∧ p1 ≤ n) → (sG t n p1 = -1 ∨ p1 < n) → (¬ sG t n p1 < 48) → (sG t n p1 = -1 ∨ p1 < n) → (sG t n p1 ≤ 57) → (sG t n p1 = -1 ∨ p1 < n) → (sG t n p1 = -1 ∨ p1 < n) → (¬ 57 < sG t n p1) → (sG t n p1 = -1 ∨ p1 < n) → (sG t n (p1 + 1) = -1 ∨ p1 + 1 < n) → (¬ sG t n (p1 + 1) < 48) → (sG t n (p1 + 1) = -1 ∨ p1 + 1 < n) → (¬ 57 < sG t n (p1 + 1)) → (sG t n (p1 + 1) = -1 ∨ p1 + 1 < n) → (sG t n (p1 + 1 + 1) = -1 ∨ p1 + 1 + 1 < n) → (¬ sG t n (p1 + 1 + 1) < 48) → (sG t n (p1 + 1 + 1) = -1 ∨ p1 + 1 + 1 < n) → (57 < sG t n (p1 + 1 + 1)) → Q (some (xV 1)) (xS (xU (xU (xU (xU (xU a1 106 x 0) 106 x (10 * 0 + (sG t n p1) - 48)) 87 10 (p1 + 1)) 106 x (10 * (10 * 0 + (sG t n p1) - 48) + (sG t n (p1 + 1)) - 48)) 87 10 (p1 + 1 + 1)) b))
    (k7 : ∀ a1 : xA, ∀ p1 : Int, (tR a1 t n p1) → (kM a a1) → (rCom t n 44 p = (0, p1)) → (p < p1 ∧ p1 ≤ n) → (sG t n p1 = -1 ∨ p1 < n) → (¬ sG t n p1 < 48) → (sG t n p1 = -1 ∨ p1 < n) → (sG t n p1 ≤ 57) → (sG t n p1 = -1 ∨ p1 < n) → (sG t n p1 = -1 ∨ p1 < n) → (¬ 57 < sG t n p1) → (sG t n p1 = -1 ∨ p1 < n) → (sG t n (p1 + 1) = -1 ∨ p1 + 1 < n) → (¬ sG t n (p1 + 1) < 48) → (sG t n (p1 + 1) = -1 ∨ p1 + 1 < n) → (¬ 57 < sG t n (p1 + 1)) → (sG t n (p1 + 1) = -1 ∨ p1 + 1 < n) → (sG t n (p1 + 1 + 1) = -1 ∨ p1 + 1 + 1 < n) → (¬ sG t n (p1 + 1 + 1) < 48) → (sG t n (p1 + 1 + 1) = -1 ∨ p1 + 1 + 1 < n) → (¬ 57 < sG t n (p1 + 1 + 1)) → Q (some (xV 0)) (xS (xU (xU (xU (xU (xU (xU a1 106 x 0) 106 x (10 * 0 + (sG t n p1) - 48)) 87 10 (p1 + 1)) 106 x (10 * (10 * 0 + (sG t n p1) - 48) + (sG t n (p1 + 1)) - 48)) 87 10 (p1 + 1 + 1)) 87 12 (-1000 * 2 - (p1 + 1 + 1))) b))
    (k8 : ∀ a1 : xA, ∀ p1 : Int, (tR a1 t n p1) → (kM a a1) → (rCom t n 44 p = (0, p1)) → (p < p1 ∧ p1 ≤ n) → (sG t n p1 = -1 ∨ p1 < n) → (¬ sG t n p1 < 48) → (sG t n p1 = -1 ∨ p1 < n) → (¬ sG t n p1 ≤ 57) → Q (some (xV 0)) (xS (xU a1 87 12 (-1000 * 1 - p1)) b))
    (k9 : ∀ a2 : xA, ∀ f2 : Int, ∀ q2 : Int, (kM a a2) → (a2 87 12 = f2) → (f2 < 0 ∧ -10000 < f2) → (rCom t n 44 p = (f2, q2)) → Q (some (xV 0)) (xS a2 b)) :
    pmWp ro d 12 172 2 0 [some (.ref 87), some (xV x), none] [] (xS a b) Q := by
  refine x_aloadn xc172_0 rfl ?_
  refine x_bipush xc172_1 (by decide) ?_
  refine x_cV (as := [xV 44]) (rest := []) xc172_3 rfl xi171 xz87 ⟨rfl, rfl⟩ rfl rfl ?_
  refine xk171 hC (by omega) (by omega) hb hA (by omega) (by omega) (fun a1 p1 h0 h1 h3 h4 => ?_) (fun a2 f2 q2 h5 h6 h7 h8 => ?_)
  · refine x_ifne xc172_6 (xRk (by decide)) (fun _ => ?_) (fun h => absurd h (by omega))
    refine x_aloadn xc172_11 rfl ?_
    refine x_gfi' (k := 10) (v := p1) xc172_12 rfl (Or.inl rfl) rfl xz87 h0.2.2 ?_
    refine x_istoren (pl' := [some (.ref 87), some (xV x), some (xV p1)]) xc172_15 rfl rfl ?_
    refine x_aloadn xc172_16 rfl ?_
    refine x_cV (as := []) (rest := []) xc172_17 rfl xi156 xz87 ⟨rfl, rfl⟩ rfl rfl ?_
    refine xk156 h0 (by omega) (by omega) hb h1.1 (by omega) (fun h10 => ?_)
    refine x_bipush xc172_20 (by decide) ?_
    refine x_iclt xc172_22 (xRk (by have g0 := sGB (n := n) (p := p1) hb (by omega); omega)) (xRk (by decide)) (fun h11 => ?_) (fun h11 => ?_)
    · refine x_aloadn xc172_34 rfl ?_
      refine x_iconst xc172_35 ?_
      refine x_aloadn xc172_36 rfl ?_
      refine x_gfi' (k := 10) (v := p1) xc172_37 rfl (Or.inl rfl) rfl xz87 h0.2.2 ?_
      refine x_cV (as := [xV 1, xV p1]) (rest := []) xc172_40 rfl xi158 xz87 ⟨rfl, rfl⟩ rfl rfl ?_
      refine xk158 (xRk (by decide)) (xRk (by omega)) (by omega) ?_
      refine x_iret xc172_43 (Or.inr ⟨rfl, (by omega)⟩) ?_
      exact k1 a1 p1 h0 h1 h3 h4 h10 h11
    · refine x_aloadn xc172_25 rfl ?_
      refine x_cV (as := []) (rest := []) xc172_26 rfl xi156 xz87 ⟨rfl, rfl⟩ rfl rfl ?_
      refine xk156 h0 (by omega) (by omega) hb h1.1 (by omega) (fun h12 => ?_)
      refine x_bipush xc172_29 (by decide) ?_
      refine x_icle xc172_31 (xRk (by have g0 := sGB (n := n) (p := p1) hb (by omega); omega)) (xRk (by decide)) (fun h13 => ?_) (fun h13 => ?_)
      · refine x_aloadn xc172_44 rfl ?_
        refine x_gfr xc172_45 rfl rfl xz87 rfl ?_
        refine x_iloadn xc172_48 rfl ?_
        refine x_iconst xc172_49 ?_
        refine x_ias xc172_50 xz106 (by have g0 := xRb h_x; omega) (by have g0 := xRb h_x; omega) (by have g0 := xRb h_x; omega) ?_
        refine x_aloadn xc172_51 rfl ?_
        refine x_cV (as := []) (rest := []) xc172_52 rfl xi156 xz87 ⟨rfl, rfl⟩ rfl rfl ?_
        refine xk156 (tR.ot (by decide) (by decide) h0) (by omega) (by omega) hb (xAr_u h1.1 (xRk (by decide))) (by omega) (fun h14 => ?_)
        refine x_bipush xc172_55 (by decide) ?_
        refine x_iclt xc172_57 (xRk (by have g0 := sGB (n := n) (p := p1) hb (by omega); omega)) (xRk (by decide)) (fun h => absurd h (by omega)) (fun _ => ?_)
        refine x_aloadn xc172_60 rfl ?_
        refine x_cV (as := []) (rest := []) xc172_61 rfl xi156 xz87 ⟨rfl, rfl⟩ rfl rfl ?_
        refine xk156 (tR.ot (by decide) (by decide) h0) (by omega) (by omega) hb (xAr_u h1.1 (xRk (by decide))) (by omega) (fun h16 => ?_)
        refine x_bipush xc172_64 (by decide) ?_
        refine x_icgt xc172_66 (xRk (by have g0 := sGB (n := n) (p := p1) hb (by omega); omega)) (xRk (by decide)) (fun h17 => ?_) (fun h17 => ?_)
        · refine x_iconst xc172_125 ?_
          refine x_iret xc172_126 (Or.inr ⟨rfl, (by omega)⟩) ?_
          exact k2 a1 p1 h0 h1 h3 h4 h10 h11 h12 h13 h14 h16 h17
        · refine x_aloadn xc172_69 rfl ?_
          refine x_gfi' (k := 10) (v := p1) xc172_70 rfl (Or.inl rfl) rfl xz87 (by rw [xUn (by decide), h0.2.2]) ?_
          refine x_iloadn xc172_73 rfl ?_
          refine x_iconst xc172_74 ?_
          refine x_iadd xc172_75 ?_
          refine x_icne xc172_76 (xRk (by omega)) (xRk (by omega)) (fun _ => ?_) (fun h => absurd h (by omega))
          refine x_aloadn xc172_89 rfl ?_
          refine x_gfr xc172_90 rfl rfl xz87 rfl ?_
          refine x_iloadn xc172_93 rfl ?_
          refine x_bipush xc172_94 (by decide) ?_
          refine x_aloadn xc172_96 rfl ?_
          refine x_gfr xc172_97 rfl rfl xz87 rfl ?_
          refine x_iloadn xc172_100 rfl ?_
          refine x_ial' (v := 0) xc172_101 xz106 rfl (by have g0 := xRb h_x; omega) (by have g0 := xRb h_x; omega) (by have g0 := xRb h_x; omega) (by rw [xUa]) ?_
          refine x_imul xc172_102 ?_
          refine x_aloadn xc172_103 rfl ?_
          refine x_cV (as := []) (rest := [xV (10 * 0), xV x, .ref 106]) xc172_104 rfl xi156 xz87 ⟨rfl, rfl⟩ rfl rfl ?_
          refine xk156 (tR.ot (by decide) (by decide) h0) (by omega) (by omega) hb (xAr_u h1.1 (xRk (by decide))) (by omega) (fun h19 => ?_)
          refine x_iadd xc172_107 ?_
          refine x_bipush xc172_108 (by decide) ?_
          refine x_isub xc172_110 ?_
          refine x_ias xc172_111 xz106 (by have g0 := xRb h_x; omega) (by have g0 := xRb h_x; omega) (by have g0 := xRb h_x; omega) ?_
          refine x_aloadn xc172_112 rfl ?_
          refine x_aloadn xc172_113 rfl ?_
          refine x_gfi' (k := 10) (v := p1) xc172_114 rfl (Or.inl rfl) rfl xz87 (by rw [xUn (by decide), xUn (by decide), h0.2.2]) ?_
          refine x_iconst xc172_117 ?_
          refine x_iadd xc172_118 ?_
          refine x_pfi (k := 10) xc172_119 rfl ⟨rfl, rfl⟩ rfl xz87 ?_
          refine x_goto xc172_122 ?_
          refine x_aloadn xc172_51 rfl ?_
          refine x_cV (as := []) (rest := []) xc172_52 rfl xi156 xz87 ⟨rfl, rfl⟩ rfl rfl ?_
          refine xk156 (tR.at (tR.ot (by decide) (by decide) (tR.ot (by decide) (by decide) h0))) (by omega) (by omega) hb (xAr_u (xAr_u (xAr_u h1.1 (xRk (by decide))) (xRk (by have g0 := sGB (n := n) (p := p1) hb (by omega); omega))) (xRk (by omega))) (by omega) (fun h20 => ?_)
          refine x_bipush xc172_55 (by decide) ?_
          refine x_iclt xc172_57 (xRk (by have g0 := sGB (n := n) (p := p1 + 1) hb (by omega); omega)) (xRk (by decide)) (fun h21 => ?_) (fun h21 => ?_)
          · refine x_iconst xc172_125 ?_
            refine x_iret xc172_126 (Or.inr ⟨rfl, (by omega)⟩) ?_
            exact k3 a1 p1 h0 h1 h3 h4 h10 h11 h12 h13 h14 h16 h17 h19 h20 h21
          · refine x_aloadn xc172_60 rfl ?_
            refine x_cV (as := []) (rest := []) xc172_61 rfl xi156 xz87 ⟨rfl, rfl⟩ rfl rfl ?_
            refine xk156 (tR.at (tR.ot (by decide) (by decide) (tR.ot (by decide) (by decide) h0))) (by omega) (by omega) hb (xAr_u (xAr_u (xAr_u h1.1 (xRk (by decide))) (xRk (by have g0 := sGB (n := n) (p := p1) hb (by omega); omega))) (xRk (by omega))) (by omega) (fun h22 => ?_)
            refine x_bipush xc172_64 (by decide) ?_
            refine x_icgt xc172_66 (xRk (by have g0 := sGB (n := n) (p := p1 + 1) hb (by omega); omega)) (xRk (by decide)) (fun h23 => ?_) (fun h23 => ?_)
            · refine x_iconst xc172_125 ?_
              refine x_iret xc172_126 (Or.inr ⟨rfl, (by omega)⟩) ?_
              exact k4 a1 p1 h0 h1 h3 h4 h10 h11 h12 h13 h14 h16 h17 h19 h20 h21 h22 h23
            · refine x_aloadn xc172_69 rfl ?_
              refine x_gfi' (k := 10) (v := p1 + 1) xc172_70 rfl (Or.inl rfl) rfl xz87 (by rw [xUa]) ?_
              refine x_iloadn xc172_73 rfl ?_
              refine x_iconst xc172_74 ?_
              refine x_iadd xc172_75 ?_
              refine x_icne xc172_76 (xRk (by omega)) (xRk (by omega)) (fun _ => ?_) (fun h => absurd h (by omega))
              refine x_aloadn xc172_89 rfl ?_
              refine x_gfr xc172_90 rfl rfl xz87 rfl ?_
              refine x_iloadn xc172_93 rfl ?_
              refine x_bipush xc172_94 (by decide) ?_
              refine x_aloadn xc172_96 rfl ?_
              refine x_gfr xc172_97 rfl rfl xz87 rfl ?_
              refine x_iloadn xc172_100 rfl ?_
              refine x_ial' (v := 10 * 0 + (sG t n p1) - 48) xc172_101 xz106 rfl (by have g0 := xRb h_x; omega) (by have g0 := xRb h_x; omega) (by have g0 := xRb h_x; omega) (by rw [xUn (by decide), xUa]) ?_
              refine x_imul xc172_102 ?_
              refine x_aloadn xc172_103 rfl ?_
              refine x_cV (as := []) (rest := [xV (10 * (10 * 0 + (sG t n p1) - 48)), xV x, .ref 106]) xc172_104 rfl xi156 xz87 ⟨rfl, rfl⟩ rfl rfl ?_
              refine xk156 (tR.at (tR.ot (by decide) (by decide) (tR.ot (by decide) (by decide) h0))) (by omega) (by omega) hb (xAr_u (xAr_u (xAr_u h1.1 (xRk (by decide))) (xRk (by have g0 := sGB (n := n) (p := p1) hb (by omega); omega))) (xRk (by omega))) (by omega) (fun h25 => ?_)
              refine x_iadd xc172_107 ?_
              refine x_bipush xc172_108 (by decide) ?_
              refine x_isub xc172_110 ?_
              refine x_ias xc172_111 xz106 (by have g0 := xRb h_x; omega) (by have g0 := xRb h_x; omega) (by have g0 := xRb h_x; omega) ?_
              refine x_aloadn xc172_112 rfl ?_
              refine x_aloadn xc172_113 rfl ?_
              refine x_gfi' (k := 10) (v := p1 + 1) xc172_114 rfl (Or.inl rfl) rfl xz87 (by rw [xUn (by decide), xUa]) ?_
              refine x_iconst xc172_117 ?_
              refine x_iadd xc172_118 ?_
              refine x_pfi (k := 10) xc172_119 rfl ⟨rfl, rfl⟩ rfl xz87 ?_
              refine x_goto xc172_122 ?_
              refine x_aloadn xc172_51 rfl ?_
              refine x_cV (as := []) (rest := []) xc172_52 rfl xi156 xz87 ⟨rfl, rfl⟩ rfl rfl ?_
              refine xk156 (tR.at (tR.ot (by decide) (by decide) (tR.at (tR.ot (by decide) (by decide) (tR.ot (by decide) (by decide) h0))))) (by omega) (by omega) hb (xAr_u (xAr_u (xAr_u (xAr_u (xAr_u h1.1 (xRk (by decide))) (xRk (by have g0 := sGB (n := n) (p := p1) hb (by omega); omega))) (xRk (by omega))) (xRk (by have g0 := sGB (n := n) (p := p1) hb (by omega); have g1 := sGB (n := n) (p := p1 + 1) hb (by omega); omega))) (xRk (by omega))) (by omega) (fun h26 => ?_)
              refine x_bipush xc172_55 (by decide) ?_
              refine x_iclt xc172_57 (xRk (by have g0 := sGB (n := n) (p := p1 + 1 + 1) hb (by omega); omega)) (xRk (by decide)) (fun h27 => ?_) (fun h27 => ?_)
              · refine x_iconst xc172_125 ?_
                refine x_iret xc172_126 (Or.inr ⟨rfl, (by omega)⟩) ?_
                exact k5 a1 p1 h0 h1 h3 h4 h10 h11 h12 h13 h14 h16 h17 h19 h20 h21 h22 h23 h25 h26 h27
              · refine x_aloadn xc172_60 rfl ?_
                refine x_cV (as := []) (rest := []) xc172_61 rfl xi156 xz87 ⟨rfl, rfl⟩ rfl rfl ?_
                refine xk156 (tR.at (tR.ot (by decide) (by decide) (tR.at (tR.ot (by decide) (by decide) (tR.ot (by decide) (by decide) h0))))) (by omega) (by omega) hb (xAr_u (xAr_u (xAr_u (xAr_u (xAr_u h1.1 (xRk (by decide))) (xRk (by have g0 := sGB (n := n) (p := p1) hb (by omega); omega))) (xRk (by omega))) (xRk (by have g0 := sGB (n := n) (p := p1) hb (by omega); have g1 := sGB (n := n) (p := p1 + 1) hb (by omega); omega))) (xRk (by omega))) (by omega) (fun h28 => ?_)
                refine x_bipush xc172_64 (by decide) ?_
                refine x_icgt xc172_66 (xRk (by have g0 := sGB (n := n) (p := p1 + 1 + 1) hb (by omega); omega)) (xRk (by decide)) (fun h29 => ?_) (fun h29 => ?_)
                · refine x_iconst xc172_125 ?_
                  refine x_iret xc172_126 (Or.inr ⟨rfl, (by omega)⟩) ?_
                  exact k6 a1 p1 h0 h1 h3 h4 h10 h11 h12 h13 h14 h16 h17 h19 h20 h21 h22 h23 h25 h26 h27 h28 h29
                · refine x_aloadn xc172_69 rfl ?_
                  refine x_gfi' (k := 10) (v := p1 + 1 + 1) xc172_70 rfl (Or.inl rfl) rfl xz87 (by rw [xUa]) ?_
                  refine x_iloadn xc172_73 rfl ?_
                  refine x_iconst xc172_74 ?_
                  refine x_iadd xc172_75 ?_
                  refine x_icne xc172_76 (xRk (by omega)) (xRk (by omega)) (fun h => absurd h (by omega)) (fun _ => ?_)
                  refine x_aloadn xc172_79 rfl ?_
                  refine x_iconst xc172_80 ?_
                  refine x_aloadn xc172_81 rfl ?_
                  refine x_gfi' (k := 10) (v := p1 + 1 + 1) xc172_82 rfl (Or.inl rfl) rfl xz87 (by rw [xUa]) ?_
                  refine x_cV (as := [xV 2, xV (p1 + 1 + 1)]) (rest := []) xc172_85 rfl xi158 xz87 ⟨rfl, rfl⟩ rfl rfl ?_
                  refine xk158 (xRk (by decide)) (xRk (by omega)) (by omega) ?_
                  refine x_iret xc172_88 (Or.inr ⟨rfl, (by omega)⟩) ?_
                  exact k7 a1 p1 h0 h1 h3 h4 h10 h11 h12 h13 h14 h16 h17 h19 h20 h21 h22 h23 h25 h26 h27 h28 h29
      · refine x_aloadn xc172_34 rfl ?_
        refine x_iconst xc172_35 ?_
        refine x_aloadn xc172_36 rfl ?_
        refine x_gfi' (k := 10) (v := p1) xc172_37 rfl (Or.inl rfl) rfl xz87 h0.2.2 ?_
        refine x_cV (as := [xV 1, xV p1]) (rest := []) xc172_40 rfl xi158 xz87 ⟨rfl, rfl⟩ rfl rfl ?_
        refine xk158 (xRk (by decide)) (xRk (by omega)) (by omega) ?_
        refine x_iret xc172_43 (Or.inr ⟨rfl, (by omega)⟩) ?_
        exact k8 a1 p1 h0 h1 h3 h4 h10 h11 h12 h13
  · refine x_ifne xc172_6 (xRk (by decide)) (fun h => absurd h (by omega)) (fun _ => ?_)
    refine x_iconst xc172_9 ?_
    refine x_iret xc172_10 (Or.inr ⟨rfl, (by omega)⟩) ?_
    exact k9 a2 f2 q2 h5 h6 h7 h8

theorem xk172 {ro : Nat → Nat × (Nat → Int32)} {d : Nat} {Q : Option Value → pmS → Prop} {a : xA} {b : xB} {t : Int → Int} {n p : Int} (hC : tR a t n p) (hp : 0 ≤ p ∧ p ≤ n) (hn : n ≤ 60) (hb : tB t) (hA : xAr a) {x : Int} (hx : 0 ≤ x ∧ x < 24) (hd : 4 ≤ d)
    (hT : ∀ (a1 : xA) (p1 : Int), tR a1 t n p1 → kM a a1 → rSeq (rCom t n 44 p) (rNum t n) = (0, p1) → p < p1 ∧ p1 ≤ n → Q (some (xV 1)) (xS a1 b))
    (hF : ∀ (a1 : xA) (f q : Int), kM a a1 → a1 87 12 = f → f < 0 ∧ -10000 < f → rSeq (rCom t n 44 p) (rNum t n) = (f, q) → Q (some (xV 0)) (xS a1 b)) : pmCs ro d 172 [.ref 87, xV x] (xS a b) Q := by
  refine pmCs_deep (d := 4) (xg172 (w172 hC hp hn hb hA ⟨by omega, by omega⟩ hx (by decide) ?_ ?_ ?_ ?_ ?_ ?_ ?_ ?_ ?_)) hd
  · intro a1 p1 h0 h1 h3 h4 h10 h11
    first | (exfalso; omega) | exact hF _ (-1000 * 1 - p1) _ (kM.u (xRk (by omega)) (by omega) (kM.tr (kM.r hA) h1)) (by rw [xUa]) (by omega) (Prod.ext (by (first | rw [rSeq_0 (by assumption)] | rw [rSeq_n (by assumption) (by omega)]); (try unfold rNum); (repeat (first | rw [rSeq_00] | rw [rSeq_as] | rw [rSeq_0 (by assumption)] | rw [rSeq_n (by assumption) (by omega)] | rw [if_neg (by omega)] | rw [if_pos (by omega)])); all_goals (repeat' split); all_goals (first | (exfalso; omega) | (dsimp only; exact rFst (by assumption)) | (dsimp only; omega) | omega)) rfl)
  · intro a1 p1 h0 h1 h3 h4 h10 h11 h12 h13 h14 h16 h17
    first | (exfalso; omega) | exact hT _ (p1) (tR.ot (by decide) (by decide) h0) (kM.u (xRk (by decide)) (by omega) (kM.tr (kM.r hA) h1)) (by (first | rw [rSeq_0 (by assumption)] | rw [rSeq_n (by assumption) (by omega)]); (try unfold rNum); (repeat (first | rw [rSeq_00] | rw [rSeq_as] | rw [rSeq_0 (by assumption)] | rw [rSeq_n (by assumption) (by omega)] | rw [if_neg (by omega)] | rw [if_pos (by omega)])); all_goals (repeat' split); all_goals (first | (exfalso; omega) | assumption | rfl)) (by omega)
  · intro a1 p1 h0 h1 h3 h4 h10 h11 h12 h13 h14 h16 h17 h19 h20 h21
    first | (exfalso; omega) | exact hT _ (p1 + 1) (tR.at (tR.ot (by decide) (by decide) (tR.ot (by decide) (by decide) h0))) (kM.u (xRk (by omega)) (by omega) (kM.u (xRk (by have g0 := sGB (n := n) (p := p1) hb (by omega); omega)) (by omega) (kM.u (xRk (by decide)) (by omega) (kM.tr (kM.r hA) h1)))) (by (first | rw [rSeq_0 (by assumption)] | rw [rSeq_n (by assumption) (by omega)]); (try unfold rNum); (repeat (first | rw [rSeq_00] | rw [rSeq_as] | rw [rSeq_0 (by assumption)] | rw [rSeq_n (by assumption) (by omega)] | rw [if_neg (by omega)] | rw [if_pos (by omega)])); all_goals (repeat' split); all_goals (first | (exfalso; omega) | assumption | rfl)) (by omega)
  · intro a1 p1 h0 h1 h3 h4 h10 h11 h12 h13 h14 h16 h17 h19 h20 h21 h22 h23
    first | (exfalso; omega) | exact hT _ (p1 + 1) (tR.at (tR.ot (by decide) (by decide) (tR.ot (by decide) (by decide) h0))) (kM.u (xRk (by omega)) (by omega) (kM.u (xRk (by have g0 := sGB (n := n) (p := p1) hb (by omega); omega)) (by omega) (kM.u (xRk (by decide)) (by omega) (kM.tr (kM.r hA) h1)))) (by (first | rw [rSeq_0 (by assumption)] | rw [rSeq_n (by assumption) (by omega)]); (try unfold rNum); (repeat (first | rw [rSeq_00] | rw [rSeq_as] | rw [rSeq_0 (by assumption)] | rw [rSeq_n (by assumption) (by omega)] | rw [if_neg (by omega)] | rw [if_pos (by omega)])); all_goals (repeat' split); all_goals (first | (exfalso; omega) | assumption | rfl)) (by omega)
  · intro a1 p1 h0 h1 h3 h4 h10 h11 h12 h13 h14 h16 h17 h19 h20 h21 h22 h23 h25 h26 h27
    first | (exfalso; omega) | exact hT _ (p1 + 1 + 1) (tR.at (tR.ot (by decide) (by decide) (tR.at (tR.ot (by decide) (by decide) (tR.ot (by decide) (by decide) h0))))) (kM.u (xRk (by omega)) (by omega) (kM.u (xRk (by have g0 := sGB (n := n) (p := p1) hb (by omega); have g1 := sGB (n := n) (p := p1 + 1) hb (by omega); omega)) (by omega) (kM.u (xRk (by omega)) (by omega) (kM.u (xRk (by have g0 := sGB (n := n) (p := p1) hb (by omega); omega)) (by omega) (kM.u (xRk (by decide)) (by omega) (kM.tr (kM.r hA) h1)))))) (by (first | rw [rSeq_0 (by assumption)] | rw [rSeq_n (by assumption) (by omega)]); (try unfold rNum); (repeat (first | rw [rSeq_00] | rw [rSeq_as] | rw [rSeq_0 (by assumption)] | rw [rSeq_n (by assumption) (by omega)] | rw [if_neg (by omega)] | rw [if_pos (by omega)])); all_goals (repeat' split); all_goals (first | (exfalso; omega) | assumption | rfl)) (by omega)
  · intro a1 p1 h0 h1 h3 h4 h10 h11 h12 h13 h14 h16 h17 h19 h20 h21 h22 h23 h25 h26 h27 h28 h29
    first | (exfalso; omega) | exact hT _ (p1 + 1 + 1) (tR.at (tR.ot (by decide) (by decide) (tR.at (tR.ot (by decide) (by decide) (tR.ot (by decide) (by decide) h0))))) (kM.u (xRk (by omega)) (by omega) (kM.u (xRk (by have g0 := sGB (n := n) (p := p1) hb (by omega); have g1 := sGB (n := n) (p := p1 + 1) hb (by omega); omega)) (by omega) (kM.u (xRk (by omega)) (by omega) (kM.u (xRk (by have g0 := sGB (n := n) (p := p1) hb (by omega); omega)) (by omega) (kM.u (xRk (by decide)) (by omega) (kM.tr (kM.r hA) h1)))))) (by (first | rw [rSeq_0 (by assumption)] | rw [rSeq_n (by assumption) (by omega)]); (try unfold rNum); (repeat (first | rw [rSeq_00] | rw [rSeq_as] | rw [rSeq_0 (by assumption)] | rw [rSeq_n (by assumption) (by omega)] | rw [if_neg (by omega)] | rw [if_pos (by omega)])); all_goals (repeat' split); all_goals (first | (exfalso; omega) | assumption | rfl)) (by omega)
  · intro a1 p1 h0 h1 h3 h4 h10 h11 h12 h13 h14 h16 h17 h19 h20 h21 h22 h23 h25 h26 h27 h28 h29
    first | (exfalso; omega) | exact hF _ (-1000 * 2 - (p1 + 1 + 1)) _ (kM.u (xRk (by omega)) (by omega) (kM.u (xRk (by omega)) (by omega) (kM.u (xRk (by have g0 := sGB (n := n) (p := p1) hb (by omega); have g1 := sGB (n := n) (p := p1 + 1) hb (by omega); omega)) (by omega) (kM.u (xRk (by omega)) (by omega) (kM.u (xRk (by have g0 := sGB (n := n) (p := p1) hb (by omega); omega)) (by omega) (kM.u (xRk (by decide)) (by omega) (kM.tr (kM.r hA) h1))))))) (by rw [xUa]) (by omega) (Prod.ext (by (first | rw [rSeq_0 (by assumption)] | rw [rSeq_n (by assumption) (by omega)]); (try unfold rNum); (repeat (first | rw [rSeq_00] | rw [rSeq_as] | rw [rSeq_0 (by assumption)] | rw [rSeq_n (by assumption) (by omega)] | rw [if_neg (by omega)] | rw [if_pos (by omega)])); all_goals (repeat' split); all_goals (first | (exfalso; omega) | (dsimp only; exact rFst (by assumption)) | (dsimp only; omega) | omega)) rfl)
  · intro a1 p1 h0 h1 h3 h4 h10 h11 h12 h13
    first | (exfalso; omega) | exact hF _ (-1000 * 1 - p1) _ (kM.u (xRk (by omega)) (by omega) (kM.tr (kM.r hA) h1)) (by rw [xUa]) (by omega) (Prod.ext (by (first | rw [rSeq_0 (by assumption)] | rw [rSeq_n (by assumption) (by omega)]); (try unfold rNum); (repeat (first | rw [rSeq_00] | rw [rSeq_as] | rw [rSeq_0 (by assumption)] | rw [rSeq_n (by assumption) (by omega)] | rw [if_neg (by omega)] | rw [if_pos (by omega)])); all_goals (repeat' split); all_goals (first | (exfalso; omega) | (dsimp only; exact rFst (by assumption)) | (dsimp only; omega) | omega)) rfl)
  · intro a2 f2 q2 h5 h6 h7 h8
    first | (exfalso; omega) | exact hF _ (f2) _ (kM.tr (kM.r hA) h5) h6 (by omega) (Prod.ext (by (first | rw [rSeq_0 (by assumption)] | rw [rSeq_n (by assumption) (by omega)]); (try unfold rNum); (repeat (first | rw [rSeq_00] | rw [rSeq_as] | rw [rSeq_0 (by assumption)] | rw [rSeq_n (by assumption) (by omega)] | rw [if_neg (by omega)] | rw [if_pos (by omega)])); all_goals (repeat' split); all_goals (first | (exfalso; omega) | (dsimp only; exact rFst (by assumption)) | (dsimp only; omega) | omega)) rfl)

theorem xg167 {ro : Nat → Nat × (Nat → Int32)} {d : Nat} {Q : Option Value → pmS → Prop} {a : xA} {b : xB} {x y : Int} (h : pmWp ro d 12 167 2 0 [some (.ref 87), some (xV x), some (xV y), none] [] (xS a b) Q) : pmCs ro (d + 1) 167 [.ref 87, xV x, xV y] (xS a b) Q := x_go xi167 rfl rfl rfl rfl rfl h
theorem w167 {ro : Nat → Nat × (Nat → Int32)} {d : Nat} {Q : Option Value → pmS → Prop} {a : xA} {b : xB} {t : Int → Int} {n p : Int} (hC : tR a t n p) (hp : 0 ≤ p ∧ p ≤ n) (hn : n ≤ 60) (hb : tB t) (hA : xAr a) {x y : Int} (h_x : xR x) (h_y : xR y) (hx : 0 ≤ x ∧ x < 24) (hy : 0 ≤ y ∧ y ≤ 4) (hd : 4 ≤ d)
    (k1 : (sG t n p = -1 ∨ p < n) → (sG t n p = 110) → (¬ y = 4) → ∀ a1 : xA, ∀ p1 : Int, (tR a1 t n p1) → (kM (xU (xU a 87 10 (p + 1)) 101 x (sG t n p)) a1) → (rEv t n (p + 1) = (0, p1)) → (p + 1 < p1 ∧ p1 ≤ n) → Q (some (xV 1)) (xS a1 b))
    (k2 : (sG t n p = -1 ∨ p < n) → (sG t n p = 110) → (¬ y = 4) → ∀ a2 : xA, ∀ f2 : Int, ∀ q2 : Int, (kM (xU (xU a 87 10 (p + 1)) 101 x (sG t n p)) a2) → (a2 87 12 = f2) → (f2 < 0 ∧ -10000 < f2) → (rEv t n (p + 1) = (f2, q2)) → Q (some (xV 0)) (xS a2 b))
    (k3 : (sG t n p = -1 ∨ p < n) → (sG t n p = 110) → (¬ ¬ y = 4) → Q (some (xV 0)) (xS (xU a 87 12 (-1000 * 4 - p)) b))
    (k4 : (sG t n p = -1 ∨ p < n) → (¬ sG t n p = 110) → (sG t n p = 97) → (¬ y = 4) → ∀ a3 : xA, ∀ p3 : Int, (tR a3 t n p3) → (kM (xU (xU a 87 10 (p + 1)) 101 x (sG t n p)) a3) → (rEv t n (p + 1) = (0, p3)) → (p + 1 < p3 ∧ p3 ≤ n) → ∀ a5 : xA, ∀ p5 : Int, (tR a5 t n p5) → (kM a3 a5) → (rCom t n 44 p3 = (0, p5)) → (p3 < p5 ∧ p5 ≤ n) → ∀ a7 : xA, ∀ p7 : Int, (tR a7 t n p7) → (kM a5 a7) → (rEv t n p5 = (0, p7)) → (p5 < p7 ∧ p7 ≤ n) → Q (some (xV 1)) (xS a7 b))
    (k5 : (sG t n p = -1 ∨ p < n) → (¬ sG t n p = 110) → (sG t n p = 97) → (¬ y = 4) → ∀ a3 : xA, ∀ p3 : Int, (tR a3 t n p3) → (kM (xU (xU a 87 10 (p + 1)) 101 x (sG t n p)) a3) → (rEv t n (p + 1) = (0, p3)) → (p + 1 < p3 ∧ p3 ≤ n) → ∀ a5 : xA, ∀ p5 : Int, (tR a5 t n p5) → (kM a3 a5) → (rCom t n 44 p3 = (0, p5)) → (p3 < p5 ∧ p5 ≤ n) → ∀ a8 : xA, ∀ f8 : Int, ∀ q8 : Int, (kM a5 a8) → (a8 87 12 = f8) → (f8 < 0 ∧ -10000 < f8) → (rEv t n p5 = (f8, q8)) → Q (some (xV 0)) (xS a8 b))
    (k6 : (sG t n p = -1 ∨ p < n) → (¬ sG t n p = 110) → (sG t n p = 97) → (¬ y = 4) → ∀ a3 : xA, ∀ p3 : Int, (tR a3 t n p3) → (kM (xU (xU a 87 10 (p + 1)) 101 x (sG t n p)) a3) → (rEv t n (p + 1) = (0, p3)) → (p + 1 < p3 ∧ p3 ≤ n) → ∀ a6 : xA, ∀ f6 : Int, ∀ q6 : Int, (kM a3 a6) → (a6 87 12 = f6) → (f6 < 0 ∧ -10000 < f6) → (rCom t n 44 p3 = (f6, q6)) → Q (some (xV 0)) (xS a6 b))
    (k7 : (sG t n p = -1 ∨ p < n) → (¬ sG t n p = 110) → (sG t n p = 97) → (¬ y = 4) → ∀ a4 : xA, ∀ f4 : Int, ∀ q4 : Int, (kM (xU (xU a 87 10 (p + 1)) 101 x (sG t n p)) a4) → (a4 87 12 = f4) → (f4 < 0 ∧ -10000 < f4) → (rEv t n (p + 1) = (f4, q4)) → Q (some (xV 0)) (xS a4 b))
    (k8 : (sG t n p = -1 ∨ p < n) → (¬ sG t n p = 110) → (sG t n p = 97) → (¬ ¬ y = 4) → Q (some (xV 0)) (xS (xU a 87 12 (-1000 * 4 - p)) b))
    (k9 : (sG t n p = -1 ∨ p < n) → (¬ sG t n p = 110) → (¬ sG t n p = 97) → (sG t n p = 114) → (¬ y = 4) → ∀ a9 : xA, ∀ p9 : Int, (tR a9 t n p9) → (kM (xU (xU a 87 10 (p + 1)) 101 x (sG t n p)) a9) → (rEv t n (p + 1) = (0, p9)) → (p + 1 < p9 ∧ p9 ≤ n) → ∀ a11 : xA, ∀ p11 : Int, (tR a11 t n p11) → (kM a9 a11) → (rCom t n 44 p9 = (0, p11)) → (p9 < p11 ∧ p11 ≤ n) → ∀ a13 : xA, ∀ p13 : Int, (tR a13 t n p13) → (kM a11 a13) → (rEv t n p11 = (0, p13)) → (p11 < p13 ∧ p13 ≤ n) → ∀ a15 : xA, ∀ p15 : Int, (tR a15 t n p15) → (kM a13 a15) → (rSeq (rCom t n 44 p13) (rNum t n) = (0, p15)) → (p13 < p15 ∧ p15 ≤ n) → Q (some (xV 1)) (xS a15 b))
    (k10 : (sG t n p = -1 ∨ p < n) → (¬ sG t n p = 110) → (¬ sG t n p = 97) → (sG t n p = 114) → (¬ y = 4) → ∀ a9 : xA, ∀ p9 : Int, (tR a9 t n p9) → (kM (xU (xU a 87 10 (p + 1)) 101 x (sG t n p)) a9) → (rEv t n (p + 1) = (0, p9)) → (p + 1 < p9 ∧ p9 ≤ n) → ∀ a11 : xA, ∀ p11 : Int, (tR a11 t n p11) → (kM a9 a11) → (rCom t n 44 p9 = (0, p11)) → (p9 < p11 ∧ p11 ≤ n) → ∀ a13 : xA, ∀ p13 : Int, (tR a13 t n p13) → (kM a11 a13) → (rEv t n p11 = (0, p13)) → (p11 < p13 ∧ p13 ≤ n) → ∀ a16 : xA, ∀ f16 : Int, ∀ q16 : Int, (kM a13 a16) → (a16 87 12 = f16) → (f16 < 0 ∧ -10000 < f16) → (rSeq (rCom t n 44 p13) (rNum t n) = (f16, q16)) → Q (some (xV 0)) (xS a16 b))
    (k11 : (sG t n p = -1 ∨ p < n) → (¬ sG t n p = 110) → (¬ sG t n p = 97) → (sG t n p = 114) → (¬ y = 4) → ∀ a9 : xA, ∀ p9 : Int, (tR a9 t n p9) → (kM (xU (xU a 87 10 (p + 1)) 101 x (sG t n p)) a9) → (rEv t n (p + 1) = (0, p9)) → (p + 1 < p9 ∧ p9 ≤ n) → ∀ a11 : xA, ∀ p11 : Int, (tR a11 t n p11) → (kM a9 a11) → (rCom t n 44 p9 = (0, p11)) → (p9 < p11 ∧ p11 ≤ n) → ∀ a14 : xA, ∀ f14 : Int, ∀ q14 : Int, (kM a11 a14) → (a14 87 12 = f14) → (f14 < 0 ∧ -10000 < f14) → (rEv t n p11 = (f14, q14)) → Q (some (xV 0)) (xS a14 b))
    (k12 : (sG t n p = -1 ∨ p < n) → (¬ sG t n p = 110) → (¬ sG t n p = 97) → (sG t n p = 114) → (¬ y = 4) → ∀ a9 : xA, ∀ p9 : Int, (tR a9 t n p9) → (kM (xU (xU a 87 10 (p + 1)) 101 x (sG t n p)) a9) → (rEv t n (p + 1) = (0, p9)) → (p + 1 < p9 ∧ p9 ≤ n) → ∀ a12 : xA, ∀ f12 : Int, ∀ q12 : Int, (kM a9 a12) → (a12 87 12 = f12) → (f12 < 0 ∧ -10000 < f12) → (rCom t n 44 p9 = (f12, q12)) → Q (some (xV 0)) (xS a12 b))
    (k13 : (sG t n p = -1 ∨ p < n) → (¬ sG t n p = 110) → (¬ sG t n p = 97) → (sG t n p = 114) → (¬ y = 4) → ∀ a10 : xA, ∀ f10 : Int, ∀ q10 : Int, (kM (xU (xU a 87 10 (p + 1)) 101 x (sG t n p)) a10) → (a10 87 12 = f10) → (f10 < 0 ∧ -10000 < f10) → (rEv t n (p + 1) = (f10, q10)) → Q (some (xV 0)) (xS a10 b))
    (k14 : (sG t n p = -1 ∨ p < n) → (¬ sG t n p = 110) → (¬ sG t n p = 97) → (sG t n p = 114) → (¬ ¬ y = 4) → Q (some (xV 0)) (xS (xU a 87 12 (-1000 * 4 - p)) b))
    (k15 : (sG t n p = -1 ∨ p < n) → (¬ sG t n p = 110) → (¬ sG t n p = 97) → (¬ sG t n p = 114) → (sG t n p = 101) → (¬ y = 4) → ∀ a17 : xA, ∀ p17 : Int, (tR a17 t n p17) → (kM (xU (xU a 87 10 (p + 1)) 101 x (sG t n p)) a17) → (rEv t n (p + 1) = (0, p17)) → (p + 1 < p17 ∧ p17 ≤ n) → ∀ a19 : xA, ∀ p19 : Int, (tR a19 t n p19) → (kM a17 a19) → (rSeq (rCom t n 44 p17) (rNum t n) = (0, p19)) → (p17 < p19 ∧ p19 ≤ n) → Q (some (xV 1)) (xS a19 b))
    (k16 : (sG t n p = -1 ∨ p < n) → (¬ sG t n p = 110) → (¬ sG t n p = 97) → (¬ sG t n p = 114) → (sG t n p = 101) → (¬ y = 4) → ∀ a17 : xA, ∀ p17 : Int, (tR a17 t n p17) → (kM (xU (xU a 87 10 (p + 1)) 101 x (sG t n p)) a17) → (rEv t n (p + 1) = (0, p17)) → (p + 1 < p17 ∧ p17 ≤ n) → ∀ a20 : xA, ∀ f20 : Int, ∀ q20 : Int, (kM a17 a20) → (a20 87 12 = f20) → (f20 < 0 ∧ -10000 < f20) → (rSeq (rCom t n 44 p17) (rNum t n) = (f20, q20)) → Q (some (xV 0)) (xS a20 b))
    (k17 : (sG t n p = -1 ∨ p < n) → (¬ sG t n p = 110) → (¬ sG t n p = 97) → (¬ sG t n p = 114) → (sG t n p = 101) → (¬ y = 4) → ∀ a18 : xA, ∀ f18 : Int, ∀ q18 : Int, (kM (xU (xU a 87 10 (p + 1)) 101 x (sG t n p)) a18) → (a18 87 12 = f18) → (f18 < 0 ∧ -10000 < f18) → (rEv t n (p + 1) = (f18, q18)) → Q (some (xV 0)) (xS a18 b))
    (k18 : (sG t n p = -1 ∨ p < n) → (¬ sG t n p = 110) → (¬ sG t n p = 97) → (¬ sG t n p = 114) → (sG t n p = 101) → (¬ ¬ y = 4) → Q (some (xV 0)) (xS (xU a 87 12 (-1000 * 4 - p)) b))
    (k19 : (sG t n p = -1 ∨ p < n) → (¬ sG t n p = 110) → (¬ sG t n p = 97) → (¬ sG t n p = 114) → (¬ sG t n p = 101) → Q (some (xV 0)) (xS (xU a 87 12 (-1000 * 1 - p)) b)) :
    pmWp ro d 12 167 2 0 [some (.ref 87), some (xV x), some (xV y), none] [] (xS a b) Q := by
  refine x_aloadn xc167_0 rfl ?_
  refine x_cV (as := []) (rest := []) xc167_1 rfl xi156 xz87 ⟨rfl, rfl⟩ rfl rfl ?_
  refine xk156 hC (by omega) (by omega) hb hA (by omega) (fun h0 => ?_)
  refine x_istoren (pl' := [some (.ref 87), some (xV x), some (xV y), some (xV (sG t n p))]) xc167_4 rfl rfl ?_
  refine x_iloadn xc167_5 rfl ?_
  refine x_bipush xc167_6 (by decide) ?_
  refine x_iceq xc167_8 (xRk (by have g0 := sGB (n := n) (p := p) hb (by omega); omega)) (xRk (by decide)) (fun h1 => ?_) (fun h1 => ?_)
  · refine x_iloadn xc167_39 rfl ?_
    refine x_iconst xc167_40 ?_
    refine x_icne xc167_41 (xRk (by have g0 := xRb h_y; omega)) (xRk (by decide)) (fun h2 => ?_) (fun h2 => ?_)
    · refine x_aloadn xc167_54 rfl ?_
      refine x_aloadn xc167_55 rfl ?_
      refine x_gfi' (k := 10) (v := p) xc167_56 rfl (Or.inl rfl) rfl xz87 hC.2.2 ?_
      refine x_iconst xc167_59 ?_
      refine x_iadd xc167_60 ?_
      refine x_pfi (k := 10) xc167_61 rfl ⟨rfl, rfl⟩ rfl xz87 ?_
      refine x_aloadn xc167_64 rfl ?_
      refine x_gfr xc167_65 rfl rfl xz87 rfl ?_
      refine x_iloadn xc167_68 rfl ?_
      refine x_iloadn xc167_69 rfl ?_
      refine x_ias xc167_70 xz101 (by have g0 := xRb h_x; omega) (by have g0 := xRb h_x; omega) (by have g0 := xRb h_x; omega) ?_
      refine x_aloadn xc167_71 rfl ?_
      refine x_iconst xc167_72 ?_
      refine x_iloadn xc167_73 rfl ?_
      refine x_imul xc167_74 ?_
      refine x_cV (as := [xV (2 * x)]) (rest := []) xc167_75 rfl xi168 xz87 ⟨rfl, rfl⟩ rfl rfl ?_
      refine xk168 (tR.ot (by decide) (by decide) (tR.at hC)) (by omega) (by omega) hb (xAr_u (xAr_u hA (xRk (by omega))) (xRk (by have g0 := sGB (n := n) (p := p) hb (by omega); omega))) (by omega) (by omega) (fun a1 p1 h3 h4 h6 h7 => ?_) (fun a2 f2 q2 h8 h9 h10 h11 => ?_)
      · refine x_ifne xc167_78 (xRk (by decide)) (fun _ => ?_) (fun h => absurd h (by omega))
        refine x_iloadn xc167_83 rfl ?_
        refine x_bipush xc167_84 (by decide) ?_
        refine x_iceq xc167_86 (xRk (by have g0 := sGB (n := n) (p := p) hb (by omega); omega)) (xRk (by decide)) (fun h => absurd h (by omega)) (fun _ => ?_)
        refine x_iloadn xc167_89 rfl ?_
        refine x_bipush xc167_90 (by decide) ?_
        refine x_icne xc167_92 (xRk (by have g0 := sGB (n := n) (p := p) hb (by omega); omega)) (xRk (by decide)) (fun _ => ?_) (fun h => absurd h (by omega))
        refine x_iloadn xc167_118 rfl ?_
        refine x_bipush xc167_119 (by decide) ?_
        refine x_iceq xc167_121 (xRk (by have g0 := sGB (n := n) (p := p) hb (by omega); omega)) (xRk (by decide)) (fun h => absurd h (by omega)) (fun _ => ?_)
        refine x_iloadn xc167_124 rfl ?_
        refine x_bipush xc167_125 (by decide) ?_
        refine x_icne xc167_127 (xRk (by have g0 := sGB (n := n) (p := p) hb (by omega); omega)) (xRk (by decide)) (fun _ => ?_) (fun h => absurd h (by omega))
        refine x_iconst xc167_138 ?_
        refine x_goto xc167_139 ?_
        refine x_iret xc167_143 (Or.inr ⟨rfl, (by omega)⟩) ?_
        exact k1 h0 h1 h2 a1 p1 h3 h4 h6 h7
      · refine x_ifne xc167_78 (xRk (by decide)) (fun h => absurd h (by omega)) (fun _ => ?_)
        refine x_iconst xc167_81 ?_
        refine x_iret xc167_82 (Or.inr ⟨rfl, (by omega)⟩) ?_
        exact k2 h0 h1 h2 a2 f2 q2 h8 h9 h10 h11
    · refine x_aloadn xc167_44 rfl ?_
      refine x_iconst xc167_45 ?_
      refine x_aloadn xc167_46 rfl ?_
      refine x_gfi' (k := 10) (v := p) xc167_47 rfl (Or.inl rfl) rfl xz87 hC.2.2 ?_
      refine x_cV (as := [xV 4, xV p]) (rest := []) xc167_50 rfl xi158 xz87 ⟨rfl, rfl⟩ rfl rfl ?_
      refine xk158 (xRk (by decide)) (xRk (by omega)) (by omega) ?_
      refine x_iret xc167_53 (Or.inr ⟨rfl, (by omega)⟩) ?_
      exact k3 h0 h1 h2
  · refine x_iloadn xc167_11 rfl ?_
    refine x_bipush xc167_12 (by decide) ?_
    refine x_iceq xc167_14 (xRk (by have g0 := sGB (n := n) (p := p) hb (by omega); omega)) (xRk (by decide)) (fun h18 => ?_) (fun h18 => ?_)
    · refine x_iloadn xc167_39 rfl ?_
      refine x_iconst xc167_40 ?_
      refine x_icne xc167_41 (xRk (by have g0 := xRb h_y; omega)) (xRk (by decide)) (fun h19 => ?_) (fun h19 => ?_)
      · refine x_aloadn xc167_54 rfl ?_
        refine x_aloadn xc167_55 rfl ?_
        refine x_gfi' (k := 10) (v := p) xc167_56 rfl (Or.inl rfl) rfl xz87 hC.2.2 ?_
        refine x_iconst xc167_59 ?_
        refine x_iadd xc167_60 ?_
        refine x_pfi (k := 10) xc167_61 rfl ⟨rfl, rfl⟩ rfl xz87 ?_
        refine x_aloadn xc167_64 rfl ?_
        refine x_gfr xc167_65 rfl rfl xz87 rfl ?_
        refine x_iloadn xc167_68 rfl ?_
        refine x_iloadn xc167_69 rfl ?_
        refine x_ias xc167_70 xz101 (by have g0 := xRb h_x; omega) (by have g0 := xRb h_x; omega) (by have g0 := xRb h_x; omega) ?_
        refine x_aloadn xc167_71 rfl ?_
        refine x_iconst xc167_72 ?_
        refine x_iloadn xc167_73 rfl ?_
        refine x_imul xc167_74 ?_
        refine x_cV (as := [xV (2 * x)]) (rest := []) xc167_75 rfl xi168 xz87 ⟨rfl, rfl⟩ rfl rfl ?_
        refine xk168 (tR.ot (by decide) (by decide) (tR.at hC)) (by omega) (by omega) hb (xAr_u (xAr_u hA (xRk (by omega))) (xRk (by have g0 := sGB (n := n) (p := p) hb (by omega); omega))) (by omega) (by omega) (fun a3 p3 h20 h21 h23 h24 => ?_) (fun a4 f4 q4 h25 h26 h27 h28 => ?_)
        · refine x_ifne xc167_78 (xRk (by decide)) (fun _ => ?_) (fun h => absurd h (by omega))
          refine x_iloadn xc167_83 rfl ?_
          refine x_bipush xc167_84 (by decide) ?_
          refine x_iceq xc167_86 (xRk (by have g0 := sGB (n := n) (p := p) hb (by omega); omega)) (xRk (by decide)) (fun _ => ?_) (fun h => absurd h (by omega))
          refine x_aloadn xc167_95 rfl ?_
          refine x_bipush xc167_96 (by decide) ?_
          refine x_cV (as := [xV 44]) (rest := []) xc167_98 rfl xi171 xz87 ⟨rfl, rfl⟩ rfl rfl ?_
          refine xk171 h20 (by omega) (by omega) hb h21.1 (by omega) (by omega) (fun a5 p5 h31 h32 h34 h35 => ?_) (fun a6 f6 q6 h36 h37 h38 h39 => ?_)
          · refine x_ifeq xc167_101 (xRk (by decide)) (fun h => absurd h (by omega)) (fun _ => ?_)
            refine x_aloadn xc167_104 rfl ?_
            refine x_iconst xc167_105 ?_
            refine x_iloadn xc167_106 rfl ?_
            refine x_imul xc167_107 ?_
            refine x_iconst xc167_108 ?_
            refine x_iadd xc167_109 ?_
            refine x_cV (as := [xV (2 * x + 1)]) (rest := []) xc167_110 rfl xi168 xz87 ⟨rfl, rfl⟩ rfl rfl ?_
            refine xk168 h31 (by omega) (by omega) hb h32.1 (by omega) (by omega) (fun a7 p7 h41 h42 h44 h45 => ?_) (fun a8 f8 q8 h46 h47 h48 h49 => ?_)
            · refine x_ifne xc167_113 (xRk (by decide)) (fun _ => ?_) (fun h => absurd h (by omega))
              refine x_iloadn xc167_118 rfl ?_
              refine x_bipush xc167_119 (by decide) ?_
              refine x_iceq xc167_121 (xRk (by have g0 := sGB (n := n) (p := p) hb (by omega); omega)) (xRk (by decide)) (fun h => absurd h (by omega)) (fun _ => ?_)
              refine x_iloadn xc167_124 rfl ?_
              refine x_bipush xc167_125 (by decide) ?_
              refine x_icne xc167_127 (xRk (by have g0 := sGB (n := n) (p := p) hb (by omega); omega)) (xRk (by decide)) (fun _ => ?_) (fun h => absurd h (by omega))
              refine x_iconst xc167_138 ?_
              refine x_goto xc167_139 ?_
              refine x_iret xc167_143 (Or.inr ⟨rfl, (by omega)⟩) ?_
              exact k4 h0 h1 h18 h19 a3 p3 h20 h21 h23 h24 a5 p5 h31 h32 h34 h35 a7 p7 h41 h42 h44 h45
            · refine x_ifne xc167_113 (xRk (by decide)) (fun h => absurd h (by omega)) (fun _ => ?_)
              refine x_iconst xc167_116 ?_
              refine x_iret xc167_117 (Or.inr ⟨rfl, (by omega)⟩) ?_
              exact k5 h0 h1 h18 h19 a3 p3 h20 h21 h23 h24 a5 p5 h31 h32 h34 h35 a8 f8 q8 h46 h47 h48 h49
          · refine x_ifeq xc167_101 (xRk (by decide)) (fun _ => ?_) (fun h => absurd h (by omega))
            refine x_iconst xc167_116 ?_
            refine x_iret xc167_117 (Or.inr ⟨rfl, (by omega)⟩) ?_
            exact k6 h0 h1 h18 h19 a3 p3 h20 h21 h23 h24 a6 f6 q6 h36 h37 h38 h39
        · refine x_ifne xc167_78 (xRk (by decide)) (fun h => absurd h (by omega)) (fun _ => ?_)
          refine x_iconst xc167_81 ?_
          refine x_iret xc167_82 (Or.inr ⟨rfl, (by omega)⟩) ?_
          exact k7 h0 h1 h18 h19 a4 f4 q4 h25 h26 h27 h28
      · refine x_aloadn xc167_44 rfl ?_
        refine x_iconst xc167_45 ?_
        refine x_aloadn xc167_46 rfl ?_
        refine x_gfi' (k := 10) (v := p) xc167_47 rfl (Or.inl rfl) rfl xz87 hC.2.2 ?_
        refine x_cV (as := [xV 4, xV p]) (rest := []) xc167_50 rfl xi158 xz87 ⟨rfl, rfl⟩ rfl rfl ?_
        refine xk158 (xRk (by decide)) (xRk (by omega)) (by omega) ?_
        refine x_iret xc167_53 (Or.inr ⟨rfl, (by omega)⟩) ?_
        exact k8 h0 h1 h18 h19
    · refine x_iloadn xc167_17 rfl ?_
      refine x_bipush xc167_18 (by decide) ?_
      refine x_iceq xc167_20 (xRk (by have g0 := sGB (n := n) (p := p) hb (by omega); omega)) (xRk (by decide)) (fun h56 => ?_) (fun h56 => ?_)
      · refine x_iloadn xc167_39 rfl ?_
        refine x_iconst xc167_40 ?_
        refine x_icne xc167_41 (xRk (by have g0 := xRb h_y; omega)) (xRk (by decide)) (fun h57 => ?_) (fun h57 => ?_)
        · refine x_aloadn xc167_54 rfl ?_
          refine x_aloadn xc167_55 rfl ?_
          refine x_gfi' (k := 10) (v := p) xc167_56 rfl (Or.inl rfl) rfl xz87 hC.2.2 ?_
          refine x_iconst xc167_59 ?_
          refine x_iadd xc167_60 ?_
          refine x_pfi (k := 10) xc167_61 rfl ⟨rfl, rfl⟩ rfl xz87 ?_
          refine x_aloadn xc167_64 rfl ?_
          refine x_gfr xc167_65 rfl rfl xz87 rfl ?_
          refine x_iloadn xc167_68 rfl ?_
          refine x_iloadn xc167_69 rfl ?_
          refine x_ias xc167_70 xz101 (by have g0 := xRb h_x; omega) (by have g0 := xRb h_x; omega) (by have g0 := xRb h_x; omega) ?_
          refine x_aloadn xc167_71 rfl ?_
          refine x_iconst xc167_72 ?_
          refine x_iloadn xc167_73 rfl ?_
          refine x_imul xc167_74 ?_
          refine x_cV (as := [xV (2 * x)]) (rest := []) xc167_75 rfl xi168 xz87 ⟨rfl, rfl⟩ rfl rfl ?_
          refine xk168 (tR.ot (by decide) (by decide) (tR.at hC)) (by omega) (by omega) hb (xAr_u (xAr_u hA (xRk (by omega))) (xRk (by have g0 := sGB (n := n) (p := p) hb (by omega); omega))) (by omega) (by omega) (fun a9 p9 h58 h59 h61 h62 => ?_) (fun a10 f10 q10 h63 h64 h65 h66 => ?_)
          · refine x_ifne xc167_78 (xRk (by decide)) (fun _ => ?_) (fun h => absurd h (by omega))
            refine x_iloadn xc167_83 rfl ?_
            refine x_bipush xc167_84 (by decide) ?_
            refine x_iceq xc167_86 (xRk (by have g0 := sGB (n := n) (p := p) hb (by omega); omega)) (xRk (by decide)) (fun h => absurd h (by omega)) (fun _ => ?_)
            refine x_iloadn xc167_89 rfl ?_
            refine x_bipush xc167_90 (by decide) ?_
            refine x_icne xc167_92 (xRk (by have g0 := sGB (n := n) (p := p) hb (by omega); omega)) (xRk (by decide)) (fun h => absurd h (by omega)) (fun _ => ?_)
            refine x_aloadn xc167_95 rfl ?_
            refine x_bipush xc167_96 (by decide) ?_
            refine x_cV (as := [xV 44]) (rest := []) xc167_98 rfl xi171 xz87 ⟨rfl, rfl⟩ rfl rfl ?_
            refine xk171 h58 (by omega) (by omega) hb h59.1 (by omega) (by omega) (fun a11 p11 h70 h71 h73 h74 => ?_) (fun a12 f12 q12 h75 h76 h77 h78 => ?_)
            · refine x_ifeq xc167_101 (xRk (by decide)) (fun h => absurd h (by omega)) (fun _ => ?_)
              refine x_aloadn xc167_104 rfl ?_
              refine x_iconst xc167_105 ?_
              refine x_iloadn xc167_106 rfl ?_
              refine x_imul xc167_107 ?_
              refine x_iconst xc167_108 ?_
              refine x_iadd xc167_109 ?_
              refine x_cV (as := [xV (2 * x + 1)]) (rest := []) xc167_110 rfl xi168 xz87 ⟨rfl, rfl⟩ rfl rfl ?_
              refine xk168 h70 (by omega) (by omega) hb h71.1 (by omega) (by omega) (fun a13 p13 h80 h81 h83 h84 => ?_) (fun a14 f14 q14 h85 h86 h87 h88 => ?_)
              · refine x_ifne xc167_113 (xRk (by decide)) (fun _ => ?_) (fun h => absurd h (by omega))
                refine x_iloadn xc167_118 rfl ?_
                refine x_bipush xc167_119 (by decide) ?_
                refine x_iceq xc167_121 (xRk (by have g0 := sGB (n := n) (p := p) hb (by omega); omega)) (xRk (by decide)) (fun _ => ?_) (fun h => absurd h (by omega))
                refine x_aloadn xc167_130 rfl ?_
                refine x_iloadn xc167_131 rfl ?_
                refine x_cV (as := [xV x]) (rest := []) xc167_132 rfl xi172 xz87 ⟨rfl, rfl⟩ rfl rfl ?_
                refine xk172 h80 (by omega) (by omega) hb h81.1 (by omega) (by omega) (fun a15 p15 h91 h92 h94 h95 => ?_) (fun a16 f16 q16 h96 h97 h98 h99 => ?_)
                · refine x_ifeq xc167_135 (xRk (by decide)) (fun h => absurd h (by omega)) (fun _ => ?_)
                  refine x_iconst xc167_138 ?_
                  refine x_goto xc167_139 ?_
                  refine x_iret xc167_143 (Or.inr ⟨rfl, (by omega)⟩) ?_
                  exact k9 h0 h1 h18 h56 h57 a9 p9 h58 h59 h61 h62 a11 p11 h70 h71 h73 h74 a13 p13 h80 h81 h83 h84 a15 p15 h91 h92 h94 h95
                · refine x_ifeq xc167_135 (xRk (by decide)) (fun _ => ?_) (fun h => absurd h (by omega))
                  refine x_iconst xc167_142 ?_
                  refine x_iret xc167_143 (Or.inr ⟨rfl, (by omega)⟩) ?_
                  exact k10 h0 h1 h18 h56 h57 a9 p9 h58 h59 h61 h62 a11 p11 h70 h71 h73 h74 a13 p13 h80 h81 h83 h84 a16 f16 q16 h96 h97 h98 h99
              · refine x_ifne xc167_113 (xRk (by decide)) (fun h => absurd h (by omega)) (fun _ => ?_)
                refine x_iconst xc167_116 ?_
                refine x_iret xc167_117 (Or.inr ⟨rfl, (by omega)⟩) ?_
                exact k11 h0 h1 h18 h56 h57 a9 p9 h58 h59 h61 h62 a11 p11 h70 h71 h73 h74 a14 f14 q14 h85 h86 h87 h88
            · refine x_ifeq xc167_101 (xRk (by decide)) (fun _ => ?_) (fun h => absurd h (by omega))
              refine x_iconst xc167_116 ?_
              refine x_iret xc167_117 (Or.inr ⟨rfl, (by omega)⟩) ?_
              exact k12 h0 h1 h18 h56 h57 a9 p9 h58 h59 h61 h62 a12 f12 q12 h75 h76 h77 h78
          · refine x_ifne xc167_78 (xRk (by decide)) (fun h => absurd h (by omega)) (fun _ => ?_)
            refine x_iconst xc167_81 ?_
            refine x_iret xc167_82 (Or.inr ⟨rfl, (by omega)⟩) ?_
            exact k13 h0 h1 h18 h56 h57 a10 f10 q10 h63 h64 h65 h66
        · refine x_aloadn xc167_44 rfl ?_
          refine x_iconst xc167_45 ?_
          refine x_aloadn xc167_46 rfl ?_
          refine x_gfi' (k := 10) (v := p) xc167_47 rfl (Or.inl rfl) rfl xz87 hC.2.2 ?_
          refine x_cV (as := [xV 4, xV p]) (rest := []) xc167_50 rfl xi158 xz87 ⟨rfl, rfl⟩ rfl rfl ?_
          refine xk158 (xRk (by decide)) (xRk (by omega)) (by omega) ?_
          refine x_iret xc167_53 (Or.inr ⟨rfl, (by omega)⟩) ?_
          exact k14 h0 h1 h18 h56 h57
      · refine x_iloadn xc167_23 rfl ?_
        refine x_bipush xc167_24 (by decide) ?_
        refine x_iceq xc167_26 (xRk (by have g0 := sGB (n := n) (p := p) hb (by omega); omega)) (xRk (by decide)) (fun h105 => ?_) (fun h105 => ?_)
        · refine x_iloadn xc167_39 rfl ?_
          refine x_iconst xc167_40 ?_
          refine x_icne xc167_41 (xRk (by have g0 := xRb h_y; omega)) (xRk (by decide)) (fun h106 => ?_) (fun h106 => ?_)
          · refine x_aloadn xc167_54 rfl ?_
            refine x_aloadn xc167_55 rfl ?_
            refine x_gfi' (k := 10) (v := p) xc167_56 rfl (Or.inl rfl) rfl xz87 hC.2.2 ?_
            refine x_iconst xc167_59 ?_
            refine x_iadd xc167_60 ?_
            refine x_pfi (k := 10) xc167_61 rfl ⟨rfl, rfl⟩ rfl xz87 ?_
            refine x_aloadn xc167_64 rfl ?_
            refine x_gfr xc167_65 rfl rfl xz87 rfl ?_
            refine x_iloadn xc167_68 rfl ?_
            refine x_iloadn xc167_69 rfl ?_
            refine x_ias xc167_70 xz101 (by have g0 := xRb h_x; omega) (by have g0 := xRb h_x; omega) (by have g0 := xRb h_x; omega) ?_
            refine x_aloadn xc167_71 rfl ?_
            refine x_iconst xc167_72 ?_
            refine x_iloadn xc167_73 rfl ?_
            refine x_imul xc167_74 ?_
            refine x_cV (as := [xV (2 * x)]) (rest := []) xc167_75 rfl xi168 xz87 ⟨rfl, rfl⟩ rfl rfl ?_
            refine xk168 (tR.ot (by decide) (by decide) (tR.at hC)) (by omega) (by omega) hb (xAr_u (xAr_u hA (xRk (by omega))) (xRk (by have g0 := sGB (n := n) (p := p) hb (by omega); omega))) (by omega) (by omega) (fun a17 p17 h107 h108 h110 h111 => ?_) (fun a18 f18 q18 h112 h113 h114 h115 => ?_)
            · refine x_ifne xc167_78 (xRk (by decide)) (fun _ => ?_) (fun h => absurd h (by omega))
              refine x_iloadn xc167_83 rfl ?_
              refine x_bipush xc167_84 (by decide) ?_
              refine x_iceq xc167_86 (xRk (by have g0 := sGB (n := n) (p := p) hb (by omega); omega)) (xRk (by decide)) (fun h => absurd h (by omega)) (fun _ => ?_)
              refine x_iloadn xc167_89 rfl ?_
              refine x_bipush xc167_90 (by decide) ?_
              refine x_icne xc167_92 (xRk (by have g0 := sGB (n := n) (p := p) hb (by omega); omega)) (xRk (by decide)) (fun _ => ?_) (fun h => absurd h (by omega))
              refine x_iloadn xc167_118 rfl ?_
              refine x_bipush xc167_119 (by decide) ?_
              refine x_iceq xc167_121 (xRk (by have g0 := sGB (n := n) (p := p) hb (by omega); omega)) (xRk (by decide)) (fun h => absurd h (by omega)) (fun _ => ?_)
              refine x_iloadn xc167_124 rfl ?_
              refine x_bipush xc167_125 (by decide) ?_
              refine x_icne xc167_127 (xRk (by have g0 := sGB (n := n) (p := p) hb (by omega); omega)) (xRk (by decide)) (fun h => absurd h (by omega)) (fun _ => ?_)
              refine x_aloadn xc167_130 rfl ?_
              refine x_iloadn xc167_131 rfl ?_
              refine x_cV (as := [xV x]) (rest := []) xc167_132 rfl xi172 xz87 ⟨rfl, rfl⟩ rfl rfl ?_
              refine xk172 h107 (by omega) (by omega) hb h108.1 (by omega) (by omega) (fun a19 p19 h121 h122 h124 h125 => ?_) (fun a20 f20 q20 h126 h127 h128 h129 => ?_)
              · refine x_ifeq xc167_135 (xRk (by decide)) (fun h => absurd h (by omega)) (fun _ => ?_)
                refine x_iconst xc167_138 ?_
                refine x_goto xc167_139 ?_
                refine x_iret xc167_143 (Or.inr ⟨rfl, (by omega)⟩) ?_
                exact k15 h0 h1 h18 h56 h105 h106 a17 p17 h107 h108 h110 h111 a19 p19 h121 h122 h124 h125
              · refine x_ifeq xc167_135 (xRk (by decide)) (fun _ => ?_) (fun h => absurd h (by omega))
                refine x_iconst xc167_142 ?_
                refine x_iret xc167_143 (Or.inr ⟨rfl, (by omega)⟩) ?_
                exact k16 h0 h1 h18 h56 h105 h106 a17 p17 h107 h108 h110 h111 a20 f20 q20 h126 h127 h128 h129
            · refine x_ifne xc167_78 (xRk (by decide)) (fun h => absurd h (by omega)) (fun _ => ?_)
              refine x_iconst xc167_81 ?_
              refine x_iret xc167_82 (Or.inr ⟨rfl, (by omega)⟩) ?_
              exact k17 h0 h1 h18 h56 h105 h106 a18 f18 q18 h112 h113 h114 h115
          · refine x_aloadn xc167_44 rfl ?_
            refine x_iconst xc167_45 ?_
            refine x_aloadn xc167_46 rfl ?_
            refine x_gfi' (k := 10) (v := p) xc167_47 rfl (Or.inl rfl) rfl xz87 hC.2.2 ?_
            refine x_cV (as := [xV 4, xV p]) (rest := []) xc167_50 rfl xi158 xz87 ⟨rfl, rfl⟩ rfl rfl ?_
            refine xk158 (xRk (by decide)) (xRk (by omega)) (by omega) ?_
            refine x_iret xc167_53 (Or.inr ⟨rfl, (by omega)⟩) ?_
            exact k18 h0 h1 h18 h56 h105 h106
        · refine x_aloadn xc167_29 rfl ?_
          refine x_iconst xc167_30 ?_
          refine x_aloadn xc167_31 rfl ?_
          refine x_gfi' (k := 10) (v := p) xc167_32 rfl (Or.inl rfl) rfl xz87 hC.2.2 ?_
          refine x_cV (as := [xV 1, xV p]) (rest := []) xc167_35 rfl xi158 xz87 ⟨rfl, rfl⟩ rfl rfl ?_
          refine xk158 (xRk (by decide)) (xRk (by omega)) (by omega) ?_
          refine x_iret xc167_38 (Or.inr ⟨rfl, (by omega)⟩) ?_
          exact k19 h0 h1 h18 h56 h105

theorem xk167 {ro : Nat → Nat × (Nat → Int32)} {d : Nat} {Q : Option Value → pmS → Prop} {a : xA} {b : xB} {t : Int → Int} {n p : Int} (hC : tR a t n p) (hp : 0 ≤ p ∧ p ≤ n) (hn : n ≤ 60) (hb : tB t) (hA : xAr a) {x y : Int} (hx : 0 ≤ x ∧ x < 24) (hy : 0 ≤ y ∧ y ≤ 4) (hd : 5 ≤ d)
    (hT : ∀ (a1 : xA) (p1 : Int), tR a1 t n p1 → kM a a1 → rCl t n p y = (0, p1) → p < p1 ∧ p1 ≤ n → Q (some (xV 1)) (xS a1 b))
    (hF : ∀ (a1 : xA) (f q : Int), kM a a1 → a1 87 12 = f → f < 0 ∧ -10000 < f → rCl t n p y = (f, q) → Q (some (xV 0)) (xS a1 b)) : pmCs ro d 167 [.ref 87, xV x, xV y] (xS a b) Q := by
  refine pmCs_deep (d := 5) (xg167 (w167 hC hp hn hb hA ⟨by omega, by omega⟩ ⟨by omega, by omega⟩ hx hy (by decide) ?_ ?_ ?_ ?_ ?_ ?_ ?_ ?_ ?_ ?_ ?_ ?_ ?_ ?_ ?_ ?_ ?_ ?_ ?_)) hd
  · intro h0 h1 h2 a1 p1 h3 h4 h6 h7
    first | (exfalso; omega) | exact hT _ (p1) h3 (kM.tr (kM.u (xRk (by have g0 := sGB (n := n) (p := p) hb (by omega); omega)) (by omega) (kM.u (xRk (by omega)) (by omega) (kM.r hA))) h4) (by unfold rCl; (repeat (first | rw [rSeq_00] | rw [rSeq_as] | rw [rSeq_0 (by assumption)] | rw [rSeq_n (by assumption) (by omega)] | rw [if_neg (by omega)] | rw [if_pos (by omega)])); all_goals (repeat' split); all_goals (first | (exfalso; omega) | assumption | rfl)) (by omega)
  · intro h0 h1 h2 a2 f2 q2 h8 h9 h10 h11
    first | (exfalso; omega) | exact hF _ (f2) _ (kM.tr (kM.u (xRk (by have g0 := sGB (n := n) (p := p) hb (by omega); omega)) (by omega) (kM.u (xRk (by omega)) (by omega) (kM.r hA))) h8) h9 (by omega) (Prod.ext (by unfold rCl; (repeat (first | rw [rSeq_00] | rw [rSeq_as] | rw [rSeq_0 (by assumption)] | rw [rSeq_n (by assumption) (by omega)] | rw [if_neg (by omega)] | rw [if_pos (by omega)])); all_goals (repeat' split); all_goals (first | (exfalso; omega) | (dsimp only; exact rFst (by assumption)) | (dsimp only; omega) | omega)) rfl)
  · intro h0 h1 h2
    first | (exfalso; omega) | exact hF _ (-1000 * 4 - p) _ (kM.u (xRk (by omega)) (by omega) (kM.r hA)) (by rw [xUa]) (by omega) (Prod.ext (by unfold rCl; (repeat (first | rw [rSeq_00] | rw [rSeq_as] | rw [rSeq_0 (by assumption)] | rw [rSeq_n (by assumption) (by omega)] | rw [if_neg (by omega)] | rw [if_pos (by omega)])); all_goals (repeat' split); all_goals (first | (exfalso; omega) | (dsimp only; exact rFst (by assumption)) | (dsimp only; omega) | omega)) rfl)
  · intro h0 h1 h18 h19 a3 p3 h20 h21 h23 h24 a5 p5 h31 h32 h34 h35 a7 p7 h41 h42 h44 h45
    first | (exfalso; omega) | exact hT _ (p7) h41 (kM.tr (kM.tr (kM.tr (kM.u (xRk (by have g0 := sGB (n := n) (p := p) hb (by omega); omega)) (by omega) (kM.u (xRk (by omega)) (by omega) (kM.r hA))) h21) h32) h42) (by unfold rCl; (repeat (first | rw [rSeq_00] | rw [rSeq_as] | rw [rSeq_0 (by assumption)] | rw [rSeq_n (by assumption) (by omega)] | rw [if_neg (by omega)] | rw [if_pos (by omega)])); all_goals (repeat' split); all_goals (first | (exfalso; omega) | assumption | rfl)) (by omega)
  · intro h0 h1 h18 h19 a3 p3 h20 h21 h23 h24 a5 p5 h31 h32 h34 h35 a8 f8 q8 h46 h47 h48 h49
    first | (exfalso; omega) | exact hF _ (f8) _ (kM.tr (kM.tr (kM.tr (kM.u (xRk (by have g0 := sGB (n := n) (p := p) hb (by omega); omega)) (by omega) (kM.u (xRk (by omega)) (by omega) (kM.r hA))) h21) h32) h46) h47 (by omega) (Prod.ext (by unfold rCl; (repeat (first | rw [rSeq_00] | rw [rSeq_as] | rw [rSeq_0 (by assumption)] | rw [rSeq_n (by assumption) (by omega)] | rw [if_neg (by omega)] | rw [if_pos (by omega)])); all_goals (repeat' split); all_goals (first | (exfalso; omega) | (dsimp only; exact rFst (by assumption)) | (dsimp only; omega) | omega)) rfl)
  · intro h0 h1 h18 h19 a3 p3 h20 h21 h23 h24 a6 f6 q6 h36 h37 h38 h39
    first | (exfalso; omega) | exact hF _ (f6) _ (kM.tr (kM.tr (kM.u (xRk (by have g0 := sGB (n := n) (p := p) hb (by omega); omega)) (by omega) (kM.u (xRk (by omega)) (by omega) (kM.r hA))) h21) h36) h37 (by omega) (Prod.ext (by unfold rCl; (repeat (first | rw [rSeq_00] | rw [rSeq_as] | rw [rSeq_0 (by assumption)] | rw [rSeq_n (by assumption) (by omega)] | rw [if_neg (by omega)] | rw [if_pos (by omega)])); all_goals (repeat' split); all_goals (first | (exfalso; omega) | (dsimp only; exact rFst (by assumption)) | (dsimp only; omega) | omega)) rfl)
  · intro h0 h1 h18 h19 a4 f4 q4 h25 h26 h27 h28
    first | (exfalso; omega) | exact hF _ (f4) _ (kM.tr (kM.u (xRk (by have g0 := sGB (n := n) (p := p) hb (by omega); omega)) (by omega) (kM.u (xRk (by omega)) (by omega) (kM.r hA))) h25) h26 (by omega) (Prod.ext (by unfold rCl; (repeat (first | rw [rSeq_00] | rw [rSeq_as] | rw [rSeq_0 (by assumption)] | rw [rSeq_n (by assumption) (by omega)] | rw [if_neg (by omega)] | rw [if_pos (by omega)])); all_goals (repeat' split); all_goals (first | (exfalso; omega) | (dsimp only; exact rFst (by assumption)) | (dsimp only; omega) | omega)) rfl)
  · intro h0 h1 h18 h19
    first | (exfalso; omega) | exact hF _ (-1000 * 4 - p) _ (kM.u (xRk (by omega)) (by omega) (kM.r hA)) (by rw [xUa]) (by omega) (Prod.ext (by unfold rCl; (repeat (first | rw [rSeq_00] | rw [rSeq_as] | rw [rSeq_0 (by assumption)] | rw [rSeq_n (by assumption) (by omega)] | rw [if_neg (by omega)] | rw [if_pos (by omega)])); all_goals (repeat' split); all_goals (first | (exfalso; omega) | (dsimp only; exact rFst (by assumption)) | (dsimp only; omega) | omega)) rfl)
  · intro h0 h1 h18 h56 h57 a9 p9 h58 h59 h61 h62 a11 p11 h70 h71 h73 h74 a13 p13 h80 h81 h83 h84 a15 p15 h91 h92 h94 h95
    first | (exfalso; omega) | exact hT _ (p15) h91 (kM.tr (kM.tr (kM.tr (kM.tr (kM.u (xRk (by have g0 := sGB (n := n) (p := p) hb (by omega); omega)) (by omega) (kM.u (xRk (by omega)) (by omega) (kM.r hA))) h59) h71) h81) h92) (by unfold rCl; (repeat (first | rw [rSeq_00] | rw [rSeq_as] | rw [rSeq_0 (by assumption)] | rw [rSeq_n (by assumption) (by omega)] | rw [if_neg (by omega)] | rw [if_pos (by omega)])); all_goals (repeat' split); all_goals (first | (exfalso; omega) | assumption | rfl)) (by omega)
  · intro h0 h1 h18 h56 h57 a9 p9 h58 h59 h61 h62 a11 p11 h70 h71 h73 h74 a13 p13 h80 h81 h83 h84 a16 f16 q16 h96 h97 h98 h99
    first | (exfalso; omega) | exact hF _ (f16) _ (kM.tr (kM.tr (kM.tr (kM.tr (kM.u (xRk (by have g0 := sGB (n := n) (p := p) hb (by omega); omega)) (by omega) (kM.u (xRk (by omega)) (by omega) (kM.r hA))) h59) h71) h81) h96) h97 (by omega) (Prod.ext (by unfold rCl; (repeat (first | rw [rSeq_00] | rw [rSeq_as] | rw [rSeq_0 (by assumption)] | rw [rSeq_n (by assumption) (by omega)] | rw [if_neg (by omega)] | rw [if_pos (by omega)])); all_goals (repeat' split); all_goals (first | (exfalso; omega) | (dsimp only; exact rFst (by assumption)) | (dsimp only; omega) | omega)) rfl)
  · intro h0 h1 h18 h56 h57 a9 p9 h58 h59 h61 h62 a11 p11 h70 h71 h73 h74 a14 f14 q14 h85 h86 h87 h88
    first | (exfalso; omega) | exact hF _ (f14) _ (kM.tr (kM.tr (kM.tr (kM.u (xRk (by have g0 := sGB (n := n) (p := p) hb (by omega); omega)) (by omega) (kM.u (xRk (by omega)) (by omega) (kM.r hA))) h59) h71) h85) h86 (by omega) (Prod.ext (by unfold rCl; (repeat (first | rw [rSeq_00] | rw [rSeq_as] | rw [rSeq_0 (by assumption)] | rw [rSeq_n (by assumption) (by omega)] | rw [if_neg (by omega)] | rw [if_pos (by omega)])); all_goals (repeat' split); all_goals (first | (exfalso; omega) | (dsimp only; exact rFst (by assumption)) | (dsimp only; omega) | omega)) rfl)
  · intro h0 h1 h18 h56 h57 a9 p9 h58 h59 h61 h62 a12 f12 q12 h75 h76 h77 h78
    first | (exfalso; omega) | exact hF _ (f12) _ (kM.tr (kM.tr (kM.u (xRk (by have g0 := sGB (n := n) (p := p) hb (by omega); omega)) (by omega) (kM.u (xRk (by omega)) (by omega) (kM.r hA))) h59) h75) h76 (by omega) (Prod.ext (by unfold rCl; (repeat (first | rw [rSeq_00] | rw [rSeq_as] | rw [rSeq_0 (by assumption)] | rw [rSeq_n (by assumption) (by omega)] | rw [if_neg (by omega)] | rw [if_pos (by omega)])); all_goals (repeat' split); all_goals (first | (exfalso; omega) | (dsimp only; exact rFst (by assumption)) | (dsimp only; omega) | omega)) rfl)
  · intro h0 h1 h18 h56 h57 a10 f10 q10 h63 h64 h65 h66
    first | (exfalso; omega) | exact hF _ (f10) _ (kM.tr (kM.u (xRk (by have g0 := sGB (n := n) (p := p) hb (by omega); omega)) (by omega) (kM.u (xRk (by omega)) (by omega) (kM.r hA))) h63) h64 (by omega) (Prod.ext (by unfold rCl; (repeat (first | rw [rSeq_00] | rw [rSeq_as] | rw [rSeq_0 (by assumption)] | rw [rSeq_n (by assumption) (by omega)] | rw [if_neg (by omega)] | rw [if_pos (by omega)])); all_goals (repeat' split); all_goals (first | (exfalso; omega) | (dsimp only; exact rFst (by assumption)) | (dsimp only; omega) | omega)) rfl)
  · intro h0 h1 h18 h56 h57
    first | (exfalso; omega) | exact hF _ (-1000 * 4 - p) _ (kM.u (xRk (by omega)) (by omega) (kM.r hA)) (by rw [xUa]) (by omega) (Prod.ext (by unfold rCl; (repeat (first | rw [rSeq_00] | rw [rSeq_as] | rw [rSeq_0 (by assumption)] | rw [rSeq_n (by assumption) (by omega)] | rw [if_neg (by omega)] | rw [if_pos (by omega)])); all_goals (repeat' split); all_goals (first | (exfalso; omega) | (dsimp only; exact rFst (by assumption)) | (dsimp only; omega) | omega)) rfl)
  · intro h0 h1 h18 h56 h105 h106 a17 p17 h107 h108 h110 h111 a19 p19 h121 h122 h124 h125
    first | (exfalso; omega) | exact hT _ (p19) h121 (kM.tr (kM.tr (kM.u (xRk (by have g0 := sGB (n := n) (p := p) hb (by omega); omega)) (by omega) (kM.u (xRk (by omega)) (by omega) (kM.r hA))) h108) h122) (by unfold rCl; (repeat (first | rw [rSeq_00] | rw [rSeq_as] | rw [rSeq_0 (by assumption)] | rw [rSeq_n (by assumption) (by omega)] | rw [if_neg (by omega)] | rw [if_pos (by omega)])); all_goals (repeat' split); all_goals (first | (exfalso; omega) | assumption | rfl)) (by omega)
  · intro h0 h1 h18 h56 h105 h106 a17 p17 h107 h108 h110 h111 a20 f20 q20 h126 h127 h128 h129
    first | (exfalso; omega) | exact hF _ (f20) _ (kM.tr (kM.tr (kM.u (xRk (by have g0 := sGB (n := n) (p := p) hb (by omega); omega)) (by omega) (kM.u (xRk (by omega)) (by omega) (kM.r hA))) h108) h126) h127 (by omega) (Prod.ext (by unfold rCl; (repeat (first | rw [rSeq_00] | rw [rSeq_as] | rw [rSeq_0 (by assumption)] | rw [rSeq_n (by assumption) (by omega)] | rw [if_neg (by omega)] | rw [if_pos (by omega)])); all_goals (repeat' split); all_goals (first | (exfalso; omega) | (dsimp only; exact rFst (by assumption)) | (dsimp only; omega) | omega)) rfl)
  · intro h0 h1 h18 h56 h105 h106 a18 f18 q18 h112 h113 h114 h115
    first | (exfalso; omega) | exact hF _ (f18) _ (kM.tr (kM.u (xRk (by have g0 := sGB (n := n) (p := p) hb (by omega); omega)) (by omega) (kM.u (xRk (by omega)) (by omega) (kM.r hA))) h112) h113 (by omega) (Prod.ext (by unfold rCl; (repeat (first | rw [rSeq_00] | rw [rSeq_as] | rw [rSeq_0 (by assumption)] | rw [rSeq_n (by assumption) (by omega)] | rw [if_neg (by omega)] | rw [if_pos (by omega)])); all_goals (repeat' split); all_goals (first | (exfalso; omega) | (dsimp only; exact rFst (by assumption)) | (dsimp only; omega) | omega)) rfl)
  · intro h0 h1 h18 h56 h105 h106
    first | (exfalso; omega) | exact hF _ (-1000 * 4 - p) _ (kM.u (xRk (by omega)) (by omega) (kM.r hA)) (by rw [xUa]) (by omega) (Prod.ext (by unfold rCl; (repeat (first | rw [rSeq_00] | rw [rSeq_as] | rw [rSeq_0 (by assumption)] | rw [rSeq_n (by assumption) (by omega)] | rw [if_neg (by omega)] | rw [if_pos (by omega)])); all_goals (repeat' split); all_goals (first | (exfalso; omega) | (dsimp only; exact rFst (by assumption)) | (dsimp only; omega) | omega)) rfl)
  · intro h0 h1 h18 h56 h105
    first | (exfalso; omega) | exact hF _ (-1000 * 1 - p) _ (kM.u (xRk (by omega)) (by omega) (kM.r hA)) (by rw [xUa]) (by omega) (Prod.ext (by unfold rCl; (repeat (first | rw [rSeq_00] | rw [rSeq_as] | rw [rSeq_0 (by assumption)] | rw [rSeq_n (by assumption) (by omega)] | rw [if_neg (by omega)] | rw [if_pos (by omega)])); all_goals (repeat' split); all_goals (first | (exfalso; omega) | (dsimp only; exact rFst (by assumption)) | (dsimp only; omega) | omega)) rfl)

theorem xg143 {ro : Nat → Nat × (Nat → Int32)} {d : Nat} {Q : Option Value → pmS → Prop} {a : xA} {b : xB} {v x y : Int} (h : pmWp ro d 12 143 2 0 [some (xV v), some (xV x), some (xV y)] [] (xS a b) Q) : pmCs ro (d + 1) 143 [xV v, xV x, xV y] (xS a b) Q := x_go xi143 rfl rfl rfl rfl rfl h
theorem w143 {ro : Nat → Nat × (Nat → Int32)} {d : Nat} {Q : Option Value → pmS → Prop} {v x y : Int} {a : xA} {b : xB} (h_v : xR v) (h_x : xR x) (h_y : xR y)
    (k1 : (v < x) → Q (some (xV 0)) (xS a b))
    (k2 : (¬ v < x) → (y < v) → Q (some (xV 0)) (xS a b))
    (k3 : (¬ v < x) → (¬ y < v) → Q (some (xV 1)) (xS a b)) :
    pmWp ro d 12 143 2 0 [some (xV v), some (xV x), some (xV y)] [] (xS a b) Q := by
  refine x_iloadn xc143_0 rfl ?_
  refine x_iloadn xc143_1 rfl ?_
  refine x_iclt xc143_2 (xRk (by have g0 := xRb h_v; omega)) (xRk (by have g0 := xRb h_x; omega)) (fun h0 => ?_) (fun h0 => ?_)
  · refine x_iconst xc143_14 ?_
    refine x_iret xc143_15 (Or.inr ⟨rfl, (by omega)⟩) ?_
    exact k1 h0
  · refine x_iloadn xc143_5 rfl ?_
    refine x_iloadn xc143_6 rfl ?_
    refine x_icgt xc143_7 (xRk (by have g0 := xRb h_v; omega)) (xRk (by have g0 := xRb h_y; omega)) (fun h1 => ?_) (fun h1 => ?_)
    · refine x_iconst xc143_14 ?_
      refine x_iret xc143_15 (Or.inr ⟨rfl, (by omega)⟩) ?_
      exact k2 h0 h1
    · refine x_iconst xc143_10 ?_
      refine x_goto xc143_11 ?_
      refine x_iret xc143_15 (Or.inr ⟨rfl, (by omega)⟩) ?_
      exact k3 h0 h1

theorem xk143 {ro : Nat → Nat × (Nat → Int32)} {d : Nat} {Q : Option Value → pmS → Prop} {a : xA} {b : xB} {v x y : Int} (h_v : xR v) (h_x : xR x) (h_y : xR y) (hd : 1 ≤ d) (hT : x ≤ v ∧ v ≤ y → Q (some (xV 1)) (xS a b)) (hF : ¬ (x ≤ v ∧ v ≤ y) → Q (some (xV 0)) (xS a b)) : pmCs ro d 143 [xV v, xV x, xV y] (xS a b) Q := pmCs_deep (d := 1) (xg143 (w143 h_v h_x h_y (fun e0 => hF (by omega)) (fun e0 e1 => hF (by omega)) (fun e0 e1 => hT (by omega)))) hd
theorem xg154 {ro : Nat → Nat × (Nat → Int32)} {d : Nat} {Q : Option Value → pmS → Prop} {a : xA} {b : xB} {n : Int} (h : pmWp ro d 12 154 0 0 [some (.ref 87), some (xV n)] [] (xS a b) Q) : pmCs ro (d + 1) 154 [.ref 87, xV n] (xS a b) Q := x_go xi154 rfl rfl rfl rfl rfl h
theorem w154 {ro : Nat → Nat × (Nat → Int32)} {d : Nat} {Q : Option Value → pmS → Prop} {n : Int} {a : xA} {b : xB} (h_n : xR n)
    (k1 : Q none (xS (xU (xU (xU (xU (xU a 87 10 0) 87 11 n) 87 13 0) 87 14 0) 87 15 0) b)) :
    pmWp ro d 12 154 0 0 [some (.ref 87), some (xV n)] [] (xS a b) Q := by
  refine x_aloadn xc154_0 rfl ?_
  refine x_iconst xc154_1 ?_
  refine x_pfi (k := 10) xc154_2 rfl ⟨rfl, rfl⟩ rfl xz87 ?_
  refine x_aloadn xc154_5 rfl ?_
  refine x_iloadn xc154_6 rfl ?_
  refine x_pfi (k := 11) xc154_7 rfl ⟨rfl, rfl⟩ rfl xz87 ?_
  refine x_aloadn xc154_10 rfl ?_
  refine x_iconst xc154_11 ?_
  refine x_pfi (k := 13) xc154_12 rfl ⟨rfl, rfl⟩ rfl xz87 ?_
  refine x_aloadn xc154_15 rfl ?_
  refine x_iconst xc154_16 ?_
  refine x_pfi (k := 14) xc154_17 rfl ⟨rfl, rfl⟩ rfl xz87 ?_
  refine x_aloadn xc154_20 rfl ?_
  refine x_iconst xc154_21 ?_
  refine x_pfi (k := 15) xc154_22 rfl ⟨rfl, rfl⟩ rfl xz87 ?_
  refine x_ret xc154_25 rfl ?_
  exact k1

theorem xk154 {ro : Nat → Nat × (Nat → Int32)} {d : Nat} {Q : Option Value → pmS → Prop} {a : xA} {b : xB} {n : Int} (h_n : xR n) (hd : 1 ≤ d) (hQ : Q none (xS (xU (xU (xU (xU (xU a 87 10 0) 87 11 n) 87 13 0) 87 14 0) 87 15 0) b)) : pmCs ro d 154 [.ref 87, xV n] (xS a b) Q := pmCs_deep (d := 1) (xg154 (w154 h_n hQ)) hd
theorem w166b {ro : Nat → Nat × (Nat → Int32)} {d : Nat} {Q : Option Value → pmS → Prop} {a : xA} {b : xB} {t : Int → Int} {n p : Int} (hC : tR a t n p) (hp : 0 ≤ p ∧ p ≤ n) (hn : n ≤ 60) (hb : tB t) (hA : xAr a) {c m : Int} (hm : a 87 3 = m) (hc0 : 0 ≤ c ∧ c < 4) (hm0 : 0 ≤ m ∧ m < 6) (hd : 5 ≤ d)
    (k1 : (¬ p = n) → ∀ a1 : xA, ∀ p1 : Int, (tR a1 t n p1) → (kM a a1) → (rCom t n 59 p = (0, p1)) → (p < p1 ∧ p1 ≤ n) → (4 ≤ c + 1) → ∀ a3 : xA, ∀ p3 : Int, (tR a3 t n p3) → (kM a1 a3) → (rCl t n p1 (c + 1) = (0, p3)) → (p1 < p3 ∧ p3 ≤ n) → pmWp ro d 12 166 1 55 [some (.ref 87), some (xV n), some (xV (c + 1)), some (xV 1)] [] (xS a3 b) Q)
    (k2 : (¬ p = n) → ∀ a1 : xA, ∀ p1 : Int, (tR a1 t n p1) → (kM a a1) → (rCom t n 59 p = (0, p1)) → (p < p1 ∧ p1 ≤ n) → (4 ≤ c + 1) → ∀ a4 : xA, ∀ f4 : Int, ∀ q4 : Int, (kM a1 a4) → (a4 87 12 = f4) → (f4 < 0 ∧ -10000 < f4) → (rCl t n p1 (c + 1) = (f4, q4)) → pmWp ro d 12 166 1 55 [some (.ref 87), some (xV n), some (xV (c + 1)), some (xV 0)] [] (xS a4 b) Q)
    (k3 : (¬ p = n) → ∀ a1 : xA, ∀ p1 : Int, (tR a1 t n p1) → (kM a a1) → (rCom t n 59 p = (0, p1)) → (p < p1 ∧ p1 ≤ n) → (¬ 4 ≤ c + 1) → ∀ a5 : xA, ∀ p5 : Int, (tR a5 t n p5) → (kM a1 a5) → (rCl t n p1 (c + 1) = (0, p5)) → (p1 < p5 ∧ p5 ≤ n) → pmWp ro d 12 166 1 55 [some (.ref 87), some (xV n), some (xV (c + 1)), some (xV 1)] [] (xS a5 b) Q)
    (k4 : (¬ p = n) → ∀ a1 : xA, ∀ p1 : Int, (tR a1 t n p1) → (kM a a1) → (rCom t n 59 p = (0, p1)) → (p < p1 ∧ p1 ≤ n) → (¬ 4 ≤ c + 1) → ∀ a6 : xA, ∀ f6 : Int, ∀ q6 : Int, (kM a1 a6) → (a6 87 12 = f6) → (f6 < 0 ∧ -10000 < f6) → (rCl t n p1 (c + 1) = (f6, q6)) → pmWp ro d 12 166 1 55 [some (.ref 87), some (xV n), some (xV (c + 1)), some (xV 0)] [] (xS a6 b) Q)
    (k5 : (¬ p = n) → ∀ a2 : xA, ∀ f2 : Int, ∀ q2 : Int, (kM a a2) → (a2 87 12 = f2) → (f2 < 0 ∧ -10000 < f2) → (rCom t n 59 p = (f2, q2)) → pmWp ro d 12 166 1 55 [some (.ref 87), some (xV n), some (xV (c + 1)), some (xV 0)] [] (xS a2 b) Q)
    (k6 : (¬ ¬ p = n) → pmWp ro d 12 166 1 120 [some (.ref 87), some (xV n), some (xV (c + 1)), some (xV 1)] [] (xS a b) Q) :
    pmWp ro d 12 166 1 55 [some (.ref 87), some (xV n), some (xV c), some (xV 1)] [] (xS a b) Q := by
  refine x_iloadn xc166_55 rfl ?_
  refine x_ifeq xc166_56 (xRk (by decide)) (fun h => absurd h (by omega)) (fun _ => ?_)
  refine x_iloadn xc166_59 rfl ?_
  refine x_iconst xc166_60 ?_
  refine x_iadd xc166_61 ?_
  refine x_istoren (pl' := [some (.ref 87), some (xV n), some (xV (c + 1)), some (xV 1)]) xc166_62 rfl rfl ?_
  refine x_aloadn xc166_63 rfl ?_
  refine x_gfi' (k := 10) (v := p) xc166_64 rfl (Or.inl rfl) rfl xz87 hC.2.2 ?_
  refine x_aloadn xc166_67 rfl ?_
  refine x_gfi' (k := 11) (v := n) xc166_68 rfl (Or.inl rfl) rfl xz87 hC.2.1 ?_
  refine x_icne xc166_71 (xRk (by omega)) (xRk (by omega)) (fun h1 => ?_) (fun h1 => ?_)
  · refine x_aloadn xc166_77 rfl ?_
    refine x_bipush xc166_78 (by decide) ?_
    refine x_cV (as := [xV 59]) (rest := []) xc166_80 rfl xi171 xz87 ⟨rfl, rfl⟩ rfl rfl ?_
    refine xk171 hC (by omega) (by omega) hb hA (by omega) (by omega) (fun a1 p1 h2 h3 h5 h6 => ?_) (fun a2 f2 q2 h7 h8 h9 h10 => ?_)
    · refine x_ifeq xc166_83 (xRk (by decide)) (fun h => absurd h (by omega)) (fun _ => ?_)
      refine x_aloadn xc166_86 rfl ?_
      refine x_iconst xc166_87 ?_
      refine x_aloadn xc166_88 rfl ?_
      refine x_gfi' (k := 3) (v := m) xc166_89 rfl (Or.inl rfl) rfl xz87 (h3.2.trans hm) ?_
      refine x_imul xc166_92 ?_
      refine x_iloadn xc166_93 rfl ?_
      refine x_iconst xc166_94 ?_
      refine x_icge xc166_95 (xRk (by omega)) (xRk (by decide)) (fun h12 => ?_) (fun h12 => ?_)
      · refine x_iconst xc166_102 ?_
        refine x_iadd xc166_103 ?_
        refine x_iloadn xc166_104 rfl ?_
        refine x_cV (as := [xV (4 * m + 0), xV (c + 1)]) (rest := []) xc166_105 rfl xi167 xz87 ⟨rfl, rfl⟩ rfl rfl ?_
        refine xk167 h2 (by omega) (by omega) hb h3.1 (by omega) (by omega) (by omega) (fun a3 p3 h13 h14 h16 h17 => ?_) (fun a4 f4 q4 h18 h19 h20 h21 => ?_)
        · refine x_ifeq xc166_108 (xRk (by decide)) (fun h => absurd h (by omega)) (fun _ => ?_)
          refine x_iconst xc166_111 ?_
          refine x_goto xc166_112 ?_
          refine x_istoren (pl' := [some (.ref 87), some (xV n), some (xV (c + 1)), some (xV 1)]) xc166_116 rfl rfl ?_
          refine x_goto xc166_117 ?_
          exact k1 h1 a1 p1 h2 h3 h5 h6 h12 a3 p3 h13 h14 h16 h17
        · refine x_ifeq xc166_108 (xRk (by decide)) (fun _ => ?_) (fun h => absurd h (by omega))
          refine x_iconst xc166_115 ?_
          refine x_istoren (pl' := [some (.ref 87), some (xV n), some (xV (c + 1)), some (xV 0)]) xc166_116 rfl rfl ?_
          refine x_goto xc166_117 ?_
          exact k2 h1 a1 p1 h2 h3 h5 h6 h12 a4 f4 q4 h18 h19 h20 h21
      · refine x_iloadn xc166_98 rfl ?_
        refine x_goto xc166_99 ?_
        refine x_iadd xc166_103 ?_
        refine x_iloadn xc166_104 rfl ?_
        refine x_cV (as := [xV (4 * m + (c + 1)), xV (c + 1)]) (rest := []) xc166_105 rfl xi167 xz87 ⟨rfl, rfl⟩ rfl rfl ?_
        refine xk167 h2 (by omega) (by omega) hb h3.1 (by omega) (by omega) (by omega) (fun a5 p5 h24 h25 h27 h28 => ?_) (fun a6 f6 q6 h29 h30 h31 h32 => ?_)
        · refine x_ifeq xc166_108 (xRk (by decide)) (fun h => absurd h (by omega)) (fun _ => ?_)
          refine x_iconst xc166_111 ?_
          refine x_goto xc166_112 ?_
          refine x_istoren (pl' := [some (.ref 87), some (xV n), some (xV (c + 1)), some (xV 1)]) xc166_116 rfl rfl ?_
          refine x_goto xc166_117 ?_
          exact k3 h1 a1 p1 h2 h3 h5 h6 h12 a5 p5 h24 h25 h27 h28
        · refine x_ifeq xc166_108 (xRk (by decide)) (fun _ => ?_) (fun h => absurd h (by omega))
          refine x_iconst xc166_115 ?_
          refine x_istoren (pl' := [some (.ref 87), some (xV n), some (xV (c + 1)), some (xV 0)]) xc166_116 rfl rfl ?_
          refine x_goto xc166_117 ?_
          exact k4 h1 a1 p1 h2 h3 h5 h6 h12 a6 f6 q6 h29 h30 h31 h32
    · refine x_ifeq xc166_83 (xRk (by decide)) (fun _ => ?_) (fun h => absurd h (by omega))
      refine x_iconst xc166_115 ?_
      refine x_istoren (pl' := [some (.ref 87), some (xV n), some (xV (c + 1)), some (xV 0)]) xc166_116 rfl rfl ?_
      refine x_goto xc166_117 ?_
      exact k5 h1 a2 f2 q2 h7 h8 h9 h10
  · refine x_goto xc166_74 ?_
    exact k6 h1

theorem w166f {ro : Nat → Nat × (Nat → Int32)} {d : Nat} {Q : Option Value → pmS → Prop} {v2 : Option Value} {a : xA} {b : xB} {n m f : Int} (hm : a 87 3 = m) (hf : a 87 12 = f) (h_f : xR f)
    (k1 : Q (some (xV f)) (xS (xU a 87 9 0) b)) :
    pmWp ro d 12 166 1 55 [some (.ref 87), some (xV n), v2, some (xV 0)] [] (xS a b) Q := by
  refine x_iloadn xc166_55 rfl ?_
  refine x_ifeq xc166_56 (xRk (by decide)) (fun _ => ?_) (fun h => absurd h (by omega))
  refine x_aloadn xc166_120 rfl ?_
  refine x_iconst xc166_121 ?_
  refine x_pfi (k := 9) xc166_122 rfl ⟨rfl, rfl⟩ rfl xz87 ?_
  refine x_iloadn xc166_125 rfl ?_
  refine x_ifne xc166_126 (xRk (by decide)) (fun h => absurd h (by omega)) (fun _ => ?_)
  refine x_aloadn xc166_129 rfl ?_
  refine x_gfi' (k := 12) (v := f) xc166_130 rfl (Or.inl rfl) rfl xz87 (by rw [xUk (by decide), hf]) ?_
  refine x_iret xc166_133 (Or.inl rfl) ?_
  exact k1

theorem w166g {ro : Nat → Nat × (Nat → Int32)} {d : Nat} {Q : Option Value → pmS → Prop} {a : xA} {b : xB} {n c m : Int} (hm : a 87 3 = m) (hm0 : 0 ≤ m ∧ m < 6)
    (k1 : Q (some (xV (m + 1 - 1))) (xS (xU (xU (xU a 87 9 0) 100 m c) 87 3 (m + 1)) b)) :
    pmWp ro d 12 166 1 120 [some (.ref 87), some (xV n), some (xV c), some (xV 1)] [] (xS a b) Q := by
  refine x_aloadn xc166_120 rfl ?_
  refine x_iconst xc166_121 ?_
  refine x_pfi (k := 9) xc166_122 rfl ⟨rfl, rfl⟩ rfl xz87 ?_
  refine x_iloadn xc166_125 rfl ?_
  refine x_ifne xc166_126 (xRk (by decide)) (fun _ => ?_) (fun h => absurd h (by omega))
  refine x_aloadn xc166_134 rfl ?_
  refine x_gfr xc166_135 rfl rfl xz87 rfl ?_
  refine x_aloadn xc166_138 rfl ?_
  refine x_gfi' (k := 3) (v := m) xc166_139 rfl (Or.inl rfl) rfl xz87 (by rw [xUk (by decide), hm]) ?_
  refine x_iloadn xc166_142 rfl ?_
  refine x_ias xc166_143 xz100 (by omega) (by omega) (by omega) ?_
  refine x_aloadn xc166_144 rfl ?_
  refine x_aloadn xc166_145 rfl ?_
  refine x_gfi' (k := 3) (v := m) xc166_146 rfl (Or.inl rfl) rfl xz87 (by rw [xUn (by decide), xUk (by decide), hm]) ?_
  refine x_iconst xc166_149 ?_
  refine x_iadd xc166_150 ?_
  refine x_pfi (k := 3) xc166_151 rfl ⟨rfl, rfl⟩ rfl xz87 ?_
  refine x_aloadn xc166_154 rfl ?_
  refine x_gfi' (k := 3) (v := m + 1) xc166_155 rfl (Or.inl rfl) rfl xz87 (by rw [xUa]) ?_
  refine x_iconst xc166_158 ?_
  refine x_isub xc166_159 ?_
  refine x_iret xc166_160 (Or.inl rfl) ?_
  exact k1

theorem xg166 {ro : Nat → Nat × (Nat → Int32)} {d : Nat} {Q : Option Value → pmS → Prop} {a : xA} {b : xB} {n : Int} (h : pmWp ro d 12 166 1 0 [some (.ref 87), some (xV n), none, none] [] (xS a b) Q) : pmCs ro (d + 1) 166 [.ref 87, xV n] (xS a b) Q := x_go xi166 rfl rfl rfl rfl rfl h
theorem w166 {ro : Nat → Nat × (Nat → Int32)} {d : Nat} {Q : Option Value → pmS → Prop} {a : xA} {b : xB} {n m l g : Int} (h_n : xR n) (hm : a 87 3 = m) (hl : a 87 9 = l) (hg : a 87 4 = g) (hm0 : 0 ≤ m ∧ m ≤ 6) (hl0 : 0 ≤ l ∧ l ≤ 400) (hg0 : 0 ≤ g ∧ g ≤ 1) (hd : 5 ≤ d)
    (k1 : (¬ g = 0) → Q (some (xV (-1))) (xS a b))
    (k2 : (¬ ¬ g = 0) → (1 ≤ n ∧ n ≤ 60) → (l < n) → Q (some (xV (-1))) (xS a b))
    (k3 : (¬ ¬ g = 0) → (1 ≤ n ∧ n ≤ 60) → (¬ l < n) → (¬ m = 6) → pmCs ro d 167 [.ref 87, xV (4 * m), xV 0] (xS (xU (xU (xU (xU (xU a 87 10 0) 87 11 n) 87 13 0) 87 14 0) 87 15 0) b) fun r σ' => pmWp ro d 12 166 1 54 [some (.ref 87), some (xV n), some (xV 0), none] (r.toList ++ []) σ' Q)
    (k4 : (¬ ¬ g = 0) → (1 ≤ n ∧ n ≤ 60) → (¬ l < n) → (¬ ¬ m = 6) → Q (some (xV (-1))) (xS a b))
    (k5 : (¬ ¬ g = 0) → (¬ (1 ≤ n ∧ n ≤ 60)) → Q (some (xV (-1))) (xS a b)) :
    pmWp ro d 12 166 1 0 [some (.ref 87), some (xV n), none, none] [] (xS a b) Q := by
  refine x_aloadn xc166_0 rfl ?_
  refine x_gfi' (k := 4) (v := g) xc166_1 rfl (Or.inr rfl) rfl xz87 hg ?_
  refine x_ifne xc166_4 (xRk (by omega)) (fun h0 => ?_) (fun h0 => ?_)
  · refine x_iconst xc166_34 ?_
    refine x_iret xc166_35 (Or.inl rfl) ?_
    exact k1 h0
  · refine x_iloadn xc166_7 rfl ?_
    refine x_iconst xc166_8 ?_
    refine x_bipush xc166_9 (by decide) ?_
    refine x_cS (as := [xV n, xV 1, xV 60]) (rest := []) xc166_11 rfl rfl xi143 ⟨rfl, rfl⟩ rfl rfl ?_
    refine xk143 (xRk (by have g0 := xRb h_n; omega)) (xRk (by decide)) (xRk (by decide)) (by omega) (fun h1 => ?_) (fun h2 => ?_)
    · refine x_ifeq xc166_14 (xRk (by decide)) (fun h => absurd h (by omega)) (fun _ => ?_)
      refine x_iloadn xc166_17 rfl ?_
      refine x_aloadn xc166_18 rfl ?_
      refine x_gfi' (k := 9) (v := l) xc166_19 rfl (Or.inl rfl) rfl xz87 hl ?_
      refine x_icgt xc166_22 (xRk (by have g0 := xRb h_n; omega)) (xRk (by omega)) (fun h4 => ?_) (fun h4 => ?_)
      · refine x_iconst xc166_34 ?_
        refine x_iret xc166_35 (Or.inl rfl) ?_
        exact k2 h0 h1 h4
      · refine x_aloadn xc166_25 rfl ?_
        refine x_gfi' (k := 3) (v := m) xc166_26 rfl (Or.inl rfl) rfl xz87 hm ?_
        refine x_bipush xc166_29 (by decide) ?_
        refine x_icne xc166_31 (xRk (by omega)) (xRk (by decide)) (fun h5 => ?_) (fun h5 => ?_)
        · refine x_aloadn xc166_36 rfl ?_
          refine x_iloadn xc166_37 rfl ?_
          refine x_cV (as := [xV n]) (rest := []) xc166_38 rfl xi154 xz87 ⟨rfl, rfl⟩ rfl rfl ?_
          refine xk154 (xRk (by have g0 := xRb h_n; omega)) (by omega) ?_
          refine x_iconst xc166_41 ?_
          refine x_istoren (pl' := [some (.ref 87), some (xV n), some (xV 0), none]) xc166_42 rfl rfl ?_
          refine x_aloadn xc166_43 rfl ?_
          refine x_iconst xc166_44 ?_
          refine x_aloadn xc166_45 rfl ?_
          refine x_gfi' (k := 3) (v := m) xc166_46 rfl (Or.inl rfl) rfl xz87 (by rw [xUk (by decide), xUk (by decide), xUk (by decide), xUk (by decide), xUk (by decide), hm]) ?_
          refine x_imul xc166_49 ?_
          refine x_iconst xc166_50 ?_
          refine x_cV (as := [xV (4 * m), xV 0]) (rest := []) xc166_51 rfl xi167 xz87 ⟨rfl, rfl⟩ rfl rfl ?_
          exact k3 h0 h1 h4 h5
        · refine x_iconst xc166_34 ?_
          refine x_iret xc166_35 (Or.inl rfl) ?_
          exact k4 h0 h1 h4 h5
    · refine x_ifeq xc166_14 (xRk (by decide)) (fun _ => ?_) (fun h => absurd h (by omega))
      refine x_iconst xc166_34 ?_
      refine x_iret xc166_35 (Or.inl rfl) ?_
      exact k5 h0 h2

theorem w166c {ro : Nat → Nat × (Nat → Int32)} {d : Nat} {Q : Option Value → pmS → Prop} {v3 : Option Value} {a : xA} {b : xB} {n z : Int}
    (k1 : pmWp ro d 12 166 1 55 [some (.ref 87), some (xV n), some (xV 0), some (xV z)] [] (xS a b) Q) :
    pmWp ro d 12 166 1 54 [some (.ref 87), some (xV n), some (xV 0), v3] [xV z] (xS a b) Q := by
  refine x_istoren (pl' := [some (.ref 87), some (xV n), some (xV 0), some (xV z)]) xc166_54 rfl rfl ?_
  exact k1

end
