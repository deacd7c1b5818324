/-! exact: the class, plans remembered, what is wanted -/
section
set_option maxRecDepth 100000
theorem xi77 : pmInf[77]? = some pmI_77 := rfl
theorem xi85 : pmInf[85]? = some pmI_85 := rfl
theorem xc77_0 : pmCode 77 0 = some (.lload_n 1) ∧ 0 + 1 = 1 := ⟨rfl, rfl⟩
theorem xc77_1 : pmCode 77 1 = some (.iload_n 3) ∧ 1 + 1 = 2 := ⟨rfl, rfl⟩
theorem xc77_2 : pmCode 77 2 = some .i2l ∧ 2 + 1 = 3 := ⟨rfl, rfl⟩
theorem xc77_3 : pmCode 77 3 = some (.bipush 36) ∧ 3 + 2 = 5 := ⟨rfl, rfl⟩
theorem xc77_5 : pmCode 77 5 = some .lshl ∧ 5 + 1 = 6 := ⟨rfl, rfl⟩
theorem xc77_6 : pmCode 77 6 = some .lor ∧ 6 + 1 = 7 := ⟨rfl, rfl⟩
theorem xc77_7 : pmCode 77 7 = some (.iload 4) ∧ 7 + 2 = 9 := ⟨rfl, rfl⟩
theorem xc77_9 : pmCode 77 9 = some .i2l ∧ 9 + 1 = 10 := ⟨rfl, rfl⟩
theorem xc77_10 : pmCode 77 10 = some (.bipush 38) ∧ 10 + 2 = 12 := ⟨rfl, rfl⟩
theorem xc77_12 : pmCode 77 12 = some .lshl ∧ 12 + 1 = 13 := ⟨rfl, rfl⟩
theorem xc77_13 : pmCode 77 13 = some .lor ∧ 13 + 1 = 14 := ⟨rfl, rfl⟩
theorem xc77_14 : pmCode 77 14 = some (.lstore 5) ∧ 14 + 2 = 16 := ⟨rfl, rfl⟩
theorem xc77_16 : pmCode 77 16 = some (.lload 5) ∧ 16 + 2 = 18 := ⟨rfl, rfl⟩
theorem xc77_18 : pmCode 77 18 = some (.ldc2_w 82) ∧ 18 + 3 = 21 := ⟨rfl, rfl⟩
theorem xc77_21 : pmCode 77 21 = some .lmul ∧ 21 + 1 = 22 := ⟨rfl, rfl⟩
theorem xc77_22 : pmCode 77 22 = some (.bipush 55) ∧ 22 + 2 = 24 := ⟨rfl, rfl⟩
theorem xc77_24 : pmCode 77 24 = some .lushr ∧ 24 + 1 = 25 := ⟨rfl, rfl⟩
theorem xc77_25 : pmCode 77 25 = some .l2i ∧ 25 + 1 = 26 := ⟨rfl, rfl⟩
theorem xc77_26 : pmCode 77 26 = some (.istore 7) ∧ 26 + 2 = 28 := ⟨rfl, rfl⟩
theorem xc77_28 : pmCode 77 28 = some (.aload_n 0) ∧ 28 + 1 = 29 := ⟨rfl, rfl⟩
theorem xc77_29 : pmCode 77 29 = some (.getfield 11) ∧ 29 + 3 = 32 := ⟨rfl, rfl⟩
theorem xc77_32 : pmCode 77 32 = some (.iload 7) ∧ 32 + 2 = 34 := ⟨rfl, rfl⟩
theorem xc77_34 : pmCode 77 34 = some .laload ∧ 34 + 1 = 35 := ⟨rfl, rfl⟩
theorem xc77_35 : pmCode 77 35 = some (.lload 5) ∧ 35 + 2 = 37 := ⟨rfl, rfl⟩
theorem xc77_37 : pmCode 77 37 = some .lcmp ∧ 37 + 1 = 38 := ⟨rfl, rfl⟩
theorem xc77_38 : pmCode 77 38 = some (.ifCond .ne 11) ∧ ((38 : Nat) : Int) + 11 = ((49 : Nat) : Int) ∧ 38 + 3 = 41 := ⟨rfl, rfl, rfl⟩
theorem xc77_41 : pmCode 77 41 = some (.aload_n 0) ∧ 41 + 1 = 42 := ⟨rfl, rfl⟩
theorem xc77_42 : pmCode 77 42 = some (.getfield 15) ∧ 42 + 3 = 45 := ⟨rfl, rfl⟩
theorem xc77_45 : pmCode 77 45 = some (.iload 7) ∧ 45 + 2 = 47 := ⟨rfl, rfl⟩
theorem xc77_47 : pmCode 77 47 = some .laload ∧ 47 + 1 = 48 := ⟨rfl, rfl⟩
theorem xc77_48 : pmCode 77 48 = some .lreturn := rfl
theorem xc77_49 : pmCode 77 49 = some (.aload_n 0) ∧ 49 + 1 = 50 := ⟨rfl, rfl⟩
theorem xc77_50 : pmCode 77 50 = some (.lconst 0) ∧ 50 + 1 = 51 := ⟨rfl, rfl⟩
theorem xc77_51 : pmCode 77 51 = some (.putfield 84) ∧ 51 + 3 = 54 := ⟨rfl, rfl⟩
theorem xc77_54 : pmCode 77 54 = some (.aload_n 0) ∧ 54 + 1 = 55 := ⟨rfl, rfl⟩
theorem xc77_55 : pmCode 77 55 = some (.ldc 88) ∧ 55 + 2 = 57 := ⟨rfl, rfl⟩
theorem xc77_57 : pmCode 77 57 = some (.putfield 89) ∧ 57 + 3 = 60 := ⟨rfl, rfl⟩
theorem xc77_60 : pmCode 77 60 = some (.aload_n 0) ∧ 60 + 1 = 61 := ⟨rfl, rfl⟩
theorem xc77_61 : pmCode 77 61 = some (.lload_n 1) ∧ 61 + 1 = 62 := ⟨rfl, rfl⟩
theorem xc77_62 : pmCode 77 62 = some (.iload_n 3) ∧ 62 + 1 = 63 := ⟨rfl, rfl⟩
theorem xc77_63 : pmCode 77 63 = some (.iload 4) ∧ 63 + 2 = 65 := ⟨rfl, rfl⟩
theorem xc77_65 : pmCode 77 65 = some (.invokevirtual 92) ∧ 65 + 3 = 68 := ⟨rfl, rfl⟩
theorem xc77_68 : pmCode 77 68 = some (.ifCond .eq 13) ∧ ((68 : Nat) : Int) + 13 = ((81 : Nat) : Int) ∧ 68 + 3 = 71 := ⟨rfl, rfl, rfl⟩
theorem xc77_71 : pmCode 77 71 = some (.aload_n 0) ∧ 71 + 1 = 72 := ⟨rfl, rfl⟩
theorem xc77_72 : pmCode 77 72 = some (.ldc2_w 57) ∧ 72 + 3 = 75 := ⟨rfl, rfl⟩
theorem xc77_75 : pmCode 77 75 = some (.putfield 84) ∧ 75 + 3 = 78 := ⟨rfl, rfl⟩
theorem xc77_78 : pmCode 77 78 = some (.goto 60) ∧ ((78 : Nat) : Int) + 60 = ((138 : Nat) : Int) := ⟨rfl, rfl⟩
theorem xc77_81 : pmCode 77 81 = some (.aload_n 0) ∧ 81 + 1 = 82 := ⟨rfl, rfl⟩
theorem xc77_82 : pmCode 77 82 = some (.getfield 37) ∧ 82 + 3 = 85 := ⟨rfl, rfl⟩
theorem xc77_85 : pmCode 77 85 = some (.invokevirtual 96) ∧ 85 + 3 = 88 := ⟨rfl, rfl⟩
theorem xc77_88 : pmCode 77 88 = some (.istore 8) ∧ 88 + 2 = 90 := ⟨rfl, rfl⟩
theorem xc77_90 : pmCode 77 90 = some (.aload_n 0) ∧ 90 + 1 = 91 := ⟨rfl, rfl⟩
theorem xc77_91 : pmCode 77 91 = some (.iconst 1) ∧ 91 + 1 = 92 := ⟨rfl, rfl⟩
theorem xc77_92 : pmCode 77 92 = some (.putfield 101) ∧ 92 + 3 = 95 := ⟨rfl, rfl⟩
theorem xc77_95 : pmCode 77 95 = some (.aload_n 0) ∧ 95 + 1 = 96 := ⟨rfl, rfl⟩
theorem xc77_96 : pmCode 77 96 = some (.getfield 101) ∧ 96 + 3 = 99 := ⟨rfl, rfl⟩
theorem xc77_99 : pmCode 77 99 = some (.iconst 4) ∧ 99 + 1 = 100 := ⟨rfl, rfl⟩
theorem xc77_100 : pmCode 77 100 = some (.if_icmp .gt 38) ∧ ((100 : Nat) : Int) + 38 = ((138 : Nat) : Int) ∧ 100 + 3 = 103 := ⟨rfl, rfl, rfl⟩
theorem xc77_103 : pmCode 77 103 = some (.aload_n 0) ∧ 103 + 1 = 104 := ⟨rfl, rfl⟩
theorem xc77_104 : pmCode 77 104 = some (.getfield 101) ∧ 104 + 3 = 107 := ⟨rfl, rfl⟩
theorem xc77_107 : pmCode 77 107 = some (.iload 8) ∧ 107 + 2 = 109 := ⟨rfl, rfl⟩
theorem xc77_109 : pmCode 77 109 = some .imul ∧ 109 + 1 = 110 := ⟨rfl, rfl⟩
theorem xc77_110 : pmCode 77 110 = some (.aload_n 0) ∧ 110 + 1 = 111 := ⟨rfl, rfl⟩
theorem xc77_111 : pmCode 77 111 = some (.getfield 89) ∧ 111 + 3 = 114 := ⟨rfl, rfl⟩
theorem xc77_114 : pmCode 77 114 = some (.if_icmp .ge 24) ∧ ((114 : Nat) : Int) + 24 = ((138 : Nat) : Int) ∧ 114 + 3 = 117 := ⟨rfl, rfl, rfl⟩
theorem xc77_117 : pmCode 77 117 = some (.aload_n 0) ∧ 117 + 1 = 118 := ⟨rfl, rfl⟩
theorem xc77_118 : pmCode 77 118 = some (.lload_n 1) ∧ 118 + 1 = 119 := ⟨rfl, rfl⟩
theorem xc77_119 : pmCode 77 119 = some (.iconst 0) ∧ 119 + 1 = 120 := ⟨rfl, rfl⟩
theorem xc77_120 : pmCode 77 120 = some (.iconst 0) ∧ 120 + 1 = 121 := ⟨rfl, rfl⟩
theorem xc77_121 : pmCode 77 121 = some (.lconst 0) ∧ 121 + 1 = 122 := ⟨rfl, rfl⟩
theorem xc77_122 : pmCode 77 122 = some (.invokestatic 104) ∧ 122 + 3 = 125 := ⟨rfl, rfl⟩
theorem xc77_125 : pmCode 77 125 = some (.aload_n 0) ∧ 125 + 1 = 126 := ⟨rfl, rfl⟩
theorem xc77_126 : pmCode 77 126 = some .dup ∧ 126 + 1 = 127 := ⟨rfl, rfl⟩
theorem xc77_127 : pmCode 77 127 = some (.getfield 101) ∧ 127 + 3 = 130 := ⟨rfl, rfl⟩
theorem xc77_130 : pmCode 77 130 = some (.iconst 1) ∧ 130 + 1 = 131 := ⟨rfl, rfl⟩
theorem xc77_131 : pmCode 77 131 = some .iadd ∧ 131 + 1 = 132 := ⟨rfl, rfl⟩
theorem xc77_132 : pmCode 77 132 = some (.putfield 101) ∧ 132 + 3 = 135 := ⟨rfl, rfl⟩
theorem xc77_135 : pmCode 77 135 = some (.goto (-40)) ∧ ((135 : Nat) : Int) + (-40) = ((95 : Nat) : Int) := ⟨rfl, rfl⟩
theorem xc77_138 : pmCode 77 138 = some (.aload_n 0) ∧ 138 + 1 = 139 := ⟨rfl, rfl⟩
theorem xc77_139 : pmCode 77 139 = some (.getfield 11) ∧ 139 + 3 = 142 := ⟨rfl, rfl⟩
theorem xc77_142 : pmCode 77 142 = some (.iload 7) ∧ 142 + 2 = 144 := ⟨rfl, rfl⟩
theorem xc77_144 : pmCode 77 144 = some (.lload 5) ∧ 144 + 2 = 146 := ⟨rfl, rfl⟩
theorem xc77_146 : pmCode 77 146 = some .lastore ∧ 146 + 1 = 147 := ⟨rfl, rfl⟩
theorem xc77_147 : pmCode 77 147 = some (.aload_n 0) ∧ 147 + 1 = 148 := ⟨rfl, rfl⟩
theorem xc77_148 : pmCode 77 148 = some (.getfield 15) ∧ 148 + 3 = 151 := ⟨rfl, rfl⟩
theorem xc77_151 : pmCode 77 151 = some (.iload 7) ∧ 151 + 2 = 153 := ⟨rfl, rfl⟩
theorem xc77_153 : pmCode 77 153 = some (.aload_n 0) ∧ 153 + 1 = 154 := ⟨rfl, rfl⟩
theorem xc77_154 : pmCode 77 154 = some (.getfield 84) ∧ 154 + 3 = 157 := ⟨rfl, rfl⟩
theorem xc77_157 : pmCode 77 157 = some .lastore ∧ 157 + 1 = 158 := ⟨rfl, rfl⟩
theorem xc77_158 : pmCode 77 158 = some (.aload_n 0) ∧ 158 + 1 = 159 := ⟨rfl, rfl⟩
theorem xc77_159 : pmCode 77 159 = some (.getfield 84) ∧ 159 + 3 = 162 := ⟨rfl, rfl⟩
theorem xc77_162 : pmCode 77 162 = some .lreturn := rfl
theorem xc85_0 : pmCode 85 0 = some (.iload_n 3) ∧ 0 + 1 = 1 := ⟨rfl, rfl⟩
theorem xc85_1 : pmCode 85 1 = some (.iconst 1) ∧ 1 + 1 = 2 := ⟨rfl, rfl⟩
theorem xc85_2 : pmCode 85 2 = some (.if_icmp .lt 8) ∧ ((2 : Nat) : Int) + 8 = ((10 : Nat) : Int) ∧ 2 + 3 = 5 := ⟨rfl, rfl, rfl⟩
theorem xc85_5 : pmCode 85 5 = some (.iload_n 3) ∧ 5 + 1 = 6 := ⟨rfl, rfl⟩
theorem xc85_6 : pmCode 85 6 = some (.iconst 4) ∧ 6 + 1 = 7 := ⟨rfl, rfl⟩
theorem xc85_7 : pmCode 85 7 = some (.if_icmp .lt 5) ∧ ((7 : Nat) : Int) + 5 = ((12 : Nat) : Int) ∧ 7 + 3 = 10 := ⟨rfl, rfl, rfl⟩
theorem xc85_10 : pmCode 85 10 = some (.iconst 0) ∧ 10 + 1 = 11 := ⟨rfl, rfl⟩
theorem xc85_11 : pmCode 85 11 = some .ireturn := rfl
theorem xc85_12 : pmCode 85 12 = some (.iconst 0) ∧ 12 + 1 = 13 := ⟨rfl, rfl⟩
theorem xc85_13 : pmCode 85 13 = some (.istore 4) ∧ 13 + 2 = 15 := ⟨rfl, rfl⟩
theorem xc85_15 : pmCode 85 15 = some (.iload 4) ∧ 15 + 2 = 17 := ⟨rfl, rfl⟩
theorem xc85_17 : pmCode 85 17 = some (.aload_n 0) ∧ 17 + 1 = 18 := ⟨rfl, rfl⟩
theorem xc85_18 : pmCode 85 18 = some (.getfield 41) ∧ 18 + 3 = 21 := ⟨rfl, rfl⟩
theorem xc85_21 : pmCode 85 21 = some (.getfield 45) ∧ 21 + 3 = 24 := ⟨rfl, rfl⟩
theorem xc85_24 : pmCode 85 24 = some (.iload_n 3) ∧ 24 + 1 = 25 := ⟨rfl, rfl⟩
theorem xc85_25 : pmCode 85 25 = some .iaload ∧ 25 + 1 = 26 := ⟨rfl, rfl⟩
theorem xc85_26 : pmCode 85 26 = some (.if_icmp .ge 67) ∧ ((26 : Nat) : Int) + 67 = ((93 : Nat) : Int) ∧ 26 + 3 = 29 := ⟨rfl, rfl, rfl⟩
theorem xc85_29 : pmCode 85 29 = some (.aload_n 0) ∧ 29 + 1 = 30 := ⟨rfl, rfl⟩
theorem xc85_30 : pmCode 85 30 = some (.getfield 41) ∧ 30 + 3 = 33 := ⟨rfl, rfl⟩
theorem xc85_33 : pmCode 85 33 = some (.getfield 50) ∧ 33 + 3 = 36 := ⟨rfl, rfl⟩
theorem xc85_36 : pmCode 85 36 = some (.iload_n 3) ∧ 36 + 1 = 37 := ⟨rfl, rfl⟩
theorem xc85_37 : pmCode 85 37 = some (.iconst 3) ∧ 37 + 1 = 38 := ⟨rfl, rfl⟩
theorem xc85_38 : pmCode 85 38 = some .imul ∧ 38 + 1 = 39 := ⟨rfl, rfl⟩
theorem xc85_39 : pmCode 85 39 = some (.iload 4) ∧ 39 + 2 = 41 := ⟨rfl, rfl⟩
theorem xc85_41 : pmCode 85 41 = some .iadd ∧ 41 + 1 = 42 := ⟨rfl, rfl⟩
theorem xc85_42 : pmCode 85 42 = some .iaload ∧ 42 + 1 = 43 := ⟨rfl, rfl⟩
theorem xc85_43 : pmCode 85 43 = some (.istore 5) ∧ 43 + 2 = 45 := ⟨rfl, rfl⟩
theorem xc85_45 : pmCode 85 45 = some (.aload_n 0) ∧ 45 + 1 = 46 := ⟨rfl, rfl⟩
theorem xc85_46 : pmCode 85 46 = some (.lload_n 1) ∧ 46 + 1 = 47 := ⟨rfl, rfl⟩
theorem xc85_47 : pmCode 85 47 = some (.iload_n 3) ∧ 47 + 1 = 48 := ⟨rfl, rfl⟩
theorem xc85_48 : pmCode 85 48 = some (.iload 5) ∧ 48 + 2 = 50 := ⟨rfl, rfl⟩
theorem xc85_50 : pmCode 85 50 = some (.invokevirtual 53) ∧ 50 + 3 = 53 := ⟨rfl, rfl⟩
theorem xc85_53 : pmCode 85 53 = some (.lstore 6) ∧ 53 + 2 = 55 := ⟨rfl, rfl⟩
theorem xc85_55 : pmCode 85 55 = some (.lload 6) ∧ 55 + 2 = 57 := ⟨rfl, rfl⟩
theorem xc85_57 : pmCode 85 57 = some (.lconst 0) ∧ 57 + 1 = 58 := ⟨rfl, rfl⟩
theorem xc85_58 : pmCode 85 58 = some .lcmp ∧ 58 + 1 = 59 := ⟨rfl, rfl⟩
theorem xc85_59 : pmCode 85 59 = some (.ifCond .eq 28) ∧ ((59 : Nat) : Int) + 28 = ((87 : Nat) : Int) ∧ 59 + 3 = 62 := ⟨rfl, rfl, rfl⟩
theorem xc85_62 : pmCode 85 62 = some (.lload 6) ∧ 62 + 2 = 64 := ⟨rfl, rfl⟩
theorem xc85_64 : pmCode 85 64 = some (.ldc2_w 57) ∧ 64 + 3 = 67 := ⟨rfl, rfl⟩
theorem xc85_67 : pmCode 85 67 = some .lcmp ∧ 67 + 1 = 68 := ⟨rfl, rfl⟩
theorem xc85_68 : pmCode 85 68 = some (.ifCond .eq 19) ∧ ((68 : Nat) : Int) + 19 = ((87 : Nat) : Int) ∧ 68 + 3 = 71 := ⟨rfl, rfl, rfl⟩
theorem xc85_71 : pmCode 85 71 = some (.lload 6) ∧ 71 + 2 = 73 := ⟨rfl, rfl⟩
theorem xc85_73 : pmCode 85 73 = some (.ldc2_w 59) ∧ 73 + 3 = 76 := ⟨rfl, rfl⟩
theorem xc85_76 : pmCode 85 76 = some .land ∧ 76 + 1 = 77 := ⟨rfl, rfl⟩
theorem xc85_77 : pmCode 85 77 = some .l2i ∧ 77 + 1 = 78 := ⟨rfl, rfl⟩
theorem xc85_78 : pmCode 85 78 = some (.iload 5) ∧ 78 + 2 = 80 := ⟨rfl, rfl⟩
theorem xc85_80 : pmCode 85 80 = some (.iconst 1) ∧ 80 + 1 = 81 := ⟨rfl, rfl⟩
theorem xc85_81 : pmCode 85 81 = some .iadd ∧ 81 + 1 = 82 := ⟨rfl, rfl⟩
theorem xc85_82 : pmCode 85 82 = some (.bipush 13) ∧ 82 + 2 = 84 := ⟨rfl, rfl⟩
theorem xc85_84 : pmCode 85 84 = some .ishl ∧ 84 + 1 = 85 := ⟨rfl, rfl⟩
theorem xc85_85 : pmCode 85 85 = some .ior ∧ 85 + 1 = 86 := ⟨rfl, rfl⟩
theorem xc85_86 : pmCode 85 86 = some .ireturn := rfl
theorem xc85_87 : pmCode 85 87 = some (.iinc 4 1) ∧ 87 + 3 = 90 := ⟨rfl, rfl⟩
theorem xc85_90 : pmCode 85 90 = some (.goto (-75)) ∧ ((90 : Nat) : Int) + (-75) = ((15 : Nat) : Int) := ⟨rfl, rfl⟩
theorem xc85_93 : pmCode 85 93 = some (.iconst 0) ∧ 93 + 1 = 94 := ⟨rfl, rfl⟩
theorem xc85_94 : pmCode 85 94 = some .ireturn := rfl
theorem uH55 (x : Int64) : 0 ≤ xL2 (xShr x 55) ∧ xL2 (xShr x 55) ≤ 511 := by
  have h1 := uN_shr (l := x) (k := 55) (by decide) (by decide)
  have h2 := @uN_lt x
  have e : (55 : Int).toNat = 55 := rfl
  rw [e] at h1
  rw [uN_l2 (by omega)]
  omega
theorem w77 {Ln : Nat} {xs : Nat → Int32} {d : Nat} {Q : Option Value → pmS → Prop} {l : Int64} {p k : Int} {a : xA} {b : xB} (hp : 0 ≤ p ∧ p ≤ 3) (hk : 0 ≤ k ∧ k ≤ 3) {key : Int64} {at0 : Int} (hkey : ((l ||| xShL (Int64.ofInt p) 36) ||| xShL (Int64.ofInt k) 38) = key)
    (k1 : pmWp (pmRo Ln xs) d 3 77 3 16 [some (.ref 34), some (.long l), none, some (xV p), some (xV k), some (.long ((l ||| (xShL (Int64.ofInt p) 36)) ||| (xShL (Int64.ofInt k) 38))), none, none, none] [] (xS a b) Q) :
    pmWp (pmRo Ln xs) d 3 77 3 0 [some (.ref 34), some (.long l), none, some (xV p), some (xV k), none, none, none, none] [] (xS a b) Q := by
  refine x_lloadn xc77_0 rfl ?_
  refine x_iloadn xc77_1 rfl ?_
  refine x_i2l (xRk (by have g0 := hp; omega)) xc77_2 ?_
  refine x_bipush xc77_3 (by decide) ?_
  refine x_lshl xc77_5 ?_
  refine x_lor xc77_6 ?_
  refine x_iload xc77_7 rfl ?_
  refine x_i2l (xRk (by have g0 := hk; omega)) xc77_9 ?_
  refine x_bipush xc77_10 (by decide) ?_
  refine x_lshl xc77_12 ?_
  refine x_lor xc77_13 ?_
  refine x_lstore (pl' := [some (.ref 34), some (.long l), none, some (xV p), some (xV k), some (.long ((l ||| (xShL (Int64.ofInt p) 36)) ||| (xShL (Int64.ofInt k) 38))), none, none, none]) xc77_14 rfl rfl rfl ?_
  exact k1

theorem xg77 {ro : Nat → Nat × (Nat → Int32)} {d : Nat} {Q : Option Value → pmS → Prop} {a : xA} {b : xB} {p k : Int} {l : Int64} (h : pmWp ro d 3 77 3 0 [some (.ref 34), some (.long l), none, some (xV p), some (xV k), none, none, none, none] [] (xS a b) Q) : pmCs ro (d + 1) 77 [.ref 34, .long l, xV p, xV k] (xS a b) Q := x_go xi77 rfl rfl rfl rfl rfl h
theorem w77a {Ln : Nat} {xs : Nat → Int32} {d : Nat} {Q : Option Value → pmS → Prop} {l key : Int64} {p k : Int} {a : xA} {b : xB}
    (k1 : pmWp (pmRo Ln xs) d 3 77 3 28 [some (.ref 34), some (.long l), none, some (xV p), some (xV k), some (.long key), none, some (xV (xL2 (xShr (key * (-7046029254386353131 : Int64)) 55))), none] [] (xS a b) Q) :
    pmWp (pmRo Ln xs) d 3 77 3 16 [some (.ref 34), some (.long l), none, some (xV p), some (xV k), some (.long key), none, none, none] [] (xS a b) Q := by
  refine x_lload xc77_16 rfl ?_
  refine x_ldc2 (l := (-7046029254386353131)) xc77_18 rfl ?_
  refine x_lmul xc77_21 ?_
  refine x_bipush xc77_22 (by decide) ?_
  refine x_lushr xc77_24 ?_
  refine x_l2i xc77_25 ?_
  refine x_istore (pl' := [some (.ref 34), some (.long l), none, some (xV p), some (xV k), some (.long key), none, some (xV (xL2 (xShr (key * (-7046029254386353131 : Int64)) 55))), none]) xc77_26 rfl rfl ?_
  exact k1

theorem w77b {Ln : Nat} {xs : Nat → Int32} {d : Nat} {Q : Option Value → pmS → Prop} {l key : Int64} {p k : Int} {a : xA} {b : xB} {at0 : Int} (hat : 0 ≤ at0 ∧ at0 ≤ 511)
    (k1 : (¬ xCmp (b 35 at0) key = 0) → pmCs (pmRo Ln xs) d 72 [.ref 34, .long l, xV p, xV k] (xS (xU a 34 13 100000) (xU b 34 14 (0 : Int64))) fun r σ' => pmWp (pmRo Ln xs) d 3 77 3 68 [some (.ref 34), some (.long l), none, some (xV p), some (xV k), some (.long key), none, some (xV at0), none] (r.toList ++ []) σ' Q)
    (k2 : (xCmp (b 35 at0) key = 0) → Q (some (.long (b 36 at0))) (xS a b)) :
    pmWp (pmRo Ln xs) d 3 77 3 28 [some (.ref 34), some (.long l), none, some (xV p), some (xV k), some (.long key), none, some (xV at0), none] [] (xS a b) Q := by
  refine x_aloadn xc77_28 rfl ?_
  refine x_gfr xc77_29 rfl rfl xz34 rfl ?_
  refine x_iload xc77_32 rfl ?_
  refine x_lal xc77_34 xz35 (by have g0 := hat; omega) (by have g0 := hat; omega) (by have g0 := hat; omega) ?_
  refine x_lload xc77_35 rfl ?_
  refine x_lcmp xc77_37 ?_
  refine x_ifne xc77_38 (xRk (by have g0 := xCmpB (b 35 at0) key; omega)) (fun h0 => ?_) (fun h0 => ?_)
  · refine x_aloadn xc77_49 rfl ?_
    refine x_lconst (l := 0) xc77_50 rfl ?_
    refine x_pfl (k := 14) xc77_51 rfl ⟨rfl, rfl⟩ rfl xz34 ?_
    refine x_aloadn xc77_54 rfl ?_
    refine x_ldc (z := 100000) xc77_55 rfl ?_
    refine x_pfi (k := 13) xc77_57 rfl ⟨rfl, rfl⟩ rfl xz34 ?_
    refine x_aloadn xc77_60 rfl ?_
    refine x_lloadn xc77_61 rfl ?_
    refine x_iloadn xc77_62 rfl ?_
    refine x_iload xc77_63 rfl ?_
    refine x_cV (as := [.long l, xV p, xV k]) (rest := []) xc77_65 rfl xi72 xz34 ⟨rfl, rfl⟩ rfl rfl ?_
    exact k1 h0
  · replace h0 := Classical.not_not.mp h0
    refine x_aloadn xc77_41 rfl ?_
    refine x_gfr xc77_42 rfl rfl xz34 rfl ?_
    refine x_iload xc77_45 rfl ?_
    refine x_lal xc77_47 xz36 (by have g0 := hat; omega) (by have g0 := hat; omega) (by have g0 := hat; omega) ?_
    refine x_lret xc77_48 rfl ?_
    exact k2 h0

theorem w77c {Ln : Nat} {xs : Nat → Int32} {d : Nat} {Q : Option Value → pmS → Prop} {l key : Int64} {p k : Int} {a : xA} {b : xB} {at0 : Int} (hat : 0 ≤ at0 ∧ at0 ≤ 511) {z : Int} (hz : z = 0 ∨ z = 1)
    (k1 : (z = 0) → pmCs (pmRo Ln xs) d 78 [.ref 3] (xS a b) fun r σ' => pmWp (pmRo Ln xs) d 3 77 3 88 [some (.ref 34), some (.long l), none, some (xV p), some (xV k), some (.long key), none, some (xV at0), none] (r.toList ++ []) σ' Q)
    (k2 : (¬ z = 0) → pmWp (pmRo Ln xs) d 3 77 3 138 [some (.ref 34), some (.long l), none, some (xV p), some (xV k), some (.long key), none, some (xV at0), none] [] (xS a (xU b 34 14 (-1 : Int64))) Q) :
    pmWp (pmRo Ln xs) d 3 77 3 68 [some (.ref 34), some (.long l), none, some (xV p), some (xV k), some (.long key), none, some (xV at0), none] [xV z] (xS a b) Q := by
  refine x_ifeq xc77_68 (xRk (by have g0 := hz; omega)) (fun h0 => ?_) (fun h0 => ?_)
  · refine x_aloadn xc77_81 rfl ?_
    refine x_gfr xc77_82 rfl rfl xz34 rfl ?_
    refine x_cV (as := []) (rest := []) xc77_85 rfl xi78 xz3 ⟨rfl, rfl⟩ rfl rfl ?_
    exact k1 h0
  · refine x_aloadn xc77_71 rfl ?_
    refine x_ldc2 (l := (-1)) xc77_72 rfl ?_
    refine x_pfl (k := 14) xc77_75 rfl ⟨rfl, rfl⟩ rfl xz34 ?_
    refine x_goto xc77_78 ?_
    exact k2 h0

theorem w77d {Ln : Nat} {xs : Nat → Int32} {d : Nat} {Q : Option Value → pmS → Prop} {l key : Int64} {p k : Int} {a : xA} {b : xB} {at0 : Int} (hat : 0 ≤ at0 ∧ at0 ≤ 511) {ch : Int}
    (k1 : pmWp (pmRo Ln xs) d 3 77 3 95 [some (.ref 34), some (.long l), none, some (xV p), some (xV k), some (.long key), none, some (xV at0), some (xV ch)] [] (xS (xU a 34 12 1) b) Q) :
    pmWp (pmRo Ln xs) d 3 77 3 88 [some (.ref 34), some (.long l), none, some (xV p), some (xV k), some (.long key), none, some (xV at0), none] [xV ch] (xS a b) Q := by
  refine x_istore (pl' := [some (.ref 34), some (.long l), none, some (xV p), some (xV k), some (.long key), none, some (xV at0), some (xV ch)]) xc77_88 rfl rfl ?_
  refine x_aloadn xc77_90 rfl ?_
  refine x_iconst xc77_91 ?_
  refine x_pfi (k := 12) xc77_92 rfl ⟨rfl, rfl⟩ rfl xz34 ?_
  exact k1

theorem w77e {Ln : Nat} {xs : Nat → Int32} {d : Nat} {Q : Option Value → pmS → Prop} {l key : Int64} {p k : Int} {a : xA} {b : xB} {at0 : Int} (hat : 0 ≤ at0 ∧ at0 ≤ 511) {ch lim bc : Int} (hch : 1 ≤ ch ∧ ch ≤ 73) (hl : a 34 12 = lim) (hl0 : 1 ≤ lim ∧ lim ≤ 5) (hbc : a 34 13 = bc) (hbc0 : 0 ≤ bc ∧ bc ≤ 100000) (hm : 0 ≤ lim * ch ∧ lim * ch ≤ 400)
    (k1 : (4 < lim) → pmWp (pmRo Ln xs) d 3 77 3 138 [some (.ref 34), some (.long l), none, some (xV p), some (xV k), some (.long key), none, some (xV at0), some (xV ch)] [] (xS a b) Q)
    (k2 : (¬ 4 < lim) → (bc ≤ lim * ch) → pmWp (pmRo Ln xs) d 3 77 3 138 [some (.ref 34), some (.long l), none, some (xV p), some (xV k), some (.long key), none, some (xV at0), some (xV ch)] [] (xS a b) Q)
    (k3 : (¬ 4 < lim) → (¬ bc ≤ lim * ch) → pmCs (pmRo Ln xs) d 79 [.ref 34, .long l, xV 0, xV 0, .long (0 : Int64)] (xS a b) fun r σ' => pmWp (pmRo Ln xs) d 3 77 3 125 [some (.ref 34), some (.long l), none, some (xV p), some (xV k), some (.long key), none, some (xV at0), some (xV ch)] (r.toList ++ []) σ' Q) :
    pmWp (pmRo Ln xs) d 3 77 3 95 [some (.ref 34), some (.long l), none, some (xV p), some (xV k), some (.long key), none, some (xV at0), some (xV ch)] [] (xS a b) Q := by
  refine x_aloadn xc77_95 rfl ?_
  refine x_gfi' (k := 12) (v := lim) xc77_96 rfl (Or.inl rfl) rfl xz34 hl ?_
  refine x_iconst xc77_99 ?_
  refine x_icgt xc77_100 (xRk (by have g0 := hl0; have g1 := hm; omega)) (xRk (by decide)) (fun h0 => ?_) (fun h0 => ?_)
  · exact k1 h0
  · refine x_aloadn xc77_103 rfl ?_
    refine x_gfi' (k := 12) (v := lim) xc77_104 rfl (Or.inl rfl) rfl xz34 hl ?_
    refine x_iload xc77_107 rfl ?_
    refine x_imul xc77_109 ?_
    refine x_aloadn xc77_110 rfl ?_
    refine x_gfi' (k := 13) (v := bc) xc77_111 rfl (Or.inl rfl) rfl xz34 hbc ?_
    refine x_icge xc77_114 (xRk (by have g0 := hl0; have g1 := hm; have g2 := hch; omega)) (xRk (by have g0 := hbc0; omega)) (fun h1 => ?_) (fun h1 => ?_)
    · exact k2 h0 h1
    · refine x_aloadn xc77_117 rfl ?_
      refine x_lloadn xc77_118 rfl ?_
      refine x_iconst xc77_119 ?_
      refine x_iconst xc77_120 ?_
      refine x_lconst (l := 0) xc77_121 rfl ?_
      refine x_cS (as := [.ref 34, .long l, xV 0, xV 0, .long (0 : Int64)]) (rest := []) xc77_122 rfl rfl xi79 ⟨rfl, rfl⟩ rfl rfl ?_
      exact k3 h0 h1

theorem w77f {Ln : Nat} {xs : Nat → Int32} {d : Nat} {Q : Option Value → pmS → Prop} {l key : Int64} {p k : Int} {a : xA} {b : xB} {at0 : Int} (hat : 0 ≤ at0 ∧ at0 ≤ 511) {ch lim : Int} (hl : a 34 12 = lim)
    (k1 : pmWp (pmRo Ln xs) d 3 77 3 95 [some (.ref 34), some (.long l), none, some (xV p), some (xV k), some (.long key), none, some (xV at0), some (xV ch)] [] (xS (xU a 34 12 (lim + 1)) b) Q) :
    pmWp (pmRo Ln xs) d 3 77 3 125 [some (.ref 34), some (.long l), none, some (xV p), some (xV k), some (.long key), none, some (xV at0), some (xV ch)] [] (xS a b) Q := by
  refine x_aloadn xc77_125 rfl ?_
  refine x_dup xc77_126 rfl ?_
  refine x_gfi' (k := 12) (v := lim) xc77_127 rfl (Or.inl rfl) rfl xz34 hl ?_
  refine x_iconst xc77_130 ?_
  refine x_iadd xc77_131 ?_
  refine x_pfi (k := 12) xc77_132 rfl ⟨rfl, rfl⟩ rfl xz34 ?_
  refine x_goto xc77_135 ?_
  exact k1

theorem w77g {Ln : Nat} {xs : Nat → Int32} {d : Nat} {Q : Option Value → pmS → Prop} {v8 : Option Value} {l key : Int64} {p k : Int} {a : xA} {b : xB} {at0 : Int} (hat : 0 ≤ at0 ∧ at0 ≤ 511)
    (k1 : Q (some (.long (b 34 14))) (xS a (xU (xU b 35 at0 key) 36 at0 (b 34 14)))) :
    pmWp (pmRo Ln xs) d 3 77 3 138 [some (.ref 34), some (.long l), none, some (xV p), some (xV k), some (.long key), none, some (xV at0), v8] [] (xS a b) Q := by
  refine x_aloadn xc77_138 rfl ?_
  refine x_gfr xc77_139 rfl rfl xz34 rfl ?_
  refine x_iload xc77_142 rfl ?_
  refine x_lload xc77_144 rfl ?_
  refine x_las xc77_146 xz35 (by have g0 := hat; omega) (by have g0 := hat; omega) (by have g0 := hat; omega) ?_
  refine x_aloadn xc77_147 rfl ?_
  refine x_gfr xc77_148 rfl rfl xz34 rfl ?_
  refine x_iload xc77_151 rfl ?_
  refine x_aloadn xc77_153 rfl ?_
  refine x_gfl' (k := 14) (v := b 34 14) xc77_154 rfl rfl rfl xz34 (by rw [xUn (by decide)]) ?_
  refine x_las xc77_157 xz36 (by have g0 := hat; omega) (by have g0 := hat; omega) (by have g0 := hat; omega) ?_
  refine x_aloadn xc77_158 rfl ?_
  refine x_gfl' (k := 14) (v := b 34 14) xc77_159 rfl rfl rfl xz34 (by rw [xUn (by decide), xUn (by decide)]) ?_
  refine x_lret xc77_162 rfl ?_
  exact k1

theorem w85 {Ln : Nat} {xs : Nat → Int32} {d : Nat} {Q : Option Value → pmS → Prop} {l : Int64} {p : Int} {a : xA} {b : xB} (hp : 1 ≤ p ∧ p ≤ 3)
    (k1 : (p < 1) → Q (some (xV 0)) (xS a b))
    (k2 : (¬ p < 1) → (p < 4) → pmWp (pmRo Ln xs) d 3 85 1 15 [some (.ref 34), some (.long l), none, some (xV p), some (xV 0), none, none, none] [] (xS a b) Q)
    (k3 : (¬ p < 1) → (¬ p < 4) → Q (some (xV 0)) (xS a b)) :
    pmWp (pmRo Ln xs) d 3 85 1 0 [some (.ref 34), some (.long l), none, some (xV p), none, none, none, none] [] (xS a b) Q := by
  refine x_iloadn xc85_0 rfl ?_
  refine x_iconst xc85_1 ?_
  refine x_iclt xc85_2 (xRk (by have g0 := hp; omega)) (xRk (by decide)) (fun h0 => ?_) (fun h0 => ?_)
  · refine x_iconst xc85_10 ?_
    refine x_iret xc85_11 (Or.inl rfl) ?_
    exact k1 h0
  · refine x_iloadn xc85_5 rfl ?_
    refine x_iconst xc85_6 ?_
    refine x_iclt xc85_7 (xRk (by have g0 := hp; omega)) (xRk (by decide)) (fun h1 => ?_) (fun h1 => ?_)
    · refine x_iconst xc85_12 ?_
      refine x_istore (pl' := [some (.ref 34), some (.long l), none, some (xV p), some (xV 0), none, none, none]) xc85_13 rfl rfl ?_
      exact k2 h0 h1
    · refine x_iconst xc85_10 ?_
      refine x_iret xc85_11 (Or.inl rfl) ?_
      exact k3 h0 h1

theorem xg85 {ro : Nat → Nat × (Nat → Int32)} {d : Nat} {Q : Option Value → pmS → Prop} {a : xA} {b : xB} {p : Int} {l : Int64} (h : pmWp ro d 3 85 1 0 [some (.ref 34), some (.long l), none, some (xV p), none, none, none, none] [] (xS a b) Q) : pmCs ro (d + 1) 85 [.ref 34, .long l, xV p] (xS a b) Q := x_go xi85 rfl rfl rfl rfl rfl h
theorem w85x {Ln : Nat} {xs : Nat → Int32} {d : Nat} {Q : Option Value → pmS → Prop} {v5 : Option Value} {v6 : Option Value} {l : Int64} {p cn : Int} {a : xA} {b : xB} (hp : 1 ≤ p ∧ p ≤ 3) (hc : a 12 p = cn) (hc0 : 0 ≤ cn ∧ cn ≤ 3)
    (k1 : Q (some (xV 0)) (xS a b)) :
    pmWp (pmRo Ln xs) d 3 85 1 15 [some (.ref 34), some (.long l), none, some (xV p), some (xV cn), v5, v6, none] [] (xS a b) Q := by
  refine x_iload xc85_15 rfl ?_
  refine x_aloadn xc85_17 rfl ?_
  refine x_gfr xc85_18 rfl rfl xz34 rfl ?_
  refine x_gfr xc85_21 rfl rfl xz7 rfl ?_
  refine x_iloadn xc85_24 rfl ?_
  refine x_ial' (v := cn) xc85_25 xz12 rfl (by have g0 := hp; omega) (by have g0 := hp; omega) (by have g0 := hp; omega) hc ?_
  refine x_icge xc85_26 (xRk (by have g0 := hc0; omega)) (xRk (by have g0 := hc0; omega)) (fun _ => ?_) (fun h => absurd h (by omega))
  refine x_iconst xc85_93 ?_
  refine x_iret xc85_94 (Or.inl rfl) ?_
  exact k1

theorem w85a {Ln : Nat} {xs : Nat → Int32} {d : Nat} {Q : Option Value → pmS → Prop} {v5 : Option Value} {v6 : Option Value} {l : Int64} {p cn i k : Int} {a : xA} {b : xB} (hp : 1 ≤ p ∧ p ≤ 3) (hc : a 12 p = cn) (hc0 : 0 ≤ cn ∧ cn ≤ 3) (hi : 0 ≤ i ∧ i < cn) (ho : a 11 (p * 3 + i) = k) (hk : 0 ≤ k ∧ k ≤ 2)
    (k1 : (cn ≤ i) → Q (some (xV 0)) (xS a b))
    (k2 : (¬ cn ≤ i) → pmCs (pmRo Ln xs) d 77 [.ref 34, .long l, xV p, xV k] (xS a b) fun r σ' => pmWp (pmRo Ln xs) d 3 85 1 53 [some (.ref 34), some (.long l), none, some (xV p), some (xV i), some (xV k), v6, none] (r.toList ++ []) σ' Q) :
    pmWp (pmRo Ln xs) d 3 85 1 15 [some (.ref 34), some (.long l), none, some (xV p), some (xV i), v5, v6, none] [] (xS a b) Q := by
  refine x_iload xc85_15 rfl ?_
  refine x_aloadn xc85_17 rfl ?_
  refine x_gfr xc85_18 rfl rfl xz34 rfl ?_
  refine x_gfr xc85_21 rfl rfl xz7 rfl ?_
  refine x_iloadn xc85_24 rfl ?_
  refine x_ial' (v := cn) xc85_25 xz12 rfl (by have g0 := hp; omega) (by have g0 := hp; omega) (by have g0 := hp; omega) hc ?_
  refine x_icge xc85_26 (xRk (by have g0 := hi; omega)) (xRk (by have g0 := hc0; omega)) (fun h0 => ?_) (fun h0 => ?_)
  · refine x_iconst xc85_93 ?_
    refine x_iret xc85_94 (Or.inl rfl) ?_
    exact k1 h0
  · refine x_aloadn xc85_29 rfl ?_
    refine x_gfr xc85_30 rfl rfl xz34 rfl ?_
    refine x_gfr xc85_33 rfl rfl xz7 rfl ?_
    refine x_iloadn xc85_36 rfl ?_
    refine x_iconst xc85_37 ?_
    refine x_imul xc85_38 ?_
    refine x_iload xc85_39 rfl ?_
    refine x_iadd xc85_41 ?_
    refine x_ial' (v := k) xc85_42 xz11 rfl (by have g0 := hp; have g1 := hi; omega) (by have g0 := hp; have g1 := hi; omega) (by have g0 := hp; have g1 := hi; omega) ho ?_
    refine x_istore (pl' := [some (.ref 34), some (.long l), none, some (xV p), some (xV i), some (xV k), v6, none]) xc85_43 rfl rfl ?_
    refine x_aloadn xc85_45 rfl ?_
    refine x_lloadn xc85_46 rfl ?_
    refine x_iloadn xc85_47 rfl ?_
    refine x_iload xc85_48 rfl ?_
    refine x_cV (as := [.long l, xV p, xV k]) (rest := []) xc85_50 rfl xi77 xz34 ⟨rfl, rfl⟩ rfl rfl ?_
    exact k2 h0

theorem w85b {Ln : Nat} {xs : Nat → Int32} {d : Nat} {Q : Option Value → pmS → Prop} {v6 : Option Value} {l z : Int64} {p i k : Int} {a : xA} {b : xB} (hp : 1 ≤ p ∧ p ≤ 3) (hi : 0 ≤ i ∧ i < 3) (hk : 0 ≤ k ∧ k ≤ 2)
    (k1 : (xCmp z (0 : Int64) = 0) → pmWp (pmRo Ln xs) d 3 85 1 15 [some (.ref 34), some (.long l), none, some (xV p), some (xV (i + 1)), some (xV k), some (.long z), none] [] (xS a b) Q)
    (k2 : (¬ xCmp z (0 : Int64) = 0) → (xCmp z (-1 : Int64) = 0) → pmWp (pmRo Ln xs) d 3 85 1 15 [some (.ref 34), some (.long l), none, some (xV p), some (xV (i + 1)), some (xV k), some (.long z), none] [] (xS a b) Q)
    (k3 : (¬ xCmp z (0 : Int64) = 0) → (¬ xCmp z (-1 : Int64) = 0) → Q (some (xV (xOr (xL2 (z &&& (511 : Int64))) ((k + 1) * 8192)))) (xS a b)) :
    pmWp (pmRo Ln xs) d 3 85 1 53 [some (.ref 34), some (.long l), none, some (xV p), some (xV i), some (xV k), v6, none] [.long z] (xS a b) Q := by
  refine x_lstore (pl' := [some (.ref 34), some (.long l), none, some (xV p), some (xV i), some (xV k), some (.long z), none]) xc85_53 rfl rfl rfl ?_
  refine x_lload xc85_55 rfl ?_
  refine x_lconst (l := 0) xc85_57 rfl ?_
  refine x_lcmp xc85_58 ?_
  refine x_ifeq xc85_59 (xRk (by have g0 := xCmpB z (0 : Int64); omega)) (fun h0 => ?_) (fun h0 => ?_)
  · refine x_iinc (pl' := [some (.ref 34), some (.long l), none, some (xV p), some (xV (i + 1)), some (xV k), some (.long z), none]) xc85_87 rfl rfl ?_
    refine x_goto xc85_90 ?_
    exact k1 h0
  · refine x_lload xc85_62 rfl ?_
    refine x_ldc2 (l := (-1)) xc85_64 rfl ?_
    refine x_lcmp xc85_67 ?_
    refine x_ifeq xc85_68 (xRk (by have g0 := xCmpB z (-1 : Int64); omega)) (fun h1 => ?_) (fun h1 => ?_)
    · refine x_iinc (pl' := [some (.ref 34), some (.long l), none, some (xV p), some (xV (i + 1)), some (xV k), some (.long z), none]) xc85_87 rfl rfl ?_
      refine x_goto xc85_90 ?_
      exact k2 h0 h1
    · refine x_lload xc85_71 rfl ?_
      refine x_ldc2 (l := 511) xc85_73 rfl ?_
      refine x_land xc85_76 ?_
      refine x_l2i xc85_77 ?_
      refine x_iload xc85_78 rfl ?_
      refine x_iconst xc85_80 ?_
      refine x_iadd xc85_81 ?_
      refine x_bipush xc85_82 (by decide) ?_
      refine x_ishl (M := 8192) (by omega) (by omega) (by decide) xc85_84 ?_
      refine x_ior xc85_85 ?_
      refine x_iret xc85_86 (Or.inl rfl) ?_
      exact k3 h0 h1

end
