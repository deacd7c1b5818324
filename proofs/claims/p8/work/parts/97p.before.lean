/-! exact: refused ahead of the beginning -/
section
set_option maxRecDepth 100000
theorem xi87 : pmInf[87]? = some pmI_87 := rfl
theorem xi110 : pmInf[110]? = some pmI_110 := rfl
theorem xi114 : pmInf[114]? = some pmI_114 := rfl
theorem xi115 : pmInf[115]? = some pmI_115 := rfl
theorem xi116 : pmInf[116]? = some pmI_116 := rfl
theorem xi117 : pmInf[117]? = some pmI_117 := rfl
theorem xi119 : pmInf[119]? = some pmI_119 := rfl
theorem xi120 : pmInf[120]? = some pmI_120 := rfl
theorem xi129 : pmInf[129]? = some pmI_129 := rfl
theorem xi130 : pmInf[130]? = some pmI_130 := rfl
theorem xi204 : pmInf[204]? = some pmI_204 := rfl
theorem xi223 : pmInf[223]? = some pmI_223 := rfl
theorem xi230 : pmInf[230]? = some pmI_230 := rfl
theorem xi231 : pmInf[231]? = some pmI_231 := rfl
theorem xi232 : pmInf[232]? = some pmI_232 := rfl
theorem xi236 : pmInf[236]? = some pmI_236 := rfl
theorem xi237 : pmInf[237]? = some pmI_237 := rfl
theorem xi241 : pmInf[241]? = some pmI_241 := rfl
theorem xc87_0 : pmCode 87 0 = some (.aload_n 0) ∧ 0 + 1 = 1 := ⟨rfl, rfl⟩
theorem xc87_1 : pmCode 87 1 = some (.getfield 101) ∧ 1 + 3 = 4 := ⟨rfl, rfl⟩
theorem xc87_4 : pmCode 87 4 = some (.ifCond .eq 15) ∧ ((4 : Nat) : Int) + 15 = ((19 : Nat) : Int) ∧ 4 + 3 = 7 := ⟨rfl, rfl, rfl⟩
theorem xc87_19 : pmCode 87 19 = some (.iconst (-1)) ∧ 19 + 1 = 20 := ⟨rfl, rfl⟩
theorem xc87_20 : pmCode 87 20 = some .ireturn := rfl
theorem xc110_0 : pmCode 110 0 = some (.aload_n 0) ∧ 0 + 1 = 1 := ⟨rfl, rfl⟩
theorem xc110_1 : pmCode 110 1 = some (.getfield 101) ∧ 1 + 3 = 4 := ⟨rfl, rfl⟩
theorem xc110_4 : pmCode 110 4 = some (.ifCond .eq 12) ∧ ((4 : Nat) : Int) + 12 = ((16 : Nat) : Int) ∧ 4 + 3 = 7 := ⟨rfl, rfl, rfl⟩
theorem xc110_16 : pmCode 110 16 = some (.iconst (-1)) ∧ 16 + 1 = 17 := ⟨rfl, rfl⟩
theorem xc110_17 : pmCode 110 17 = some .ireturn := rfl
theorem xc114_0 : pmCode 114 0 = some (.aload_n 0) ∧ 0 + 1 = 1 := ⟨rfl, rfl⟩
theorem xc114_1 : pmCode 114 1 = some (.getfield 101) ∧ 1 + 3 = 4 := ⟨rfl, rfl⟩
theorem xc114_4 : pmCode 114 4 = some (.ifCond .ne 5) ∧ ((4 : Nat) : Int) + 5 = ((9 : Nat) : Int) ∧ 4 + 3 = 7 := ⟨rfl, rfl, rfl⟩
theorem xc114_7 : pmCode 114 7 = some (.iconst (-1)) ∧ 7 + 1 = 8 := ⟨rfl, rfl⟩
theorem xc114_8 : pmCode 114 8 = some .ireturn := rfl
theorem xc115_0 : pmCode 115 0 = some (.aload_n 0) ∧ 0 + 1 = 1 := ⟨rfl, rfl⟩
theorem xc115_1 : pmCode 115 1 = some (.getfield 101) ∧ 1 + 3 = 4 := ⟨rfl, rfl⟩
theorem xc115_4 : pmCode 115 4 = some (.ifCond .eq 22) ∧ ((4 : Nat) : Int) + 22 = ((26 : Nat) : Int) ∧ 4 + 3 = 7 := ⟨rfl, rfl, rfl⟩
theorem xc115_26 : pmCode 115 26 = some (.iconst (-1)) ∧ 26 + 1 = 27 := ⟨rfl, rfl⟩
theorem xc115_27 : pmCode 115 27 = some .ireturn := rfl
theorem xc116_0 : pmCode 116 0 = some (.iload_n 1) ∧ 0 + 1 = 1 := ⟨rfl, rfl⟩
theorem xc116_1 : pmCode 116 1 = some (.iconst 1) ∧ 1 + 1 = 2 := ⟨rfl, rfl⟩
theorem xc116_2 : pmCode 116 2 = some (.if_icmp .lt 14) ∧ ((2 : Nat) : Int) + 14 = ((16 : Nat) : Int) ∧ 2 + 3 = 5 := ⟨rfl, rfl, rfl⟩
theorem xc116_5 : pmCode 116 5 = some (.iload_n 1) ∧ 5 + 1 = 6 := ⟨rfl, rfl⟩
theorem xc116_6 : pmCode 116 6 = some (.aload_n 0) ∧ 6 + 1 = 7 := ⟨rfl, rfl⟩
theorem xc116_7 : pmCode 116 7 = some (.getfield 40) ∧ 7 + 3 = 10 := ⟨rfl, rfl⟩
theorem xc116_10 : pmCode 116 10 = some (.getfield 234) ∧ 10 + 3 = 13 := ⟨rfl, rfl⟩
theorem xc116_13 : pmCode 116 13 = some (.if_icmp .le 7) ∧ ((13 : Nat) : Int) + 7 = ((20 : Nat) : Int) ∧ 13 + 3 = 16 := ⟨rfl, rfl, rfl⟩
theorem xc116_16 : pmCode 116 16 = some (.iconst (-1)) ∧ 16 + 1 = 17 := ⟨rfl, rfl⟩
theorem xc116_17 : pmCode 116 17 = some (.goto 18) ∧ ((17 : Nat) : Int) + 18 = ((35 : Nat) : Int) := ⟨rfl, rfl⟩
theorem xc116_20 : pmCode 116 20 = some (.aload_n 0) ∧ 20 + 1 = 21 := ⟨rfl, rfl⟩
theorem xc116_21 : pmCode 116 21 = some (.getfield 97) ∧ 21 + 3 = 24 := ⟨rfl, rfl⟩
theorem xc116_24 : pmCode 116 24 = some (.aload_n 0) ∧ 24 + 1 = 25 := ⟨rfl, rfl⟩
theorem xc116_25 : pmCode 116 25 = some (.getfield 44) ∧ 25 + 3 = 28 := ⟨rfl, rfl⟩
theorem xc116_28 : pmCode 116 28 = some (.iload_n 1) ∧ 28 + 1 = 29 := ⟨rfl, rfl⟩
theorem xc116_29 : pmCode 116 29 = some (.iconst 0) ∧ 29 + 1 = 30 := ⟨rfl, rfl⟩
theorem xc116_30 : pmCode 116 30 = some (.bipush 14) ∧ 30 + 2 = 32 := ⟨rfl, rfl⟩
theorem xc116_32 : pmCode 116 32 = some (.invokevirtual 267) ∧ 32 + 3 = 35 := ⟨rfl, rfl⟩
theorem xc116_35 : pmCode 116 35 = some .ireturn := rfl
theorem xc119_0 : pmCode 119 0 = some (.aload_n 0) ∧ 0 + 1 = 1 := ⟨rfl, rfl⟩
theorem xc119_1 : pmCode 119 1 = some (.getfield 101) ∧ 1 + 3 = 4 := ⟨rfl, rfl⟩
theorem xc119_4 : pmCode 119 4 = some (.ifCond .eq 10) ∧ ((4 : Nat) : Int) + 10 = ((14 : Nat) : Int) ∧ 4 + 3 = 7 := ⟨rfl, rfl, rfl⟩
theorem xc119_14 : pmCode 119 14 = some (.iconst (-1)) ∧ 14 + 1 = 15 := ⟨rfl, rfl⟩
theorem xc119_15 : pmCode 119 15 = some .ireturn := rfl
theorem xc120_0 : pmCode 120 0 = some (.iload_n 1) ∧ 0 + 1 = 1 := ⟨rfl, rfl⟩
theorem xc120_1 : pmCode 120 1 = some (.ifCond .lt 34) ∧ ((1 : Nat) : Int) + 34 = ((35 : Nat) : Int) ∧ 1 + 3 = 4 := ⟨rfl, rfl, rfl⟩
theorem xc120_4 : pmCode 120 4 = some (.iload_n 1) ∧ 4 + 1 = 5 := ⟨rfl, rfl⟩
theorem xc120_5 : pmCode 120 5 = some (.iconst 2) ∧ 5 + 1 = 6 := ⟨rfl, rfl⟩
theorem xc120_6 : pmCode 120 6 = some (.if_icmp .gt 29) ∧ ((6 : Nat) : Int) + 29 = ((35 : Nat) : Int) ∧ 6 + 3 = 9 := ⟨rfl, rfl, rfl⟩
theorem xc120_9 : pmCode 120 9 = some (.iload_n 2) ∧ 9 + 1 = 10 := ⟨rfl, rfl⟩
theorem xc120_10 : pmCode 120 10 = some (.ifCond .lt 25) ∧ ((10 : Nat) : Int) + 25 = ((35 : Nat) : Int) ∧ 10 + 3 = 13 := ⟨rfl, rfl, rfl⟩
theorem xc120_13 : pmCode 120 13 = some (.iload_n 2) ∧ 13 + 1 = 14 := ⟨rfl, rfl⟩
theorem xc120_14 : pmCode 120 14 = some (.ldc_w 271) ∧ 14 + 3 = 17 := ⟨rfl, rfl⟩
theorem xc120_17 : pmCode 120 17 = some (.if_icmp .gt 18) ∧ ((17 : Nat) : Int) + 18 = ((35 : Nat) : Int) ∧ 17 + 3 = 20 := ⟨rfl, rfl, rfl⟩
theorem xc120_20 : pmCode 120 20 = some (.iload_n 3) ∧ 20 + 1 = 21 := ⟨rfl, rfl⟩
theorem xc120_21 : pmCode 120 21 = some (.iconst 1) ∧ 21 + 1 = 22 := ⟨rfl, rfl⟩
theorem xc120_22 : pmCode 120 22 = some (.if_icmp .lt 13) ∧ ((22 : Nat) : Int) + 13 = ((35 : Nat) : Int) ∧ 22 + 3 = 25 := ⟨rfl, rfl, rfl⟩
theorem xc120_25 : pmCode 120 25 = some (.iload_n 3) ∧ 25 + 1 = 26 := ⟨rfl, rfl⟩
theorem xc120_26 : pmCode 120 26 = some (.bipush 20) ∧ 26 + 2 = 28 := ⟨rfl, rfl⟩
theorem xc120_28 : pmCode 120 28 = some (.if_icmp .gt 7) ∧ ((28 : Nat) : Int) + 7 = ((35 : Nat) : Int) ∧ 28 + 3 = 31 := ⟨rfl, rfl, rfl⟩
theorem xc120_31 : pmCode 120 31 = some (.iconst 1) ∧ 31 + 1 = 32 := ⟨rfl, rfl⟩
theorem xc120_32 : pmCode 120 32 = some (.goto 4) ∧ ((32 : Nat) : Int) + 4 = ((36 : Nat) : Int) := ⟨rfl, rfl⟩
theorem xc120_35 : pmCode 120 35 = some (.iconst 0) ∧ 35 + 1 = 36 := ⟨rfl, rfl⟩
theorem xc120_36 : pmCode 120 36 = some (.istore 5) ∧ 36 + 2 = 38 := ⟨rfl, rfl⟩
theorem xc120_38 : pmCode 120 38 = some (.aload_n 0) ∧ 38 + 1 = 39 := ⟨rfl, rfl⟩
theorem xc120_39 : pmCode 120 39 = some (.getfield 101) ∧ 39 + 3 = 42 := ⟨rfl, rfl⟩
theorem xc120_42 : pmCode 120 42 = some (.ifCond .eq 19) ∧ ((42 : Nat) : Int) + 19 = ((61 : Nat) : Int) ∧ 42 + 3 = 45 := ⟨rfl, rfl, rfl⟩
theorem xc120_61 : pmCode 120 61 = some (.iconst (-1)) ∧ 61 + 1 = 62 := ⟨rfl, rfl⟩
theorem xc120_62 : pmCode 120 62 = some .ireturn := rfl
theorem xc129_0 : pmCode 129 0 = some (.iload_n 1) ∧ 0 + 1 = 1 := ⟨rfl, rfl⟩
theorem xc129_1 : pmCode 129 1 = some (.iconst 1) ∧ 1 + 1 = 2 := ⟨rfl, rfl⟩
theorem xc129_2 : pmCode 129 2 = some (.if_icmp .lt 32) ∧ ((2 : Nat) : Int) + 32 = ((34 : Nat) : Int) ∧ 2 + 3 = 5 := ⟨rfl, rfl, rfl⟩
theorem xc129_5 : pmCode 129 5 = some (.iload_n 1) ∧ 5 + 1 = 6 := ⟨rfl, rfl⟩
theorem xc129_6 : pmCode 129 6 = some (.aload_n 0) ∧ 6 + 1 = 7 := ⟨rfl, rfl⟩
theorem xc129_7 : pmCode 129 7 = some (.getfield 40) ∧ 7 + 3 = 10 := ⟨rfl, rfl⟩
theorem xc129_10 : pmCode 129 10 = some (.getfield 234) ∧ 10 + 3 = 13 := ⟨rfl, rfl⟩
theorem xc129_13 : pmCode 129 13 = some (.if_icmp .gt 21) ∧ ((13 : Nat) : Int) + 21 = ((34 : Nat) : Int) ∧ 13 + 3 = 16 := ⟨rfl, rfl, rfl⟩
theorem xc129_16 : pmCode 129 16 = some (.iload_n 2) ∧ 16 + 1 = 17 := ⟨rfl, rfl⟩
theorem xc129_17 : pmCode 129 17 = some (.ifCond .lt 17) ∧ ((17 : Nat) : Int) + 17 = ((34 : Nat) : Int) ∧ 17 + 3 = 20 := ⟨rfl, rfl, rfl⟩
theorem xc129_20 : pmCode 129 20 = some (.iload_n 2) ∧ 20 + 1 = 21 := ⟨rfl, rfl⟩
theorem xc129_21 : pmCode 129 21 = some (.aload_n 0) ∧ 21 + 1 = 22 := ⟨rfl, rfl⟩
theorem xc129_22 : pmCode 129 22 = some (.getfield 10) ∧ 22 + 3 = 25 := ⟨rfl, rfl⟩
theorem xc129_25 : pmCode 129 25 = some (.getfield 159) ∧ 25 + 3 = 28 := ⟨rfl, rfl⟩
theorem xc129_28 : pmCode 129 28 = some (.bipush 16) ∧ 28 + 2 = 30 := ⟨rfl, rfl⟩
theorem xc129_30 : pmCode 129 30 = some .idiv ∧ 30 + 1 = 31 := ⟨rfl, rfl⟩
theorem xc129_31 : pmCode 129 31 = some (.if_icmp .le 6) ∧ ((31 : Nat) : Int) + 6 = ((37 : Nat) : Int) ∧ 31 + 3 = 34 := ⟨rfl, rfl, rfl⟩
theorem xc129_34 : pmCode 129 34 = some (.bipush (-2)) ∧ 34 + 2 = 36 := ⟨rfl, rfl⟩
theorem xc129_36 : pmCode 129 36 = some .ireturn := rfl
theorem xc129_37 : pmCode 129 37 = some (.aload_n 0) ∧ 37 + 1 = 38 := ⟨rfl, rfl⟩
theorem xc129_38 : pmCode 129 38 = some (.getfield 97) ∧ 38 + 3 = 41 := ⟨rfl, rfl⟩
theorem xc129_41 : pmCode 129 41 = some (.aload_n 0) ∧ 41 + 1 = 42 := ⟨rfl, rfl⟩
theorem xc129_42 : pmCode 129 42 = some (.getfield 10) ∧ 42 + 3 = 45 := ⟨rfl, rfl⟩
theorem xc129_45 : pmCode 129 45 = some (.iload_n 1) ∧ 45 + 1 = 46 := ⟨rfl, rfl⟩
theorem xc129_46 : pmCode 129 46 = some (.iload_n 2) ∧ 46 + 1 = 47 := ⟨rfl, rfl⟩
theorem xc129_47 : pmCode 129 47 = some (.invokevirtual 295) ∧ 47 + 3 = 50 := ⟨rfl, rfl⟩
theorem xc204_0 : pmCode 204 0 = some (.aload_n 0) ∧ 0 + 1 = 1 := ⟨rfl, rfl⟩
theorem xc204_1 : pmCode 204 1 = some (.getfield 131) ∧ 1 + 3 = 4 := ⟨rfl, rfl⟩
theorem xc204_4 : pmCode 204 4 = some (.ifCond .eq 15) ∧ ((4 : Nat) : Int) + 15 = ((19 : Nat) : Int) ∧ 4 + 3 = 7 := ⟨rfl, rfl, rfl⟩
theorem xc204_19 : pmCode 204 19 = some (.iconst (-1)) ∧ 19 + 1 = 20 := ⟨rfl, rfl⟩
theorem xc204_20 : pmCode 204 20 = some .ireturn := rfl
theorem xc223_0 : pmCode 223 0 = some (.aload_n 0) ∧ 0 + 1 = 1 := ⟨rfl, rfl⟩
theorem xc223_1 : pmCode 223 1 = some (.getfield 131) ∧ 1 + 3 = 4 := ⟨rfl, rfl⟩
theorem xc223_4 : pmCode 223 4 = some (.ifCond .eq 12) ∧ ((4 : Nat) : Int) + 12 = ((16 : Nat) : Int) ∧ 4 + 3 = 7 := ⟨rfl, rfl, rfl⟩
theorem xc223_16 : pmCode 223 16 = some (.iconst (-1)) ∧ 16 + 1 = 17 := ⟨rfl, rfl⟩
theorem xc223_17 : pmCode 223 17 = some .ireturn := rfl
theorem xc230_0 : pmCode 230 0 = some (.aload_n 0) ∧ 0 + 1 = 1 := ⟨rfl, rfl⟩
theorem xc230_1 : pmCode 230 1 = some (.getfield 131) ∧ 1 + 3 = 4 := ⟨rfl, rfl⟩
theorem xc230_4 : pmCode 230 4 = some (.ifCond .ne 5) ∧ ((4 : Nat) : Int) + 5 = ((9 : Nat) : Int) ∧ 4 + 3 = 7 := ⟨rfl, rfl, rfl⟩
theorem xc230_7 : pmCode 230 7 = some (.iconst (-1)) ∧ 7 + 1 = 8 := ⟨rfl, rfl⟩
theorem xc230_8 : pmCode 230 8 = some .ireturn := rfl
theorem xc231_0 : pmCode 231 0 = some (.aload_n 0) ∧ 0 + 1 = 1 := ⟨rfl, rfl⟩
theorem xc231_1 : pmCode 231 1 = some (.getfield 131) ∧ 1 + 3 = 4 := ⟨rfl, rfl⟩
theorem xc231_4 : pmCode 231 4 = some (.ifCond .eq 21) ∧ ((4 : Nat) : Int) + 21 = ((25 : Nat) : Int) ∧ 4 + 3 = 7 := ⟨rfl, rfl, rfl⟩
theorem xc231_25 : pmCode 231 25 = some (.iconst (-1)) ∧ 25 + 1 = 26 := ⟨rfl, rfl⟩
theorem xc231_26 : pmCode 231 26 = some .ireturn := rfl
theorem xc232_0 : pmCode 232 0 = some (.aload_n 0) ∧ 0 + 1 = 1 := ⟨rfl, rfl⟩
theorem xc232_1 : pmCode 232 1 = some (.getfield 7) ∧ 1 + 3 = 4 := ⟨rfl, rfl⟩
theorem xc232_4 : pmCode 232 4 = some (.bipush 114) ∧ 4 + 2 = 6 := ⟨rfl, rfl⟩
theorem xc232_6 : pmCode 232 6 = some .iaload ∧ 6 + 1 = 7 := ⟨rfl, rfl⟩
theorem xc232_7 : pmCode 232 7 = some (.istore_n 2) ∧ 7 + 1 = 8 := ⟨rfl, rfl⟩
theorem xc232_8 : pmCode 232 8 = some (.aload_n 0) ∧ 8 + 1 = 9 := ⟨rfl, rfl⟩
theorem xc232_9 : pmCode 232 9 = some (.getfield 131) ∧ 9 + 3 = 12 := ⟨rfl, rfl⟩
theorem xc232_12 : pmCode 232 12 = some (.ifCond .eq 12) ∧ ((12 : Nat) : Int) + 12 = ((24 : Nat) : Int) ∧ 12 + 3 = 15 := ⟨rfl, rfl, rfl⟩
theorem xc232_24 : pmCode 232 24 = some (.iconst (-1)) ∧ 24 + 1 = 25 := ⟨rfl, rfl⟩
theorem xc232_25 : pmCode 232 25 = some .ireturn := rfl
theorem xc236_0 : pmCode 236 0 = some (.aload_n 0) ∧ 0 + 1 = 1 := ⟨rfl, rfl⟩
theorem xc236_1 : pmCode 236 1 = some (.getfield 131) ∧ 1 + 3 = 4 := ⟨rfl, rfl⟩
theorem xc236_4 : pmCode 236 4 = some (.ifCond .eq 10) ∧ ((4 : Nat) : Int) + 10 = ((14 : Nat) : Int) ∧ 4 + 3 = 7 := ⟨rfl, rfl, rfl⟩
theorem xc236_14 : pmCode 236 14 = some (.iconst (-1)) ∧ 14 + 1 = 15 := ⟨rfl, rfl⟩
theorem xc236_15 : pmCode 236 15 = some .ireturn := rfl
theorem xc237_0 : pmCode 237 0 = some (.aload_n 0) ∧ 0 + 1 = 1 := ⟨rfl, rfl⟩
theorem xc237_1 : pmCode 237 1 = some (.getfield 131) ∧ 1 + 3 = 4 := ⟨rfl, rfl⟩
theorem xc237_4 : pmCode 237 4 = some (.ifCond .eq 43) ∧ ((4 : Nat) : Int) + 43 = ((47 : Nat) : Int) ∧ 4 + 3 = 7 := ⟨rfl, rfl, rfl⟩
theorem xc237_47 : pmCode 237 47 = some (.iconst (-1)) ∧ 47 + 1 = 48 := ⟨rfl, rfl⟩
theorem xc237_48 : pmCode 237 48 = some .ireturn := rfl
theorem xc241_0 : pmCode 241 0 = some (.iload_n 1) ∧ 0 + 1 = 1 := ⟨rfl, rfl⟩
theorem xc241_1 : pmCode 241 1 = some (.iconst 1) ∧ 1 + 1 = 2 := ⟨rfl, rfl⟩
theorem xc241_2 : pmCode 241 2 = some (.aload_n 0) ∧ 2 + 1 = 3 := ⟨rfl, rfl⟩
theorem xc241_3 : pmCode 241 3 = some (.getfield 7) ∧ 3 + 3 = 6 := ⟨rfl, rfl⟩
theorem xc241_6 : pmCode 241 6 = some (.bipush 114) ∧ 6 + 2 = 8 := ⟨rfl, rfl⟩
theorem xc241_8 : pmCode 241 8 = some .iaload ∧ 8 + 1 = 9 := ⟨rfl, rfl⟩
theorem xc241_9 : pmCode 241 9 = some (.invokestatic 142) ∧ 9 + 3 = 12 := ⟨rfl, rfl⟩
theorem xc241_12 : pmCode 241 12 = some (.ifCond .eq 18) ∧ ((12 : Nat) : Int) + 18 = ((30 : Nat) : Int) ∧ 12 + 3 = 15 := ⟨rfl, rfl, rfl⟩
theorem xc241_30 : pmCode 241 30 = some (.bipush (-2)) ∧ 30 + 2 = 32 := ⟨rfl, rfl⟩
theorem xc241_32 : pmCode 241 32 = some .ireturn := rfl
section
variable {ro : Nat → Nat × (Nat → Int32)} {d o m rt pc t : Nat} {pl : pmL} {st : List Value} {a : xA} {b : xB} {Q : Option Value → pmS → Prop} {z : Int}
theorem x_ldcw {n : Nat} {wd : Nat} (hc : pmCode m pc = some (.ldc_w n) ∧ pc + 3 = t) (hn : pmC o n = some (Int32.ofInt z, wd)) (hw : pmWp ro d o m rt t pl (xV z :: st) (xS a b) Q) : pmWp ro d o m rt pc pl st (xS a b) Q := by
  obtain ⟨h1, rfl⟩ := hc
  refine pmWp_1 h1 (st' := xV z :: st) ?_ hw
  simp only [pmStep, hn, pmNx, xV]
end
theorem xg129 {ro : Nat → Nat × (Nat → Int32)} {d : Nat} {Q : Option Value → pmS → Prop} {a : xA} {b : xB} {x0 x1 : Int} (h : pmWp ro d 11 129 1 0 [some (.ref 0), some (xV x0), some (xV x1), none] [] (xS a b) Q) : pmCs ro (d + 1) 129 [.ref 0, xV x0, xV x1] (xS a b) Q := x_go xi129 rfl rfl rfl rfl rfl h
theorem w129n {ro : Nat → Nat × (Nat → Int32)} {d : Nat} {Q : Option Value → pmS → Prop} {x0 x1 : Int} {a : xA} {b : xB} (h_x0 : xR x0) (h_x1 : xR x1) (ht : a 21 6 = 0) (hA : xAr a) (hd : 2 ≤ d)
    (k1 : (x0 < 1) → Q (some (xV (-2))) (xS a b))
    (k2 : (¬ x0 < 1) → (0 < x0) → Q (some (xV (-2))) (xS a b))
    (k3 : (¬ x0 < 1) → (¬ 0 < x0) → (x1 < 0) → Q (some (xV (-2))) (xS a b))
    (k4 : (¬ x0 < 1) → (¬ 0 < x0) → (¬ x1 < 0) → (x1 ≤ (a 1 1) / 16) → pmCs ro d 130 [.ref 79, .ref 1, xV x0, xV x1] (xS a b) fun r σ' => pmWp ro d 11 129 1 50 [some (.ref 0), some (xV x0), some (xV x1), none] (r.toList ++ []) σ' Q)
    (k5 : (¬ x0 < 1) → (¬ 0 < x0) → (¬ x1 < 0) → (¬ x1 ≤ (a 1 1) / 16) → Q (some (xV (-2))) (xS a b)) :
    pmWp ro d 11 129 1 0 [some (.ref 0), some (xV x0), some (xV x1), none] [] (xS a b) Q := by
  refine x_iloadn xc129_0 rfl ?_
  refine x_iconst xc129_1 ?_
  refine x_iclt xc129_2 (xRk (by have g0 := xRb h_x0; omega)) (xRk (by decide)) (fun h0 => ?_) (fun h0 => ?_)
  · refine x_bipush xc129_34 (by decide) ?_
    refine x_iret xc129_36 (Or.inl rfl) ?_
    exact k1 h0
  · refine x_iloadn xc129_5 rfl ?_
    refine x_aloadn xc129_6 rfl ?_
    refine x_gfr xc129_7 rfl rfl xz0 rfl ?_
    refine x_gfi' (k := 6) (v := 0) xc129_10 rfl (Or.inl rfl) rfl xz21 ht ?_
    refine x_icgt xc129_13 (xRk (by have g0 := xRb h_x0; omega)) (xRk (by decide)) (fun h1 => ?_) (fun h1 => ?_)
    · refine x_bipush xc129_34 (by decide) ?_
      refine x_iret xc129_36 (Or.inl rfl) ?_
      exact k2 h0 h1
    · refine x_iloadn xc129_16 rfl ?_
      refine x_iflt xc129_17 (xRk (by have g0 := xRb h_x1; omega)) (fun h2 => ?_) (fun h2 => ?_)
      · refine x_bipush xc129_34 (by decide) ?_
        refine x_iret xc129_36 (Or.inl rfl) ?_
        exact k3 h0 h1 h2
      · refine x_iloadn xc129_20 rfl ?_
        refine x_aloadn xc129_21 rfl ?_
        refine x_gfr xc129_22 rfl rfl xz0 rfl ?_
        refine x_gfi (k := 1) xc129_25 rfl (Or.inl rfl) rfl xz1 ?_
        refine x_bipush xc129_28 (by decide) ?_
        refine x_idiv (by have g0 := xRb (hA 1 1); omega) (xRk (by have g0 := xRb (hA 1 1); omega)) (by omega) (xRk (by decide)) xc129_30 ?_
        refine x_icle xc129_31 (xRk (by have g0 := xRb h_x1; omega)) (xRk (by have g0 := xRb (hA 1 1); omega)) (fun h3 => ?_) (fun h3 => ?_)
        · refine x_aloadn xc129_37 rfl ?_
          refine x_gfr xc129_38 rfl rfl xz0 rfl ?_
          refine x_aloadn xc129_41 rfl ?_
          refine x_gfr xc129_42 rfl rfl xz0 rfl ?_
          refine x_iloadn xc129_45 rfl ?_
          refine x_iloadn xc129_46 rfl ?_
          refine x_cV (as := [.ref 1, xV x0, xV x1]) (rest := []) xc129_47 rfl xi130 xz79 ⟨rfl, rfl⟩ rfl rfl ?_
          exact k4 h0 h1 h2 h3
        · refine x_bipush xc129_34 (by decide) ?_
          refine x_iret xc129_36 (Or.inl rfl) ?_
          exact k5 h0 h1 h2 h3

theorem xn129 {ro : Nat → Nat × (Nat → Int32)} {Q : Option Value → pmS → Prop} {x0 x1 : Int} {a : xA} {b : xB} (h_x0 : xR x0) (h_x1 : xR x1) (ht : a 21 6 = 0) (hA : xAr a) (hQ : Q (some (xV (-2))) (xS a b)) : pmCs ro 59 129 [.ref 0, xV x0, xV x1] (xS a b) Q := by
  refine pmCs_deep (d := 3) (xg129 (w129n h_x0 h_x1 ht hA (by decide) ?_ ?_ ?_ ?_ ?_)) (by decide)
  all_goals (intros; first | exact hQ | (exfalso; omega))
theorem xg87 {ro : Nat → Nat × (Nat → Int32)} {d : Nat} {Q : Option Value → pmS → Prop} {a : xA} {b : xB} {x0 x1 x2 : Int} (h : pmWp ro d 11 87 1 0 [some (.ref 0), some (xV x0), some (xV x1), some (xV x2), none] [] (xS a b) Q) : pmCs ro (d + 1) 87 [.ref 0, xV x0, xV x1, xV x2] (xS a b) Q := x_go xi87 rfl rfl rfl rfl rfl h
theorem w87n {ro : Nat → Nat × (Nat → Int32)} {d : Nat} {Q : Option Value → pmS → Prop} {x0 x1 x2 : Int} {a : xA} {b : xB} (h_x0 : xR x0) (h_x1 : xR x1) (h_x2 : xR x2) (hg : a 0 12 = 0) (hA : xAr a) (hd : 2 ≤ d)
    (k1 : Q (some (xV (-1))) (xS a b)) :
    pmWp ro d 11 87 1 0 [some (.ref 0), some (xV x0), some (xV x1), some (xV x2), none] [] (xS a b) Q := by
  refine x_aloadn xc87_0 rfl ?_
  refine x_gfi' (k := 12) (v := 0) xc87_1 rfl (Or.inr rfl) rfl xz0 hg ?_
  refine x_ifeq xc87_4 (xRk (by decide)) (fun _ => ?_) (fun h => absurd h (by omega))
  refine x_iconst xc87_19 ?_
  refine x_iret xc87_20 (Or.inl rfl) ?_
  exact k1

theorem xn87 {ro : Nat → Nat × (Nat → Int32)} {Q : Option Value → pmS → Prop} {x0 x1 x2 : Int} {a : xA} {b : xB} (h_x0 : xR x0) (h_x1 : xR x1) (h_x2 : xR x2) (hg : a 0 12 = 0) (hA : xAr a) (hQ : Q (some (xV (-1))) (xS a b)) : pmCs ro 59 87 [.ref 0, xV x0, xV x1, xV x2] (xS a b) Q := by
  refine pmCs_deep (d := 3) (xg87 (w87n h_x0 h_x1 h_x2 hg hA (by decide) ?_)) (by decide)
  all_goals (intros; first | exact hQ | (exfalso; omega))
theorem xg110 {ro : Nat → Nat × (Nat → Int32)} {d : Nat} {Q : Option Value → pmS → Prop} {a : xA} {b : xB} {x0 : Int} (h : pmWp ro d 11 110 1 0 [some (.ref 0), some (xV x0)] [] (xS a b) Q) : pmCs ro (d + 1) 110 [.ref 0, xV x0] (xS a b) Q := x_go xi110 rfl rfl rfl rfl rfl h
theorem w110n {ro : Nat → Nat × (Nat → Int32)} {d : Nat} {Q : Option Value → pmS → Prop} {x0 : Int} {a : xA} {b : xB} (h_x0 : xR x0) (hg : a 0 12 = 0) (hA : xAr a) (hd : 2 ≤ d)
    (k1 : Q (some (xV (-1))) (xS a b)) :
    pmWp ro d 11 110 1 0 [some (.ref 0), some (xV x0)] [] (xS a b) Q := by
  refine x_aloadn xc110_0 rfl ?_
  refine x_gfi' (k := 12) (v := 0) xc110_1 rfl (Or.inr rfl) rfl xz0 hg ?_
  refine x_ifeq xc110_4 (xRk (by decide)) (fun _ => ?_) (fun h => absurd h (by omega))
  refine x_iconst xc110_16 ?_
  refine x_iret xc110_17 (Or.inl rfl) ?_
  exact k1

theorem xn110 {ro : Nat → Nat × (Nat → Int32)} {Q : Option Value → pmS → Prop} {x0 : Int} {a : xA} {b : xB} (h_x0 : xR x0) (hg : a 0 12 = 0) (hA : xAr a) (hQ : Q (some (xV (-1))) (xS a b)) : pmCs ro 59 110 [.ref 0, xV x0] (xS a b) Q := by
  refine pmCs_deep (d := 3) (xg110 (w110n h_x0 hg hA (by decide) ?_)) (by decide)
  all_goals (intros; first | exact hQ | (exfalso; omega))
theorem xg114 {ro : Nat → Nat × (Nat → Int32)} {d : Nat} {Q : Option Value → pmS → Prop} {a : xA} {b : xB} (h : pmWp ro d 11 114 1 0 [some (.ref 0), none] [] (xS a b) Q) : pmCs ro (d + 1) 114 [.ref 0] (xS a b) Q := x_go xi114 rfl rfl rfl rfl rfl h
theorem w114n {ro : Nat → Nat × (Nat → Int32)} {d : Nat} {Q : Option Value → pmS → Prop} {a : xA} {b : xB} (hg : a 0 12 = 0) (hA : xAr a) (hd : 2 ≤ d)
    (k1 : Q (some (xV (-1))) (xS a b)) :
    pmWp ro d 11 114 1 0 [some (.ref 0), none] [] (xS a b) Q := by
  refine x_aloadn xc114_0 rfl ?_
  refine x_gfi' (k := 12) (v := 0) xc114_1 rfl (Or.inr rfl) rfl xz0 hg ?_
  refine x_ifne xc114_4 (xRk (by decide)) (fun h => absurd h (by omega)) (fun _ => ?_)
  refine x_iconst xc114_7 ?_
  refine x_iret xc114_8 (Or.inl rfl) ?_
  exact k1

theorem xn114 {ro : Nat → Nat × (Nat → Int32)} {Q : Option Value → pmS → Prop} {a : xA} {b : xB} (hg : a 0 12 = 0) (hA : xAr a) (hQ : Q (some (xV (-1))) (xS a b)) : pmCs ro 59 114 [.ref 0] (xS a b) Q := by
  refine pmCs_deep (d := 3) (xg114 (w114n hg hA (by decide) ?_)) (by decide)
  all_goals (intros; first | exact hQ | (exfalso; omega))
theorem xg115 {ro : Nat → Nat × (Nat → Int32)} {d : Nat} {Q : Option Value → pmS → Prop} {a : xA} {b : xB} {x0 x1 : Int} (h : pmWp ro d 11 115 1 0 [some (.ref 0), some (xV x0), some (xV x1), none] [] (xS a b) Q) : pmCs ro (d + 1) 115 [.ref 0, xV x0, xV x1] (xS a b) Q := x_go xi115 rfl rfl rfl rfl rfl h
theorem w115n {ro : Nat → Nat × (Nat → Int32)} {d : Nat} {Q : Option Value → pmS → Prop} {x0 x1 : Int} {a : xA} {b : xB} (h_x0 : xR x0) (h_x1 : xR x1) (hg : a 0 12 = 0) (hA : xAr a) (hd : 2 ≤ d)
    (k1 : Q (some (xV (-1))) (xS a b)) :
    pmWp ro d 11 115 1 0 [some (.ref 0), some (xV x0), some (xV x1), none] [] (xS a b) Q := by
  refine x_aloadn xc115_0 rfl ?_
  refine x_gfi' (k := 12) (v := 0) xc115_1 rfl (Or.inr rfl) rfl xz0 hg ?_
  refine x_ifeq xc115_4 (xRk (by decide)) (fun _ => ?_) (fun h => absurd h (by omega))
  refine x_iconst xc115_26 ?_
  refine x_iret xc115_27 (Or.inl rfl) ?_
  exact k1

theorem xn115 {ro : Nat → Nat × (Nat → Int32)} {Q : Option Value → pmS → Prop} {x0 x1 : Int} {a : xA} {b : xB} (h_x0 : xR x0) (h_x1 : xR x1) (hg : a 0 12 = 0) (hA : xAr a) (hQ : Q (some (xV (-1))) (xS a b)) : pmCs ro 59 115 [.ref 0, xV x0, xV x1] (xS a b) Q := by
  refine pmCs_deep (d := 3) (xg115 (w115n h_x0 h_x1 hg hA (by decide) ?_)) (by decide)
  all_goals (intros; first | exact hQ | (exfalso; omega))
theorem xg116 {ro : Nat → Nat × (Nat → Int32)} {d : Nat} {Q : Option Value → pmS → Prop} {a : xA} {b : xB} {x0 : Int} (h : pmWp ro d 11 116 1 0 [some (.ref 0), some (xV x0)] [] (xS a b) Q) : pmCs ro (d + 1) 116 [.ref 0, xV x0] (xS a b) Q := x_go xi116 rfl rfl rfl rfl rfl h
theorem w116n {ro : Nat → Nat × (Nat → Int32)} {d : Nat} {Q : Option Value → pmS → Prop} {x0 : Int} {a : xA} {b : xB} (h_x0 : xR x0) (hg : a 0 12 = 0) (ht : a 21 6 = 0) (hA : xAr a) (hd : 2 ≤ d)
    (k1 : (x0 < 1) → Q (some (xV (-1))) (xS a b))
    (k2 : (¬ x0 < 1) → (x0 ≤ 0) → pmCs ro d 117 [.ref 79, .ref 26, xV x0, xV 0, xV 14] (xS a b) fun r σ' => pmWp ro d 11 116 1 35 [some (.ref 0), some (xV x0)] (r.toList ++ []) σ' Q)
    (k3 : (¬ x0 < 1) → (¬ x0 ≤ 0) → Q (some (xV (-1))) (xS a b)) :
    pmWp ro d 11 116 1 0 [some (.ref 0), some (xV x0)] [] (xS a b) Q := by
  refine x_iloadn xc116_0 rfl ?_
  refine x_iconst xc116_1 ?_
  refine x_iclt xc116_2 (xRk (by have g0 := xRb h_x0; omega)) (xRk (by decide)) (fun h0 => ?_) (fun h0 => ?_)
  · refine x_iconst xc116_16 ?_
    refine x_goto xc116_17 ?_
    refine x_iret xc116_35 (Or.inl rfl) ?_
    exact k1 h0
  · refine x_iloadn xc116_5 rfl ?_
    refine x_aloadn xc116_6 rfl ?_
    refine x_gfr xc116_7 rfl rfl xz0 rfl ?_
    refine x_gfi' (k := 6) (v := 0) xc116_10 rfl (Or.inl rfl) rfl xz21 ht ?_
    refine x_icle xc116_13 (xRk (by have g0 := xRb h_x0; omega)) (xRk (by decide)) (fun h1 => ?_) (fun h1 => ?_)
    · refine x_aloadn xc116_20 rfl ?_
      refine x_gfr xc116_21 rfl rfl xz0 rfl ?_
      refine x_aloadn xc116_24 rfl ?_
      refine x_gfr xc116_25 rfl rfl xz0 rfl ?_
      refine x_iloadn xc116_28 rfl ?_
      refine x_iconst xc116_29 ?_
      refine x_bipush xc116_30 (by decide) ?_
      refine x_cV (as := [.ref 26, xV x0, xV 0, xV 14]) (rest := []) xc116_32 rfl xi117 xz79 ⟨rfl, rfl⟩ rfl rfl ?_
      exact k2 h0 h1
    · refine x_iconst xc116_16 ?_
      refine x_goto xc116_17 ?_
      refine x_iret xc116_35 (Or.inl rfl) ?_
      exact k3 h0 h1

theorem xn116 {ro : Nat → Nat × (Nat → Int32)} {Q : Option Value → pmS → Prop} {x0 : Int} {a : xA} {b : xB} (h_x0 : xR x0) (hg : a 0 12 = 0) (ht : a 21 6 = 0) (hA : xAr a) (hQ : Q (some (xV (-1))) (xS a b)) : pmCs ro 59 116 [.ref 0, xV x0] (xS a b) Q := by
  refine pmCs_deep (d := 3) (xg116 (w116n h_x0 hg ht hA (by decide) ?_ ?_ ?_)) (by decide)
  all_goals (intros; first | exact hQ | (exfalso; omega))
theorem xg119 {ro : Nat → Nat × (Nat → Int32)} {d : Nat} {Q : Option Value → pmS → Prop} {a : xA} {b : xB} {x0 : Int} (h : pmWp ro d 11 119 1 0 [some (.ref 0), some (xV x0)] [] (xS a b) Q) : pmCs ro (d + 1) 119 [.ref 0, xV x0] (xS a b) Q := x_go xi119 rfl rfl rfl rfl rfl h
theorem w119n {ro : Nat → Nat × (Nat → Int32)} {d : Nat} {Q : Option Value → pmS → Prop} {x0 : Int} {a : xA} {b : xB} (h_x0 : xR x0) (hg : a 0 12 = 0) (hA : xAr a) (hd : 2 ≤ d)
    (k1 : Q (some (xV (-1))) (xS a b)) :
    pmWp ro d 11 119 1 0 [some (.ref 0), some (xV x0)] [] (xS a b) Q := by
  refine x_aloadn xc119_0 rfl ?_
  refine x_gfi' (k := 12) (v := 0) xc119_1 rfl (Or.inr rfl) rfl xz0 hg ?_
  refine x_ifeq xc119_4 (xRk (by decide)) (fun _ => ?_) (fun h => absurd h (by omega))
  refine x_iconst xc119_14 ?_
  refine x_iret xc119_15 (Or.inl rfl) ?_
  exact k1

theorem xn119 {ro : Nat → Nat × (Nat → Int32)} {Q : Option Value → pmS → Prop} {x0 : Int} {a : xA} {b : xB} (h_x0 : xR x0) (hg : a 0 12 = 0) (hA : xAr a) (hQ : Q (some (xV (-1))) (xS a b)) : pmCs ro 59 119 [.ref 0, xV x0] (xS a b) Q := by
  refine pmCs_deep (d := 3) (xg119 (w119n h_x0 hg hA (by decide) ?_)) (by decide)
  all_goals (intros; first | exact hQ | (exfalso; omega))
theorem xg120 {ro : Nat → Nat × (Nat → Int32)} {d : Nat} {Q : Option Value → pmS → Prop} {a : xA} {b : xB} {x0 x1 x2 x3 : Int} (h : pmWp ro d 11 120 1 0 [some (.ref 0), some (xV x0), some (xV x1), some (xV x2), some (xV x3), none, none] [] (xS a b) Q) : pmCs ro (d + 1) 120 [.ref 0, xV x0, xV x1, xV x2, xV x3] (xS a b) Q := x_go xi120 rfl rfl rfl rfl rfl h
theorem w120n {ro : Nat → Nat × (Nat → Int32)} {d : Nat} {Q : Option Value → pmS → Prop} {x0 x1 x2 x3 : Int} {a : xA} {b : xB} (h_x0 : xR x0) (h_x1 : xR x1) (h_x2 : xR x2) (h_x3 : xR x3) (hg : a 0 12 = 0) (hA : xAr a) (hd : 2 ≤ d)
    (k1 : (x0 < 0) → Q (some (xV (-1))) (xS a b))
    (k2 : (¬ x0 < 0) → (2 < x0) → Q (some (xV (-1))) (xS a b))
    (k3 : (¬ x0 < 0) → (¬ 2 < x0) → (x1 < 0) → Q (some (xV (-1))) (xS a b))
    (k4 : (¬ x0 < 0) → (¬ 2 < x0) → (¬ x1 < 0) → (65535 < x1) → Q (some (xV (-1))) (xS a b))
    (k5 : (¬ x0 < 0) → (¬ 2 < x0) → (¬ x1 < 0) → (¬ 65535 < x1) → (x2 < 1) → Q (some (xV (-1))) (xS a b))
    (k6 : (¬ x0 < 0) → (¬ 2 < x0) → (¬ x1 < 0) → (¬ 65535 < x1) → (¬ x2 < 1) → (20 < x2) → Q (some (xV (-1))) (xS a b))
    (k7 : (¬ x0 < 0) → (¬ 2 < x0) → (¬ x1 < 0) → (¬ 65535 < x1) → (¬ x2 < 1) → (¬ 20 < x2) → Q (some (xV (-1))) (xS a b)) :
    pmWp ro d 11 120 1 0 [some (.ref 0), some (xV x0), some (xV x1), some (xV x2), some (xV x3), none, none] [] (xS a b) Q := by
  refine x_iloadn xc120_0 rfl ?_
  refine x_iflt xc120_1 (xRk (by have g0 := xRb h_x0; omega)) (fun h0 => ?_) (fun h0 => ?_)
  · refine x_iconst xc120_35 ?_
    refine x_istore (pl' := [some (.ref 0), some (xV x0), some (xV x1), some (xV x2), some (xV x3), some (xV 0), none]) xc120_36 rfl rfl ?_
    refine x_aloadn xc120_38 rfl ?_
    refine x_gfi' (k := 12) (v := 0) xc120_39 rfl (Or.inr rfl) rfl xz0 hg ?_
    refine x_ifeq xc120_42 (xRk (by decide)) (fun _ => ?_) (fun h => absurd h (by omega))
    refine x_iconst xc120_61 ?_
    refine x_iret xc120_62 (Or.inl rfl) ?_
    exact k1 h0
  · refine x_iloadn xc120_4 rfl ?_
    refine x_iconst xc120_5 ?_
    refine x_icgt xc120_6 (xRk (by have g0 := xRb h_x0; omega)) (xRk (by decide)) (fun h2 => ?_) (fun h2 => ?_)
    · refine x_iconst xc120_35 ?_
      refine x_istore (pl' := [some (.ref 0), some (xV x0), some (xV x1), some (xV x2), some (xV x3), some (xV 0), none]) xc120_36 rfl rfl ?_
      refine x_aloadn xc120_38 rfl ?_
      refine x_gfi' (k := 12) (v := 0) xc120_39 rfl (Or.inr rfl) rfl xz0 hg ?_
      refine x_ifeq xc120_42 (xRk (by decide)) (fun _ => ?_) (fun h => absurd h (by omega))
      refine x_iconst xc120_61 ?_
      refine x_iret xc120_62 (Or.inl rfl) ?_
      exact k2 h0 h2
    · refine x_iloadn xc120_9 rfl ?_
      refine x_iflt xc120_10 (xRk (by have g0 := xRb h_x1; omega)) (fun h4 => ?_) (fun h4 => ?_)
      · refine x_iconst xc120_35 ?_
        refine x_istore (pl' := [some (.ref 0), some (xV x0), some (xV x1), some (xV x2), some (xV x3), some (xV 0), none]) xc120_36 rfl rfl ?_
        refine x_aloadn xc120_38 rfl ?_
        refine x_gfi' (k := 12) (v := 0) xc120_39 rfl (Or.inr rfl) rfl xz0 hg ?_
        refine x_ifeq xc120_42 (xRk (by decide)) (fun _ => ?_) (fun h => absurd h (by omega))
        refine x_iconst xc120_61 ?_
        refine x_iret xc120_62 (Or.inl rfl) ?_
        exact k3 h0 h2 h4
      · refine x_iloadn xc120_13 rfl ?_
        refine x_ldcw (z := 65535) xc120_14 rfl ?_
        refine x_icgt xc120_17 (xRk (by have g0 := xRb h_x1; omega)) (xRk (by decide)) (fun h6 => ?_) (fun h6 => ?_)
        · refine x_iconst xc120_35 ?_
          refine x_istore (pl' := [some (.ref 0), some (xV x0), some (xV x1), some (xV x2), some (xV x3), some (xV 0), none]) xc120_36 rfl rfl ?_
          refine x_aloadn xc120_38 rfl ?_
          refine x_gfi' (k := 12) (v := 0) xc120_39 rfl (Or.inr rfl) rfl xz0 hg ?_
          refine x_ifeq xc120_42 (xRk (by decide)) (fun _ => ?_) (fun h => absurd h (by omega))
          refine x_iconst xc120_61 ?_
          refine x_iret xc120_62 (Or.inl rfl) ?_
          exact k4 h0 h2 h4 h6
        · refine x_iloadn xc120_20 rfl ?_
          refine x_iconst xc120_21 ?_
          refine x_iclt xc120_22 (xRk (by have g0 := xRb h_x2; omega)) (xRk (by decide)) (fun h8 => ?_) (fun h8 => ?_)
          · refine x_iconst xc120_35 ?_
            refine x_istore (pl' := [some (.ref 0), some (xV x0), some (xV x1), some (xV x2), some (xV x3), some (xV 0), none]) xc120_36 rfl rfl ?_
            refine x_aloadn xc120_38 rfl ?_
            refine x_gfi' (k := 12) (v := 0) xc120_39 rfl (Or.inr rfl) rfl xz0 hg ?_
            refine x_ifeq xc120_42 (xRk (by decide)) (fun _ => ?_) (fun h => absurd h (by omega))
            refine x_iconst xc120_61 ?_
            refine x_iret xc120_62 (Or.inl rfl) ?_
            exact k5 h0 h2 h4 h6 h8
          · refine x_iloadn xc120_25 rfl ?_
            refine x_bipush xc120_26 (by decide) ?_
            refine x_icgt xc120_28 (xRk (by have g0 := xRb h_x2; omega)) (xRk (by decide)) (fun h10 => ?_) (fun h10 => ?_)
            · refine x_iconst xc120_35 ?_
              refine x_istore (pl' := [some (.ref 0), some (xV x0), some (xV x1), some (xV x2), some (xV x3), some (xV 0), none]) xc120_36 rfl rfl ?_
              refine x_aloadn xc120_38 rfl ?_
              refine x_gfi' (k := 12) (v := 0) xc120_39 rfl (Or.inr rfl) rfl xz0 hg ?_
              refine x_ifeq xc120_42 (xRk (by decide)) (fun _ => ?_) (fun h => absurd h (by omega))
              refine x_iconst xc120_61 ?_
              refine x_iret xc120_62 (Or.inl rfl) ?_
              exact k6 h0 h2 h4 h6 h8 h10
            · refine x_iconst xc120_31 ?_
              refine x_goto xc120_32 ?_
              refine x_istore (pl' := [some (.ref 0), some (xV x0), some (xV x1), some (xV x2), some (xV x3), some (xV 1), none]) xc120_36 rfl rfl ?_
              refine x_aloadn xc120_38 rfl ?_
              refine x_gfi' (k := 12) (v := 0) xc120_39 rfl (Or.inr rfl) rfl xz0 hg ?_
              refine x_ifeq xc120_42 (xRk (by decide)) (fun _ => ?_) (fun h => absurd h (by omega))
              refine x_iconst xc120_61 ?_
              refine x_iret xc120_62 (Or.inl rfl) ?_
              exact k7 h0 h2 h4 h6 h8 h10

theorem xn120 {ro : Nat → Nat × (Nat → Int32)} {Q : Option Value → pmS → Prop} {x0 x1 x2 x3 : Int} {a : xA} {b : xB} (h_x0 : xR x0) (h_x1 : xR x1) (h_x2 : xR x2) (h_x3 : xR x3) (hg : a 0 12 = 0) (hA : xAr a) (hQ : Q (some (xV (-1))) (xS a b)) : pmCs ro 59 120 [.ref 0, xV x0, xV x1, xV x2, xV x3] (xS a b) Q := by
  refine pmCs_deep (d := 3) (xg120 (w120n h_x0 h_x1 h_x2 h_x3 hg hA (by decide) ?_ ?_ ?_ ?_ ?_ ?_ ?_)) (by decide)
  all_goals (intros; first | exact hQ | (exfalso; omega))
theorem xg241 {ro : Nat → Nat × (Nat → Int32)} {d : Nat} {Q : Option Value → pmS → Prop} {a : xA} {b : xB} {x0 x1 : Int} (h : pmWp ro d 12 241 1 0 [some (.ref 87), some (xV x0), some (xV x1), none, none, none] [] (xS a b) Q) : pmCs ro (d + 1) 241 [.ref 87, xV x0, xV x1] (xS a b) Q := x_go xi241 rfl rfl rfl rfl rfl h
theorem w241n {ro : Nat → Nat × (Nat → Int32)} {d : Nat} {Q : Option Value → pmS → Prop} {x0 x1 : Int} {a : xA} {b : xB} (h_x0 : xR x0) (h_x1 : xR x1) (ht : a 88 114 = 0) (hA : xAr a) (hd : 2 ≤ d)
    (k1 : (1 ≤ x0 ∧ x0 ≤ 0) → pmWp ro d 12 241 1 15 [some (.ref 87), some (xV x0), some (xV x1), none, none, none] [] (xS a b) Q)
    (k2 : (¬ (1 ≤ x0 ∧ x0 ≤ 0)) → Q (some (xV (-2))) (xS a b)) :
    pmWp ro d 12 241 1 0 [some (.ref 87), some (xV x0), some (xV x1), none, none, none] [] (xS a b) Q := by
  refine x_iloadn xc241_0 rfl ?_
  refine x_iconst xc241_1 ?_
  refine x_aloadn xc241_2 rfl ?_
  refine x_gfr xc241_3 rfl rfl xz87 rfl ?_
  refine x_bipush xc241_6 (by decide) ?_
  refine x_ial' (v := 0) xc241_8 xz88 rfl (by omega) (by omega) (by omega) ht ?_
  refine x_cS (as := [xV x0, xV 1, xV 0]) (rest := []) xc241_9 rfl rfl xi143 ⟨rfl, rfl⟩ rfl rfl ?_
  refine xk143 (xRk (by have g0 := xRb h_x0; omega)) (xRk (by decide)) (xRk (by decide)) (by omega) (fun h0 => ?_) (fun h1 => ?_)
  · refine x_ifeq xc241_12 (xRk (by decide)) (fun h => absurd h (by omega)) (fun _ => ?_)
    exact k1 h0
  · refine x_ifeq xc241_12 (xRk (by decide)) (fun _ => ?_) (fun h => absurd h (by omega))
    refine x_bipush xc241_30 (by decide) ?_
    refine x_iret xc241_32 (Or.inl rfl) ?_
    exact k2 h1

theorem xn241 {ro : Nat → Nat × (Nat → Int32)} {Q : Option Value → pmS → Prop} {x0 x1 : Int} {a : xA} {b : xB} (h_x0 : xR x0) (h_x1 : xR x1) (ht : a 88 114 = 0) (hA : xAr a) (hQ : Q (some (xV (-2))) (xS a b)) : pmCs ro 59 241 [.ref 87, xV x0, xV x1] (xS a b) Q := by
  refine pmCs_deep (d := 3) (xg241 (w241n h_x0 h_x1 ht hA (by decide) ?_ ?_)) (by decide)
  all_goals (intros; first | exact hQ | (exfalso; omega))
theorem xg204 {ro : Nat → Nat × (Nat → Int32)} {d : Nat} {Q : Option Value → pmS → Prop} {a : xA} {b : xB} {x0 x1 x2 : Int} (h : pmWp ro d 12 204 1 0 [some (.ref 87), some (xV x0), some (xV x1), some (xV x2), none, none, none, none] [] (xS a b) Q) : pmCs ro (d + 1) 204 [.ref 87, xV x0, xV x1, xV x2] (xS a b) Q := x_go xi204 rfl rfl rfl rfl rfl h
theorem w204n {ro : Nat → Nat × (Nat → Int32)} {d : Nat} {Q : Option Value → pmS → Prop} {x0 x1 x2 : Int} {a : xA} {b : xB} (h_x0 : xR x0) (h_x1 : xR x1) (h_x2 : xR x2) (hg : a 87 4 = 0) (hA : xAr a) (hd : 2 ≤ d)
    (k1 : Q (some (xV (-1))) (xS a b)) :
    pmWp ro d 12 204 1 0 [some (.ref 87), some (xV x0), some (xV x1), some (xV x2), none, none, none, none] [] (xS a b) Q := by
  refine x_aloadn xc204_0 rfl ?_
  refine x_gfi' (k := 4) (v := 0) xc204_1 rfl (Or.inr rfl) rfl xz87 hg ?_
  refine x_ifeq xc204_4 (xRk (by decide)) (fun _ => ?_) (fun h => absurd h (by omega))
  refine x_iconst xc204_19 ?_
  refine x_iret xc204_20 (Or.inl rfl) ?_
  exact k1

theorem xn204 {ro : Nat → Nat × (Nat → Int32)} {Q : Option Value → pmS → Prop} {x0 x1 x2 : Int} {a : xA} {b : xB} (h_x0 : xR x0) (h_x1 : xR x1) (h_x2 : xR x2) (hg : a 87 4 = 0) (hA : xAr a) (hQ : Q (some (xV (-1))) (xS a b)) : pmCs ro 59 204 [.ref 87, xV x0, xV x1, xV x2] (xS a b) Q := by
  refine pmCs_deep (d := 3) (xg204 (w204n h_x0 h_x1 h_x2 hg hA (by decide) ?_)) (by decide)
  all_goals (intros; first | exact hQ | (exfalso; omega))
theorem xg223 {ro : Nat → Nat × (Nat → Int32)} {d : Nat} {Q : Option Value → pmS → Prop} {a : xA} {b : xB} {x0 : Int} (h : pmWp ro d 12 223 1 0 [some (.ref 87), some (xV x0)] [] (xS a b) Q) : pmCs ro (d + 1) 223 [.ref 87, xV x0] (xS a b) Q := x_go xi223 rfl rfl rfl rfl rfl h
theorem w223n {ro : Nat → Nat × (Nat → Int32)} {d : Nat} {Q : Option Value → pmS → Prop} {x0 : Int} {a : xA} {b : xB} (h_x0 : xR x0) (hg : a 87 4 = 0) (hA : xAr a) (hd : 2 ≤ d)
    (k1 : Q (some (xV (-1))) (xS a b)) :
    pmWp ro d 12 223 1 0 [some (.ref 87), some (xV x0)] [] (xS a b) Q := by
  refine x_aloadn xc223_0 rfl ?_
  refine x_gfi' (k := 4) (v := 0) xc223_1 rfl (Or.inr rfl) rfl xz87 hg ?_
  refine x_ifeq xc223_4 (xRk (by decide)) (fun _ => ?_) (fun h => absurd h (by omega))
  refine x_iconst xc223_16 ?_
  refine x_iret xc223_17 (Or.inl rfl) ?_
  exact k1

theorem xn223 {ro : Nat → Nat × (Nat → Int32)} {Q : Option Value → pmS → Prop} {x0 : Int} {a : xA} {b : xB} (h_x0 : xR x0) (hg : a 87 4 = 0) (hA : xAr a) (hQ : Q (some (xV (-1))) (xS a b)) : pmCs ro 59 223 [.ref 87, xV x0] (xS a b) Q := by
  refine pmCs_deep (d := 3) (xg223 (w223n h_x0 hg hA (by decide) ?_)) (by decide)
  all_goals (intros; first | exact hQ | (exfalso; omega))
theorem xg230 {ro : Nat → Nat × (Nat → Int32)} {d : Nat} {Q : Option Value → pmS → Prop} {a : xA} {b : xB} (h : pmWp ro d 12 230 1 0 [some (.ref 87)] [] (xS a b) Q) : pmCs ro (d + 1) 230 [.ref 87] (xS a b) Q := x_go xi230 rfl rfl rfl rfl rfl h
theorem w230n {ro : Nat → Nat × (Nat → Int32)} {d : Nat} {Q : Option Value → pmS → Prop} {a : xA} {b : xB} (hg : a 87 4 = 0) (hA : xAr a) (hd : 2 ≤ d)
    (k1 : Q (some (xV (-1))) (xS a b)) :
    pmWp ro d 12 230 1 0 [some (.ref 87)] [] (xS a b) Q := by
  refine x_aloadn xc230_0 rfl ?_
  refine x_gfi' (k := 4) (v := 0) xc230_1 rfl (Or.inr rfl) rfl xz87 hg ?_
  refine x_ifne xc230_4 (xRk (by decide)) (fun h => absurd h (by omega)) (fun _ => ?_)
  refine x_iconst xc230_7 ?_
  refine x_iret xc230_8 (Or.inl rfl) ?_
  exact k1

theorem xn230 {ro : Nat → Nat × (Nat → Int32)} {Q : Option Value → pmS → Prop} {a : xA} {b : xB} (hg : a 87 4 = 0) (hA : xAr a) (hQ : Q (some (xV (-1))) (xS a b)) : pmCs ro 59 230 [.ref 87] (xS a b) Q := by
  refine pmCs_deep (d := 3) (xg230 (w230n hg hA (by decide) ?_)) (by decide)
  all_goals (intros; first | exact hQ | (exfalso; omega))
theorem xg231 {ro : Nat → Nat × (Nat → Int32)} {d : Nat} {Q : Option Value → pmS → Prop} {a : xA} {b : xB} {x0 x1 : Int} (h : pmWp ro d 12 231 1 0 [some (.ref 87), some (xV x0), some (xV x1), none, none] [] (xS a b) Q) : pmCs ro (d + 1) 231 [.ref 87, xV x0, xV x1] (xS a b) Q := x_go xi231 rfl rfl rfl rfl rfl h
theorem w231n {ro : Nat → Nat × (Nat → Int32)} {d : Nat} {Q : Option Value → pmS → Prop} {x0 x1 : Int} {a : xA} {b : xB} (h_x0 : xR x0) (h_x1 : xR x1) (hg : a 87 4 = 0) (hA : xAr a) (hd : 2 ≤ d)
    (k1 : Q (some (xV (-1))) (xS a b)) :
    pmWp ro d 12 231 1 0 [some (.ref 87), some (xV x0), some (xV x1), none, none] [] (xS a b) Q := by
  refine x_aloadn xc231_0 rfl ?_
  refine x_gfi' (k := 4) (v := 0) xc231_1 rfl (Or.inr rfl) rfl xz87 hg ?_
  refine x_ifeq xc231_4 (xRk (by decide)) (fun _ => ?_) (fun h => absurd h (by omega))
  refine x_iconst xc231_25 ?_
  refine x_iret xc231_26 (Or.inl rfl) ?_
  exact k1

theorem xn231 {ro : Nat → Nat × (Nat → Int32)} {Q : Option Value → pmS → Prop} {x0 x1 : Int} {a : xA} {b : xB} (h_x0 : xR x0) (h_x1 : xR x1) (hg : a 87 4 = 0) (hA : xAr a) (hQ : Q (some (xV (-1))) (xS a b)) : pmCs ro 59 231 [.ref 87, xV x0, xV x1] (xS a b) Q := by
  refine pmCs_deep (d := 3) (xg231 (w231n h_x0 h_x1 hg hA (by decide) ?_)) (by decide)
  all_goals (intros; first | exact hQ | (exfalso; omega))
theorem xg232 {ro : Nat → Nat × (Nat → Int32)} {d : Nat} {Q : Option Value → pmS → Prop} {a : xA} {b : xB} {x0 : Int} (h : pmWp ro d 12 232 1 0 [some (.ref 87), some (xV x0), none, none, none, none] [] (xS a b) Q) : pmCs ro (d + 1) 232 [.ref 87, xV x0] (xS a b) Q := x_go xi232 rfl rfl rfl rfl rfl h
theorem w232n {ro : Nat → Nat × (Nat → Int32)} {d : Nat} {Q : Option Value → pmS → Prop} {x0 : Int} {a : xA} {b : xB} (h_x0 : xR x0) (hg : a 87 4 = 0) (ht : a 88 114 = 0) (hA : xAr a) (hd : 2 ≤ d)
    (k1 : Q (some (xV (-1))) (xS a b)) :
    pmWp ro d 12 232 1 0 [some (.ref 87), some (xV x0), none, none, none, none] [] (xS a b) Q := by
  refine x_aloadn xc232_0 rfl ?_
  refine x_gfr xc232_1 rfl rfl xz87 rfl ?_
  refine x_bipush xc232_4 (by decide) ?_
  refine x_ial' (v := 0) xc232_6 xz88 rfl (by omega) (by omega) (by omega) ht ?_
  refine x_istoren (pl' := [some (.ref 87), some (xV x0), some (xV 0), none, none, none]) xc232_7 rfl rfl ?_
  refine x_aloadn xc232_8 rfl ?_
  refine x_gfi' (k := 4) (v := 0) xc232_9 rfl (Or.inr rfl) rfl xz87 hg ?_
  refine x_ifeq xc232_12 (xRk (by decide)) (fun _ => ?_) (fun h => absurd h (by omega))
  refine x_iconst xc232_24 ?_
  refine x_iret xc232_25 (Or.inl rfl) ?_
  exact k1

theorem xn232 {ro : Nat → Nat × (Nat → Int32)} {Q : Option Value → pmS → Prop} {x0 : Int} {a : xA} {b : xB} (h_x0 : xR x0) (hg : a 87 4 = 0) (ht : a 88 114 = 0) (hA : xAr a) (hQ : Q (some (xV (-1))) (xS a b)) : pmCs ro 59 232 [.ref 87, xV x0] (xS a b) Q := by
  refine pmCs_deep (d := 3) (xg232 (w232n h_x0 hg ht hA (by decide) ?_)) (by decide)
  all_goals (intros; first | exact hQ | (exfalso; omega))
theorem xg236 {ro : Nat → Nat × (Nat → Int32)} {d : Nat} {Q : Option Value → pmS → Prop} {a : xA} {b : xB} {x0 : Int} (h : pmWp ro d 12 236 1 0 [some (.ref 87), some (xV x0), none, none, none, none] [] (xS a b) Q) : pmCs ro (d + 1) 236 [.ref 87, xV x0] (xS a b) Q := x_go xi236 rfl rfl rfl rfl rfl h
theorem w236n {ro : Nat → Nat × (Nat → Int32)} {d : Nat} {Q : Option Value → pmS → Prop} {x0 : Int} {a : xA} {b : xB} (h_x0 : xR x0) (hg : a 87 4 = 0) (hA : xAr a) (hd : 2 ≤ d)
    (k1 : Q (some (xV (-1))) (xS a b)) :
    pmWp ro d 12 236 1 0 [some (.ref 87), some (xV x0), none, none, none, none] [] (xS a b) Q := by
  refine x_aloadn xc236_0 rfl ?_
  refine x_gfi' (k := 4) (v := 0) xc236_1 rfl (Or.inr rfl) rfl xz87 hg ?_
  refine x_ifeq xc236_4 (xRk (by decide)) (fun _ => ?_) (fun h => absurd h (by omega))
  refine x_iconst xc236_14 ?_
  refine x_iret xc236_15 (Or.inl rfl) ?_
  exact k1

theorem xn236 {ro : Nat → Nat × (Nat → Int32)} {Q : Option Value → pmS → Prop} {x0 : Int} {a : xA} {b : xB} (h_x0 : xR x0) (hg : a 87 4 = 0) (hA : xAr a) (hQ : Q (some (xV (-1))) (xS a b)) : pmCs ro 59 236 [.ref 87, xV x0] (xS a b) Q := by
  refine pmCs_deep (d := 3) (xg236 (w236n h_x0 hg hA (by decide) ?_)) (by decide)
  all_goals (intros; first | exact hQ | (exfalso; omega))
theorem xg237 {ro : Nat → Nat × (Nat → Int32)} {d : Nat} {Q : Option Value → pmS → Prop} {a : xA} {b : xB} {x0 x1 x2 x3 : Int} (h : pmWp ro d 12 237 1 0 [some (.ref 87), some (xV x0), some (xV x1), some (xV x2), some (xV x3), none, none, none, none, none] [] (xS a b) Q) : pmCs ro (d + 1) 237 [.ref 87, xV x0, xV x1, xV x2, xV x3] (xS a b) Q := x_go xi237 rfl rfl rfl rfl rfl h
theorem w237n {ro : Nat → Nat × (Nat → Int32)} {d : Nat} {Q : Option Value → pmS → Prop} {x0 x1 x2 x3 : Int} {a : xA} {b : xB} (h_x0 : xR x0) (h_x1 : xR x1) (h_x2 : xR x2) (h_x3 : xR x3) (hg : a 87 4 = 0) (hA : xAr a) (hd : 2 ≤ d)
    (k1 : Q (some (xV (-1))) (xS a b)) :
    pmWp ro d 12 237 1 0 [some (.ref 87), some (xV x0), some (xV x1), some (xV x2), some (xV x3), none, none, none, none, none] [] (xS a b) Q := by
  refine x_aloadn xc237_0 rfl ?_
  refine x_gfi' (k := 4) (v := 0) xc237_1 rfl (Or.inr rfl) rfl xz87 hg ?_
  refine x_ifeq xc237_4 (xRk (by decide)) (fun _ => ?_) (fun h => absurd h (by omega))
  refine x_iconst xc237_47 ?_
  refine x_iret xc237_48 (Or.inl rfl) ?_
  exact k1

theorem xn237 {ro : Nat → Nat × (Nat → Int32)} {Q : Option Value → pmS → Prop} {x0 x1 x2 x3 : Int} {a : xA} {b : xB} (h_x0 : xR x0) (h_x1 : xR x1) (h_x2 : xR x2) (h_x3 : xR x3) (hg : a 87 4 = 0) (hA : xAr a) (hQ : Q (some (xV (-1))) (xS a b)) : pmCs ro 59 237 [.ref 87, xV x0, xV x1, xV x2, xV x3] (xS a b) Q := by
  refine pmCs_deep (d := 3) (xg237 (w237n h_x0 h_x1 h_x2 h_x3 hg hA (by decide) ?_)) (by decide)
  all_goals (intros; first | exact hQ | (exfalso; omega))
end
