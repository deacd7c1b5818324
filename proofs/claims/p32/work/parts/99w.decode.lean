theorem pmD_0_0 : pmT_0_0.all (fun e => pmDec prog_1_method_1_code e.1 e.2) = true := by decide +kernel
theorem pmD_0_1 : pmT_0_1.all (fun e => pmDec prog_1_method_1_code e.1 e.2) = true := by decide +kernel
theorem pmD_0_2 : pmT_0_2.all (fun e => pmDec prog_1_method_1_code e.1 e.2) = true := by decide +kernel
theorem pmD_0_3 : pmT_0_3.all (fun e => pmDec prog_1_method_1_code e.1 e.2) = true := by decide +kernel
theorem pmD_0_4 : pmT_0_4.all (fun e => pmDec prog_1_method_1_code e.1 e.2) = true := by decide +kernel
theorem pmD_0_5 : pmT_0_5.all (fun e => pmDec prog_1_method_1_code e.1 e.2) = true := by decide +kernel
theorem pmD_0 : pmDc (pmI_0, pmT_0) := List.forall_mem_cons.mpr ⟨pmD_0_0, List.forall_mem_cons.mpr ⟨pmD_0_1, List.forall_mem_cons.mpr ⟨pmD_0_2, List.forall_mem_cons.mpr ⟨pmD_0_3, List.forall_mem_cons.mpr ⟨pmD_0_4, List.forall_mem_cons.mpr ⟨pmD_0_5, fun _ h => absurd h List.not_mem_nil⟩⟩⟩⟩⟩⟩
theorem pmD_1_0 : pmT_1_0.all (fun e => pmDec prog_8_method_1_code e.1 e.2) = true := by decide +kernel
theorem pmD_1 : pmDc (pmI_1, pmT_1) := List.forall_mem_cons.mpr ⟨pmD_1_0, fun _ h => absurd h List.not_mem_nil⟩
theorem pmD_2_0 : pmT_2_0.all (fun e => pmDec prog_7_method_1_code e.1 e.2) = true := by decide +kernel
theorem pmD_2_1 : pmT_2_1.all (fun e => pmDec prog_7_method_1_code e.1 e.2) = true := by decide +kernel
theorem pmD_2_2 : pmT_2_2.all (fun e => pmDec prog_7_method_1_code e.1 e.2) = true := by decide +kernel
theorem pmD_2_3 : pmT_2_3.all (fun e => pmDec prog_7_method_1_code e.1 e.2) = true := by decide +kernel
theorem pmD_2_4 : pmT_2_4.all (fun e => pmDec prog_7_method_1_code e.1 e.2) = true := by decide +kernel
theorem pmD_2_5 : pmT_2_5.all (fun e => pmDec prog_7_method_1_code e.1 e.2) = true := by decide +kernel
theorem pmD_2 : pmDc (pmI_2, pmT_2) := List.forall_mem_cons.mpr ⟨pmD_2_0, List.forall_mem_cons.mpr ⟨pmD_2_1, List.forall_mem_cons.mpr ⟨pmD_2_2, List.forall_mem_cons.mpr ⟨pmD_2_3, List.forall_mem_cons.mpr ⟨pmD_2_4, List.forall_mem_cons.mpr ⟨pmD_2_5, fun _ h => absurd h List.not_mem_nil⟩⟩⟩⟩⟩⟩
theorem pmD_3_0 : pmT_3_0.all (fun e => pmDec prog_7_method_2_code e.1 e.2) = true := by decide +kernel
theorem pmD_3 : pmDc (pmI_3, pmT_3) := List.forall_mem_cons.mpr ⟨pmD_3_0, fun _ h => absurd h List.not_mem_nil⟩
theorem pmD_4_0 : pmT_4_0.all (fun e => pmDec prog_11_method_1_code e.1 e.2) = true := by decide +kernel
theorem pmD_4_1 : pmT_4_1.all (fun e => pmDec prog_11_method_1_code e.1 e.2) = true := by decide +kernel
theorem pmD_4 : pmDc (pmI_4, pmT_4) := List.forall_mem_cons.mpr ⟨pmD_4_0, List.forall_mem_cons.mpr ⟨pmD_4_1, fun _ h => absurd h List.not_mem_nil⟩⟩
theorem pmD_5_0 : pmT_5_0.all (fun e => pmDec prog_4_method_1_code e.1 e.2) = true := by decide +kernel
theorem pmD_5_1 : pmT_5_1.all (fun e => pmDec prog_4_method_1_code e.1 e.2) = true := by decide +kernel
theorem pmD_5 : pmDc (pmI_5, pmT_5) := List.forall_mem_cons.mpr ⟨pmD_5_0, List.forall_mem_cons.mpr ⟨pmD_5_1, fun _ h => absurd h List.not_mem_nil⟩⟩
theorem pmD_6_0 : pmT_6_0.all (fun e => pmDec prog_12_method_1_code e.1 e.2) = true := by decide +kernel
theorem pmD_6_1 : pmT_6_1.all (fun e => pmDec prog_12_method_1_code e.1 e.2) = true := by decide +kernel
theorem pmD_6 : pmDc (pmI_6, pmT_6) := List.forall_mem_cons.mpr ⟨pmD_6_0, List.forall_mem_cons.mpr ⟨pmD_6_1, fun _ h => absurd h List.not_mem_nil⟩⟩
theorem pmD_7_0 : pmT_7_0.all (fun e => pmDec prog_10_method_1_code e.1 e.2) = true := by decide +kernel
theorem pmD_7 : pmDc (pmI_7, pmT_7) := List.forall_mem_cons.mpr ⟨pmD_7_0, fun _ h => absurd h List.not_mem_nil⟩
theorem pmD_8_0 : pmT_8_0.all (fun e => pmDec prog_3_method_1_code e.1 e.2) = true := by decide +kernel
theorem pmD_8 : pmDc (pmI_8, pmT_8) := List.forall_mem_cons.mpr ⟨pmD_8_0, fun _ h => absurd h List.not_mem_nil⟩
theorem pmD_9_0 : pmT_9_0.all (fun e => pmDec prog_5_method_1_code e.1 e.2) = true := by decide +kernel
theorem pmD_9_1 : pmT_9_1.all (fun e => pmDec prog_5_method_1_code e.1 e.2) = true := by decide +kernel
theorem pmD_9_2 : pmT_9_2.all (fun e => pmDec prog_5_method_1_code e.1 e.2) = true := by decide +kernel
theorem pmD_9 : pmDc (pmI_9, pmT_9) := List.forall_mem_cons.mpr ⟨pmD_9_0, List.forall_mem_cons.mpr ⟨pmD_9_1, List.forall_mem_cons.mpr ⟨pmD_9_2, fun _ h => absurd h List.not_mem_nil⟩⟩⟩
theorem pmD_10_0 : pmT_10_0.all (fun e => pmDec prog_6_method_1_code e.1 e.2) = true := by decide +kernel
theorem pmD_10 : pmDc (pmI_10, pmT_10) := List.forall_mem_cons.mpr ⟨pmD_10_0, fun _ h => absurd h List.not_mem_nil⟩
theorem pmD_11_0 : pmT_11_0.all (fun e => pmDec prog_9_method_1_code e.1 e.2) = true := by decide +kernel
theorem pmD_11_1 : pmT_11_1.all (fun e => pmDec prog_9_method_1_code e.1 e.2) = true := by decide +kernel
theorem pmD_11_2 : pmT_11_2.all (fun e => pmDec prog_9_method_1_code e.1 e.2) = true := by decide +kernel
theorem pmD_11_3 : pmT_11_3.all (fun e => pmDec prog_9_method_1_code e.1 e.2) = true := by decide +kernel
theorem pmD_11 : pmDc (pmI_11, pmT_11) := List.forall_mem_cons.mpr ⟨pmD_11_0, List.forall_mem_cons.mpr ⟨pmD_11_1, List.forall_mem_cons.mpr ⟨pmD_11_2, List.forall_mem_cons.mpr ⟨pmD_11_3, fun _ h => absurd h List.not_mem_nil⟩⟩⟩⟩
theorem pmD_12_0 : pmT_12_0.all (fun e => pmDec prog_2_method_1_code e.1 e.2) = true := by decide +kernel
theorem pmD_12_1 : pmT_12_1.all (fun e => pmDec prog_2_method_1_code e.1 e.2) = true := by decide +kernel
theorem pmD_12 : pmDc (pmI_12, pmT_12) := List.forall_mem_cons.mpr ⟨pmD_12_0, List.forall_mem_cons.mpr ⟨pmD_12_1, fun _ h => absurd h List.not_mem_nil⟩⟩
theorem pmD_13_0 : pmT_13_0.all (fun e => pmDec prog_1_method_2_code e.1 e.2) = true := by decide +kernel
theorem pmD_13_1 : pmT_13_1.all (fun e => pmDec prog_1_method_2_code e.1 e.2) = true := by decide +kernel
theorem pmD_13 : pmDc (pmI_13, pmT_13) := List.forall_mem_cons.mpr ⟨pmD_13_0, List.forall_mem_cons.mpr ⟨pmD_13_1, fun _ h => absurd h List.not_mem_nil⟩⟩
theorem pmD_14_0 : pmT_14_0.all (fun e => pmDec prog_1_method_39_code e.1 e.2) = true := by decide +kernel
theorem pmD_14 : pmDc (pmI_14, pmT_14) := List.forall_mem_cons.mpr ⟨pmD_14_0, fun _ h => absurd h List.not_mem_nil⟩
theorem pmD_15_0 : pmT_15_0.all (fun e => pmDec prog_7_method_5_code e.1 e.2) = true := by decide +kernel
theorem pmD_15_1 : pmT_15_1.all (fun e => pmDec prog_7_method_5_code e.1 e.2) = true := by decide +kernel
theorem pmD_15 : pmDc (pmI_15, pmT_15) := List.forall_mem_cons.mpr ⟨pmD_15_0, List.forall_mem_cons.mpr ⟨pmD_15_1, fun _ h => absurd h List.not_mem_nil⟩⟩
theorem pmD_16_0 : pmT_16_0.all (fun e => pmDec prog_7_method_6_code e.1 e.2) = true := by decide +kernel
theorem pmD_16 : pmDc (pmI_16, pmT_16) := List.forall_mem_cons.mpr ⟨pmD_16_0, fun _ h => absurd h List.not_mem_nil⟩
theorem pmD_17_0 : pmT_17_0.all (fun e => pmDec prog_1_method_3_code e.1 e.2) = true := by decide +kernel
theorem pmD_17_1 : pmT_17_1.all (fun e => pmDec prog_1_method_3_code e.1 e.2) = true := by decide +kernel
theorem pmD_17 : pmDc (pmI_17, pmT_17) := List.forall_mem_cons.mpr ⟨pmD_17_0, List.forall_mem_cons.mpr ⟨pmD_17_1, fun _ h => absurd h List.not_mem_nil⟩⟩
theorem pmD_18_0 : pmT_18_0.all (fun e => pmDec prog_1_method_40_code e.1 e.2) = true := by decide +kernel
theorem pmD_18 : pmDc (pmI_18, pmT_18) := List.forall_mem_cons.mpr ⟨pmD_18_0, fun _ h => absurd h List.not_mem_nil⟩
theorem pmD_19_0 : pmT_19_0.all (fun e => pmDec prog_1_method_43_code e.1 e.2) = true := by decide +kernel
theorem pmD_19 : pmDc (pmI_19, pmT_19) := List.forall_mem_cons.mpr ⟨pmD_19_0, fun _ h => absurd h List.not_mem_nil⟩
theorem pmD_20_0 : pmT_20_0.all (fun e => pmDec prog_1_method_4_code e.1 e.2) = true := by decide +kernel
theorem pmD_20_1 : pmT_20_1.all (fun e => pmDec prog_1_method_4_code e.1 e.2) = true := by decide +kernel
theorem pmD_20_2 : pmT_20_2.all (fun e => pmDec prog_1_method_4_code e.1 e.2) = true := by decide +kernel
theorem pmD_20 : pmDc (pmI_20, pmT_20) := List.forall_mem_cons.mpr ⟨pmD_20_0, List.forall_mem_cons.mpr ⟨pmD_20_1, List.forall_mem_cons.mpr ⟨pmD_20_2, fun _ h => absurd h List.not_mem_nil⟩⟩⟩
theorem pmD_21_0 : pmT_21_0.all (fun e => pmDec prog_7_method_4_code e.1 e.2) = true := by decide +kernel
theorem pmD_21_1 : pmT_21_1.all (fun e => pmDec prog_7_method_4_code e.1 e.2) = true := by decide +kernel
theorem pmD_21 : pmDc (pmI_21, pmT_21) := List.forall_mem_cons.mpr ⟨pmD_21_0, List.forall_mem_cons.mpr ⟨pmD_21_1, fun _ h => absurd h List.not_mem_nil⟩⟩
theorem pmD_22_0 : pmT_22_0.all (fun e => pmDec prog_1_method_44_code e.1 e.2) = true := by decide +kernel
theorem pmD_22 : pmDc (pmI_22, pmT_22) := List.forall_mem_cons.mpr ⟨pmD_22_0, fun _ h => absurd h List.not_mem_nil⟩
theorem pmD_23_0 : pmT_23_0.all (fun e => pmDec prog_1_method_5_code e.1 e.2) = true := by decide +kernel
theorem pmD_23_1 : pmT_23_1.all (fun e => pmDec prog_1_method_5_code e.1 e.2) = true := by decide +kernel
theorem pmD_23_2 : pmT_23_2.all (fun e => pmDec prog_1_method_5_code e.1 e.2) = true := by decide +kernel
theorem pmD_23_3 : pmT_23_3.all (fun e => pmDec prog_1_method_5_code e.1 e.2) = true := by decide +kernel
theorem pmD_23 : pmDc (pmI_23, pmT_23) := List.forall_mem_cons.mpr ⟨pmD_23_0, List.forall_mem_cons.mpr ⟨pmD_23_1, List.forall_mem_cons.mpr ⟨pmD_23_2, List.forall_mem_cons.mpr ⟨pmD_23_3, fun _ h => absurd h List.not_mem_nil⟩⟩⟩⟩
theorem pmD_24_0 : pmT_24_0.all (fun e => pmDec prog_15_method_49_code e.1 e.2) = true := by decide +kernel
theorem pmD_24_1 : pmT_24_1.all (fun e => pmDec prog_15_method_49_code e.1 e.2) = true := by decide +kernel
theorem pmD_24 : pmDc (pmI_24, pmT_24) := List.forall_mem_cons.mpr ⟨pmD_24_0, List.forall_mem_cons.mpr ⟨pmD_24_1, fun _ h => absurd h List.not_mem_nil⟩⟩
theorem pmD_25_0 : pmT_25_0.all (fun e => pmDec prog_1_method_6_code e.1 e.2) = true := by decide +kernel
theorem pmD_25_1 : pmT_25_1.all (fun e => pmDec prog_1_method_6_code e.1 e.2) = true := by decide +kernel
theorem pmD_25_2 : pmT_25_2.all (fun e => pmDec prog_1_method_6_code e.1 e.2) = true := by decide +kernel
theorem pmD_25_3 : pmT_25_3.all (fun e => pmDec prog_1_method_6_code e.1 e.2) = true := by decide +kernel
theorem pmD_25_4 : pmT_25_4.all (fun e => pmDec prog_1_method_6_code e.1 e.2) = true := by decide +kernel
theorem pmD_25 : pmDc (pmI_25, pmT_25) := List.forall_mem_cons.mpr ⟨pmD_25_0, List.forall_mem_cons.mpr ⟨pmD_25_1, List.forall_mem_cons.mpr ⟨pmD_25_2, List.forall_mem_cons.mpr ⟨pmD_25_3, List.forall_mem_cons.mpr ⟨pmD_25_4, fun _ h => absurd h List.not_mem_nil⟩⟩⟩⟩⟩
theorem pmD_26_0 : pmT_26_0.all (fun e => pmDec prog_1_method_41_code e.1 e.2) = true := by decide +kernel
theorem pmD_26 : pmDc (pmI_26, pmT_26) := List.forall_mem_cons.mpr ⟨pmD_26_0, fun _ h => absurd h List.not_mem_nil⟩
theorem pmD_27_0 : pmT_27_0.all (fun e => pmDec prog_1_method_36_code e.1 e.2) = true := by decide +kernel
theorem pmD_27 : pmDc (pmI_27, pmT_27) := List.forall_mem_cons.mpr ⟨pmD_27_0, fun _ h => absurd h List.not_mem_nil⟩
theorem pmD_28_0 : pmT_28_0.all (fun e => pmDec prog_1_method_7_code e.1 e.2) = true := by decide +kernel
theorem pmD_28_1 : pmT_28_1.all (fun e => pmDec prog_1_method_7_code e.1 e.2) = true := by decide +kernel
theorem pmD_28 : pmDc (pmI_28, pmT_28) := List.forall_mem_cons.mpr ⟨pmD_28_0, List.forall_mem_cons.mpr ⟨pmD_28_1, fun _ h => absurd h List.not_mem_nil⟩⟩
theorem pmD_29_0 : pmT_29_0.all (fun e => pmDec prog_1_method_8_code e.1 e.2) = true := by decide +kernel
theorem pmD_29_1 : pmT_29_1.all (fun e => pmDec prog_1_method_8_code e.1 e.2) = true := by decide +kernel
theorem pmD_29_2 : pmT_29_2.all (fun e => pmDec prog_1_method_8_code e.1 e.2) = true := by decide +kernel
theorem pmD_29 : pmDc (pmI_29, pmT_29) := List.forall_mem_cons.mpr ⟨pmD_29_0, List.forall_mem_cons.mpr ⟨pmD_29_1, List.forall_mem_cons.mpr ⟨pmD_29_2, fun _ h => absurd h List.not_mem_nil⟩⟩⟩
theorem pmD_30_0 : pmT_30_0.all (fun e => pmDec prog_8_method_2_code e.1 e.2) = true := by decide +kernel
theorem pmD_30_1 : pmT_30_1.all (fun e => pmDec prog_8_method_2_code e.1 e.2) = true := by decide +kernel
theorem pmD_30 : pmDc (pmI_30, pmT_30) := List.forall_mem_cons.mpr ⟨pmD_30_0, List.forall_mem_cons.mpr ⟨pmD_30_1, fun _ h => absurd h List.not_mem_nil⟩⟩
theorem pmD_31_0 : pmT_31_0.all (fun e => pmDec prog_1_method_9_code e.1 e.2) = true := by decide +kernel
theorem pmD_31_1 : pmT_31_1.all (fun e => pmDec prog_1_method_9_code e.1 e.2) = true := by decide +kernel
theorem pmD_31_2 : pmT_31_2.all (fun e => pmDec prog_1_method_9_code e.1 e.2) = true := by decide +kernel
theorem pmD_31_3 : pmT_31_3.all (fun e => pmDec prog_1_method_9_code e.1 e.2) = true := by decide +kernel
theorem pmD_31 : pmDc (pmI_31, pmT_31) := List.forall_mem_cons.mpr ⟨pmD_31_0, List.forall_mem_cons.mpr ⟨pmD_31_1, List.forall_mem_cons.mpr ⟨pmD_31_2, List.forall_mem_cons.mpr ⟨pmD_31_3, fun _ h => absurd h List.not_mem_nil⟩⟩⟩⟩
theorem pmD_32_0 : pmT_32_0.all (fun e => pmDec prog_10_method_2_code e.1 e.2) = true := by decide +kernel
theorem pmD_32_1 : pmT_32_1.all (fun e => pmDec prog_10_method_2_code e.1 e.2) = true := by decide +kernel
theorem pmD_32 : pmDc (pmI_32, pmT_32) := List.forall_mem_cons.mpr ⟨pmD_32_0, List.forall_mem_cons.mpr ⟨pmD_32_1, fun _ h => absurd h List.not_mem_nil⟩⟩
theorem pmD_33_0 : pmT_33_0.all (fun e => pmDec prog_8_method_5_code e.1 e.2) = true := by decide +kernel
theorem pmD_33 : pmDc (pmI_33, pmT_33) := List.forall_mem_cons.mpr ⟨pmD_33_0, fun _ h => absurd h List.not_mem_nil⟩
theorem pmD_34_0 : pmT_34_0.all (fun e => pmDec prog_10_method_3_code e.1 e.2) = true := by decide +kernel
theorem pmD_34_1 : pmT_34_1.all (fun e => pmDec prog_10_method_3_code e.1 e.2) = true := by decide +kernel
theorem pmD_34 : pmDc (pmI_34, pmT_34) := List.forall_mem_cons.mpr ⟨pmD_34_0, List.forall_mem_cons.mpr ⟨pmD_34_1, fun _ h => absurd h List.not_mem_nil⟩⟩
theorem pmD_35_0 : pmT_35_0.all (fun e => pmDec prog_10_method_4_code e.1 e.2) = true := by decide +kernel
theorem pmD_35_1 : pmT_35_1.all (fun e => pmDec prog_10_method_4_code e.1 e.2) = true := by decide +kernel
theorem pmD_35 : pmDc (pmI_35, pmT_35) := List.forall_mem_cons.mpr ⟨pmD_35_0, List.forall_mem_cons.mpr ⟨pmD_35_1, fun _ h => absurd h List.not_mem_nil⟩⟩
theorem pmD_36_0 : pmT_36_0.all (fun e => pmDec prog_10_method_5_code e.1 e.2) = true := by decide +kernel
theorem pmD_36_1 : pmT_36_1.all (fun e => pmDec prog_10_method_5_code e.1 e.2) = true := by decide +kernel
theorem pmD_36_2 : pmT_36_2.all (fun e => pmDec prog_10_method_5_code e.1 e.2) = true := by decide +kernel
theorem pmD_36 : pmDc (pmI_36, pmT_36) := List.forall_mem_cons.mpr ⟨pmD_36_0, List.forall_mem_cons.mpr ⟨pmD_36_1, List.forall_mem_cons.mpr ⟨pmD_36_2, fun _ h => absurd h List.not_mem_nil⟩⟩⟩
theorem pmD_37_0 : pmT_37_0.all (fun e => pmDec prog_8_method_6_code e.1 e.2) = true := by decide +kernel
theorem pmD_37 : pmDc (pmI_37, pmT_37) := List.forall_mem_cons.mpr ⟨pmD_37_0, fun _ h => absurd h List.not_mem_nil⟩
theorem pmD_38_0 : pmT_38_0.all (fun e => pmDec prog_10_method_8_code e.1 e.2) = true := by decide +kernel
theorem pmD_38_1 : pmT_38_1.all (fun e => pmDec prog_10_method_8_code e.1 e.2) = true := by decide +kernel
theorem pmD_38_2 : pmT_38_2.all (fun e => pmDec prog_10_method_8_code e.1 e.2) = true := by decide +kernel
theorem pmD_38_3 : pmT_38_3.all (fun e => pmDec prog_10_method_8_code e.1 e.2) = true := by decide +kernel
theorem pmD_38_4 : pmT_38_4.all (fun e => pmDec prog_10_method_8_code e.1 e.2) = true := by decide +kernel
theorem pmD_38_5 : pmT_38_5.all (fun e => pmDec prog_10_method_8_code e.1 e.2) = true := by decide +kernel
theorem pmD_38_6 : pmT_38_6.all (fun e => pmDec prog_10_method_8_code e.1 e.2) = true := by decide +kernel
theorem pmD_38 : pmDc (pmI_38, pmT_38) := List.forall_mem_cons.mpr ⟨pmD_38_0, List.forall_mem_cons.mpr ⟨pmD_38_1, List.forall_mem_cons.mpr ⟨pmD_38_2, List.forall_mem_cons.mpr ⟨pmD_38_3, List.forall_mem_cons.mpr ⟨pmD_38_4, List.forall_mem_cons.mpr ⟨pmD_38_5, List.forall_mem_cons.mpr ⟨pmD_38_6, fun _ h => absurd h List.not_mem_nil⟩⟩⟩⟩⟩⟩⟩
theorem pmD_39_0 : pmT_39_0.all (fun e => pmDec prog_8_method_9_code e.1 e.2) = true := by decide +kernel
theorem pmD_39 : pmDc (pmI_39, pmT_39) := List.forall_mem_cons.mpr ⟨pmD_39_0, fun _ h => absurd h List.not_mem_nil⟩
theorem pmD_40_0 : pmT_40_0.all (fun e => pmDec prog_8_method_10_code e.1 e.2) = true := by decide +kernel
theorem pmD_40_1 : pmT_40_1.all (fun e => pmDec prog_8_method_10_code e.1 e.2) = true := by decide +kernel
theorem pmD_40 : pmDc (pmI_40, pmT_40) := List.forall_mem_cons.mpr ⟨pmD_40_0, List.forall_mem_cons.mpr ⟨pmD_40_1, fun _ h => absurd h List.not_mem_nil⟩⟩
theorem pmD_41_0 : pmT_41_0.all (fun e => pmDec prog_10_method_9_code e.1 e.2) = true := by decide +kernel
theorem pmD_41_1 : pmT_41_1.all (fun e => pmDec prog_10_method_9_code e.1 e.2) = true := by decide +kernel
theorem pmD_41 : pmDc (pmI_41, pmT_41) := List.forall_mem_cons.mpr ⟨pmD_41_0, List.forall_mem_cons.mpr ⟨pmD_41_1, fun _ h => absurd h List.not_mem_nil⟩⟩
theorem pmD_42_0 : pmT_42_0.all (fun e => pmDec prog_10_method_6_code e.1 e.2) = true := by decide +kernel
theorem pmD_42 : pmDc (pmI_42, pmT_42) := List.forall_mem_cons.mpr ⟨pmD_42_0, fun _ h => absurd h List.not_mem_nil⟩
theorem pmD_43_0 : pmT_43_0.all (fun e => pmDec prog_10_method_7_code e.1 e.2) = true := by decide +kernel
theorem pmD_43_1 : pmT_43_1.all (fun e => pmDec prog_10_method_7_code e.1 e.2) = true := by decide +kernel
theorem pmD_43 : pmDc (pmI_43, pmT_43) := List.forall_mem_cons.mpr ⟨pmD_43_0, List.forall_mem_cons.mpr ⟨pmD_43_1, fun _ h => absurd h List.not_mem_nil⟩⟩
theorem pmD_44_0 : pmT_44_0.all (fun e => pmDec prog_8_method_7_code e.1 e.2) = true := by decide +kernel
theorem pmD_44 : pmDc (pmI_44, pmT_44) := List.forall_mem_cons.mpr ⟨pmD_44_0, fun _ h => absurd h List.not_mem_nil⟩
theorem pmD_45_0 : pmT_45_0.all (fun e => pmDec prog_8_method_3_code e.1 e.2) = true := by decide +kernel
theorem pmD_45 : pmDc (pmI_45, pmT_45) := List.forall_mem_cons.mpr ⟨pmD_45_0, fun _ h => absurd h List.not_mem_nil⟩
theorem pmD_46_0 : pmT_46_0.all (fun e => pmDec prog_11_method_2_code e.1 e.2) = true := by decide +kernel
theorem pmD_46_1 : pmT_46_1.all (fun e => pmDec prog_11_method_2_code e.1 e.2) = true := by decide +kernel
theorem pmD_46_2 : pmT_46_2.all (fun e => pmDec prog_11_method_2_code e.1 e.2) = true := by decide +kernel
theorem pmD_46_3 : pmT_46_3.all (fun e => pmDec prog_11_method_2_code e.1 e.2) = true := by decide +kernel
theorem pmD_46_4 : pmT_46_4.all (fun e => pmDec prog_11_method_2_code e.1 e.2) = true := by decide +kernel
theorem pmD_46 : pmDc (pmI_46, pmT_46) := List.forall_mem_cons.mpr ⟨pmD_46_0, List.forall_mem_cons.mpr ⟨pmD_46_1, List.forall_mem_cons.mpr ⟨pmD_46_2, List.forall_mem_cons.mpr ⟨pmD_46_3, List.forall_mem_cons.mpr ⟨pmD_46_4, fun _ h => absurd h List.not_mem_nil⟩⟩⟩⟩⟩
theorem pmD_47_0 : pmT_47_0.all (fun e => pmDec prog_1_method_10_code e.1 e.2) = true := by decide +kernel
theorem pmD_47_1 : pmT_47_1.all (fun e => pmDec prog_1_method_10_code e.1 e.2) = true := by decide +kernel
theorem pmD_47_2 : pmT_47_2.all (fun e => pmDec prog_1_method_10_code e.1 e.2) = true := by decide +kernel
theorem pmD_47 : pmDc (pmI_47, pmT_47) := List.forall_mem_cons.mpr ⟨pmD_47_0, List.forall_mem_cons.mpr ⟨pmD_47_1, List.forall_mem_cons.mpr ⟨pmD_47_2, fun _ h => absurd h List.not_mem_nil⟩⟩⟩
theorem pmD_48_0 : pmT_48_0.all (fun e => pmDec prog_3_method_2_code e.1 e.2) = true := by decide +kernel
theorem pmD_48_1 : pmT_48_1.all (fun e => pmDec prog_3_method_2_code e.1 e.2) = true := by decide +kernel
theorem pmD_48_2 : pmT_48_2.all (fun e => pmDec prog_3_method_2_code e.1 e.2) = true := by decide +kernel
theorem pmD_48 : pmDc (pmI_48, pmT_48) := List.forall_mem_cons.mpr ⟨pmD_48_0, List.forall_mem_cons.mpr ⟨pmD_48_1, List.forall_mem_cons.mpr ⟨pmD_48_2, fun _ h => absurd h List.not_mem_nil⟩⟩⟩
theorem pmD_49_0 : pmT_49_0.all (fun e => pmDec prog_3_method_3_code e.1 e.2) = true := by decide +kernel
theorem pmD_49_1 : pmT_49_1.all (fun e => pmDec prog_3_method_3_code e.1 e.2) = true := by decide +kernel
theorem pmD_49_2 : pmT_49_2.all (fun e => pmDec prog_3_method_3_code e.1 e.2) = true := by decide +kernel
theorem pmD_49_3 : pmT_49_3.all (fun e => pmDec prog_3_method_3_code e.1 e.2) = true := by decide +kernel
theorem pmD_49_4 : pmT_49_4.all (fun e => pmDec prog_3_method_3_code e.1 e.2) = true := by decide +kernel
theorem pmD_49_5 : pmT_49_5.all (fun e => pmDec prog_3_method_3_code e.1 e.2) = true := by decide +kernel
theorem pmD_49_6 : pmT_49_6.all (fun e => pmDec prog_3_method_3_code e.1 e.2) = true := by decide +kernel
theorem pmD_49_7 : pmT_49_7.all (fun e => pmDec prog_3_method_3_code e.1 e.2) = true := by decide +kernel
theorem pmD_49 : pmDc (pmI_49, pmT_49) := List.forall_mem_cons.mpr ⟨pmD_49_0, List.forall_mem_cons.mpr ⟨pmD_49_1, List.forall_mem_cons.mpr ⟨pmD_49_2, List.forall_mem_cons.mpr ⟨pmD_49_3, List.forall_mem_cons.mpr ⟨pmD_49_4, List.forall_mem_cons.mpr ⟨pmD_49_5, List.forall_mem_cons.mpr ⟨pmD_49_6, List.forall_mem_cons.mpr ⟨pmD_49_7, fun _ h => absurd h List.not_mem_nil⟩⟩⟩⟩⟩⟩⟩⟩
theorem pmD_50_0 : pmT_50_0.all (fun e => pmDec prog_3_method_6_code e.1 e.2) = true := by decide +kernel
theorem pmD_50_1 : pmT_50_1.all (fun e => pmDec prog_3_method_6_code e.1 e.2) = true := by decide +kernel
theorem pmD_50_2 : pmT_50_2.all (fun e => pmDec prog_3_method_6_code e.1 e.2) = true := by decide +kernel
theorem pmD_50_3 : pmT_50_3.all (fun e => pmDec prog_3_method_6_code e.1 e.2) = true := by decide +kernel
theorem pmD_50 : pmDc (pmI_50, pmT_50) := List.forall_mem_cons.mpr ⟨pmD_50_0, List.forall_mem_cons.mpr ⟨pmD_50_1, List.forall_mem_cons.mpr ⟨pmD_50_2, List.forall_mem_cons.mpr ⟨pmD_50_3, fun _ h => absurd h List.not_mem_nil⟩⟩⟩⟩
theorem pmD_51_0 : pmT_51_0.all (fun e => pmDec prog_3_method_8_code e.1 e.2) = true := by decide +kernel
theorem pmD_51_1 : pmT_51_1.all (fun e => pmDec prog_3_method_8_code e.1 e.2) = true := by decide +kernel
theorem pmD_51_2 : pmT_51_2.all (fun e => pmDec prog_3_method_8_code e.1 e.2) = true := by decide +kernel
theorem pmD_51_3 : pmT_51_3.all (fun e => pmDec prog_3_method_8_code e.1 e.2) = true := by decide +kernel
theorem pmD_51 : pmDc (pmI_51, pmT_51) := List.forall_mem_cons.mpr ⟨pmD_51_0, List.forall_mem_cons.mpr ⟨pmD_51_1, List.forall_mem_cons.mpr ⟨pmD_51_2, List.forall_mem_cons.mpr ⟨pmD_51_3, fun _ h => absurd h List.not_mem_nil⟩⟩⟩⟩
theorem pmD_52_0 : pmT_52_0.all (fun e => pmDec prog_3_method_7_code e.1 e.2) = true := by decide +kernel
theorem pmD_52_1 : pmT_52_1.all (fun e => pmDec prog_3_method_7_code e.1 e.2) = true := by decide +kernel
theorem pmD_52 : pmDc (pmI_52, pmT_52) := List.forall_mem_cons.mpr ⟨pmD_52_0, List.forall_mem_cons.mpr ⟨pmD_52_1, fun _ h => absurd h List.not_mem_nil⟩⟩
theorem pmD_53_0 : pmT_53_0.all (fun e => pmDec prog_3_method_4_code e.1 e.2) = true := by decide +kernel
theorem pmD_53 : pmDc (pmI_53, pmT_53) := List.forall_mem_cons.mpr ⟨pmD_53_0, fun _ h => absurd h List.not_mem_nil⟩
theorem pmD_54_0 : pmT_54_0.all (fun e => pmDec prog_3_method_5_code e.1 e.2) = true := by decide +kernel
theorem pmD_54_1 : pmT_54_1.all (fun e => pmDec prog_3_method_5_code e.1 e.2) = true := by decide +kernel
theorem pmD_54_2 : pmT_54_2.all (fun e => pmDec prog_3_method_5_code e.1 e.2) = true := by decide +kernel
theorem pmD_54 : pmDc (pmI_54, pmT_54) := List.forall_mem_cons.mpr ⟨pmD_54_0, List.forall_mem_cons.mpr ⟨pmD_54_1, List.forall_mem_cons.mpr ⟨pmD_54_2, fun _ h => absurd h List.not_mem_nil⟩⟩⟩
theorem pmD_55_0 : pmT_55_0.all (fun e => pmDec prog_8_method_8_code e.1 e.2) = true := by decide +kernel
theorem pmD_55 : pmDc (pmI_55, pmT_55) := List.forall_mem_cons.mpr ⟨pmD_55_0, fun _ h => absurd h List.not_mem_nil⟩
theorem pmD_56_0 : pmT_56_0.all (fun e => pmDec prog_4_method_2_code e.1 e.2) = true := by decide +kernel
theorem pmD_56_1 : pmT_56_1.all (fun e => pmDec prog_4_method_2_code e.1 e.2) = true := by decide +kernel
theorem pmD_56 : pmDc (pmI_56, pmT_56) := List.forall_mem_cons.mpr ⟨pmD_56_0, List.forall_mem_cons.mpr ⟨pmD_56_1, fun _ h => absurd h List.not_mem_nil⟩⟩
theorem pmD_57_0 : pmT_57_0.all (fun e => pmDec prog_1_method_11_code e.1 e.2) = true := by decide +kernel
theorem pmD_57_1 : pmT_57_1.all (fun e => pmDec prog_1_method_11_code e.1 e.2) = true := by decide +kernel
theorem pmD_57 : pmDc (pmI_57, pmT_57) := List.forall_mem_cons.mpr ⟨pmD_57_0, List.forall_mem_cons.mpr ⟨pmD_57_1, fun _ h => absurd h List.not_mem_nil⟩⟩
theorem pmD_58_0 : pmT_58_0.all (fun e => pmDec prog_7_method_7_code e.1 e.2) = true := by decide +kernel
theorem pmD_58_1 : pmT_58_1.all (fun e => pmDec prog_7_method_7_code e.1 e.2) = true := by decide +kernel
theorem pmD_58_2 : pmT_58_2.all (fun e => pmDec prog_7_method_7_code e.1 e.2) = true := by decide +kernel
theorem pmD_58_3 : pmT_58_3.all (fun e => pmDec prog_7_method_7_code e.1 e.2) = true := by decide +kernel
theorem pmD_58_4 : pmT_58_4.all (fun e => pmDec prog_7_method_7_code e.1 e.2) = true := by decide +kernel
theorem pmD_58 : pmDc (pmI_58, pmT_58) := List.forall_mem_cons.mpr ⟨pmD_58_0, List.forall_mem_cons.mpr ⟨pmD_58_1, List.forall_mem_cons.mpr ⟨pmD_58_2, List.forall_mem_cons.mpr ⟨pmD_58_3, List.forall_mem_cons.mpr ⟨pmD_58_4, fun _ h => absurd h List.not_mem_nil⟩⟩⟩⟩⟩
theorem pmD_59_0 : pmT_59_0.all (fun e => pmDec prog_6_method_7_code e.1 e.2) = true := by decide +kernel
theorem pmD_59 : pmDc (pmI_59, pmT_59) := List.forall_mem_cons.mpr ⟨pmD_59_0, fun _ h => absurd h List.not_mem_nil⟩
theorem pmD_60_0 : pmT_60_0.all (fun e => pmDec prog_6_method_8_code e.1 e.2) = true := by decide +kernel
theorem pmD_60_1 : pmT_60_1.all (fun e => pmDec prog_6_method_8_code e.1 e.2) = true := by decide +kernel
theorem pmD_60_2 : pmT_60_2.all (fun e => pmDec prog_6_method_8_code e.1 e.2) = true := by decide +kernel
theorem pmD_60_3 : pmT_60_3.all (fun e => pmDec prog_6_method_8_code e.1 e.2) = true := by decide +kernel
theorem pmD_60_4 : pmT_60_4.all (fun e => pmDec prog_6_method_8_code e.1 e.2) = true := by decide +kernel
theorem pmD_60 : pmDc (pmI_60, pmT_60) := List.forall_mem_cons.mpr ⟨pmD_60_0, List.forall_mem_cons.mpr ⟨pmD_60_1, List.forall_mem_cons.mpr ⟨pmD_60_2, List.forall_mem_cons.mpr ⟨pmD_60_3, List.forall_mem_cons.mpr ⟨pmD_60_4, fun _ h => absurd h List.not_mem_nil⟩⟩⟩⟩⟩
theorem pmD_61_0 : pmT_61_0.all (fun e => pmDec prog_1_method_42_code e.1 e.2) = true := by decide +kernel
theorem pmD_61 : pmDc (pmI_61, pmT_61) := List.forall_mem_cons.mpr ⟨pmD_61_0, fun _ h => absurd h List.not_mem_nil⟩
theorem pmD_62_0 : pmT_62_0.all (fun e => pmDec prog_12_method_5_code e.1 e.2) = true := by decide +kernel
theorem pmD_62 : pmDc (pmI_62, pmT_62) := List.forall_mem_cons.mpr ⟨pmD_62_0, fun _ h => absurd h List.not_mem_nil⟩
theorem pmD_63_0 : pmT_63_0.all (fun e => pmDec prog_6_method_9_code e.1 e.2) = true := by decide +kernel
theorem pmD_63_1 : pmT_63_1.all (fun e => pmDec prog_6_method_9_code e.1 e.2) = true := by decide +kernel
theorem pmD_63_2 : pmT_63_2.all (fun e => pmDec prog_6_method_9_code e.1 e.2) = true := by decide +kernel
theorem pmD_63_3 : pmT_63_3.all (fun e => pmDec prog_6_method_9_code e.1 e.2) = true := by decide +kernel
theorem pmD_63_4 : pmT_63_4.all (fun e => pmDec prog_6_method_9_code e.1 e.2) = true := by decide +kernel
theorem pmD_63_5 : pmT_63_5.all (fun e => pmDec prog_6_method_9_code e.1 e.2) = true := by decide +kernel
theorem pmD_63 : pmDc (pmI_63, pmT_63) := List.forall_mem_cons.mpr ⟨pmD_63_0, List.forall_mem_cons.mpr ⟨pmD_63_1, List.forall_mem_cons.mpr ⟨pmD_63_2, List.forall_mem_cons.mpr ⟨pmD_63_3, List.forall_mem_cons.mpr ⟨pmD_63_4, List.forall_mem_cons.mpr ⟨pmD_63_5, fun _ h => absurd h List.not_mem_nil⟩⟩⟩⟩⟩⟩
theorem pmD_64_0 : pmT_64_0.all (fun e => pmDec prog_6_method_10_code e.1 e.2) = true := by decide +kernel
theorem pmD_64_1 : pmT_64_1.all (fun e => pmDec prog_6_method_10_code e.1 e.2) = true := by decide +kernel
theorem pmD_64 : pmDc (pmI_64, pmT_64) := List.forall_mem_cons.mpr ⟨pmD_64_0, List.forall_mem_cons.mpr ⟨pmD_64_1, fun _ h => absurd h List.not_mem_nil⟩⟩
theorem pmD_65_0 : pmT_65_0.all (fun e => pmDec prog_2_method_2_code e.1 e.2) = true := by decide +kernel
theorem pmD_65 : pmDc (pmI_65, pmT_65) := List.forall_mem_cons.mpr ⟨pmD_65_0, fun _ h => absurd h List.not_mem_nil⟩
theorem pmD_66_0 : pmT_66_0.all (fun e => pmDec prog_12_method_2_code e.1 e.2) = true := by decide +kernel
theorem pmD_66_1 : pmT_66_1.all (fun e => pmDec prog_12_method_2_code e.1 e.2) = true := by decide +kernel
theorem pmD_66_2 : pmT_66_2.all (fun e => pmDec prog_12_method_2_code e.1 e.2) = true := by decide +kernel
theorem pmD_66_3 : pmT_66_3.all (fun e => pmDec prog_12_method_2_code e.1 e.2) = true := by decide +kernel
theorem pmD_66 : pmDc (pmI_66, pmT_66) := List.forall_mem_cons.mpr ⟨pmD_66_0, List.forall_mem_cons.mpr ⟨pmD_66_1, List.forall_mem_cons.mpr ⟨pmD_66_2, List.forall_mem_cons.mpr ⟨pmD_66_3, fun _ h => absurd h List.not_mem_nil⟩⟩⟩⟩
theorem pmD_67_0 : pmT_67_0.all (fun e => pmDec prog_12_method_3_code e.1 e.2) = true := by decide +kernel
theorem pmD_67 : pmDc (pmI_67, pmT_67) := List.forall_mem_cons.mpr ⟨pmD_67_0, fun _ h => absurd h List.not_mem_nil⟩
theorem pmD_68_0 : pmT_68_0.all (fun e => pmDec prog_1_method_12_code e.1 e.2) = true := by decide +kernel
theorem pmD_68_1 : pmT_68_1.all (fun e => pmDec prog_1_method_12_code e.1 e.2) = true := by decide +kernel
theorem pmD_68_2 : pmT_68_2.all (fun e => pmDec prog_1_method_12_code e.1 e.2) = true := by decide +kernel
theorem pmD_68_3 : pmT_68_3.all (fun e => pmDec prog_1_method_12_code e.1 e.2) = true := by decide +kernel
theorem pmD_68 : pmDc (pmI_68, pmT_68) := List.forall_mem_cons.mpr ⟨pmD_68_0, List.forall_mem_cons.mpr ⟨pmD_68_1, List.forall_mem_cons.mpr ⟨pmD_68_2, List.forall_mem_cons.mpr ⟨pmD_68_3, fun _ h => absurd h List.not_mem_nil⟩⟩⟩⟩
theorem pmD_69_0 : pmT_69_0.all (fun e => pmDec prog_1_method_45_code e.1 e.2) = true := by decide +kernel
theorem pmD_69 : pmDc (pmI_69, pmT_69) := List.forall_mem_cons.mpr ⟨pmD_69_0, fun _ h => absurd h List.not_mem_nil⟩
theorem pmD_70_0 : pmT_70_0.all (fun e => pmDec prog_1_method_13_code e.1 e.2) = true := by decide +kernel
theorem pmD_70_1 : pmT_70_1.all (fun e => pmDec prog_1_method_13_code e.1 e.2) = true := by decide +kernel
theorem pmD_70 : pmDc (pmI_70, pmT_70) := List.forall_mem_cons.mpr ⟨pmD_70_0, List.forall_mem_cons.mpr ⟨pmD_70_1, fun _ h => absurd h List.not_mem_nil⟩⟩
theorem pmD_71_0 : pmT_71_0.all (fun e => pmDec prog_1_method_35_code e.1 e.2) = true := by decide +kernel
theorem pmD_71_1 : pmT_71_1.all (fun e => pmDec prog_1_method_35_code e.1 e.2) = true := by decide +kernel
theorem pmD_71 : pmDc (pmI_71, pmT_71) := List.forall_mem_cons.mpr ⟨pmD_71_0, List.forall_mem_cons.mpr ⟨pmD_71_1, fun _ h => absurd h List.not_mem_nil⟩⟩
theorem pmD_72_0 : pmT_72_0.all (fun e => pmDec prog_5_method_3_code e.1 e.2) = true := by decide +kernel
theorem pmD_72_1 : pmT_72_1.all (fun e => pmDec prog_5_method_3_code e.1 e.2) = true := by decide +kernel
theorem pmD_72 : pmDc (pmI_72, pmT_72) := List.forall_mem_cons.mpr ⟨pmD_72_0, List.forall_mem_cons.mpr ⟨pmD_72_1, fun _ h => absurd h List.not_mem_nil⟩⟩
theorem pmD_73_0 : pmT_73_0.all (fun e => pmDec prog_5_method_6_code e.1 e.2) = true := by decide +kernel
theorem pmD_73_1 : pmT_73_1.all (fun e => pmDec prog_5_method_6_code e.1 e.2) = true := by decide +kernel
theorem pmD_73_2 : pmT_73_2.all (fun e => pmDec prog_5_method_6_code e.1 e.2) = true := by decide +kernel
theorem pmD_73_3 : pmT_73_3.all (fun e => pmDec prog_5_method_6_code e.1 e.2) = true := by decide +kernel
theorem pmD_73_4 : pmT_73_4.all (fun e => pmDec prog_5_method_6_code e.1 e.2) = true := by decide +kernel
theorem pmD_73_5 : pmT_73_5.all (fun e => pmDec prog_5_method_6_code e.1 e.2) = true := by decide +kernel
theorem pmD_73_6 : pmT_73_6.all (fun e => pmDec prog_5_method_6_code e.1 e.2) = true := by decide +kernel
theorem pmD_73_7 : pmT_73_7.all (fun e => pmDec prog_5_method_6_code e.1 e.2) = true := by decide +kernel
theorem pmD_73_8 : pmT_73_8.all (fun e => pmDec prog_5_method_6_code e.1 e.2) = true := by decide +kernel
theorem pmD_73_9 : pmT_73_9.all (fun e => pmDec prog_5_method_6_code e.1 e.2) = true := by decide +kernel
theorem pmD_73_10 : pmT_73_10.all (fun e => pmDec prog_5_method_6_code e.1 e.2) = true := by decide +kernel
theorem pmD_73_11 : pmT_73_11.all (fun e => pmDec prog_5_method_6_code e.1 e.2) = true := by decide +kernel
theorem pmD_73_12 : pmT_73_12.all (fun e => pmDec prog_5_method_6_code e.1 e.2) = true := by decide +kernel
theorem pmD_73 : pmDc (pmI_73, pmT_73) := List.forall_mem_cons.mpr ⟨pmD_73_0, List.forall_mem_cons.mpr ⟨pmD_73_1, List.forall_mem_cons.mpr ⟨pmD_73_2, List.forall_mem_cons.mpr ⟨pmD_73_3, List.forall_mem_cons.mpr ⟨pmD_73_4, List.forall_mem_cons.mpr ⟨pmD_73_5, List.forall_mem_cons.mpr ⟨pmD_73_6, List.forall_mem_cons.mpr ⟨pmD_73_7, List.forall_mem_cons.mpr ⟨pmD_73_8, List.forall_mem_cons.mpr ⟨pmD_73_9, List.forall_mem_cons.mpr ⟨pmD_73_10, List.forall_mem_cons.mpr ⟨pmD_73_11, List.forall_mem_cons.mpr ⟨pmD_73_12, fun _ h => absurd h List.not_mem_nil⟩⟩⟩⟩⟩⟩⟩⟩⟩⟩⟩⟩⟩
theorem pmD_74_0 : pmT_74_0.all (fun e => pmDec prog_5_method_7_code e.1 e.2) = true := by decide +kernel
theorem pmD_74_1 : pmT_74_1.all (fun e => pmDec prog_5_method_7_code e.1 e.2) = true := by decide +kernel
theorem pmD_74_2 : pmT_74_2.all (fun e => pmDec prog_5_method_7_code e.1 e.2) = true := by decide +kernel
theorem pmD_74_3 : pmT_74_3.all (fun e => pmDec prog_5_method_7_code e.1 e.2) = true := by decide +kernel
theorem pmD_74_4 : pmT_74_4.all (fun e => pmDec prog_5_method_7_code e.1 e.2) = true := by decide +kernel
theorem pmD_74_5 : pmT_74_5.all (fun e => pmDec prog_5_method_7_code e.1 e.2) = true := by decide +kernel
theorem pmD_74_6 : pmT_74_6.all (fun e => pmDec prog_5_method_7_code e.1 e.2) = true := by decide +kernel
theorem pmD_74_7 : pmT_74_7.all (fun e => pmDec prog_5_method_7_code e.1 e.2) = true := by decide +kernel
theorem pmD_74_8 : pmT_74_8.all (fun e => pmDec prog_5_method_7_code e.1 e.2) = true := by decide +kernel
theorem pmD_74_9 : pmT_74_9.all (fun e => pmDec prog_5_method_7_code e.1 e.2) = true := by decide +kernel
theorem pmD_74_10 : pmT_74_10.all (fun e => pmDec prog_5_method_7_code e.1 e.2) = true := by decide +kernel
theorem pmD_74_11 : pmT_74_11.all (fun e => pmDec prog_5_method_7_code e.1 e.2) = true := by decide +kernel
theorem pmD_74_12 : pmT_74_12.all (fun e => pmDec prog_5_method_7_code e.1 e.2) = true := by decide +kernel
theorem pmD_74_13 : pmT_74_13.all (fun e => pmDec prog_5_method_7_code e.1 e.2) = true := by decide +kernel
theorem pmD_74_14 : pmT_74_14.all (fun e => pmDec prog_5_method_7_code e.1 e.2) = true := by decide +kernel
theorem pmD_74_15 : pmT_74_15.all (fun e => pmDec prog_5_method_7_code e.1 e.2) = true := by decide +kernel
theorem pmD_74_16 : pmT_74_16.all (fun e => pmDec prog_5_method_7_code e.1 e.2) = true := by decide +kernel
theorem pmD_74_17 : pmT_74_17.all (fun e => pmDec prog_5_method_7_code e.1 e.2) = true := by decide +kernel
theorem pmD_74_18 : pmT_74_18.all (fun e => pmDec prog_5_method_7_code e.1 e.2) = true := by decide +kernel
theorem pmD_74 : pmDc (pmI_74, pmT_74) := List.forall_mem_cons.mpr ⟨pmD_74_0, List.forall_mem_cons.mpr ⟨pmD_74_1, List.forall_mem_cons.mpr ⟨pmD_74_2, List.forall_mem_cons.mpr ⟨pmD_74_3, List.forall_mem_cons.mpr ⟨pmD_74_4, List.forall_mem_cons.mpr ⟨pmD_74_5, List.forall_mem_cons.mpr ⟨pmD_74_6, List.forall_mem_cons.mpr ⟨pmD_74_7, List.forall_mem_cons.mpr ⟨pmD_74_8, List.forall_mem_cons.mpr ⟨pmD_74_9, List.forall_mem_cons.mpr ⟨pmD_74_10, List.forall_mem_cons.mpr ⟨pmD_74_11, List.forall_mem_cons.mpr ⟨pmD_74_12, List.forall_mem_cons.mpr ⟨pmD_74_13, List.forall_mem_cons.mpr ⟨pmD_74_14, List.forall_mem_cons.mpr ⟨pmD_74_15, List.forall_mem_cons.mpr ⟨pmD_74_16, List.forall_mem_cons.mpr ⟨pmD_74_17, List.forall_mem_cons.mpr ⟨pmD_74_18, fun _ h => absurd h List.not_mem_nil⟩⟩⟩⟩⟩⟩⟩⟩⟩⟩⟩⟩⟩⟩⟩⟩⟩⟩⟩
theorem pmD_75_0 : pmT_75_0.all (fun e => pmDec prog_5_method_8_code e.1 e.2) = true := by decide +kernel
theorem pmD_75_1 : pmT_75_1.all (fun e => pmDec prog_5_method_8_code e.1 e.2) = true := by decide +kernel
theorem pmD_75_2 : pmT_75_2.all (fun e => pmDec prog_5_method_8_code e.1 e.2) = true := by decide +kernel
theorem pmD_75_3 : pmT_75_3.all (fun e => pmDec prog_5_method_8_code e.1 e.2) = true := by decide +kernel
theorem pmD_75_4 : pmT_75_4.all (fun e => pmDec prog_5_method_8_code e.1 e.2) = true := by decide +kernel
theorem pmD_75_5 : pmT_75_5.all (fun e => pmDec prog_5_method_8_code e.1 e.2) = true := by decide +kernel
theorem pmD_75_6 : pmT_75_6.all (fun e => pmDec prog_5_method_8_code e.1 e.2) = true := by decide +kernel
theorem pmD_75_7 : pmT_75_7.all (fun e => pmDec prog_5_method_8_code e.1 e.2) = true := by decide +kernel
theorem pmD_75_8 : pmT_75_8.all (fun e => pmDec prog_5_method_8_code e.1 e.2) = true := by decide +kernel
theorem pmD_75 : pmDc (pmI_75, pmT_75) := List.forall_mem_cons.mpr ⟨pmD_75_0, List.forall_mem_cons.mpr ⟨pmD_75_1, List.forall_mem_cons.mpr ⟨pmD_75_2, List.forall_mem_cons.mpr ⟨pmD_75_3, List.forall_mem_cons.mpr ⟨pmD_75_4, List.forall_mem_cons.mpr ⟨pmD_75_5, List.forall_mem_cons.mpr ⟨pmD_75_6, List.forall_mem_cons.mpr ⟨pmD_75_7, List.forall_mem_cons.mpr ⟨pmD_75_8, fun _ h => absurd h List.not_mem_nil⟩⟩⟩⟩⟩⟩⟩⟩⟩
theorem pmD_76_0 : pmT_76_0.all (fun e => pmDec prog_1_method_14_code e.1 e.2) = true := by decide +kernel
theorem pmD_76_1 : pmT_76_1.all (fun e => pmDec prog_1_method_14_code e.1 e.2) = true := by decide +kernel
theorem pmD_76 : pmDc (pmI_76, pmT_76) := List.forall_mem_cons.mpr ⟨pmD_76_0, List.forall_mem_cons.mpr ⟨pmD_76_1, fun _ h => absurd h List.not_mem_nil⟩⟩
theorem pmD_77_0 : pmT_77_0.all (fun e => pmDec prog_5_method_4_code e.1 e.2) = true := by decide +kernel
theorem pmD_77_1 : pmT_77_1.all (fun e => pmDec prog_5_method_4_code e.1 e.2) = true := by decide +kernel
theorem pmD_77_2 : pmT_77_2.all (fun e => pmDec prog_5_method_4_code e.1 e.2) = true := by decide +kernel
theorem pmD_77_3 : pmT_77_3.all (fun e => pmDec prog_5_method_4_code e.1 e.2) = true := by decide +kernel
theorem pmD_77_4 : pmT_77_4.all (fun e => pmDec prog_5_method_4_code e.1 e.2) = true := by decide +kernel
theorem pmD_77_5 : pmT_77_5.all (fun e => pmDec prog_5_method_4_code e.1 e.2) = true := by decide +kernel
theorem pmD_77 : pmDc (pmI_77, pmT_77) := List.forall_mem_cons.mpr ⟨pmD_77_0, List.forall_mem_cons.mpr ⟨pmD_77_1, List.forall_mem_cons.mpr ⟨pmD_77_2, List.forall_mem_cons.mpr ⟨pmD_77_3, List.forall_mem_cons.mpr ⟨pmD_77_4, List.forall_mem_cons.mpr ⟨pmD_77_5, fun _ h => absurd h List.not_mem_nil⟩⟩⟩⟩⟩⟩
theorem pmD_78_0 : pmT_78_0.all (fun e => pmDec prog_7_method_3_code e.1 e.2) = true := by decide +kernel
theorem pmD_78_1 : pmT_78_1.all (fun e => pmDec prog_7_method_3_code e.1 e.2) = true := by decide +kernel
theorem pmD_78 : pmDc (pmI_78, pmT_78) := List.forall_mem_cons.mpr ⟨pmD_78_0, List.forall_mem_cons.mpr ⟨pmD_78_1, fun _ h => absurd h List.not_mem_nil⟩⟩
theorem pmD_79_0 : pmT_79_0.all (fun e => pmDec prog_5_method_5_code e.1 e.2) = true := by decide +kernel
theorem pmD_79_1 : pmT_79_1.all (fun e => pmDec prog_5_method_5_code e.1 e.2) = true := by decide +kernel
theorem pmD_79_2 : pmT_79_2.all (fun e => pmDec prog_5_method_5_code e.1 e.2) = true := by decide +kernel
theorem pmD_79_3 : pmT_79_3.all (fun e => pmDec prog_5_method_5_code e.1 e.2) = true := by decide +kernel
theorem pmD_79_4 : pmT_79_4.all (fun e => pmDec prog_5_method_5_code e.1 e.2) = true := by decide +kernel
theorem pmD_79_5 : pmT_79_5.all (fun e => pmDec prog_5_method_5_code e.1 e.2) = true := by decide +kernel
theorem pmD_79_6 : pmT_79_6.all (fun e => pmDec prog_5_method_5_code e.1 e.2) = true := by decide +kernel
theorem pmD_79_7 : pmT_79_7.all (fun e => pmDec prog_5_method_5_code e.1 e.2) = true := by decide +kernel
theorem pmD_79 : pmDc (pmI_79, pmT_79) := List.forall_mem_cons.mpr ⟨pmD_79_0, List.forall_mem_cons.mpr ⟨pmD_79_1, List.forall_mem_cons.mpr ⟨pmD_79_2, List.forall_mem_cons.mpr ⟨pmD_79_3, List.forall_mem_cons.mpr ⟨pmD_79_4, List.forall_mem_cons.mpr ⟨pmD_79_5, List.forall_mem_cons.mpr ⟨pmD_79_6, List.forall_mem_cons.mpr ⟨pmD_79_7, fun _ h => absurd h List.not_mem_nil⟩⟩⟩⟩⟩⟩⟩⟩
theorem pmD_80_0 : pmT_80_0.all (fun e => pmDec prog_7_method_8_code e.1 e.2) = true := by decide +kernel
theorem pmD_80_1 : pmT_80_1.all (fun e => pmDec prog_7_method_8_code e.1 e.2) = true := by decide +kernel
theorem pmD_80_2 : pmT_80_2.all (fun e => pmDec prog_7_method_8_code e.1 e.2) = true := by decide +kernel
theorem pmD_80_3 : pmT_80_3.all (fun e => pmDec prog_7_method_8_code e.1 e.2) = true := by decide +kernel
theorem pmD_80_4 : pmT_80_4.all (fun e => pmDec prog_7_method_8_code e.1 e.2) = true := by decide +kernel
theorem pmD_80_5 : pmT_80_5.all (fun e => pmDec prog_7_method_8_code e.1 e.2) = true := by decide +kernel
theorem pmD_80_6 : pmT_80_6.all (fun e => pmDec prog_7_method_8_code e.1 e.2) = true := by decide +kernel
theorem pmD_80_7 : pmT_80_7.all (fun e => pmDec prog_7_method_8_code e.1 e.2) = true := by decide +kernel
theorem pmD_80_8 : pmT_80_8.all (fun e => pmDec prog_7_method_8_code e.1 e.2) = true := by decide +kernel
theorem pmD_80_9 : pmT_80_9.all (fun e => pmDec prog_7_method_8_code e.1 e.2) = true := by decide +kernel
theorem pmD_80 : pmDc (pmI_80, pmT_80) := List.forall_mem_cons.mpr ⟨pmD_80_0, List.forall_mem_cons.mpr ⟨pmD_80_1, List.forall_mem_cons.mpr ⟨pmD_80_2, List.forall_mem_cons.mpr ⟨pmD_80_3, List.forall_mem_cons.mpr ⟨pmD_80_4, List.forall_mem_cons.mpr ⟨pmD_80_5, List.forall_mem_cons.mpr ⟨pmD_80_6, List.forall_mem_cons.mpr ⟨pmD_80_7, List.forall_mem_cons.mpr ⟨pmD_80_8, List.forall_mem_cons.mpr ⟨pmD_80_9, fun _ h => absurd h List.not_mem_nil⟩⟩⟩⟩⟩⟩⟩⟩⟩⟩
theorem pmD_81_0 : pmT_81_0.all (fun e => pmDec prog_7_method_9_code e.1 e.2) = true := by decide +kernel
theorem pmD_81_1 : pmT_81_1.all (fun e => pmDec prog_7_method_9_code e.1 e.2) = true := by decide +kernel
theorem pmD_81_2 : pmT_81_2.all (fun e => pmDec prog_7_method_9_code e.1 e.2) = true := by decide +kernel
theorem pmD_81_3 : pmT_81_3.all (fun e => pmDec prog_7_method_9_code e.1 e.2) = true := by decide +kernel
theorem pmD_81_4 : pmT_81_4.all (fun e => pmDec prog_7_method_9_code e.1 e.2) = true := by decide +kernel
theorem pmD_81_5 : pmT_81_5.all (fun e => pmDec prog_7_method_9_code e.1 e.2) = true := by decide +kernel
theorem pmD_81_6 : pmT_81_6.all (fun e => pmDec prog_7_method_9_code e.1 e.2) = true := by decide +kernel
theorem pmD_81_7 : pmT_81_7.all (fun e => pmDec prog_7_method_9_code e.1 e.2) = true := by decide +kernel
theorem pmD_81 : pmDc (pmI_81, pmT_81) := List.forall_mem_cons.mpr ⟨pmD_81_0, List.forall_mem_cons.mpr ⟨pmD_81_1, List.forall_mem_cons.mpr ⟨pmD_81_2, List.forall_mem_cons.mpr ⟨pmD_81_3, List.forall_mem_cons.mpr ⟨pmD_81_4, List.forall_mem_cons.mpr ⟨pmD_81_5, List.forall_mem_cons.mpr ⟨pmD_81_6, List.forall_mem_cons.mpr ⟨pmD_81_7, fun _ h => absurd h List.not_mem_nil⟩⟩⟩⟩⟩⟩⟩⟩
theorem pmD_82_0 : pmT_82_0.all (fun e => pmDec prog_1_method_37_code e.1 e.2) = true := by decide +kernel
theorem pmD_82_1 : pmT_82_1.all (fun e => pmDec prog_1_method_37_code e.1 e.2) = true := by decide +kernel
theorem pmD_82_2 : pmT_82_2.all (fun e => pmDec prog_1_method_37_code e.1 e.2) = true := by decide +kernel
theorem pmD_82 : pmDc (pmI_82, pmT_82) := List.forall_mem_cons.mpr ⟨pmD_82_0, List.forall_mem_cons.mpr ⟨pmD_82_1, List.forall_mem_cons.mpr ⟨pmD_82_2, fun _ h => absurd h List.not_mem_nil⟩⟩⟩
theorem pmD_83_0 : pmT_83_0.all (fun e => pmDec prog_1_method_48_code e.1 e.2) = true := by decide +kernel
theorem pmD_83_1 : pmT_83_1.all (fun e => pmDec prog_1_method_48_code e.1 e.2) = true := by decide +kernel
theorem pmD_83 : pmDc (pmI_83, pmT_83) := List.forall_mem_cons.mpr ⟨pmD_83_0, List.forall_mem_cons.mpr ⟨pmD_83_1, fun _ h => absurd h List.not_mem_nil⟩⟩
theorem pmD_84_0 : pmT_84_0.all (fun e => pmDec prog_1_method_15_code e.1 e.2) = true := by decide +kernel
theorem pmD_84_1 : pmT_84_1.all (fun e => pmDec prog_1_method_15_code e.1 e.2) = true := by decide +kernel
theorem pmD_84 : pmDc (pmI_84, pmT_84) := List.forall_mem_cons.mpr ⟨pmD_84_0, List.forall_mem_cons.mpr ⟨pmD_84_1, fun _ h => absurd h List.not_mem_nil⟩⟩
theorem pmD_85_0 : pmT_85_0.all (fun e => pmDec prog_5_method_2_code e.1 e.2) = true := by decide +kernel
theorem pmD_85_1 : pmT_85_1.all (fun e => pmDec prog_5_method_2_code e.1 e.2) = true := by decide +kernel
theorem pmD_85_2 : pmT_85_2.all (fun e => pmDec prog_5_method_2_code e.1 e.2) = true := by decide +kernel
theorem pmD_85 : pmDc (pmI_85, pmT_85) := List.forall_mem_cons.mpr ⟨pmD_85_0, List.forall_mem_cons.mpr ⟨pmD_85_1, List.forall_mem_cons.mpr ⟨pmD_85_2, fun _ h => absurd h List.not_mem_nil⟩⟩⟩
theorem pmD_86_0 : pmT_86_0.all (fun e => pmDec prog_1_method_49_code e.1 e.2) = true := by decide +kernel
theorem pmD_86 : pmDc (pmI_86, pmT_86) := List.forall_mem_cons.mpr ⟨pmD_86_0, fun _ h => absurd h List.not_mem_nil⟩
theorem pmD_87_0 : pmT_87_0.all (fun e => pmDec prog_1_method_16_code e.1 e.2) = true := by decide +kernel
theorem pmD_87_1 : pmT_87_1.all (fun e => pmDec prog_1_method_16_code e.1 e.2) = true := by decide +kernel
theorem pmD_87_2 : pmT_87_2.all (fun e => pmDec prog_1_method_16_code e.1 e.2) = true := by decide +kernel
theorem pmD_87 : pmDc (pmI_87, pmT_87) := List.forall_mem_cons.mpr ⟨pmD_87_0, List.forall_mem_cons.mpr ⟨pmD_87_1, List.forall_mem_cons.mpr ⟨pmD_87_2, fun _ h => absurd h List.not_mem_nil⟩⟩⟩
theorem pmD_88_0 : pmT_88_0.all (fun e => pmDec prog_1_method_47_code e.1 e.2) = true := by decide +kernel
theorem pmD_88_1 : pmT_88_1.all (fun e => pmDec prog_1_method_47_code e.1 e.2) = true := by decide +kernel
theorem pmD_88_2 : pmT_88_2.all (fun e => pmDec prog_1_method_47_code e.1 e.2) = true := by decide +kernel
theorem pmD_88_3 : pmT_88_3.all (fun e => pmDec prog_1_method_47_code e.1 e.2) = true := by decide +kernel
theorem pmD_88 : pmDc (pmI_88, pmT_88) := List.forall_mem_cons.mpr ⟨pmD_88_0, List.forall_mem_cons.mpr ⟨pmD_88_1, List.forall_mem_cons.mpr ⟨pmD_88_2, List.forall_mem_cons.mpr ⟨pmD_88_3, fun _ h => absurd h List.not_mem_nil⟩⟩⟩⟩
theorem pmD_89_0 : pmT_89_0.all (fun e => pmDec prog_6_method_2_code e.1 e.2) = true := by decide +kernel
theorem pmD_89 : pmDc (pmI_89, pmT_89) := List.forall_mem_cons.mpr ⟨pmD_89_0, fun _ h => absurd h List.not_mem_nil⟩
theorem pmD_90_0 : pmT_90_0.all (fun e => pmDec prog_6_method_3_code e.1 e.2) = true := by decide +kernel
theorem pmD_90_1 : pmT_90_1.all (fun e => pmDec prog_6_method_3_code e.1 e.2) = true := by decide +kernel
theorem pmD_90 : pmDc (pmI_90, pmT_90) := List.forall_mem_cons.mpr ⟨pmD_90_0, List.forall_mem_cons.mpr ⟨pmD_90_1, fun _ h => absurd h List.not_mem_nil⟩⟩
theorem pmD_91_0 : pmT_91_0.all (fun e => pmDec prog_6_method_5_code e.1 e.2) = true := by decide +kernel
theorem pmD_91_1 : pmT_91_1.all (fun e => pmDec prog_6_method_5_code e.1 e.2) = true := by decide +kernel
theorem pmD_91_2 : pmT_91_2.all (fun e => pmDec prog_6_method_5_code e.1 e.2) = true := by decide +kernel
theorem pmD_91_3 : pmT_91_3.all (fun e => pmDec prog_6_method_5_code e.1 e.2) = true := by decide +kernel
theorem pmD_91_4 : pmT_91_4.all (fun e => pmDec prog_6_method_5_code e.1 e.2) = true := by decide +kernel
theorem pmD_91_5 : pmT_91_5.all (fun e => pmDec prog_6_method_5_code e.1 e.2) = true := by decide +kernel
theorem pmD_91_6 : pmT_91_6.all (fun e => pmDec prog_6_method_5_code e.1 e.2) = true := by decide +kernel
theorem pmD_91 : pmDc (pmI_91, pmT_91) := List.forall_mem_cons.mpr ⟨pmD_91_0, List.forall_mem_cons.mpr ⟨pmD_91_1, List.forall_mem_cons.mpr ⟨pmD_91_2, List.forall_mem_cons.mpr ⟨pmD_91_3, List.forall_mem_cons.mpr ⟨pmD_91_4, List.forall_mem_cons.mpr ⟨pmD_91_5, List.forall_mem_cons.mpr ⟨pmD_91_6, fun _ h => absurd h List.not_mem_nil⟩⟩⟩⟩⟩⟩⟩
theorem pmD_92_0 : pmT_92_0.all (fun e => pmDec prog_6_method_6_code e.1 e.2) = true := by decide +kernel
theorem pmD_92_1 : pmT_92_1.all (fun e => pmDec prog_6_method_6_code e.1 e.2) = true := by decide +kernel
theorem pmD_92 : pmDc (pmI_92, pmT_92) := List.forall_mem_cons.mpr ⟨pmD_92_0, List.forall_mem_cons.mpr ⟨pmD_92_1, fun _ h => absurd h List.not_mem_nil⟩⟩
theorem pmD_93_0 : pmT_93_0.all (fun e => pmDec prog_4_method_4_code e.1 e.2) = true := by decide +kernel
theorem pmD_93_1 : pmT_93_1.all (fun e => pmDec prog_4_method_4_code e.1 e.2) = true := by decide +kernel
theorem pmD_93 : pmDc (pmI_93, pmT_93) := List.forall_mem_cons.mpr ⟨pmD_93_0, List.forall_mem_cons.mpr ⟨pmD_93_1, fun _ h => absurd h List.not_mem_nil⟩⟩
theorem pmD_94_0 : pmT_94_0.all (fun e => pmDec prog_4_method_5_code e.1 e.2) = true := by decide +kernel
theorem pmD_94_1 : pmT_94_1.all (fun e => pmDec prog_4_method_5_code e.1 e.2) = true := by decide +kernel
theorem pmD_94 : pmDc (pmI_94, pmT_94) := List.forall_mem_cons.mpr ⟨pmD_94_0, List.forall_mem_cons.mpr ⟨pmD_94_1, fun _ h => absurd h List.not_mem_nil⟩⟩
theorem pmD_95_0 : pmT_95_0.all (fun e => pmDec prog_4_method_6_code e.1 e.2) = true := by decide +kernel
theorem pmD_95_1 : pmT_95_1.all (fun e => pmDec prog_4_method_6_code e.1 e.2) = true := by decide +kernel
theorem pmD_95_2 : pmT_95_2.all (fun e => pmDec prog_4_method_6_code e.1 e.2) = true := by decide +kernel
theorem pmD_95_3 : pmT_95_3.all (fun e => pmDec prog_4_method_6_code e.1 e.2) = true := by decide +kernel
theorem pmD_95_4 : pmT_95_4.all (fun e => pmDec prog_4_method_6_code e.1 e.2) = true := by decide +kernel
theorem pmD_95_5 : pmT_95_5.all (fun e => pmDec prog_4_method_6_code e.1 e.2) = true := by decide +kernel
theorem pmD_95_6 : pmT_95_6.all (fun e => pmDec prog_4_method_6_code e.1 e.2) = true := by decide +kernel
theorem pmD_95 : pmDc (pmI_95, pmT_95) := List.forall_mem_cons.mpr ⟨pmD_95_0, List.forall_mem_cons.mpr ⟨pmD_95_1, List.forall_mem_cons.mpr ⟨pmD_95_2, List.forall_mem_cons.mpr ⟨pmD_95_3, List.forall_mem_cons.mpr ⟨pmD_95_4, List.forall_mem_cons.mpr ⟨pmD_95_5, List.forall_mem_cons.mpr ⟨pmD_95_6, fun _ h => absurd h List.not_mem_nil⟩⟩⟩⟩⟩⟩⟩
theorem pmD_96_0 : pmT_96_0.all (fun e => pmDec prog_4_method_8_code e.1 e.2) = true := by decide +kernel
theorem pmD_96 : pmDc (pmI_96, pmT_96) := List.forall_mem_cons.mpr ⟨pmD_96_0, fun _ h => absurd h List.not_mem_nil⟩
theorem pmD_97_0 : pmT_97_0.all (fun e => pmDec prog_6_method_4_code e.1 e.2) = true := by decide +kernel
theorem pmD_97_1 : pmT_97_1.all (fun e => pmDec prog_6_method_4_code e.1 e.2) = true := by decide +kernel
theorem pmD_97_2 : pmT_97_2.all (fun e => pmDec prog_6_method_4_code e.1 e.2) = true := by decide +kernel
theorem pmD_97 : pmDc (pmI_97, pmT_97) := List.forall_mem_cons.mpr ⟨pmD_97_0, List.forall_mem_cons.mpr ⟨pmD_97_1, List.forall_mem_cons.mpr ⟨pmD_97_2, fun _ h => absurd h List.not_mem_nil⟩⟩⟩
theorem pmD_98_0 : pmT_98_0.all (fun e => pmDec prog_4_method_7_code e.1 e.2) = true := by decide +kernel
theorem pmD_98_1 : pmT_98_1.all (fun e => pmDec prog_4_method_7_code e.1 e.2) = true := by decide +kernel
theorem pmD_98_2 : pmT_98_2.all (fun e => pmDec prog_4_method_7_code e.1 e.2) = true := by decide +kernel
theorem pmD_98_3 : pmT_98_3.all (fun e => pmDec prog_4_method_7_code e.1 e.2) = true := by decide +kernel
theorem pmD_98_4 : pmT_98_4.all (fun e => pmDec prog_4_method_7_code e.1 e.2) = true := by decide +kernel
theorem pmD_98 : pmDc (pmI_98, pmT_98) := List.forall_mem_cons.mpr ⟨pmD_98_0, List.forall_mem_cons.mpr ⟨pmD_98_1, List.forall_mem_cons.mpr ⟨pmD_98_2, List.forall_mem_cons.mpr ⟨pmD_98_3, List.forall_mem_cons.mpr ⟨pmD_98_4, fun _ h => absurd h List.not_mem_nil⟩⟩⟩⟩⟩
theorem pmD_99_0 : pmT_99_0.all (fun e => pmDec prog_2_method_3_code e.1 e.2) = true := by decide +kernel
theorem pmD_99_1 : pmT_99_1.all (fun e => pmDec prog_2_method_3_code e.1 e.2) = true := by decide +kernel
theorem pmD_99 : pmDc (pmI_99, pmT_99) := List.forall_mem_cons.mpr ⟨pmD_99_0, List.forall_mem_cons.mpr ⟨pmD_99_1, fun _ h => absurd h List.not_mem_nil⟩⟩
theorem pmD_100_0 : pmT_100_0.all (fun e => pmDec prog_1_method_17_code e.1 e.2) = true := by decide +kernel
theorem pmD_100 : pmDc (pmI_100, pmT_100) := List.forall_mem_cons.mpr ⟨pmD_100_0, fun _ h => absurd h List.not_mem_nil⟩
theorem pmD_101_0 : pmT_101_0.all (fun e => pmDec prog_1_method_34_code e.1 e.2) = true := by decide +kernel
theorem pmD_101_1 : pmT_101_1.all (fun e => pmDec prog_1_method_34_code e.1 e.2) = true := by decide +kernel
theorem pmD_101 : pmDc (pmI_101, pmT_101) := List.forall_mem_cons.mpr ⟨pmD_101_0, List.forall_mem_cons.mpr ⟨pmD_101_1, fun _ h => absurd h List.not_mem_nil⟩⟩
theorem pmD_102_0 : pmT_102_0.all (fun e => pmDec prog_9_method_2_code e.1 e.2) = true := by decide +kernel
theorem pmD_102_1 : pmT_102_1.all (fun e => pmDec prog_9_method_2_code e.1 e.2) = true := by decide +kernel
theorem pmD_102_2 : pmT_102_2.all (fun e => pmDec prog_9_method_2_code e.1 e.2) = true := by decide +kernel
theorem pmD_102_3 : pmT_102_3.all (fun e => pmDec prog_9_method_2_code e.1 e.2) = true := by decide +kernel
theorem pmD_102_4 : pmT_102_4.all (fun e => pmDec prog_9_method_2_code e.1 e.2) = true := by decide +kernel
theorem pmD_102_5 : pmT_102_5.all (fun e => pmDec prog_9_method_2_code e.1 e.2) = true := by decide +kernel
theorem pmD_102_6 : pmT_102_6.all (fun e => pmDec prog_9_method_2_code e.1 e.2) = true := by decide +kernel
theorem pmD_102 : pmDc (pmI_102, pmT_102) := List.forall_mem_cons.mpr ⟨pmD_102_0, List.forall_mem_cons.mpr ⟨pmD_102_1, List.forall_mem_cons.mpr ⟨pmD_102_2, List.forall_mem_cons.mpr ⟨pmD_102_3, List.forall_mem_cons.mpr ⟨pmD_102_4, List.forall_mem_cons.mpr ⟨pmD_102_5, List.forall_mem_cons.mpr ⟨pmD_102_6, fun _ h => absurd h List.not_mem_nil⟩⟩⟩⟩⟩⟩⟩
theorem pmD_103_0 : pmT_103_0.all (fun e => pmDec prog_9_method_3_code e.1 e.2) = true := by decide +kernel
theorem pmD_103_1 : pmT_103_1.all (fun e => pmDec prog_9_method_3_code e.1 e.2) = true := by decide +kernel
theorem pmD_103 : pmDc (pmI_103, pmT_103) := List.forall_mem_cons.mpr ⟨pmD_103_0, List.forall_mem_cons.mpr ⟨pmD_103_1, fun _ h => absurd h List.not_mem_nil⟩⟩
theorem pmD_104_0 : pmT_104_0.all (fun e => pmDec prog_9_method_4_code e.1 e.2) = true := by decide +kernel
theorem pmD_104_1 : pmT_104_1.all (fun e => pmDec prog_9_method_4_code e.1 e.2) = true := by decide +kernel
theorem pmD_104_2 : pmT_104_2.all (fun e => pmDec prog_9_method_4_code e.1 e.2) = true := by decide +kernel
theorem pmD_104_3 : pmT_104_3.all (fun e => pmDec prog_9_method_4_code e.1 e.2) = true := by decide +kernel
theorem pmD_104 : pmDc (pmI_104, pmT_104) := List.forall_mem_cons.mpr ⟨pmD_104_0, List.forall_mem_cons.mpr ⟨pmD_104_1, List.forall_mem_cons.mpr ⟨pmD_104_2, List.forall_mem_cons.mpr ⟨pmD_104_3, fun _ h => absurd h List.not_mem_nil⟩⟩⟩⟩
theorem pmD_105_0 : pmT_105_0.all (fun e => pmDec prog_2_method_4_code e.1 e.2) = true := by decide +kernel
theorem pmD_105 : pmDc (pmI_105, pmT_105) := List.forall_mem_cons.mpr ⟨pmD_105_0, fun _ h => absurd h List.not_mem_nil⟩
theorem pmD_106_0 : pmT_106_0.all (fun e => pmDec prog_1_method_18_code e.1 e.2) = true := by decide +kernel
theorem pmD_106 : pmDc (pmI_106, pmT_106) := List.forall_mem_cons.mpr ⟨pmD_106_0, fun _ h => absurd h List.not_mem_nil⟩
theorem pmD_107_0 : pmT_107_0.all (fun e => pmDec prog_1_method_19_code e.1 e.2) = true := by decide +kernel
theorem pmD_107 : pmDc (pmI_107, pmT_107) := List.forall_mem_cons.mpr ⟨pmD_107_0, fun _ h => absurd h List.not_mem_nil⟩
theorem pmD_108_0 : pmT_108_0.all (fun e => pmDec prog_4_method_3_code e.1 e.2) = true := by decide +kernel
theorem pmD_108_1 : pmT_108_1.all (fun e => pmDec prog_4_method_3_code e.1 e.2) = true := by decide +kernel
theorem pmD_108_2 : pmT_108_2.all (fun e => pmDec prog_4_method_3_code e.1 e.2) = true := by decide +kernel
theorem pmD_108 : pmDc (pmI_108, pmT_108) := List.forall_mem_cons.mpr ⟨pmD_108_0, List.forall_mem_cons.mpr ⟨pmD_108_1, List.forall_mem_cons.mpr ⟨pmD_108_2, fun _ h => absurd h List.not_mem_nil⟩⟩⟩
theorem pmD_109_0 : pmT_109_0.all (fun e => pmDec prog_1_method_20_code e.1 e.2) = true := by decide +kernel
theorem pmD_109_1 : pmT_109_1.all (fun e => pmDec prog_1_method_20_code e.1 e.2) = true := by decide +kernel
theorem pmD_109 : pmDc (pmI_109, pmT_109) := List.forall_mem_cons.mpr ⟨pmD_109_0, List.forall_mem_cons.mpr ⟨pmD_109_1, fun _ h => absurd h List.not_mem_nil⟩⟩
theorem pmD_110_0 : pmT_110_0.all (fun e => pmDec prog_1_method_21_code e.1 e.2) = true := by decide +kernel
theorem pmD_110_1 : pmT_110_1.all (fun e => pmDec prog_1_method_21_code e.1 e.2) = true := by decide +kernel
theorem pmD_110 : pmDc (pmI_110, pmT_110) := List.forall_mem_cons.mpr ⟨pmD_110_0, List.forall_mem_cons.mpr ⟨pmD_110_1, fun _ h => absurd h List.not_mem_nil⟩⟩
theorem pmD_111_0 : pmT_111_0.all (fun e => pmDec prog_9_method_5_code e.1 e.2) = true := by decide +kernel
theorem pmD_111_1 : pmT_111_1.all (fun e => pmDec prog_9_method_5_code e.1 e.2) = true := by decide +kernel
theorem pmD_111_2 : pmT_111_2.all (fun e => pmDec prog_9_method_5_code e.1 e.2) = true := by decide +kernel
theorem pmD_111_3 : pmT_111_3.all (fun e => pmDec prog_9_method_5_code e.1 e.2) = true := by decide +kernel
theorem pmD_111_4 : pmT_111_4.all (fun e => pmDec prog_9_method_5_code e.1 e.2) = true := by decide +kernel
theorem pmD_111_5 : pmT_111_5.all (fun e => pmDec prog_9_method_5_code e.1 e.2) = true := by decide +kernel
theorem pmD_111_6 : pmT_111_6.all (fun e => pmDec prog_9_method_5_code e.1 e.2) = true := by decide +kernel
theorem pmD_111 : pmDc (pmI_111, pmT_111) := List.forall_mem_cons.mpr ⟨pmD_111_0, List.forall_mem_cons.mpr ⟨pmD_111_1, List.forall_mem_cons.mpr ⟨pmD_111_2, List.forall_mem_cons.mpr ⟨pmD_111_3, List.forall_mem_cons.mpr ⟨pmD_111_4, List.forall_mem_cons.mpr ⟨pmD_111_5, List.forall_mem_cons.mpr ⟨pmD_111_6, fun _ h => absurd h List.not_mem_nil⟩⟩⟩⟩⟩⟩⟩
theorem pmD_112_0 : pmT_112_0.all (fun e => pmDec prog_9_method_6_code e.1 e.2) = true := by decide +kernel
theorem pmD_112_1 : pmT_112_1.all (fun e => pmDec prog_9_method_6_code e.1 e.2) = true := by decide +kernel
theorem pmD_112_2 : pmT_112_2.all (fun e => pmDec prog_9_method_6_code e.1 e.2) = true := by decide +kernel
theorem pmD_112_3 : pmT_112_3.all (fun e => pmDec prog_9_method_6_code e.1 e.2) = true := by decide +kernel
theorem pmD_112_4 : pmT_112_4.all (fun e => pmDec prog_9_method_6_code e.1 e.2) = true := by decide +kernel
theorem pmD_112 : pmDc (pmI_112, pmT_112) := List.forall_mem_cons.mpr ⟨pmD_112_0, List.forall_mem_cons.mpr ⟨pmD_112_1, List.forall_mem_cons.mpr ⟨pmD_112_2, List.forall_mem_cons.mpr ⟨pmD_112_3, List.forall_mem_cons.mpr ⟨pmD_112_4, fun _ h => absurd h List.not_mem_nil⟩⟩⟩⟩⟩
theorem pmD_113_0 : pmT_113_0.all (fun e => pmDec prog_12_method_4_code e.1 e.2) = true := by decide +kernel
theorem pmD_113_1 : pmT_113_1.all (fun e => pmDec prog_12_method_4_code e.1 e.2) = true := by decide +kernel
theorem pmD_113_2 : pmT_113_2.all (fun e => pmDec prog_12_method_4_code e.1 e.2) = true := by decide +kernel
theorem pmD_113_3 : pmT_113_3.all (fun e => pmDec prog_12_method_4_code e.1 e.2) = true := by decide +kernel
theorem pmD_113 : pmDc (pmI_113, pmT_113) := List.forall_mem_cons.mpr ⟨pmD_113_0, List.forall_mem_cons.mpr ⟨pmD_113_1, List.forall_mem_cons.mpr ⟨pmD_113_2, List.forall_mem_cons.mpr ⟨pmD_113_3, fun _ h => absurd h List.not_mem_nil⟩⟩⟩⟩
theorem pmD_114_0 : pmT_114_0.all (fun e => pmDec prog_1_method_22_code e.1 e.2) = true := by decide +kernel
theorem pmD_114_1 : pmT_114_1.all (fun e => pmDec prog_1_method_22_code e.1 e.2) = true := by decide +kernel
theorem pmD_114 : pmDc (pmI_114, pmT_114) := List.forall_mem_cons.mpr ⟨pmD_114_0, List.forall_mem_cons.mpr ⟨pmD_114_1, fun _ h => absurd h List.not_mem_nil⟩⟩
theorem pmD_115_0 : pmT_115_0.all (fun e => pmDec prog_1_method_23_code e.1 e.2) = true := by decide +kernel
theorem pmD_115_1 : pmT_115_1.all (fun e => pmDec prog_1_method_23_code e.1 e.2) = true := by decide +kernel
theorem pmD_115_2 : pmT_115_2.all (fun e => pmDec prog_1_method_23_code e.1 e.2) = true := by decide +kernel
theorem pmD_115_3 : pmT_115_3.all (fun e => pmDec prog_1_method_23_code e.1 e.2) = true := by decide +kernel
theorem pmD_115 : pmDc (pmI_115, pmT_115) := List.forall_mem_cons.mpr ⟨pmD_115_0, List.forall_mem_cons.mpr ⟨pmD_115_1, List.forall_mem_cons.mpr ⟨pmD_115_2, List.forall_mem_cons.mpr ⟨pmD_115_3, fun _ h => absurd h List.not_mem_nil⟩⟩⟩⟩
theorem pmD_116_0 : pmT_116_0.all (fun e => pmDec prog_1_method_24_code e.1 e.2) = true := by decide +kernel
theorem pmD_116_1 : pmT_116_1.all (fun e => pmDec prog_1_method_24_code e.1 e.2) = true := by decide +kernel
theorem pmD_116 : pmDc (pmI_116, pmT_116) := List.forall_mem_cons.mpr ⟨pmD_116_0, List.forall_mem_cons.mpr ⟨pmD_116_1, fun _ h => absurd h List.not_mem_nil⟩⟩
theorem pmD_117_0 : pmT_117_0.all (fun e => pmDec prog_2_method_6_code e.1 e.2) = true := by decide +kernel
theorem pmD_117_1 : pmT_117_1.all (fun e => pmDec prog_2_method_6_code e.1 e.2) = true := by decide +kernel
theorem pmD_117_2 : pmT_117_2.all (fun e => pmDec prog_2_method_6_code e.1 e.2) = true := by decide +kernel
theorem pmD_117_3 : pmT_117_3.all (fun e => pmDec prog_2_method_6_code e.1 e.2) = true := by decide +kernel
theorem pmD_117_4 : pmT_117_4.all (fun e => pmDec prog_2_method_6_code e.1 e.2) = true := by decide +kernel
theorem pmD_117_5 : pmT_117_5.all (fun e => pmDec prog_2_method_6_code e.1 e.2) = true := by decide +kernel
theorem pmD_117_6 : pmT_117_6.all (fun e => pmDec prog_2_method_6_code e.1 e.2) = true := by decide +kernel
theorem pmD_117 : pmDc (pmI_117, pmT_117) := List.forall_mem_cons.mpr ⟨pmD_117_0, List.forall_mem_cons.mpr ⟨pmD_117_1, List.forall_mem_cons.mpr ⟨pmD_117_2, List.forall_mem_cons.mpr ⟨pmD_117_3, List.forall_mem_cons.mpr ⟨pmD_117_4, List.forall_mem_cons.mpr ⟨pmD_117_5, List.forall_mem_cons.mpr ⟨pmD_117_6, fun _ h => absurd h List.not_mem_nil⟩⟩⟩⟩⟩⟩⟩
theorem pmD_118_0 : pmT_118_0.all (fun e => pmDec prog_2_method_5_code e.1 e.2) = true := by decide +kernel
theorem pmD_118_1 : pmT_118_1.all (fun e => pmDec prog_2_method_5_code e.1 e.2) = true := by decide +kernel
theorem pmD_118 : pmDc (pmI_118, pmT_118) := List.forall_mem_cons.mpr ⟨pmD_118_0, List.forall_mem_cons.mpr ⟨pmD_118_1, fun _ h => absurd h List.not_mem_nil⟩⟩
theorem pmD_119_0 : pmT_119_0.all (fun e => pmDec prog_1_method_25_code e.1 e.2) = true := by decide +kernel
theorem pmD_119_1 : pmT_119_1.all (fun e => pmDec prog_1_method_25_code e.1 e.2) = true := by decide +kernel
theorem pmD_119 : pmDc (pmI_119, pmT_119) := List.forall_mem_cons.mpr ⟨pmD_119_0, List.forall_mem_cons.mpr ⟨pmD_119_1, fun _ h => absurd h List.not_mem_nil⟩⟩
theorem pmD_120_0 : pmT_120_0.all (fun e => pmDec prog_1_method_26_code e.1 e.2) = true := by decide +kernel
theorem pmD_120_1 : pmT_120_1.all (fun e => pmDec prog_1_method_26_code e.1 e.2) = true := by decide +kernel
theorem pmD_120_2 : pmT_120_2.all (fun e => pmDec prog_1_method_26_code e.1 e.2) = true := by decide +kernel
theorem pmD_120_3 : pmT_120_3.all (fun e => pmDec prog_1_method_26_code e.1 e.2) = true := by decide +kernel
theorem pmD_120_4 : pmT_120_4.all (fun e => pmDec prog_1_method_26_code e.1 e.2) = true := by decide +kernel
theorem pmD_120 : pmDc (pmI_120, pmT_120) := List.forall_mem_cons.mpr ⟨pmD_120_0, List.forall_mem_cons.mpr ⟨pmD_120_1, List.forall_mem_cons.mpr ⟨pmD_120_2, List.forall_mem_cons.mpr ⟨pmD_120_3, List.forall_mem_cons.mpr ⟨pmD_120_4, fun _ h => absurd h List.not_mem_nil⟩⟩⟩⟩⟩
theorem pmD_121_0 : pmT_121_0.all (fun e => pmDec prog_6_method_11_code e.1 e.2) = true := by decide +kernel
theorem pmD_121_1 : pmT_121_1.all (fun e => pmDec prog_6_method_11_code e.1 e.2) = true := by decide +kernel
theorem pmD_121_2 : pmT_121_2.all (fun e => pmDec prog_6_method_11_code e.1 e.2) = true := by decide +kernel
theorem pmD_121_3 : pmT_121_3.all (fun e => pmDec prog_6_method_11_code e.1 e.2) = true := by decide +kernel
theorem pmD_121 : pmDc (pmI_121, pmT_121) := List.forall_mem_cons.mpr ⟨pmD_121_0, List.forall_mem_cons.mpr ⟨pmD_121_1, List.forall_mem_cons.mpr ⟨pmD_121_2, List.forall_mem_cons.mpr ⟨pmD_121_3, fun _ h => absurd h List.not_mem_nil⟩⟩⟩⟩
theorem pmD_122_0 : pmT_122_0.all (fun e => pmDec prog_6_method_12_code e.1 e.2) = true := by decide +kernel
theorem pmD_122_1 : pmT_122_1.all (fun e => pmDec prog_6_method_12_code e.1 e.2) = true := by decide +kernel
theorem pmD_122_2 : pmT_122_2.all (fun e => pmDec prog_6_method_12_code e.1 e.2) = true := by decide +kernel
theorem pmD_122_3 : pmT_122_3.all (fun e => pmDec prog_6_method_12_code e.1 e.2) = true := by decide +kernel
theorem pmD_122_4 : pmT_122_4.all (fun e => pmDec prog_6_method_12_code e.1 e.2) = true := by decide +kernel
theorem pmD_122_5 : pmT_122_5.all (fun e => pmDec prog_6_method_12_code e.1 e.2) = true := by decide +kernel
theorem pmD_122 : pmDc (pmI_122, pmT_122) := List.forall_mem_cons.mpr ⟨pmD_122_0, List.forall_mem_cons.mpr ⟨pmD_122_1, List.forall_mem_cons.mpr ⟨pmD_122_2, List.forall_mem_cons.mpr ⟨pmD_122_3, List.forall_mem_cons.mpr ⟨pmD_122_4, List.forall_mem_cons.mpr ⟨pmD_122_5, fun _ h => absurd h List.not_mem_nil⟩⟩⟩⟩⟩⟩
theorem pmD_123_0 : pmT_123_0.all (fun e => pmDec prog_1_method_46_code e.1 e.2) = true := by decide +kernel
theorem pmD_123_1 : pmT_123_1.all (fun e => pmDec prog_1_method_46_code e.1 e.2) = true := by decide +kernel
theorem pmD_123 : pmDc (pmI_123, pmT_123) := List.forall_mem_cons.mpr ⟨pmD_123_0, List.forall_mem_cons.mpr ⟨pmD_123_1, fun _ h => absurd h List.not_mem_nil⟩⟩
theorem pmD_124_0 : pmT_124_0.all (fun e => pmDec prog_1_method_27_code e.1 e.2) = true := by decide +kernel
theorem pmD_124 : pmDc (pmI_124, pmT_124) := List.forall_mem_cons.mpr ⟨pmD_124_0, fun _ h => absurd h List.not_mem_nil⟩
theorem pmD_125_0 : pmT_125_0.all (fun e => pmDec prog_2_method_7_code e.1 e.2) = true := by decide +kernel
theorem pmD_125_1 : pmT_125_1.all (fun e => pmDec prog_2_method_7_code e.1 e.2) = true := by decide +kernel
theorem pmD_125 : pmDc (pmI_125, pmT_125) := List.forall_mem_cons.mpr ⟨pmD_125_0, List.forall_mem_cons.mpr ⟨pmD_125_1, fun _ h => absurd h List.not_mem_nil⟩⟩
theorem pmD_126_0 : pmT_126_0.all (fun e => pmDec prog_2_method_8_code e.1 e.2) = true := by decide +kernel
theorem pmD_126_1 : pmT_126_1.all (fun e => pmDec prog_2_method_8_code e.1 e.2) = true := by decide +kernel
theorem pmD_126_2 : pmT_126_2.all (fun e => pmDec prog_2_method_8_code e.1 e.2) = true := by decide +kernel
theorem pmD_126 : pmDc (pmI_126, pmT_126) := List.forall_mem_cons.mpr ⟨pmD_126_0, List.forall_mem_cons.mpr ⟨pmD_126_1, List.forall_mem_cons.mpr ⟨pmD_126_2, fun _ h => absurd h List.not_mem_nil⟩⟩⟩
theorem pmD_127_0 : pmT_127_0.all (fun e => pmDec prog_1_method_28_code e.1 e.2) = true := by decide +kernel
theorem pmD_127_1 : pmT_127_1.all (fun e => pmDec prog_1_method_28_code e.1 e.2) = true := by decide +kernel
theorem pmD_127 : pmDc (pmI_127, pmT_127) := List.forall_mem_cons.mpr ⟨pmD_127_0, List.forall_mem_cons.mpr ⟨pmD_127_1, fun _ h => absurd h List.not_mem_nil⟩⟩
theorem pmD_128_0 : pmT_128_0.all (fun e => pmDec prog_1_method_38_code e.1 e.2) = true := by decide +kernel
theorem pmD_128_1 : pmT_128_1.all (fun e => pmDec prog_1_method_38_code e.1 e.2) = true := by decide +kernel
theorem pmD_128 : pmDc (pmI_128, pmT_128) := List.forall_mem_cons.mpr ⟨pmD_128_0, List.forall_mem_cons.mpr ⟨pmD_128_1, fun _ h => absurd h List.not_mem_nil⟩⟩
theorem pmD_129_0 : pmT_129_0.all (fun e => pmDec prog_1_method_29_code e.1 e.2) = true := by decide +kernel
theorem pmD_129_1 : pmT_129_1.all (fun e => pmDec prog_1_method_29_code e.1 e.2) = true := by decide +kernel
theorem pmD_129 : pmDc (pmI_129, pmT_129) := List.forall_mem_cons.mpr ⟨pmD_129_0, List.forall_mem_cons.mpr ⟨pmD_129_1, fun _ h => absurd h List.not_mem_nil⟩⟩
theorem pmD_130_0 : pmT_130_0.all (fun e => pmDec prog_2_method_9_code e.1 e.2) = true := by decide +kernel
theorem pmD_130_1 : pmT_130_1.all (fun e => pmDec prog_2_method_9_code e.1 e.2) = true := by decide +kernel
theorem pmD_130_2 : pmT_130_2.all (fun e => pmDec prog_2_method_9_code e.1 e.2) = true := by decide +kernel
theorem pmD_130_3 : pmT_130_3.all (fun e => pmDec prog_2_method_9_code e.1 e.2) = true := by decide +kernel
theorem pmD_130 : pmDc (pmI_130, pmT_130) := List.forall_mem_cons.mpr ⟨pmD_130_0, List.forall_mem_cons.mpr ⟨pmD_130_1, List.forall_mem_cons.mpr ⟨pmD_130_2, List.forall_mem_cons.mpr ⟨pmD_130_3, fun _ h => absurd h List.not_mem_nil⟩⟩⟩⟩
theorem pmD_131_0 : pmT_131_0.all (fun e => pmDec prog_8_method_4_code e.1 e.2) = true := by decide +kernel
theorem pmD_131_1 : pmT_131_1.all (fun e => pmDec prog_8_method_4_code e.1 e.2) = true := by decide +kernel
theorem pmD_131 : pmDc (pmI_131, pmT_131) := List.forall_mem_cons.mpr ⟨pmD_131_0, List.forall_mem_cons.mpr ⟨pmD_131_1, fun _ h => absurd h List.not_mem_nil⟩⟩
theorem pmD_132_0 : pmT_132_0.all (fun e => pmDec prog_1_method_30_code e.1 e.2) = true := by decide +kernel
theorem pmD_132 : pmDc (pmI_132, pmT_132) := List.forall_mem_cons.mpr ⟨pmD_132_0, fun _ h => absurd h List.not_mem_nil⟩
theorem pmD_133_0 : pmT_133_0.all (fun e => pmDec prog_1_method_31_code e.1 e.2) = true := by decide +kernel
theorem pmD_133_1 : pmT_133_1.all (fun e => pmDec prog_1_method_31_code e.1 e.2) = true := by decide +kernel
theorem pmD_133 : pmDc (pmI_133, pmT_133) := List.forall_mem_cons.mpr ⟨pmD_133_0, List.forall_mem_cons.mpr ⟨pmD_133_1, fun _ h => absurd h List.not_mem_nil⟩⟩
theorem pmD_134_0 : pmT_134_0.all (fun e => pmDec prog_1_method_32_code e.1 e.2) = true := by decide +kernel
theorem pmD_134_1 : pmT_134_1.all (fun e => pmDec prog_1_method_32_code e.1 e.2) = true := by decide +kernel
theorem pmD_134_2 : pmT_134_2.all (fun e => pmDec prog_1_method_32_code e.1 e.2) = true := by decide +kernel
theorem pmD_134_3 : pmT_134_3.all (fun e => pmDec prog_1_method_32_code e.1 e.2) = true := by decide +kernel
theorem pmD_134_4 : pmT_134_4.all (fun e => pmDec prog_1_method_32_code e.1 e.2) = true := by decide +kernel
theorem pmD_134 : pmDc (pmI_134, pmT_134) := List.forall_mem_cons.mpr ⟨pmD_134_0, List.forall_mem_cons.mpr ⟨pmD_134_1, List.forall_mem_cons.mpr ⟨pmD_134_2, List.forall_mem_cons.mpr ⟨pmD_134_3, List.forall_mem_cons.mpr ⟨pmD_134_4, fun _ h => absurd h List.not_mem_nil⟩⟩⟩⟩⟩
theorem pmD_135_0 : pmT_135_0.all (fun e => pmDec prog_1_method_33_code e.1 e.2) = true := by decide +kernel
theorem pmD_135_1 : pmT_135_1.all (fun e => pmDec prog_1_method_33_code e.1 e.2) = true := by decide +kernel
theorem pmD_135_2 : pmT_135_2.all (fun e => pmDec prog_1_method_33_code e.1 e.2) = true := by decide +kernel
theorem pmD_135_3 : pmT_135_3.all (fun e => pmDec prog_1_method_33_code e.1 e.2) = true := by decide +kernel
theorem pmD_135_4 : pmT_135_4.all (fun e => pmDec prog_1_method_33_code e.1 e.2) = true := by decide +kernel
theorem pmD_135 : pmDc (pmI_135, pmT_135) := List.forall_mem_cons.mpr ⟨pmD_135_0, List.forall_mem_cons.mpr ⟨pmD_135_1, List.forall_mem_cons.mpr ⟨pmD_135_2, List.forall_mem_cons.mpr ⟨pmD_135_3, List.forall_mem_cons.mpr ⟨pmD_135_4, fun _ h => absurd h List.not_mem_nil⟩⟩⟩⟩⟩
theorem pmD_136_0 : pmT_136_0.all (fun e => pmDec prog_14_method_1_code e.1 e.2) = true := by decide +kernel
theorem pmD_136_1 : pmT_136_1.all (fun e => pmDec prog_14_method_1_code e.1 e.2) = true := by decide +kernel
theorem pmD_136_2 : pmT_136_2.all (fun e => pmDec prog_14_method_1_code e.1 e.2) = true := by decide +kernel
theorem pmD_136_3 : pmT_136_3.all (fun e => pmDec prog_14_method_1_code e.1 e.2) = true := by decide +kernel
theorem pmD_136_4 : pmT_136_4.all (fun e => pmDec prog_14_method_1_code e.1 e.2) = true := by decide +kernel
theorem pmD_136_5 : pmT_136_5.all (fun e => pmDec prog_14_method_1_code e.1 e.2) = true := by decide +kernel
theorem pmD_136_6 : pmT_136_6.all (fun e => pmDec prog_14_method_1_code e.1 e.2) = true := by decide +kernel
theorem pmD_136_7 : pmT_136_7.all (fun e => pmDec prog_14_method_1_code e.1 e.2) = true := by decide +kernel
theorem pmD_136_8 : pmT_136_8.all (fun e => pmDec prog_14_method_1_code e.1 e.2) = true := by decide +kernel
theorem pmD_136_9 : pmT_136_9.all (fun e => pmDec prog_14_method_1_code e.1 e.2) = true := by decide +kernel
theorem pmD_136_10 : pmT_136_10.all (fun e => pmDec prog_14_method_1_code e.1 e.2) = true := by decide +kernel
theorem pmD_136 : pmDc (pmI_136, pmT_136) := List.forall_mem_cons.mpr ⟨pmD_136_0, List.forall_mem_cons.mpr ⟨pmD_136_1, List.forall_mem_cons.mpr ⟨pmD_136_2, List.forall_mem_cons.mpr ⟨pmD_136_3, List.forall_mem_cons.mpr ⟨pmD_136_4, List.forall_mem_cons.mpr ⟨pmD_136_5, List.forall_mem_cons.mpr ⟨pmD_136_6, List.forall_mem_cons.mpr ⟨pmD_136_7, List.forall_mem_cons.mpr ⟨pmD_136_8, List.forall_mem_cons.mpr ⟨pmD_136_9, List.forall_mem_cons.mpr ⟨pmD_136_10, fun _ h => absurd h List.not_mem_nil⟩⟩⟩⟩⟩⟩⟩⟩⟩⟩⟩
theorem pmD_137_0 : pmT_137_0.all (fun e => pmDec prog_14_method_12_code e.1 e.2) = true := by decide +kernel
theorem pmD_137_1 : pmT_137_1.all (fun e => pmDec prog_14_method_12_code e.1 e.2) = true := by decide +kernel
theorem pmD_137_2 : pmT_137_2.all (fun e => pmDec prog_14_method_12_code e.1 e.2) = true := by decide +kernel
theorem pmD_137 : pmDc (pmI_137, pmT_137) := List.forall_mem_cons.mpr ⟨pmD_137_0, List.forall_mem_cons.mpr ⟨pmD_137_1, List.forall_mem_cons.mpr ⟨pmD_137_2, fun _ h => absurd h List.not_mem_nil⟩⟩⟩
theorem pmD_138_0 : pmT_138_0.all (fun e => pmDec prog_14_method_7_code e.1 e.2) = true := by decide +kernel
theorem pmD_138 : pmDc (pmI_138, pmT_138) := List.forall_mem_cons.mpr ⟨pmD_138_0, fun _ h => absurd h List.not_mem_nil⟩
theorem pmD_139_0 : pmT_139_0.all (fun e => pmDec prog_14_method_13_code e.1 e.2) = true := by decide +kernel
theorem pmD_139_1 : pmT_139_1.all (fun e => pmDec prog_14_method_13_code e.1 e.2) = true := by decide +kernel
theorem pmD_139 : pmDc (pmI_139, pmT_139) := List.forall_mem_cons.mpr ⟨pmD_139_0, List.forall_mem_cons.mpr ⟨pmD_139_1, fun _ h => absurd h List.not_mem_nil⟩⟩
theorem pmD_140_0 : pmT_140_0.all (fun e => pmDec prog_14_method_9_code e.1 e.2) = true := by decide +kernel
theorem pmD_140 : pmDc (pmI_140, pmT_140) := List.forall_mem_cons.mpr ⟨pmD_140_0, fun _ h => absurd h List.not_mem_nil⟩
theorem pmD_141_0 : pmT_141_0.all (fun e => pmDec prog_14_method_14_code e.1 e.2) = true := by decide +kernel
theorem pmD_141_1 : pmT_141_1.all (fun e => pmDec prog_14_method_14_code e.1 e.2) = true := by decide +kernel
theorem pmD_141_2 : pmT_141_2.all (fun e => pmDec prog_14_method_14_code e.1 e.2) = true := by decide +kernel
theorem pmD_141 : pmDc (pmI_141, pmT_141) := List.forall_mem_cons.mpr ⟨pmD_141_0, List.forall_mem_cons.mpr ⟨pmD_141_1, List.forall_mem_cons.mpr ⟨pmD_141_2, fun _ h => absurd h List.not_mem_nil⟩⟩⟩
theorem pmD_142_0 : pmT_142_0.all (fun e => pmDec prog_14_method_16_code e.1 e.2) = true := by decide +kernel
theorem pmD_142_1 : pmT_142_1.all (fun e => pmDec prog_14_method_16_code e.1 e.2) = true := by decide +kernel
theorem pmD_142_2 : pmT_142_2.all (fun e => pmDec prog_14_method_16_code e.1 e.2) = true := by decide +kernel
theorem pmD_142 : pmDc (pmI_142, pmT_142) := List.forall_mem_cons.mpr ⟨pmD_142_0, List.forall_mem_cons.mpr ⟨pmD_142_1, List.forall_mem_cons.mpr ⟨pmD_142_2, fun _ h => absurd h List.not_mem_nil⟩⟩⟩
theorem pmD_143_0 : pmT_143_0.all (fun e => pmDec prog_14_method_2_code e.1 e.2) = true := by decide +kernel
theorem pmD_143 : pmDc (pmI_143, pmT_143) := List.forall_mem_cons.mpr ⟨pmD_143_0, fun _ h => absurd h List.not_mem_nil⟩
theorem pmD_144_0 : pmT_144_0.all (fun e => pmDec prog_14_method_15_code e.1 e.2) = true := by decide +kernel
theorem pmD_144 : pmDc (pmI_144, pmT_144) := List.forall_mem_cons.mpr ⟨pmD_144_0, fun _ h => absurd h List.not_mem_nil⟩
theorem pmD_145_0 : pmT_145_0.all (fun e => pmDec prog_14_method_17_code e.1 e.2) = true := by decide +kernel
theorem pmD_145_1 : pmT_145_1.all (fun e => pmDec prog_14_method_17_code e.1 e.2) = true := by decide +kernel
theorem pmD_145_2 : pmT_145_2.all (fun e => pmDec prog_14_method_17_code e.1 e.2) = true := by decide +kernel
theorem pmD_145_3 : pmT_145_3.all (fun e => pmDec prog_14_method_17_code e.1 e.2) = true := by decide +kernel
theorem pmD_145 : pmDc (pmI_145, pmT_145) := List.forall_mem_cons.mpr ⟨pmD_145_0, List.forall_mem_cons.mpr ⟨pmD_145_1, List.forall_mem_cons.mpr ⟨pmD_145_2, List.forall_mem_cons.mpr ⟨pmD_145_3, fun _ h => absurd h List.not_mem_nil⟩⟩⟩⟩
theorem pmD_146_0 : pmT_146_0.all (fun e => pmDec prog_14_method_8_code e.1 e.2) = true := by decide +kernel
theorem pmD_146 : pmDc (pmI_146, pmT_146) := List.forall_mem_cons.mpr ⟨pmD_146_0, fun _ h => absurd h List.not_mem_nil⟩
theorem pmD_147_0 : pmT_147_0.all (fun e => pmDec prog_14_method_6_code e.1 e.2) = true := by decide +kernel
theorem pmD_147 : pmDc (pmI_147, pmT_147) := List.forall_mem_cons.mpr ⟨pmD_147_0, fun _ h => absurd h List.not_mem_nil⟩
theorem pmD_148_0 : pmT_148_0.all (fun e => pmDec prog_14_method_10_code e.1 e.2) = true := by decide +kernel
theorem pmD_148 : pmDc (pmI_148, pmT_148) := List.forall_mem_cons.mpr ⟨pmD_148_0, fun _ h => absurd h List.not_mem_nil⟩
theorem pmD_149_0 : pmT_149_0.all (fun e => pmDec prog_14_method_5_code e.1 e.2) = true := by decide +kernel
theorem pmD_149 : pmDc (pmI_149, pmT_149) := List.forall_mem_cons.mpr ⟨pmD_149_0, fun _ h => absurd h List.not_mem_nil⟩
theorem pmD_150_0 : pmT_150_0.all (fun e => pmDec prog_14_method_18_code e.1 e.2) = true := by decide +kernel
theorem pmD_150_1 : pmT_150_1.all (fun e => pmDec prog_14_method_18_code e.1 e.2) = true := by decide +kernel
theorem pmD_150 : pmDc (pmI_150, pmT_150) := List.forall_mem_cons.mpr ⟨pmD_150_0, List.forall_mem_cons.mpr ⟨pmD_150_1, fun _ h => absurd h List.not_mem_nil⟩⟩
theorem pmD_151_0 : pmT_151_0.all (fun e => pmDec prog_14_method_20_code e.1 e.2) = true := by decide +kernel
theorem pmD_151_1 : pmT_151_1.all (fun e => pmDec prog_14_method_20_code e.1 e.2) = true := by decide +kernel
theorem pmD_151 : pmDc (pmI_151, pmT_151) := List.forall_mem_cons.mpr ⟨pmD_151_0, List.forall_mem_cons.mpr ⟨pmD_151_1, fun _ h => absurd h List.not_mem_nil⟩⟩
theorem pmD_152_0 : pmT_152_0.all (fun e => pmDec prog_14_method_19_code e.1 e.2) = true := by decide +kernel
theorem pmD_152_1 : pmT_152_1.all (fun e => pmDec prog_14_method_19_code e.1 e.2) = true := by decide +kernel
theorem pmD_152 : pmDc (pmI_152, pmT_152) := List.forall_mem_cons.mpr ⟨pmD_152_0, List.forall_mem_cons.mpr ⟨pmD_152_1, fun _ h => absurd h List.not_mem_nil⟩⟩
theorem pmD_153_0 : pmT_153_0.all (fun e => pmDec prog_14_method_34_code e.1 e.2) = true := by decide +kernel
theorem pmD_153_1 : pmT_153_1.all (fun e => pmDec prog_14_method_34_code e.1 e.2) = true := by decide +kernel
theorem pmD_153_2 : pmT_153_2.all (fun e => pmDec prog_14_method_34_code e.1 e.2) = true := by decide +kernel
theorem pmD_153_3 : pmT_153_3.all (fun e => pmDec prog_14_method_34_code e.1 e.2) = true := by decide +kernel
theorem pmD_153_4 : pmT_153_4.all (fun e => pmDec prog_14_method_34_code e.1 e.2) = true := by decide +kernel
theorem pmD_153_5 : pmT_153_5.all (fun e => pmDec prog_14_method_34_code e.1 e.2) = true := by decide +kernel
theorem pmD_153 : pmDc (pmI_153, pmT_153) := List.forall_mem_cons.mpr ⟨pmD_153_0, List.forall_mem_cons.mpr ⟨pmD_153_1, List.forall_mem_cons.mpr ⟨pmD_153_2, List.forall_mem_cons.mpr ⟨pmD_153_3, List.forall_mem_cons.mpr ⟨pmD_153_4, List.forall_mem_cons.mpr ⟨pmD_153_5, fun _ h => absurd h List.not_mem_nil⟩⟩⟩⟩⟩⟩
theorem pmD_154_0 : pmT_154_0.all (fun e => pmDec prog_14_method_33_code e.1 e.2) = true := by decide +kernel
theorem pmD_154 : pmDc (pmI_154, pmT_154) := List.forall_mem_cons.mpr ⟨pmD_154_0, fun _ h => absurd h List.not_mem_nil⟩
theorem pmD_155_0 : pmT_155_0.all (fun e => pmDec prog_14_method_31_code e.1 e.2) = true := by decide +kernel
theorem pmD_155_1 : pmT_155_1.all (fun e => pmDec prog_14_method_31_code e.1 e.2) = true := by decide +kernel
theorem pmD_155_2 : pmT_155_2.all (fun e => pmDec prog_14_method_31_code e.1 e.2) = true := by decide +kernel
theorem pmD_155_3 : pmT_155_3.all (fun e => pmDec prog_14_method_31_code e.1 e.2) = true := by decide +kernel
theorem pmD_155_4 : pmT_155_4.all (fun e => pmDec prog_14_method_31_code e.1 e.2) = true := by decide +kernel
theorem pmD_155_5 : pmT_155_5.all (fun e => pmDec prog_14_method_31_code e.1 e.2) = true := by decide +kernel
theorem pmD_155_6 : pmT_155_6.all (fun e => pmDec prog_14_method_31_code e.1 e.2) = true := by decide +kernel
theorem pmD_155 : pmDc (pmI_155, pmT_155) := List.forall_mem_cons.mpr ⟨pmD_155_0, List.forall_mem_cons.mpr ⟨pmD_155_1, List.forall_mem_cons.mpr ⟨pmD_155_2, List.forall_mem_cons.mpr ⟨pmD_155_3, List.forall_mem_cons.mpr ⟨pmD_155_4, List.forall_mem_cons.mpr ⟨pmD_155_5, List.forall_mem_cons.mpr ⟨pmD_155_6, fun _ h => absurd h List.not_mem_nil⟩⟩⟩⟩⟩⟩⟩
theorem pmD_156_0 : pmT_156_0.all (fun e => pmDec prog_14_method_21_code e.1 e.2) = true := by decide +kernel
theorem pmD_156 : pmDc (pmI_156, pmT_156) := List.forall_mem_cons.mpr ⟨pmD_156_0, fun _ h => absurd h List.not_mem_nil⟩
theorem pmD_157_0 : pmT_157_0.all (fun e => pmDec prog_14_method_26_code e.1 e.2) = true := by decide +kernel
theorem pmD_157_1 : pmT_157_1.all (fun e => pmDec prog_14_method_26_code e.1 e.2) = true := by decide +kernel
theorem pmD_157 : pmDc (pmI_157, pmT_157) := List.forall_mem_cons.mpr ⟨pmD_157_0, List.forall_mem_cons.mpr ⟨pmD_157_1, fun _ h => absurd h List.not_mem_nil⟩⟩
theorem pmD_158_0 : pmT_158_0.all (fun e => pmDec prog_14_method_22_code e.1 e.2) = true := by decide +kernel
theorem pmD_158 : pmDc (pmI_158, pmT_158) := List.forall_mem_cons.mpr ⟨pmD_158_0, fun _ h => absurd h List.not_mem_nil⟩
theorem pmD_159_0 : pmT_159_0.all (fun e => pmDec prog_14_method_28_code e.1 e.2) = true := by decide +kernel
theorem pmD_159_1 : pmT_159_1.all (fun e => pmDec prog_14_method_28_code e.1 e.2) = true := by decide +kernel
theorem pmD_159_2 : pmT_159_2.all (fun e => pmDec prog_14_method_28_code e.1 e.2) = true := by decide +kernel
theorem pmD_159_3 : pmT_159_3.all (fun e => pmDec prog_14_method_28_code e.1 e.2) = true := by decide +kernel
theorem pmD_159_4 : pmT_159_4.all (fun e => pmDec prog_14_method_28_code e.1 e.2) = true := by decide +kernel
theorem pmD_159_5 : pmT_159_5.all (fun e => pmDec prog_14_method_28_code e.1 e.2) = true := by decide +kernel
theorem pmD_159 : pmDc (pmI_159, pmT_159) := List.forall_mem_cons.mpr ⟨pmD_159_0, List.forall_mem_cons.mpr ⟨pmD_159_1, List.forall_mem_cons.mpr ⟨pmD_159_2, List.forall_mem_cons.mpr ⟨pmD_159_3, List.forall_mem_cons.mpr ⟨pmD_159_4, List.forall_mem_cons.mpr ⟨pmD_159_5, fun _ h => absurd h List.not_mem_nil⟩⟩⟩⟩⟩⟩
theorem pmD_160_0 : pmT_160_0.all (fun e => pmDec prog_14_method_24_code e.1 e.2) = true := by decide +kernel
theorem pmD_160_1 : pmT_160_1.all (fun e => pmDec prog_14_method_24_code e.1 e.2) = true := by decide +kernel
theorem pmD_160_2 : pmT_160_2.all (fun e => pmDec prog_14_method_24_code e.1 e.2) = true := by decide +kernel
theorem pmD_160 : pmDc (pmI_160, pmT_160) := List.forall_mem_cons.mpr ⟨pmD_160_0, List.forall_mem_cons.mpr ⟨pmD_160_1, List.forall_mem_cons.mpr ⟨pmD_160_2, fun _ h => absurd h List.not_mem_nil⟩⟩⟩
theorem pmD_161_0 : pmT_161_0.all (fun e => pmDec prog_14_method_25_code e.1 e.2) = true := by decide +kernel
theorem pmD_161 : pmDc (pmI_161, pmT_161) := List.forall_mem_cons.mpr ⟨pmD_161_0, fun _ h => absurd h List.not_mem_nil⟩
theorem pmD_162_0 : pmT_162_0.all (fun e => pmDec prog_14_method_29_code e.1 e.2) = true := by decide +kernel
theorem pmD_162_1 : pmT_162_1.all (fun e => pmDec prog_14_method_29_code e.1 e.2) = true := by decide +kernel
theorem pmD_162 : pmDc (pmI_162, pmT_162) := List.forall_mem_cons.mpr ⟨pmD_162_0, List.forall_mem_cons.mpr ⟨pmD_162_1, fun _ h => absurd h List.not_mem_nil⟩⟩
theorem pmD_163_0 : pmT_163_0.all (fun e => pmDec prog_14_method_27_code e.1 e.2) = true := by decide +kernel
theorem pmD_163 : pmDc (pmI_163, pmT_163) := List.forall_mem_cons.mpr ⟨pmD_163_0, fun _ h => absurd h List.not_mem_nil⟩
theorem pmD_164_0 : pmT_164_0.all (fun e => pmDec prog_14_method_32_code e.1 e.2) = true := by decide +kernel
theorem pmD_164 : pmDc (pmI_164, pmT_164) := List.forall_mem_cons.mpr ⟨pmD_164_0, fun _ h => absurd h List.not_mem_nil⟩
theorem pmD_165_0 : pmT_165_0.all (fun e => pmDec prog_14_method_30_code e.1 e.2) = true := by decide +kernel
theorem pmD_165_1 : pmT_165_1.all (fun e => pmDec prog_14_method_30_code e.1 e.2) = true := by decide +kernel
theorem pmD_165 : pmDc (pmI_165, pmT_165) := List.forall_mem_cons.mpr ⟨pmD_165_0, List.forall_mem_cons.mpr ⟨pmD_165_1, fun _ h => absurd h List.not_mem_nil⟩⟩
theorem pmD_166_0 : pmT_166_0.all (fun e => pmDec prog_14_method_40_code e.1 e.2) = true := by decide +kernel
theorem pmD_166_1 : pmT_166_1.all (fun e => pmDec prog_14_method_40_code e.1 e.2) = true := by decide +kernel
theorem pmD_166_2 : pmT_166_2.all (fun e => pmDec prog_14_method_40_code e.1 e.2) = true := by decide +kernel
theorem pmD_166_3 : pmT_166_3.all (fun e => pmDec prog_14_method_40_code e.1 e.2) = true := by decide +kernel
theorem pmD_166_4 : pmT_166_4.all (fun e => pmDec prog_14_method_40_code e.1 e.2) = true := by decide +kernel
theorem pmD_166_5 : pmT_166_5.all (fun e => pmDec prog_14_method_40_code e.1 e.2) = true := by decide +kernel
theorem pmD_166 : pmDc (pmI_166, pmT_166) := List.forall_mem_cons.mpr ⟨pmD_166_0, List.forall_mem_cons.mpr ⟨pmD_166_1, List.forall_mem_cons.mpr ⟨pmD_166_2, List.forall_mem_cons.mpr ⟨pmD_166_3, List.forall_mem_cons.mpr ⟨pmD_166_4, List.forall_mem_cons.mpr ⟨pmD_166_5, fun _ h => absurd h List.not_mem_nil⟩⟩⟩⟩⟩⟩
theorem pmD_167_0 : pmT_167_0.all (fun e => pmDec prog_14_method_39_code e.1 e.2) = true := by decide +kernel
theorem pmD_167_1 : pmT_167_1.all (fun e => pmDec prog_14_method_39_code e.1 e.2) = true := by decide +kernel
theorem pmD_167_2 : pmT_167_2.all (fun e => pmDec prog_14_method_39_code e.1 e.2) = true := by decide +kernel
theorem pmD_167_3 : pmT_167_3.all (fun e => pmDec prog_14_method_39_code e.1 e.2) = true := by decide +kernel
theorem pmD_167_4 : pmT_167_4.all (fun e => pmDec prog_14_method_39_code e.1 e.2) = true := by decide +kernel
theorem pmD_167 : pmDc (pmI_167, pmT_167) := List.forall_mem_cons.mpr ⟨pmD_167_0, List.forall_mem_cons.mpr ⟨pmD_167_1, List.forall_mem_cons.mpr ⟨pmD_167_2, List.forall_mem_cons.mpr ⟨pmD_167_3, List.forall_mem_cons.mpr ⟨pmD_167_4, fun _ h => absurd h List.not_mem_nil⟩⟩⟩⟩⟩
theorem pmD_168_0 : pmT_168_0.all (fun e => pmDec prog_14_method_37_code e.1 e.2) = true := by decide +kernel
theorem pmD_168_1 : pmT_168_1.all (fun e => pmDec prog_14_method_37_code e.1 e.2) = true := by decide +kernel
theorem pmD_168_2 : pmT_168_2.all (fun e => pmDec prog_14_method_37_code e.1 e.2) = true := by decide +kernel
theorem pmD_168_3 : pmT_168_3.all (fun e => pmDec prog_14_method_37_code e.1 e.2) = true := by decide +kernel
theorem pmD_168_4 : pmT_168_4.all (fun e => pmDec prog_14_method_37_code e.1 e.2) = true := by decide +kernel
theorem pmD_168 : pmDc (pmI_168, pmT_168) := List.forall_mem_cons.mpr ⟨pmD_168_0, List.forall_mem_cons.mpr ⟨pmD_168_1, List.forall_mem_cons.mpr ⟨pmD_168_2, List.forall_mem_cons.mpr ⟨pmD_168_3, List.forall_mem_cons.mpr ⟨pmD_168_4, fun _ h => absurd h List.not_mem_nil⟩⟩⟩⟩⟩
theorem pmD_169_0 : pmT_169_0.all (fun e => pmDec prog_14_method_35_code e.1 e.2) = true := by decide +kernel
theorem pmD_169_1 : pmT_169_1.all (fun e => pmDec prog_14_method_35_code e.1 e.2) = true := by decide +kernel
theorem pmD_169 : pmDc (pmI_169, pmT_169) := List.forall_mem_cons.mpr ⟨pmD_169_0, List.forall_mem_cons.mpr ⟨pmD_169_1, fun _ h => absurd h List.not_mem_nil⟩⟩
theorem pmD_170_0 : pmT_170_0.all (fun e => pmDec prog_14_method_36_code e.1 e.2) = true := by decide +kernel
theorem pmD_170_1 : pmT_170_1.all (fun e => pmDec prog_14_method_36_code e.1 e.2) = true := by decide +kernel
theorem pmD_170 : pmDc (pmI_170, pmT_170) := List.forall_mem_cons.mpr ⟨pmD_170_0, List.forall_mem_cons.mpr ⟨pmD_170_1, fun _ h => absurd h List.not_mem_nil⟩⟩
theorem pmD_171_0 : pmT_171_0.all (fun e => pmDec prog_14_method_23_code e.1 e.2) = true := by decide +kernel
theorem pmD_171 : pmDc (pmI_171, pmT_171) := List.forall_mem_cons.mpr ⟨pmD_171_0, fun _ h => absurd h List.not_mem_nil⟩
theorem pmD_172_0 : pmT_172_0.all (fun e => pmDec prog_14_method_38_code e.1 e.2) = true := by decide +kernel
theorem pmD_172_1 : pmT_172_1.all (fun e => pmDec prog_14_method_38_code e.1 e.2) = true := by decide +kernel
theorem pmD_172_2 : pmT_172_2.all (fun e => pmDec prog_14_method_38_code e.1 e.2) = true := by decide +kernel
theorem pmD_172_3 : pmT_172_3.all (fun e => pmDec prog_14_method_38_code e.1 e.2) = true := by decide +kernel
theorem pmD_172 : pmDc (pmI_172, pmT_172) := List.forall_mem_cons.mpr ⟨pmD_172_0, List.forall_mem_cons.mpr ⟨pmD_172_1, List.forall_mem_cons.mpr ⟨pmD_172_2, List.forall_mem_cons.mpr ⟨pmD_172_3, fun _ h => absurd h List.not_mem_nil⟩⟩⟩⟩
theorem pmD_173_0 : pmT_173_0.all (fun e => pmDec prog_14_method_60_code e.1 e.2) = true := by decide +kernel
theorem pmD_173 : pmDc (pmI_173, pmT_173) := List.forall_mem_cons.mpr ⟨pmD_173_0, fun _ h => absurd h List.not_mem_nil⟩
theorem pmD_174_0 : pmT_174_0.all (fun e => pmDec prog_14_method_46_code e.1 e.2) = true := by decide +kernel
theorem pmD_174 : pmDc (pmI_174, pmT_174) := List.forall_mem_cons.mpr ⟨pmD_174_0, fun _ h => absurd h List.not_mem_nil⟩
theorem pmD_175_0 : pmT_175_0.all (fun e => pmDec prog_14_method_41_code e.1 e.2) = true := by decide +kernel
theorem pmD_175_1 : pmT_175_1.all (fun e => pmDec prog_14_method_41_code e.1 e.2) = true := by decide +kernel
theorem pmD_175_2 : pmT_175_2.all (fun e => pmDec prog_14_method_41_code e.1 e.2) = true := by decide +kernel
theorem pmD_175_3 : pmT_175_3.all (fun e => pmDec prog_14_method_41_code e.1 e.2) = true := by decide +kernel
theorem pmD_175_4 : pmT_175_4.all (fun e => pmDec prog_14_method_41_code e.1 e.2) = true := by decide +kernel
theorem pmD_175 : pmDc (pmI_175, pmT_175) := List.forall_mem_cons.mpr ⟨pmD_175_0, List.forall_mem_cons.mpr ⟨pmD_175_1, List.forall_mem_cons.mpr ⟨pmD_175_2, List.forall_mem_cons.mpr ⟨pmD_175_3, List.forall_mem_cons.mpr ⟨pmD_175_4, fun _ h => absurd h List.not_mem_nil⟩⟩⟩⟩⟩
theorem pmD_176_0 : pmT_176_0.all (fun e => pmDec prog_14_method_11_code e.1 e.2) = true := by decide +kernel
theorem pmD_176 : pmDc (pmI_176, pmT_176) := List.forall_mem_cons.mpr ⟨pmD_176_0, fun _ h => absurd h List.not_mem_nil⟩
theorem pmD_177_0 : pmT_177_0.all (fun e => pmDec prog_14_method_42_code e.1 e.2) = true := by decide +kernel
theorem pmD_177 : pmDc (pmI_177, pmT_177) := List.forall_mem_cons.mpr ⟨pmD_177_0, fun _ h => absurd h List.not_mem_nil⟩
theorem pmD_178_0 : pmT_178_0.all (fun e => pmDec prog_14_method_43_code e.1 e.2) = true := by decide +kernel
theorem pmD_178 : pmDc (pmI_178, pmT_178) := List.forall_mem_cons.mpr ⟨pmD_178_0, fun _ h => absurd h List.not_mem_nil⟩
theorem pmD_179_0 : pmT_179_0.all (fun e => pmDec prog_14_method_45_code e.1 e.2) = true := by decide +kernel
theorem pmD_179_1 : pmT_179_1.all (fun e => pmDec prog_14_method_45_code e.1 e.2) = true := by decide +kernel
theorem pmD_179_2 : pmT_179_2.all (fun e => pmDec prog_14_method_45_code e.1 e.2) = true := by decide +kernel
theorem pmD_179_3 : pmT_179_3.all (fun e => pmDec prog_14_method_45_code e.1 e.2) = true := by decide +kernel
theorem pmD_179_4 : pmT_179_4.all (fun e => pmDec prog_14_method_45_code e.1 e.2) = true := by decide +kernel
theorem pmD_179_5 : pmT_179_5.all (fun e => pmDec prog_14_method_45_code e.1 e.2) = true := by decide +kernel
theorem pmD_179 : pmDc (pmI_179, pmT_179) := List.forall_mem_cons.mpr ⟨pmD_179_0, List.forall_mem_cons.mpr ⟨pmD_179_1, List.forall_mem_cons.mpr ⟨pmD_179_2, List.forall_mem_cons.mpr ⟨pmD_179_3, List.forall_mem_cons.mpr ⟨pmD_179_4, List.forall_mem_cons.mpr ⟨pmD_179_5, fun _ h => absurd h List.not_mem_nil⟩⟩⟩⟩⟩⟩
theorem pmD_180_0 : pmT_180_0.all (fun e => pmDec prog_14_method_44_code e.1 e.2) = true := by decide +kernel
theorem pmD_180 : pmDc (pmI_180, pmT_180) := List.forall_mem_cons.mpr ⟨pmD_180_0, fun _ h => absurd h List.not_mem_nil⟩
theorem pmD_181_0 : pmT_181_0.all (fun e => pmDec prog_14_method_3_code e.1 e.2) = true := by decide +kernel
theorem pmD_181 : pmDc (pmI_181, pmT_181) := List.forall_mem_cons.mpr ⟨pmD_181_0, fun _ h => absurd h List.not_mem_nil⟩
theorem pmD_182_0 : pmT_182_0.all (fun e => pmDec prog_14_method_61_code e.1 e.2) = true := by decide +kernel
theorem pmD_182_1 : pmT_182_1.all (fun e => pmDec prog_14_method_61_code e.1 e.2) = true := by decide +kernel
theorem pmD_182_2 : pmT_182_2.all (fun e => pmDec prog_14_method_61_code e.1 e.2) = true := by decide +kernel
theorem pmD_182 : pmDc (pmI_182, pmT_182) := List.forall_mem_cons.mpr ⟨pmD_182_0, List.forall_mem_cons.mpr ⟨pmD_182_1, List.forall_mem_cons.mpr ⟨pmD_182_2, fun _ h => absurd h List.not_mem_nil⟩⟩⟩
theorem pmD_183_0 : pmT_183_0.all (fun e => pmDec prog_14_method_64_code e.1 e.2) = true := by decide +kernel
theorem pmD_183 : pmDc (pmI_183, pmT_183) := List.forall_mem_cons.mpr ⟨pmD_183_0, fun _ h => absurd h List.not_mem_nil⟩
theorem pmD_184_0 : pmT_184_0.all (fun e => pmDec prog_14_method_63_code e.1 e.2) = true := by decide +kernel
theorem pmD_184 : pmDc (pmI_184, pmT_184) := List.forall_mem_cons.mpr ⟨pmD_184_0, fun _ h => absurd h List.not_mem_nil⟩
theorem pmD_185_0 : pmT_185_0.all (fun e => pmDec prog_14_method_62_code e.1 e.2) = true := by decide +kernel
theorem pmD_185 : pmDc (pmI_185, pmT_185) := List.forall_mem_cons.mpr ⟨pmD_185_0, fun _ h => absurd h List.not_mem_nil⟩
theorem pmD_186_0 : pmT_186_0.all (fun e => pmDec prog_14_method_47_code e.1 e.2) = true := by decide +kernel
theorem pmD_186_1 : pmT_186_1.all (fun e => pmDec prog_14_method_47_code e.1 e.2) = true := by decide +kernel
theorem pmD_186_2 : pmT_186_2.all (fun e => pmDec prog_14_method_47_code e.1 e.2) = true := by decide +kernel
theorem pmD_186_3 : pmT_186_3.all (fun e => pmDec prog_14_method_47_code e.1 e.2) = true := by decide +kernel
theorem pmD_186 : pmDc (pmI_186, pmT_186) := List.forall_mem_cons.mpr ⟨pmD_186_0, List.forall_mem_cons.mpr ⟨pmD_186_1, List.forall_mem_cons.mpr ⟨pmD_186_2, List.forall_mem_cons.mpr ⟨pmD_186_3, fun _ h => absurd h List.not_mem_nil⟩⟩⟩⟩
theorem pmD_187_0 : pmT_187_0.all (fun e => pmDec prog_14_method_49_code e.1 e.2) = true := by decide +kernel
theorem pmD_187_1 : pmT_187_1.all (fun e => pmDec prog_14_method_49_code e.1 e.2) = true := by decide +kernel
theorem pmD_187_2 : pmT_187_2.all (fun e => pmDec prog_14_method_49_code e.1 e.2) = true := by decide +kernel
theorem pmD_187_3 : pmT_187_3.all (fun e => pmDec prog_14_method_49_code e.1 e.2) = true := by decide +kernel
theorem pmD_187_4 : pmT_187_4.all (fun e => pmDec prog_14_method_49_code e.1 e.2) = true := by decide +kernel
theorem pmD_187_5 : pmT_187_5.all (fun e => pmDec prog_14_method_49_code e.1 e.2) = true := by decide +kernel
theorem pmD_187_6 : pmT_187_6.all (fun e => pmDec prog_14_method_49_code e.1 e.2) = true := by decide +kernel
theorem pmD_187_7 : pmT_187_7.all (fun e => pmDec prog_14_method_49_code e.1 e.2) = true := by decide +kernel
theorem pmD_187 : pmDc (pmI_187, pmT_187) := List.forall_mem_cons.mpr ⟨pmD_187_0, List.forall_mem_cons.mpr ⟨pmD_187_1, List.forall_mem_cons.mpr ⟨pmD_187_2, List.forall_mem_cons.mpr ⟨pmD_187_3, List.forall_mem_cons.mpr ⟨pmD_187_4, List.forall_mem_cons.mpr ⟨pmD_187_5, List.forall_mem_cons.mpr ⟨pmD_187_6, List.forall_mem_cons.mpr ⟨pmD_187_7, fun _ h => absurd h List.not_mem_nil⟩⟩⟩⟩⟩⟩⟩⟩
theorem pmD_188_0 : pmT_188_0.all (fun e => pmDec prog_14_method_48_code e.1 e.2) = true := by decide +kernel
theorem pmD_188_1 : pmT_188_1.all (fun e => pmDec prog_14_method_48_code e.1 e.2) = true := by decide +kernel
theorem pmD_188_2 : pmT_188_2.all (fun e => pmDec prog_14_method_48_code e.1 e.2) = true := by decide +kernel
theorem pmD_188_3 : pmT_188_3.all (fun e => pmDec prog_14_method_48_code e.1 e.2) = true := by decide +kernel
theorem pmD_188_4 : pmT_188_4.all (fun e => pmDec prog_14_method_48_code e.1 e.2) = true := by decide +kernel
theorem pmD_188 : pmDc (pmI_188, pmT_188) := List.forall_mem_cons.mpr ⟨pmD_188_0, List.forall_mem_cons.mpr ⟨pmD_188_1, List.forall_mem_cons.mpr ⟨pmD_188_2, List.forall_mem_cons.mpr ⟨pmD_188_3, List.forall_mem_cons.mpr ⟨pmD_188_4, fun _ h => absurd h List.not_mem_nil⟩⟩⟩⟩⟩
theorem pmD_189_0 : pmT_189_0.all (fun e => pmDec prog_14_method_65_code e.1 e.2) = true := by decide +kernel
theorem pmD_189_1 : pmT_189_1.all (fun e => pmDec prog_14_method_65_code e.1 e.2) = true := by decide +kernel
theorem pmD_189_2 : pmT_189_2.all (fun e => pmDec prog_14_method_65_code e.1 e.2) = true := by decide +kernel
theorem pmD_189_3 : pmT_189_3.all (fun e => pmDec prog_14_method_65_code e.1 e.2) = true := by decide +kernel
theorem pmD_189_4 : pmT_189_4.all (fun e => pmDec prog_14_method_65_code e.1 e.2) = true := by decide +kernel
theorem pmD_189 : pmDc (pmI_189, pmT_189) := List.forall_mem_cons.mpr ⟨pmD_189_0, List.forall_mem_cons.mpr ⟨pmD_189_1, List.forall_mem_cons.mpr ⟨pmD_189_2, List.forall_mem_cons.mpr ⟨pmD_189_3, List.forall_mem_cons.mpr ⟨pmD_189_4, fun _ h => absurd h List.not_mem_nil⟩⟩⟩⟩⟩
theorem pmD_190_0 : pmT_190_0.all (fun e => pmDec prog_14_method_56_code e.1 e.2) = true := by decide +kernel
theorem pmD_190_1 : pmT_190_1.all (fun e => pmDec prog_14_method_56_code e.1 e.2) = true := by decide +kernel
theorem pmD_190_2 : pmT_190_2.all (fun e => pmDec prog_14_method_56_code e.1 e.2) = true := by decide +kernel
theorem pmD_190_3 : pmT_190_3.all (fun e => pmDec prog_14_method_56_code e.1 e.2) = true := by decide +kernel
theorem pmD_190_4 : pmT_190_4.all (fun e => pmDec prog_14_method_56_code e.1 e.2) = true := by decide +kernel
theorem pmD_190_5 : pmT_190_5.all (fun e => pmDec prog_14_method_56_code e.1 e.2) = true := by decide +kernel
theorem pmD_190_6 : pmT_190_6.all (fun e => pmDec prog_14_method_56_code e.1 e.2) = true := by decide +kernel
theorem pmD_190_7 : pmT_190_7.all (fun e => pmDec prog_14_method_56_code e.1 e.2) = true := by decide +kernel
theorem pmD_190 : pmDc (pmI_190, pmT_190) := List.forall_mem_cons.mpr ⟨pmD_190_0, List.forall_mem_cons.mpr ⟨pmD_190_1, List.forall_mem_cons.mpr ⟨pmD_190_2, List.forall_mem_cons.mpr ⟨pmD_190_3, List.forall_mem_cons.mpr ⟨pmD_190_4, List.forall_mem_cons.mpr ⟨pmD_190_5, List.forall_mem_cons.mpr ⟨pmD_190_6, List.forall_mem_cons.mpr ⟨pmD_190_7, fun _ h => absurd h List.not_mem_nil⟩⟩⟩⟩⟩⟩⟩⟩
theorem pmD_191_0 : pmT_191_0.all (fun e => pmDec prog_14_method_54_code e.1 e.2) = true := by decide +kernel
theorem pmD_191_1 : pmT_191_1.all (fun e => pmDec prog_14_method_54_code e.1 e.2) = true := by decide +kernel
theorem pmD_191_2 : pmT_191_2.all (fun e => pmDec prog_14_method_54_code e.1 e.2) = true := by decide +kernel
theorem pmD_191_3 : pmT_191_3.all (fun e => pmDec prog_14_method_54_code e.1 e.2) = true := by decide +kernel
theorem pmD_191_4 : pmT_191_4.all (fun e => pmDec prog_14_method_54_code e.1 e.2) = true := by decide +kernel
theorem pmD_191_5 : pmT_191_5.all (fun e => pmDec prog_14_method_54_code e.1 e.2) = true := by decide +kernel
theorem pmD_191_6 : pmT_191_6.all (fun e => pmDec prog_14_method_54_code e.1 e.2) = true := by decide +kernel
theorem pmD_191 : pmDc (pmI_191, pmT_191) := List.forall_mem_cons.mpr ⟨pmD_191_0, List.forall_mem_cons.mpr ⟨pmD_191_1, List.forall_mem_cons.mpr ⟨pmD_191_2, List.forall_mem_cons.mpr ⟨pmD_191_3, List.forall_mem_cons.mpr ⟨pmD_191_4, List.forall_mem_cons.mpr ⟨pmD_191_5, List.forall_mem_cons.mpr ⟨pmD_191_6, fun _ h => absurd h List.not_mem_nil⟩⟩⟩⟩⟩⟩⟩
theorem pmD_192_0 : pmT_192_0.all (fun e => pmDec prog_14_method_51_code e.1 e.2) = true := by decide +kernel
theorem pmD_192_1 : pmT_192_1.all (fun e => pmDec prog_14_method_51_code e.1 e.2) = true := by decide +kernel
theorem pmD_192_2 : pmT_192_2.all (fun e => pmDec prog_14_method_51_code e.1 e.2) = true := by decide +kernel
theorem pmD_192 : pmDc (pmI_192, pmT_192) := List.forall_mem_cons.mpr ⟨pmD_192_0, List.forall_mem_cons.mpr ⟨pmD_192_1, List.forall_mem_cons.mpr ⟨pmD_192_2, fun _ h => absurd h List.not_mem_nil⟩⟩⟩
theorem pmD_193_0 : pmT_193_0.all (fun e => pmDec prog_14_method_50_code e.1 e.2) = true := by decide +kernel
theorem pmD_193_1 : pmT_193_1.all (fun e => pmDec prog_14_method_50_code e.1 e.2) = true := by decide +kernel
theorem pmD_193 : pmDc (pmI_193, pmT_193) := List.forall_mem_cons.mpr ⟨pmD_193_0, List.forall_mem_cons.mpr ⟨pmD_193_1, fun _ h => absurd h List.not_mem_nil⟩⟩
theorem pmD_194_0 : pmT_194_0.all (fun e => pmDec prog_14_method_52_code e.1 e.2) = true := by decide +kernel
theorem pmD_194_1 : pmT_194_1.all (fun e => pmDec prog_14_method_52_code e.1 e.2) = true := by decide +kernel
theorem pmD_194 : pmDc (pmI_194, pmT_194) := List.forall_mem_cons.mpr ⟨pmD_194_0, List.forall_mem_cons.mpr ⟨pmD_194_1, fun _ h => absurd h List.not_mem_nil⟩⟩
theorem pmD_195_0 : pmT_195_0.all (fun e => pmDec prog_14_method_53_code e.1 e.2) = true := by decide +kernel
theorem pmD_195_1 : pmT_195_1.all (fun e => pmDec prog_14_method_53_code e.1 e.2) = true := by decide +kernel
theorem pmD_195 : pmDc (pmI_195, pmT_195) := List.forall_mem_cons.mpr ⟨pmD_195_0, List.forall_mem_cons.mpr ⟨pmD_195_1, fun _ h => absurd h List.not_mem_nil⟩⟩
theorem pmD_196_0 : pmT_196_0.all (fun e => pmDec prog_14_method_55_code e.1 e.2) = true := by decide +kernel
theorem pmD_196_1 : pmT_196_1.all (fun e => pmDec prog_14_method_55_code e.1 e.2) = true := by decide +kernel
theorem pmD_196_2 : pmT_196_2.all (fun e => pmDec prog_14_method_55_code e.1 e.2) = true := by decide +kernel
theorem pmD_196_3 : pmT_196_3.all (fun e => pmDec prog_14_method_55_code e.1 e.2) = true := by decide +kernel
theorem pmD_196_4 : pmT_196_4.all (fun e => pmDec prog_14_method_55_code e.1 e.2) = true := by decide +kernel
theorem pmD_196_5 : pmT_196_5.all (fun e => pmDec prog_14_method_55_code e.1 e.2) = true := by decide +kernel
theorem pmD_196_6 : pmT_196_6.all (fun e => pmDec prog_14_method_55_code e.1 e.2) = true := by decide +kernel
theorem pmD_196_7 : pmT_196_7.all (fun e => pmDec prog_14_method_55_code e.1 e.2) = true := by decide +kernel
theorem pmD_196 : pmDc (pmI_196, pmT_196) := List.forall_mem_cons.mpr ⟨pmD_196_0, List.forall_mem_cons.mpr ⟨pmD_196_1, List.forall_mem_cons.mpr ⟨pmD_196_2, List.forall_mem_cons.mpr ⟨pmD_196_3, List.forall_mem_cons.mpr ⟨pmD_196_4, List.forall_mem_cons.mpr ⟨pmD_196_5, List.forall_mem_cons.mpr ⟨pmD_196_6, List.forall_mem_cons.mpr ⟨pmD_196_7, fun _ h => absurd h List.not_mem_nil⟩⟩⟩⟩⟩⟩⟩⟩
theorem pmD_197_0 : pmT_197_0.all (fun e => pmDec prog_14_method_66_code e.1 e.2) = true := by decide +kernel
theorem pmD_197_1 : pmT_197_1.all (fun e => pmDec prog_14_method_66_code e.1 e.2) = true := by decide +kernel
theorem pmD_197 : pmDc (pmI_197, pmT_197) := List.forall_mem_cons.mpr ⟨pmD_197_0, List.forall_mem_cons.mpr ⟨pmD_197_1, fun _ h => absurd h List.not_mem_nil⟩⟩
theorem pmD_198_0 : pmT_198_0.all (fun e => pmDec prog_14_method_59_code e.1 e.2) = true := by decide +kernel
theorem pmD_198_1 : pmT_198_1.all (fun e => pmDec prog_14_method_59_code e.1 e.2) = true := by decide +kernel
theorem pmD_198_2 : pmT_198_2.all (fun e => pmDec prog_14_method_59_code e.1 e.2) = true := by decide +kernel
theorem pmD_198_3 : pmT_198_3.all (fun e => pmDec prog_14_method_59_code e.1 e.2) = true := by decide +kernel
theorem pmD_198 : pmDc (pmI_198, pmT_198) := List.forall_mem_cons.mpr ⟨pmD_198_0, List.forall_mem_cons.mpr ⟨pmD_198_1, List.forall_mem_cons.mpr ⟨pmD_198_2, List.forall_mem_cons.mpr ⟨pmD_198_3, fun _ h => absurd h List.not_mem_nil⟩⟩⟩⟩
theorem pmD_199_0 : pmT_199_0.all (fun e => pmDec prog_14_method_58_code e.1 e.2) = true := by decide +kernel
theorem pmD_199_1 : pmT_199_1.all (fun e => pmDec prog_14_method_58_code e.1 e.2) = true := by decide +kernel
theorem pmD_199_2 : pmT_199_2.all (fun e => pmDec prog_14_method_58_code e.1 e.2) = true := by decide +kernel
theorem pmD_199_3 : pmT_199_3.all (fun e => pmDec prog_14_method_58_code e.1 e.2) = true := by decide +kernel
theorem pmD_199_4 : pmT_199_4.all (fun e => pmDec prog_14_method_58_code e.1 e.2) = true := by decide +kernel
theorem pmD_199 : pmDc (pmI_199, pmT_199) := List.forall_mem_cons.mpr ⟨pmD_199_0, List.forall_mem_cons.mpr ⟨pmD_199_1, List.forall_mem_cons.mpr ⟨pmD_199_2, List.forall_mem_cons.mpr ⟨pmD_199_3, List.forall_mem_cons.mpr ⟨pmD_199_4, fun _ h => absurd h List.not_mem_nil⟩⟩⟩⟩⟩
theorem pmD_200_0 : pmT_200_0.all (fun e => pmDec prog_14_method_57_code e.1 e.2) = true := by decide +kernel
theorem pmD_200_1 : pmT_200_1.all (fun e => pmDec prog_14_method_57_code e.1 e.2) = true := by decide +kernel
theorem pmD_200 : pmDc (pmI_200, pmT_200) := List.forall_mem_cons.mpr ⟨pmD_200_0, List.forall_mem_cons.mpr ⟨pmD_200_1, fun _ h => absurd h List.not_mem_nil⟩⟩
theorem pmD_201_0 : pmT_201_0.all (fun e => pmDec prog_14_method_77_code e.1 e.2) = true := by decide +kernel
theorem pmD_201_1 : pmT_201_1.all (fun e => pmDec prog_14_method_77_code e.1 e.2) = true := by decide +kernel
theorem pmD_201_2 : pmT_201_2.all (fun e => pmDec prog_14_method_77_code e.1 e.2) = true := by decide +kernel
theorem pmD_201_3 : pmT_201_3.all (fun e => pmDec prog_14_method_77_code e.1 e.2) = true := by decide +kernel
theorem pmD_201 : pmDc (pmI_201, pmT_201) := List.forall_mem_cons.mpr ⟨pmD_201_0, List.forall_mem_cons.mpr ⟨pmD_201_1, List.forall_mem_cons.mpr ⟨pmD_201_2, List.forall_mem_cons.mpr ⟨pmD_201_3, fun _ h => absurd h List.not_mem_nil⟩⟩⟩⟩
theorem pmD_202_0 : pmT_202_0.all (fun e => pmDec prog_14_method_75_code e.1 e.2) = true := by decide +kernel
theorem pmD_202_1 : pmT_202_1.all (fun e => pmDec prog_14_method_75_code e.1 e.2) = true := by decide +kernel
theorem pmD_202 : pmDc (pmI_202, pmT_202) := List.forall_mem_cons.mpr ⟨pmD_202_0, List.forall_mem_cons.mpr ⟨pmD_202_1, fun _ h => absurd h List.not_mem_nil⟩⟩
theorem pmD_203_0 : pmT_203_0.all (fun e => pmDec prog_14_method_78_code e.1 e.2) = true := by decide +kernel
theorem pmD_203_1 : pmT_203_1.all (fun e => pmDec prog_14_method_78_code e.1 e.2) = true := by decide +kernel
theorem pmD_203_2 : pmT_203_2.all (fun e => pmDec prog_14_method_78_code e.1 e.2) = true := by decide +kernel
theorem pmD_203 : pmDc (pmI_203, pmT_203) := List.forall_mem_cons.mpr ⟨pmD_203_0, List.forall_mem_cons.mpr ⟨pmD_203_1, List.forall_mem_cons.mpr ⟨pmD_203_2, fun _ h => absurd h List.not_mem_nil⟩⟩⟩
theorem pmD_204_0 : pmT_204_0.all (fun e => pmDec prog_14_method_81_code e.1 e.2) = true := by decide +kernel
theorem pmD_204_1 : pmT_204_1.all (fun e => pmDec prog_14_method_81_code e.1 e.2) = true := by decide +kernel
theorem pmD_204_2 : pmT_204_2.all (fun e => pmDec prog_14_method_81_code e.1 e.2) = true := by decide +kernel
theorem pmD_204_3 : pmT_204_3.all (fun e => pmDec prog_14_method_81_code e.1 e.2) = true := by decide +kernel
theorem pmD_204_4 : pmT_204_4.all (fun e => pmDec prog_14_method_81_code e.1 e.2) = true := by decide +kernel
theorem pmD_204_5 : pmT_204_5.all (fun e => pmDec prog_14_method_81_code e.1 e.2) = true := by decide +kernel
theorem pmD_204_6 : pmT_204_6.all (fun e => pmDec prog_14_method_81_code e.1 e.2) = true := by decide +kernel
theorem pmD_204 : pmDc (pmI_204, pmT_204) := List.forall_mem_cons.mpr ⟨pmD_204_0, List.forall_mem_cons.mpr ⟨pmD_204_1, List.forall_mem_cons.mpr ⟨pmD_204_2, List.forall_mem_cons.mpr ⟨pmD_204_3, List.forall_mem_cons.mpr ⟨pmD_204_4, List.forall_mem_cons.mpr ⟨pmD_204_5, List.forall_mem_cons.mpr ⟨pmD_204_6, fun _ h => absurd h List.not_mem_nil⟩⟩⟩⟩⟩⟩⟩
theorem pmD_205_0 : pmT_205_0.all (fun e => pmDec prog_14_method_80_code e.1 e.2) = true := by decide +kernel
theorem pmD_205_1 : pmT_205_1.all (fun e => pmDec prog_14_method_80_code e.1 e.2) = true := by decide +kernel
theorem pmD_205 : pmDc (pmI_205, pmT_205) := List.forall_mem_cons.mpr ⟨pmD_205_0, List.forall_mem_cons.mpr ⟨pmD_205_1, fun _ h => absurd h List.not_mem_nil⟩⟩
theorem pmD_206_0 : pmT_206_0.all (fun e => pmDec prog_14_method_68_code e.1 e.2) = true := by decide +kernel
theorem pmD_206_1 : pmT_206_1.all (fun e => pmDec prog_14_method_68_code e.1 e.2) = true := by decide +kernel
theorem pmD_206_2 : pmT_206_2.all (fun e => pmDec prog_14_method_68_code e.1 e.2) = true := by decide +kernel
theorem pmD_206_3 : pmT_206_3.all (fun e => pmDec prog_14_method_68_code e.1 e.2) = true := by decide +kernel
theorem pmD_206_4 : pmT_206_4.all (fun e => pmDec prog_14_method_68_code e.1 e.2) = true := by decide +kernel
theorem pmD_206_5 : pmT_206_5.all (fun e => pmDec prog_14_method_68_code e.1 e.2) = true := by decide +kernel
theorem pmD_206_6 : pmT_206_6.all (fun e => pmDec prog_14_method_68_code e.1 e.2) = true := by decide +kernel
theorem pmD_206_7 : pmT_206_7.all (fun e => pmDec prog_14_method_68_code e.1 e.2) = true := by decide +kernel
theorem pmD_206 : pmDc (pmI_206, pmT_206) := List.forall_mem_cons.mpr ⟨pmD_206_0, List.forall_mem_cons.mpr ⟨pmD_206_1, List.forall_mem_cons.mpr ⟨pmD_206_2, List.forall_mem_cons.mpr ⟨pmD_206_3, List.forall_mem_cons.mpr ⟨pmD_206_4, List.forall_mem_cons.mpr ⟨pmD_206_5, List.forall_mem_cons.mpr ⟨pmD_206_6, List.forall_mem_cons.mpr ⟨pmD_206_7, fun _ h => absurd h List.not_mem_nil⟩⟩⟩⟩⟩⟩⟩⟩
theorem pmD_207_0 : pmT_207_0.all (fun e => pmDec prog_14_method_67_code e.1 e.2) = true := by decide +kernel
theorem pmD_207_1 : pmT_207_1.all (fun e => pmDec prog_14_method_67_code e.1 e.2) = true := by decide +kernel
theorem pmD_207 : pmDc (pmI_207, pmT_207) := List.forall_mem_cons.mpr ⟨pmD_207_0, List.forall_mem_cons.mpr ⟨pmD_207_1, fun _ h => absurd h List.not_mem_nil⟩⟩
theorem pmD_208_0 : pmT_208_0.all (fun e => pmDec prog_14_method_79_code e.1 e.2) = true := by decide +kernel
theorem pmD_208_1 : pmT_208_1.all (fun e => pmDec prog_14_method_79_code e.1 e.2) = true := by decide +kernel
theorem pmD_208_2 : pmT_208_2.all (fun e => pmDec prog_14_method_79_code e.1 e.2) = true := by decide +kernel
theorem pmD_208_3 : pmT_208_3.all (fun e => pmDec prog_14_method_79_code e.1 e.2) = true := by decide +kernel
theorem pmD_208_4 : pmT_208_4.all (fun e => pmDec prog_14_method_79_code e.1 e.2) = true := by decide +kernel
theorem pmD_208 : pmDc (pmI_208, pmT_208) := List.forall_mem_cons.mpr ⟨pmD_208_0, List.forall_mem_cons.mpr ⟨pmD_208_1, List.forall_mem_cons.mpr ⟨pmD_208_2, List.forall_mem_cons.mpr ⟨pmD_208_3, List.forall_mem_cons.mpr ⟨pmD_208_4, fun _ h => absurd h List.not_mem_nil⟩⟩⟩⟩⟩
theorem pmD_209_0 : pmT_209_0.all (fun e => pmDec prog_14_method_71_code e.1 e.2) = true := by decide +kernel
theorem pmD_209_1 : pmT_209_1.all (fun e => pmDec prog_14_method_71_code e.1 e.2) = true := by decide +kernel
theorem pmD_209_2 : pmT_209_2.all (fun e => pmDec prog_14_method_71_code e.1 e.2) = true := by decide +kernel
theorem pmD_209_3 : pmT_209_3.all (fun e => pmDec prog_14_method_71_code e.1 e.2) = true := by decide +kernel
theorem pmD_209_4 : pmT_209_4.all (fun e => pmDec prog_14_method_71_code e.1 e.2) = true := by decide +kernel
theorem pmD_209_5 : pmT_209_5.all (fun e => pmDec prog_14_method_71_code e.1 e.2) = true := by decide +kernel
theorem pmD_209_6 : pmT_209_6.all (fun e => pmDec prog_14_method_71_code e.1 e.2) = true := by decide +kernel
theorem pmD_209 : pmDc (pmI_209, pmT_209) := List.forall_mem_cons.mpr ⟨pmD_209_0, List.forall_mem_cons.mpr ⟨pmD_209_1, List.forall_mem_cons.mpr ⟨pmD_209_2, List.forall_mem_cons.mpr ⟨pmD_209_3, List.forall_mem_cons.mpr ⟨pmD_209_4, List.forall_mem_cons.mpr ⟨pmD_209_5, List.forall_mem_cons.mpr ⟨pmD_209_6, fun _ h => absurd h List.not_mem_nil⟩⟩⟩⟩⟩⟩⟩
theorem pmD_210_0 : pmT_210_0.all (fun e => pmDec prog_14_method_69_code e.1 e.2) = true := by decide +kernel
theorem pmD_210_1 : pmT_210_1.all (fun e => pmDec prog_14_method_69_code e.1 e.2) = true := by decide +kernel
theorem pmD_210_2 : pmT_210_2.all (fun e => pmDec prog_14_method_69_code e.1 e.2) = true := by decide +kernel
theorem pmD_210_3 : pmT_210_3.all (fun e => pmDec prog_14_method_69_code e.1 e.2) = true := by decide +kernel
theorem pmD_210_4 : pmT_210_4.all (fun e => pmDec prog_14_method_69_code e.1 e.2) = true := by decide +kernel
theorem pmD_210 : pmDc (pmI_210, pmT_210) := List.forall_mem_cons.mpr ⟨pmD_210_0, List.forall_mem_cons.mpr ⟨pmD_210_1, List.forall_mem_cons.mpr ⟨pmD_210_2, List.forall_mem_cons.mpr ⟨pmD_210_3, List.forall_mem_cons.mpr ⟨pmD_210_4, fun _ h => absurd h List.not_mem_nil⟩⟩⟩⟩⟩
theorem pmD_211_0 : pmT_211_0.all (fun e => pmDec prog_14_method_70_code e.1 e.2) = true := by decide +kernel
theorem pmD_211_1 : pmT_211_1.all (fun e => pmDec prog_14_method_70_code e.1 e.2) = true := by decide +kernel
theorem pmD_211_2 : pmT_211_2.all (fun e => pmDec prog_14_method_70_code e.1 e.2) = true := by decide +kernel
theorem pmD_211_3 : pmT_211_3.all (fun e => pmDec prog_14_method_70_code e.1 e.2) = true := by decide +kernel
theorem pmD_211 : pmDc (pmI_211, pmT_211) := List.forall_mem_cons.mpr ⟨pmD_211_0, List.forall_mem_cons.mpr ⟨pmD_211_1, List.forall_mem_cons.mpr ⟨pmD_211_2, List.forall_mem_cons.mpr ⟨pmD_211_3, fun _ h => absurd h List.not_mem_nil⟩⟩⟩⟩
theorem pmD_212_0 : pmT_212_0.all (fun e => pmDec prog_14_method_73_code e.1 e.2) = true := by decide +kernel
theorem pmD_212_1 : pmT_212_1.all (fun e => pmDec prog_14_method_73_code e.1 e.2) = true := by decide +kernel
theorem pmD_212_2 : pmT_212_2.all (fun e => pmDec prog_14_method_73_code e.1 e.2) = true := by decide +kernel
theorem pmD_212_3 : pmT_212_3.all (fun e => pmDec prog_14_method_73_code e.1 e.2) = true := by decide +kernel
theorem pmD_212_4 : pmT_212_4.all (fun e => pmDec prog_14_method_73_code e.1 e.2) = true := by decide +kernel
theorem pmD_212_5 : pmT_212_5.all (fun e => pmDec prog_14_method_73_code e.1 e.2) = true := by decide +kernel
theorem pmD_212_6 : pmT_212_6.all (fun e => pmDec prog_14_method_73_code e.1 e.2) = true := by decide +kernel
theorem pmD_212_7 : pmT_212_7.all (fun e => pmDec prog_14_method_73_code e.1 e.2) = true := by decide +kernel
theorem pmD_212_8 : pmT_212_8.all (fun e => pmDec prog_14_method_73_code e.1 e.2) = true := by decide +kernel
theorem pmD_212_9 : pmT_212_9.all (fun e => pmDec prog_14_method_73_code e.1 e.2) = true := by decide +kernel
theorem pmD_212_10 : pmT_212_10.all (fun e => pmDec prog_14_method_73_code e.1 e.2) = true := by decide +kernel
theorem pmD_212_11 : pmT_212_11.all (fun e => pmDec prog_14_method_73_code e.1 e.2) = true := by decide +kernel
theorem pmD_212 : pmDc (pmI_212, pmT_212) := List.forall_mem_cons.mpr ⟨pmD_212_0, List.forall_mem_cons.mpr ⟨pmD_212_1, List.forall_mem_cons.mpr ⟨pmD_212_2, List.forall_mem_cons.mpr ⟨pmD_212_3, List.forall_mem_cons.mpr ⟨pmD_212_4, List.forall_mem_cons.mpr ⟨pmD_212_5, List.forall_mem_cons.mpr ⟨pmD_212_6, List.forall_mem_cons.mpr ⟨pmD_212_7, List.forall_mem_cons.mpr ⟨pmD_212_8, List.forall_mem_cons.mpr ⟨pmD_212_9, List.forall_mem_cons.mpr ⟨pmD_212_10, List.forall_mem_cons.mpr ⟨pmD_212_11, fun _ h => absurd h List.not_mem_nil⟩⟩⟩⟩⟩⟩⟩⟩⟩⟩⟩⟩
theorem pmD_213_0 : pmT_213_0.all (fun e => pmDec prog_14_method_72_code e.1 e.2) = true := by decide +kernel
theorem pmD_213_1 : pmT_213_1.all (fun e => pmDec prog_14_method_72_code e.1 e.2) = true := by decide +kernel
theorem pmD_213_2 : pmT_213_2.all (fun e => pmDec prog_14_method_72_code e.1 e.2) = true := by decide +kernel
theorem pmD_213_3 : pmT_213_3.all (fun e => pmDec prog_14_method_72_code e.1 e.2) = true := by decide +kernel
theorem pmD_213 : pmDc (pmI_213, pmT_213) := List.forall_mem_cons.mpr ⟨pmD_213_0, List.forall_mem_cons.mpr ⟨pmD_213_1, List.forall_mem_cons.mpr ⟨pmD_213_2, List.forall_mem_cons.mpr ⟨pmD_213_3, fun _ h => absurd h List.not_mem_nil⟩⟩⟩⟩
theorem pmD_214_0 : pmT_214_0.all (fun e => pmDec prog_14_method_74_code e.1 e.2) = true := by decide +kernel
theorem pmD_214_1 : pmT_214_1.all (fun e => pmDec prog_14_method_74_code e.1 e.2) = true := by decide +kernel
theorem pmD_214_2 : pmT_214_2.all (fun e => pmDec prog_14_method_74_code e.1 e.2) = true := by decide +kernel
theorem pmD_214_3 : pmT_214_3.all (fun e => pmDec prog_14_method_74_code e.1 e.2) = true := by decide +kernel
theorem pmD_214_4 : pmT_214_4.all (fun e => pmDec prog_14_method_74_code e.1 e.2) = true := by decide +kernel
theorem pmD_214_5 : pmT_214_5.all (fun e => pmDec prog_14_method_74_code e.1 e.2) = true := by decide +kernel
theorem pmD_214_6 : pmT_214_6.all (fun e => pmDec prog_14_method_74_code e.1 e.2) = true := by decide +kernel
theorem pmD_214 : pmDc (pmI_214, pmT_214) := List.forall_mem_cons.mpr ⟨pmD_214_0, List.forall_mem_cons.mpr ⟨pmD_214_1, List.forall_mem_cons.mpr ⟨pmD_214_2, List.forall_mem_cons.mpr ⟨pmD_214_3, List.forall_mem_cons.mpr ⟨pmD_214_4, List.forall_mem_cons.mpr ⟨pmD_214_5, List.forall_mem_cons.mpr ⟨pmD_214_6, fun _ h => absurd h List.not_mem_nil⟩⟩⟩⟩⟩⟩⟩
theorem pmD_215_0 : pmT_215_0.all (fun e => pmDec prog_14_method_88_code e.1 e.2) = true := by decide +kernel
theorem pmD_215 : pmDc (pmI_215, pmT_215) := List.forall_mem_cons.mpr ⟨pmD_215_0, fun _ h => absurd h List.not_mem_nil⟩
theorem pmD_216_0 : pmT_216_0.all (fun e => pmDec prog_14_method_87_code e.1 e.2) = true := by decide +kernel
theorem pmD_216_1 : pmT_216_1.all (fun e => pmDec prog_14_method_87_code e.1 e.2) = true := by decide +kernel
theorem pmD_216 : pmDc (pmI_216, pmT_216) := List.forall_mem_cons.mpr ⟨pmD_216_0, List.forall_mem_cons.mpr ⟨pmD_216_1, fun _ h => absurd h List.not_mem_nil⟩⟩
theorem pmD_217_0 : pmT_217_0.all (fun e => pmDec prog_14_method_84_code e.1 e.2) = true := by decide +kernel
theorem pmD_217_1 : pmT_217_1.all (fun e => pmDec prog_14_method_84_code e.1 e.2) = true := by decide +kernel
theorem pmD_217_2 : pmT_217_2.all (fun e => pmDec prog_14_method_84_code e.1 e.2) = true := by decide +kernel
theorem pmD_217 : pmDc (pmI_217, pmT_217) := List.forall_mem_cons.mpr ⟨pmD_217_0, List.forall_mem_cons.mpr ⟨pmD_217_1, List.forall_mem_cons.mpr ⟨pmD_217_2, fun _ h => absurd h List.not_mem_nil⟩⟩⟩
theorem pmD_218_0 : pmT_218_0.all (fun e => pmDec prog_14_method_82_code e.1 e.2) = true := by decide +kernel
theorem pmD_218_1 : pmT_218_1.all (fun e => pmDec prog_14_method_82_code e.1 e.2) = true := by decide +kernel
theorem pmD_218_2 : pmT_218_2.all (fun e => pmDec prog_14_method_82_code e.1 e.2) = true := by decide +kernel
theorem pmD_218 : pmDc (pmI_218, pmT_218) := List.forall_mem_cons.mpr ⟨pmD_218_0, List.forall_mem_cons.mpr ⟨pmD_218_1, List.forall_mem_cons.mpr ⟨pmD_218_2, fun _ h => absurd h List.not_mem_nil⟩⟩⟩
theorem pmD_219_0 : pmT_219_0.all (fun e => pmDec prog_14_method_83_code e.1 e.2) = true := by decide +kernel
theorem pmD_219_1 : pmT_219_1.all (fun e => pmDec prog_14_method_83_code e.1 e.2) = true := by decide +kernel
theorem pmD_219_2 : pmT_219_2.all (fun e => pmDec prog_14_method_83_code e.1 e.2) = true := by decide +kernel
theorem pmD_219 : pmDc (pmI_219, pmT_219) := List.forall_mem_cons.mpr ⟨pmD_219_0, List.forall_mem_cons.mpr ⟨pmD_219_1, List.forall_mem_cons.mpr ⟨pmD_219_2, fun _ h => absurd h List.not_mem_nil⟩⟩⟩
theorem pmD_220_0 : pmT_220_0.all (fun e => pmDec prog_14_method_85_code e.1 e.2) = true := by decide +kernel
theorem pmD_220_1 : pmT_220_1.all (fun e => pmDec prog_14_method_85_code e.1 e.2) = true := by decide +kernel
theorem pmD_220 : pmDc (pmI_220, pmT_220) := List.forall_mem_cons.mpr ⟨pmD_220_0, List.forall_mem_cons.mpr ⟨pmD_220_1, fun _ h => absurd h List.not_mem_nil⟩⟩
theorem pmD_221_0 : pmT_221_0.all (fun e => pmDec prog_14_method_86_code e.1 e.2) = true := by decide +kernel
theorem pmD_221_1 : pmT_221_1.all (fun e => pmDec prog_14_method_86_code e.1 e.2) = true := by decide +kernel
theorem pmD_221_2 : pmT_221_2.all (fun e => pmDec prog_14_method_86_code e.1 e.2) = true := by decide +kernel
theorem pmD_221_3 : pmT_221_3.all (fun e => pmDec prog_14_method_86_code e.1 e.2) = true := by decide +kernel
theorem pmD_221 : pmDc (pmI_221, pmT_221) := List.forall_mem_cons.mpr ⟨pmD_221_0, List.forall_mem_cons.mpr ⟨pmD_221_1, List.forall_mem_cons.mpr ⟨pmD_221_2, List.forall_mem_cons.mpr ⟨pmD_221_3, fun _ h => absurd h List.not_mem_nil⟩⟩⟩⟩
theorem pmD_222_0 : pmT_222_0.all (fun e => pmDec prog_14_method_89_code e.1 e.2) = true := by decide +kernel
theorem pmD_222_1 : pmT_222_1.all (fun e => pmDec prog_14_method_89_code e.1 e.2) = true := by decide +kernel
theorem pmD_222 : pmDc (pmI_222, pmT_222) := List.forall_mem_cons.mpr ⟨pmD_222_0, List.forall_mem_cons.mpr ⟨pmD_222_1, fun _ h => absurd h List.not_mem_nil⟩⟩
theorem pmD_223_0 : pmT_223_0.all (fun e => pmDec prog_14_method_94_code e.1 e.2) = true := by decide +kernel
theorem pmD_223_1 : pmT_223_1.all (fun e => pmDec prog_14_method_94_code e.1 e.2) = true := by decide +kernel
theorem pmD_223_2 : pmT_223_2.all (fun e => pmDec prog_14_method_94_code e.1 e.2) = true := by decide +kernel
theorem pmD_223 : pmDc (pmI_223, pmT_223) := List.forall_mem_cons.mpr ⟨pmD_223_0, List.forall_mem_cons.mpr ⟨pmD_223_1, List.forall_mem_cons.mpr ⟨pmD_223_2, fun _ h => absurd h List.not_mem_nil⟩⟩⟩
theorem pmD_224_0 : pmT_224_0.all (fun e => pmDec prog_14_method_76_code e.1 e.2) = true := by decide +kernel
theorem pmD_224 : pmDc (pmI_224, pmT_224) := List.forall_mem_cons.mpr ⟨pmD_224_0, fun _ h => absurd h List.not_mem_nil⟩
theorem pmD_225_0 : pmT_225_0.all (fun e => pmDec prog_14_method_91_code e.1 e.2) = true := by decide +kernel
theorem pmD_225_1 : pmT_225_1.all (fun e => pmDec prog_14_method_91_code e.1 e.2) = true := by decide +kernel
theorem pmD_225 : pmDc (pmI_225, pmT_225) := List.forall_mem_cons.mpr ⟨pmD_225_0, List.forall_mem_cons.mpr ⟨pmD_225_1, fun _ h => absurd h List.not_mem_nil⟩⟩
theorem pmD_226_0 : pmT_226_0.all (fun e => pmDec prog_14_method_90_code e.1 e.2) = true := by decide +kernel
theorem pmD_226_1 : pmT_226_1.all (fun e => pmDec prog_14_method_90_code e.1 e.2) = true := by decide +kernel
theorem pmD_226_2 : pmT_226_2.all (fun e => pmDec prog_14_method_90_code e.1 e.2) = true := by decide +kernel
theorem pmD_226 : pmDc (pmI_226, pmT_226) := List.forall_mem_cons.mpr ⟨pmD_226_0, List.forall_mem_cons.mpr ⟨pmD_226_1, List.forall_mem_cons.mpr ⟨pmD_226_2, fun _ h => absurd h List.not_mem_nil⟩⟩⟩
theorem pmD_227_0 : pmT_227_0.all (fun e => pmDec prog_14_method_4_code e.1 e.2) = true := by decide +kernel
theorem pmD_227 : pmDc (pmI_227, pmT_227) := List.forall_mem_cons.mpr ⟨pmD_227_0, fun _ h => absurd h List.not_mem_nil⟩
theorem pmD_228_0 : pmT_228_0.all (fun e => pmDec prog_14_method_93_code e.1 e.2) = true := by decide +kernel
theorem pmD_228_1 : pmT_228_1.all (fun e => pmDec prog_14_method_93_code e.1 e.2) = true := by decide +kernel
theorem pmD_228 : pmDc (pmI_228, pmT_228) := List.forall_mem_cons.mpr ⟨pmD_228_0, List.forall_mem_cons.mpr ⟨pmD_228_1, fun _ h => absurd h List.not_mem_nil⟩⟩
theorem pmD_229_0 : pmT_229_0.all (fun e => pmDec prog_14_method_92_code e.1 e.2) = true := by decide +kernel
theorem pmD_229_1 : pmT_229_1.all (fun e => pmDec prog_14_method_92_code e.1 e.2) = true := by decide +kernel
theorem pmD_229_2 : pmT_229_2.all (fun e => pmDec prog_14_method_92_code e.1 e.2) = true := by decide +kernel
theorem pmD_229_3 : pmT_229_3.all (fun e => pmDec prog_14_method_92_code e.1 e.2) = true := by decide +kernel
theorem pmD_229 : pmDc (pmI_229, pmT_229) := List.forall_mem_cons.mpr ⟨pmD_229_0, List.forall_mem_cons.mpr ⟨pmD_229_1, List.forall_mem_cons.mpr ⟨pmD_229_2, List.forall_mem_cons.mpr ⟨pmD_229_3, fun _ h => absurd h List.not_mem_nil⟩⟩⟩⟩
theorem pmD_230_0 : pmT_230_0.all (fun e => pmDec prog_14_method_95_code e.1 e.2) = true := by decide +kernel
theorem pmD_230_1 : pmT_230_1.all (fun e => pmDec prog_14_method_95_code e.1 e.2) = true := by decide +kernel
theorem pmD_230 : pmDc (pmI_230, pmT_230) := List.forall_mem_cons.mpr ⟨pmD_230_0, List.forall_mem_cons.mpr ⟨pmD_230_1, fun _ h => absurd h List.not_mem_nil⟩⟩
theorem pmD_231_0 : pmT_231_0.all (fun e => pmDec prog_14_method_96_code e.1 e.2) = true := by decide +kernel
theorem pmD_231_1 : pmT_231_1.all (fun e => pmDec prog_14_method_96_code e.1 e.2) = true := by decide +kernel
theorem pmD_231_2 : pmT_231_2.all (fun e => pmDec prog_14_method_96_code e.1 e.2) = true := by decide +kernel
theorem pmD_231_3 : pmT_231_3.all (fun e => pmDec prog_14_method_96_code e.1 e.2) = true := by decide +kernel
theorem pmD_231_4 : pmT_231_4.all (fun e => pmDec prog_14_method_96_code e.1 e.2) = true := by decide +kernel
theorem pmD_231_5 : pmT_231_5.all (fun e => pmDec prog_14_method_96_code e.1 e.2) = true := by decide +kernel
theorem pmD_231_6 : pmT_231_6.all (fun e => pmDec prog_14_method_96_code e.1 e.2) = true := by decide +kernel
theorem pmD_231_7 : pmT_231_7.all (fun e => pmDec prog_14_method_96_code e.1 e.2) = true := by decide +kernel
theorem pmD_231 : pmDc (pmI_231, pmT_231) := List.forall_mem_cons.mpr ⟨pmD_231_0, List.forall_mem_cons.mpr ⟨pmD_231_1, List.forall_mem_cons.mpr ⟨pmD_231_2, List.forall_mem_cons.mpr ⟨pmD_231_3, List.forall_mem_cons.mpr ⟨pmD_231_4, List.forall_mem_cons.mpr ⟨pmD_231_5, List.forall_mem_cons.mpr ⟨pmD_231_6, List.forall_mem_cons.mpr ⟨pmD_231_7, fun _ h => absurd h List.not_mem_nil⟩⟩⟩⟩⟩⟩⟩⟩
theorem pmD_232_0 : pmT_232_0.all (fun e => pmDec prog_14_method_100_code e.1 e.2) = true := by decide +kernel
theorem pmD_232_1 : pmT_232_1.all (fun e => pmDec prog_14_method_100_code e.1 e.2) = true := by decide +kernel
theorem pmD_232_2 : pmT_232_2.all (fun e => pmDec prog_14_method_100_code e.1 e.2) = true := by decide +kernel
theorem pmD_232_3 : pmT_232_3.all (fun e => pmDec prog_14_method_100_code e.1 e.2) = true := by decide +kernel
theorem pmD_232 : pmDc (pmI_232, pmT_232) := List.forall_mem_cons.mpr ⟨pmD_232_0, List.forall_mem_cons.mpr ⟨pmD_232_1, List.forall_mem_cons.mpr ⟨pmD_232_2, List.forall_mem_cons.mpr ⟨pmD_232_3, fun _ h => absurd h List.not_mem_nil⟩⟩⟩⟩
theorem pmD_233_0 : pmT_233_0.all (fun e => pmDec prog_14_method_98_code e.1 e.2) = true := by decide +kernel
theorem pmD_233_1 : pmT_233_1.all (fun e => pmDec prog_14_method_98_code e.1 e.2) = true := by decide +kernel
theorem pmD_233 : pmDc (pmI_233, pmT_233) := List.forall_mem_cons.mpr ⟨pmD_233_0, List.forall_mem_cons.mpr ⟨pmD_233_1, fun _ h => absurd h List.not_mem_nil⟩⟩
theorem pmD_234_0 : pmT_234_0.all (fun e => pmDec prog_14_method_97_code e.1 e.2) = true := by decide +kernel
theorem pmD_234_1 : pmT_234_1.all (fun e => pmDec prog_14_method_97_code e.1 e.2) = true := by decide +kernel
theorem pmD_234 : pmDc (pmI_234, pmT_234) := List.forall_mem_cons.mpr ⟨pmD_234_0, List.forall_mem_cons.mpr ⟨pmD_234_1, fun _ h => absurd h List.not_mem_nil⟩⟩
theorem pmD_235_0 : pmT_235_0.all (fun e => pmDec prog_14_method_99_code e.1 e.2) = true := by decide +kernel
theorem pmD_235 : pmDc (pmI_235, pmT_235) := List.forall_mem_cons.mpr ⟨pmD_235_0, fun _ h => absurd h List.not_mem_nil⟩
theorem pmD_236_0 : pmT_236_0.all (fun e => pmDec prog_14_method_101_code e.1 e.2) = true := by decide +kernel
theorem pmD_236_1 : pmT_236_1.all (fun e => pmDec prog_14_method_101_code e.1 e.2) = true := by decide +kernel
theorem pmD_236_2 : pmT_236_2.all (fun e => pmDec prog_14_method_101_code e.1 e.2) = true := by decide +kernel
theorem pmD_236_3 : pmT_236_3.all (fun e => pmDec prog_14_method_101_code e.1 e.2) = true := by decide +kernel
theorem pmD_236 : pmDc (pmI_236, pmT_236) := List.forall_mem_cons.mpr ⟨pmD_236_0, List.forall_mem_cons.mpr ⟨pmD_236_1, List.forall_mem_cons.mpr ⟨pmD_236_2, List.forall_mem_cons.mpr ⟨pmD_236_3, fun _ h => absurd h List.not_mem_nil⟩⟩⟩⟩
theorem pmD_237_0 : pmT_237_0.all (fun e => pmDec prog_14_method_103_code e.1 e.2) = true := by decide +kernel
theorem pmD_237_1 : pmT_237_1.all (fun e => pmDec prog_14_method_103_code e.1 e.2) = true := by decide +kernel
theorem pmD_237_2 : pmT_237_2.all (fun e => pmDec prog_14_method_103_code e.1 e.2) = true := by decide +kernel
theorem pmD_237_3 : pmT_237_3.all (fun e => pmDec prog_14_method_103_code e.1 e.2) = true := by decide +kernel
theorem pmD_237_4 : pmT_237_4.all (fun e => pmDec prog_14_method_103_code e.1 e.2) = true := by decide +kernel
theorem pmD_237_5 : pmT_237_5.all (fun e => pmDec prog_14_method_103_code e.1 e.2) = true := by decide +kernel
theorem pmD_237_6 : pmT_237_6.all (fun e => pmDec prog_14_method_103_code e.1 e.2) = true := by decide +kernel
theorem pmD_237 : pmDc (pmI_237, pmT_237) := List.forall_mem_cons.mpr ⟨pmD_237_0, List.forall_mem_cons.mpr ⟨pmD_237_1, List.forall_mem_cons.mpr ⟨pmD_237_2, List.forall_mem_cons.mpr ⟨pmD_237_3, List.forall_mem_cons.mpr ⟨pmD_237_4, List.forall_mem_cons.mpr ⟨pmD_237_5, List.forall_mem_cons.mpr ⟨pmD_237_6, fun _ h => absurd h List.not_mem_nil⟩⟩⟩⟩⟩⟩⟩
theorem pmD_238_0 : pmT_238_0.all (fun e => pmDec prog_14_method_102_code e.1 e.2) = true := by decide +kernel
theorem pmD_238_1 : pmT_238_1.all (fun e => pmDec prog_14_method_102_code e.1 e.2) = true := by decide +kernel
theorem pmD_238_2 : pmT_238_2.all (fun e => pmDec prog_14_method_102_code e.1 e.2) = true := by decide +kernel
theorem pmD_238_3 : pmT_238_3.all (fun e => pmDec prog_14_method_102_code e.1 e.2) = true := by decide +kernel
theorem pmD_238_4 : pmT_238_4.all (fun e => pmDec prog_14_method_102_code e.1 e.2) = true := by decide +kernel
theorem pmD_238 : pmDc (pmI_238, pmT_238) := List.forall_mem_cons.mpr ⟨pmD_238_0, List.forall_mem_cons.mpr ⟨pmD_238_1, List.forall_mem_cons.mpr ⟨pmD_238_2, List.forall_mem_cons.mpr ⟨pmD_238_3, List.forall_mem_cons.mpr ⟨pmD_238_4, fun _ h => absurd h List.not_mem_nil⟩⟩⟩⟩⟩
theorem pmD_239_0 : pmT_239_0.all (fun e => pmDec prog_14_method_104_code e.1 e.2) = true := by decide +kernel
theorem pmD_239_1 : pmT_239_1.all (fun e => pmDec prog_14_method_104_code e.1 e.2) = true := by decide +kernel
theorem pmD_239_2 : pmT_239_2.all (fun e => pmDec prog_14_method_104_code e.1 e.2) = true := by decide +kernel
theorem pmD_239_3 : pmT_239_3.all (fun e => pmDec prog_14_method_104_code e.1 e.2) = true := by decide +kernel
theorem pmD_239_4 : pmT_239_4.all (fun e => pmDec prog_14_method_104_code e.1 e.2) = true := by decide +kernel
theorem pmD_239_5 : pmT_239_5.all (fun e => pmDec prog_14_method_104_code e.1 e.2) = true := by decide +kernel
theorem pmD_239_6 : pmT_239_6.all (fun e => pmDec prog_14_method_104_code e.1 e.2) = true := by decide +kernel
theorem pmD_239 : pmDc (pmI_239, pmT_239) := List.forall_mem_cons.mpr ⟨pmD_239_0, List.forall_mem_cons.mpr ⟨pmD_239_1, List.forall_mem_cons.mpr ⟨pmD_239_2, List.forall_mem_cons.mpr ⟨pmD_239_3, List.forall_mem_cons.mpr ⟨pmD_239_4, List.forall_mem_cons.mpr ⟨pmD_239_5, List.forall_mem_cons.mpr ⟨pmD_239_6, fun _ h => absurd h List.not_mem_nil⟩⟩⟩⟩⟩⟩⟩
theorem pmD_240_0 : pmT_240_0.all (fun e => pmDec prog_14_method_105_code e.1 e.2) = true := by decide +kernel
theorem pmD_240_1 : pmT_240_1.all (fun e => pmDec prog_14_method_105_code e.1 e.2) = true := by decide +kernel
theorem pmD_240_2 : pmT_240_2.all (fun e => pmDec prog_14_method_105_code e.1 e.2) = true := by decide +kernel
theorem pmD_240_3 : pmT_240_3.all (fun e => pmDec prog_14_method_105_code e.1 e.2) = true := by decide +kernel
theorem pmD_240 : pmDc (pmI_240, pmT_240) := List.forall_mem_cons.mpr ⟨pmD_240_0, List.forall_mem_cons.mpr ⟨pmD_240_1, List.forall_mem_cons.mpr ⟨pmD_240_2, List.forall_mem_cons.mpr ⟨pmD_240_3, fun _ h => absurd h List.not_mem_nil⟩⟩⟩⟩
theorem pmD_241_0 : pmT_241_0.all (fun e => pmDec prog_14_method_107_code e.1 e.2) = true := by decide +kernel
theorem pmD_241_1 : pmT_241_1.all (fun e => pmDec prog_14_method_107_code e.1 e.2) = true := by decide +kernel
theorem pmD_241_2 : pmT_241_2.all (fun e => pmDec prog_14_method_107_code e.1 e.2) = true := by decide +kernel
theorem pmD_241_3 : pmT_241_3.all (fun e => pmDec prog_14_method_107_code e.1 e.2) = true := by decide +kernel
theorem pmD_241_4 : pmT_241_4.all (fun e => pmDec prog_14_method_107_code e.1 e.2) = true := by decide +kernel
theorem pmD_241_5 : pmT_241_5.all (fun e => pmDec prog_14_method_107_code e.1 e.2) = true := by decide +kernel
theorem pmD_241 : pmDc (pmI_241, pmT_241) := List.forall_mem_cons.mpr ⟨pmD_241_0, List.forall_mem_cons.mpr ⟨pmD_241_1, List.forall_mem_cons.mpr ⟨pmD_241_2, List.forall_mem_cons.mpr ⟨pmD_241_3, List.forall_mem_cons.mpr ⟨pmD_241_4, List.forall_mem_cons.mpr ⟨pmD_241_5, fun _ h => absurd h List.not_mem_nil⟩⟩⟩⟩⟩⟩
theorem pmD_242_0 : pmT_242_0.all (fun e => pmDec prog_14_method_106_code e.1 e.2) = true := by decide +kernel
theorem pmD_242_1 : pmT_242_1.all (fun e => pmDec prog_14_method_106_code e.1 e.2) = true := by decide +kernel
theorem pmD_242 : pmDc (pmI_242, pmT_242) := List.forall_mem_cons.mpr ⟨pmD_242_0, List.forall_mem_cons.mpr ⟨pmD_242_1, fun _ h => absurd h List.not_mem_nil⟩⟩
theorem pmD_243_0 : pmT_243_0.all (fun e => pmDec prog_14_method_108_code e.1 e.2) = true := by decide +kernel
theorem pmD_243 : pmDc (pmI_243, pmT_243) := List.forall_mem_cons.mpr ⟨pmD_243_0, fun _ h => absurd h List.not_mem_nil⟩
theorem pmD_244_0 : pmT_244_0.all (fun e => pmDec prog_14_method_109_code e.1 e.2) = true := by decide +kernel
theorem pmD_244 : pmDc (pmI_244, pmT_244) := List.forall_mem_cons.mpr ⟨pmD_244_0, fun _ h => absurd h List.not_mem_nil⟩
theorem pmD_245_0 : pmT_245_0.all (fun e => pmDec prog_14_method_110_code e.1 e.2) = true := by decide +kernel
theorem pmD_245_1 : pmT_245_1.all (fun e => pmDec prog_14_method_110_code e.1 e.2) = true := by decide +kernel
theorem pmD_245_2 : pmT_245_2.all (fun e => pmDec prog_14_method_110_code e.1 e.2) = true := by decide +kernel
theorem pmD_245_3 : pmT_245_3.all (fun e => pmDec prog_14_method_110_code e.1 e.2) = true := by decide +kernel
theorem pmD_245_4 : pmT_245_4.all (fun e => pmDec prog_14_method_110_code e.1 e.2) = true := by decide +kernel
theorem pmD_245_5 : pmT_245_5.all (fun e => pmDec prog_14_method_110_code e.1 e.2) = true := by decide +kernel
theorem pmD_245_6 : pmT_245_6.all (fun e => pmDec prog_14_method_110_code e.1 e.2) = true := by decide +kernel
theorem pmD_245 : pmDc (pmI_245, pmT_245) := List.forall_mem_cons.mpr ⟨pmD_245_0, List.forall_mem_cons.mpr ⟨pmD_245_1, List.forall_mem_cons.mpr ⟨pmD_245_2, List.forall_mem_cons.mpr ⟨pmD_245_3, List.forall_mem_cons.mpr ⟨pmD_245_4, List.forall_mem_cons.mpr ⟨pmD_245_5, List.forall_mem_cons.mpr ⟨pmD_245_6, fun _ h => absurd h List.not_mem_nil⟩⟩⟩⟩⟩⟩⟩
theorem pmD_246_0 : pmT_246_0.all (fun e => pmDec code e.1 e.2) = true := by decide +kernel
theorem pmD_246_1 : pmT_246_1.all (fun e => pmDec code e.1 e.2) = true := by decide +kernel
theorem pmD_246_2 : pmT_246_2.all (fun e => pmDec code e.1 e.2) = true := by decide +kernel
theorem pmD_246_3 : pmT_246_3.all (fun e => pmDec code e.1 e.2) = true := by decide +kernel
theorem pmD_246_4 : pmT_246_4.all (fun e => pmDec code e.1 e.2) = true := by decide +kernel
theorem pmD_246_5 : pmT_246_5.all (fun e => pmDec code e.1 e.2) = true := by decide +kernel
theorem pmD_246_6 : pmT_246_6.all (fun e => pmDec code e.1 e.2) = true := by decide +kernel
theorem pmD_246_7 : pmT_246_7.all (fun e => pmDec code e.1 e.2) = true := by decide +kernel
theorem pmD_246_8 : pmT_246_8.all (fun e => pmDec code e.1 e.2) = true := by decide +kernel
theorem pmD_246_9 : pmT_246_9.all (fun e => pmDec code e.1 e.2) = true := by decide +kernel
theorem pmD_246_10 : pmT_246_10.all (fun e => pmDec code e.1 e.2) = true := by decide +kernel
theorem pmD_246_11 : pmT_246_11.all (fun e => pmDec code e.1 e.2) = true := by decide +kernel
theorem pmD_246_12 : pmT_246_12.all (fun e => pmDec code e.1 e.2) = true := by decide +kernel
theorem pmD_246_13 : pmT_246_13.all (fun e => pmDec code e.1 e.2) = true := by decide +kernel
theorem pmD_246_14 : pmT_246_14.all (fun e => pmDec code e.1 e.2) = true := by decide +kernel
theorem pmD_246_15 : pmT_246_15.all (fun e => pmDec code e.1 e.2) = true := by decide +kernel
theorem pmD_246_16 : pmT_246_16.all (fun e => pmDec code e.1 e.2) = true := by decide +kernel
theorem pmD_246_17 : pmT_246_17.all (fun e => pmDec code e.1 e.2) = true := by decide +kernel
theorem pmD_246_18 : pmT_246_18.all (fun e => pmDec code e.1 e.2) = true := by decide +kernel
theorem pmD_246_19 : pmT_246_19.all (fun e => pmDec code e.1 e.2) = true := by decide +kernel
theorem pmD_246_20 : pmT_246_20.all (fun e => pmDec code e.1 e.2) = true := by decide +kernel
theorem pmD_246_21 : pmT_246_21.all (fun e => pmDec code e.1 e.2) = true := by decide +kernel
theorem pmD_246_22 : pmT_246_22.all (fun e => pmDec code e.1 e.2) = true := by decide +kernel
theorem pmD_246_23 : pmT_246_23.all (fun e => pmDec code e.1 e.2) = true := by decide +kernel
theorem pmD_246_24 : pmT_246_24.all (fun e => pmDec code e.1 e.2) = true := by decide +kernel
theorem pmD_246_25 : pmT_246_25.all (fun e => pmDec code e.1 e.2) = true := by decide +kernel
theorem pmD_246_26 : pmT_246_26.all (fun e => pmDec code e.1 e.2) = true := by decide +kernel
theorem pmD_246_27 : pmT_246_27.all (fun e => pmDec code e.1 e.2) = true := by decide +kernel
theorem pmD_246_28 : pmT_246_28.all (fun e => pmDec code e.1 e.2) = true := by decide +kernel
theorem pmD_246_29 : pmT_246_29.all (fun e => pmDec code e.1 e.2) = true := by decide +kernel
theorem pmD_246_30 : pmT_246_30.all (fun e => pmDec code e.1 e.2) = true := by decide +kernel
theorem pmD_246_31 : pmT_246_31.all (fun e => pmDec code e.1 e.2) = true := by decide +kernel
theorem pmD_246_32 : pmT_246_32.all (fun e => pmDec code e.1 e.2) = true := by decide +kernel
theorem pmD_246_33 : pmT_246_33.all (fun e => pmDec code e.1 e.2) = true := by decide +kernel
theorem pmD_246_34 : pmT_246_34.all (fun e => pmDec code e.1 e.2) = true := by decide +kernel
theorem pmD_246_35 : pmT_246_35.all (fun e => pmDec code e.1 e.2) = true := by decide +kernel
theorem pmD_246_36 : pmT_246_36.all (fun e => pmDec code e.1 e.2) = true := by decide +kernel
theorem pmD_246_37 : pmT_246_37.all (fun e => pmDec code e.1 e.2) = true := by decide +kernel
theorem pmD_246_38 : pmT_246_38.all (fun e => pmDec code e.1 e.2) = true := by decide +kernel
theorem pmD_246 : pmDc (pmI_246, pmT_246) := List.forall_mem_cons.mpr ⟨pmD_246_0, List.forall_mem_cons.mpr ⟨pmD_246_1, List.forall_mem_cons.mpr ⟨pmD_246_2, List.forall_mem_cons.mpr ⟨pmD_246_3, List.forall_mem_cons.mpr ⟨pmD_246_4, List.forall_mem_cons.mpr ⟨pmD_246_5, List.forall_mem_cons.mpr ⟨pmD_246_6, List.forall_mem_cons.mpr ⟨pmD_246_7, List.forall_mem_cons.mpr ⟨pmD_246_8, List.forall_mem_cons.mpr ⟨pmD_246_9, List.forall_mem_cons.mpr ⟨pmD_246_10, List.forall_mem_cons.mpr ⟨pmD_246_11, List.forall_mem_cons.mpr ⟨pmD_246_12, List.forall_mem_cons.mpr ⟨pmD_246_13, List.forall_mem_cons.mpr ⟨pmD_246_14, List.forall_mem_cons.mpr ⟨pmD_246_15, List.forall_mem_cons.mpr ⟨pmD_246_16, List.forall_mem_cons.mpr ⟨pmD_246_17, List.forall_mem_cons.mpr ⟨pmD_246_18, List.forall_mem_cons.mpr ⟨pmD_246_19, List.forall_mem_cons.mpr ⟨pmD_246_20, List.forall_mem_cons.mpr ⟨pmD_246_21, List.forall_mem_cons.mpr ⟨pmD_246_22, List.forall_mem_cons.mpr ⟨pmD_246_23, List.forall_mem_cons.mpr ⟨pmD_246_24, List.forall_mem_cons.mpr ⟨pmD_246_25, List.forall_mem_cons.mpr ⟨pmD_246_26, List.forall_mem_cons.mpr ⟨pmD_246_27, List.forall_mem_cons.mpr ⟨pmD_246_28, List.forall_mem_cons.mpr ⟨pmD_246_29, List.forall_mem_cons.mpr ⟨pmD_246_30, List.forall_mem_cons.mpr ⟨pmD_246_31, List.forall_mem_cons.mpr ⟨pmD_246_32, List.forall_mem_cons.mpr ⟨pmD_246_33, List.forall_mem_cons.mpr ⟨pmD_246_34, List.forall_mem_cons.mpr ⟨pmD_246_35, List.forall_mem_cons.mpr ⟨pmD_246_36, List.forall_mem_cons.mpr ⟨pmD_246_37, List.forall_mem_cons.mpr ⟨pmD_246_38, fun _ h => absurd h List.not_mem_nil⟩⟩⟩⟩⟩⟩⟩⟩⟩⟩⟩⟩⟩⟩⟩⟩⟩⟩⟩⟩⟩⟩⟩⟩⟩⟩⟩⟩⟩⟩⟩⟩⟩⟩⟩⟩⟩⟩⟩
theorem pmDa_0 : ∀ q ∈ pmAll_0, pmDc q := List.forall_mem_cons.mpr ⟨pmD_0, List.forall_mem_cons.mpr ⟨pmD_1, List.forall_mem_cons.mpr ⟨pmD_2, List.forall_mem_cons.mpr ⟨pmD_3, List.forall_mem_cons.mpr ⟨pmD_4, List.forall_mem_cons.mpr ⟨pmD_5, List.forall_mem_cons.mpr ⟨pmD_6, List.forall_mem_cons.mpr ⟨pmD_7, List.forall_mem_cons.mpr ⟨pmD_8, List.forall_mem_cons.mpr ⟨pmD_9, List.forall_mem_cons.mpr ⟨pmD_10, List.forall_mem_cons.mpr ⟨pmD_11, List.forall_mem_cons.mpr ⟨pmD_12, List.forall_mem_cons.mpr ⟨pmD_13, List.forall_mem_cons.mpr ⟨pmD_14, List.forall_mem_cons.mpr ⟨pmD_15, fun _ h => absurd h List.not_mem_nil⟩⟩⟩⟩⟩⟩⟩⟩⟩⟩⟩⟩⟩⟩⟩⟩
theorem pmDa_1 : ∀ q ∈ pmAll_1, pmDc q := List.forall_mem_cons.mpr ⟨pmD_16, List.forall_mem_cons.mpr ⟨pmD_17, List.forall_mem_cons.mpr ⟨pmD_18, List.forall_mem_cons.mpr ⟨pmD_19, List.forall_mem_cons.mpr ⟨pmD_20, List.forall_mem_cons.mpr ⟨pmD_21, List.forall_mem_cons.mpr ⟨pmD_22, List.forall_mem_cons.mpr ⟨pmD_23, List.forall_mem_cons.mpr ⟨pmD_24, List.forall_mem_cons.mpr ⟨pmD_25, List.forall_mem_cons.mpr ⟨pmD_26, List.forall_mem_cons.mpr ⟨pmD_27, List.forall_mem_cons.mpr ⟨pmD_28, List.forall_mem_cons.mpr ⟨pmD_29, List.forall_mem_cons.mpr ⟨pmD_30, List.forall_mem_cons.mpr ⟨pmD_31, fun _ h => absurd h List.not_mem_nil⟩⟩⟩⟩⟩⟩⟩⟩⟩⟩⟩⟩⟩⟩⟩⟩
theorem pmDa_2 : ∀ q ∈ pmAll_2, pmDc q := List.forall_mem_cons.mpr ⟨pmD_32, List.forall_mem_cons.mpr ⟨pmD_33, List.forall_mem_cons.mpr ⟨pmD_34, List.forall_mem_cons.mpr ⟨pmD_35, List.forall_mem_cons.mpr ⟨pmD_36, List.forall_mem_cons.mpr ⟨pmD_37, List.forall_mem_cons.mpr ⟨pmD_38, List.forall_mem_cons.mpr ⟨pmD_39, List.forall_mem_cons.mpr ⟨pmD_40, List.forall_mem_cons.mpr ⟨pmD_41, List.forall_mem_cons.mpr ⟨pmD_42, List.forall_mem_cons.mpr ⟨pmD_43, List.forall_mem_cons.mpr ⟨pmD_44, List.forall_mem_cons.mpr ⟨pmD_45, List.forall_mem_cons.mpr ⟨pmD_46, List.forall_mem_cons.mpr ⟨pmD_47, fun _ h => absurd h List.not_mem_nil⟩⟩⟩⟩⟩⟩⟩⟩⟩⟩⟩⟩⟩⟩⟩⟩
theorem pmDa_3 : ∀ q ∈ pmAll_3, pmDc q := List.forall_mem_cons.mpr ⟨pmD_48, List.forall_mem_cons.mpr ⟨pmD_49, List.forall_mem_cons.mpr ⟨pmD_50, List.forall_mem_cons.mpr ⟨pmD_51, List.forall_mem_cons.mpr ⟨pmD_52, List.forall_mem_cons.mpr ⟨pmD_53, List.forall_mem_cons.mpr ⟨pmD_54, List.forall_mem_cons.mpr ⟨pmD_55, List.forall_mem_cons.mpr ⟨pmD_56, List.forall_mem_cons.mpr ⟨pmD_57, List.forall_mem_cons.mpr ⟨pmD_58, List.forall_mem_cons.mpr ⟨pmD_59, List.forall_mem_cons.mpr ⟨pmD_60, List.forall_mem_cons.mpr ⟨pmD_61, List.forall_mem_cons.mpr ⟨pmD_62, List.forall_mem_cons.mpr ⟨pmD_63, fun _ h => absurd h List.not_mem_nil⟩⟩⟩⟩⟩⟩⟩⟩⟩⟩⟩⟩⟩⟩⟩⟩
theorem pmDa_4 : ∀ q ∈ pmAll_4, pmDc q := List.forall_mem_cons.mpr ⟨pmD_64, List.forall_mem_cons.mpr ⟨pmD_65, List.forall_mem_cons.mpr ⟨pmD_66, List.forall_mem_cons.mpr ⟨pmD_67, List.forall_mem_cons.mpr ⟨pmD_68, List.forall_mem_cons.mpr ⟨pmD_69, List.forall_mem_cons.mpr ⟨pmD_70, List.forall_mem_cons.mpr ⟨pmD_71, List.forall_mem_cons.mpr ⟨pmD_72, List.forall_mem_cons.mpr ⟨pmD_73, List.forall_mem_cons.mpr ⟨pmD_74, List.forall_mem_cons.mpr ⟨pmD_75, List.forall_mem_cons.mpr ⟨pmD_76, List.forall_mem_cons.mpr ⟨pmD_77, List.forall_mem_cons.mpr ⟨pmD_78, List.forall_mem_cons.mpr ⟨pmD_79, fun _ h => absurd h List.not_mem_nil⟩⟩⟩⟩⟩⟩⟩⟩⟩⟩⟩⟩⟩⟩⟩⟩
theorem pmDa_5 : ∀ q ∈ pmAll_5, pmDc q := List.forall_mem_cons.mpr ⟨pmD_80, List.forall_mem_cons.mpr ⟨pmD_81, List.forall_mem_cons.mpr ⟨pmD_82, List.forall_mem_cons.mpr ⟨pmD_83, List.forall_mem_cons.mpr ⟨pmD_84, List.forall_mem_cons.mpr ⟨pmD_85, List.forall_mem_cons.mpr ⟨pmD_86, List.forall_mem_cons.mpr ⟨pmD_87, List.forall_mem_cons.mpr ⟨pmD_88, List.forall_mem_cons.mpr ⟨pmD_89, List.forall_mem_cons.mpr ⟨pmD_90, List.forall_mem_cons.mpr ⟨pmD_91, List.forall_mem_cons.mpr ⟨pmD_92, List.forall_mem_cons.mpr ⟨pmD_93, List.forall_mem_cons.mpr ⟨pmD_94, List.forall_mem_cons.mpr ⟨pmD_95, fun _ h => absurd h List.not_mem_nil⟩⟩⟩⟩⟩⟩⟩⟩⟩⟩⟩⟩⟩⟩⟩⟩
theorem pmDa_6 : ∀ q ∈ pmAll_6, pmDc q := List.forall_mem_cons.mpr ⟨pmD_96, List.forall_mem_cons.mpr ⟨pmD_97, List.forall_mem_cons.mpr ⟨pmD_98, List.forall_mem_cons.mpr ⟨pmD_99, List.forall_mem_cons.mpr ⟨pmD_100, List.forall_mem_cons.mpr ⟨pmD_101, List.forall_mem_cons.mpr ⟨pmD_102, List.forall_mem_cons.mpr ⟨pmD_103, List.forall_mem_cons.mpr ⟨pmD_104, List.forall_mem_cons.mpr ⟨pmD_105, List.forall_mem_cons.mpr ⟨pmD_106, List.forall_mem_cons.mpr ⟨pmD_107, List.forall_mem_cons.mpr ⟨pmD_108, List.forall_mem_cons.mpr ⟨pmD_109, List.forall_mem_cons.mpr ⟨pmD_110, List.forall_mem_cons.mpr ⟨pmD_111, fun _ h => absurd h List.not_mem_nil⟩⟩⟩⟩⟩⟩⟩⟩⟩⟩⟩⟩⟩⟩⟩⟩
theorem pmDa_7 : ∀ q ∈ pmAll_7, pmDc q := List.forall_mem_cons.mpr ⟨pmD_112, List.forall_mem_cons.mpr ⟨pmD_113, List.forall_mem_cons.mpr ⟨pmD_114, List.forall_mem_cons.mpr ⟨pmD_115, List.forall_mem_cons.mpr ⟨pmD_116, List.forall_mem_cons.mpr ⟨pmD_117, List.forall_mem_cons.mpr ⟨pmD_118, List.forall_mem_cons.mpr ⟨pmD_119, List.forall_mem_cons.mpr ⟨pmD_120, List.forall_mem_cons.mpr ⟨pmD_121, List.forall_mem_cons.mpr ⟨pmD_122, List.forall_mem_cons.mpr ⟨pmD_123, List.forall_mem_cons.mpr ⟨pmD_124, List.forall_mem_cons.mpr ⟨pmD_125, List.forall_mem_cons.mpr ⟨pmD_126, List.forall_mem_cons.mpr ⟨pmD_127, fun _ h => absurd h List.not_mem_nil⟩⟩⟩⟩⟩⟩⟩⟩⟩⟩⟩⟩⟩⟩⟩⟩
theorem pmDa_8 : ∀ q ∈ pmAll_8, pmDc q := List.forall_mem_cons.mpr ⟨pmD_128, List.forall_mem_cons.mpr ⟨pmD_129, List.forall_mem_cons.mpr ⟨pmD_130, List.forall_mem_cons.mpr ⟨pmD_131, List.forall_mem_cons.mpr ⟨pmD_132, List.forall_mem_cons.mpr ⟨pmD_133, List.forall_mem_cons.mpr ⟨pmD_134, List.forall_mem_cons.mpr ⟨pmD_135, List.forall_mem_cons.mpr ⟨pmD_136, List.forall_mem_cons.mpr ⟨pmD_137, List.forall_mem_cons.mpr ⟨pmD_138, List.forall_mem_cons.mpr ⟨pmD_139, List.forall_mem_cons.mpr ⟨pmD_140, List.forall_mem_cons.mpr ⟨pmD_141, List.forall_mem_cons.mpr ⟨pmD_142, List.forall_mem_cons.mpr ⟨pmD_143, fun _ h => absurd h List.not_mem_nil⟩⟩⟩⟩⟩⟩⟩⟩⟩⟩⟩⟩⟩⟩⟩⟩
theorem pmDa_9 : ∀ q ∈ pmAll_9, pmDc q := List.forall_mem_cons.mpr ⟨pmD_144, List.forall_mem_cons.mpr ⟨pmD_145, List.forall_mem_cons.mpr ⟨pmD_146, List.forall_mem_cons.mpr ⟨pmD_147, List.forall_mem_cons.mpr ⟨pmD_148, List.forall_mem_cons.mpr ⟨pmD_149, List.forall_mem_cons.mpr ⟨pmD_150, List.forall_mem_cons.mpr ⟨pmD_151, List.forall_mem_cons.mpr ⟨pmD_152, List.forall_mem_cons.mpr ⟨pmD_153, List.forall_mem_cons.mpr ⟨pmD_154, List.forall_mem_cons.mpr ⟨pmD_155, List.forall_mem_cons.mpr ⟨pmD_156, List.forall_mem_cons.mpr ⟨pmD_157, List.forall_mem_cons.mpr ⟨pmD_158, List.forall_mem_cons.mpr ⟨pmD_159, fun _ h => absurd h List.not_mem_nil⟩⟩⟩⟩⟩⟩⟩⟩⟩⟩⟩⟩⟩⟩⟩⟩
theorem pmDa_10 : ∀ q ∈ pmAll_10, pmDc q := List.forall_mem_cons.mpr ⟨pmD_160, List.forall_mem_cons.mpr ⟨pmD_161, List.forall_mem_cons.mpr ⟨pmD_162, List.forall_mem_cons.mpr ⟨pmD_163, List.forall_mem_cons.mpr ⟨pmD_164, List.forall_mem_cons.mpr ⟨pmD_165, List.forall_mem_cons.mpr ⟨pmD_166, List.forall_mem_cons.mpr ⟨pmD_167, List.forall_mem_cons.mpr ⟨pmD_168, List.forall_mem_cons.mpr ⟨pmD_169, List.forall_mem_cons.mpr ⟨pmD_170, List.forall_mem_cons.mpr ⟨pmD_171, List.forall_mem_cons.mpr ⟨pmD_172, List.forall_mem_cons.mpr ⟨pmD_173, List.forall_mem_cons.mpr ⟨pmD_174, List.forall_mem_cons.mpr ⟨pmD_175, fun _ h => absurd h List.not_mem_nil⟩⟩⟩⟩⟩⟩⟩⟩⟩⟩⟩⟩⟩⟩⟩⟩
theorem pmDa_11 : ∀ q ∈ pmAll_11, pmDc q := List.forall_mem_cons.mpr ⟨pmD_176, List.forall_mem_cons.mpr ⟨pmD_177, List.forall_mem_cons.mpr ⟨pmD_178, List.forall_mem_cons.mpr ⟨pmD_179, List.forall_mem_cons.mpr ⟨pmD_180, List.forall_mem_cons.mpr ⟨pmD_181, List.forall_mem_cons.mpr ⟨pmD_182, List.forall_mem_cons.mpr ⟨pmD_183, List.forall_mem_cons.mpr ⟨pmD_184, List.forall_mem_cons.mpr ⟨pmD_185, List.forall_mem_cons.mpr ⟨pmD_186, List.forall_mem_cons.mpr ⟨pmD_187, List.forall_mem_cons.mpr ⟨pmD_188, List.forall_mem_cons.mpr ⟨pmD_189, List.forall_mem_cons.mpr ⟨pmD_190, List.forall_mem_cons.mpr ⟨pmD_191, fun _ h => absurd h List.not_mem_nil⟩⟩⟩⟩⟩⟩⟩⟩⟩⟩⟩⟩⟩⟩⟩⟩
theorem pmDa_12 : ∀ q ∈ pmAll_12, pmDc q := List.forall_mem_cons.mpr ⟨pmD_192, List.forall_mem_cons.mpr ⟨pmD_193, List.forall_mem_cons.mpr ⟨pmD_194, List.forall_mem_cons.mpr ⟨pmD_195, List.forall_mem_cons.mpr ⟨pmD_196, List.forall_mem_cons.mpr ⟨pmD_197, List.forall_mem_cons.mpr ⟨pmD_198, List.forall_mem_cons.mpr ⟨pmD_199, List.forall_mem_cons.mpr ⟨pmD_200, List.forall_mem_cons.mpr ⟨pmD_201, List.forall_mem_cons.mpr ⟨pmD_202, List.forall_mem_cons.mpr ⟨pmD_203, List.forall_mem_cons.mpr ⟨pmD_204, List.forall_mem_cons.mpr ⟨pmD_205, List.forall_mem_cons.mpr ⟨pmD_206, List.forall_mem_cons.mpr ⟨pmD_207, fun _ h => absurd h List.not_mem_nil⟩⟩⟩⟩⟩⟩⟩⟩⟩⟩⟩⟩⟩⟩⟩⟩
theorem pmDa_13 : ∀ q ∈ pmAll_13, pmDc q := List.forall_mem_cons.mpr ⟨pmD_208, List.forall_mem_cons.mpr ⟨pmD_209, List.forall_mem_cons.mpr ⟨pmD_210, List.forall_mem_cons.mpr ⟨pmD_211, List.forall_mem_cons.mpr ⟨pmD_212, List.forall_mem_cons.mpr ⟨pmD_213, List.forall_mem_cons.mpr ⟨pmD_214, List.forall_mem_cons.mpr ⟨pmD_215, List.forall_mem_cons.mpr ⟨pmD_216, List.forall_mem_cons.mpr ⟨pmD_217, List.forall_mem_cons.mpr ⟨pmD_218, List.forall_mem_cons.mpr ⟨pmD_219, List.forall_mem_cons.mpr ⟨pmD_220, List.forall_mem_cons.mpr ⟨pmD_221, List.forall_mem_cons.mpr ⟨pmD_222, List.forall_mem_cons.mpr ⟨pmD_223, fun _ h => absurd h List.not_mem_nil⟩⟩⟩⟩⟩⟩⟩⟩⟩⟩⟩⟩⟩⟩⟩⟩
theorem pmDa_14 : ∀ q ∈ pmAll_14, pmDc q := List.forall_mem_cons.mpr ⟨pmD_224, List.forall_mem_cons.mpr ⟨pmD_225, List.forall_mem_cons.mpr ⟨pmD_226, List.forall_mem_cons.mpr ⟨pmD_227, List.forall_mem_cons.mpr ⟨pmD_228, List.forall_mem_cons.mpr ⟨pmD_229, List.forall_mem_cons.mpr ⟨pmD_230, List.forall_mem_cons.mpr ⟨pmD_231, List.forall_mem_cons.mpr ⟨pmD_232, List.forall_mem_cons.mpr ⟨pmD_233, List.forall_mem_cons.mpr ⟨pmD_234, List.forall_mem_cons.mpr ⟨pmD_235, List.forall_mem_cons.mpr ⟨pmD_236, List.forall_mem_cons.mpr ⟨pmD_237, List.forall_mem_cons.mpr ⟨pmD_238, List.forall_mem_cons.mpr ⟨pmD_239, fun _ h => absurd h List.not_mem_nil⟩⟩⟩⟩⟩⟩⟩⟩⟩⟩⟩⟩⟩⟩⟩⟩
theorem pmDa_15 : ∀ q ∈ pmAll_15, pmDc q := List.forall_mem_cons.mpr ⟨pmD_240, List.forall_mem_cons.mpr ⟨pmD_241, List.forall_mem_cons.mpr ⟨pmD_242, List.forall_mem_cons.mpr ⟨pmD_243, List.forall_mem_cons.mpr ⟨pmD_244, List.forall_mem_cons.mpr ⟨pmD_245, List.forall_mem_cons.mpr ⟨pmD_246, fun _ h => absurd h List.not_mem_nil⟩⟩⟩⟩⟩⟩⟩
theorem pmDa : ∀ q ∈ pmAll, pmDc q := List.forall_mem_append.mpr ⟨pmDa_0, List.forall_mem_append.mpr ⟨pmDa_1, List.forall_mem_append.mpr ⟨pmDa_2, List.forall_mem_append.mpr ⟨pmDa_3, List.forall_mem_append.mpr ⟨pmDa_4, List.forall_mem_append.mpr ⟨pmDa_5, List.forall_mem_append.mpr ⟨pmDa_6, List.forall_mem_append.mpr ⟨pmDa_7, List.forall_mem_append.mpr ⟨pmDa_8, List.forall_mem_append.mpr ⟨pmDa_9, List.forall_mem_append.mpr ⟨pmDa_10, List.forall_mem_append.mpr ⟨pmDa_11, List.forall_mem_append.mpr ⟨pmDa_12, List.forall_mem_append.mpr ⟨pmDa_13, List.forall_mem_append.mpr ⟨pmDa_14, pmDa_15⟩⟩⟩⟩⟩⟩⟩⟩⟩⟩⟩⟩⟩⟩⟩
