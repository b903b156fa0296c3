theorem k_0_0 : ∀ q ∈ q_t0_0, q_chk 0 q = true := by decide +kernel
theorem k_0_1 : ∀ q ∈ q_t0_1, q_chk 0 q = true := by decide +kernel
theorem k_0 : ∀ q ∈ q_t0, q_chk 0 q = true := List.forall_mem_append.mpr ⟨k_0_0, k_0_1⟩
theorem k_1_0 : ∀ q ∈ q_t1_0, q_chk 1 q = true := by decide +kernel
theorem k_1 : ∀ q ∈ q_t1, q_chk 1 q = true := k_1_0
theorem k_2_0 : ∀ q ∈ q_t2_0, q_chk 2 q = true := by decide +kernel
theorem k_2 : ∀ q ∈ q_t2, q_chk 2 q = true := k_2_0
theorem k_3_0 : ∀ q ∈ q_t3_0, q_chk 3 q = true := by decide +kernel
theorem k_3 : ∀ q ∈ q_t3, q_chk 3 q = true := k_3_0
theorem k_4_0 : ∀ q ∈ q_t4_0, q_chk 4 q = true := by decide +kernel
theorem k_4_1 : ∀ q ∈ q_t4_1, q_chk 4 q = true := by decide +kernel
theorem k_4 : ∀ q ∈ q_t4, q_chk 4 q = true := List.forall_mem_append.mpr ⟨k_4_0, k_4_1⟩
theorem k_5_0 : ∀ q ∈ q_t5_0, q_chk 5 q = true := by decide +kernel
theorem k_5_1 : ∀ q ∈ q_t5_1, q_chk 5 q = true := by decide +kernel
theorem k_5 : ∀ q ∈ q_t5, q_chk 5 q = true := List.forall_mem_append.mpr ⟨k_5_0, k_5_1⟩
theorem k_6_0 : ∀ q ∈ q_t6_0, q_chk 6 q = true := by decide +kernel
theorem k_6 : ∀ q ∈ q_t6, q_chk 6 q = true := k_6_0
theorem k_7_0 : ∀ q ∈ q_t7_0, q_chk 7 q = true := by decide +kernel
theorem k_7 : ∀ q ∈ q_t7, q_chk 7 q = true := k_7_0
theorem k_8_0 : ∀ q ∈ q_t8_0, q_chk 8 q = true := by decide +kernel
theorem k_8_1 : ∀ q ∈ q_t8_1, q_chk 8 q = true := by decide +kernel
theorem k_8 : ∀ q ∈ q_t8, q_chk 8 q = true := List.forall_mem_append.mpr ⟨k_8_0, k_8_1⟩
theorem k_9_0 : ∀ q ∈ q_t9_0, q_chk 9 q = true := by decide +kernel
theorem k_9_1 : ∀ q ∈ q_t9_1, q_chk 9 q = true := by decide +kernel
theorem k_9 : ∀ q ∈ q_t9, q_chk 9 q = true := List.forall_mem_append.mpr ⟨k_9_0, k_9_1⟩
theorem k_10_0 : ∀ q ∈ q_t10_0, q_chk 10 q = true := by decide +kernel
theorem k_10_1 : ∀ q ∈ q_t10_1, q_chk 10 q = true := by decide +kernel
theorem k_10 : ∀ q ∈ q_t10, q_chk 10 q = true := List.forall_mem_append.mpr ⟨k_10_0, k_10_1⟩
theorem k_11_0 : ∀ q ∈ q_t11_0, q_chk 11 q = true := by decide +kernel
theorem k_11_1 : ∀ q ∈ q_t11_1, q_chk 11 q = true := by decide +kernel
theorem k_11 : ∀ q ∈ q_t11, q_chk 11 q = true := List.forall_mem_append.mpr ⟨k_11_0, k_11_1⟩
theorem k_12_0 : ∀ q ∈ q_t12_0, q_chk 12 q = true := by decide +kernel
theorem k_12_1 : ∀ q ∈ q_t12_1, q_chk 12 q = true := by decide +kernel
theorem k_12 : ∀ q ∈ q_t12, q_chk 12 q = true := List.forall_mem_append.mpr ⟨k_12_0, k_12_1⟩
theorem k_13_0 : ∀ q ∈ q_t13_0, q_chk 13 q = true := by decide +kernel
theorem k_13 : ∀ q ∈ q_t13, q_chk 13 q = true := k_13_0
theorem k_14_0 : ∀ q ∈ q_t14_0, q_chk 14 q = true := by decide +kernel
theorem k_14_1 : ∀ q ∈ q_t14_1, q_chk 14 q = true := by decide +kernel
theorem k_14 : ∀ q ∈ q_t14, q_chk 14 q = true := List.forall_mem_append.mpr ⟨k_14_0, k_14_1⟩
theorem k_15_0 : ∀ q ∈ q_t15_0, q_chk 15 q = true := by decide +kernel
theorem k_15_1 : ∀ q ∈ q_t15_1, q_chk 15 q = true := by decide +kernel
theorem k_15 : ∀ q ∈ q_t15, q_chk 15 q = true := List.forall_mem_append.mpr ⟨k_15_0, k_15_1⟩
theorem k_16_0 : ∀ q ∈ q_t16_0, q_chk 16 q = true := by decide +kernel
theorem k_16_1 : ∀ q ∈ q_t16_1, q_chk 16 q = true := by decide +kernel
theorem k_16 : ∀ q ∈ q_t16, q_chk 16 q = true := List.forall_mem_append.mpr ⟨k_16_0, k_16_1⟩
theorem k_17_0 : ∀ q ∈ q_t17_0, q_chk 17 q = true := by decide +kernel
theorem k_17_1 : ∀ q ∈ q_t17_1, q_chk 17 q = true := by decide +kernel
theorem k_17 : ∀ q ∈ q_t17, q_chk 17 q = true := List.forall_mem_append.mpr ⟨k_17_0, k_17_1⟩
theorem k_18_0 : ∀ q ∈ q_t18_0, q_chk 18 q = true := by decide +kernel
theorem k_18_1 : ∀ q ∈ q_t18_1, q_chk 18 q = true := by decide +kernel
theorem k_18 : ∀ q ∈ q_t18, q_chk 18 q = true := List.forall_mem_append.mpr ⟨k_18_0, k_18_1⟩
theorem k_19_0 : ∀ q ∈ q_t19_0, q_chk 19 q = true := by decide +kernel
theorem k_19_1 : ∀ q ∈ q_t19_1, q_chk 19 q = true := by decide +kernel
theorem k_19_2 : ∀ q ∈ q_t19_2, q_chk 19 q = true := by decide +kernel
theorem k_19 : ∀ q ∈ q_t19, q_chk 19 q = true := List.forall_mem_append.mpr ⟨k_19_0, List.forall_mem_append.mpr ⟨k_19_1, k_19_2⟩⟩
theorem k_20_0 : ∀ q ∈ q_t20_0, q_chk 20 q = true := by decide +kernel
theorem k_20_1 : ∀ q ∈ q_t20_1, q_chk 20 q = true := by decide +kernel
theorem k_20 : ∀ q ∈ q_t20, q_chk 20 q = true := List.forall_mem_append.mpr ⟨k_20_0, k_20_1⟩
theorem k_21_0 : ∀ q ∈ q_t21_0, q_chk 21 q = true := by decide +kernel
theorem k_21_1 : ∀ q ∈ q_t21_1, q_chk 21 q = true := by decide +kernel
theorem k_21 : ∀ q ∈ q_t21, q_chk 21 q = true := List.forall_mem_append.mpr ⟨k_21_0, k_21_1⟩
theorem k_22_0 : ∀ q ∈ q_t22_0, q_chk 22 q = true := by decide +kernel
theorem k_22 : ∀ q ∈ q_t22, q_chk 22 q = true := k_22_0
theorem k_23_0 : ∀ q ∈ q_t23_0, q_chk 23 q = true := by decide +kernel
theorem k_23_1 : ∀ q ∈ q_t23_1, q_chk 23 q = true := by decide +kernel
theorem k_23 : ∀ q ∈ q_t23, q_chk 23 q = true := List.forall_mem_append.mpr ⟨k_23_0, k_23_1⟩
theorem k_24_0 : ∀ q ∈ q_t24_0, q_chk 24 q = true := by decide +kernel
theorem k_24_1 : ∀ q ∈ q_t24_1, q_chk 24 q = true := by decide +kernel
theorem k_24 : ∀ q ∈ q_t24, q_chk 24 q = true := List.forall_mem_append.mpr ⟨k_24_0, k_24_1⟩
theorem k_25_0 : ∀ q ∈ q_t25_0, q_chk 25 q = true := by decide +kernel
theorem k_25_1 : ∀ q ∈ q_t25_1, q_chk 25 q = true := by decide +kernel
theorem k_25_2 : ∀ q ∈ q_t25_2, q_chk 25 q = true := by decide +kernel
theorem k_25 : ∀ q ∈ q_t25, q_chk 25 q = true := List.forall_mem_append.mpr ⟨k_25_0, List.forall_mem_append.mpr ⟨k_25_1, k_25_2⟩⟩
theorem k_26_0 : ∀ q ∈ q_t26_0, q_chk 26 q = true := by decide +kernel
theorem k_26_1 : ∀ q ∈ q_t26_1, q_chk 26 q = true := by decide +kernel
theorem k_26_2 : ∀ q ∈ q_t26_2, q_chk 26 q = true := by decide +kernel
theorem k_26_3 : ∀ q ∈ q_t26_3, q_chk 26 q = true := by decide +kernel
theorem k_26 : ∀ q ∈ q_t26, q_chk 26 q = true := List.forall_mem_append.mpr ⟨k_26_0, List.forall_mem_append.mpr ⟨k_26_1, List.forall_mem_append.mpr ⟨k_26_2, k_26_3⟩⟩⟩
theorem k_27_0 : ∀ q ∈ q_t27_0, q_chk 27 q = true := by decide +kernel
theorem k_27 : ∀ q ∈ q_t27, q_chk 27 q = true := k_27_0
theorem k_28_0 : ∀ q ∈ q_t28_0, q_chk 28 q = true := by decide +kernel
theorem k_28 : ∀ q ∈ q_t28, q_chk 28 q = true := k_28_0
theorem k_29_0 : ∀ q ∈ q_t29_0, q_chk 29 q = true := by decide +kernel
theorem k_29_1 : ∀ q ∈ q_t29_1, q_chk 29 q = true := by decide +kernel
theorem k_29 : ∀ q ∈ q_t29, q_chk 29 q = true := List.forall_mem_append.mpr ⟨k_29_0, k_29_1⟩
theorem k_30_0 : ∀ q ∈ q_t30_0, q_chk 30 q = true := by decide +kernel
theorem k_30_1 : ∀ q ∈ q_t30_1, q_chk 30 q = true := by decide +kernel
theorem k_30 : ∀ q ∈ q_t30, q_chk 30 q = true := List.forall_mem_append.mpr ⟨k_30_0, k_30_1⟩
theorem k_31_0 : ∀ q ∈ q_t31_0, q_chk 31 q = true := by decide +kernel
theorem k_31 : ∀ q ∈ q_t31, q_chk 31 q = true := k_31_0
theorem k_32_0 : ∀ q ∈ q_t32_0, q_chk 32 q = true := by decide +kernel
theorem k_32 : ∀ q ∈ q_t32, q_chk 32 q = true := k_32_0
theorem k_33_0 : ∀ q ∈ q_t33_0, q_chk 33 q = true := by decide +kernel
theorem k_33 : ∀ q ∈ q_t33, q_chk 33 q = true := k_33_0
theorem k_34_0 : ∀ q ∈ q_t34_0, q_chk 34 q = true := by decide +kernel
theorem k_34 : ∀ q ∈ q_t34, q_chk 34 q = true := k_34_0
theorem k_35_0 : ∀ q ∈ q_t35_0, q_chk 35 q = true := by decide +kernel
theorem k_35 : ∀ q ∈ q_t35, q_chk 35 q = true := k_35_0
theorem k_36_0 : ∀ q ∈ q_t36_0, q_chk 36 q = true := by decide +kernel
theorem k_36 : ∀ q ∈ q_t36, q_chk 36 q = true := k_36_0
theorem k_37_0 : ∀ q ∈ q_t37_0, q_chk 37 q = true := by decide +kernel
theorem k_37 : ∀ q ∈ q_t37, q_chk 37 q = true := k_37_0
theorem k_38_0 : ∀ q ∈ q_t38_0, q_chk 38 q = true := by decide +kernel
theorem k_38 : ∀ q ∈ q_t38, q_chk 38 q = true := k_38_0
theorem k_39_0 : ∀ q ∈ q_t39_0, q_chk 39 q = true := by decide +kernel
theorem k_39_1 : ∀ q ∈ q_t39_1, q_chk 39 q = true := by decide +kernel
theorem k_39 : ∀ q ∈ q_t39, q_chk 39 q = true := List.forall_mem_append.mpr ⟨k_39_0, k_39_1⟩
theorem k_40_0 : ∀ q ∈ q_t40_0, q_chk 40 q = true := by decide +kernel
theorem k_40_1 : ∀ q ∈ q_t40_1, q_chk 40 q = true := by decide +kernel
theorem k_40 : ∀ q ∈ q_t40, q_chk 40 q = true := List.forall_mem_append.mpr ⟨k_40_0, k_40_1⟩
theorem k_41_0 : ∀ q ∈ q_t41_0, q_chk 41 q = true := by decide +kernel
theorem k_41_1 : ∀ q ∈ q_t41_1, q_chk 41 q = true := by decide +kernel
theorem k_41 : ∀ q ∈ q_t41, q_chk 41 q = true := List.forall_mem_append.mpr ⟨k_41_0, k_41_1⟩
theorem k_42_0 : ∀ q ∈ q_t42_0, q_chk 42 q = true := by decide +kernel
theorem k_42_1 : ∀ q ∈ q_t42_1, q_chk 42 q = true := by decide +kernel
theorem k_42_2 : ∀ q ∈ q_t42_2, q_chk 42 q = true := by decide +kernel
theorem k_42 : ∀ q ∈ q_t42, q_chk 42 q = true := List.forall_mem_append.mpr ⟨k_42_0, List.forall_mem_append.mpr ⟨k_42_1, k_42_2⟩⟩
theorem k_43_0 : ∀ q ∈ q_t43_0, q_chk 43 q = true := by decide +kernel
theorem k_43 : ∀ q ∈ q_t43, q_chk 43 q = true := k_43_0
theorem k_44_0 : ∀ q ∈ q_t44_0, q_chk 44 q = true := by decide +kernel
theorem k_44 : ∀ q ∈ q_t44, q_chk 44 q = true := k_44_0
theorem k_46_0 : ∀ q ∈ q_t46_0, q_chk 46 q = true := by decide +kernel
theorem k_46_1 : ∀ q ∈ q_t46_1, q_chk 46 q = true := by decide +kernel
theorem k_46_2 : ∀ q ∈ q_t46_2, q_chk 46 q = true := by decide +kernel
theorem k_46_3 : ∀ q ∈ q_t46_3, q_chk 46 q = true := by decide +kernel
theorem k_46_4 : ∀ q ∈ q_t46_4, q_chk 46 q = true := by decide +kernel
theorem k_46_5 : ∀ q ∈ q_t46_5, q_chk 46 q = true := by decide +kernel
theorem k_46 : ∀ q ∈ q_t46, q_chk 46 q = true := List.forall_mem_append.mpr ⟨k_46_0, List.forall_mem_append.mpr ⟨k_46_1, List.forall_mem_append.mpr ⟨k_46_2, List.forall_mem_append.mpr ⟨k_46_3, List.forall_mem_append.mpr ⟨k_46_4, k_46_5⟩⟩⟩⟩⟩
theorem k_48_0 : ∀ q ∈ q_t48_0, q_chk 48 q = true := by decide +kernel
theorem k_48 : ∀ q ∈ q_t48, q_chk 48 q = true := k_48_0
theorem k_49_0 : ∀ q ∈ q_t49_0, q_chk 49 q = true := by decide +kernel
theorem k_49 : ∀ q ∈ q_t49, q_chk 49 q = true := k_49_0
theorem k_50_0 : ∀ q ∈ q_t50_0, q_chk 50 q = true := by decide +kernel
theorem k_50 : ∀ q ∈ q_t50, q_chk 50 q = true := k_50_0
theorem k_51_0 : ∀ q ∈ q_t51_0, q_chk 51 q = true := by decide +kernel
theorem k_51_1 : ∀ q ∈ q_t51_1, q_chk 51 q = true := by decide +kernel
theorem k_51_2 : ∀ q ∈ q_t51_2, q_chk 51 q = true := by decide +kernel
theorem k_51 : ∀ q ∈ q_t51, q_chk 51 q = true := List.forall_mem_append.mpr ⟨k_51_0, List.forall_mem_append.mpr ⟨k_51_1, k_51_2⟩⟩
theorem k_52_0 : ∀ q ∈ q_t52_0, q_chk 52 q = true := by decide +kernel
theorem k_52 : ∀ q ∈ q_t52, q_chk 52 q = true := k_52_0
theorem k_53_0 : ∀ q ∈ q_t53_0, q_chk 53 q = true := by decide +kernel
theorem k_53_1 : ∀ q ∈ q_t53_1, q_chk 53 q = true := by decide +kernel
theorem k_53 : ∀ q ∈ q_t53, q_chk 53 q = true := List.forall_mem_append.mpr ⟨k_53_0, k_53_1⟩
theorem k_54_0 : ∀ q ∈ q_t54_0, q_chk 54 q = true := by decide +kernel
theorem k_54_1 : ∀ q ∈ q_t54_1, q_chk 54 q = true := by decide +kernel
theorem k_54 : ∀ q ∈ q_t54, q_chk 54 q = true := List.forall_mem_append.mpr ⟨k_54_0, k_54_1⟩
theorem k_55_0 : ∀ q ∈ q_t55_0, q_chk 55 q = true := by decide +kernel
theorem k_55 : ∀ q ∈ q_t55, q_chk 55 q = true := k_55_0
theorem k_56_0 : ∀ q ∈ q_t56_0, q_chk 56 q = true := by decide +kernel
theorem k_56 : ∀ q ∈ q_t56, q_chk 56 q = true := k_56_0
theorem k_57_0 : ∀ q ∈ q_t57_0, q_chk 57 q = true := by decide +kernel
theorem k_57_1 : ∀ q ∈ q_t57_1, q_chk 57 q = true := by decide +kernel
theorem k_57_2 : ∀ q ∈ q_t57_2, q_chk 57 q = true := by decide +kernel
theorem k_57 : ∀ q ∈ q_t57, q_chk 57 q = true := List.forall_mem_append.mpr ⟨k_57_0, List.forall_mem_append.mpr ⟨k_57_1, k_57_2⟩⟩
theorem k_58_0 : ∀ q ∈ q_t58_0, q_chk 58 q = true := by decide +kernel
theorem k_58_1 : ∀ q ∈ q_t58_1, q_chk 58 q = true := by decide +kernel
theorem k_58 : ∀ q ∈ q_t58, q_chk 58 q = true := List.forall_mem_append.mpr ⟨k_58_0, k_58_1⟩
theorem k_59_0 : ∀ q ∈ q_t59_0, q_chk 59 q = true := by decide +kernel
theorem k_59_1 : ∀ q ∈ q_t59_1, q_chk 59 q = true := by decide +kernel
theorem k_59_2 : ∀ q ∈ q_t59_2, q_chk 59 q = true := by decide +kernel
theorem k_59_3 : ∀ q ∈ q_t59_3, q_chk 59 q = true := by decide +kernel
theorem k_59_4 : ∀ q ∈ q_t59_4, q_chk 59 q = true := by decide +kernel
theorem k_59_5 : ∀ q ∈ q_t59_5, q_chk 59 q = true := by decide +kernel
theorem k_59_6 : ∀ q ∈ q_t59_6, q_chk 59 q = true := by decide +kernel
theorem k_59 : ∀ q ∈ q_t59, q_chk 59 q = true := List.forall_mem_append.mpr ⟨k_59_0, List.forall_mem_append.mpr ⟨k_59_1, List.forall_mem_append.mpr ⟨k_59_2, List.forall_mem_append.mpr ⟨k_59_3, List.forall_mem_append.mpr ⟨k_59_4, List.forall_mem_append.mpr ⟨k_59_5, k_59_6⟩⟩⟩⟩⟩⟩
theorem k_60_0 : ∀ q ∈ q_t60_0, q_chk 60 q = true := by decide +kernel
theorem k_60_1 : ∀ q ∈ q_t60_1, q_chk 60 q = true := by decide +kernel
theorem k_60_2 : ∀ q ∈ q_t60_2, q_chk 60 q = true := by decide +kernel
theorem k_60_3 : ∀ q ∈ q_t60_3, q_chk 60 q = true := by decide +kernel
theorem k_60 : ∀ q ∈ q_t60, q_chk 60 q = true := List.forall_mem_append.mpr ⟨k_60_0, List.forall_mem_append.mpr ⟨k_60_1, List.forall_mem_append.mpr ⟨k_60_2, k_60_3⟩⟩⟩
theorem k_61_0 : ∀ q ∈ q_t61_0, q_chk 61 q = true := by decide +kernel
theorem k_61 : ∀ q ∈ q_t61, q_chk 61 q = true := k_61_0
theorem k_62_0 : ∀ q ∈ q_t62_0, q_chk 62 q = true := by decide +kernel
theorem k_62_1 : ∀ q ∈ q_t62_1, q_chk 62 q = true := by decide +kernel
theorem k_62_2 : ∀ q ∈ q_t62_2, q_chk 62 q = true := by decide +kernel
theorem k_62 : ∀ q ∈ q_t62, q_chk 62 q = true := List.forall_mem_append.mpr ⟨k_62_0, List.forall_mem_append.mpr ⟨k_62_1, k_62_2⟩⟩
theorem k_63_0 : ∀ q ∈ q_t63_0, q_chk 63 q = true := by decide +kernel
theorem k_63 : ∀ q ∈ q_t63, q_chk 63 q = true := k_63_0
theorem k_64_0 : ∀ q ∈ q_t64_0, q_chk 64 q = true := by decide +kernel
theorem k_64 : ∀ q ∈ q_t64, q_chk 64 q = true := k_64_0
theorem k_65_0 : ∀ q ∈ q_t65_0, q_chk 65 q = true := by decide +kernel
theorem k_65 : ∀ q ∈ q_t65, q_chk 65 q = true := k_65_0
theorem k_66_0 : ∀ q ∈ q_t66_0, q_chk 66 q = true := by decide +kernel
theorem k_66_1 : ∀ q ∈ q_t66_1, q_chk 66 q = true := by decide +kernel
theorem k_66_2 : ∀ q ∈ q_t66_2, q_chk 66 q = true := by decide +kernel
theorem k_66 : ∀ q ∈ q_t66, q_chk 66 q = true := List.forall_mem_append.mpr ⟨k_66_0, List.forall_mem_append.mpr ⟨k_66_1, k_66_2⟩⟩
theorem k_67_0 : ∀ q ∈ q_t67_0, q_chk 67 q = true := by decide +kernel
theorem k_67 : ∀ q ∈ q_t67, q_chk 67 q = true := k_67_0
theorem k_68_0 : ∀ q ∈ q_t68_0, q_chk 68 q = true := by decide +kernel
theorem k_68 : ∀ q ∈ q_t68, q_chk 68 q = true := k_68_0
theorem k_69_0 : ∀ q ∈ q_t69_0, q_chk 69 q = true := by decide +kernel
theorem k_69 : ∀ q ∈ q_t69, q_chk 69 q = true := k_69_0
theorem k_70_0 : ∀ q ∈ q_t70_0, q_chk 70 q = true := by decide +kernel
theorem k_70 : ∀ q ∈ q_t70, q_chk 70 q = true := k_70_0
theorem k_71_0 : ∀ q ∈ q_t71_0, q_chk 71 q = true := by decide +kernel
theorem k_71 : ∀ q ∈ q_t71, q_chk 71 q = true := k_71_0
theorem k_72_0 : ∀ q ∈ q_t72_0, q_chk 72 q = true := by decide +kernel
theorem k_72_1 : ∀ q ∈ q_t72_1, q_chk 72 q = true := by decide +kernel
theorem k_72_2 : ∀ q ∈ q_t72_2, q_chk 72 q = true := by decide +kernel
theorem k_72_3 : ∀ q ∈ q_t72_3, q_chk 72 q = true := by decide +kernel
theorem k_72 : ∀ q ∈ q_t72, q_chk 72 q = true := List.forall_mem_append.mpr ⟨k_72_0, List.forall_mem_append.mpr ⟨k_72_1, List.forall_mem_append.mpr ⟨k_72_2, k_72_3⟩⟩⟩
theorem k_73_0 : ∀ q ∈ q_t73_0, q_chk 73 q = true := by decide +kernel
theorem k_73_1 : ∀ q ∈ q_t73_1, q_chk 73 q = true := by decide +kernel
theorem k_73_2 : ∀ q ∈ q_t73_2, q_chk 73 q = true := by decide +kernel
theorem k_73_3 : ∀ q ∈ q_t73_3, q_chk 73 q = true := by decide +kernel
theorem k_73 : ∀ q ∈ q_t73, q_chk 73 q = true := List.forall_mem_append.mpr ⟨k_73_0, List.forall_mem_append.mpr ⟨k_73_1, List.forall_mem_append.mpr ⟨k_73_2, k_73_3⟩⟩⟩
theorem k_74_0 : ∀ q ∈ q_t74_0, q_chk 74 q = true := by decide +kernel
theorem k_74_1 : ∀ q ∈ q_t74_1, q_chk 74 q = true := by decide +kernel
theorem k_74_2 : ∀ q ∈ q_t74_2, q_chk 74 q = true := by decide +kernel
theorem k_74_3 : ∀ q ∈ q_t74_3, q_chk 74 q = true := by decide +kernel
theorem k_74_4 : ∀ q ∈ q_t74_4, q_chk 74 q = true := by decide +kernel
theorem k_74_5 : ∀ q ∈ q_t74_5, q_chk 74 q = true := by decide +kernel
theorem k_74_6 : ∀ q ∈ q_t74_6, q_chk 74 q = true := by decide +kernel
theorem k_74_7 : ∀ q ∈ q_t74_7, q_chk 74 q = true := by decide +kernel
theorem k_74_8 : ∀ q ∈ q_t74_8, q_chk 74 q = true := by decide +kernel
theorem k_74_9 : ∀ q ∈ q_t74_9, q_chk 74 q = true := by decide +kernel
theorem k_74 : ∀ q ∈ q_t74, q_chk 74 q = true := List.forall_mem_append.mpr ⟨k_74_0, List.forall_mem_append.mpr ⟨k_74_1, List.forall_mem_append.mpr ⟨k_74_2, List.forall_mem_append.mpr ⟨k_74_3, List.forall_mem_append.mpr ⟨k_74_4, List.forall_mem_append.mpr ⟨k_74_5, List.forall_mem_append.mpr ⟨k_74_6, List.forall_mem_append.mpr ⟨k_74_7, List.forall_mem_append.mpr ⟨k_74_8, k_74_9⟩⟩⟩⟩⟩⟩⟩⟩⟩
theorem k_75_0 : ∀ q ∈ q_t75_0, q_chk 75 q = true := by decide +kernel
theorem k_75 : ∀ q ∈ q_t75, q_chk 75 q = true := k_75_0
theorem k_76_0 : ∀ q ∈ q_t76_0, q_chk 76 q = true := by decide +kernel
theorem k_76 : ∀ q ∈ q_t76, q_chk 76 q = true := k_76_0
theorem k_77_0 : ∀ q ∈ q_t77_0, q_chk 77 q = true := by decide +kernel
theorem k_77_1 : ∀ q ∈ q_t77_1, q_chk 77 q = true := by decide +kernel
theorem k_77 : ∀ q ∈ q_t77, q_chk 77 q = true := List.forall_mem_append.mpr ⟨k_77_0, k_77_1⟩
theorem k_78_0 : ∀ q ∈ q_t78_0, q_chk 78 q = true := by decide +kernel
theorem k_78_1 : ∀ q ∈ q_t78_1, q_chk 78 q = true := by decide +kernel
theorem k_78 : ∀ q ∈ q_t78, q_chk 78 q = true := List.forall_mem_append.mpr ⟨k_78_0, k_78_1⟩
theorem k_79_0 : ∀ q ∈ q_t79_0, q_chk 79 q = true := by decide +kernel
theorem k_79 : ∀ q ∈ q_t79, q_chk 79 q = true := k_79_0
theorem k_80_0 : ∀ q ∈ q_t80_0, q_chk 80 q = true := by decide +kernel
theorem k_80_1 : ∀ q ∈ q_t80_1, q_chk 80 q = true := by decide +kernel
theorem k_80_2 : ∀ q ∈ q_t80_2, q_chk 80 q = true := by decide +kernel
theorem k_80 : ∀ q ∈ q_t80, q_chk 80 q = true := List.forall_mem_append.mpr ⟨k_80_0, List.forall_mem_append.mpr ⟨k_80_1, k_80_2⟩⟩
theorem k_81_0 : ∀ q ∈ q_t81_0, q_chk 81 q = true := by decide +kernel
theorem k_81_1 : ∀ q ∈ q_t81_1, q_chk 81 q = true := by decide +kernel
theorem k_81 : ∀ q ∈ q_t81, q_chk 81 q = true := List.forall_mem_append.mpr ⟨k_81_0, k_81_1⟩
theorem k_82_0 : ∀ q ∈ q_t82_0, q_chk 82 q = true := by decide +kernel
theorem k_82_1 : ∀ q ∈ q_t82_1, q_chk 82 q = true := by decide +kernel
theorem k_82_2 : ∀ q ∈ q_t82_2, q_chk 82 q = true := by decide +kernel
theorem k_82 : ∀ q ∈ q_t82, q_chk 82 q = true := List.forall_mem_append.mpr ⟨k_82_0, List.forall_mem_append.mpr ⟨k_82_1, k_82_2⟩⟩
theorem k_83_0 : ∀ q ∈ q_t83_0, q_chk 83 q = true := by decide +kernel
theorem k_83_1 : ∀ q ∈ q_t83_1, q_chk 83 q = true := by decide +kernel
theorem k_83_2 : ∀ q ∈ q_t83_2, q_chk 83 q = true := by decide +kernel
theorem k_83 : ∀ q ∈ q_t83, q_chk 83 q = true := List.forall_mem_append.mpr ⟨k_83_0, List.forall_mem_append.mpr ⟨k_83_1, k_83_2⟩⟩
theorem k_84_0 : ∀ q ∈ q_t84_0, q_chk 84 q = true := by decide +kernel
theorem k_84 : ∀ q ∈ q_t84, q_chk 84 q = true := k_84_0
theorem k_85_0 : ∀ q ∈ q_t85_0, q_chk 85 q = true := by decide +kernel
theorem k_85_1 : ∀ q ∈ q_t85_1, q_chk 85 q = true := by decide +kernel
theorem k_85 : ∀ q ∈ q_t85, q_chk 85 q = true := List.forall_mem_append.mpr ⟨k_85_0, k_85_1⟩
theorem k_86_0 : ∀ q ∈ q_t86_0, q_chk 86 q = true := by decide +kernel
theorem k_86_1 : ∀ q ∈ q_t86_1, q_chk 86 q = true := by decide +kernel
theorem k_86 : ∀ q ∈ q_t86, q_chk 86 q = true := List.forall_mem_append.mpr ⟨k_86_0, k_86_1⟩
theorem k_87_0 : ∀ q ∈ q_t87_0, q_chk 87 q = true := by decide +kernel
theorem k_87_1 : ∀ q ∈ q_t87_1, q_chk 87 q = true := by decide +kernel
theorem k_87 : ∀ q ∈ q_t87, q_chk 87 q = true := List.forall_mem_append.mpr ⟨k_87_0, k_87_1⟩
theorem k_88_0 : ∀ q ∈ q_t88_0, q_chk 88 q = true := by decide +kernel
theorem k_88_1 : ∀ q ∈ q_t88_1, q_chk 88 q = true := by decide +kernel
theorem k_88_2 : ∀ q ∈ q_t88_2, q_chk 88 q = true := by decide +kernel
theorem k_88_3 : ∀ q ∈ q_t88_3, q_chk 88 q = true := by decide +kernel
theorem k_88_4 : ∀ q ∈ q_t88_4, q_chk 88 q = true := by decide +kernel
theorem k_88_5 : ∀ q ∈ q_t88_5, q_chk 88 q = true := by decide +kernel
theorem k_88_6 : ∀ q ∈ q_t88_6, q_chk 88 q = true := by decide +kernel
theorem k_88 : ∀ q ∈ q_t88, q_chk 88 q = true := List.forall_mem_append.mpr ⟨k_88_0, List.forall_mem_append.mpr ⟨k_88_1, List.forall_mem_append.mpr ⟨k_88_2, List.forall_mem_append.mpr ⟨k_88_3, List.forall_mem_append.mpr ⟨k_88_4, List.forall_mem_append.mpr ⟨k_88_5, k_88_6⟩⟩⟩⟩⟩⟩
theorem k_89_0 : ∀ q ∈ q_t89_0, q_chk 89 q = true := by decide +kernel
theorem k_89_1 : ∀ q ∈ q_t89_1, q_chk 89 q = true := by decide +kernel
theorem k_89_2 : ∀ q ∈ q_t89_2, q_chk 89 q = true := by decide +kernel
theorem k_89_3 : ∀ q ∈ q_t89_3, q_chk 89 q = true := by decide +kernel
theorem k_89_4 : ∀ q ∈ q_t89_4, q_chk 89 q = true := by decide +kernel
theorem k_89 : ∀ q ∈ q_t89, q_chk 89 q = true := List.forall_mem_append.mpr ⟨k_89_0, List.forall_mem_append.mpr ⟨k_89_1, List.forall_mem_append.mpr ⟨k_89_2, List.forall_mem_append.mpr ⟨k_89_3, k_89_4⟩⟩⟩⟩
theorem k_90_0 : ∀ q ∈ q_t90_0, q_chk 90 q = true := by decide +kernel
theorem k_90_1 : ∀ q ∈ q_t90_1, q_chk 90 q = true := by decide +kernel
theorem k_90 : ∀ q ∈ q_t90, q_chk 90 q = true := List.forall_mem_append.mpr ⟨k_90_0, k_90_1⟩
theorem k_91_0 : ∀ q ∈ q_t91_0, q_chk 91 q = true := by decide +kernel
theorem k_91_1 : ∀ q ∈ q_t91_1, q_chk 91 q = true := by decide +kernel
theorem k_91_2 : ∀ q ∈ q_t91_2, q_chk 91 q = true := by decide +kernel
theorem k_91 : ∀ q ∈ q_t91, q_chk 91 q = true := List.forall_mem_append.mpr ⟨k_91_0, List.forall_mem_append.mpr ⟨k_91_1, k_91_2⟩⟩
theorem k_92_0 : ∀ q ∈ q_t92_0, q_chk 92 q = true := by decide +kernel
theorem k_92_1 : ∀ q ∈ q_t92_1, q_chk 92 q = true := by decide +kernel
theorem k_92_2 : ∀ q ∈ q_t92_2, q_chk 92 q = true := by decide +kernel
theorem k_92 : ∀ q ∈ q_t92, q_chk 92 q = true := List.forall_mem_append.mpr ⟨k_92_0, List.forall_mem_append.mpr ⟨k_92_1, k_92_2⟩⟩
theorem k_93_0 : ∀ q ∈ q_t93_0, q_chk 93 q = true := by decide +kernel
theorem k_93_1 : ∀ q ∈ q_t93_1, q_chk 93 q = true := by decide +kernel
theorem k_93_2 : ∀ q ∈ q_t93_2, q_chk 93 q = true := by decide +kernel
theorem k_93_3 : ∀ q ∈ q_t93_3, q_chk 93 q = true := by decide +kernel
theorem k_93_4 : ∀ q ∈ q_t93_4, q_chk 93 q = true := by decide +kernel
theorem k_93_5 : ∀ q ∈ q_t93_5, q_chk 93 q = true := by decide +kernel
theorem k_93 : ∀ q ∈ q_t93, q_chk 93 q = true := List.forall_mem_append.mpr ⟨k_93_0, List.forall_mem_append.mpr ⟨k_93_1, List.forall_mem_append.mpr ⟨k_93_2, List.forall_mem_append.mpr ⟨k_93_3, List.forall_mem_append.mpr ⟨k_93_4, k_93_5⟩⟩⟩⟩⟩
theorem k_94_0 : ∀ q ∈ q_t94_0, q_chk 94 q = true := by decide +kernel
theorem k_94_1 : ∀ q ∈ q_t94_1, q_chk 94 q = true := by decide +kernel
theorem k_94_2 : ∀ q ∈ q_t94_2, q_chk 94 q = true := by decide +kernel
theorem k_94 : ∀ q ∈ q_t94, q_chk 94 q = true := List.forall_mem_append.mpr ⟨k_94_0, List.forall_mem_append.mpr ⟨k_94_1, k_94_2⟩⟩
theorem k_95_0 : ∀ q ∈ q_t95_0, q_chk 95 q = true := by decide +kernel
theorem k_95 : ∀ q ∈ q_t95, q_chk 95 q = true := k_95_0
theorem k_96_0 : ∀ q ∈ q_t96_0, q_chk 96 q = true := by decide +kernel
theorem k_96_1 : ∀ q ∈ q_t96_1, q_chk 96 q = true := by decide +kernel
theorem k_96_2 : ∀ q ∈ q_t96_2, q_chk 96 q = true := by decide +kernel
theorem k_96 : ∀ q ∈ q_t96, q_chk 96 q = true := List.forall_mem_append.mpr ⟨k_96_0, List.forall_mem_append.mpr ⟨k_96_1, k_96_2⟩⟩
theorem k_97_0 : ∀ q ∈ q_t97_0, q_chk 97 q = true := by decide +kernel
theorem k_97_1 : ∀ q ∈ q_t97_1, q_chk 97 q = true := by decide +kernel
theorem k_97 : ∀ q ∈ q_t97, q_chk 97 q = true := List.forall_mem_append.mpr ⟨k_97_0, k_97_1⟩
theorem k_98_0 : ∀ q ∈ q_t98_0, q_chk 98 q = true := by decide +kernel
theorem k_98_1 : ∀ q ∈ q_t98_1, q_chk 98 q = true := by decide +kernel
theorem k_98_2 : ∀ q ∈ q_t98_2, q_chk 98 q = true := by decide +kernel
theorem k_98 : ∀ q ∈ q_t98, q_chk 98 q = true := List.forall_mem_append.mpr ⟨k_98_0, List.forall_mem_append.mpr ⟨k_98_1, k_98_2⟩⟩
theorem k_99_0 : ∀ q ∈ q_t99_0, q_chk 99 q = true := by decide +kernel
theorem k_99_1 : ∀ q ∈ q_t99_1, q_chk 99 q = true := by decide +kernel
theorem k_99_2 : ∀ q ∈ q_t99_2, q_chk 99 q = true := by decide +kernel
theorem k_99_3 : ∀ q ∈ q_t99_3, q_chk 99 q = true := by decide +kernel
theorem k_99_4 : ∀ q ∈ q_t99_4, q_chk 99 q = true := by decide +kernel
theorem k_99 : ∀ q ∈ q_t99, q_chk 99 q = true := List.forall_mem_append.mpr ⟨k_99_0, List.forall_mem_append.mpr ⟨k_99_1, List.forall_mem_append.mpr ⟨k_99_2, List.forall_mem_append.mpr ⟨k_99_3, k_99_4⟩⟩⟩⟩
theorem k_101_0 : ∀ q ∈ q_t101_0, q_chk 101 q = true := by decide +kernel
theorem k_101_1 : ∀ q ∈ q_t101_1, q_chk 101 q = true := by decide +kernel
theorem k_101 : ∀ q ∈ q_t101, q_chk 101 q = true := List.forall_mem_append.mpr ⟨k_101_0, k_101_1⟩
theorem k_102_0 : ∀ q ∈ q_t102_0, q_chk 102 q = true := by decide +kernel
theorem k_102 : ∀ q ∈ q_t102, q_chk 102 q = true := k_102_0
theorem k_103_0 : ∀ q ∈ q_t103_0, q_chk 103 q = true := by decide +kernel
theorem k_103_1 : ∀ q ∈ q_t103_1, q_chk 103 q = true := by decide +kernel
theorem k_103_2 : ∀ q ∈ q_t103_2, q_chk 103 q = true := by decide +kernel
theorem k_103_3 : ∀ q ∈ q_t103_3, q_chk 103 q = true := by decide +kernel
theorem k_103 : ∀ q ∈ q_t103, q_chk 103 q = true := List.forall_mem_append.mpr ⟨k_103_0, List.forall_mem_append.mpr ⟨k_103_1, List.forall_mem_append.mpr ⟨k_103_2, k_103_3⟩⟩⟩
theorem k_104_0 : ∀ q ∈ q_t104_0, q_chk 104 q = true := by decide +kernel
theorem k_104 : ∀ q ∈ q_t104, q_chk 104 q = true := k_104_0
theorem k_105_0 : ∀ q ∈ q_t105_0, q_chk 105 q = true := by decide +kernel
theorem k_105_1 : ∀ q ∈ q_t105_1, q_chk 105 q = true := by decide +kernel
theorem k_105 : ∀ q ∈ q_t105, q_chk 105 q = true := List.forall_mem_append.mpr ⟨k_105_0, k_105_1⟩
theorem k_106_0 : ∀ q ∈ q_t106_0, q_chk 106 q = true := by decide +kernel
theorem k_106_1 : ∀ q ∈ q_t106_1, q_chk 106 q = true := by decide +kernel
theorem k_106_2 : ∀ q ∈ q_t106_2, q_chk 106 q = true := by decide +kernel
theorem k_106 : ∀ q ∈ q_t106, q_chk 106 q = true := List.forall_mem_append.mpr ⟨k_106_0, List.forall_mem_append.mpr ⟨k_106_1, k_106_2⟩⟩
theorem k_107_0 : ∀ q ∈ q_t107_0, q_chk 107 q = true := by decide +kernel
theorem k_107 : ∀ q ∈ q_t107, q_chk 107 q = true := k_107_0
theorem k_108_0 : ∀ q ∈ q_t108_0, q_chk 108 q = true := by decide +kernel
theorem k_108_1 : ∀ q ∈ q_t108_1, q_chk 108 q = true := by decide +kernel
theorem k_108 : ∀ q ∈ q_t108, q_chk 108 q = true := List.forall_mem_append.mpr ⟨k_108_0, k_108_1⟩
theorem k_109_0 : ∀ q ∈ q_t109_0, q_chk 109 q = true := by decide +kernel
theorem k_109_1 : ∀ q ∈ q_t109_1, q_chk 109 q = true := by decide +kernel
theorem k_109 : ∀ q ∈ q_t109, q_chk 109 q = true := List.forall_mem_append.mpr ⟨k_109_0, k_109_1⟩
theorem k_110_0 : ∀ q ∈ q_t110_0, q_chk 110 q = true := by decide +kernel
theorem k_110_1 : ∀ q ∈ q_t110_1, q_chk 110 q = true := by decide +kernel
theorem k_110 : ∀ q ∈ q_t110, q_chk 110 q = true := List.forall_mem_append.mpr ⟨k_110_0, k_110_1⟩
theorem k_111_0 : ∀ q ∈ q_t111_0, q_chk 111 q = true := by decide +kernel
theorem k_111_1 : ∀ q ∈ q_t111_1, q_chk 111 q = true := by decide +kernel
theorem k_111 : ∀ q ∈ q_t111, q_chk 111 q = true := List.forall_mem_append.mpr ⟨k_111_0, k_111_1⟩
theorem k_112_0 : ∀ q ∈ q_t112_0, q_chk 112 q = true := by decide +kernel
theorem k_112 : ∀ q ∈ q_t112, q_chk 112 q = true := k_112_0
theorem k_113_0 : ∀ q ∈ q_t113_0, q_chk 113 q = true := by decide +kernel
theorem k_113_1 : ∀ q ∈ q_t113_1, q_chk 113 q = true := by decide +kernel
theorem k_113 : ∀ q ∈ q_t113, q_chk 113 q = true := List.forall_mem_append.mpr ⟨k_113_0, k_113_1⟩
theorem k_114_0 : ∀ q ∈ q_t114_0, q_chk 114 q = true := by decide +kernel
theorem k_114 : ∀ q ∈ q_t114, q_chk 114 q = true := k_114_0
theorem k_115_0 : ∀ q ∈ q_t115_0, q_chk 115 q = true := by decide +kernel
theorem k_115_1 : ∀ q ∈ q_t115_1, q_chk 115 q = true := by decide +kernel
theorem k_115 : ∀ q ∈ q_t115, q_chk 115 q = true := List.forall_mem_append.mpr ⟨k_115_0, k_115_1⟩
theorem k_116_0 : ∀ q ∈ q_t116_0, q_chk 116 q = true := by decide +kernel
theorem k_116 : ∀ q ∈ q_t116, q_chk 116 q = true := k_116_0
theorem k_117_0 : ∀ q ∈ q_t117_0, q_chk 117 q = true := by decide +kernel
theorem k_117_1 : ∀ q ∈ q_t117_1, q_chk 117 q = true := by decide +kernel
theorem k_117 : ∀ q ∈ q_t117, q_chk 117 q = true := List.forall_mem_append.mpr ⟨k_117_0, k_117_1⟩
theorem k_118_0 : ∀ q ∈ q_t118_0, q_chk 118 q = true := by decide +kernel
theorem k_118_1 : ∀ q ∈ q_t118_1, q_chk 118 q = true := by decide +kernel
theorem k_118_2 : ∀ q ∈ q_t118_2, q_chk 118 q = true := by decide +kernel
theorem k_118 : ∀ q ∈ q_t118, q_chk 118 q = true := List.forall_mem_append.mpr ⟨k_118_0, List.forall_mem_append.mpr ⟨k_118_1, k_118_2⟩⟩
theorem k_119_0 : ∀ q ∈ q_t119_0, q_chk 119 q = true := by decide +kernel
theorem k_119 : ∀ q ∈ q_t119, q_chk 119 q = true := k_119_0
theorem k_120_0 : ∀ q ∈ q_t120_0, q_chk 120 q = true := by decide +kernel
theorem k_120 : ∀ q ∈ q_t120, q_chk 120 q = true := k_120_0
theorem k_121_0 : ∀ q ∈ q_t121_0, q_chk 121 q = true := by decide +kernel
theorem k_121_1 : ∀ q ∈ q_t121_1, q_chk 121 q = true := by decide +kernel
theorem k_121 : ∀ q ∈ q_t121, q_chk 121 q = true := List.forall_mem_append.mpr ⟨k_121_0, k_121_1⟩
theorem k_122_0 : ∀ q ∈ q_t122_0, q_chk 122 q = true := by decide +kernel
theorem k_122_1 : ∀ q ∈ q_t122_1, q_chk 122 q = true := by decide +kernel
theorem k_122 : ∀ q ∈ q_t122, q_chk 122 q = true := List.forall_mem_append.mpr ⟨k_122_0, k_122_1⟩
theorem k_123_0 : ∀ q ∈ q_t123_0, q_chk 123 q = true := by decide +kernel
theorem k_123_1 : ∀ q ∈ q_t123_1, q_chk 123 q = true := by decide +kernel
theorem k_123_2 : ∀ q ∈ q_t123_2, q_chk 123 q = true := by decide +kernel
theorem k_123 : ∀ q ∈ q_t123, q_chk 123 q = true := List.forall_mem_append.mpr ⟨k_123_0, List.forall_mem_append.mpr ⟨k_123_1, k_123_2⟩⟩
theorem k_124_0 : ∀ q ∈ q_t124_0, q_chk 124 q = true := by decide +kernel
theorem k_124_1 : ∀ q ∈ q_t124_1, q_chk 124 q = true := by decide +kernel
theorem k_124 : ∀ q ∈ q_t124, q_chk 124 q = true := List.forall_mem_append.mpr ⟨k_124_0, k_124_1⟩
theorem k_125_0 : ∀ q ∈ q_t125_0, q_chk 125 q = true := by decide +kernel
theorem k_125 : ∀ q ∈ q_t125, q_chk 125 q = true := k_125_0
theorem k_126_0 : ∀ q ∈ q_t126_0, q_chk 126 q = true := by decide +kernel
theorem k_126 : ∀ q ∈ q_t126, q_chk 126 q = true := k_126_0
theorem k_127_0 : ∀ q ∈ q_t127_0, q_chk 127 q = true := by decide +kernel
theorem k_127 : ∀ q ∈ q_t127, q_chk 127 q = true := k_127_0
theorem k_128_0 : ∀ q ∈ q_t128_0, q_chk 128 q = true := by decide +kernel
theorem k_128 : ∀ q ∈ q_t128, q_chk 128 q = true := k_128_0
theorem k_129_0 : ∀ q ∈ q_t129_0, q_chk 129 q = true := by decide +kernel
theorem k_129_1 : ∀ q ∈ q_t129_1, q_chk 129 q = true := by decide +kernel
theorem k_129 : ∀ q ∈ q_t129, q_chk 129 q = true := List.forall_mem_append.mpr ⟨k_129_0, k_129_1⟩
theorem k_130_0 : ∀ q ∈ q_t130_0, q_chk 130 q = true := by decide +kernel
theorem k_130_1 : ∀ q ∈ q_t130_1, q_chk 130 q = true := by decide +kernel
theorem k_130 : ∀ q ∈ q_t130, q_chk 130 q = true := List.forall_mem_append.mpr ⟨k_130_0, k_130_1⟩
theorem k_131_0 : ∀ q ∈ q_t131_0, q_chk 131 q = true := by decide +kernel
theorem k_131_1 : ∀ q ∈ q_t131_1, q_chk 131 q = true := by decide +kernel
theorem k_131 : ∀ q ∈ q_t131, q_chk 131 q = true := List.forall_mem_append.mpr ⟨k_131_0, k_131_1⟩
theorem k_132_0 : ∀ q ∈ q_t132_0, q_chk 132 q = true := by decide +kernel
theorem k_132 : ∀ q ∈ q_t132, q_chk 132 q = true := k_132_0
theorem k_133_0 : ∀ q ∈ q_t133_0, q_chk 133 q = true := by decide +kernel
theorem k_133_1 : ∀ q ∈ q_t133_1, q_chk 133 q = true := by decide +kernel
theorem k_133 : ∀ q ∈ q_t133, q_chk 133 q = true := List.forall_mem_append.mpr ⟨k_133_0, k_133_1⟩
theorem k_134_0 : ∀ q ∈ q_t134_0, q_chk 134 q = true := by decide +kernel
theorem k_134 : ∀ q ∈ q_t134, q_chk 134 q = true := k_134_0
theorem k_135_0 : ∀ q ∈ q_t135_0, q_chk 135 q = true := by decide +kernel
theorem k_135 : ∀ q ∈ q_t135, q_chk 135 q = true := k_135_0
theorem k_136_0 : ∀ q ∈ q_t136_0, q_chk 136 q = true := by decide +kernel
theorem k_136 : ∀ q ∈ q_t136, q_chk 136 q = true := k_136_0
theorem k_137_0 : ∀ q ∈ q_t137_0, q_chk 137 q = true := by decide +kernel
theorem k_137 : ∀ q ∈ q_t137, q_chk 137 q = true := k_137_0
theorem k_138_0 : ∀ q ∈ q_t138_0, q_chk 138 q = true := by decide +kernel
theorem k_138 : ∀ q ∈ q_t138, q_chk 138 q = true := k_138_0
theorem k_139_0 : ∀ q ∈ q_t139_0, q_chk 139 q = true := by decide +kernel
theorem k_139 : ∀ q ∈ q_t139, q_chk 139 q = true := k_139_0
theorem k_140_0 : ∀ q ∈ q_t140_0, q_chk 140 q = true := by decide +kernel
theorem k_140_1 : ∀ q ∈ q_t140_1, q_chk 140 q = true := by decide +kernel
theorem k_140 : ∀ q ∈ q_t140, q_chk 140 q = true := List.forall_mem_append.mpr ⟨k_140_0, k_140_1⟩
theorem k_141_0 : ∀ q ∈ q_t141_0, q_chk 141 q = true := by decide +kernel
theorem k_141 : ∀ q ∈ q_t141, q_chk 141 q = true := k_141_0
theorem k_142_0 : ∀ q ∈ q_t142_0, q_chk 142 q = true := by decide +kernel
theorem k_142 : ∀ q ∈ q_t142, q_chk 142 q = true := k_142_0
theorem k_143_0 : ∀ q ∈ q_t143_0, q_chk 143 q = true := by decide +kernel
theorem k_143 : ∀ q ∈ q_t143, q_chk 143 q = true := k_143_0
theorem k_144_0 : ∀ q ∈ q_t144_0, q_chk 144 q = true := by decide +kernel
theorem k_144 : ∀ q ∈ q_t144, q_chk 144 q = true := k_144_0
theorem k_145_0 : ∀ q ∈ q_t145_0, q_chk 145 q = true := by decide +kernel
theorem k_145 : ∀ q ∈ q_t145, q_chk 145 q = true := k_145_0
theorem k_146_0 : ∀ q ∈ q_t146_0, q_chk 146 q = true := by decide +kernel
theorem k_146 : ∀ q ∈ q_t146, q_chk 146 q = true := k_146_0
theorem k_147_0 : ∀ q ∈ q_t147_0, q_chk 147 q = true := by decide +kernel
theorem k_147 : ∀ q ∈ q_t147, q_chk 147 q = true := k_147_0
theorem k_148_0 : ∀ q ∈ q_t148_0, q_chk 148 q = true := by decide +kernel
theorem k_148_1 : ∀ q ∈ q_t148_1, q_chk 148 q = true := by decide +kernel
theorem k_148 : ∀ q ∈ q_t148, q_chk 148 q = true := List.forall_mem_append.mpr ⟨k_148_0, k_148_1⟩
theorem k_149_0 : ∀ q ∈ q_t149_0, q_chk 149 q = true := by decide +kernel
theorem k_149_1 : ∀ q ∈ q_t149_1, q_chk 149 q = true := by decide +kernel
theorem k_149 : ∀ q ∈ q_t149, q_chk 149 q = true := List.forall_mem_append.mpr ⟨k_149_0, k_149_1⟩
theorem k_150_0 : ∀ q ∈ q_t150_0, q_chk 150 q = true := by decide +kernel
theorem k_150_1 : ∀ q ∈ q_t150_1, q_chk 150 q = true := by decide +kernel
theorem k_150_2 : ∀ q ∈ q_t150_2, q_chk 150 q = true := by decide +kernel
theorem k_150 : ∀ q ∈ q_t150, q_chk 150 q = true := List.forall_mem_append.mpr ⟨k_150_0, List.forall_mem_append.mpr ⟨k_150_1, k_150_2⟩⟩
theorem k_151_0 : ∀ q ∈ q_t151_0, q_chk 151 q = true := by decide +kernel
theorem k_151 : ∀ q ∈ q_t151, q_chk 151 q = true := k_151_0
theorem k_152_0 : ∀ q ∈ q_t152_0, q_chk 152 q = true := by decide +kernel
theorem k_152 : ∀ q ∈ q_t152, q_chk 152 q = true := k_152_0
theorem k_153_0 : ∀ q ∈ q_t153_0, q_chk 153 q = true := by decide +kernel
theorem k_153 : ∀ q ∈ q_t153, q_chk 153 q = true := k_153_0
theorem k_154_0 : ∀ q ∈ q_t154_0, q_chk 154 q = true := by decide +kernel
theorem k_154 : ∀ q ∈ q_t154, q_chk 154 q = true := k_154_0
theorem k_155_0 : ∀ q ∈ q_t155_0, q_chk 155 q = true := by decide +kernel
theorem k_155 : ∀ q ∈ q_t155, q_chk 155 q = true := k_155_0
theorem k_156_0 : ∀ q ∈ q_t156_0, q_chk 156 q = true := by decide +kernel
theorem k_156 : ∀ q ∈ q_t156, q_chk 156 q = true := k_156_0
theorem k_157_0 : ∀ q ∈ q_t157_0, q_chk 157 q = true := by decide +kernel
theorem k_157 : ∀ q ∈ q_t157, q_chk 157 q = true := k_157_0
theorem k_158_0 : ∀ q ∈ q_t158_0, q_chk 158 q = true := by decide +kernel
theorem k_158 : ∀ q ∈ q_t158, q_chk 158 q = true := k_158_0
theorem k_159_0 : ∀ q ∈ q_t159_0, q_chk 159 q = true := by decide +kernel
theorem k_159 : ∀ q ∈ q_t159, q_chk 159 q = true := k_159_0
theorem k_160_0 : ∀ q ∈ q_t160_0, q_chk 160 q = true := by decide +kernel
theorem k_160 : ∀ q ∈ q_t160, q_chk 160 q = true := k_160_0
theorem k_161_0 : ∀ q ∈ q_t161_0, q_chk 161 q = true := by decide +kernel
theorem k_161 : ∀ q ∈ q_t161, q_chk 161 q = true := k_161_0
theorem k_162_0 : ∀ q ∈ q_t162_0, q_chk 162 q = true := by decide +kernel
theorem k_162 : ∀ q ∈ q_t162, q_chk 162 q = true := k_162_0
theorem k_163_0 : ∀ q ∈ q_t163_0, q_chk 163 q = true := by decide +kernel
theorem k_163_1 : ∀ q ∈ q_t163_1, q_chk 163 q = true := by decide +kernel
theorem k_163 : ∀ q ∈ q_t163, q_chk 163 q = true := List.forall_mem_append.mpr ⟨k_163_0, k_163_1⟩
theorem k_164_0 : ∀ q ∈ q_t164_0, q_chk 164 q = true := by decide +kernel
theorem k_164_1 : ∀ q ∈ q_t164_1, q_chk 164 q = true := by decide +kernel
theorem k_164 : ∀ q ∈ q_t164, q_chk 164 q = true := List.forall_mem_append.mpr ⟨k_164_0, k_164_1⟩
theorem k_165_0 : ∀ q ∈ q_t165_0, q_chk 165 q = true := by decide +kernel
theorem k_165 : ∀ q ∈ q_t165, q_chk 165 q = true := k_165_0
theorem k_166_0 : ∀ q ∈ q_t166_0, q_chk 166 q = true := by decide +kernel
theorem k_166_1 : ∀ q ∈ q_t166_1, q_chk 166 q = true := by decide +kernel
theorem k_166 : ∀ q ∈ q_t166, q_chk 166 q = true := List.forall_mem_append.mpr ⟨k_166_0, k_166_1⟩
theorem k_167_0 : ∀ q ∈ q_t167_0, q_chk 167 q = true := by decide +kernel
theorem k_167_1 : ∀ q ∈ q_t167_1, q_chk 167 q = true := by decide +kernel
theorem k_167 : ∀ q ∈ q_t167, q_chk 167 q = true := List.forall_mem_append.mpr ⟨k_167_0, k_167_1⟩
theorem k_168_0 : ∀ q ∈ q_t168_0, q_chk 168 q = true := by decide +kernel
theorem k_168 : ∀ q ∈ q_t168, q_chk 168 q = true := k_168_0
theorem k_169_0 : ∀ q ∈ q_t169_0, q_chk 169 q = true := by decide +kernel
theorem k_169_1 : ∀ q ∈ q_t169_1, q_chk 169 q = true := by decide +kernel
theorem k_169 : ∀ q ∈ q_t169, q_chk 169 q = true := List.forall_mem_append.mpr ⟨k_169_0, k_169_1⟩
theorem k_170_0 : ∀ q ∈ q_t170_0, q_chk 170 q = true := by decide +kernel
theorem k_170_1 : ∀ q ∈ q_t170_1, q_chk 170 q = true := by decide +kernel
theorem k_170_2 : ∀ q ∈ q_t170_2, q_chk 170 q = true := by decide +kernel
theorem k_170 : ∀ q ∈ q_t170, q_chk 170 q = true := List.forall_mem_append.mpr ⟨k_170_0, List.forall_mem_append.mpr ⟨k_170_1, k_170_2⟩⟩
theorem k_171_0 : ∀ q ∈ q_t171_0, q_chk 171 q = true := by decide +kernel
theorem k_171 : ∀ q ∈ q_t171, q_chk 171 q = true := k_171_0
theorem k_172_0 : ∀ q ∈ q_t172_0, q_chk 172 q = true := by decide +kernel
theorem k_172 : ∀ q ∈ q_t172, q_chk 172 q = true := k_172_0
theorem k_173_0 : ∀ q ∈ q_t173_0, q_chk 173 q = true := by decide +kernel
theorem k_173 : ∀ q ∈ q_t173, q_chk 173 q = true := k_173_0
theorem k_174_0 : ∀ q ∈ q_t174_0, q_chk 174 q = true := by decide +kernel
theorem k_174 : ∀ q ∈ q_t174, q_chk 174 q = true := k_174_0
theorem k_175_0 : ∀ q ∈ q_t175_0, q_chk 175 q = true := by decide +kernel
theorem k_175 : ∀ q ∈ q_t175, q_chk 175 q = true := k_175_0
theorem k_176_0 : ∀ q ∈ q_t176_0, q_chk 176 q = true := by decide +kernel
theorem k_176_1 : ∀ q ∈ q_t176_1, q_chk 176 q = true := by decide +kernel
theorem k_176 : ∀ q ∈ q_t176, q_chk 176 q = true := List.forall_mem_append.mpr ⟨k_176_0, k_176_1⟩
theorem k_177_0 : ∀ q ∈ q_t177_0, q_chk 177 q = true := by decide +kernel
theorem k_177 : ∀ q ∈ q_t177, q_chk 177 q = true := k_177_0
theorem k_178_0 : ∀ q ∈ q_t178_0, q_chk 178 q = true := by decide +kernel
theorem k_178 : ∀ q ∈ q_t178, q_chk 178 q = true := k_178_0
theorem k_179_0 : ∀ q ∈ q_t179_0, q_chk 179 q = true := by decide +kernel
theorem k_179 : ∀ q ∈ q_t179, q_chk 179 q = true := k_179_0
theorem k_180_0 : ∀ q ∈ q_t180_0, q_chk 180 q = true := by decide +kernel
theorem k_180 : ∀ q ∈ q_t180, q_chk 180 q = true := k_180_0
theorem k_181_0 : ∀ q ∈ q_t181_0, q_chk 181 q = true := by decide +kernel
theorem k_181 : ∀ q ∈ q_t181, q_chk 181 q = true := k_181_0
theorem k_182_0 : ∀ q ∈ q_t182_0, q_chk 182 q = true := by decide +kernel
theorem k_182 : ∀ q ∈ q_t182, q_chk 182 q = true := k_182_0
theorem k_183_0 : ∀ q ∈ q_t183_0, q_chk 183 q = true := by decide +kernel
theorem k_183 : ∀ q ∈ q_t183, q_chk 183 q = true := k_183_0
theorem k_184_0 : ∀ q ∈ q_t184_0, q_chk 184 q = true := by decide +kernel
theorem k_184_1 : ∀ q ∈ q_t184_1, q_chk 184 q = true := by decide +kernel
theorem k_184 : ∀ q ∈ q_t184, q_chk 184 q = true := List.forall_mem_append.mpr ⟨k_184_0, k_184_1⟩
theorem k_185_0 : ∀ q ∈ q_t185_0, q_chk 185 q = true := by decide +kernel
theorem k_185_1 : ∀ q ∈ q_t185_1, q_chk 185 q = true := by decide +kernel
theorem k_185 : ∀ q ∈ q_t185, q_chk 185 q = true := List.forall_mem_append.mpr ⟨k_185_0, k_185_1⟩
theorem k_186_0 : ∀ q ∈ q_t186_0, q_chk 186 q = true := by decide +kernel
theorem k_186_1 : ∀ q ∈ q_t186_1, q_chk 186 q = true := by decide +kernel
theorem k_186_2 : ∀ q ∈ q_t186_2, q_chk 186 q = true := by decide +kernel
theorem k_186 : ∀ q ∈ q_t186, q_chk 186 q = true := List.forall_mem_append.mpr ⟨k_186_0, List.forall_mem_append.mpr ⟨k_186_1, k_186_2⟩⟩
theorem k_187_0 : ∀ q ∈ q_t187_0, q_chk 187 q = true := by decide +kernel
theorem k_187_1 : ∀ q ∈ q_t187_1, q_chk 187 q = true := by decide +kernel
theorem k_187_2 : ∀ q ∈ q_t187_2, q_chk 187 q = true := by decide +kernel
theorem k_187_3 : ∀ q ∈ q_t187_3, q_chk 187 q = true := by decide +kernel
theorem k_187_4 : ∀ q ∈ q_t187_4, q_chk 187 q = true := by decide +kernel
theorem k_187_5 : ∀ q ∈ q_t187_5, q_chk 187 q = true := by decide +kernel
theorem k_187_6 : ∀ q ∈ q_t187_6, q_chk 187 q = true := by decide +kernel
theorem k_187_7 : ∀ q ∈ q_t187_7, q_chk 187 q = true := by decide +kernel
theorem k_187_8 : ∀ q ∈ q_t187_8, q_chk 187 q = true := by decide +kernel
theorem k_187_9 : ∀ q ∈ q_t187_9, q_chk 187 q = true := by decide +kernel
theorem k_187_10 : ∀ q ∈ q_t187_10, q_chk 187 q = true := by decide +kernel
theorem k_187_11 : ∀ q ∈ q_t187_11, q_chk 187 q = true := by decide +kernel
theorem k_187_12 : ∀ q ∈ q_t187_12, q_chk 187 q = true := by decide +kernel
theorem k_187_13 : ∀ q ∈ q_t187_13, q_chk 187 q = true := by decide +kernel
theorem k_187_14 : ∀ q ∈ q_t187_14, q_chk 187 q = true := by decide +kernel
theorem k_187_15 : ∀ q ∈ q_t187_15, q_chk 187 q = true := by decide +kernel
theorem k_187_16 : ∀ q ∈ q_t187_16, q_chk 187 q = true := by decide +kernel
theorem k_187_17 : ∀ q ∈ q_t187_17, q_chk 187 q = true := by decide +kernel
theorem k_187_18 : ∀ q ∈ q_t187_18, q_chk 187 q = true := by decide +kernel
theorem k_187_19 : ∀ q ∈ q_t187_19, q_chk 187 q = true := by decide +kernel
theorem k_187_20 : ∀ q ∈ q_t187_20, q_chk 187 q = true := by decide +kernel
theorem k_187_21 : ∀ q ∈ q_t187_21, q_chk 187 q = true := by decide +kernel
theorem k_187_22 : ∀ q ∈ q_t187_22, q_chk 187 q = true := by decide +kernel
theorem k_187_23 : ∀ q ∈ q_t187_23, q_chk 187 q = true := by decide +kernel
theorem k_187_24 : ∀ q ∈ q_t187_24, q_chk 187 q = true := by decide +kernel
theorem k_187 : ∀ q ∈ q_t187, q_chk 187 q = true := List.forall_mem_append.mpr ⟨k_187_0, List.forall_mem_append.mpr ⟨k_187_1, List.forall_mem_append.mpr ⟨k_187_2, List.forall_mem_append.mpr ⟨k_187_3, List.forall_mem_append.mpr ⟨k_187_4, List.forall_mem_append.mpr ⟨k_187_5, List.forall_mem_append.mpr ⟨k_187_6, List.forall_mem_append.mpr ⟨k_187_7, List.forall_mem_append.mpr ⟨k_187_8, List.forall_mem_append.mpr ⟨k_187_9, List.forall_mem_append.mpr ⟨k_187_10, List.forall_mem_append.mpr ⟨k_187_11, List.forall_mem_append.mpr ⟨k_187_12, List.forall_mem_append.mpr ⟨k_187_13, List.forall_mem_append.mpr ⟨k_187_14, List.forall_mem_append.mpr ⟨k_187_15, List.forall_mem_append.mpr ⟨k_187_16, List.forall_mem_append.mpr ⟨k_187_17, List.forall_mem_append.mpr ⟨k_187_18, List.forall_mem_append.mpr ⟨k_187_19, List.forall_mem_append.mpr ⟨k_187_20, List.forall_mem_append.mpr ⟨k_187_21, List.forall_mem_append.mpr ⟨k_187_22, List.forall_mem_append.mpr ⟨k_187_23, k_187_24⟩⟩⟩⟩⟩⟩⟩⟩⟩⟩⟩⟩⟩⟩⟩⟩⟩⟩⟩⟩⟩⟩⟩⟩
theorem mo_0 : q_mo 0 = true := by decide +kernel
theorem mo_1 : q_mo 1 = true := by decide +kernel
theorem mo_2 : q_mo 2 = true := by decide +kernel
theorem mo_3 : q_mo 3 = true := by decide +kernel
theorem mo_4 : q_mo 4 = true := by decide +kernel
theorem mo_5 : q_mo 5 = true := by decide +kernel
theorem mo_6 : q_mo 6 = true := by decide +kernel
theorem mo_7 : q_mo 7 = true := by decide +kernel
theorem mo_8 : q_mo 8 = true := by decide +kernel
theorem mo_9 : q_mo 9 = true := by decide +kernel
theorem mo_10 : q_mo 10 = true := by decide +kernel
theorem mo_11 : q_mo 11 = true := by decide +kernel
theorem mo_12 : q_mo 12 = true := by decide +kernel
theorem mo_13 : q_mo 13 = true := by decide +kernel
theorem mo_14 : q_mo 14 = true := by decide +kernel
theorem mo_15 : q_mo 15 = true := by decide +kernel
theorem mo_16 : q_mo 16 = true := by decide +kernel
theorem mo_17 : q_mo 17 = true := by decide +kernel
theorem mo_18 : q_mo 18 = true := by decide +kernel
theorem mo_19 : q_mo 19 = true := by decide +kernel
theorem mo_20 : q_mo 20 = true := by decide +kernel
theorem mo_21 : q_mo 21 = true := by decide +kernel
theorem mo_22 : q_mo 22 = true := by decide +kernel
theorem mo_23 : q_mo 23 = true := by decide +kernel
theorem mo_24 : q_mo 24 = true := by decide +kernel
theorem mo_25 : q_mo 25 = true := by decide +kernel
theorem mo_26 : q_mo 26 = true := by decide +kernel
theorem mo_27 : q_mo 27 = true := by decide +kernel
theorem mo_28 : q_mo 28 = true := by decide +kernel
theorem mo_29 : q_mo 29 = true := by decide +kernel
theorem mo_30 : q_mo 30 = true := by decide +kernel
theorem mo_31 : q_mo 31 = true := by decide +kernel
theorem mo_32 : q_mo 32 = true := by decide +kernel
theorem mo_33 : q_mo 33 = true := by decide +kernel
theorem mo_34 : q_mo 34 = true := by decide +kernel
theorem mo_35 : q_mo 35 = true := by decide +kernel
theorem mo_36 : q_mo 36 = true := by decide +kernel
theorem mo_37 : q_mo 37 = true := by decide +kernel
theorem mo_38 : q_mo 38 = true := by decide +kernel
theorem mo_39 : q_mo 39 = true := by decide +kernel
theorem mo_40 : q_mo 40 = true := by decide +kernel
theorem mo_41 : q_mo 41 = true := by decide +kernel
theorem mo_42 : q_mo 42 = true := by decide +kernel
theorem mo_43 : q_mo 43 = true := by decide +kernel
theorem mo_44 : q_mo 44 = true := by decide +kernel
theorem mo_45 : q_mo 45 = true := by decide +kernel
theorem mo_46 : q_mo 46 = true := by decide +kernel
theorem mo_47 : q_mo 47 = true := by decide +kernel
theorem mo_48 : q_mo 48 = true := by decide +kernel
theorem mo_49 : q_mo 49 = true := by decide +kernel
theorem mo_50 : q_mo 50 = true := by decide +kernel
theorem mo_51 : q_mo 51 = true := by decide +kernel
theorem mo_52 : q_mo 52 = true := by decide +kernel
theorem mo_53 : q_mo 53 = true := by decide +kernel
theorem mo_54 : q_mo 54 = true := by decide +kernel
theorem mo_55 : q_mo 55 = true := by decide +kernel
theorem mo_56 : q_mo 56 = true := by decide +kernel
theorem mo_57 : q_mo 57 = true := by decide +kernel
theorem mo_58 : q_mo 58 = true := by decide +kernel
theorem mo_59 : q_mo 59 = true := by decide +kernel
theorem mo_60 : q_mo 60 = true := by decide +kernel
theorem mo_61 : q_mo 61 = true := by decide +kernel
theorem mo_62 : q_mo 62 = true := by decide +kernel
theorem mo_63 : q_mo 63 = true := by decide +kernel
theorem mo_64 : q_mo 64 = true := by decide +kernel
theorem mo_65 : q_mo 65 = true := by decide +kernel
theorem mo_66 : q_mo 66 = true := by decide +kernel
theorem mo_67 : q_mo 67 = true := by decide +kernel
theorem mo_68 : q_mo 68 = true := by decide +kernel
theorem mo_69 : q_mo 69 = true := by decide +kernel
theorem mo_70 : q_mo 70 = true := by decide +kernel
theorem mo_71 : q_mo 71 = true := by decide +kernel
theorem mo_72 : q_mo 72 = true := by decide +kernel
theorem mo_73 : q_mo 73 = true := by decide +kernel
theorem mo_74 : q_mo 74 = true := by decide +kernel
theorem mo_75 : q_mo 75 = true := by decide +kernel
theorem mo_76 : q_mo 76 = true := by decide +kernel
theorem mo_77 : q_mo 77 = true := by decide +kernel
theorem mo_78 : q_mo 78 = true := by decide +kernel
theorem mo_79 : q_mo 79 = true := by decide +kernel
theorem mo_80 : q_mo 80 = true := by decide +kernel
theorem mo_81 : q_mo 81 = true := by decide +kernel
theorem mo_82 : q_mo 82 = true := by decide +kernel
theorem mo_83 : q_mo 83 = true := by decide +kernel
theorem mo_84 : q_mo 84 = true := by decide +kernel
theorem mo_85 : q_mo 85 = true := by decide +kernel
theorem mo_86 : q_mo 86 = true := by decide +kernel
theorem mo_87 : q_mo 87 = true := by decide +kernel
theorem mo_88 : q_mo 88 = true := by decide +kernel
theorem mo_89 : q_mo 89 = true := by decide +kernel
theorem mo_90 : q_mo 90 = true := by decide +kernel
theorem mo_91 : q_mo 91 = true := by decide +kernel
theorem mo_92 : q_mo 92 = true := by decide +kernel
theorem mo_93 : q_mo 93 = true := by decide +kernel
theorem mo_94 : q_mo 94 = true := by decide +kernel
theorem mo_95 : q_mo 95 = true := by decide +kernel
theorem mo_96 : q_mo 96 = true := by decide +kernel
theorem mo_97 : q_mo 97 = true := by decide +kernel
theorem mo_98 : q_mo 98 = true := by decide +kernel
theorem mo_99 : q_mo 99 = true := by decide +kernel
theorem mo_100 : q_mo 100 = true := by decide +kernel
theorem mo_101 : q_mo 101 = true := by decide +kernel
theorem mo_102 : q_mo 102 = true := by decide +kernel
theorem mo_103 : q_mo 103 = true := by decide +kernel
theorem mo_104 : q_mo 104 = true := by decide +kernel
theorem mo_105 : q_mo 105 = true := by decide +kernel
theorem mo_106 : q_mo 106 = true := by decide +kernel
theorem mo_107 : q_mo 107 = true := by decide +kernel
theorem mo_108 : q_mo 108 = true := by decide +kernel
theorem mo_109 : q_mo 109 = true := by decide +kernel
theorem mo_110 : q_mo 110 = true := by decide +kernel
theorem mo_111 : q_mo 111 = true := by decide +kernel
theorem mo_112 : q_mo 112 = true := by decide +kernel
theorem mo_113 : q_mo 113 = true := by decide +kernel
theorem mo_114 : q_mo 114 = true := by decide +kernel
theorem mo_115 : q_mo 115 = true := by decide +kernel
theorem mo_116 : q_mo 116 = true := by decide +kernel
theorem mo_117 : q_mo 117 = true := by decide +kernel
theorem mo_118 : q_mo 118 = true := by decide +kernel
theorem mo_119 : q_mo 119 = true := by decide +kernel
theorem mo_120 : q_mo 120 = true := by decide +kernel
theorem mo_121 : q_mo 121 = true := by decide +kernel
theorem mo_122 : q_mo 122 = true := by decide +kernel
theorem mo_123 : q_mo 123 = true := by decide +kernel
theorem mo_124 : q_mo 124 = true := by decide +kernel
theorem mo_125 : q_mo 125 = true := by decide +kernel
theorem mo_126 : q_mo 126 = true := by decide +kernel
theorem mo_127 : q_mo 127 = true := by decide +kernel
theorem mo_128 : q_mo 128 = true := by decide +kernel
theorem mo_129 : q_mo 129 = true := by decide +kernel
theorem mo_130 : q_mo 130 = true := by decide +kernel
theorem mo_131 : q_mo 131 = true := by decide +kernel
theorem mo_132 : q_mo 132 = true := by decide +kernel
theorem mo_133 : q_mo 133 = true := by decide +kernel
theorem mo_134 : q_mo 134 = true := by decide +kernel
theorem mo_135 : q_mo 135 = true := by decide +kernel
theorem mo_136 : q_mo 136 = true := by decide +kernel
theorem mo_137 : q_mo 137 = true := by decide +kernel
theorem mo_138 : q_mo 138 = true := by decide +kernel
theorem mo_139 : q_mo 139 = true := by decide +kernel
theorem mo_140 : q_mo 140 = true := by decide +kernel
theorem mo_141 : q_mo 141 = true := by decide +kernel
theorem mo_142 : q_mo 142 = true := by decide +kernel
theorem mo_143 : q_mo 143 = true := by decide +kernel
theorem mo_144 : q_mo 144 = true := by decide +kernel
theorem mo_145 : q_mo 145 = true := by decide +kernel
theorem mo_146 : q_mo 146 = true := by decide +kernel
theorem mo_147 : q_mo 147 = true := by decide +kernel
theorem mo_148 : q_mo 148 = true := by decide +kernel
theorem mo_149 : q_mo 149 = true := by decide +kernel
theorem mo_150 : q_mo 150 = true := by decide +kernel
theorem mo_151 : q_mo 151 = true := by decide +kernel
theorem mo_152 : q_mo 152 = true := by decide +kernel
theorem mo_153 : q_mo 153 = true := by decide +kernel
theorem mo_154 : q_mo 154 = true := by decide +kernel
theorem mo_155 : q_mo 155 = true := by decide +kernel
theorem mo_156 : q_mo 156 = true := by decide +kernel
theorem mo_157 : q_mo 157 = true := by decide +kernel
theorem mo_158 : q_mo 158 = true := by decide +kernel
theorem mo_159 : q_mo 159 = true := by decide +kernel
theorem mo_160 : q_mo 160 = true := by decide +kernel
theorem mo_161 : q_mo 161 = true := by decide +kernel
theorem mo_162 : q_mo 162 = true := by decide +kernel
theorem mo_163 : q_mo 163 = true := by decide +kernel
theorem mo_164 : q_mo 164 = true := by decide +kernel
theorem mo_165 : q_mo 165 = true := by decide +kernel
theorem mo_166 : q_mo 166 = true := by decide +kernel
theorem mo_167 : q_mo 167 = true := by decide +kernel
theorem mo_168 : q_mo 168 = true := by decide +kernel
theorem mo_169 : q_mo 169 = true := by decide +kernel
theorem mo_170 : q_mo 170 = true := by decide +kernel
theorem mo_171 : q_mo 171 = true := by decide +kernel
theorem mo_172 : q_mo 172 = true := by decide +kernel
theorem mo_173 : q_mo 173 = true := by decide +kernel
theorem mo_174 : q_mo 174 = true := by decide +kernel
theorem mo_175 : q_mo 175 = true := by decide +kernel
theorem mo_176 : q_mo 176 = true := by decide +kernel
theorem mo_177 : q_mo 177 = true := by decide +kernel
theorem mo_178 : q_mo 178 = true := by decide +kernel
theorem mo_179 : q_mo 179 = true := by decide +kernel
theorem mo_180 : q_mo 180 = true := by decide +kernel
theorem mo_181 : q_mo 181 = true := by decide +kernel
theorem mo_182 : q_mo 182 = true := by decide +kernel
theorem mo_183 : q_mo 183 = true := by decide +kernel
theorem mo_184 : q_mo 184 = true := by decide +kernel
theorem mo_185 : q_mo 185 = true := by decide +kernel
theorem mo_186 : q_mo 186 = true := by decide +kernel
theorem mo_all : ∀ id, id < q_lawId → q_mo id = true := by
  intro id h
  match id, h with
  | 0, _ => exact mo_0
  | 1, _ => exact mo_1
  | 2, _ => exact mo_2
  | 3, _ => exact mo_3
  | 4, _ => exact mo_4
  | 5, _ => exact mo_5
  | 6, _ => exact mo_6
  | 7, _ => exact mo_7
  | 8, _ => exact mo_8
  | 9, _ => exact mo_9
  | 10, _ => exact mo_10
  | 11, _ => exact mo_11
  | 12, _ => exact mo_12
  | 13, _ => exact mo_13
  | 14, _ => exact mo_14
  | 15, _ => exact mo_15
  | 16, _ => exact mo_16
  | 17, _ => exact mo_17
  | 18, _ => exact mo_18
  | 19, _ => exact mo_19
  | 20, _ => exact mo_20
  | 21, _ => exact mo_21
  | 22, _ => exact mo_22
  | 23, _ => exact mo_23
  | 24, _ => exact mo_24
  | 25, _ => exact mo_25
  | 26, _ => exact mo_26
  | 27, _ => exact mo_27
  | 28, _ => exact mo_28
  | 29, _ => exact mo_29
  | 30, _ => exact mo_30
  | 31, _ => exact mo_31
  | 32, _ => exact mo_32
  | 33, _ => exact mo_33
  | 34, _ => exact mo_34
  | 35, _ => exact mo_35
  | 36, _ => exact mo_36
  | 37, _ => exact mo_37
  | 38, _ => exact mo_38
  | 39, _ => exact mo_39
  | 40, _ => exact mo_40
  | 41, _ => exact mo_41
  | 42, _ => exact mo_42
  | 43, _ => exact mo_43
  | 44, _ => exact mo_44
  | 45, _ => exact mo_45
  | 46, _ => exact mo_46
  | 47, _ => exact mo_47
  | 48, _ => exact mo_48
  | 49, _ => exact mo_49
  | 50, _ => exact mo_50
  | 51, _ => exact mo_51
  | 52, _ => exact mo_52
  | 53, _ => exact mo_53
  | 54, _ => exact mo_54
  | 55, _ => exact mo_55
  | 56, _ => exact mo_56
  | 57, _ => exact mo_57
  | 58, _ => exact mo_58
  | 59, _ => exact mo_59
  | 60, _ => exact mo_60
  | 61, _ => exact mo_61
  | 62, _ => exact mo_62
  | 63, _ => exact mo_63
  | 64, _ => exact mo_64
  | 65, _ => exact mo_65
  | 66, _ => exact mo_66
  | 67, _ => exact mo_67
  | 68, _ => exact mo_68
  | 69, _ => exact mo_69
  | 70, _ => exact mo_70
  | 71, _ => exact mo_71
  | 72, _ => exact mo_72
  | 73, _ => exact mo_73
  | 74, _ => exact mo_74
  | 75, _ => exact mo_75
  | 76, _ => exact mo_76
  | 77, _ => exact mo_77
  | 78, _ => exact mo_78
  | 79, _ => exact mo_79
  | 80, _ => exact mo_80
  | 81, _ => exact mo_81
  | 82, _ => exact mo_82
  | 83, _ => exact mo_83
  | 84, _ => exact mo_84
  | 85, _ => exact mo_85
  | 86, _ => exact mo_86
  | 87, _ => exact mo_87
  | 88, _ => exact mo_88
  | 89, _ => exact mo_89
  | 90, _ => exact mo_90
  | 91, _ => exact mo_91
  | 92, _ => exact mo_92
  | 93, _ => exact mo_93
  | 94, _ => exact mo_94
  | 95, _ => exact mo_95
  | 96, _ => exact mo_96
  | 97, _ => exact mo_97
  | 98, _ => exact mo_98
  | 99, _ => exact mo_99
  | 100, _ => exact mo_100
  | 101, _ => exact mo_101
  | 102, _ => exact mo_102
  | 103, _ => exact mo_103
  | 104, _ => exact mo_104
  | 105, _ => exact mo_105
  | 106, _ => exact mo_106
  | 107, _ => exact mo_107
  | 108, _ => exact mo_108
  | 109, _ => exact mo_109
  | 110, _ => exact mo_110
  | 111, _ => exact mo_111
  | 112, _ => exact mo_112
  | 113, _ => exact mo_113
  | 114, _ => exact mo_114
  | 115, _ => exact mo_115
  | 116, _ => exact mo_116
  | 117, _ => exact mo_117
  | 118, _ => exact mo_118
  | 119, _ => exact mo_119
  | 120, _ => exact mo_120
  | 121, _ => exact mo_121
  | 122, _ => exact mo_122
  | 123, _ => exact mo_123
  | 124, _ => exact mo_124
  | 125, _ => exact mo_125
  | 126, _ => exact mo_126
  | 127, _ => exact mo_127
  | 128, _ => exact mo_128
  | 129, _ => exact mo_129
  | 130, _ => exact mo_130
  | 131, _ => exact mo_131
  | 132, _ => exact mo_132
  | 133, _ => exact mo_133
  | 134, _ => exact mo_134
  | 135, _ => exact mo_135
  | 136, _ => exact mo_136
  | 137, _ => exact mo_137
  | 138, _ => exact mo_138
  | 139, _ => exact mo_139
  | 140, _ => exact mo_140
  | 141, _ => exact mo_141
  | 142, _ => exact mo_142
  | 143, _ => exact mo_143
  | 144, _ => exact mo_144
  | 145, _ => exact mo_145
  | 146, _ => exact mo_146
  | 147, _ => exact mo_147
  | 148, _ => exact mo_148
  | 149, _ => exact mo_149
  | 150, _ => exact mo_150
  | 151, _ => exact mo_151
  | 152, _ => exact mo_152
  | 153, _ => exact mo_153
  | 154, _ => exact mo_154
  | 155, _ => exact mo_155
  | 156, _ => exact mo_156
  | 157, _ => exact mo_157
  | 158, _ => exact mo_158
  | 159, _ => exact mo_159
  | 160, _ => exact mo_160
  | 161, _ => exact mo_161
  | 162, _ => exact mo_162
  | 163, _ => exact mo_163
  | 164, _ => exact mo_164
  | 165, _ => exact mo_165
  | 166, _ => exact mo_166
  | 167, _ => exact mo_167
  | 168, _ => exact mo_168
  | 169, _ => exact mo_169
  | 170, _ => exact mo_170
  | 171, _ => exact mo_171
  | 172, _ => exact mo_172
  | 173, _ => exact mo_173
  | 174, _ => exact mo_174
  | 175, _ => exact mo_175
  | 176, _ => exact mo_176
  | 177, _ => exact mo_177
  | 178, _ => exact mo_178
  | 179, _ => exact mo_179
  | 180, _ => exact mo_180
  | 181, _ => exact mo_181
  | 182, _ => exact mo_182
  | 183, _ => exact mo_183
  | 184, _ => exact mo_184
  | 185, _ => exact mo_185
  | 186, _ => exact mo_186
  | n + 187, h => exact absurd h (by unfold q_lawId; omega)
theorem k_all : ∀ id, id ≤ q_lawId → q_pk id = 0 → ∀ q ∈ q_tabs.getD id [], q_chk id q = true := by
  intro id h hk
  match id, h, hk with
  | 0, _, _ => exact k_0
  | 1, _, _ => exact k_1
  | 2, _, _ => exact k_2
  | 3, _, _ => exact k_3
  | 4, _, _ => exact k_4
  | 5, _, _ => exact k_5
  | 6, _, _ => exact k_6
  | 7, _, _ => exact k_7
  | 8, _, _ => exact k_8
  | 9, _, _ => exact k_9
  | 10, _, _ => exact k_10
  | 11, _, _ => exact k_11
  | 12, _, _ => exact k_12
  | 13, _, _ => exact k_13
  | 14, _, _ => exact k_14
  | 15, _, _ => exact k_15
  | 16, _, _ => exact k_16
  | 17, _, _ => exact k_17
  | 18, _, _ => exact k_18
  | 19, _, _ => exact k_19
  | 20, _, _ => exact k_20
  | 21, _, _ => exact k_21
  | 22, _, _ => exact k_22
  | 23, _, _ => exact k_23
  | 24, _, _ => exact k_24
  | 25, _, _ => exact k_25
  | 26, _, _ => exact k_26
  | 27, _, _ => exact k_27
  | 28, _, _ => exact k_28
  | 29, _, _ => exact k_29
  | 30, _, _ => exact k_30
  | 31, _, _ => exact k_31
  | 32, _, _ => exact k_32
  | 33, _, _ => exact k_33
  | 34, _, _ => exact k_34
  | 35, _, _ => exact k_35
  | 36, _, _ => exact k_36
  | 37, _, _ => exact k_37
  | 38, _, _ => exact k_38
  | 39, _, _ => exact k_39
  | 40, _, _ => exact k_40
  | 41, _, _ => exact k_41
  | 42, _, _ => exact k_42
  | 43, _, _ => exact k_43
  | 44, _, _ => exact k_44
  | 45, _, hk => exact absurd hk (by decide +kernel)
  | 46, _, _ => exact k_46
  | 47, _, hk => exact absurd hk (by decide +kernel)
  | 48, _, _ => exact k_48
  | 49, _, _ => exact k_49
  | 50, _, _ => exact k_50
  | 51, _, _ => exact k_51
  | 52, _, _ => exact k_52
  | 53, _, _ => exact k_53
  | 54, _, _ => exact k_54
  | 55, _, _ => exact k_55
  | 56, _, _ => exact k_56
  | 57, _, _ => exact k_57
  | 58, _, _ => exact k_58
  | 59, _, _ => exact k_59
  | 60, _, _ => exact k_60
  | 61, _, _ => exact k_61
  | 62, _, _ => exact k_62
  | 63, _, _ => exact k_63
  | 64, _, _ => exact k_64
  | 65, _, _ => exact k_65
  | 66, _, _ => exact k_66
  | 67, _, _ => exact k_67
  | 68, _, _ => exact k_68
  | 69, _, _ => exact k_69
  | 70, _, _ => exact k_70
  | 71, _, _ => exact k_71
  | 72, _, _ => exact k_72
  | 73, _, _ => exact k_73
  | 74, _, _ => exact k_74
  | 75, _, _ => exact k_75
  | 76, _, _ => exact k_76
  | 77, _, _ => exact k_77
  | 78, _, _ => exact k_78
  | 79, _, _ => exact k_79
  | 80, _, _ => exact k_80
  | 81, _, _ => exact k_81
  | 82, _, _ => exact k_82
  | 83, _, _ => exact k_83
  | 84, _, _ => exact k_84
  | 85, _, _ => exact k_85
  | 86, _, _ => exact k_86
  | 87, _, _ => exact k_87
  | 88, _, _ => exact k_88
  | 89, _, _ => exact k_89
  | 90, _, _ => exact k_90
  | 91, _, _ => exact k_91
  | 92, _, _ => exact k_92
  | 93, _, _ => exact k_93
  | 94, _, _ => exact k_94
  | 95, _, _ => exact k_95
  | 96, _, _ => exact k_96
  | 97, _, _ => exact k_97
  | 98, _, _ => exact k_98
  | 99, _, _ => exact k_99
  | 100, _, hk => exact absurd hk (by decide +kernel)
  | 101, _, _ => exact k_101
  | 102, _, _ => exact k_102
  | 103, _, _ => exact k_103
  | 104, _, _ => exact k_104
  | 105, _, _ => exact k_105
  | 106, _, _ => exact k_106
  | 107, _, _ => exact k_107
  | 108, _, _ => exact k_108
  | 109, _, _ => exact k_109
  | 110, _, _ => exact k_110
  | 111, _, _ => exact k_111
  | 112, _, _ => exact k_112
  | 113, _, _ => exact k_113
  | 114, _, _ => exact k_114
  | 115, _, _ => exact k_115
  | 116, _, _ => exact k_116
  | 117, _, _ => exact k_117
  | 118, _, _ => exact k_118
  | 119, _, _ => exact k_119
  | 120, _, _ => exact k_120
  | 121, _, _ => exact k_121
  | 122, _, _ => exact k_122
  | 123, _, _ => exact k_123
  | 124, _, _ => exact k_124
  | 125, _, _ => exact k_125
  | 126, _, _ => exact k_126
  | 127, _, _ => exact k_127
  | 128, _, _ => exact k_128
  | 129, _, _ => exact k_129
  | 130, _, _ => exact k_130
  | 131, _, _ => exact k_131
  | 132, _, _ => exact k_132
  | 133, _, _ => exact k_133
  | 134, _, _ => exact k_134
  | 135, _, _ => exact k_135
  | 136, _, _ => exact k_136
  | 137, _, _ => exact k_137
  | 138, _, _ => exact k_138
  | 139, _, _ => exact k_139
  | 140, _, _ => exact k_140
  | 141, _, _ => exact k_141
  | 142, _, _ => exact k_142
  | 143, _, _ => exact k_143
  | 144, _, _ => exact k_144
  | 145, _, _ => exact k_145
  | 146, _, _ => exact k_146
  | 147, _, _ => exact k_147
  | 148, _, _ => exact k_148
  | 149, _, _ => exact k_149
  | 150, _, _ => exact k_150
  | 151, _, _ => exact k_151
  | 152, _, _ => exact k_152
  | 153, _, _ => exact k_153
  | 154, _, _ => exact k_154
  | 155, _, _ => exact k_155
  | 156, _, _ => exact k_156
  | 157, _, _ => exact k_157
  | 158, _, _ => exact k_158
  | 159, _, _ => exact k_159
  | 160, _, _ => exact k_160
  | 161, _, _ => exact k_161
  | 162, _, _ => exact k_162
  | 163, _, _ => exact k_163
  | 164, _, _ => exact k_164
  | 165, _, _ => exact k_165
  | 166, _, _ => exact k_166
  | 167, _, _ => exact k_167
  | 168, _, _ => exact k_168
  | 169, _, _ => exact k_169
  | 170, _, _ => exact k_170
  | 171, _, _ => exact k_171
  | 172, _, _ => exact k_172
  | 173, _, _ => exact k_173
  | 174, _, _ => exact k_174
  | 175, _, _ => exact k_175
  | 176, _, _ => exact k_176
  | 177, _, _ => exact k_177
  | 178, _, _ => exact k_178
  | 179, _, _ => exact k_179
  | 180, _, _ => exact k_180
  | 181, _, _ => exact k_181
  | 182, _, _ => exact k_182
  | 183, _, _ => exact k_183
  | 184, _, _ => exact k_184
  | 185, _, _ => exact k_185
  | 186, _, _ => exact k_186
  | 187, _, _ => exact k_187
  | n + 188, h, _ => exact absurd h (by unfold q_lawId; omega)
