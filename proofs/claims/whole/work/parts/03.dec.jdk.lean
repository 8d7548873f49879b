theorem dArrays_fill_0 : decode cArrays_fill 0 = .ok (.iconst 0, 1) := by decide +kernel
theorem dArrays_fill_1 : decode cArrays_fill 1 = .ok (.istore_n 2, 1) := by decide +kernel
theorem dArrays_fill_2 : decode cArrays_fill 2 = .ok (.aload_n 0, 1) := by decide +kernel
theorem dArrays_fill_3 : decode cArrays_fill 3 = .ok (.arraylength, 1) := by decide +kernel
theorem dArrays_fill_4 : decode cArrays_fill 4 = .ok (.istore_n 3, 1) := by decide +kernel
theorem dArrays_fill_5 : decode cArrays_fill 5 = .ok (.iload_n 2, 1) := by decide +kernel
theorem dArrays_fill_6 : decode cArrays_fill 6 = .ok (.iload_n 3, 1) := by decide +kernel
theorem dArrays_fill_7 : decode cArrays_fill 7 = .ok (.if_icmp .ge 13, 3) := by decide +kernel
theorem dArrays_fill_10 : decode cArrays_fill 10 = .ok (.aload_n 0, 1) := by decide +kernel
theorem dArrays_fill_11 : decode cArrays_fill 11 = .ok (.iload_n 2, 1) := by decide +kernel
theorem dArrays_fill_12 : decode cArrays_fill 12 = .ok (.iload_n 1, 1) := by decide +kernel
theorem dArrays_fill_13 : decode cArrays_fill 13 = .ok (.iastore, 1) := by decide +kernel
theorem dArrays_fill_14 : decode cArrays_fill 14 = .ok (.iinc 2 1, 3) := by decide +kernel
theorem dArrays_fill_17 : decode cArrays_fill 17 = .ok (.goto (-12), 3) := by decide +kernel
theorem dArrays_fill_20 : decode cArrays_fill 20 = .ok (.return_, 1) := by decide +kernel
theorem dInteger_bitCount_0 : decode cInteger_bitCount 0 = .ok (.iload_n 0, 1) := by decide +kernel
theorem dInteger_bitCount_1 : decode cInteger_bitCount 1 = .ok (.iload_n 0, 1) := by decide +kernel
theorem dInteger_bitCount_2 : decode cInteger_bitCount 2 = .ok (.iconst 1, 1) := by decide +kernel
theorem dInteger_bitCount_3 : decode cInteger_bitCount 3 = .ok (.iushr, 1) := by decide +kernel
theorem dInteger_bitCount_4 : decode cInteger_bitCount 4 = .ok (.ldc_w 265, 3) := by decide +kernel
theorem dInteger_bitCount_7 : decode cInteger_bitCount 7 = .ok (.iand, 1) := by decide +kernel
theorem dInteger_bitCount_8 : decode cInteger_bitCount 8 = .ok (.isub, 1) := by decide +kernel
theorem dInteger_bitCount_9 : decode cInteger_bitCount 9 = .ok (.istore_n 0, 1) := by decide +kernel
theorem dInteger_bitCount_10 : decode cInteger_bitCount 10 = .ok (.iload_n 0, 1) := by decide +kernel
theorem dInteger_bitCount_11 : decode cInteger_bitCount 11 = .ok (.ldc_w 266, 3) := by decide +kernel
theorem dInteger_bitCount_14 : decode cInteger_bitCount 14 = .ok (.iand, 1) := by decide +kernel
theorem dInteger_bitCount_15 : decode cInteger_bitCount 15 = .ok (.iload_n 0, 1) := by decide +kernel
theorem dInteger_bitCount_16 : decode cInteger_bitCount 16 = .ok (.iconst 2, 1) := by decide +kernel
theorem dInteger_bitCount_17 : decode cInteger_bitCount 17 = .ok (.iushr, 1) := by decide +kernel
theorem dInteger_bitCount_18 : decode cInteger_bitCount 18 = .ok (.ldc_w 266, 3) := by decide +kernel
theorem dInteger_bitCount_21 : decode cInteger_bitCount 21 = .ok (.iand, 1) := by decide +kernel
theorem dInteger_bitCount_22 : decode cInteger_bitCount 22 = .ok (.iadd, 1) := by decide +kernel
theorem dInteger_bitCount_23 : decode cInteger_bitCount 23 = .ok (.istore_n 0, 1) := by decide +kernel
theorem dInteger_bitCount_24 : decode cInteger_bitCount 24 = .ok (.iload_n 0, 1) := by decide +kernel
theorem dInteger_bitCount_25 : decode cInteger_bitCount 25 = .ok (.iload_n 0, 1) := by decide +kernel
theorem dInteger_bitCount_26 : decode cInteger_bitCount 26 = .ok (.iconst 4, 1) := by decide +kernel
theorem dInteger_bitCount_27 : decode cInteger_bitCount 27 = .ok (.iushr, 1) := by decide +kernel
theorem dInteger_bitCount_28 : decode cInteger_bitCount 28 = .ok (.iadd, 1) := by decide +kernel
theorem dInteger_bitCount_29 : decode cInteger_bitCount 29 = .ok (.ldc_w 267, 3) := by decide +kernel
theorem dInteger_bitCount_32 : decode cInteger_bitCount 32 = .ok (.iand, 1) := by decide +kernel
theorem dInteger_bitCount_33 : decode cInteger_bitCount 33 = .ok (.istore_n 0, 1) := by decide +kernel
theorem dInteger_bitCount_34 : decode cInteger_bitCount 34 = .ok (.iload_n 0, 1) := by decide +kernel
theorem dInteger_bitCount_35 : decode cInteger_bitCount 35 = .ok (.iload_n 0, 1) := by decide +kernel
theorem dInteger_bitCount_36 : decode cInteger_bitCount 36 = .ok (.bipush 8, 2) := by decide +kernel
theorem dInteger_bitCount_38 : decode cInteger_bitCount 38 = .ok (.iushr, 1) := by decide +kernel
theorem dInteger_bitCount_39 : decode cInteger_bitCount 39 = .ok (.iadd, 1) := by decide +kernel
theorem dInteger_bitCount_40 : decode cInteger_bitCount 40 = .ok (.istore_n 0, 1) := by decide +kernel
theorem dInteger_bitCount_41 : decode cInteger_bitCount 41 = .ok (.iload_n 0, 1) := by decide +kernel
theorem dInteger_bitCount_42 : decode cInteger_bitCount 42 = .ok (.iload_n 0, 1) := by decide +kernel
theorem dInteger_bitCount_43 : decode cInteger_bitCount 43 = .ok (.bipush 16, 2) := by decide +kernel
theorem dInteger_bitCount_45 : decode cInteger_bitCount 45 = .ok (.iushr, 1) := by decide +kernel
theorem dInteger_bitCount_46 : decode cInteger_bitCount 46 = .ok (.iadd, 1) := by decide +kernel
theorem dInteger_bitCount_47 : decode cInteger_bitCount 47 = .ok (.istore_n 0, 1) := by decide +kernel
theorem dInteger_bitCount_48 : decode cInteger_bitCount 48 = .ok (.iload_n 0, 1) := by decide +kernel
theorem dInteger_bitCount_49 : decode cInteger_bitCount 49 = .ok (.bipush 63, 2) := by decide +kernel
theorem dInteger_bitCount_51 : decode cInteger_bitCount 51 = .ok (.iand, 1) := by decide +kernel
theorem dInteger_bitCount_52 : decode cInteger_bitCount 52 = .ok (.ireturn, 1) := by decide +kernel
theorem dOn_has_0 : decode cOn_has 0 = .ok (.iload_n 0, 1) := by decide +kernel
theorem dOn_has_1 : decode cOn_has 1 = .ok (.iload_n 1, 1) := by decide +kernel
theorem dOn_has_2 : decode cOn_has 2 = .ok (.ishr, 1) := by decide +kernel
theorem dOn_has_3 : decode cOn_has 3 = .ok (.iconst 1, 1) := by decide +kernel
theorem dOn_has_4 : decode cOn_has 4 = .ok (.iand, 1) := by decide +kernel
theorem dOn_has_5 : decode cOn_has 5 = .ok (.ifCond .eq 7, 3) := by decide +kernel
theorem dOn_has_8 : decode cOn_has 8 = .ok (.iconst 1, 1) := by decide +kernel
theorem dOn_has_9 : decode cOn_has 9 = .ok (.goto 4, 3) := by decide +kernel
theorem dOn_has_12 : decode cOn_has 12 = .ok (.iconst 0, 1) := by decide +kernel
theorem dOn_has_13 : decode cOn_has 13 = .ok (.ireturn, 1) := by decide +kernel
