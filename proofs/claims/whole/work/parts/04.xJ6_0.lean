theorem xJ6_bitCount_0f7a4_0 : xdec cJ6_bitCount_0f7a4 0 = some (.iload_n 0, 1, 0, 0) := by decide +kernel
theorem xJ6_bitCount_0f7a4_1 : xdec cJ6_bitCount_0f7a4 1 = some (.iload_n 0, 2, 0, 0) := by decide +kernel
theorem xJ6_bitCount_0f7a4_2 : xdec cJ6_bitCount_0f7a4 2 = some (.iconst 1, 3, 0, 1) := by decide +kernel
theorem xJ6_bitCount_0f7a4_3 : xdec cJ6_bitCount_0f7a4 3 = some (.iushr, 4, 0, 0) := by decide +kernel
theorem xJ6_bitCount_0f7a4_4 : xdec cJ6_bitCount_0f7a4 4 = some (.ldc_w 265, 7, 265, 0) := by decide +kernel
theorem xJ6_bitCount_0f7a4_7 : xdec cJ6_bitCount_0f7a4 7 = some (.iand, 8, 0, 0) := by decide +kernel
theorem xJ6_bitCount_0f7a4_8 : xdec cJ6_bitCount_0f7a4 8 = some (.isub, 9, 0, 0) := by decide +kernel
theorem xJ6_bitCount_0f7a4_9 : xdec cJ6_bitCount_0f7a4 9 = some (.istore_n 0, 10, 0, 0) := by decide +kernel
theorem xJ6_bitCount_0f7a4_10 : xdec cJ6_bitCount_0f7a4 10 = some (.iload_n 0, 11, 0, 0) := by decide +kernel
theorem xJ6_bitCount_0f7a4_11 : xdec cJ6_bitCount_0f7a4 11 = some (.ldc_w 266, 14, 266, 0) := by decide +kernel
theorem xJ6_bitCount_0f7a4_14 : xdec cJ6_bitCount_0f7a4 14 = some (.iand, 15, 0, 0) := by decide +kernel
theorem xJ6_bitCount_0f7a4_15 : xdec cJ6_bitCount_0f7a4 15 = some (.iload_n 0, 16, 0, 0) := by decide +kernel
theorem xJ6_bitCount_0f7a4_16 : xdec cJ6_bitCount_0f7a4 16 = some (.iconst 2, 17, 0, 2) := by decide +kernel
theorem xJ6_bitCount_0f7a4_17 : xdec cJ6_bitCount_0f7a4 17 = some (.iushr, 18, 0, 0) := by decide +kernel
theorem xJ6_bitCount_0f7a4_18 : xdec cJ6_bitCount_0f7a4 18 = some (.ldc_w 266, 21, 266, 0) := by decide +kernel
theorem xJ6_bitCount_0f7a4_21 : xdec cJ6_bitCount_0f7a4 21 = some (.iand, 22, 0, 0) := by decide +kernel
theorem xJ6_bitCount_0f7a4_22 : xdec cJ6_bitCount_0f7a4 22 = some (.iadd, 23, 0, 0) := by decide +kernel
theorem xJ6_bitCount_0f7a4_23 : xdec cJ6_bitCount_0f7a4 23 = some (.istore_n 0, 24, 0, 0) := by decide +kernel
theorem xJ6_bitCount_0f7a4_24 : xdec cJ6_bitCount_0f7a4 24 = some (.iload_n 0, 25, 0, 0) := by decide +kernel
theorem xJ6_bitCount_0f7a4_25 : xdec cJ6_bitCount_0f7a4 25 = some (.iload_n 0, 26, 0, 0) := by decide +kernel
theorem xJ6_bitCount_0f7a4_26 : xdec cJ6_bitCount_0f7a4 26 = some (.iconst 4, 27, 0, 4) := by decide +kernel
theorem xJ6_bitCount_0f7a4_27 : xdec cJ6_bitCount_0f7a4 27 = some (.iushr, 28, 0, 0) := by decide +kernel
theorem xJ6_bitCount_0f7a4_28 : xdec cJ6_bitCount_0f7a4 28 = some (.iadd, 29, 0, 0) := by decide +kernel
theorem xJ6_bitCount_0f7a4_29 : xdec cJ6_bitCount_0f7a4 29 = some (.ldc_w 267, 32, 267, 0) := by decide +kernel
theorem xJ6_bitCount_0f7a4_32 : xdec cJ6_bitCount_0f7a4 32 = some (.iand, 33, 0, 0) := by decide +kernel
theorem xJ6_bitCount_0f7a4_33 : xdec cJ6_bitCount_0f7a4 33 = some (.istore_n 0, 34, 0, 0) := by decide +kernel
theorem xJ6_bitCount_0f7a4_34 : xdec cJ6_bitCount_0f7a4 34 = some (.iload_n 0, 35, 0, 0) := by decide +kernel
theorem xJ6_bitCount_0f7a4_35 : xdec cJ6_bitCount_0f7a4 35 = some (.iload_n 0, 36, 0, 0) := by decide +kernel
theorem xJ6_bitCount_0f7a4_36 : xdec cJ6_bitCount_0f7a4 36 = some (.bipush 8, 38, 0, 8) := by decide +kernel
theorem xJ6_bitCount_0f7a4_38 : xdec cJ6_bitCount_0f7a4 38 = some (.iushr, 39, 0, 0) := by decide +kernel
theorem xJ6_bitCount_0f7a4_39 : xdec cJ6_bitCount_0f7a4 39 = some (.iadd, 40, 0, 0) := by decide +kernel
theorem xJ6_bitCount_0f7a4_40 : xdec cJ6_bitCount_0f7a4 40 = some (.istore_n 0, 41, 0, 0) := by decide +kernel
theorem xJ6_bitCount_0f7a4_41 : xdec cJ6_bitCount_0f7a4 41 = some (.iload_n 0, 42, 0, 0) := by decide +kernel
theorem xJ6_bitCount_0f7a4_42 : xdec cJ6_bitCount_0f7a4 42 = some (.iload_n 0, 43, 0, 0) := by decide +kernel
theorem xJ6_bitCount_0f7a4_43 : xdec cJ6_bitCount_0f7a4 43 = some (.bipush 16, 45, 0, 16) := by decide +kernel
theorem xJ6_bitCount_0f7a4_45 : xdec cJ6_bitCount_0f7a4 45 = some (.iushr, 46, 0, 0) := by decide +kernel
theorem xJ6_bitCount_0f7a4_46 : xdec cJ6_bitCount_0f7a4 46 = some (.iadd, 47, 0, 0) := by decide +kernel
theorem xJ6_bitCount_0f7a4_47 : xdec cJ6_bitCount_0f7a4 47 = some (.istore_n 0, 48, 0, 0) := by decide +kernel
theorem xJ6_bitCount_0f7a4_48 : xdec cJ6_bitCount_0f7a4 48 = some (.iload_n 0, 49, 0, 0) := by decide +kernel
theorem xJ6_bitCount_0f7a4_49 : xdec cJ6_bitCount_0f7a4 49 = some (.bipush 63, 51, 0, 63) := by decide +kernel
theorem xJ6_bitCount_0f7a4_51 : xdec cJ6_bitCount_0f7a4 51 = some (.iand, 52, 0, 0) := by decide +kernel
theorem xJ6_bitCount_0f7a4_52 : xdec cJ6_bitCount_0f7a4 52 = some (.ireturn, 53, 0, 0) := by decide +kernel
