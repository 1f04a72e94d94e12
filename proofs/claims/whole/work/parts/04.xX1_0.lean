theorem xX1_isKind_0 : xdec cX1_isKind 0 = some (.iload_n 0, 1, 0, 0) := by decide +kernel
theorem xX1_isKind_1 : xdec cX1_isKind 1 = some (.iconst 0, 2, 0, 0) := by decide +kernel
theorem xX1_isKind_2 : xdec cX1_isKind 2 = some (.bipush 7, 4, 0, 7) := by decide +kernel
theorem xX1_isKind_4 : xdec cX1_isKind 4 = some (.invokestatic 11, 7, 0, 0) := by decide +kernel
theorem xX1_isKind_7 : xdec cX1_isKind 7 = some (.ireturn, 8, 0, 0) := by decide +kernel
theorem xX1_dream_0 : xdec cX1_dream 0 = some (.iload_n 0, 1, 0, 0) := by decide +kernel
theorem xX1_dream_1 : xdec cX1_dream 1 = some (.tableswitch 94 1 7 #[43, 45, 53, 61, 63, 72, 75], 44, 0, 0) := by decide +kernel
theorem xX1_dream_44 : xdec cX1_dream 44 = some (.iconst 1, 45, 0, 1) := by decide +kernel
theorem xX1_dream_45 : xdec cX1_dream 45 = some (.ireturn, 46, 0, 0) := by decide +kernel
theorem xX1_dream_46 : xdec cX1_dream 46 = some (.iload_n 2, 47, 2, 0) := by decide +kernel
theorem xX1_dream_47 : xdec cX1_dream 47 = some (.iload 4, 49, 4, 0) := by decide +kernel
theorem xX1_dream_49 : xdec cX1_dream 49 = some (.iadd, 50, 0, 0) := by decide +kernel
theorem xX1_dream_50 : xdec cX1_dream 50 = some (.bipush 10, 52, 0, 10) := by decide +kernel
theorem xX1_dream_52 : xdec cX1_dream 52 = some (.irem, 53, 0, 0) := by decide +kernel
theorem xX1_dream_53 : xdec cX1_dream 53 = some (.ireturn, 54, 0, 0) := by decide +kernel
theorem xX1_dream_54 : xdec cX1_dream 54 = some (.iload_n 1, 55, 1, 0) := by decide +kernel
theorem xX1_dream_55 : xdec cX1_dream 55 = some (.iload_n 2, 56, 2, 0) := by decide +kernel
theorem xX1_dream_56 : xdec cX1_dream 56 = some (.iload 4, 58, 4, 0) := by decide +kernel
theorem xX1_dream_58 : xdec cX1_dream 58 = some (.invokestatic 15, 61, 0, 0) := by decide +kernel
theorem xX1_dream_61 : xdec cX1_dream 61 = some (.ireturn, 62, 0, 0) := by decide +kernel
theorem xX1_dream_62 : xdec cX1_dream 62 = some (.iconst 0, 63, 0, 0) := by decide +kernel
theorem xX1_dream_63 : xdec cX1_dream 63 = some (.ireturn, 64, 0, 0) := by decide +kernel
theorem xX1_dream_64 : xdec cX1_dream 64 = some (.iload_n 3, 65, 3, 0) := by decide +kernel
theorem xX1_dream_65 : xdec cX1_dream 65 = some (.iconst 1, 66, 0, 1) := by decide +kernel
theorem xX1_dream_66 : xdec cX1_dream 66 = some (.iadd, 67, 0, 0) := by decide +kernel
theorem xX1_dream_67 : xdec cX1_dream 67 = some (.iload_n 1, 68, 1, 0) := by decide +kernel
theorem xX1_dream_68 : xdec cX1_dream 68 = some (.iadd, 69, 0, 0) := by decide +kernel
theorem xX1_dream_69 : xdec cX1_dream 69 = some (.bipush 10, 71, 0, 10) := by decide +kernel
theorem xX1_dream_71 : xdec cX1_dream 71 = some (.irem, 72, 0, 0) := by decide +kernel
theorem xX1_dream_72 : xdec cX1_dream 72 = some (.ireturn, 73, 0, 0) := by decide +kernel
theorem xX1_dream_73 : xdec cX1_dream 73 = some (.bipush 9, 75, 0, 9) := by decide +kernel
theorem xX1_dream_75 : xdec cX1_dream 75 = some (.ireturn, 76, 0, 0) := by decide +kernel
theorem xX1_dream_76 : xdec cX1_dream 76 = some (.iload 4, 78, 4, 0) := by decide +kernel
theorem xX1_dream_78 : xdec cX1_dream 78 = some (.iconst 2, 79, 0, 2) := by decide +kernel
theorem xX1_dream_79 : xdec cX1_dream 79 = some (.irem, 80, 0, 0) := by decide +kernel
theorem xX1_dream_80 : xdec cX1_dream 80 = some (.ifCond .ne 7, 83, 87, 0) := by decide +kernel
theorem xX1_dream_83 : xdec cX1_dream 83 = some (.iload_n 3, 84, 3, 0) := by decide +kernel
theorem xX1_dream_84 : xdec cX1_dream 84 = some (.goto 10, 87, 94, 0) := by decide +kernel
theorem xX1_dream_87 : xdec cX1_dream 87 = some (.iload_n 1, 88, 1, 0) := by decide +kernel
theorem xX1_dream_88 : xdec cX1_dream 88 = some (.iload_n 2, 89, 2, 0) := by decide +kernel
theorem xX1_dream_89 : xdec cX1_dream 89 = some (.iload 4, 91, 4, 0) := by decide +kernel
theorem xX1_dream_91 : xdec cX1_dream 91 = some (.invokestatic 15, 94, 0, 0) := by decide +kernel
theorem xX1_dream_94 : xdec cX1_dream 94 = some (.ireturn, 95, 0, 0) := by decide +kernel
theorem xX1_dream_95 : xdec cX1_dream 95 = some (.iload_n 2, 96, 2, 0) := by decide +kernel
theorem xX1_dream_96 : xdec cX1_dream 96 = some (.ireturn, 97, 0, 0) := by decide +kernel
theorem xX1_cooksDream_0 : xdec cX1_cooksDream 0 = some (.iload_n 0, 1, 0, 0) := by decide +kernel
theorem xX1_cooksDream_1 : xdec cX1_cooksDream 1 = some (.iconst 2, 2, 0, 2) := by decide +kernel
theorem xX1_cooksDream_2 : xdec cX1_cooksDream 2 = some (.iadd, 3, 0, 0) := by decide +kernel
theorem xX1_cooksDream_3 : xdec cX1_cooksDream 3 = some (.istore_n 3, 4, 3, 0) := by decide +kernel
theorem xX1_cooksDream_4 : xdec cX1_cooksDream 4 = some (.iload_n 3, 5, 3, 0) := by decide +kernel
theorem xX1_cooksDream_5 : xdec cX1_cooksDream 5 = some (.ifCond .le 13, 8, 18, 0) := by decide +kernel
theorem xX1_cooksDream_8 : xdec cX1_cooksDream 8 = some (.iload_n 2, 9, 2, 0) := by decide +kernel
theorem xX1_cooksDream_9 : xdec cX1_cooksDream 9 = some (.iload_n 3, 10, 3, 0) := by decide +kernel
theorem xX1_cooksDream_10 : xdec cX1_cooksDream 10 = some (.irem, 11, 0, 0) := by decide +kernel
theorem xX1_cooksDream_11 : xdec cX1_cooksDream 11 = some (.ifCond .ne 7, 14, 18, 0) := by decide +kernel
theorem xX1_cooksDream_14 : xdec cX1_cooksDream 14 = some (.iload_n 1, 15, 1, 0) := by decide +kernel
theorem xX1_cooksDream_15 : xdec cX1_cooksDream 15 = some (.goto 5, 18, 20, 0) := by decide +kernel
theorem xX1_cooksDream_18 : xdec cX1_cooksDream 18 = some (.bipush (-4), 20, 0, (-4)) := by decide +kernel
theorem xX1_cooksDream_20 : xdec cX1_cooksDream 20 = some (.ireturn, 21, 0, 0) := by decide +kernel
theorem xX1_eats_0 : xdec cX1_eats 0 = some (.iload_n 0, 1, 0, 0) := by decide +kernel
theorem xX1_eats_1 : xdec cX1_eats 1 = some (.iconst 2, 2, 0, 2) := by decide +kernel
theorem xX1_eats_2 : xdec cX1_eats 2 = some (.if_icmp .eq 9, 5, 11, 0) := by decide +kernel
theorem xX1_eats_5 : xdec cX1_eats 5 = some (.iload_n 0, 6, 0, 0) := by decide +kernel
theorem xX1_eats_6 : xdec cX1_eats 6 = some (.bipush 7, 8, 0, 7) := by decide +kernel
theorem xX1_eats_8 : xdec cX1_eats 8 = some (.if_icmp .ne 7, 11, 15, 0) := by decide +kernel
theorem xX1_eats_11 : xdec cX1_eats 11 = some (.iconst 2, 12, 0, 2) := by decide +kernel
theorem xX1_eats_12 : xdec cX1_eats 12 = some (.goto 4, 15, 16, 0) := by decide +kernel
theorem xX1_eats_15 : xdec cX1_eats 15 = some (.iconst 1, 16, 0, 1) := by decide +kernel
theorem xX1_eats_16 : xdec cX1_eats 16 = some (.ireturn, 17, 0, 0) := by decide +kernel
theorem xX1_gain_0 : xdec cX1_gain 0 = some (.iload_n 0, 1, 0, 0) := by decide +kernel
theorem xX1_gain_1 : xdec cX1_gain 1 = some (.tableswitch 71 1 7 #[43, 45, 49, 43, 54, 60, 62], 44, 0, 0) := by decide +kernel
theorem xX1_gain_44 : xdec cX1_gain 44 = some (.iconst 1, 45, 0, 1) := by decide +kernel
theorem xX1_gain_45 : xdec cX1_gain 45 = some (.ireturn, 46, 0, 0) := by decide +kernel
theorem xX1_gain_46 : xdec cX1_gain 46 = some (.iload_n 2, 47, 2, 0) := by decide +kernel
theorem xX1_gain_47 : xdec cX1_gain 47 = some (.iconst 2, 48, 0, 2) := by decide +kernel
theorem xX1_gain_48 : xdec cX1_gain 48 = some (.idiv, 49, 0, 0) := by decide +kernel
theorem xX1_gain_49 : xdec cX1_gain 49 = some (.ireturn, 50, 0, 0) := by decide +kernel
theorem xX1_gain_50 : xdec cX1_gain 50 = some (.bipush 9, 52, 0, 9) := by decide +kernel
theorem xX1_gain_52 : xdec cX1_gain 52 = some (.iload_n 2, 53, 2, 0) := by decide +kernel
theorem xX1_gain_53 : xdec cX1_gain 53 = some (.isub, 54, 0, 0) := by decide +kernel
theorem xX1_gain_54 : xdec cX1_gain 54 = some (.ireturn, 55, 0, 0) := by decide +kernel
theorem xX1_gain_55 : xdec cX1_gain 55 = some (.iload_n 2, 56, 2, 0) := by decide +kernel
theorem xX1_gain_56 : xdec cX1_gain 56 = some (.iconst 2, 57, 0, 2) := by decide +kernel
theorem xX1_gain_57 : xdec cX1_gain 57 = some (.idiv, 58, 0, 0) := by decide +kernel
theorem xX1_gain_58 : xdec cX1_gain 58 = some (.iconst 3, 59, 0, 3) := by decide +kernel
theorem xX1_gain_59 : xdec cX1_gain 59 = some (.isub, 60, 0, 0) := by decide +kernel
theorem xX1_gain_60 : xdec cX1_gain 60 = some (.ireturn, 61, 0, 0) := by decide +kernel
theorem xX1_gain_61 : xdec cX1_gain 61 = some (.iload_n 1, 62, 1, 0) := by decide +kernel
theorem xX1_gain_62 : xdec cX1_gain 62 = some (.ireturn, 63, 0, 0) := by decide +kernel
theorem xX1_gain_63 : xdec cX1_gain 63 = some (.iconst 0, 64, 0, 0) := by decide +kernel
theorem xX1_gain_64 : xdec cX1_gain 64 = some (.bipush 8, 66, 0, 8) := by decide +kernel
theorem xX1_gain_66 : xdec cX1_gain 66 = some (.iload_n 2, 67, 2, 0) := by decide +kernel
theorem xX1_gain_67 : xdec cX1_gain 67 = some (.isub, 68, 0, 0) := by decide +kernel
theorem xX1_gain_68 : xdec cX1_gain 68 = some (.invokestatic 19, 71, 0, 0) := by decide +kernel
theorem xX1_gain_71 : xdec cX1_gain 71 = some (.ireturn, 72, 0, 0) := by decide +kernel
theorem xX1_gain_72 : xdec cX1_gain 72 = some (.iload_n 2, 73, 2, 0) := by decide +kernel
theorem xX1_gain_73 : xdec cX1_gain 73 = some (.iload_n 3, 74, 3, 0) := by decide +kernel
theorem xX1_gain_74 : xdec cX1_gain 74 = some (.if_icmp .ne 7, 77, 81, 0) := by decide +kernel
theorem xX1_gain_77 : xdec cX1_gain 77 = some (.iconst 0, 78, 0, 0) := by decide +kernel
theorem xX1_gain_78 : xdec cX1_gain 78 = some (.goto 4, 81, 82, 0) := by decide +kernel
theorem xX1_gain_81 : xdec cX1_gain 81 = some (.iconst 2, 82, 0, 2) := by decide +kernel
theorem xX1_gain_82 : xdec cX1_gain 82 = some (.ireturn, 83, 0, 0) := by decide +kernel
theorem xX1_price_0 : xdec cX1_price 0 = some (.iload_n 0, 1, 0, 0) := by decide +kernel
theorem xX1_price_1 : xdec cX1_price 1 = some (.tableswitch 69 1 7 #[43, 45, 49, 52, 54, 52, 60], 44, 0, 0) := by decide +kernel
theorem xX1_price_44 : xdec cX1_price 44 = some (.iconst 1, 45, 0, 1) := by decide +kernel
theorem xX1_price_45 : xdec cX1_price 45 = some (.ireturn, 46, 0, 0) := by decide +kernel
theorem xX1_price_46 : xdec cX1_price 46 = some (.iconst 3, 47, 0, 3) := by decide +kernel
theorem xX1_price_47 : xdec cX1_price 47 = some (.iload_n 1, 48, 1, 0) := by decide +kernel
theorem xX1_price_48 : xdec cX1_price 48 = some (.iadd, 49, 0, 0) := by decide +kernel
theorem xX1_price_49 : xdec cX1_price 49 = some (.ireturn, 50, 0, 0) := by decide +kernel
theorem xX1_price_50 : xdec cX1_price 50 = some (.bipush 6, 52, 0, 6) := by decide +kernel
theorem xX1_price_52 : xdec cX1_price 52 = some (.ireturn, 53, 0, 0) := by decide +kernel
theorem xX1_price_53 : xdec cX1_price 53 = some (.iconst 0, 54, 0, 0) := by decide +kernel
theorem xX1_price_54 : xdec cX1_price 54 = some (.ireturn, 55, 0, 0) := by decide +kernel
theorem xX1_price_55 : xdec cX1_price 55 = some (.iconst 3, 56, 0, 3) := by decide +kernel
theorem xX1_price_56 : xdec cX1_price 56 = some (.iload_n 1, 57, 1, 0) := by decide +kernel
theorem xX1_price_57 : xdec cX1_price 57 = some (.iadd, 58, 0, 0) := by decide +kernel
theorem xX1_price_58 : xdec cX1_price 58 = some (.iconst 2, 59, 0, 2) := by decide +kernel
theorem xX1_price_59 : xdec cX1_price 59 = some (.idiv, 60, 0, 0) := by decide +kernel
theorem xX1_price_60 : xdec cX1_price 60 = some (.ireturn, 61, 0, 0) := by decide +kernel
theorem xX1_price_61 : xdec cX1_price 61 = some (.iconst 0, 62, 0, 0) := by decide +kernel
theorem xX1_price_62 : xdec cX1_price 62 = some (.bipush 6, 64, 0, 6) := by decide +kernel
theorem xX1_price_64 : xdec cX1_price 64 = some (.iload_n 1, 65, 1, 0) := by decide +kernel
theorem xX1_price_65 : xdec cX1_price 65 = some (.isub, 66, 0, 0) := by decide +kernel
theorem xX1_price_66 : xdec cX1_price 66 = some (.invokestatic 19, 69, 0, 0) := by decide +kernel
theorem xX1_price_69 : xdec cX1_price 69 = some (.ireturn, 70, 0, 0) := by decide +kernel
theorem xX1_price_70 : xdec cX1_price 70 = some (.iconst 3, 71, 0, 3) := by decide +kernel
theorem xX1_price_71 : xdec cX1_price 71 = some (.ireturn, 72, 0, 0) := by decide +kernel
theorem xX1_fail_0 : xdec cX1_fail 0 = some (.iload_n 1, 1, 1, 0) := by decide +kernel
theorem xX1_fail_1 : xdec cX1_fail 1 = some (.ifCond .eq 19, 4, 20, 0) := by decide +kernel
theorem xX1_fail_4 : xdec cX1_fail 4 = some (.iload_n 0, 5, 0, 0) := by decide +kernel
theorem xX1_fail_5 : xdec cX1_fail 5 = some (.iconst 1, 6, 0, 1) := by decide +kernel
theorem xX1_fail_6 : xdec cX1_fail 6 = some (.if_icmp .eq 14, 9, 20, 0) := by decide +kernel
theorem xX1_fail_9 : xdec cX1_fail 9 = some (.iload_n 0, 10, 0, 0) := by decide +kernel
theorem xX1_fail_10 : xdec cX1_fail 10 = some (.iconst 4, 11, 0, 4) := by decide +kernel
theorem xX1_fail_11 : xdec cX1_fail 11 = some (.if_icmp .eq 9, 14, 20, 0) := by decide +kernel
theorem xX1_fail_14 : xdec cX1_fail 14 = some (.iload_n 0, 15, 0, 0) := by decide +kernel
theorem xX1_fail_15 : xdec cX1_fail 15 = some (.bipush 6, 17, 0, 6) := by decide +kernel
theorem xX1_fail_17 : xdec cX1_fail 17 = some (.if_icmp .ne 4, 20, 21, 0) := by decide +kernel
theorem xX1_fail_20 : xdec cX1_fail 20 = some (.return_, 21, 0, 0) := by decide +kernel
theorem xX1_fail_21 : xdec cX1_fail 21 = some (.iload_n 0, 22, 0, 0) := by decide +kernel
theorem xX1_fail_22 : xdec cX1_fail 22 = some (.iconst 2, 23, 0, 2) := by decide +kernel
theorem xX1_fail_23 : xdec cX1_fail 23 = some (.if_icmp .eq 8, 26, 31, 0) := by decide +kernel
theorem xX1_fail_26 : xdec cX1_fail 26 = some (.iload_n 0, 27, 0, 0) := by decide +kernel
theorem xX1_fail_27 : xdec cX1_fail 27 = some (.iconst 5, 28, 0, 5) := by decide +kernel
theorem xX1_fail_28 : xdec cX1_fail 28 = some (.if_icmp .ne 13, 31, 41, 0) := by decide +kernel
theorem xX1_fail_31 : xdec cX1_fail 31 = some (.new 25, 34, 0, 0) := by decide +kernel
theorem xX1_fail_34 : xdec cX1_fail 34 = some (.dup, 35, 0, 0) := by decide +kernel
theorem xX1_fail_35 : xdec cX1_fail 35 = some (.ldc 27, 37, 27, 0) := by decide +kernel
theorem xX1_fail_37 : xdec cX1_fail 37 = some (.invokespecial 29, 40, 0, 0) := by decide +kernel
theorem xX1_fail_40 : xdec cX1_fail 40 = some (.athrow, 41, 0, 0) := by decide +kernel
theorem xX1_fail_41 : xdec cX1_fail 41 = some (.iload_n 0, 42, 0, 0) := by decide +kernel
theorem xX1_fail_42 : xdec cX1_fail 42 = some (.bipush 7, 44, 0, 7) := by decide +kernel
theorem xX1_fail_44 : xdec cX1_fail 44 = some (.if_icmp .ne 13, 47, 57, 0) := by decide +kernel
theorem xX1_fail_47 : xdec cX1_fail 47 = some (.new 32, 50, 0, 0) := by decide +kernel
theorem xX1_fail_50 : xdec cX1_fail 50 = some (.dup, 51, 0, 0) := by decide +kernel
theorem xX1_fail_51 : xdec cX1_fail 51 = some (.ldc 34, 53, 34, 0) := by decide +kernel
theorem xX1_fail_53 : xdec cX1_fail 53 = some (.invokespecial 36, 56, 0, 0) := by decide +kernel
theorem xX1_fail_56 : xdec cX1_fail 56 = some (.athrow, 57, 0, 0) := by decide +kernel
theorem xX1_fail_57 : xdec cX1_fail 57 = some (.new 37, 60, 0, 0) := by decide +kernel
theorem xX1_fail_60 : xdec cX1_fail 60 = some (.dup, 61, 0, 0) := by decide +kernel
theorem xX1_fail_61 : xdec cX1_fail 61 = some (.ldc 39, 63, 39, 0) := by decide +kernel
theorem xX1_fail_63 : xdec cX1_fail 63 = some (.invokespecial 41, 66, 0, 0) := by decide +kernel
theorem xX1_fail_66 : xdec cX1_fail 66 = some (.athrow, 67, 0, 0) := by decide +kernel
