theorem dX1_isKind_0 : decode cX1_isKind 0 = .ok (.iload_n 0, 1) := by decide +kernel
theorem dX1_isKind_1 : decode cX1_isKind 1 = .ok (.iconst 0, 1) := by decide +kernel
theorem dX1_isKind_2 : decode cX1_isKind 2 = .ok (.bipush 7, 2) := by decide +kernel
theorem dX1_isKind_4 : decode cX1_isKind 4 = .ok (.invokestatic 11, 3) := by decide +kernel
theorem dX1_isKind_7 : decode cX1_isKind 7 = .ok (.ireturn, 1) := by decide +kernel
theorem dX1_dream_0 : decode cX1_dream 0 = .ok (.iload_n 0, 1) := by decide +kernel
theorem dX1_dream_1 : decode cX1_dream 1 = .ok (.tableswitch 94 1 7 #[43, 45, 53, 61, 63, 72, 75], 43) := by decide +kernel
theorem dX1_dream_44 : decode cX1_dream 44 = .ok (.iconst 1, 1) := by decide +kernel
theorem dX1_dream_45 : decode cX1_dream 45 = .ok (.ireturn, 1) := by decide +kernel
theorem dX1_dream_46 : decode cX1_dream 46 = .ok (.iload_n 2, 1) := by decide +kernel
theorem dX1_dream_47 : decode cX1_dream 47 = .ok (.iload 4, 2) := by decide +kernel
theorem dX1_dream_49 : decode cX1_dream 49 = .ok (.iadd, 1) := by decide +kernel
theorem dX1_dream_50 : decode cX1_dream 50 = .ok (.bipush 10, 2) := by decide +kernel
theorem dX1_dream_52 : decode cX1_dream 52 = .ok (.irem, 1) := by decide +kernel
theorem dX1_dream_53 : decode cX1_dream 53 = .ok (.ireturn, 1) := by decide +kernel
theorem dX1_dream_54 : decode cX1_dream 54 = .ok (.iload_n 1, 1) := by decide +kernel
theorem dX1_dream_55 : decode cX1_dream 55 = .ok (.iload_n 2, 1) := by decide +kernel
theorem dX1_dream_56 : decode cX1_dream 56 = .ok (.iload 4, 2) := by decide +kernel
theorem dX1_dream_58 : decode cX1_dream 58 = .ok (.invokestatic 15, 3) := by decide +kernel
theorem dX1_dream_61 : decode cX1_dream 61 = .ok (.ireturn, 1) := by decide +kernel
theorem dX1_dream_62 : decode cX1_dream 62 = .ok (.iconst 0, 1) := by decide +kernel
theorem dX1_dream_63 : decode cX1_dream 63 = .ok (.ireturn, 1) := by decide +kernel
theorem dX1_dream_64 : decode cX1_dream 64 = .ok (.iload_n 3, 1) := by decide +kernel
theorem dX1_dream_65 : decode cX1_dream 65 = .ok (.iconst 1, 1) := by decide +kernel
theorem dX1_dream_66 : decode cX1_dream 66 = .ok (.iadd, 1) := by decide +kernel
theorem dX1_dream_67 : decode cX1_dream 67 = .ok (.iload_n 1, 1) := by decide +kernel
theorem dX1_dream_68 : decode cX1_dream 68 = .ok (.iadd, 1) := by decide +kernel
theorem dX1_dream_69 : decode cX1_dream 69 = .ok (.bipush 10, 2) := by decide +kernel
theorem dX1_dream_71 : decode cX1_dream 71 = .ok (.irem, 1) := by decide +kernel
theorem dX1_dream_72 : decode cX1_dream 72 = .ok (.ireturn, 1) := by decide +kernel
theorem dX1_dream_73 : decode cX1_dream 73 = .ok (.bipush 9, 2) := by decide +kernel
theorem dX1_dream_75 : decode cX1_dream 75 = .ok (.ireturn, 1) := by decide +kernel
theorem dX1_dream_76 : decode cX1_dream 76 = .ok (.iload 4, 2) := by decide +kernel
theorem dX1_dream_78 : decode cX1_dream 78 = .ok (.iconst 2, 1) := by decide +kernel
theorem dX1_dream_79 : decode cX1_dream 79 = .ok (.irem, 1) := by decide +kernel
theorem dX1_dream_80 : decode cX1_dream 80 = .ok (.ifCond .ne 7, 3) := by decide +kernel
theorem dX1_dream_83 : decode cX1_dream 83 = .ok (.iload_n 3, 1) := by decide +kernel
theorem dX1_dream_84 : decode cX1_dream 84 = .ok (.goto 10, 3) := by decide +kernel
theorem dX1_dream_87 : decode cX1_dream 87 = .ok (.iload_n 1, 1) := by decide +kernel
theorem dX1_dream_88 : decode cX1_dream 88 = .ok (.iload_n 2, 1) := by decide +kernel
theorem dX1_dream_89 : decode cX1_dream 89 = .ok (.iload 4, 2) := by decide +kernel
theorem dX1_dream_91 : decode cX1_dream 91 = .ok (.invokestatic 15, 3) := by decide +kernel
theorem dX1_dream_94 : decode cX1_dream 94 = .ok (.ireturn, 1) := by decide +kernel
theorem dX1_dream_95 : decode cX1_dream 95 = .ok (.iload_n 2, 1) := by decide +kernel
theorem dX1_dream_96 : decode cX1_dream 96 = .ok (.ireturn, 1) := by decide +kernel
theorem dX1_cooksDream_0 : decode cX1_cooksDream 0 = .ok (.iload_n 0, 1) := by decide +kernel
theorem dX1_cooksDream_1 : decode cX1_cooksDream 1 = .ok (.iconst 2, 1) := by decide +kernel
theorem dX1_cooksDream_2 : decode cX1_cooksDream 2 = .ok (.iadd, 1) := by decide +kernel
theorem dX1_cooksDream_3 : decode cX1_cooksDream 3 = .ok (.istore_n 3, 1) := by decide +kernel
theorem dX1_cooksDream_4 : decode cX1_cooksDream 4 = .ok (.iload_n 3, 1) := by decide +kernel
theorem dX1_cooksDream_5 : decode cX1_cooksDream 5 = .ok (.ifCond .le 13, 3) := by decide +kernel
theorem dX1_cooksDream_8 : decode cX1_cooksDream 8 = .ok (.iload_n 2, 1) := by decide +kernel
theorem dX1_cooksDream_9 : decode cX1_cooksDream 9 = .ok (.iload_n 3, 1) := by decide +kernel
theorem dX1_cooksDream_10 : decode cX1_cooksDream 10 = .ok (.irem, 1) := by decide +kernel
theorem dX1_cooksDream_11 : decode cX1_cooksDream 11 = .ok (.ifCond .ne 7, 3) := by decide +kernel
theorem dX1_cooksDream_14 : decode cX1_cooksDream 14 = .ok (.iload_n 1, 1) := by decide +kernel
theorem dX1_cooksDream_15 : decode cX1_cooksDream 15 = .ok (.goto 5, 3) := by decide +kernel
theorem dX1_cooksDream_18 : decode cX1_cooksDream 18 = .ok (.bipush (-4), 2) := by decide +kernel
theorem dX1_cooksDream_20 : decode cX1_cooksDream 20 = .ok (.ireturn, 1) := by decide +kernel
theorem dX1_eats_0 : decode cX1_eats 0 = .ok (.iload_n 0, 1) := by decide +kernel
theorem dX1_eats_1 : decode cX1_eats 1 = .ok (.iconst 2, 1) := by decide +kernel
theorem dX1_eats_2 : decode cX1_eats 2 = .ok (.if_icmp .eq 9, 3) := by decide +kernel
theorem dX1_eats_5 : decode cX1_eats 5 = .ok (.iload_n 0, 1) := by decide +kernel
theorem dX1_eats_6 : decode cX1_eats 6 = .ok (.bipush 7, 2) := by decide +kernel
theorem dX1_eats_8 : decode cX1_eats 8 = .ok (.if_icmp .ne 7, 3) := by decide +kernel
theorem dX1_eats_11 : decode cX1_eats 11 = .ok (.iconst 2, 1) := by decide +kernel
theorem dX1_eats_12 : decode cX1_eats 12 = .ok (.goto 4, 3) := by decide +kernel
theorem dX1_eats_15 : decode cX1_eats 15 = .ok (.iconst 1, 1) := by decide +kernel
theorem dX1_eats_16 : decode cX1_eats 16 = .ok (.ireturn, 1) := by decide +kernel
theorem dX1_gain_0 : decode cX1_gain 0 = .ok (.iload_n 0, 1) := by decide +kernel
theorem dX1_gain_1 : decode cX1_gain 1 = .ok (.tableswitch 71 1 7 #[43, 45, 49, 43, 54, 60, 62], 43) := by decide +kernel
theorem dX1_gain_44 : decode cX1_gain 44 = .ok (.iconst 1, 1) := by decide +kernel
theorem dX1_gain_45 : decode cX1_gain 45 = .ok (.ireturn, 1) := by decide +kernel
theorem dX1_gain_46 : decode cX1_gain 46 = .ok (.iload_n 2, 1) := by decide +kernel
theorem dX1_gain_47 : decode cX1_gain 47 = .ok (.iconst 2, 1) := by decide +kernel
theorem dX1_gain_48 : decode cX1_gain 48 = .ok (.idiv, 1) := by decide +kernel
theorem dX1_gain_49 : decode cX1_gain 49 = .ok (.ireturn, 1) := by decide +kernel
theorem dX1_gain_50 : decode cX1_gain 50 = .ok (.bipush 9, 2) := by decide +kernel
theorem dX1_gain_52 : decode cX1_gain 52 = .ok (.iload_n 2, 1) := by decide +kernel
theorem dX1_gain_53 : decode cX1_gain 53 = .ok (.isub, 1) := by decide +kernel
theorem dX1_gain_54 : decode cX1_gain 54 = .ok (.ireturn, 1) := by decide +kernel
theorem dX1_gain_55 : decode cX1_gain 55 = .ok (.iload_n 2, 1) := by decide +kernel
theorem dX1_gain_56 : decode cX1_gain 56 = .ok (.iconst 2, 1) := by decide +kernel
theorem dX1_gain_57 : decode cX1_gain 57 = .ok (.idiv, 1) := by decide +kernel
theorem dX1_gain_58 : decode cX1_gain 58 = .ok (.iconst 3, 1) := by decide +kernel
theorem dX1_gain_59 : decode cX1_gain 59 = .ok (.isub, 1) := by decide +kernel
theorem dX1_gain_60 : decode cX1_gain 60 = .ok (.ireturn, 1) := by decide +kernel
theorem dX1_gain_61 : decode cX1_gain 61 = .ok (.iload_n 1, 1) := by decide +kernel
theorem dX1_gain_62 : decode cX1_gain 62 = .ok (.ireturn, 1) := by decide +kernel
theorem dX1_gain_63 : decode cX1_gain 63 = .ok (.iconst 0, 1) := by decide +kernel
theorem dX1_gain_64 : decode cX1_gain 64 = .ok (.bipush 8, 2) := by decide +kernel
theorem dX1_gain_66 : decode cX1_gain 66 = .ok (.iload_n 2, 1) := by decide +kernel
theorem dX1_gain_67 : decode cX1_gain 67 = .ok (.isub, 1) := by decide +kernel
theorem dX1_gain_68 : decode cX1_gain 68 = .ok (.invokestatic 19, 3) := by decide +kernel
theorem dX1_gain_71 : decode cX1_gain 71 = .ok (.ireturn, 1) := by decide +kernel
theorem dX1_gain_72 : decode cX1_gain 72 = .ok (.iload_n 2, 1) := by decide +kernel
theorem dX1_gain_73 : decode cX1_gain 73 = .ok (.iload_n 3, 1) := by decide +kernel
theorem dX1_gain_74 : decode cX1_gain 74 = .ok (.if_icmp .ne 7, 3) := by decide +kernel
theorem dX1_gain_77 : decode cX1_gain 77 = .ok (.iconst 0, 1) := by decide +kernel
theorem dX1_gain_78 : decode cX1_gain 78 = .ok (.goto 4, 3) := by decide +kernel
theorem dX1_gain_81 : decode cX1_gain 81 = .ok (.iconst 2, 1) := by decide +kernel
theorem dX1_gain_82 : decode cX1_gain 82 = .ok (.ireturn, 1) := by decide +kernel
theorem dX1_price_0 : decode cX1_price 0 = .ok (.iload_n 0, 1) := by decide +kernel
theorem dX1_price_1 : decode cX1_price 1 = .ok (.tableswitch 69 1 7 #[43, 45, 49, 52, 54, 52, 60], 43) := by decide +kernel
theorem dX1_price_44 : decode cX1_price 44 = .ok (.iconst 1, 1) := by decide +kernel
theorem dX1_price_45 : decode cX1_price 45 = .ok (.ireturn, 1) := by decide +kernel
theorem dX1_price_46 : decode cX1_price 46 = .ok (.iconst 3, 1) := by decide +kernel
theorem dX1_price_47 : decode cX1_price 47 = .ok (.iload_n 1, 1) := by decide +kernel
theorem dX1_price_48 : decode cX1_price 48 = .ok (.iadd, 1) := by decide +kernel
theorem dX1_price_49 : decode cX1_price 49 = .ok (.ireturn, 1) := by decide +kernel
theorem dX1_price_50 : decode cX1_price 50 = .ok (.bipush 6, 2) := by decide +kernel
theorem dX1_price_52 : decode cX1_price 52 = .ok (.ireturn, 1) := by decide +kernel
theorem dX1_price_53 : decode cX1_price 53 = .ok (.iconst 0, 1) := by decide +kernel
theorem dX1_price_54 : decode cX1_price 54 = .ok (.ireturn, 1) := by decide +kernel
theorem dX1_price_55 : decode cX1_price 55 = .ok (.iconst 3, 1) := by decide +kernel
theorem dX1_price_56 : decode cX1_price 56 = .ok (.iload_n 1, 1) := by decide +kernel
theorem dX1_price_57 : decode cX1_price 57 = .ok (.iadd, 1) := by decide +kernel
theorem dX1_price_58 : decode cX1_price 58 = .ok (.iconst 2, 1) := by decide +kernel
theorem dX1_price_59 : decode cX1_price 59 = .ok (.idiv, 1) := by decide +kernel
theorem dX1_price_60 : decode cX1_price 60 = .ok (.ireturn, 1) := by decide +kernel
theorem dX1_price_61 : decode cX1_price 61 = .ok (.iconst 0, 1) := by decide +kernel
theorem dX1_price_62 : decode cX1_price 62 = .ok (.bipush 6, 2) := by decide +kernel
theorem dX1_price_64 : decode cX1_price 64 = .ok (.iload_n 1, 1) := by decide +kernel
theorem dX1_price_65 : decode cX1_price 65 = .ok (.isub, 1) := by decide +kernel
theorem dX1_price_66 : decode cX1_price 66 = .ok (.invokestatic 19, 3) := by decide +kernel
theorem dX1_price_69 : decode cX1_price 69 = .ok (.ireturn, 1) := by decide +kernel
theorem dX1_price_70 : decode cX1_price 70 = .ok (.iconst 3, 1) := by decide +kernel
theorem dX1_price_71 : decode cX1_price 71 = .ok (.ireturn, 1) := by decide +kernel
theorem dX1_fail_0 : decode cX1_fail 0 = .ok (.iload_n 1, 1) := by decide +kernel
theorem dX1_fail_1 : decode cX1_fail 1 = .ok (.ifCond .eq 19, 3) := by decide +kernel
theorem dX1_fail_4 : decode cX1_fail 4 = .ok (.iload_n 0, 1) := by decide +kernel
theorem dX1_fail_5 : decode cX1_fail 5 = .ok (.iconst 1, 1) := by decide +kernel
theorem dX1_fail_6 : decode cX1_fail 6 = .ok (.if_icmp .eq 14, 3) := by decide +kernel
theorem dX1_fail_9 : decode cX1_fail 9 = .ok (.iload_n 0, 1) := by decide +kernel
theorem dX1_fail_10 : decode cX1_fail 10 = .ok (.iconst 4, 1) := by decide +kernel
theorem dX1_fail_11 : decode cX1_fail 11 = .ok (.if_icmp .eq 9, 3) := by decide +kernel
theorem dX1_fail_14 : decode cX1_fail 14 = .ok (.iload_n 0, 1) := by decide +kernel
theorem dX1_fail_15 : decode cX1_fail 15 = .ok (.bipush 6, 2) := by decide +kernel
theorem dX1_fail_17 : decode cX1_fail 17 = .ok (.if_icmp .ne 4, 3) := by decide +kernel
theorem dX1_fail_20 : decode cX1_fail 20 = .ok (.return_, 1) := by decide +kernel
theorem dX1_fail_21 : decode cX1_fail 21 = .ok (.iload_n 0, 1) := by decide +kernel
theorem dX1_fail_22 : decode cX1_fail 22 = .ok (.iconst 2, 1) := by decide +kernel
theorem dX1_fail_23 : decode cX1_fail 23 = .ok (.if_icmp .eq 8, 3) := by decide +kernel
theorem dX1_fail_26 : decode cX1_fail 26 = .ok (.iload_n 0, 1) := by decide +kernel
theorem dX1_fail_27 : decode cX1_fail 27 = .ok (.iconst 5, 1) := by decide +kernel
theorem dX1_fail_28 : decode cX1_fail 28 = .ok (.if_icmp .ne 13, 3) := by decide +kernel
theorem dX1_fail_31 : decode cX1_fail 31 = .ok (.new 25, 3) := by decide +kernel
theorem dX1_fail_34 : decode cX1_fail 34 = .ok (.dup, 1) := by decide +kernel
theorem dX1_fail_35 : decode cX1_fail 35 = .ok (.ldc 27, 2) := by decide +kernel
theorem dX1_fail_37 : decode cX1_fail 37 = .ok (.invokespecial 29, 3) := by decide +kernel
theorem dX1_fail_40 : decode cX1_fail 40 = .ok (.athrow, 1) := by decide +kernel
theorem dX1_fail_41 : decode cX1_fail 41 = .ok (.iload_n 0, 1) := by decide +kernel
theorem dX1_fail_42 : decode cX1_fail 42 = .ok (.bipush 7, 2) := by decide +kernel
theorem dX1_fail_44 : decode cX1_fail 44 = .ok (.if_icmp .ne 13, 3) := by decide +kernel
theorem dX1_fail_47 : decode cX1_fail 47 = .ok (.new 32, 3) := by decide +kernel
theorem dX1_fail_50 : decode cX1_fail 50 = .ok (.dup, 1) := by decide +kernel
theorem dX1_fail_51 : decode cX1_fail 51 = .ok (.ldc 34, 2) := by decide +kernel
theorem dX1_fail_53 : decode cX1_fail 53 = .ok (.invokespecial 36, 3) := by decide +kernel
theorem dX1_fail_56 : decode cX1_fail 56 = .ok (.athrow, 1) := by decide +kernel
theorem dX1_fail_57 : decode cX1_fail 57 = .ok (.new 37, 3) := by decide +kernel
theorem dX1_fail_60 : decode cX1_fail 60 = .ok (.dup, 1) := by decide +kernel
theorem dX1_fail_61 : decode cX1_fail 61 = .ok (.ldc 39, 2) := by decide +kernel
theorem dX1_fail_63 : decode cX1_fail 63 = .ok (.invokespecial 41, 3) := by decide +kernel
theorem dX1_fail_66 : decode cX1_fail 66 = .ok (.athrow, 1) := by decide +kernel
