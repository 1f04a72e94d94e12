theorem dX5_forged_20 : decode cX5_forged 20 = .ok (.istore 4, 2) := by decide +kernel
theorem dX5_forged_22 : decode cX5_forged 22 = .ok (.iload 4, 2) := by decide +kernel
theorem dX5_forged_24 : decode cX5_forged 24 = .ok (.aload_n 3, 1) := by decide +kernel
theorem dX5_forged_25 : decode cX5_forged 25 = .ok (.getfield 62, 3) := by decide +kernel
theorem dX5_forged_28 : decode cX5_forged 28 = .ok (.if_icmp .ge 40, 3) := by decide +kernel
theorem dX5_forged_31 : decode cX5_forged 31 = .ok (.iload 4, 2) := by decide +kernel
theorem dX5_forged_33 : decode cX5_forged 33 = .ok (.invokestatic 110, 3) := by decide +kernel
theorem dX5_forged_36 : decode cX5_forged 36 = .ok (.ifCond .eq 23, 3) := by decide +kernel
theorem dX5_forged_39 : decode cX5_forged 39 = .ok (.aload_n 3, 1) := by decide +kernel
theorem dX5_forged_40 : decode cX5_forged 40 = .ok (.getfield 65, 3) := by decide +kernel
theorem dX5_forged_43 : decode cX5_forged 43 = .ok (.iload 4, 2) := by decide +kernel
theorem dX5_forged_45 : decode cX5_forged 45 = .ok (.iaload, 1) := by decide +kernel
theorem dX5_forged_46 : decode cX5_forged 46 = .ok (.aload_n 0, 1) := by decide +kernel
theorem dX5_forged_47 : decode cX5_forged 47 = .ok (.getfield 10, 3) := by decide +kernel
theorem dX5_forged_50 : decode cX5_forged 50 = .ok (.getfield 113, 3) := by decide +kernel
theorem dX5_forged_53 : decode cX5_forged 53 = .ok (.iload 4, 2) := by decide +kernel
theorem dX5_forged_55 : decode cX5_forged 55 = .ok (.iaload, 1) := by decide +kernel
theorem dX5_forged_56 : decode cX5_forged 56 = .ok (.if_icmp .eq 6, 3) := by decide +kernel
theorem dX5_forged_59 : decode cX5_forged 59 = .ok (.iload 4, 2) := by decide +kernel
theorem dX5_forged_61 : decode cX5_forged 61 = .ok (.ireturn, 1) := by decide +kernel
theorem dX5_forged_62 : decode cX5_forged 62 = .ok (.iinc 4 1, 3) := by decide +kernel
theorem dX5_forged_65 : decode cX5_forged 65 = .ok (.goto (-43), 3) := by decide +kernel
theorem dX5_forged_68 : decode cX5_forged 68 = .ok (.bipush (-4), 2) := by decide +kernel
theorem dX5_forged_70 : decode cX5_forged 70 = .ok (.ireturn, 1) := by decide +kernel
theorem dX5_judge_0 : decode cX5_judge 0 = .ok (.aload_n 0, 1) := by decide +kernel
theorem dX5_judge_1 : decode cX5_judge 1 = .ok (.iload_n 1, 1) := by decide +kernel
theorem dX5_judge_2 : decode cX5_judge 2 = .ok (.invokevirtual 44, 3) := by decide +kernel
theorem dX5_judge_5 : decode cX5_judge 5 = .ok (.istore_n 2, 1) := by decide +kernel
theorem dX5_judge_6 : decode cX5_judge 6 = .ok (.iload_n 2, 1) := by decide +kernel
theorem dX5_judge_7 : decode cX5_judge 7 = .ok (.ifCond .eq 5, 3) := by decide +kernel
theorem dX5_judge_10 : decode cX5_judge 10 = .ok (.iload_n 2, 1) := by decide +kernel
theorem dX5_judge_11 : decode cX5_judge 11 = .ok (.ireturn, 1) := by decide +kernel
theorem dX5_judge_12 : decode cX5_judge 12 = .ok (.aload_n 0, 1) := by decide +kernel
theorem dX5_judge_13 : decode cX5_judge 13 = .ok (.getfield 28, 3) := by decide +kernel
theorem dX5_judge_16 : decode cX5_judge 16 = .ok (.iload_n 1, 1) := by decide +kernel
theorem dX5_judge_17 : decode cX5_judge 17 = .ok (.aaload, 1) := by decide +kernel
theorem dX5_judge_18 : decode cX5_judge 18 = .ok (.astore_n 3, 1) := by decide +kernel
theorem dX5_judge_19 : decode cX5_judge 19 = .ok (.aload_n 0, 1) := by decide +kernel
theorem dX5_judge_20 : decode cX5_judge 20 = .ok (.invokevirtual 58, 3) := by decide +kernel
theorem dX5_judge_23 : decode cX5_judge 23 = .ok (.astore 4, 2) := by decide +kernel
theorem dX5_judge_25 : decode cX5_judge 25 = .ok (.iconst 0, 1) := by decide +kernel
theorem dX5_judge_26 : decode cX5_judge 26 = .ok (.istore 5, 2) := by decide +kernel
theorem dX5_judge_28 : decode cX5_judge 28 = .ok (.iload 5, 2) := by decide +kernel
theorem dX5_judge_30 : decode cX5_judge 30 = .ok (.aload_n 3, 1) := by decide +kernel
theorem dX5_judge_31 : decode cX5_judge 31 = .ok (.getfield 62, 3) := by decide +kernel
theorem dX5_judge_34 : decode cX5_judge 34 = .ok (.if_icmp .ge 32, 3) := by decide +kernel
theorem dX5_judge_37 : decode cX5_judge 37 = .ok (.aload_n 3, 1) := by decide +kernel
theorem dX5_judge_38 : decode cX5_judge 38 = .ok (.iload 5, 2) := by decide +kernel
theorem dX5_judge_40 : decode cX5_judge 40 = .ok (.aload 4, 2) := by decide +kernel
theorem dX5_judge_42 : decode cX5_judge 42 = .ok (.invokevirtual 202, 3) := by decide +kernel
theorem dX5_judge_45 : decode cX5_judge 45 = .ok (.invokevirtual 216, 3) := by decide +kernel
theorem dX5_judge_48 : decode cX5_judge 48 = .ok (.ifCond .ne 6, 3) := by decide +kernel
theorem dX5_judge_51 : decode cX5_judge 51 = .ok (.iload 5, 2) := by decide +kernel
theorem dX5_judge_53 : decode cX5_judge 53 = .ok (.ireturn, 1) := by decide +kernel
theorem dX5_judge_54 : decode cX5_judge 54 = .ok (.aload 4, 2) := by decide +kernel
theorem dX5_judge_56 : decode cX5_judge 56 = .ok (.iconst 1, 1) := by decide +kernel
theorem dX5_judge_57 : decode cX5_judge 57 = .ok (.invokevirtual 136, 3) := by decide +kernel
theorem dX5_judge_60 : decode cX5_judge 60 = .ok (.iinc 5 1, 3) := by decide +kernel
theorem dX5_judge_63 : decode cX5_judge 63 = .ok (.goto (-35), 3) := by decide +kernel
theorem dX5_judge_66 : decode cX5_judge 66 = .ok (.bipush (-4), 2) := by decide +kernel
theorem dX5_judge_68 : decode cX5_judge 68 = .ok (.ireturn, 1) := by decide +kernel
theorem dX5_years_0 : decode cX5_years 0 = .ok (.iload_n 1, 1) := by decide +kernel
theorem dX5_years_1 : decode cX5_years 1 = .ok (.iconst 1, 1) := by decide +kernel
theorem dX5_years_2 : decode cX5_years 2 = .ok (.bipush 20, 2) := by decide +kernel
theorem dX5_years_4 : decode cX5_years 4 = .ok (.invokestatic 129, 3) := by decide +kernel
theorem dX5_years_7 : decode cX5_years 7 = .ok (.ifCond .eq 12, 3) := by decide +kernel
theorem dX5_years_10 : decode cX5_years 10 = .ok (.iload_n 3, 1) := by decide +kernel
theorem dX5_years_11 : decode cX5_years 11 = .ok (.iconst 0, 1) := by decide +kernel
theorem dX5_years_12 : decode cX5_years 12 = .ok (.iconst 1, 1) := by decide +kernel
theorem dX5_years_13 : decode cX5_years 13 = .ok (.invokestatic 129, 3) := by decide +kernel
theorem dX5_years_16 : decode cX5_years 16 = .ok (.ifCond .ne 5, 3) := by decide +kernel
theorem dX5_years_19 : decode cX5_years 19 = .ok (.iconst (-1), 1) := by decide +kernel
theorem dX5_years_20 : decode cX5_years 20 = .ok (.ireturn, 1) := by decide +kernel
theorem dX5_years_21 : decode cX5_years 21 = .ok (.iload_n 2, 1) := by decide +kernel
theorem dX5_years_22 : decode cX5_years 22 = .ok (.istore 4, 2) := by decide +kernel
theorem dX5_years_24 : decode cX5_years 24 = .ok (.iconst 0, 1) := by decide +kernel
theorem dX5_years_25 : decode cX5_years 25 = .ok (.istore 5, 2) := by decide +kernel
theorem dX5_years_27 : decode cX5_years 27 = .ok (.iconst 0, 1) := by decide +kernel
theorem dX5_years_28 : decode cX5_years 28 = .ok (.istore 6, 2) := by decide +kernel
theorem dX5_years_30 : decode cX5_years 30 = .ok (.iload 6, 2) := by decide +kernel
theorem dX5_years_32 : decode cX5_years 32 = .ok (.iload_n 1, 1) := by decide +kernel
theorem dX5_years_33 : decode cX5_years 33 = .ok (.if_icmp .ge 90, 3) := by decide +kernel
theorem dX5_years_36 : decode cX5_years 36 = .ok (.aload_n 0, 1) := by decide +kernel
theorem dX5_years_37 : decode cX5_years 37 = .ok (.invokevirtual 58, 3) := by decide +kernel
theorem dX5_years_40 : decode cX5_years 40 = .ok (.astore 7, 2) := by decide +kernel
theorem dX5_years_42 : decode cX5_years 42 = .ok (.aload 7, 2) := by decide +kernel
theorem dX5_years_44 : decode cX5_years 44 = .ok (.getfield 89, 3) := by decide +kernel
theorem dX5_years_47 : decode cX5_years 47 = .ok (.aload 7, 2) := by decide +kernel
theorem dX5_years_49 : decode cX5_years 49 = .ok (.getfield 180, 3) := by decide +kernel
theorem dX5_years_52 : decode cX5_years 52 = .ok (.bipush 10, 2) := by decide +kernel
theorem dX5_years_54 : decode cX5_years 54 = .ok (.iload 4, 2) := by decide +kernel
theorem dX5_years_56 : decode cX5_years 56 = .ok (.invokestatic 239, 3) := by decide +kernel
theorem dX5_years_59 : decode cX5_years 59 = .ok (.istore 4, 2) := by decide +kernel
theorem dX5_years_61 : decode cX5_years 61 = .ok (.aload 7, 2) := by decide +kernel
theorem dX5_years_63 : decode cX5_years 63 = .ok (.getfield 113, 3) := by decide +kernel
theorem dX5_years_66 : decode cX5_years 66 = .ok (.bipush 10, 2) := by decide +kernel
theorem dX5_years_68 : decode cX5_years 68 = .ok (.bipush 6, 2) := by decide +kernel
theorem dX5_years_70 : decode cX5_years 70 = .ok (.iload 4, 2) := by decide +kernel
theorem dX5_years_72 : decode cX5_years 72 = .ok (.invokestatic 239, 3) := by decide +kernel
theorem dX5_years_75 : decode cX5_years 75 = .ok (.istore 4, 2) := by decide +kernel
theorem dX5_years_77 : decode cX5_years 77 = .ok (.aload 7, 2) := by decide +kernel
theorem dX5_years_79 : decode cX5_years 79 = .ok (.bipush 12, 2) := by decide +kernel
theorem dX5_years_81 : decode cX5_years 81 = .ok (.invokevirtual 136, 3) := by decide +kernel
theorem dX5_years_84 : decode cX5_years 84 = .ok (.iload 5, 2) := by decide +kernel
theorem dX5_years_86 : decode cX5_years 86 = .ok (.iload_n 3, 1) := by decide +kernel
theorem dX5_years_87 : decode cX5_years 87 = .ok (.ifCond .ne 19, 3) := by decide +kernel
theorem dX5_years_90 : decode cX5_years 90 = .ok (.aload 7, 2) := by decide +kernel
theorem dX5_years_92 : decode cX5_years 92 = .ok (.getfield 151, 3) := by decide +kernel
theorem dX5_years_95 : decode cX5_years 95 = .ok (.aload_n 0, 1) := by decide +kernel
theorem dX5_years_96 : decode cX5_years 96 = .ok (.getfield 10, 3) := by decide +kernel
theorem dX5_years_99 : decode cX5_years 99 = .ok (.getfield 151, 3) := by decide +kernel
theorem dX5_years_102 : decode cX5_years 102 = .ok (.isub, 1) := by decide +kernel
theorem dX5_years_103 : decode cX5_years 103 = .ok (.goto 11, 3) := by decide +kernel
theorem dX5_years_106 : decode cX5_years 106 = .ok (.aload 7, 2) := by decide +kernel
theorem dX5_years_108 : decode cX5_years 108 = .ok (.getfield 140, 3) := by decide +kernel
theorem dX5_years_111 : decode cX5_years 111 = .ok (.invokestatic 143, 3) := by decide +kernel
theorem dX5_years_114 : decode cX5_years 114 = .ok (.iadd, 1) := by decide +kernel
theorem dX5_years_115 : decode cX5_years 115 = .ok (.istore 5, 2) := by decide +kernel
theorem dX5_years_117 : decode cX5_years 117 = .ok (.iinc 6 1, 3) := by decide +kernel
theorem dX5_years_120 : decode cX5_years 120 = .ok (.goto (-90), 3) := by decide +kernel
theorem dX5_years_123 : decode cX5_years 123 = .ok (.iload 5, 2) := by decide +kernel
theorem dX5_years_125 : decode cX5_years 125 = .ok (.ireturn, 1) := by decide +kernel
theorem dX5_drawInto_0 : decode cX5_drawInto 0 = .ok (.iload_n 3, 1) := by decide +kernel
theorem dX5_drawInto_1 : decode cX5_drawInto 1 = .ok (.istore 4, 2) := by decide +kernel
theorem dX5_drawInto_3 : decode cX5_drawInto 3 = .ok (.iconst 0, 1) := by decide +kernel
theorem dX5_drawInto_4 : decode cX5_drawInto 4 = .ok (.istore 5, 2) := by decide +kernel
theorem dX5_drawInto_6 : decode cX5_drawInto 6 = .ok (.iload 5, 2) := by decide +kernel
theorem dX5_drawInto_8 : decode cX5_drawInto 8 = .ok (.iload_n 1, 1) := by decide +kernel
theorem dX5_drawInto_9 : decode cX5_drawInto 9 = .ok (.if_icmp .ge 49, 3) := by decide +kernel
theorem dX5_drawInto_12 : decode cX5_drawInto 12 = .ok (.iload 5, 2) := by decide +kernel
theorem dX5_drawInto_14 : decode cX5_drawInto 14 = .ok (.aload_n 0, 1) := by decide +kernel
theorem dX5_drawInto_15 : decode cX5_drawInto 15 = .ok (.arraylength, 1) := by decide +kernel
theorem dX5_drawInto_16 : decode cX5_drawInto 16 = .ok (.if_icmp .ge 42, 3) := by decide +kernel
theorem dX5_drawInto_19 : decode cX5_drawInto 19 = .ok (.iload 4, 2) := by decide +kernel
theorem dX5_drawInto_21 : decode cX5_drawInto 21 = .ok (.ldc 243, 2) := by decide +kernel
theorem dX5_drawInto_23 : decode cX5_drawInto 23 = .ok (.imul, 1) := by decide +kernel
theorem dX5_drawInto_24 : decode cX5_drawInto 24 = .ok (.sipush 12345, 3) := by decide +kernel
theorem dX5_drawInto_27 : decode cX5_drawInto 27 = .ok (.iadd, 1) := by decide +kernel
theorem dX5_drawInto_28 : decode cX5_drawInto 28 = .ok (.istore 4, 2) := by decide +kernel
theorem dX5_drawInto_30 : decode cX5_drawInto 30 = .ok (.aload_n 0, 1) := by decide +kernel
theorem dX5_drawInto_31 : decode cX5_drawInto 31 = .ok (.iload 5, 2) := by decide +kernel
theorem dX5_drawInto_33 : decode cX5_drawInto 33 = .ok (.iload_n 2, 1) := by decide +kernel
theorem dX5_drawInto_34 : decode cX5_drawInto 34 = .ok (.ifCond .le 16, 3) := by decide +kernel
theorem dX5_drawInto_37 : decode cX5_drawInto 37 = .ok (.iload 4, 2) := by decide +kernel
theorem dX5_drawInto_39 : decode cX5_drawInto 39 = .ok (.ldc 244, 2) := by decide +kernel
theorem dX5_drawInto_41 : decode cX5_drawInto 41 = .ok (.iand, 1) := by decide +kernel
theorem dX5_drawInto_42 : decode cX5_drawInto 42 = .ok (.ldc 245, 2) := by decide +kernel
theorem dX5_drawInto_44 : decode cX5_drawInto 44 = .ok (.idiv, 1) := by decide +kernel
theorem dX5_drawInto_45 : decode cX5_drawInto 45 = .ok (.iload_n 2, 1) := by decide +kernel
theorem dX5_drawInto_46 : decode cX5_drawInto 46 = .ok (.irem, 1) := by decide +kernel
theorem dX5_drawInto_47 : decode cX5_drawInto 47 = .ok (.goto 4, 3) := by decide +kernel
theorem dX5_drawInto_50 : decode cX5_drawInto 50 = .ok (.iconst 0, 1) := by decide +kernel
theorem dX5_drawInto_51 : decode cX5_drawInto 51 = .ok (.iastore, 1) := by decide +kernel
theorem dX5_drawInto_52 : decode cX5_drawInto 52 = .ok (.iinc 5 1, 3) := by decide +kernel
theorem dX5_drawInto_55 : decode cX5_drawInto 55 = .ok (.goto (-49), 3) := by decide +kernel
theorem dX5_drawInto_58 : decode cX5_drawInto 58 = .ok (.iload 4, 2) := by decide +kernel
theorem dX5_drawInto_60 : decode cX5_drawInto 60 = .ok (.ireturn, 1) := by decide +kernel
theorem dX5_image_0 : decode cX5_image 0 = .ok (.aload_n 0, 1) := by decide +kernel
theorem dX5_image_1 : decode cX5_image 1 = .ok (.getfield 19, 3) := by decide +kernel
theorem dX5_image_4 : decode cX5_image 4 = .ok (.aload_n 0, 1) := by decide +kernel
theorem dX5_image_5 : decode cX5_image 5 = .ok (.getfield 10, 3) := by decide +kernel
theorem dX5_image_8 : decode cX5_image 8 = .ok (.invokevirtual 76, 3) := by decide +kernel
theorem dX5_image_11 : decode cX5_image 11 = .ok (.aload_n 0, 1) := by decide +kernel
theorem dX5_image_12 : decode cX5_image 12 = .ok (.iconst 1, 1) := by decide +kernel
theorem dX5_image_13 : decode cX5_image 13 = .ok (.putfield 22, 3) := by decide +kernel
theorem dX5_image_16 : decode cX5_image 16 = .ok (.aload_n 0, 1) := by decide +kernel
theorem dX5_image_17 : decode cX5_image 17 = .ok (.getfield 10, 3) := by decide +kernel
theorem dX5_image_20 : decode cX5_image 20 = .ok (.getfield 133, 3) := by decide +kernel
theorem dX5_image_23 : decode cX5_image 23 = .ok (.ireturn, 1) := by decide +kernel
theorem dX5_restore_0 : decode cX5_restore 0 = .ok (.aload_n 0, 1) := by decide +kernel
theorem dX5_restore_1 : decode cX5_restore 1 = .ok (.getfield 22, 3) := by decide +kernel
theorem dX5_restore_4 : decode cX5_restore 4 = .ok (.ifCond .ne 6, 3) := by decide +kernel
theorem dX5_restore_7 : decode cX5_restore 7 = .ok (.bipush (-3), 2) := by decide +kernel
theorem dX5_restore_9 : decode cX5_restore 9 = .ok (.ireturn, 1) := by decide +kernel
theorem dX5_restore_10 : decode cX5_restore 10 = .ok (.aload_n 0, 1) := by decide +kernel
theorem dX5_restore_11 : decode cX5_restore 11 = .ok (.getfield 10, 3) := by decide +kernel
theorem dX5_restore_14 : decode cX5_restore 14 = .ok (.aload_n 0, 1) := by decide +kernel
theorem dX5_restore_15 : decode cX5_restore 15 = .ok (.getfield 19, 3) := by decide +kernel
theorem dX5_restore_18 : decode cX5_restore 18 = .ok (.invokevirtual 76, 3) := by decide +kernel
theorem dX5_restore_21 : decode cX5_restore 21 = .ok (.aload_n 0, 1) := by decide +kernel
theorem dX5_restore_22 : decode cX5_restore 22 = .ok (.getfield 10, 3) := by decide +kernel
theorem dX5_restore_25 : decode cX5_restore 25 = .ok (.getfield 133, 3) := by decide +kernel
theorem dX5_restore_28 : decode cX5_restore 28 = .ok (.ireturn, 1) := by decide +kernel
theorem dX5_count_0 : decode cX5_count 0 = .ok (.iload_n 1, 1) := by decide +kernel
theorem dX5_count_1 : decode cX5_count 1 = .ok (.tableswitch 87 0 5 #[39, 47, 55, 63, 71, 79], 39) := by decide +kernel
theorem dX5_count_40 : decode cX5_count 40 = .ok (.aload_n 0, 1) := by decide +kernel
theorem dX5_count_41 : decode cX5_count 41 = .ok (.getfield 10, 3) := by decide +kernel
theorem dX5_count_44 : decode cX5_count 44 = .ok (.getfield 180, 3) := by decide +kernel
theorem dX5_count_47 : decode cX5_count 47 = .ok (.ireturn, 1) := by decide +kernel
theorem dX5_count_48 : decode cX5_count 48 = .ok (.aload_n 0, 1) := by decide +kernel
theorem dX5_count_49 : decode cX5_count 49 = .ok (.getfield 10, 3) := by decide +kernel
theorem dX5_count_52 : decode cX5_count 52 = .ok (.getfield 133, 3) := by decide +kernel
theorem dX5_count_55 : decode cX5_count 55 = .ok (.ireturn, 1) := by decide +kernel
theorem dX5_count_56 : decode cX5_count 56 = .ok (.aload_n 0, 1) := by decide +kernel
theorem dX5_count_57 : decode cX5_count 57 = .ok (.getfield 10, 3) := by decide +kernel
theorem dX5_count_60 : decode cX5_count 60 = .ok (.getfield 151, 3) := by decide +kernel
theorem dX5_count_63 : decode cX5_count 63 = .ok (.ireturn, 1) := by decide +kernel
theorem dX5_count_64 : decode cX5_count 64 = .ok (.aload_n 0, 1) := by decide +kernel
theorem dX5_count_65 : decode cX5_count 65 = .ok (.getfield 10, 3) := by decide +kernel
theorem dX5_count_68 : decode cX5_count 68 = .ok (.getfield 154, 3) := by decide +kernel
theorem dX5_count_71 : decode cX5_count 71 = .ok (.ireturn, 1) := by decide +kernel
theorem dX5_count_72 : decode cX5_count 72 = .ok (.aload_n 0, 1) := by decide +kernel
theorem dX5_count_73 : decode cX5_count 73 = .ok (.getfield 10, 3) := by decide +kernel
theorem dX5_count_76 : decode cX5_count 76 = .ok (.getfield 140, 3) := by decide +kernel
theorem dX5_count_79 : decode cX5_count 79 = .ok (.ireturn, 1) := by decide +kernel
theorem dX5_count_80 : decode cX5_count 80 = .ok (.aload_n 0, 1) := by decide +kernel
theorem dX5_count_81 : decode cX5_count 81 = .ok (.getfield 10, 3) := by decide +kernel
theorem dX5_count_84 : decode cX5_count 84 = .ok (.invokevirtual 202, 3) := by decide +kernel
theorem dX5_count_87 : decode cX5_count 87 = .ok (.ireturn, 1) := by decide +kernel
theorem dX5_count_88 : decode cX5_count 88 = .ok (.iconst (-1), 1) := by decide +kernel
theorem dX5_count_89 : decode cX5_count 89 = .ok (.ireturn, 1) := by decide +kernel
theorem dX5_keep_0 : decode cX5_keep 0 = .ok (.iload_n 1, 1) := by decide +kernel
theorem dX5_keep_1 : decode cX5_keep 1 = .ok (.invokestatic 246, 3) := by decide +kernel
theorem dX5_keep_4 : decode cX5_keep 4 = .ok (.ifCond .eq 12, 3) := by decide +kernel
theorem dX5_keep_7 : decode cX5_keep 7 = .ok (.iload_n 2, 1) := by decide +kernel
theorem dX5_keep_8 : decode cX5_keep 8 = .ok (.iconst 0, 1) := by decide +kernel
theorem dX5_keep_9 : decode cX5_keep 9 = .ok (.iconst 1, 1) := by decide +kernel
theorem dX5_keep_10 : decode cX5_keep 10 = .ok (.invokestatic 129, 3) := by decide +kernel
theorem dX5_keep_13 : decode cX5_keep 13 = .ok (.ifCond .ne 5, 3) := by decide +kernel
theorem dX5_keep_16 : decode cX5_keep 16 = .ok (.iconst (-1), 1) := by decide +kernel
theorem dX5_keep_17 : decode cX5_keep 17 = .ok (.ireturn, 1) := by decide +kernel
theorem dX5_keep_18 : decode cX5_keep 18 = .ok (.iload_n 2, 1) := by decide +kernel
theorem dX5_keep_19 : decode cX5_keep 19 = .ok (.ifCond .ne 14, 3) := by decide +kernel
theorem dX5_keep_22 : decode cX5_keep 22 = .ok (.aload_n 0, 1) := by decide +kernel
theorem dX5_keep_23 : decode cX5_keep 23 = .ok (.getfield 28, 3) := by decide +kernel
theorem dX5_keep_26 : decode cX5_keep 26 = .ok (.iload_n 1, 1) := by decide +kernel
theorem dX5_keep_27 : decode cX5_keep 27 = .ok (.aaload, 1) := by decide +kernel
theorem dX5_keep_28 : decode cX5_keep 28 = .ok (.invokevirtual 249, 3) := by decide +kernel
theorem dX5_keep_31 : decode cX5_keep 31 = .ok (.iconst 0, 1) := by decide +kernel
theorem dX5_keep_32 : decode cX5_keep 32 = .ok (.ireturn, 1) := by decide +kernel
theorem dX5_keep_33 : decode cX5_keep 33 = .ok (.iload_n 3, 1) := by decide +kernel
theorem dX5_keep_34 : decode cX5_keep 34 = .ok (.invokestatic 252, 3) := by decide +kernel
theorem dX5_keep_37 : decode cX5_keep 37 = .ok (.ifCond .eq 11, 3) := by decide +kernel
theorem dX5_keep_40 : decode cX5_keep 40 = .ok (.iload 4, 2) := by decide +kernel
theorem dX5_keep_42 : decode cX5_keep 42 = .ok (.invokestatic 255, 3) := by decide +kernel
theorem dX5_keep_45 : decode cX5_keep 45 = .ok (.ifCond .ne 5, 3) := by decide +kernel
theorem dX5_keep_48 : decode cX5_keep 48 = .ok (.iconst (-1), 1) := by decide +kernel
theorem dX5_keep_49 : decode cX5_keep 49 = .ok (.ireturn, 1) := by decide +kernel
theorem dX5_keep_50 : decode cX5_keep 50 = .ok (.aload_n 0, 1) := by decide +kernel
theorem dX5_keep_51 : decode cX5_keep 51 = .ok (.getfield 28, 3) := by decide +kernel
theorem dX5_keep_54 : decode cX5_keep 54 = .ok (.iload_n 1, 1) := by decide +kernel
theorem dX5_keep_55 : decode cX5_keep 55 = .ok (.aaload, 1) := by decide +kernel
theorem dX5_keep_56 : decode cX5_keep 56 = .ok (.iload_n 3, 1) := by decide +kernel
theorem dX5_keep_57 : decode cX5_keep 57 = .ok (.iload 4, 2) := by decide +kernel
theorem dX5_keep_59 : decode cX5_keep 59 = .ok (.invokevirtual 258, 3) := by decide +kernel
theorem dX5_keep_62 : decode cX5_keep 62 = .ok (.iconst 0, 1) := by decide +kernel
theorem dX5_keep_63 : decode cX5_keep 63 = .ok (.ireturn, 1) := by decide +kernel
theorem dX5_row_0 : decode cX5_row 0 = .ok (.iload_n 1, 1) := by decide +kernel
theorem dX5_row_1 : decode cX5_row 1 = .ok (.invokestatic 246, 3) := by decide +kernel
theorem dX5_row_4 : decode cX5_row 4 = .ok (.ifCond .eq 16, 3) := by decide +kernel
theorem dX5_row_7 : decode cX5_row 7 = .ok (.iload_n 2, 1) := by decide +kernel
theorem dX5_row_8 : decode cX5_row 8 = .ok (.invokestatic 261, 3) := by decide +kernel
theorem dX5_row_11 : decode cX5_row 11 = .ok (.ifCond .eq 9, 3) := by decide +kernel
theorem dX5_row_14 : decode cX5_row 14 = .ok (.iload_n 3, 1) := by decide +kernel
theorem dX5_row_15 : decode cX5_row 15 = .ok (.bipush 100, 2) := by decide +kernel
theorem dX5_row_17 : decode cX5_row 17 = .ok (.if_icmp .le 5, 3) := by decide +kernel
theorem dX5_row_20 : decode cX5_row 20 = .ok (.iconst (-1), 1) := by decide +kernel
theorem dX5_row_21 : decode cX5_row 21 = .ok (.ireturn, 1) := by decide +kernel
theorem dX5_row_22 : decode cX5_row 22 = .ok (.iload_n 3, 1) := by decide +kernel
theorem dX5_row_23 : decode cX5_row 23 = .ok (.ifCond .ge 6, 3) := by decide +kernel
theorem dX5_row_26 : decode cX5_row 26 = .ok (.bipush (-14), 2) := by decide +kernel
theorem dX5_row_28 : decode cX5_row 28 = .ok (.ireturn, 1) := by decide +kernel
theorem dX5_row_29 : decode cX5_row 29 = .ok (.aload_n 0, 1) := by decide +kernel
theorem dX5_row_30 : decode cX5_row 30 = .ok (.getfield 28, 3) := by decide +kernel
theorem dX5_row_33 : decode cX5_row 33 = .ok (.iload_n 1, 1) := by decide +kernel
theorem dX5_row_34 : decode cX5_row 34 = .ok (.aaload, 1) := by decide +kernel
theorem dX5_row_35 : decode cX5_row 35 = .ok (.iload_n 2, 1) := by decide +kernel
theorem dX5_row_36 : decode cX5_row 36 = .ok (.iload_n 3, 1) := by decide +kernel
theorem dX5_row_37 : decode cX5_row 37 = .ok (.invokevirtual 264, 3) := by decide +kernel
theorem dX5_row_40 : decode cX5_row 40 = .ok (.iconst 0, 1) := by decide +kernel
theorem dX5_row_41 : decode cX5_row 41 = .ok (.ireturn, 1) := by decide +kernel
theorem dX5_put_0 : decode cX5_put 0 = .ok (.aload_n 0, 1) := by decide +kernel
theorem dX5_put_1 : decode cX5_put 1 = .ok (.iload_n 1, 1) := by decide +kernel
theorem dX5_put_2 : decode cX5_put 2 = .ok (.invokevirtual 44, 3) := by decide +kernel
theorem dX5_put_5 : decode cX5_put 5 = .ok (.istore 4, 2) := by decide +kernel
theorem dX5_put_7 : decode cX5_put 7 = .ok (.iload 4, 2) := by decide +kernel
theorem dX5_put_9 : decode cX5_put 9 = .ok (.ifCond .eq 6, 3) := by decide +kernel
theorem dX5_put_12 : decode cX5_put 12 = .ok (.iload 4, 2) := by decide +kernel
theorem dX5_put_14 : decode cX5_put 14 = .ok (.ireturn, 1) := by decide +kernel
theorem dX5_put_15 : decode cX5_put 15 = .ok (.aload_n 0, 1) := by decide +kernel
theorem dX5_put_16 : decode cX5_put 16 = .ok (.getfield 28, 3) := by decide +kernel
theorem dX5_put_19 : decode cX5_put 19 = .ok (.iload_n 1, 1) := by decide +kernel
theorem dX5_put_20 : decode cX5_put 20 = .ok (.aaload, 1) := by decide +kernel
theorem dX5_put_21 : decode cX5_put 21 = .ok (.astore 5, 2) := by decide +kernel
theorem dX5_put_23 : decode cX5_put 23 = .ok (.aload 5, 2) := by decide +kernel
theorem dX5_put_25 : decode cX5_put 25 = .ok (.iload_n 2, 1) := by decide +kernel
theorem dX5_put_26 : decode cX5_put 26 = .ok (.invokevirtual 267, 3) := by decide +kernel
theorem dX5_put_29 : decode cX5_put 29 = .ok (.ifCond .ne 6, 3) := by decide +kernel
theorem dX5_put_32 : decode cX5_put 32 = .ok (.bipush (-13), 2) := by decide +kernel
theorem dX5_put_34 : decode cX5_put 34 = .ok (.ireturn, 1) := by decide +kernel
theorem dX5_put_35 : decode cX5_put 35 = .ok (.aload 5, 2) := by decide +kernel
theorem dX5_put_37 : decode cX5_put 37 = .ok (.getfield 65, 3) := by decide +kernel
theorem dX5_put_40 : decode cX5_put 40 = .ok (.iload_n 2, 1) := by decide +kernel
theorem dX5_put_41 : decode cX5_put 41 = .ok (.aload 5, 2) := by decide +kernel
theorem dX5_put_43 : decode cX5_put 43 = .ok (.getfield 48, 3) := by decide +kernel
theorem dX5_put_46 : decode cX5_put 46 = .ok (.iload_n 3, 1) := by decide +kernel
theorem dX5_put_47 : decode cX5_put 47 = .ok (.invokestatic 270, 3) := by decide +kernel
theorem dX5_put_50 : decode cX5_put 50 = .ok (.iastore, 1) := by decide +kernel
theorem dX5_put_51 : decode cX5_put 51 = .ok (.iconst 0, 1) := by decide +kernel
theorem dX5_put_52 : decode cX5_put 52 = .ok (.ireturn, 1) := by decide +kernel
theorem dX5_element_0 : decode cX5_element 0 = .ok (.iload_n 1, 1) := by decide +kernel
theorem dX5_element_1 : decode cX5_element 1 = .ok (.invokestatic 246, 3) := by decide +kernel
theorem dX5_element_4 : decode cX5_element 4 = .ok (.ifCond .ne 14, 3) := by decide +kernel
theorem dX5_element_7 : decode cX5_element 7 = .ok (.new 274, 3) := by decide +kernel
theorem dX5_element_10 : decode cX5_element 10 = .ok (.dup, 1) := by decide +kernel
theorem dX5_element_11 : decode cX5_element 11 = .ok (.ldc_w 276, 3) := by decide +kernel
theorem dX5_element_14 : decode cX5_element 14 = .ok (.invokespecial 278, 3) := by decide +kernel
theorem dX5_element_17 : decode cX5_element 17 = .ok (.athrow, 1) := by decide +kernel
theorem dX5_element_18 : decode cX5_element 18 = .ok (.aload_n 0, 1) := by decide +kernel
theorem dX5_element_19 : decode cX5_element 19 = .ok (.getfield 28, 3) := by decide +kernel
theorem dX5_element_22 : decode cX5_element 22 = .ok (.iload_n 1, 1) := by decide +kernel
theorem dX5_element_23 : decode cX5_element 23 = .ok (.aaload, 1) := by decide +kernel
theorem dX5_element_24 : decode cX5_element 24 = .ok (.astore_n 3, 1) := by decide +kernel
theorem dX5_element_25 : decode cX5_element 25 = .ok (.aload_n 3, 1) := by decide +kernel
theorem dX5_element_26 : decode cX5_element 26 = .ok (.getfield 281, 3) := by decide +kernel
theorem dX5_element_29 : decode cX5_element 29 = .ok (.iconst 2, 1) := by decide +kernel
theorem dX5_element_30 : decode cX5_element 30 = .ok (.if_icmp .eq 14, 3) := by decide +kernel
theorem dX5_element_33 : decode cX5_element 33 = .ok (.new 284, 3) := by decide +kernel
theorem dX5_element_36 : decode cX5_element 36 = .ok (.dup, 1) := by decide +kernel
theorem dX5_element_37 : decode cX5_element 37 = .ok (.ldc_w 286, 3) := by decide +kernel
theorem dX5_element_40 : decode cX5_element 40 = .ok (.invokespecial 288, 3) := by decide +kernel
theorem dX5_element_43 : decode cX5_element 43 = .ok (.athrow, 1) := by decide +kernel
theorem dX5_element_44 : decode cX5_element 44 = .ok (.aload_n 3, 1) := by decide +kernel
theorem dX5_element_45 : decode cX5_element 45 = .ok (.iload_n 2, 1) := by decide +kernel
theorem dX5_element_46 : decode cX5_element 46 = .ok (.invokevirtual 267, 3) := by decide +kernel
theorem dX5_element_49 : decode cX5_element 49 = .ok (.ifCond .ne 14, 3) := by decide +kernel
theorem dX5_element_52 : decode cX5_element 52 = .ok (.new 284, 3) := by decide +kernel
theorem dX5_element_55 : decode cX5_element 55 = .ok (.dup, 1) := by decide +kernel
theorem dX5_element_56 : decode cX5_element 56 = .ok (.ldc_w 289, 3) := by decide +kernel
theorem dX5_element_59 : decode cX5_element 59 = .ok (.invokespecial 288, 3) := by decide +kernel
theorem dX5_element_62 : decode cX5_element 62 = .ok (.athrow, 1) := by decide +kernel
theorem dX5_element_63 : decode cX5_element 63 = .ok (.aload_n 3, 1) := by decide +kernel
theorem dX5_element_64 : decode cX5_element 64 = .ok (.getfield 65, 3) := by decide +kernel
theorem dX5_element_67 : decode cX5_element 67 = .ok (.iload_n 2, 1) := by decide +kernel
theorem dX5_element_68 : decode cX5_element 68 = .ok (.iaload, 1) := by decide +kernel
theorem dX5_element_69 : decode cX5_element 69 = .ok (.i2l, 1) := by decide +kernel
theorem dX5_element_70 : decode cX5_element 70 = .ok (.lreturn, 1) := by decide +kernel
theorem dX5_copy_0 : decode cX5_copy 0 = .ok (.iload_n 1, 1) := by decide +kernel
theorem dX5_copy_1 : decode cX5_copy 1 = .ok (.invokestatic 246, 3) := by decide +kernel
theorem dX5_copy_4 : decode cX5_copy 4 = .ok (.ifCond .eq 10, 3) := by decide +kernel
theorem dX5_copy_7 : decode cX5_copy 7 = .ok (.iload_n 3, 1) := by decide +kernel
theorem dX5_copy_8 : decode cX5_copy 8 = .ok (.invokestatic 246, 3) := by decide +kernel
theorem dX5_copy_11 : decode cX5_copy 11 = .ok (.ifCond .ne 5, 3) := by decide +kernel
theorem dX5_copy_14 : decode cX5_copy 14 = .ok (.iconst (-1), 1) := by decide +kernel
theorem dX5_copy_15 : decode cX5_copy 15 = .ok (.ireturn, 1) := by decide +kernel
theorem dX5_copy_16 : decode cX5_copy 16 = .ok (.aload_n 0, 1) := by decide +kernel
theorem dX5_copy_17 : decode cX5_copy 17 = .ok (.getfield 28, 3) := by decide +kernel
theorem dX5_copy_20 : decode cX5_copy 20 = .ok (.iload_n 1, 1) := by decide +kernel
theorem dX5_copy_21 : decode cX5_copy 21 = .ok (.aaload, 1) := by decide +kernel
theorem dX5_copy_22 : decode cX5_copy 22 = .ok (.astore 6, 2) := by decide +kernel
theorem dX5_copy_24 : decode cX5_copy 24 = .ok (.aload_n 0, 1) := by decide +kernel
theorem dX5_copy_25 : decode cX5_copy 25 = .ok (.getfield 28, 3) := by decide +kernel
theorem dX5_copy_28 : decode cX5_copy 28 = .ok (.iload_n 3, 1) := by decide +kernel
theorem dX5_copy_29 : decode cX5_copy 29 = .ok (.aaload, 1) := by decide +kernel
theorem dX5_copy_30 : decode cX5_copy 30 = .ok (.astore 7, 2) := by decide +kernel
theorem dX5_copy_32 : decode cX5_copy 32 = .ok (.aload 6, 2) := by decide +kernel
theorem dX5_copy_34 : decode cX5_copy 34 = .ok (.getfield 281, 3) := by decide +kernel
theorem dX5_copy_37 : decode cX5_copy 37 = .ok (.ifCond .eq 11, 3) := by decide +kernel
theorem dX5_copy_40 : decode cX5_copy 40 = .ok (.aload 7, 2) := by decide +kernel
theorem dX5_copy_42 : decode cX5_copy 42 = .ok (.getfield 281, 3) := by decide +kernel
theorem dX5_copy_45 : decode cX5_copy 45 = .ok (.ifCond .ne 6, 3) := by decide +kernel
theorem dX5_copy_48 : decode cX5_copy 48 = .ok (.bipush (-11), 2) := by decide +kernel
theorem dX5_copy_50 : decode cX5_copy 50 = .ok (.ireturn, 1) := by decide +kernel
theorem dX5_copy_51 : decode cX5_copy 51 = .ok (.aload 6, 2) := by decide +kernel
theorem dX5_copy_53 : decode cX5_copy 53 = .ok (.getfield 281, 3) := by decide +kernel
theorem dX5_copy_56 : decode cX5_copy 56 = .ok (.iconst 2, 1) := by decide +kernel
theorem dX5_copy_57 : decode cX5_copy 57 = .ok (.if_icmp .ne 25, 3) := by decide +kernel
theorem dX5_copy_60 : decode cX5_copy 60 = .ok (.aload 7, 2) := by decide +kernel
theorem dX5_copy_62 : decode cX5_copy 62 = .ok (.getfield 281, 3) := by decide +kernel
theorem dX5_copy_65 : decode cX5_copy 65 = .ok (.iconst 2, 1) := by decide +kernel
theorem dX5_copy_66 : decode cX5_copy 66 = .ok (.if_icmp .ne 16, 3) := by decide +kernel
theorem dX5_copy_69 : decode cX5_copy 69 = .ok (.aload 6, 2) := by decide +kernel
theorem dX5_copy_71 : decode cX5_copy 71 = .ok (.getfield 48, 3) := by decide +kernel
theorem dX5_copy_74 : decode cX5_copy 74 = .ok (.aload 7, 2) := by decide +kernel
theorem dX5_copy_76 : decode cX5_copy 76 = .ok (.getfield 48, 3) := by decide +kernel
theorem dX5_copy_79 : decode cX5_copy 79 = .ok (.if_icmp .eq 6, 3) := by decide +kernel
theorem dX5_copy_82 : decode cX5_copy 82 = .ok (.bipush (-12), 2) := by decide +kernel
theorem dX5_copy_84 : decode cX5_copy 84 = .ok (.ireturn, 1) := by decide +kernel
theorem dX5_copy_85 : decode cX5_copy 85 = .ok (.aload 6, 2) := by decide +kernel
theorem dX5_copy_87 : decode cX5_copy 87 = .ok (.iload_n 2, 1) := by decide +kernel
theorem dX5_copy_88 : decode cX5_copy 88 = .ok (.iload 5, 2) := by decide +kernel
theorem dX5_copy_90 : decode cX5_copy 90 = .ok (.invokevirtual 291, 3) := by decide +kernel
theorem dX5_copy_93 : decode cX5_copy 93 = .ok (.ifCond .eq 15, 3) := by decide +kernel
theorem dX5_copy_96 : decode cX5_copy 96 = .ok (.aload 7, 2) := by decide +kernel
theorem dX5_copy_98 : decode cX5_copy 98 = .ok (.iload 4, 2) := by decide +kernel
theorem dX5_copy_100 : decode cX5_copy 100 = .ok (.iload 5, 2) := by decide +kernel
theorem dX5_copy_102 : decode cX5_copy 102 = .ok (.invokevirtual 291, 3) := by decide +kernel
theorem dX5_copy_105 : decode cX5_copy 105 = .ok (.ifCond .ne 6, 3) := by decide +kernel
theorem dX5_copy_108 : decode cX5_copy 108 = .ok (.bipush (-13), 2) := by decide +kernel
theorem dX5_copy_110 : decode cX5_copy 110 = .ok (.ireturn, 1) := by decide +kernel
theorem dX5_copy_111 : decode cX5_copy 111 = .ok (.aload 6, 2) := by decide +kernel
theorem dX5_copy_113 : decode cX5_copy 113 = .ok (.getfield 65, 3) := by decide +kernel
theorem dX5_copy_116 : decode cX5_copy 116 = .ok (.iload_n 2, 1) := by decide +kernel
theorem dX5_copy_117 : decode cX5_copy 117 = .ok (.aload 7, 2) := by decide +kernel
theorem dX5_copy_119 : decode cX5_copy 119 = .ok (.getfield 65, 3) := by decide +kernel
theorem dX5_copy_122 : decode cX5_copy 122 = .ok (.iload 4, 2) := by decide +kernel
theorem dX5_copy_124 : decode cX5_copy 124 = .ok (.iload 5, 2) := by decide +kernel
theorem dX5_copy_126 : decode cX5_copy 126 = .ok (.invokestatic 294, 3) := by decide +kernel
theorem dX5_copy_129 : decode cX5_copy 129 = .ok (.iload 5, 2) := by decide +kernel
theorem dX5_copy_131 : decode cX5_copy 131 = .ok (.ireturn, 1) := by decide +kernel
theorem dX5_cost_0 : decode cX5_cost 0 = .ok (.aload_n 0, 1) := by decide +kernel
theorem dX5_cost_1 : decode cX5_cost 1 = .ok (.iload_n 1, 1) := by decide +kernel
theorem dX5_cost_2 : decode cX5_cost 2 = .ok (.invokevirtual 116, 3) := by decide +kernel
theorem dX5_cost_5 : decode cX5_cost 5 = .ok (.istore_n 2, 1) := by decide +kernel
theorem dX5_cost_6 : decode cX5_cost 6 = .ok (.iload_n 2, 1) := by decide +kernel
theorem dX5_cost_7 : decode cX5_cost 7 = .ok (.ifCond .eq 7, 3) := by decide +kernel
theorem dX5_cost_10 : decode cX5_cost 10 = .ok (.iload_n 2, 1) := by decide +kernel
theorem dX5_cost_11 : decode cX5_cost 11 = .ok (.goto 24, 3) := by decide +kernel
theorem dX5_cost_14 : decode cX5_cost 14 = .ok (.aload_n 0, 1) := by decide +kernel
theorem dX5_cost_15 : decode cX5_cost 15 = .ok (.getfield 28, 3) := by decide +kernel
theorem dX5_cost_18 : decode cX5_cost 18 = .ok (.iload_n 1, 1) := by decide +kernel
theorem dX5_cost_19 : decode cX5_cost 19 = .ok (.aaload, 1) := by decide +kernel
theorem dX5_cost_20 : decode cX5_cost 20 = .ok (.getfield 119, 3) := by decide +kernel
theorem dX5_cost_23 : decode cX5_cost 23 = .ok (.aload_n 0, 1) := by decide +kernel
theorem dX5_cost_24 : decode cX5_cost 24 = .ok (.getfield 28, 3) := by decide +kernel
theorem dX5_cost_27 : decode cX5_cost 27 = .ok (.iload_n 1, 1) := by decide +kernel
theorem dX5_cost_28 : decode cX5_cost 28 = .ok (.aaload, 1) := by decide +kernel
theorem dX5_cost_29 : decode cX5_cost 29 = .ok (.getfield 122, 3) := by decide +kernel
theorem dX5_cost_32 : decode cX5_cost 32 = .ok (.invokestatic 300, 3) := by decide +kernel
theorem dX5_cost_35 : decode cX5_cost 35 = .ok (.ireturn, 1) := by decide +kernel
theorem dX5_toss_0 : decode cX5_toss 0 = .ok (.aload_n 0, 1) := by decide +kernel
theorem dX5_toss_1 : decode cX5_toss 1 = .ok (.iload_n 1, 1) := by decide +kernel
theorem dX5_toss_2 : decode cX5_toss 2 = .ok (.invokevirtual 116, 3) := by decide +kernel
theorem dX5_toss_5 : decode cX5_toss 5 = .ok (.istore_n 2, 1) := by decide +kernel
theorem dX5_toss_6 : decode cX5_toss 6 = .ok (.iload_n 2, 1) := by decide +kernel
theorem dX5_toss_7 : decode cX5_toss 7 = .ok (.ifCond .eq 5, 3) := by decide +kernel
theorem dX5_toss_10 : decode cX5_toss 10 = .ok (.iload_n 2, 1) := by decide +kernel
theorem dX5_toss_11 : decode cX5_toss 11 = .ok (.ireturn, 1) := by decide +kernel
theorem dX5_toss_12 : decode cX5_toss 12 = .ok (.aload_n 0, 1) := by decide +kernel
theorem dX5_toss_13 : decode cX5_toss 13 = .ok (.getfield 28, 3) := by decide +kernel
theorem dX5_toss_16 : decode cX5_toss 16 = .ok (.iload_n 1, 1) := by decide +kernel
theorem dX5_toss_17 : decode cX5_toss 17 = .ok (.aaload, 1) := by decide +kernel
theorem dX5_toss_18 : decode cX5_toss 18 = .ok (.getfield 119, 3) := by decide +kernel
theorem dX5_toss_21 : decode cX5_toss 21 = .ok (.istore_n 3, 1) := by decide +kernel
theorem dX5_toss_22 : decode cX5_toss 22 = .ok (.aload_n 0, 1) := by decide +kernel
theorem dX5_toss_23 : decode cX5_toss 23 = .ok (.getfield 28, 3) := by decide +kernel
theorem dX5_toss_26 : decode cX5_toss 26 = .ok (.iload_n 1, 1) := by decide +kernel
theorem dX5_toss_27 : decode cX5_toss 27 = .ok (.aaload, 1) := by decide +kernel
theorem dX5_toss_28 : decode cX5_toss 28 = .ok (.getfield 122, 3) := by decide +kernel
theorem dX5_toss_31 : decode cX5_toss 31 = .ok (.istore 4, 2) := by decide +kernel
theorem dX5_toss_33 : decode cX5_toss 33 = .ok (.iload_n 3, 1) := by decide +kernel
theorem dX5_toss_34 : decode cX5_toss 34 = .ok (.iload 4, 2) := by decide +kernel
theorem dX5_toss_36 : decode cX5_toss 36 = .ok (.invokestatic 303, 3) := by decide +kernel
theorem dX5_toss_39 : decode cX5_toss 39 = .ok (.goto 29, 3) := by decide +kernel
theorem dX5_toss_42 : decode cX5_toss 42 = .ok (.astore 5, 2) := by decide +kernel
theorem dX5_toss_44 : decode cX5_toss 44 = .ok (.bipush 100, 2) := by decide +kernel
theorem dX5_toss_46 : decode cX5_toss 46 = .ok (.iload 4, 2) := by decide +kernel
theorem dX5_toss_48 : decode cX5_toss 48 = .ok (.iadd, 1) := by decide +kernel
theorem dX5_toss_49 : decode cX5_toss 49 = .ok (.ireturn, 1) := by decide +kernel
theorem dX5_toss_50 : decode cX5_toss 50 = .ok (.astore 5, 2) := by decide +kernel
theorem dX5_toss_52 : decode cX5_toss 52 = .ok (.sipush 200, 3) := by decide +kernel
theorem dX5_toss_55 : decode cX5_toss 55 = .ok (.iload_n 3, 1) := by decide +kernel
theorem dX5_toss_56 : decode cX5_toss 56 = .ok (.iload 4, 2) := by decide +kernel
theorem dX5_toss_58 : decode cX5_toss 58 = .ok (.invokestatic 300, 3) := by decide +kernel
theorem dX5_toss_61 : decode cX5_toss 61 = .ok (.iadd, 1) := by decide +kernel
theorem dX5_toss_62 : decode cX5_toss 62 = .ok (.ireturn, 1) := by decide +kernel
theorem dX5_toss_63 : decode cX5_toss 63 = .ok (.astore 5, 2) := by decide +kernel
theorem dX5_toss_65 : decode cX5_toss 65 = .ok (.iload 4, 2) := by decide +kernel
theorem dX5_toss_67 : decode cX5_toss 67 = .ok (.ireturn, 1) := by decide +kernel
theorem dX5_toss_68 : decode cX5_toss 68 = .ok (.bipush (-15), 2) := by decide +kernel
theorem dX5_toss_70 : decode cX5_toss 70 = .ok (.ireturn, 1) := by decide +kernel
theorem dX5_inMind_0 : decode cX5_inMind 0 = .ok (.aload_n 0, 1) := by decide +kernel
theorem dX5_inMind_1 : decode cX5_inMind 1 = .ok (.getfield 16, 3) := by decide +kernel
theorem dX5_inMind_4 : decode cX5_inMind 4 = .ok (.aload_n 0, 1) := by decide +kernel
theorem dX5_inMind_5 : decode cX5_inMind 5 = .ok (.getfield 10, 3) := by decide +kernel
theorem dX5_inMind_8 : decode cX5_inMind 8 = .ok (.invokevirtual 76, 3) := by decide +kernel
theorem dX5_inMind_11 : decode cX5_inMind 11 = .ok (.aload_n 0, 1) := by decide +kernel
theorem dX5_inMind_12 : decode cX5_inMind 12 = .ok (.getfield 16, 3) := by decide +kernel
theorem dX5_inMind_15 : decode cX5_inMind 15 = .ok (.areturn, 1) := by decide +kernel
theorem dX5_rowRefusal_0 : decode cX5_rowRefusal 0 = .ok (.aload_n 0, 1) := by decide +kernel
theorem dX5_rowRefusal_1 : decode cX5_rowRefusal 1 = .ok (.iload_n 1, 1) := by decide +kernel
theorem dX5_rowRefusal_2 : decode cX5_rowRefusal 2 = .ok (.iconst 2, 1) := by decide +kernel
theorem dX5_rowRefusal_3 : decode cX5_rowRefusal 3 = .ok (.invokevirtual 308, 3) := by decide +kernel
theorem dX5_rowRefusal_6 : decode cX5_rowRefusal 6 = .ok (.ireturn, 1) := by decide +kernel
theorem dX5_kindRefusal_0 : decode cX5_kindRefusal 0 = .ok (.aload_n 0, 1) := by decide +kernel
theorem dX5_kindRefusal_1 : decode cX5_kindRefusal 1 = .ok (.iload_n 1, 1) := by decide +kernel
theorem dX5_kindRefusal_2 : decode cX5_kindRefusal 2 = .ok (.iconst 1, 1) := by decide +kernel
theorem dX5_kindRefusal_3 : decode cX5_kindRefusal 3 = .ok (.invokevirtual 308, 3) := by decide +kernel
theorem dX5_kindRefusal_6 : decode cX5_kindRefusal 6 = .ok (.ireturn, 1) := by decide +kernel
theorem dX5_refusalUnless_0 : decode cX5_refusalUnless 0 = .ok (.iload_n 1, 1) := by decide +kernel
theorem dX5_refusalUnless_1 : decode cX5_refusalUnless 1 = .ok (.invokestatic 246, 3) := by decide +kernel
theorem dX5_refusalUnless_4 : decode cX5_refusalUnless 4 = .ok (.ifCond .ne 5, 3) := by decide +kernel
theorem dX5_refusalUnless_7 : decode cX5_refusalUnless 7 = .ok (.iconst (-1), 1) := by decide +kernel
theorem dX5_refusalUnless_8 : decode cX5_refusalUnless 8 = .ok (.ireturn, 1) := by decide +kernel
theorem dX5_refusalUnless_9 : decode cX5_refusalUnless 9 = .ok (.aload_n 0, 1) := by decide +kernel
theorem dX5_refusalUnless_10 : decode cX5_refusalUnless 10 = .ok (.getfield 28, 3) := by decide +kernel
theorem dX5_refusalUnless_13 : decode cX5_refusalUnless 13 = .ok (.iload_n 1, 1) := by decide +kernel
theorem dX5_refusalUnless_14 : decode cX5_refusalUnless 14 = .ok (.aaload, 1) := by decide +kernel
theorem dX5_refusalUnless_15 : decode cX5_refusalUnless 15 = .ok (.getfield 281, 3) := by decide +kernel
theorem dX5_refusalUnless_18 : decode cX5_refusalUnless 18 = .ok (.ifCond .ne 6, 3) := by decide +kernel
theorem dX5_refusalUnless_21 : decode cX5_refusalUnless 21 = .ok (.bipush (-11), 2) := by decide +kernel
theorem dX5_refusalUnless_23 : decode cX5_refusalUnless 23 = .ok (.ireturn, 1) := by decide +kernel
theorem dX5_refusalUnless_24 : decode cX5_refusalUnless 24 = .ok (.aload_n 0, 1) := by decide +kernel
theorem dX5_refusalUnless_25 : decode cX5_refusalUnless 25 = .ok (.getfield 28, 3) := by decide +kernel
theorem dX5_refusalUnless_28 : decode cX5_refusalUnless 28 = .ok (.iload_n 1, 1) := by decide +kernel
theorem dX5_refusalUnless_29 : decode cX5_refusalUnless 29 = .ok (.aaload, 1) := by decide +kernel
theorem dX5_refusalUnless_30 : decode cX5_refusalUnless 30 = .ok (.getfield 281, 3) := by decide +kernel
theorem dX5_refusalUnless_33 : decode cX5_refusalUnless 33 = .ok (.iload_n 2, 1) := by decide +kernel
theorem dX5_refusalUnless_34 : decode cX5_refusalUnless 34 = .ok (.if_icmp .ne 7, 3) := by decide +kernel
theorem dX5_refusalUnless_37 : decode cX5_refusalUnless 37 = .ok (.iconst 0, 1) := by decide +kernel
theorem dX5_refusalUnless_38 : decode cX5_refusalUnless 38 = .ok (.goto 5, 3) := by decide +kernel
theorem dX5_refusalUnless_41 : decode cX5_refusalUnless 41 = .ok (.bipush (-12), 2) := by decide +kernel
theorem dX5_refusalUnless_43 : decode cX5_refusalUnless 43 = .ok (.ireturn, 1) := by decide +kernel
theorem dX5_within_0 : decode cX5_within 0 = .ok (.iload_n 0, 1) := by decide +kernel
theorem dX5_within_1 : decode cX5_within 1 = .ok (.iload_n 1, 1) := by decide +kernel
theorem dX5_within_2 : decode cX5_within 2 = .ok (.if_icmp .lt 12, 3) := by decide +kernel
theorem dX5_within_5 : decode cX5_within 5 = .ok (.iload_n 0, 1) := by decide +kernel
theorem dX5_within_6 : decode cX5_within 6 = .ok (.iload_n 2, 1) := by decide +kernel
theorem dX5_within_7 : decode cX5_within 7 = .ok (.if_icmp .gt 7, 3) := by decide +kernel
theorem dX5_within_10 : decode cX5_within 10 = .ok (.iconst 1, 1) := by decide +kernel
theorem dX5_within_11 : decode cX5_within 11 = .ok (.goto 4, 3) := by decide +kernel
theorem dX5_within_14 : decode cX5_within 14 = .ok (.iconst 0, 1) := by decide +kernel
theorem dX5_within_15 : decode cX5_within 15 = .ok (.ireturn, 1) := by decide +kernel
theorem dX5_isPlate_0 : decode cX5_isPlate 0 = .ok (.iload_n 0, 1) := by decide +kernel
theorem dX5_isPlate_1 : decode cX5_isPlate 1 = .ok (.iconst 0, 1) := by decide +kernel
theorem dX5_isPlate_2 : decode cX5_isPlate 2 = .ok (.bipush 9, 2) := by decide +kernel
theorem dX5_isPlate_4 : decode cX5_isPlate 4 = .ok (.invokestatic 129, 3) := by decide +kernel
theorem dX5_isPlate_7 : decode cX5_isPlate 7 = .ok (.ireturn, 1) := by decide +kernel
theorem dX5_isWhile_0 : decode cX5_isWhile 0 = .ok (.iload_n 0, 1) := by decide +kernel
theorem dX5_isWhile_1 : decode cX5_isWhile 1 = .ok (.iconst 0, 1) := by decide +kernel
theorem dX5_isWhile_2 : decode cX5_isWhile 2 = .ok (.bipush 60, 2) := by decide +kernel
theorem dX5_isWhile_4 : decode cX5_isWhile 4 = .ok (.invokestatic 129, 3) := by decide +kernel
theorem dX5_isWhile_7 : decode cX5_isWhile 7 = .ok (.ireturn, 1) := by decide +kernel
theorem dX5_isShelf_0 : decode cX5_isShelf 0 = .ok (.iload_n 0, 1) := by decide +kernel
theorem dX5_isShelf_1 : decode cX5_isShelf 1 = .ok (.iconst 0, 1) := by decide +kernel
theorem dX5_isShelf_2 : decode cX5_isShelf 2 = .ok (.bipush 7, 2) := by decide +kernel
theorem dX5_isShelf_4 : decode cX5_isShelf 4 = .ok (.invokestatic 129, 3) := by decide +kernel
theorem dX5_isShelf_7 : decode cX5_isShelf 7 = .ok (.ireturn, 1) := by decide +kernel
theorem dX5_isDigit_0 : decode cX5_isDigit 0 = .ok (.iload_n 0, 1) := by decide +kernel
theorem dX5_isDigit_1 : decode cX5_isDigit 1 = .ok (.iconst 0, 1) := by decide +kernel
theorem dX5_isDigit_2 : decode cX5_isDigit 2 = .ok (.bipush 9, 2) := by decide +kernel
theorem dX5_isDigit_4 : decode cX5_isDigit 4 = .ok (.invokestatic 129, 3) := by decide +kernel
theorem dX5_isDigit_7 : decode cX5_isDigit 7 = .ok (.ireturn, 1) := by decide +kernel
theorem dX5_leastOf_0 : decode cX5_leastOf 0 = .ok (.iconst 0, 1) := by decide +kernel
theorem dX5_leastOf_1 : decode cX5_leastOf 1 = .ok (.istore_n 1, 1) := by decide +kernel
theorem dX5_leastOf_2 : decode cX5_leastOf 2 = .ok (.iload_n 1, 1) := by decide +kernel
theorem dX5_leastOf_3 : decode cX5_leastOf 3 = .ok (.bipush 32, 2) := by decide +kernel
theorem dX5_leastOf_5 : decode cX5_leastOf 5 = .ok (.if_icmp .ge 19, 3) := by decide +kernel
theorem dX5_leastOf_8 : decode cX5_leastOf 8 = .ok (.iload_n 0, 1) := by decide +kernel
theorem dX5_leastOf_9 : decode cX5_leastOf 9 = .ok (.iload_n 1, 1) := by decide +kernel
theorem dX5_leastOf_10 : decode cX5_leastOf 10 = .ok (.ishr, 1) := by decide +kernel
theorem dX5_leastOf_11 : decode cX5_leastOf 11 = .ok (.iconst 1, 1) := by decide +kernel
theorem dX5_leastOf_12 : decode cX5_leastOf 12 = .ok (.iand, 1) := by decide +kernel
theorem dX5_leastOf_13 : decode cX5_leastOf 13 = .ok (.ifCond .eq 5, 3) := by decide +kernel
theorem dX5_leastOf_16 : decode cX5_leastOf 16 = .ok (.iload_n 1, 1) := by decide +kernel
theorem dX5_leastOf_17 : decode cX5_leastOf 17 = .ok (.ireturn, 1) := by decide +kernel
theorem dX5_leastOf_18 : decode cX5_leastOf 18 = .ok (.iinc 1 1, 3) := by decide +kernel
theorem dX5_leastOf_21 : decode cX5_leastOf 21 = .ok (.goto (-19), 3) := by decide +kernel
theorem dX5_leastOf_24 : decode cX5_leastOf 24 = .ok (.bipush (-4), 2) := by decide +kernel
theorem dX5_leastOf_26 : decode cX5_leastOf 26 = .ok (.ireturn, 1) := by decide +kernel
theorem dX5_refusedLong_0 : decode cX5_refusedLong 0 = .ok (.ldc2_w 311, 3) := by decide +kernel
theorem dX5_refusedLong_3 : decode cX5_refusedLong 3 = .ok (.iload_n 0, 1) := by decide +kernel
theorem dX5_refusedLong_4 : decode cX5_refusedLong 4 = .ok (.i2l, 1) := by decide +kernel
theorem dX5_refusedLong_5 : decode cX5_refusedLong 5 = .ok (.lsub, 1) := by decide +kernel
theorem dX5_refusedLong_6 : decode cX5_refusedLong 6 = .ok (.lreturn, 1) := by decide +kernel
theorem dX5_partOf_0 : decode cX5_partOf 0 = .ok (.lload_n 0, 1) := by decide +kernel
theorem dX5_partOf_1 : decode cX5_partOf 1 = .ok (.lload_n 2, 1) := by decide +kernel
theorem dX5_partOf_2 : decode cX5_partOf 2 = .ok (.invokestatic 313, 3) := by decide +kernel
theorem dX5_partOf_5 : decode cX5_partOf 5 = .ok (.lstore 5, 2) := by decide +kernel
theorem dX5_partOf_7 : decode cX5_partOf 7 = .ok (.lload 5, 2) := by decide +kernel
theorem dX5_partOf_9 : decode cX5_partOf 9 = .ok (.lconst 0, 1) := by decide +kernel
theorem dX5_partOf_10 : decode cX5_partOf 10 = .ok (.lcmp, 1) := by decide +kernel
theorem dX5_partOf_11 : decode cX5_partOf 11 = .ok (.ifCond .le 9, 3) := by decide +kernel
theorem dX5_partOf_14 : decode cX5_partOf 14 = .ok (.lload_n 2, 1) := by decide +kernel
theorem dX5_partOf_15 : decode cX5_partOf 15 = .ok (.lconst 0, 1) := by decide +kernel
theorem dX5_partOf_16 : decode cX5_partOf 16 = .ok (.lcmp, 1) := by decide +kernel
theorem dX5_partOf_17 : decode cX5_partOf 17 = .ok (.ifCond .gt 14, 3) := by decide +kernel
theorem dX5_partOf_20 : decode cX5_partOf 20 = .ok (.iload 4, 2) := by decide +kernel
theorem dX5_partOf_22 : decode cX5_partOf 22 = .ok (.ifCond .ne 7, 3) := by decide +kernel
theorem dX5_partOf_25 : decode cX5_partOf 25 = .ok (.lconst 0, 1) := by decide +kernel
theorem dX5_partOf_26 : decode cX5_partOf 26 = .ok (.goto 4, 3) := by decide +kernel
theorem dX5_partOf_29 : decode cX5_partOf 29 = .ok (.lconst 1, 1) := by decide +kernel
theorem dX5_partOf_30 : decode cX5_partOf 30 = .ok (.lreturn, 1) := by decide +kernel
theorem dX5_partOf_31 : decode cX5_partOf 31 = .ok (.iload 4, 2) := by decide +kernel
theorem dX5_partOf_33 : decode cX5_partOf 33 = .ok (.ifCond .ne 10, 3) := by decide +kernel
theorem dX5_partOf_36 : decode cX5_partOf 36 = .ok (.lload_n 0, 1) := by decide +kernel
theorem dX5_partOf_37 : decode cX5_partOf 37 = .ok (.lload 5, 2) := by decide +kernel
theorem dX5_partOf_39 : decode cX5_partOf 39 = .ok (.ldiv, 1) := by decide +kernel
theorem dX5_partOf_40 : decode cX5_partOf 40 = .ok (.goto 7, 3) := by decide +kernel
theorem dX5_partOf_43 : decode cX5_partOf 43 = .ok (.lload_n 2, 1) := by decide +kernel
theorem dX5_partOf_44 : decode cX5_partOf 44 = .ok (.lload 5, 2) := by decide +kernel
theorem dX5_partOf_46 : decode cX5_partOf 46 = .ok (.ldiv, 1) := by decide +kernel
theorem dX5_partOf_47 : decode cX5_partOf 47 = .ok (.lreturn, 1) := by decide +kernel
theorem dX5_sharedDivisor_0 : decode cX5_sharedDivisor 0 = .ok (.lload_n 0, 1) := by decide +kernel
theorem dX5_sharedDivisor_1 : decode cX5_sharedDivisor 1 = .ok (.lstore 4, 2) := by decide +kernel
theorem dX5_sharedDivisor_3 : decode cX5_sharedDivisor 3 = .ok (.lload_n 2, 1) := by decide +kernel
theorem dX5_sharedDivisor_4 : decode cX5_sharedDivisor 4 = .ok (.lstore 6, 2) := by decide +kernel
theorem dX5_sharedDivisor_6 : decode cX5_sharedDivisor 6 = .ok (.iconst 0, 1) := by decide +kernel
theorem dX5_sharedDivisor_7 : decode cX5_sharedDivisor 7 = .ok (.istore 8, 2) := by decide +kernel
theorem dX5_sharedDivisor_9 : decode cX5_sharedDivisor 9 = .ok (.iload 8, 2) := by decide +kernel
theorem dX5_sharedDivisor_11 : decode cX5_sharedDivisor 11 = .ok (.sipush 1000, 3) := by decide +kernel
theorem dX5_sharedDivisor_14 : decode cX5_sharedDivisor 14 = .ok (.if_icmp .ge 31, 3) := by decide +kernel
theorem dX5_sharedDivisor_17 : decode cX5_sharedDivisor 17 = .ok (.lload 6, 2) := by decide +kernel
theorem dX5_sharedDivisor_19 : decode cX5_sharedDivisor 19 = .ok (.lconst 0, 1) := by decide +kernel
theorem dX5_sharedDivisor_20 : decode cX5_sharedDivisor 20 = .ok (.lcmp, 1) := by decide +kernel
theorem dX5_sharedDivisor_21 : decode cX5_sharedDivisor 21 = .ok (.ifCond .eq 24, 3) := by decide +kernel
theorem dX5_sharedDivisor_24 : decode cX5_sharedDivisor 24 = .ok (.lload 4, 2) := by decide +kernel
theorem dX5_sharedDivisor_26 : decode cX5_sharedDivisor 26 = .ok (.lload 6, 2) := by decide +kernel
theorem dX5_sharedDivisor_28 : decode cX5_sharedDivisor 28 = .ok (.lrem, 1) := by decide +kernel
theorem dX5_sharedDivisor_29 : decode cX5_sharedDivisor 29 = .ok (.lstore 9, 2) := by decide +kernel
theorem dX5_sharedDivisor_31 : decode cX5_sharedDivisor 31 = .ok (.lload 6, 2) := by decide +kernel
theorem dX5_sharedDivisor_33 : decode cX5_sharedDivisor 33 = .ok (.lstore 4, 2) := by decide +kernel
theorem dX5_sharedDivisor_35 : decode cX5_sharedDivisor 35 = .ok (.lload 9, 2) := by decide +kernel
theorem dX5_sharedDivisor_37 : decode cX5_sharedDivisor 37 = .ok (.lstore 6, 2) := by decide +kernel
theorem dX5_sharedDivisor_39 : decode cX5_sharedDivisor 39 = .ok (.iinc 8 1, 3) := by decide +kernel
theorem dX5_sharedDivisor_42 : decode cX5_sharedDivisor 42 = .ok (.goto (-33), 3) := by decide +kernel
theorem dX5_sharedDivisor_45 : decode cX5_sharedDivisor 45 = .ok (.lload 4, 2) := by decide +kernel
theorem dX5_sharedDivisor_47 : decode cX5_sharedDivisor 47 = .ok (.lreturn, 1) := by decide +kernel
