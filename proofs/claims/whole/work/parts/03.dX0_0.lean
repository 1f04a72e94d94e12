theorem dX0_init_0 : decode cX0_init 0 = .ok (.aload_n 0, 1) := by decide +kernel
theorem dX0_init_1 : decode cX0_init 1 = .ok (.invokespecial 3, 3) := by decide +kernel
theorem dX0_init_4 : decode cX0_init 4 = .ok (.aload_n 0, 1) := by decide +kernel
theorem dX0_init_5 : decode cX0_init 5 = .ok (.bipush 7, 2) := by decide +kernel
theorem dX0_init_7 : decode cX0_init 7 = .ok (.newarray .int, 2) := by decide +kernel
theorem dX0_init_9 : decode cX0_init 9 = .ok (.putfield 9, 3) := by decide +kernel
theorem dX0_init_12 : decode cX0_init 12 = .ok (.aload_n 0, 1) := by decide +kernel
theorem dX0_init_13 : decode cX0_init 13 = .ok (.bipush 7, 2) := by decide +kernel
theorem dX0_init_15 : decode cX0_init 15 = .ok (.newarray .int, 2) := by decide +kernel
theorem dX0_init_17 : decode cX0_init 17 = .ok (.putfield 15, 3) := by decide +kernel
theorem dX0_init_20 : decode cX0_init 20 = .ok (.aload_n 0, 1) := by decide +kernel
theorem dX0_init_21 : decode cX0_init 21 = .ok (.bipush 7, 2) := by decide +kernel
theorem dX0_init_23 : decode cX0_init 23 = .ok (.newarray .int, 2) := by decide +kernel
theorem dX0_init_25 : decode cX0_init 25 = .ok (.putfield 18, 3) := by decide +kernel
theorem dX0_init_28 : decode cX0_init 28 = .ok (.aload_n 0, 1) := by decide +kernel
theorem dX0_init_29 : decode cX0_init 29 = .ok (.bipush 7, 2) := by decide +kernel
theorem dX0_init_31 : decode cX0_init 31 = .ok (.newarray .int, 2) := by decide +kernel
theorem dX0_init_33 : decode cX0_init 33 = .ok (.putfield 21, 3) := by decide +kernel
theorem dX0_init_36 : decode cX0_init 36 = .ok (.aload_n 0, 1) := by decide +kernel
theorem dX0_init_37 : decode cX0_init 37 = .ok (.bipush 7, 2) := by decide +kernel
theorem dX0_init_39 : decode cX0_init 39 = .ok (.newarray .int, 2) := by decide +kernel
theorem dX0_init_41 : decode cX0_init 41 = .ok (.putfield 24, 3) := by decide +kernel
theorem dX0_init_44 : decode cX0_init 44 = .ok (.aload_n 0, 1) := by decide +kernel
theorem dX0_init_45 : decode cX0_init 45 = .ok (.bipush 10, 2) := by decide +kernel
theorem dX0_init_47 : decode cX0_init 47 = .ok (.newarray .int, 2) := by decide +kernel
theorem dX0_init_49 : decode cX0_init 49 = .ok (.putfield 27, 3) := by decide +kernel
theorem dX0_init_52 : decode cX0_init 52 = .ok (.iconst 0, 1) := by decide +kernel
theorem dX0_init_53 : decode cX0_init 53 = .ok (.istore_n 1, 1) := by decide +kernel
theorem dX0_init_54 : decode cX0_init 54 = .ok (.iload_n 1, 1) := by decide +kernel
theorem dX0_init_55 : decode cX0_init 55 = .ok (.bipush 10, 2) := by decide +kernel
theorem dX0_init_57 : decode cX0_init 57 = .ok (.if_icmp .ge 16, 3) := by decide +kernel
theorem dX0_init_60 : decode cX0_init 60 = .ok (.aload_n 0, 1) := by decide +kernel
theorem dX0_init_61 : decode cX0_init 61 = .ok (.getfield 27, 3) := by decide +kernel
theorem dX0_init_64 : decode cX0_init 64 = .ok (.iload_n 1, 1) := by decide +kernel
theorem dX0_init_65 : decode cX0_init 65 = .ok (.iconst 5, 1) := by decide +kernel
theorem dX0_init_66 : decode cX0_init 66 = .ok (.iastore, 1) := by decide +kernel
theorem dX0_init_67 : decode cX0_init 67 = .ok (.iinc 1 1, 3) := by decide +kernel
theorem dX0_init_70 : decode cX0_init 70 = .ok (.goto (-16), 3) := by decide +kernel
theorem dX0_init_73 : decode cX0_init 73 = .ok (.return_, 1) := by decide +kernel
theorem dX0_become_0 : decode cX0_become 0 = .ok (.aload_n 1, 1) := by decide +kernel
theorem dX0_become_1 : decode cX0_become 1 = .ok (.getfield 9, 3) := by decide +kernel
theorem dX0_become_4 : decode cX0_become 4 = .ok (.iconst 0, 1) := by decide +kernel
theorem dX0_become_5 : decode cX0_become 5 = .ok (.aload_n 0, 1) := by decide +kernel
theorem dX0_become_6 : decode cX0_become 6 = .ok (.getfield 9, 3) := by decide +kernel
theorem dX0_become_9 : decode cX0_become 9 = .ok (.iconst 0, 1) := by decide +kernel
theorem dX0_become_10 : decode cX0_become 10 = .ok (.bipush 7, 2) := by decide +kernel
theorem dX0_become_12 : decode cX0_become 12 = .ok (.invokestatic 30, 3) := by decide +kernel
theorem dX0_become_15 : decode cX0_become 15 = .ok (.aload_n 1, 1) := by decide +kernel
theorem dX0_become_16 : decode cX0_become 16 = .ok (.getfield 15, 3) := by decide +kernel
theorem dX0_become_19 : decode cX0_become 19 = .ok (.iconst 0, 1) := by decide +kernel
theorem dX0_become_20 : decode cX0_become 20 = .ok (.aload_n 0, 1) := by decide +kernel
theorem dX0_become_21 : decode cX0_become 21 = .ok (.getfield 15, 3) := by decide +kernel
theorem dX0_become_24 : decode cX0_become 24 = .ok (.iconst 0, 1) := by decide +kernel
theorem dX0_become_25 : decode cX0_become 25 = .ok (.bipush 7, 2) := by decide +kernel
theorem dX0_become_27 : decode cX0_become 27 = .ok (.invokestatic 30, 3) := by decide +kernel
theorem dX0_become_30 : decode cX0_become 30 = .ok (.aload_n 1, 1) := by decide +kernel
theorem dX0_become_31 : decode cX0_become 31 = .ok (.getfield 18, 3) := by decide +kernel
theorem dX0_become_34 : decode cX0_become 34 = .ok (.iconst 0, 1) := by decide +kernel
theorem dX0_become_35 : decode cX0_become 35 = .ok (.aload_n 0, 1) := by decide +kernel
theorem dX0_become_36 : decode cX0_become 36 = .ok (.getfield 18, 3) := by decide +kernel
theorem dX0_become_39 : decode cX0_become 39 = .ok (.iconst 0, 1) := by decide +kernel
theorem dX0_become_40 : decode cX0_become 40 = .ok (.bipush 7, 2) := by decide +kernel
theorem dX0_become_42 : decode cX0_become 42 = .ok (.invokestatic 30, 3) := by decide +kernel
theorem dX0_become_45 : decode cX0_become 45 = .ok (.aload_n 1, 1) := by decide +kernel
theorem dX0_become_46 : decode cX0_become 46 = .ok (.getfield 21, 3) := by decide +kernel
theorem dX0_become_49 : decode cX0_become 49 = .ok (.iconst 0, 1) := by decide +kernel
theorem dX0_become_50 : decode cX0_become 50 = .ok (.aload_n 0, 1) := by decide +kernel
theorem dX0_become_51 : decode cX0_become 51 = .ok (.getfield 21, 3) := by decide +kernel
theorem dX0_become_54 : decode cX0_become 54 = .ok (.iconst 0, 1) := by decide +kernel
theorem dX0_become_55 : decode cX0_become 55 = .ok (.bipush 7, 2) := by decide +kernel
theorem dX0_become_57 : decode cX0_become 57 = .ok (.invokestatic 30, 3) := by decide +kernel
theorem dX0_become_60 : decode cX0_become 60 = .ok (.aload_n 1, 1) := by decide +kernel
theorem dX0_become_61 : decode cX0_become 61 = .ok (.getfield 24, 3) := by decide +kernel
theorem dX0_become_64 : decode cX0_become 64 = .ok (.iconst 0, 1) := by decide +kernel
theorem dX0_become_65 : decode cX0_become 65 = .ok (.aload_n 0, 1) := by decide +kernel
theorem dX0_become_66 : decode cX0_become 66 = .ok (.getfield 24, 3) := by decide +kernel
theorem dX0_become_69 : decode cX0_become 69 = .ok (.iconst 0, 1) := by decide +kernel
theorem dX0_become_70 : decode cX0_become 70 = .ok (.bipush 7, 2) := by decide +kernel
theorem dX0_become_72 : decode cX0_become 72 = .ok (.invokestatic 30, 3) := by decide +kernel
theorem dX0_become_75 : decode cX0_become 75 = .ok (.aload_n 1, 1) := by decide +kernel
theorem dX0_become_76 : decode cX0_become 76 = .ok (.getfield 27, 3) := by decide +kernel
theorem dX0_become_79 : decode cX0_become 79 = .ok (.iconst 0, 1) := by decide +kernel
theorem dX0_become_80 : decode cX0_become 80 = .ok (.aload_n 0, 1) := by decide +kernel
theorem dX0_become_81 : decode cX0_become 81 = .ok (.getfield 27, 3) := by decide +kernel
theorem dX0_become_84 : decode cX0_become 84 = .ok (.iconst 0, 1) := by decide +kernel
theorem dX0_become_85 : decode cX0_become 85 = .ok (.bipush 10, 2) := by decide +kernel
theorem dX0_become_87 : decode cX0_become 87 = .ok (.invokestatic 30, 3) := by decide +kernel
theorem dX0_become_90 : decode cX0_become 90 = .ok (.aload_n 0, 1) := by decide +kernel
theorem dX0_become_91 : decode cX0_become 91 = .ok (.aload_n 1, 1) := by decide +kernel
theorem dX0_become_92 : decode cX0_become 92 = .ok (.getfield 36, 3) := by decide +kernel
theorem dX0_become_95 : decode cX0_become 95 = .ok (.putfield 36, 3) := by decide +kernel
theorem dX0_become_98 : decode cX0_become 98 = .ok (.aload_n 0, 1) := by decide +kernel
theorem dX0_become_99 : decode cX0_become 99 = .ok (.aload_n 1, 1) := by decide +kernel
theorem dX0_become_100 : decode cX0_become 100 = .ok (.getfield 40, 3) := by decide +kernel
theorem dX0_become_103 : decode cX0_become 103 = .ok (.putfield 40, 3) := by decide +kernel
theorem dX0_become_106 : decode cX0_become 106 = .ok (.aload_n 0, 1) := by decide +kernel
theorem dX0_become_107 : decode cX0_become 107 = .ok (.aload_n 1, 1) := by decide +kernel
theorem dX0_become_108 : decode cX0_become 108 = .ok (.getfield 43, 3) := by decide +kernel
theorem dX0_become_111 : decode cX0_become 111 = .ok (.putfield 43, 3) := by decide +kernel
theorem dX0_become_114 : decode cX0_become 114 = .ok (.aload_n 0, 1) := by decide +kernel
theorem dX0_become_115 : decode cX0_become 115 = .ok (.aload_n 1, 1) := by decide +kernel
theorem dX0_become_116 : decode cX0_become 116 = .ok (.getfield 46, 3) := by decide +kernel
theorem dX0_become_119 : decode cX0_become 119 = .ok (.putfield 46, 3) := by decide +kernel
theorem dX0_become_122 : decode cX0_become 122 = .ok (.aload_n 0, 1) := by decide +kernel
theorem dX0_become_123 : decode cX0_become 123 = .ok (.aload_n 1, 1) := by decide +kernel
theorem dX0_become_124 : decode cX0_become 124 = .ok (.getfield 49, 3) := by decide +kernel
theorem dX0_become_127 : decode cX0_become 127 = .ok (.putfield 49, 3) := by decide +kernel
theorem dX0_become_130 : decode cX0_become 130 = .ok (.aload_n 0, 1) := by decide +kernel
theorem dX0_become_131 : decode cX0_become 131 = .ok (.aload_n 1, 1) := by decide +kernel
theorem dX0_become_132 : decode cX0_become 132 = .ok (.getfield 52, 3) := by decide +kernel
theorem dX0_become_135 : decode cX0_become 135 = .ok (.putfield 52, 3) := by decide +kernel
theorem dX0_become_138 : decode cX0_become 138 = .ok (.aload_n 0, 1) := by decide +kernel
theorem dX0_become_139 : decode cX0_become 139 = .ok (.aload_n 1, 1) := by decide +kernel
theorem dX0_become_140 : decode cX0_become 140 = .ok (.getfield 55, 3) := by decide +kernel
theorem dX0_become_143 : decode cX0_become 143 = .ok (.putfield 55, 3) := by decide +kernel
theorem dX0_become_146 : decode cX0_become 146 = .ok (.return_, 1) := by decide +kernel
theorem dX0_knows_0 : decode cX0_knows 0 = .ok (.iload_n 1, 1) := by decide +kernel
theorem dX0_knows_1 : decode cX0_knows 1 = .ok (.iconst 0, 1) := by decide +kernel
theorem dX0_knows_2 : decode cX0_knows 2 = .ok (.aload_n 0, 1) := by decide +kernel
theorem dX0_knows_3 : decode cX0_knows 3 = .ok (.getfield 36, 3) := by decide +kernel
theorem dX0_knows_6 : decode cX0_knows 6 = .ok (.iconst 1, 1) := by decide +kernel
theorem dX0_knows_7 : decode cX0_knows 7 = .ok (.isub, 1) := by decide +kernel
theorem dX0_knows_8 : decode cX0_knows 8 = .ok (.invokestatic 58, 3) := by decide +kernel
theorem dX0_knows_11 : decode cX0_knows 11 = .ok (.ireturn, 1) := by decide +kernel
theorem dX0_isThere_0 : decode cX0_isThere 0 = .ok (.aload_n 0, 1) := by decide +kernel
theorem dX0_isThere_1 : decode cX0_isThere 1 = .ok (.getfield 40, 3) := by decide +kernel
theorem dX0_isThere_4 : decode cX0_isThere 4 = .ok (.iload_n 1, 1) := by decide +kernel
theorem dX0_isThere_5 : decode cX0_isThere 5 = .ok (.ishr, 1) := by decide +kernel
theorem dX0_isThere_6 : decode cX0_isThere 6 = .ok (.iconst 1, 1) := by decide +kernel
theorem dX0_isThere_7 : decode cX0_isThere 7 = .ok (.iand, 1) := by decide +kernel
theorem dX0_isThere_8 : decode cX0_isThere 8 = .ok (.ifCond .eq 7, 3) := by decide +kernel
theorem dX0_isThere_11 : decode cX0_isThere 11 = .ok (.iconst 1, 1) := by decide +kernel
theorem dX0_isThere_12 : decode cX0_isThere 12 = .ok (.goto 4, 3) := by decide +kernel
theorem dX0_isThere_15 : decode cX0_isThere 15 = .ok (.iconst 0, 1) := by decide +kernel
theorem dX0_isThere_16 : decode cX0_isThere 16 = .ok (.ireturn, 1) := by decide +kernel
theorem dX0_admit_0 : decode cX0_admit 0 = .ok (.aload_n 0, 1) := by decide +kernel
theorem dX0_admit_1 : decode cX0_admit 1 = .ok (.getfield 36, 3) := by decide +kernel
theorem dX0_admit_4 : decode cX0_admit 4 = .ok (.bipush 7, 2) := by decide +kernel
theorem dX0_admit_6 : decode cX0_admit 6 = .ok (.if_icmp .lt 6, 3) := by decide +kernel
theorem dX0_admit_9 : decode cX0_admit 9 = .ok (.bipush (-2), 2) := by decide +kernel
theorem dX0_admit_11 : decode cX0_admit 11 = .ok (.ireturn, 1) := by decide +kernel
theorem dX0_admit_12 : decode cX0_admit 12 = .ok (.aload_n 0, 1) := by decide +kernel
theorem dX0_admit_13 : decode cX0_admit 13 = .ok (.getfield 36, 3) := by decide +kernel
theorem dX0_admit_16 : decode cX0_admit 16 = .ok (.istore 4, 2) := by decide +kernel
theorem dX0_admit_18 : decode cX0_admit 18 = .ok (.aload_n 0, 1) := by decide +kernel
theorem dX0_admit_19 : decode cX0_admit 19 = .ok (.getfield 9, 3) := by decide +kernel
theorem dX0_admit_22 : decode cX0_admit 22 = .ok (.iload 4, 2) := by decide +kernel
theorem dX0_admit_24 : decode cX0_admit 24 = .ok (.iload_n 1, 1) := by decide +kernel
theorem dX0_admit_25 : decode cX0_admit 25 = .ok (.iastore, 1) := by decide +kernel
theorem dX0_admit_26 : decode cX0_admit 26 = .ok (.aload_n 0, 1) := by decide +kernel
theorem dX0_admit_27 : decode cX0_admit 27 = .ok (.getfield 15, 3) := by decide +kernel
theorem dX0_admit_30 : decode cX0_admit 30 = .ok (.iload 4, 2) := by decide +kernel
theorem dX0_admit_32 : decode cX0_admit 32 = .ok (.iload_n 2, 1) := by decide +kernel
theorem dX0_admit_33 : decode cX0_admit 33 = .ok (.iastore, 1) := by decide +kernel
theorem dX0_admit_34 : decode cX0_admit 34 = .ok (.aload_n 0, 1) := by decide +kernel
theorem dX0_admit_35 : decode cX0_admit 35 = .ok (.getfield 18, 3) := by decide +kernel
theorem dX0_admit_38 : decode cX0_admit 38 = .ok (.iload 4, 2) := by decide +kernel
theorem dX0_admit_40 : decode cX0_admit 40 = .ok (.iload_n 3, 1) := by decide +kernel
theorem dX0_admit_41 : decode cX0_admit 41 = .ok (.iastore, 1) := by decide +kernel
theorem dX0_admit_42 : decode cX0_admit 42 = .ok (.aload_n 0, 1) := by decide +kernel
theorem dX0_admit_43 : decode cX0_admit 43 = .ok (.getfield 21, 3) := by decide +kernel
theorem dX0_admit_46 : decode cX0_admit 46 = .ok (.iload 4, 2) := by decide +kernel
theorem dX0_admit_48 : decode cX0_admit 48 = .ok (.iconst 0, 1) := by decide +kernel
theorem dX0_admit_49 : decode cX0_admit 49 = .ok (.iastore, 1) := by decide +kernel
theorem dX0_admit_50 : decode cX0_admit 50 = .ok (.aload_n 0, 1) := by decide +kernel
theorem dX0_admit_51 : decode cX0_admit 51 = .ok (.getfield 24, 3) := by decide +kernel
theorem dX0_admit_54 : decode cX0_admit 54 = .ok (.iload 4, 2) := by decide +kernel
theorem dX0_admit_56 : decode cX0_admit 56 = .ok (.bipush 50, 2) := by decide +kernel
theorem dX0_admit_58 : decode cX0_admit 58 = .ok (.iastore, 1) := by decide +kernel
theorem dX0_admit_59 : decode cX0_admit 59 = .ok (.aload_n 0, 1) := by decide +kernel
theorem dX0_admit_60 : decode cX0_admit 60 = .ok (.dup, 1) := by decide +kernel
theorem dX0_admit_61 : decode cX0_admit 61 = .ok (.getfield 40, 3) := by decide +kernel
theorem dX0_admit_64 : decode cX0_admit 64 = .ok (.iconst 1, 1) := by decide +kernel
theorem dX0_admit_65 : decode cX0_admit 65 = .ok (.iload 4, 2) := by decide +kernel
theorem dX0_admit_67 : decode cX0_admit 67 = .ok (.ishl, 1) := by decide +kernel
theorem dX0_admit_68 : decode cX0_admit 68 = .ok (.ior, 1) := by decide +kernel
theorem dX0_admit_69 : decode cX0_admit 69 = .ok (.putfield 40, 3) := by decide +kernel
theorem dX0_admit_72 : decode cX0_admit 72 = .ok (.aload_n 0, 1) := by decide +kernel
theorem dX0_admit_73 : decode cX0_admit 73 = .ok (.dup, 1) := by decide +kernel
theorem dX0_admit_74 : decode cX0_admit 74 = .ok (.getfield 36, 3) := by decide +kernel
theorem dX0_admit_77 : decode cX0_admit 77 = .ok (.iconst 1, 1) := by decide +kernel
theorem dX0_admit_78 : decode cX0_admit 78 = .ok (.iadd, 1) := by decide +kernel
theorem dX0_admit_79 : decode cX0_admit 79 = .ok (.putfield 36, 3) := by decide +kernel
theorem dX0_admit_82 : decode cX0_admit 82 = .ok (.iload 4, 2) := by decide +kernel
theorem dX0_admit_84 : decode cX0_admit 84 = .ok (.ireturn, 1) := by decide +kernel
theorem dX0_stock_0 : decode cX0_stock 0 = .ok (.aload_n 0, 1) := by decide +kernel
theorem dX0_stock_1 : decode cX0_stock 1 = .ok (.getfield 27, 3) := by decide +kernel
theorem dX0_stock_4 : decode cX0_stock 4 = .ok (.iload_n 1, 1) := by decide +kernel
theorem dX0_stock_5 : decode cX0_stock 5 = .ok (.bipush 99, 2) := by decide +kernel
theorem dX0_stock_7 : decode cX0_stock 7 = .ok (.aload_n 0, 1) := by decide +kernel
theorem dX0_stock_8 : decode cX0_stock 8 = .ok (.getfield 27, 3) := by decide +kernel
theorem dX0_stock_11 : decode cX0_stock 11 = .ok (.iload_n 1, 1) := by decide +kernel
theorem dX0_stock_12 : decode cX0_stock 12 = .ok (.iaload, 1) := by decide +kernel
theorem dX0_stock_13 : decode cX0_stock 13 = .ok (.iload_n 2, 1) := by decide +kernel
theorem dX0_stock_14 : decode cX0_stock 14 = .ok (.iadd, 1) := by decide +kernel
theorem dX0_stock_15 : decode cX0_stock 15 = .ok (.invokestatic 62, 3) := by decide +kernel
theorem dX0_stock_18 : decode cX0_stock 18 = .ok (.iastore, 1) := by decide +kernel
theorem dX0_stock_19 : decode cX0_stock 19 = .ok (.return_, 1) := by decide +kernel
theorem dX0_pass_0 : decode cX0_pass 0 = .ok (.iconst 0, 1) := by decide +kernel
theorem dX0_pass_1 : decode cX0_pass 1 = .ok (.istore_n 2, 1) := by decide +kernel
theorem dX0_pass_2 : decode cX0_pass 2 = .ok (.iload_n 2, 1) := by decide +kernel
theorem dX0_pass_3 : decode cX0_pass 3 = .ok (.iload_n 1, 1) := by decide +kernel
theorem dX0_pass_4 : decode cX0_pass 4 = .ok (.if_icmp .ge 15, 3) := by decide +kernel
theorem dX0_pass_7 : decode cX0_pass 7 = .ok (.aload_n 0, 1) := by decide +kernel
theorem dX0_pass_8 : decode cX0_pass 8 = .ok (.iconst 0, 1) := by decide +kernel
theorem dX0_pass_9 : decode cX0_pass 9 = .ok (.iconst 0, 1) := by decide +kernel
theorem dX0_pass_10 : decode cX0_pass 10 = .ok (.invokevirtual 68, 3) := by decide +kernel
theorem dX0_pass_13 : decode cX0_pass 13 = .ok (.iinc 2 1, 3) := by decide +kernel
theorem dX0_pass_16 : decode cX0_pass 16 = .ok (.goto (-14), 3) := by decide +kernel
theorem dX0_pass_19 : decode cX0_pass 19 = .ok (.return_, 1) := by decide +kernel
theorem dX0_passUnlacking_0 : decode cX0_passUnlacking 0 = .ok (.iconst 0, 1) := by decide +kernel
theorem dX0_passUnlacking_1 : decode cX0_passUnlacking 1 = .ok (.istore_n 2, 1) := by decide +kernel
theorem dX0_passUnlacking_2 : decode cX0_passUnlacking 2 = .ok (.iload_n 2, 1) := by decide +kernel
theorem dX0_passUnlacking_3 : decode cX0_passUnlacking 3 = .ok (.iload_n 1, 1) := by decide +kernel
theorem dX0_passUnlacking_4 : decode cX0_passUnlacking 4 = .ok (.if_icmp .ge 24, 3) := by decide +kernel
theorem dX0_passUnlacking_7 : decode cX0_passUnlacking 7 = .ok (.aload_n 0, 1) := by decide +kernel
theorem dX0_passUnlacking_8 : decode cX0_passUnlacking 8 = .ok (.iconst 0, 1) := by decide +kernel
theorem dX0_passUnlacking_9 : decode cX0_passUnlacking 9 = .ok (.iconst 0, 1) := by decide +kernel
theorem dX0_passUnlacking_10 : decode cX0_passUnlacking 10 = .ok (.invokevirtual 68, 3) := by decide +kernel
theorem dX0_passUnlacking_13 : decode cX0_passUnlacking 13 = .ok (.aload_n 0, 1) := by decide +kernel
theorem dX0_passUnlacking_14 : decode cX0_passUnlacking 14 = .ok (.getfield 55, 3) := by decide +kernel
theorem dX0_passUnlacking_17 : decode cX0_passUnlacking 17 = .ok (.ifCond .eq 5, 3) := by decide +kernel
theorem dX0_passUnlacking_20 : decode cX0_passUnlacking 20 = .ok (.iconst 0, 1) := by decide +kernel
theorem dX0_passUnlacking_21 : decode cX0_passUnlacking 21 = .ok (.ireturn, 1) := by decide +kernel
theorem dX0_passUnlacking_22 : decode cX0_passUnlacking 22 = .ok (.iinc 2 1, 3) := by decide +kernel
theorem dX0_passUnlacking_25 : decode cX0_passUnlacking 25 = .ok (.goto (-23), 3) := by decide +kernel
theorem dX0_passUnlacking_28 : decode cX0_passUnlacking 28 = .ok (.iconst 1, 1) := by decide +kernel
theorem dX0_passUnlacking_29 : decode cX0_passUnlacking 29 = .ok (.ireturn, 1) := by decide +kernel
theorem dX0_passNight_0 : decode cX0_passNight 0 = .ok (.aload_n 0, 1) := by decide +kernel
theorem dX0_passNight_1 : decode cX0_passNight 1 = .ok (.dup, 1) := by decide +kernel
theorem dX0_passNight_2 : decode cX0_passNight 2 = .ok (.getfield 43, 3) := by decide +kernel
theorem dX0_passNight_5 : decode cX0_passNight 5 = .ok (.iconst 1, 1) := by decide +kernel
theorem dX0_passNight_6 : decode cX0_passNight 6 = .ok (.iadd, 1) := by decide +kernel
theorem dX0_passNight_7 : decode cX0_passNight 7 = .ok (.putfield 43, 3) := by decide +kernel
theorem dX0_passNight_10 : decode cX0_passNight 10 = .ok (.aload_n 0, 1) := by decide +kernel
theorem dX0_passNight_11 : decode cX0_passNight 11 = .ok (.aload_n 0, 1) := by decide +kernel
theorem dX0_passNight_12 : decode cX0_passNight 12 = .ok (.getfield 43, 3) := by decide +kernel
theorem dX0_passNight_15 : decode cX0_passNight 15 = .ok (.bipush 10, 2) := by decide +kernel
theorem dX0_passNight_17 : decode cX0_passNight 17 = .ok (.irem, 1) := by decide +kernel
theorem dX0_passNight_18 : decode cX0_passNight 18 = .ok (.iconst 2, 1) := by decide +kernel
theorem dX0_passNight_19 : decode cX0_passNight 19 = .ok (.invokevirtual 72, 3) := by decide +kernel
theorem dX0_passNight_22 : decode cX0_passNight 22 = .ok (.aload_n 0, 1) := by decide +kernel
theorem dX0_passNight_23 : decode cX0_passNight 23 = .ok (.iconst 0, 1) := by decide +kernel
theorem dX0_passNight_24 : decode cX0_passNight 24 = .ok (.putfield 52, 3) := by decide +kernel
theorem dX0_passNight_27 : decode cX0_passNight 27 = .ok (.aload_n 0, 1) := by decide +kernel
theorem dX0_passNight_28 : decode cX0_passNight 28 = .ok (.iconst 0, 1) := by decide +kernel
theorem dX0_passNight_29 : decode cX0_passNight 29 = .ok (.putfield 55, 3) := by decide +kernel
theorem dX0_passNight_32 : decode cX0_passNight 32 = .ok (.iconst 0, 1) := by decide +kernel
theorem dX0_passNight_33 : decode cX0_passNight 33 = .ok (.istore_n 3, 1) := by decide +kernel
theorem dX0_passNight_34 : decode cX0_passNight 34 = .ok (.iload_n 3, 1) := by decide +kernel
theorem dX0_passNight_35 : decode cX0_passNight 35 = .ok (.aload_n 0, 1) := by decide +kernel
theorem dX0_passNight_36 : decode cX0_passNight 36 = .ok (.getfield 36, 3) := by decide +kernel
theorem dX0_passNight_39 : decode cX0_passNight 39 = .ok (.if_icmp .ge 62, 3) := by decide +kernel
theorem dX0_passNight_42 : decode cX0_passNight 42 = .ok (.aload_n 0, 1) := by decide +kernel
theorem dX0_passNight_43 : decode cX0_passNight 43 = .ok (.iload_n 3, 1) := by decide +kernel
theorem dX0_passNight_44 : decode cX0_passNight 44 = .ok (.invokevirtual 76, 3) := by decide +kernel
theorem dX0_passNight_47 : decode cX0_passNight 47 = .ok (.ifCond .eq 48, 3) := by decide +kernel
theorem dX0_passNight_50 : decode cX0_passNight 50 = .ok (.aload_n 0, 1) := by decide +kernel
theorem dX0_passNight_51 : decode cX0_passNight 51 = .ok (.iload_n 3, 1) := by decide +kernel
theorem dX0_passNight_52 : decode cX0_passNight 52 = .ok (.aload_n 0, 1) := by decide +kernel
theorem dX0_passNight_53 : decode cX0_passNight 53 = .ok (.getfield 43, 3) := by decide +kernel
theorem dX0_passNight_56 : decode cX0_passNight 56 = .ok (.invokevirtual 80, 3) := by decide +kernel
theorem dX0_passNight_59 : decode cX0_passNight 59 = .ok (.istore 4, 2) := by decide +kernel
theorem dX0_passNight_61 : decode cX0_passNight 61 = .ok (.iload_n 1, 1) := by decide +kernel
theorem dX0_passNight_62 : decode cX0_passNight 62 = .ok (.ifCond .eq 14, 3) := by decide +kernel
theorem dX0_passNight_65 : decode cX0_passNight 65 = .ok (.iload 4, 2) := by decide +kernel
theorem dX0_passNight_67 : decode cX0_passNight 67 = .ok (.bipush (-4), 2) := by decide +kernel
theorem dX0_passNight_69 : decode cX0_passNight 69 = .ok (.if_icmp .eq 7, 3) := by decide +kernel
theorem dX0_passNight_72 : decode cX0_passNight 72 = .ok (.bipush 7, 2) := by decide +kernel
theorem dX0_passNight_74 : decode cX0_passNight 74 = .ok (.istore 4, 2) := by decide +kernel
theorem dX0_passNight_76 : decode cX0_passNight 76 = .ok (.aload_n 0, 1) := by decide +kernel
theorem dX0_passNight_77 : decode cX0_passNight 77 = .ok (.iload_n 3, 1) := by decide +kernel
theorem dX0_passNight_78 : decode cX0_passNight 78 = .ok (.iload_n 2, 1) := by decide +kernel
theorem dX0_passNight_79 : decode cX0_passNight 79 = .ok (.iload_n 3, 1) := by decide +kernel
theorem dX0_passNight_80 : decode cX0_passNight 80 = .ok (.ishr, 1) := by decide +kernel
theorem dX0_passNight_81 : decode cX0_passNight 81 = .ok (.iconst 1, 1) := by decide +kernel
theorem dX0_passNight_82 : decode cX0_passNight 82 = .ok (.iand, 1) := by decide +kernel
theorem dX0_passNight_83 : decode cX0_passNight 83 = .ok (.ifCond .eq 7, 3) := by decide +kernel
theorem dX0_passNight_86 : decode cX0_passNight 86 = .ok (.iconst 1, 1) := by decide +kernel
theorem dX0_passNight_87 : decode cX0_passNight 87 = .ok (.goto 5, 3) := by decide +kernel
theorem dX0_passNight_90 : decode cX0_passNight 90 = .ok (.iload 4, 2) := by decide +kernel
theorem dX0_passNight_92 : decode cX0_passNight 92 = .ok (.invokevirtual 83, 3) := by decide +kernel
theorem dX0_passNight_95 : decode cX0_passNight 95 = .ok (.iinc 3 1, 3) := by decide +kernel
theorem dX0_passNight_98 : decode cX0_passNight 98 = .ok (.goto (-64), 3) := by decide +kernel
theorem dX0_passNight_101 : decode cX0_passNight 101 = .ok (.return_, 1) := by decide +kernel
theorem dX0_dream_0 : decode cX0_dream 0 = .ok (.aload_n 0, 1) := by decide +kernel
theorem dX0_dream_1 : decode cX0_dream 1 = .ok (.getfield 9, 3) := by decide +kernel
theorem dX0_dream_4 : decode cX0_dream 4 = .ok (.iload_n 1, 1) := by decide +kernel
theorem dX0_dream_5 : decode cX0_dream 5 = .ok (.iaload, 1) := by decide +kernel
theorem dX0_dream_6 : decode cX0_dream 6 = .ok (.aload_n 0, 1) := by decide +kernel
theorem dX0_dream_7 : decode cX0_dream 7 = .ok (.getfield 15, 3) := by decide +kernel
theorem dX0_dream_10 : decode cX0_dream 10 = .ok (.iload_n 1, 1) := by decide +kernel
theorem dX0_dream_11 : decode cX0_dream 11 = .ok (.iaload, 1) := by decide +kernel
theorem dX0_dream_12 : decode cX0_dream 12 = .ok (.aload_n 0, 1) := by decide +kernel
theorem dX0_dream_13 : decode cX0_dream 13 = .ok (.getfield 18, 3) := by decide +kernel
theorem dX0_dream_16 : decode cX0_dream 16 = .ok (.iload_n 1, 1) := by decide +kernel
theorem dX0_dream_17 : decode cX0_dream 17 = .ok (.iaload, 1) := by decide +kernel
theorem dX0_dream_18 : decode cX0_dream 18 = .ok (.aload_n 0, 1) := by decide +kernel
theorem dX0_dream_19 : decode cX0_dream 19 = .ok (.getfield 21, 3) := by decide +kernel
theorem dX0_dream_22 : decode cX0_dream 22 = .ok (.iload_n 1, 1) := by decide +kernel
theorem dX0_dream_23 : decode cX0_dream 23 = .ok (.iaload, 1) := by decide +kernel
theorem dX0_dream_24 : decode cX0_dream 24 = .ok (.iload_n 2, 1) := by decide +kernel
theorem dX0_dream_25 : decode cX0_dream 25 = .ok (.invokestatic 86, 3) := by decide +kernel
theorem dX0_dream_28 : decode cX0_dream 28 = .ok (.ireturn, 1) := by decide +kernel
theorem dX0_nextDream_0 : decode cX0_nextDream 0 = .ok (.aload_n 0, 1) := by decide +kernel
theorem dX0_nextDream_1 : decode cX0_nextDream 1 = .ok (.iload_n 1, 1) := by decide +kernel
theorem dX0_nextDream_2 : decode cX0_nextDream 2 = .ok (.invokevirtual 76, 3) := by decide +kernel
theorem dX0_nextDream_5 : decode cX0_nextDream 5 = .ok (.ifCond .eq 17, 3) := by decide +kernel
theorem dX0_nextDream_8 : decode cX0_nextDream 8 = .ok (.aload_n 0, 1) := by decide +kernel
theorem dX0_nextDream_9 : decode cX0_nextDream 9 = .ok (.iload_n 1, 1) := by decide +kernel
theorem dX0_nextDream_10 : decode cX0_nextDream 10 = .ok (.aload_n 0, 1) := by decide +kernel
theorem dX0_nextDream_11 : decode cX0_nextDream 11 = .ok (.getfield 43, 3) := by decide +kernel
theorem dX0_nextDream_14 : decode cX0_nextDream 14 = .ok (.iconst 1, 1) := by decide +kernel
theorem dX0_nextDream_15 : decode cX0_nextDream 15 = .ok (.iadd, 1) := by decide +kernel
theorem dX0_nextDream_16 : decode cX0_nextDream 16 = .ok (.invokevirtual 80, 3) := by decide +kernel
theorem dX0_nextDream_19 : decode cX0_nextDream 19 = .ok (.goto 5, 3) := by decide +kernel
theorem dX0_nextDream_22 : decode cX0_nextDream 22 = .ok (.bipush (-4), 2) := by decide +kernel
theorem dX0_nextDream_24 : decode cX0_nextDream 24 = .ok (.ireturn, 1) := by decide +kernel
theorem dX0_breakfast_0 : decode cX0_breakfast 0 = .ok (.aload_n 0, 1) := by decide +kernel
theorem dX0_breakfast_1 : decode cX0_breakfast 1 = .ok (.getfield 9, 3) := by decide +kernel
theorem dX0_breakfast_4 : decode cX0_breakfast 4 = .ok (.iload_n 1, 1) := by decide +kernel
theorem dX0_breakfast_5 : decode cX0_breakfast 5 = .ok (.iaload, 1) := by decide +kernel
theorem dX0_breakfast_6 : decode cX0_breakfast 6 = .ok (.invokestatic 91, 3) := by decide +kernel
theorem dX0_breakfast_9 : decode cX0_breakfast 9 = .ok (.istore_n 3, 1) := by decide +kernel
theorem dX0_breakfast_10 : decode cX0_breakfast 10 = .ok (.iload_n 2, 1) := by decide +kernel
theorem dX0_breakfast_11 : decode cX0_breakfast 11 = .ok (.bipush (-4), 2) := by decide +kernel
theorem dX0_breakfast_13 : decode cX0_breakfast 13 = .ok (.if_icmp .ne 13, 3) := by decide +kernel
theorem dX0_breakfast_16 : decode cX0_breakfast 16 = .ok (.aload_n 0, 1) := by decide +kernel
theorem dX0_breakfast_17 : decode cX0_breakfast 17 = .ok (.iload_n 1, 1) := by decide +kernel
theorem dX0_breakfast_18 : decode cX0_breakfast 18 = .ok (.bipush (-5), 2) := by decide +kernel
theorem dX0_breakfast_20 : decode cX0_breakfast 20 = .ok (.invokevirtual 95, 3) := by decide +kernel
theorem dX0_breakfast_23 : decode cX0_breakfast 23 = .ok (.goto 123, 3) := by decide +kernel
theorem dX0_breakfast_26 : decode cX0_breakfast 26 = .ok (.aload_n 0, 1) := by decide +kernel
theorem dX0_breakfast_27 : decode cX0_breakfast 27 = .ok (.getfield 27, 3) := by decide +kernel
theorem dX0_breakfast_30 : decode cX0_breakfast 30 = .ok (.iload_n 2, 1) := by decide +kernel
theorem dX0_breakfast_31 : decode cX0_breakfast 31 = .ok (.iaload, 1) := by decide +kernel
theorem dX0_breakfast_32 : decode cX0_breakfast 32 = .ok (.iload_n 3, 1) := by decide +kernel
theorem dX0_breakfast_33 : decode cX0_breakfast 33 = .ok (.if_icmp .lt 78, 3) := by decide +kernel
theorem dX0_breakfast_36 : decode cX0_breakfast 36 = .ok (.aload_n 0, 1) := by decide +kernel
theorem dX0_breakfast_37 : decode cX0_breakfast 37 = .ok (.getfield 27, 3) := by decide +kernel
theorem dX0_breakfast_40 : decode cX0_breakfast 40 = .ok (.iload_n 2, 1) := by decide +kernel
theorem dX0_breakfast_41 : decode cX0_breakfast 41 = .ok (.dup2, 1) := by decide +kernel
theorem dX0_breakfast_42 : decode cX0_breakfast 42 = .ok (.iaload, 1) := by decide +kernel
theorem dX0_breakfast_43 : decode cX0_breakfast 43 = .ok (.iload_n 3, 1) := by decide +kernel
theorem dX0_breakfast_44 : decode cX0_breakfast 44 = .ok (.isub, 1) := by decide +kernel
theorem dX0_breakfast_45 : decode cX0_breakfast 45 = .ok (.iastore, 1) := by decide +kernel
theorem dX0_breakfast_46 : decode cX0_breakfast 46 = .ok (.aload_n 0, 1) := by decide +kernel
theorem dX0_breakfast_47 : decode cX0_breakfast 47 = .ok (.iload_n 1, 1) := by decide +kernel
theorem dX0_breakfast_48 : decode cX0_breakfast 48 = .ok (.aload_n 0, 1) := by decide +kernel
theorem dX0_breakfast_49 : decode cX0_breakfast 49 = .ok (.getfield 9, 3) := by decide +kernel
theorem dX0_breakfast_52 : decode cX0_breakfast 52 = .ok (.iload_n 1, 1) := by decide +kernel
theorem dX0_breakfast_53 : decode cX0_breakfast 53 = .ok (.iaload, 1) := by decide +kernel
theorem dX0_breakfast_54 : decode cX0_breakfast 54 = .ok (.aload_n 0, 1) := by decide +kernel
theorem dX0_breakfast_55 : decode cX0_breakfast 55 = .ok (.getfield 15, 3) := by decide +kernel
theorem dX0_breakfast_58 : decode cX0_breakfast 58 = .ok (.iload_n 1, 1) := by decide +kernel
theorem dX0_breakfast_59 : decode cX0_breakfast 59 = .ok (.iaload, 1) := by decide +kernel
theorem dX0_breakfast_60 : decode cX0_breakfast 60 = .ok (.iload_n 2, 1) := by decide +kernel
theorem dX0_breakfast_61 : decode cX0_breakfast 61 = .ok (.aload_n 0, 1) := by decide +kernel
theorem dX0_breakfast_62 : decode cX0_breakfast 62 = .ok (.getfield 21, 3) := by decide +kernel
theorem dX0_breakfast_65 : decode cX0_breakfast 65 = .ok (.iload_n 1, 1) := by decide +kernel
theorem dX0_breakfast_66 : decode cX0_breakfast 66 = .ok (.iaload, 1) := by decide +kernel
theorem dX0_breakfast_67 : decode cX0_breakfast 67 = .ok (.invokestatic 98, 3) := by decide +kernel
theorem dX0_breakfast_70 : decode cX0_breakfast 70 = .ok (.invokevirtual 95, 3) := by decide +kernel
theorem dX0_breakfast_73 : decode cX0_breakfast 73 = .ok (.aload_n 0, 1) := by decide +kernel
theorem dX0_breakfast_74 : decode cX0_breakfast 74 = .ok (.getfield 21, 3) := by decide +kernel
theorem dX0_breakfast_77 : decode cX0_breakfast 77 = .ok (.iload_n 1, 1) := by decide +kernel
theorem dX0_breakfast_78 : decode cX0_breakfast 78 = .ok (.iload_n 2, 1) := by decide +kernel
theorem dX0_breakfast_79 : decode cX0_breakfast 79 = .ok (.iastore, 1) := by decide +kernel
theorem dX0_breakfast_80 : decode cX0_breakfast 80 = .ok (.aload_n 0, 1) := by decide +kernel
theorem dX0_breakfast_81 : decode cX0_breakfast 81 = .ok (.sipush 9999, 3) := by decide +kernel
theorem dX0_breakfast_84 : decode cX0_breakfast 84 = .ok (.aload_n 0, 1) := by decide +kernel
theorem dX0_breakfast_85 : decode cX0_breakfast 85 = .ok (.getfield 46, 3) := by decide +kernel
theorem dX0_breakfast_88 : decode cX0_breakfast 88 = .ok (.iconst 1, 1) := by decide +kernel
theorem dX0_breakfast_89 : decode cX0_breakfast 89 = .ok (.iadd, 1) := by decide +kernel
theorem dX0_breakfast_90 : decode cX0_breakfast 90 = .ok (.invokestatic 62, 3) := by decide +kernel
theorem dX0_breakfast_93 : decode cX0_breakfast 93 = .ok (.putfield 46, 3) := by decide +kernel
theorem dX0_breakfast_96 : decode cX0_breakfast 96 = .ok (.aload_n 0, 1) := by decide +kernel
theorem dX0_breakfast_97 : decode cX0_breakfast 97 = .ok (.dup, 1) := by decide +kernel
theorem dX0_breakfast_98 : decode cX0_breakfast 98 = .ok (.getfield 52, 3) := by decide +kernel
theorem dX0_breakfast_101 : decode cX0_breakfast 101 = .ok (.iconst 1, 1) := by decide +kernel
theorem dX0_breakfast_102 : decode cX0_breakfast 102 = .ok (.iload_n 1, 1) := by decide +kernel
theorem dX0_breakfast_103 : decode cX0_breakfast 103 = .ok (.ishl, 1) := by decide +kernel
theorem dX0_breakfast_104 : decode cX0_breakfast 104 = .ok (.ior, 1) := by decide +kernel
theorem dX0_breakfast_105 : decode cX0_breakfast 105 = .ok (.putfield 52, 3) := by decide +kernel
theorem dX0_breakfast_108 : decode cX0_breakfast 108 = .ok (.goto 38, 3) := by decide +kernel
theorem dX0_breakfast_111 : decode cX0_breakfast 111 = .ok (.aload_n 0, 1) := by decide +kernel
theorem dX0_breakfast_112 : decode cX0_breakfast 112 = .ok (.iload_n 1, 1) := by decide +kernel
theorem dX0_breakfast_113 : decode cX0_breakfast 113 = .ok (.bipush (-3), 2) := by decide +kernel
theorem dX0_breakfast_115 : decode cX0_breakfast 115 = .ok (.invokevirtual 95, 3) := by decide +kernel
theorem dX0_breakfast_118 : decode cX0_breakfast 118 = .ok (.aload_n 0, 1) := by decide +kernel
theorem dX0_breakfast_119 : decode cX0_breakfast 119 = .ok (.sipush 9999, 3) := by decide +kernel
theorem dX0_breakfast_122 : decode cX0_breakfast 122 = .ok (.aload_n 0, 1) := by decide +kernel
theorem dX0_breakfast_123 : decode cX0_breakfast 123 = .ok (.getfield 49, 3) := by decide +kernel
theorem dX0_breakfast_126 : decode cX0_breakfast 126 = .ok (.iconst 1, 1) := by decide +kernel
theorem dX0_breakfast_127 : decode cX0_breakfast 127 = .ok (.iadd, 1) := by decide +kernel
theorem dX0_breakfast_128 : decode cX0_breakfast 128 = .ok (.invokestatic 62, 3) := by decide +kernel
theorem dX0_breakfast_131 : decode cX0_breakfast 131 = .ok (.putfield 49, 3) := by decide +kernel
theorem dX0_breakfast_134 : decode cX0_breakfast 134 = .ok (.aload_n 0, 1) := by decide +kernel
theorem dX0_breakfast_135 : decode cX0_breakfast 135 = .ok (.dup, 1) := by decide +kernel
theorem dX0_breakfast_136 : decode cX0_breakfast 136 = .ok (.getfield 55, 3) := by decide +kernel
theorem dX0_breakfast_139 : decode cX0_breakfast 139 = .ok (.iconst 1, 1) := by decide +kernel
theorem dX0_breakfast_140 : decode cX0_breakfast 140 = .ok (.iload_n 1, 1) := by decide +kernel
theorem dX0_breakfast_141 : decode cX0_breakfast 141 = .ok (.ishl, 1) := by decide +kernel
theorem dX0_breakfast_142 : decode cX0_breakfast 142 = .ok (.ior, 1) := by decide +kernel
theorem dX0_breakfast_143 : decode cX0_breakfast 143 = .ok (.putfield 55, 3) := by decide +kernel
theorem dX0_breakfast_146 : decode cX0_breakfast 146 = .ok (.return_, 1) := by decide +kernel
theorem dX0_changeHealth_0 : decode cX0_changeHealth 0 = .ok (.aload_n 0, 1) := by decide +kernel
theorem dX0_changeHealth_1 : decode cX0_changeHealth 1 = .ok (.getfield 24, 3) := by decide +kernel
theorem dX0_changeHealth_4 : decode cX0_changeHealth 4 = .ok (.iload_n 1, 1) := by decide +kernel
theorem dX0_changeHealth_5 : decode cX0_changeHealth 5 = .ok (.iconst 0, 1) := by decide +kernel
theorem dX0_changeHealth_6 : decode cX0_changeHealth 6 = .ok (.bipush 99, 2) := by decide +kernel
theorem dX0_changeHealth_8 : decode cX0_changeHealth 8 = .ok (.aload_n 0, 1) := by decide +kernel
theorem dX0_changeHealth_9 : decode cX0_changeHealth 9 = .ok (.getfield 24, 3) := by decide +kernel
theorem dX0_changeHealth_12 : decode cX0_changeHealth 12 = .ok (.iload_n 1, 1) := by decide +kernel
theorem dX0_changeHealth_13 : decode cX0_changeHealth 13 = .ok (.iaload, 1) := by decide +kernel
theorem dX0_changeHealth_14 : decode cX0_changeHealth 14 = .ok (.iload_n 2, 1) := by decide +kernel
theorem dX0_changeHealth_15 : decode cX0_changeHealth 15 = .ok (.iadd, 1) := by decide +kernel
theorem dX0_changeHealth_16 : decode cX0_changeHealth 16 = .ok (.invokestatic 62, 3) := by decide +kernel
theorem dX0_changeHealth_19 : decode cX0_changeHealth 19 = .ok (.invokestatic 102, 3) := by decide +kernel
theorem dX0_changeHealth_22 : decode cX0_changeHealth 22 = .ok (.iastore, 1) := by decide +kernel
theorem dX0_changeHealth_23 : decode cX0_changeHealth 23 = .ok (.aload_n 0, 1) := by decide +kernel
theorem dX0_changeHealth_24 : decode cX0_changeHealth 24 = .ok (.getfield 24, 3) := by decide +kernel
theorem dX0_changeHealth_27 : decode cX0_changeHealth 27 = .ok (.iload_n 1, 1) := by decide +kernel
theorem dX0_changeHealth_28 : decode cX0_changeHealth 28 = .ok (.iaload, 1) := by decide +kernel
theorem dX0_changeHealth_29 : decode cX0_changeHealth 29 = .ok (.ifCond .ne 17, 3) := by decide +kernel
theorem dX0_changeHealth_32 : decode cX0_changeHealth 32 = .ok (.aload_n 0, 1) := by decide +kernel
theorem dX0_changeHealth_33 : decode cX0_changeHealth 33 = .ok (.dup, 1) := by decide +kernel
theorem dX0_changeHealth_34 : decode cX0_changeHealth 34 = .ok (.getfield 40, 3) := by decide +kernel
theorem dX0_changeHealth_37 : decode cX0_changeHealth 37 = .ok (.iconst 1, 1) := by decide +kernel
theorem dX0_changeHealth_38 : decode cX0_changeHealth 38 = .ok (.iload_n 1, 1) := by decide +kernel
theorem dX0_changeHealth_39 : decode cX0_changeHealth 39 = .ok (.ishl, 1) := by decide +kernel
theorem dX0_changeHealth_40 : decode cX0_changeHealth 40 = .ok (.iconst (-1), 1) := by decide +kernel
theorem dX0_changeHealth_41 : decode cX0_changeHealth 41 = .ok (.ixor, 1) := by decide +kernel
theorem dX0_changeHealth_42 : decode cX0_changeHealth 42 = .ok (.iand, 1) := by decide +kernel
theorem dX0_changeHealth_43 : decode cX0_changeHealth 43 = .ok (.putfield 40, 3) := by decide +kernel
theorem dX0_changeHealth_46 : decode cX0_changeHealth 46 = .ok (.return_, 1) := by decide +kernel
theorem dX0_healthOf_0 : decode cX0_healthOf 0 = .ok (.iconst 0, 1) := by decide +kernel
theorem dX0_healthOf_1 : decode cX0_healthOf 1 = .ok (.istore_n 2, 1) := by decide +kernel
theorem dX0_healthOf_2 : decode cX0_healthOf 2 = .ok (.iconst 0, 1) := by decide +kernel
theorem dX0_healthOf_3 : decode cX0_healthOf 3 = .ok (.istore_n 3, 1) := by decide +kernel
theorem dX0_healthOf_4 : decode cX0_healthOf 4 = .ok (.iload_n 3, 1) := by decide +kernel
theorem dX0_healthOf_5 : decode cX0_healthOf 5 = .ok (.aload_n 0, 1) := by decide +kernel
theorem dX0_healthOf_6 : decode cX0_healthOf 6 = .ok (.getfield 36, 3) := by decide +kernel
theorem dX0_healthOf_9 : decode cX0_healthOf 9 = .ok (.if_icmp .ge 30, 3) := by decide +kernel
theorem dX0_healthOf_12 : decode cX0_healthOf 12 = .ok (.iload_n 2, 1) := by decide +kernel
theorem dX0_healthOf_13 : decode cX0_healthOf 13 = .ok (.iload_n 1, 1) := by decide +kernel
theorem dX0_healthOf_14 : decode cX0_healthOf 14 = .ok (.iload_n 3, 1) := by decide +kernel
theorem dX0_healthOf_15 : decode cX0_healthOf 15 = .ok (.ishr, 1) := by decide +kernel
theorem dX0_healthOf_16 : decode cX0_healthOf 16 = .ok (.iconst 1, 1) := by decide +kernel
theorem dX0_healthOf_17 : decode cX0_healthOf 17 = .ok (.iand, 1) := by decide +kernel
theorem dX0_healthOf_18 : decode cX0_healthOf 18 = .ok (.ifCond .eq 12, 3) := by decide +kernel
theorem dX0_healthOf_21 : decode cX0_healthOf 21 = .ok (.aload_n 0, 1) := by decide +kernel
theorem dX0_healthOf_22 : decode cX0_healthOf 22 = .ok (.getfield 24, 3) := by decide +kernel
theorem dX0_healthOf_25 : decode cX0_healthOf 25 = .ok (.iload_n 3, 1) := by decide +kernel
theorem dX0_healthOf_26 : decode cX0_healthOf 26 = .ok (.iaload, 1) := by decide +kernel
theorem dX0_healthOf_27 : decode cX0_healthOf 27 = .ok (.goto 4, 3) := by decide +kernel
theorem dX0_healthOf_30 : decode cX0_healthOf 30 = .ok (.iconst 0, 1) := by decide +kernel
theorem dX0_healthOf_31 : decode cX0_healthOf 31 = .ok (.iadd, 1) := by decide +kernel
theorem dX0_healthOf_32 : decode cX0_healthOf 32 = .ok (.istore_n 2, 1) := by decide +kernel
theorem dX0_healthOf_33 : decode cX0_healthOf 33 = .ok (.iinc 3 1, 3) := by decide +kernel
theorem dX0_healthOf_36 : decode cX0_healthOf 36 = .ok (.goto (-32), 3) := by decide +kernel
theorem dX0_healthOf_39 : decode cX0_healthOf 39 = .ok (.iload_n 2, 1) := by decide +kernel
theorem dX0_healthOf_40 : decode cX0_healthOf 40 = .ok (.ireturn, 1) := by decide +kernel
theorem dX0_twosOfOneDream_0 : decode cX0_twosOfOneDream 0 = .ok (.iconst 0, 1) := by decide +kernel
theorem dX0_twosOfOneDream_1 : decode cX0_twosOfOneDream 1 = .ok (.istore_n 1, 1) := by decide +kernel
theorem dX0_twosOfOneDream_2 : decode cX0_twosOfOneDream 2 = .ok (.iconst 0, 1) := by decide +kernel
theorem dX0_twosOfOneDream_3 : decode cX0_twosOfOneDream 3 = .ok (.istore_n 2, 1) := by decide +kernel
theorem dX0_twosOfOneDream_4 : decode cX0_twosOfOneDream 4 = .ok (.iload_n 2, 1) := by decide +kernel
theorem dX0_twosOfOneDream_5 : decode cX0_twosOfOneDream 5 = .ok (.aload_n 0, 1) := by decide +kernel
theorem dX0_twosOfOneDream_6 : decode cX0_twosOfOneDream 6 = .ok (.getfield 36, 3) := by decide +kernel
theorem dX0_twosOfOneDream_9 : decode cX0_twosOfOneDream 9 = .ok (.if_icmp .ge 54, 3) := by decide +kernel
theorem dX0_twosOfOneDream_12 : decode cX0_twosOfOneDream 12 = .ok (.iconst 0, 1) := by decide +kernel
theorem dX0_twosOfOneDream_13 : decode cX0_twosOfOneDream 13 = .ok (.istore_n 3, 1) := by decide +kernel
theorem dX0_twosOfOneDream_14 : decode cX0_twosOfOneDream 14 = .ok (.iload_n 3, 1) := by decide +kernel
theorem dX0_twosOfOneDream_15 : decode cX0_twosOfOneDream 15 = .ok (.iload_n 2, 1) := by decide +kernel
theorem dX0_twosOfOneDream_16 : decode cX0_twosOfOneDream 16 = .ok (.if_icmp .ge 41, 3) := by decide +kernel
theorem dX0_twosOfOneDream_19 : decode cX0_twosOfOneDream 19 = .ok (.aload_n 0, 1) := by decide +kernel
theorem dX0_twosOfOneDream_20 : decode cX0_twosOfOneDream 20 = .ok (.iload_n 2, 1) := by decide +kernel
theorem dX0_twosOfOneDream_21 : decode cX0_twosOfOneDream 21 = .ok (.invokevirtual 105, 3) := by decide +kernel
theorem dX0_twosOfOneDream_24 : decode cX0_twosOfOneDream 24 = .ok (.istore 4, 2) := by decide +kernel
theorem dX0_twosOfOneDream_26 : decode cX0_twosOfOneDream 26 = .ok (.iload_n 1, 1) := by decide +kernel
theorem dX0_twosOfOneDream_27 : decode cX0_twosOfOneDream 27 = .ok (.iload 4, 2) := by decide +kernel
theorem dX0_twosOfOneDream_29 : decode cX0_twosOfOneDream 29 = .ok (.bipush (-4), 2) := by decide +kernel
theorem dX0_twosOfOneDream_31 : decode cX0_twosOfOneDream 31 = .ok (.if_icmp .eq 17, 3) := by decide +kernel
theorem dX0_twosOfOneDream_34 : decode cX0_twosOfOneDream 34 = .ok (.iload 4, 2) := by decide +kernel
theorem dX0_twosOfOneDream_36 : decode cX0_twosOfOneDream 36 = .ok (.aload_n 0, 1) := by decide +kernel
theorem dX0_twosOfOneDream_37 : decode cX0_twosOfOneDream 37 = .ok (.iload_n 3, 1) := by decide +kernel
theorem dX0_twosOfOneDream_38 : decode cX0_twosOfOneDream 38 = .ok (.invokevirtual 105, 3) := by decide +kernel
theorem dX0_twosOfOneDream_41 : decode cX0_twosOfOneDream 41 = .ok (.if_icmp .ne 7, 3) := by decide +kernel
theorem dX0_twosOfOneDream_44 : decode cX0_twosOfOneDream 44 = .ok (.iconst 1, 1) := by decide +kernel
theorem dX0_twosOfOneDream_45 : decode cX0_twosOfOneDream 45 = .ok (.goto 4, 3) := by decide +kernel
theorem dX0_twosOfOneDream_48 : decode cX0_twosOfOneDream 48 = .ok (.iconst 0, 1) := by decide +kernel
theorem dX0_twosOfOneDream_49 : decode cX0_twosOfOneDream 49 = .ok (.iadd, 1) := by decide +kernel
theorem dX0_twosOfOneDream_50 : decode cX0_twosOfOneDream 50 = .ok (.istore_n 1, 1) := by decide +kernel
theorem dX0_twosOfOneDream_51 : decode cX0_twosOfOneDream 51 = .ok (.iinc 3 1, 3) := by decide +kernel
theorem dX0_twosOfOneDream_54 : decode cX0_twosOfOneDream 54 = .ok (.goto (-40), 3) := by decide +kernel
theorem dX0_twosOfOneDream_57 : decode cX0_twosOfOneDream 57 = .ok (.iinc 2 1, 3) := by decide +kernel
theorem dX0_twosOfOneDream_60 : decode cX0_twosOfOneDream 60 = .ok (.goto (-56), 3) := by decide +kernel
theorem dX0_twosOfOneDream_63 : decode cX0_twosOfOneDream 63 = .ok (.iload_n 1, 1) := by decide +kernel
theorem dX0_twosOfOneDream_64 : decode cX0_twosOfOneDream 64 = .ok (.ireturn, 1) := by decide +kernel
theorem dX0_wellest_0 : decode cX0_wellest 0 = .ok (.bipush (-4), 2) := by decide +kernel
theorem dX0_wellest_2 : decode cX0_wellest 2 = .ok (.istore_n 1, 1) := by decide +kernel
theorem dX0_wellest_3 : decode cX0_wellest 3 = .ok (.iconst (-1), 1) := by decide +kernel
theorem dX0_wellest_4 : decode cX0_wellest 4 = .ok (.istore_n 2, 1) := by decide +kernel
theorem dX0_wellest_5 : decode cX0_wellest 5 = .ok (.iconst 0, 1) := by decide +kernel
theorem dX0_wellest_6 : decode cX0_wellest 6 = .ok (.istore_n 3, 1) := by decide +kernel
theorem dX0_wellest_7 : decode cX0_wellest 7 = .ok (.iload_n 3, 1) := by decide +kernel
theorem dX0_wellest_8 : decode cX0_wellest 8 = .ok (.aload_n 0, 1) := by decide +kernel
theorem dX0_wellest_9 : decode cX0_wellest 9 = .ok (.getfield 36, 3) := by decide +kernel
theorem dX0_wellest_12 : decode cX0_wellest 12 = .ok (.if_icmp .ge 36, 3) := by decide +kernel
theorem dX0_wellest_15 : decode cX0_wellest 15 = .ok (.aload_n 0, 1) := by decide +kernel
theorem dX0_wellest_16 : decode cX0_wellest 16 = .ok (.iload_n 3, 1) := by decide +kernel
theorem dX0_wellest_17 : decode cX0_wellest 17 = .ok (.invokevirtual 76, 3) := by decide +kernel
theorem dX0_wellest_20 : decode cX0_wellest 20 = .ok (.ifCond .eq 22, 3) := by decide +kernel
theorem dX0_wellest_23 : decode cX0_wellest 23 = .ok (.aload_n 0, 1) := by decide +kernel
theorem dX0_wellest_24 : decode cX0_wellest 24 = .ok (.getfield 24, 3) := by decide +kernel
theorem dX0_wellest_27 : decode cX0_wellest 27 = .ok (.iload_n 3, 1) := by decide +kernel
theorem dX0_wellest_28 : decode cX0_wellest 28 = .ok (.iaload, 1) := by decide +kernel
theorem dX0_wellest_29 : decode cX0_wellest 29 = .ok (.iload_n 2, 1) := by decide +kernel
theorem dX0_wellest_30 : decode cX0_wellest 30 = .ok (.if_icmp .le 12, 3) := by decide +kernel
theorem dX0_wellest_33 : decode cX0_wellest 33 = .ok (.aload_n 0, 1) := by decide +kernel
theorem dX0_wellest_34 : decode cX0_wellest 34 = .ok (.getfield 24, 3) := by decide +kernel
theorem dX0_wellest_37 : decode cX0_wellest 37 = .ok (.iload_n 3, 1) := by decide +kernel
theorem dX0_wellest_38 : decode cX0_wellest 38 = .ok (.iaload, 1) := by decide +kernel
theorem dX0_wellest_39 : decode cX0_wellest 39 = .ok (.istore_n 2, 1) := by decide +kernel
theorem dX0_wellest_40 : decode cX0_wellest 40 = .ok (.iload_n 3, 1) := by decide +kernel
theorem dX0_wellest_41 : decode cX0_wellest 41 = .ok (.istore_n 1, 1) := by decide +kernel
theorem dX0_wellest_42 : decode cX0_wellest 42 = .ok (.iinc 3 1, 3) := by decide +kernel
theorem dX0_wellest_45 : decode cX0_wellest 45 = .ok (.goto (-38), 3) := by decide +kernel
theorem dX0_wellest_48 : decode cX0_wellest 48 = .ok (.iload_n 1, 1) := by decide +kernel
theorem dX0_wellest_49 : decode cX0_wellest 49 = .ok (.ireturn, 1) := by decide +kernel
theorem dX0_fullest_0 : decode cX0_fullest 0 = .ok (.iconst 0, 1) := by decide +kernel
theorem dX0_fullest_1 : decode cX0_fullest 1 = .ok (.istore_n 1, 1) := by decide +kernel
theorem dX0_fullest_2 : decode cX0_fullest 2 = .ok (.iconst 1, 1) := by decide +kernel
theorem dX0_fullest_3 : decode cX0_fullest 3 = .ok (.istore_n 2, 1) := by decide +kernel
theorem dX0_fullest_4 : decode cX0_fullest 4 = .ok (.iload_n 2, 1) := by decide +kernel
theorem dX0_fullest_5 : decode cX0_fullest 5 = .ok (.bipush 10, 2) := by decide +kernel
theorem dX0_fullest_7 : decode cX0_fullest 7 = .ok (.if_icmp .ge 26, 3) := by decide +kernel
theorem dX0_fullest_10 : decode cX0_fullest 10 = .ok (.aload_n 0, 1) := by decide +kernel
theorem dX0_fullest_11 : decode cX0_fullest 11 = .ok (.getfield 27, 3) := by decide +kernel
theorem dX0_fullest_14 : decode cX0_fullest 14 = .ok (.iload_n 2, 1) := by decide +kernel
theorem dX0_fullest_15 : decode cX0_fullest 15 = .ok (.iaload, 1) := by decide +kernel
theorem dX0_fullest_16 : decode cX0_fullest 16 = .ok (.aload_n 0, 1) := by decide +kernel
theorem dX0_fullest_17 : decode cX0_fullest 17 = .ok (.getfield 27, 3) := by decide +kernel
theorem dX0_fullest_20 : decode cX0_fullest 20 = .ok (.iload_n 1, 1) := by decide +kernel
theorem dX0_fullest_21 : decode cX0_fullest 21 = .ok (.iaload, 1) := by decide +kernel
theorem dX0_fullest_22 : decode cX0_fullest 22 = .ok (.if_icmp .le 5, 3) := by decide +kernel
theorem dX0_fullest_25 : decode cX0_fullest 25 = .ok (.iload_n 2, 1) := by decide +kernel
theorem dX0_fullest_26 : decode cX0_fullest 26 = .ok (.istore_n 1, 1) := by decide +kernel
theorem dX0_fullest_27 : decode cX0_fullest 27 = .ok (.iinc 2 1, 3) := by decide +kernel
theorem dX0_fullest_30 : decode cX0_fullest 30 = .ok (.goto (-26), 3) := by decide +kernel
theorem dX0_fullest_33 : decode cX0_fullest 33 = .ok (.iload_n 1, 1) := by decide +kernel
theorem dX0_fullest_34 : decode cX0_fullest 34 = .ok (.ireturn, 1) := by decide +kernel
theorem dX0_platesInAll_0 : decode cX0_platesInAll 0 = .ok (.iconst 0, 1) := by decide +kernel
theorem dX0_platesInAll_1 : decode cX0_platesInAll 1 = .ok (.istore_n 1, 1) := by decide +kernel
theorem dX0_platesInAll_2 : decode cX0_platesInAll 2 = .ok (.iconst 0, 1) := by decide +kernel
theorem dX0_platesInAll_3 : decode cX0_platesInAll 3 = .ok (.istore_n 2, 1) := by decide +kernel
theorem dX0_platesInAll_4 : decode cX0_platesInAll 4 = .ok (.iload_n 2, 1) := by decide +kernel
theorem dX0_platesInAll_5 : decode cX0_platesInAll 5 = .ok (.bipush 10, 2) := by decide +kernel
theorem dX0_platesInAll_7 : decode cX0_platesInAll 7 = .ok (.if_icmp .ge 18, 3) := by decide +kernel
theorem dX0_platesInAll_10 : decode cX0_platesInAll 10 = .ok (.iload_n 1, 1) := by decide +kernel
theorem dX0_platesInAll_11 : decode cX0_platesInAll 11 = .ok (.aload_n 0, 1) := by decide +kernel
theorem dX0_platesInAll_12 : decode cX0_platesInAll 12 = .ok (.getfield 27, 3) := by decide +kernel
theorem dX0_platesInAll_15 : decode cX0_platesInAll 15 = .ok (.iload_n 2, 1) := by decide +kernel
theorem dX0_platesInAll_16 : decode cX0_platesInAll 16 = .ok (.iaload, 1) := by decide +kernel
theorem dX0_platesInAll_17 : decode cX0_platesInAll 17 = .ok (.iadd, 1) := by decide +kernel
theorem dX0_platesInAll_18 : decode cX0_platesInAll 18 = .ok (.istore_n 1, 1) := by decide +kernel
theorem dX0_platesInAll_19 : decode cX0_platesInAll 19 = .ok (.iinc 2 1, 3) := by decide +kernel
theorem dX0_platesInAll_22 : decode cX0_platesInAll 22 = .ok (.goto (-18), 3) := by decide +kernel
theorem dX0_platesInAll_25 : decode cX0_platesInAll 25 = .ok (.iload_n 1, 1) := by decide +kernel
theorem dX0_platesInAll_26 : decode cX0_platesInAll 26 = .ok (.ireturn, 1) := by decide +kernel
theorem dX0_emptyPlates_0 : decode cX0_emptyPlates 0 = .ok (.iconst 0, 1) := by decide +kernel
theorem dX0_emptyPlates_1 : decode cX0_emptyPlates 1 = .ok (.istore_n 1, 1) := by decide +kernel
theorem dX0_emptyPlates_2 : decode cX0_emptyPlates 2 = .ok (.iconst 0, 1) := by decide +kernel
theorem dX0_emptyPlates_3 : decode cX0_emptyPlates 3 = .ok (.istore_n 2, 1) := by decide +kernel
theorem dX0_emptyPlates_4 : decode cX0_emptyPlates 4 = .ok (.iload_n 2, 1) := by decide +kernel
theorem dX0_emptyPlates_5 : decode cX0_emptyPlates 5 = .ok (.bipush 10, 2) := by decide +kernel
theorem dX0_emptyPlates_7 : decode cX0_emptyPlates 7 = .ok (.if_icmp .ge 28, 3) := by decide +kernel
theorem dX0_emptyPlates_10 : decode cX0_emptyPlates 10 = .ok (.iload_n 1, 1) := by decide +kernel
theorem dX0_emptyPlates_11 : decode cX0_emptyPlates 11 = .ok (.aload_n 0, 1) := by decide +kernel
theorem dX0_emptyPlates_12 : decode cX0_emptyPlates 12 = .ok (.getfield 27, 3) := by decide +kernel
theorem dX0_emptyPlates_15 : decode cX0_emptyPlates 15 = .ok (.iload_n 2, 1) := by decide +kernel
theorem dX0_emptyPlates_16 : decode cX0_emptyPlates 16 = .ok (.iaload, 1) := by decide +kernel
theorem dX0_emptyPlates_17 : decode cX0_emptyPlates 17 = .ok (.ifCond .ne 9, 3) := by decide +kernel
theorem dX0_emptyPlates_20 : decode cX0_emptyPlates 20 = .ok (.iconst 1, 1) := by decide +kernel
theorem dX0_emptyPlates_21 : decode cX0_emptyPlates 21 = .ok (.iload_n 2, 1) := by decide +kernel
theorem dX0_emptyPlates_22 : decode cX0_emptyPlates 22 = .ok (.ishl, 1) := by decide +kernel
theorem dX0_emptyPlates_23 : decode cX0_emptyPlates 23 = .ok (.goto 4, 3) := by decide +kernel
theorem dX0_emptyPlates_26 : decode cX0_emptyPlates 26 = .ok (.iconst 0, 1) := by decide +kernel
theorem dX0_emptyPlates_27 : decode cX0_emptyPlates 27 = .ok (.ior, 1) := by decide +kernel
theorem dX0_emptyPlates_28 : decode cX0_emptyPlates 28 = .ok (.istore_n 1, 1) := by decide +kernel
theorem dX0_emptyPlates_29 : decode cX0_emptyPlates 29 = .ok (.iinc 2 1, 3) := by decide +kernel
theorem dX0_emptyPlates_32 : decode cX0_emptyPlates 32 = .ok (.goto (-28), 3) := by decide +kernel
theorem dX0_emptyPlates_35 : decode cX0_emptyPlates 35 = .ok (.iload_n 1, 1) := by decide +kernel
theorem dX0_emptyPlates_36 : decode cX0_emptyPlates 36 = .ok (.ireturn, 1) := by decide +kernel
theorem dX0_platesOf_0 : decode cX0_platesOf 0 = .ok (.iconst 0, 1) := by decide +kernel
theorem dX0_platesOf_1 : decode cX0_platesOf 1 = .ok (.istore_n 2, 1) := by decide +kernel
theorem dX0_platesOf_2 : decode cX0_platesOf 2 = .ok (.iconst 0, 1) := by decide +kernel
theorem dX0_platesOf_3 : decode cX0_platesOf 3 = .ok (.istore_n 3, 1) := by decide +kernel
theorem dX0_platesOf_4 : decode cX0_platesOf 4 = .ok (.iload_n 3, 1) := by decide +kernel
theorem dX0_platesOf_5 : decode cX0_platesOf 5 = .ok (.aload_n 0, 1) := by decide +kernel
theorem dX0_platesOf_6 : decode cX0_platesOf 6 = .ok (.getfield 36, 3) := by decide +kernel
theorem dX0_platesOf_9 : decode cX0_platesOf 9 = .ok (.if_icmp .ge 35, 3) := by decide +kernel
theorem dX0_platesOf_12 : decode cX0_platesOf 12 = .ok (.iload_n 3, 1) := by decide +kernel
theorem dX0_platesOf_13 : decode cX0_platesOf 13 = .ok (.aload_n 1, 1) := by decide +kernel
theorem dX0_platesOf_14 : decode cX0_platesOf 14 = .ok (.arraylength, 1) := by decide +kernel
theorem dX0_platesOf_15 : decode cX0_platesOf 15 = .ok (.if_icmp .ge 29, 3) := by decide +kernel
theorem dX0_platesOf_18 : decode cX0_platesOf 18 = .ok (.iload_n 2, 1) := by decide +kernel
theorem dX0_platesOf_19 : decode cX0_platesOf 19 = .ok (.aload_n 0, 1) := by decide +kernel
theorem dX0_platesOf_20 : decode cX0_platesOf 20 = .ok (.iload_n 3, 1) := by decide +kernel
theorem dX0_platesOf_21 : decode cX0_platesOf 21 = .ok (.invokevirtual 76, 3) := by decide +kernel
theorem dX0_platesOf_24 : decode cX0_platesOf 24 = .ok (.ifCond .eq 11, 3) := by decide +kernel
theorem dX0_platesOf_27 : decode cX0_platesOf 27 = .ok (.iconst 1, 1) := by decide +kernel
theorem dX0_platesOf_28 : decode cX0_platesOf 28 = .ok (.aload_n 1, 1) := by decide +kernel
theorem dX0_platesOf_29 : decode cX0_platesOf 29 = .ok (.iload_n 3, 1) := by decide +kernel
theorem dX0_platesOf_30 : decode cX0_platesOf 30 = .ok (.iaload, 1) := by decide +kernel
theorem dX0_platesOf_31 : decode cX0_platesOf 31 = .ok (.ishl, 1) := by decide +kernel
theorem dX0_platesOf_32 : decode cX0_platesOf 32 = .ok (.goto 4, 3) := by decide +kernel
theorem dX0_platesOf_35 : decode cX0_platesOf 35 = .ok (.iconst 0, 1) := by decide +kernel
theorem dX0_platesOf_36 : decode cX0_platesOf 36 = .ok (.ior, 1) := by decide +kernel
theorem dX0_platesOf_37 : decode cX0_platesOf 37 = .ok (.istore_n 2, 1) := by decide +kernel
theorem dX0_platesOf_38 : decode cX0_platesOf 38 = .ok (.iinc 3 1, 3) := by decide +kernel
theorem dX0_platesOf_41 : decode cX0_platesOf 41 = .ok (.goto (-37), 3) := by decide +kernel
theorem dX0_platesOf_44 : decode cX0_platesOf 44 = .ok (.iload_n 2, 1) := by decide +kernel
theorem dX0_platesOf_45 : decode cX0_platesOf 45 = .ok (.ireturn, 1) := by decide +kernel
