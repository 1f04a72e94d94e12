theorem xX0_init_0 : xdec cX0_init 0 = some (.aload_n 0, 1, 0, 0) := by decide +kernel
theorem xX0_init_1 : xdec cX0_init 1 = some (.invokespecial 3, 4, 0, 0) := by decide +kernel
theorem xX0_init_4 : xdec cX0_init 4 = some (.aload_n 0, 5, 0, 0) := by decide +kernel
theorem xX0_init_5 : xdec cX0_init 5 = some (.bipush 7, 7, 0, 7) := by decide +kernel
theorem xX0_init_7 : xdec cX0_init 7 = some (.newarray .int, 9, 0, 0) := by decide +kernel
theorem xX0_init_9 : xdec cX0_init 9 = some (.putfield 9, 12, 9, 0) := by decide +kernel
theorem xX0_init_12 : xdec cX0_init 12 = some (.aload_n 0, 13, 0, 0) := by decide +kernel
theorem xX0_init_13 : xdec cX0_init 13 = some (.bipush 7, 15, 0, 7) := by decide +kernel
theorem xX0_init_15 : xdec cX0_init 15 = some (.newarray .int, 17, 0, 0) := by decide +kernel
theorem xX0_init_17 : xdec cX0_init 17 = some (.putfield 15, 20, 15, 0) := by decide +kernel
theorem xX0_init_20 : xdec cX0_init 20 = some (.aload_n 0, 21, 0, 0) := by decide +kernel
theorem xX0_init_21 : xdec cX0_init 21 = some (.bipush 7, 23, 0, 7) := by decide +kernel
theorem xX0_init_23 : xdec cX0_init 23 = some (.newarray .int, 25, 0, 0) := by decide +kernel
theorem xX0_init_25 : xdec cX0_init 25 = some (.putfield 18, 28, 18, 0) := by decide +kernel
theorem xX0_init_28 : xdec cX0_init 28 = some (.aload_n 0, 29, 0, 0) := by decide +kernel
theorem xX0_init_29 : xdec cX0_init 29 = some (.bipush 7, 31, 0, 7) := by decide +kernel
theorem xX0_init_31 : xdec cX0_init 31 = some (.newarray .int, 33, 0, 0) := by decide +kernel
theorem xX0_init_33 : xdec cX0_init 33 = some (.putfield 21, 36, 21, 0) := by decide +kernel
theorem xX0_init_36 : xdec cX0_init 36 = some (.aload_n 0, 37, 0, 0) := by decide +kernel
theorem xX0_init_37 : xdec cX0_init 37 = some (.bipush 7, 39, 0, 7) := by decide +kernel
theorem xX0_init_39 : xdec cX0_init 39 = some (.newarray .int, 41, 0, 0) := by decide +kernel
theorem xX0_init_41 : xdec cX0_init 41 = some (.putfield 24, 44, 24, 0) := by decide +kernel
theorem xX0_init_44 : xdec cX0_init 44 = some (.aload_n 0, 45, 0, 0) := by decide +kernel
theorem xX0_init_45 : xdec cX0_init 45 = some (.bipush 10, 47, 0, 10) := by decide +kernel
theorem xX0_init_47 : xdec cX0_init 47 = some (.newarray .int, 49, 0, 0) := by decide +kernel
theorem xX0_init_49 : xdec cX0_init 49 = some (.putfield 27, 52, 27, 0) := by decide +kernel
theorem xX0_init_52 : xdec cX0_init 52 = some (.iconst 0, 53, 0, 0) := by decide +kernel
theorem xX0_init_53 : xdec cX0_init 53 = some (.istore_n 1, 54, 1, 0) := by decide +kernel
theorem xX0_init_54 : xdec cX0_init 54 = some (.iload_n 1, 55, 1, 0) := by decide +kernel
theorem xX0_init_55 : xdec cX0_init 55 = some (.bipush 10, 57, 0, 10) := by decide +kernel
theorem xX0_init_57 : xdec cX0_init 57 = some (.if_icmp .ge 16, 60, 73, 0) := by decide +kernel
theorem xX0_init_60 : xdec cX0_init 60 = some (.aload_n 0, 61, 0, 0) := by decide +kernel
theorem xX0_init_61 : xdec cX0_init 61 = some (.getfield 27, 64, 27, 0) := by decide +kernel
theorem xX0_init_64 : xdec cX0_init 64 = some (.iload_n 1, 65, 1, 0) := by decide +kernel
theorem xX0_init_65 : xdec cX0_init 65 = some (.iconst 5, 66, 0, 5) := by decide +kernel
theorem xX0_init_66 : xdec cX0_init 66 = some (.iastore, 67, 0, 0) := by decide +kernel
theorem xX0_init_67 : xdec cX0_init 67 = some (.iinc 1 1, 70, 1, 1) := by decide +kernel
theorem xX0_init_70 : xdec cX0_init 70 = some (.goto (-16), 73, 54, 0) := by decide +kernel
theorem xX0_init_73 : xdec cX0_init 73 = some (.return_, 74, 0, 0) := by decide +kernel
theorem xX0_become_0 : xdec cX0_become 0 = some (.aload_n 1, 1, 1, 0) := by decide +kernel
theorem xX0_become_1 : xdec cX0_become 1 = some (.getfield 9, 4, 9, 0) := by decide +kernel
theorem xX0_become_4 : xdec cX0_become 4 = some (.iconst 0, 5, 0, 0) := by decide +kernel
theorem xX0_become_5 : xdec cX0_become 5 = some (.aload_n 0, 6, 0, 0) := by decide +kernel
theorem xX0_become_6 : xdec cX0_become 6 = some (.getfield 9, 9, 9, 0) := by decide +kernel
theorem xX0_become_9 : xdec cX0_become 9 = some (.iconst 0, 10, 0, 0) := by decide +kernel
theorem xX0_become_10 : xdec cX0_become 10 = some (.bipush 7, 12, 0, 7) := by decide +kernel
theorem xX0_become_12 : xdec cX0_become 12 = some (.invokestatic 30, 15, 0, 0) := by decide +kernel
theorem xX0_become_15 : xdec cX0_become 15 = some (.aload_n 1, 16, 1, 0) := by decide +kernel
theorem xX0_become_16 : xdec cX0_become 16 = some (.getfield 15, 19, 15, 0) := by decide +kernel
theorem xX0_become_19 : xdec cX0_become 19 = some (.iconst 0, 20, 0, 0) := by decide +kernel
theorem xX0_become_20 : xdec cX0_become 20 = some (.aload_n 0, 21, 0, 0) := by decide +kernel
theorem xX0_become_21 : xdec cX0_become 21 = some (.getfield 15, 24, 15, 0) := by decide +kernel
theorem xX0_become_24 : xdec cX0_become 24 = some (.iconst 0, 25, 0, 0) := by decide +kernel
theorem xX0_become_25 : xdec cX0_become 25 = some (.bipush 7, 27, 0, 7) := by decide +kernel
theorem xX0_become_27 : xdec cX0_become 27 = some (.invokestatic 30, 30, 0, 0) := by decide +kernel
theorem xX0_become_30 : xdec cX0_become 30 = some (.aload_n 1, 31, 1, 0) := by decide +kernel
theorem xX0_become_31 : xdec cX0_become 31 = some (.getfield 18, 34, 18, 0) := by decide +kernel
theorem xX0_become_34 : xdec cX0_become 34 = some (.iconst 0, 35, 0, 0) := by decide +kernel
theorem xX0_become_35 : xdec cX0_become 35 = some (.aload_n 0, 36, 0, 0) := by decide +kernel
theorem xX0_become_36 : xdec cX0_become 36 = some (.getfield 18, 39, 18, 0) := by decide +kernel
theorem xX0_become_39 : xdec cX0_become 39 = some (.iconst 0, 40, 0, 0) := by decide +kernel
theorem xX0_become_40 : xdec cX0_become 40 = some (.bipush 7, 42, 0, 7) := by decide +kernel
theorem xX0_become_42 : xdec cX0_become 42 = some (.invokestatic 30, 45, 0, 0) := by decide +kernel
theorem xX0_become_45 : xdec cX0_become 45 = some (.aload_n 1, 46, 1, 0) := by decide +kernel
theorem xX0_become_46 : xdec cX0_become 46 = some (.getfield 21, 49, 21, 0) := by decide +kernel
theorem xX0_become_49 : xdec cX0_become 49 = some (.iconst 0, 50, 0, 0) := by decide +kernel
theorem xX0_become_50 : xdec cX0_become 50 = some (.aload_n 0, 51, 0, 0) := by decide +kernel
theorem xX0_become_51 : xdec cX0_become 51 = some (.getfield 21, 54, 21, 0) := by decide +kernel
theorem xX0_become_54 : xdec cX0_become 54 = some (.iconst 0, 55, 0, 0) := by decide +kernel
theorem xX0_become_55 : xdec cX0_become 55 = some (.bipush 7, 57, 0, 7) := by decide +kernel
theorem xX0_become_57 : xdec cX0_become 57 = some (.invokestatic 30, 60, 0, 0) := by decide +kernel
theorem xX0_become_60 : xdec cX0_become 60 = some (.aload_n 1, 61, 1, 0) := by decide +kernel
theorem xX0_become_61 : xdec cX0_become 61 = some (.getfield 24, 64, 24, 0) := by decide +kernel
theorem xX0_become_64 : xdec cX0_become 64 = some (.iconst 0, 65, 0, 0) := by decide +kernel
theorem xX0_become_65 : xdec cX0_become 65 = some (.aload_n 0, 66, 0, 0) := by decide +kernel
theorem xX0_become_66 : xdec cX0_become 66 = some (.getfield 24, 69, 24, 0) := by decide +kernel
theorem xX0_become_69 : xdec cX0_become 69 = some (.iconst 0, 70, 0, 0) := by decide +kernel
theorem xX0_become_70 : xdec cX0_become 70 = some (.bipush 7, 72, 0, 7) := by decide +kernel
theorem xX0_become_72 : xdec cX0_become 72 = some (.invokestatic 30, 75, 0, 0) := by decide +kernel
theorem xX0_become_75 : xdec cX0_become 75 = some (.aload_n 1, 76, 1, 0) := by decide +kernel
theorem xX0_become_76 : xdec cX0_become 76 = some (.getfield 27, 79, 27, 0) := by decide +kernel
theorem xX0_become_79 : xdec cX0_become 79 = some (.iconst 0, 80, 0, 0) := by decide +kernel
theorem xX0_become_80 : xdec cX0_become 80 = some (.aload_n 0, 81, 0, 0) := by decide +kernel
theorem xX0_become_81 : xdec cX0_become 81 = some (.getfield 27, 84, 27, 0) := by decide +kernel
theorem xX0_become_84 : xdec cX0_become 84 = some (.iconst 0, 85, 0, 0) := by decide +kernel
theorem xX0_become_85 : xdec cX0_become 85 = some (.bipush 10, 87, 0, 10) := by decide +kernel
theorem xX0_become_87 : xdec cX0_become 87 = some (.invokestatic 30, 90, 0, 0) := by decide +kernel
theorem xX0_become_90 : xdec cX0_become 90 = some (.aload_n 0, 91, 0, 0) := by decide +kernel
theorem xX0_become_91 : xdec cX0_become 91 = some (.aload_n 1, 92, 1, 0) := by decide +kernel
theorem xX0_become_92 : xdec cX0_become 92 = some (.getfield 36, 95, 36, 0) := by decide +kernel
theorem xX0_become_95 : xdec cX0_become 95 = some (.putfield 36, 98, 36, 0) := by decide +kernel
theorem xX0_become_98 : xdec cX0_become 98 = some (.aload_n 0, 99, 0, 0) := by decide +kernel
theorem xX0_become_99 : xdec cX0_become 99 = some (.aload_n 1, 100, 1, 0) := by decide +kernel
theorem xX0_become_100 : xdec cX0_become 100 = some (.getfield 40, 103, 40, 0) := by decide +kernel
theorem xX0_become_103 : xdec cX0_become 103 = some (.putfield 40, 106, 40, 0) := by decide +kernel
theorem xX0_become_106 : xdec cX0_become 106 = some (.aload_n 0, 107, 0, 0) := by decide +kernel
theorem xX0_become_107 : xdec cX0_become 107 = some (.aload_n 1, 108, 1, 0) := by decide +kernel
theorem xX0_become_108 : xdec cX0_become 108 = some (.getfield 43, 111, 43, 0) := by decide +kernel
theorem xX0_become_111 : xdec cX0_become 111 = some (.putfield 43, 114, 43, 0) := by decide +kernel
theorem xX0_become_114 : xdec cX0_become 114 = some (.aload_n 0, 115, 0, 0) := by decide +kernel
theorem xX0_become_115 : xdec cX0_become 115 = some (.aload_n 1, 116, 1, 0) := by decide +kernel
theorem xX0_become_116 : xdec cX0_become 116 = some (.getfield 46, 119, 46, 0) := by decide +kernel
theorem xX0_become_119 : xdec cX0_become 119 = some (.putfield 46, 122, 46, 0) := by decide +kernel
theorem xX0_become_122 : xdec cX0_become 122 = some (.aload_n 0, 123, 0, 0) := by decide +kernel
theorem xX0_become_123 : xdec cX0_become 123 = some (.aload_n 1, 124, 1, 0) := by decide +kernel
theorem xX0_become_124 : xdec cX0_become 124 = some (.getfield 49, 127, 49, 0) := by decide +kernel
theorem xX0_become_127 : xdec cX0_become 127 = some (.putfield 49, 130, 49, 0) := by decide +kernel
theorem xX0_become_130 : xdec cX0_become 130 = some (.aload_n 0, 131, 0, 0) := by decide +kernel
theorem xX0_become_131 : xdec cX0_become 131 = some (.aload_n 1, 132, 1, 0) := by decide +kernel
theorem xX0_become_132 : xdec cX0_become 132 = some (.getfield 52, 135, 52, 0) := by decide +kernel
theorem xX0_become_135 : xdec cX0_become 135 = some (.putfield 52, 138, 52, 0) := by decide +kernel
theorem xX0_become_138 : xdec cX0_become 138 = some (.aload_n 0, 139, 0, 0) := by decide +kernel
theorem xX0_become_139 : xdec cX0_become 139 = some (.aload_n 1, 140, 1, 0) := by decide +kernel
theorem xX0_become_140 : xdec cX0_become 140 = some (.getfield 55, 143, 55, 0) := by decide +kernel
theorem xX0_become_143 : xdec cX0_become 143 = some (.putfield 55, 146, 55, 0) := by decide +kernel
theorem xX0_become_146 : xdec cX0_become 146 = some (.return_, 147, 0, 0) := by decide +kernel
theorem xX0_knows_0 : xdec cX0_knows 0 = some (.iload_n 1, 1, 1, 0) := by decide +kernel
theorem xX0_knows_1 : xdec cX0_knows 1 = some (.iconst 0, 2, 0, 0) := by decide +kernel
theorem xX0_knows_2 : xdec cX0_knows 2 = some (.aload_n 0, 3, 0, 0) := by decide +kernel
theorem xX0_knows_3 : xdec cX0_knows 3 = some (.getfield 36, 6, 36, 0) := by decide +kernel
theorem xX0_knows_6 : xdec cX0_knows 6 = some (.iconst 1, 7, 0, 1) := by decide +kernel
theorem xX0_knows_7 : xdec cX0_knows 7 = some (.isub, 8, 0, 0) := by decide +kernel
theorem xX0_knows_8 : xdec cX0_knows 8 = some (.invokestatic 58, 11, 0, 0) := by decide +kernel
theorem xX0_knows_11 : xdec cX0_knows 11 = some (.ireturn, 12, 0, 0) := by decide +kernel
theorem xX0_isThere_0 : xdec cX0_isThere 0 = some (.aload_n 0, 1, 0, 0) := by decide +kernel
theorem xX0_isThere_1 : xdec cX0_isThere 1 = some (.getfield 40, 4, 40, 0) := by decide +kernel
theorem xX0_isThere_4 : xdec cX0_isThere 4 = some (.iload_n 1, 5, 1, 0) := by decide +kernel
theorem xX0_isThere_5 : xdec cX0_isThere 5 = some (.ishr, 6, 0, 0) := by decide +kernel
theorem xX0_isThere_6 : xdec cX0_isThere 6 = some (.iconst 1, 7, 0, 1) := by decide +kernel
theorem xX0_isThere_7 : xdec cX0_isThere 7 = some (.iand, 8, 0, 0) := by decide +kernel
theorem xX0_isThere_8 : xdec cX0_isThere 8 = some (.ifCond .eq 7, 11, 15, 0) := by decide +kernel
theorem xX0_isThere_11 : xdec cX0_isThere 11 = some (.iconst 1, 12, 0, 1) := by decide +kernel
theorem xX0_isThere_12 : xdec cX0_isThere 12 = some (.goto 4, 15, 16, 0) := by decide +kernel
theorem xX0_isThere_15 : xdec cX0_isThere 15 = some (.iconst 0, 16, 0, 0) := by decide +kernel
theorem xX0_isThere_16 : xdec cX0_isThere 16 = some (.ireturn, 17, 0, 0) := by decide +kernel
theorem xX0_admit_0 : xdec cX0_admit 0 = some (.aload_n 0, 1, 0, 0) := by decide +kernel
theorem xX0_admit_1 : xdec cX0_admit 1 = some (.getfield 36, 4, 36, 0) := by decide +kernel
theorem xX0_admit_4 : xdec cX0_admit 4 = some (.bipush 7, 6, 0, 7) := by decide +kernel
theorem xX0_admit_6 : xdec cX0_admit 6 = some (.if_icmp .lt 6, 9, 12, 0) := by decide +kernel
theorem xX0_admit_9 : xdec cX0_admit 9 = some (.bipush (-2), 11, 0, (-2)) := by decide +kernel
theorem xX0_admit_11 : xdec cX0_admit 11 = some (.ireturn, 12, 0, 0) := by decide +kernel
theorem xX0_admit_12 : xdec cX0_admit 12 = some (.aload_n 0, 13, 0, 0) := by decide +kernel
theorem xX0_admit_13 : xdec cX0_admit 13 = some (.getfield 36, 16, 36, 0) := by decide +kernel
theorem xX0_admit_16 : xdec cX0_admit 16 = some (.istore 4, 18, 4, 0) := by decide +kernel
theorem xX0_admit_18 : xdec cX0_admit 18 = some (.aload_n 0, 19, 0, 0) := by decide +kernel
theorem xX0_admit_19 : xdec cX0_admit 19 = some (.getfield 9, 22, 9, 0) := by decide +kernel
theorem xX0_admit_22 : xdec cX0_admit 22 = some (.iload 4, 24, 4, 0) := by decide +kernel
theorem xX0_admit_24 : xdec cX0_admit 24 = some (.iload_n 1, 25, 1, 0) := by decide +kernel
theorem xX0_admit_25 : xdec cX0_admit 25 = some (.iastore, 26, 0, 0) := by decide +kernel
theorem xX0_admit_26 : xdec cX0_admit 26 = some (.aload_n 0, 27, 0, 0) := by decide +kernel
theorem xX0_admit_27 : xdec cX0_admit 27 = some (.getfield 15, 30, 15, 0) := by decide +kernel
theorem xX0_admit_30 : xdec cX0_admit 30 = some (.iload 4, 32, 4, 0) := by decide +kernel
theorem xX0_admit_32 : xdec cX0_admit 32 = some (.iload_n 2, 33, 2, 0) := by decide +kernel
theorem xX0_admit_33 : xdec cX0_admit 33 = some (.iastore, 34, 0, 0) := by decide +kernel
theorem xX0_admit_34 : xdec cX0_admit 34 = some (.aload_n 0, 35, 0, 0) := by decide +kernel
theorem xX0_admit_35 : xdec cX0_admit 35 = some (.getfield 18, 38, 18, 0) := by decide +kernel
theorem xX0_admit_38 : xdec cX0_admit 38 = some (.iload 4, 40, 4, 0) := by decide +kernel
theorem xX0_admit_40 : xdec cX0_admit 40 = some (.iload_n 3, 41, 3, 0) := by decide +kernel
theorem xX0_admit_41 : xdec cX0_admit 41 = some (.iastore, 42, 0, 0) := by decide +kernel
theorem xX0_admit_42 : xdec cX0_admit 42 = some (.aload_n 0, 43, 0, 0) := by decide +kernel
theorem xX0_admit_43 : xdec cX0_admit 43 = some (.getfield 21, 46, 21, 0) := by decide +kernel
theorem xX0_admit_46 : xdec cX0_admit 46 = some (.iload 4, 48, 4, 0) := by decide +kernel
theorem xX0_admit_48 : xdec cX0_admit 48 = some (.iconst 0, 49, 0, 0) := by decide +kernel
theorem xX0_admit_49 : xdec cX0_admit 49 = some (.iastore, 50, 0, 0) := by decide +kernel
theorem xX0_admit_50 : xdec cX0_admit 50 = some (.aload_n 0, 51, 0, 0) := by decide +kernel
theorem xX0_admit_51 : xdec cX0_admit 51 = some (.getfield 24, 54, 24, 0) := by decide +kernel
theorem xX0_admit_54 : xdec cX0_admit 54 = some (.iload 4, 56, 4, 0) := by decide +kernel
theorem xX0_admit_56 : xdec cX0_admit 56 = some (.bipush 50, 58, 0, 50) := by decide +kernel
theorem xX0_admit_58 : xdec cX0_admit 58 = some (.iastore, 59, 0, 0) := by decide +kernel
theorem xX0_admit_59 : xdec cX0_admit 59 = some (.aload_n 0, 60, 0, 0) := by decide +kernel
theorem xX0_admit_60 : xdec cX0_admit 60 = some (.dup, 61, 0, 0) := by decide +kernel
theorem xX0_admit_61 : xdec cX0_admit 61 = some (.getfield 40, 64, 40, 0) := by decide +kernel
theorem xX0_admit_64 : xdec cX0_admit 64 = some (.iconst 1, 65, 0, 1) := by decide +kernel
theorem xX0_admit_65 : xdec cX0_admit 65 = some (.iload 4, 67, 4, 0) := by decide +kernel
theorem xX0_admit_67 : xdec cX0_admit 67 = some (.ishl, 68, 0, 0) := by decide +kernel
theorem xX0_admit_68 : xdec cX0_admit 68 = some (.ior, 69, 0, 0) := by decide +kernel
theorem xX0_admit_69 : xdec cX0_admit 69 = some (.putfield 40, 72, 40, 0) := by decide +kernel
theorem xX0_admit_72 : xdec cX0_admit 72 = some (.aload_n 0, 73, 0, 0) := by decide +kernel
theorem xX0_admit_73 : xdec cX0_admit 73 = some (.dup, 74, 0, 0) := by decide +kernel
theorem xX0_admit_74 : xdec cX0_admit 74 = some (.getfield 36, 77, 36, 0) := by decide +kernel
theorem xX0_admit_77 : xdec cX0_admit 77 = some (.iconst 1, 78, 0, 1) := by decide +kernel
theorem xX0_admit_78 : xdec cX0_admit 78 = some (.iadd, 79, 0, 0) := by decide +kernel
theorem xX0_admit_79 : xdec cX0_admit 79 = some (.putfield 36, 82, 36, 0) := by decide +kernel
theorem xX0_admit_82 : xdec cX0_admit 82 = some (.iload 4, 84, 4, 0) := by decide +kernel
theorem xX0_admit_84 : xdec cX0_admit 84 = some (.ireturn, 85, 0, 0) := by decide +kernel
theorem xX0_stock_0 : xdec cX0_stock 0 = some (.aload_n 0, 1, 0, 0) := by decide +kernel
theorem xX0_stock_1 : xdec cX0_stock 1 = some (.getfield 27, 4, 27, 0) := by decide +kernel
theorem xX0_stock_4 : xdec cX0_stock 4 = some (.iload_n 1, 5, 1, 0) := by decide +kernel
theorem xX0_stock_5 : xdec cX0_stock 5 = some (.bipush 99, 7, 0, 99) := by decide +kernel
theorem xX0_stock_7 : xdec cX0_stock 7 = some (.aload_n 0, 8, 0, 0) := by decide +kernel
theorem xX0_stock_8 : xdec cX0_stock 8 = some (.getfield 27, 11, 27, 0) := by decide +kernel
theorem xX0_stock_11 : xdec cX0_stock 11 = some (.iload_n 1, 12, 1, 0) := by decide +kernel
theorem xX0_stock_12 : xdec cX0_stock 12 = some (.iaload, 13, 0, 0) := by decide +kernel
theorem xX0_stock_13 : xdec cX0_stock 13 = some (.iload_n 2, 14, 2, 0) := by decide +kernel
theorem xX0_stock_14 : xdec cX0_stock 14 = some (.iadd, 15, 0, 0) := by decide +kernel
theorem xX0_stock_15 : xdec cX0_stock 15 = some (.invokestatic 62, 18, 0, 0) := by decide +kernel
theorem xX0_stock_18 : xdec cX0_stock 18 = some (.iastore, 19, 0, 0) := by decide +kernel
theorem xX0_stock_19 : xdec cX0_stock 19 = some (.return_, 20, 0, 0) := by decide +kernel
theorem xX0_pass_0 : xdec cX0_pass 0 = some (.iconst 0, 1, 0, 0) := by decide +kernel
theorem xX0_pass_1 : xdec cX0_pass 1 = some (.istore_n 2, 2, 2, 0) := by decide +kernel
theorem xX0_pass_2 : xdec cX0_pass 2 = some (.iload_n 2, 3, 2, 0) := by decide +kernel
theorem xX0_pass_3 : xdec cX0_pass 3 = some (.iload_n 1, 4, 1, 0) := by decide +kernel
theorem xX0_pass_4 : xdec cX0_pass 4 = some (.if_icmp .ge 15, 7, 19, 0) := by decide +kernel
theorem xX0_pass_7 : xdec cX0_pass 7 = some (.aload_n 0, 8, 0, 0) := by decide +kernel
theorem xX0_pass_8 : xdec cX0_pass 8 = some (.iconst 0, 9, 0, 0) := by decide +kernel
theorem xX0_pass_9 : xdec cX0_pass 9 = some (.iconst 0, 10, 0, 0) := by decide +kernel
theorem xX0_pass_10 : xdec cX0_pass 10 = some (.invokevirtual 68, 13, 0, 0) := by decide +kernel
theorem xX0_pass_13 : xdec cX0_pass 13 = some (.iinc 2 1, 16, 2, 1) := by decide +kernel
theorem xX0_pass_16 : xdec cX0_pass 16 = some (.goto (-14), 19, 2, 0) := by decide +kernel
theorem xX0_pass_19 : xdec cX0_pass 19 = some (.return_, 20, 0, 0) := by decide +kernel
theorem xX0_passUnlacking_0 : xdec cX0_passUnlacking 0 = some (.iconst 0, 1, 0, 0) := by decide +kernel
theorem xX0_passUnlacking_1 : xdec cX0_passUnlacking 1 = some (.istore_n 2, 2, 2, 0) := by decide +kernel
theorem xX0_passUnlacking_2 : xdec cX0_passUnlacking 2 = some (.iload_n 2, 3, 2, 0) := by decide +kernel
theorem xX0_passUnlacking_3 : xdec cX0_passUnlacking 3 = some (.iload_n 1, 4, 1, 0) := by decide +kernel
theorem xX0_passUnlacking_4 : xdec cX0_passUnlacking 4 = some (.if_icmp .ge 24, 7, 28, 0) := by decide +kernel
theorem xX0_passUnlacking_7 : xdec cX0_passUnlacking 7 = some (.aload_n 0, 8, 0, 0) := by decide +kernel
theorem xX0_passUnlacking_8 : xdec cX0_passUnlacking 8 = some (.iconst 0, 9, 0, 0) := by decide +kernel
theorem xX0_passUnlacking_9 : xdec cX0_passUnlacking 9 = some (.iconst 0, 10, 0, 0) := by decide +kernel
theorem xX0_passUnlacking_10 : xdec cX0_passUnlacking 10 = some (.invokevirtual 68, 13, 0, 0) := by decide +kernel
theorem xX0_passUnlacking_13 : xdec cX0_passUnlacking 13 = some (.aload_n 0, 14, 0, 0) := by decide +kernel
theorem xX0_passUnlacking_14 : xdec cX0_passUnlacking 14 = some (.getfield 55, 17, 55, 0) := by decide +kernel
theorem xX0_passUnlacking_17 : xdec cX0_passUnlacking 17 = some (.ifCond .eq 5, 20, 22, 0) := by decide +kernel
theorem xX0_passUnlacking_20 : xdec cX0_passUnlacking 20 = some (.iconst 0, 21, 0, 0) := by decide +kernel
theorem xX0_passUnlacking_21 : xdec cX0_passUnlacking 21 = some (.ireturn, 22, 0, 0) := by decide +kernel
theorem xX0_passUnlacking_22 : xdec cX0_passUnlacking 22 = some (.iinc 2 1, 25, 2, 1) := by decide +kernel
theorem xX0_passUnlacking_25 : xdec cX0_passUnlacking 25 = some (.goto (-23), 28, 2, 0) := by decide +kernel
theorem xX0_passUnlacking_28 : xdec cX0_passUnlacking 28 = some (.iconst 1, 29, 0, 1) := by decide +kernel
theorem xX0_passUnlacking_29 : xdec cX0_passUnlacking 29 = some (.ireturn, 30, 0, 0) := by decide +kernel
theorem xX0_passNight_0 : xdec cX0_passNight 0 = some (.aload_n 0, 1, 0, 0) := by decide +kernel
theorem xX0_passNight_1 : xdec cX0_passNight 1 = some (.dup, 2, 0, 0) := by decide +kernel
theorem xX0_passNight_2 : xdec cX0_passNight 2 = some (.getfield 43, 5, 43, 0) := by decide +kernel
theorem xX0_passNight_5 : xdec cX0_passNight 5 = some (.iconst 1, 6, 0, 1) := by decide +kernel
theorem xX0_passNight_6 : xdec cX0_passNight 6 = some (.iadd, 7, 0, 0) := by decide +kernel
theorem xX0_passNight_7 : xdec cX0_passNight 7 = some (.putfield 43, 10, 43, 0) := by decide +kernel
theorem xX0_passNight_10 : xdec cX0_passNight 10 = some (.aload_n 0, 11, 0, 0) := by decide +kernel
theorem xX0_passNight_11 : xdec cX0_passNight 11 = some (.aload_n 0, 12, 0, 0) := by decide +kernel
theorem xX0_passNight_12 : xdec cX0_passNight 12 = some (.getfield 43, 15, 43, 0) := by decide +kernel
theorem xX0_passNight_15 : xdec cX0_passNight 15 = some (.bipush 10, 17, 0, 10) := by decide +kernel
theorem xX0_passNight_17 : xdec cX0_passNight 17 = some (.irem, 18, 0, 0) := by decide +kernel
theorem xX0_passNight_18 : xdec cX0_passNight 18 = some (.iconst 2, 19, 0, 2) := by decide +kernel
theorem xX0_passNight_19 : xdec cX0_passNight 19 = some (.invokevirtual 72, 22, 0, 0) := by decide +kernel
theorem xX0_passNight_22 : xdec cX0_passNight 22 = some (.aload_n 0, 23, 0, 0) := by decide +kernel
theorem xX0_passNight_23 : xdec cX0_passNight 23 = some (.iconst 0, 24, 0, 0) := by decide +kernel
theorem xX0_passNight_24 : xdec cX0_passNight 24 = some (.putfield 52, 27, 52, 0) := by decide +kernel
theorem xX0_passNight_27 : xdec cX0_passNight 27 = some (.aload_n 0, 28, 0, 0) := by decide +kernel
theorem xX0_passNight_28 : xdec cX0_passNight 28 = some (.iconst 0, 29, 0, 0) := by decide +kernel
theorem xX0_passNight_29 : xdec cX0_passNight 29 = some (.putfield 55, 32, 55, 0) := by decide +kernel
theorem xX0_passNight_32 : xdec cX0_passNight 32 = some (.iconst 0, 33, 0, 0) := by decide +kernel
theorem xX0_passNight_33 : xdec cX0_passNight 33 = some (.istore_n 3, 34, 3, 0) := by decide +kernel
theorem xX0_passNight_34 : xdec cX0_passNight 34 = some (.iload_n 3, 35, 3, 0) := by decide +kernel
theorem xX0_passNight_35 : xdec cX0_passNight 35 = some (.aload_n 0, 36, 0, 0) := by decide +kernel
theorem xX0_passNight_36 : xdec cX0_passNight 36 = some (.getfield 36, 39, 36, 0) := by decide +kernel
theorem xX0_passNight_39 : xdec cX0_passNight 39 = some (.if_icmp .ge 62, 42, 101, 0) := by decide +kernel
theorem xX0_passNight_42 : xdec cX0_passNight 42 = some (.aload_n 0, 43, 0, 0) := by decide +kernel
theorem xX0_passNight_43 : xdec cX0_passNight 43 = some (.iload_n 3, 44, 3, 0) := by decide +kernel
theorem xX0_passNight_44 : xdec cX0_passNight 44 = some (.invokevirtual 76, 47, 0, 0) := by decide +kernel
theorem xX0_passNight_47 : xdec cX0_passNight 47 = some (.ifCond .eq 48, 50, 95, 0) := by decide +kernel
theorem xX0_passNight_50 : xdec cX0_passNight 50 = some (.aload_n 0, 51, 0, 0) := by decide +kernel
theorem xX0_passNight_51 : xdec cX0_passNight 51 = some (.iload_n 3, 52, 3, 0) := by decide +kernel
theorem xX0_passNight_52 : xdec cX0_passNight 52 = some (.aload_n 0, 53, 0, 0) := by decide +kernel
theorem xX0_passNight_53 : xdec cX0_passNight 53 = some (.getfield 43, 56, 43, 0) := by decide +kernel
theorem xX0_passNight_56 : xdec cX0_passNight 56 = some (.invokevirtual 80, 59, 0, 0) := by decide +kernel
theorem xX0_passNight_59 : xdec cX0_passNight 59 = some (.istore 4, 61, 4, 0) := by decide +kernel
theorem xX0_passNight_61 : xdec cX0_passNight 61 = some (.iload_n 1, 62, 1, 0) := by decide +kernel
theorem xX0_passNight_62 : xdec cX0_passNight 62 = some (.ifCond .eq 14, 65, 76, 0) := by decide +kernel
theorem xX0_passNight_65 : xdec cX0_passNight 65 = some (.iload 4, 67, 4, 0) := by decide +kernel
theorem xX0_passNight_67 : xdec cX0_passNight 67 = some (.bipush (-4), 69, 0, (-4)) := by decide +kernel
theorem xX0_passNight_69 : xdec cX0_passNight 69 = some (.if_icmp .eq 7, 72, 76, 0) := by decide +kernel
theorem xX0_passNight_72 : xdec cX0_passNight 72 = some (.bipush 7, 74, 0, 7) := by decide +kernel
theorem xX0_passNight_74 : xdec cX0_passNight 74 = some (.istore 4, 76, 4, 0) := by decide +kernel
theorem xX0_passNight_76 : xdec cX0_passNight 76 = some (.aload_n 0, 77, 0, 0) := by decide +kernel
theorem xX0_passNight_77 : xdec cX0_passNight 77 = some (.iload_n 3, 78, 3, 0) := by decide +kernel
theorem xX0_passNight_78 : xdec cX0_passNight 78 = some (.iload_n 2, 79, 2, 0) := by decide +kernel
theorem xX0_passNight_79 : xdec cX0_passNight 79 = some (.iload_n 3, 80, 3, 0) := by decide +kernel
theorem xX0_passNight_80 : xdec cX0_passNight 80 = some (.ishr, 81, 0, 0) := by decide +kernel
theorem xX0_passNight_81 : xdec cX0_passNight 81 = some (.iconst 1, 82, 0, 1) := by decide +kernel
theorem xX0_passNight_82 : xdec cX0_passNight 82 = some (.iand, 83, 0, 0) := by decide +kernel
theorem xX0_passNight_83 : xdec cX0_passNight 83 = some (.ifCond .eq 7, 86, 90, 0) := by decide +kernel
theorem xX0_passNight_86 : xdec cX0_passNight 86 = some (.iconst 1, 87, 0, 1) := by decide +kernel
theorem xX0_passNight_87 : xdec cX0_passNight 87 = some (.goto 5, 90, 92, 0) := by decide +kernel
theorem xX0_passNight_90 : xdec cX0_passNight 90 = some (.iload 4, 92, 4, 0) := by decide +kernel
theorem xX0_passNight_92 : xdec cX0_passNight 92 = some (.invokevirtual 83, 95, 0, 0) := by decide +kernel
theorem xX0_passNight_95 : xdec cX0_passNight 95 = some (.iinc 3 1, 98, 3, 1) := by decide +kernel
theorem xX0_passNight_98 : xdec cX0_passNight 98 = some (.goto (-64), 101, 34, 0) := by decide +kernel
theorem xX0_passNight_101 : xdec cX0_passNight 101 = some (.return_, 102, 0, 0) := by decide +kernel
theorem xX0_dream_0 : xdec cX0_dream 0 = some (.aload_n 0, 1, 0, 0) := by decide +kernel
theorem xX0_dream_1 : xdec cX0_dream 1 = some (.getfield 9, 4, 9, 0) := by decide +kernel
theorem xX0_dream_4 : xdec cX0_dream 4 = some (.iload_n 1, 5, 1, 0) := by decide +kernel
theorem xX0_dream_5 : xdec cX0_dream 5 = some (.iaload, 6, 0, 0) := by decide +kernel
theorem xX0_dream_6 : xdec cX0_dream 6 = some (.aload_n 0, 7, 0, 0) := by decide +kernel
theorem xX0_dream_7 : xdec cX0_dream 7 = some (.getfield 15, 10, 15, 0) := by decide +kernel
theorem xX0_dream_10 : xdec cX0_dream 10 = some (.iload_n 1, 11, 1, 0) := by decide +kernel
theorem xX0_dream_11 : xdec cX0_dream 11 = some (.iaload, 12, 0, 0) := by decide +kernel
theorem xX0_dream_12 : xdec cX0_dream 12 = some (.aload_n 0, 13, 0, 0) := by decide +kernel
theorem xX0_dream_13 : xdec cX0_dream 13 = some (.getfield 18, 16, 18, 0) := by decide +kernel
theorem xX0_dream_16 : xdec cX0_dream 16 = some (.iload_n 1, 17, 1, 0) := by decide +kernel
theorem xX0_dream_17 : xdec cX0_dream 17 = some (.iaload, 18, 0, 0) := by decide +kernel
theorem xX0_dream_18 : xdec cX0_dream 18 = some (.aload_n 0, 19, 0, 0) := by decide +kernel
theorem xX0_dream_19 : xdec cX0_dream 19 = some (.getfield 21, 22, 21, 0) := by decide +kernel
theorem xX0_dream_22 : xdec cX0_dream 22 = some (.iload_n 1, 23, 1, 0) := by decide +kernel
theorem xX0_dream_23 : xdec cX0_dream 23 = some (.iaload, 24, 0, 0) := by decide +kernel
theorem xX0_dream_24 : xdec cX0_dream 24 = some (.iload_n 2, 25, 2, 0) := by decide +kernel
theorem xX0_dream_25 : xdec cX0_dream 25 = some (.invokestatic 86, 28, 0, 0) := by decide +kernel
theorem xX0_dream_28 : xdec cX0_dream 28 = some (.ireturn, 29, 0, 0) := by decide +kernel
theorem xX0_nextDream_0 : xdec cX0_nextDream 0 = some (.aload_n 0, 1, 0, 0) := by decide +kernel
theorem xX0_nextDream_1 : xdec cX0_nextDream 1 = some (.iload_n 1, 2, 1, 0) := by decide +kernel
theorem xX0_nextDream_2 : xdec cX0_nextDream 2 = some (.invokevirtual 76, 5, 0, 0) := by decide +kernel
theorem xX0_nextDream_5 : xdec cX0_nextDream 5 = some (.ifCond .eq 17, 8, 22, 0) := by decide +kernel
theorem xX0_nextDream_8 : xdec cX0_nextDream 8 = some (.aload_n 0, 9, 0, 0) := by decide +kernel
theorem xX0_nextDream_9 : xdec cX0_nextDream 9 = some (.iload_n 1, 10, 1, 0) := by decide +kernel
theorem xX0_nextDream_10 : xdec cX0_nextDream 10 = some (.aload_n 0, 11, 0, 0) := by decide +kernel
theorem xX0_nextDream_11 : xdec cX0_nextDream 11 = some (.getfield 43, 14, 43, 0) := by decide +kernel
theorem xX0_nextDream_14 : xdec cX0_nextDream 14 = some (.iconst 1, 15, 0, 1) := by decide +kernel
theorem xX0_nextDream_15 : xdec cX0_nextDream 15 = some (.iadd, 16, 0, 0) := by decide +kernel
theorem xX0_nextDream_16 : xdec cX0_nextDream 16 = some (.invokevirtual 80, 19, 0, 0) := by decide +kernel
theorem xX0_nextDream_19 : xdec cX0_nextDream 19 = some (.goto 5, 22, 24, 0) := by decide +kernel
theorem xX0_nextDream_22 : xdec cX0_nextDream 22 = some (.bipush (-4), 24, 0, (-4)) := by decide +kernel
theorem xX0_nextDream_24 : xdec cX0_nextDream 24 = some (.ireturn, 25, 0, 0) := by decide +kernel
theorem xX0_breakfast_0 : xdec cX0_breakfast 0 = some (.aload_n 0, 1, 0, 0) := by decide +kernel
theorem xX0_breakfast_1 : xdec cX0_breakfast 1 = some (.getfield 9, 4, 9, 0) := by decide +kernel
theorem xX0_breakfast_4 : xdec cX0_breakfast 4 = some (.iload_n 1, 5, 1, 0) := by decide +kernel
theorem xX0_breakfast_5 : xdec cX0_breakfast 5 = some (.iaload, 6, 0, 0) := by decide +kernel
theorem xX0_breakfast_6 : xdec cX0_breakfast 6 = some (.invokestatic 91, 9, 0, 0) := by decide +kernel
theorem xX0_breakfast_9 : xdec cX0_breakfast 9 = some (.istore_n 3, 10, 3, 0) := by decide +kernel
theorem xX0_breakfast_10 : xdec cX0_breakfast 10 = some (.iload_n 2, 11, 2, 0) := by decide +kernel
theorem xX0_breakfast_11 : xdec cX0_breakfast 11 = some (.bipush (-4), 13, 0, (-4)) := by decide +kernel
theorem xX0_breakfast_13 : xdec cX0_breakfast 13 = some (.if_icmp .ne 13, 16, 26, 0) := by decide +kernel
theorem xX0_breakfast_16 : xdec cX0_breakfast 16 = some (.aload_n 0, 17, 0, 0) := by decide +kernel
theorem xX0_breakfast_17 : xdec cX0_breakfast 17 = some (.iload_n 1, 18, 1, 0) := by decide +kernel
theorem xX0_breakfast_18 : xdec cX0_breakfast 18 = some (.bipush (-5), 20, 0, (-5)) := by decide +kernel
theorem xX0_breakfast_20 : xdec cX0_breakfast 20 = some (.invokevirtual 95, 23, 0, 0) := by decide +kernel
theorem xX0_breakfast_23 : xdec cX0_breakfast 23 = some (.goto 123, 26, 146, 0) := by decide +kernel
theorem xX0_breakfast_26 : xdec cX0_breakfast 26 = some (.aload_n 0, 27, 0, 0) := by decide +kernel
theorem xX0_breakfast_27 : xdec cX0_breakfast 27 = some (.getfield 27, 30, 27, 0) := by decide +kernel
theorem xX0_breakfast_30 : xdec cX0_breakfast 30 = some (.iload_n 2, 31, 2, 0) := by decide +kernel
theorem xX0_breakfast_31 : xdec cX0_breakfast 31 = some (.iaload, 32, 0, 0) := by decide +kernel
theorem xX0_breakfast_32 : xdec cX0_breakfast 32 = some (.iload_n 3, 33, 3, 0) := by decide +kernel
theorem xX0_breakfast_33 : xdec cX0_breakfast 33 = some (.if_icmp .lt 78, 36, 111, 0) := by decide +kernel
theorem xX0_breakfast_36 : xdec cX0_breakfast 36 = some (.aload_n 0, 37, 0, 0) := by decide +kernel
theorem xX0_breakfast_37 : xdec cX0_breakfast 37 = some (.getfield 27, 40, 27, 0) := by decide +kernel
theorem xX0_breakfast_40 : xdec cX0_breakfast 40 = some (.iload_n 2, 41, 2, 0) := by decide +kernel
theorem xX0_breakfast_41 : xdec cX0_breakfast 41 = some (.dup2, 42, 0, 0) := by decide +kernel
theorem xX0_breakfast_42 : xdec cX0_breakfast 42 = some (.iaload, 43, 0, 0) := by decide +kernel
theorem xX0_breakfast_43 : xdec cX0_breakfast 43 = some (.iload_n 3, 44, 3, 0) := by decide +kernel
theorem xX0_breakfast_44 : xdec cX0_breakfast 44 = some (.isub, 45, 0, 0) := by decide +kernel
theorem xX0_breakfast_45 : xdec cX0_breakfast 45 = some (.iastore, 46, 0, 0) := by decide +kernel
theorem xX0_breakfast_46 : xdec cX0_breakfast 46 = some (.aload_n 0, 47, 0, 0) := by decide +kernel
theorem xX0_breakfast_47 : xdec cX0_breakfast 47 = some (.iload_n 1, 48, 1, 0) := by decide +kernel
theorem xX0_breakfast_48 : xdec cX0_breakfast 48 = some (.aload_n 0, 49, 0, 0) := by decide +kernel
theorem xX0_breakfast_49 : xdec cX0_breakfast 49 = some (.getfield 9, 52, 9, 0) := by decide +kernel
theorem xX0_breakfast_52 : xdec cX0_breakfast 52 = some (.iload_n 1, 53, 1, 0) := by decide +kernel
theorem xX0_breakfast_53 : xdec cX0_breakfast 53 = some (.iaload, 54, 0, 0) := by decide +kernel
theorem xX0_breakfast_54 : xdec cX0_breakfast 54 = some (.aload_n 0, 55, 0, 0) := by decide +kernel
theorem xX0_breakfast_55 : xdec cX0_breakfast 55 = some (.getfield 15, 58, 15, 0) := by decide +kernel
theorem xX0_breakfast_58 : xdec cX0_breakfast 58 = some (.iload_n 1, 59, 1, 0) := by decide +kernel
theorem xX0_breakfast_59 : xdec cX0_breakfast 59 = some (.iaload, 60, 0, 0) := by decide +kernel
theorem xX0_breakfast_60 : xdec cX0_breakfast 60 = some (.iload_n 2, 61, 2, 0) := by decide +kernel
theorem xX0_breakfast_61 : xdec cX0_breakfast 61 = some (.aload_n 0, 62, 0, 0) := by decide +kernel
theorem xX0_breakfast_62 : xdec cX0_breakfast 62 = some (.getfield 21, 65, 21, 0) := by decide +kernel
theorem xX0_breakfast_65 : xdec cX0_breakfast 65 = some (.iload_n 1, 66, 1, 0) := by decide +kernel
theorem xX0_breakfast_66 : xdec cX0_breakfast 66 = some (.iaload, 67, 0, 0) := by decide +kernel
theorem xX0_breakfast_67 : xdec cX0_breakfast 67 = some (.invokestatic 98, 70, 0, 0) := by decide +kernel
theorem xX0_breakfast_70 : xdec cX0_breakfast 70 = some (.invokevirtual 95, 73, 0, 0) := by decide +kernel
theorem xX0_breakfast_73 : xdec cX0_breakfast 73 = some (.aload_n 0, 74, 0, 0) := by decide +kernel
theorem xX0_breakfast_74 : xdec cX0_breakfast 74 = some (.getfield 21, 77, 21, 0) := by decide +kernel
theorem xX0_breakfast_77 : xdec cX0_breakfast 77 = some (.iload_n 1, 78, 1, 0) := by decide +kernel
theorem xX0_breakfast_78 : xdec cX0_breakfast 78 = some (.iload_n 2, 79, 2, 0) := by decide +kernel
theorem xX0_breakfast_79 : xdec cX0_breakfast 79 = some (.iastore, 80, 0, 0) := by decide +kernel
theorem xX0_breakfast_80 : xdec cX0_breakfast 80 = some (.aload_n 0, 81, 0, 0) := by decide +kernel
theorem xX0_breakfast_81 : xdec cX0_breakfast 81 = some (.sipush 9999, 84, 0, 9999) := by decide +kernel
theorem xX0_breakfast_84 : xdec cX0_breakfast 84 = some (.aload_n 0, 85, 0, 0) := by decide +kernel
theorem xX0_breakfast_85 : xdec cX0_breakfast 85 = some (.getfield 46, 88, 46, 0) := by decide +kernel
theorem xX0_breakfast_88 : xdec cX0_breakfast 88 = some (.iconst 1, 89, 0, 1) := by decide +kernel
theorem xX0_breakfast_89 : xdec cX0_breakfast 89 = some (.iadd, 90, 0, 0) := by decide +kernel
theorem xX0_breakfast_90 : xdec cX0_breakfast 90 = some (.invokestatic 62, 93, 0, 0) := by decide +kernel
theorem xX0_breakfast_93 : xdec cX0_breakfast 93 = some (.putfield 46, 96, 46, 0) := by decide +kernel
theorem xX0_breakfast_96 : xdec cX0_breakfast 96 = some (.aload_n 0, 97, 0, 0) := by decide +kernel
theorem xX0_breakfast_97 : xdec cX0_breakfast 97 = some (.dup, 98, 0, 0) := by decide +kernel
theorem xX0_breakfast_98 : xdec cX0_breakfast 98 = some (.getfield 52, 101, 52, 0) := by decide +kernel
theorem xX0_breakfast_101 : xdec cX0_breakfast 101 = some (.iconst 1, 102, 0, 1) := by decide +kernel
theorem xX0_breakfast_102 : xdec cX0_breakfast 102 = some (.iload_n 1, 103, 1, 0) := by decide +kernel
theorem xX0_breakfast_103 : xdec cX0_breakfast 103 = some (.ishl, 104, 0, 0) := by decide +kernel
theorem xX0_breakfast_104 : xdec cX0_breakfast 104 = some (.ior, 105, 0, 0) := by decide +kernel
theorem xX0_breakfast_105 : xdec cX0_breakfast 105 = some (.putfield 52, 108, 52, 0) := by decide +kernel
theorem xX0_breakfast_108 : xdec cX0_breakfast 108 = some (.goto 38, 111, 146, 0) := by decide +kernel
theorem xX0_breakfast_111 : xdec cX0_breakfast 111 = some (.aload_n 0, 112, 0, 0) := by decide +kernel
theorem xX0_breakfast_112 : xdec cX0_breakfast 112 = some (.iload_n 1, 113, 1, 0) := by decide +kernel
theorem xX0_breakfast_113 : xdec cX0_breakfast 113 = some (.bipush (-3), 115, 0, (-3)) := by decide +kernel
theorem xX0_breakfast_115 : xdec cX0_breakfast 115 = some (.invokevirtual 95, 118, 0, 0) := by decide +kernel
theorem xX0_breakfast_118 : xdec cX0_breakfast 118 = some (.aload_n 0, 119, 0, 0) := by decide +kernel
theorem xX0_breakfast_119 : xdec cX0_breakfast 119 = some (.sipush 9999, 122, 0, 9999) := by decide +kernel
theorem xX0_breakfast_122 : xdec cX0_breakfast 122 = some (.aload_n 0, 123, 0, 0) := by decide +kernel
theorem xX0_breakfast_123 : xdec cX0_breakfast 123 = some (.getfield 49, 126, 49, 0) := by decide +kernel
theorem xX0_breakfast_126 : xdec cX0_breakfast 126 = some (.iconst 1, 127, 0, 1) := by decide +kernel
theorem xX0_breakfast_127 : xdec cX0_breakfast 127 = some (.iadd, 128, 0, 0) := by decide +kernel
theorem xX0_breakfast_128 : xdec cX0_breakfast 128 = some (.invokestatic 62, 131, 0, 0) := by decide +kernel
theorem xX0_breakfast_131 : xdec cX0_breakfast 131 = some (.putfield 49, 134, 49, 0) := by decide +kernel
theorem xX0_breakfast_134 : xdec cX0_breakfast 134 = some (.aload_n 0, 135, 0, 0) := by decide +kernel
theorem xX0_breakfast_135 : xdec cX0_breakfast 135 = some (.dup, 136, 0, 0) := by decide +kernel
theorem xX0_breakfast_136 : xdec cX0_breakfast 136 = some (.getfield 55, 139, 55, 0) := by decide +kernel
theorem xX0_breakfast_139 : xdec cX0_breakfast 139 = some (.iconst 1, 140, 0, 1) := by decide +kernel
theorem xX0_breakfast_140 : xdec cX0_breakfast 140 = some (.iload_n 1, 141, 1, 0) := by decide +kernel
theorem xX0_breakfast_141 : xdec cX0_breakfast 141 = some (.ishl, 142, 0, 0) := by decide +kernel
theorem xX0_breakfast_142 : xdec cX0_breakfast 142 = some (.ior, 143, 0, 0) := by decide +kernel
theorem xX0_breakfast_143 : xdec cX0_breakfast 143 = some (.putfield 55, 146, 55, 0) := by decide +kernel
theorem xX0_breakfast_146 : xdec cX0_breakfast 146 = some (.return_, 147, 0, 0) := by decide +kernel
theorem xX0_changeHealth_0 : xdec cX0_changeHealth 0 = some (.aload_n 0, 1, 0, 0) := by decide +kernel
theorem xX0_changeHealth_1 : xdec cX0_changeHealth 1 = some (.getfield 24, 4, 24, 0) := by decide +kernel
theorem xX0_changeHealth_4 : xdec cX0_changeHealth 4 = some (.iload_n 1, 5, 1, 0) := by decide +kernel
theorem xX0_changeHealth_5 : xdec cX0_changeHealth 5 = some (.iconst 0, 6, 0, 0) := by decide +kernel
theorem xX0_changeHealth_6 : xdec cX0_changeHealth 6 = some (.bipush 99, 8, 0, 99) := by decide +kernel
theorem xX0_changeHealth_8 : xdec cX0_changeHealth 8 = some (.aload_n 0, 9, 0, 0) := by decide +kernel
theorem xX0_changeHealth_9 : xdec cX0_changeHealth 9 = some (.getfield 24, 12, 24, 0) := by decide +kernel
theorem xX0_changeHealth_12 : xdec cX0_changeHealth 12 = some (.iload_n 1, 13, 1, 0) := by decide +kernel
theorem xX0_changeHealth_13 : xdec cX0_changeHealth 13 = some (.iaload, 14, 0, 0) := by decide +kernel
theorem xX0_changeHealth_14 : xdec cX0_changeHealth 14 = some (.iload_n 2, 15, 2, 0) := by decide +kernel
theorem xX0_changeHealth_15 : xdec cX0_changeHealth 15 = some (.iadd, 16, 0, 0) := by decide +kernel
theorem xX0_changeHealth_16 : xdec cX0_changeHealth 16 = some (.invokestatic 62, 19, 0, 0) := by decide +kernel
theorem xX0_changeHealth_19 : xdec cX0_changeHealth 19 = some (.invokestatic 102, 22, 0, 0) := by decide +kernel
theorem xX0_changeHealth_22 : xdec cX0_changeHealth 22 = some (.iastore, 23, 0, 0) := by decide +kernel
theorem xX0_changeHealth_23 : xdec cX0_changeHealth 23 = some (.aload_n 0, 24, 0, 0) := by decide +kernel
theorem xX0_changeHealth_24 : xdec cX0_changeHealth 24 = some (.getfield 24, 27, 24, 0) := by decide +kernel
theorem xX0_changeHealth_27 : xdec cX0_changeHealth 27 = some (.iload_n 1, 28, 1, 0) := by decide +kernel
theorem xX0_changeHealth_28 : xdec cX0_changeHealth 28 = some (.iaload, 29, 0, 0) := by decide +kernel
theorem xX0_changeHealth_29 : xdec cX0_changeHealth 29 = some (.ifCond .ne 17, 32, 46, 0) := by decide +kernel
theorem xX0_changeHealth_32 : xdec cX0_changeHealth 32 = some (.aload_n 0, 33, 0, 0) := by decide +kernel
theorem xX0_changeHealth_33 : xdec cX0_changeHealth 33 = some (.dup, 34, 0, 0) := by decide +kernel
theorem xX0_changeHealth_34 : xdec cX0_changeHealth 34 = some (.getfield 40, 37, 40, 0) := by decide +kernel
theorem xX0_changeHealth_37 : xdec cX0_changeHealth 37 = some (.iconst 1, 38, 0, 1) := by decide +kernel
theorem xX0_changeHealth_38 : xdec cX0_changeHealth 38 = some (.iload_n 1, 39, 1, 0) := by decide +kernel
theorem xX0_changeHealth_39 : xdec cX0_changeHealth 39 = some (.ishl, 40, 0, 0) := by decide +kernel
theorem xX0_changeHealth_40 : xdec cX0_changeHealth 40 = some (.iconst (-1), 41, 0, (-1)) := by decide +kernel
theorem xX0_changeHealth_41 : xdec cX0_changeHealth 41 = some (.ixor, 42, 0, 0) := by decide +kernel
theorem xX0_changeHealth_42 : xdec cX0_changeHealth 42 = some (.iand, 43, 0, 0) := by decide +kernel
theorem xX0_changeHealth_43 : xdec cX0_changeHealth 43 = some (.putfield 40, 46, 40, 0) := by decide +kernel
theorem xX0_changeHealth_46 : xdec cX0_changeHealth 46 = some (.return_, 47, 0, 0) := by decide +kernel
theorem xX0_healthOf_0 : xdec cX0_healthOf 0 = some (.iconst 0, 1, 0, 0) := by decide +kernel
theorem xX0_healthOf_1 : xdec cX0_healthOf 1 = some (.istore_n 2, 2, 2, 0) := by decide +kernel
theorem xX0_healthOf_2 : xdec cX0_healthOf 2 = some (.iconst 0, 3, 0, 0) := by decide +kernel
theorem xX0_healthOf_3 : xdec cX0_healthOf 3 = some (.istore_n 3, 4, 3, 0) := by decide +kernel
theorem xX0_healthOf_4 : xdec cX0_healthOf 4 = some (.iload_n 3, 5, 3, 0) := by decide +kernel
theorem xX0_healthOf_5 : xdec cX0_healthOf 5 = some (.aload_n 0, 6, 0, 0) := by decide +kernel
theorem xX0_healthOf_6 : xdec cX0_healthOf 6 = some (.getfield 36, 9, 36, 0) := by decide +kernel
theorem xX0_healthOf_9 : xdec cX0_healthOf 9 = some (.if_icmp .ge 30, 12, 39, 0) := by decide +kernel
theorem xX0_healthOf_12 : xdec cX0_healthOf 12 = some (.iload_n 2, 13, 2, 0) := by decide +kernel
theorem xX0_healthOf_13 : xdec cX0_healthOf 13 = some (.iload_n 1, 14, 1, 0) := by decide +kernel
theorem xX0_healthOf_14 : xdec cX0_healthOf 14 = some (.iload_n 3, 15, 3, 0) := by decide +kernel
theorem xX0_healthOf_15 : xdec cX0_healthOf 15 = some (.ishr, 16, 0, 0) := by decide +kernel
theorem xX0_healthOf_16 : xdec cX0_healthOf 16 = some (.iconst 1, 17, 0, 1) := by decide +kernel
theorem xX0_healthOf_17 : xdec cX0_healthOf 17 = some (.iand, 18, 0, 0) := by decide +kernel
theorem xX0_healthOf_18 : xdec cX0_healthOf 18 = some (.ifCond .eq 12, 21, 30, 0) := by decide +kernel
theorem xX0_healthOf_21 : xdec cX0_healthOf 21 = some (.aload_n 0, 22, 0, 0) := by decide +kernel
theorem xX0_healthOf_22 : xdec cX0_healthOf 22 = some (.getfield 24, 25, 24, 0) := by decide +kernel
theorem xX0_healthOf_25 : xdec cX0_healthOf 25 = some (.iload_n 3, 26, 3, 0) := by decide +kernel
theorem xX0_healthOf_26 : xdec cX0_healthOf 26 = some (.iaload, 27, 0, 0) := by decide +kernel
theorem xX0_healthOf_27 : xdec cX0_healthOf 27 = some (.goto 4, 30, 31, 0) := by decide +kernel
theorem xX0_healthOf_30 : xdec cX0_healthOf 30 = some (.iconst 0, 31, 0, 0) := by decide +kernel
theorem xX0_healthOf_31 : xdec cX0_healthOf 31 = some (.iadd, 32, 0, 0) := by decide +kernel
theorem xX0_healthOf_32 : xdec cX0_healthOf 32 = some (.istore_n 2, 33, 2, 0) := by decide +kernel
theorem xX0_healthOf_33 : xdec cX0_healthOf 33 = some (.iinc 3 1, 36, 3, 1) := by decide +kernel
theorem xX0_healthOf_36 : xdec cX0_healthOf 36 = some (.goto (-32), 39, 4, 0) := by decide +kernel
theorem xX0_healthOf_39 : xdec cX0_healthOf 39 = some (.iload_n 2, 40, 2, 0) := by decide +kernel
theorem xX0_healthOf_40 : xdec cX0_healthOf 40 = some (.ireturn, 41, 0, 0) := by decide +kernel
theorem xX0_twosOfOneDream_0 : xdec cX0_twosOfOneDream 0 = some (.iconst 0, 1, 0, 0) := by decide +kernel
theorem xX0_twosOfOneDream_1 : xdec cX0_twosOfOneDream 1 = some (.istore_n 1, 2, 1, 0) := by decide +kernel
theorem xX0_twosOfOneDream_2 : xdec cX0_twosOfOneDream 2 = some (.iconst 0, 3, 0, 0) := by decide +kernel
theorem xX0_twosOfOneDream_3 : xdec cX0_twosOfOneDream 3 = some (.istore_n 2, 4, 2, 0) := by decide +kernel
theorem xX0_twosOfOneDream_4 : xdec cX0_twosOfOneDream 4 = some (.iload_n 2, 5, 2, 0) := by decide +kernel
theorem xX0_twosOfOneDream_5 : xdec cX0_twosOfOneDream 5 = some (.aload_n 0, 6, 0, 0) := by decide +kernel
theorem xX0_twosOfOneDream_6 : xdec cX0_twosOfOneDream 6 = some (.getfield 36, 9, 36, 0) := by decide +kernel
theorem xX0_twosOfOneDream_9 : xdec cX0_twosOfOneDream 9 = some (.if_icmp .ge 54, 12, 63, 0) := by decide +kernel
theorem xX0_twosOfOneDream_12 : xdec cX0_twosOfOneDream 12 = some (.iconst 0, 13, 0, 0) := by decide +kernel
theorem xX0_twosOfOneDream_13 : xdec cX0_twosOfOneDream 13 = some (.istore_n 3, 14, 3, 0) := by decide +kernel
theorem xX0_twosOfOneDream_14 : xdec cX0_twosOfOneDream 14 = some (.iload_n 3, 15, 3, 0) := by decide +kernel
theorem xX0_twosOfOneDream_15 : xdec cX0_twosOfOneDream 15 = some (.iload_n 2, 16, 2, 0) := by decide +kernel
theorem xX0_twosOfOneDream_16 : xdec cX0_twosOfOneDream 16 = some (.if_icmp .ge 41, 19, 57, 0) := by decide +kernel
theorem xX0_twosOfOneDream_19 : xdec cX0_twosOfOneDream 19 = some (.aload_n 0, 20, 0, 0) := by decide +kernel
theorem xX0_twosOfOneDream_20 : xdec cX0_twosOfOneDream 20 = some (.iload_n 2, 21, 2, 0) := by decide +kernel
theorem xX0_twosOfOneDream_21 : xdec cX0_twosOfOneDream 21 = some (.invokevirtual 105, 24, 0, 0) := by decide +kernel
theorem xX0_twosOfOneDream_24 : xdec cX0_twosOfOneDream 24 = some (.istore 4, 26, 4, 0) := by decide +kernel
theorem xX0_twosOfOneDream_26 : xdec cX0_twosOfOneDream 26 = some (.iload_n 1, 27, 1, 0) := by decide +kernel
theorem xX0_twosOfOneDream_27 : xdec cX0_twosOfOneDream 27 = some (.iload 4, 29, 4, 0) := by decide +kernel
theorem xX0_twosOfOneDream_29 : xdec cX0_twosOfOneDream 29 = some (.bipush (-4), 31, 0, (-4)) := by decide +kernel
theorem xX0_twosOfOneDream_31 : xdec cX0_twosOfOneDream 31 = some (.if_icmp .eq 17, 34, 48, 0) := by decide +kernel
theorem xX0_twosOfOneDream_34 : xdec cX0_twosOfOneDream 34 = some (.iload 4, 36, 4, 0) := by decide +kernel
theorem xX0_twosOfOneDream_36 : xdec cX0_twosOfOneDream 36 = some (.aload_n 0, 37, 0, 0) := by decide +kernel
theorem xX0_twosOfOneDream_37 : xdec cX0_twosOfOneDream 37 = some (.iload_n 3, 38, 3, 0) := by decide +kernel
theorem xX0_twosOfOneDream_38 : xdec cX0_twosOfOneDream 38 = some (.invokevirtual 105, 41, 0, 0) := by decide +kernel
theorem xX0_twosOfOneDream_41 : xdec cX0_twosOfOneDream 41 = some (.if_icmp .ne 7, 44, 48, 0) := by decide +kernel
theorem xX0_twosOfOneDream_44 : xdec cX0_twosOfOneDream 44 = some (.iconst 1, 45, 0, 1) := by decide +kernel
theorem xX0_twosOfOneDream_45 : xdec cX0_twosOfOneDream 45 = some (.goto 4, 48, 49, 0) := by decide +kernel
theorem xX0_twosOfOneDream_48 : xdec cX0_twosOfOneDream 48 = some (.iconst 0, 49, 0, 0) := by decide +kernel
theorem xX0_twosOfOneDream_49 : xdec cX0_twosOfOneDream 49 = some (.iadd, 50, 0, 0) := by decide +kernel
theorem xX0_twosOfOneDream_50 : xdec cX0_twosOfOneDream 50 = some (.istore_n 1, 51, 1, 0) := by decide +kernel
theorem xX0_twosOfOneDream_51 : xdec cX0_twosOfOneDream 51 = some (.iinc 3 1, 54, 3, 1) := by decide +kernel
theorem xX0_twosOfOneDream_54 : xdec cX0_twosOfOneDream 54 = some (.goto (-40), 57, 14, 0) := by decide +kernel
theorem xX0_twosOfOneDream_57 : xdec cX0_twosOfOneDream 57 = some (.iinc 2 1, 60, 2, 1) := by decide +kernel
theorem xX0_twosOfOneDream_60 : xdec cX0_twosOfOneDream 60 = some (.goto (-56), 63, 4, 0) := by decide +kernel
theorem xX0_twosOfOneDream_63 : xdec cX0_twosOfOneDream 63 = some (.iload_n 1, 64, 1, 0) := by decide +kernel
theorem xX0_twosOfOneDream_64 : xdec cX0_twosOfOneDream 64 = some (.ireturn, 65, 0, 0) := by decide +kernel
theorem xX0_wellest_0 : xdec cX0_wellest 0 = some (.bipush (-4), 2, 0, (-4)) := by decide +kernel
theorem xX0_wellest_2 : xdec cX0_wellest 2 = some (.istore_n 1, 3, 1, 0) := by decide +kernel
theorem xX0_wellest_3 : xdec cX0_wellest 3 = some (.iconst (-1), 4, 0, (-1)) := by decide +kernel
theorem xX0_wellest_4 : xdec cX0_wellest 4 = some (.istore_n 2, 5, 2, 0) := by decide +kernel
theorem xX0_wellest_5 : xdec cX0_wellest 5 = some (.iconst 0, 6, 0, 0) := by decide +kernel
theorem xX0_wellest_6 : xdec cX0_wellest 6 = some (.istore_n 3, 7, 3, 0) := by decide +kernel
theorem xX0_wellest_7 : xdec cX0_wellest 7 = some (.iload_n 3, 8, 3, 0) := by decide +kernel
theorem xX0_wellest_8 : xdec cX0_wellest 8 = some (.aload_n 0, 9, 0, 0) := by decide +kernel
theorem xX0_wellest_9 : xdec cX0_wellest 9 = some (.getfield 36, 12, 36, 0) := by decide +kernel
theorem xX0_wellest_12 : xdec cX0_wellest 12 = some (.if_icmp .ge 36, 15, 48, 0) := by decide +kernel
theorem xX0_wellest_15 : xdec cX0_wellest 15 = some (.aload_n 0, 16, 0, 0) := by decide +kernel
theorem xX0_wellest_16 : xdec cX0_wellest 16 = some (.iload_n 3, 17, 3, 0) := by decide +kernel
theorem xX0_wellest_17 : xdec cX0_wellest 17 = some (.invokevirtual 76, 20, 0, 0) := by decide +kernel
theorem xX0_wellest_20 : xdec cX0_wellest 20 = some (.ifCond .eq 22, 23, 42, 0) := by decide +kernel
theorem xX0_wellest_23 : xdec cX0_wellest 23 = some (.aload_n 0, 24, 0, 0) := by decide +kernel
theorem xX0_wellest_24 : xdec cX0_wellest 24 = some (.getfield 24, 27, 24, 0) := by decide +kernel
theorem xX0_wellest_27 : xdec cX0_wellest 27 = some (.iload_n 3, 28, 3, 0) := by decide +kernel
theorem xX0_wellest_28 : xdec cX0_wellest 28 = some (.iaload, 29, 0, 0) := by decide +kernel
theorem xX0_wellest_29 : xdec cX0_wellest 29 = some (.iload_n 2, 30, 2, 0) := by decide +kernel
theorem xX0_wellest_30 : xdec cX0_wellest 30 = some (.if_icmp .le 12, 33, 42, 0) := by decide +kernel
theorem xX0_wellest_33 : xdec cX0_wellest 33 = some (.aload_n 0, 34, 0, 0) := by decide +kernel
theorem xX0_wellest_34 : xdec cX0_wellest 34 = some (.getfield 24, 37, 24, 0) := by decide +kernel
theorem xX0_wellest_37 : xdec cX0_wellest 37 = some (.iload_n 3, 38, 3, 0) := by decide +kernel
theorem xX0_wellest_38 : xdec cX0_wellest 38 = some (.iaload, 39, 0, 0) := by decide +kernel
theorem xX0_wellest_39 : xdec cX0_wellest 39 = some (.istore_n 2, 40, 2, 0) := by decide +kernel
theorem xX0_wellest_40 : xdec cX0_wellest 40 = some (.iload_n 3, 41, 3, 0) := by decide +kernel
theorem xX0_wellest_41 : xdec cX0_wellest 41 = some (.istore_n 1, 42, 1, 0) := by decide +kernel
theorem xX0_wellest_42 : xdec cX0_wellest 42 = some (.iinc 3 1, 45, 3, 1) := by decide +kernel
theorem xX0_wellest_45 : xdec cX0_wellest 45 = some (.goto (-38), 48, 7, 0) := by decide +kernel
theorem xX0_wellest_48 : xdec cX0_wellest 48 = some (.iload_n 1, 49, 1, 0) := by decide +kernel
theorem xX0_wellest_49 : xdec cX0_wellest 49 = some (.ireturn, 50, 0, 0) := by decide +kernel
theorem xX0_fullest_0 : xdec cX0_fullest 0 = some (.iconst 0, 1, 0, 0) := by decide +kernel
theorem xX0_fullest_1 : xdec cX0_fullest 1 = some (.istore_n 1, 2, 1, 0) := by decide +kernel
theorem xX0_fullest_2 : xdec cX0_fullest 2 = some (.iconst 1, 3, 0, 1) := by decide +kernel
theorem xX0_fullest_3 : xdec cX0_fullest 3 = some (.istore_n 2, 4, 2, 0) := by decide +kernel
theorem xX0_fullest_4 : xdec cX0_fullest 4 = some (.iload_n 2, 5, 2, 0) := by decide +kernel
theorem xX0_fullest_5 : xdec cX0_fullest 5 = some (.bipush 10, 7, 0, 10) := by decide +kernel
theorem xX0_fullest_7 : xdec cX0_fullest 7 = some (.if_icmp .ge 26, 10, 33, 0) := by decide +kernel
theorem xX0_fullest_10 : xdec cX0_fullest 10 = some (.aload_n 0, 11, 0, 0) := by decide +kernel
theorem xX0_fullest_11 : xdec cX0_fullest 11 = some (.getfield 27, 14, 27, 0) := by decide +kernel
theorem xX0_fullest_14 : xdec cX0_fullest 14 = some (.iload_n 2, 15, 2, 0) := by decide +kernel
theorem xX0_fullest_15 : xdec cX0_fullest 15 = some (.iaload, 16, 0, 0) := by decide +kernel
theorem xX0_fullest_16 : xdec cX0_fullest 16 = some (.aload_n 0, 17, 0, 0) := by decide +kernel
theorem xX0_fullest_17 : xdec cX0_fullest 17 = some (.getfield 27, 20, 27, 0) := by decide +kernel
theorem xX0_fullest_20 : xdec cX0_fullest 20 = some (.iload_n 1, 21, 1, 0) := by decide +kernel
theorem xX0_fullest_21 : xdec cX0_fullest 21 = some (.iaload, 22, 0, 0) := by decide +kernel
theorem xX0_fullest_22 : xdec cX0_fullest 22 = some (.if_icmp .le 5, 25, 27, 0) := by decide +kernel
theorem xX0_fullest_25 : xdec cX0_fullest 25 = some (.iload_n 2, 26, 2, 0) := by decide +kernel
theorem xX0_fullest_26 : xdec cX0_fullest 26 = some (.istore_n 1, 27, 1, 0) := by decide +kernel
theorem xX0_fullest_27 : xdec cX0_fullest 27 = some (.iinc 2 1, 30, 2, 1) := by decide +kernel
theorem xX0_fullest_30 : xdec cX0_fullest 30 = some (.goto (-26), 33, 4, 0) := by decide +kernel
theorem xX0_fullest_33 : xdec cX0_fullest 33 = some (.iload_n 1, 34, 1, 0) := by decide +kernel
theorem xX0_fullest_34 : xdec cX0_fullest 34 = some (.ireturn, 35, 0, 0) := by decide +kernel
theorem xX0_platesInAll_0 : xdec cX0_platesInAll 0 = some (.iconst 0, 1, 0, 0) := by decide +kernel
theorem xX0_platesInAll_1 : xdec cX0_platesInAll 1 = some (.istore_n 1, 2, 1, 0) := by decide +kernel
theorem xX0_platesInAll_2 : xdec cX0_platesInAll 2 = some (.iconst 0, 3, 0, 0) := by decide +kernel
theorem xX0_platesInAll_3 : xdec cX0_platesInAll 3 = some (.istore_n 2, 4, 2, 0) := by decide +kernel
theorem xX0_platesInAll_4 : xdec cX0_platesInAll 4 = some (.iload_n 2, 5, 2, 0) := by decide +kernel
theorem xX0_platesInAll_5 : xdec cX0_platesInAll 5 = some (.bipush 10, 7, 0, 10) := by decide +kernel
theorem xX0_platesInAll_7 : xdec cX0_platesInAll 7 = some (.if_icmp .ge 18, 10, 25, 0) := by decide +kernel
theorem xX0_platesInAll_10 : xdec cX0_platesInAll 10 = some (.iload_n 1, 11, 1, 0) := by decide +kernel
theorem xX0_platesInAll_11 : xdec cX0_platesInAll 11 = some (.aload_n 0, 12, 0, 0) := by decide +kernel
theorem xX0_platesInAll_12 : xdec cX0_platesInAll 12 = some (.getfield 27, 15, 27, 0) := by decide +kernel
theorem xX0_platesInAll_15 : xdec cX0_platesInAll 15 = some (.iload_n 2, 16, 2, 0) := by decide +kernel
theorem xX0_platesInAll_16 : xdec cX0_platesInAll 16 = some (.iaload, 17, 0, 0) := by decide +kernel
theorem xX0_platesInAll_17 : xdec cX0_platesInAll 17 = some (.iadd, 18, 0, 0) := by decide +kernel
theorem xX0_platesInAll_18 : xdec cX0_platesInAll 18 = some (.istore_n 1, 19, 1, 0) := by decide +kernel
theorem xX0_platesInAll_19 : xdec cX0_platesInAll 19 = some (.iinc 2 1, 22, 2, 1) := by decide +kernel
theorem xX0_platesInAll_22 : xdec cX0_platesInAll 22 = some (.goto (-18), 25, 4, 0) := by decide +kernel
theorem xX0_platesInAll_25 : xdec cX0_platesInAll 25 = some (.iload_n 1, 26, 1, 0) := by decide +kernel
theorem xX0_platesInAll_26 : xdec cX0_platesInAll 26 = some (.ireturn, 27, 0, 0) := by decide +kernel
theorem xX0_emptyPlates_0 : xdec cX0_emptyPlates 0 = some (.iconst 0, 1, 0, 0) := by decide +kernel
theorem xX0_emptyPlates_1 : xdec cX0_emptyPlates 1 = some (.istore_n 1, 2, 1, 0) := by decide +kernel
theorem xX0_emptyPlates_2 : xdec cX0_emptyPlates 2 = some (.iconst 0, 3, 0, 0) := by decide +kernel
theorem xX0_emptyPlates_3 : xdec cX0_emptyPlates 3 = some (.istore_n 2, 4, 2, 0) := by decide +kernel
theorem xX0_emptyPlates_4 : xdec cX0_emptyPlates 4 = some (.iload_n 2, 5, 2, 0) := by decide +kernel
theorem xX0_emptyPlates_5 : xdec cX0_emptyPlates 5 = some (.bipush 10, 7, 0, 10) := by decide +kernel
theorem xX0_emptyPlates_7 : xdec cX0_emptyPlates 7 = some (.if_icmp .ge 28, 10, 35, 0) := by decide +kernel
theorem xX0_emptyPlates_10 : xdec cX0_emptyPlates 10 = some (.iload_n 1, 11, 1, 0) := by decide +kernel
theorem xX0_emptyPlates_11 : xdec cX0_emptyPlates 11 = some (.aload_n 0, 12, 0, 0) := by decide +kernel
theorem xX0_emptyPlates_12 : xdec cX0_emptyPlates 12 = some (.getfield 27, 15, 27, 0) := by decide +kernel
theorem xX0_emptyPlates_15 : xdec cX0_emptyPlates 15 = some (.iload_n 2, 16, 2, 0) := by decide +kernel
theorem xX0_emptyPlates_16 : xdec cX0_emptyPlates 16 = some (.iaload, 17, 0, 0) := by decide +kernel
theorem xX0_emptyPlates_17 : xdec cX0_emptyPlates 17 = some (.ifCond .ne 9, 20, 26, 0) := by decide +kernel
theorem xX0_emptyPlates_20 : xdec cX0_emptyPlates 20 = some (.iconst 1, 21, 0, 1) := by decide +kernel
theorem xX0_emptyPlates_21 : xdec cX0_emptyPlates 21 = some (.iload_n 2, 22, 2, 0) := by decide +kernel
theorem xX0_emptyPlates_22 : xdec cX0_emptyPlates 22 = some (.ishl, 23, 0, 0) := by decide +kernel
theorem xX0_emptyPlates_23 : xdec cX0_emptyPlates 23 = some (.goto 4, 26, 27, 0) := by decide +kernel
theorem xX0_emptyPlates_26 : xdec cX0_emptyPlates 26 = some (.iconst 0, 27, 0, 0) := by decide +kernel
theorem xX0_emptyPlates_27 : xdec cX0_emptyPlates 27 = some (.ior, 28, 0, 0) := by decide +kernel
theorem xX0_emptyPlates_28 : xdec cX0_emptyPlates 28 = some (.istore_n 1, 29, 1, 0) := by decide +kernel
theorem xX0_emptyPlates_29 : xdec cX0_emptyPlates 29 = some (.iinc 2 1, 32, 2, 1) := by decide +kernel
theorem xX0_emptyPlates_32 : xdec cX0_emptyPlates 32 = some (.goto (-28), 35, 4, 0) := by decide +kernel
theorem xX0_emptyPlates_35 : xdec cX0_emptyPlates 35 = some (.iload_n 1, 36, 1, 0) := by decide +kernel
theorem xX0_emptyPlates_36 : xdec cX0_emptyPlates 36 = some (.ireturn, 37, 0, 0) := by decide +kernel
theorem xX0_platesOf_0 : xdec cX0_platesOf 0 = some (.iconst 0, 1, 0, 0) := by decide +kernel
theorem xX0_platesOf_1 : xdec cX0_platesOf 1 = some (.istore_n 2, 2, 2, 0) := by decide +kernel
theorem xX0_platesOf_2 : xdec cX0_platesOf 2 = some (.iconst 0, 3, 0, 0) := by decide +kernel
theorem xX0_platesOf_3 : xdec cX0_platesOf 3 = some (.istore_n 3, 4, 3, 0) := by decide +kernel
theorem xX0_platesOf_4 : xdec cX0_platesOf 4 = some (.iload_n 3, 5, 3, 0) := by decide +kernel
theorem xX0_platesOf_5 : xdec cX0_platesOf 5 = some (.aload_n 0, 6, 0, 0) := by decide +kernel
theorem xX0_platesOf_6 : xdec cX0_platesOf 6 = some (.getfield 36, 9, 36, 0) := by decide +kernel
theorem xX0_platesOf_9 : xdec cX0_platesOf 9 = some (.if_icmp .ge 35, 12, 44, 0) := by decide +kernel
theorem xX0_platesOf_12 : xdec cX0_platesOf 12 = some (.iload_n 3, 13, 3, 0) := by decide +kernel
theorem xX0_platesOf_13 : xdec cX0_platesOf 13 = some (.aload_n 1, 14, 1, 0) := by decide +kernel
theorem xX0_platesOf_14 : xdec cX0_platesOf 14 = some (.arraylength, 15, 0, 0) := by decide +kernel
theorem xX0_platesOf_15 : xdec cX0_platesOf 15 = some (.if_icmp .ge 29, 18, 44, 0) := by decide +kernel
theorem xX0_platesOf_18 : xdec cX0_platesOf 18 = some (.iload_n 2, 19, 2, 0) := by decide +kernel
theorem xX0_platesOf_19 : xdec cX0_platesOf 19 = some (.aload_n 0, 20, 0, 0) := by decide +kernel
theorem xX0_platesOf_20 : xdec cX0_platesOf 20 = some (.iload_n 3, 21, 3, 0) := by decide +kernel
theorem xX0_platesOf_21 : xdec cX0_platesOf 21 = some (.invokevirtual 76, 24, 0, 0) := by decide +kernel
theorem xX0_platesOf_24 : xdec cX0_platesOf 24 = some (.ifCond .eq 11, 27, 35, 0) := by decide +kernel
theorem xX0_platesOf_27 : xdec cX0_platesOf 27 = some (.iconst 1, 28, 0, 1) := by decide +kernel
theorem xX0_platesOf_28 : xdec cX0_platesOf 28 = some (.aload_n 1, 29, 1, 0) := by decide +kernel
theorem xX0_platesOf_29 : xdec cX0_platesOf 29 = some (.iload_n 3, 30, 3, 0) := by decide +kernel
theorem xX0_platesOf_30 : xdec cX0_platesOf 30 = some (.iaload, 31, 0, 0) := by decide +kernel
theorem xX0_platesOf_31 : xdec cX0_platesOf 31 = some (.ishl, 32, 0, 0) := by decide +kernel
theorem xX0_platesOf_32 : xdec cX0_platesOf 32 = some (.goto 4, 35, 36, 0) := by decide +kernel
theorem xX0_platesOf_35 : xdec cX0_platesOf 35 = some (.iconst 0, 36, 0, 0) := by decide +kernel
theorem xX0_platesOf_36 : xdec cX0_platesOf 36 = some (.ior, 37, 0, 0) := by decide +kernel
theorem xX0_platesOf_37 : xdec cX0_platesOf 37 = some (.istore_n 2, 38, 2, 0) := by decide +kernel
theorem xX0_platesOf_38 : xdec cX0_platesOf 38 = some (.iinc 3 1, 41, 3, 1) := by decide +kernel
theorem xX0_platesOf_41 : xdec cX0_platesOf 41 = some (.goto (-37), 44, 4, 0) := by decide +kernel
theorem xX0_platesOf_44 : xdec cX0_platesOf 44 = some (.iload_n 2, 45, 2, 0) := by decide +kernel
theorem xX0_platesOf_45 : xdec cX0_platesOf 45 = some (.ireturn, 46, 0, 0) := by decide +kernel
