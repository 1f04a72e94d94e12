theorem xX5_init_0 : xdec cX5_init 0 = some (.aload_n 0, 1, 0, 0) := by decide +kernel
theorem xX5_init_1 : xdec cX5_init 1 = some (.invokespecial 1, 4, 0, 0) := by decide +kernel
theorem xX5_init_4 : xdec cX5_init 4 = some (.aload_n 0, 5, 0, 0) := by decide +kernel
theorem xX5_init_5 : xdec cX5_init 5 = some (.new 7, 8, 0, 0) := by decide +kernel
theorem xX5_init_8 : xdec cX5_init 8 = some (.dup, 9, 0, 0) := by decide +kernel
theorem xX5_init_9 : xdec cX5_init 9 = some (.invokespecial 9, 12, 0, 0) := by decide +kernel
theorem xX5_init_12 : xdec cX5_init 12 = some (.putfield 10, 15, 10, 0) := by decide +kernel
theorem xX5_init_15 : xdec cX5_init 15 = some (.aload_n 0, 16, 0, 0) := by decide +kernel
theorem xX5_init_16 : xdec cX5_init 16 = some (.new 7, 19, 0, 0) := by decide +kernel
theorem xX5_init_19 : xdec cX5_init 19 = some (.dup, 20, 0, 0) := by decide +kernel
theorem xX5_init_20 : xdec cX5_init 20 = some (.invokespecial 9, 23, 0, 0) := by decide +kernel
theorem xX5_init_23 : xdec cX5_init 23 = some (.putfield 16, 26, 16, 0) := by decide +kernel
theorem xX5_init_26 : xdec cX5_init 26 = some (.aload_n 0, 27, 0, 0) := by decide +kernel
theorem xX5_init_27 : xdec cX5_init 27 = some (.new 7, 30, 0, 0) := by decide +kernel
theorem xX5_init_30 : xdec cX5_init 30 = some (.dup, 31, 0, 0) := by decide +kernel
theorem xX5_init_31 : xdec cX5_init 31 = some (.invokespecial 9, 34, 0, 0) := by decide +kernel
theorem xX5_init_34 : xdec cX5_init 34 = some (.putfield 19, 37, 19, 0) := by decide +kernel
theorem xX5_init_37 : xdec cX5_init 37 = some (.aload_n 0, 38, 0, 0) := by decide +kernel
theorem xX5_init_38 : xdec cX5_init 38 = some (.iconst 0, 39, 0, 0) := by decide +kernel
theorem xX5_init_39 : xdec cX5_init 39 = some (.putfield 22, 42, 22, 0) := by decide +kernel
theorem xX5_init_42 : xdec cX5_init 42 = some (.aload_n 0, 43, 0, 0) := by decide +kernel
theorem xX5_init_43 : xdec cX5_init 43 = some (.bipush 8, 45, 0, 8) := by decide +kernel
theorem xX5_init_45 : xdec cX5_init 45 = some (.anewarray 26, 48, 0, 0) := by decide +kernel
theorem xX5_init_48 : xdec cX5_init 48 = some (.putfield 28, 51, 28, 0) := by decide +kernel
theorem xX5_init_51 : xdec cX5_init 51 = some (.iconst 0, 52, 0, 0) := by decide +kernel
theorem xX5_init_52 : xdec cX5_init 52 = some (.istore_n 1, 53, 1, 0) := by decide +kernel
theorem xX5_init_53 : xdec cX5_init 53 = some (.iload_n 1, 54, 1, 0) := by decide +kernel
theorem xX5_init_54 : xdec cX5_init 54 = some (.bipush 8, 56, 0, 8) := by decide +kernel
theorem xX5_init_56 : xdec cX5_init 56 = some (.if_icmp .ge 22, 59, 78, 0) := by decide +kernel
theorem xX5_init_59 : xdec cX5_init 59 = some (.aload_n 0, 60, 0, 0) := by decide +kernel
theorem xX5_init_60 : xdec cX5_init 60 = some (.getfield 28, 63, 28, 0) := by decide +kernel
theorem xX5_init_63 : xdec cX5_init 63 = some (.iload_n 1, 64, 1, 0) := by decide +kernel
theorem xX5_init_64 : xdec cX5_init 64 = some (.new 26, 67, 0, 0) := by decide +kernel
theorem xX5_init_67 : xdec cX5_init 67 = some (.dup, 68, 0, 0) := by decide +kernel
theorem xX5_init_68 : xdec cX5_init 68 = some (.invokespecial 32, 71, 0, 0) := by decide +kernel
theorem xX5_init_71 : xdec cX5_init 71 = some (.aastore, 72, 0, 0) := by decide +kernel
theorem xX5_init_72 : xdec cX5_init 72 = some (.iinc 1 1, 75, 1, 1) := by decide +kernel
theorem xX5_init_75 : xdec cX5_init 75 = some (.goto (-22), 78, 53, 0) := by decide +kernel
theorem xX5_init_78 : xdec cX5_init 78 = some (.aload_n 0, 79, 0, 0) := by decide +kernel
theorem xX5_init_79 : xdec cX5_init 79 = some (.new 33, 82, 0, 0) := by decide +kernel
theorem xX5_init_82 : xdec cX5_init 82 = some (.dup, 83, 0, 0) := by decide +kernel
theorem xX5_init_83 : xdec cX5_init 83 = some (.invokespecial 35, 86, 0, 0) := by decide +kernel
theorem xX5_init_86 : xdec cX5_init 86 = some (.putfield 36, 89, 36, 0) := by decide +kernel
theorem xX5_init_89 : xdec cX5_init 89 = some (.aload_n 0, 90, 0, 0) := by decide +kernel
theorem xX5_init_90 : xdec cX5_init 90 = some (.bipush 8, 92, 0, 8) := by decide +kernel
theorem xX5_init_92 : xdec cX5_init 92 = some (.newarray .int, 94, 0, 0) := by decide +kernel
theorem xX5_init_94 : xdec cX5_init 94 = some (.putfield 40, 97, 40, 0) := by decide +kernel
theorem xX5_init_97 : xdec cX5_init 97 = some (.return_, 98, 0, 0) := by decide +kernel
theorem xX5_inn_0 : xdec cX5_inn 0 = some (.aload_n 0, 1, 0, 0) := by decide +kernel
theorem xX5_inn_1 : xdec cX5_inn 1 = some (.iload_n 1, 2, 1, 0) := by decide +kernel
theorem xX5_inn_2 : xdec cX5_inn 2 = some (.invokevirtual 44, 5, 0, 0) := by decide +kernel
theorem xX5_inn_5 : xdec cX5_inn 5 = some (.istore_n 2, 6, 2, 0) := by decide +kernel
theorem xX5_inn_6 : xdec cX5_inn 6 = some (.iload_n 2, 7, 2, 0) := by decide +kernel
theorem xX5_inn_7 : xdec cX5_inn 7 = some (.ifCond .eq 5, 10, 12, 0) := by decide +kernel
theorem xX5_inn_10 : xdec cX5_inn 10 = some (.iload_n 2, 11, 2, 0) := by decide +kernel
theorem xX5_inn_11 : xdec cX5_inn 11 = some (.ireturn, 12, 0, 0) := by decide +kernel
theorem xX5_inn_12 : xdec cX5_inn 12 = some (.aload_n 0, 13, 0, 0) := by decide +kernel
theorem xX5_inn_13 : xdec cX5_inn 13 = some (.getfield 28, 16, 28, 0) := by decide +kernel
theorem xX5_inn_16 : xdec cX5_inn 16 = some (.iload_n 1, 17, 1, 0) := by decide +kernel
theorem xX5_inn_17 : xdec cX5_inn 17 = some (.aaload, 18, 0, 0) := by decide +kernel
theorem xX5_inn_18 : xdec cX5_inn 18 = some (.astore_n 3, 19, 3, 0) := by decide +kernel
theorem xX5_inn_19 : xdec cX5_inn 19 = some (.aload_n 3, 20, 3, 0) := by decide +kernel
theorem xX5_inn_20 : xdec cX5_inn 20 = some (.getfield 48, 23, 48, 0) := by decide +kernel
theorem xX5_inn_23 : xdec cX5_inn 23 = some (.ifCond .eq 6, 26, 29, 0) := by decide +kernel
theorem xX5_inn_26 : xdec cX5_inn 26 = some (.bipush (-12), 28, 0, (-12)) := by decide +kernel
theorem xX5_inn_28 : xdec cX5_inn 28 = some (.ireturn, 29, 0, 0) := by decide +kernel
theorem xX5_inn_29 : xdec cX5_inn 29 = some (.aload_n 3, 30, 3, 0) := by decide +kernel
theorem xX5_inn_30 : xdec cX5_inn 30 = some (.invokestatic 52, 33, 0, 0) := by decide +kernel
theorem xX5_inn_33 : xdec cX5_inn 33 = some (.istore 4, 35, 4, 0) := by decide +kernel
theorem xX5_inn_35 : xdec cX5_inn 35 = some (.iload 4, 37, 4, 0) := by decide +kernel
theorem xX5_inn_37 : xdec cX5_inn 37 = some (.ifCond .lt 10, 40, 47, 0) := by decide +kernel
theorem xX5_inn_40 : xdec cX5_inn 40 = some (.sipush (-1000), 43, 0, (-1000)) := by decide +kernel
theorem xX5_inn_43 : xdec cX5_inn 43 = some (.iload 4, 45, 4, 0) := by decide +kernel
theorem xX5_inn_45 : xdec cX5_inn 45 = some (.isub, 46, 0, 0) := by decide +kernel
theorem xX5_inn_46 : xdec cX5_inn 46 = some (.ireturn, 47, 0, 0) := by decide +kernel
theorem xX5_inn_47 : xdec cX5_inn 47 = some (.aload_n 0, 48, 0, 0) := by decide +kernel
theorem xX5_inn_48 : xdec cX5_inn 48 = some (.invokevirtual 58, 51, 0, 0) := by decide +kernel
theorem xX5_inn_51 : xdec cX5_inn 51 = some (.astore 5, 53, 5, 0) := by decide +kernel
theorem xX5_inn_53 : xdec cX5_inn 53 = some (.iconst 0, 54, 0, 0) := by decide +kernel
theorem xX5_inn_54 : xdec cX5_inn 54 = some (.istore 6, 56, 6, 0) := by decide +kernel
theorem xX5_inn_56 : xdec cX5_inn 56 = some (.iconst 0, 57, 0, 0) := by decide +kernel
theorem xX5_inn_57 : xdec cX5_inn 57 = some (.istore 7, 59, 7, 0) := by decide +kernel
theorem xX5_inn_59 : xdec cX5_inn 59 = some (.iload 7, 61, 7, 0) := by decide +kernel
theorem xX5_inn_61 : xdec cX5_inn 61 = some (.aload_n 3, 62, 3, 0) := by decide +kernel
theorem xX5_inn_62 : xdec cX5_inn 62 = some (.getfield 62, 65, 62, 0) := by decide +kernel
theorem xX5_inn_65 : xdec cX5_inn 65 = some (.if_icmp .ge 43, 68, 108, 0) := by decide +kernel
theorem xX5_inn_68 : xdec cX5_inn 68 = some (.aload_n 3, 69, 3, 0) := by decide +kernel
theorem xX5_inn_69 : xdec cX5_inn 69 = some (.getfield 65, 72, 65, 0) := by decide +kernel
theorem xX5_inn_72 : xdec cX5_inn 72 = some (.iload 7, 74, 7, 0) := by decide +kernel
theorem xX5_inn_74 : xdec cX5_inn 74 = some (.iaload, 75, 0, 0) := by decide +kernel
theorem xX5_inn_75 : xdec cX5_inn 75 = some (.invokestatic 68, 78, 0, 0) := by decide +kernel
theorem xX5_inn_78 : xdec cX5_inn 78 = some (.ifCond .eq 24, 81, 102, 0) := by decide +kernel
theorem xX5_inn_81 : xdec cX5_inn 81 = some (.aload_n 3, 82, 3, 0) := by decide +kernel
theorem xX5_inn_82 : xdec cX5_inn 82 = some (.iload 7, 84, 7, 0) := by decide +kernel
theorem xX5_inn_84 : xdec cX5_inn 84 = some (.aload 5, 86, 5, 0) := by decide +kernel
theorem xX5_inn_86 : xdec cX5_inn 86 = some (.invokestatic 72, 89, 0, 0) := by decide +kernel
theorem xX5_inn_89 : xdec cX5_inn 89 = some (.ifCond .ne 10, 92, 99, 0) := by decide +kernel
theorem xX5_inn_92 : xdec cX5_inn 92 = some (.sipush (-2000), 95, 0, (-2000)) := by decide +kernel
theorem xX5_inn_95 : xdec cX5_inn 95 = some (.iload 7, 97, 7, 0) := by decide +kernel
theorem xX5_inn_97 : xdec cX5_inn 97 = some (.isub, 98, 0, 0) := by decide +kernel
theorem xX5_inn_98 : xdec cX5_inn 98 = some (.ireturn, 99, 0, 0) := by decide +kernel
theorem xX5_inn_99 : xdec cX5_inn 99 = some (.iinc 6 1, 102, 6, 1) := by decide +kernel
theorem xX5_inn_102 : xdec cX5_inn 102 = some (.iinc 7 1, 105, 7, 1) := by decide +kernel
theorem xX5_inn_105 : xdec cX5_inn 105 = some (.goto (-46), 108, 59, 0) := by decide +kernel
theorem xX5_inn_108 : xdec cX5_inn 108 = some (.aload_n 0, 109, 0, 0) := by decide +kernel
theorem xX5_inn_109 : xdec cX5_inn 109 = some (.getfield 10, 112, 10, 0) := by decide +kernel
theorem xX5_inn_112 : xdec cX5_inn 112 = some (.aload 5, 114, 5, 0) := by decide +kernel
theorem xX5_inn_114 : xdec cX5_inn 114 = some (.invokevirtual 76, 117, 0, 0) := by decide +kernel
theorem xX5_inn_117 : xdec cX5_inn 117 = some (.iload 6, 119, 6, 0) := by decide +kernel
theorem xX5_inn_119 : xdec cX5_inn 119 = some (.ireturn, 120, 0, 0) := by decide +kernel
theorem xX5_guest_0 : xdec cX5_guest 0 = some (.aload_n 0, 1, 0, 0) := by decide +kernel
theorem xX5_guest_1 : xdec cX5_guest 1 = some (.getfield 10, 4, 10, 0) := by decide +kernel
theorem xX5_guest_4 : xdec cX5_guest 4 = some (.iload_n 1, 5, 1, 0) := by decide +kernel
theorem xX5_guest_5 : xdec cX5_guest 5 = some (.invokevirtual 80, 8, 0, 0) := by decide +kernel
theorem xX5_guest_8 : xdec cX5_guest 8 = some (.ifCond .ne 5, 11, 13, 0) := by decide +kernel
theorem xX5_guest_11 : xdec cX5_guest 11 = some (.iconst (-1), 12, 0, (-1)) := by decide +kernel
theorem xX5_guest_12 : xdec cX5_guest 12 = some (.ireturn, 13, 0, 0) := by decide +kernel
theorem xX5_guest_13 : xdec cX5_guest 13 = some (.iload_n 2, 14, 2, 0) := by decide +kernel
theorem xX5_guest_14 : xdec cX5_guest 14 = some (.tableswitch 169 0 7 #[46, 56, 66, 76, 86, 96, 113, 126], 60, 0, 0) := by decide +kernel
theorem xX5_guest_60 : xdec cX5_guest 60 = some (.aload_n 0, 61, 0, 0) := by decide +kernel
theorem xX5_guest_61 : xdec cX5_guest 61 = some (.getfield 10, 64, 10, 0) := by decide +kernel
theorem xX5_guest_64 : xdec cX5_guest 64 = some (.getfield 83, 67, 83, 0) := by decide +kernel
theorem xX5_guest_67 : xdec cX5_guest 67 = some (.iload_n 1, 68, 1, 0) := by decide +kernel
theorem xX5_guest_68 : xdec cX5_guest 68 = some (.iaload, 69, 0, 0) := by decide +kernel
theorem xX5_guest_69 : xdec cX5_guest 69 = some (.ireturn, 70, 0, 0) := by decide +kernel
theorem xX5_guest_70 : xdec cX5_guest 70 = some (.aload_n 0, 71, 0, 0) := by decide +kernel
theorem xX5_guest_71 : xdec cX5_guest 71 = some (.getfield 10, 74, 10, 0) := by decide +kernel
theorem xX5_guest_74 : xdec cX5_guest 74 = some (.getfield 86, 77, 86, 0) := by decide +kernel
theorem xX5_guest_77 : xdec cX5_guest 77 = some (.iload_n 1, 78, 1, 0) := by decide +kernel
theorem xX5_guest_78 : xdec cX5_guest 78 = some (.iaload, 79, 0, 0) := by decide +kernel
theorem xX5_guest_79 : xdec cX5_guest 79 = some (.ireturn, 80, 0, 0) := by decide +kernel
theorem xX5_guest_80 : xdec cX5_guest 80 = some (.aload_n 0, 81, 0, 0) := by decide +kernel
theorem xX5_guest_81 : xdec cX5_guest 81 = some (.getfield 10, 84, 10, 0) := by decide +kernel
theorem xX5_guest_84 : xdec cX5_guest 84 = some (.getfield 89, 87, 89, 0) := by decide +kernel
theorem xX5_guest_87 : xdec cX5_guest 87 = some (.iload_n 1, 88, 1, 0) := by decide +kernel
theorem xX5_guest_88 : xdec cX5_guest 88 = some (.iaload, 89, 0, 0) := by decide +kernel
theorem xX5_guest_89 : xdec cX5_guest 89 = some (.ireturn, 90, 0, 0) := by decide +kernel
theorem xX5_guest_90 : xdec cX5_guest 90 = some (.aload_n 0, 91, 0, 0) := by decide +kernel
theorem xX5_guest_91 : xdec cX5_guest 91 = some (.getfield 10, 94, 10, 0) := by decide +kernel
theorem xX5_guest_94 : xdec cX5_guest 94 = some (.getfield 92, 97, 92, 0) := by decide +kernel
theorem xX5_guest_97 : xdec cX5_guest 97 = some (.iload_n 1, 98, 1, 0) := by decide +kernel
theorem xX5_guest_98 : xdec cX5_guest 98 = some (.iaload, 99, 0, 0) := by decide +kernel
theorem xX5_guest_99 : xdec cX5_guest 99 = some (.ireturn, 100, 0, 0) := by decide +kernel
theorem xX5_guest_100 : xdec cX5_guest 100 = some (.aload_n 0, 101, 0, 0) := by decide +kernel
theorem xX5_guest_101 : xdec cX5_guest 101 = some (.getfield 10, 104, 10, 0) := by decide +kernel
theorem xX5_guest_104 : xdec cX5_guest 104 = some (.getfield 95, 107, 95, 0) := by decide +kernel
theorem xX5_guest_107 : xdec cX5_guest 107 = some (.iload_n 1, 108, 1, 0) := by decide +kernel
theorem xX5_guest_108 : xdec cX5_guest 108 = some (.iaload, 109, 0, 0) := by decide +kernel
theorem xX5_guest_109 : xdec cX5_guest 109 = some (.ireturn, 110, 0, 0) := by decide +kernel
theorem xX5_guest_110 : xdec cX5_guest 110 = some (.aload_n 0, 111, 0, 0) := by decide +kernel
theorem xX5_guest_111 : xdec cX5_guest 111 = some (.getfield 10, 114, 10, 0) := by decide +kernel
theorem xX5_guest_114 : xdec cX5_guest 114 = some (.iload_n 1, 115, 1, 0) := by decide +kernel
theorem xX5_guest_115 : xdec cX5_guest 115 = some (.invokevirtual 98, 118, 0, 0) := by decide +kernel
theorem xX5_guest_118 : xdec cX5_guest 118 = some (.ifCond .eq 7, 121, 125, 0) := by decide +kernel
theorem xX5_guest_121 : xdec cX5_guest 121 = some (.iconst 1, 122, 0, 1) := by decide +kernel
theorem xX5_guest_122 : xdec cX5_guest 122 = some (.goto 4, 125, 126, 0) := by decide +kernel
theorem xX5_guest_125 : xdec cX5_guest 125 = some (.iconst 0, 126, 0, 0) := by decide +kernel
theorem xX5_guest_126 : xdec cX5_guest 126 = some (.ireturn, 127, 0, 0) := by decide +kernel
theorem xX5_guest_127 : xdec cX5_guest 127 = some (.aload_n 0, 128, 0, 0) := by decide +kernel
theorem xX5_guest_128 : xdec cX5_guest 128 = some (.getfield 10, 131, 10, 0) := by decide +kernel
theorem xX5_guest_131 : xdec cX5_guest 131 = some (.getfield 83, 134, 83, 0) := by decide +kernel
theorem xX5_guest_134 : xdec cX5_guest 134 = some (.iload_n 1, 135, 1, 0) := by decide +kernel
theorem xX5_guest_135 : xdec cX5_guest 135 = some (.iaload, 136, 0, 0) := by decide +kernel
theorem xX5_guest_136 : xdec cX5_guest 136 = some (.invokestatic 101, 139, 0, 0) := by decide +kernel
theorem xX5_guest_139 : xdec cX5_guest 139 = some (.ireturn, 140, 0, 0) := by decide +kernel
theorem xX5_guest_140 : xdec cX5_guest 140 = some (.bipush 10, 142, 0, 10) := by decide +kernel
theorem xX5_guest_142 : xdec cX5_guest 142 = some (.aload_n 0, 143, 0, 0) := by decide +kernel
theorem xX5_guest_143 : xdec cX5_guest 143 = some (.getfield 10, 146, 10, 0) := by decide +kernel
theorem xX5_guest_146 : xdec cX5_guest 146 = some (.getfield 83, 149, 83, 0) := by decide +kernel
theorem xX5_guest_149 : xdec cX5_guest 149 = some (.iload_n 1, 150, 1, 0) := by decide +kernel
theorem xX5_guest_150 : xdec cX5_guest 150 = some (.iaload, 151, 0, 0) := by decide +kernel
theorem xX5_guest_151 : xdec cX5_guest 151 = some (.aload_n 0, 152, 0, 0) := by decide +kernel
theorem xX5_guest_152 : xdec cX5_guest 152 = some (.getfield 10, 155, 10, 0) := by decide +kernel
theorem xX5_guest_155 : xdec cX5_guest 155 = some (.getfield 86, 158, 86, 0) := by decide +kernel
theorem xX5_guest_158 : xdec cX5_guest 158 = some (.iload_n 1, 159, 1, 0) := by decide +kernel
theorem xX5_guest_159 : xdec cX5_guest 159 = some (.iaload, 160, 0, 0) := by decide +kernel
theorem xX5_guest_160 : xdec cX5_guest 160 = some (.aload_n 0, 161, 0, 0) := by decide +kernel
theorem xX5_guest_161 : xdec cX5_guest 161 = some (.getfield 10, 164, 10, 0) := by decide +kernel
theorem xX5_guest_164 : xdec cX5_guest 164 = some (.getfield 89, 167, 89, 0) := by decide +kernel
theorem xX5_guest_167 : xdec cX5_guest 167 = some (.iload_n 1, 168, 1, 0) := by decide +kernel
theorem xX5_guest_168 : xdec cX5_guest 168 = some (.iaload, 169, 0, 0) := by decide +kernel
theorem xX5_guest_169 : xdec cX5_guest 169 = some (.aload_n 0, 170, 0, 0) := by decide +kernel
theorem xX5_guest_170 : xdec cX5_guest 170 = some (.getfield 10, 173, 10, 0) := by decide +kernel
theorem xX5_guest_173 : xdec cX5_guest 173 = some (.getfield 92, 176, 92, 0) := by decide +kernel
theorem xX5_guest_176 : xdec cX5_guest 176 = some (.iload_n 1, 177, 1, 0) := by decide +kernel
theorem xX5_guest_177 : xdec cX5_guest 177 = some (.iaload, 178, 0, 0) := by decide +kernel
theorem xX5_guest_178 : xdec cX5_guest 178 = some (.invokestatic 106, 181, 0, 0) := by decide +kernel
theorem xX5_guest_181 : xdec cX5_guest 181 = some (.iadd, 182, 0, 0) := by decide +kernel
theorem xX5_guest_182 : xdec cX5_guest 182 = some (.ireturn, 183, 0, 0) := by decide +kernel
theorem xX5_guest_183 : xdec cX5_guest 183 = some (.iconst (-1), 184, 0, (-1)) := by decide +kernel
theorem xX5_guest_184 : xdec cX5_guest 184 = some (.ireturn, 185, 0, 0) := by decide +kernel
theorem xX5_larder_0 : xdec cX5_larder 0 = some (.iload_n 1, 1, 1, 0) := by decide +kernel
theorem xX5_larder_1 : xdec cX5_larder 1 = some (.invokestatic 110, 4, 0, 0) := by decide +kernel
theorem xX5_larder_4 : xdec cX5_larder 4 = some (.ifCond .eq 15, 7, 19, 0) := by decide +kernel
theorem xX5_larder_7 : xdec cX5_larder 7 = some (.aload_n 0, 8, 0, 0) := by decide +kernel
theorem xX5_larder_8 : xdec cX5_larder 8 = some (.getfield 10, 11, 10, 0) := by decide +kernel
theorem xX5_larder_11 : xdec cX5_larder 11 = some (.getfield 113, 14, 113, 0) := by decide +kernel
theorem xX5_larder_14 : xdec cX5_larder 14 = some (.iload_n 1, 15, 1, 0) := by decide +kernel
theorem xX5_larder_15 : xdec cX5_larder 15 = some (.iaload, 16, 0, 0) := by decide +kernel
theorem xX5_larder_16 : xdec cX5_larder 16 = some (.goto 4, 19, 20, 0) := by decide +kernel
theorem xX5_larder_19 : xdec cX5_larder 19 = some (.iconst (-1), 20, 0, (-1)) := by decide +kernel
theorem xX5_larder_20 : xdec cX5_larder 20 = some (.ireturn, 21, 0, 0) := by decide +kernel
theorem xX5_comes_0 : xdec cX5_comes 0 = some (.iload_n 2, 1, 2, 0) := by decide +kernel
theorem xX5_comes_1 : xdec cX5_comes 1 = some (.invokestatic 110, 4, 0, 0) := by decide +kernel
theorem xX5_comes_4 : xdec cX5_comes 4 = some (.ifCond .ne 5, 7, 9, 0) := by decide +kernel
theorem xX5_comes_7 : xdec cX5_comes 7 = some (.iconst (-1), 8, 0, (-1)) := by decide +kernel
theorem xX5_comes_8 : xdec cX5_comes 8 = some (.ireturn, 9, 0, 0) := by decide +kernel
theorem xX5_comes_9 : xdec cX5_comes 9 = some (.aload_n 0, 10, 0, 0) := by decide +kernel
theorem xX5_comes_10 : xdec cX5_comes 10 = some (.iload_n 1, 11, 1, 0) := by decide +kernel
theorem xX5_comes_11 : xdec cX5_comes 11 = some (.invokevirtual 116, 14, 0, 0) := by decide +kernel
theorem xX5_comes_14 : xdec cX5_comes 14 = some (.istore_n 3, 15, 3, 0) := by decide +kernel
theorem xX5_comes_15 : xdec cX5_comes 15 = some (.iload_n 3, 16, 3, 0) := by decide +kernel
theorem xX5_comes_16 : xdec cX5_comes 16 = some (.ifCond .eq 5, 19, 21, 0) := by decide +kernel
theorem xX5_comes_19 : xdec cX5_comes 19 = some (.iload_n 3, 20, 3, 0) := by decide +kernel
theorem xX5_comes_20 : xdec cX5_comes 20 = some (.ireturn, 21, 0, 0) := by decide +kernel
theorem xX5_comes_21 : xdec cX5_comes 21 = some (.aload_n 0, 22, 0, 0) := by decide +kernel
theorem xX5_comes_22 : xdec cX5_comes 22 = some (.getfield 10, 25, 10, 0) := by decide +kernel
theorem xX5_comes_25 : xdec cX5_comes 25 = some (.aload_n 0, 26, 0, 0) := by decide +kernel
theorem xX5_comes_26 : xdec cX5_comes 26 = some (.getfield 28, 29, 28, 0) := by decide +kernel
theorem xX5_comes_29 : xdec cX5_comes 29 = some (.iload_n 1, 30, 1, 0) := by decide +kernel
theorem xX5_comes_30 : xdec cX5_comes 30 = some (.aaload, 31, 0, 0) := by decide +kernel
theorem xX5_comes_31 : xdec cX5_comes 31 = some (.getfield 119, 34, 119, 0) := by decide +kernel
theorem xX5_comes_34 : xdec cX5_comes 34 = some (.aload_n 0, 35, 0, 0) := by decide +kernel
theorem xX5_comes_35 : xdec cX5_comes 35 = some (.getfield 28, 38, 28, 0) := by decide +kernel
theorem xX5_comes_38 : xdec cX5_comes 38 = some (.iload_n 1, 39, 1, 0) := by decide +kernel
theorem xX5_comes_39 : xdec cX5_comes 39 = some (.aaload, 40, 0, 0) := by decide +kernel
theorem xX5_comes_40 : xdec cX5_comes 40 = some (.getfield 122, 43, 122, 0) := by decide +kernel
theorem xX5_comes_43 : xdec cX5_comes 43 = some (.iload_n 2, 44, 2, 0) := by decide +kernel
theorem xX5_comes_44 : xdec cX5_comes 44 = some (.invokevirtual 125, 47, 0, 0) := by decide +kernel
theorem xX5_comes_47 : xdec cX5_comes 47 = some (.ireturn, 48, 0, 0) := by decide +kernel
theorem xX5_wishes_0 : xdec cX5_wishes 0 = some (.aload_n 0, 1, 0, 0) := by decide +kernel
theorem xX5_wishes_1 : xdec cX5_wishes 1 = some (.getfield 10, 4, 10, 0) := by decide +kernel
theorem xX5_wishes_4 : xdec cX5_wishes 4 = some (.iload_n 1, 5, 1, 0) := by decide +kernel
theorem xX5_wishes_5 : xdec cX5_wishes 5 = some (.invokevirtual 80, 8, 0, 0) := by decide +kernel
theorem xX5_wishes_8 : xdec cX5_wishes 8 = some (.ifCond .eq 10, 11, 18, 0) := by decide +kernel
theorem xX5_wishes_11 : xdec cX5_wishes 11 = some (.iload_n 2, 12, 2, 0) := by decide +kernel
theorem xX5_wishes_12 : xdec cX5_wishes 12 = some (.invokestatic 110, 15, 0, 0) := by decide +kernel
theorem xX5_wishes_15 : xdec cX5_wishes 15 = some (.ifCond .ne 5, 18, 20, 0) := by decide +kernel
theorem xX5_wishes_18 : xdec cX5_wishes 18 = some (.iconst (-1), 19, 0, (-1)) := by decide +kernel
theorem xX5_wishes_19 : xdec cX5_wishes 19 = some (.ireturn, 20, 0, 0) := by decide +kernel
theorem xX5_wishes_20 : xdec cX5_wishes 20 = some (.aload_n 0, 21, 0, 0) := by decide +kernel
theorem xX5_wishes_21 : xdec cX5_wishes 21 = some (.getfield 10, 24, 10, 0) := by decide +kernel
theorem xX5_wishes_24 : xdec cX5_wishes 24 = some (.getfield 89, 27, 89, 0) := by decide +kernel
theorem xX5_wishes_27 : xdec cX5_wishes 27 = some (.iload_n 1, 28, 1, 0) := by decide +kernel
theorem xX5_wishes_28 : xdec cX5_wishes 28 = some (.iaload, 29, 0, 0) := by decide +kernel
theorem xX5_wishes_29 : xdec cX5_wishes 29 = some (.istore_n 3, 30, 3, 0) := by decide +kernel
theorem xX5_wishes_30 : xdec cX5_wishes 30 = some (.aload_n 0, 31, 0, 0) := by decide +kernel
theorem xX5_wishes_31 : xdec cX5_wishes 31 = some (.getfield 10, 34, 10, 0) := by decide +kernel
theorem xX5_wishes_34 : xdec cX5_wishes 34 = some (.getfield 89, 37, 89, 0) := by decide +kernel
theorem xX5_wishes_37 : xdec cX5_wishes 37 = some (.iload_n 1, 38, 1, 0) := by decide +kernel
theorem xX5_wishes_38 : xdec cX5_wishes 38 = some (.iload_n 2, 39, 2, 0) := by decide +kernel
theorem xX5_wishes_39 : xdec cX5_wishes 39 = some (.iastore, 40, 0, 0) := by decide +kernel
theorem xX5_wishes_40 : xdec cX5_wishes 40 = some (.iload_n 3, 41, 3, 0) := by decide +kernel
theorem xX5_wishes_41 : xdec cX5_wishes 41 = some (.ireturn, 42, 0, 0) := by decide +kernel
theorem xX5_heals_0 : xdec cX5_heals 0 = some (.aload_n 0, 1, 0, 0) := by decide +kernel
theorem xX5_heals_1 : xdec cX5_heals 1 = some (.getfield 10, 4, 10, 0) := by decide +kernel
theorem xX5_heals_4 : xdec cX5_heals 4 = some (.iload_n 1, 5, 1, 0) := by decide +kernel
theorem xX5_heals_5 : xdec cX5_heals 5 = some (.invokevirtual 80, 8, 0, 0) := by decide +kernel
theorem xX5_heals_8 : xdec cX5_heals 8 = some (.ifCond .eq 13, 11, 21, 0) := by decide +kernel
theorem xX5_heals_11 : xdec cX5_heals 11 = some (.iload_n 2, 12, 2, 0) := by decide +kernel
theorem xX5_heals_12 : xdec cX5_heals 12 = some (.iconst 1, 13, 0, 1) := by decide +kernel
theorem xX5_heals_13 : xdec cX5_heals 13 = some (.bipush 99, 15, 0, 99) := by decide +kernel
theorem xX5_heals_15 : xdec cX5_heals 15 = some (.invokestatic 129, 18, 0, 0) := by decide +kernel
theorem xX5_heals_18 : xdec cX5_heals 18 = some (.ifCond .ne 5, 21, 23, 0) := by decide +kernel
theorem xX5_heals_21 : xdec cX5_heals 21 = some (.iconst (-1), 22, 0, (-1)) := by decide +kernel
theorem xX5_heals_22 : xdec cX5_heals 22 = some (.ireturn, 23, 0, 0) := by decide +kernel
theorem xX5_heals_23 : xdec cX5_heals 23 = some (.aload_n 0, 24, 0, 0) := by decide +kernel
theorem xX5_heals_24 : xdec cX5_heals 24 = some (.getfield 10, 27, 10, 0) := by decide +kernel
theorem xX5_heals_27 : xdec cX5_heals 27 = some (.iload_n 1, 28, 1, 0) := by decide +kernel
theorem xX5_heals_28 : xdec cX5_heals 28 = some (.invokevirtual 98, 31, 0, 0) := by decide +kernel
theorem xX5_heals_31 : xdec cX5_heals 31 = some (.ifCond .ne 6, 34, 37, 0) := by decide +kernel
theorem xX5_heals_34 : xdec cX5_heals 34 = some (.bipush (-3), 36, 0, (-3)) := by decide +kernel
theorem xX5_heals_36 : xdec cX5_heals 36 = some (.ireturn, 37, 0, 0) := by decide +kernel
theorem xX5_heals_37 : xdec cX5_heals 37 = some (.aload_n 0, 38, 0, 0) := by decide +kernel
theorem xX5_heals_38 : xdec cX5_heals 38 = some (.getfield 10, 41, 10, 0) := by decide +kernel
theorem xX5_heals_41 : xdec cX5_heals 41 = some (.getfield 95, 44, 95, 0) := by decide +kernel
theorem xX5_heals_44 : xdec cX5_heals 44 = some (.iload_n 1, 45, 1, 0) := by decide +kernel
theorem xX5_heals_45 : xdec cX5_heals 45 = some (.iaload, 46, 0, 0) := by decide +kernel
theorem xX5_heals_46 : xdec cX5_heals 46 = some (.istore_n 3, 47, 3, 0) := by decide +kernel
theorem xX5_heals_47 : xdec cX5_heals 47 = some (.aload_n 0, 48, 0, 0) := by decide +kernel
theorem xX5_heals_48 : xdec cX5_heals 48 = some (.getfield 10, 51, 10, 0) := by decide +kernel
theorem xX5_heals_51 : xdec cX5_heals 51 = some (.getfield 95, 54, 95, 0) := by decide +kernel
theorem xX5_heals_54 : xdec cX5_heals 54 = some (.iload_n 1, 55, 1, 0) := by decide +kernel
theorem xX5_heals_55 : xdec cX5_heals 55 = some (.iload_n 2, 56, 2, 0) := by decide +kernel
theorem xX5_heals_56 : xdec cX5_heals 56 = some (.iastore, 57, 0, 0) := by decide +kernel
theorem xX5_heals_57 : xdec cX5_heals 57 = some (.iload_n 3, 58, 3, 0) := by decide +kernel
theorem xX5_heals_58 : xdec cX5_heals 58 = some (.ireturn, 59, 0, 0) := by decide +kernel
theorem xX5_fills_0 : xdec cX5_fills 0 = some (.iload_n 1, 1, 1, 0) := by decide +kernel
theorem xX5_fills_1 : xdec cX5_fills 1 = some (.invokestatic 110, 4, 0, 0) := by decide +kernel
theorem xX5_fills_4 : xdec cX5_fills 4 = some (.ifCond .eq 13, 7, 17, 0) := by decide +kernel
theorem xX5_fills_7 : xdec cX5_fills 7 = some (.iload_n 2, 8, 2, 0) := by decide +kernel
theorem xX5_fills_8 : xdec cX5_fills 8 = some (.iconst 0, 9, 0, 0) := by decide +kernel
theorem xX5_fills_9 : xdec cX5_fills 9 = some (.bipush 99, 11, 0, 99) := by decide +kernel
theorem xX5_fills_11 : xdec cX5_fills 11 = some (.invokestatic 129, 14, 0, 0) := by decide +kernel
theorem xX5_fills_14 : xdec cX5_fills 14 = some (.ifCond .ne 5, 17, 19, 0) := by decide +kernel
theorem xX5_fills_17 : xdec cX5_fills 17 = some (.iconst (-1), 18, 0, (-1)) := by decide +kernel
theorem xX5_fills_18 : xdec cX5_fills 18 = some (.ireturn, 19, 0, 0) := by decide +kernel
theorem xX5_fills_19 : xdec cX5_fills 19 = some (.aload_n 0, 20, 0, 0) := by decide +kernel
theorem xX5_fills_20 : xdec cX5_fills 20 = some (.getfield 10, 23, 10, 0) := by decide +kernel
theorem xX5_fills_23 : xdec cX5_fills 23 = some (.getfield 113, 26, 113, 0) := by decide +kernel
theorem xX5_fills_26 : xdec cX5_fills 26 = some (.iload_n 1, 27, 1, 0) := by decide +kernel
theorem xX5_fills_27 : xdec cX5_fills 27 = some (.iaload, 28, 0, 0) := by decide +kernel
theorem xX5_fills_28 : xdec cX5_fills 28 = some (.istore_n 3, 29, 3, 0) := by decide +kernel
theorem xX5_fills_29 : xdec cX5_fills 29 = some (.aload_n 0, 30, 0, 0) := by decide +kernel
theorem xX5_fills_30 : xdec cX5_fills 30 = some (.getfield 10, 33, 10, 0) := by decide +kernel
theorem xX5_fills_33 : xdec cX5_fills 33 = some (.getfield 113, 36, 113, 0) := by decide +kernel
theorem xX5_fills_36 : xdec cX5_fills 36 = some (.iload_n 1, 37, 1, 0) := by decide +kernel
theorem xX5_fills_37 : xdec cX5_fills 37 = some (.iload_n 2, 38, 2, 0) := by decide +kernel
theorem xX5_fills_38 : xdec cX5_fills 38 = some (.iastore, 39, 0, 0) := by decide +kernel
theorem xX5_fills_39 : xdec cX5_fills 39 = some (.iload_n 3, 40, 3, 0) := by decide +kernel
theorem xX5_fills_40 : xdec cX5_fills 40 = some (.ireturn, 41, 0, 0) := by decide +kernel
theorem xX5_nights_0 : xdec cX5_nights 0 = some (.iload_n 1, 1, 1, 0) := by decide +kernel
theorem xX5_nights_1 : xdec cX5_nights 1 = some (.iconst 1, 2, 0, 1) := by decide +kernel
theorem xX5_nights_2 : xdec cX5_nights 2 = some (.bipush 60, 4, 0, 60) := by decide +kernel
theorem xX5_nights_4 : xdec cX5_nights 4 = some (.invokestatic 129, 7, 0, 0) := by decide +kernel
theorem xX5_nights_7 : xdec cX5_nights 7 = some (.ifCond .ne 5, 10, 12, 0) := by decide +kernel
theorem xX5_nights_10 : xdec cX5_nights 10 = some (.iconst (-1), 11, 0, (-1)) := by decide +kernel
theorem xX5_nights_11 : xdec cX5_nights 11 = some (.ireturn, 12, 0, 0) := by decide +kernel
theorem xX5_nights_12 : xdec cX5_nights 12 = some (.aload_n 0, 13, 0, 0) := by decide +kernel
theorem xX5_nights_13 : xdec cX5_nights 13 = some (.getfield 10, 16, 10, 0) := by decide +kernel
theorem xX5_nights_16 : xdec cX5_nights 16 = some (.getfield 133, 19, 133, 0) := by decide +kernel
theorem xX5_nights_19 : xdec cX5_nights 19 = some (.iload_n 1, 20, 1, 0) := by decide +kernel
theorem xX5_nights_20 : xdec cX5_nights 20 = some (.iadd, 21, 0, 0) := by decide +kernel
theorem xX5_nights_21 : xdec cX5_nights 21 = some (.sipush 999, 24, 0, 999) := by decide +kernel
theorem xX5_nights_24 : xdec cX5_nights 24 = some (.if_icmp .le 6, 27, 30, 0) := by decide +kernel
theorem xX5_nights_27 : xdec cX5_nights 27 = some (.bipush (-3), 29, 0, (-3)) := by decide +kernel
theorem xX5_nights_29 : xdec cX5_nights 29 = some (.ireturn, 30, 0, 0) := by decide +kernel
theorem xX5_nights_30 : xdec cX5_nights 30 = some (.aload_n 0, 31, 0, 0) := by decide +kernel
theorem xX5_nights_31 : xdec cX5_nights 31 = some (.getfield 10, 34, 10, 0) := by decide +kernel
theorem xX5_nights_34 : xdec cX5_nights 34 = some (.iload_n 1, 35, 1, 0) := by decide +kernel
theorem xX5_nights_35 : xdec cX5_nights 35 = some (.invokevirtual 136, 38, 0, 0) := by decide +kernel
theorem xX5_nights_38 : xdec cX5_nights 38 = some (.aload_n 0, 39, 0, 0) := by decide +kernel
theorem xX5_nights_39 : xdec cX5_nights 39 = some (.getfield 10, 42, 10, 0) := by decide +kernel
theorem xX5_nights_42 : xdec cX5_nights 42 = some (.getfield 140, 45, 140, 0) := by decide +kernel
theorem xX5_nights_45 : xdec cX5_nights 45 = some (.invokestatic 143, 48, 0, 0) := by decide +kernel
theorem xX5_nights_48 : xdec cX5_nights 48 = some (.ireturn, 49, 0, 0) := by decide +kernel
theorem xX5_guestThen_0 : xdec cX5_guestThen 0 = some (.aload_n 0, 1, 0, 0) := by decide +kernel
theorem xX5_guestThen_1 : xdec cX5_guestThen 1 = some (.getfield 10, 4, 10, 0) := by decide +kernel
theorem xX5_guestThen_4 : xdec cX5_guestThen 4 = some (.iload_n 1, 5, 1, 0) := by decide +kernel
theorem xX5_guestThen_5 : xdec cX5_guestThen 5 = some (.invokevirtual 80, 8, 0, 0) := by decide +kernel
theorem xX5_guestThen_8 : xdec cX5_guestThen 8 = some (.ifCond .eq 19, 11, 27, 0) := by decide +kernel
theorem xX5_guestThen_11 : xdec cX5_guestThen 11 = some (.iload_n 2, 12, 2, 0) := by decide +kernel
theorem xX5_guestThen_12 : xdec cX5_guestThen 12 = some (.invokestatic 148, 15, 0, 0) := by decide +kernel
theorem xX5_guestThen_15 : xdec cX5_guestThen 15 = some (.ifCond .eq 12, 18, 27, 0) := by decide +kernel
theorem xX5_guestThen_18 : xdec cX5_guestThen 18 = some (.iload_n 3, 19, 3, 0) := by decide +kernel
theorem xX5_guestThen_19 : xdec cX5_guestThen 19 = some (.iconst 0, 20, 0, 0) := by decide +kernel
theorem xX5_guestThen_20 : xdec cX5_guestThen 20 = some (.iconst 1, 21, 0, 1) := by decide +kernel
theorem xX5_guestThen_21 : xdec cX5_guestThen 21 = some (.invokestatic 129, 24, 0, 0) := by decide +kernel
theorem xX5_guestThen_24 : xdec cX5_guestThen 24 = some (.ifCond .ne 5, 27, 29, 0) := by decide +kernel
theorem xX5_guestThen_27 : xdec cX5_guestThen 27 = some (.iconst (-1), 28, 0, (-1)) := by decide +kernel
theorem xX5_guestThen_28 : xdec cX5_guestThen 28 = some (.ireturn, 29, 0, 0) := by decide +kernel
theorem xX5_guestThen_29 : xdec cX5_guestThen 29 = some (.aload_n 0, 30, 0, 0) := by decide +kernel
theorem xX5_guestThen_30 : xdec cX5_guestThen 30 = some (.invokevirtual 58, 33, 0, 0) := by decide +kernel
theorem xX5_guestThen_33 : xdec cX5_guestThen 33 = some (.astore 4, 35, 4, 0) := by decide +kernel
theorem xX5_guestThen_35 : xdec cX5_guestThen 35 = some (.aload 4, 37, 4, 0) := by decide +kernel
theorem xX5_guestThen_37 : xdec cX5_guestThen 37 = some (.iload_n 2, 38, 2, 0) := by decide +kernel
theorem xX5_guestThen_38 : xdec cX5_guestThen 38 = some (.invokevirtual 136, 41, 0, 0) := by decide +kernel
theorem xX5_guestThen_41 : xdec cX5_guestThen 41 = some (.iload_n 3, 42, 3, 0) := by decide +kernel
theorem xX5_guestThen_42 : xdec cX5_guestThen 42 = some (.ifCond .ne 13, 45, 55, 0) := by decide +kernel
theorem xX5_guestThen_45 : xdec cX5_guestThen 45 = some (.aload 4, 47, 4, 0) := by decide +kernel
theorem xX5_guestThen_47 : xdec cX5_guestThen 47 = some (.getfield 95, 50, 95, 0) := by decide +kernel
theorem xX5_guestThen_50 : xdec cX5_guestThen 50 = some (.iload_n 1, 51, 1, 0) := by decide +kernel
theorem xX5_guestThen_51 : xdec cX5_guestThen 51 = some (.iaload, 52, 0, 0) := by decide +kernel
theorem xX5_guestThen_52 : xdec cX5_guestThen 52 = some (.goto 10, 55, 62, 0) := by decide +kernel
theorem xX5_guestThen_55 : xdec cX5_guestThen 55 = some (.aload 4, 57, 4, 0) := by decide +kernel
theorem xX5_guestThen_57 : xdec cX5_guestThen 57 = some (.getfield 92, 60, 92, 0) := by decide +kernel
theorem xX5_guestThen_60 : xdec cX5_guestThen 60 = some (.iload_n 1, 61, 1, 0) := by decide +kernel
theorem xX5_guestThen_61 : xdec cX5_guestThen 61 = some (.iaload, 62, 0, 0) := by decide +kernel
theorem xX5_guestThen_62 : xdec cX5_guestThen 62 = some (.ireturn, 63, 0, 0) := by decide +kernel
theorem xX5_larderThen_0 : xdec cX5_larderThen 0 = some (.iload_n 1, 1, 1, 0) := by decide +kernel
theorem xX5_larderThen_1 : xdec cX5_larderThen 1 = some (.invokestatic 110, 4, 0, 0) := by decide +kernel
theorem xX5_larderThen_4 : xdec cX5_larderThen 4 = some (.ifCond .eq 10, 7, 14, 0) := by decide +kernel
theorem xX5_larderThen_7 : xdec cX5_larderThen 7 = some (.iload_n 2, 8, 2, 0) := by decide +kernel
theorem xX5_larderThen_8 : xdec cX5_larderThen 8 = some (.invokestatic 148, 11, 0, 0) := by decide +kernel
theorem xX5_larderThen_11 : xdec cX5_larderThen 11 = some (.ifCond .ne 5, 14, 16, 0) := by decide +kernel
theorem xX5_larderThen_14 : xdec cX5_larderThen 14 = some (.iconst (-1), 15, 0, (-1)) := by decide +kernel
theorem xX5_larderThen_15 : xdec cX5_larderThen 15 = some (.ireturn, 16, 0, 0) := by decide +kernel
theorem xX5_larderThen_16 : xdec cX5_larderThen 16 = some (.aload_n 0, 17, 0, 0) := by decide +kernel
theorem xX5_larderThen_17 : xdec cX5_larderThen 17 = some (.invokevirtual 58, 20, 0, 0) := by decide +kernel
theorem xX5_larderThen_20 : xdec cX5_larderThen 20 = some (.astore_n 3, 21, 3, 0) := by decide +kernel
theorem xX5_larderThen_21 : xdec cX5_larderThen 21 = some (.aload_n 3, 22, 3, 0) := by decide +kernel
theorem xX5_larderThen_22 : xdec cX5_larderThen 22 = some (.iload_n 2, 23, 2, 0) := by decide +kernel
theorem xX5_larderThen_23 : xdec cX5_larderThen 23 = some (.invokevirtual 136, 26, 0, 0) := by decide +kernel
theorem xX5_larderThen_26 : xdec cX5_larderThen 26 = some (.aload_n 3, 27, 3, 0) := by decide +kernel
theorem xX5_larderThen_27 : xdec cX5_larderThen 27 = some (.getfield 113, 30, 113, 0) := by decide +kernel
theorem xX5_larderThen_30 : xdec cX5_larderThen 30 = some (.iload_n 1, 31, 1, 0) := by decide +kernel
theorem xX5_larderThen_31 : xdec cX5_larderThen 31 = some (.iaload, 32, 0, 0) := by decide +kernel
theorem xX5_larderThen_32 : xdec cX5_larderThen 32 = some (.ireturn, 33, 0, 0) := by decide +kernel
theorem xX5_then_0 : xdec cX5_then 0 = some (.iload_n 1, 1, 1, 0) := by decide +kernel
theorem xX5_then_1 : xdec cX5_then 1 = some (.invokestatic 148, 4, 0, 0) := by decide +kernel
theorem xX5_then_4 : xdec cX5_then 4 = some (.ifCond .eq 12, 7, 16, 0) := by decide +kernel
theorem xX5_then_7 : xdec cX5_then 7 = some (.iload_n 2, 8, 2, 0) := by decide +kernel
theorem xX5_then_8 : xdec cX5_then 8 = some (.iconst 0, 9, 0, 0) := by decide +kernel
theorem xX5_then_9 : xdec cX5_then 9 = some (.iconst 2, 10, 0, 2) := by decide +kernel
theorem xX5_then_10 : xdec cX5_then 10 = some (.invokestatic 129, 13, 0, 0) := by decide +kernel
theorem xX5_then_13 : xdec cX5_then 13 = some (.ifCond .ne 5, 16, 18, 0) := by decide +kernel
theorem xX5_then_16 : xdec cX5_then 16 = some (.iconst (-1), 17, 0, (-1)) := by decide +kernel
theorem xX5_then_17 : xdec cX5_then 17 = some (.ireturn, 18, 0, 0) := by decide +kernel
theorem xX5_then_18 : xdec cX5_then 18 = some (.aload_n 0, 19, 0, 0) := by decide +kernel
theorem xX5_then_19 : xdec cX5_then 19 = some (.invokevirtual 58, 22, 0, 0) := by decide +kernel
theorem xX5_then_22 : xdec cX5_then 22 = some (.astore_n 3, 23, 3, 0) := by decide +kernel
theorem xX5_then_23 : xdec cX5_then 23 = some (.aload_n 3, 24, 3, 0) := by decide +kernel
theorem xX5_then_24 : xdec cX5_then 24 = some (.iload_n 1, 25, 1, 0) := by decide +kernel
theorem xX5_then_25 : xdec cX5_then 25 = some (.invokevirtual 136, 28, 0, 0) := by decide +kernel
theorem xX5_then_28 : xdec cX5_then 28 = some (.iload_n 2, 29, 2, 0) := by decide +kernel
theorem xX5_then_29 : xdec cX5_then 29 = some (.ifCond .ne 8, 32, 37, 0) := by decide +kernel
theorem xX5_then_32 : xdec cX5_then 32 = some (.aload_n 3, 33, 3, 0) := by decide +kernel
theorem xX5_then_33 : xdec cX5_then 33 = some (.getfield 140, 36, 140, 0) := by decide +kernel
theorem xX5_then_36 : xdec cX5_then 36 = some (.ireturn, 37, 0, 0) := by decide +kernel
theorem xX5_then_37 : xdec cX5_then 37 = some (.iload_n 2, 38, 2, 0) := by decide +kernel
theorem xX5_then_38 : xdec cX5_then 38 = some (.iconst 1, 39, 0, 1) := by decide +kernel
theorem xX5_then_39 : xdec cX5_then 39 = some (.if_icmp .ne 10, 42, 49, 0) := by decide +kernel
theorem xX5_then_42 : xdec cX5_then 42 = some (.aload_n 3, 43, 3, 0) := by decide +kernel
theorem xX5_then_43 : xdec cX5_then 43 = some (.getfield 151, 46, 151, 0) := by decide +kernel
theorem xX5_then_46 : xdec cX5_then 46 = some (.goto 7, 49, 53, 0) := by decide +kernel
theorem xX5_then_49 : xdec cX5_then 49 = some (.aload_n 3, 50, 3, 0) := by decide +kernel
theorem xX5_then_50 : xdec cX5_then 50 = some (.getfield 154, 53, 154, 0) := by decide +kernel
theorem xX5_then_53 : xdec cX5_then 53 = some (.ireturn, 54, 0, 0) := by decide +kernel
theorem xX5_leaves_0 : xdec cX5_leaves 0 = some (.iload_n 1, 1, 1, 0) := by decide +kernel
theorem xX5_leaves_1 : xdec cX5_leaves 1 = some (.iconst (-1), 2, 0, (-1)) := by decide +kernel
theorem xX5_leaves_2 : xdec cX5_leaves 2 = some (.if_icmp .ne 8, 5, 10, 0) := by decide +kernel
theorem xX5_leaves_5 : xdec cX5_leaves 5 = some (.aload_n 0, 6, 0, 0) := by decide +kernel
theorem xX5_leaves_6 : xdec cX5_leaves 6 = some (.invokevirtual 157, 9, 0, 0) := by decide +kernel
theorem xX5_leaves_9 : xdec cX5_leaves 9 = some (.ireturn, 10, 0, 0) := by decide +kernel
theorem xX5_leaves_10 : xdec cX5_leaves 10 = some (.aload_n 0, 11, 0, 0) := by decide +kernel
theorem xX5_leaves_11 : xdec cX5_leaves 11 = some (.getfield 10, 14, 10, 0) := by decide +kernel
theorem xX5_leaves_14 : xdec cX5_leaves 14 = some (.iload_n 1, 15, 1, 0) := by decide +kernel
theorem xX5_leaves_15 : xdec cX5_leaves 15 = some (.invokevirtual 80, 18, 0, 0) := by decide +kernel
theorem xX5_leaves_18 : xdec cX5_leaves 18 = some (.ifCond .ne 5, 21, 23, 0) := by decide +kernel
theorem xX5_leaves_21 : xdec cX5_leaves 21 = some (.iconst (-1), 22, 0, (-1)) := by decide +kernel
theorem xX5_leaves_22 : xdec cX5_leaves 22 = some (.ireturn, 23, 0, 0) := by decide +kernel
theorem xX5_leaves_23 : xdec cX5_leaves 23 = some (.aload_n 0, 24, 0, 0) := by decide +kernel
theorem xX5_leaves_24 : xdec cX5_leaves 24 = some (.invokevirtual 58, 27, 0, 0) := by decide +kernel
theorem xX5_leaves_27 : xdec cX5_leaves 27 = some (.astore_n 2, 28, 2, 0) := by decide +kernel
theorem xX5_leaves_28 : xdec cX5_leaves 28 = some (.iconst 0, 29, 0, 0) := by decide +kernel
theorem xX5_leaves_29 : xdec cX5_leaves 29 = some (.istore_n 3, 30, 3, 0) := by decide +kernel
theorem xX5_leaves_30 : xdec cX5_leaves 30 = some (.iload_n 3, 31, 3, 0) := by decide +kernel
theorem xX5_leaves_31 : xdec cX5_leaves 31 = some (.bipush 60, 33, 0, 60) := by decide +kernel
theorem xX5_leaves_33 : xdec cX5_leaves 33 = some (.if_icmp .gt 24, 36, 57, 0) := by decide +kernel
theorem xX5_leaves_36 : xdec cX5_leaves 36 = some (.aload_n 2, 37, 2, 0) := by decide +kernel
theorem xX5_leaves_37 : xdec cX5_leaves 37 = some (.iload_n 1, 38, 1, 0) := by decide +kernel
theorem xX5_leaves_38 : xdec cX5_leaves 38 = some (.invokevirtual 98, 41, 0, 0) := by decide +kernel
theorem xX5_leaves_41 : xdec cX5_leaves 41 = some (.ifCond .ne 5, 44, 46, 0) := by decide +kernel
theorem xX5_leaves_44 : xdec cX5_leaves 44 = some (.iload_n 3, 45, 3, 0) := by decide +kernel
theorem xX5_leaves_45 : xdec cX5_leaves 45 = some (.ireturn, 46, 0, 0) := by decide +kernel
theorem xX5_leaves_46 : xdec cX5_leaves 46 = some (.aload_n 2, 47, 2, 0) := by decide +kernel
theorem xX5_leaves_47 : xdec cX5_leaves 47 = some (.iconst 1, 48, 0, 1) := by decide +kernel
theorem xX5_leaves_48 : xdec cX5_leaves 48 = some (.invokevirtual 136, 51, 0, 0) := by decide +kernel
theorem xX5_leaves_51 : xdec cX5_leaves 51 = some (.iinc 3 1, 54, 3, 1) := by decide +kernel
theorem xX5_leaves_54 : xdec cX5_leaves 54 = some (.goto (-24), 57, 30, 0) := by decide +kernel
theorem xX5_leaves_57 : xdec cX5_leaves 57 = some (.bipush (-4), 59, 0, (-4)) := by decide +kernel
theorem xX5_leaves_59 : xdec cX5_leaves 59 = some (.ireturn, 60, 0, 0) := by decide +kernel
theorem xX5_firstToLeave_0 : xdec cX5_firstToLeave 0 = some (.aload_n 0, 1, 0, 0) := by decide +kernel
theorem xX5_firstToLeave_1 : xdec cX5_firstToLeave 1 = some (.invokevirtual 58, 4, 0, 0) := by decide +kernel
theorem xX5_firstToLeave_4 : xdec cX5_firstToLeave 4 = some (.astore_n 1, 5, 1, 0) := by decide +kernel
theorem xX5_firstToLeave_5 : xdec cX5_firstToLeave 5 = some (.iconst 0, 6, 0, 0) := by decide +kernel
theorem xX5_firstToLeave_6 : xdec cX5_firstToLeave 6 = some (.istore_n 2, 7, 2, 0) := by decide +kernel
theorem xX5_firstToLeave_7 : xdec cX5_firstToLeave 7 = some (.iload_n 2, 8, 2, 0) := by decide +kernel
theorem xX5_firstToLeave_8 : xdec cX5_firstToLeave 8 = some (.bipush 60, 10, 0, 60) := by decide +kernel
theorem xX5_firstToLeave_10 : xdec cX5_firstToLeave 10 = some (.if_icmp .ge 38, 13, 48, 0) := by decide +kernel
theorem xX5_firstToLeave_13 : xdec cX5_firstToLeave 13 = some (.aload_n 1, 14, 1, 0) := by decide +kernel
theorem xX5_firstToLeave_14 : xdec cX5_firstToLeave 14 = some (.iconst 1, 15, 0, 1) := by decide +kernel
theorem xX5_firstToLeave_15 : xdec cX5_firstToLeave 15 = some (.invokevirtual 136, 18, 0, 0) := by decide +kernel
theorem xX5_firstToLeave_18 : xdec cX5_firstToLeave 18 = some (.aload_n 0, 19, 0, 0) := by decide +kernel
theorem xX5_firstToLeave_19 : xdec cX5_firstToLeave 19 = some (.getfield 10, 22, 10, 0) := by decide +kernel
theorem xX5_firstToLeave_22 : xdec cX5_firstToLeave 22 = some (.getfield 140, 25, 140, 0) := by decide +kernel
theorem xX5_firstToLeave_25 : xdec cX5_firstToLeave 25 = some (.aload_n 1, 26, 1, 0) := by decide +kernel
theorem xX5_firstToLeave_26 : xdec cX5_firstToLeave 26 = some (.getfield 140, 29, 140, 0) := by decide +kernel
theorem xX5_firstToLeave_29 : xdec cX5_firstToLeave 29 = some (.iconst (-1), 30, 0, (-1)) := by decide +kernel
theorem xX5_firstToLeave_30 : xdec cX5_firstToLeave 30 = some (.ixor, 31, 0, 0) := by decide +kernel
theorem xX5_firstToLeave_31 : xdec cX5_firstToLeave 31 = some (.iand, 32, 0, 0) := by decide +kernel
theorem xX5_firstToLeave_32 : xdec cX5_firstToLeave 32 = some (.istore_n 3, 33, 3, 0) := by decide +kernel
theorem xX5_firstToLeave_33 : xdec cX5_firstToLeave 33 = some (.iload_n 3, 34, 3, 0) := by decide +kernel
theorem xX5_firstToLeave_34 : xdec cX5_firstToLeave 34 = some (.ifCond .eq 8, 37, 42, 0) := by decide +kernel
theorem xX5_firstToLeave_37 : xdec cX5_firstToLeave 37 = some (.iload_n 3, 38, 3, 0) := by decide +kernel
theorem xX5_firstToLeave_38 : xdec cX5_firstToLeave 38 = some (.invokestatic 161, 41, 0, 0) := by decide +kernel
theorem xX5_firstToLeave_41 : xdec cX5_firstToLeave 41 = some (.ireturn, 42, 0, 0) := by decide +kernel
theorem xX5_firstToLeave_42 : xdec cX5_firstToLeave 42 = some (.iinc 2 1, 45, 2, 1) := by decide +kernel
theorem xX5_firstToLeave_45 : xdec cX5_firstToLeave 45 = some (.goto (-38), 48, 7, 0) := by decide +kernel
theorem xX5_firstToLeave_48 : xdec cX5_firstToLeave 48 = some (.bipush (-4), 50, 0, (-4)) := by decide +kernel
theorem xX5_firstToLeave_50 : xdec cX5_firstToLeave 50 = some (.ireturn, 51, 0, 0) := by decide +kernel
theorem xX5_out_0 : xdec cX5_out 0 = some (.iload_n 1, 1, 1, 0) := by decide +kernel
theorem xX5_out_1 : xdec cX5_out 1 = some (.invokestatic 110, 4, 0, 0) := by decide +kernel
theorem xX5_out_4 : xdec cX5_out 4 = some (.ifCond .ne 5, 7, 9, 0) := by decide +kernel
theorem xX5_out_7 : xdec cX5_out 7 = some (.iconst (-1), 8, 0, (-1)) := by decide +kernel
theorem xX5_out_8 : xdec cX5_out 8 = some (.ireturn, 9, 0, 0) := by decide +kernel
theorem xX5_out_9 : xdec cX5_out 9 = some (.aload_n 0, 10, 0, 0) := by decide +kernel
theorem xX5_out_10 : xdec cX5_out 10 = some (.invokevirtual 58, 13, 0, 0) := by decide +kernel
theorem xX5_out_13 : xdec cX5_out 13 = some (.astore_n 2, 14, 2, 0) := by decide +kernel
theorem xX5_out_14 : xdec cX5_out 14 = some (.iconst 0, 15, 0, 0) := by decide +kernel
theorem xX5_out_15 : xdec cX5_out 15 = some (.istore_n 3, 16, 3, 0) := by decide +kernel
theorem xX5_out_16 : xdec cX5_out 16 = some (.iload_n 3, 17, 3, 0) := by decide +kernel
theorem xX5_out_17 : xdec cX5_out 17 = some (.bipush 60, 19, 0, 60) := by decide +kernel
theorem xX5_out_19 : xdec cX5_out 19 = some (.if_icmp .gt 25, 22, 44, 0) := by decide +kernel
theorem xX5_out_22 : xdec cX5_out 22 = some (.aload_n 2, 23, 2, 0) := by decide +kernel
theorem xX5_out_23 : xdec cX5_out 23 = some (.getfield 113, 26, 113, 0) := by decide +kernel
theorem xX5_out_26 : xdec cX5_out 26 = some (.iload_n 1, 27, 1, 0) := by decide +kernel
theorem xX5_out_27 : xdec cX5_out 27 = some (.iaload, 28, 0, 0) := by decide +kernel
theorem xX5_out_28 : xdec cX5_out 28 = some (.ifCond .ne 5, 31, 33, 0) := by decide +kernel
theorem xX5_out_31 : xdec cX5_out 31 = some (.iload_n 3, 32, 3, 0) := by decide +kernel
theorem xX5_out_32 : xdec cX5_out 32 = some (.ireturn, 33, 0, 0) := by decide +kernel
theorem xX5_out_33 : xdec cX5_out 33 = some (.aload_n 2, 34, 2, 0) := by decide +kernel
theorem xX5_out_34 : xdec cX5_out 34 = some (.iconst 1, 35, 0, 1) := by decide +kernel
theorem xX5_out_35 : xdec cX5_out 35 = some (.invokevirtual 136, 38, 0, 0) := by decide +kernel
theorem xX5_out_38 : xdec cX5_out 38 = some (.iinc 3 1, 41, 3, 1) := by decide +kernel
theorem xX5_out_41 : xdec cX5_out 41 = some (.goto (-25), 44, 16, 0) := by decide +kernel
theorem xX5_out_44 : xdec cX5_out 44 = some (.bipush (-4), 46, 0, (-4)) := by decide +kernel
theorem xX5_out_46 : xdec cX5_out 46 = some (.ireturn, 47, 0, 0) := by decide +kernel
theorem xX5_table_0 : xdec cX5_table 0 = some (.aload_n 0, 1, 0, 0) := by decide +kernel
theorem xX5_table_1 : xdec cX5_table 1 = some (.getfield 10, 4, 10, 0) := by decide +kernel
theorem xX5_table_4 : xdec cX5_table 4 = some (.iload_n 1, 5, 1, 0) := by decide +kernel
theorem xX5_table_5 : xdec cX5_table 5 = some (.invokevirtual 80, 8, 0, 0) := by decide +kernel
theorem xX5_table_8 : xdec cX5_table 8 = some (.ifCond .eq 12, 11, 20, 0) := by decide +kernel
theorem xX5_table_11 : xdec cX5_table 11 = some (.iload_n 2, 12, 2, 0) := by decide +kernel
theorem xX5_table_12 : xdec cX5_table 12 = some (.iconst 0, 13, 0, 0) := by decide +kernel
theorem xX5_table_13 : xdec cX5_table 13 = some (.iconst 1, 14, 0, 1) := by decide +kernel
theorem xX5_table_14 : xdec cX5_table 14 = some (.invokestatic 129, 17, 0, 0) := by decide +kernel
theorem xX5_table_17 : xdec cX5_table 17 = some (.ifCond .ne 5, 20, 22, 0) := by decide +kernel
theorem xX5_table_20 : xdec cX5_table 20 = some (.iconst (-1), 21, 0, (-1)) := by decide +kernel
theorem xX5_table_21 : xdec cX5_table 21 = some (.ireturn, 22, 0, 0) := by decide +kernel
theorem xX5_table_22 : xdec cX5_table 22 = some (.iload_n 2, 23, 2, 0) := by decide +kernel
theorem xX5_table_23 : xdec cX5_table 23 = some (.ifCond .ne 12, 26, 35, 0) := by decide +kernel
theorem xX5_table_26 : xdec cX5_table 26 = some (.aload_n 0, 27, 0, 0) := by decide +kernel
theorem xX5_table_27 : xdec cX5_table 27 = some (.getfield 10, 30, 10, 0) := by decide +kernel
theorem xX5_table_30 : xdec cX5_table 30 = some (.iload_n 1, 31, 1, 0) := by decide +kernel
theorem xX5_table_31 : xdec cX5_table 31 = some (.invokevirtual 164, 34, 0, 0) := by decide +kernel
theorem xX5_table_34 : xdec cX5_table 34 = some (.ireturn, 35, 0, 0) := by decide +kernel
theorem xX5_table_35 : xdec cX5_table 35 = some (.aload_n 0, 36, 0, 0) := by decide +kernel
theorem xX5_table_36 : xdec cX5_table 36 = some (.invokevirtual 58, 39, 0, 0) := by decide +kernel
theorem xX5_table_39 : xdec cX5_table 39 = some (.astore_n 3, 40, 3, 0) := by decide +kernel
theorem xX5_table_40 : xdec cX5_table 40 = some (.aload_n 3, 41, 3, 0) := by decide +kernel
theorem xX5_table_41 : xdec cX5_table 41 = some (.iconst 1, 42, 0, 1) := by decide +kernel
theorem xX5_table_42 : xdec cX5_table 42 = some (.invokevirtual 136, 45, 0, 0) := by decide +kernel
theorem xX5_table_45 : xdec cX5_table 45 = some (.aload_n 3, 46, 3, 0) := by decide +kernel
theorem xX5_table_46 : xdec cX5_table 46 = some (.getfield 167, 49, 167, 0) := by decide +kernel
theorem xX5_table_49 : xdec cX5_table 49 = some (.iload_n 1, 50, 1, 0) := by decide +kernel
theorem xX5_table_50 : xdec cX5_table 50 = some (.ishr, 51, 0, 0) := by decide +kernel
theorem xX5_table_51 : xdec cX5_table 51 = some (.iconst 1, 52, 0, 1) := by decide +kernel
theorem xX5_table_52 : xdec cX5_table 52 = some (.iand, 53, 0, 0) := by decide +kernel
theorem xX5_table_53 : xdec cX5_table 53 = some (.ireturn, 54, 0, 0) := by decide +kernel
theorem xX5_bestWish_0 : xdec cX5_bestWish 0 = some (.aload_n 0, 1, 0, 0) := by decide +kernel
theorem xX5_bestWish_1 : xdec cX5_bestWish 1 = some (.getfield 10, 4, 10, 0) := by decide +kernel
theorem xX5_bestWish_4 : xdec cX5_bestWish 4 = some (.iload_n 1, 5, 1, 0) := by decide +kernel
theorem xX5_bestWish_5 : xdec cX5_bestWish 5 = some (.invokevirtual 80, 8, 0, 0) := by decide +kernel
theorem xX5_bestWish_8 : xdec cX5_bestWish 8 = some (.ifCond .eq 19, 11, 27, 0) := by decide +kernel
theorem xX5_bestWish_11 : xdec cX5_bestWish 11 = some (.iload_n 2, 12, 2, 0) := by decide +kernel
theorem xX5_bestWish_12 : xdec cX5_bestWish 12 = some (.invokestatic 148, 15, 0, 0) := by decide +kernel
theorem xX5_bestWish_15 : xdec cX5_bestWish 15 = some (.ifCond .eq 12, 18, 27, 0) := by decide +kernel
theorem xX5_bestWish_18 : xdec cX5_bestWish 18 = some (.iload_n 3, 19, 3, 0) := by decide +kernel
theorem xX5_bestWish_19 : xdec cX5_bestWish 19 = some (.iconst 0, 20, 0, 0) := by decide +kernel
theorem xX5_bestWish_20 : xdec cX5_bestWish 20 = some (.iconst 1, 21, 0, 1) := by decide +kernel
theorem xX5_bestWish_21 : xdec cX5_bestWish 21 = some (.invokestatic 129, 24, 0, 0) := by decide +kernel
theorem xX5_bestWish_24 : xdec cX5_bestWish 24 = some (.ifCond .ne 5, 27, 29, 0) := by decide +kernel
theorem xX5_bestWish_27 : xdec cX5_bestWish 27 = some (.iconst (-1), 28, 0, (-1)) := by decide +kernel
theorem xX5_bestWish_28 : xdec cX5_bestWish 28 = some (.ireturn, 29, 0, 0) := by decide +kernel
theorem xX5_bestWish_29 : xdec cX5_bestWish 29 = some (.iconst 0, 30, 0, 0) := by decide +kernel
theorem xX5_bestWish_30 : xdec cX5_bestWish 30 = some (.istore 4, 32, 4, 0) := by decide +kernel
theorem xX5_bestWish_32 : xdec cX5_bestWish 32 = some (.iconst (-1), 33, 0, (-1)) := by decide +kernel
theorem xX5_bestWish_33 : xdec cX5_bestWish 33 = some (.istore 5, 35, 5, 0) := by decide +kernel
theorem xX5_bestWish_35 : xdec cX5_bestWish 35 = some (.iconst 0, 36, 0, 0) := by decide +kernel
theorem xX5_bestWish_36 : xdec cX5_bestWish 36 = some (.istore 6, 38, 6, 0) := by decide +kernel
theorem xX5_bestWish_38 : xdec cX5_bestWish 38 = some (.iload 6, 40, 6, 0) := by decide +kernel
theorem xX5_bestWish_40 : xdec cX5_bestWish 40 = some (.bipush 10, 42, 0, 10) := by decide +kernel
theorem xX5_bestWish_42 : xdec cX5_bestWish 42 = some (.if_icmp .ge 55, 45, 97, 0) := by decide +kernel
theorem xX5_bestWish_45 : xdec cX5_bestWish 45 = some (.aload_n 0, 46, 0, 0) := by decide +kernel
theorem xX5_bestWish_46 : xdec cX5_bestWish 46 = some (.invokevirtual 58, 49, 0, 0) := by decide +kernel
theorem xX5_bestWish_49 : xdec cX5_bestWish 49 = some (.astore 7, 51, 7, 0) := by decide +kernel
theorem xX5_bestWish_51 : xdec cX5_bestWish 51 = some (.aload 7, 53, 7, 0) := by decide +kernel
theorem xX5_bestWish_53 : xdec cX5_bestWish 53 = some (.getfield 89, 56, 89, 0) := by decide +kernel
theorem xX5_bestWish_56 : xdec cX5_bestWish 56 = some (.iload_n 1, 57, 1, 0) := by decide +kernel
theorem xX5_bestWish_57 : xdec cX5_bestWish 57 = some (.iload 6, 59, 6, 0) := by decide +kernel
theorem xX5_bestWish_59 : xdec cX5_bestWish 59 = some (.iastore, 60, 0, 0) := by decide +kernel
theorem xX5_bestWish_60 : xdec cX5_bestWish 60 = some (.aload 7, 62, 7, 0) := by decide +kernel
theorem xX5_bestWish_62 : xdec cX5_bestWish 62 = some (.iload_n 2, 63, 2, 0) := by decide +kernel
theorem xX5_bestWish_63 : xdec cX5_bestWish 63 = some (.invokevirtual 136, 66, 0, 0) := by decide +kernel
theorem xX5_bestWish_66 : xdec cX5_bestWish 66 = some (.aload 7, 68, 7, 0) := by decide +kernel
theorem xX5_bestWish_68 : xdec cX5_bestWish 68 = some (.getfield 95, 71, 95, 0) := by decide +kernel
theorem xX5_bestWish_71 : xdec cX5_bestWish 71 = some (.iload_n 1, 72, 1, 0) := by decide +kernel
theorem xX5_bestWish_72 : xdec cX5_bestWish 72 = some (.iaload, 73, 0, 0) := by decide +kernel
theorem xX5_bestWish_73 : xdec cX5_bestWish 73 = some (.iload 5, 75, 5, 0) := by decide +kernel
theorem xX5_bestWish_75 : xdec cX5_bestWish 75 = some (.if_icmp .le 16, 78, 91, 0) := by decide +kernel
theorem xX5_bestWish_78 : xdec cX5_bestWish 78 = some (.aload 7, 80, 7, 0) := by decide +kernel
theorem xX5_bestWish_80 : xdec cX5_bestWish 80 = some (.getfield 95, 83, 95, 0) := by decide +kernel
theorem xX5_bestWish_83 : xdec cX5_bestWish 83 = some (.iload_n 1, 84, 1, 0) := by decide +kernel
theorem xX5_bestWish_84 : xdec cX5_bestWish 84 = some (.iaload, 85, 0, 0) := by decide +kernel
theorem xX5_bestWish_85 : xdec cX5_bestWish 85 = some (.istore 5, 87, 5, 0) := by decide +kernel
theorem xX5_bestWish_87 : xdec cX5_bestWish 87 = some (.iload 6, 89, 6, 0) := by decide +kernel
theorem xX5_bestWish_89 : xdec cX5_bestWish 89 = some (.istore 4, 91, 4, 0) := by decide +kernel
theorem xX5_bestWish_91 : xdec cX5_bestWish 91 = some (.iinc 6 1, 94, 6, 1) := by decide +kernel
theorem xX5_bestWish_94 : xdec cX5_bestWish 94 = some (.goto (-56), 97, 38, 0) := by decide +kernel
theorem xX5_bestWish_97 : xdec cX5_bestWish 97 = some (.iload_n 3, 98, 3, 0) := by decide +kernel
theorem xX5_bestWish_98 : xdec cX5_bestWish 98 = some (.ifCond .ne 8, 101, 106, 0) := by decide +kernel
theorem xX5_bestWish_101 : xdec cX5_bestWish 101 = some (.iload 4, 103, 4, 0) := by decide +kernel
theorem xX5_bestWish_103 : xdec cX5_bestWish 103 = some (.goto 5, 106, 108, 0) := by decide +kernel
theorem xX5_bestWish_106 : xdec cX5_bestWish 106 = some (.iload 5, 108, 5, 0) := by decide +kernel
theorem xX5_bestWish_108 : xdec cX5_bestWish 108 = some (.ireturn, 109, 0, 0) := by decide +kernel
theorem xX5_buy_0 : xdec cX5_buy 0 = some (.iload_n 1, 1, 1, 0) := by decide +kernel
theorem xX5_buy_1 : xdec cX5_buy 1 = some (.invokestatic 148, 4, 0, 0) := by decide +kernel
theorem xX5_buy_4 : xdec cX5_buy 4 = some (.ifCond .ne 5, 7, 9, 0) := by decide +kernel
theorem xX5_buy_7 : xdec cX5_buy 7 = some (.iconst (-1), 8, 0, (-1)) := by decide +kernel
theorem xX5_buy_8 : xdec cX5_buy 8 = some (.ireturn, 9, 0, 0) := by decide +kernel
theorem xX5_buy_9 : xdec cX5_buy 9 = some (.aload_n 0, 10, 0, 0) := by decide +kernel
theorem xX5_buy_10 : xdec cX5_buy 10 = some (.invokevirtual 58, 13, 0, 0) := by decide +kernel
theorem xX5_buy_13 : xdec cX5_buy 13 = some (.astore_n 2, 14, 2, 0) := by decide +kernel
theorem xX5_buy_14 : xdec cX5_buy 14 = some (.aload_n 2, 15, 2, 0) := by decide +kernel
theorem xX5_buy_15 : xdec cX5_buy 15 = some (.iload_n 1, 16, 1, 0) := by decide +kernel
theorem xX5_buy_16 : xdec cX5_buy 16 = some (.invokevirtual 136, 19, 0, 0) := by decide +kernel
theorem xX5_buy_19 : xdec cX5_buy 19 = some (.aload_n 2, 20, 2, 0) := by decide +kernel
theorem xX5_buy_20 : xdec cX5_buy 20 = some (.getfield 154, 23, 154, 0) := by decide +kernel
theorem xX5_buy_23 : xdec cX5_buy 23 = some (.istore_n 3, 24, 3, 0) := by decide +kernel
theorem xX5_buy_24 : xdec cX5_buy 24 = some (.bipush (-4), 26, 0, (-4)) := by decide +kernel
theorem xX5_buy_26 : xdec cX5_buy 26 = some (.istore 4, 28, 4, 0) := by decide +kernel
theorem xX5_buy_28 : xdec cX5_buy 28 = some (.iconst 0, 29, 0, 0) := by decide +kernel
theorem xX5_buy_29 : xdec cX5_buy 29 = some (.istore 5, 31, 5, 0) := by decide +kernel
theorem xX5_buy_31 : xdec cX5_buy 31 = some (.iload 5, 33, 5, 0) := by decide +kernel
theorem xX5_buy_33 : xdec cX5_buy 33 = some (.bipush 10, 35, 0, 10) := by decide +kernel
theorem xX5_buy_35 : xdec cX5_buy 35 = some (.if_icmp .ge 43, 38, 78, 0) := by decide +kernel
theorem xX5_buy_38 : xdec cX5_buy 38 = some (.aload_n 0, 39, 0, 0) := by decide +kernel
theorem xX5_buy_39 : xdec cX5_buy 39 = some (.invokevirtual 58, 42, 0, 0) := by decide +kernel
theorem xX5_buy_42 : xdec cX5_buy 42 = some (.astore_n 2, 43, 2, 0) := by decide +kernel
theorem xX5_buy_43 : xdec cX5_buy 43 = some (.aload_n 2, 44, 2, 0) := by decide +kernel
theorem xX5_buy_44 : xdec cX5_buy 44 = some (.iload 5, 46, 5, 0) := by decide +kernel
theorem xX5_buy_46 : xdec cX5_buy 46 = some (.iconst 5, 47, 0, 5) := by decide +kernel
theorem xX5_buy_47 : xdec cX5_buy 47 = some (.invokevirtual 170, 50, 0, 0) := by decide +kernel
theorem xX5_buy_50 : xdec cX5_buy 50 = some (.aload_n 2, 51, 2, 0) := by decide +kernel
theorem xX5_buy_51 : xdec cX5_buy 51 = some (.iload_n 1, 52, 1, 0) := by decide +kernel
theorem xX5_buy_52 : xdec cX5_buy 52 = some (.invokevirtual 136, 55, 0, 0) := by decide +kernel
theorem xX5_buy_55 : xdec cX5_buy 55 = some (.aload_n 2, 56, 2, 0) := by decide +kernel
theorem xX5_buy_56 : xdec cX5_buy 56 = some (.getfield 154, 59, 154, 0) := by decide +kernel
theorem xX5_buy_59 : xdec cX5_buy 59 = some (.iload_n 3, 60, 3, 0) := by decide +kernel
theorem xX5_buy_60 : xdec cX5_buy 60 = some (.if_icmp .ge 12, 63, 72, 0) := by decide +kernel
theorem xX5_buy_63 : xdec cX5_buy 63 = some (.aload_n 2, 64, 2, 0) := by decide +kernel
theorem xX5_buy_64 : xdec cX5_buy 64 = some (.getfield 154, 67, 154, 0) := by decide +kernel
theorem xX5_buy_67 : xdec cX5_buy 67 = some (.istore_n 3, 68, 3, 0) := by decide +kernel
theorem xX5_buy_68 : xdec cX5_buy 68 = some (.iload 5, 70, 5, 0) := by decide +kernel
theorem xX5_buy_70 : xdec cX5_buy 70 = some (.istore 4, 72, 4, 0) := by decide +kernel
theorem xX5_buy_72 : xdec cX5_buy 72 = some (.iinc 5 1, 75, 5, 1) := by decide +kernel
theorem xX5_buy_75 : xdec cX5_buy 75 = some (.goto (-44), 78, 31, 0) := by decide +kernel
theorem xX5_buy_78 : xdec cX5_buy 78 = some (.iload 4, 80, 4, 0) := by decide +kernel
theorem xX5_buy_80 : xdec cX5_buy 80 = some (.ireturn, 81, 0, 0) := by decide +kernel
theorem xX5_least_0 : xdec cX5_least 0 = some (.iload_n 1, 1, 1, 0) := by decide +kernel
theorem xX5_least_1 : xdec cX5_least 1 = some (.invokestatic 110, 4, 0, 0) := by decide +kernel
theorem xX5_least_4 : xdec cX5_least 4 = some (.ifCond .eq 13, 7, 17, 0) := by decide +kernel
theorem xX5_least_7 : xdec cX5_least 7 = some (.iload_n 2, 8, 2, 0) := by decide +kernel
theorem xX5_least_8 : xdec cX5_least 8 = some (.iconst 1, 9, 0, 1) := by decide +kernel
theorem xX5_least_9 : xdec cX5_least 9 = some (.bipush 20, 11, 0, 20) := by decide +kernel
theorem xX5_least_11 : xdec cX5_least 11 = some (.invokestatic 129, 14, 0, 0) := by decide +kernel
theorem xX5_least_14 : xdec cX5_least 14 = some (.ifCond .ne 5, 17, 19, 0) := by decide +kernel
theorem xX5_least_17 : xdec cX5_least 17 = some (.iconst (-1), 18, 0, (-1)) := by decide +kernel
theorem xX5_least_18 : xdec cX5_least 18 = some (.ireturn, 19, 0, 0) := by decide +kernel
theorem xX5_least_19 : xdec cX5_least 19 = some (.iconst 0, 20, 0, 0) := by decide +kernel
theorem xX5_least_20 : xdec cX5_least 20 = some (.istore_n 3, 21, 3, 0) := by decide +kernel
theorem xX5_least_21 : xdec cX5_least 21 = some (.bipush 100, 23, 0, 100) := by decide +kernel
theorem xX5_least_23 : xdec cX5_least 23 = some (.istore 4, 25, 4, 0) := by decide +kernel
theorem xX5_least_25 : xdec cX5_least 25 = some (.iconst 0, 26, 0, 0) := by decide +kernel
theorem xX5_least_26 : xdec cX5_least 26 = some (.istore 5, 28, 5, 0) := by decide +kernel
theorem xX5_least_28 : xdec cX5_least 28 = some (.iload 5, 30, 5, 0) := by decide +kernel
theorem xX5_least_30 : xdec cX5_least 30 = some (.bipush 99, 32, 0, 99) := by decide +kernel
theorem xX5_least_32 : xdec cX5_least 32 = some (.if_icmp .gt 46, 35, 78, 0) := by decide +kernel
theorem xX5_least_35 : xdec cX5_least 35 = some (.iload_n 3, 36, 3, 0) := by decide +kernel
theorem xX5_least_36 : xdec cX5_least 36 = some (.iload 4, 38, 4, 0) := by decide +kernel
theorem xX5_least_38 : xdec cX5_least 38 = some (.if_icmp .ge 40, 41, 78, 0) := by decide +kernel
theorem xX5_least_41 : xdec cX5_least 41 = some (.iload_n 3, 42, 3, 0) := by decide +kernel
theorem xX5_least_42 : xdec cX5_least 42 = some (.iload 4, 44, 4, 0) := by decide +kernel
theorem xX5_least_44 : xdec cX5_least 44 = some (.iadd, 45, 0, 0) := by decide +kernel
theorem xX5_least_45 : xdec cX5_least 45 = some (.iconst 2, 46, 0, 2) := by decide +kernel
theorem xX5_least_46 : xdec cX5_least 46 = some (.idiv, 47, 0, 0) := by decide +kernel
theorem xX5_least_47 : xdec cX5_least 47 = some (.istore 6, 49, 6, 0) := by decide +kernel
theorem xX5_least_49 : xdec cX5_least 49 = some (.aload_n 0, 50, 0, 0) := by decide +kernel
theorem xX5_least_50 : xdec cX5_least 50 = some (.iload_n 1, 51, 1, 0) := by decide +kernel
theorem xX5_least_51 : xdec cX5_least 51 = some (.iload 6, 53, 6, 0) := by decide +kernel
theorem xX5_least_53 : xdec cX5_least 53 = some (.iload_n 2, 54, 2, 0) := by decide +kernel
theorem xX5_least_54 : xdec cX5_least 54 = some (.invokevirtual 174, 57, 0, 0) := by decide +kernel
theorem xX5_least_57 : xdec cX5_least 57 = some (.ifCond .eq 10, 60, 67, 0) := by decide +kernel
theorem xX5_least_60 : xdec cX5_least 60 = some (.iload 6, 62, 6, 0) := by decide +kernel
theorem xX5_least_62 : xdec cX5_least 62 = some (.istore 4, 64, 4, 0) := by decide +kernel
theorem xX5_least_64 : xdec cX5_least 64 = some (.goto 8, 67, 72, 0) := by decide +kernel
theorem xX5_least_67 : xdec cX5_least 67 = some (.iload 6, 69, 6, 0) := by decide +kernel
theorem xX5_least_69 : xdec cX5_least 69 = some (.iconst 1, 70, 0, 1) := by decide +kernel
theorem xX5_least_70 : xdec cX5_least 70 = some (.iadd, 71, 0, 0) := by decide +kernel
theorem xX5_least_71 : xdec cX5_least 71 = some (.istore_n 3, 72, 3, 0) := by decide +kernel
theorem xX5_least_72 : xdec cX5_least 72 = some (.iinc 5 1, 75, 5, 1) := by decide +kernel
theorem xX5_least_75 : xdec cX5_least 75 = some (.goto (-47), 78, 28, 0) := by decide +kernel
theorem xX5_least_78 : xdec cX5_least 78 = some (.iload_n 3, 79, 3, 0) := by decide +kernel
theorem xX5_least_79 : xdec cX5_least 79 = some (.bipush 99, 81, 0, 99) := by decide +kernel
theorem xX5_least_81 : xdec cX5_least 81 = some (.if_icmp .le 8, 84, 89, 0) := by decide +kernel
theorem xX5_least_84 : xdec cX5_least 84 = some (.bipush (-4), 86, 0, (-4)) := by decide +kernel
theorem xX5_least_86 : xdec cX5_least 86 = some (.goto 4, 89, 90, 0) := by decide +kernel
theorem xX5_least_89 : xdec cX5_least 89 = some (.iload_n 3, 90, 3, 0) := by decide +kernel
theorem xX5_least_90 : xdec cX5_least 90 = some (.ireturn, 91, 0, 0) := by decide +kernel
theorem xX5_suffices_0 : xdec cX5_suffices 0 = some (.aload_n 0, 1, 0, 0) := by decide +kernel
theorem xX5_suffices_1 : xdec cX5_suffices 1 = some (.invokevirtual 58, 4, 0, 0) := by decide +kernel
theorem xX5_suffices_4 : xdec cX5_suffices 4 = some (.astore 4, 6, 4, 0) := by decide +kernel
theorem xX5_suffices_6 : xdec cX5_suffices 6 = some (.aload 4, 8, 4, 0) := by decide +kernel
theorem xX5_suffices_8 : xdec cX5_suffices 8 = some (.getfield 113, 11, 113, 0) := by decide +kernel
theorem xX5_suffices_11 : xdec cX5_suffices 11 = some (.iload_n 1, 12, 1, 0) := by decide +kernel
theorem xX5_suffices_12 : xdec cX5_suffices 12 = some (.iload_n 2, 13, 2, 0) := by decide +kernel
theorem xX5_suffices_13 : xdec cX5_suffices 13 = some (.iastore, 14, 0, 0) := by decide +kernel
theorem xX5_suffices_14 : xdec cX5_suffices 14 = some (.aload 4, 16, 4, 0) := by decide +kernel
theorem xX5_suffices_16 : xdec cX5_suffices 16 = some (.iload_n 3, 17, 3, 0) := by decide +kernel
theorem xX5_suffices_17 : xdec cX5_suffices 17 = some (.invokevirtual 177, 20, 0, 0) := by decide +kernel
theorem xX5_suffices_20 : xdec cX5_suffices 20 = some (.ireturn, 21, 0, 0) := by decide +kernel
theorem xX5_send_0 : xdec cX5_send 0 = some (.iload_n 1, 1, 1, 0) := by decide +kernel
theorem xX5_send_1 : xdec cX5_send 1 = some (.invokestatic 148, 4, 0, 0) := by decide +kernel
theorem xX5_send_4 : xdec cX5_send 4 = some (.ifCond .ne 5, 7, 9, 0) := by decide +kernel
theorem xX5_send_7 : xdec cX5_send 7 = some (.iconst (-1), 8, 0, (-1)) := by decide +kernel
theorem xX5_send_8 : xdec cX5_send 8 = some (.ireturn, 9, 0, 0) := by decide +kernel
theorem xX5_send_9 : xdec cX5_send 9 = some (.iconst (-1), 10, 0, (-1)) := by decide +kernel
theorem xX5_send_10 : xdec cX5_send 10 = some (.istore_n 2, 11, 2, 0) := by decide +kernel
theorem xX5_send_11 : xdec cX5_send 11 = some (.bipush (-4), 13, 0, (-4)) := by decide +kernel
theorem xX5_send_13 : xdec cX5_send 13 = some (.istore_n 3, 14, 3, 0) := by decide +kernel
theorem xX5_send_14 : xdec cX5_send 14 = some (.iconst 0, 15, 0, 0) := by decide +kernel
theorem xX5_send_15 : xdec cX5_send 15 = some (.istore 4, 17, 4, 0) := by decide +kernel
theorem xX5_send_17 : xdec cX5_send 17 = some (.iload 4, 19, 4, 0) := by decide +kernel
theorem xX5_send_19 : xdec cX5_send 19 = some (.aload_n 0, 20, 0, 0) := by decide +kernel
theorem xX5_send_20 : xdec cX5_send 20 = some (.getfield 10, 23, 10, 0) := by decide +kernel
theorem xX5_send_23 : xdec cX5_send 23 = some (.getfield 180, 26, 180, 0) := by decide +kernel
theorem xX5_send_26 : xdec cX5_send 26 = some (.if_icmp .ge 79, 29, 105, 0) := by decide +kernel
theorem xX5_send_29 : xdec cX5_send 29 = some (.aload_n 0, 30, 0, 0) := by decide +kernel
theorem xX5_send_30 : xdec cX5_send 30 = some (.getfield 10, 33, 10, 0) := by decide +kernel
theorem xX5_send_33 : xdec cX5_send 33 = some (.iload 4, 35, 4, 0) := by decide +kernel
theorem xX5_send_35 : xdec cX5_send 35 = some (.invokevirtual 98, 38, 0, 0) := by decide +kernel
theorem xX5_send_38 : xdec cX5_send 38 = some (.ifCond .eq 61, 41, 99, 0) := by decide +kernel
theorem xX5_send_41 : xdec cX5_send 41 = some (.aload_n 0, 42, 0, 0) := by decide +kernel
theorem xX5_send_42 : xdec cX5_send 42 = some (.getfield 10, 45, 10, 0) := by decide +kernel
theorem xX5_send_45 : xdec cX5_send 45 = some (.getfield 140, 48, 140, 0) := by decide +kernel
theorem xX5_send_48 : xdec cX5_send 48 = some (.iconst 1, 49, 0, 1) := by decide +kernel
theorem xX5_send_49 : xdec cX5_send 49 = some (.iload 4, 51, 4, 0) := by decide +kernel
theorem xX5_send_51 : xdec cX5_send 51 = some (.ishl, 52, 0, 0) := by decide +kernel
theorem xX5_send_52 : xdec cX5_send 52 = some (.iconst (-1), 53, 0, (-1)) := by decide +kernel
theorem xX5_send_53 : xdec cX5_send 53 = some (.ixor, 54, 0, 0) := by decide +kernel
theorem xX5_send_54 : xdec cX5_send 54 = some (.iand, 55, 0, 0) := by decide +kernel
theorem xX5_send_55 : xdec cX5_send 55 = some (.istore 5, 57, 5, 0) := by decide +kernel
theorem xX5_send_57 : xdec cX5_send 57 = some (.aload_n 0, 58, 0, 0) := by decide +kernel
theorem xX5_send_58 : xdec cX5_send 58 = some (.iload 5, 60, 5, 0) := by decide +kernel
theorem xX5_send_60 : xdec cX5_send 60 = some (.iload 5, 62, 5, 0) := by decide +kernel
theorem xX5_send_62 : xdec cX5_send 62 = some (.iload_n 1, 63, 1, 0) := by decide +kernel
theorem xX5_send_63 : xdec cX5_send 63 = some (.invokevirtual 183, 66, 0, 0) := by decide +kernel
theorem xX5_send_66 : xdec cX5_send 66 = some (.istore 6, 68, 6, 0) := by decide +kernel
theorem xX5_send_68 : xdec cX5_send 68 = some (.iload 6, 70, 6, 0) := by decide +kernel
theorem xX5_send_70 : xdec cX5_send 70 = some (.iload_n 2, 71, 2, 0) := by decide +kernel
theorem xX5_send_71 : xdec cX5_send 71 = some (.if_icmp .le 28, 74, 99, 0) := by decide +kernel
theorem xX5_send_74 : xdec cX5_send 74 = some (.iload 6, 76, 6, 0) := by decide +kernel
theorem xX5_send_76 : xdec cX5_send 76 = some (.aload_n 0, 77, 0, 0) := by decide +kernel
theorem xX5_send_77 : xdec cX5_send 77 = some (.iload 5, 79, 5, 0) := by decide +kernel
theorem xX5_send_79 : xdec cX5_send 79 = some (.aload_n 0, 80, 0, 0) := by decide +kernel
theorem xX5_send_80 : xdec cX5_send 80 = some (.getfield 10, 83, 10, 0) := by decide +kernel
theorem xX5_send_83 : xdec cX5_send 83 = some (.getfield 140, 86, 140, 0) := by decide +kernel
theorem xX5_send_86 : xdec cX5_send 86 = some (.iload_n 1, 87, 1, 0) := by decide +kernel
theorem xX5_send_87 : xdec cX5_send 87 = some (.invokevirtual 183, 90, 0, 0) := by decide +kernel
theorem xX5_send_90 : xdec cX5_send 90 = some (.if_icmp .le 9, 93, 99, 0) := by decide +kernel
theorem xX5_send_93 : xdec cX5_send 93 = some (.iload 6, 95, 6, 0) := by decide +kernel
theorem xX5_send_95 : xdec cX5_send 95 = some (.istore_n 2, 96, 2, 0) := by decide +kernel
theorem xX5_send_96 : xdec cX5_send 96 = some (.iload 4, 98, 4, 0) := by decide +kernel
theorem xX5_send_98 : xdec cX5_send 98 = some (.istore_n 3, 99, 3, 0) := by decide +kernel
theorem xX5_send_99 : xdec cX5_send 99 = some (.iinc 4 1, 102, 4, 1) := by decide +kernel
theorem xX5_send_102 : xdec cX5_send 102 = some (.goto (-85), 105, 17, 0) := by decide +kernel
theorem xX5_send_105 : xdec cX5_send 105 = some (.iload_n 3, 106, 3, 0) := by decide +kernel
theorem xX5_send_106 : xdec cX5_send 106 = some (.ireturn, 107, 0, 0) := by decide +kernel
theorem xX5_healthThen_0 : xdec cX5_healthThen 0 = some (.aload_n 0, 1, 0, 0) := by decide +kernel
theorem xX5_healthThen_1 : xdec cX5_healthThen 1 = some (.invokevirtual 58, 4, 0, 0) := by decide +kernel
theorem xX5_healthThen_4 : xdec cX5_healthThen 4 = some (.astore 4, 6, 4, 0) := by decide +kernel
theorem xX5_healthThen_6 : xdec cX5_healthThen 6 = some (.aload 4, 8, 4, 0) := by decide +kernel
theorem xX5_healthThen_8 : xdec cX5_healthThen 8 = some (.iload_n 2, 9, 2, 0) := by decide +kernel
theorem xX5_healthThen_9 : xdec cX5_healthThen 9 = some (.putfield 140, 12, 140, 0) := by decide +kernel
theorem xX5_healthThen_12 : xdec cX5_healthThen 12 = some (.aload 4, 14, 4, 0) := by decide +kernel
theorem xX5_healthThen_14 : xdec cX5_healthThen 14 = some (.iload_n 3, 15, 3, 0) := by decide +kernel
theorem xX5_healthThen_15 : xdec cX5_healthThen 15 = some (.invokevirtual 136, 18, 0, 0) := by decide +kernel
theorem xX5_healthThen_18 : xdec cX5_healthThen 18 = some (.aload 4, 20, 4, 0) := by decide +kernel
theorem xX5_healthThen_20 : xdec cX5_healthThen 20 = some (.iload_n 1, 21, 1, 0) := by decide +kernel
theorem xX5_healthThen_21 : xdec cX5_healthThen 21 = some (.aload 4, 23, 4, 0) := by decide +kernel
theorem xX5_healthThen_23 : xdec cX5_healthThen 23 = some (.getfield 140, 26, 140, 0) := by decide +kernel
theorem xX5_healthThen_26 : xdec cX5_healthThen 26 = some (.iand, 27, 0, 0) := by decide +kernel
theorem xX5_healthThen_27 : xdec cX5_healthThen 27 = some (.invokevirtual 186, 30, 0, 0) := by decide +kernel
theorem xX5_healthThen_30 : xdec cX5_healthThen 30 = some (.ireturn, 31, 0, 0) := by decide +kernel
theorem xX5_seats_0 : xdec cX5_seats 0 = some (.iload_n 1, 1, 1, 0) := by decide +kernel
theorem xX5_seats_1 : xdec cX5_seats 1 = some (.ifCond .ge 5, 4, 6, 0) := by decide +kernel
theorem xX5_seats_4 : xdec cX5_seats 4 = some (.iconst (-1), 5, 0, (-1)) := by decide +kernel
theorem xX5_seats_5 : xdec cX5_seats 5 = some (.ireturn, 6, 0, 0) := by decide +kernel
theorem xX5_seats_6 : xdec cX5_seats 6 = some (.aload_n 0, 7, 0, 0) := by decide +kernel
theorem xX5_seats_7 : xdec cX5_seats 7 = some (.getfield 36, 10, 36, 0) := by decide +kernel
theorem xX5_seats_10 : xdec cX5_seats 10 = some (.aload_n 0, 11, 0, 0) := by decide +kernel
theorem xX5_seats_11 : xdec cX5_seats 11 = some (.getfield 10, 14, 10, 0) := by decide +kernel
theorem xX5_seats_14 : xdec cX5_seats 14 = some (.iload_n 1, 15, 1, 0) := by decide +kernel
theorem xX5_seats_15 : xdec cX5_seats 15 = some (.invokevirtual 189, 18, 0, 0) := by decide +kernel
theorem xX5_seats_18 : xdec cX5_seats 18 = some (.ireturn, 19, 0, 0) := by decide +kernel
theorem xX5_same_0 : xdec cX5_same 0 = some (.iload_n 1, 1, 1, 0) := by decide +kernel
theorem xX5_same_1 : xdec cX5_same 1 = some (.tableswitch 113 0 6 #[43, 51, 59, 67, 75, 83, 98], 44, 0, 0) := by decide +kernel
theorem xX5_same_44 : xdec cX5_same 44 = some (.aload_n 0, 45, 0, 0) := by decide +kernel
theorem xX5_same_45 : xdec cX5_same 45 = some (.getfield 10, 48, 10, 0) := by decide +kernel
theorem xX5_same_48 : xdec cX5_same 48 = some (.invokevirtual 193, 51, 0, 0) := by decide +kernel
theorem xX5_same_51 : xdec cX5_same 51 = some (.ireturn, 52, 0, 0) := by decide +kernel
theorem xX5_same_52 : xdec cX5_same 52 = some (.aload_n 0, 53, 0, 0) := by decide +kernel
theorem xX5_same_53 : xdec cX5_same 53 = some (.getfield 10, 56, 10, 0) := by decide +kernel
theorem xX5_same_56 : xdec cX5_same 56 = some (.invokevirtual 196, 59, 0, 0) := by decide +kernel
theorem xX5_same_59 : xdec cX5_same 59 = some (.ireturn, 60, 0, 0) := by decide +kernel
theorem xX5_same_60 : xdec cX5_same 60 = some (.aload_n 0, 61, 0, 0) := by decide +kernel
theorem xX5_same_61 : xdec cX5_same 61 = some (.getfield 10, 64, 10, 0) := by decide +kernel
theorem xX5_same_64 : xdec cX5_same 64 = some (.invokevirtual 199, 67, 0, 0) := by decide +kernel
theorem xX5_same_67 : xdec cX5_same 67 = some (.ireturn, 68, 0, 0) := by decide +kernel
theorem xX5_same_68 : xdec cX5_same 68 = some (.aload_n 0, 69, 0, 0) := by decide +kernel
theorem xX5_same_69 : xdec cX5_same 69 = some (.getfield 10, 72, 10, 0) := by decide +kernel
theorem xX5_same_72 : xdec cX5_same 72 = some (.invokevirtual 202, 75, 0, 0) := by decide +kernel
theorem xX5_same_75 : xdec cX5_same 75 = some (.ireturn, 76, 0, 0) := by decide +kernel
theorem xX5_same_76 : xdec cX5_same 76 = some (.aload_n 0, 77, 0, 0) := by decide +kernel
theorem xX5_same_77 : xdec cX5_same 77 = some (.getfield 10, 80, 10, 0) := by decide +kernel
theorem xX5_same_80 : xdec cX5_same 80 = some (.invokevirtual 205, 83, 0, 0) := by decide +kernel
theorem xX5_same_83 : xdec cX5_same 83 = some (.ireturn, 84, 0, 0) := by decide +kernel
theorem xX5_same_84 : xdec cX5_same 84 = some (.aload_n 0, 85, 0, 0) := by decide +kernel
theorem xX5_same_85 : xdec cX5_same 85 = some (.getfield 10, 88, 10, 0) := by decide +kernel
theorem xX5_same_88 : xdec cX5_same 88 = some (.aload_n 0, 89, 0, 0) := by decide +kernel
theorem xX5_same_89 : xdec cX5_same 89 = some (.getfield 10, 92, 10, 0) := by decide +kernel
theorem xX5_same_92 : xdec cX5_same 92 = some (.getfield 89, 95, 89, 0) := by decide +kernel
theorem xX5_same_95 : xdec cX5_same 95 = some (.invokevirtual 208, 98, 0, 0) := by decide +kernel
theorem xX5_same_98 : xdec cX5_same 98 = some (.ireturn, 99, 0, 0) := by decide +kernel
theorem xX5_same_99 : xdec cX5_same 99 = some (.aload_n 0, 100, 0, 0) := by decide +kernel
theorem xX5_same_100 : xdec cX5_same 100 = some (.getfield 10, 103, 10, 0) := by decide +kernel
theorem xX5_same_103 : xdec cX5_same 103 = some (.aload_n 0, 104, 0, 0) := by decide +kernel
theorem xX5_same_104 : xdec cX5_same 104 = some (.getfield 10, 107, 10, 0) := by decide +kernel
theorem xX5_same_107 : xdec cX5_same 107 = some (.getfield 92, 110, 92, 0) := by decide +kernel
theorem xX5_same_110 : xdec cX5_same 110 = some (.invokevirtual 208, 113, 0, 0) := by decide +kernel
theorem xX5_same_113 : xdec cX5_same 113 = some (.ireturn, 114, 0, 0) := by decide +kernel
theorem xX5_same_114 : xdec cX5_same 114 = some (.iconst (-1), 115, 0, (-1)) := by decide +kernel
theorem xX5_same_115 : xdec cX5_same 115 = some (.ireturn, 116, 0, 0) := by decide +kernel
theorem xX5_whatIs_0 : xdec cX5_whatIs 0 = some (.aload_n 0, 1, 0, 0) := by decide +kernel
theorem xX5_whatIs_1 : xdec cX5_whatIs 1 = some (.getfield 10, 4, 10, 0) := by decide +kernel
theorem xX5_whatIs_4 : xdec cX5_whatIs 4 = some (.iload_n 2, 5, 2, 0) := by decide +kernel
theorem xX5_whatIs_5 : xdec cX5_whatIs 5 = some (.invokevirtual 80, 8, 0, 0) := by decide +kernel
theorem xX5_whatIs_8 : xdec cX5_whatIs 8 = some (.ifCond .eq 12, 11, 20, 0) := by decide +kernel
theorem xX5_whatIs_11 : xdec cX5_whatIs 11 = some (.iload_n 3, 12, 3, 0) := by decide +kernel
theorem xX5_whatIs_12 : xdec cX5_whatIs 12 = some (.iconst 0, 13, 0, 0) := by decide +kernel
theorem xX5_whatIs_13 : xdec cX5_whatIs 13 = some (.iconst 1, 14, 0, 1) := by decide +kernel
theorem xX5_whatIs_14 : xdec cX5_whatIs 14 = some (.invokestatic 129, 17, 0, 0) := by decide +kernel
theorem xX5_whatIs_17 : xdec cX5_whatIs 17 = some (.ifCond .ne 5, 20, 22, 0) := by decide +kernel
theorem xX5_whatIs_20 : xdec cX5_whatIs 20 = some (.iconst (-1), 21, 0, (-1)) := by decide +kernel
theorem xX5_whatIs_21 : xdec cX5_whatIs 21 = some (.ireturn, 22, 0, 0) := by decide +kernel
theorem xX5_whatIs_22 : xdec cX5_whatIs 22 = some (.aload_n 0, 23, 0, 0) := by decide +kernel
theorem xX5_whatIs_23 : xdec cX5_whatIs 23 = some (.iload_n 1, 24, 1, 0) := by decide +kernel
theorem xX5_whatIs_24 : xdec cX5_whatIs 24 = some (.invokevirtual 44, 27, 0, 0) := by decide +kernel
theorem xX5_whatIs_27 : xdec cX5_whatIs 27 = some (.istore 4, 29, 4, 0) := by decide +kernel
theorem xX5_whatIs_29 : xdec cX5_whatIs 29 = some (.iload 4, 31, 4, 0) := by decide +kernel
theorem xX5_whatIs_31 : xdec cX5_whatIs 31 = some (.ifCond .eq 6, 34, 37, 0) := by decide +kernel
theorem xX5_whatIs_34 : xdec cX5_whatIs 34 = some (.iload 4, 36, 4, 0) := by decide +kernel
theorem xX5_whatIs_36 : xdec cX5_whatIs 36 = some (.ireturn, 37, 0, 0) := by decide +kernel
theorem xX5_whatIs_37 : xdec cX5_whatIs 37 = some (.iconst 0, 38, 0, 0) := by decide +kernel
theorem xX5_whatIs_38 : xdec cX5_whatIs 38 = some (.istore 5, 40, 5, 0) := by decide +kernel
theorem xX5_whatIs_40 : xdec cX5_whatIs 40 = some (.iload_n 3, 41, 3, 0) := by decide +kernel
theorem xX5_whatIs_41 : xdec cX5_whatIs 41 = some (.ifCond .ne 8, 44, 49, 0) := by decide +kernel
theorem xX5_whatIs_44 : xdec cX5_whatIs 44 = some (.bipush 8, 46, 0, 8) := by decide +kernel
theorem xX5_whatIs_46 : xdec cX5_whatIs 46 = some (.goto 5, 49, 51, 0) := by decide +kernel
theorem xX5_whatIs_49 : xdec cX5_whatIs 49 = some (.bipush 10, 51, 0, 10) := by decide +kernel
theorem xX5_whatIs_51 : xdec cX5_whatIs 51 = some (.istore 6, 53, 6, 0) := by decide +kernel
theorem xX5_whatIs_53 : xdec cX5_whatIs 53 = some (.iconst 0, 54, 0, 0) := by decide +kernel
theorem xX5_whatIs_54 : xdec cX5_whatIs 54 = some (.istore 7, 56, 7, 0) := by decide +kernel
theorem xX5_whatIs_56 : xdec cX5_whatIs 56 = some (.iload 7, 58, 7, 0) := by decide +kernel
theorem xX5_whatIs_58 : xdec cX5_whatIs 58 = some (.iload 6, 60, 6, 0) := by decide +kernel
theorem xX5_whatIs_60 : xdec cX5_whatIs 60 = some (.if_icmp .ge 64, 63, 124, 0) := by decide +kernel
theorem xX5_whatIs_63 : xdec cX5_whatIs 63 = some (.aload_n 0, 64, 0, 0) := by decide +kernel
theorem xX5_whatIs_64 : xdec cX5_whatIs 64 = some (.invokevirtual 58, 67, 0, 0) := by decide +kernel
theorem xX5_whatIs_67 : xdec cX5_whatIs 67 = some (.astore 8, 69, 8, 0) := by decide +kernel
theorem xX5_whatIs_69 : xdec cX5_whatIs 69 = some (.iload_n 3, 70, 3, 0) := by decide +kernel
theorem xX5_whatIs_70 : xdec cX5_whatIs 70 = some (.ifCond .ne 11, 73, 81, 0) := by decide +kernel
theorem xX5_whatIs_73 : xdec cX5_whatIs 73 = some (.aload 8, 75, 8, 0) := by decide +kernel
theorem xX5_whatIs_75 : xdec cX5_whatIs 75 = some (.getfield 83, 78, 83, 0) := by decide +kernel
theorem xX5_whatIs_78 : xdec cX5_whatIs 78 = some (.goto 8, 81, 86, 0) := by decide +kernel
theorem xX5_whatIs_81 : xdec cX5_whatIs 81 = some (.aload 8, 83, 8, 0) := by decide +kernel
theorem xX5_whatIs_83 : xdec cX5_whatIs 83 = some (.getfield 86, 86, 86, 0) := by decide +kernel
theorem xX5_whatIs_86 : xdec cX5_whatIs 86 = some (.astore 9, 88, 9, 0) := by decide +kernel
theorem xX5_whatIs_88 : xdec cX5_whatIs 88 = some (.aload 9, 90, 9, 0) := by decide +kernel
theorem xX5_whatIs_90 : xdec cX5_whatIs 90 = some (.iload_n 2, 91, 2, 0) := by decide +kernel
theorem xX5_whatIs_91 : xdec cX5_whatIs 91 = some (.iload 7, 93, 7, 0) := by decide +kernel
theorem xX5_whatIs_93 : xdec cX5_whatIs 93 = some (.iastore, 94, 0, 0) := by decide +kernel
theorem xX5_whatIs_94 : xdec cX5_whatIs 94 = some (.aload_n 0, 95, 0, 0) := by decide +kernel
theorem xX5_whatIs_95 : xdec cX5_whatIs 95 = some (.getfield 28, 98, 28, 0) := by decide +kernel
theorem xX5_whatIs_98 : xdec cX5_whatIs 98 = some (.iload_n 1, 99, 1, 0) := by decide +kernel
theorem xX5_whatIs_99 : xdec cX5_whatIs 99 = some (.aaload, 100, 0, 0) := by decide +kernel
theorem xX5_whatIs_100 : xdec cX5_whatIs 100 = some (.aload 8, 102, 8, 0) := by decide +kernel
theorem xX5_whatIs_102 : xdec cX5_whatIs 102 = some (.iload_n 2, 103, 2, 0) := by decide +kernel
theorem xX5_whatIs_103 : xdec cX5_whatIs 103 = some (.invokestatic 212, 106, 0, 0) := by decide +kernel
theorem xX5_whatIs_106 : xdec cX5_whatIs 106 = some (.ifCond .eq 12, 109, 118, 0) := by decide +kernel
theorem xX5_whatIs_109 : xdec cX5_whatIs 109 = some (.iload 5, 111, 5, 0) := by decide +kernel
theorem xX5_whatIs_111 : xdec cX5_whatIs 111 = some (.iconst 1, 112, 0, 1) := by decide +kernel
theorem xX5_whatIs_112 : xdec cX5_whatIs 112 = some (.iload 7, 114, 7, 0) := by decide +kernel
theorem xX5_whatIs_114 : xdec cX5_whatIs 114 = some (.ishl, 115, 0, 0) := by decide +kernel
theorem xX5_whatIs_115 : xdec cX5_whatIs 115 = some (.ior, 116, 0, 0) := by decide +kernel
theorem xX5_whatIs_116 : xdec cX5_whatIs 116 = some (.istore 5, 118, 5, 0) := by decide +kernel
theorem xX5_whatIs_118 : xdec cX5_whatIs 118 = some (.iinc 7 1, 121, 7, 1) := by decide +kernel
theorem xX5_whatIs_121 : xdec cX5_whatIs 121 = some (.goto (-65), 124, 56, 0) := by decide +kernel
theorem xX5_whatIs_124 : xdec cX5_whatIs 124 = some (.iload 5, 126, 5, 0) := by decide +kernel
theorem xX5_whatIs_126 : xdec cX5_whatIs 126 = some (.ireturn, 127, 0, 0) := by decide +kernel
theorem xX5_healthsAreSo_0 : xdec cX5_healthsAreSo 0 = some (.iconst 0, 1, 0, 0) := by decide +kernel
theorem xX5_healthsAreSo_1 : xdec cX5_healthsAreSo 1 = some (.istore_n 3, 2, 3, 0) := by decide +kernel
theorem xX5_healthsAreSo_2 : xdec cX5_healthsAreSo 2 = some (.iload_n 3, 3, 3, 0) := by decide +kernel
theorem xX5_healthsAreSo_3 : xdec cX5_healthsAreSo 3 = some (.aload_n 0, 4, 0, 0) := by decide +kernel
theorem xX5_healthsAreSo_4 : xdec cX5_healthsAreSo 4 = some (.getfield 62, 7, 62, 0) := by decide +kernel
theorem xX5_healthsAreSo_7 : xdec cX5_healthsAreSo 7 = some (.if_icmp .ge 30, 10, 37, 0) := by decide +kernel
theorem xX5_healthsAreSo_10 : xdec cX5_healthsAreSo 10 = some (.aload_n 0, 11, 0, 0) := by decide +kernel
theorem xX5_healthsAreSo_11 : xdec cX5_healthsAreSo 11 = some (.iload_n 3, 12, 3, 0) := by decide +kernel
theorem xX5_healthsAreSo_12 : xdec cX5_healthsAreSo 12 = some (.aload_n 1, 13, 1, 0) := by decide +kernel
theorem xX5_healthsAreSo_13 : xdec cX5_healthsAreSo 13 = some (.getfield 95, 16, 95, 0) := by decide +kernel
theorem xX5_healthsAreSo_16 : xdec cX5_healthsAreSo 16 = some (.iload_n 2, 17, 2, 0) := by decide +kernel
theorem xX5_healthsAreSo_17 : xdec cX5_healthsAreSo 17 = some (.iaload, 18, 0, 0) := by decide +kernel
theorem xX5_healthsAreSo_18 : xdec cX5_healthsAreSo 18 = some (.invokevirtual 216, 21, 0, 0) := by decide +kernel
theorem xX5_healthsAreSo_21 : xdec cX5_healthsAreSo 21 = some (.ifCond .ne 5, 24, 26, 0) := by decide +kernel
theorem xX5_healthsAreSo_24 : xdec cX5_healthsAreSo 24 = some (.iconst 0, 25, 0, 0) := by decide +kernel
theorem xX5_healthsAreSo_25 : xdec cX5_healthsAreSo 25 = some (.ireturn, 26, 0, 0) := by decide +kernel
theorem xX5_healthsAreSo_26 : xdec cX5_healthsAreSo 26 = some (.aload_n 1, 27, 1, 0) := by decide +kernel
theorem xX5_healthsAreSo_27 : xdec cX5_healthsAreSo 27 = some (.iconst 1, 28, 0, 1) := by decide +kernel
theorem xX5_healthsAreSo_28 : xdec cX5_healthsAreSo 28 = some (.invokevirtual 136, 31, 0, 0) := by decide +kernel
theorem xX5_healthsAreSo_31 : xdec cX5_healthsAreSo 31 = some (.iinc 3 1, 34, 3, 1) := by decide +kernel
theorem xX5_healthsAreSo_34 : xdec cX5_healthsAreSo 34 = some (.goto (-32), 37, 2, 0) := by decide +kernel
theorem xX5_healthsAreSo_37 : xdec cX5_healthsAreSo 37 = some (.iconst 1, 38, 0, 1) := by decide +kernel
theorem xX5_healthsAreSo_38 : xdec cX5_healthsAreSo 38 = some (.ireturn, 39, 0, 0) := by decide +kernel
theorem xX5_whatWish_0 : xdec cX5_whatWish 0 = some (.aload_n 0, 1, 0, 0) := by decide +kernel
theorem xX5_whatWish_1 : xdec cX5_whatWish 1 = some (.getfield 10, 4, 10, 0) := by decide +kernel
theorem xX5_whatWish_4 : xdec cX5_whatWish 4 = some (.iload_n 2, 5, 2, 0) := by decide +kernel
theorem xX5_whatWish_5 : xdec cX5_whatWish 5 = some (.invokevirtual 80, 8, 0, 0) := by decide +kernel
theorem xX5_whatWish_8 : xdec cX5_whatWish 8 = some (.ifCond .ne 5, 11, 13, 0) := by decide +kernel
theorem xX5_whatWish_11 : xdec cX5_whatWish 11 = some (.iconst (-1), 12, 0, (-1)) := by decide +kernel
theorem xX5_whatWish_12 : xdec cX5_whatWish 12 = some (.ireturn, 13, 0, 0) := by decide +kernel
theorem xX5_whatWish_13 : xdec cX5_whatWish 13 = some (.aload_n 0, 14, 0, 0) := by decide +kernel
theorem xX5_whatWish_14 : xdec cX5_whatWish 14 = some (.iload_n 1, 15, 1, 0) := by decide +kernel
theorem xX5_whatWish_15 : xdec cX5_whatWish 15 = some (.invokevirtual 44, 18, 0, 0) := by decide +kernel
theorem xX5_whatWish_18 : xdec cX5_whatWish 18 = some (.istore_n 3, 19, 3, 0) := by decide +kernel
theorem xX5_whatWish_19 : xdec cX5_whatWish 19 = some (.iload_n 3, 20, 3, 0) := by decide +kernel
theorem xX5_whatWish_20 : xdec cX5_whatWish 20 = some (.ifCond .eq 5, 23, 25, 0) := by decide +kernel
theorem xX5_whatWish_23 : xdec cX5_whatWish 23 = some (.iload_n 3, 24, 3, 0) := by decide +kernel
theorem xX5_whatWish_24 : xdec cX5_whatWish 24 = some (.ireturn, 25, 0, 0) := by decide +kernel
theorem xX5_whatWish_25 : xdec cX5_whatWish 25 = some (.iconst 0, 26, 0, 0) := by decide +kernel
theorem xX5_whatWish_26 : xdec cX5_whatWish 26 = some (.istore 4, 28, 4, 0) := by decide +kernel
theorem xX5_whatWish_28 : xdec cX5_whatWish 28 = some (.iconst 0, 29, 0, 0) := by decide +kernel
theorem xX5_whatWish_29 : xdec cX5_whatWish 29 = some (.istore 5, 31, 5, 0) := by decide +kernel
theorem xX5_whatWish_31 : xdec cX5_whatWish 31 = some (.iload 5, 33, 5, 0) := by decide +kernel
theorem xX5_whatWish_33 : xdec cX5_whatWish 33 = some (.bipush 10, 35, 0, 10) := by decide +kernel
theorem xX5_whatWish_35 : xdec cX5_whatWish 35 = some (.if_icmp .ge 48, 38, 83, 0) := by decide +kernel
theorem xX5_whatWish_38 : xdec cX5_whatWish 38 = some (.aload_n 0, 39, 0, 0) := by decide +kernel
theorem xX5_whatWish_39 : xdec cX5_whatWish 39 = some (.invokevirtual 58, 42, 0, 0) := by decide +kernel
theorem xX5_whatWish_42 : xdec cX5_whatWish 42 = some (.astore 6, 44, 6, 0) := by decide +kernel
theorem xX5_whatWish_44 : xdec cX5_whatWish 44 = some (.aload 6, 46, 6, 0) := by decide +kernel
theorem xX5_whatWish_46 : xdec cX5_whatWish 46 = some (.getfield 89, 49, 89, 0) := by decide +kernel
theorem xX5_whatWish_49 : xdec cX5_whatWish 49 = some (.iload_n 2, 50, 2, 0) := by decide +kernel
theorem xX5_whatWish_50 : xdec cX5_whatWish 50 = some (.iload 5, 52, 5, 0) := by decide +kernel
theorem xX5_whatWish_52 : xdec cX5_whatWish 52 = some (.iastore, 53, 0, 0) := by decide +kernel
theorem xX5_whatWish_53 : xdec cX5_whatWish 53 = some (.aload_n 0, 54, 0, 0) := by decide +kernel
theorem xX5_whatWish_54 : xdec cX5_whatWish 54 = some (.getfield 28, 57, 28, 0) := by decide +kernel
theorem xX5_whatWish_57 : xdec cX5_whatWish 57 = some (.iload_n 1, 58, 1, 0) := by decide +kernel
theorem xX5_whatWish_58 : xdec cX5_whatWish 58 = some (.aaload, 59, 0, 0) := by decide +kernel
theorem xX5_whatWish_59 : xdec cX5_whatWish 59 = some (.aload 6, 61, 6, 0) := by decide +kernel
theorem xX5_whatWish_61 : xdec cX5_whatWish 61 = some (.iload_n 2, 62, 2, 0) := by decide +kernel
theorem xX5_whatWish_62 : xdec cX5_whatWish 62 = some (.invokestatic 220, 65, 0, 0) := by decide +kernel
theorem xX5_whatWish_65 : xdec cX5_whatWish 65 = some (.ifCond .eq 12, 68, 77, 0) := by decide +kernel
theorem xX5_whatWish_68 : xdec cX5_whatWish 68 = some (.iload 4, 70, 4, 0) := by decide +kernel
theorem xX5_whatWish_70 : xdec cX5_whatWish 70 = some (.iconst 1, 71, 0, 1) := by decide +kernel
theorem xX5_whatWish_71 : xdec cX5_whatWish 71 = some (.iload 5, 73, 5, 0) := by decide +kernel
theorem xX5_whatWish_73 : xdec cX5_whatWish 73 = some (.ishl, 74, 0, 0) := by decide +kernel
theorem xX5_whatWish_74 : xdec cX5_whatWish 74 = some (.ior, 75, 0, 0) := by decide +kernel
theorem xX5_whatWish_75 : xdec cX5_whatWish 75 = some (.istore 4, 77, 4, 0) := by decide +kernel
theorem xX5_whatWish_77 : xdec cX5_whatWish 77 = some (.iinc 5 1, 80, 5, 1) := by decide +kernel
theorem xX5_whatWish_80 : xdec cX5_whatWish 80 = some (.goto (-49), 83, 31, 0) := by decide +kernel
theorem xX5_whatWish_83 : xdec cX5_whatWish 83 = some (.iload 4, 85, 4, 0) := by decide +kernel
theorem xX5_whatWish_85 : xdec cX5_whatWish 85 = some (.ireturn, 86, 0, 0) := by decide +kernel
theorem xX5_lastPlatesAreSo_0 : xdec cX5_lastPlatesAreSo 0 = some (.iconst 0, 1, 0, 0) := by decide +kernel
theorem xX5_lastPlatesAreSo_1 : xdec cX5_lastPlatesAreSo 1 = some (.istore_n 3, 2, 3, 0) := by decide +kernel
theorem xX5_lastPlatesAreSo_2 : xdec cX5_lastPlatesAreSo 2 = some (.iload_n 3, 3, 3, 0) := by decide +kernel
theorem xX5_lastPlatesAreSo_3 : xdec cX5_lastPlatesAreSo 3 = some (.aload_n 0, 4, 0, 0) := by decide +kernel
theorem xX5_lastPlatesAreSo_4 : xdec cX5_lastPlatesAreSo 4 = some (.getfield 62, 7, 62, 0) := by decide +kernel
theorem xX5_lastPlatesAreSo_7 : xdec cX5_lastPlatesAreSo 7 = some (.if_icmp .ge 30, 10, 37, 0) := by decide +kernel
theorem xX5_lastPlatesAreSo_10 : xdec cX5_lastPlatesAreSo 10 = some (.aload_n 1, 11, 1, 0) := by decide +kernel
theorem xX5_lastPlatesAreSo_11 : xdec cX5_lastPlatesAreSo 11 = some (.iconst 1, 12, 0, 1) := by decide +kernel
theorem xX5_lastPlatesAreSo_12 : xdec cX5_lastPlatesAreSo 12 = some (.invokevirtual 136, 15, 0, 0) := by decide +kernel
theorem xX5_lastPlatesAreSo_15 : xdec cX5_lastPlatesAreSo 15 = some (.aload_n 0, 16, 0, 0) := by decide +kernel
theorem xX5_lastPlatesAreSo_16 : xdec cX5_lastPlatesAreSo 16 = some (.iload_n 3, 17, 3, 0) := by decide +kernel
theorem xX5_lastPlatesAreSo_17 : xdec cX5_lastPlatesAreSo 17 = some (.aload_n 1, 18, 1, 0) := by decide +kernel
theorem xX5_lastPlatesAreSo_18 : xdec cX5_lastPlatesAreSo 18 = some (.getfield 92, 21, 92, 0) := by decide +kernel
theorem xX5_lastPlatesAreSo_21 : xdec cX5_lastPlatesAreSo 21 = some (.iload_n 2, 22, 2, 0) := by decide +kernel
theorem xX5_lastPlatesAreSo_22 : xdec cX5_lastPlatesAreSo 22 = some (.iaload, 23, 0, 0) := by decide +kernel
theorem xX5_lastPlatesAreSo_23 : xdec cX5_lastPlatesAreSo 23 = some (.invokevirtual 216, 26, 0, 0) := by decide +kernel
theorem xX5_lastPlatesAreSo_26 : xdec cX5_lastPlatesAreSo 26 = some (.ifCond .ne 5, 29, 31, 0) := by decide +kernel
theorem xX5_lastPlatesAreSo_29 : xdec cX5_lastPlatesAreSo 29 = some (.iconst 0, 30, 0, 0) := by decide +kernel
theorem xX5_lastPlatesAreSo_30 : xdec cX5_lastPlatesAreSo 30 = some (.ireturn, 31, 0, 0) := by decide +kernel
theorem xX5_lastPlatesAreSo_31 : xdec cX5_lastPlatesAreSo 31 = some (.iinc 3 1, 34, 3, 1) := by decide +kernel
theorem xX5_lastPlatesAreSo_34 : xdec cX5_lastPlatesAreSo 34 = some (.goto (-32), 37, 2, 0) := by decide +kernel
theorem xX5_lastPlatesAreSo_37 : xdec cX5_lastPlatesAreSo 37 = some (.iconst 1, 38, 0, 1) := by decide +kernel
theorem xX5_lastPlatesAreSo_38 : xdec cX5_lastPlatesAreSo 38 = some (.ireturn, 39, 0, 0) := by decide +kernel
theorem xX5_two_0 : xdec cX5_two 0 = some (.aload_n 0, 1, 0, 0) := by decide +kernel
theorem xX5_two_1 : xdec cX5_two 1 = some (.getfield 10, 4, 10, 0) := by decide +kernel
theorem xX5_two_4 : xdec cX5_two 4 = some (.iload_n 1, 5, 1, 0) := by decide +kernel
theorem xX5_two_5 : xdec cX5_two 5 = some (.invokevirtual 80, 8, 0, 0) := by decide +kernel
theorem xX5_two_8 : xdec cX5_two 8 = some (.ifCond .eq 29, 11, 37, 0) := by decide +kernel
theorem xX5_two_11 : xdec cX5_two 11 = some (.aload_n 0, 12, 0, 0) := by decide +kernel
theorem xX5_two_12 : xdec cX5_two 12 = some (.getfield 10, 15, 10, 0) := by decide +kernel
theorem xX5_two_15 : xdec cX5_two 15 = some (.iload_n 2, 16, 2, 0) := by decide +kernel
theorem xX5_two_16 : xdec cX5_two 16 = some (.invokevirtual 80, 19, 0, 0) := by decide +kernel
theorem xX5_two_19 : xdec cX5_two 19 = some (.ifCond .eq 18, 22, 37, 0) := by decide +kernel
theorem xX5_two_22 : xdec cX5_two 22 = some (.iload_n 1, 23, 1, 0) := by decide +kernel
theorem xX5_two_23 : xdec cX5_two 23 = some (.iload_n 2, 24, 2, 0) := by decide +kernel
theorem xX5_two_24 : xdec cX5_two 24 = some (.if_icmp .eq 13, 27, 37, 0) := by decide +kernel
theorem xX5_two_27 : xdec cX5_two 27 = some (.iload_n 3, 28, 3, 0) := by decide +kernel
theorem xX5_two_28 : xdec cX5_two 28 = some (.iconst 1, 29, 0, 1) := by decide +kernel
theorem xX5_two_29 : xdec cX5_two 29 = some (.bipush 30, 31, 0, 30) := by decide +kernel
theorem xX5_two_31 : xdec cX5_two 31 = some (.invokestatic 129, 34, 0, 0) := by decide +kernel
theorem xX5_two_34 : xdec cX5_two 34 = some (.ifCond .ne 5, 37, 39, 0) := by decide +kernel
theorem xX5_two_37 : xdec cX5_two 37 = some (.iconst (-1), 38, 0, (-1)) := by decide +kernel
theorem xX5_two_38 : xdec cX5_two 38 = some (.ireturn, 39, 0, 0) := by decide +kernel
theorem xX5_two_39 : xdec cX5_two 39 = some (.aload_n 0, 40, 0, 0) := by decide +kernel
theorem xX5_two_40 : xdec cX5_two 40 = some (.getfield 10, 43, 10, 0) := by decide +kernel
theorem xX5_two_43 : xdec cX5_two 43 = some (.iload_n 1, 44, 1, 0) := by decide +kernel
theorem xX5_two_44 : xdec cX5_two 44 = some (.invokevirtual 98, 47, 0, 0) := by decide +kernel
theorem xX5_two_47 : xdec cX5_two 47 = some (.ifCond .eq 14, 50, 61, 0) := by decide +kernel
theorem xX5_two_50 : xdec cX5_two 50 = some (.aload_n 0, 51, 0, 0) := by decide +kernel
theorem xX5_two_51 : xdec cX5_two 51 = some (.getfield 10, 54, 10, 0) := by decide +kernel
theorem xX5_two_54 : xdec cX5_two 54 = some (.iload_n 2, 55, 2, 0) := by decide +kernel
theorem xX5_two_55 : xdec cX5_two 55 = some (.invokevirtual 98, 58, 0, 0) := by decide +kernel
theorem xX5_two_58 : xdec cX5_two 58 = some (.ifCond .ne 6, 61, 64, 0) := by decide +kernel
theorem xX5_two_61 : xdec cX5_two 61 = some (.bipush (-3), 63, 0, (-3)) := by decide +kernel
theorem xX5_two_63 : xdec cX5_two 63 = some (.ireturn, 64, 0, 0) := by decide +kernel
theorem xX5_two_64 : xdec cX5_two 64 = some (.iconst 0, 65, 0, 0) := by decide +kernel
theorem xX5_two_65 : xdec cX5_two 65 = some (.istore 4, 67, 4, 0) := by decide +kernel
theorem xX5_two_67 : xdec cX5_two 67 = some (.iload 4, 69, 4, 0) := by decide +kernel
theorem xX5_two_69 : xdec cX5_two 69 = some (.iconst 4, 70, 0, 4) := by decide +kernel
theorem xX5_two_70 : xdec cX5_two 70 = some (.if_icmp .ge 18, 73, 88, 0) := by decide +kernel
theorem xX5_two_73 : xdec cX5_two 73 = some (.aload_n 0, 74, 0, 0) := by decide +kernel
theorem xX5_two_74 : xdec cX5_two 74 = some (.iload_n 1, 75, 1, 0) := by decide +kernel
theorem xX5_two_75 : xdec cX5_two 75 = some (.iload_n 2, 76, 2, 0) := by decide +kernel
theorem xX5_two_76 : xdec cX5_two 76 = some (.iload_n 3, 77, 3, 0) := by decide +kernel
theorem xX5_two_77 : xdec cX5_two 77 = some (.iload 4, 79, 4, 0) := by decide +kernel
theorem xX5_two_79 : xdec cX5_two 79 = some (.invokevirtual 223, 82, 0, 0) := by decide +kernel
theorem xX5_two_82 : xdec cX5_two 82 = some (.iinc 4 1, 85, 4, 1) := by decide +kernel
theorem xX5_two_85 : xdec cX5_two 85 = some (.goto (-18), 88, 67, 0) := by decide +kernel
theorem xX5_two_88 : xdec cX5_two 88 = some (.iconst 0, 89, 0, 0) := by decide +kernel
theorem xX5_two_89 : xdec cX5_two 89 = some (.istore 4, 91, 4, 0) := by decide +kernel
theorem xX5_two_91 : xdec cX5_two 91 = some (.iload 4, 93, 4, 0) := by decide +kernel
theorem xX5_two_93 : xdec cX5_two 93 = some (.iconst 4, 94, 0, 4) := by decide +kernel
theorem xX5_two_94 : xdec cX5_two 94 = some (.if_icmp .ge 88, 97, 182, 0) := by decide +kernel
theorem xX5_two_97 : xdec cX5_two 97 = some (.aload_n 0, 98, 0, 0) := by decide +kernel
theorem xX5_two_98 : xdec cX5_two 98 = some (.getfield 40, 101, 40, 0) := by decide +kernel
theorem xX5_two_101 : xdec cX5_two 101 = some (.iload 4, 103, 4, 0) := by decide +kernel
theorem xX5_two_103 : xdec cX5_two 103 = some (.iaload, 104, 0, 0) := by decide +kernel
theorem xX5_two_104 : xdec cX5_two 104 = some (.aload_n 0, 105, 0, 0) := by decide +kernel
theorem xX5_two_105 : xdec cX5_two 105 = some (.getfield 40, 108, 40, 0) := by decide +kernel
theorem xX5_two_108 : xdec cX5_two 108 = some (.iload 4, 110, 4, 0) := by decide +kernel
theorem xX5_two_110 : xdec cX5_two 110 = some (.iconst 2, 111, 0, 2) := by decide +kernel
theorem xX5_two_111 : xdec cX5_two 111 = some (.ixor, 112, 0, 0) := by decide +kernel
theorem xX5_two_112 : xdec cX5_two 112 = some (.iaload, 113, 0, 0) := by decide +kernel
theorem xX5_two_113 : xdec cX5_two 113 = some (.if_icmp .lt 7, 116, 120, 0) := by decide +kernel
theorem xX5_two_116 : xdec cX5_two 116 = some (.iconst 1, 117, 0, 1) := by decide +kernel
theorem xX5_two_117 : xdec cX5_two 117 = some (.goto 4, 120, 121, 0) := by decide +kernel
theorem xX5_two_120 : xdec cX5_two 120 = some (.iconst 0, 121, 0, 0) := by decide +kernel
theorem xX5_two_121 : xdec cX5_two 121 = some (.istore 5, 123, 5, 0) := by decide +kernel
theorem xX5_two_123 : xdec cX5_two 123 = some (.aload_n 0, 124, 0, 0) := by decide +kernel
theorem xX5_two_124 : xdec cX5_two 124 = some (.getfield 40, 127, 40, 0) := by decide +kernel
theorem xX5_two_127 : xdec cX5_two 127 = some (.iconst 4, 128, 0, 4) := by decide +kernel
theorem xX5_two_128 : xdec cX5_two 128 = some (.iload 4, 130, 4, 0) := by decide +kernel
theorem xX5_two_130 : xdec cX5_two 130 = some (.iadd, 131, 0, 0) := by decide +kernel
theorem xX5_two_131 : xdec cX5_two 131 = some (.iaload, 132, 0, 0) := by decide +kernel
theorem xX5_two_132 : xdec cX5_two 132 = some (.aload_n 0, 133, 0, 0) := by decide +kernel
theorem xX5_two_133 : xdec cX5_two 133 = some (.getfield 40, 136, 40, 0) := by decide +kernel
theorem xX5_two_136 : xdec cX5_two 136 = some (.iconst 4, 137, 0, 4) := by decide +kernel
theorem xX5_two_137 : xdec cX5_two 137 = some (.iload 4, 139, 4, 0) := by decide +kernel
theorem xX5_two_139 : xdec cX5_two 139 = some (.iconst 1, 140, 0, 1) := by decide +kernel
theorem xX5_two_140 : xdec cX5_two 140 = some (.ixor, 141, 0, 0) := by decide +kernel
theorem xX5_two_141 : xdec cX5_two 141 = some (.iadd, 142, 0, 0) := by decide +kernel
theorem xX5_two_142 : xdec cX5_two 142 = some (.iaload, 143, 0, 0) := by decide +kernel
theorem xX5_two_143 : xdec cX5_two 143 = some (.if_icmp .lt 7, 146, 150, 0) := by decide +kernel
theorem xX5_two_146 : xdec cX5_two 146 = some (.iconst 1, 147, 0, 1) := by decide +kernel
theorem xX5_two_147 : xdec cX5_two 147 = some (.goto 4, 150, 151, 0) := by decide +kernel
theorem xX5_two_150 : xdec cX5_two 150 = some (.iconst 0, 151, 0, 0) := by decide +kernel
theorem xX5_two_151 : xdec cX5_two 151 = some (.istore 6, 153, 6, 0) := by decide +kernel
theorem xX5_two_153 : xdec cX5_two 153 = some (.iload 5, 155, 5, 0) := by decide +kernel
theorem xX5_two_155 : xdec cX5_two 155 = some (.ifCond .eq 21, 158, 176, 0) := by decide +kernel
theorem xX5_two_158 : xdec cX5_two 158 = some (.iload 6, 160, 6, 0) := by decide +kernel
theorem xX5_two_160 : xdec cX5_two 160 = some (.ifCond .eq 16, 163, 176, 0) := by decide +kernel
theorem xX5_two_163 : xdec cX5_two 163 = some (.bipush 10, 165, 0, 10) := by decide +kernel
theorem xX5_two_165 : xdec cX5_two 165 = some (.iload 4, 167, 4, 0) := by decide +kernel
theorem xX5_two_167 : xdec cX5_two 167 = some (.iconst 1, 168, 0, 1) := by decide +kernel
theorem xX5_two_168 : xdec cX5_two 168 = some (.ishr, 169, 0, 0) := by decide +kernel
theorem xX5_two_169 : xdec cX5_two 169 = some (.imul, 170, 0, 0) := by decide +kernel
theorem xX5_two_170 : xdec cX5_two 170 = some (.iload 4, 172, 4, 0) := by decide +kernel
theorem xX5_two_172 : xdec cX5_two 172 = some (.iconst 1, 173, 0, 1) := by decide +kernel
theorem xX5_two_173 : xdec cX5_two 173 = some (.iand, 174, 0, 0) := by decide +kernel
theorem xX5_two_174 : xdec cX5_two 174 = some (.iadd, 175, 0, 0) := by decide +kernel
theorem xX5_two_175 : xdec cX5_two 175 = some (.ireturn, 176, 0, 0) := by decide +kernel
theorem xX5_two_176 : xdec cX5_two 176 = some (.iinc 4 1, 179, 4, 1) := by decide +kernel
theorem xX5_two_179 : xdec cX5_two 179 = some (.goto (-88), 182, 91, 0) := by decide +kernel
theorem xX5_two_182 : xdec cX5_two 182 = some (.bipush (-4), 184, 0, (-4)) := by decide +kernel
theorem xX5_two_184 : xdec cX5_two 184 = some (.ireturn, 185, 0, 0) := by decide +kernel
theorem xX5_choose_0 : xdec cX5_choose 0 = some (.iload 4, 2, 4, 0) := by decide +kernel
theorem xX5_choose_2 : xdec cX5_choose 2 = some (.iconst 2, 3, 0, 2) := by decide +kernel
theorem xX5_choose_3 : xdec cX5_choose 3 = some (.iand, 4, 0, 0) := by decide +kernel
theorem xX5_choose_4 : xdec cX5_choose 4 = some (.ifCond .eq 7, 7, 11, 0) := by decide +kernel
theorem xX5_choose_7 : xdec cX5_choose 7 = some (.iconst 1, 8, 0, 1) := by decide +kernel
theorem xX5_choose_8 : xdec cX5_choose 8 = some (.goto 4, 11, 12, 0) := by decide +kernel
theorem xX5_choose_11 : xdec cX5_choose 11 = some (.iconst 0, 12, 0, 0) := by decide +kernel
theorem xX5_choose_12 : xdec cX5_choose 12 = some (.istore 5, 14, 5, 0) := by decide +kernel
theorem xX5_choose_14 : xdec cX5_choose 14 = some (.iload 4, 16, 4, 0) := by decide +kernel
theorem xX5_choose_16 : xdec cX5_choose 16 = some (.iconst 1, 17, 0, 1) := by decide +kernel
theorem xX5_choose_17 : xdec cX5_choose 17 = some (.iand, 18, 0, 0) := by decide +kernel
theorem xX5_choose_18 : xdec cX5_choose 18 = some (.ifCond .eq 7, 21, 25, 0) := by decide +kernel
theorem xX5_choose_21 : xdec cX5_choose 21 = some (.iconst 1, 22, 0, 1) := by decide +kernel
theorem xX5_choose_22 : xdec cX5_choose 22 = some (.goto 4, 25, 26, 0) := by decide +kernel
theorem xX5_choose_25 : xdec cX5_choose 25 = some (.iconst 0, 26, 0, 0) := by decide +kernel
theorem xX5_choose_26 : xdec cX5_choose 26 = some (.istore 6, 28, 6, 0) := by decide +kernel
theorem xX5_choose_28 : xdec cX5_choose 28 = some (.iload 5, 30, 5, 0) := by decide +kernel
theorem xX5_choose_30 : xdec cX5_choose 30 = some (.ifCond .eq 7, 33, 37, 0) := by decide +kernel
theorem xX5_choose_33 : xdec cX5_choose 33 = some (.iconst 0, 34, 0, 0) := by decide +kernel
theorem xX5_choose_34 : xdec cX5_choose 34 = some (.goto 6, 37, 40, 0) := by decide +kernel
theorem xX5_choose_37 : xdec cX5_choose 37 = some (.iconst 1, 38, 0, 1) := by decide +kernel
theorem xX5_choose_38 : xdec cX5_choose 38 = some (.iload_n 1, 39, 1, 0) := by decide +kernel
theorem xX5_choose_39 : xdec cX5_choose 39 = some (.ishl, 40, 0, 0) := by decide +kernel
theorem xX5_choose_40 : xdec cX5_choose 40 = some (.iload 6, 42, 6, 0) := by decide +kernel
theorem xX5_choose_42 : xdec cX5_choose 42 = some (.ifCond .eq 7, 45, 49, 0) := by decide +kernel
theorem xX5_choose_45 : xdec cX5_choose 45 = some (.iconst 0, 46, 0, 0) := by decide +kernel
theorem xX5_choose_46 : xdec cX5_choose 46 = some (.goto 6, 49, 52, 0) := by decide +kernel
theorem xX5_choose_49 : xdec cX5_choose 49 = some (.iconst 1, 50, 0, 1) := by decide +kernel
theorem xX5_choose_50 : xdec cX5_choose 50 = some (.iload_n 2, 51, 2, 0) := by decide +kernel
theorem xX5_choose_51 : xdec cX5_choose 51 = some (.ishl, 52, 0, 0) := by decide +kernel
theorem xX5_choose_52 : xdec cX5_choose 52 = some (.ior, 53, 0, 0) := by decide +kernel
theorem xX5_choose_53 : xdec cX5_choose 53 = some (.istore 7, 55, 7, 0) := by decide +kernel
theorem xX5_choose_55 : xdec cX5_choose 55 = some (.aload_n 0, 56, 0, 0) := by decide +kernel
theorem xX5_choose_56 : xdec cX5_choose 56 = some (.invokevirtual 58, 59, 0, 0) := by decide +kernel
theorem xX5_choose_59 : xdec cX5_choose 59 = some (.astore 8, 61, 8, 0) := by decide +kernel
theorem xX5_choose_61 : xdec cX5_choose 61 = some (.aload 8, 63, 8, 0) := by decide +kernel
theorem xX5_choose_63 : xdec cX5_choose 63 = some (.iconst 0, 64, 0, 0) := by decide +kernel
theorem xX5_choose_64 : xdec cX5_choose 64 = some (.iload 7, 66, 7, 0) := by decide +kernel
theorem xX5_choose_66 : xdec cX5_choose 66 = some (.invokevirtual 227, 69, 0, 0) := by decide +kernel
theorem xX5_choose_69 : xdec cX5_choose 69 = some (.aload 8, 71, 8, 0) := by decide +kernel
theorem xX5_choose_71 : xdec cX5_choose 71 = some (.iload_n 3, 72, 3, 0) := by decide +kernel
theorem xX5_choose_72 : xdec cX5_choose 72 = some (.iconst 1, 73, 0, 1) := by decide +kernel
theorem xX5_choose_73 : xdec cX5_choose 73 = some (.isub, 74, 0, 0) := by decide +kernel
theorem xX5_choose_74 : xdec cX5_choose 74 = some (.invokevirtual 136, 77, 0, 0) := by decide +kernel
theorem xX5_choose_77 : xdec cX5_choose 77 = some (.aload_n 0, 78, 0, 0) := by decide +kernel
theorem xX5_choose_78 : xdec cX5_choose 78 = some (.getfield 40, 81, 40, 0) := by decide +kernel
theorem xX5_choose_81 : xdec cX5_choose 81 = some (.iload 4, 83, 4, 0) := by decide +kernel
theorem xX5_choose_83 : xdec cX5_choose 83 = some (.aload 8, 85, 8, 0) := by decide +kernel
theorem xX5_choose_85 : xdec cX5_choose 85 = some (.getfield 95, 88, 95, 0) := by decide +kernel
theorem xX5_choose_88 : xdec cX5_choose 88 = some (.iload_n 1, 89, 1, 0) := by decide +kernel
theorem xX5_choose_89 : xdec cX5_choose 89 = some (.iaload, 90, 0, 0) := by decide +kernel
theorem xX5_choose_90 : xdec cX5_choose 90 = some (.iload 5, 92, 5, 0) := by decide +kernel
theorem xX5_choose_92 : xdec cX5_choose 92 = some (.ifCond .eq 7, 95, 99, 0) := by decide +kernel
theorem xX5_choose_95 : xdec cX5_choose 95 = some (.iconst 0, 96, 0, 0) := by decide +kernel
theorem xX5_choose_96 : xdec cX5_choose 96 = some (.goto 4, 99, 100, 0) := by decide +kernel
theorem xX5_choose_99 : xdec cX5_choose 99 = some (.iconst 2, 100, 0, 2) := by decide +kernel
theorem xX5_choose_100 : xdec cX5_choose 100 = some (.isub, 101, 0, 0) := by decide +kernel
theorem xX5_choose_101 : xdec cX5_choose 101 = some (.iastore, 102, 0, 0) := by decide +kernel
theorem xX5_choose_102 : xdec cX5_choose 102 = some (.aload_n 0, 103, 0, 0) := by decide +kernel
theorem xX5_choose_103 : xdec cX5_choose 103 = some (.getfield 40, 106, 40, 0) := by decide +kernel
theorem xX5_choose_106 : xdec cX5_choose 106 = some (.iconst 4, 107, 0, 4) := by decide +kernel
theorem xX5_choose_107 : xdec cX5_choose 107 = some (.iload 4, 109, 4, 0) := by decide +kernel
theorem xX5_choose_109 : xdec cX5_choose 109 = some (.iadd, 110, 0, 0) := by decide +kernel
theorem xX5_choose_110 : xdec cX5_choose 110 = some (.aload 8, 112, 8, 0) := by decide +kernel
theorem xX5_choose_112 : xdec cX5_choose 112 = some (.getfield 95, 115, 95, 0) := by decide +kernel
theorem xX5_choose_115 : xdec cX5_choose 115 = some (.iload_n 2, 116, 2, 0) := by decide +kernel
theorem xX5_choose_116 : xdec cX5_choose 116 = some (.iaload, 117, 0, 0) := by decide +kernel
theorem xX5_choose_117 : xdec cX5_choose 117 = some (.iload 6, 119, 6, 0) := by decide +kernel
theorem xX5_choose_119 : xdec cX5_choose 119 = some (.ifCond .eq 7, 122, 126, 0) := by decide +kernel
theorem xX5_choose_122 : xdec cX5_choose 122 = some (.iconst 0, 123, 0, 0) := by decide +kernel
theorem xX5_choose_123 : xdec cX5_choose 123 = some (.goto 4, 126, 127, 0) := by decide +kernel
theorem xX5_choose_126 : xdec cX5_choose 126 = some (.iconst 2, 127, 0, 2) := by decide +kernel
theorem xX5_choose_127 : xdec cX5_choose 127 = some (.isub, 128, 0, 0) := by decide +kernel
theorem xX5_choose_128 : xdec cX5_choose 128 = some (.iastore, 129, 0, 0) := by decide +kernel
theorem xX5_choose_129 : xdec cX5_choose 129 = some (.return_, 130, 0, 0) := by decide +kernel
theorem xX5_mares_0 : xdec cX5_mares 0 = some (.aload_n 0, 1, 0, 0) := by decide +kernel
theorem xX5_mares_1 : xdec cX5_mares 1 = some (.getfield 10, 4, 10, 0) := by decide +kernel
theorem xX5_mares_4 : xdec cX5_mares 4 = some (.iload_n 1, 5, 1, 0) := by decide +kernel
theorem xX5_mares_5 : xdec cX5_mares 5 = some (.invokevirtual 80, 8, 0, 0) := by decide +kernel
theorem xX5_mares_8 : xdec cX5_mares 8 = some (.ifCond .eq 23, 11, 31, 0) := by decide +kernel
theorem xX5_mares_11 : xdec cX5_mares 11 = some (.iload_n 2, 12, 2, 0) := by decide +kernel
theorem xX5_mares_12 : xdec cX5_mares 12 = some (.iconst 0, 13, 0, 0) := by decide +kernel
theorem xX5_mares_13 : xdec cX5_mares 13 = some (.bipush 7, 15, 0, 7) := by decide +kernel
theorem xX5_mares_15 : xdec cX5_mares 15 = some (.invokestatic 129, 18, 0, 0) := by decide +kernel
theorem xX5_mares_18 : xdec cX5_mares 18 = some (.ifCond .eq 13, 21, 31, 0) := by decide +kernel
theorem xX5_mares_21 : xdec cX5_mares 21 = some (.iload_n 3, 22, 3, 0) := by decide +kernel
theorem xX5_mares_22 : xdec cX5_mares 22 = some (.iconst 2, 23, 0, 2) := by decide +kernel
theorem xX5_mares_23 : xdec cX5_mares 23 = some (.bipush 20, 25, 0, 20) := by decide +kernel
theorem xX5_mares_25 : xdec cX5_mares 25 = some (.invokestatic 129, 28, 0, 0) := by decide +kernel
theorem xX5_mares_28 : xdec cX5_mares 28 = some (.ifCond .ne 8, 31, 36, 0) := by decide +kernel
theorem xX5_mares_31 : xdec cX5_mares 31 = some (.iconst (-1), 32, 0, (-1)) := by decide +kernel
theorem xX5_mares_32 : xdec cX5_mares 32 = some (.invokestatic 231, 35, 0, 0) := by decide +kernel
theorem xX5_mares_35 : xdec cX5_mares 35 = some (.lreturn, 36, 0, 0) := by decide +kernel
theorem xX5_mares_36 : xdec cX5_mares 36 = some (.iload 4, 38, 4, 0) := by decide +kernel
theorem xX5_mares_38 : xdec cX5_mares 38 = some (.iconst 0, 39, 0, 0) := by decide +kernel
theorem xX5_mares_39 : xdec cX5_mares 39 = some (.bipush 99, 41, 0, 99) := by decide +kernel
theorem xX5_mares_41 : xdec cX5_mares 41 = some (.invokestatic 129, 44, 0, 0) := by decide +kernel
theorem xX5_mares_44 : xdec cX5_mares 44 = some (.ifCond .eq 13, 47, 57, 0) := by decide +kernel
theorem xX5_mares_47 : xdec cX5_mares 47 = some (.iload 5, 49, 5, 0) := by decide +kernel
theorem xX5_mares_49 : xdec cX5_mares 49 = some (.iconst 0, 50, 0, 0) := by decide +kernel
theorem xX5_mares_50 : xdec cX5_mares 50 = some (.iconst 1, 51, 0, 1) := by decide +kernel
theorem xX5_mares_51 : xdec cX5_mares 51 = some (.invokestatic 129, 54, 0, 0) := by decide +kernel
theorem xX5_mares_54 : xdec cX5_mares 54 = some (.ifCond .ne 8, 57, 62, 0) := by decide +kernel
theorem xX5_mares_57 : xdec cX5_mares 57 = some (.iconst (-1), 58, 0, (-1)) := by decide +kernel
theorem xX5_mares_58 : xdec cX5_mares 58 = some (.invokestatic 231, 61, 0, 0) := by decide +kernel
theorem xX5_mares_61 : xdec cX5_mares 61 = some (.lreturn, 62, 0, 0) := by decide +kernel
theorem xX5_mares_62 : xdec cX5_mares 62 = some (.lconst 0, 63, 0, 0) := by decide +kernel
theorem xX5_mares_63 : xdec cX5_mares 63 = some (.lstore 6, 65, 6, 0) := by decide +kernel
theorem xX5_mares_65 : xdec cX5_mares 65 = some (.lconst 0, 66, 0, 0) := by decide +kernel
theorem xX5_mares_66 : xdec cX5_mares 66 = some (.lstore 8, 68, 8, 0) := by decide +kernel
theorem xX5_mares_68 : xdec cX5_mares 68 = some (.iconst 0, 69, 0, 0) := by decide +kernel
theorem xX5_mares_69 : xdec cX5_mares 69 = some (.istore 10, 71, 10, 0) := by decide +kernel
theorem xX5_mares_71 : xdec cX5_mares 71 = some (.iload 10, 73, 10, 0) := by decide +kernel
theorem xX5_mares_73 : xdec cX5_mares 73 = some (.iconst 1, 74, 0, 1) := by decide +kernel
theorem xX5_mares_74 : xdec cX5_mares 74 = some (.iload_n 2, 75, 2, 0) := by decide +kernel
theorem xX5_mares_75 : xdec cX5_mares 75 = some (.ishl, 76, 0, 0) := by decide +kernel
theorem xX5_mares_76 : xdec cX5_mares 76 = some (.if_icmp .ge 106, 79, 182, 0) := by decide +kernel
theorem xX5_mares_79 : xdec cX5_mares 79 = some (.aload_n 0, 80, 0, 0) := by decide +kernel
theorem xX5_mares_80 : xdec cX5_mares 80 = some (.invokevirtual 58, 83, 0, 0) := by decide +kernel
theorem xX5_mares_83 : xdec cX5_mares 83 = some (.astore 11, 85, 11, 0) := by decide +kernel
theorem xX5_mares_85 : xdec cX5_mares 85 = some (.lconst 1, 86, 0, 1) := by decide +kernel
theorem xX5_mares_86 : xdec cX5_mares 86 = some (.lstore 12, 88, 12, 0) := by decide +kernel
theorem xX5_mares_88 : xdec cX5_mares 88 = some (.iconst 0, 89, 0, 0) := by decide +kernel
theorem xX5_mares_89 : xdec cX5_mares 89 = some (.istore 14, 91, 14, 0) := by decide +kernel
theorem xX5_mares_91 : xdec cX5_mares 91 = some (.iload 14, 93, 14, 0) := by decide +kernel
theorem xX5_mares_93 : xdec cX5_mares 93 = some (.iload_n 2, 94, 2, 0) := by decide +kernel
theorem xX5_mares_94 : xdec cX5_mares 94 = some (.if_icmp .ge 52, 97, 146, 0) := by decide +kernel
theorem xX5_mares_97 : xdec cX5_mares 97 = some (.iload 10, 99, 10, 0) := by decide +kernel
theorem xX5_mares_99 : xdec cX5_mares 99 = some (.iload 14, 101, 14, 0) := by decide +kernel
theorem xX5_mares_101 : xdec cX5_mares 101 = some (.ishr, 102, 0, 0) := by decide +kernel
theorem xX5_mares_102 : xdec cX5_mares 102 = some (.iconst 1, 103, 0, 1) := by decide +kernel
theorem xX5_mares_103 : xdec cX5_mares 103 = some (.iand, 104, 0, 0) := by decide +kernel
theorem xX5_mares_104 : xdec cX5_mares 104 = some (.ifCond .eq 7, 107, 111, 0) := by decide +kernel
theorem xX5_mares_107 : xdec cX5_mares 107 = some (.iconst 1, 108, 0, 1) := by decide +kernel
theorem xX5_mares_108 : xdec cX5_mares 108 = some (.goto 4, 111, 112, 0) := by decide +kernel
theorem xX5_mares_111 : xdec cX5_mares 111 = some (.iconst 0, 112, 0, 0) := by decide +kernel
theorem xX5_mares_112 : xdec cX5_mares 112 = some (.istore 15, 114, 15, 0) := by decide +kernel
theorem xX5_mares_114 : xdec cX5_mares 114 = some (.aload 11, 116, 11, 0) := by decide +kernel
theorem xX5_mares_116 : xdec cX5_mares 116 = some (.iload 15, 118, 15, 0) := by decide +kernel
theorem xX5_mares_118 : xdec cX5_mares 118 = some (.iconst 0, 119, 0, 0) := by decide +kernel
theorem xX5_mares_119 : xdec cX5_mares 119 = some (.invokevirtual 227, 122, 0, 0) := by decide +kernel
theorem xX5_mares_122 : xdec cX5_mares 122 = some (.lload 12, 124, 12, 0) := by decide +kernel
theorem xX5_mares_124 : xdec cX5_mares 124 = some (.iload 15, 126, 15, 0) := by decide +kernel
theorem xX5_mares_126 : xdec cX5_mares 126 = some (.ifCond .eq 7, 129, 133, 0) := by decide +kernel
theorem xX5_mares_129 : xdec cX5_mares 129 = some (.lconst 1, 130, 0, 1) := by decide +kernel
theorem xX5_mares_130 : xdec cX5_mares 130 = some (.goto 7, 133, 137, 0) := by decide +kernel
theorem xX5_mares_133 : xdec cX5_mares 133 = some (.iload_n 3, 134, 3, 0) := by decide +kernel
theorem xX5_mares_134 : xdec cX5_mares 134 = some (.iconst 1, 135, 0, 1) := by decide +kernel
theorem xX5_mares_135 : xdec cX5_mares 135 = some (.isub, 136, 0, 0) := by decide +kernel
theorem xX5_mares_136 : xdec cX5_mares 136 = some (.i2l, 137, 0, 0) := by decide +kernel
theorem xX5_mares_137 : xdec cX5_mares 137 = some (.lmul, 138, 0, 0) := by decide +kernel
theorem xX5_mares_138 : xdec cX5_mares 138 = some (.lstore 12, 140, 12, 0) := by decide +kernel
theorem xX5_mares_140 : xdec cX5_mares 140 = some (.iinc 14 1, 143, 14, 1) := by decide +kernel
theorem xX5_mares_143 : xdec cX5_mares 143 = some (.goto (-52), 146, 91, 0) := by decide +kernel
theorem xX5_mares_146 : xdec cX5_mares 146 = some (.lload 8, 148, 8, 0) := by decide +kernel
theorem xX5_mares_148 : xdec cX5_mares 148 = some (.lload 12, 150, 12, 0) := by decide +kernel
theorem xX5_mares_150 : xdec cX5_mares 150 = some (.ladd, 151, 0, 0) := by decide +kernel
theorem xX5_mares_151 : xdec cX5_mares 151 = some (.lstore 8, 153, 8, 0) := by decide +kernel
theorem xX5_mares_153 : xdec cX5_mares 153 = some (.lload 6, 155, 6, 0) := by decide +kernel
theorem xX5_mares_155 : xdec cX5_mares 155 = some (.aload 11, 157, 11, 0) := by decide +kernel
theorem xX5_mares_157 : xdec cX5_mares 157 = some (.getfield 95, 160, 95, 0) := by decide +kernel
theorem xX5_mares_160 : xdec cX5_mares 160 = some (.iload_n 1, 161, 1, 0) := by decide +kernel
theorem xX5_mares_161 : xdec cX5_mares 161 = some (.iaload, 162, 0, 0) := by decide +kernel
theorem xX5_mares_162 : xdec cX5_mares 162 = some (.iload 4, 164, 4, 0) := by decide +kernel
theorem xX5_mares_164 : xdec cX5_mares 164 = some (.if_icmp .lt 8, 167, 172, 0) := by decide +kernel
theorem xX5_mares_167 : xdec cX5_mares 167 = some (.lload 12, 169, 12, 0) := by decide +kernel
theorem xX5_mares_169 : xdec cX5_mares 169 = some (.goto 4, 172, 173, 0) := by decide +kernel
theorem xX5_mares_172 : xdec cX5_mares 172 = some (.lconst 0, 173, 0, 0) := by decide +kernel
theorem xX5_mares_173 : xdec cX5_mares 173 = some (.ladd, 174, 0, 0) := by decide +kernel
theorem xX5_mares_174 : xdec cX5_mares 174 = some (.lstore 6, 176, 6, 0) := by decide +kernel
theorem xX5_mares_176 : xdec cX5_mares 176 = some (.iinc 10 1, 179, 10, 1) := by decide +kernel
theorem xX5_mares_179 : xdec cX5_mares 179 = some (.goto (-108), 182, 71, 0) := by decide +kernel
theorem xX5_mares_182 : xdec cX5_mares 182 = some (.lload 6, 184, 6, 0) := by decide +kernel
theorem xX5_mares_184 : xdec cX5_mares 184 = some (.lload 8, 186, 8, 0) := by decide +kernel
theorem xX5_mares_186 : xdec cX5_mares 186 = some (.iload 5, 188, 5, 0) := by decide +kernel
theorem xX5_mares_188 : xdec cX5_mares 188 = some (.invokestatic 235, 191, 0, 0) := by decide +kernel
theorem xX5_mares_191 : xdec cX5_mares 191 = some (.lreturn, 192, 0, 0) := by decide +kernel
theorem xX5_mean_0 : xdec cX5_mean 0 = some (.iload_n 1, 1, 1, 0) := by decide +kernel
theorem xX5_mean_1 : xdec cX5_mean 1 = some (.iconst 0, 2, 0, 0) := by decide +kernel
theorem xX5_mean_2 : xdec cX5_mean 2 = some (.iconst 1, 3, 0, 1) := by decide +kernel
theorem xX5_mean_3 : xdec cX5_mean 3 = some (.invokestatic 129, 6, 0, 0) := by decide +kernel
theorem xX5_mean_6 : xdec cX5_mean 6 = some (.ifCond .ne 8, 9, 14, 0) := by decide +kernel
theorem xX5_mean_9 : xdec cX5_mean 9 = some (.iconst (-1), 10, 0, (-1)) := by decide +kernel
theorem xX5_mean_10 : xdec cX5_mean 10 = some (.invokestatic 231, 13, 0, 0) := by decide +kernel
theorem xX5_mean_13 : xdec cX5_mean 13 = some (.lreturn, 14, 0, 0) := by decide +kernel
theorem xX5_mean_14 : xdec cX5_mean 14 = some (.aload_n 0, 15, 0, 0) := by decide +kernel
theorem xX5_mean_15 : xdec cX5_mean 15 = some (.getfield 10, 18, 10, 0) := by decide +kernel
theorem xX5_mean_18 : xdec cX5_mean 18 = some (.aload_n 0, 19, 0, 0) := by decide +kernel
theorem xX5_mean_19 : xdec cX5_mean 19 = some (.getfield 10, 22, 10, 0) := by decide +kernel
theorem xX5_mean_22 : xdec cX5_mean 22 = some (.getfield 140, 25, 140, 0) := by decide +kernel
theorem xX5_mean_25 : xdec cX5_mean 25 = some (.invokevirtual 186, 28, 0, 0) := by decide +kernel
theorem xX5_mean_28 : xdec cX5_mean 28 = some (.i2l, 29, 0, 0) := by decide +kernel
theorem xX5_mean_29 : xdec cX5_mean 29 = some (.aload_n 0, 30, 0, 0) := by decide +kernel
theorem xX5_mean_30 : xdec cX5_mean 30 = some (.getfield 10, 33, 10, 0) := by decide +kernel
theorem xX5_mean_33 : xdec cX5_mean 33 = some (.getfield 140, 36, 140, 0) := by decide +kernel
theorem xX5_mean_36 : xdec cX5_mean 36 = some (.invokestatic 143, 39, 0, 0) := by decide +kernel
theorem xX5_mean_39 : xdec cX5_mean 39 = some (.i2l, 40, 0, 0) := by decide +kernel
theorem xX5_mean_40 : xdec cX5_mean 40 = some (.iload_n 1, 41, 1, 0) := by decide +kernel
theorem xX5_mean_41 : xdec cX5_mean 41 = some (.invokestatic 235, 44, 0, 0) := by decide +kernel
theorem xX5_mean_44 : xdec cX5_mean 44 = some (.lreturn, 45, 0, 0) := by decide +kernel
theorem xX5_forged_0 : xdec cX5_forged 0 = some (.aload_n 0, 1, 0, 0) := by decide +kernel
theorem xX5_forged_1 : xdec cX5_forged 1 = some (.iload_n 1, 2, 1, 0) := by decide +kernel
theorem xX5_forged_2 : xdec cX5_forged 2 = some (.invokevirtual 44, 5, 0, 0) := by decide +kernel
theorem xX5_forged_5 : xdec cX5_forged 5 = some (.istore_n 2, 6, 2, 0) := by decide +kernel
theorem xX5_forged_6 : xdec cX5_forged 6 = some (.iload_n 2, 7, 2, 0) := by decide +kernel
theorem xX5_forged_7 : xdec cX5_forged 7 = some (.ifCond .eq 5, 10, 12, 0) := by decide +kernel
theorem xX5_forged_10 : xdec cX5_forged 10 = some (.iload_n 2, 11, 2, 0) := by decide +kernel
theorem xX5_forged_11 : xdec cX5_forged 11 = some (.ireturn, 12, 0, 0) := by decide +kernel
theorem xX5_forged_12 : xdec cX5_forged 12 = some (.aload_n 0, 13, 0, 0) := by decide +kernel
theorem xX5_forged_13 : xdec cX5_forged 13 = some (.getfield 28, 16, 28, 0) := by decide +kernel
theorem xX5_forged_16 : xdec cX5_forged 16 = some (.iload_n 1, 17, 1, 0) := by decide +kernel
theorem xX5_forged_17 : xdec cX5_forged 17 = some (.aaload, 18, 0, 0) := by decide +kernel
theorem xX5_forged_18 : xdec cX5_forged 18 = some (.astore_n 3, 19, 3, 0) := by decide +kernel
theorem xX5_forged_19 : xdec cX5_forged 19 = some (.iconst 0, 20, 0, 0) := by decide +kernel
theorem xX5_forged_20 : xdec cX5_forged 20 = some (.istore 4, 22, 4, 0) := by decide +kernel
theorem xX5_forged_22 : xdec cX5_forged 22 = some (.iload 4, 24, 4, 0) := by decide +kernel
theorem xX5_forged_24 : xdec cX5_forged 24 = some (.aload_n 3, 25, 3, 0) := by decide +kernel
theorem xX5_forged_25 : xdec cX5_forged 25 = some (.getfield 62, 28, 62, 0) := by decide +kernel
theorem xX5_forged_28 : xdec cX5_forged 28 = some (.if_icmp .ge 40, 31, 68, 0) := by decide +kernel
theorem xX5_forged_31 : xdec cX5_forged 31 = some (.iload 4, 33, 4, 0) := by decide +kernel
theorem xX5_forged_33 : xdec cX5_forged 33 = some (.invokestatic 110, 36, 0, 0) := by decide +kernel
theorem xX5_forged_36 : xdec cX5_forged 36 = some (.ifCond .eq 23, 39, 59, 0) := by decide +kernel
theorem xX5_forged_39 : xdec cX5_forged 39 = some (.aload_n 3, 40, 3, 0) := by decide +kernel
theorem xX5_forged_40 : xdec cX5_forged 40 = some (.getfield 65, 43, 65, 0) := by decide +kernel
theorem xX5_forged_43 : xdec cX5_forged 43 = some (.iload 4, 45, 4, 0) := by decide +kernel
theorem xX5_forged_45 : xdec cX5_forged 45 = some (.iaload, 46, 0, 0) := by decide +kernel
theorem xX5_forged_46 : xdec cX5_forged 46 = some (.aload_n 0, 47, 0, 0) := by decide +kernel
theorem xX5_forged_47 : xdec cX5_forged 47 = some (.getfield 10, 50, 10, 0) := by decide +kernel
theorem xX5_forged_50 : xdec cX5_forged 50 = some (.getfield 113, 53, 113, 0) := by decide +kernel
theorem xX5_forged_53 : xdec cX5_forged 53 = some (.iload 4, 55, 4, 0) := by decide +kernel
theorem xX5_forged_55 : xdec cX5_forged 55 = some (.iaload, 56, 0, 0) := by decide +kernel
theorem xX5_forged_56 : xdec cX5_forged 56 = some (.if_icmp .eq 6, 59, 62, 0) := by decide +kernel
theorem xX5_forged_59 : xdec cX5_forged 59 = some (.iload 4, 61, 4, 0) := by decide +kernel
theorem xX5_forged_61 : xdec cX5_forged 61 = some (.ireturn, 62, 0, 0) := by decide +kernel
theorem xX5_forged_62 : xdec cX5_forged 62 = some (.iinc 4 1, 65, 4, 1) := by decide +kernel
theorem xX5_forged_65 : xdec cX5_forged 65 = some (.goto (-43), 68, 22, 0) := by decide +kernel
theorem xX5_forged_68 : xdec cX5_forged 68 = some (.bipush (-4), 70, 0, (-4)) := by decide +kernel
theorem xX5_forged_70 : xdec cX5_forged 70 = some (.ireturn, 71, 0, 0) := by decide +kernel
theorem xX5_judge_0 : xdec cX5_judge 0 = some (.aload_n 0, 1, 0, 0) := by decide +kernel
theorem xX5_judge_1 : xdec cX5_judge 1 = some (.iload_n 1, 2, 1, 0) := by decide +kernel
theorem xX5_judge_2 : xdec cX5_judge 2 = some (.invokevirtual 44, 5, 0, 0) := by decide +kernel
theorem xX5_judge_5 : xdec cX5_judge 5 = some (.istore_n 2, 6, 2, 0) := by decide +kernel
theorem xX5_judge_6 : xdec cX5_judge 6 = some (.iload_n 2, 7, 2, 0) := by decide +kernel
theorem xX5_judge_7 : xdec cX5_judge 7 = some (.ifCond .eq 5, 10, 12, 0) := by decide +kernel
theorem xX5_judge_10 : xdec cX5_judge 10 = some (.iload_n 2, 11, 2, 0) := by decide +kernel
theorem xX5_judge_11 : xdec cX5_judge 11 = some (.ireturn, 12, 0, 0) := by decide +kernel
theorem xX5_judge_12 : xdec cX5_judge 12 = some (.aload_n 0, 13, 0, 0) := by decide +kernel
theorem xX5_judge_13 : xdec cX5_judge 13 = some (.getfield 28, 16, 28, 0) := by decide +kernel
theorem xX5_judge_16 : xdec cX5_judge 16 = some (.iload_n 1, 17, 1, 0) := by decide +kernel
theorem xX5_judge_17 : xdec cX5_judge 17 = some (.aaload, 18, 0, 0) := by decide +kernel
theorem xX5_judge_18 : xdec cX5_judge 18 = some (.astore_n 3, 19, 3, 0) := by decide +kernel
theorem xX5_judge_19 : xdec cX5_judge 19 = some (.aload_n 0, 20, 0, 0) := by decide +kernel
theorem xX5_judge_20 : xdec cX5_judge 20 = some (.invokevirtual 58, 23, 0, 0) := by decide +kernel
theorem xX5_judge_23 : xdec cX5_judge 23 = some (.astore 4, 25, 4, 0) := by decide +kernel
theorem xX5_judge_25 : xdec cX5_judge 25 = some (.iconst 0, 26, 0, 0) := by decide +kernel
theorem xX5_judge_26 : xdec cX5_judge 26 = some (.istore 5, 28, 5, 0) := by decide +kernel
theorem xX5_judge_28 : xdec cX5_judge 28 = some (.iload 5, 30, 5, 0) := by decide +kernel
theorem xX5_judge_30 : xdec cX5_judge 30 = some (.aload_n 3, 31, 3, 0) := by decide +kernel
theorem xX5_judge_31 : xdec cX5_judge 31 = some (.getfield 62, 34, 62, 0) := by decide +kernel
theorem xX5_judge_34 : xdec cX5_judge 34 = some (.if_icmp .ge 32, 37, 66, 0) := by decide +kernel
theorem xX5_judge_37 : xdec cX5_judge 37 = some (.aload_n 3, 38, 3, 0) := by decide +kernel
theorem xX5_judge_38 : xdec cX5_judge 38 = some (.iload 5, 40, 5, 0) := by decide +kernel
theorem xX5_judge_40 : xdec cX5_judge 40 = some (.aload 4, 42, 4, 0) := by decide +kernel
theorem xX5_judge_42 : xdec cX5_judge 42 = some (.invokevirtual 202, 45, 0, 0) := by decide +kernel
theorem xX5_judge_45 : xdec cX5_judge 45 = some (.invokevirtual 216, 48, 0, 0) := by decide +kernel
theorem xX5_judge_48 : xdec cX5_judge 48 = some (.ifCond .ne 6, 51, 54, 0) := by decide +kernel
theorem xX5_judge_51 : xdec cX5_judge 51 = some (.iload 5, 53, 5, 0) := by decide +kernel
theorem xX5_judge_53 : xdec cX5_judge 53 = some (.ireturn, 54, 0, 0) := by decide +kernel
theorem xX5_judge_54 : xdec cX5_judge 54 = some (.aload 4, 56, 4, 0) := by decide +kernel
theorem xX5_judge_56 : xdec cX5_judge 56 = some (.iconst 1, 57, 0, 1) := by decide +kernel
theorem xX5_judge_57 : xdec cX5_judge 57 = some (.invokevirtual 136, 60, 0, 0) := by decide +kernel
theorem xX5_judge_60 : xdec cX5_judge 60 = some (.iinc 5 1, 63, 5, 1) := by decide +kernel
theorem xX5_judge_63 : xdec cX5_judge 63 = some (.goto (-35), 66, 28, 0) := by decide +kernel
theorem xX5_judge_66 : xdec cX5_judge 66 = some (.bipush (-4), 68, 0, (-4)) := by decide +kernel
theorem xX5_judge_68 : xdec cX5_judge 68 = some (.ireturn, 69, 0, 0) := by decide +kernel
theorem xX5_years_0 : xdec cX5_years 0 = some (.iload_n 1, 1, 1, 0) := by decide +kernel
theorem xX5_years_1 : xdec cX5_years 1 = some (.iconst 1, 2, 0, 1) := by decide +kernel
theorem xX5_years_2 : xdec cX5_years 2 = some (.bipush 20, 4, 0, 20) := by decide +kernel
theorem xX5_years_4 : xdec cX5_years 4 = some (.invokestatic 129, 7, 0, 0) := by decide +kernel
theorem xX5_years_7 : xdec cX5_years 7 = some (.ifCond .eq 12, 10, 19, 0) := by decide +kernel
theorem xX5_years_10 : xdec cX5_years 10 = some (.iload_n 3, 11, 3, 0) := by decide +kernel
theorem xX5_years_11 : xdec cX5_years 11 = some (.iconst 0, 12, 0, 0) := by decide +kernel
theorem xX5_years_12 : xdec cX5_years 12 = some (.iconst 1, 13, 0, 1) := by decide +kernel
theorem xX5_years_13 : xdec cX5_years 13 = some (.invokestatic 129, 16, 0, 0) := by decide +kernel
theorem xX5_years_16 : xdec cX5_years 16 = some (.ifCond .ne 5, 19, 21, 0) := by decide +kernel
theorem xX5_years_19 : xdec cX5_years 19 = some (.iconst (-1), 20, 0, (-1)) := by decide +kernel
theorem xX5_years_20 : xdec cX5_years 20 = some (.ireturn, 21, 0, 0) := by decide +kernel
theorem xX5_years_21 : xdec cX5_years 21 = some (.iload_n 2, 22, 2, 0) := by decide +kernel
theorem xX5_years_22 : xdec cX5_years 22 = some (.istore 4, 24, 4, 0) := by decide +kernel
theorem xX5_years_24 : xdec cX5_years 24 = some (.iconst 0, 25, 0, 0) := by decide +kernel
theorem xX5_years_25 : xdec cX5_years 25 = some (.istore 5, 27, 5, 0) := by decide +kernel
theorem xX5_years_27 : xdec cX5_years 27 = some (.iconst 0, 28, 0, 0) := by decide +kernel
theorem xX5_years_28 : xdec cX5_years 28 = some (.istore 6, 30, 6, 0) := by decide +kernel
theorem xX5_years_30 : xdec cX5_years 30 = some (.iload 6, 32, 6, 0) := by decide +kernel
theorem xX5_years_32 : xdec cX5_years 32 = some (.iload_n 1, 33, 1, 0) := by decide +kernel
theorem xX5_years_33 : xdec cX5_years 33 = some (.if_icmp .ge 90, 36, 123, 0) := by decide +kernel
theorem xX5_years_36 : xdec cX5_years 36 = some (.aload_n 0, 37, 0, 0) := by decide +kernel
theorem xX5_years_37 : xdec cX5_years 37 = some (.invokevirtual 58, 40, 0, 0) := by decide +kernel
theorem xX5_years_40 : xdec cX5_years 40 = some (.astore 7, 42, 7, 0) := by decide +kernel
theorem xX5_years_42 : xdec cX5_years 42 = some (.aload 7, 44, 7, 0) := by decide +kernel
theorem xX5_years_44 : xdec cX5_years 44 = some (.getfield 89, 47, 89, 0) := by decide +kernel
theorem xX5_years_47 : xdec cX5_years 47 = some (.aload 7, 49, 7, 0) := by decide +kernel
theorem xX5_years_49 : xdec cX5_years 49 = some (.getfield 180, 52, 180, 0) := by decide +kernel
theorem xX5_years_52 : xdec cX5_years 52 = some (.bipush 10, 54, 0, 10) := by decide +kernel
theorem xX5_years_54 : xdec cX5_years 54 = some (.iload 4, 56, 4, 0) := by decide +kernel
theorem xX5_years_56 : xdec cX5_years 56 = some (.invokestatic 239, 59, 0, 0) := by decide +kernel
theorem xX5_years_59 : xdec cX5_years 59 = some (.istore 4, 61, 4, 0) := by decide +kernel
theorem xX5_years_61 : xdec cX5_years 61 = some (.aload 7, 63, 7, 0) := by decide +kernel
theorem xX5_years_63 : xdec cX5_years 63 = some (.getfield 113, 66, 113, 0) := by decide +kernel
theorem xX5_years_66 : xdec cX5_years 66 = some (.bipush 10, 68, 0, 10) := by decide +kernel
theorem xX5_years_68 : xdec cX5_years 68 = some (.bipush 6, 70, 0, 6) := by decide +kernel
theorem xX5_years_70 : xdec cX5_years 70 = some (.iload 4, 72, 4, 0) := by decide +kernel
theorem xX5_years_72 : xdec cX5_years 72 = some (.invokestatic 239, 75, 0, 0) := by decide +kernel
theorem xX5_years_75 : xdec cX5_years 75 = some (.istore 4, 77, 4, 0) := by decide +kernel
theorem xX5_years_77 : xdec cX5_years 77 = some (.aload 7, 79, 7, 0) := by decide +kernel
theorem xX5_years_79 : xdec cX5_years 79 = some (.bipush 12, 81, 0, 12) := by decide +kernel
theorem xX5_years_81 : xdec cX5_years 81 = some (.invokevirtual 136, 84, 0, 0) := by decide +kernel
theorem xX5_years_84 : xdec cX5_years 84 = some (.iload 5, 86, 5, 0) := by decide +kernel
theorem xX5_years_86 : xdec cX5_years 86 = some (.iload_n 3, 87, 3, 0) := by decide +kernel
theorem xX5_years_87 : xdec cX5_years 87 = some (.ifCond .ne 19, 90, 106, 0) := by decide +kernel
theorem xX5_years_90 : xdec cX5_years 90 = some (.aload 7, 92, 7, 0) := by decide +kernel
theorem xX5_years_92 : xdec cX5_years 92 = some (.getfield 151, 95, 151, 0) := by decide +kernel
theorem xX5_years_95 : xdec cX5_years 95 = some (.aload_n 0, 96, 0, 0) := by decide +kernel
theorem xX5_years_96 : xdec cX5_years 96 = some (.getfield 10, 99, 10, 0) := by decide +kernel
theorem xX5_years_99 : xdec cX5_years 99 = some (.getfield 151, 102, 151, 0) := by decide +kernel
theorem xX5_years_102 : xdec cX5_years 102 = some (.isub, 103, 0, 0) := by decide +kernel
theorem xX5_years_103 : xdec cX5_years 103 = some (.goto 11, 106, 114, 0) := by decide +kernel
theorem xX5_years_106 : xdec cX5_years 106 = some (.aload 7, 108, 7, 0) := by decide +kernel
theorem xX5_years_108 : xdec cX5_years 108 = some (.getfield 140, 111, 140, 0) := by decide +kernel
theorem xX5_years_111 : xdec cX5_years 111 = some (.invokestatic 143, 114, 0, 0) := by decide +kernel
theorem xX5_years_114 : xdec cX5_years 114 = some (.iadd, 115, 0, 0) := by decide +kernel
theorem xX5_years_115 : xdec cX5_years 115 = some (.istore 5, 117, 5, 0) := by decide +kernel
theorem xX5_years_117 : xdec cX5_years 117 = some (.iinc 6 1, 120, 6, 1) := by decide +kernel
theorem xX5_years_120 : xdec cX5_years 120 = some (.goto (-90), 123, 30, 0) := by decide +kernel
theorem xX5_years_123 : xdec cX5_years 123 = some (.iload 5, 125, 5, 0) := by decide +kernel
theorem xX5_years_125 : xdec cX5_years 125 = some (.ireturn, 126, 0, 0) := by decide +kernel
theorem xX5_drawInto_0 : xdec cX5_drawInto 0 = some (.iload_n 3, 1, 3, 0) := by decide +kernel
theorem xX5_drawInto_1 : xdec cX5_drawInto 1 = some (.istore 4, 3, 4, 0) := by decide +kernel
theorem xX5_drawInto_3 : xdec cX5_drawInto 3 = some (.iconst 0, 4, 0, 0) := by decide +kernel
theorem xX5_drawInto_4 : xdec cX5_drawInto 4 = some (.istore 5, 6, 5, 0) := by decide +kernel
theorem xX5_drawInto_6 : xdec cX5_drawInto 6 = some (.iload 5, 8, 5, 0) := by decide +kernel
theorem xX5_drawInto_8 : xdec cX5_drawInto 8 = some (.iload_n 1, 9, 1, 0) := by decide +kernel
theorem xX5_drawInto_9 : xdec cX5_drawInto 9 = some (.if_icmp .ge 49, 12, 58, 0) := by decide +kernel
theorem xX5_drawInto_12 : xdec cX5_drawInto 12 = some (.iload 5, 14, 5, 0) := by decide +kernel
theorem xX5_drawInto_14 : xdec cX5_drawInto 14 = some (.aload_n 0, 15, 0, 0) := by decide +kernel
theorem xX5_drawInto_15 : xdec cX5_drawInto 15 = some (.arraylength, 16, 0, 0) := by decide +kernel
theorem xX5_drawInto_16 : xdec cX5_drawInto 16 = some (.if_icmp .ge 42, 19, 58, 0) := by decide +kernel
theorem xX5_drawInto_19 : xdec cX5_drawInto 19 = some (.iload 4, 21, 4, 0) := by decide +kernel
theorem xX5_drawInto_21 : xdec cX5_drawInto 21 = some (.ldc 243, 23, 243, 0) := by decide +kernel
theorem xX5_drawInto_23 : xdec cX5_drawInto 23 = some (.imul, 24, 0, 0) := by decide +kernel
theorem xX5_drawInto_24 : xdec cX5_drawInto 24 = some (.sipush 12345, 27, 0, 12345) := by decide +kernel
theorem xX5_drawInto_27 : xdec cX5_drawInto 27 = some (.iadd, 28, 0, 0) := by decide +kernel
theorem xX5_drawInto_28 : xdec cX5_drawInto 28 = some (.istore 4, 30, 4, 0) := by decide +kernel
theorem xX5_drawInto_30 : xdec cX5_drawInto 30 = some (.aload_n 0, 31, 0, 0) := by decide +kernel
theorem xX5_drawInto_31 : xdec cX5_drawInto 31 = some (.iload 5, 33, 5, 0) := by decide +kernel
theorem xX5_drawInto_33 : xdec cX5_drawInto 33 = some (.iload_n 2, 34, 2, 0) := by decide +kernel
theorem xX5_drawInto_34 : xdec cX5_drawInto 34 = some (.ifCond .le 16, 37, 50, 0) := by decide +kernel
theorem xX5_drawInto_37 : xdec cX5_drawInto 37 = some (.iload 4, 39, 4, 0) := by decide +kernel
theorem xX5_drawInto_39 : xdec cX5_drawInto 39 = some (.ldc 244, 41, 244, 0) := by decide +kernel
theorem xX5_drawInto_41 : xdec cX5_drawInto 41 = some (.iand, 42, 0, 0) := by decide +kernel
theorem xX5_drawInto_42 : xdec cX5_drawInto 42 = some (.ldc 245, 44, 245, 0) := by decide +kernel
theorem xX5_drawInto_44 : xdec cX5_drawInto 44 = some (.idiv, 45, 0, 0) := by decide +kernel
theorem xX5_drawInto_45 : xdec cX5_drawInto 45 = some (.iload_n 2, 46, 2, 0) := by decide +kernel
theorem xX5_drawInto_46 : xdec cX5_drawInto 46 = some (.irem, 47, 0, 0) := by decide +kernel
theorem xX5_drawInto_47 : xdec cX5_drawInto 47 = some (.goto 4, 50, 51, 0) := by decide +kernel
theorem xX5_drawInto_50 : xdec cX5_drawInto 50 = some (.iconst 0, 51, 0, 0) := by decide +kernel
theorem xX5_drawInto_51 : xdec cX5_drawInto 51 = some (.iastore, 52, 0, 0) := by decide +kernel
theorem xX5_drawInto_52 : xdec cX5_drawInto 52 = some (.iinc 5 1, 55, 5, 1) := by decide +kernel
theorem xX5_drawInto_55 : xdec cX5_drawInto 55 = some (.goto (-49), 58, 6, 0) := by decide +kernel
theorem xX5_drawInto_58 : xdec cX5_drawInto 58 = some (.iload 4, 60, 4, 0) := by decide +kernel
theorem xX5_drawInto_60 : xdec cX5_drawInto 60 = some (.ireturn, 61, 0, 0) := by decide +kernel
theorem xX5_image_0 : xdec cX5_image 0 = some (.aload_n 0, 1, 0, 0) := by decide +kernel
theorem xX5_image_1 : xdec cX5_image 1 = some (.getfield 19, 4, 19, 0) := by decide +kernel
theorem xX5_image_4 : xdec cX5_image 4 = some (.aload_n 0, 5, 0, 0) := by decide +kernel
theorem xX5_image_5 : xdec cX5_image 5 = some (.getfield 10, 8, 10, 0) := by decide +kernel
theorem xX5_image_8 : xdec cX5_image 8 = some (.invokevirtual 76, 11, 0, 0) := by decide +kernel
theorem xX5_image_11 : xdec cX5_image 11 = some (.aload_n 0, 12, 0, 0) := by decide +kernel
theorem xX5_image_12 : xdec cX5_image 12 = some (.iconst 1, 13, 0, 1) := by decide +kernel
theorem xX5_image_13 : xdec cX5_image 13 = some (.putfield 22, 16, 22, 0) := by decide +kernel
theorem xX5_image_16 : xdec cX5_image 16 = some (.aload_n 0, 17, 0, 0) := by decide +kernel
theorem xX5_image_17 : xdec cX5_image 17 = some (.getfield 10, 20, 10, 0) := by decide +kernel
theorem xX5_image_20 : xdec cX5_image 20 = some (.getfield 133, 23, 133, 0) := by decide +kernel
theorem xX5_image_23 : xdec cX5_image 23 = some (.ireturn, 24, 0, 0) := by decide +kernel
theorem xX5_restore_0 : xdec cX5_restore 0 = some (.aload_n 0, 1, 0, 0) := by decide +kernel
theorem xX5_restore_1 : xdec cX5_restore 1 = some (.getfield 22, 4, 22, 0) := by decide +kernel
theorem xX5_restore_4 : xdec cX5_restore 4 = some (.ifCond .ne 6, 7, 10, 0) := by decide +kernel
theorem xX5_restore_7 : xdec cX5_restore 7 = some (.bipush (-3), 9, 0, (-3)) := by decide +kernel
theorem xX5_restore_9 : xdec cX5_restore 9 = some (.ireturn, 10, 0, 0) := by decide +kernel
theorem xX5_restore_10 : xdec cX5_restore 10 = some (.aload_n 0, 11, 0, 0) := by decide +kernel
theorem xX5_restore_11 : xdec cX5_restore 11 = some (.getfield 10, 14, 10, 0) := by decide +kernel
theorem xX5_restore_14 : xdec cX5_restore 14 = some (.aload_n 0, 15, 0, 0) := by decide +kernel
theorem xX5_restore_15 : xdec cX5_restore 15 = some (.getfield 19, 18, 19, 0) := by decide +kernel
theorem xX5_restore_18 : xdec cX5_restore 18 = some (.invokevirtual 76, 21, 0, 0) := by decide +kernel
theorem xX5_restore_21 : xdec cX5_restore 21 = some (.aload_n 0, 22, 0, 0) := by decide +kernel
theorem xX5_restore_22 : xdec cX5_restore 22 = some (.getfield 10, 25, 10, 0) := by decide +kernel
theorem xX5_restore_25 : xdec cX5_restore 25 = some (.getfield 133, 28, 133, 0) := by decide +kernel
theorem xX5_restore_28 : xdec cX5_restore 28 = some (.ireturn, 29, 0, 0) := by decide +kernel
theorem xX5_count_0 : xdec cX5_count 0 = some (.iload_n 1, 1, 1, 0) := by decide +kernel
theorem xX5_count_1 : xdec cX5_count 1 = some (.tableswitch 87 0 5 #[39, 47, 55, 63, 71, 79], 40, 0, 0) := by decide +kernel
theorem xX5_count_40 : xdec cX5_count 40 = some (.aload_n 0, 41, 0, 0) := by decide +kernel
theorem xX5_count_41 : xdec cX5_count 41 = some (.getfield 10, 44, 10, 0) := by decide +kernel
theorem xX5_count_44 : xdec cX5_count 44 = some (.getfield 180, 47, 180, 0) := by decide +kernel
theorem xX5_count_47 : xdec cX5_count 47 = some (.ireturn, 48, 0, 0) := by decide +kernel
theorem xX5_count_48 : xdec cX5_count 48 = some (.aload_n 0, 49, 0, 0) := by decide +kernel
theorem xX5_count_49 : xdec cX5_count 49 = some (.getfield 10, 52, 10, 0) := by decide +kernel
theorem xX5_count_52 : xdec cX5_count 52 = some (.getfield 133, 55, 133, 0) := by decide +kernel
theorem xX5_count_55 : xdec cX5_count 55 = some (.ireturn, 56, 0, 0) := by decide +kernel
theorem xX5_count_56 : xdec cX5_count 56 = some (.aload_n 0, 57, 0, 0) := by decide +kernel
theorem xX5_count_57 : xdec cX5_count 57 = some (.getfield 10, 60, 10, 0) := by decide +kernel
theorem xX5_count_60 : xdec cX5_count 60 = some (.getfield 151, 63, 151, 0) := by decide +kernel
theorem xX5_count_63 : xdec cX5_count 63 = some (.ireturn, 64, 0, 0) := by decide +kernel
theorem xX5_count_64 : xdec cX5_count 64 = some (.aload_n 0, 65, 0, 0) := by decide +kernel
theorem xX5_count_65 : xdec cX5_count 65 = some (.getfield 10, 68, 10, 0) := by decide +kernel
theorem xX5_count_68 : xdec cX5_count 68 = some (.getfield 154, 71, 154, 0) := by decide +kernel
theorem xX5_count_71 : xdec cX5_count 71 = some (.ireturn, 72, 0, 0) := by decide +kernel
theorem xX5_count_72 : xdec cX5_count 72 = some (.aload_n 0, 73, 0, 0) := by decide +kernel
theorem xX5_count_73 : xdec cX5_count 73 = some (.getfield 10, 76, 10, 0) := by decide +kernel
theorem xX5_count_76 : xdec cX5_count 76 = some (.getfield 140, 79, 140, 0) := by decide +kernel
theorem xX5_count_79 : xdec cX5_count 79 = some (.ireturn, 80, 0, 0) := by decide +kernel
theorem xX5_count_80 : xdec cX5_count 80 = some (.aload_n 0, 81, 0, 0) := by decide +kernel
theorem xX5_count_81 : xdec cX5_count 81 = some (.getfield 10, 84, 10, 0) := by decide +kernel
theorem xX5_count_84 : xdec cX5_count 84 = some (.invokevirtual 202, 87, 0, 0) := by decide +kernel
theorem xX5_count_87 : xdec cX5_count 87 = some (.ireturn, 88, 0, 0) := by decide +kernel
theorem xX5_count_88 : xdec cX5_count 88 = some (.iconst (-1), 89, 0, (-1)) := by decide +kernel
theorem xX5_count_89 : xdec cX5_count 89 = some (.ireturn, 90, 0, 0) := by decide +kernel
theorem xX5_keep_0 : xdec cX5_keep 0 = some (.iload_n 1, 1, 1, 0) := by decide +kernel
theorem xX5_keep_1 : xdec cX5_keep 1 = some (.invokestatic 246, 4, 0, 0) := by decide +kernel
theorem xX5_keep_4 : xdec cX5_keep 4 = some (.ifCond .eq 12, 7, 16, 0) := by decide +kernel
theorem xX5_keep_7 : xdec cX5_keep 7 = some (.iload_n 2, 8, 2, 0) := by decide +kernel
theorem xX5_keep_8 : xdec cX5_keep 8 = some (.iconst 0, 9, 0, 0) := by decide +kernel
theorem xX5_keep_9 : xdec cX5_keep 9 = some (.iconst 1, 10, 0, 1) := by decide +kernel
theorem xX5_keep_10 : xdec cX5_keep 10 = some (.invokestatic 129, 13, 0, 0) := by decide +kernel
theorem xX5_keep_13 : xdec cX5_keep 13 = some (.ifCond .ne 5, 16, 18, 0) := by decide +kernel
theorem xX5_keep_16 : xdec cX5_keep 16 = some (.iconst (-1), 17, 0, (-1)) := by decide +kernel
theorem xX5_keep_17 : xdec cX5_keep 17 = some (.ireturn, 18, 0, 0) := by decide +kernel
theorem xX5_keep_18 : xdec cX5_keep 18 = some (.iload_n 2, 19, 2, 0) := by decide +kernel
theorem xX5_keep_19 : xdec cX5_keep 19 = some (.ifCond .ne 14, 22, 33, 0) := by decide +kernel
theorem xX5_keep_22 : xdec cX5_keep 22 = some (.aload_n 0, 23, 0, 0) := by decide +kernel
theorem xX5_keep_23 : xdec cX5_keep 23 = some (.getfield 28, 26, 28, 0) := by decide +kernel
theorem xX5_keep_26 : xdec cX5_keep 26 = some (.iload_n 1, 27, 1, 0) := by decide +kernel
theorem xX5_keep_27 : xdec cX5_keep 27 = some (.aaload, 28, 0, 0) := by decide +kernel
theorem xX5_keep_28 : xdec cX5_keep 28 = some (.invokevirtual 249, 31, 0, 0) := by decide +kernel
theorem xX5_keep_31 : xdec cX5_keep 31 = some (.iconst 0, 32, 0, 0) := by decide +kernel
theorem xX5_keep_32 : xdec cX5_keep 32 = some (.ireturn, 33, 0, 0) := by decide +kernel
theorem xX5_keep_33 : xdec cX5_keep 33 = some (.iload_n 3, 34, 3, 0) := by decide +kernel
theorem xX5_keep_34 : xdec cX5_keep 34 = some (.invokestatic 252, 37, 0, 0) := by decide +kernel
theorem xX5_keep_37 : xdec cX5_keep 37 = some (.ifCond .eq 11, 40, 48, 0) := by decide +kernel
theorem xX5_keep_40 : xdec cX5_keep 40 = some (.iload 4, 42, 4, 0) := by decide +kernel
theorem xX5_keep_42 : xdec cX5_keep 42 = some (.invokestatic 255, 45, 0, 0) := by decide +kernel
theorem xX5_keep_45 : xdec cX5_keep 45 = some (.ifCond .ne 5, 48, 50, 0) := by decide +kernel
theorem xX5_keep_48 : xdec cX5_keep 48 = some (.iconst (-1), 49, 0, (-1)) := by decide +kernel
theorem xX5_keep_49 : xdec cX5_keep 49 = some (.ireturn, 50, 0, 0) := by decide +kernel
theorem xX5_keep_50 : xdec cX5_keep 50 = some (.aload_n 0, 51, 0, 0) := by decide +kernel
theorem xX5_keep_51 : xdec cX5_keep 51 = some (.getfield 28, 54, 28, 0) := by decide +kernel
theorem xX5_keep_54 : xdec cX5_keep 54 = some (.iload_n 1, 55, 1, 0) := by decide +kernel
theorem xX5_keep_55 : xdec cX5_keep 55 = some (.aaload, 56, 0, 0) := by decide +kernel
theorem xX5_keep_56 : xdec cX5_keep 56 = some (.iload_n 3, 57, 3, 0) := by decide +kernel
theorem xX5_keep_57 : xdec cX5_keep 57 = some (.iload 4, 59, 4, 0) := by decide +kernel
theorem xX5_keep_59 : xdec cX5_keep 59 = some (.invokevirtual 258, 62, 0, 0) := by decide +kernel
theorem xX5_keep_62 : xdec cX5_keep 62 = some (.iconst 0, 63, 0, 0) := by decide +kernel
theorem xX5_keep_63 : xdec cX5_keep 63 = some (.ireturn, 64, 0, 0) := by decide +kernel
theorem xX5_row_0 : xdec cX5_row 0 = some (.iload_n 1, 1, 1, 0) := by decide +kernel
theorem xX5_row_1 : xdec cX5_row 1 = some (.invokestatic 246, 4, 0, 0) := by decide +kernel
theorem xX5_row_4 : xdec cX5_row 4 = some (.ifCond .eq 16, 7, 20, 0) := by decide +kernel
theorem xX5_row_7 : xdec cX5_row 7 = some (.iload_n 2, 8, 2, 0) := by decide +kernel
theorem xX5_row_8 : xdec cX5_row 8 = some (.invokestatic 261, 11, 0, 0) := by decide +kernel
theorem xX5_row_11 : xdec cX5_row 11 = some (.ifCond .eq 9, 14, 20, 0) := by decide +kernel
theorem xX5_row_14 : xdec cX5_row 14 = some (.iload_n 3, 15, 3, 0) := by decide +kernel
theorem xX5_row_15 : xdec cX5_row 15 = some (.bipush 100, 17, 0, 100) := by decide +kernel
theorem xX5_row_17 : xdec cX5_row 17 = some (.if_icmp .le 5, 20, 22, 0) := by decide +kernel
theorem xX5_row_20 : xdec cX5_row 20 = some (.iconst (-1), 21, 0, (-1)) := by decide +kernel
theorem xX5_row_21 : xdec cX5_row 21 = some (.ireturn, 22, 0, 0) := by decide +kernel
theorem xX5_row_22 : xdec cX5_row 22 = some (.iload_n 3, 23, 3, 0) := by decide +kernel
theorem xX5_row_23 : xdec cX5_row 23 = some (.ifCond .ge 6, 26, 29, 0) := by decide +kernel
theorem xX5_row_26 : xdec cX5_row 26 = some (.bipush (-14), 28, 0, (-14)) := by decide +kernel
theorem xX5_row_28 : xdec cX5_row 28 = some (.ireturn, 29, 0, 0) := by decide +kernel
theorem xX5_row_29 : xdec cX5_row 29 = some (.aload_n 0, 30, 0, 0) := by decide +kernel
theorem xX5_row_30 : xdec cX5_row 30 = some (.getfield 28, 33, 28, 0) := by decide +kernel
theorem xX5_row_33 : xdec cX5_row 33 = some (.iload_n 1, 34, 1, 0) := by decide +kernel
theorem xX5_row_34 : xdec cX5_row 34 = some (.aaload, 35, 0, 0) := by decide +kernel
theorem xX5_row_35 : xdec cX5_row 35 = some (.iload_n 2, 36, 2, 0) := by decide +kernel
theorem xX5_row_36 : xdec cX5_row 36 = some (.iload_n 3, 37, 3, 0) := by decide +kernel
theorem xX5_row_37 : xdec cX5_row 37 = some (.invokevirtual 264, 40, 0, 0) := by decide +kernel
theorem xX5_row_40 : xdec cX5_row 40 = some (.iconst 0, 41, 0, 0) := by decide +kernel
theorem xX5_row_41 : xdec cX5_row 41 = some (.ireturn, 42, 0, 0) := by decide +kernel
theorem xX5_put_0 : xdec cX5_put 0 = some (.aload_n 0, 1, 0, 0) := by decide +kernel
theorem xX5_put_1 : xdec cX5_put 1 = some (.iload_n 1, 2, 1, 0) := by decide +kernel
theorem xX5_put_2 : xdec cX5_put 2 = some (.invokevirtual 44, 5, 0, 0) := by decide +kernel
theorem xX5_put_5 : xdec cX5_put 5 = some (.istore 4, 7, 4, 0) := by decide +kernel
theorem xX5_put_7 : xdec cX5_put 7 = some (.iload 4, 9, 4, 0) := by decide +kernel
theorem xX5_put_9 : xdec cX5_put 9 = some (.ifCond .eq 6, 12, 15, 0) := by decide +kernel
theorem xX5_put_12 : xdec cX5_put 12 = some (.iload 4, 14, 4, 0) := by decide +kernel
theorem xX5_put_14 : xdec cX5_put 14 = some (.ireturn, 15, 0, 0) := by decide +kernel
theorem xX5_put_15 : xdec cX5_put 15 = some (.aload_n 0, 16, 0, 0) := by decide +kernel
theorem xX5_put_16 : xdec cX5_put 16 = some (.getfield 28, 19, 28, 0) := by decide +kernel
theorem xX5_put_19 : xdec cX5_put 19 = some (.iload_n 1, 20, 1, 0) := by decide +kernel
theorem xX5_put_20 : xdec cX5_put 20 = some (.aaload, 21, 0, 0) := by decide +kernel
theorem xX5_put_21 : xdec cX5_put 21 = some (.astore 5, 23, 5, 0) := by decide +kernel
theorem xX5_put_23 : xdec cX5_put 23 = some (.aload 5, 25, 5, 0) := by decide +kernel
theorem xX5_put_25 : xdec cX5_put 25 = some (.iload_n 2, 26, 2, 0) := by decide +kernel
theorem xX5_put_26 : xdec cX5_put 26 = some (.invokevirtual 267, 29, 0, 0) := by decide +kernel
theorem xX5_put_29 : xdec cX5_put 29 = some (.ifCond .ne 6, 32, 35, 0) := by decide +kernel
theorem xX5_put_32 : xdec cX5_put 32 = some (.bipush (-13), 34, 0, (-13)) := by decide +kernel
theorem xX5_put_34 : xdec cX5_put 34 = some (.ireturn, 35, 0, 0) := by decide +kernel
theorem xX5_put_35 : xdec cX5_put 35 = some (.aload 5, 37, 5, 0) := by decide +kernel
theorem xX5_put_37 : xdec cX5_put 37 = some (.getfield 65, 40, 65, 0) := by decide +kernel
theorem xX5_put_40 : xdec cX5_put 40 = some (.iload_n 2, 41, 2, 0) := by decide +kernel
theorem xX5_put_41 : xdec cX5_put 41 = some (.aload 5, 43, 5, 0) := by decide +kernel
theorem xX5_put_43 : xdec cX5_put 43 = some (.getfield 48, 46, 48, 0) := by decide +kernel
theorem xX5_put_46 : xdec cX5_put 46 = some (.iload_n 3, 47, 3, 0) := by decide +kernel
theorem xX5_put_47 : xdec cX5_put 47 = some (.invokestatic 270, 50, 0, 0) := by decide +kernel
theorem xX5_put_50 : xdec cX5_put 50 = some (.iastore, 51, 0, 0) := by decide +kernel
theorem xX5_put_51 : xdec cX5_put 51 = some (.iconst 0, 52, 0, 0) := by decide +kernel
theorem xX5_put_52 : xdec cX5_put 52 = some (.ireturn, 53, 0, 0) := by decide +kernel
theorem xX5_element_0 : xdec cX5_element 0 = some (.iload_n 1, 1, 1, 0) := by decide +kernel
theorem xX5_element_1 : xdec cX5_element 1 = some (.invokestatic 246, 4, 0, 0) := by decide +kernel
theorem xX5_element_4 : xdec cX5_element 4 = some (.ifCond .ne 14, 7, 18, 0) := by decide +kernel
theorem xX5_element_7 : xdec cX5_element 7 = some (.new 274, 10, 0, 0) := by decide +kernel
theorem xX5_element_10 : xdec cX5_element 10 = some (.dup, 11, 0, 0) := by decide +kernel
theorem xX5_element_11 : xdec cX5_element 11 = some (.ldc_w 276, 14, 276, 0) := by decide +kernel
theorem xX5_element_14 : xdec cX5_element 14 = some (.invokespecial 278, 17, 0, 0) := by decide +kernel
theorem xX5_element_17 : xdec cX5_element 17 = some (.athrow, 18, 0, 0) := by decide +kernel
theorem xX5_element_18 : xdec cX5_element 18 = some (.aload_n 0, 19, 0, 0) := by decide +kernel
theorem xX5_element_19 : xdec cX5_element 19 = some (.getfield 28, 22, 28, 0) := by decide +kernel
theorem xX5_element_22 : xdec cX5_element 22 = some (.iload_n 1, 23, 1, 0) := by decide +kernel
theorem xX5_element_23 : xdec cX5_element 23 = some (.aaload, 24, 0, 0) := by decide +kernel
theorem xX5_element_24 : xdec cX5_element 24 = some (.astore_n 3, 25, 3, 0) := by decide +kernel
theorem xX5_element_25 : xdec cX5_element 25 = some (.aload_n 3, 26, 3, 0) := by decide +kernel
theorem xX5_element_26 : xdec cX5_element 26 = some (.getfield 281, 29, 281, 0) := by decide +kernel
theorem xX5_element_29 : xdec cX5_element 29 = some (.iconst 2, 30, 0, 2) := by decide +kernel
theorem xX5_element_30 : xdec cX5_element 30 = some (.if_icmp .eq 14, 33, 44, 0) := by decide +kernel
theorem xX5_element_33 : xdec cX5_element 33 = some (.new 284, 36, 0, 0) := by decide +kernel
theorem xX5_element_36 : xdec cX5_element 36 = some (.dup, 37, 0, 0) := by decide +kernel
theorem xX5_element_37 : xdec cX5_element 37 = some (.ldc_w 286, 40, 286, 0) := by decide +kernel
theorem xX5_element_40 : xdec cX5_element 40 = some (.invokespecial 288, 43, 0, 0) := by decide +kernel
theorem xX5_element_43 : xdec cX5_element 43 = some (.athrow, 44, 0, 0) := by decide +kernel
theorem xX5_element_44 : xdec cX5_element 44 = some (.aload_n 3, 45, 3, 0) := by decide +kernel
theorem xX5_element_45 : xdec cX5_element 45 = some (.iload_n 2, 46, 2, 0) := by decide +kernel
theorem xX5_element_46 : xdec cX5_element 46 = some (.invokevirtual 267, 49, 0, 0) := by decide +kernel
theorem xX5_element_49 : xdec cX5_element 49 = some (.ifCond .ne 14, 52, 63, 0) := by decide +kernel
theorem xX5_element_52 : xdec cX5_element 52 = some (.new 284, 55, 0, 0) := by decide +kernel
theorem xX5_element_55 : xdec cX5_element 55 = some (.dup, 56, 0, 0) := by decide +kernel
theorem xX5_element_56 : xdec cX5_element 56 = some (.ldc_w 289, 59, 289, 0) := by decide +kernel
theorem xX5_element_59 : xdec cX5_element 59 = some (.invokespecial 288, 62, 0, 0) := by decide +kernel
theorem xX5_element_62 : xdec cX5_element 62 = some (.athrow, 63, 0, 0) := by decide +kernel
theorem xX5_element_63 : xdec cX5_element 63 = some (.aload_n 3, 64, 3, 0) := by decide +kernel
theorem xX5_element_64 : xdec cX5_element 64 = some (.getfield 65, 67, 65, 0) := by decide +kernel
theorem xX5_element_67 : xdec cX5_element 67 = some (.iload_n 2, 68, 2, 0) := by decide +kernel
theorem xX5_element_68 : xdec cX5_element 68 = some (.iaload, 69, 0, 0) := by decide +kernel
theorem xX5_element_69 : xdec cX5_element 69 = some (.i2l, 70, 0, 0) := by decide +kernel
theorem xX5_element_70 : xdec cX5_element 70 = some (.lreturn, 71, 0, 0) := by decide +kernel
theorem xX5_copy_0 : xdec cX5_copy 0 = some (.iload_n 1, 1, 1, 0) := by decide +kernel
theorem xX5_copy_1 : xdec cX5_copy 1 = some (.invokestatic 246, 4, 0, 0) := by decide +kernel
theorem xX5_copy_4 : xdec cX5_copy 4 = some (.ifCond .eq 10, 7, 14, 0) := by decide +kernel
theorem xX5_copy_7 : xdec cX5_copy 7 = some (.iload_n 3, 8, 3, 0) := by decide +kernel
theorem xX5_copy_8 : xdec cX5_copy 8 = some (.invokestatic 246, 11, 0, 0) := by decide +kernel
theorem xX5_copy_11 : xdec cX5_copy 11 = some (.ifCond .ne 5, 14, 16, 0) := by decide +kernel
theorem xX5_copy_14 : xdec cX5_copy 14 = some (.iconst (-1), 15, 0, (-1)) := by decide +kernel
theorem xX5_copy_15 : xdec cX5_copy 15 = some (.ireturn, 16, 0, 0) := by decide +kernel
theorem xX5_copy_16 : xdec cX5_copy 16 = some (.aload_n 0, 17, 0, 0) := by decide +kernel
theorem xX5_copy_17 : xdec cX5_copy 17 = some (.getfield 28, 20, 28, 0) := by decide +kernel
theorem xX5_copy_20 : xdec cX5_copy 20 = some (.iload_n 1, 21, 1, 0) := by decide +kernel
theorem xX5_copy_21 : xdec cX5_copy 21 = some (.aaload, 22, 0, 0) := by decide +kernel
theorem xX5_copy_22 : xdec cX5_copy 22 = some (.astore 6, 24, 6, 0) := by decide +kernel
theorem xX5_copy_24 : xdec cX5_copy 24 = some (.aload_n 0, 25, 0, 0) := by decide +kernel
theorem xX5_copy_25 : xdec cX5_copy 25 = some (.getfield 28, 28, 28, 0) := by decide +kernel
theorem xX5_copy_28 : xdec cX5_copy 28 = some (.iload_n 3, 29, 3, 0) := by decide +kernel
theorem xX5_copy_29 : xdec cX5_copy 29 = some (.aaload, 30, 0, 0) := by decide +kernel
theorem xX5_copy_30 : xdec cX5_copy 30 = some (.astore 7, 32, 7, 0) := by decide +kernel
theorem xX5_copy_32 : xdec cX5_copy 32 = some (.aload 6, 34, 6, 0) := by decide +kernel
theorem xX5_copy_34 : xdec cX5_copy 34 = some (.getfield 281, 37, 281, 0) := by decide +kernel
theorem xX5_copy_37 : xdec cX5_copy 37 = some (.ifCond .eq 11, 40, 48, 0) := by decide +kernel
theorem xX5_copy_40 : xdec cX5_copy 40 = some (.aload 7, 42, 7, 0) := by decide +kernel
theorem xX5_copy_42 : xdec cX5_copy 42 = some (.getfield 281, 45, 281, 0) := by decide +kernel
theorem xX5_copy_45 : xdec cX5_copy 45 = some (.ifCond .ne 6, 48, 51, 0) := by decide +kernel
theorem xX5_copy_48 : xdec cX5_copy 48 = some (.bipush (-11), 50, 0, (-11)) := by decide +kernel
theorem xX5_copy_50 : xdec cX5_copy 50 = some (.ireturn, 51, 0, 0) := by decide +kernel
theorem xX5_copy_51 : xdec cX5_copy 51 = some (.aload 6, 53, 6, 0) := by decide +kernel
theorem xX5_copy_53 : xdec cX5_copy 53 = some (.getfield 281, 56, 281, 0) := by decide +kernel
theorem xX5_copy_56 : xdec cX5_copy 56 = some (.iconst 2, 57, 0, 2) := by decide +kernel
theorem xX5_copy_57 : xdec cX5_copy 57 = some (.if_icmp .ne 25, 60, 82, 0) := by decide +kernel
theorem xX5_copy_60 : xdec cX5_copy 60 = some (.aload 7, 62, 7, 0) := by decide +kernel
theorem xX5_copy_62 : xdec cX5_copy 62 = some (.getfield 281, 65, 281, 0) := by decide +kernel
theorem xX5_copy_65 : xdec cX5_copy 65 = some (.iconst 2, 66, 0, 2) := by decide +kernel
theorem xX5_copy_66 : xdec cX5_copy 66 = some (.if_icmp .ne 16, 69, 82, 0) := by decide +kernel
theorem xX5_copy_69 : xdec cX5_copy 69 = some (.aload 6, 71, 6, 0) := by decide +kernel
theorem xX5_copy_71 : xdec cX5_copy 71 = some (.getfield 48, 74, 48, 0) := by decide +kernel
theorem xX5_copy_74 : xdec cX5_copy 74 = some (.aload 7, 76, 7, 0) := by decide +kernel
theorem xX5_copy_76 : xdec cX5_copy 76 = some (.getfield 48, 79, 48, 0) := by decide +kernel
theorem xX5_copy_79 : xdec cX5_copy 79 = some (.if_icmp .eq 6, 82, 85, 0) := by decide +kernel
theorem xX5_copy_82 : xdec cX5_copy 82 = some (.bipush (-12), 84, 0, (-12)) := by decide +kernel
theorem xX5_copy_84 : xdec cX5_copy 84 = some (.ireturn, 85, 0, 0) := by decide +kernel
theorem xX5_copy_85 : xdec cX5_copy 85 = some (.aload 6, 87, 6, 0) := by decide +kernel
theorem xX5_copy_87 : xdec cX5_copy 87 = some (.iload_n 2, 88, 2, 0) := by decide +kernel
theorem xX5_copy_88 : xdec cX5_copy 88 = some (.iload 5, 90, 5, 0) := by decide +kernel
theorem xX5_copy_90 : xdec cX5_copy 90 = some (.invokevirtual 291, 93, 0, 0) := by decide +kernel
theorem xX5_copy_93 : xdec cX5_copy 93 = some (.ifCond .eq 15, 96, 108, 0) := by decide +kernel
theorem xX5_copy_96 : xdec cX5_copy 96 = some (.aload 7, 98, 7, 0) := by decide +kernel
theorem xX5_copy_98 : xdec cX5_copy 98 = some (.iload 4, 100, 4, 0) := by decide +kernel
theorem xX5_copy_100 : xdec cX5_copy 100 = some (.iload 5, 102, 5, 0) := by decide +kernel
theorem xX5_copy_102 : xdec cX5_copy 102 = some (.invokevirtual 291, 105, 0, 0) := by decide +kernel
theorem xX5_copy_105 : xdec cX5_copy 105 = some (.ifCond .ne 6, 108, 111, 0) := by decide +kernel
theorem xX5_copy_108 : xdec cX5_copy 108 = some (.bipush (-13), 110, 0, (-13)) := by decide +kernel
theorem xX5_copy_110 : xdec cX5_copy 110 = some (.ireturn, 111, 0, 0) := by decide +kernel
theorem xX5_copy_111 : xdec cX5_copy 111 = some (.aload 6, 113, 6, 0) := by decide +kernel
theorem xX5_copy_113 : xdec cX5_copy 113 = some (.getfield 65, 116, 65, 0) := by decide +kernel
theorem xX5_copy_116 : xdec cX5_copy 116 = some (.iload_n 2, 117, 2, 0) := by decide +kernel
theorem xX5_copy_117 : xdec cX5_copy 117 = some (.aload 7, 119, 7, 0) := by decide +kernel
theorem xX5_copy_119 : xdec cX5_copy 119 = some (.getfield 65, 122, 65, 0) := by decide +kernel
theorem xX5_copy_122 : xdec cX5_copy 122 = some (.iload 4, 124, 4, 0) := by decide +kernel
theorem xX5_copy_124 : xdec cX5_copy 124 = some (.iload 5, 126, 5, 0) := by decide +kernel
theorem xX5_copy_126 : xdec cX5_copy 126 = some (.invokestatic 294, 129, 0, 0) := by decide +kernel
theorem xX5_copy_129 : xdec cX5_copy 129 = some (.iload 5, 131, 5, 0) := by decide +kernel
theorem xX5_copy_131 : xdec cX5_copy 131 = some (.ireturn, 132, 0, 0) := by decide +kernel
theorem xX5_cost_0 : xdec cX5_cost 0 = some (.aload_n 0, 1, 0, 0) := by decide +kernel
theorem xX5_cost_1 : xdec cX5_cost 1 = some (.iload_n 1, 2, 1, 0) := by decide +kernel
theorem xX5_cost_2 : xdec cX5_cost 2 = some (.invokevirtual 116, 5, 0, 0) := by decide +kernel
theorem xX5_cost_5 : xdec cX5_cost 5 = some (.istore_n 2, 6, 2, 0) := by decide +kernel
theorem xX5_cost_6 : xdec cX5_cost 6 = some (.iload_n 2, 7, 2, 0) := by decide +kernel
theorem xX5_cost_7 : xdec cX5_cost 7 = some (.ifCond .eq 7, 10, 14, 0) := by decide +kernel
theorem xX5_cost_10 : xdec cX5_cost 10 = some (.iload_n 2, 11, 2, 0) := by decide +kernel
theorem xX5_cost_11 : xdec cX5_cost 11 = some (.goto 24, 14, 35, 0) := by decide +kernel
theorem xX5_cost_14 : xdec cX5_cost 14 = some (.aload_n 0, 15, 0, 0) := by decide +kernel
theorem xX5_cost_15 : xdec cX5_cost 15 = some (.getfield 28, 18, 28, 0) := by decide +kernel
theorem xX5_cost_18 : xdec cX5_cost 18 = some (.iload_n 1, 19, 1, 0) := by decide +kernel
theorem xX5_cost_19 : xdec cX5_cost 19 = some (.aaload, 20, 0, 0) := by decide +kernel
theorem xX5_cost_20 : xdec cX5_cost 20 = some (.getfield 119, 23, 119, 0) := by decide +kernel
theorem xX5_cost_23 : xdec cX5_cost 23 = some (.aload_n 0, 24, 0, 0) := by decide +kernel
theorem xX5_cost_24 : xdec cX5_cost 24 = some (.getfield 28, 27, 28, 0) := by decide +kernel
theorem xX5_cost_27 : xdec cX5_cost 27 = some (.iload_n 1, 28, 1, 0) := by decide +kernel
theorem xX5_cost_28 : xdec cX5_cost 28 = some (.aaload, 29, 0, 0) := by decide +kernel
theorem xX5_cost_29 : xdec cX5_cost 29 = some (.getfield 122, 32, 122, 0) := by decide +kernel
theorem xX5_cost_32 : xdec cX5_cost 32 = some (.invokestatic 300, 35, 0, 0) := by decide +kernel
theorem xX5_cost_35 : xdec cX5_cost 35 = some (.ireturn, 36, 0, 0) := by decide +kernel
theorem xX5_toss_0 : xdec cX5_toss 0 = some (.aload_n 0, 1, 0, 0) := by decide +kernel
theorem xX5_toss_1 : xdec cX5_toss 1 = some (.iload_n 1, 2, 1, 0) := by decide +kernel
theorem xX5_toss_2 : xdec cX5_toss 2 = some (.invokevirtual 116, 5, 0, 0) := by decide +kernel
theorem xX5_toss_5 : xdec cX5_toss 5 = some (.istore_n 2, 6, 2, 0) := by decide +kernel
theorem xX5_toss_6 : xdec cX5_toss 6 = some (.iload_n 2, 7, 2, 0) := by decide +kernel
theorem xX5_toss_7 : xdec cX5_toss 7 = some (.ifCond .eq 5, 10, 12, 0) := by decide +kernel
theorem xX5_toss_10 : xdec cX5_toss 10 = some (.iload_n 2, 11, 2, 0) := by decide +kernel
theorem xX5_toss_11 : xdec cX5_toss 11 = some (.ireturn, 12, 0, 0) := by decide +kernel
theorem xX5_toss_12 : xdec cX5_toss 12 = some (.aload_n 0, 13, 0, 0) := by decide +kernel
theorem xX5_toss_13 : xdec cX5_toss 13 = some (.getfield 28, 16, 28, 0) := by decide +kernel
theorem xX5_toss_16 : xdec cX5_toss 16 = some (.iload_n 1, 17, 1, 0) := by decide +kernel
theorem xX5_toss_17 : xdec cX5_toss 17 = some (.aaload, 18, 0, 0) := by decide +kernel
theorem xX5_toss_18 : xdec cX5_toss 18 = some (.getfield 119, 21, 119, 0) := by decide +kernel
theorem xX5_toss_21 : xdec cX5_toss 21 = some (.istore_n 3, 22, 3, 0) := by decide +kernel
theorem xX5_toss_22 : xdec cX5_toss 22 = some (.aload_n 0, 23, 0, 0) := by decide +kernel
theorem xX5_toss_23 : xdec cX5_toss 23 = some (.getfield 28, 26, 28, 0) := by decide +kernel
theorem xX5_toss_26 : xdec cX5_toss 26 = some (.iload_n 1, 27, 1, 0) := by decide +kernel
theorem xX5_toss_27 : xdec cX5_toss 27 = some (.aaload, 28, 0, 0) := by decide +kernel
theorem xX5_toss_28 : xdec cX5_toss 28 = some (.getfield 122, 31, 122, 0) := by decide +kernel
theorem xX5_toss_31 : xdec cX5_toss 31 = some (.istore 4, 33, 4, 0) := by decide +kernel
theorem xX5_toss_33 : xdec cX5_toss 33 = some (.iload_n 3, 34, 3, 0) := by decide +kernel
theorem xX5_toss_34 : xdec cX5_toss 34 = some (.iload 4, 36, 4, 0) := by decide +kernel
theorem xX5_toss_36 : xdec cX5_toss 36 = some (.invokestatic 303, 39, 0, 0) := by decide +kernel
theorem xX5_toss_39 : xdec cX5_toss 39 = some (.goto 29, 42, 68, 0) := by decide +kernel
theorem xX5_toss_42 : xdec cX5_toss 42 = some (.astore 5, 44, 5, 0) := by decide +kernel
theorem xX5_toss_44 : xdec cX5_toss 44 = some (.bipush 100, 46, 0, 100) := by decide +kernel
theorem xX5_toss_46 : xdec cX5_toss 46 = some (.iload 4, 48, 4, 0) := by decide +kernel
theorem xX5_toss_48 : xdec cX5_toss 48 = some (.iadd, 49, 0, 0) := by decide +kernel
theorem xX5_toss_49 : xdec cX5_toss 49 = some (.ireturn, 50, 0, 0) := by decide +kernel
theorem xX5_toss_50 : xdec cX5_toss 50 = some (.astore 5, 52, 5, 0) := by decide +kernel
theorem xX5_toss_52 : xdec cX5_toss 52 = some (.sipush 200, 55, 0, 200) := by decide +kernel
theorem xX5_toss_55 : xdec cX5_toss 55 = some (.iload_n 3, 56, 3, 0) := by decide +kernel
theorem xX5_toss_56 : xdec cX5_toss 56 = some (.iload 4, 58, 4, 0) := by decide +kernel
theorem xX5_toss_58 : xdec cX5_toss 58 = some (.invokestatic 300, 61, 0, 0) := by decide +kernel
theorem xX5_toss_61 : xdec cX5_toss 61 = some (.iadd, 62, 0, 0) := by decide +kernel
theorem xX5_toss_62 : xdec cX5_toss 62 = some (.ireturn, 63, 0, 0) := by decide +kernel
theorem xX5_toss_63 : xdec cX5_toss 63 = some (.astore 5, 65, 5, 0) := by decide +kernel
theorem xX5_toss_65 : xdec cX5_toss 65 = some (.iload 4, 67, 4, 0) := by decide +kernel
theorem xX5_toss_67 : xdec cX5_toss 67 = some (.ireturn, 68, 0, 0) := by decide +kernel
theorem xX5_toss_68 : xdec cX5_toss 68 = some (.bipush (-15), 70, 0, (-15)) := by decide +kernel
theorem xX5_toss_70 : xdec cX5_toss 70 = some (.ireturn, 71, 0, 0) := by decide +kernel
theorem xX5_inMind_0 : xdec cX5_inMind 0 = some (.aload_n 0, 1, 0, 0) := by decide +kernel
theorem xX5_inMind_1 : xdec cX5_inMind 1 = some (.getfield 16, 4, 16, 0) := by decide +kernel
theorem xX5_inMind_4 : xdec cX5_inMind 4 = some (.aload_n 0, 5, 0, 0) := by decide +kernel
theorem xX5_inMind_5 : xdec cX5_inMind 5 = some (.getfield 10, 8, 10, 0) := by decide +kernel
theorem xX5_inMind_8 : xdec cX5_inMind 8 = some (.invokevirtual 76, 11, 0, 0) := by decide +kernel
theorem xX5_inMind_11 : xdec cX5_inMind 11 = some (.aload_n 0, 12, 0, 0) := by decide +kernel
theorem xX5_inMind_12 : xdec cX5_inMind 12 = some (.getfield 16, 15, 16, 0) := by decide +kernel
theorem xX5_inMind_15 : xdec cX5_inMind 15 = some (.areturn, 16, 0, 0) := by decide +kernel
theorem xX5_rowRefusal_0 : xdec cX5_rowRefusal 0 = some (.aload_n 0, 1, 0, 0) := by decide +kernel
theorem xX5_rowRefusal_1 : xdec cX5_rowRefusal 1 = some (.iload_n 1, 2, 1, 0) := by decide +kernel
theorem xX5_rowRefusal_2 : xdec cX5_rowRefusal 2 = some (.iconst 2, 3, 0, 2) := by decide +kernel
theorem xX5_rowRefusal_3 : xdec cX5_rowRefusal 3 = some (.invokevirtual 308, 6, 0, 0) := by decide +kernel
theorem xX5_rowRefusal_6 : xdec cX5_rowRefusal 6 = some (.ireturn, 7, 0, 0) := by decide +kernel
theorem xX5_kindRefusal_0 : xdec cX5_kindRefusal 0 = some (.aload_n 0, 1, 0, 0) := by decide +kernel
theorem xX5_kindRefusal_1 : xdec cX5_kindRefusal 1 = some (.iload_n 1, 2, 1, 0) := by decide +kernel
theorem xX5_kindRefusal_2 : xdec cX5_kindRefusal 2 = some (.iconst 1, 3, 0, 1) := by decide +kernel
theorem xX5_kindRefusal_3 : xdec cX5_kindRefusal 3 = some (.invokevirtual 308, 6, 0, 0) := by decide +kernel
theorem xX5_kindRefusal_6 : xdec cX5_kindRefusal 6 = some (.ireturn, 7, 0, 0) := by decide +kernel
theorem xX5_refusalUnless_0 : xdec cX5_refusalUnless 0 = some (.iload_n 1, 1, 1, 0) := by decide +kernel
theorem xX5_refusalUnless_1 : xdec cX5_refusalUnless 1 = some (.invokestatic 246, 4, 0, 0) := by decide +kernel
theorem xX5_refusalUnless_4 : xdec cX5_refusalUnless 4 = some (.ifCond .ne 5, 7, 9, 0) := by decide +kernel
theorem xX5_refusalUnless_7 : xdec cX5_refusalUnless 7 = some (.iconst (-1), 8, 0, (-1)) := by decide +kernel
theorem xX5_refusalUnless_8 : xdec cX5_refusalUnless 8 = some (.ireturn, 9, 0, 0) := by decide +kernel
theorem xX5_refusalUnless_9 : xdec cX5_refusalUnless 9 = some (.aload_n 0, 10, 0, 0) := by decide +kernel
theorem xX5_refusalUnless_10 : xdec cX5_refusalUnless 10 = some (.getfield 28, 13, 28, 0) := by decide +kernel
theorem xX5_refusalUnless_13 : xdec cX5_refusalUnless 13 = some (.iload_n 1, 14, 1, 0) := by decide +kernel
theorem xX5_refusalUnless_14 : xdec cX5_refusalUnless 14 = some (.aaload, 15, 0, 0) := by decide +kernel
theorem xX5_refusalUnless_15 : xdec cX5_refusalUnless 15 = some (.getfield 281, 18, 281, 0) := by decide +kernel
theorem xX5_refusalUnless_18 : xdec cX5_refusalUnless 18 = some (.ifCond .ne 6, 21, 24, 0) := by decide +kernel
theorem xX5_refusalUnless_21 : xdec cX5_refusalUnless 21 = some (.bipush (-11), 23, 0, (-11)) := by decide +kernel
theorem xX5_refusalUnless_23 : xdec cX5_refusalUnless 23 = some (.ireturn, 24, 0, 0) := by decide +kernel
theorem xX5_refusalUnless_24 : xdec cX5_refusalUnless 24 = some (.aload_n 0, 25, 0, 0) := by decide +kernel
theorem xX5_refusalUnless_25 : xdec cX5_refusalUnless 25 = some (.getfield 28, 28, 28, 0) := by decide +kernel
theorem xX5_refusalUnless_28 : xdec cX5_refusalUnless 28 = some (.iload_n 1, 29, 1, 0) := by decide +kernel
theorem xX5_refusalUnless_29 : xdec cX5_refusalUnless 29 = some (.aaload, 30, 0, 0) := by decide +kernel
theorem xX5_refusalUnless_30 : xdec cX5_refusalUnless 30 = some (.getfield 281, 33, 281, 0) := by decide +kernel
theorem xX5_refusalUnless_33 : xdec cX5_refusalUnless 33 = some (.iload_n 2, 34, 2, 0) := by decide +kernel
theorem xX5_refusalUnless_34 : xdec cX5_refusalUnless 34 = some (.if_icmp .ne 7, 37, 41, 0) := by decide +kernel
theorem xX5_refusalUnless_37 : xdec cX5_refusalUnless 37 = some (.iconst 0, 38, 0, 0) := by decide +kernel
theorem xX5_refusalUnless_38 : xdec cX5_refusalUnless 38 = some (.goto 5, 41, 43, 0) := by decide +kernel
theorem xX5_refusalUnless_41 : xdec cX5_refusalUnless 41 = some (.bipush (-12), 43, 0, (-12)) := by decide +kernel
theorem xX5_refusalUnless_43 : xdec cX5_refusalUnless 43 = some (.ireturn, 44, 0, 0) := by decide +kernel
theorem xX5_within_0 : xdec cX5_within 0 = some (.iload_n 0, 1, 0, 0) := by decide +kernel
theorem xX5_within_1 : xdec cX5_within 1 = some (.iload_n 1, 2, 1, 0) := by decide +kernel
theorem xX5_within_2 : xdec cX5_within 2 = some (.if_icmp .lt 12, 5, 14, 0) := by decide +kernel
theorem xX5_within_5 : xdec cX5_within 5 = some (.iload_n 0, 6, 0, 0) := by decide +kernel
theorem xX5_within_6 : xdec cX5_within 6 = some (.iload_n 2, 7, 2, 0) := by decide +kernel
theorem xX5_within_7 : xdec cX5_within 7 = some (.if_icmp .gt 7, 10, 14, 0) := by decide +kernel
theorem xX5_within_10 : xdec cX5_within 10 = some (.iconst 1, 11, 0, 1) := by decide +kernel
theorem xX5_within_11 : xdec cX5_within 11 = some (.goto 4, 14, 15, 0) := by decide +kernel
theorem xX5_within_14 : xdec cX5_within 14 = some (.iconst 0, 15, 0, 0) := by decide +kernel
theorem xX5_within_15 : xdec cX5_within 15 = some (.ireturn, 16, 0, 0) := by decide +kernel
theorem xX5_isPlate_0 : xdec cX5_isPlate 0 = some (.iload_n 0, 1, 0, 0) := by decide +kernel
theorem xX5_isPlate_1 : xdec cX5_isPlate 1 = some (.iconst 0, 2, 0, 0) := by decide +kernel
theorem xX5_isPlate_2 : xdec cX5_isPlate 2 = some (.bipush 9, 4, 0, 9) := by decide +kernel
theorem xX5_isPlate_4 : xdec cX5_isPlate 4 = some (.invokestatic 129, 7, 0, 0) := by decide +kernel
theorem xX5_isPlate_7 : xdec cX5_isPlate 7 = some (.ireturn, 8, 0, 0) := by decide +kernel
theorem xX5_isWhile_0 : xdec cX5_isWhile 0 = some (.iload_n 0, 1, 0, 0) := by decide +kernel
theorem xX5_isWhile_1 : xdec cX5_isWhile 1 = some (.iconst 0, 2, 0, 0) := by decide +kernel
theorem xX5_isWhile_2 : xdec cX5_isWhile 2 = some (.bipush 60, 4, 0, 60) := by decide +kernel
theorem xX5_isWhile_4 : xdec cX5_isWhile 4 = some (.invokestatic 129, 7, 0, 0) := by decide +kernel
theorem xX5_isWhile_7 : xdec cX5_isWhile 7 = some (.ireturn, 8, 0, 0) := by decide +kernel
theorem xX5_isShelf_0 : xdec cX5_isShelf 0 = some (.iload_n 0, 1, 0, 0) := by decide +kernel
theorem xX5_isShelf_1 : xdec cX5_isShelf 1 = some (.iconst 0, 2, 0, 0) := by decide +kernel
theorem xX5_isShelf_2 : xdec cX5_isShelf 2 = some (.bipush 7, 4, 0, 7) := by decide +kernel
theorem xX5_isShelf_4 : xdec cX5_isShelf 4 = some (.invokestatic 129, 7, 0, 0) := by decide +kernel
theorem xX5_isShelf_7 : xdec cX5_isShelf 7 = some (.ireturn, 8, 0, 0) := by decide +kernel
theorem xX5_isDigit_0 : xdec cX5_isDigit 0 = some (.iload_n 0, 1, 0, 0) := by decide +kernel
theorem xX5_isDigit_1 : xdec cX5_isDigit 1 = some (.iconst 0, 2, 0, 0) := by decide +kernel
theorem xX5_isDigit_2 : xdec cX5_isDigit 2 = some (.bipush 9, 4, 0, 9) := by decide +kernel
theorem xX5_isDigit_4 : xdec cX5_isDigit 4 = some (.invokestatic 129, 7, 0, 0) := by decide +kernel
theorem xX5_isDigit_7 : xdec cX5_isDigit 7 = some (.ireturn, 8, 0, 0) := by decide +kernel
theorem xX5_leastOf_0 : xdec cX5_leastOf 0 = some (.iconst 0, 1, 0, 0) := by decide +kernel
theorem xX5_leastOf_1 : xdec cX5_leastOf 1 = some (.istore_n 1, 2, 1, 0) := by decide +kernel
theorem xX5_leastOf_2 : xdec cX5_leastOf 2 = some (.iload_n 1, 3, 1, 0) := by decide +kernel
theorem xX5_leastOf_3 : xdec cX5_leastOf 3 = some (.bipush 32, 5, 0, 32) := by decide +kernel
theorem xX5_leastOf_5 : xdec cX5_leastOf 5 = some (.if_icmp .ge 19, 8, 24, 0) := by decide +kernel
theorem xX5_leastOf_8 : xdec cX5_leastOf 8 = some (.iload_n 0, 9, 0, 0) := by decide +kernel
theorem xX5_leastOf_9 : xdec cX5_leastOf 9 = some (.iload_n 1, 10, 1, 0) := by decide +kernel
theorem xX5_leastOf_10 : xdec cX5_leastOf 10 = some (.ishr, 11, 0, 0) := by decide +kernel
theorem xX5_leastOf_11 : xdec cX5_leastOf 11 = some (.iconst 1, 12, 0, 1) := by decide +kernel
theorem xX5_leastOf_12 : xdec cX5_leastOf 12 = some (.iand, 13, 0, 0) := by decide +kernel
theorem xX5_leastOf_13 : xdec cX5_leastOf 13 = some (.ifCond .eq 5, 16, 18, 0) := by decide +kernel
theorem xX5_leastOf_16 : xdec cX5_leastOf 16 = some (.iload_n 1, 17, 1, 0) := by decide +kernel
theorem xX5_leastOf_17 : xdec cX5_leastOf 17 = some (.ireturn, 18, 0, 0) := by decide +kernel
theorem xX5_leastOf_18 : xdec cX5_leastOf 18 = some (.iinc 1 1, 21, 1, 1) := by decide +kernel
theorem xX5_leastOf_21 : xdec cX5_leastOf 21 = some (.goto (-19), 24, 2, 0) := by decide +kernel
theorem xX5_leastOf_24 : xdec cX5_leastOf 24 = some (.bipush (-4), 26, 0, (-4)) := by decide +kernel
theorem xX5_leastOf_26 : xdec cX5_leastOf 26 = some (.ireturn, 27, 0, 0) := by decide +kernel
theorem xX5_refusedLong_0 : xdec cX5_refusedLong 0 = some (.ldc2_w 311, 3, 311, 0) := by decide +kernel
theorem xX5_refusedLong_3 : xdec cX5_refusedLong 3 = some (.iload_n 0, 4, 0, 0) := by decide +kernel
theorem xX5_refusedLong_4 : xdec cX5_refusedLong 4 = some (.i2l, 5, 0, 0) := by decide +kernel
theorem xX5_refusedLong_5 : xdec cX5_refusedLong 5 = some (.lsub, 6, 0, 0) := by decide +kernel
theorem xX5_refusedLong_6 : xdec cX5_refusedLong 6 = some (.lreturn, 7, 0, 0) := by decide +kernel
theorem xX5_partOf_0 : xdec cX5_partOf 0 = some (.lload_n 0, 1, 0, 0) := by decide +kernel
theorem xX5_partOf_1 : xdec cX5_partOf 1 = some (.lload_n 2, 2, 2, 0) := by decide +kernel
theorem xX5_partOf_2 : xdec cX5_partOf 2 = some (.invokestatic 313, 5, 0, 0) := by decide +kernel
theorem xX5_partOf_5 : xdec cX5_partOf 5 = some (.lstore 5, 7, 5, 0) := by decide +kernel
theorem xX5_partOf_7 : xdec cX5_partOf 7 = some (.lload 5, 9, 5, 0) := by decide +kernel
theorem xX5_partOf_9 : xdec cX5_partOf 9 = some (.lconst 0, 10, 0, 0) := by decide +kernel
theorem xX5_partOf_10 : xdec cX5_partOf 10 = some (.lcmp, 11, 0, 0) := by decide +kernel
theorem xX5_partOf_11 : xdec cX5_partOf 11 = some (.ifCond .le 9, 14, 20, 0) := by decide +kernel
theorem xX5_partOf_14 : xdec cX5_partOf 14 = some (.lload_n 2, 15, 2, 0) := by decide +kernel
theorem xX5_partOf_15 : xdec cX5_partOf 15 = some (.lconst 0, 16, 0, 0) := by decide +kernel
theorem xX5_partOf_16 : xdec cX5_partOf 16 = some (.lcmp, 17, 0, 0) := by decide +kernel
theorem xX5_partOf_17 : xdec cX5_partOf 17 = some (.ifCond .gt 14, 20, 31, 0) := by decide +kernel
theorem xX5_partOf_20 : xdec cX5_partOf 20 = some (.iload 4, 22, 4, 0) := by decide +kernel
theorem xX5_partOf_22 : xdec cX5_partOf 22 = some (.ifCond .ne 7, 25, 29, 0) := by decide +kernel
theorem xX5_partOf_25 : xdec cX5_partOf 25 = some (.lconst 0, 26, 0, 0) := by decide +kernel
theorem xX5_partOf_26 : xdec cX5_partOf 26 = some (.goto 4, 29, 30, 0) := by decide +kernel
theorem xX5_partOf_29 : xdec cX5_partOf 29 = some (.lconst 1, 30, 0, 1) := by decide +kernel
theorem xX5_partOf_30 : xdec cX5_partOf 30 = some (.lreturn, 31, 0, 0) := by decide +kernel
theorem xX5_partOf_31 : xdec cX5_partOf 31 = some (.iload 4, 33, 4, 0) := by decide +kernel
theorem xX5_partOf_33 : xdec cX5_partOf 33 = some (.ifCond .ne 10, 36, 43, 0) := by decide +kernel
theorem xX5_partOf_36 : xdec cX5_partOf 36 = some (.lload_n 0, 37, 0, 0) := by decide +kernel
theorem xX5_partOf_37 : xdec cX5_partOf 37 = some (.lload 5, 39, 5, 0) := by decide +kernel
theorem xX5_partOf_39 : xdec cX5_partOf 39 = some (.ldiv, 40, 0, 0) := by decide +kernel
theorem xX5_partOf_40 : xdec cX5_partOf 40 = some (.goto 7, 43, 47, 0) := by decide +kernel
theorem xX5_partOf_43 : xdec cX5_partOf 43 = some (.lload_n 2, 44, 2, 0) := by decide +kernel
theorem xX5_partOf_44 : xdec cX5_partOf 44 = some (.lload 5, 46, 5, 0) := by decide +kernel
theorem xX5_partOf_46 : xdec cX5_partOf 46 = some (.ldiv, 47, 0, 0) := by decide +kernel
theorem xX5_partOf_47 : xdec cX5_partOf 47 = some (.lreturn, 48, 0, 0) := by decide +kernel
theorem xX5_sharedDivisor_0 : xdec cX5_sharedDivisor 0 = some (.lload_n 0, 1, 0, 0) := by decide +kernel
theorem xX5_sharedDivisor_1 : xdec cX5_sharedDivisor 1 = some (.lstore 4, 3, 4, 0) := by decide +kernel
theorem xX5_sharedDivisor_3 : xdec cX5_sharedDivisor 3 = some (.lload_n 2, 4, 2, 0) := by decide +kernel
theorem xX5_sharedDivisor_4 : xdec cX5_sharedDivisor 4 = some (.lstore 6, 6, 6, 0) := by decide +kernel
theorem xX5_sharedDivisor_6 : xdec cX5_sharedDivisor 6 = some (.iconst 0, 7, 0, 0) := by decide +kernel
theorem xX5_sharedDivisor_7 : xdec cX5_sharedDivisor 7 = some (.istore 8, 9, 8, 0) := by decide +kernel
theorem xX5_sharedDivisor_9 : xdec cX5_sharedDivisor 9 = some (.iload 8, 11, 8, 0) := by decide +kernel
theorem xX5_sharedDivisor_11 : xdec cX5_sharedDivisor 11 = some (.sipush 1000, 14, 0, 1000) := by decide +kernel
theorem xX5_sharedDivisor_14 : xdec cX5_sharedDivisor 14 = some (.if_icmp .ge 31, 17, 45, 0) := by decide +kernel
theorem xX5_sharedDivisor_17 : xdec cX5_sharedDivisor 17 = some (.lload 6, 19, 6, 0) := by decide +kernel
theorem xX5_sharedDivisor_19 : xdec cX5_sharedDivisor 19 = some (.lconst 0, 20, 0, 0) := by decide +kernel
theorem xX5_sharedDivisor_20 : xdec cX5_sharedDivisor 20 = some (.lcmp, 21, 0, 0) := by decide +kernel
theorem xX5_sharedDivisor_21 : xdec cX5_sharedDivisor 21 = some (.ifCond .eq 24, 24, 45, 0) := by decide +kernel
theorem xX5_sharedDivisor_24 : xdec cX5_sharedDivisor 24 = some (.lload 4, 26, 4, 0) := by decide +kernel
theorem xX5_sharedDivisor_26 : xdec cX5_sharedDivisor 26 = some (.lload 6, 28, 6, 0) := by decide +kernel
theorem xX5_sharedDivisor_28 : xdec cX5_sharedDivisor 28 = some (.lrem, 29, 0, 0) := by decide +kernel
theorem xX5_sharedDivisor_29 : xdec cX5_sharedDivisor 29 = some (.lstore 9, 31, 9, 0) := by decide +kernel
theorem xX5_sharedDivisor_31 : xdec cX5_sharedDivisor 31 = some (.lload 6, 33, 6, 0) := by decide +kernel
theorem xX5_sharedDivisor_33 : xdec cX5_sharedDivisor 33 = some (.lstore 4, 35, 4, 0) := by decide +kernel
theorem xX5_sharedDivisor_35 : xdec cX5_sharedDivisor 35 = some (.lload 9, 37, 9, 0) := by decide +kernel
theorem xX5_sharedDivisor_37 : xdec cX5_sharedDivisor 37 = some (.lstore 6, 39, 6, 0) := by decide +kernel
theorem xX5_sharedDivisor_39 : xdec cX5_sharedDivisor 39 = some (.iinc 8 1, 42, 8, 1) := by decide +kernel
theorem xX5_sharedDivisor_42 : xdec cX5_sharedDivisor 42 = some (.goto (-33), 45, 9, 0) := by decide +kernel
theorem xX5_sharedDivisor_45 : xdec cX5_sharedDivisor 45 = some (.lload 4, 47, 4, 0) := by decide +kernel
theorem xX5_sharedDivisor_47 : xdec cX5_sharedDivisor 47 = some (.lreturn, 48, 0, 0) := by decide +kernel
