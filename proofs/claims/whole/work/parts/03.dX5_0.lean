theorem dX5_init_0 : decode cX5_init 0 = .ok (.aload_n 0, 1) := by decide +kernel
theorem dX5_init_1 : decode cX5_init 1 = .ok (.invokespecial 1, 3) := by decide +kernel
theorem dX5_init_4 : decode cX5_init 4 = .ok (.aload_n 0, 1) := by decide +kernel
theorem dX5_init_5 : decode cX5_init 5 = .ok (.new 7, 3) := by decide +kernel
theorem dX5_init_8 : decode cX5_init 8 = .ok (.dup, 1) := by decide +kernel
theorem dX5_init_9 : decode cX5_init 9 = .ok (.invokespecial 9, 3) := by decide +kernel
theorem dX5_init_12 : decode cX5_init 12 = .ok (.putfield 10, 3) := by decide +kernel
theorem dX5_init_15 : decode cX5_init 15 = .ok (.aload_n 0, 1) := by decide +kernel
theorem dX5_init_16 : decode cX5_init 16 = .ok (.new 7, 3) := by decide +kernel
theorem dX5_init_19 : decode cX5_init 19 = .ok (.dup, 1) := by decide +kernel
theorem dX5_init_20 : decode cX5_init 20 = .ok (.invokespecial 9, 3) := by decide +kernel
theorem dX5_init_23 : decode cX5_init 23 = .ok (.putfield 16, 3) := by decide +kernel
theorem dX5_init_26 : decode cX5_init 26 = .ok (.aload_n 0, 1) := by decide +kernel
theorem dX5_init_27 : decode cX5_init 27 = .ok (.new 7, 3) := by decide +kernel
theorem dX5_init_30 : decode cX5_init 30 = .ok (.dup, 1) := by decide +kernel
theorem dX5_init_31 : decode cX5_init 31 = .ok (.invokespecial 9, 3) := by decide +kernel
theorem dX5_init_34 : decode cX5_init 34 = .ok (.putfield 19, 3) := by decide +kernel
theorem dX5_init_37 : decode cX5_init 37 = .ok (.aload_n 0, 1) := by decide +kernel
theorem dX5_init_38 : decode cX5_init 38 = .ok (.iconst 0, 1) := by decide +kernel
theorem dX5_init_39 : decode cX5_init 39 = .ok (.putfield 22, 3) := by decide +kernel
theorem dX5_init_42 : decode cX5_init 42 = .ok (.aload_n 0, 1) := by decide +kernel
theorem dX5_init_43 : decode cX5_init 43 = .ok (.bipush 8, 2) := by decide +kernel
theorem dX5_init_45 : decode cX5_init 45 = .ok (.anewarray 26, 3) := by decide +kernel
theorem dX5_init_48 : decode cX5_init 48 = .ok (.putfield 28, 3) := by decide +kernel
theorem dX5_init_51 : decode cX5_init 51 = .ok (.iconst 0, 1) := by decide +kernel
theorem dX5_init_52 : decode cX5_init 52 = .ok (.istore_n 1, 1) := by decide +kernel
theorem dX5_init_53 : decode cX5_init 53 = .ok (.iload_n 1, 1) := by decide +kernel
theorem dX5_init_54 : decode cX5_init 54 = .ok (.bipush 8, 2) := by decide +kernel
theorem dX5_init_56 : decode cX5_init 56 = .ok (.if_icmp .ge 22, 3) := by decide +kernel
theorem dX5_init_59 : decode cX5_init 59 = .ok (.aload_n 0, 1) := by decide +kernel
theorem dX5_init_60 : decode cX5_init 60 = .ok (.getfield 28, 3) := by decide +kernel
theorem dX5_init_63 : decode cX5_init 63 = .ok (.iload_n 1, 1) := by decide +kernel
theorem dX5_init_64 : decode cX5_init 64 = .ok (.new 26, 3) := by decide +kernel
theorem dX5_init_67 : decode cX5_init 67 = .ok (.dup, 1) := by decide +kernel
theorem dX5_init_68 : decode cX5_init 68 = .ok (.invokespecial 32, 3) := by decide +kernel
theorem dX5_init_71 : decode cX5_init 71 = .ok (.aastore, 1) := by decide +kernel
theorem dX5_init_72 : decode cX5_init 72 = .ok (.iinc 1 1, 3) := by decide +kernel
theorem dX5_init_75 : decode cX5_init 75 = .ok (.goto (-22), 3) := by decide +kernel
theorem dX5_init_78 : decode cX5_init 78 = .ok (.aload_n 0, 1) := by decide +kernel
theorem dX5_init_79 : decode cX5_init 79 = .ok (.new 33, 3) := by decide +kernel
theorem dX5_init_82 : decode cX5_init 82 = .ok (.dup, 1) := by decide +kernel
theorem dX5_init_83 : decode cX5_init 83 = .ok (.invokespecial 35, 3) := by decide +kernel
theorem dX5_init_86 : decode cX5_init 86 = .ok (.putfield 36, 3) := by decide +kernel
theorem dX5_init_89 : decode cX5_init 89 = .ok (.aload_n 0, 1) := by decide +kernel
theorem dX5_init_90 : decode cX5_init 90 = .ok (.bipush 8, 2) := by decide +kernel
theorem dX5_init_92 : decode cX5_init 92 = .ok (.newarray .int, 2) := by decide +kernel
theorem dX5_init_94 : decode cX5_init 94 = .ok (.putfield 40, 3) := by decide +kernel
theorem dX5_init_97 : decode cX5_init 97 = .ok (.return_, 1) := by decide +kernel
theorem dX5_inn_0 : decode cX5_inn 0 = .ok (.aload_n 0, 1) := by decide +kernel
theorem dX5_inn_1 : decode cX5_inn 1 = .ok (.iload_n 1, 1) := by decide +kernel
theorem dX5_inn_2 : decode cX5_inn 2 = .ok (.invokevirtual 44, 3) := by decide +kernel
theorem dX5_inn_5 : decode cX5_inn 5 = .ok (.istore_n 2, 1) := by decide +kernel
theorem dX5_inn_6 : decode cX5_inn 6 = .ok (.iload_n 2, 1) := by decide +kernel
theorem dX5_inn_7 : decode cX5_inn 7 = .ok (.ifCond .eq 5, 3) := by decide +kernel
theorem dX5_inn_10 : decode cX5_inn 10 = .ok (.iload_n 2, 1) := by decide +kernel
theorem dX5_inn_11 : decode cX5_inn 11 = .ok (.ireturn, 1) := by decide +kernel
theorem dX5_inn_12 : decode cX5_inn 12 = .ok (.aload_n 0, 1) := by decide +kernel
theorem dX5_inn_13 : decode cX5_inn 13 = .ok (.getfield 28, 3) := by decide +kernel
theorem dX5_inn_16 : decode cX5_inn 16 = .ok (.iload_n 1, 1) := by decide +kernel
theorem dX5_inn_17 : decode cX5_inn 17 = .ok (.aaload, 1) := by decide +kernel
theorem dX5_inn_18 : decode cX5_inn 18 = .ok (.astore_n 3, 1) := by decide +kernel
theorem dX5_inn_19 : decode cX5_inn 19 = .ok (.aload_n 3, 1) := by decide +kernel
theorem dX5_inn_20 : decode cX5_inn 20 = .ok (.getfield 48, 3) := by decide +kernel
theorem dX5_inn_23 : decode cX5_inn 23 = .ok (.ifCond .eq 6, 3) := by decide +kernel
theorem dX5_inn_26 : decode cX5_inn 26 = .ok (.bipush (-12), 2) := by decide +kernel
theorem dX5_inn_28 : decode cX5_inn 28 = .ok (.ireturn, 1) := by decide +kernel
theorem dX5_inn_29 : decode cX5_inn 29 = .ok (.aload_n 3, 1) := by decide +kernel
theorem dX5_inn_30 : decode cX5_inn 30 = .ok (.invokestatic 52, 3) := by decide +kernel
theorem dX5_inn_33 : decode cX5_inn 33 = .ok (.istore 4, 2) := by decide +kernel
theorem dX5_inn_35 : decode cX5_inn 35 = .ok (.iload 4, 2) := by decide +kernel
theorem dX5_inn_37 : decode cX5_inn 37 = .ok (.ifCond .lt 10, 3) := by decide +kernel
theorem dX5_inn_40 : decode cX5_inn 40 = .ok (.sipush (-1000), 3) := by decide +kernel
theorem dX5_inn_43 : decode cX5_inn 43 = .ok (.iload 4, 2) := by decide +kernel
theorem dX5_inn_45 : decode cX5_inn 45 = .ok (.isub, 1) := by decide +kernel
theorem dX5_inn_46 : decode cX5_inn 46 = .ok (.ireturn, 1) := by decide +kernel
theorem dX5_inn_47 : decode cX5_inn 47 = .ok (.aload_n 0, 1) := by decide +kernel
theorem dX5_inn_48 : decode cX5_inn 48 = .ok (.invokevirtual 58, 3) := by decide +kernel
theorem dX5_inn_51 : decode cX5_inn 51 = .ok (.astore 5, 2) := by decide +kernel
theorem dX5_inn_53 : decode cX5_inn 53 = .ok (.iconst 0, 1) := by decide +kernel
theorem dX5_inn_54 : decode cX5_inn 54 = .ok (.istore 6, 2) := by decide +kernel
theorem dX5_inn_56 : decode cX5_inn 56 = .ok (.iconst 0, 1) := by decide +kernel
theorem dX5_inn_57 : decode cX5_inn 57 = .ok (.istore 7, 2) := by decide +kernel
theorem dX5_inn_59 : decode cX5_inn 59 = .ok (.iload 7, 2) := by decide +kernel
theorem dX5_inn_61 : decode cX5_inn 61 = .ok (.aload_n 3, 1) := by decide +kernel
theorem dX5_inn_62 : decode cX5_inn 62 = .ok (.getfield 62, 3) := by decide +kernel
theorem dX5_inn_65 : decode cX5_inn 65 = .ok (.if_icmp .ge 43, 3) := by decide +kernel
theorem dX5_inn_68 : decode cX5_inn 68 = .ok (.aload_n 3, 1) := by decide +kernel
theorem dX5_inn_69 : decode cX5_inn 69 = .ok (.getfield 65, 3) := by decide +kernel
theorem dX5_inn_72 : decode cX5_inn 72 = .ok (.iload 7, 2) := by decide +kernel
theorem dX5_inn_74 : decode cX5_inn 74 = .ok (.iaload, 1) := by decide +kernel
theorem dX5_inn_75 : decode cX5_inn 75 = .ok (.invokestatic 68, 3) := by decide +kernel
theorem dX5_inn_78 : decode cX5_inn 78 = .ok (.ifCond .eq 24, 3) := by decide +kernel
theorem dX5_inn_81 : decode cX5_inn 81 = .ok (.aload_n 3, 1) := by decide +kernel
theorem dX5_inn_82 : decode cX5_inn 82 = .ok (.iload 7, 2) := by decide +kernel
theorem dX5_inn_84 : decode cX5_inn 84 = .ok (.aload 5, 2) := by decide +kernel
theorem dX5_inn_86 : decode cX5_inn 86 = .ok (.invokestatic 72, 3) := by decide +kernel
theorem dX5_inn_89 : decode cX5_inn 89 = .ok (.ifCond .ne 10, 3) := by decide +kernel
theorem dX5_inn_92 : decode cX5_inn 92 = .ok (.sipush (-2000), 3) := by decide +kernel
theorem dX5_inn_95 : decode cX5_inn 95 = .ok (.iload 7, 2) := by decide +kernel
theorem dX5_inn_97 : decode cX5_inn 97 = .ok (.isub, 1) := by decide +kernel
theorem dX5_inn_98 : decode cX5_inn 98 = .ok (.ireturn, 1) := by decide +kernel
theorem dX5_inn_99 : decode cX5_inn 99 = .ok (.iinc 6 1, 3) := by decide +kernel
theorem dX5_inn_102 : decode cX5_inn 102 = .ok (.iinc 7 1, 3) := by decide +kernel
theorem dX5_inn_105 : decode cX5_inn 105 = .ok (.goto (-46), 3) := by decide +kernel
theorem dX5_inn_108 : decode cX5_inn 108 = .ok (.aload_n 0, 1) := by decide +kernel
theorem dX5_inn_109 : decode cX5_inn 109 = .ok (.getfield 10, 3) := by decide +kernel
theorem dX5_inn_112 : decode cX5_inn 112 = .ok (.aload 5, 2) := by decide +kernel
theorem dX5_inn_114 : decode cX5_inn 114 = .ok (.invokevirtual 76, 3) := by decide +kernel
theorem dX5_inn_117 : decode cX5_inn 117 = .ok (.iload 6, 2) := by decide +kernel
theorem dX5_inn_119 : decode cX5_inn 119 = .ok (.ireturn, 1) := by decide +kernel
theorem dX5_guest_0 : decode cX5_guest 0 = .ok (.aload_n 0, 1) := by decide +kernel
theorem dX5_guest_1 : decode cX5_guest 1 = .ok (.getfield 10, 3) := by decide +kernel
theorem dX5_guest_4 : decode cX5_guest 4 = .ok (.iload_n 1, 1) := by decide +kernel
theorem dX5_guest_5 : decode cX5_guest 5 = .ok (.invokevirtual 80, 3) := by decide +kernel
theorem dX5_guest_8 : decode cX5_guest 8 = .ok (.ifCond .ne 5, 3) := by decide +kernel
theorem dX5_guest_11 : decode cX5_guest 11 = .ok (.iconst (-1), 1) := by decide +kernel
theorem dX5_guest_12 : decode cX5_guest 12 = .ok (.ireturn, 1) := by decide +kernel
theorem dX5_guest_13 : decode cX5_guest 13 = .ok (.iload_n 2, 1) := by decide +kernel
theorem dX5_guest_14 : decode cX5_guest 14 = .ok (.tableswitch 169 0 7 #[46, 56, 66, 76, 86, 96, 113, 126], 46) := by decide +kernel
theorem dX5_guest_60 : decode cX5_guest 60 = .ok (.aload_n 0, 1) := by decide +kernel
theorem dX5_guest_61 : decode cX5_guest 61 = .ok (.getfield 10, 3) := by decide +kernel
theorem dX5_guest_64 : decode cX5_guest 64 = .ok (.getfield 83, 3) := by decide +kernel
theorem dX5_guest_67 : decode cX5_guest 67 = .ok (.iload_n 1, 1) := by decide +kernel
theorem dX5_guest_68 : decode cX5_guest 68 = .ok (.iaload, 1) := by decide +kernel
theorem dX5_guest_69 : decode cX5_guest 69 = .ok (.ireturn, 1) := by decide +kernel
theorem dX5_guest_70 : decode cX5_guest 70 = .ok (.aload_n 0, 1) := by decide +kernel
theorem dX5_guest_71 : decode cX5_guest 71 = .ok (.getfield 10, 3) := by decide +kernel
theorem dX5_guest_74 : decode cX5_guest 74 = .ok (.getfield 86, 3) := by decide +kernel
theorem dX5_guest_77 : decode cX5_guest 77 = .ok (.iload_n 1, 1) := by decide +kernel
theorem dX5_guest_78 : decode cX5_guest 78 = .ok (.iaload, 1) := by decide +kernel
theorem dX5_guest_79 : decode cX5_guest 79 = .ok (.ireturn, 1) := by decide +kernel
theorem dX5_guest_80 : decode cX5_guest 80 = .ok (.aload_n 0, 1) := by decide +kernel
theorem dX5_guest_81 : decode cX5_guest 81 = .ok (.getfield 10, 3) := by decide +kernel
theorem dX5_guest_84 : decode cX5_guest 84 = .ok (.getfield 89, 3) := by decide +kernel
theorem dX5_guest_87 : decode cX5_guest 87 = .ok (.iload_n 1, 1) := by decide +kernel
theorem dX5_guest_88 : decode cX5_guest 88 = .ok (.iaload, 1) := by decide +kernel
theorem dX5_guest_89 : decode cX5_guest 89 = .ok (.ireturn, 1) := by decide +kernel
theorem dX5_guest_90 : decode cX5_guest 90 = .ok (.aload_n 0, 1) := by decide +kernel
theorem dX5_guest_91 : decode cX5_guest 91 = .ok (.getfield 10, 3) := by decide +kernel
theorem dX5_guest_94 : decode cX5_guest 94 = .ok (.getfield 92, 3) := by decide +kernel
theorem dX5_guest_97 : decode cX5_guest 97 = .ok (.iload_n 1, 1) := by decide +kernel
theorem dX5_guest_98 : decode cX5_guest 98 = .ok (.iaload, 1) := by decide +kernel
theorem dX5_guest_99 : decode cX5_guest 99 = .ok (.ireturn, 1) := by decide +kernel
theorem dX5_guest_100 : decode cX5_guest 100 = .ok (.aload_n 0, 1) := by decide +kernel
theorem dX5_guest_101 : decode cX5_guest 101 = .ok (.getfield 10, 3) := by decide +kernel
theorem dX5_guest_104 : decode cX5_guest 104 = .ok (.getfield 95, 3) := by decide +kernel
theorem dX5_guest_107 : decode cX5_guest 107 = .ok (.iload_n 1, 1) := by decide +kernel
theorem dX5_guest_108 : decode cX5_guest 108 = .ok (.iaload, 1) := by decide +kernel
theorem dX5_guest_109 : decode cX5_guest 109 = .ok (.ireturn, 1) := by decide +kernel
theorem dX5_guest_110 : decode cX5_guest 110 = .ok (.aload_n 0, 1) := by decide +kernel
theorem dX5_guest_111 : decode cX5_guest 111 = .ok (.getfield 10, 3) := by decide +kernel
theorem dX5_guest_114 : decode cX5_guest 114 = .ok (.iload_n 1, 1) := by decide +kernel
theorem dX5_guest_115 : decode cX5_guest 115 = .ok (.invokevirtual 98, 3) := by decide +kernel
theorem dX5_guest_118 : decode cX5_guest 118 = .ok (.ifCond .eq 7, 3) := by decide +kernel
theorem dX5_guest_121 : decode cX5_guest 121 = .ok (.iconst 1, 1) := by decide +kernel
theorem dX5_guest_122 : decode cX5_guest 122 = .ok (.goto 4, 3) := by decide +kernel
theorem dX5_guest_125 : decode cX5_guest 125 = .ok (.iconst 0, 1) := by decide +kernel
theorem dX5_guest_126 : decode cX5_guest 126 = .ok (.ireturn, 1) := by decide +kernel
theorem dX5_guest_127 : decode cX5_guest 127 = .ok (.aload_n 0, 1) := by decide +kernel
theorem dX5_guest_128 : decode cX5_guest 128 = .ok (.getfield 10, 3) := by decide +kernel
theorem dX5_guest_131 : decode cX5_guest 131 = .ok (.getfield 83, 3) := by decide +kernel
theorem dX5_guest_134 : decode cX5_guest 134 = .ok (.iload_n 1, 1) := by decide +kernel
theorem dX5_guest_135 : decode cX5_guest 135 = .ok (.iaload, 1) := by decide +kernel
theorem dX5_guest_136 : decode cX5_guest 136 = .ok (.invokestatic 101, 3) := by decide +kernel
theorem dX5_guest_139 : decode cX5_guest 139 = .ok (.ireturn, 1) := by decide +kernel
theorem dX5_guest_140 : decode cX5_guest 140 = .ok (.bipush 10, 2) := by decide +kernel
theorem dX5_guest_142 : decode cX5_guest 142 = .ok (.aload_n 0, 1) := by decide +kernel
theorem dX5_guest_143 : decode cX5_guest 143 = .ok (.getfield 10, 3) := by decide +kernel
theorem dX5_guest_146 : decode cX5_guest 146 = .ok (.getfield 83, 3) := by decide +kernel
theorem dX5_guest_149 : decode cX5_guest 149 = .ok (.iload_n 1, 1) := by decide +kernel
theorem dX5_guest_150 : decode cX5_guest 150 = .ok (.iaload, 1) := by decide +kernel
theorem dX5_guest_151 : decode cX5_guest 151 = .ok (.aload_n 0, 1) := by decide +kernel
theorem dX5_guest_152 : decode cX5_guest 152 = .ok (.getfield 10, 3) := by decide +kernel
theorem dX5_guest_155 : decode cX5_guest 155 = .ok (.getfield 86, 3) := by decide +kernel
theorem dX5_guest_158 : decode cX5_guest 158 = .ok (.iload_n 1, 1) := by decide +kernel
theorem dX5_guest_159 : decode cX5_guest 159 = .ok (.iaload, 1) := by decide +kernel
theorem dX5_guest_160 : decode cX5_guest 160 = .ok (.aload_n 0, 1) := by decide +kernel
theorem dX5_guest_161 : decode cX5_guest 161 = .ok (.getfield 10, 3) := by decide +kernel
theorem dX5_guest_164 : decode cX5_guest 164 = .ok (.getfield 89, 3) := by decide +kernel
theorem dX5_guest_167 : decode cX5_guest 167 = .ok (.iload_n 1, 1) := by decide +kernel
theorem dX5_guest_168 : decode cX5_guest 168 = .ok (.iaload, 1) := by decide +kernel
theorem dX5_guest_169 : decode cX5_guest 169 = .ok (.aload_n 0, 1) := by decide +kernel
theorem dX5_guest_170 : decode cX5_guest 170 = .ok (.getfield 10, 3) := by decide +kernel
theorem dX5_guest_173 : decode cX5_guest 173 = .ok (.getfield 92, 3) := by decide +kernel
theorem dX5_guest_176 : decode cX5_guest 176 = .ok (.iload_n 1, 1) := by decide +kernel
theorem dX5_guest_177 : decode cX5_guest 177 = .ok (.iaload, 1) := by decide +kernel
theorem dX5_guest_178 : decode cX5_guest 178 = .ok (.invokestatic 106, 3) := by decide +kernel
theorem dX5_guest_181 : decode cX5_guest 181 = .ok (.iadd, 1) := by decide +kernel
theorem dX5_guest_182 : decode cX5_guest 182 = .ok (.ireturn, 1) := by decide +kernel
theorem dX5_guest_183 : decode cX5_guest 183 = .ok (.iconst (-1), 1) := by decide +kernel
theorem dX5_guest_184 : decode cX5_guest 184 = .ok (.ireturn, 1) := by decide +kernel
theorem dX5_larder_0 : decode cX5_larder 0 = .ok (.iload_n 1, 1) := by decide +kernel
theorem dX5_larder_1 : decode cX5_larder 1 = .ok (.invokestatic 110, 3) := by decide +kernel
theorem dX5_larder_4 : decode cX5_larder 4 = .ok (.ifCond .eq 15, 3) := by decide +kernel
theorem dX5_larder_7 : decode cX5_larder 7 = .ok (.aload_n 0, 1) := by decide +kernel
theorem dX5_larder_8 : decode cX5_larder 8 = .ok (.getfield 10, 3) := by decide +kernel
theorem dX5_larder_11 : decode cX5_larder 11 = .ok (.getfield 113, 3) := by decide +kernel
theorem dX5_larder_14 : decode cX5_larder 14 = .ok (.iload_n 1, 1) := by decide +kernel
theorem dX5_larder_15 : decode cX5_larder 15 = .ok (.iaload, 1) := by decide +kernel
theorem dX5_larder_16 : decode cX5_larder 16 = .ok (.goto 4, 3) := by decide +kernel
theorem dX5_larder_19 : decode cX5_larder 19 = .ok (.iconst (-1), 1) := by decide +kernel
theorem dX5_larder_20 : decode cX5_larder 20 = .ok (.ireturn, 1) := by decide +kernel
theorem dX5_comes_0 : decode cX5_comes 0 = .ok (.iload_n 2, 1) := by decide +kernel
theorem dX5_comes_1 : decode cX5_comes 1 = .ok (.invokestatic 110, 3) := by decide +kernel
theorem dX5_comes_4 : decode cX5_comes 4 = .ok (.ifCond .ne 5, 3) := by decide +kernel
theorem dX5_comes_7 : decode cX5_comes 7 = .ok (.iconst (-1), 1) := by decide +kernel
theorem dX5_comes_8 : decode cX5_comes 8 = .ok (.ireturn, 1) := by decide +kernel
theorem dX5_comes_9 : decode cX5_comes 9 = .ok (.aload_n 0, 1) := by decide +kernel
theorem dX5_comes_10 : decode cX5_comes 10 = .ok (.iload_n 1, 1) := by decide +kernel
theorem dX5_comes_11 : decode cX5_comes 11 = .ok (.invokevirtual 116, 3) := by decide +kernel
theorem dX5_comes_14 : decode cX5_comes 14 = .ok (.istore_n 3, 1) := by decide +kernel
theorem dX5_comes_15 : decode cX5_comes 15 = .ok (.iload_n 3, 1) := by decide +kernel
theorem dX5_comes_16 : decode cX5_comes 16 = .ok (.ifCond .eq 5, 3) := by decide +kernel
theorem dX5_comes_19 : decode cX5_comes 19 = .ok (.iload_n 3, 1) := by decide +kernel
theorem dX5_comes_20 : decode cX5_comes 20 = .ok (.ireturn, 1) := by decide +kernel
theorem dX5_comes_21 : decode cX5_comes 21 = .ok (.aload_n 0, 1) := by decide +kernel
theorem dX5_comes_22 : decode cX5_comes 22 = .ok (.getfield 10, 3) := by decide +kernel
theorem dX5_comes_25 : decode cX5_comes 25 = .ok (.aload_n 0, 1) := by decide +kernel
theorem dX5_comes_26 : decode cX5_comes 26 = .ok (.getfield 28, 3) := by decide +kernel
theorem dX5_comes_29 : decode cX5_comes 29 = .ok (.iload_n 1, 1) := by decide +kernel
theorem dX5_comes_30 : decode cX5_comes 30 = .ok (.aaload, 1) := by decide +kernel
theorem dX5_comes_31 : decode cX5_comes 31 = .ok (.getfield 119, 3) := by decide +kernel
theorem dX5_comes_34 : decode cX5_comes 34 = .ok (.aload_n 0, 1) := by decide +kernel
theorem dX5_comes_35 : decode cX5_comes 35 = .ok (.getfield 28, 3) := by decide +kernel
theorem dX5_comes_38 : decode cX5_comes 38 = .ok (.iload_n 1, 1) := by decide +kernel
theorem dX5_comes_39 : decode cX5_comes 39 = .ok (.aaload, 1) := by decide +kernel
theorem dX5_comes_40 : decode cX5_comes 40 = .ok (.getfield 122, 3) := by decide +kernel
theorem dX5_comes_43 : decode cX5_comes 43 = .ok (.iload_n 2, 1) := by decide +kernel
theorem dX5_comes_44 : decode cX5_comes 44 = .ok (.invokevirtual 125, 3) := by decide +kernel
theorem dX5_comes_47 : decode cX5_comes 47 = .ok (.ireturn, 1) := by decide +kernel
theorem dX5_wishes_0 : decode cX5_wishes 0 = .ok (.aload_n 0, 1) := by decide +kernel
theorem dX5_wishes_1 : decode cX5_wishes 1 = .ok (.getfield 10, 3) := by decide +kernel
theorem dX5_wishes_4 : decode cX5_wishes 4 = .ok (.iload_n 1, 1) := by decide +kernel
theorem dX5_wishes_5 : decode cX5_wishes 5 = .ok (.invokevirtual 80, 3) := by decide +kernel
theorem dX5_wishes_8 : decode cX5_wishes 8 = .ok (.ifCond .eq 10, 3) := by decide +kernel
theorem dX5_wishes_11 : decode cX5_wishes 11 = .ok (.iload_n 2, 1) := by decide +kernel
theorem dX5_wishes_12 : decode cX5_wishes 12 = .ok (.invokestatic 110, 3) := by decide +kernel
theorem dX5_wishes_15 : decode cX5_wishes 15 = .ok (.ifCond .ne 5, 3) := by decide +kernel
theorem dX5_wishes_18 : decode cX5_wishes 18 = .ok (.iconst (-1), 1) := by decide +kernel
theorem dX5_wishes_19 : decode cX5_wishes 19 = .ok (.ireturn, 1) := by decide +kernel
theorem dX5_wishes_20 : decode cX5_wishes 20 = .ok (.aload_n 0, 1) := by decide +kernel
theorem dX5_wishes_21 : decode cX5_wishes 21 = .ok (.getfield 10, 3) := by decide +kernel
theorem dX5_wishes_24 : decode cX5_wishes 24 = .ok (.getfield 89, 3) := by decide +kernel
theorem dX5_wishes_27 : decode cX5_wishes 27 = .ok (.iload_n 1, 1) := by decide +kernel
theorem dX5_wishes_28 : decode cX5_wishes 28 = .ok (.iaload, 1) := by decide +kernel
theorem dX5_wishes_29 : decode cX5_wishes 29 = .ok (.istore_n 3, 1) := by decide +kernel
theorem dX5_wishes_30 : decode cX5_wishes 30 = .ok (.aload_n 0, 1) := by decide +kernel
theorem dX5_wishes_31 : decode cX5_wishes 31 = .ok (.getfield 10, 3) := by decide +kernel
theorem dX5_wishes_34 : decode cX5_wishes 34 = .ok (.getfield 89, 3) := by decide +kernel
theorem dX5_wishes_37 : decode cX5_wishes 37 = .ok (.iload_n 1, 1) := by decide +kernel
theorem dX5_wishes_38 : decode cX5_wishes 38 = .ok (.iload_n 2, 1) := by decide +kernel
theorem dX5_wishes_39 : decode cX5_wishes 39 = .ok (.iastore, 1) := by decide +kernel
theorem dX5_wishes_40 : decode cX5_wishes 40 = .ok (.iload_n 3, 1) := by decide +kernel
theorem dX5_wishes_41 : decode cX5_wishes 41 = .ok (.ireturn, 1) := by decide +kernel
theorem dX5_heals_0 : decode cX5_heals 0 = .ok (.aload_n 0, 1) := by decide +kernel
theorem dX5_heals_1 : decode cX5_heals 1 = .ok (.getfield 10, 3) := by decide +kernel
theorem dX5_heals_4 : decode cX5_heals 4 = .ok (.iload_n 1, 1) := by decide +kernel
theorem dX5_heals_5 : decode cX5_heals 5 = .ok (.invokevirtual 80, 3) := by decide +kernel
theorem dX5_heals_8 : decode cX5_heals 8 = .ok (.ifCond .eq 13, 3) := by decide +kernel
theorem dX5_heals_11 : decode cX5_heals 11 = .ok (.iload_n 2, 1) := by decide +kernel
theorem dX5_heals_12 : decode cX5_heals 12 = .ok (.iconst 1, 1) := by decide +kernel
theorem dX5_heals_13 : decode cX5_heals 13 = .ok (.bipush 99, 2) := by decide +kernel
theorem dX5_heals_15 : decode cX5_heals 15 = .ok (.invokestatic 129, 3) := by decide +kernel
theorem dX5_heals_18 : decode cX5_heals 18 = .ok (.ifCond .ne 5, 3) := by decide +kernel
theorem dX5_heals_21 : decode cX5_heals 21 = .ok (.iconst (-1), 1) := by decide +kernel
theorem dX5_heals_22 : decode cX5_heals 22 = .ok (.ireturn, 1) := by decide +kernel
theorem dX5_heals_23 : decode cX5_heals 23 = .ok (.aload_n 0, 1) := by decide +kernel
theorem dX5_heals_24 : decode cX5_heals 24 = .ok (.getfield 10, 3) := by decide +kernel
theorem dX5_heals_27 : decode cX5_heals 27 = .ok (.iload_n 1, 1) := by decide +kernel
theorem dX5_heals_28 : decode cX5_heals 28 = .ok (.invokevirtual 98, 3) := by decide +kernel
theorem dX5_heals_31 : decode cX5_heals 31 = .ok (.ifCond .ne 6, 3) := by decide +kernel
theorem dX5_heals_34 : decode cX5_heals 34 = .ok (.bipush (-3), 2) := by decide +kernel
theorem dX5_heals_36 : decode cX5_heals 36 = .ok (.ireturn, 1) := by decide +kernel
theorem dX5_heals_37 : decode cX5_heals 37 = .ok (.aload_n 0, 1) := by decide +kernel
theorem dX5_heals_38 : decode cX5_heals 38 = .ok (.getfield 10, 3) := by decide +kernel
theorem dX5_heals_41 : decode cX5_heals 41 = .ok (.getfield 95, 3) := by decide +kernel
theorem dX5_heals_44 : decode cX5_heals 44 = .ok (.iload_n 1, 1) := by decide +kernel
theorem dX5_heals_45 : decode cX5_heals 45 = .ok (.iaload, 1) := by decide +kernel
theorem dX5_heals_46 : decode cX5_heals 46 = .ok (.istore_n 3, 1) := by decide +kernel
theorem dX5_heals_47 : decode cX5_heals 47 = .ok (.aload_n 0, 1) := by decide +kernel
theorem dX5_heals_48 : decode cX5_heals 48 = .ok (.getfield 10, 3) := by decide +kernel
theorem dX5_heals_51 : decode cX5_heals 51 = .ok (.getfield 95, 3) := by decide +kernel
theorem dX5_heals_54 : decode cX5_heals 54 = .ok (.iload_n 1, 1) := by decide +kernel
theorem dX5_heals_55 : decode cX5_heals 55 = .ok (.iload_n 2, 1) := by decide +kernel
theorem dX5_heals_56 : decode cX5_heals 56 = .ok (.iastore, 1) := by decide +kernel
theorem dX5_heals_57 : decode cX5_heals 57 = .ok (.iload_n 3, 1) := by decide +kernel
theorem dX5_heals_58 : decode cX5_heals 58 = .ok (.ireturn, 1) := by decide +kernel
theorem dX5_fills_0 : decode cX5_fills 0 = .ok (.iload_n 1, 1) := by decide +kernel
theorem dX5_fills_1 : decode cX5_fills 1 = .ok (.invokestatic 110, 3) := by decide +kernel
theorem dX5_fills_4 : decode cX5_fills 4 = .ok (.ifCond .eq 13, 3) := by decide +kernel
theorem dX5_fills_7 : decode cX5_fills 7 = .ok (.iload_n 2, 1) := by decide +kernel
theorem dX5_fills_8 : decode cX5_fills 8 = .ok (.iconst 0, 1) := by decide +kernel
theorem dX5_fills_9 : decode cX5_fills 9 = .ok (.bipush 99, 2) := by decide +kernel
theorem dX5_fills_11 : decode cX5_fills 11 = .ok (.invokestatic 129, 3) := by decide +kernel
theorem dX5_fills_14 : decode cX5_fills 14 = .ok (.ifCond .ne 5, 3) := by decide +kernel
theorem dX5_fills_17 : decode cX5_fills 17 = .ok (.iconst (-1), 1) := by decide +kernel
theorem dX5_fills_18 : decode cX5_fills 18 = .ok (.ireturn, 1) := by decide +kernel
theorem dX5_fills_19 : decode cX5_fills 19 = .ok (.aload_n 0, 1) := by decide +kernel
theorem dX5_fills_20 : decode cX5_fills 20 = .ok (.getfield 10, 3) := by decide +kernel
theorem dX5_fills_23 : decode cX5_fills 23 = .ok (.getfield 113, 3) := by decide +kernel
theorem dX5_fills_26 : decode cX5_fills 26 = .ok (.iload_n 1, 1) := by decide +kernel
theorem dX5_fills_27 : decode cX5_fills 27 = .ok (.iaload, 1) := by decide +kernel
theorem dX5_fills_28 : decode cX5_fills 28 = .ok (.istore_n 3, 1) := by decide +kernel
theorem dX5_fills_29 : decode cX5_fills 29 = .ok (.aload_n 0, 1) := by decide +kernel
theorem dX5_fills_30 : decode cX5_fills 30 = .ok (.getfield 10, 3) := by decide +kernel
theorem dX5_fills_33 : decode cX5_fills 33 = .ok (.getfield 113, 3) := by decide +kernel
theorem dX5_fills_36 : decode cX5_fills 36 = .ok (.iload_n 1, 1) := by decide +kernel
theorem dX5_fills_37 : decode cX5_fills 37 = .ok (.iload_n 2, 1) := by decide +kernel
theorem dX5_fills_38 : decode cX5_fills 38 = .ok (.iastore, 1) := by decide +kernel
theorem dX5_fills_39 : decode cX5_fills 39 = .ok (.iload_n 3, 1) := by decide +kernel
theorem dX5_fills_40 : decode cX5_fills 40 = .ok (.ireturn, 1) := by decide +kernel
theorem dX5_nights_0 : decode cX5_nights 0 = .ok (.iload_n 1, 1) := by decide +kernel
theorem dX5_nights_1 : decode cX5_nights 1 = .ok (.iconst 1, 1) := by decide +kernel
theorem dX5_nights_2 : decode cX5_nights 2 = .ok (.bipush 60, 2) := by decide +kernel
theorem dX5_nights_4 : decode cX5_nights 4 = .ok (.invokestatic 129, 3) := by decide +kernel
theorem dX5_nights_7 : decode cX5_nights 7 = .ok (.ifCond .ne 5, 3) := by decide +kernel
theorem dX5_nights_10 : decode cX5_nights 10 = .ok (.iconst (-1), 1) := by decide +kernel
theorem dX5_nights_11 : decode cX5_nights 11 = .ok (.ireturn, 1) := by decide +kernel
theorem dX5_nights_12 : decode cX5_nights 12 = .ok (.aload_n 0, 1) := by decide +kernel
theorem dX5_nights_13 : decode cX5_nights 13 = .ok (.getfield 10, 3) := by decide +kernel
theorem dX5_nights_16 : decode cX5_nights 16 = .ok (.getfield 133, 3) := by decide +kernel
theorem dX5_nights_19 : decode cX5_nights 19 = .ok (.iload_n 1, 1) := by decide +kernel
theorem dX5_nights_20 : decode cX5_nights 20 = .ok (.iadd, 1) := by decide +kernel
theorem dX5_nights_21 : decode cX5_nights 21 = .ok (.sipush 999, 3) := by decide +kernel
theorem dX5_nights_24 : decode cX5_nights 24 = .ok (.if_icmp .le 6, 3) := by decide +kernel
theorem dX5_nights_27 : decode cX5_nights 27 = .ok (.bipush (-3), 2) := by decide +kernel
theorem dX5_nights_29 : decode cX5_nights 29 = .ok (.ireturn, 1) := by decide +kernel
theorem dX5_nights_30 : decode cX5_nights 30 = .ok (.aload_n 0, 1) := by decide +kernel
theorem dX5_nights_31 : decode cX5_nights 31 = .ok (.getfield 10, 3) := by decide +kernel
theorem dX5_nights_34 : decode cX5_nights 34 = .ok (.iload_n 1, 1) := by decide +kernel
theorem dX5_nights_35 : decode cX5_nights 35 = .ok (.invokevirtual 136, 3) := by decide +kernel
theorem dX5_nights_38 : decode cX5_nights 38 = .ok (.aload_n 0, 1) := by decide +kernel
theorem dX5_nights_39 : decode cX5_nights 39 = .ok (.getfield 10, 3) := by decide +kernel
theorem dX5_nights_42 : decode cX5_nights 42 = .ok (.getfield 140, 3) := by decide +kernel
theorem dX5_nights_45 : decode cX5_nights 45 = .ok (.invokestatic 143, 3) := by decide +kernel
theorem dX5_nights_48 : decode cX5_nights 48 = .ok (.ireturn, 1) := by decide +kernel
theorem dX5_guestThen_0 : decode cX5_guestThen 0 = .ok (.aload_n 0, 1) := by decide +kernel
theorem dX5_guestThen_1 : decode cX5_guestThen 1 = .ok (.getfield 10, 3) := by decide +kernel
theorem dX5_guestThen_4 : decode cX5_guestThen 4 = .ok (.iload_n 1, 1) := by decide +kernel
theorem dX5_guestThen_5 : decode cX5_guestThen 5 = .ok (.invokevirtual 80, 3) := by decide +kernel
theorem dX5_guestThen_8 : decode cX5_guestThen 8 = .ok (.ifCond .eq 19, 3) := by decide +kernel
theorem dX5_guestThen_11 : decode cX5_guestThen 11 = .ok (.iload_n 2, 1) := by decide +kernel
theorem dX5_guestThen_12 : decode cX5_guestThen 12 = .ok (.invokestatic 148, 3) := by decide +kernel
theorem dX5_guestThen_15 : decode cX5_guestThen 15 = .ok (.ifCond .eq 12, 3) := by decide +kernel
theorem dX5_guestThen_18 : decode cX5_guestThen 18 = .ok (.iload_n 3, 1) := by decide +kernel
theorem dX5_guestThen_19 : decode cX5_guestThen 19 = .ok (.iconst 0, 1) := by decide +kernel
theorem dX5_guestThen_20 : decode cX5_guestThen 20 = .ok (.iconst 1, 1) := by decide +kernel
theorem dX5_guestThen_21 : decode cX5_guestThen 21 = .ok (.invokestatic 129, 3) := by decide +kernel
theorem dX5_guestThen_24 : decode cX5_guestThen 24 = .ok (.ifCond .ne 5, 3) := by decide +kernel
theorem dX5_guestThen_27 : decode cX5_guestThen 27 = .ok (.iconst (-1), 1) := by decide +kernel
theorem dX5_guestThen_28 : decode cX5_guestThen 28 = .ok (.ireturn, 1) := by decide +kernel
theorem dX5_guestThen_29 : decode cX5_guestThen 29 = .ok (.aload_n 0, 1) := by decide +kernel
theorem dX5_guestThen_30 : decode cX5_guestThen 30 = .ok (.invokevirtual 58, 3) := by decide +kernel
theorem dX5_guestThen_33 : decode cX5_guestThen 33 = .ok (.astore 4, 2) := by decide +kernel
theorem dX5_guestThen_35 : decode cX5_guestThen 35 = .ok (.aload 4, 2) := by decide +kernel
theorem dX5_guestThen_37 : decode cX5_guestThen 37 = .ok (.iload_n 2, 1) := by decide +kernel
theorem dX5_guestThen_38 : decode cX5_guestThen 38 = .ok (.invokevirtual 136, 3) := by decide +kernel
theorem dX5_guestThen_41 : decode cX5_guestThen 41 = .ok (.iload_n 3, 1) := by decide +kernel
theorem dX5_guestThen_42 : decode cX5_guestThen 42 = .ok (.ifCond .ne 13, 3) := by decide +kernel
theorem dX5_guestThen_45 : decode cX5_guestThen 45 = .ok (.aload 4, 2) := by decide +kernel
theorem dX5_guestThen_47 : decode cX5_guestThen 47 = .ok (.getfield 95, 3) := by decide +kernel
theorem dX5_guestThen_50 : decode cX5_guestThen 50 = .ok (.iload_n 1, 1) := by decide +kernel
theorem dX5_guestThen_51 : decode cX5_guestThen 51 = .ok (.iaload, 1) := by decide +kernel
theorem dX5_guestThen_52 : decode cX5_guestThen 52 = .ok (.goto 10, 3) := by decide +kernel
theorem dX5_guestThen_55 : decode cX5_guestThen 55 = .ok (.aload 4, 2) := by decide +kernel
theorem dX5_guestThen_57 : decode cX5_guestThen 57 = .ok (.getfield 92, 3) := by decide +kernel
theorem dX5_guestThen_60 : decode cX5_guestThen 60 = .ok (.iload_n 1, 1) := by decide +kernel
theorem dX5_guestThen_61 : decode cX5_guestThen 61 = .ok (.iaload, 1) := by decide +kernel
theorem dX5_guestThen_62 : decode cX5_guestThen 62 = .ok (.ireturn, 1) := by decide +kernel
theorem dX5_larderThen_0 : decode cX5_larderThen 0 = .ok (.iload_n 1, 1) := by decide +kernel
theorem dX5_larderThen_1 : decode cX5_larderThen 1 = .ok (.invokestatic 110, 3) := by decide +kernel
theorem dX5_larderThen_4 : decode cX5_larderThen 4 = .ok (.ifCond .eq 10, 3) := by decide +kernel
theorem dX5_larderThen_7 : decode cX5_larderThen 7 = .ok (.iload_n 2, 1) := by decide +kernel
theorem dX5_larderThen_8 : decode cX5_larderThen 8 = .ok (.invokestatic 148, 3) := by decide +kernel
theorem dX5_larderThen_11 : decode cX5_larderThen 11 = .ok (.ifCond .ne 5, 3) := by decide +kernel
theorem dX5_larderThen_14 : decode cX5_larderThen 14 = .ok (.iconst (-1), 1) := by decide +kernel
theorem dX5_larderThen_15 : decode cX5_larderThen 15 = .ok (.ireturn, 1) := by decide +kernel
theorem dX5_larderThen_16 : decode cX5_larderThen 16 = .ok (.aload_n 0, 1) := by decide +kernel
theorem dX5_larderThen_17 : decode cX5_larderThen 17 = .ok (.invokevirtual 58, 3) := by decide +kernel
theorem dX5_larderThen_20 : decode cX5_larderThen 20 = .ok (.astore_n 3, 1) := by decide +kernel
theorem dX5_larderThen_21 : decode cX5_larderThen 21 = .ok (.aload_n 3, 1) := by decide +kernel
theorem dX5_larderThen_22 : decode cX5_larderThen 22 = .ok (.iload_n 2, 1) := by decide +kernel
theorem dX5_larderThen_23 : decode cX5_larderThen 23 = .ok (.invokevirtual 136, 3) := by decide +kernel
theorem dX5_larderThen_26 : decode cX5_larderThen 26 = .ok (.aload_n 3, 1) := by decide +kernel
theorem dX5_larderThen_27 : decode cX5_larderThen 27 = .ok (.getfield 113, 3) := by decide +kernel
theorem dX5_larderThen_30 : decode cX5_larderThen 30 = .ok (.iload_n 1, 1) := by decide +kernel
theorem dX5_larderThen_31 : decode cX5_larderThen 31 = .ok (.iaload, 1) := by decide +kernel
theorem dX5_larderThen_32 : decode cX5_larderThen 32 = .ok (.ireturn, 1) := by decide +kernel
theorem dX5_then_0 : decode cX5_then 0 = .ok (.iload_n 1, 1) := by decide +kernel
theorem dX5_then_1 : decode cX5_then 1 = .ok (.invokestatic 148, 3) := by decide +kernel
theorem dX5_then_4 : decode cX5_then 4 = .ok (.ifCond .eq 12, 3) := by decide +kernel
theorem dX5_then_7 : decode cX5_then 7 = .ok (.iload_n 2, 1) := by decide +kernel
theorem dX5_then_8 : decode cX5_then 8 = .ok (.iconst 0, 1) := by decide +kernel
theorem dX5_then_9 : decode cX5_then 9 = .ok (.iconst 2, 1) := by decide +kernel
theorem dX5_then_10 : decode cX5_then 10 = .ok (.invokestatic 129, 3) := by decide +kernel
theorem dX5_then_13 : decode cX5_then 13 = .ok (.ifCond .ne 5, 3) := by decide +kernel
theorem dX5_then_16 : decode cX5_then 16 = .ok (.iconst (-1), 1) := by decide +kernel
theorem dX5_then_17 : decode cX5_then 17 = .ok (.ireturn, 1) := by decide +kernel
theorem dX5_then_18 : decode cX5_then 18 = .ok (.aload_n 0, 1) := by decide +kernel
theorem dX5_then_19 : decode cX5_then 19 = .ok (.invokevirtual 58, 3) := by decide +kernel
theorem dX5_then_22 : decode cX5_then 22 = .ok (.astore_n 3, 1) := by decide +kernel
theorem dX5_then_23 : decode cX5_then 23 = .ok (.aload_n 3, 1) := by decide +kernel
theorem dX5_then_24 : decode cX5_then 24 = .ok (.iload_n 1, 1) := by decide +kernel
theorem dX5_then_25 : decode cX5_then 25 = .ok (.invokevirtual 136, 3) := by decide +kernel
theorem dX5_then_28 : decode cX5_then 28 = .ok (.iload_n 2, 1) := by decide +kernel
theorem dX5_then_29 : decode cX5_then 29 = .ok (.ifCond .ne 8, 3) := by decide +kernel
theorem dX5_then_32 : decode cX5_then 32 = .ok (.aload_n 3, 1) := by decide +kernel
theorem dX5_then_33 : decode cX5_then 33 = .ok (.getfield 140, 3) := by decide +kernel
theorem dX5_then_36 : decode cX5_then 36 = .ok (.ireturn, 1) := by decide +kernel
theorem dX5_then_37 : decode cX5_then 37 = .ok (.iload_n 2, 1) := by decide +kernel
theorem dX5_then_38 : decode cX5_then 38 = .ok (.iconst 1, 1) := by decide +kernel
theorem dX5_then_39 : decode cX5_then 39 = .ok (.if_icmp .ne 10, 3) := by decide +kernel
theorem dX5_then_42 : decode cX5_then 42 = .ok (.aload_n 3, 1) := by decide +kernel
theorem dX5_then_43 : decode cX5_then 43 = .ok (.getfield 151, 3) := by decide +kernel
theorem dX5_then_46 : decode cX5_then 46 = .ok (.goto 7, 3) := by decide +kernel
theorem dX5_then_49 : decode cX5_then 49 = .ok (.aload_n 3, 1) := by decide +kernel
theorem dX5_then_50 : decode cX5_then 50 = .ok (.getfield 154, 3) := by decide +kernel
theorem dX5_then_53 : decode cX5_then 53 = .ok (.ireturn, 1) := by decide +kernel
theorem dX5_leaves_0 : decode cX5_leaves 0 = .ok (.iload_n 1, 1) := by decide +kernel
theorem dX5_leaves_1 : decode cX5_leaves 1 = .ok (.iconst (-1), 1) := by decide +kernel
theorem dX5_leaves_2 : decode cX5_leaves 2 = .ok (.if_icmp .ne 8, 3) := by decide +kernel
theorem dX5_leaves_5 : decode cX5_leaves 5 = .ok (.aload_n 0, 1) := by decide +kernel
theorem dX5_leaves_6 : decode cX5_leaves 6 = .ok (.invokevirtual 157, 3) := by decide +kernel
theorem dX5_leaves_9 : decode cX5_leaves 9 = .ok (.ireturn, 1) := by decide +kernel
theorem dX5_leaves_10 : decode cX5_leaves 10 = .ok (.aload_n 0, 1) := by decide +kernel
theorem dX5_leaves_11 : decode cX5_leaves 11 = .ok (.getfield 10, 3) := by decide +kernel
theorem dX5_leaves_14 : decode cX5_leaves 14 = .ok (.iload_n 1, 1) := by decide +kernel
theorem dX5_leaves_15 : decode cX5_leaves 15 = .ok (.invokevirtual 80, 3) := by decide +kernel
theorem dX5_leaves_18 : decode cX5_leaves 18 = .ok (.ifCond .ne 5, 3) := by decide +kernel
theorem dX5_leaves_21 : decode cX5_leaves 21 = .ok (.iconst (-1), 1) := by decide +kernel
theorem dX5_leaves_22 : decode cX5_leaves 22 = .ok (.ireturn, 1) := by decide +kernel
theorem dX5_leaves_23 : decode cX5_leaves 23 = .ok (.aload_n 0, 1) := by decide +kernel
theorem dX5_leaves_24 : decode cX5_leaves 24 = .ok (.invokevirtual 58, 3) := by decide +kernel
theorem dX5_leaves_27 : decode cX5_leaves 27 = .ok (.astore_n 2, 1) := by decide +kernel
theorem dX5_leaves_28 : decode cX5_leaves 28 = .ok (.iconst 0, 1) := by decide +kernel
theorem dX5_leaves_29 : decode cX5_leaves 29 = .ok (.istore_n 3, 1) := by decide +kernel
theorem dX5_leaves_30 : decode cX5_leaves 30 = .ok (.iload_n 3, 1) := by decide +kernel
theorem dX5_leaves_31 : decode cX5_leaves 31 = .ok (.bipush 60, 2) := by decide +kernel
theorem dX5_leaves_33 : decode cX5_leaves 33 = .ok (.if_icmp .gt 24, 3) := by decide +kernel
theorem dX5_leaves_36 : decode cX5_leaves 36 = .ok (.aload_n 2, 1) := by decide +kernel
theorem dX5_leaves_37 : decode cX5_leaves 37 = .ok (.iload_n 1, 1) := by decide +kernel
theorem dX5_leaves_38 : decode cX5_leaves 38 = .ok (.invokevirtual 98, 3) := by decide +kernel
theorem dX5_leaves_41 : decode cX5_leaves 41 = .ok (.ifCond .ne 5, 3) := by decide +kernel
theorem dX5_leaves_44 : decode cX5_leaves 44 = .ok (.iload_n 3, 1) := by decide +kernel
theorem dX5_leaves_45 : decode cX5_leaves 45 = .ok (.ireturn, 1) := by decide +kernel
theorem dX5_leaves_46 : decode cX5_leaves 46 = .ok (.aload_n 2, 1) := by decide +kernel
theorem dX5_leaves_47 : decode cX5_leaves 47 = .ok (.iconst 1, 1) := by decide +kernel
theorem dX5_leaves_48 : decode cX5_leaves 48 = .ok (.invokevirtual 136, 3) := by decide +kernel
theorem dX5_leaves_51 : decode cX5_leaves 51 = .ok (.iinc 3 1, 3) := by decide +kernel
theorem dX5_leaves_54 : decode cX5_leaves 54 = .ok (.goto (-24), 3) := by decide +kernel
theorem dX5_leaves_57 : decode cX5_leaves 57 = .ok (.bipush (-4), 2) := by decide +kernel
theorem dX5_leaves_59 : decode cX5_leaves 59 = .ok (.ireturn, 1) := by decide +kernel
theorem dX5_firstToLeave_0 : decode cX5_firstToLeave 0 = .ok (.aload_n 0, 1) := by decide +kernel
theorem dX5_firstToLeave_1 : decode cX5_firstToLeave 1 = .ok (.invokevirtual 58, 3) := by decide +kernel
theorem dX5_firstToLeave_4 : decode cX5_firstToLeave 4 = .ok (.astore_n 1, 1) := by decide +kernel
theorem dX5_firstToLeave_5 : decode cX5_firstToLeave 5 = .ok (.iconst 0, 1) := by decide +kernel
theorem dX5_firstToLeave_6 : decode cX5_firstToLeave 6 = .ok (.istore_n 2, 1) := by decide +kernel
theorem dX5_firstToLeave_7 : decode cX5_firstToLeave 7 = .ok (.iload_n 2, 1) := by decide +kernel
theorem dX5_firstToLeave_8 : decode cX5_firstToLeave 8 = .ok (.bipush 60, 2) := by decide +kernel
theorem dX5_firstToLeave_10 : decode cX5_firstToLeave 10 = .ok (.if_icmp .ge 38, 3) := by decide +kernel
theorem dX5_firstToLeave_13 : decode cX5_firstToLeave 13 = .ok (.aload_n 1, 1) := by decide +kernel
theorem dX5_firstToLeave_14 : decode cX5_firstToLeave 14 = .ok (.iconst 1, 1) := by decide +kernel
theorem dX5_firstToLeave_15 : decode cX5_firstToLeave 15 = .ok (.invokevirtual 136, 3) := by decide +kernel
theorem dX5_firstToLeave_18 : decode cX5_firstToLeave 18 = .ok (.aload_n 0, 1) := by decide +kernel
theorem dX5_firstToLeave_19 : decode cX5_firstToLeave 19 = .ok (.getfield 10, 3) := by decide +kernel
theorem dX5_firstToLeave_22 : decode cX5_firstToLeave 22 = .ok (.getfield 140, 3) := by decide +kernel
theorem dX5_firstToLeave_25 : decode cX5_firstToLeave 25 = .ok (.aload_n 1, 1) := by decide +kernel
theorem dX5_firstToLeave_26 : decode cX5_firstToLeave 26 = .ok (.getfield 140, 3) := by decide +kernel
theorem dX5_firstToLeave_29 : decode cX5_firstToLeave 29 = .ok (.iconst (-1), 1) := by decide +kernel
theorem dX5_firstToLeave_30 : decode cX5_firstToLeave 30 = .ok (.ixor, 1) := by decide +kernel
theorem dX5_firstToLeave_31 : decode cX5_firstToLeave 31 = .ok (.iand, 1) := by decide +kernel
theorem dX5_firstToLeave_32 : decode cX5_firstToLeave 32 = .ok (.istore_n 3, 1) := by decide +kernel
theorem dX5_firstToLeave_33 : decode cX5_firstToLeave 33 = .ok (.iload_n 3, 1) := by decide +kernel
theorem dX5_firstToLeave_34 : decode cX5_firstToLeave 34 = .ok (.ifCond .eq 8, 3) := by decide +kernel
theorem dX5_firstToLeave_37 : decode cX5_firstToLeave 37 = .ok (.iload_n 3, 1) := by decide +kernel
theorem dX5_firstToLeave_38 : decode cX5_firstToLeave 38 = .ok (.invokestatic 161, 3) := by decide +kernel
theorem dX5_firstToLeave_41 : decode cX5_firstToLeave 41 = .ok (.ireturn, 1) := by decide +kernel
theorem dX5_firstToLeave_42 : decode cX5_firstToLeave 42 = .ok (.iinc 2 1, 3) := by decide +kernel
theorem dX5_firstToLeave_45 : decode cX5_firstToLeave 45 = .ok (.goto (-38), 3) := by decide +kernel
theorem dX5_firstToLeave_48 : decode cX5_firstToLeave 48 = .ok (.bipush (-4), 2) := by decide +kernel
theorem dX5_firstToLeave_50 : decode cX5_firstToLeave 50 = .ok (.ireturn, 1) := by decide +kernel
theorem dX5_out_0 : decode cX5_out 0 = .ok (.iload_n 1, 1) := by decide +kernel
theorem dX5_out_1 : decode cX5_out 1 = .ok (.invokestatic 110, 3) := by decide +kernel
theorem dX5_out_4 : decode cX5_out 4 = .ok (.ifCond .ne 5, 3) := by decide +kernel
theorem dX5_out_7 : decode cX5_out 7 = .ok (.iconst (-1), 1) := by decide +kernel
theorem dX5_out_8 : decode cX5_out 8 = .ok (.ireturn, 1) := by decide +kernel
theorem dX5_out_9 : decode cX5_out 9 = .ok (.aload_n 0, 1) := by decide +kernel
theorem dX5_out_10 : decode cX5_out 10 = .ok (.invokevirtual 58, 3) := by decide +kernel
theorem dX5_out_13 : decode cX5_out 13 = .ok (.astore_n 2, 1) := by decide +kernel
theorem dX5_out_14 : decode cX5_out 14 = .ok (.iconst 0, 1) := by decide +kernel
theorem dX5_out_15 : decode cX5_out 15 = .ok (.istore_n 3, 1) := by decide +kernel
theorem dX5_out_16 : decode cX5_out 16 = .ok (.iload_n 3, 1) := by decide +kernel
theorem dX5_out_17 : decode cX5_out 17 = .ok (.bipush 60, 2) := by decide +kernel
theorem dX5_out_19 : decode cX5_out 19 = .ok (.if_icmp .gt 25, 3) := by decide +kernel
theorem dX5_out_22 : decode cX5_out 22 = .ok (.aload_n 2, 1) := by decide +kernel
theorem dX5_out_23 : decode cX5_out 23 = .ok (.getfield 113, 3) := by decide +kernel
theorem dX5_out_26 : decode cX5_out 26 = .ok (.iload_n 1, 1) := by decide +kernel
theorem dX5_out_27 : decode cX5_out 27 = .ok (.iaload, 1) := by decide +kernel
theorem dX5_out_28 : decode cX5_out 28 = .ok (.ifCond .ne 5, 3) := by decide +kernel
theorem dX5_out_31 : decode cX5_out 31 = .ok (.iload_n 3, 1) := by decide +kernel
theorem dX5_out_32 : decode cX5_out 32 = .ok (.ireturn, 1) := by decide +kernel
theorem dX5_out_33 : decode cX5_out 33 = .ok (.aload_n 2, 1) := by decide +kernel
theorem dX5_out_34 : decode cX5_out 34 = .ok (.iconst 1, 1) := by decide +kernel
theorem dX5_out_35 : decode cX5_out 35 = .ok (.invokevirtual 136, 3) := by decide +kernel
theorem dX5_out_38 : decode cX5_out 38 = .ok (.iinc 3 1, 3) := by decide +kernel
theorem dX5_out_41 : decode cX5_out 41 = .ok (.goto (-25), 3) := by decide +kernel
theorem dX5_out_44 : decode cX5_out 44 = .ok (.bipush (-4), 2) := by decide +kernel
theorem dX5_out_46 : decode cX5_out 46 = .ok (.ireturn, 1) := by decide +kernel
theorem dX5_table_0 : decode cX5_table 0 = .ok (.aload_n 0, 1) := by decide +kernel
theorem dX5_table_1 : decode cX5_table 1 = .ok (.getfield 10, 3) := by decide +kernel
theorem dX5_table_4 : decode cX5_table 4 = .ok (.iload_n 1, 1) := by decide +kernel
theorem dX5_table_5 : decode cX5_table 5 = .ok (.invokevirtual 80, 3) := by decide +kernel
theorem dX5_table_8 : decode cX5_table 8 = .ok (.ifCond .eq 12, 3) := by decide +kernel
theorem dX5_table_11 : decode cX5_table 11 = .ok (.iload_n 2, 1) := by decide +kernel
theorem dX5_table_12 : decode cX5_table 12 = .ok (.iconst 0, 1) := by decide +kernel
theorem dX5_table_13 : decode cX5_table 13 = .ok (.iconst 1, 1) := by decide +kernel
theorem dX5_table_14 : decode cX5_table 14 = .ok (.invokestatic 129, 3) := by decide +kernel
theorem dX5_table_17 : decode cX5_table 17 = .ok (.ifCond .ne 5, 3) := by decide +kernel
theorem dX5_table_20 : decode cX5_table 20 = .ok (.iconst (-1), 1) := by decide +kernel
theorem dX5_table_21 : decode cX5_table 21 = .ok (.ireturn, 1) := by decide +kernel
theorem dX5_table_22 : decode cX5_table 22 = .ok (.iload_n 2, 1) := by decide +kernel
theorem dX5_table_23 : decode cX5_table 23 = .ok (.ifCond .ne 12, 3) := by decide +kernel
theorem dX5_table_26 : decode cX5_table 26 = .ok (.aload_n 0, 1) := by decide +kernel
theorem dX5_table_27 : decode cX5_table 27 = .ok (.getfield 10, 3) := by decide +kernel
theorem dX5_table_30 : decode cX5_table 30 = .ok (.iload_n 1, 1) := by decide +kernel
theorem dX5_table_31 : decode cX5_table 31 = .ok (.invokevirtual 164, 3) := by decide +kernel
theorem dX5_table_34 : decode cX5_table 34 = .ok (.ireturn, 1) := by decide +kernel
theorem dX5_table_35 : decode cX5_table 35 = .ok (.aload_n 0, 1) := by decide +kernel
theorem dX5_table_36 : decode cX5_table 36 = .ok (.invokevirtual 58, 3) := by decide +kernel
theorem dX5_table_39 : decode cX5_table 39 = .ok (.astore_n 3, 1) := by decide +kernel
theorem dX5_table_40 : decode cX5_table 40 = .ok (.aload_n 3, 1) := by decide +kernel
theorem dX5_table_41 : decode cX5_table 41 = .ok (.iconst 1, 1) := by decide +kernel
theorem dX5_table_42 : decode cX5_table 42 = .ok (.invokevirtual 136, 3) := by decide +kernel
theorem dX5_table_45 : decode cX5_table 45 = .ok (.aload_n 3, 1) := by decide +kernel
theorem dX5_table_46 : decode cX5_table 46 = .ok (.getfield 167, 3) := by decide +kernel
theorem dX5_table_49 : decode cX5_table 49 = .ok (.iload_n 1, 1) := by decide +kernel
theorem dX5_table_50 : decode cX5_table 50 = .ok (.ishr, 1) := by decide +kernel
theorem dX5_table_51 : decode cX5_table 51 = .ok (.iconst 1, 1) := by decide +kernel
theorem dX5_table_52 : decode cX5_table 52 = .ok (.iand, 1) := by decide +kernel
theorem dX5_table_53 : decode cX5_table 53 = .ok (.ireturn, 1) := by decide +kernel
theorem dX5_bestWish_0 : decode cX5_bestWish 0 = .ok (.aload_n 0, 1) := by decide +kernel
theorem dX5_bestWish_1 : decode cX5_bestWish 1 = .ok (.getfield 10, 3) := by decide +kernel
theorem dX5_bestWish_4 : decode cX5_bestWish 4 = .ok (.iload_n 1, 1) := by decide +kernel
theorem dX5_bestWish_5 : decode cX5_bestWish 5 = .ok (.invokevirtual 80, 3) := by decide +kernel
theorem dX5_bestWish_8 : decode cX5_bestWish 8 = .ok (.ifCond .eq 19, 3) := by decide +kernel
theorem dX5_bestWish_11 : decode cX5_bestWish 11 = .ok (.iload_n 2, 1) := by decide +kernel
theorem dX5_bestWish_12 : decode cX5_bestWish 12 = .ok (.invokestatic 148, 3) := by decide +kernel
theorem dX5_bestWish_15 : decode cX5_bestWish 15 = .ok (.ifCond .eq 12, 3) := by decide +kernel
theorem dX5_bestWish_18 : decode cX5_bestWish 18 = .ok (.iload_n 3, 1) := by decide +kernel
theorem dX5_bestWish_19 : decode cX5_bestWish 19 = .ok (.iconst 0, 1) := by decide +kernel
theorem dX5_bestWish_20 : decode cX5_bestWish 20 = .ok (.iconst 1, 1) := by decide +kernel
theorem dX5_bestWish_21 : decode cX5_bestWish 21 = .ok (.invokestatic 129, 3) := by decide +kernel
theorem dX5_bestWish_24 : decode cX5_bestWish 24 = .ok (.ifCond .ne 5, 3) := by decide +kernel
theorem dX5_bestWish_27 : decode cX5_bestWish 27 = .ok (.iconst (-1), 1) := by decide +kernel
theorem dX5_bestWish_28 : decode cX5_bestWish 28 = .ok (.ireturn, 1) := by decide +kernel
theorem dX5_bestWish_29 : decode cX5_bestWish 29 = .ok (.iconst 0, 1) := by decide +kernel
theorem dX5_bestWish_30 : decode cX5_bestWish 30 = .ok (.istore 4, 2) := by decide +kernel
theorem dX5_bestWish_32 : decode cX5_bestWish 32 = .ok (.iconst (-1), 1) := by decide +kernel
theorem dX5_bestWish_33 : decode cX5_bestWish 33 = .ok (.istore 5, 2) := by decide +kernel
theorem dX5_bestWish_35 : decode cX5_bestWish 35 = .ok (.iconst 0, 1) := by decide +kernel
theorem dX5_bestWish_36 : decode cX5_bestWish 36 = .ok (.istore 6, 2) := by decide +kernel
theorem dX5_bestWish_38 : decode cX5_bestWish 38 = .ok (.iload 6, 2) := by decide +kernel
theorem dX5_bestWish_40 : decode cX5_bestWish 40 = .ok (.bipush 10, 2) := by decide +kernel
theorem dX5_bestWish_42 : decode cX5_bestWish 42 = .ok (.if_icmp .ge 55, 3) := by decide +kernel
theorem dX5_bestWish_45 : decode cX5_bestWish 45 = .ok (.aload_n 0, 1) := by decide +kernel
theorem dX5_bestWish_46 : decode cX5_bestWish 46 = .ok (.invokevirtual 58, 3) := by decide +kernel
theorem dX5_bestWish_49 : decode cX5_bestWish 49 = .ok (.astore 7, 2) := by decide +kernel
theorem dX5_bestWish_51 : decode cX5_bestWish 51 = .ok (.aload 7, 2) := by decide +kernel
theorem dX5_bestWish_53 : decode cX5_bestWish 53 = .ok (.getfield 89, 3) := by decide +kernel
theorem dX5_bestWish_56 : decode cX5_bestWish 56 = .ok (.iload_n 1, 1) := by decide +kernel
theorem dX5_bestWish_57 : decode cX5_bestWish 57 = .ok (.iload 6, 2) := by decide +kernel
theorem dX5_bestWish_59 : decode cX5_bestWish 59 = .ok (.iastore, 1) := by decide +kernel
theorem dX5_bestWish_60 : decode cX5_bestWish 60 = .ok (.aload 7, 2) := by decide +kernel
theorem dX5_bestWish_62 : decode cX5_bestWish 62 = .ok (.iload_n 2, 1) := by decide +kernel
theorem dX5_bestWish_63 : decode cX5_bestWish 63 = .ok (.invokevirtual 136, 3) := by decide +kernel
theorem dX5_bestWish_66 : decode cX5_bestWish 66 = .ok (.aload 7, 2) := by decide +kernel
theorem dX5_bestWish_68 : decode cX5_bestWish 68 = .ok (.getfield 95, 3) := by decide +kernel
theorem dX5_bestWish_71 : decode cX5_bestWish 71 = .ok (.iload_n 1, 1) := by decide +kernel
theorem dX5_bestWish_72 : decode cX5_bestWish 72 = .ok (.iaload, 1) := by decide +kernel
theorem dX5_bestWish_73 : decode cX5_bestWish 73 = .ok (.iload 5, 2) := by decide +kernel
theorem dX5_bestWish_75 : decode cX5_bestWish 75 = .ok (.if_icmp .le 16, 3) := by decide +kernel
theorem dX5_bestWish_78 : decode cX5_bestWish 78 = .ok (.aload 7, 2) := by decide +kernel
theorem dX5_bestWish_80 : decode cX5_bestWish 80 = .ok (.getfield 95, 3) := by decide +kernel
theorem dX5_bestWish_83 : decode cX5_bestWish 83 = .ok (.iload_n 1, 1) := by decide +kernel
theorem dX5_bestWish_84 : decode cX5_bestWish 84 = .ok (.iaload, 1) := by decide +kernel
theorem dX5_bestWish_85 : decode cX5_bestWish 85 = .ok (.istore 5, 2) := by decide +kernel
theorem dX5_bestWish_87 : decode cX5_bestWish 87 = .ok (.iload 6, 2) := by decide +kernel
theorem dX5_bestWish_89 : decode cX5_bestWish 89 = .ok (.istore 4, 2) := by decide +kernel
theorem dX5_bestWish_91 : decode cX5_bestWish 91 = .ok (.iinc 6 1, 3) := by decide +kernel
theorem dX5_bestWish_94 : decode cX5_bestWish 94 = .ok (.goto (-56), 3) := by decide +kernel
theorem dX5_bestWish_97 : decode cX5_bestWish 97 = .ok (.iload_n 3, 1) := by decide +kernel
theorem dX5_bestWish_98 : decode cX5_bestWish 98 = .ok (.ifCond .ne 8, 3) := by decide +kernel
theorem dX5_bestWish_101 : decode cX5_bestWish 101 = .ok (.iload 4, 2) := by decide +kernel
theorem dX5_bestWish_103 : decode cX5_bestWish 103 = .ok (.goto 5, 3) := by decide +kernel
theorem dX5_bestWish_106 : decode cX5_bestWish 106 = .ok (.iload 5, 2) := by decide +kernel
theorem dX5_bestWish_108 : decode cX5_bestWish 108 = .ok (.ireturn, 1) := by decide +kernel
theorem dX5_buy_0 : decode cX5_buy 0 = .ok (.iload_n 1, 1) := by decide +kernel
theorem dX5_buy_1 : decode cX5_buy 1 = .ok (.invokestatic 148, 3) := by decide +kernel
theorem dX5_buy_4 : decode cX5_buy 4 = .ok (.ifCond .ne 5, 3) := by decide +kernel
theorem dX5_buy_7 : decode cX5_buy 7 = .ok (.iconst (-1), 1) := by decide +kernel
theorem dX5_buy_8 : decode cX5_buy 8 = .ok (.ireturn, 1) := by decide +kernel
theorem dX5_buy_9 : decode cX5_buy 9 = .ok (.aload_n 0, 1) := by decide +kernel
theorem dX5_buy_10 : decode cX5_buy 10 = .ok (.invokevirtual 58, 3) := by decide +kernel
theorem dX5_buy_13 : decode cX5_buy 13 = .ok (.astore_n 2, 1) := by decide +kernel
theorem dX5_buy_14 : decode cX5_buy 14 = .ok (.aload_n 2, 1) := by decide +kernel
theorem dX5_buy_15 : decode cX5_buy 15 = .ok (.iload_n 1, 1) := by decide +kernel
theorem dX5_buy_16 : decode cX5_buy 16 = .ok (.invokevirtual 136, 3) := by decide +kernel
theorem dX5_buy_19 : decode cX5_buy 19 = .ok (.aload_n 2, 1) := by decide +kernel
theorem dX5_buy_20 : decode cX5_buy 20 = .ok (.getfield 154, 3) := by decide +kernel
theorem dX5_buy_23 : decode cX5_buy 23 = .ok (.istore_n 3, 1) := by decide +kernel
theorem dX5_buy_24 : decode cX5_buy 24 = .ok (.bipush (-4), 2) := by decide +kernel
theorem dX5_buy_26 : decode cX5_buy 26 = .ok (.istore 4, 2) := by decide +kernel
theorem dX5_buy_28 : decode cX5_buy 28 = .ok (.iconst 0, 1) := by decide +kernel
theorem dX5_buy_29 : decode cX5_buy 29 = .ok (.istore 5, 2) := by decide +kernel
theorem dX5_buy_31 : decode cX5_buy 31 = .ok (.iload 5, 2) := by decide +kernel
theorem dX5_buy_33 : decode cX5_buy 33 = .ok (.bipush 10, 2) := by decide +kernel
theorem dX5_buy_35 : decode cX5_buy 35 = .ok (.if_icmp .ge 43, 3) := by decide +kernel
theorem dX5_buy_38 : decode cX5_buy 38 = .ok (.aload_n 0, 1) := by decide +kernel
theorem dX5_buy_39 : decode cX5_buy 39 = .ok (.invokevirtual 58, 3) := by decide +kernel
theorem dX5_buy_42 : decode cX5_buy 42 = .ok (.astore_n 2, 1) := by decide +kernel
theorem dX5_buy_43 : decode cX5_buy 43 = .ok (.aload_n 2, 1) := by decide +kernel
theorem dX5_buy_44 : decode cX5_buy 44 = .ok (.iload 5, 2) := by decide +kernel
theorem dX5_buy_46 : decode cX5_buy 46 = .ok (.iconst 5, 1) := by decide +kernel
theorem dX5_buy_47 : decode cX5_buy 47 = .ok (.invokevirtual 170, 3) := by decide +kernel
theorem dX5_buy_50 : decode cX5_buy 50 = .ok (.aload_n 2, 1) := by decide +kernel
theorem dX5_buy_51 : decode cX5_buy 51 = .ok (.iload_n 1, 1) := by decide +kernel
theorem dX5_buy_52 : decode cX5_buy 52 = .ok (.invokevirtual 136, 3) := by decide +kernel
theorem dX5_buy_55 : decode cX5_buy 55 = .ok (.aload_n 2, 1) := by decide +kernel
theorem dX5_buy_56 : decode cX5_buy 56 = .ok (.getfield 154, 3) := by decide +kernel
theorem dX5_buy_59 : decode cX5_buy 59 = .ok (.iload_n 3, 1) := by decide +kernel
theorem dX5_buy_60 : decode cX5_buy 60 = .ok (.if_icmp .ge 12, 3) := by decide +kernel
theorem dX5_buy_63 : decode cX5_buy 63 = .ok (.aload_n 2, 1) := by decide +kernel
theorem dX5_buy_64 : decode cX5_buy 64 = .ok (.getfield 154, 3) := by decide +kernel
theorem dX5_buy_67 : decode cX5_buy 67 = .ok (.istore_n 3, 1) := by decide +kernel
theorem dX5_buy_68 : decode cX5_buy 68 = .ok (.iload 5, 2) := by decide +kernel
theorem dX5_buy_70 : decode cX5_buy 70 = .ok (.istore 4, 2) := by decide +kernel
theorem dX5_buy_72 : decode cX5_buy 72 = .ok (.iinc 5 1, 3) := by decide +kernel
theorem dX5_buy_75 : decode cX5_buy 75 = .ok (.goto (-44), 3) := by decide +kernel
theorem dX5_buy_78 : decode cX5_buy 78 = .ok (.iload 4, 2) := by decide +kernel
theorem dX5_buy_80 : decode cX5_buy 80 = .ok (.ireturn, 1) := by decide +kernel
theorem dX5_least_0 : decode cX5_least 0 = .ok (.iload_n 1, 1) := by decide +kernel
theorem dX5_least_1 : decode cX5_least 1 = .ok (.invokestatic 110, 3) := by decide +kernel
theorem dX5_least_4 : decode cX5_least 4 = .ok (.ifCond .eq 13, 3) := by decide +kernel
theorem dX5_least_7 : decode cX5_least 7 = .ok (.iload_n 2, 1) := by decide +kernel
theorem dX5_least_8 : decode cX5_least 8 = .ok (.iconst 1, 1) := by decide +kernel
theorem dX5_least_9 : decode cX5_least 9 = .ok (.bipush 20, 2) := by decide +kernel
theorem dX5_least_11 : decode cX5_least 11 = .ok (.invokestatic 129, 3) := by decide +kernel
theorem dX5_least_14 : decode cX5_least 14 = .ok (.ifCond .ne 5, 3) := by decide +kernel
theorem dX5_least_17 : decode cX5_least 17 = .ok (.iconst (-1), 1) := by decide +kernel
theorem dX5_least_18 : decode cX5_least 18 = .ok (.ireturn, 1) := by decide +kernel
theorem dX5_least_19 : decode cX5_least 19 = .ok (.iconst 0, 1) := by decide +kernel
theorem dX5_least_20 : decode cX5_least 20 = .ok (.istore_n 3, 1) := by decide +kernel
theorem dX5_least_21 : decode cX5_least 21 = .ok (.bipush 100, 2) := by decide +kernel
theorem dX5_least_23 : decode cX5_least 23 = .ok (.istore 4, 2) := by decide +kernel
theorem dX5_least_25 : decode cX5_least 25 = .ok (.iconst 0, 1) := by decide +kernel
theorem dX5_least_26 : decode cX5_least 26 = .ok (.istore 5, 2) := by decide +kernel
theorem dX5_least_28 : decode cX5_least 28 = .ok (.iload 5, 2) := by decide +kernel
theorem dX5_least_30 : decode cX5_least 30 = .ok (.bipush 99, 2) := by decide +kernel
theorem dX5_least_32 : decode cX5_least 32 = .ok (.if_icmp .gt 46, 3) := by decide +kernel
theorem dX5_least_35 : decode cX5_least 35 = .ok (.iload_n 3, 1) := by decide +kernel
theorem dX5_least_36 : decode cX5_least 36 = .ok (.iload 4, 2) := by decide +kernel
theorem dX5_least_38 : decode cX5_least 38 = .ok (.if_icmp .ge 40, 3) := by decide +kernel
theorem dX5_least_41 : decode cX5_least 41 = .ok (.iload_n 3, 1) := by decide +kernel
theorem dX5_least_42 : decode cX5_least 42 = .ok (.iload 4, 2) := by decide +kernel
theorem dX5_least_44 : decode cX5_least 44 = .ok (.iadd, 1) := by decide +kernel
theorem dX5_least_45 : decode cX5_least 45 = .ok (.iconst 2, 1) := by decide +kernel
theorem dX5_least_46 : decode cX5_least 46 = .ok (.idiv, 1) := by decide +kernel
theorem dX5_least_47 : decode cX5_least 47 = .ok (.istore 6, 2) := by decide +kernel
theorem dX5_least_49 : decode cX5_least 49 = .ok (.aload_n 0, 1) := by decide +kernel
theorem dX5_least_50 : decode cX5_least 50 = .ok (.iload_n 1, 1) := by decide +kernel
theorem dX5_least_51 : decode cX5_least 51 = .ok (.iload 6, 2) := by decide +kernel
theorem dX5_least_53 : decode cX5_least 53 = .ok (.iload_n 2, 1) := by decide +kernel
theorem dX5_least_54 : decode cX5_least 54 = .ok (.invokevirtual 174, 3) := by decide +kernel
theorem dX5_least_57 : decode cX5_least 57 = .ok (.ifCond .eq 10, 3) := by decide +kernel
theorem dX5_least_60 : decode cX5_least 60 = .ok (.iload 6, 2) := by decide +kernel
theorem dX5_least_62 : decode cX5_least 62 = .ok (.istore 4, 2) := by decide +kernel
theorem dX5_least_64 : decode cX5_least 64 = .ok (.goto 8, 3) := by decide +kernel
theorem dX5_least_67 : decode cX5_least 67 = .ok (.iload 6, 2) := by decide +kernel
theorem dX5_least_69 : decode cX5_least 69 = .ok (.iconst 1, 1) := by decide +kernel
theorem dX5_least_70 : decode cX5_least 70 = .ok (.iadd, 1) := by decide +kernel
theorem dX5_least_71 : decode cX5_least 71 = .ok (.istore_n 3, 1) := by decide +kernel
theorem dX5_least_72 : decode cX5_least 72 = .ok (.iinc 5 1, 3) := by decide +kernel
theorem dX5_least_75 : decode cX5_least 75 = .ok (.goto (-47), 3) := by decide +kernel
theorem dX5_least_78 : decode cX5_least 78 = .ok (.iload_n 3, 1) := by decide +kernel
theorem dX5_least_79 : decode cX5_least 79 = .ok (.bipush 99, 2) := by decide +kernel
theorem dX5_least_81 : decode cX5_least 81 = .ok (.if_icmp .le 8, 3) := by decide +kernel
theorem dX5_least_84 : decode cX5_least 84 = .ok (.bipush (-4), 2) := by decide +kernel
theorem dX5_least_86 : decode cX5_least 86 = .ok (.goto 4, 3) := by decide +kernel
theorem dX5_least_89 : decode cX5_least 89 = .ok (.iload_n 3, 1) := by decide +kernel
theorem dX5_least_90 : decode cX5_least 90 = .ok (.ireturn, 1) := by decide +kernel
theorem dX5_suffices_0 : decode cX5_suffices 0 = .ok (.aload_n 0, 1) := by decide +kernel
theorem dX5_suffices_1 : decode cX5_suffices 1 = .ok (.invokevirtual 58, 3) := by decide +kernel
theorem dX5_suffices_4 : decode cX5_suffices 4 = .ok (.astore 4, 2) := by decide +kernel
theorem dX5_suffices_6 : decode cX5_suffices 6 = .ok (.aload 4, 2) := by decide +kernel
theorem dX5_suffices_8 : decode cX5_suffices 8 = .ok (.getfield 113, 3) := by decide +kernel
theorem dX5_suffices_11 : decode cX5_suffices 11 = .ok (.iload_n 1, 1) := by decide +kernel
theorem dX5_suffices_12 : decode cX5_suffices 12 = .ok (.iload_n 2, 1) := by decide +kernel
theorem dX5_suffices_13 : decode cX5_suffices 13 = .ok (.iastore, 1) := by decide +kernel
theorem dX5_suffices_14 : decode cX5_suffices 14 = .ok (.aload 4, 2) := by decide +kernel
theorem dX5_suffices_16 : decode cX5_suffices 16 = .ok (.iload_n 3, 1) := by decide +kernel
theorem dX5_suffices_17 : decode cX5_suffices 17 = .ok (.invokevirtual 177, 3) := by decide +kernel
theorem dX5_suffices_20 : decode cX5_suffices 20 = .ok (.ireturn, 1) := by decide +kernel
theorem dX5_send_0 : decode cX5_send 0 = .ok (.iload_n 1, 1) := by decide +kernel
theorem dX5_send_1 : decode cX5_send 1 = .ok (.invokestatic 148, 3) := by decide +kernel
theorem dX5_send_4 : decode cX5_send 4 = .ok (.ifCond .ne 5, 3) := by decide +kernel
theorem dX5_send_7 : decode cX5_send 7 = .ok (.iconst (-1), 1) := by decide +kernel
theorem dX5_send_8 : decode cX5_send 8 = .ok (.ireturn, 1) := by decide +kernel
theorem dX5_send_9 : decode cX5_send 9 = .ok (.iconst (-1), 1) := by decide +kernel
theorem dX5_send_10 : decode cX5_send 10 = .ok (.istore_n 2, 1) := by decide +kernel
theorem dX5_send_11 : decode cX5_send 11 = .ok (.bipush (-4), 2) := by decide +kernel
theorem dX5_send_13 : decode cX5_send 13 = .ok (.istore_n 3, 1) := by decide +kernel
theorem dX5_send_14 : decode cX5_send 14 = .ok (.iconst 0, 1) := by decide +kernel
theorem dX5_send_15 : decode cX5_send 15 = .ok (.istore 4, 2) := by decide +kernel
theorem dX5_send_17 : decode cX5_send 17 = .ok (.iload 4, 2) := by decide +kernel
theorem dX5_send_19 : decode cX5_send 19 = .ok (.aload_n 0, 1) := by decide +kernel
theorem dX5_send_20 : decode cX5_send 20 = .ok (.getfield 10, 3) := by decide +kernel
theorem dX5_send_23 : decode cX5_send 23 = .ok (.getfield 180, 3) := by decide +kernel
theorem dX5_send_26 : decode cX5_send 26 = .ok (.if_icmp .ge 79, 3) := by decide +kernel
theorem dX5_send_29 : decode cX5_send 29 = .ok (.aload_n 0, 1) := by decide +kernel
theorem dX5_send_30 : decode cX5_send 30 = .ok (.getfield 10, 3) := by decide +kernel
theorem dX5_send_33 : decode cX5_send 33 = .ok (.iload 4, 2) := by decide +kernel
theorem dX5_send_35 : decode cX5_send 35 = .ok (.invokevirtual 98, 3) := by decide +kernel
theorem dX5_send_38 : decode cX5_send 38 = .ok (.ifCond .eq 61, 3) := by decide +kernel
theorem dX5_send_41 : decode cX5_send 41 = .ok (.aload_n 0, 1) := by decide +kernel
theorem dX5_send_42 : decode cX5_send 42 = .ok (.getfield 10, 3) := by decide +kernel
theorem dX5_send_45 : decode cX5_send 45 = .ok (.getfield 140, 3) := by decide +kernel
theorem dX5_send_48 : decode cX5_send 48 = .ok (.iconst 1, 1) := by decide +kernel
theorem dX5_send_49 : decode cX5_send 49 = .ok (.iload 4, 2) := by decide +kernel
theorem dX5_send_51 : decode cX5_send 51 = .ok (.ishl, 1) := by decide +kernel
theorem dX5_send_52 : decode cX5_send 52 = .ok (.iconst (-1), 1) := by decide +kernel
theorem dX5_send_53 : decode cX5_send 53 = .ok (.ixor, 1) := by decide +kernel
theorem dX5_send_54 : decode cX5_send 54 = .ok (.iand, 1) := by decide +kernel
theorem dX5_send_55 : decode cX5_send 55 = .ok (.istore 5, 2) := by decide +kernel
theorem dX5_send_57 : decode cX5_send 57 = .ok (.aload_n 0, 1) := by decide +kernel
theorem dX5_send_58 : decode cX5_send 58 = .ok (.iload 5, 2) := by decide +kernel
theorem dX5_send_60 : decode cX5_send 60 = .ok (.iload 5, 2) := by decide +kernel
theorem dX5_send_62 : decode cX5_send 62 = .ok (.iload_n 1, 1) := by decide +kernel
theorem dX5_send_63 : decode cX5_send 63 = .ok (.invokevirtual 183, 3) := by decide +kernel
theorem dX5_send_66 : decode cX5_send 66 = .ok (.istore 6, 2) := by decide +kernel
theorem dX5_send_68 : decode cX5_send 68 = .ok (.iload 6, 2) := by decide +kernel
theorem dX5_send_70 : decode cX5_send 70 = .ok (.iload_n 2, 1) := by decide +kernel
theorem dX5_send_71 : decode cX5_send 71 = .ok (.if_icmp .le 28, 3) := by decide +kernel
theorem dX5_send_74 : decode cX5_send 74 = .ok (.iload 6, 2) := by decide +kernel
theorem dX5_send_76 : decode cX5_send 76 = .ok (.aload_n 0, 1) := by decide +kernel
theorem dX5_send_77 : decode cX5_send 77 = .ok (.iload 5, 2) := by decide +kernel
theorem dX5_send_79 : decode cX5_send 79 = .ok (.aload_n 0, 1) := by decide +kernel
theorem dX5_send_80 : decode cX5_send 80 = .ok (.getfield 10, 3) := by decide +kernel
theorem dX5_send_83 : decode cX5_send 83 = .ok (.getfield 140, 3) := by decide +kernel
theorem dX5_send_86 : decode cX5_send 86 = .ok (.iload_n 1, 1) := by decide +kernel
theorem dX5_send_87 : decode cX5_send 87 = .ok (.invokevirtual 183, 3) := by decide +kernel
theorem dX5_send_90 : decode cX5_send 90 = .ok (.if_icmp .le 9, 3) := by decide +kernel
theorem dX5_send_93 : decode cX5_send 93 = .ok (.iload 6, 2) := by decide +kernel
theorem dX5_send_95 : decode cX5_send 95 = .ok (.istore_n 2, 1) := by decide +kernel
theorem dX5_send_96 : decode cX5_send 96 = .ok (.iload 4, 2) := by decide +kernel
theorem dX5_send_98 : decode cX5_send 98 = .ok (.istore_n 3, 1) := by decide +kernel
theorem dX5_send_99 : decode cX5_send 99 = .ok (.iinc 4 1, 3) := by decide +kernel
theorem dX5_send_102 : decode cX5_send 102 = .ok (.goto (-85), 3) := by decide +kernel
theorem dX5_send_105 : decode cX5_send 105 = .ok (.iload_n 3, 1) := by decide +kernel
theorem dX5_send_106 : decode cX5_send 106 = .ok (.ireturn, 1) := by decide +kernel
theorem dX5_healthThen_0 : decode cX5_healthThen 0 = .ok (.aload_n 0, 1) := by decide +kernel
theorem dX5_healthThen_1 : decode cX5_healthThen 1 = .ok (.invokevirtual 58, 3) := by decide +kernel
theorem dX5_healthThen_4 : decode cX5_healthThen 4 = .ok (.astore 4, 2) := by decide +kernel
theorem dX5_healthThen_6 : decode cX5_healthThen 6 = .ok (.aload 4, 2) := by decide +kernel
theorem dX5_healthThen_8 : decode cX5_healthThen 8 = .ok (.iload_n 2, 1) := by decide +kernel
theorem dX5_healthThen_9 : decode cX5_healthThen 9 = .ok (.putfield 140, 3) := by decide +kernel
theorem dX5_healthThen_12 : decode cX5_healthThen 12 = .ok (.aload 4, 2) := by decide +kernel
theorem dX5_healthThen_14 : decode cX5_healthThen 14 = .ok (.iload_n 3, 1) := by decide +kernel
theorem dX5_healthThen_15 : decode cX5_healthThen 15 = .ok (.invokevirtual 136, 3) := by decide +kernel
theorem dX5_healthThen_18 : decode cX5_healthThen 18 = .ok (.aload 4, 2) := by decide +kernel
theorem dX5_healthThen_20 : decode cX5_healthThen 20 = .ok (.iload_n 1, 1) := by decide +kernel
theorem dX5_healthThen_21 : decode cX5_healthThen 21 = .ok (.aload 4, 2) := by decide +kernel
theorem dX5_healthThen_23 : decode cX5_healthThen 23 = .ok (.getfield 140, 3) := by decide +kernel
theorem dX5_healthThen_26 : decode cX5_healthThen 26 = .ok (.iand, 1) := by decide +kernel
theorem dX5_healthThen_27 : decode cX5_healthThen 27 = .ok (.invokevirtual 186, 3) := by decide +kernel
theorem dX5_healthThen_30 : decode cX5_healthThen 30 = .ok (.ireturn, 1) := by decide +kernel
theorem dX5_seats_0 : decode cX5_seats 0 = .ok (.iload_n 1, 1) := by decide +kernel
theorem dX5_seats_1 : decode cX5_seats 1 = .ok (.ifCond .ge 5, 3) := by decide +kernel
theorem dX5_seats_4 : decode cX5_seats 4 = .ok (.iconst (-1), 1) := by decide +kernel
theorem dX5_seats_5 : decode cX5_seats 5 = .ok (.ireturn, 1) := by decide +kernel
theorem dX5_seats_6 : decode cX5_seats 6 = .ok (.aload_n 0, 1) := by decide +kernel
theorem dX5_seats_7 : decode cX5_seats 7 = .ok (.getfield 36, 3) := by decide +kernel
theorem dX5_seats_10 : decode cX5_seats 10 = .ok (.aload_n 0, 1) := by decide +kernel
theorem dX5_seats_11 : decode cX5_seats 11 = .ok (.getfield 10, 3) := by decide +kernel
theorem dX5_seats_14 : decode cX5_seats 14 = .ok (.iload_n 1, 1) := by decide +kernel
theorem dX5_seats_15 : decode cX5_seats 15 = .ok (.invokevirtual 189, 3) := by decide +kernel
theorem dX5_seats_18 : decode cX5_seats 18 = .ok (.ireturn, 1) := by decide +kernel
theorem dX5_same_0 : decode cX5_same 0 = .ok (.iload_n 1, 1) := by decide +kernel
theorem dX5_same_1 : decode cX5_same 1 = .ok (.tableswitch 113 0 6 #[43, 51, 59, 67, 75, 83, 98], 43) := by decide +kernel
theorem dX5_same_44 : decode cX5_same 44 = .ok (.aload_n 0, 1) := by decide +kernel
theorem dX5_same_45 : decode cX5_same 45 = .ok (.getfield 10, 3) := by decide +kernel
theorem dX5_same_48 : decode cX5_same 48 = .ok (.invokevirtual 193, 3) := by decide +kernel
theorem dX5_same_51 : decode cX5_same 51 = .ok (.ireturn, 1) := by decide +kernel
theorem dX5_same_52 : decode cX5_same 52 = .ok (.aload_n 0, 1) := by decide +kernel
theorem dX5_same_53 : decode cX5_same 53 = .ok (.getfield 10, 3) := by decide +kernel
theorem dX5_same_56 : decode cX5_same 56 = .ok (.invokevirtual 196, 3) := by decide +kernel
theorem dX5_same_59 : decode cX5_same 59 = .ok (.ireturn, 1) := by decide +kernel
theorem dX5_same_60 : decode cX5_same 60 = .ok (.aload_n 0, 1) := by decide +kernel
theorem dX5_same_61 : decode cX5_same 61 = .ok (.getfield 10, 3) := by decide +kernel
theorem dX5_same_64 : decode cX5_same 64 = .ok (.invokevirtual 199, 3) := by decide +kernel
theorem dX5_same_67 : decode cX5_same 67 = .ok (.ireturn, 1) := by decide +kernel
theorem dX5_same_68 : decode cX5_same 68 = .ok (.aload_n 0, 1) := by decide +kernel
theorem dX5_same_69 : decode cX5_same 69 = .ok (.getfield 10, 3) := by decide +kernel
theorem dX5_same_72 : decode cX5_same 72 = .ok (.invokevirtual 202, 3) := by decide +kernel
theorem dX5_same_75 : decode cX5_same 75 = .ok (.ireturn, 1) := by decide +kernel
theorem dX5_same_76 : decode cX5_same 76 = .ok (.aload_n 0, 1) := by decide +kernel
theorem dX5_same_77 : decode cX5_same 77 = .ok (.getfield 10, 3) := by decide +kernel
theorem dX5_same_80 : decode cX5_same 80 = .ok (.invokevirtual 205, 3) := by decide +kernel
theorem dX5_same_83 : decode cX5_same 83 = .ok (.ireturn, 1) := by decide +kernel
theorem dX5_same_84 : decode cX5_same 84 = .ok (.aload_n 0, 1) := by decide +kernel
theorem dX5_same_85 : decode cX5_same 85 = .ok (.getfield 10, 3) := by decide +kernel
theorem dX5_same_88 : decode cX5_same 88 = .ok (.aload_n 0, 1) := by decide +kernel
theorem dX5_same_89 : decode cX5_same 89 = .ok (.getfield 10, 3) := by decide +kernel
theorem dX5_same_92 : decode cX5_same 92 = .ok (.getfield 89, 3) := by decide +kernel
theorem dX5_same_95 : decode cX5_same 95 = .ok (.invokevirtual 208, 3) := by decide +kernel
theorem dX5_same_98 : decode cX5_same 98 = .ok (.ireturn, 1) := by decide +kernel
theorem dX5_same_99 : decode cX5_same 99 = .ok (.aload_n 0, 1) := by decide +kernel
theorem dX5_same_100 : decode cX5_same 100 = .ok (.getfield 10, 3) := by decide +kernel
theorem dX5_same_103 : decode cX5_same 103 = .ok (.aload_n 0, 1) := by decide +kernel
theorem dX5_same_104 : decode cX5_same 104 = .ok (.getfield 10, 3) := by decide +kernel
theorem dX5_same_107 : decode cX5_same 107 = .ok (.getfield 92, 3) := by decide +kernel
theorem dX5_same_110 : decode cX5_same 110 = .ok (.invokevirtual 208, 3) := by decide +kernel
theorem dX5_same_113 : decode cX5_same 113 = .ok (.ireturn, 1) := by decide +kernel
theorem dX5_same_114 : decode cX5_same 114 = .ok (.iconst (-1), 1) := by decide +kernel
theorem dX5_same_115 : decode cX5_same 115 = .ok (.ireturn, 1) := by decide +kernel
theorem dX5_whatIs_0 : decode cX5_whatIs 0 = .ok (.aload_n 0, 1) := by decide +kernel
theorem dX5_whatIs_1 : decode cX5_whatIs 1 = .ok (.getfield 10, 3) := by decide +kernel
theorem dX5_whatIs_4 : decode cX5_whatIs 4 = .ok (.iload_n 2, 1) := by decide +kernel
theorem dX5_whatIs_5 : decode cX5_whatIs 5 = .ok (.invokevirtual 80, 3) := by decide +kernel
theorem dX5_whatIs_8 : decode cX5_whatIs 8 = .ok (.ifCond .eq 12, 3) := by decide +kernel
theorem dX5_whatIs_11 : decode cX5_whatIs 11 = .ok (.iload_n 3, 1) := by decide +kernel
theorem dX5_whatIs_12 : decode cX5_whatIs 12 = .ok (.iconst 0, 1) := by decide +kernel
theorem dX5_whatIs_13 : decode cX5_whatIs 13 = .ok (.iconst 1, 1) := by decide +kernel
theorem dX5_whatIs_14 : decode cX5_whatIs 14 = .ok (.invokestatic 129, 3) := by decide +kernel
theorem dX5_whatIs_17 : decode cX5_whatIs 17 = .ok (.ifCond .ne 5, 3) := by decide +kernel
theorem dX5_whatIs_20 : decode cX5_whatIs 20 = .ok (.iconst (-1), 1) := by decide +kernel
theorem dX5_whatIs_21 : decode cX5_whatIs 21 = .ok (.ireturn, 1) := by decide +kernel
theorem dX5_whatIs_22 : decode cX5_whatIs 22 = .ok (.aload_n 0, 1) := by decide +kernel
theorem dX5_whatIs_23 : decode cX5_whatIs 23 = .ok (.iload_n 1, 1) := by decide +kernel
theorem dX5_whatIs_24 : decode cX5_whatIs 24 = .ok (.invokevirtual 44, 3) := by decide +kernel
theorem dX5_whatIs_27 : decode cX5_whatIs 27 = .ok (.istore 4, 2) := by decide +kernel
theorem dX5_whatIs_29 : decode cX5_whatIs 29 = .ok (.iload 4, 2) := by decide +kernel
theorem dX5_whatIs_31 : decode cX5_whatIs 31 = .ok (.ifCond .eq 6, 3) := by decide +kernel
theorem dX5_whatIs_34 : decode cX5_whatIs 34 = .ok (.iload 4, 2) := by decide +kernel
theorem dX5_whatIs_36 : decode cX5_whatIs 36 = .ok (.ireturn, 1) := by decide +kernel
theorem dX5_whatIs_37 : decode cX5_whatIs 37 = .ok (.iconst 0, 1) := by decide +kernel
theorem dX5_whatIs_38 : decode cX5_whatIs 38 = .ok (.istore 5, 2) := by decide +kernel
theorem dX5_whatIs_40 : decode cX5_whatIs 40 = .ok (.iload_n 3, 1) := by decide +kernel
theorem dX5_whatIs_41 : decode cX5_whatIs 41 = .ok (.ifCond .ne 8, 3) := by decide +kernel
theorem dX5_whatIs_44 : decode cX5_whatIs 44 = .ok (.bipush 8, 2) := by decide +kernel
theorem dX5_whatIs_46 : decode cX5_whatIs 46 = .ok (.goto 5, 3) := by decide +kernel
theorem dX5_whatIs_49 : decode cX5_whatIs 49 = .ok (.bipush 10, 2) := by decide +kernel
theorem dX5_whatIs_51 : decode cX5_whatIs 51 = .ok (.istore 6, 2) := by decide +kernel
theorem dX5_whatIs_53 : decode cX5_whatIs 53 = .ok (.iconst 0, 1) := by decide +kernel
theorem dX5_whatIs_54 : decode cX5_whatIs 54 = .ok (.istore 7, 2) := by decide +kernel
theorem dX5_whatIs_56 : decode cX5_whatIs 56 = .ok (.iload 7, 2) := by decide +kernel
theorem dX5_whatIs_58 : decode cX5_whatIs 58 = .ok (.iload 6, 2) := by decide +kernel
theorem dX5_whatIs_60 : decode cX5_whatIs 60 = .ok (.if_icmp .ge 64, 3) := by decide +kernel
theorem dX5_whatIs_63 : decode cX5_whatIs 63 = .ok (.aload_n 0, 1) := by decide +kernel
theorem dX5_whatIs_64 : decode cX5_whatIs 64 = .ok (.invokevirtual 58, 3) := by decide +kernel
theorem dX5_whatIs_67 : decode cX5_whatIs 67 = .ok (.astore 8, 2) := by decide +kernel
theorem dX5_whatIs_69 : decode cX5_whatIs 69 = .ok (.iload_n 3, 1) := by decide +kernel
theorem dX5_whatIs_70 : decode cX5_whatIs 70 = .ok (.ifCond .ne 11, 3) := by decide +kernel
theorem dX5_whatIs_73 : decode cX5_whatIs 73 = .ok (.aload 8, 2) := by decide +kernel
theorem dX5_whatIs_75 : decode cX5_whatIs 75 = .ok (.getfield 83, 3) := by decide +kernel
theorem dX5_whatIs_78 : decode cX5_whatIs 78 = .ok (.goto 8, 3) := by decide +kernel
theorem dX5_whatIs_81 : decode cX5_whatIs 81 = .ok (.aload 8, 2) := by decide +kernel
theorem dX5_whatIs_83 : decode cX5_whatIs 83 = .ok (.getfield 86, 3) := by decide +kernel
theorem dX5_whatIs_86 : decode cX5_whatIs 86 = .ok (.astore 9, 2) := by decide +kernel
theorem dX5_whatIs_88 : decode cX5_whatIs 88 = .ok (.aload 9, 2) := by decide +kernel
theorem dX5_whatIs_90 : decode cX5_whatIs 90 = .ok (.iload_n 2, 1) := by decide +kernel
theorem dX5_whatIs_91 : decode cX5_whatIs 91 = .ok (.iload 7, 2) := by decide +kernel
theorem dX5_whatIs_93 : decode cX5_whatIs 93 = .ok (.iastore, 1) := by decide +kernel
theorem dX5_whatIs_94 : decode cX5_whatIs 94 = .ok (.aload_n 0, 1) := by decide +kernel
theorem dX5_whatIs_95 : decode cX5_whatIs 95 = .ok (.getfield 28, 3) := by decide +kernel
theorem dX5_whatIs_98 : decode cX5_whatIs 98 = .ok (.iload_n 1, 1) := by decide +kernel
theorem dX5_whatIs_99 : decode cX5_whatIs 99 = .ok (.aaload, 1) := by decide +kernel
theorem dX5_whatIs_100 : decode cX5_whatIs 100 = .ok (.aload 8, 2) := by decide +kernel
theorem dX5_whatIs_102 : decode cX5_whatIs 102 = .ok (.iload_n 2, 1) := by decide +kernel
theorem dX5_whatIs_103 : decode cX5_whatIs 103 = .ok (.invokestatic 212, 3) := by decide +kernel
theorem dX5_whatIs_106 : decode cX5_whatIs 106 = .ok (.ifCond .eq 12, 3) := by decide +kernel
theorem dX5_whatIs_109 : decode cX5_whatIs 109 = .ok (.iload 5, 2) := by decide +kernel
theorem dX5_whatIs_111 : decode cX5_whatIs 111 = .ok (.iconst 1, 1) := by decide +kernel
theorem dX5_whatIs_112 : decode cX5_whatIs 112 = .ok (.iload 7, 2) := by decide +kernel
theorem dX5_whatIs_114 : decode cX5_whatIs 114 = .ok (.ishl, 1) := by decide +kernel
theorem dX5_whatIs_115 : decode cX5_whatIs 115 = .ok (.ior, 1) := by decide +kernel
theorem dX5_whatIs_116 : decode cX5_whatIs 116 = .ok (.istore 5, 2) := by decide +kernel
theorem dX5_whatIs_118 : decode cX5_whatIs 118 = .ok (.iinc 7 1, 3) := by decide +kernel
theorem dX5_whatIs_121 : decode cX5_whatIs 121 = .ok (.goto (-65), 3) := by decide +kernel
theorem dX5_whatIs_124 : decode cX5_whatIs 124 = .ok (.iload 5, 2) := by decide +kernel
theorem dX5_whatIs_126 : decode cX5_whatIs 126 = .ok (.ireturn, 1) := by decide +kernel
theorem dX5_healthsAreSo_0 : decode cX5_healthsAreSo 0 = .ok (.iconst 0, 1) := by decide +kernel
theorem dX5_healthsAreSo_1 : decode cX5_healthsAreSo 1 = .ok (.istore_n 3, 1) := by decide +kernel
theorem dX5_healthsAreSo_2 : decode cX5_healthsAreSo 2 = .ok (.iload_n 3, 1) := by decide +kernel
theorem dX5_healthsAreSo_3 : decode cX5_healthsAreSo 3 = .ok (.aload_n 0, 1) := by decide +kernel
theorem dX5_healthsAreSo_4 : decode cX5_healthsAreSo 4 = .ok (.getfield 62, 3) := by decide +kernel
theorem dX5_healthsAreSo_7 : decode cX5_healthsAreSo 7 = .ok (.if_icmp .ge 30, 3) := by decide +kernel
theorem dX5_healthsAreSo_10 : decode cX5_healthsAreSo 10 = .ok (.aload_n 0, 1) := by decide +kernel
theorem dX5_healthsAreSo_11 : decode cX5_healthsAreSo 11 = .ok (.iload_n 3, 1) := by decide +kernel
theorem dX5_healthsAreSo_12 : decode cX5_healthsAreSo 12 = .ok (.aload_n 1, 1) := by decide +kernel
theorem dX5_healthsAreSo_13 : decode cX5_healthsAreSo 13 = .ok (.getfield 95, 3) := by decide +kernel
theorem dX5_healthsAreSo_16 : decode cX5_healthsAreSo 16 = .ok (.iload_n 2, 1) := by decide +kernel
theorem dX5_healthsAreSo_17 : decode cX5_healthsAreSo 17 = .ok (.iaload, 1) := by decide +kernel
theorem dX5_healthsAreSo_18 : decode cX5_healthsAreSo 18 = .ok (.invokevirtual 216, 3) := by decide +kernel
theorem dX5_healthsAreSo_21 : decode cX5_healthsAreSo 21 = .ok (.ifCond .ne 5, 3) := by decide +kernel
theorem dX5_healthsAreSo_24 : decode cX5_healthsAreSo 24 = .ok (.iconst 0, 1) := by decide +kernel
theorem dX5_healthsAreSo_25 : decode cX5_healthsAreSo 25 = .ok (.ireturn, 1) := by decide +kernel
theorem dX5_healthsAreSo_26 : decode cX5_healthsAreSo 26 = .ok (.aload_n 1, 1) := by decide +kernel
theorem dX5_healthsAreSo_27 : decode cX5_healthsAreSo 27 = .ok (.iconst 1, 1) := by decide +kernel
theorem dX5_healthsAreSo_28 : decode cX5_healthsAreSo 28 = .ok (.invokevirtual 136, 3) := by decide +kernel
theorem dX5_healthsAreSo_31 : decode cX5_healthsAreSo 31 = .ok (.iinc 3 1, 3) := by decide +kernel
theorem dX5_healthsAreSo_34 : decode cX5_healthsAreSo 34 = .ok (.goto (-32), 3) := by decide +kernel
theorem dX5_healthsAreSo_37 : decode cX5_healthsAreSo 37 = .ok (.iconst 1, 1) := by decide +kernel
theorem dX5_healthsAreSo_38 : decode cX5_healthsAreSo 38 = .ok (.ireturn, 1) := by decide +kernel
theorem dX5_whatWish_0 : decode cX5_whatWish 0 = .ok (.aload_n 0, 1) := by decide +kernel
theorem dX5_whatWish_1 : decode cX5_whatWish 1 = .ok (.getfield 10, 3) := by decide +kernel
theorem dX5_whatWish_4 : decode cX5_whatWish 4 = .ok (.iload_n 2, 1) := by decide +kernel
theorem dX5_whatWish_5 : decode cX5_whatWish 5 = .ok (.invokevirtual 80, 3) := by decide +kernel
theorem dX5_whatWish_8 : decode cX5_whatWish 8 = .ok (.ifCond .ne 5, 3) := by decide +kernel
theorem dX5_whatWish_11 : decode cX5_whatWish 11 = .ok (.iconst (-1), 1) := by decide +kernel
theorem dX5_whatWish_12 : decode cX5_whatWish 12 = .ok (.ireturn, 1) := by decide +kernel
theorem dX5_whatWish_13 : decode cX5_whatWish 13 = .ok (.aload_n 0, 1) := by decide +kernel
theorem dX5_whatWish_14 : decode cX5_whatWish 14 = .ok (.iload_n 1, 1) := by decide +kernel
theorem dX5_whatWish_15 : decode cX5_whatWish 15 = .ok (.invokevirtual 44, 3) := by decide +kernel
theorem dX5_whatWish_18 : decode cX5_whatWish 18 = .ok (.istore_n 3, 1) := by decide +kernel
theorem dX5_whatWish_19 : decode cX5_whatWish 19 = .ok (.iload_n 3, 1) := by decide +kernel
theorem dX5_whatWish_20 : decode cX5_whatWish 20 = .ok (.ifCond .eq 5, 3) := by decide +kernel
theorem dX5_whatWish_23 : decode cX5_whatWish 23 = .ok (.iload_n 3, 1) := by decide +kernel
theorem dX5_whatWish_24 : decode cX5_whatWish 24 = .ok (.ireturn, 1) := by decide +kernel
theorem dX5_whatWish_25 : decode cX5_whatWish 25 = .ok (.iconst 0, 1) := by decide +kernel
theorem dX5_whatWish_26 : decode cX5_whatWish 26 = .ok (.istore 4, 2) := by decide +kernel
theorem dX5_whatWish_28 : decode cX5_whatWish 28 = .ok (.iconst 0, 1) := by decide +kernel
theorem dX5_whatWish_29 : decode cX5_whatWish 29 = .ok (.istore 5, 2) := by decide +kernel
theorem dX5_whatWish_31 : decode cX5_whatWish 31 = .ok (.iload 5, 2) := by decide +kernel
theorem dX5_whatWish_33 : decode cX5_whatWish 33 = .ok (.bipush 10, 2) := by decide +kernel
theorem dX5_whatWish_35 : decode cX5_whatWish 35 = .ok (.if_icmp .ge 48, 3) := by decide +kernel
theorem dX5_whatWish_38 : decode cX5_whatWish 38 = .ok (.aload_n 0, 1) := by decide +kernel
theorem dX5_whatWish_39 : decode cX5_whatWish 39 = .ok (.invokevirtual 58, 3) := by decide +kernel
theorem dX5_whatWish_42 : decode cX5_whatWish 42 = .ok (.astore 6, 2) := by decide +kernel
theorem dX5_whatWish_44 : decode cX5_whatWish 44 = .ok (.aload 6, 2) := by decide +kernel
theorem dX5_whatWish_46 : decode cX5_whatWish 46 = .ok (.getfield 89, 3) := by decide +kernel
theorem dX5_whatWish_49 : decode cX5_whatWish 49 = .ok (.iload_n 2, 1) := by decide +kernel
theorem dX5_whatWish_50 : decode cX5_whatWish 50 = .ok (.iload 5, 2) := by decide +kernel
theorem dX5_whatWish_52 : decode cX5_whatWish 52 = .ok (.iastore, 1) := by decide +kernel
theorem dX5_whatWish_53 : decode cX5_whatWish 53 = .ok (.aload_n 0, 1) := by decide +kernel
theorem dX5_whatWish_54 : decode cX5_whatWish 54 = .ok (.getfield 28, 3) := by decide +kernel
theorem dX5_whatWish_57 : decode cX5_whatWish 57 = .ok (.iload_n 1, 1) := by decide +kernel
theorem dX5_whatWish_58 : decode cX5_whatWish 58 = .ok (.aaload, 1) := by decide +kernel
theorem dX5_whatWish_59 : decode cX5_whatWish 59 = .ok (.aload 6, 2) := by decide +kernel
theorem dX5_whatWish_61 : decode cX5_whatWish 61 = .ok (.iload_n 2, 1) := by decide +kernel
theorem dX5_whatWish_62 : decode cX5_whatWish 62 = .ok (.invokestatic 220, 3) := by decide +kernel
theorem dX5_whatWish_65 : decode cX5_whatWish 65 = .ok (.ifCond .eq 12, 3) := by decide +kernel
theorem dX5_whatWish_68 : decode cX5_whatWish 68 = .ok (.iload 4, 2) := by decide +kernel
theorem dX5_whatWish_70 : decode cX5_whatWish 70 = .ok (.iconst 1, 1) := by decide +kernel
theorem dX5_whatWish_71 : decode cX5_whatWish 71 = .ok (.iload 5, 2) := by decide +kernel
theorem dX5_whatWish_73 : decode cX5_whatWish 73 = .ok (.ishl, 1) := by decide +kernel
theorem dX5_whatWish_74 : decode cX5_whatWish 74 = .ok (.ior, 1) := by decide +kernel
theorem dX5_whatWish_75 : decode cX5_whatWish 75 = .ok (.istore 4, 2) := by decide +kernel
theorem dX5_whatWish_77 : decode cX5_whatWish 77 = .ok (.iinc 5 1, 3) := by decide +kernel
theorem dX5_whatWish_80 : decode cX5_whatWish 80 = .ok (.goto (-49), 3) := by decide +kernel
theorem dX5_whatWish_83 : decode cX5_whatWish 83 = .ok (.iload 4, 2) := by decide +kernel
theorem dX5_whatWish_85 : decode cX5_whatWish 85 = .ok (.ireturn, 1) := by decide +kernel
theorem dX5_lastPlatesAreSo_0 : decode cX5_lastPlatesAreSo 0 = .ok (.iconst 0, 1) := by decide +kernel
theorem dX5_lastPlatesAreSo_1 : decode cX5_lastPlatesAreSo 1 = .ok (.istore_n 3, 1) := by decide +kernel
theorem dX5_lastPlatesAreSo_2 : decode cX5_lastPlatesAreSo 2 = .ok (.iload_n 3, 1) := by decide +kernel
theorem dX5_lastPlatesAreSo_3 : decode cX5_lastPlatesAreSo 3 = .ok (.aload_n 0, 1) := by decide +kernel
theorem dX5_lastPlatesAreSo_4 : decode cX5_lastPlatesAreSo 4 = .ok (.getfield 62, 3) := by decide +kernel
theorem dX5_lastPlatesAreSo_7 : decode cX5_lastPlatesAreSo 7 = .ok (.if_icmp .ge 30, 3) := by decide +kernel
theorem dX5_lastPlatesAreSo_10 : decode cX5_lastPlatesAreSo 10 = .ok (.aload_n 1, 1) := by decide +kernel
theorem dX5_lastPlatesAreSo_11 : decode cX5_lastPlatesAreSo 11 = .ok (.iconst 1, 1) := by decide +kernel
theorem dX5_lastPlatesAreSo_12 : decode cX5_lastPlatesAreSo 12 = .ok (.invokevirtual 136, 3) := by decide +kernel
theorem dX5_lastPlatesAreSo_15 : decode cX5_lastPlatesAreSo 15 = .ok (.aload_n 0, 1) := by decide +kernel
theorem dX5_lastPlatesAreSo_16 : decode cX5_lastPlatesAreSo 16 = .ok (.iload_n 3, 1) := by decide +kernel
theorem dX5_lastPlatesAreSo_17 : decode cX5_lastPlatesAreSo 17 = .ok (.aload_n 1, 1) := by decide +kernel
theorem dX5_lastPlatesAreSo_18 : decode cX5_lastPlatesAreSo 18 = .ok (.getfield 92, 3) := by decide +kernel
theorem dX5_lastPlatesAreSo_21 : decode cX5_lastPlatesAreSo 21 = .ok (.iload_n 2, 1) := by decide +kernel
theorem dX5_lastPlatesAreSo_22 : decode cX5_lastPlatesAreSo 22 = .ok (.iaload, 1) := by decide +kernel
theorem dX5_lastPlatesAreSo_23 : decode cX5_lastPlatesAreSo 23 = .ok (.invokevirtual 216, 3) := by decide +kernel
theorem dX5_lastPlatesAreSo_26 : decode cX5_lastPlatesAreSo 26 = .ok (.ifCond .ne 5, 3) := by decide +kernel
theorem dX5_lastPlatesAreSo_29 : decode cX5_lastPlatesAreSo 29 = .ok (.iconst 0, 1) := by decide +kernel
theorem dX5_lastPlatesAreSo_30 : decode cX5_lastPlatesAreSo 30 = .ok (.ireturn, 1) := by decide +kernel
theorem dX5_lastPlatesAreSo_31 : decode cX5_lastPlatesAreSo 31 = .ok (.iinc 3 1, 3) := by decide +kernel
theorem dX5_lastPlatesAreSo_34 : decode cX5_lastPlatesAreSo 34 = .ok (.goto (-32), 3) := by decide +kernel
theorem dX5_lastPlatesAreSo_37 : decode cX5_lastPlatesAreSo 37 = .ok (.iconst 1, 1) := by decide +kernel
theorem dX5_lastPlatesAreSo_38 : decode cX5_lastPlatesAreSo 38 = .ok (.ireturn, 1) := by decide +kernel
theorem dX5_two_0 : decode cX5_two 0 = .ok (.aload_n 0, 1) := by decide +kernel
theorem dX5_two_1 : decode cX5_two 1 = .ok (.getfield 10, 3) := by decide +kernel
theorem dX5_two_4 : decode cX5_two 4 = .ok (.iload_n 1, 1) := by decide +kernel
theorem dX5_two_5 : decode cX5_two 5 = .ok (.invokevirtual 80, 3) := by decide +kernel
theorem dX5_two_8 : decode cX5_two 8 = .ok (.ifCond .eq 29, 3) := by decide +kernel
theorem dX5_two_11 : decode cX5_two 11 = .ok (.aload_n 0, 1) := by decide +kernel
theorem dX5_two_12 : decode cX5_two 12 = .ok (.getfield 10, 3) := by decide +kernel
theorem dX5_two_15 : decode cX5_two 15 = .ok (.iload_n 2, 1) := by decide +kernel
theorem dX5_two_16 : decode cX5_two 16 = .ok (.invokevirtual 80, 3) := by decide +kernel
theorem dX5_two_19 : decode cX5_two 19 = .ok (.ifCond .eq 18, 3) := by decide +kernel
theorem dX5_two_22 : decode cX5_two 22 = .ok (.iload_n 1, 1) := by decide +kernel
theorem dX5_two_23 : decode cX5_two 23 = .ok (.iload_n 2, 1) := by decide +kernel
theorem dX5_two_24 : decode cX5_two 24 = .ok (.if_icmp .eq 13, 3) := by decide +kernel
theorem dX5_two_27 : decode cX5_two 27 = .ok (.iload_n 3, 1) := by decide +kernel
theorem dX5_two_28 : decode cX5_two 28 = .ok (.iconst 1, 1) := by decide +kernel
theorem dX5_two_29 : decode cX5_two 29 = .ok (.bipush 30, 2) := by decide +kernel
theorem dX5_two_31 : decode cX5_two 31 = .ok (.invokestatic 129, 3) := by decide +kernel
theorem dX5_two_34 : decode cX5_two 34 = .ok (.ifCond .ne 5, 3) := by decide +kernel
theorem dX5_two_37 : decode cX5_two 37 = .ok (.iconst (-1), 1) := by decide +kernel
theorem dX5_two_38 : decode cX5_two 38 = .ok (.ireturn, 1) := by decide +kernel
theorem dX5_two_39 : decode cX5_two 39 = .ok (.aload_n 0, 1) := by decide +kernel
theorem dX5_two_40 : decode cX5_two 40 = .ok (.getfield 10, 3) := by decide +kernel
theorem dX5_two_43 : decode cX5_two 43 = .ok (.iload_n 1, 1) := by decide +kernel
theorem dX5_two_44 : decode cX5_two 44 = .ok (.invokevirtual 98, 3) := by decide +kernel
theorem dX5_two_47 : decode cX5_two 47 = .ok (.ifCond .eq 14, 3) := by decide +kernel
theorem dX5_two_50 : decode cX5_two 50 = .ok (.aload_n 0, 1) := by decide +kernel
theorem dX5_two_51 : decode cX5_two 51 = .ok (.getfield 10, 3) := by decide +kernel
theorem dX5_two_54 : decode cX5_two 54 = .ok (.iload_n 2, 1) := by decide +kernel
theorem dX5_two_55 : decode cX5_two 55 = .ok (.invokevirtual 98, 3) := by decide +kernel
theorem dX5_two_58 : decode cX5_two 58 = .ok (.ifCond .ne 6, 3) := by decide +kernel
theorem dX5_two_61 : decode cX5_two 61 = .ok (.bipush (-3), 2) := by decide +kernel
theorem dX5_two_63 : decode cX5_two 63 = .ok (.ireturn, 1) := by decide +kernel
theorem dX5_two_64 : decode cX5_two 64 = .ok (.iconst 0, 1) := by decide +kernel
theorem dX5_two_65 : decode cX5_two 65 = .ok (.istore 4, 2) := by decide +kernel
theorem dX5_two_67 : decode cX5_two 67 = .ok (.iload 4, 2) := by decide +kernel
theorem dX5_two_69 : decode cX5_two 69 = .ok (.iconst 4, 1) := by decide +kernel
theorem dX5_two_70 : decode cX5_two 70 = .ok (.if_icmp .ge 18, 3) := by decide +kernel
theorem dX5_two_73 : decode cX5_two 73 = .ok (.aload_n 0, 1) := by decide +kernel
theorem dX5_two_74 : decode cX5_two 74 = .ok (.iload_n 1, 1) := by decide +kernel
theorem dX5_two_75 : decode cX5_two 75 = .ok (.iload_n 2, 1) := by decide +kernel
theorem dX5_two_76 : decode cX5_two 76 = .ok (.iload_n 3, 1) := by decide +kernel
theorem dX5_two_77 : decode cX5_two 77 = .ok (.iload 4, 2) := by decide +kernel
theorem dX5_two_79 : decode cX5_two 79 = .ok (.invokevirtual 223, 3) := by decide +kernel
theorem dX5_two_82 : decode cX5_two 82 = .ok (.iinc 4 1, 3) := by decide +kernel
theorem dX5_two_85 : decode cX5_two 85 = .ok (.goto (-18), 3) := by decide +kernel
theorem dX5_two_88 : decode cX5_two 88 = .ok (.iconst 0, 1) := by decide +kernel
theorem dX5_two_89 : decode cX5_two 89 = .ok (.istore 4, 2) := by decide +kernel
theorem dX5_two_91 : decode cX5_two 91 = .ok (.iload 4, 2) := by decide +kernel
theorem dX5_two_93 : decode cX5_two 93 = .ok (.iconst 4, 1) := by decide +kernel
theorem dX5_two_94 : decode cX5_two 94 = .ok (.if_icmp .ge 88, 3) := by decide +kernel
theorem dX5_two_97 : decode cX5_two 97 = .ok (.aload_n 0, 1) := by decide +kernel
theorem dX5_two_98 : decode cX5_two 98 = .ok (.getfield 40, 3) := by decide +kernel
theorem dX5_two_101 : decode cX5_two 101 = .ok (.iload 4, 2) := by decide +kernel
theorem dX5_two_103 : decode cX5_two 103 = .ok (.iaload, 1) := by decide +kernel
theorem dX5_two_104 : decode cX5_two 104 = .ok (.aload_n 0, 1) := by decide +kernel
theorem dX5_two_105 : decode cX5_two 105 = .ok (.getfield 40, 3) := by decide +kernel
theorem dX5_two_108 : decode cX5_two 108 = .ok (.iload 4, 2) := by decide +kernel
theorem dX5_two_110 : decode cX5_two 110 = .ok (.iconst 2, 1) := by decide +kernel
theorem dX5_two_111 : decode cX5_two 111 = .ok (.ixor, 1) := by decide +kernel
theorem dX5_two_112 : decode cX5_two 112 = .ok (.iaload, 1) := by decide +kernel
theorem dX5_two_113 : decode cX5_two 113 = .ok (.if_icmp .lt 7, 3) := by decide +kernel
theorem dX5_two_116 : decode cX5_two 116 = .ok (.iconst 1, 1) := by decide +kernel
theorem dX5_two_117 : decode cX5_two 117 = .ok (.goto 4, 3) := by decide +kernel
theorem dX5_two_120 : decode cX5_two 120 = .ok (.iconst 0, 1) := by decide +kernel
theorem dX5_two_121 : decode cX5_two 121 = .ok (.istore 5, 2) := by decide +kernel
theorem dX5_two_123 : decode cX5_two 123 = .ok (.aload_n 0, 1) := by decide +kernel
theorem dX5_two_124 : decode cX5_two 124 = .ok (.getfield 40, 3) := by decide +kernel
theorem dX5_two_127 : decode cX5_two 127 = .ok (.iconst 4, 1) := by decide +kernel
theorem dX5_two_128 : decode cX5_two 128 = .ok (.iload 4, 2) := by decide +kernel
theorem dX5_two_130 : decode cX5_two 130 = .ok (.iadd, 1) := by decide +kernel
theorem dX5_two_131 : decode cX5_two 131 = .ok (.iaload, 1) := by decide +kernel
theorem dX5_two_132 : decode cX5_two 132 = .ok (.aload_n 0, 1) := by decide +kernel
theorem dX5_two_133 : decode cX5_two 133 = .ok (.getfield 40, 3) := by decide +kernel
theorem dX5_two_136 : decode cX5_two 136 = .ok (.iconst 4, 1) := by decide +kernel
theorem dX5_two_137 : decode cX5_two 137 = .ok (.iload 4, 2) := by decide +kernel
theorem dX5_two_139 : decode cX5_two 139 = .ok (.iconst 1, 1) := by decide +kernel
theorem dX5_two_140 : decode cX5_two 140 = .ok (.ixor, 1) := by decide +kernel
theorem dX5_two_141 : decode cX5_two 141 = .ok (.iadd, 1) := by decide +kernel
theorem dX5_two_142 : decode cX5_two 142 = .ok (.iaload, 1) := by decide +kernel
theorem dX5_two_143 : decode cX5_two 143 = .ok (.if_icmp .lt 7, 3) := by decide +kernel
theorem dX5_two_146 : decode cX5_two 146 = .ok (.iconst 1, 1) := by decide +kernel
theorem dX5_two_147 : decode cX5_two 147 = .ok (.goto 4, 3) := by decide +kernel
theorem dX5_two_150 : decode cX5_two 150 = .ok (.iconst 0, 1) := by decide +kernel
theorem dX5_two_151 : decode cX5_two 151 = .ok (.istore 6, 2) := by decide +kernel
theorem dX5_two_153 : decode cX5_two 153 = .ok (.iload 5, 2) := by decide +kernel
theorem dX5_two_155 : decode cX5_two 155 = .ok (.ifCond .eq 21, 3) := by decide +kernel
theorem dX5_two_158 : decode cX5_two 158 = .ok (.iload 6, 2) := by decide +kernel
theorem dX5_two_160 : decode cX5_two 160 = .ok (.ifCond .eq 16, 3) := by decide +kernel
theorem dX5_two_163 : decode cX5_two 163 = .ok (.bipush 10, 2) := by decide +kernel
theorem dX5_two_165 : decode cX5_two 165 = .ok (.iload 4, 2) := by decide +kernel
theorem dX5_two_167 : decode cX5_two 167 = .ok (.iconst 1, 1) := by decide +kernel
theorem dX5_two_168 : decode cX5_two 168 = .ok (.ishr, 1) := by decide +kernel
theorem dX5_two_169 : decode cX5_two 169 = .ok (.imul, 1) := by decide +kernel
theorem dX5_two_170 : decode cX5_two 170 = .ok (.iload 4, 2) := by decide +kernel
theorem dX5_two_172 : decode cX5_two 172 = .ok (.iconst 1, 1) := by decide +kernel
theorem dX5_two_173 : decode cX5_two 173 = .ok (.iand, 1) := by decide +kernel
theorem dX5_two_174 : decode cX5_two 174 = .ok (.iadd, 1) := by decide +kernel
theorem dX5_two_175 : decode cX5_two 175 = .ok (.ireturn, 1) := by decide +kernel
theorem dX5_two_176 : decode cX5_two 176 = .ok (.iinc 4 1, 3) := by decide +kernel
theorem dX5_two_179 : decode cX5_two 179 = .ok (.goto (-88), 3) := by decide +kernel
theorem dX5_two_182 : decode cX5_two 182 = .ok (.bipush (-4), 2) := by decide +kernel
theorem dX5_two_184 : decode cX5_two 184 = .ok (.ireturn, 1) := by decide +kernel
theorem dX5_choose_0 : decode cX5_choose 0 = .ok (.iload 4, 2) := by decide +kernel
theorem dX5_choose_2 : decode cX5_choose 2 = .ok (.iconst 2, 1) := by decide +kernel
theorem dX5_choose_3 : decode cX5_choose 3 = .ok (.iand, 1) := by decide +kernel
theorem dX5_choose_4 : decode cX5_choose 4 = .ok (.ifCond .eq 7, 3) := by decide +kernel
theorem dX5_choose_7 : decode cX5_choose 7 = .ok (.iconst 1, 1) := by decide +kernel
theorem dX5_choose_8 : decode cX5_choose 8 = .ok (.goto 4, 3) := by decide +kernel
theorem dX5_choose_11 : decode cX5_choose 11 = .ok (.iconst 0, 1) := by decide +kernel
theorem dX5_choose_12 : decode cX5_choose 12 = .ok (.istore 5, 2) := by decide +kernel
theorem dX5_choose_14 : decode cX5_choose 14 = .ok (.iload 4, 2) := by decide +kernel
theorem dX5_choose_16 : decode cX5_choose 16 = .ok (.iconst 1, 1) := by decide +kernel
theorem dX5_choose_17 : decode cX5_choose 17 = .ok (.iand, 1) := by decide +kernel
theorem dX5_choose_18 : decode cX5_choose 18 = .ok (.ifCond .eq 7, 3) := by decide +kernel
theorem dX5_choose_21 : decode cX5_choose 21 = .ok (.iconst 1, 1) := by decide +kernel
theorem dX5_choose_22 : decode cX5_choose 22 = .ok (.goto 4, 3) := by decide +kernel
theorem dX5_choose_25 : decode cX5_choose 25 = .ok (.iconst 0, 1) := by decide +kernel
theorem dX5_choose_26 : decode cX5_choose 26 = .ok (.istore 6, 2) := by decide +kernel
theorem dX5_choose_28 : decode cX5_choose 28 = .ok (.iload 5, 2) := by decide +kernel
theorem dX5_choose_30 : decode cX5_choose 30 = .ok (.ifCond .eq 7, 3) := by decide +kernel
theorem dX5_choose_33 : decode cX5_choose 33 = .ok (.iconst 0, 1) := by decide +kernel
theorem dX5_choose_34 : decode cX5_choose 34 = .ok (.goto 6, 3) := by decide +kernel
theorem dX5_choose_37 : decode cX5_choose 37 = .ok (.iconst 1, 1) := by decide +kernel
theorem dX5_choose_38 : decode cX5_choose 38 = .ok (.iload_n 1, 1) := by decide +kernel
theorem dX5_choose_39 : decode cX5_choose 39 = .ok (.ishl, 1) := by decide +kernel
theorem dX5_choose_40 : decode cX5_choose 40 = .ok (.iload 6, 2) := by decide +kernel
theorem dX5_choose_42 : decode cX5_choose 42 = .ok (.ifCond .eq 7, 3) := by decide +kernel
theorem dX5_choose_45 : decode cX5_choose 45 = .ok (.iconst 0, 1) := by decide +kernel
theorem dX5_choose_46 : decode cX5_choose 46 = .ok (.goto 6, 3) := by decide +kernel
theorem dX5_choose_49 : decode cX5_choose 49 = .ok (.iconst 1, 1) := by decide +kernel
theorem dX5_choose_50 : decode cX5_choose 50 = .ok (.iload_n 2, 1) := by decide +kernel
theorem dX5_choose_51 : decode cX5_choose 51 = .ok (.ishl, 1) := by decide +kernel
theorem dX5_choose_52 : decode cX5_choose 52 = .ok (.ior, 1) := by decide +kernel
theorem dX5_choose_53 : decode cX5_choose 53 = .ok (.istore 7, 2) := by decide +kernel
theorem dX5_choose_55 : decode cX5_choose 55 = .ok (.aload_n 0, 1) := by decide +kernel
theorem dX5_choose_56 : decode cX5_choose 56 = .ok (.invokevirtual 58, 3) := by decide +kernel
theorem dX5_choose_59 : decode cX5_choose 59 = .ok (.astore 8, 2) := by decide +kernel
theorem dX5_choose_61 : decode cX5_choose 61 = .ok (.aload 8, 2) := by decide +kernel
theorem dX5_choose_63 : decode cX5_choose 63 = .ok (.iconst 0, 1) := by decide +kernel
theorem dX5_choose_64 : decode cX5_choose 64 = .ok (.iload 7, 2) := by decide +kernel
theorem dX5_choose_66 : decode cX5_choose 66 = .ok (.invokevirtual 227, 3) := by decide +kernel
theorem dX5_choose_69 : decode cX5_choose 69 = .ok (.aload 8, 2) := by decide +kernel
theorem dX5_choose_71 : decode cX5_choose 71 = .ok (.iload_n 3, 1) := by decide +kernel
theorem dX5_choose_72 : decode cX5_choose 72 = .ok (.iconst 1, 1) := by decide +kernel
theorem dX5_choose_73 : decode cX5_choose 73 = .ok (.isub, 1) := by decide +kernel
theorem dX5_choose_74 : decode cX5_choose 74 = .ok (.invokevirtual 136, 3) := by decide +kernel
theorem dX5_choose_77 : decode cX5_choose 77 = .ok (.aload_n 0, 1) := by decide +kernel
theorem dX5_choose_78 : decode cX5_choose 78 = .ok (.getfield 40, 3) := by decide +kernel
theorem dX5_choose_81 : decode cX5_choose 81 = .ok (.iload 4, 2) := by decide +kernel
theorem dX5_choose_83 : decode cX5_choose 83 = .ok (.aload 8, 2) := by decide +kernel
theorem dX5_choose_85 : decode cX5_choose 85 = .ok (.getfield 95, 3) := by decide +kernel
theorem dX5_choose_88 : decode cX5_choose 88 = .ok (.iload_n 1, 1) := by decide +kernel
theorem dX5_choose_89 : decode cX5_choose 89 = .ok (.iaload, 1) := by decide +kernel
theorem dX5_choose_90 : decode cX5_choose 90 = .ok (.iload 5, 2) := by decide +kernel
theorem dX5_choose_92 : decode cX5_choose 92 = .ok (.ifCond .eq 7, 3) := by decide +kernel
theorem dX5_choose_95 : decode cX5_choose 95 = .ok (.iconst 0, 1) := by decide +kernel
theorem dX5_choose_96 : decode cX5_choose 96 = .ok (.goto 4, 3) := by decide +kernel
theorem dX5_choose_99 : decode cX5_choose 99 = .ok (.iconst 2, 1) := by decide +kernel
theorem dX5_choose_100 : decode cX5_choose 100 = .ok (.isub, 1) := by decide +kernel
theorem dX5_choose_101 : decode cX5_choose 101 = .ok (.iastore, 1) := by decide +kernel
theorem dX5_choose_102 : decode cX5_choose 102 = .ok (.aload_n 0, 1) := by decide +kernel
theorem dX5_choose_103 : decode cX5_choose 103 = .ok (.getfield 40, 3) := by decide +kernel
theorem dX5_choose_106 : decode cX5_choose 106 = .ok (.iconst 4, 1) := by decide +kernel
theorem dX5_choose_107 : decode cX5_choose 107 = .ok (.iload 4, 2) := by decide +kernel
theorem dX5_choose_109 : decode cX5_choose 109 = .ok (.iadd, 1) := by decide +kernel
theorem dX5_choose_110 : decode cX5_choose 110 = .ok (.aload 8, 2) := by decide +kernel
theorem dX5_choose_112 : decode cX5_choose 112 = .ok (.getfield 95, 3) := by decide +kernel
theorem dX5_choose_115 : decode cX5_choose 115 = .ok (.iload_n 2, 1) := by decide +kernel
theorem dX5_choose_116 : decode cX5_choose 116 = .ok (.iaload, 1) := by decide +kernel
theorem dX5_choose_117 : decode cX5_choose 117 = .ok (.iload 6, 2) := by decide +kernel
theorem dX5_choose_119 : decode cX5_choose 119 = .ok (.ifCond .eq 7, 3) := by decide +kernel
theorem dX5_choose_122 : decode cX5_choose 122 = .ok (.iconst 0, 1) := by decide +kernel
theorem dX5_choose_123 : decode cX5_choose 123 = .ok (.goto 4, 3) := by decide +kernel
theorem dX5_choose_126 : decode cX5_choose 126 = .ok (.iconst 2, 1) := by decide +kernel
theorem dX5_choose_127 : decode cX5_choose 127 = .ok (.isub, 1) := by decide +kernel
theorem dX5_choose_128 : decode cX5_choose 128 = .ok (.iastore, 1) := by decide +kernel
theorem dX5_choose_129 : decode cX5_choose 129 = .ok (.return_, 1) := by decide +kernel
theorem dX5_mares_0 : decode cX5_mares 0 = .ok (.aload_n 0, 1) := by decide +kernel
theorem dX5_mares_1 : decode cX5_mares 1 = .ok (.getfield 10, 3) := by decide +kernel
theorem dX5_mares_4 : decode cX5_mares 4 = .ok (.iload_n 1, 1) := by decide +kernel
theorem dX5_mares_5 : decode cX5_mares 5 = .ok (.invokevirtual 80, 3) := by decide +kernel
theorem dX5_mares_8 : decode cX5_mares 8 = .ok (.ifCond .eq 23, 3) := by decide +kernel
theorem dX5_mares_11 : decode cX5_mares 11 = .ok (.iload_n 2, 1) := by decide +kernel
theorem dX5_mares_12 : decode cX5_mares 12 = .ok (.iconst 0, 1) := by decide +kernel
theorem dX5_mares_13 : decode cX5_mares 13 = .ok (.bipush 7, 2) := by decide +kernel
theorem dX5_mares_15 : decode cX5_mares 15 = .ok (.invokestatic 129, 3) := by decide +kernel
theorem dX5_mares_18 : decode cX5_mares 18 = .ok (.ifCond .eq 13, 3) := by decide +kernel
theorem dX5_mares_21 : decode cX5_mares 21 = .ok (.iload_n 3, 1) := by decide +kernel
theorem dX5_mares_22 : decode cX5_mares 22 = .ok (.iconst 2, 1) := by decide +kernel
theorem dX5_mares_23 : decode cX5_mares 23 = .ok (.bipush 20, 2) := by decide +kernel
theorem dX5_mares_25 : decode cX5_mares 25 = .ok (.invokestatic 129, 3) := by decide +kernel
theorem dX5_mares_28 : decode cX5_mares 28 = .ok (.ifCond .ne 8, 3) := by decide +kernel
theorem dX5_mares_31 : decode cX5_mares 31 = .ok (.iconst (-1), 1) := by decide +kernel
theorem dX5_mares_32 : decode cX5_mares 32 = .ok (.invokestatic 231, 3) := by decide +kernel
theorem dX5_mares_35 : decode cX5_mares 35 = .ok (.lreturn, 1) := by decide +kernel
theorem dX5_mares_36 : decode cX5_mares 36 = .ok (.iload 4, 2) := by decide +kernel
theorem dX5_mares_38 : decode cX5_mares 38 = .ok (.iconst 0, 1) := by decide +kernel
theorem dX5_mares_39 : decode cX5_mares 39 = .ok (.bipush 99, 2) := by decide +kernel
theorem dX5_mares_41 : decode cX5_mares 41 = .ok (.invokestatic 129, 3) := by decide +kernel
theorem dX5_mares_44 : decode cX5_mares 44 = .ok (.ifCond .eq 13, 3) := by decide +kernel
theorem dX5_mares_47 : decode cX5_mares 47 = .ok (.iload 5, 2) := by decide +kernel
theorem dX5_mares_49 : decode cX5_mares 49 = .ok (.iconst 0, 1) := by decide +kernel
theorem dX5_mares_50 : decode cX5_mares 50 = .ok (.iconst 1, 1) := by decide +kernel
theorem dX5_mares_51 : decode cX5_mares 51 = .ok (.invokestatic 129, 3) := by decide +kernel
theorem dX5_mares_54 : decode cX5_mares 54 = .ok (.ifCond .ne 8, 3) := by decide +kernel
theorem dX5_mares_57 : decode cX5_mares 57 = .ok (.iconst (-1), 1) := by decide +kernel
theorem dX5_mares_58 : decode cX5_mares 58 = .ok (.invokestatic 231, 3) := by decide +kernel
theorem dX5_mares_61 : decode cX5_mares 61 = .ok (.lreturn, 1) := by decide +kernel
theorem dX5_mares_62 : decode cX5_mares 62 = .ok (.lconst 0, 1) := by decide +kernel
theorem dX5_mares_63 : decode cX5_mares 63 = .ok (.lstore 6, 2) := by decide +kernel
theorem dX5_mares_65 : decode cX5_mares 65 = .ok (.lconst 0, 1) := by decide +kernel
theorem dX5_mares_66 : decode cX5_mares 66 = .ok (.lstore 8, 2) := by decide +kernel
theorem dX5_mares_68 : decode cX5_mares 68 = .ok (.iconst 0, 1) := by decide +kernel
theorem dX5_mares_69 : decode cX5_mares 69 = .ok (.istore 10, 2) := by decide +kernel
theorem dX5_mares_71 : decode cX5_mares 71 = .ok (.iload 10, 2) := by decide +kernel
theorem dX5_mares_73 : decode cX5_mares 73 = .ok (.iconst 1, 1) := by decide +kernel
theorem dX5_mares_74 : decode cX5_mares 74 = .ok (.iload_n 2, 1) := by decide +kernel
theorem dX5_mares_75 : decode cX5_mares 75 = .ok (.ishl, 1) := by decide +kernel
theorem dX5_mares_76 : decode cX5_mares 76 = .ok (.if_icmp .ge 106, 3) := by decide +kernel
theorem dX5_mares_79 : decode cX5_mares 79 = .ok (.aload_n 0, 1) := by decide +kernel
theorem dX5_mares_80 : decode cX5_mares 80 = .ok (.invokevirtual 58, 3) := by decide +kernel
theorem dX5_mares_83 : decode cX5_mares 83 = .ok (.astore 11, 2) := by decide +kernel
theorem dX5_mares_85 : decode cX5_mares 85 = .ok (.lconst 1, 1) := by decide +kernel
theorem dX5_mares_86 : decode cX5_mares 86 = .ok (.lstore 12, 2) := by decide +kernel
theorem dX5_mares_88 : decode cX5_mares 88 = .ok (.iconst 0, 1) := by decide +kernel
theorem dX5_mares_89 : decode cX5_mares 89 = .ok (.istore 14, 2) := by decide +kernel
theorem dX5_mares_91 : decode cX5_mares 91 = .ok (.iload 14, 2) := by decide +kernel
theorem dX5_mares_93 : decode cX5_mares 93 = .ok (.iload_n 2, 1) := by decide +kernel
theorem dX5_mares_94 : decode cX5_mares 94 = .ok (.if_icmp .ge 52, 3) := by decide +kernel
theorem dX5_mares_97 : decode cX5_mares 97 = .ok (.iload 10, 2) := by decide +kernel
theorem dX5_mares_99 : decode cX5_mares 99 = .ok (.iload 14, 2) := by decide +kernel
theorem dX5_mares_101 : decode cX5_mares 101 = .ok (.ishr, 1) := by decide +kernel
theorem dX5_mares_102 : decode cX5_mares 102 = .ok (.iconst 1, 1) := by decide +kernel
theorem dX5_mares_103 : decode cX5_mares 103 = .ok (.iand, 1) := by decide +kernel
theorem dX5_mares_104 : decode cX5_mares 104 = .ok (.ifCond .eq 7, 3) := by decide +kernel
theorem dX5_mares_107 : decode cX5_mares 107 = .ok (.iconst 1, 1) := by decide +kernel
theorem dX5_mares_108 : decode cX5_mares 108 = .ok (.goto 4, 3) := by decide +kernel
theorem dX5_mares_111 : decode cX5_mares 111 = .ok (.iconst 0, 1) := by decide +kernel
theorem dX5_mares_112 : decode cX5_mares 112 = .ok (.istore 15, 2) := by decide +kernel
theorem dX5_mares_114 : decode cX5_mares 114 = .ok (.aload 11, 2) := by decide +kernel
theorem dX5_mares_116 : decode cX5_mares 116 = .ok (.iload 15, 2) := by decide +kernel
theorem dX5_mares_118 : decode cX5_mares 118 = .ok (.iconst 0, 1) := by decide +kernel
theorem dX5_mares_119 : decode cX5_mares 119 = .ok (.invokevirtual 227, 3) := by decide +kernel
theorem dX5_mares_122 : decode cX5_mares 122 = .ok (.lload 12, 2) := by decide +kernel
theorem dX5_mares_124 : decode cX5_mares 124 = .ok (.iload 15, 2) := by decide +kernel
theorem dX5_mares_126 : decode cX5_mares 126 = .ok (.ifCond .eq 7, 3) := by decide +kernel
theorem dX5_mares_129 : decode cX5_mares 129 = .ok (.lconst 1, 1) := by decide +kernel
theorem dX5_mares_130 : decode cX5_mares 130 = .ok (.goto 7, 3) := by decide +kernel
theorem dX5_mares_133 : decode cX5_mares 133 = .ok (.iload_n 3, 1) := by decide +kernel
theorem dX5_mares_134 : decode cX5_mares 134 = .ok (.iconst 1, 1) := by decide +kernel
theorem dX5_mares_135 : decode cX5_mares 135 = .ok (.isub, 1) := by decide +kernel
theorem dX5_mares_136 : decode cX5_mares 136 = .ok (.i2l, 1) := by decide +kernel
theorem dX5_mares_137 : decode cX5_mares 137 = .ok (.lmul, 1) := by decide +kernel
theorem dX5_mares_138 : decode cX5_mares 138 = .ok (.lstore 12, 2) := by decide +kernel
theorem dX5_mares_140 : decode cX5_mares 140 = .ok (.iinc 14 1, 3) := by decide +kernel
theorem dX5_mares_143 : decode cX5_mares 143 = .ok (.goto (-52), 3) := by decide +kernel
theorem dX5_mares_146 : decode cX5_mares 146 = .ok (.lload 8, 2) := by decide +kernel
theorem dX5_mares_148 : decode cX5_mares 148 = .ok (.lload 12, 2) := by decide +kernel
theorem dX5_mares_150 : decode cX5_mares 150 = .ok (.ladd, 1) := by decide +kernel
theorem dX5_mares_151 : decode cX5_mares 151 = .ok (.lstore 8, 2) := by decide +kernel
theorem dX5_mares_153 : decode cX5_mares 153 = .ok (.lload 6, 2) := by decide +kernel
theorem dX5_mares_155 : decode cX5_mares 155 = .ok (.aload 11, 2) := by decide +kernel
theorem dX5_mares_157 : decode cX5_mares 157 = .ok (.getfield 95, 3) := by decide +kernel
theorem dX5_mares_160 : decode cX5_mares 160 = .ok (.iload_n 1, 1) := by decide +kernel
theorem dX5_mares_161 : decode cX5_mares 161 = .ok (.iaload, 1) := by decide +kernel
theorem dX5_mares_162 : decode cX5_mares 162 = .ok (.iload 4, 2) := by decide +kernel
theorem dX5_mares_164 : decode cX5_mares 164 = .ok (.if_icmp .lt 8, 3) := by decide +kernel
theorem dX5_mares_167 : decode cX5_mares 167 = .ok (.lload 12, 2) := by decide +kernel
theorem dX5_mares_169 : decode cX5_mares 169 = .ok (.goto 4, 3) := by decide +kernel
theorem dX5_mares_172 : decode cX5_mares 172 = .ok (.lconst 0, 1) := by decide +kernel
theorem dX5_mares_173 : decode cX5_mares 173 = .ok (.ladd, 1) := by decide +kernel
theorem dX5_mares_174 : decode cX5_mares 174 = .ok (.lstore 6, 2) := by decide +kernel
theorem dX5_mares_176 : decode cX5_mares 176 = .ok (.iinc 10 1, 3) := by decide +kernel
theorem dX5_mares_179 : decode cX5_mares 179 = .ok (.goto (-108), 3) := by decide +kernel
theorem dX5_mares_182 : decode cX5_mares 182 = .ok (.lload 6, 2) := by decide +kernel
theorem dX5_mares_184 : decode cX5_mares 184 = .ok (.lload 8, 2) := by decide +kernel
theorem dX5_mares_186 : decode cX5_mares 186 = .ok (.iload 5, 2) := by decide +kernel
theorem dX5_mares_188 : decode cX5_mares 188 = .ok (.invokestatic 235, 3) := by decide +kernel
theorem dX5_mares_191 : decode cX5_mares 191 = .ok (.lreturn, 1) := by decide +kernel
theorem dX5_mean_0 : decode cX5_mean 0 = .ok (.iload_n 1, 1) := by decide +kernel
theorem dX5_mean_1 : decode cX5_mean 1 = .ok (.iconst 0, 1) := by decide +kernel
theorem dX5_mean_2 : decode cX5_mean 2 = .ok (.iconst 1, 1) := by decide +kernel
theorem dX5_mean_3 : decode cX5_mean 3 = .ok (.invokestatic 129, 3) := by decide +kernel
theorem dX5_mean_6 : decode cX5_mean 6 = .ok (.ifCond .ne 8, 3) := by decide +kernel
theorem dX5_mean_9 : decode cX5_mean 9 = .ok (.iconst (-1), 1) := by decide +kernel
theorem dX5_mean_10 : decode cX5_mean 10 = .ok (.invokestatic 231, 3) := by decide +kernel
theorem dX5_mean_13 : decode cX5_mean 13 = .ok (.lreturn, 1) := by decide +kernel
theorem dX5_mean_14 : decode cX5_mean 14 = .ok (.aload_n 0, 1) := by decide +kernel
theorem dX5_mean_15 : decode cX5_mean 15 = .ok (.getfield 10, 3) := by decide +kernel
theorem dX5_mean_18 : decode cX5_mean 18 = .ok (.aload_n 0, 1) := by decide +kernel
theorem dX5_mean_19 : decode cX5_mean 19 = .ok (.getfield 10, 3) := by decide +kernel
theorem dX5_mean_22 : decode cX5_mean 22 = .ok (.getfield 140, 3) := by decide +kernel
theorem dX5_mean_25 : decode cX5_mean 25 = .ok (.invokevirtual 186, 3) := by decide +kernel
theorem dX5_mean_28 : decode cX5_mean 28 = .ok (.i2l, 1) := by decide +kernel
theorem dX5_mean_29 : decode cX5_mean 29 = .ok (.aload_n 0, 1) := by decide +kernel
theorem dX5_mean_30 : decode cX5_mean 30 = .ok (.getfield 10, 3) := by decide +kernel
theorem dX5_mean_33 : decode cX5_mean 33 = .ok (.getfield 140, 3) := by decide +kernel
theorem dX5_mean_36 : decode cX5_mean 36 = .ok (.invokestatic 143, 3) := by decide +kernel
theorem dX5_mean_39 : decode cX5_mean 39 = .ok (.i2l, 1) := by decide +kernel
theorem dX5_mean_40 : decode cX5_mean 40 = .ok (.iload_n 1, 1) := by decide +kernel
theorem dX5_mean_41 : decode cX5_mean 41 = .ok (.invokestatic 235, 3) := by decide +kernel
theorem dX5_mean_44 : decode cX5_mean 44 = .ok (.lreturn, 1) := by decide +kernel
theorem dX5_forged_0 : decode cX5_forged 0 = .ok (.aload_n 0, 1) := by decide +kernel
theorem dX5_forged_1 : decode cX5_forged 1 = .ok (.iload_n 1, 1) := by decide +kernel
theorem dX5_forged_2 : decode cX5_forged 2 = .ok (.invokevirtual 44, 3) := by decide +kernel
theorem dX5_forged_5 : decode cX5_forged 5 = .ok (.istore_n 2, 1) := by decide +kernel
theorem dX5_forged_6 : decode cX5_forged 6 = .ok (.iload_n 2, 1) := by decide +kernel
theorem dX5_forged_7 : decode cX5_forged 7 = .ok (.ifCond .eq 5, 3) := by decide +kernel
theorem dX5_forged_10 : decode cX5_forged 10 = .ok (.iload_n 2, 1) := by decide +kernel
theorem dX5_forged_11 : decode cX5_forged 11 = .ok (.ireturn, 1) := by decide +kernel
theorem dX5_forged_12 : decode cX5_forged 12 = .ok (.aload_n 0, 1) := by decide +kernel
theorem dX5_forged_13 : decode cX5_forged 13 = .ok (.getfield 28, 3) := by decide +kernel
theorem dX5_forged_16 : decode cX5_forged 16 = .ok (.iload_n 1, 1) := by decide +kernel
theorem dX5_forged_17 : decode cX5_forged 17 = .ok (.aaload, 1) := by decide +kernel
theorem dX5_forged_18 : decode cX5_forged 18 = .ok (.astore_n 3, 1) := by decide +kernel
theorem dX5_forged_19 : decode cX5_forged 19 = .ok (.iconst 0, 1) := by decide +kernel
