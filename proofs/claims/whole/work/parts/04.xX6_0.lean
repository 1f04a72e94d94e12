theorem xX6_init_0 : xdec cX6_init 0 = some (.aload_n 0, 1, 0, 0) := by decide +kernel
theorem xX6_init_1 : xdec cX6_init 1 = some (.invokespecial 1, 4, 0, 0) := by decide +kernel
theorem xX6_init_4 : xdec cX6_init 4 = some (.aload_n 0, 5, 0, 0) := by decide +kernel
theorem xX6_init_5 : xdec cX6_init 5 = some (.bipush 10, 7, 0, 10) := by decide +kernel
theorem xX6_init_7 : xdec cX6_init 7 = some (.newarray .int, 9, 0, 0) := by decide +kernel
theorem xX6_init_9 : xdec cX6_init 9 = some (.putfield 7, 12, 7, 0) := by decide +kernel
theorem xX6_init_12 : xdec cX6_init 12 = some (.aload_n 0, 13, 0, 0) := by decide +kernel
theorem xX6_init_13 : xdec cX6_init 13 = some (.bipush 7, 15, 0, 7) := by decide +kernel
theorem xX6_init_15 : xdec cX6_init 15 = some (.newarray .int, 17, 0, 0) := by decide +kernel
theorem xX6_init_17 : xdec cX6_init 17 = some (.putfield 13, 20, 13, 0) := by decide +kernel
theorem xX6_init_20 : xdec cX6_init 20 = some (.aload_n 0, 21, 0, 0) := by decide +kernel
theorem xX6_init_21 : xdec cX6_init 21 = some (.bipush 7, 23, 0, 7) := by decide +kernel
theorem xX6_init_23 : xdec cX6_init 23 = some (.newarray .int, 25, 0, 0) := by decide +kernel
theorem xX6_init_25 : xdec cX6_init 25 = some (.putfield 16, 28, 16, 0) := by decide +kernel
theorem xX6_init_28 : xdec cX6_init 28 = some (.aload_n 0, 29, 0, 0) := by decide +kernel
theorem xX6_init_29 : xdec cX6_init 29 = some (.bipush 7, 31, 0, 7) := by decide +kernel
theorem xX6_init_31 : xdec cX6_init 31 = some (.newarray .int, 33, 0, 0) := by decide +kernel
theorem xX6_init_33 : xdec cX6_init 33 = some (.putfield 19, 36, 19, 0) := by decide +kernel
theorem xX6_init_36 : xdec cX6_init 36 = some (.aload_n 0, 37, 0, 0) := by decide +kernel
theorem xX6_init_37 : xdec cX6_init 37 = some (.bipush 7, 39, 0, 7) := by decide +kernel
theorem xX6_init_39 : xdec cX6_init 39 = some (.newarray .int, 41, 0, 0) := by decide +kernel
theorem xX6_init_41 : xdec cX6_init 41 = some (.putfield 22, 44, 22, 0) := by decide +kernel
theorem xX6_init_44 : xdec cX6_init 44 = some (.aload_n 0, 45, 0, 0) := by decide +kernel
theorem xX6_init_45 : xdec cX6_init 45 = some (.bipush 7, 47, 0, 7) := by decide +kernel
theorem xX6_init_47 : xdec cX6_init 47 = some (.newarray .int, 49, 0, 0) := by decide +kernel
theorem xX6_init_49 : xdec cX6_init 49 = some (.putfield 25, 52, 25, 0) := by decide +kernel
theorem xX6_init_52 : xdec cX6_init 52 = some (.aload_n 0, 53, 0, 0) := by decide +kernel
theorem xX6_init_53 : xdec cX6_init 53 = some (.bipush 8, 55, 0, 8) := by decide +kernel
theorem xX6_init_55 : xdec cX6_init 55 = some (.newarray .int, 57, 0, 0) := by decide +kernel
theorem xX6_init_57 : xdec cX6_init 57 = some (.putfield 28, 60, 28, 0) := by decide +kernel
theorem xX6_init_60 : xdec cX6_init 60 = some (.aload_n 0, 61, 0, 0) := by decide +kernel
theorem xX6_init_61 : xdec cX6_init 61 = some (.bipush 8, 63, 0, 8) := by decide +kernel
theorem xX6_init_63 : xdec cX6_init 63 = some (.newarray .int, 65, 0, 0) := by decide +kernel
theorem xX6_init_65 : xdec cX6_init 65 = some (.putfield 31, 68, 31, 0) := by decide +kernel
theorem xX6_init_68 : xdec cX6_init 68 = some (.aload_n 0, 69, 0, 0) := by decide +kernel
theorem xX6_init_69 : xdec cX6_init 69 = some (.bipush 8, 71, 0, 8) := by decide +kernel
theorem xX6_init_71 : xdec cX6_init 71 = some (.newarray .int, 73, 0, 0) := by decide +kernel
theorem xX6_init_73 : xdec cX6_init 73 = some (.putfield 34, 76, 34, 0) := by decide +kernel
theorem xX6_init_76 : xdec cX6_init 76 = some (.aload_n 0, 77, 0, 0) := by decide +kernel
theorem xX6_init_77 : xdec cX6_init 77 = some (.bipush 8, 79, 0, 8) := by decide +kernel
theorem xX6_init_79 : xdec cX6_init 79 = some (.newarray .int, 81, 0, 0) := by decide +kernel
theorem xX6_init_81 : xdec cX6_init 81 = some (.putfield 37, 84, 37, 0) := by decide +kernel
theorem xX6_init_84 : xdec cX6_init 84 = some (.aload_n 0, 85, 0, 0) := by decide +kernel
theorem xX6_init_85 : xdec cX6_init 85 = some (.bipush 8, 87, 0, 8) := by decide +kernel
theorem xX6_init_87 : xdec cX6_init 87 = some (.newarray .int, 89, 0, 0) := by decide +kernel
theorem xX6_init_89 : xdec cX6_init 89 = some (.putfield 40, 92, 40, 0) := by decide +kernel
theorem xX6_init_92 : xdec cX6_init 92 = some (.aload_n 0, 93, 0, 0) := by decide +kernel
theorem xX6_init_93 : xdec cX6_init 93 = some (.sipush 800, 96, 0, 800) := by decide +kernel
theorem xX6_init_96 : xdec cX6_init 96 = some (.newarray .long, 98, 0, 0) := by decide +kernel
theorem xX6_init_98 : xdec cX6_init 98 = some (.putfield 43, 101, 43, 0) := by decide +kernel
theorem xX6_init_101 : xdec cX6_init 101 = some (.aload_n 0, 102, 0, 0) := by decide +kernel
theorem xX6_init_102 : xdec cX6_init 102 = some (.bipush 51, 104, 0, 51) := by decide +kernel
theorem xX6_init_104 : xdec cX6_init 104 = some (.newarray .int, 106, 0, 0) := by decide +kernel
theorem xX6_init_106 : xdec cX6_init 106 = some (.putfield 47, 109, 47, 0) := by decide +kernel
theorem xX6_init_109 : xdec cX6_init 109 = some (.aload_n 0, 110, 0, 0) := by decide +kernel
theorem xX6_init_110 : xdec cX6_init 110 = some (.bipush 51, 112, 0, 51) := by decide +kernel
theorem xX6_init_112 : xdec cX6_init 112 = some (.newarray .int, 114, 0, 0) := by decide +kernel
theorem xX6_init_114 : xdec cX6_init 114 = some (.putfield 50, 117, 50, 0) := by decide +kernel
theorem xX6_init_117 : xdec cX6_init 117 = some (.aload_n 0, 118, 0, 0) := by decide +kernel
theorem xX6_init_118 : xdec cX6_init 118 = some (.sipush 153, 121, 0, 153) := by decide +kernel
theorem xX6_init_121 : xdec cX6_init 121 = some (.newarray .int, 123, 0, 0) := by decide +kernel
theorem xX6_init_123 : xdec cX6_init 123 = some (.putfield 53, 126, 53, 0) := by decide +kernel
theorem xX6_init_126 : xdec cX6_init 126 = some (.aload_n 0, 127, 0, 0) := by decide +kernel
theorem xX6_init_127 : xdec cX6_init 127 = some (.bipush 50, 129, 0, 50) := by decide +kernel
theorem xX6_init_129 : xdec cX6_init 129 = some (.newarray .int, 131, 0, 0) := by decide +kernel
theorem xX6_init_131 : xdec cX6_init 131 = some (.putfield 56, 134, 56, 0) := by decide +kernel
theorem xX6_init_134 : xdec cX6_init 134 = some (.aload_n 0, 135, 0, 0) := by decide +kernel
theorem xX6_init_135 : xdec cX6_init 135 = some (.bipush 50, 137, 0, 50) := by decide +kernel
theorem xX6_init_137 : xdec cX6_init 137 = some (.newarray .int, 139, 0, 0) := by decide +kernel
theorem xX6_init_139 : xdec cX6_init 139 = some (.putfield 59, 142, 59, 0) := by decide +kernel
theorem xX6_init_142 : xdec cX6_init 142 = some (.aload_n 0, 143, 0, 0) := by decide +kernel
theorem xX6_init_143 : xdec cX6_init 143 = some (.bipush 7, 145, 0, 7) := by decide +kernel
theorem xX6_init_145 : xdec cX6_init 145 = some (.newarray .int, 147, 0, 0) := by decide +kernel
theorem xX6_init_147 : xdec cX6_init 147 = some (.putfield 62, 150, 62, 0) := by decide +kernel
theorem xX6_init_150 : xdec cX6_init 150 = some (.aload_n 0, 151, 0, 0) := by decide +kernel
theorem xX6_init_151 : xdec cX6_init 151 = some (.sipush 1024, 154, 0, 1024) := by decide +kernel
theorem xX6_init_154 : xdec cX6_init 154 = some (.newarray .boolean, 156, 0, 0) := by decide +kernel
theorem xX6_init_156 : xdec cX6_init 156 = some (.putfield 65, 159, 65, 0) := by decide +kernel
theorem xX6_init_159 : xdec cX6_init 159 = some (.aload_n 0, 160, 0, 0) := by decide +kernel
theorem xX6_init_160 : xdec cX6_init 160 = some (.bipush 8, 162, 0, 8) := by decide +kernel
theorem xX6_init_162 : xdec cX6_init 162 = some (.newarray .int, 164, 0, 0) := by decide +kernel
theorem xX6_init_164 : xdec cX6_init 164 = some (.putfield 69, 167, 69, 0) := by decide +kernel
theorem xX6_init_167 : xdec cX6_init 167 = some (.aload_n 0, 168, 0, 0) := by decide +kernel
theorem xX6_init_168 : xdec cX6_init 168 = some (.bipush 100, 170, 0, 100) := by decide +kernel
theorem xX6_init_170 : xdec cX6_init 170 = some (.newarray .long, 172, 0, 0) := by decide +kernel
theorem xX6_init_172 : xdec cX6_init 172 = some (.putfield 72, 175, 72, 0) := by decide +kernel
theorem xX6_init_175 : xdec cX6_init 175 = some (.aload_n 0, 176, 0, 0) := by decide +kernel
theorem xX6_init_176 : xdec cX6_init 176 = some (.iconst 0, 177, 0, 0) := by decide +kernel
theorem xX6_init_177 : xdec cX6_init 177 = some (.putfield 75, 180, 75, 0) := by decide +kernel
theorem xX6_init_180 : xdec cX6_init 180 = some (.iconst 0, 181, 0, 0) := by decide +kernel
theorem xX6_init_181 : xdec cX6_init 181 = some (.istore_n 1, 182, 1, 0) := by decide +kernel
theorem xX6_init_182 : xdec cX6_init 182 = some (.iload_n 1, 183, 1, 0) := by decide +kernel
theorem xX6_init_183 : xdec cX6_init 183 = some (.bipush 10, 185, 0, 10) := by decide +kernel
theorem xX6_init_185 : xdec cX6_init 185 = some (.if_icmp .ge 16, 188, 201, 0) := by decide +kernel
theorem xX6_init_188 : xdec cX6_init 188 = some (.aload_n 0, 189, 0, 0) := by decide +kernel
theorem xX6_init_189 : xdec cX6_init 189 = some (.getfield 7, 192, 7, 0) := by decide +kernel
theorem xX6_init_192 : xdec cX6_init 192 = some (.iload_n 1, 193, 1, 0) := by decide +kernel
theorem xX6_init_193 : xdec cX6_init 193 = some (.iconst 5, 194, 0, 5) := by decide +kernel
theorem xX6_init_194 : xdec cX6_init 194 = some (.iastore, 195, 0, 0) := by decide +kernel
theorem xX6_init_195 : xdec cX6_init 195 = some (.iinc 1 1, 198, 1, 1) := by decide +kernel
theorem xX6_init_198 : xdec cX6_init 198 = some (.goto (-16), 201, 182, 0) := by decide +kernel
theorem xX6_init_201 : xdec cX6_init 201 = some (.return_, 202, 0, 0) := by decide +kernel
theorem xX6_thrown_0 : xdec cX6_thrown 0 = some (.aload_n 0, 1, 0, 0) := by decide +kernel
theorem xX6_thrown_1 : xdec cX6_thrown 1 = some (.getfield 75, 4, 75, 0) := by decide +kernel
theorem xX6_thrown_4 : xdec cX6_thrown 4 = some (.ireturn, 5, 0, 0) := by decide +kernel
theorem xX6_in_0 : xdec cX6_in 0 = some (.lload_n 0, 1, 0, 0) := by decide +kernel
theorem xX6_in_1 : xdec cX6_in 1 = some (.lload_n 2, 2, 2, 0) := by decide +kernel
theorem xX6_in_2 : xdec cX6_in 2 = some (.lcmp, 3, 0, 0) := by decide +kernel
theorem xX6_in_3 : xdec cX6_in 3 = some (.ifCond .lt 14, 6, 17, 0) := by decide +kernel
theorem xX6_in_6 : xdec cX6_in 6 = some (.lload_n 0, 7, 0, 0) := by decide +kernel
theorem xX6_in_7 : xdec cX6_in 7 = some (.lload 4, 9, 4, 0) := by decide +kernel
theorem xX6_in_9 : xdec cX6_in 9 = some (.lcmp, 10, 0, 0) := by decide +kernel
theorem xX6_in_10 : xdec cX6_in 10 = some (.ifCond .gt 7, 13, 17, 0) := by decide +kernel
theorem xX6_in_13 : xdec cX6_in 13 = some (.iconst 1, 14, 0, 1) := by decide +kernel
theorem xX6_in_14 : xdec cX6_in 14 = some (.goto 4, 17, 18, 0) := by decide +kernel
theorem xX6_in_17 : xdec cX6_in 17 = some (.iconst 0, 18, 0, 0) := by decide +kernel
theorem xX6_in_18 : xdec cX6_in 18 = some (.ireturn, 19, 0, 0) := by decide +kernel
theorem xX6_hasBit_0 : xdec cX6_hasBit 0 = some (.iload_n 0, 1, 0, 0) := by decide +kernel
theorem xX6_hasBit_1 : xdec cX6_hasBit 1 = some (.iload_n 1, 2, 1, 0) := by decide +kernel
theorem xX6_hasBit_2 : xdec cX6_hasBit 2 = some (.ishr, 3, 0, 0) := by decide +kernel
theorem xX6_hasBit_3 : xdec cX6_hasBit 3 = some (.iconst 1, 4, 0, 1) := by decide +kernel
theorem xX6_hasBit_4 : xdec cX6_hasBit 4 = some (.iand, 5, 0, 0) := by decide +kernel
theorem xX6_hasBit_5 : xdec cX6_hasBit 5 = some (.iconst 1, 6, 0, 1) := by decide +kernel
theorem xX6_hasBit_6 : xdec cX6_hasBit 6 = some (.if_icmp .ne 7, 9, 13, 0) := by decide +kernel
theorem xX6_hasBit_9 : xdec cX6_hasBit 9 = some (.iconst 1, 10, 0, 1) := by decide +kernel
theorem xX6_hasBit_10 : xdec cX6_hasBit 10 = some (.goto 4, 13, 14, 0) := by decide +kernel
theorem xX6_hasBit_13 : xdec cX6_hasBit 13 = some (.iconst 0, 14, 0, 0) := by decide +kernel
theorem xX6_hasBit_14 : xdec cX6_hasBit 14 = some (.ireturn, 15, 0, 0) := by decide +kernel
theorem xX6_onesOf_0 : xdec cX6_onesOf 0 = some (.iconst 0, 1, 0, 0) := by decide +kernel
theorem xX6_onesOf_1 : xdec cX6_onesOf 1 = some (.istore_n 1, 2, 1, 0) := by decide +kernel
theorem xX6_onesOf_2 : xdec cX6_onesOf 2 = some (.iload_n 0, 3, 0, 0) := by decide +kernel
theorem xX6_onesOf_3 : xdec cX6_onesOf 3 = some (.istore_n 2, 4, 2, 0) := by decide +kernel
theorem xX6_onesOf_4 : xdec cX6_onesOf 4 = some (.iload_n 2, 5, 2, 0) := by decide +kernel
theorem xX6_onesOf_5 : xdec cX6_onesOf 5 = some (.ifCond .eq 15, 8, 20, 0) := by decide +kernel
theorem xX6_onesOf_8 : xdec cX6_onesOf 8 = some (.iinc 1 1, 11, 1, 1) := by decide +kernel
theorem xX6_onesOf_11 : xdec cX6_onesOf 11 = some (.iload_n 2, 12, 2, 0) := by decide +kernel
theorem xX6_onesOf_12 : xdec cX6_onesOf 12 = some (.iload_n 2, 13, 2, 0) := by decide +kernel
theorem xX6_onesOf_13 : xdec cX6_onesOf 13 = some (.iconst 1, 14, 0, 1) := by decide +kernel
theorem xX6_onesOf_14 : xdec cX6_onesOf 14 = some (.isub, 15, 0, 0) := by decide +kernel
theorem xX6_onesOf_15 : xdec cX6_onesOf 15 = some (.iand, 16, 0, 0) := by decide +kernel
theorem xX6_onesOf_16 : xdec cX6_onesOf 16 = some (.istore_n 2, 17, 2, 0) := by decide +kernel
theorem xX6_onesOf_17 : xdec cX6_onesOf 17 = some (.goto (-13), 20, 4, 0) := by decide +kernel
theorem xX6_onesOf_20 : xdec cX6_onesOf 20 = some (.iload_n 1, 21, 1, 0) := by decide +kernel
theorem xX6_onesOf_21 : xdec cX6_onesOf 21 = some (.ireturn, 22, 0, 0) := by decide +kernel
theorem xX6_held_0 : xdec cX6_held 0 = some (.iload_n 0, 1, 0, 0) := by decide +kernel
theorem xX6_held_1 : xdec cX6_held 1 = some (.ifCond .ge 7, 4, 8, 0) := by decide +kernel
theorem xX6_held_4 : xdec cX6_held 4 = some (.iconst 0, 5, 0, 0) := by decide +kernel
theorem xX6_held_5 : xdec cX6_held 5 = some (.goto 13, 8, 18, 0) := by decide +kernel
theorem xX6_held_8 : xdec cX6_held 8 = some (.iload_n 0, 9, 0, 0) := by decide +kernel
theorem xX6_held_9 : xdec cX6_held 9 = some (.iload_n 1, 10, 1, 0) := by decide +kernel
theorem xX6_held_10 : xdec cX6_held 10 = some (.if_icmp .le 7, 13, 17, 0) := by decide +kernel
theorem xX6_held_13 : xdec cX6_held 13 = some (.iload_n 1, 14, 1, 0) := by decide +kernel
theorem xX6_held_14 : xdec cX6_held 14 = some (.goto 4, 17, 18, 0) := by decide +kernel
theorem xX6_held_17 : xdec cX6_held 17 = some (.iload_n 0, 18, 0, 0) := by decide +kernel
theorem xX6_held_18 : xdec cX6_held 18 = some (.ireturn, 19, 0, 0) := by decide +kernel
theorem xX6_isPlate_0 : xdec cX6_isPlate 0 = some (.iload_n 0, 1, 0, 0) := by decide +kernel
theorem xX6_isPlate_1 : xdec cX6_isPlate 1 = some (.i2l, 2, 0, 0) := by decide +kernel
theorem xX6_isPlate_2 : xdec cX6_isPlate 2 = some (.lconst 0, 3, 0, 0) := by decide +kernel
theorem xX6_isPlate_3 : xdec cX6_isPlate 3 = some (.ldc2_w 79, 6, 79, 0) := by decide +kernel
theorem xX6_isPlate_6 : xdec cX6_isPlate 6 = some (.invokestatic 81, 9, 0, 0) := by decide +kernel
theorem xX6_isPlate_9 : xdec cX6_isPlate 9 = some (.ireturn, 10, 0, 0) := by decide +kernel
theorem xX6_isOne_0 : xdec cX6_isOne 0 = some (.iload_n 1, 1, 1, 0) := by decide +kernel
theorem xX6_isOne_1 : xdec cX6_isOne 1 = some (.i2l, 2, 0, 0) := by decide +kernel
theorem xX6_isOne_2 : xdec cX6_isOne 2 = some (.lconst 0, 3, 0, 0) := by decide +kernel
theorem xX6_isOne_3 : xdec cX6_isOne 3 = some (.aload_n 0, 4, 0, 0) := by decide +kernel
theorem xX6_isOne_4 : xdec cX6_isOne 4 = some (.getfield 85, 7, 85, 0) := by decide +kernel
theorem xX6_isOne_7 : xdec cX6_isOne 7 = some (.iconst 1, 8, 0, 1) := by decide +kernel
theorem xX6_isOne_8 : xdec cX6_isOne 8 = some (.isub, 9, 0, 0) := by decide +kernel
theorem xX6_isOne_9 : xdec cX6_isOne 9 = some (.i2l, 10, 0, 0) := by decide +kernel
theorem xX6_isOne_10 : xdec cX6_isOne 10 = some (.invokestatic 81, 13, 0, 0) := by decide +kernel
theorem xX6_isOne_13 : xdec cX6_isOne 13 = some (.ireturn, 14, 0, 0) := by decide +kernel
theorem xX6_dreamsOf_0 : xdec cX6_dreamsOf 0 = some (.aload_n 0, 1, 0, 0) := by decide +kernel
theorem xX6_dreamsOf_1 : xdec cX6_dreamsOf 1 = some (.getfield 16, 4, 16, 0) := by decide +kernel
theorem xX6_dreamsOf_4 : xdec cX6_dreamsOf 4 = some (.iload_n 1, 5, 1, 0) := by decide +kernel
theorem xX6_dreamsOf_5 : xdec cX6_dreamsOf 5 = some (.iaload, 6, 0, 0) := by decide +kernel
theorem xX6_dreamsOf_6 : xdec cX6_dreamsOf 6 = some (.istore_n 3, 7, 3, 0) := by decide +kernel
theorem xX6_dreamsOf_7 : xdec cX6_dreamsOf 7 = some (.iload_n 2, 8, 2, 0) := by decide +kernel
theorem xX6_dreamsOf_8 : xdec cX6_dreamsOf 8 = some (.iload_n 3, 9, 3, 0) := by decide +kernel
theorem xX6_dreamsOf_9 : xdec cX6_dreamsOf 9 = some (.iconst 2, 10, 0, 2) := by decide +kernel
theorem xX6_dreamsOf_10 : xdec cX6_dreamsOf 10 = some (.iadd, 11, 0, 0) := by decide +kernel
theorem xX6_dreamsOf_11 : xdec cX6_dreamsOf 11 = some (.irem, 12, 0, 0) := by decide +kernel
theorem xX6_dreamsOf_12 : xdec cX6_dreamsOf 12 = some (.ifCond .ne 12, 15, 24, 0) := by decide +kernel
theorem xX6_dreamsOf_15 : xdec cX6_dreamsOf 15 = some (.aload_n 0, 16, 0, 0) := by decide +kernel
theorem xX6_dreamsOf_16 : xdec cX6_dreamsOf 16 = some (.getfield 19, 19, 19, 0) := by decide +kernel
theorem xX6_dreamsOf_19 : xdec cX6_dreamsOf 19 = some (.iload_n 1, 20, 1, 0) := by decide +kernel
theorem xX6_dreamsOf_20 : xdec cX6_dreamsOf 20 = some (.iaload, 21, 0, 0) := by decide +kernel
theorem xX6_dreamsOf_21 : xdec cX6_dreamsOf 21 = some (.goto 5, 24, 26, 0) := by decide +kernel
theorem xX6_dreamsOf_24 : xdec cX6_dreamsOf 24 = some (.bipush (-4), 26, 0, (-4)) := by decide +kernel
theorem xX6_dreamsOf_26 : xdec cX6_dreamsOf 26 = some (.istore 4, 28, 4, 0) := by decide +kernel
theorem xX6_dreamsOf_28 : xdec cX6_dreamsOf 28 = some (.aload_n 0, 29, 0, 0) := by decide +kernel
theorem xX6_dreamsOf_29 : xdec cX6_dreamsOf 29 = some (.getfield 13, 32, 13, 0) := by decide +kernel
theorem xX6_dreamsOf_32 : xdec cX6_dreamsOf 32 = some (.iload_n 1, 33, 1, 0) := by decide +kernel
theorem xX6_dreamsOf_33 : xdec cX6_dreamsOf 33 = some (.iaload, 34, 0, 0) := by decide +kernel
theorem xX6_dreamsOf_34 : xdec cX6_dreamsOf 34 = some (.tableswitch 96 1 7 #[42, 44, 56, 59, 61, 75, 78], 76, 0, 0) := by decide +kernel
theorem xX6_dreamsOf_76 : xdec cX6_dreamsOf 76 = some (.iconst 1, 77, 0, 1) := by decide +kernel
theorem xX6_dreamsOf_77 : xdec cX6_dreamsOf 77 = some (.ireturn, 78, 0, 0) := by decide +kernel
theorem xX6_dreamsOf_78 : xdec cX6_dreamsOf 78 = some (.aload_n 0, 79, 0, 0) := by decide +kernel
theorem xX6_dreamsOf_79 : xdec cX6_dreamsOf 79 = some (.getfield 19, 82, 19, 0) := by decide +kernel
theorem xX6_dreamsOf_82 : xdec cX6_dreamsOf 82 = some (.iload_n 1, 83, 1, 0) := by decide +kernel
theorem xX6_dreamsOf_83 : xdec cX6_dreamsOf 83 = some (.iaload, 84, 0, 0) := by decide +kernel
theorem xX6_dreamsOf_84 : xdec cX6_dreamsOf 84 = some (.iload_n 2, 85, 2, 0) := by decide +kernel
theorem xX6_dreamsOf_85 : xdec cX6_dreamsOf 85 = some (.iadd, 86, 0, 0) := by decide +kernel
theorem xX6_dreamsOf_86 : xdec cX6_dreamsOf 86 = some (.bipush 10, 88, 0, 10) := by decide +kernel
theorem xX6_dreamsOf_88 : xdec cX6_dreamsOf 88 = some (.irem, 89, 0, 0) := by decide +kernel
theorem xX6_dreamsOf_89 : xdec cX6_dreamsOf 89 = some (.ireturn, 90, 0, 0) := by decide +kernel
theorem xX6_dreamsOf_90 : xdec cX6_dreamsOf 90 = some (.iload 4, 92, 4, 0) := by decide +kernel
theorem xX6_dreamsOf_92 : xdec cX6_dreamsOf 92 = some (.ireturn, 93, 0, 0) := by decide +kernel
theorem xX6_dreamsOf_93 : xdec cX6_dreamsOf 93 = some (.iconst 0, 94, 0, 0) := by decide +kernel
theorem xX6_dreamsOf_94 : xdec cX6_dreamsOf 94 = some (.ireturn, 95, 0, 0) := by decide +kernel
theorem xX6_dreamsOf_95 : xdec cX6_dreamsOf 95 = some (.aload_n 0, 96, 0, 0) := by decide +kernel
theorem xX6_dreamsOf_96 : xdec cX6_dreamsOf 96 = some (.getfield 22, 99, 22, 0) := by decide +kernel
theorem xX6_dreamsOf_99 : xdec cX6_dreamsOf 99 = some (.iload_n 1, 100, 1, 0) := by decide +kernel
theorem xX6_dreamsOf_100 : xdec cX6_dreamsOf 100 = some (.iaload, 101, 0, 0) := by decide +kernel
theorem xX6_dreamsOf_101 : xdec cX6_dreamsOf 101 = some (.iconst 1, 102, 0, 1) := by decide +kernel
theorem xX6_dreamsOf_102 : xdec cX6_dreamsOf 102 = some (.iadd, 103, 0, 0) := by decide +kernel
theorem xX6_dreamsOf_103 : xdec cX6_dreamsOf 103 = some (.iload_n 3, 104, 3, 0) := by decide +kernel
theorem xX6_dreamsOf_104 : xdec cX6_dreamsOf 104 = some (.iadd, 105, 0, 0) := by decide +kernel
theorem xX6_dreamsOf_105 : xdec cX6_dreamsOf 105 = some (.bipush 10, 107, 0, 10) := by decide +kernel
theorem xX6_dreamsOf_107 : xdec cX6_dreamsOf 107 = some (.irem, 108, 0, 0) := by decide +kernel
theorem xX6_dreamsOf_108 : xdec cX6_dreamsOf 108 = some (.ireturn, 109, 0, 0) := by decide +kernel
theorem xX6_dreamsOf_109 : xdec cX6_dreamsOf 109 = some (.bipush 9, 111, 0, 9) := by decide +kernel
theorem xX6_dreamsOf_111 : xdec cX6_dreamsOf 111 = some (.ireturn, 112, 0, 0) := by decide +kernel
theorem xX6_dreamsOf_112 : xdec cX6_dreamsOf 112 = some (.iload_n 2, 113, 2, 0) := by decide +kernel
theorem xX6_dreamsOf_113 : xdec cX6_dreamsOf 113 = some (.iconst 2, 114, 0, 2) := by decide +kernel
theorem xX6_dreamsOf_114 : xdec cX6_dreamsOf 114 = some (.irem, 115, 0, 0) := by decide +kernel
theorem xX6_dreamsOf_115 : xdec cX6_dreamsOf 115 = some (.ifCond .ne 12, 118, 127, 0) := by decide +kernel
theorem xX6_dreamsOf_118 : xdec cX6_dreamsOf 118 = some (.aload_n 0, 119, 0, 0) := by decide +kernel
theorem xX6_dreamsOf_119 : xdec cX6_dreamsOf 119 = some (.getfield 22, 122, 22, 0) := by decide +kernel
theorem xX6_dreamsOf_122 : xdec cX6_dreamsOf 122 = some (.iload_n 1, 123, 1, 0) := by decide +kernel
theorem xX6_dreamsOf_123 : xdec cX6_dreamsOf 123 = some (.iaload, 124, 0, 0) := by decide +kernel
theorem xX6_dreamsOf_124 : xdec cX6_dreamsOf 124 = some (.goto 5, 127, 129, 0) := by decide +kernel
theorem xX6_dreamsOf_127 : xdec cX6_dreamsOf 127 = some (.iload 4, 129, 4, 0) := by decide +kernel
theorem xX6_dreamsOf_129 : xdec cX6_dreamsOf 129 = some (.ireturn, 130, 0, 0) := by decide +kernel
theorem xX6_dreamsOf_130 : xdec cX6_dreamsOf 130 = some (.aload_n 0, 131, 0, 0) := by decide +kernel
theorem xX6_dreamsOf_131 : xdec cX6_dreamsOf 131 = some (.getfield 19, 134, 19, 0) := by decide +kernel
theorem xX6_dreamsOf_134 : xdec cX6_dreamsOf 134 = some (.iload_n 1, 135, 1, 0) := by decide +kernel
theorem xX6_dreamsOf_135 : xdec cX6_dreamsOf 135 = some (.iaload, 136, 0, 0) := by decide +kernel
theorem xX6_dreamsOf_136 : xdec cX6_dreamsOf 136 = some (.ireturn, 137, 0, 0) := by decide +kernel
theorem xX6_eatsOf_0 : xdec cX6_eatsOf 0 = some (.aload_n 0, 1, 0, 0) := by decide +kernel
theorem xX6_eatsOf_1 : xdec cX6_eatsOf 1 = some (.getfield 13, 4, 13, 0) := by decide +kernel
theorem xX6_eatsOf_4 : xdec cX6_eatsOf 4 = some (.iload_n 1, 5, 1, 0) := by decide +kernel
theorem xX6_eatsOf_5 : xdec cX6_eatsOf 5 = some (.iaload, 6, 0, 0) := by decide +kernel
theorem xX6_eatsOf_6 : xdec cX6_eatsOf 6 = some (.iconst 2, 7, 0, 2) := by decide +kernel
theorem xX6_eatsOf_7 : xdec cX6_eatsOf 7 = some (.if_icmp .eq 14, 10, 21, 0) := by decide +kernel
theorem xX6_eatsOf_10 : xdec cX6_eatsOf 10 = some (.aload_n 0, 11, 0, 0) := by decide +kernel
theorem xX6_eatsOf_11 : xdec cX6_eatsOf 11 = some (.getfield 13, 14, 13, 0) := by decide +kernel
theorem xX6_eatsOf_14 : xdec cX6_eatsOf 14 = some (.iload_n 1, 15, 1, 0) := by decide +kernel
theorem xX6_eatsOf_15 : xdec cX6_eatsOf 15 = some (.iaload, 16, 0, 0) := by decide +kernel
theorem xX6_eatsOf_16 : xdec cX6_eatsOf 16 = some (.bipush 7, 18, 0, 7) := by decide +kernel
theorem xX6_eatsOf_18 : xdec cX6_eatsOf 18 = some (.if_icmp .ne 7, 21, 25, 0) := by decide +kernel
theorem xX6_eatsOf_21 : xdec cX6_eatsOf 21 = some (.iconst 2, 22, 0, 2) := by decide +kernel
theorem xX6_eatsOf_22 : xdec cX6_eatsOf 22 = some (.goto 4, 25, 26, 0) := by decide +kernel
theorem xX6_eatsOf_25 : xdec cX6_eatsOf 25 = some (.iconst 1, 26, 0, 1) := by decide +kernel
theorem xX6_eatsOf_26 : xdec cX6_eatsOf 26 = some (.ireturn, 27, 0, 0) := by decide +kernel
theorem xX6_gainsOf_0 : xdec cX6_gainsOf 0 = some (.aload_n 0, 1, 0, 0) := by decide +kernel
theorem xX6_gainsOf_1 : xdec cX6_gainsOf 1 = some (.getfield 13, 4, 13, 0) := by decide +kernel
theorem xX6_gainsOf_4 : xdec cX6_gainsOf 4 = some (.iload_n 1, 5, 1, 0) := by decide +kernel
theorem xX6_gainsOf_5 : xdec cX6_gainsOf 5 = some (.iaload, 6, 0, 0) := by decide +kernel
theorem xX6_gainsOf_6 : xdec cX6_gainsOf 6 = some (.tableswitch 76 1 7 #[42, 44, 48, 42, 53, 59, 66], 48, 0, 0) := by decide +kernel
theorem xX6_gainsOf_48 : xdec cX6_gainsOf 48 = some (.iconst 1, 49, 0, 1) := by decide +kernel
theorem xX6_gainsOf_49 : xdec cX6_gainsOf 49 = some (.ireturn, 50, 0, 0) := by decide +kernel
theorem xX6_gainsOf_50 : xdec cX6_gainsOf 50 = some (.iload_n 2, 51, 2, 0) := by decide +kernel
theorem xX6_gainsOf_51 : xdec cX6_gainsOf 51 = some (.iconst 2, 52, 0, 2) := by decide +kernel
theorem xX6_gainsOf_52 : xdec cX6_gainsOf 52 = some (.idiv, 53, 0, 0) := by decide +kernel
theorem xX6_gainsOf_53 : xdec cX6_gainsOf 53 = some (.ireturn, 54, 0, 0) := by decide +kernel
theorem xX6_gainsOf_54 : xdec cX6_gainsOf 54 = some (.bipush 9, 56, 0, 9) := by decide +kernel
theorem xX6_gainsOf_56 : xdec cX6_gainsOf 56 = some (.iload_n 2, 57, 2, 0) := by decide +kernel
theorem xX6_gainsOf_57 : xdec cX6_gainsOf 57 = some (.isub, 58, 0, 0) := by decide +kernel
theorem xX6_gainsOf_58 : xdec cX6_gainsOf 58 = some (.ireturn, 59, 0, 0) := by decide +kernel
theorem xX6_gainsOf_59 : xdec cX6_gainsOf 59 = some (.iload_n 2, 60, 2, 0) := by decide +kernel
theorem xX6_gainsOf_60 : xdec cX6_gainsOf 60 = some (.iconst 2, 61, 0, 2) := by decide +kernel
theorem xX6_gainsOf_61 : xdec cX6_gainsOf 61 = some (.idiv, 62, 0, 0) := by decide +kernel
theorem xX6_gainsOf_62 : xdec cX6_gainsOf 62 = some (.iconst 3, 63, 0, 3) := by decide +kernel
theorem xX6_gainsOf_63 : xdec cX6_gainsOf 63 = some (.isub, 64, 0, 0) := by decide +kernel
theorem xX6_gainsOf_64 : xdec cX6_gainsOf 64 = some (.ireturn, 65, 0, 0) := by decide +kernel
theorem xX6_gainsOf_65 : xdec cX6_gainsOf 65 = some (.aload_n 0, 66, 0, 0) := by decide +kernel
theorem xX6_gainsOf_66 : xdec cX6_gainsOf 66 = some (.getfield 16, 69, 16, 0) := by decide +kernel
theorem xX6_gainsOf_69 : xdec cX6_gainsOf 69 = some (.iload_n 1, 70, 1, 0) := by decide +kernel
theorem xX6_gainsOf_70 : xdec cX6_gainsOf 70 = some (.iaload, 71, 0, 0) := by decide +kernel
theorem xX6_gainsOf_71 : xdec cX6_gainsOf 71 = some (.ireturn, 72, 0, 0) := by decide +kernel
theorem xX6_gainsOf_72 : xdec cX6_gainsOf 72 = some (.bipush 8, 74, 0, 8) := by decide +kernel
theorem xX6_gainsOf_74 : xdec cX6_gainsOf 74 = some (.iload_n 2, 75, 2, 0) := by decide +kernel
theorem xX6_gainsOf_75 : xdec cX6_gainsOf 75 = some (.isub, 76, 0, 0) := by decide +kernel
theorem xX6_gainsOf_76 : xdec cX6_gainsOf 76 = some (.bipush 9, 78, 0, 9) := by decide +kernel
theorem xX6_gainsOf_78 : xdec cX6_gainsOf 78 = some (.invokestatic 88, 81, 0, 0) := by decide +kernel
theorem xX6_gainsOf_81 : xdec cX6_gainsOf 81 = some (.ireturn, 82, 0, 0) := by decide +kernel
theorem xX6_gainsOf_82 : xdec cX6_gainsOf 82 = some (.iload_n 2, 83, 2, 0) := by decide +kernel
theorem xX6_gainsOf_83 : xdec cX6_gainsOf 83 = some (.aload_n 0, 84, 0, 0) := by decide +kernel
theorem xX6_gainsOf_84 : xdec cX6_gainsOf 84 = some (.getfield 22, 87, 22, 0) := by decide +kernel
theorem xX6_gainsOf_87 : xdec cX6_gainsOf 87 = some (.iload_n 1, 88, 1, 0) := by decide +kernel
theorem xX6_gainsOf_88 : xdec cX6_gainsOf 88 = some (.iaload, 89, 0, 0) := by decide +kernel
theorem xX6_gainsOf_89 : xdec cX6_gainsOf 89 = some (.if_icmp .ne 7, 92, 96, 0) := by decide +kernel
theorem xX6_gainsOf_92 : xdec cX6_gainsOf 92 = some (.iconst 0, 93, 0, 0) := by decide +kernel
theorem xX6_gainsOf_93 : xdec cX6_gainsOf 93 = some (.goto 4, 96, 97, 0) := by decide +kernel
theorem xX6_gainsOf_96 : xdec cX6_gainsOf 96 = some (.iconst 2, 97, 0, 2) := by decide +kernel
theorem xX6_gainsOf_97 : xdec cX6_gainsOf 97 = some (.ireturn, 98, 0, 0) := by decide +kernel
theorem xX6_breakfast_0 : xdec cX6_breakfast 0 = some (.aload_n 0, 1, 0, 0) := by decide +kernel
theorem xX6_breakfast_1 : xdec cX6_breakfast 1 = some (.iload_n 1, 2, 1, 0) := by decide +kernel
theorem xX6_breakfast_2 : xdec cX6_breakfast 2 = some (.aload_n 0, 3, 0, 0) := by decide +kernel
theorem xX6_breakfast_3 : xdec cX6_breakfast 3 = some (.getfield 92, 6, 92, 0) := by decide +kernel
theorem xX6_breakfast_6 : xdec cX6_breakfast 6 = some (.invokevirtual 95, 9, 0, 0) := by decide +kernel
theorem xX6_breakfast_9 : xdec cX6_breakfast 9 = some (.istore_n 2, 10, 2, 0) := by decide +kernel
theorem xX6_breakfast_10 : xdec cX6_breakfast 10 = some (.aload_n 0, 11, 0, 0) := by decide +kernel
theorem xX6_breakfast_11 : xdec cX6_breakfast 11 = some (.getfield 98, 14, 98, 0) := by decide +kernel
theorem xX6_breakfast_14 : xdec cX6_breakfast 14 = some (.ifCond .eq 12, 17, 26, 0) := by decide +kernel
theorem xX6_breakfast_17 : xdec cX6_breakfast 17 = some (.iload_n 2, 18, 2, 0) := by decide +kernel
theorem xX6_breakfast_18 : xdec cX6_breakfast 18 = some (.ifCond .lt 8, 21, 26, 0) := by decide +kernel
theorem xX6_breakfast_21 : xdec cX6_breakfast 21 = some (.bipush 7, 23, 0, 7) := by decide +kernel
theorem xX6_breakfast_23 : xdec cX6_breakfast 23 = some (.goto 4, 26, 27, 0) := by decide +kernel
theorem xX6_breakfast_26 : xdec cX6_breakfast 26 = some (.iload_n 2, 27, 2, 0) := by decide +kernel
theorem xX6_breakfast_27 : xdec cX6_breakfast 27 = some (.istore_n 2, 28, 2, 0) := by decide +kernel
theorem xX6_breakfast_28 : xdec cX6_breakfast 28 = some (.aload_n 0, 29, 0, 0) := by decide +kernel
theorem xX6_breakfast_29 : xdec cX6_breakfast 29 = some (.getfield 102, 32, 102, 0) := by decide +kernel
theorem xX6_breakfast_32 : xdec cX6_breakfast 32 = some (.iload_n 1, 33, 1, 0) := by decide +kernel
theorem xX6_breakfast_33 : xdec cX6_breakfast 33 = some (.invokestatic 105, 36, 0, 0) := by decide +kernel
theorem xX6_breakfast_36 : xdec cX6_breakfast 36 = some (.ifCond .eq 7, 39, 43, 0) := by decide +kernel
theorem xX6_breakfast_39 : xdec cX6_breakfast 39 = some (.iconst 1, 40, 0, 1) := by decide +kernel
theorem xX6_breakfast_40 : xdec cX6_breakfast 40 = some (.goto 4, 43, 44, 0) := by decide +kernel
theorem xX6_breakfast_43 : xdec cX6_breakfast 43 = some (.iload_n 2, 44, 2, 0) := by decide +kernel
theorem xX6_breakfast_44 : xdec cX6_breakfast 44 = some (.istore_n 2, 45, 2, 0) := by decide +kernel
theorem xX6_breakfast_45 : xdec cX6_breakfast 45 = some (.iload_n 2, 46, 2, 0) := by decide +kernel
theorem xX6_breakfast_46 : xdec cX6_breakfast 46 = some (.ifCond .ge 25, 49, 71, 0) := by decide +kernel
theorem xX6_breakfast_49 : xdec cX6_breakfast 49 = some (.aload_n 0, 50, 0, 0) := by decide +kernel
theorem xX6_breakfast_50 : xdec cX6_breakfast 50 = some (.getfield 25, 53, 25, 0) := by decide +kernel
theorem xX6_breakfast_53 : xdec cX6_breakfast 53 = some (.iload_n 1, 54, 1, 0) := by decide +kernel
theorem xX6_breakfast_54 : xdec cX6_breakfast 54 = some (.aload_n 0, 55, 0, 0) := by decide +kernel
theorem xX6_breakfast_55 : xdec cX6_breakfast 55 = some (.getfield 25, 58, 25, 0) := by decide +kernel
theorem xX6_breakfast_58 : xdec cX6_breakfast 58 = some (.iload_n 1, 59, 1, 0) := by decide +kernel
theorem xX6_breakfast_59 : xdec cX6_breakfast 59 = some (.iaload, 60, 0, 0) := by decide +kernel
theorem xX6_breakfast_60 : xdec cX6_breakfast 60 = some (.iconst 5, 61, 0, 5) := by decide +kernel
theorem xX6_breakfast_61 : xdec cX6_breakfast 61 = some (.isub, 62, 0, 0) := by decide +kernel
theorem xX6_breakfast_62 : xdec cX6_breakfast 62 = some (.bipush 99, 64, 0, 99) := by decide +kernel
theorem xX6_breakfast_64 : xdec cX6_breakfast 64 = some (.invokestatic 88, 67, 0, 0) := by decide +kernel
theorem xX6_breakfast_67 : xdec cX6_breakfast 67 = some (.iastore, 68, 0, 0) := by decide +kernel
theorem xX6_breakfast_68 : xdec cX6_breakfast 68 = some (.goto 128, 71, 196, 0) := by decide +kernel
theorem xX6_breakfast_71 : xdec cX6_breakfast 71 = some (.aload_n 0, 72, 0, 0) := by decide +kernel
theorem xX6_breakfast_72 : xdec cX6_breakfast 72 = some (.getfield 7, 75, 7, 0) := by decide +kernel
theorem xX6_breakfast_75 : xdec cX6_breakfast 75 = some (.iload_n 2, 76, 2, 0) := by decide +kernel
theorem xX6_breakfast_76 : xdec cX6_breakfast 76 = some (.iaload, 77, 0, 0) := by decide +kernel
theorem xX6_breakfast_77 : xdec cX6_breakfast 77 = some (.aload_n 0, 78, 0, 0) := by decide +kernel
theorem xX6_breakfast_78 : xdec cX6_breakfast 78 = some (.iload_n 1, 79, 1, 0) := by decide +kernel
theorem xX6_breakfast_79 : xdec cX6_breakfast 79 = some (.invokevirtual 109, 82, 0, 0) := by decide +kernel
theorem xX6_breakfast_82 : xdec cX6_breakfast 82 = some (.if_icmp .lt 79, 85, 161, 0) := by decide +kernel
theorem xX6_breakfast_85 : xdec cX6_breakfast 85 = some (.aload_n 0, 86, 0, 0) := by decide +kernel
theorem xX6_breakfast_86 : xdec cX6_breakfast 86 = some (.getfield 7, 89, 7, 0) := by decide +kernel
theorem xX6_breakfast_89 : xdec cX6_breakfast 89 = some (.iload_n 2, 90, 2, 0) := by decide +kernel
theorem xX6_breakfast_90 : xdec cX6_breakfast 90 = some (.dup2, 91, 0, 0) := by decide +kernel
theorem xX6_breakfast_91 : xdec cX6_breakfast 91 = some (.iaload, 92, 0, 0) := by decide +kernel
theorem xX6_breakfast_92 : xdec cX6_breakfast 92 = some (.aload_n 0, 93, 0, 0) := by decide +kernel
theorem xX6_breakfast_93 : xdec cX6_breakfast 93 = some (.iload_n 1, 94, 1, 0) := by decide +kernel
theorem xX6_breakfast_94 : xdec cX6_breakfast 94 = some (.invokevirtual 109, 97, 0, 0) := by decide +kernel
theorem xX6_breakfast_97 : xdec cX6_breakfast 97 = some (.isub, 98, 0, 0) := by decide +kernel
theorem xX6_breakfast_98 : xdec cX6_breakfast 98 = some (.iastore, 99, 0, 0) := by decide +kernel
theorem xX6_breakfast_99 : xdec cX6_breakfast 99 = some (.aload_n 0, 100, 0, 0) := by decide +kernel
theorem xX6_breakfast_100 : xdec cX6_breakfast 100 = some (.getfield 25, 103, 25, 0) := by decide +kernel
theorem xX6_breakfast_103 : xdec cX6_breakfast 103 = some (.iload_n 1, 104, 1, 0) := by decide +kernel
theorem xX6_breakfast_104 : xdec cX6_breakfast 104 = some (.aload_n 0, 105, 0, 0) := by decide +kernel
theorem xX6_breakfast_105 : xdec cX6_breakfast 105 = some (.getfield 25, 108, 25, 0) := by decide +kernel
theorem xX6_breakfast_108 : xdec cX6_breakfast 108 = some (.iload_n 1, 109, 1, 0) := by decide +kernel
theorem xX6_breakfast_109 : xdec cX6_breakfast 109 = some (.iaload, 110, 0, 0) := by decide +kernel
theorem xX6_breakfast_110 : xdec cX6_breakfast 110 = some (.aload_n 0, 111, 0, 0) := by decide +kernel
theorem xX6_breakfast_111 : xdec cX6_breakfast 111 = some (.iload_n 1, 112, 1, 0) := by decide +kernel
theorem xX6_breakfast_112 : xdec cX6_breakfast 112 = some (.iload_n 2, 113, 2, 0) := by decide +kernel
theorem xX6_breakfast_113 : xdec cX6_breakfast 113 = some (.invokevirtual 113, 116, 0, 0) := by decide +kernel
theorem xX6_breakfast_116 : xdec cX6_breakfast 116 = some (.iadd, 117, 0, 0) := by decide +kernel
theorem xX6_breakfast_117 : xdec cX6_breakfast 117 = some (.bipush 99, 119, 0, 99) := by decide +kernel
theorem xX6_breakfast_119 : xdec cX6_breakfast 119 = some (.invokestatic 88, 122, 0, 0) := by decide +kernel
theorem xX6_breakfast_122 : xdec cX6_breakfast 122 = some (.iastore, 123, 0, 0) := by decide +kernel
theorem xX6_breakfast_123 : xdec cX6_breakfast 123 = some (.aload_n 0, 124, 0, 0) := by decide +kernel
theorem xX6_breakfast_124 : xdec cX6_breakfast 124 = some (.getfield 22, 127, 22, 0) := by decide +kernel
theorem xX6_breakfast_127 : xdec cX6_breakfast 127 = some (.iload_n 1, 128, 1, 0) := by decide +kernel
theorem xX6_breakfast_128 : xdec cX6_breakfast 128 = some (.iload_n 2, 129, 2, 0) := by decide +kernel
theorem xX6_breakfast_129 : xdec cX6_breakfast 129 = some (.iastore, 130, 0, 0) := by decide +kernel
theorem xX6_breakfast_130 : xdec cX6_breakfast 130 = some (.aload_n 0, 131, 0, 0) := by decide +kernel
theorem xX6_breakfast_131 : xdec cX6_breakfast 131 = some (.aload_n 0, 132, 0, 0) := by decide +kernel
theorem xX6_breakfast_132 : xdec cX6_breakfast 132 = some (.getfield 116, 135, 116, 0) := by decide +kernel
theorem xX6_breakfast_135 : xdec cX6_breakfast 135 = some (.iconst 1, 136, 0, 1) := by decide +kernel
theorem xX6_breakfast_136 : xdec cX6_breakfast 136 = some (.iadd, 137, 0, 0) := by decide +kernel
theorem xX6_breakfast_137 : xdec cX6_breakfast 137 = some (.sipush 9999, 140, 0, 9999) := by decide +kernel
theorem xX6_breakfast_140 : xdec cX6_breakfast 140 = some (.invokestatic 88, 143, 0, 0) := by decide +kernel
theorem xX6_breakfast_143 : xdec cX6_breakfast 143 = some (.putfield 116, 146, 116, 0) := by decide +kernel
theorem xX6_breakfast_146 : xdec cX6_breakfast 146 = some (.aload_n 0, 147, 0, 0) := by decide +kernel
theorem xX6_breakfast_147 : xdec cX6_breakfast 147 = some (.dup, 148, 0, 0) := by decide +kernel
theorem xX6_breakfast_148 : xdec cX6_breakfast 148 = some (.getfield 119, 151, 119, 0) := by decide +kernel
theorem xX6_breakfast_151 : xdec cX6_breakfast 151 = some (.iconst 1, 152, 0, 1) := by decide +kernel
theorem xX6_breakfast_152 : xdec cX6_breakfast 152 = some (.iload_n 1, 153, 1, 0) := by decide +kernel
theorem xX6_breakfast_153 : xdec cX6_breakfast 153 = some (.ishl, 154, 0, 0) := by decide +kernel
theorem xX6_breakfast_154 : xdec cX6_breakfast 154 = some (.ior, 155, 0, 0) := by decide +kernel
theorem xX6_breakfast_155 : xdec cX6_breakfast 155 = some (.putfield 119, 158, 119, 0) := by decide +kernel
theorem xX6_breakfast_158 : xdec cX6_breakfast 158 = some (.goto 38, 161, 196, 0) := by decide +kernel
theorem xX6_breakfast_161 : xdec cX6_breakfast 161 = some (.aload_n 0, 162, 0, 0) := by decide +kernel
theorem xX6_breakfast_162 : xdec cX6_breakfast 162 = some (.getfield 25, 165, 25, 0) := by decide +kernel
theorem xX6_breakfast_165 : xdec cX6_breakfast 165 = some (.iload_n 1, 166, 1, 0) := by decide +kernel
theorem xX6_breakfast_166 : xdec cX6_breakfast 166 = some (.aload_n 0, 167, 0, 0) := by decide +kernel
theorem xX6_breakfast_167 : xdec cX6_breakfast 167 = some (.getfield 25, 170, 25, 0) := by decide +kernel
theorem xX6_breakfast_170 : xdec cX6_breakfast 170 = some (.iload_n 1, 171, 1, 0) := by decide +kernel
theorem xX6_breakfast_171 : xdec cX6_breakfast 171 = some (.iaload, 172, 0, 0) := by decide +kernel
theorem xX6_breakfast_172 : xdec cX6_breakfast 172 = some (.iconst 3, 173, 0, 3) := by decide +kernel
theorem xX6_breakfast_173 : xdec cX6_breakfast 173 = some (.isub, 174, 0, 0) := by decide +kernel
theorem xX6_breakfast_174 : xdec cX6_breakfast 174 = some (.bipush 99, 176, 0, 99) := by decide +kernel
theorem xX6_breakfast_176 : xdec cX6_breakfast 176 = some (.invokestatic 88, 179, 0, 0) := by decide +kernel
theorem xX6_breakfast_179 : xdec cX6_breakfast 179 = some (.iastore, 180, 0, 0) := by decide +kernel
theorem xX6_breakfast_180 : xdec cX6_breakfast 180 = some (.aload_n 0, 181, 0, 0) := by decide +kernel
theorem xX6_breakfast_181 : xdec cX6_breakfast 181 = some (.aload_n 0, 182, 0, 0) := by decide +kernel
theorem xX6_breakfast_182 : xdec cX6_breakfast 182 = some (.getfield 122, 185, 122, 0) := by decide +kernel
theorem xX6_breakfast_185 : xdec cX6_breakfast 185 = some (.iconst 1, 186, 0, 1) := by decide +kernel
theorem xX6_breakfast_186 : xdec cX6_breakfast 186 = some (.iadd, 187, 0, 0) := by decide +kernel
theorem xX6_breakfast_187 : xdec cX6_breakfast 187 = some (.sipush 9999, 190, 0, 9999) := by decide +kernel
theorem xX6_breakfast_190 : xdec cX6_breakfast 190 = some (.invokestatic 88, 193, 0, 0) := by decide +kernel
theorem xX6_breakfast_193 : xdec cX6_breakfast 193 = some (.putfield 122, 196, 122, 0) := by decide +kernel
theorem xX6_breakfast_196 : xdec cX6_breakfast 196 = some (.aload_n 0, 197, 0, 0) := by decide +kernel
theorem xX6_breakfast_197 : xdec cX6_breakfast 197 = some (.dup, 198, 0, 0) := by decide +kernel
theorem xX6_breakfast_198 : xdec cX6_breakfast 198 = some (.getfield 125, 201, 125, 0) := by decide +kernel
theorem xX6_breakfast_201 : xdec cX6_breakfast 201 = some (.aload_n 0, 202, 0, 0) := by decide +kernel
theorem xX6_breakfast_202 : xdec cX6_breakfast 202 = some (.getfield 25, 205, 25, 0) := by decide +kernel
theorem xX6_breakfast_205 : xdec cX6_breakfast 205 = some (.iload_n 1, 206, 1, 0) := by decide +kernel
theorem xX6_breakfast_206 : xdec cX6_breakfast 206 = some (.iaload, 207, 0, 0) := by decide +kernel
theorem xX6_breakfast_207 : xdec cX6_breakfast 207 = some (.ifCond .ne 11, 210, 218, 0) := by decide +kernel
theorem xX6_breakfast_210 : xdec cX6_breakfast 210 = some (.iconst 1, 211, 0, 1) := by decide +kernel
theorem xX6_breakfast_211 : xdec cX6_breakfast 211 = some (.iload_n 1, 212, 1, 0) := by decide +kernel
theorem xX6_breakfast_212 : xdec cX6_breakfast 212 = some (.ishl, 213, 0, 0) := by decide +kernel
theorem xX6_breakfast_213 : xdec cX6_breakfast 213 = some (.iconst (-1), 214, 0, (-1)) := by decide +kernel
theorem xX6_breakfast_214 : xdec cX6_breakfast 214 = some (.ixor, 215, 0, 0) := by decide +kernel
theorem xX6_breakfast_215 : xdec cX6_breakfast 215 = some (.goto 4, 218, 219, 0) := by decide +kernel
theorem xX6_breakfast_218 : xdec cX6_breakfast 218 = some (.iconst (-1), 219, 0, (-1)) := by decide +kernel
theorem xX6_breakfast_219 : xdec cX6_breakfast 219 = some (.iand, 220, 0, 0) := by decide +kernel
theorem xX6_breakfast_220 : xdec cX6_breakfast 220 = some (.putfield 125, 223, 125, 0) := by decide +kernel
theorem xX6_breakfast_223 : xdec cX6_breakfast 223 = some (.return_, 224, 0, 0) := by decide +kernel
theorem xX6_nightOn_0 : xdec cX6_nightOn 0 = some (.aload_n 0, 1, 0, 0) := by decide +kernel
theorem xX6_nightOn_1 : xdec cX6_nightOn 1 = some (.dup, 2, 0, 0) := by decide +kernel
theorem xX6_nightOn_2 : xdec cX6_nightOn 2 = some (.getfield 92, 5, 92, 0) := by decide +kernel
theorem xX6_nightOn_5 : xdec cX6_nightOn 5 = some (.iconst 1, 6, 0, 1) := by decide +kernel
theorem xX6_nightOn_6 : xdec cX6_nightOn 6 = some (.iadd, 7, 0, 0) := by decide +kernel
theorem xX6_nightOn_7 : xdec cX6_nightOn 7 = some (.putfield 92, 10, 92, 0) := by decide +kernel
theorem xX6_nightOn_10 : xdec cX6_nightOn 10 = some (.aload_n 0, 11, 0, 0) := by decide +kernel
theorem xX6_nightOn_11 : xdec cX6_nightOn 11 = some (.iconst 0, 12, 0, 0) := by decide +kernel
theorem xX6_nightOn_12 : xdec cX6_nightOn 12 = some (.putfield 119, 15, 119, 0) := by decide +kernel
theorem xX6_nightOn_15 : xdec cX6_nightOn 15 = some (.aload_n 0, 16, 0, 0) := by decide +kernel
theorem xX6_nightOn_16 : xdec cX6_nightOn 16 = some (.getfield 7, 19, 7, 0) := by decide +kernel
theorem xX6_nightOn_19 : xdec cX6_nightOn 19 = some (.aload_n 0, 20, 0, 0) := by decide +kernel
theorem xX6_nightOn_20 : xdec cX6_nightOn 20 = some (.getfield 92, 23, 92, 0) := by decide +kernel
theorem xX6_nightOn_23 : xdec cX6_nightOn 23 = some (.bipush 10, 25, 0, 10) := by decide +kernel
theorem xX6_nightOn_25 : xdec cX6_nightOn 25 = some (.irem, 26, 0, 0) := by decide +kernel
theorem xX6_nightOn_26 : xdec cX6_nightOn 26 = some (.aload_n 0, 27, 0, 0) := by decide +kernel
theorem xX6_nightOn_27 : xdec cX6_nightOn 27 = some (.getfield 7, 30, 7, 0) := by decide +kernel
theorem xX6_nightOn_30 : xdec cX6_nightOn 30 = some (.aload_n 0, 31, 0, 0) := by decide +kernel
theorem xX6_nightOn_31 : xdec cX6_nightOn 31 = some (.getfield 92, 34, 92, 0) := by decide +kernel
theorem xX6_nightOn_34 : xdec cX6_nightOn 34 = some (.bipush 10, 36, 0, 10) := by decide +kernel
theorem xX6_nightOn_36 : xdec cX6_nightOn 36 = some (.irem, 37, 0, 0) := by decide +kernel
theorem xX6_nightOn_37 : xdec cX6_nightOn 37 = some (.iaload, 38, 0, 0) := by decide +kernel
theorem xX6_nightOn_38 : xdec cX6_nightOn 38 = some (.iconst 2, 39, 0, 2) := by decide +kernel
theorem xX6_nightOn_39 : xdec cX6_nightOn 39 = some (.iadd, 40, 0, 0) := by decide +kernel
theorem xX6_nightOn_40 : xdec cX6_nightOn 40 = some (.bipush 99, 42, 0, 99) := by decide +kernel
theorem xX6_nightOn_42 : xdec cX6_nightOn 42 = some (.invokestatic 88, 45, 0, 0) := by decide +kernel
theorem xX6_nightOn_45 : xdec cX6_nightOn 45 = some (.iastore, 46, 0, 0) := by decide +kernel
theorem xX6_nightOn_46 : xdec cX6_nightOn 46 = some (.iconst 0, 47, 0, 0) := by decide +kernel
theorem xX6_nightOn_47 : xdec cX6_nightOn 47 = some (.istore_n 1, 48, 1, 0) := by decide +kernel
theorem xX6_nightOn_48 : xdec cX6_nightOn 48 = some (.iload_n 1, 49, 1, 0) := by decide +kernel
theorem xX6_nightOn_49 : xdec cX6_nightOn 49 = some (.aload_n 0, 50, 0, 0) := by decide +kernel
theorem xX6_nightOn_50 : xdec cX6_nightOn 50 = some (.getfield 85, 53, 85, 0) := by decide +kernel
theorem xX6_nightOn_53 : xdec cX6_nightOn 53 = some (.if_icmp .ge 25, 56, 78, 0) := by decide +kernel
theorem xX6_nightOn_56 : xdec cX6_nightOn 56 = some (.aload_n 0, 57, 0, 0) := by decide +kernel
theorem xX6_nightOn_57 : xdec cX6_nightOn 57 = some (.getfield 125, 60, 125, 0) := by decide +kernel
theorem xX6_nightOn_60 : xdec cX6_nightOn 60 = some (.iload_n 1, 61, 1, 0) := by decide +kernel
theorem xX6_nightOn_61 : xdec cX6_nightOn 61 = some (.invokestatic 105, 64, 0, 0) := by decide +kernel
theorem xX6_nightOn_64 : xdec cX6_nightOn 64 = some (.ifCond .eq 8, 67, 72, 0) := by decide +kernel
theorem xX6_nightOn_67 : xdec cX6_nightOn 67 = some (.aload_n 0, 68, 0, 0) := by decide +kernel
theorem xX6_nightOn_68 : xdec cX6_nightOn 68 = some (.iload_n 1, 69, 1, 0) := by decide +kernel
theorem xX6_nightOn_69 : xdec cX6_nightOn 69 = some (.invokevirtual 128, 72, 0, 0) := by decide +kernel
theorem xX6_nightOn_72 : xdec cX6_nightOn 72 = some (.iinc 1 1, 75, 1, 1) := by decide +kernel
theorem xX6_nightOn_75 : xdec cX6_nightOn 75 = some (.goto (-27), 78, 48, 0) := by decide +kernel
theorem xX6_nightOn_78 : xdec cX6_nightOn 78 = some (.aload_n 0, 79, 0, 0) := by decide +kernel
theorem xX6_nightOn_79 : xdec cX6_nightOn 79 = some (.iconst 0, 80, 0, 0) := by decide +kernel
theorem xX6_nightOn_80 : xdec cX6_nightOn 80 = some (.putfield 102, 83, 102, 0) := by decide +kernel
theorem xX6_nightOn_83 : xdec cX6_nightOn 83 = some (.aload_n 0, 84, 0, 0) := by decide +kernel
theorem xX6_nightOn_84 : xdec cX6_nightOn 84 = some (.iconst 0, 85, 0, 0) := by decide +kernel
theorem xX6_nightOn_85 : xdec cX6_nightOn 85 = some (.putfield 98, 88, 98, 0) := by decide +kernel
theorem xX6_nightOn_88 : xdec cX6_nightOn 88 = some (.return_, 89, 0, 0) := by decide +kernel
theorem xX6_goNights_0 : xdec cX6_goNights 0 = some (.iconst 0, 1, 0, 0) := by decide +kernel
theorem xX6_goNights_1 : xdec cX6_goNights 1 = some (.istore_n 2, 2, 2, 0) := by decide +kernel
theorem xX6_goNights_2 : xdec cX6_goNights 2 = some (.iload_n 2, 3, 2, 0) := by decide +kernel
theorem xX6_goNights_3 : xdec cX6_goNights 3 = some (.iload_n 1, 4, 1, 0) := by decide +kernel
theorem xX6_goNights_4 : xdec cX6_goNights 4 = some (.if_icmp .ge 13, 7, 17, 0) := by decide +kernel
theorem xX6_goNights_7 : xdec cX6_goNights 7 = some (.aload_n 0, 8, 0, 0) := by decide +kernel
theorem xX6_goNights_8 : xdec cX6_goNights 8 = some (.invokevirtual 132, 11, 0, 0) := by decide +kernel
theorem xX6_goNights_11 : xdec cX6_goNights 11 = some (.iinc 2 1, 14, 2, 1) := by decide +kernel
theorem xX6_goNights_14 : xdec cX6_goNights 14 = some (.goto (-12), 17, 2, 0) := by decide +kernel
theorem xX6_goNights_17 : xdec cX6_goNights 17 = some (.return_, 18, 0, 0) := by decide +kernel
theorem xX6_allPlates_0 : xdec cX6_allPlates 0 = some (.iconst 0, 1, 0, 0) := by decide +kernel
theorem xX6_allPlates_1 : xdec cX6_allPlates 1 = some (.istore_n 1, 2, 1, 0) := by decide +kernel
theorem xX6_allPlates_2 : xdec cX6_allPlates 2 = some (.iconst 0, 3, 0, 0) := by decide +kernel
theorem xX6_allPlates_3 : xdec cX6_allPlates 3 = some (.istore_n 2, 4, 2, 0) := by decide +kernel
theorem xX6_allPlates_4 : xdec cX6_allPlates 4 = some (.iload_n 2, 5, 2, 0) := by decide +kernel
theorem xX6_allPlates_5 : xdec cX6_allPlates 5 = some (.bipush 10, 7, 0, 10) := by decide +kernel
theorem xX6_allPlates_7 : xdec cX6_allPlates 7 = some (.if_icmp .ge 18, 10, 25, 0) := by decide +kernel
theorem xX6_allPlates_10 : xdec cX6_allPlates 10 = some (.iload_n 1, 11, 1, 0) := by decide +kernel
theorem xX6_allPlates_11 : xdec cX6_allPlates 11 = some (.aload_n 0, 12, 0, 0) := by decide +kernel
theorem xX6_allPlates_12 : xdec cX6_allPlates 12 = some (.getfield 7, 15, 7, 0) := by decide +kernel
theorem xX6_allPlates_15 : xdec cX6_allPlates 15 = some (.iload_n 2, 16, 2, 0) := by decide +kernel
theorem xX6_allPlates_16 : xdec cX6_allPlates 16 = some (.iaload, 17, 0, 0) := by decide +kernel
theorem xX6_allPlates_17 : xdec cX6_allPlates 17 = some (.iadd, 18, 0, 0) := by decide +kernel
theorem xX6_allPlates_18 : xdec cX6_allPlates 18 = some (.istore_n 1, 19, 1, 0) := by decide +kernel
theorem xX6_allPlates_19 : xdec cX6_allPlates 19 = some (.iinc 2 1, 22, 2, 1) := by decide +kernel
theorem xX6_allPlates_22 : xdec cX6_allPlates 22 = some (.goto (-18), 25, 4, 0) := by decide +kernel
theorem xX6_allPlates_25 : xdec cX6_allPlates 25 = some (.iload_n 1, 26, 1, 0) := by decide +kernel
theorem xX6_allPlates_26 : xdec cX6_allPlates 26 = some (.ireturn, 27, 0, 0) := by decide +kernel
theorem xX6_here_0 : xdec cX6_here 0 = some (.aload_n 0, 1, 0, 0) := by decide +kernel
theorem xX6_here_1 : xdec cX6_here 1 = some (.getfield 135, 4, 135, 0) := by decide +kernel
theorem xX6_here_4 : xdec cX6_here 4 = some (.aload_n 0, 5, 0, 0) := by decide +kernel
theorem xX6_here_5 : xdec cX6_here 5 = some (.getfield 40, 8, 40, 0) := by decide +kernel
theorem xX6_here_8 : xdec cX6_here 8 = some (.aload_n 0, 9, 0, 0) := by decide +kernel
theorem xX6_here_9 : xdec cX6_here 9 = some (.getfield 138, 12, 138, 0) := by decide +kernel
theorem xX6_here_12 : xdec cX6_here 12 = some (.iaload, 13, 0, 0) := by decide +kernel
theorem xX6_here_13 : xdec cX6_here 13 = some (.if_icmp .ge 24, 16, 37, 0) := by decide +kernel
theorem xX6_here_16 : xdec cX6_here 16 = some (.aload_n 0, 17, 0, 0) := by decide +kernel
theorem xX6_here_17 : xdec cX6_here 17 = some (.getfield 43, 20, 43, 0) := by decide +kernel
theorem xX6_here_20 : xdec cX6_here 20 = some (.bipush 100, 22, 0, 100) := by decide +kernel
theorem xX6_here_22 : xdec cX6_here 22 = some (.aload_n 0, 23, 0, 0) := by decide +kernel
theorem xX6_here_23 : xdec cX6_here 23 = some (.getfield 138, 26, 138, 0) := by decide +kernel
theorem xX6_here_26 : xdec cX6_here 26 = some (.imul, 27, 0, 0) := by decide +kernel
theorem xX6_here_27 : xdec cX6_here 27 = some (.aload_n 0, 28, 0, 0) := by decide +kernel
theorem xX6_here_28 : xdec cX6_here 28 = some (.getfield 135, 31, 135, 0) := by decide +kernel
theorem xX6_here_31 : xdec cX6_here 31 = some (.iadd, 32, 0, 0) := by decide +kernel
theorem xX6_here_32 : xdec cX6_here 32 = some (.laload, 33, 0, 0) := by decide +kernel
theorem xX6_here_33 : xdec cX6_here 33 = some (.l2i, 34, 0, 0) := by decide +kernel
theorem xX6_here_34 : xdec cX6_here 34 = some (.goto 6, 37, 40, 0) := by decide +kernel
theorem xX6_here_37 : xdec cX6_here 37 = some (.sipush (-999), 40, 0, (-999)) := by decide +kernel
theorem xX6_here_40 : xdec cX6_here 40 = some (.ireturn, 41, 0, 0) := by decide +kernel
theorem xX6_readDigits_0 : xdec cX6_readDigits 0 = some (.iconst 0, 1, 0, 0) := by decide +kernel
theorem xX6_readDigits_1 : xdec cX6_readDigits 1 = some (.istore_n 2, 2, 2, 0) := by decide +kernel
theorem xX6_readDigits_2 : xdec cX6_readDigits 2 = some (.iconst 0, 3, 0, 0) := by decide +kernel
theorem xX6_readDigits_3 : xdec cX6_readDigits 3 = some (.istore_n 3, 4, 3, 0) := by decide +kernel
theorem xX6_readDigits_4 : xdec cX6_readDigits 4 = some (.iload_n 3, 5, 3, 0) := by decide +kernel
theorem xX6_readDigits_5 : xdec cX6_readDigits 5 = some (.iload_n 1, 6, 1, 0) := by decide +kernel
theorem xX6_readDigits_6 : xdec cX6_readDigits 6 = some (.if_icmp .ge 87, 9, 93, 0) := by decide +kernel
theorem xX6_readDigits_9 : xdec cX6_readDigits 9 = some (.aload_n 0, 10, 0, 0) := by decide +kernel
theorem xX6_readDigits_10 : xdec cX6_readDigits 10 = some (.aload_n 0, 11, 0, 0) := by decide +kernel
theorem xX6_readDigits_11 : xdec cX6_readDigits 11 = some (.getfield 141, 14, 141, 0) := by decide +kernel
theorem xX6_readDigits_14 : xdec cX6_readDigits 14 = some (.ifCond .ne 20, 17, 34, 0) := by decide +kernel
theorem xX6_readDigits_17 : xdec cX6_readDigits 17 = some (.aload_n 0, 18, 0, 0) := by decide +kernel
theorem xX6_readDigits_18 : xdec cX6_readDigits 18 = some (.invokevirtual 144, 21, 0, 0) := by decide +kernel
theorem xX6_readDigits_21 : xdec cX6_readDigits 21 = some (.i2l, 22, 0, 0) := by decide +kernel
theorem xX6_readDigits_22 : xdec cX6_readDigits 22 = some (.ldc2_w 148, 25, 148, 0) := by decide +kernel
theorem xX6_readDigits_25 : xdec cX6_readDigits 25 = some (.ldc2_w 150, 28, 150, 0) := by decide +kernel
theorem xX6_readDigits_28 : xdec cX6_readDigits 28 = some (.invokestatic 81, 31, 0, 0) := by decide +kernel
theorem xX6_readDigits_31 : xdec cX6_readDigits 31 = some (.ifCond .ne 7, 34, 38, 0) := by decide +kernel
theorem xX6_readDigits_34 : xdec cX6_readDigits 34 = some (.iconst 1, 35, 0, 1) := by decide +kernel
theorem xX6_readDigits_35 : xdec cX6_readDigits 35 = some (.goto 4, 38, 39, 0) := by decide +kernel
theorem xX6_readDigits_38 : xdec cX6_readDigits 38 = some (.iconst 0, 39, 0, 0) := by decide +kernel
theorem xX6_readDigits_39 : xdec cX6_readDigits 39 = some (.putfield 141, 42, 141, 0) := by decide +kernel
theorem xX6_readDigits_42 : xdec cX6_readDigits 42 = some (.aload_n 0, 43, 0, 0) := by decide +kernel
theorem xX6_readDigits_43 : xdec cX6_readDigits 43 = some (.getfield 141, 46, 141, 0) := by decide +kernel
theorem xX6_readDigits_46 : xdec cX6_readDigits 46 = some (.ifCond .eq 7, 49, 53, 0) := by decide +kernel
theorem xX6_readDigits_49 : xdec cX6_readDigits 49 = some (.iconst 0, 50, 0, 0) := by decide +kernel
theorem xX6_readDigits_50 : xdec cX6_readDigits 50 = some (.goto 15, 53, 65, 0) := by decide +kernel
theorem xX6_readDigits_53 : xdec cX6_readDigits 53 = some (.bipush 10, 55, 0, 10) := by decide +kernel
theorem xX6_readDigits_55 : xdec cX6_readDigits 55 = some (.iload_n 2, 56, 2, 0) := by decide +kernel
theorem xX6_readDigits_56 : xdec cX6_readDigits 56 = some (.imul, 57, 0, 0) := by decide +kernel
theorem xX6_readDigits_57 : xdec cX6_readDigits 57 = some (.aload_n 0, 58, 0, 0) := by decide +kernel
theorem xX6_readDigits_58 : xdec cX6_readDigits 58 = some (.invokevirtual 144, 61, 0, 0) := by decide +kernel
theorem xX6_readDigits_61 : xdec cX6_readDigits 61 = some (.iadd, 62, 0, 0) := by decide +kernel
theorem xX6_readDigits_62 : xdec cX6_readDigits 62 = some (.bipush 48, 64, 0, 48) := by decide +kernel
theorem xX6_readDigits_64 : xdec cX6_readDigits 64 = some (.isub, 65, 0, 0) := by decide +kernel
theorem xX6_readDigits_65 : xdec cX6_readDigits 65 = some (.istore_n 2, 66, 2, 0) := by decide +kernel
theorem xX6_readDigits_66 : xdec cX6_readDigits 66 = some (.aload_n 0, 67, 0, 0) := by decide +kernel
theorem xX6_readDigits_67 : xdec cX6_readDigits 67 = some (.dup, 68, 0, 0) := by decide +kernel
theorem xX6_readDigits_68 : xdec cX6_readDigits 68 = some (.getfield 135, 71, 135, 0) := by decide +kernel
theorem xX6_readDigits_71 : xdec cX6_readDigits 71 = some (.aload_n 0, 72, 0, 0) := by decide +kernel
theorem xX6_readDigits_72 : xdec cX6_readDigits 72 = some (.getfield 141, 75, 141, 0) := by decide +kernel
theorem xX6_readDigits_75 : xdec cX6_readDigits 75 = some (.ifCond .eq 7, 78, 82, 0) := by decide +kernel
theorem xX6_readDigits_78 : xdec cX6_readDigits 78 = some (.iconst 0, 79, 0, 0) := by decide +kernel
theorem xX6_readDigits_79 : xdec cX6_readDigits 79 = some (.goto 4, 82, 83, 0) := by decide +kernel
theorem xX6_readDigits_82 : xdec cX6_readDigits 82 = some (.iconst 1, 83, 0, 1) := by decide +kernel
theorem xX6_readDigits_83 : xdec cX6_readDigits 83 = some (.iadd, 84, 0, 0) := by decide +kernel
theorem xX6_readDigits_84 : xdec cX6_readDigits 84 = some (.putfield 135, 87, 135, 0) := by decide +kernel
theorem xX6_readDigits_87 : xdec cX6_readDigits 87 = some (.iinc 3 1, 90, 3, 1) := by decide +kernel
theorem xX6_readDigits_90 : xdec cX6_readDigits 90 = some (.goto (-86), 93, 4, 0) := by decide +kernel
theorem xX6_readDigits_93 : xdec cX6_readDigits 93 = some (.iload_n 2, 94, 2, 0) := by decide +kernel
theorem xX6_readDigits_94 : xdec cX6_readDigits 94 = some (.ireturn, 95, 0, 0) := by decide +kernel
theorem xX6_isLetter_0 : xdec cX6_isLetter 0 = some (.iload_n 0, 1, 0, 0) := by decide +kernel
theorem xX6_isLetter_1 : xdec cX6_isLetter 1 = some (.bipush 103, 3, 0, 103) := by decide +kernel
theorem xX6_isLetter_3 : xdec cX6_isLetter 3 = some (.if_icmp .eq 39, 6, 42, 0) := by decide +kernel
theorem xX6_isLetter_6 : xdec cX6_isLetter 6 = some (.iload_n 0, 7, 0, 0) := by decide +kernel
theorem xX6_isLetter_7 : xdec cX6_isLetter 7 = some (.bipush 108, 9, 0, 108) := by decide +kernel
theorem xX6_isLetter_9 : xdec cX6_isLetter 9 = some (.if_icmp .eq 33, 12, 42, 0) := by decide +kernel
theorem xX6_isLetter_12 : xdec cX6_isLetter 12 = some (.iload_n 0, 13, 0, 0) := by decide +kernel
theorem xX6_isLetter_13 : xdec cX6_isLetter 13 = some (.bipush 119, 15, 0, 119) := by decide +kernel
theorem xX6_isLetter_15 : xdec cX6_isLetter 15 = some (.if_icmp .eq 27, 18, 42, 0) := by decide +kernel
theorem xX6_isLetter_18 : xdec cX6_isLetter 18 = some (.iload_n 0, 19, 0, 0) := by decide +kernel
theorem xX6_isLetter_19 : xdec cX6_isLetter 19 = some (.bipush 104, 21, 0, 104) := by decide +kernel
theorem xX6_isLetter_21 : xdec cX6_isLetter 21 = some (.if_icmp .eq 21, 24, 42, 0) := by decide +kernel
theorem xX6_isLetter_24 : xdec cX6_isLetter 24 = some (.iload_n 0, 25, 0, 0) := by decide +kernel
theorem xX6_isLetter_25 : xdec cX6_isLetter 25 = some (.bipush 101, 27, 0, 101) := by decide +kernel
theorem xX6_isLetter_27 : xdec cX6_isLetter 27 = some (.if_icmp .eq 15, 30, 42, 0) := by decide +kernel
theorem xX6_isLetter_30 : xdec cX6_isLetter 30 = some (.iload_n 0, 31, 0, 0) := by decide +kernel
theorem xX6_isLetter_31 : xdec cX6_isLetter 31 = some (.bipush 98, 33, 0, 98) := by decide +kernel
theorem xX6_isLetter_33 : xdec cX6_isLetter 33 = some (.if_icmp .eq 9, 36, 42, 0) := by decide +kernel
theorem xX6_isLetter_36 : xdec cX6_isLetter 36 = some (.iload_n 0, 37, 0, 0) := by decide +kernel
theorem xX6_isLetter_37 : xdec cX6_isLetter 37 = some (.bipush 100, 39, 0, 100) := by decide +kernel
theorem xX6_isLetter_39 : xdec cX6_isLetter 39 = some (.if_icmp .ne 7, 42, 46, 0) := by decide +kernel
theorem xX6_isLetter_42 : xdec cX6_isLetter 42 = some (.iconst 1, 43, 0, 1) := by decide +kernel
theorem xX6_isLetter_43 : xdec cX6_isLetter 43 = some (.goto 4, 46, 47, 0) := by decide +kernel
theorem xX6_isLetter_46 : xdec cX6_isLetter 46 = some (.iconst 0, 47, 0, 0) := by decide +kernel
theorem xX6_isLetter_47 : xdec cX6_isLetter 47 = some (.ireturn, 48, 0, 0) := by decide +kernel
theorem xX6_readNumbers_0 : xdec cX6_readNumbers 0 = some (.aload_n 0, 1, 0, 0) := by decide +kernel
theorem xX6_readNumbers_1 : xdec cX6_readNumbers 1 = some (.getfield 53, 4, 53, 0) := by decide +kernel
theorem xX6_readNumbers_4 : xdec cX6_readNumbers 4 = some (.iload_n 2, 5, 2, 0) := by decide +kernel
theorem xX6_readNumbers_5 : xdec cX6_readNumbers 5 = some (.aload_n 0, 6, 0, 0) := by decide +kernel
theorem xX6_readNumbers_6 : xdec cX6_readNumbers 6 = some (.iload_n 1, 7, 1, 0) := by decide +kernel
theorem xX6_readNumbers_7 : xdec cX6_readNumbers 7 = some (.bipush 100, 9, 0, 100) := by decide +kernel
theorem xX6_readNumbers_9 : xdec cX6_readNumbers 9 = some (.if_icmp .ne 7, 12, 16, 0) := by decide +kernel
theorem xX6_readNumbers_12 : xdec cX6_readNumbers 12 = some (.iconst 2, 13, 0, 2) := by decide +kernel
theorem xX6_readNumbers_13 : xdec cX6_readNumbers 13 = some (.goto 4, 16, 17, 0) := by decide +kernel
theorem xX6_readNumbers_16 : xdec cX6_readNumbers 16 = some (.iconst 1, 17, 0, 1) := by decide +kernel
theorem xX6_readNumbers_17 : xdec cX6_readNumbers 17 = some (.invokevirtual 152, 20, 0, 0) := by decide +kernel
theorem xX6_readNumbers_20 : xdec cX6_readNumbers 20 = some (.iastore, 21, 0, 0) := by decide +kernel
theorem xX6_readNumbers_21 : xdec cX6_readNumbers 21 = some (.iload_n 1, 22, 1, 0) := by decide +kernel
theorem xX6_readNumbers_22 : xdec cX6_readNumbers 22 = some (.bipush 100, 24, 0, 100) := by decide +kernel
theorem xX6_readNumbers_24 : xdec cX6_readNumbers 24 = some (.if_icmp .eq 32, 27, 56, 0) := by decide +kernel
theorem xX6_readNumbers_27 : xdec cX6_readNumbers 27 = some (.aload_n 0, 28, 0, 0) := by decide +kernel
theorem xX6_readNumbers_28 : xdec cX6_readNumbers 28 = some (.getfield 53, 31, 53, 0) := by decide +kernel
theorem xX6_readNumbers_31 : xdec cX6_readNumbers 31 = some (.iload_n 2, 32, 2, 0) := by decide +kernel
theorem xX6_readNumbers_32 : xdec cX6_readNumbers 32 = some (.iconst 1, 33, 0, 1) := by decide +kernel
theorem xX6_readNumbers_33 : xdec cX6_readNumbers 33 = some (.iadd, 34, 0, 0) := by decide +kernel
theorem xX6_readNumbers_34 : xdec cX6_readNumbers 34 = some (.aload_n 0, 35, 0, 0) := by decide +kernel
theorem xX6_readNumbers_35 : xdec cX6_readNumbers 35 = some (.iload_n 1, 36, 1, 0) := by decide +kernel
theorem xX6_readNumbers_36 : xdec cX6_readNumbers 36 = some (.bipush 108, 38, 0, 108) := by decide +kernel
theorem xX6_readNumbers_38 : xdec cX6_readNumbers 38 = some (.if_icmp .eq 9, 41, 47, 0) := by decide +kernel
theorem xX6_readNumbers_41 : xdec cX6_readNumbers 41 = some (.iload_n 1, 42, 1, 0) := by decide +kernel
theorem xX6_readNumbers_42 : xdec cX6_readNumbers 42 = some (.bipush 104, 44, 0, 104) := by decide +kernel
theorem xX6_readNumbers_44 : xdec cX6_readNumbers 44 = some (.if_icmp .ne 7, 47, 51, 0) := by decide +kernel
theorem xX6_readNumbers_47 : xdec cX6_readNumbers 47 = some (.iconst 2, 48, 0, 2) := by decide +kernel
theorem xX6_readNumbers_48 : xdec cX6_readNumbers 48 = some (.goto 4, 51, 52, 0) := by decide +kernel
theorem xX6_readNumbers_51 : xdec cX6_readNumbers 51 = some (.iconst 1, 52, 0, 1) := by decide +kernel
theorem xX6_readNumbers_52 : xdec cX6_readNumbers 52 = some (.invokevirtual 152, 55, 0, 0) := by decide +kernel
theorem xX6_readNumbers_55 : xdec cX6_readNumbers 55 = some (.iastore, 56, 0, 0) := by decide +kernel
theorem xX6_readNumbers_56 : xdec cX6_readNumbers 56 = some (.iload_n 1, 57, 1, 0) := by decide +kernel
theorem xX6_readNumbers_57 : xdec cX6_readNumbers 57 = some (.bipush 103, 59, 0, 103) := by decide +kernel
theorem xX6_readNumbers_59 : xdec cX6_readNumbers 59 = some (.if_icmp .ne 16, 62, 75, 0) := by decide +kernel
theorem xX6_readNumbers_62 : xdec cX6_readNumbers 62 = some (.aload_n 0, 63, 0, 0) := by decide +kernel
theorem xX6_readNumbers_63 : xdec cX6_readNumbers 63 = some (.getfield 53, 66, 53, 0) := by decide +kernel
theorem xX6_readNumbers_66 : xdec cX6_readNumbers 66 = some (.iload_n 2, 67, 2, 0) := by decide +kernel
theorem xX6_readNumbers_67 : xdec cX6_readNumbers 67 = some (.iconst 2, 68, 0, 2) := by decide +kernel
theorem xX6_readNumbers_68 : xdec cX6_readNumbers 68 = some (.iadd, 69, 0, 0) := by decide +kernel
theorem xX6_readNumbers_69 : xdec cX6_readNumbers 69 = some (.aload_n 0, 70, 0, 0) := by decide +kernel
theorem xX6_readNumbers_70 : xdec cX6_readNumbers 70 = some (.iconst 1, 71, 0, 1) := by decide +kernel
theorem xX6_readNumbers_71 : xdec cX6_readNumbers 71 = some (.invokevirtual 152, 74, 0, 0) := by decide +kernel
theorem xX6_readNumbers_74 : xdec cX6_readNumbers 74 = some (.iastore, 75, 0, 0) := by decide +kernel
theorem xX6_readNumbers_75 : xdec cX6_readNumbers 75 = some (.return_, 76, 0, 0) := by decide +kernel
theorem xX6_readStatement_0 : xdec cX6_readStatement 0 = some (.aload_n 0, 1, 0, 0) := by decide +kernel
theorem xX6_readStatement_1 : xdec cX6_readStatement 1 = some (.getfield 155, 4, 155, 0) := by decide +kernel
theorem xX6_readStatement_4 : xdec cX6_readStatement 4 = some (.istore_n 1, 5, 1, 0) := by decide +kernel
theorem xX6_readStatement_5 : xdec cX6_readStatement 5 = some (.aload_n 0, 6, 0, 0) := by decide +kernel
theorem xX6_readStatement_6 : xdec cX6_readStatement 6 = some (.invokevirtual 144, 9, 0, 0) := by decide +kernel
theorem xX6_readStatement_9 : xdec cX6_readStatement 9 = some (.istore_n 2, 10, 2, 0) := by decide +kernel
theorem xX6_readStatement_10 : xdec cX6_readStatement 10 = some (.aload_n 0, 11, 0, 0) := by decide +kernel
theorem xX6_readStatement_11 : xdec cX6_readStatement 11 = some (.getfield 47, 14, 47, 0) := by decide +kernel
theorem xX6_readStatement_14 : xdec cX6_readStatement 14 = some (.iload_n 1, 15, 1, 0) := by decide +kernel
theorem xX6_readStatement_15 : xdec cX6_readStatement 15 = some (.aload_n 0, 16, 0, 0) := by decide +kernel
theorem xX6_readStatement_16 : xdec cX6_readStatement 16 = some (.getfield 135, 19, 135, 0) := by decide +kernel
theorem xX6_readStatement_19 : xdec cX6_readStatement 19 = some (.iastore, 20, 0, 0) := by decide +kernel
theorem xX6_readStatement_20 : xdec cX6_readStatement 20 = some (.aload_n 0, 21, 0, 0) := by decide +kernel
theorem xX6_readStatement_21 : xdec cX6_readStatement 21 = some (.getfield 50, 24, 50, 0) := by decide +kernel
theorem xX6_readStatement_24 : xdec cX6_readStatement 24 = some (.iload_n 1, 25, 1, 0) := by decide +kernel
theorem xX6_readStatement_25 : xdec cX6_readStatement 25 = some (.iload_n 2, 26, 2, 0) := by decide +kernel
theorem xX6_readStatement_26 : xdec cX6_readStatement 26 = some (.iastore, 27, 0, 0) := by decide +kernel
theorem xX6_readStatement_27 : xdec cX6_readStatement 27 = some (.aload_n 0, 28, 0, 0) := by decide +kernel
theorem xX6_readStatement_28 : xdec cX6_readStatement 28 = some (.aload_n 0, 29, 0, 0) := by decide +kernel
theorem xX6_readStatement_29 : xdec cX6_readStatement 29 = some (.getfield 141, 32, 141, 0) := by decide +kernel
theorem xX6_readStatement_32 : xdec cX6_readStatement 32 = some (.ifCond .ne 10, 35, 42, 0) := by decide +kernel
theorem xX6_readStatement_35 : xdec cX6_readStatement 35 = some (.iload_n 2, 36, 2, 0) := by decide +kernel
theorem xX6_readStatement_36 : xdec cX6_readStatement 36 = some (.invokestatic 158, 39, 0, 0) := by decide +kernel
theorem xX6_readStatement_39 : xdec cX6_readStatement 39 = some (.ifCond .ne 7, 42, 46, 0) := by decide +kernel
theorem xX6_readStatement_42 : xdec cX6_readStatement 42 = some (.iconst 1, 43, 0, 1) := by decide +kernel
theorem xX6_readStatement_43 : xdec cX6_readStatement 43 = some (.goto 4, 46, 47, 0) := by decide +kernel
theorem xX6_readStatement_46 : xdec cX6_readStatement 46 = some (.iconst 0, 47, 0, 0) := by decide +kernel
theorem xX6_readStatement_47 : xdec cX6_readStatement 47 = some (.putfield 141, 50, 141, 0) := by decide +kernel
theorem xX6_readStatement_50 : xdec cX6_readStatement 50 = some (.aload_n 0, 51, 0, 0) := by decide +kernel
theorem xX6_readStatement_51 : xdec cX6_readStatement 51 = some (.dup, 52, 0, 0) := by decide +kernel
theorem xX6_readStatement_52 : xdec cX6_readStatement 52 = some (.getfield 135, 55, 135, 0) := by decide +kernel
theorem xX6_readStatement_55 : xdec cX6_readStatement 55 = some (.aload_n 0, 56, 0, 0) := by decide +kernel
theorem xX6_readStatement_56 : xdec cX6_readStatement 56 = some (.getfield 141, 59, 141, 0) := by decide +kernel
theorem xX6_readStatement_59 : xdec cX6_readStatement 59 = some (.ifCond .eq 7, 62, 66, 0) := by decide +kernel
theorem xX6_readStatement_62 : xdec cX6_readStatement 62 = some (.iconst 0, 63, 0, 0) := by decide +kernel
theorem xX6_readStatement_63 : xdec cX6_readStatement 63 = some (.goto 4, 66, 67, 0) := by decide +kernel
theorem xX6_readStatement_66 : xdec cX6_readStatement 66 = some (.iconst 1, 67, 0, 1) := by decide +kernel
theorem xX6_readStatement_67 : xdec cX6_readStatement 67 = some (.iadd, 68, 0, 0) := by decide +kernel
theorem xX6_readStatement_68 : xdec cX6_readStatement 68 = some (.putfield 135, 71, 135, 0) := by decide +kernel
theorem xX6_readStatement_71 : xdec cX6_readStatement 71 = some (.aload_n 0, 72, 0, 0) := by decide +kernel
theorem xX6_readStatement_72 : xdec cX6_readStatement 72 = some (.getfield 141, 75, 141, 0) := by decide +kernel
theorem xX6_readStatement_75 : xdec cX6_readStatement 75 = some (.ifCond .ne 11, 78, 86, 0) := by decide +kernel
theorem xX6_readStatement_78 : xdec cX6_readStatement 78 = some (.aload_n 0, 79, 0, 0) := by decide +kernel
theorem xX6_readStatement_79 : xdec cX6_readStatement 79 = some (.iload_n 2, 80, 2, 0) := by decide +kernel
theorem xX6_readStatement_80 : xdec cX6_readStatement 80 = some (.iconst 3, 81, 0, 3) := by decide +kernel
theorem xX6_readStatement_81 : xdec cX6_readStatement 81 = some (.iload_n 1, 82, 1, 0) := by decide +kernel
theorem xX6_readStatement_82 : xdec cX6_readStatement 82 = some (.imul, 83, 0, 0) := by decide +kernel
theorem xX6_readStatement_83 : xdec cX6_readStatement 83 = some (.invokevirtual 162, 86, 0, 0) := by decide +kernel
theorem xX6_readStatement_86 : xdec cX6_readStatement 86 = some (.aload_n 0, 87, 0, 0) := by decide +kernel
theorem xX6_readStatement_87 : xdec cX6_readStatement 87 = some (.aload_n 0, 88, 0, 0) := by decide +kernel
theorem xX6_readStatement_88 : xdec cX6_readStatement 88 = some (.getfield 141, 91, 141, 0) := by decide +kernel
theorem xX6_readStatement_91 : xdec cX6_readStatement 91 = some (.ifCond .ne 12, 94, 103, 0) := by decide +kernel
theorem xX6_readStatement_94 : xdec cX6_readStatement 94 = some (.aload_n 0, 95, 0, 0) := by decide +kernel
theorem xX6_readStatement_95 : xdec cX6_readStatement 95 = some (.invokevirtual 144, 98, 0, 0) := by decide +kernel
theorem xX6_readStatement_98 : xdec cX6_readStatement 98 = some (.bipush 59, 100, 0, 59) := by decide +kernel
theorem xX6_readStatement_100 : xdec cX6_readStatement 100 = some (.if_icmp .eq 7, 103, 107, 0) := by decide +kernel
theorem xX6_readStatement_103 : xdec cX6_readStatement 103 = some (.iconst 1, 104, 0, 1) := by decide +kernel
theorem xX6_readStatement_104 : xdec cX6_readStatement 104 = some (.goto 4, 107, 108, 0) := by decide +kernel
theorem xX6_readStatement_107 : xdec cX6_readStatement 107 = some (.iconst 0, 108, 0, 0) := by decide +kernel
theorem xX6_readStatement_108 : xdec cX6_readStatement 108 = some (.putfield 141, 111, 141, 0) := by decide +kernel
theorem xX6_readStatement_111 : xdec cX6_readStatement 111 = some (.aload_n 0, 112, 0, 0) := by decide +kernel
theorem xX6_readStatement_112 : xdec cX6_readStatement 112 = some (.dup, 113, 0, 0) := by decide +kernel
theorem xX6_readStatement_113 : xdec cX6_readStatement 113 = some (.getfield 135, 116, 135, 0) := by decide +kernel
theorem xX6_readStatement_116 : xdec cX6_readStatement 116 = some (.aload_n 0, 117, 0, 0) := by decide +kernel
theorem xX6_readStatement_117 : xdec cX6_readStatement 117 = some (.getfield 141, 120, 141, 0) := by decide +kernel
theorem xX6_readStatement_120 : xdec cX6_readStatement 120 = some (.ifCond .eq 7, 123, 127, 0) := by decide +kernel
theorem xX6_readStatement_123 : xdec cX6_readStatement 123 = some (.iconst 0, 124, 0, 0) := by decide +kernel
theorem xX6_readStatement_124 : xdec cX6_readStatement 124 = some (.goto 4, 127, 128, 0) := by decide +kernel
theorem xX6_readStatement_127 : xdec cX6_readStatement 127 = some (.iconst 1, 128, 0, 1) := by decide +kernel
theorem xX6_readStatement_128 : xdec cX6_readStatement 128 = some (.iadd, 129, 0, 0) := by decide +kernel
theorem xX6_readStatement_129 : xdec cX6_readStatement 129 = some (.putfield 135, 132, 135, 0) := by decide +kernel
theorem xX6_readStatement_132 : xdec cX6_readStatement 132 = some (.aload_n 0, 133, 0, 0) := by decide +kernel
theorem xX6_readStatement_133 : xdec cX6_readStatement 133 = some (.dup, 134, 0, 0) := by decide +kernel
theorem xX6_readStatement_134 : xdec cX6_readStatement 134 = some (.getfield 155, 137, 155, 0) := by decide +kernel
theorem xX6_readStatement_137 : xdec cX6_readStatement 137 = some (.iconst 1, 138, 0, 1) := by decide +kernel
theorem xX6_readStatement_138 : xdec cX6_readStatement 138 = some (.iadd, 139, 0, 0) := by decide +kernel
theorem xX6_readStatement_139 : xdec cX6_readStatement 139 = some (.putfield 155, 142, 155, 0) := by decide +kernel
theorem xX6_readStatement_142 : xdec cX6_readStatement 142 = some (.return_, 143, 0, 0) := by decide +kernel
theorem xX6_guestComes_0 : xdec cX6_guestComes 0 = some (.iload_n 1, 1, 1, 0) := by decide +kernel
theorem xX6_guestComes_1 : xdec cX6_guestComes 1 = some (.bipush 8, 3, 0, 8) := by decide +kernel
theorem xX6_guestComes_3 : xdec cX6_guestComes 3 = some (.if_icmp .ge 16, 6, 19, 0) := by decide +kernel
theorem xX6_guestComes_6 : xdec cX6_guestComes 6 = some (.aload_n 0, 7, 0, 0) := by decide +kernel
theorem xX6_guestComes_7 : xdec cX6_guestComes 7 = some (.getfield 85, 10, 85, 0) := by decide +kernel
theorem xX6_guestComes_10 : xdec cX6_guestComes 10 = some (.bipush 7, 12, 0, 7) := by decide +kernel
theorem xX6_guestComes_12 : xdec cX6_guestComes 12 = some (.if_icmp .ge 7, 15, 19, 0) := by decide +kernel
theorem xX6_guestComes_15 : xdec cX6_guestComes 15 = some (.iconst 1, 16, 0, 1) := by decide +kernel
theorem xX6_guestComes_16 : xdec cX6_guestComes 16 = some (.goto 4, 19, 20, 0) := by decide +kernel
theorem xX6_guestComes_19 : xdec cX6_guestComes 19 = some (.iconst 0, 20, 0, 0) := by decide +kernel
theorem xX6_guestComes_20 : xdec cX6_guestComes 20 = some (.istore 4, 22, 4, 0) := by decide +kernel
theorem xX6_guestComes_22 : xdec cX6_guestComes 22 = some (.iload 4, 24, 4, 0) := by decide +kernel
theorem xX6_guestComes_24 : xdec cX6_guestComes 24 = some (.ifCond .eq 79, 27, 103, 0) := by decide +kernel
theorem xX6_guestComes_27 : xdec cX6_guestComes 27 = some (.aload_n 0, 28, 0, 0) := by decide +kernel
theorem xX6_guestComes_28 : xdec cX6_guestComes 28 = some (.getfield 13, 31, 13, 0) := by decide +kernel
theorem xX6_guestComes_31 : xdec cX6_guestComes 31 = some (.aload_n 0, 32, 0, 0) := by decide +kernel
theorem xX6_guestComes_32 : xdec cX6_guestComes 32 = some (.getfield 85, 35, 85, 0) := by decide +kernel
theorem xX6_guestComes_35 : xdec cX6_guestComes 35 = some (.iload_n 1, 36, 1, 0) := by decide +kernel
theorem xX6_guestComes_36 : xdec cX6_guestComes 36 = some (.iastore, 37, 0, 0) := by decide +kernel
theorem xX6_guestComes_37 : xdec cX6_guestComes 37 = some (.aload_n 0, 38, 0, 0) := by decide +kernel
theorem xX6_guestComes_38 : xdec cX6_guestComes 38 = some (.getfield 16, 41, 16, 0) := by decide +kernel
theorem xX6_guestComes_41 : xdec cX6_guestComes 41 = some (.aload_n 0, 42, 0, 0) := by decide +kernel
theorem xX6_guestComes_42 : xdec cX6_guestComes 42 = some (.getfield 85, 45, 85, 0) := by decide +kernel
theorem xX6_guestComes_45 : xdec cX6_guestComes 45 = some (.iload_n 2, 46, 2, 0) := by decide +kernel
theorem xX6_guestComes_46 : xdec cX6_guestComes 46 = some (.iastore, 47, 0, 0) := by decide +kernel
theorem xX6_guestComes_47 : xdec cX6_guestComes 47 = some (.aload_n 0, 48, 0, 0) := by decide +kernel
theorem xX6_guestComes_48 : xdec cX6_guestComes 48 = some (.getfield 19, 51, 19, 0) := by decide +kernel
theorem xX6_guestComes_51 : xdec cX6_guestComes 51 = some (.aload_n 0, 52, 0, 0) := by decide +kernel
theorem xX6_guestComes_52 : xdec cX6_guestComes 52 = some (.getfield 85, 55, 85, 0) := by decide +kernel
theorem xX6_guestComes_55 : xdec cX6_guestComes 55 = some (.iload_n 3, 56, 3, 0) := by decide +kernel
theorem xX6_guestComes_56 : xdec cX6_guestComes 56 = some (.iastore, 57, 0, 0) := by decide +kernel
theorem xX6_guestComes_57 : xdec cX6_guestComes 57 = some (.aload_n 0, 58, 0, 0) := by decide +kernel
theorem xX6_guestComes_58 : xdec cX6_guestComes 58 = some (.getfield 22, 61, 22, 0) := by decide +kernel
theorem xX6_guestComes_61 : xdec cX6_guestComes 61 = some (.aload_n 0, 62, 0, 0) := by decide +kernel
theorem xX6_guestComes_62 : xdec cX6_guestComes 62 = some (.getfield 85, 65, 85, 0) := by decide +kernel
theorem xX6_guestComes_65 : xdec cX6_guestComes 65 = some (.iconst 0, 66, 0, 0) := by decide +kernel
theorem xX6_guestComes_66 : xdec cX6_guestComes 66 = some (.iastore, 67, 0, 0) := by decide +kernel
theorem xX6_guestComes_67 : xdec cX6_guestComes 67 = some (.aload_n 0, 68, 0, 0) := by decide +kernel
theorem xX6_guestComes_68 : xdec cX6_guestComes 68 = some (.getfield 25, 71, 25, 0) := by decide +kernel
theorem xX6_guestComes_71 : xdec cX6_guestComes 71 = some (.aload_n 0, 72, 0, 0) := by decide +kernel
theorem xX6_guestComes_72 : xdec cX6_guestComes 72 = some (.getfield 85, 75, 85, 0) := by decide +kernel
theorem xX6_guestComes_75 : xdec cX6_guestComes 75 = some (.bipush 50, 77, 0, 50) := by decide +kernel
theorem xX6_guestComes_77 : xdec cX6_guestComes 77 = some (.iastore, 78, 0, 0) := by decide +kernel
theorem xX6_guestComes_78 : xdec cX6_guestComes 78 = some (.aload_n 0, 79, 0, 0) := by decide +kernel
theorem xX6_guestComes_79 : xdec cX6_guestComes 79 = some (.dup, 80, 0, 0) := by decide +kernel
theorem xX6_guestComes_80 : xdec cX6_guestComes 80 = some (.getfield 125, 83, 125, 0) := by decide +kernel
theorem xX6_guestComes_83 : xdec cX6_guestComes 83 = some (.iconst 1, 84, 0, 1) := by decide +kernel
theorem xX6_guestComes_84 : xdec cX6_guestComes 84 = some (.aload_n 0, 85, 0, 0) := by decide +kernel
theorem xX6_guestComes_85 : xdec cX6_guestComes 85 = some (.getfield 85, 88, 85, 0) := by decide +kernel
theorem xX6_guestComes_88 : xdec cX6_guestComes 88 = some (.ishl, 89, 0, 0) := by decide +kernel
theorem xX6_guestComes_89 : xdec cX6_guestComes 89 = some (.ior, 90, 0, 0) := by decide +kernel
theorem xX6_guestComes_90 : xdec cX6_guestComes 90 = some (.putfield 125, 93, 125, 0) := by decide +kernel
theorem xX6_guestComes_93 : xdec cX6_guestComes 93 = some (.aload_n 0, 94, 0, 0) := by decide +kernel
theorem xX6_guestComes_94 : xdec cX6_guestComes 94 = some (.dup, 95, 0, 0) := by decide +kernel
theorem xX6_guestComes_95 : xdec cX6_guestComes 95 = some (.getfield 85, 98, 85, 0) := by decide +kernel
theorem xX6_guestComes_98 : xdec cX6_guestComes 98 = some (.iconst 1, 99, 0, 1) := by decide +kernel
theorem xX6_guestComes_99 : xdec cX6_guestComes 99 = some (.iadd, 100, 0, 0) := by decide +kernel
theorem xX6_guestComes_100 : xdec cX6_guestComes 100 = some (.putfield 85, 103, 85, 0) := by decide +kernel
theorem xX6_guestComes_103 : xdec cX6_guestComes 103 = some (.iload 4, 105, 4, 0) := by decide +kernel
theorem xX6_guestComes_105 : xdec cX6_guestComes 105 = some (.ireturn, 106, 0, 0) := by decide +kernel
theorem xX6_nightsCome_0 : xdec cX6_nightsCome 0 = some (.iload_n 1, 1, 1, 0) := by decide +kernel
theorem xX6_nightsCome_1 : xdec cX6_nightsCome 1 = some (.i2l, 2, 0, 0) := by decide +kernel
theorem xX6_nightsCome_2 : xdec cX6_nightsCome 2 = some (.lconst 1, 3, 0, 1) := by decide +kernel
theorem xX6_nightsCome_3 : xdec cX6_nightsCome 3 = some (.ldc2_w 166, 6, 166, 0) := by decide +kernel
theorem xX6_nightsCome_6 : xdec cX6_nightsCome 6 = some (.invokestatic 81, 9, 0, 0) := by decide +kernel
theorem xX6_nightsCome_9 : xdec cX6_nightsCome 9 = some (.ifCond .eq 19, 12, 28, 0) := by decide +kernel
theorem xX6_nightsCome_12 : xdec cX6_nightsCome 12 = some (.aload_n 0, 13, 0, 0) := by decide +kernel
theorem xX6_nightsCome_13 : xdec cX6_nightsCome 13 = some (.getfield 92, 16, 92, 0) := by decide +kernel
theorem xX6_nightsCome_16 : xdec cX6_nightsCome 16 = some (.iload_n 1, 17, 1, 0) := by decide +kernel
theorem xX6_nightsCome_17 : xdec cX6_nightsCome 17 = some (.iadd, 18, 0, 0) := by decide +kernel
theorem xX6_nightsCome_18 : xdec cX6_nightsCome 18 = some (.sipush 999, 21, 0, 999) := by decide +kernel
theorem xX6_nightsCome_21 : xdec cX6_nightsCome 21 = some (.if_icmp .gt 7, 24, 28, 0) := by decide +kernel
theorem xX6_nightsCome_24 : xdec cX6_nightsCome 24 = some (.iconst 1, 25, 0, 1) := by decide +kernel
theorem xX6_nightsCome_25 : xdec cX6_nightsCome 25 = some (.goto 4, 28, 29, 0) := by decide +kernel
theorem xX6_nightsCome_28 : xdec cX6_nightsCome 28 = some (.iconst 0, 29, 0, 0) := by decide +kernel
theorem xX6_nightsCome_29 : xdec cX6_nightsCome 29 = some (.istore_n 2, 30, 2, 0) := by decide +kernel
theorem xX6_nightsCome_30 : xdec cX6_nightsCome 30 = some (.iload_n 2, 31, 2, 0) := by decide +kernel
theorem xX6_nightsCome_31 : xdec cX6_nightsCome 31 = some (.ifCond .eq 8, 34, 39, 0) := by decide +kernel
theorem xX6_nightsCome_34 : xdec cX6_nightsCome 34 = some (.aload_n 0, 35, 0, 0) := by decide +kernel
theorem xX6_nightsCome_35 : xdec cX6_nightsCome 35 = some (.iload_n 1, 36, 1, 0) := by decide +kernel
theorem xX6_nightsCome_36 : xdec cX6_nightsCome 36 = some (.invokevirtual 168, 39, 0, 0) := by decide +kernel
theorem xX6_nightsCome_39 : xdec cX6_nightsCome 39 = some (.iload_n 2, 40, 2, 0) := by decide +kernel
theorem xX6_nightsCome_40 : xdec cX6_nightsCome 40 = some (.ireturn, 41, 0, 0) := by decide +kernel
theorem xX6_ofGuest_0 : xdec cX6_ofGuest 0 = some (.aload_n 0, 1, 0, 0) := by decide +kernel
theorem xX6_ofGuest_1 : xdec cX6_ofGuest 1 = some (.iload_n 2, 2, 2, 0) := by decide +kernel
theorem xX6_ofGuest_2 : xdec cX6_ofGuest 2 = some (.invokevirtual 171, 5, 0, 0) := by decide +kernel
theorem xX6_ofGuest_5 : xdec cX6_ofGuest 5 = some (.ifCond .eq 17, 8, 22, 0) := by decide +kernel
theorem xX6_ofGuest_8 : xdec cX6_ofGuest 8 = some (.iload_n 1, 9, 1, 0) := by decide +kernel
theorem xX6_ofGuest_9 : xdec cX6_ofGuest 9 = some (.bipush 104, 11, 0, 104) := by decide +kernel
theorem xX6_ofGuest_11 : xdec cX6_ofGuest 11 = some (.if_icmp .ne 7, 14, 18, 0) := by decide +kernel
theorem xX6_ofGuest_14 : xdec cX6_ofGuest 14 = some (.iload_n 3, 15, 3, 0) := by decide +kernel
theorem xX6_ofGuest_15 : xdec cX6_ofGuest 15 = some (.ifCond .le 7, 18, 22, 0) := by decide +kernel
theorem xX6_ofGuest_18 : xdec cX6_ofGuest 18 = some (.iconst 1, 19, 0, 1) := by decide +kernel
theorem xX6_ofGuest_19 : xdec cX6_ofGuest 19 = some (.goto 4, 22, 23, 0) := by decide +kernel
theorem xX6_ofGuest_22 : xdec cX6_ofGuest 22 = some (.iconst 0, 23, 0, 0) := by decide +kernel
theorem xX6_ofGuest_23 : xdec cX6_ofGuest 23 = some (.istore 4, 25, 4, 0) := by decide +kernel
theorem xX6_ofGuest_25 : xdec cX6_ofGuest 25 = some (.iload 4, 27, 4, 0) := by decide +kernel
theorem xX6_ofGuest_27 : xdec cX6_ofGuest 27 = some (.ifCond .eq 16, 30, 43, 0) := by decide +kernel
theorem xX6_ofGuest_30 : xdec cX6_ofGuest 30 = some (.iload_n 1, 31, 1, 0) := by decide +kernel
theorem xX6_ofGuest_31 : xdec cX6_ofGuest 31 = some (.bipush 119, 33, 0, 119) := by decide +kernel
theorem xX6_ofGuest_33 : xdec cX6_ofGuest 33 = some (.if_icmp .ne 10, 36, 43, 0) := by decide +kernel
theorem xX6_ofGuest_36 : xdec cX6_ofGuest 36 = some (.aload_n 0, 37, 0, 0) := by decide +kernel
theorem xX6_ofGuest_37 : xdec cX6_ofGuest 37 = some (.getfield 19, 40, 19, 0) := by decide +kernel
theorem xX6_ofGuest_40 : xdec cX6_ofGuest 40 = some (.iload_n 2, 41, 2, 0) := by decide +kernel
theorem xX6_ofGuest_41 : xdec cX6_ofGuest 41 = some (.iload_n 3, 42, 3, 0) := by decide +kernel
theorem xX6_ofGuest_42 : xdec cX6_ofGuest 42 = some (.iastore, 43, 0, 0) := by decide +kernel
theorem xX6_ofGuest_43 : xdec cX6_ofGuest 43 = some (.iload 4, 45, 4, 0) := by decide +kernel
theorem xX6_ofGuest_45 : xdec cX6_ofGuest 45 = some (.ifCond .eq 16, 48, 61, 0) := by decide +kernel
theorem xX6_ofGuest_48 : xdec cX6_ofGuest 48 = some (.iload_n 1, 49, 1, 0) := by decide +kernel
theorem xX6_ofGuest_49 : xdec cX6_ofGuest 49 = some (.bipush 101, 51, 0, 101) := by decide +kernel
theorem xX6_ofGuest_51 : xdec cX6_ofGuest 51 = some (.if_icmp .ne 10, 54, 61, 0) := by decide +kernel
theorem xX6_ofGuest_54 : xdec cX6_ofGuest 54 = some (.aload_n 0, 55, 0, 0) := by decide +kernel
theorem xX6_ofGuest_55 : xdec cX6_ofGuest 55 = some (.getfield 22, 58, 22, 0) := by decide +kernel
theorem xX6_ofGuest_58 : xdec cX6_ofGuest 58 = some (.iload_n 2, 59, 2, 0) := by decide +kernel
theorem xX6_ofGuest_59 : xdec cX6_ofGuest 59 = some (.iload_n 3, 60, 3, 0) := by decide +kernel
theorem xX6_ofGuest_60 : xdec cX6_ofGuest 60 = some (.iastore, 61, 0, 0) := by decide +kernel
theorem xX6_ofGuest_61 : xdec cX6_ofGuest 61 = some (.iload 4, 63, 4, 0) := by decide +kernel
theorem xX6_ofGuest_63 : xdec cX6_ofGuest 63 = some (.ifCond .eq 28, 66, 91, 0) := by decide +kernel
theorem xX6_ofGuest_66 : xdec cX6_ofGuest 66 = some (.iload_n 1, 67, 1, 0) := by decide +kernel
theorem xX6_ofGuest_67 : xdec cX6_ofGuest 67 = some (.bipush 104, 69, 0, 104) := by decide +kernel
theorem xX6_ofGuest_69 : xdec cX6_ofGuest 69 = some (.if_icmp .ne 22, 72, 91, 0) := by decide +kernel
theorem xX6_ofGuest_72 : xdec cX6_ofGuest 72 = some (.aload_n 0, 73, 0, 0) := by decide +kernel
theorem xX6_ofGuest_73 : xdec cX6_ofGuest 73 = some (.getfield 25, 76, 25, 0) := by decide +kernel
theorem xX6_ofGuest_76 : xdec cX6_ofGuest 76 = some (.iload_n 2, 77, 2, 0) := by decide +kernel
theorem xX6_ofGuest_77 : xdec cX6_ofGuest 77 = some (.iload_n 3, 78, 3, 0) := by decide +kernel
theorem xX6_ofGuest_78 : xdec cX6_ofGuest 78 = some (.iastore, 79, 0, 0) := by decide +kernel
theorem xX6_ofGuest_79 : xdec cX6_ofGuest 79 = some (.aload_n 0, 80, 0, 0) := by decide +kernel
theorem xX6_ofGuest_80 : xdec cX6_ofGuest 80 = some (.dup, 81, 0, 0) := by decide +kernel
theorem xX6_ofGuest_81 : xdec cX6_ofGuest 81 = some (.getfield 125, 84, 125, 0) := by decide +kernel
theorem xX6_ofGuest_84 : xdec cX6_ofGuest 84 = some (.iconst 1, 85, 0, 1) := by decide +kernel
theorem xX6_ofGuest_85 : xdec cX6_ofGuest 85 = some (.iload_n 2, 86, 2, 0) := by decide +kernel
theorem xX6_ofGuest_86 : xdec cX6_ofGuest 86 = some (.ishl, 87, 0, 0) := by decide +kernel
theorem xX6_ofGuest_87 : xdec cX6_ofGuest 87 = some (.ior, 88, 0, 0) := by decide +kernel
theorem xX6_ofGuest_88 : xdec cX6_ofGuest 88 = some (.putfield 125, 91, 125, 0) := by decide +kernel
theorem xX6_ofGuest_91 : xdec cX6_ofGuest 91 = some (.iload 4, 93, 4, 0) := by decide +kernel
theorem xX6_ofGuest_93 : xdec cX6_ofGuest 93 = some (.ireturn, 94, 0, 0) := by decide +kernel
theorem xX6_comesTold_0 : xdec cX6_comesTold 0 = some (.aload_n 0, 1, 0, 0) := by decide +kernel
theorem xX6_comesTold_1 : xdec cX6_comesTold 1 = some (.getfield 53, 4, 53, 0) := by decide +kernel
theorem xX6_comesTold_4 : xdec cX6_comesTold 4 = some (.iconst 3, 5, 0, 3) := by decide +kernel
theorem xX6_comesTold_5 : xdec cX6_comesTold 5 = some (.iload_n 1, 6, 1, 0) := by decide +kernel
theorem xX6_comesTold_6 : xdec cX6_comesTold 6 = some (.imul, 7, 0, 0) := by decide +kernel
theorem xX6_comesTold_7 : xdec cX6_comesTold 7 = some (.iaload, 8, 0, 0) := by decide +kernel
theorem xX6_comesTold_8 : xdec cX6_comesTold 8 = some (.istore_n 2, 9, 2, 0) := by decide +kernel
theorem xX6_comesTold_9 : xdec cX6_comesTold 9 = some (.aload_n 0, 10, 0, 0) := by decide +kernel
theorem xX6_comesTold_10 : xdec cX6_comesTold 10 = some (.getfield 53, 13, 53, 0) := by decide +kernel
theorem xX6_comesTold_13 : xdec cX6_comesTold 13 = some (.iconst 3, 14, 0, 3) := by decide +kernel
theorem xX6_comesTold_14 : xdec cX6_comesTold 14 = some (.iload_n 1, 15, 1, 0) := by decide +kernel
theorem xX6_comesTold_15 : xdec cX6_comesTold 15 = some (.imul, 16, 0, 0) := by decide +kernel
theorem xX6_comesTold_16 : xdec cX6_comesTold 16 = some (.iconst 1, 17, 0, 1) := by decide +kernel
theorem xX6_comesTold_17 : xdec cX6_comesTold 17 = some (.iadd, 18, 0, 0) := by decide +kernel
theorem xX6_comesTold_18 : xdec cX6_comesTold 18 = some (.iaload, 19, 0, 0) := by decide +kernel
theorem xX6_comesTold_19 : xdec cX6_comesTold 19 = some (.istore_n 3, 20, 3, 0) := by decide +kernel
theorem xX6_comesTold_20 : xdec cX6_comesTold 20 = some (.aload_n 0, 21, 0, 0) := by decide +kernel
theorem xX6_comesTold_21 : xdec cX6_comesTold 21 = some (.getfield 50, 24, 50, 0) := by decide +kernel
theorem xX6_comesTold_24 : xdec cX6_comesTold 24 = some (.iload_n 1, 25, 1, 0) := by decide +kernel
theorem xX6_comesTold_25 : xdec cX6_comesTold 25 = some (.iaload, 26, 0, 0) := by decide +kernel
theorem xX6_comesTold_26 : xdec cX6_comesTold 26 = some (.lookupswitch 95 #[(98, 68), (100, 89), (103, 42), (108, 59)], 68, 0, 0) := by decide +kernel
theorem xX6_comesTold_68 : xdec cX6_comesTold 68 = some (.aload_n 0, 69, 0, 0) := by decide +kernel
theorem xX6_comesTold_69 : xdec cX6_comesTold 69 = some (.iload_n 2, 70, 2, 0) := by decide +kernel
theorem xX6_comesTold_70 : xdec cX6_comesTold 70 = some (.iload_n 3, 71, 3, 0) := by decide +kernel
theorem xX6_comesTold_71 : xdec cX6_comesTold 71 = some (.aload_n 0, 72, 0, 0) := by decide +kernel
theorem xX6_comesTold_72 : xdec cX6_comesTold 72 = some (.getfield 53, 75, 53, 0) := by decide +kernel
theorem xX6_comesTold_75 : xdec cX6_comesTold 75 = some (.iconst 3, 76, 0, 3) := by decide +kernel
theorem xX6_comesTold_76 : xdec cX6_comesTold 76 = some (.iload_n 1, 77, 1, 0) := by decide +kernel
theorem xX6_comesTold_77 : xdec cX6_comesTold 77 = some (.imul, 78, 0, 0) := by decide +kernel
theorem xX6_comesTold_78 : xdec cX6_comesTold 78 = some (.iconst 2, 79, 0, 2) := by decide +kernel
theorem xX6_comesTold_79 : xdec cX6_comesTold 79 = some (.iadd, 80, 0, 0) := by decide +kernel
theorem xX6_comesTold_80 : xdec cX6_comesTold 80 = some (.iaload, 81, 0, 0) := by decide +kernel
theorem xX6_comesTold_81 : xdec cX6_comesTold 81 = some (.invokevirtual 174, 84, 0, 0) := by decide +kernel
theorem xX6_comesTold_84 : xdec cX6_comesTold 84 = some (.ireturn, 85, 0, 0) := by decide +kernel
theorem xX6_comesTold_85 : xdec cX6_comesTold 85 = some (.aload_n 0, 86, 0, 0) := by decide +kernel
theorem xX6_comesTold_86 : xdec cX6_comesTold 86 = some (.getfield 7, 89, 7, 0) := by decide +kernel
theorem xX6_comesTold_89 : xdec cX6_comesTold 89 = some (.iload_n 2, 90, 2, 0) := by decide +kernel
theorem xX6_comesTold_90 : xdec cX6_comesTold 90 = some (.iload_n 3, 91, 3, 0) := by decide +kernel
theorem xX6_comesTold_91 : xdec cX6_comesTold 91 = some (.iastore, 92, 0, 0) := by decide +kernel
theorem xX6_comesTold_92 : xdec cX6_comesTold 92 = some (.iconst 1, 93, 0, 1) := by decide +kernel
theorem xX6_comesTold_93 : xdec cX6_comesTold 93 = some (.ireturn, 94, 0, 0) := by decide +kernel
theorem xX6_comesTold_94 : xdec cX6_comesTold 94 = some (.aload_n 0, 95, 0, 0) := by decide +kernel
theorem xX6_comesTold_95 : xdec cX6_comesTold 95 = some (.getfield 7, 98, 7, 0) := by decide +kernel
theorem xX6_comesTold_98 : xdec cX6_comesTold 98 = some (.iload_n 2, 99, 2, 0) := by decide +kernel
theorem xX6_comesTold_99 : xdec cX6_comesTold 99 = some (.aload_n 0, 100, 0, 0) := by decide +kernel
theorem xX6_comesTold_100 : xdec cX6_comesTold 100 = some (.getfield 7, 103, 7, 0) := by decide +kernel
theorem xX6_comesTold_103 : xdec cX6_comesTold 103 = some (.iload_n 2, 104, 2, 0) := by decide +kernel
theorem xX6_comesTold_104 : xdec cX6_comesTold 104 = some (.iaload, 105, 0, 0) := by decide +kernel
theorem xX6_comesTold_105 : xdec cX6_comesTold 105 = some (.iload_n 3, 106, 3, 0) := by decide +kernel
theorem xX6_comesTold_106 : xdec cX6_comesTold 106 = some (.iadd, 107, 0, 0) := by decide +kernel
theorem xX6_comesTold_107 : xdec cX6_comesTold 107 = some (.bipush 99, 109, 0, 99) := by decide +kernel
theorem xX6_comesTold_109 : xdec cX6_comesTold 109 = some (.invokestatic 88, 112, 0, 0) := by decide +kernel
theorem xX6_comesTold_112 : xdec cX6_comesTold 112 = some (.iastore, 113, 0, 0) := by decide +kernel
theorem xX6_comesTold_113 : xdec cX6_comesTold 113 = some (.iconst 1, 114, 0, 1) := by decide +kernel
theorem xX6_comesTold_114 : xdec cX6_comesTold 114 = some (.ireturn, 115, 0, 0) := by decide +kernel
theorem xX6_comesTold_115 : xdec cX6_comesTold 115 = some (.aload_n 0, 116, 0, 0) := by decide +kernel
theorem xX6_comesTold_116 : xdec cX6_comesTold 116 = some (.iload_n 2, 117, 2, 0) := by decide +kernel
theorem xX6_comesTold_117 : xdec cX6_comesTold 117 = some (.invokevirtual 178, 120, 0, 0) := by decide +kernel
theorem xX6_comesTold_120 : xdec cX6_comesTold 120 = some (.ireturn, 121, 0, 0) := by decide +kernel
theorem xX6_comesTold_121 : xdec cX6_comesTold 121 = some (.aload_n 0, 122, 0, 0) := by decide +kernel
theorem xX6_comesTold_122 : xdec cX6_comesTold 122 = some (.aload_n 0, 123, 0, 0) := by decide +kernel
theorem xX6_comesTold_123 : xdec cX6_comesTold 123 = some (.getfield 50, 126, 50, 0) := by decide +kernel
theorem xX6_comesTold_126 : xdec cX6_comesTold 126 = some (.iload_n 1, 127, 1, 0) := by decide +kernel
theorem xX6_comesTold_127 : xdec cX6_comesTold 127 = some (.iaload, 128, 0, 0) := by decide +kernel
theorem xX6_comesTold_128 : xdec cX6_comesTold 128 = some (.iload_n 2, 129, 2, 0) := by decide +kernel
theorem xX6_comesTold_129 : xdec cX6_comesTold 129 = some (.iload_n 3, 130, 3, 0) := by decide +kernel
theorem xX6_comesTold_130 : xdec cX6_comesTold 130 = some (.invokevirtual 181, 133, 0, 0) := by decide +kernel
theorem xX6_comesTold_133 : xdec cX6_comesTold 133 = some (.ireturn, 134, 0, 0) := by decide +kernel
theorem xX6_inn_0 : xdec cX6_inn 0 = some (.aload_n 0, 1, 0, 0) := by decide +kernel
theorem xX6_inn_1 : xdec cX6_inn 1 = some (.iconst 0, 2, 0, 0) := by decide +kernel
theorem xX6_inn_2 : xdec cX6_inn 2 = some (.putfield 75, 5, 75, 0) := by decide +kernel
theorem xX6_inn_5 : xdec cX6_inn 5 = some (.aload_n 0, 6, 0, 0) := by decide +kernel
theorem xX6_inn_6 : xdec cX6_inn 6 = some (.iload_n 1, 7, 1, 0) := by decide +kernel
theorem xX6_inn_7 : xdec cX6_inn 7 = some (.invokevirtual 184, 10, 0, 0) := by decide +kernel
theorem xX6_inn_10 : xdec cX6_inn 10 = some (.istore_n 2, 11, 2, 0) := by decide +kernel
theorem xX6_inn_11 : xdec cX6_inn 11 = some (.iload_n 2, 12, 2, 0) := by decide +kernel
theorem xX6_inn_12 : xdec cX6_inn 12 = some (.ifCond .ne 17, 15, 29, 0) := by decide +kernel
theorem xX6_inn_15 : xdec cX6_inn 15 = some (.aload_n 0, 16, 0, 0) := by decide +kernel
theorem xX6_inn_16 : xdec cX6_inn 16 = some (.getfield 37, 19, 37, 0) := by decide +kernel
theorem xX6_inn_19 : xdec cX6_inn 19 = some (.iload_n 1, 20, 1, 0) := by decide +kernel
theorem xX6_inn_20 : xdec cX6_inn 20 = some (.iaload, 21, 0, 0) := by decide +kernel
theorem xX6_inn_21 : xdec cX6_inn 21 = some (.ifCond .eq 8, 24, 29, 0) := by decide +kernel
theorem xX6_inn_24 : xdec cX6_inn 24 = some (.bipush (-12), 26, 0, (-12)) := by decide +kernel
theorem xX6_inn_26 : xdec cX6_inn 26 = some (.goto 4, 29, 30, 0) := by decide +kernel
theorem xX6_inn_29 : xdec cX6_inn 29 = some (.iload_n 2, 30, 2, 0) := by decide +kernel
theorem xX6_inn_30 : xdec cX6_inn 30 = some (.istore_n 2, 31, 2, 0) := by decide +kernel
theorem xX6_inn_31 : xdec cX6_inn 31 = some (.iload_n 2, 32, 2, 0) := by decide +kernel
theorem xX6_inn_32 : xdec cX6_inn 32 = some (.ifCond .ge 5, 35, 37, 0) := by decide +kernel
theorem xX6_inn_35 : xdec cX6_inn 35 = some (.iload_n 2, 36, 2, 0) := by decide +kernel
theorem xX6_inn_36 : xdec cX6_inn 36 = some (.ireturn, 37, 0, 0) := by decide +kernel
theorem xX6_inn_37 : xdec cX6_inn 37 = some (.aload_n 0, 38, 0, 0) := by decide +kernel
theorem xX6_inn_38 : xdec cX6_inn 38 = some (.iload_n 1, 39, 1, 0) := by decide +kernel
theorem xX6_inn_39 : xdec cX6_inn 39 = some (.putfield 138, 42, 138, 0) := by decide +kernel
theorem xX6_inn_42 : xdec cX6_inn 42 = some (.aload_n 0, 43, 0, 0) := by decide +kernel
theorem xX6_inn_43 : xdec cX6_inn 43 = some (.iconst 0, 44, 0, 0) := by decide +kernel
theorem xX6_inn_44 : xdec cX6_inn 44 = some (.putfield 135, 47, 135, 0) := by decide +kernel
theorem xX6_inn_47 : xdec cX6_inn 47 = some (.aload_n 0, 48, 0, 0) := by decide +kernel
theorem xX6_inn_48 : xdec cX6_inn 48 = some (.iconst 0, 49, 0, 0) := by decide +kernel
theorem xX6_inn_49 : xdec cX6_inn 49 = some (.putfield 141, 52, 141, 0) := by decide +kernel
theorem xX6_inn_52 : xdec cX6_inn 52 = some (.aload_n 0, 53, 0, 0) := by decide +kernel
theorem xX6_inn_53 : xdec cX6_inn 53 = some (.iconst 0, 54, 0, 0) := by decide +kernel
theorem xX6_inn_54 : xdec cX6_inn 54 = some (.putfield 155, 57, 155, 0) := by decide +kernel
theorem xX6_inn_57 : xdec cX6_inn 57 = some (.aload_n 0, 58, 0, 0) := by decide +kernel
theorem xX6_inn_58 : xdec cX6_inn 58 = some (.getfield 141, 61, 141, 0) := by decide +kernel
theorem xX6_inn_61 : xdec cX6_inn 61 = some (.ifCond .ne 30, 64, 91, 0) := by decide +kernel
theorem xX6_inn_64 : xdec cX6_inn 64 = some (.aload_n 0, 65, 0, 0) := by decide +kernel
theorem xX6_inn_65 : xdec cX6_inn 65 = some (.getfield 155, 68, 155, 0) := by decide +kernel
theorem xX6_inn_68 : xdec cX6_inn 68 = some (.ifCond .eq 16, 71, 84, 0) := by decide +kernel
theorem xX6_inn_71 : xdec cX6_inn 71 = some (.aload_n 0, 72, 0, 0) := by decide +kernel
theorem xX6_inn_72 : xdec cX6_inn 72 = some (.getfield 135, 75, 135, 0) := by decide +kernel
theorem xX6_inn_75 : xdec cX6_inn 75 = some (.aload_n 0, 76, 0, 0) := by decide +kernel
theorem xX6_inn_76 : xdec cX6_inn 76 = some (.getfield 40, 79, 40, 0) := by decide +kernel
theorem xX6_inn_79 : xdec cX6_inn 79 = some (.iload_n 1, 80, 1, 0) := by decide +kernel
theorem xX6_inn_80 : xdec cX6_inn 80 = some (.iaload, 81, 0, 0) := by decide +kernel
theorem xX6_inn_81 : xdec cX6_inn 81 = some (.if_icmp .ge 10, 84, 91, 0) := by decide +kernel
theorem xX6_inn_84 : xdec cX6_inn 84 = some (.aload_n 0, 85, 0, 0) := by decide +kernel
theorem xX6_inn_85 : xdec cX6_inn 85 = some (.invokevirtual 187, 88, 0, 0) := by decide +kernel
theorem xX6_inn_88 : xdec cX6_inn 88 = some (.goto (-31), 91, 57, 0) := by decide +kernel
theorem xX6_inn_91 : xdec cX6_inn 91 = some (.aload_n 0, 92, 0, 0) := by decide +kernel
theorem xX6_inn_92 : xdec cX6_inn 92 = some (.getfield 141, 95, 141, 0) := by decide +kernel
theorem xX6_inn_95 : xdec cX6_inn 95 = some (.ifCond .eq 12, 98, 107, 0) := by decide +kernel
theorem xX6_inn_98 : xdec cX6_inn 98 = some (.sipush (-1000), 101, 0, (-1000)) := by decide +kernel
theorem xX6_inn_101 : xdec cX6_inn 101 = some (.aload_n 0, 102, 0, 0) := by decide +kernel
theorem xX6_inn_102 : xdec cX6_inn 102 = some (.getfield 135, 105, 135, 0) := by decide +kernel
theorem xX6_inn_105 : xdec cX6_inn 105 = some (.isub, 106, 0, 0) := by decide +kernel
theorem xX6_inn_106 : xdec cX6_inn 106 = some (.ireturn, 107, 0, 0) := by decide +kernel
theorem xX6_inn_107 : xdec cX6_inn 107 = some (.aload_n 0, 108, 0, 0) := by decide +kernel
theorem xX6_inn_108 : xdec cX6_inn 108 = some (.invokevirtual 190, 111, 0, 0) := by decide +kernel
theorem xX6_inn_111 : xdec cX6_inn 111 = some (.iconst 0, 112, 0, 0) := by decide +kernel
theorem xX6_inn_112 : xdec cX6_inn 112 = some (.istore_n 3, 113, 3, 0) := by decide +kernel
theorem xX6_inn_113 : xdec cX6_inn 113 = some (.iload_n 3, 114, 3, 0) := by decide +kernel
theorem xX6_inn_114 : xdec cX6_inn 114 = some (.aload_n 0, 115, 0, 0) := by decide +kernel
theorem xX6_inn_115 : xdec cX6_inn 115 = some (.getfield 155, 118, 155, 0) := by decide +kernel
theorem xX6_inn_118 : xdec cX6_inn 118 = some (.if_icmp .ge 32, 121, 150, 0) := by decide +kernel
theorem xX6_inn_121 : xdec cX6_inn 121 = some (.aload_n 0, 122, 0, 0) := by decide +kernel
theorem xX6_inn_122 : xdec cX6_inn 122 = some (.iload_n 3, 123, 3, 0) := by decide +kernel
theorem xX6_inn_123 : xdec cX6_inn 123 = some (.invokevirtual 193, 126, 0, 0) := by decide +kernel
theorem xX6_inn_126 : xdec cX6_inn 126 = some (.ifCond .ne 18, 129, 144, 0) := by decide +kernel
theorem xX6_inn_129 : xdec cX6_inn 129 = some (.aload_n 0, 130, 0, 0) := by decide +kernel
theorem xX6_inn_130 : xdec cX6_inn 130 = some (.invokevirtual 196, 133, 0, 0) := by decide +kernel
theorem xX6_inn_133 : xdec cX6_inn 133 = some (.sipush (-2000), 136, 0, (-2000)) := by decide +kernel
theorem xX6_inn_136 : xdec cX6_inn 136 = some (.aload_n 0, 137, 0, 0) := by decide +kernel
theorem xX6_inn_137 : xdec cX6_inn 137 = some (.getfield 47, 140, 47, 0) := by decide +kernel
theorem xX6_inn_140 : xdec cX6_inn 140 = some (.iload_n 3, 141, 3, 0) := by decide +kernel
theorem xX6_inn_141 : xdec cX6_inn 141 = some (.iaload, 142, 0, 0) := by decide +kernel
theorem xX6_inn_142 : xdec cX6_inn 142 = some (.isub, 143, 0, 0) := by decide +kernel
theorem xX6_inn_143 : xdec cX6_inn 143 = some (.ireturn, 144, 0, 0) := by decide +kernel
theorem xX6_inn_144 : xdec cX6_inn 144 = some (.iinc 3 1, 147, 3, 1) := by decide +kernel
theorem xX6_inn_147 : xdec cX6_inn 147 = some (.goto (-34), 150, 113, 0) := by decide +kernel
theorem xX6_inn_150 : xdec cX6_inn 150 = some (.aload_n 0, 151, 0, 0) := by decide +kernel
theorem xX6_inn_151 : xdec cX6_inn 151 = some (.getfield 155, 154, 155, 0) := by decide +kernel
theorem xX6_inn_154 : xdec cX6_inn 154 = some (.ireturn, 155, 0, 0) := by decide +kernel
theorem xX6_carry_0 : xdec cX6_carry 0 = some (.aload_n 0, 1, 0, 0) := by decide +kernel
theorem xX6_carry_1 : xdec cX6_carry 1 = some (.getfield 199, 4, 199, 0) := by decide +kernel
theorem xX6_carry_4 : xdec cX6_carry 4 = some (.ifCond .eq 13, 7, 17, 0) := by decide +kernel
theorem xX6_carry_7 : xdec cX6_carry 7 = some (.aload_n 0, 8, 0, 0) := by decide +kernel
theorem xX6_carry_8 : xdec cX6_carry 8 = some (.getfield 202, 11, 202, 0) := by decide +kernel
theorem xX6_carry_11 : xdec cX6_carry 11 = some (.aload_n 0, 12, 0, 0) := by decide +kernel
theorem xX6_carry_12 : xdec cX6_carry 12 = some (.getfield 205, 15, 205, 0) := by decide +kernel
theorem xX6_carry_15 : xdec cX6_carry 15 = some (.iload_n 1, 16, 1, 0) := by decide +kernel
theorem xX6_carry_16 : xdec cX6_carry 16 = some (.iastore, 17, 0, 0) := by decide +kernel
theorem xX6_carry_17 : xdec cX6_carry 17 = some (.aload_n 0, 18, 0, 0) := by decide +kernel
theorem xX6_carry_18 : xdec cX6_carry 18 = some (.dup, 19, 0, 0) := by decide +kernel
theorem xX6_carry_19 : xdec cX6_carry 19 = some (.getfield 205, 22, 205, 0) := by decide +kernel
theorem xX6_carry_22 : xdec cX6_carry 22 = some (.iconst 1, 23, 0, 1) := by decide +kernel
theorem xX6_carry_23 : xdec cX6_carry 23 = some (.iadd, 24, 0, 0) := by decide +kernel
theorem xX6_carry_24 : xdec cX6_carry 24 = some (.putfield 205, 27, 205, 0) := by decide +kernel
theorem xX6_carry_27 : xdec cX6_carry 27 = some (.aload_n 0, 28, 0, 0) := by decide +kernel
theorem xX6_carry_28 : xdec cX6_carry 28 = some (.getfield 202, 31, 202, 0) := by decide +kernel
theorem xX6_carry_31 : xdec cX6_carry 31 = some (.aload_n 0, 32, 0, 0) := by decide +kernel
theorem xX6_carry_32 : xdec cX6_carry 32 = some (.getfield 205, 35, 205, 0) := by decide +kernel
theorem xX6_carry_35 : xdec cX6_carry 35 = some (.iconst 1, 36, 0, 1) := by decide +kernel
theorem xX6_carry_36 : xdec cX6_carry 36 = some (.isub, 37, 0, 0) := by decide +kernel
theorem xX6_carry_37 : xdec cX6_carry 37 = some (.iaload, 38, 0, 0) := by decide +kernel
theorem xX6_carry_38 : xdec cX6_carry 38 = some (.ireturn, 39, 0, 0) := by decide +kernel
theorem xX6_carryAll_0 : xdec cX6_carryAll 0 = some (.aload_n 0, 1, 0, 0) := by decide +kernel
theorem xX6_carryAll_1 : xdec cX6_carryAll 1 = some (.aload_n 1, 2, 1, 0) := by decide +kernel
theorem xX6_carryAll_2 : xdec cX6_carryAll 2 = some (.putfield 202, 5, 202, 0) := by decide +kernel
theorem xX6_carryAll_5 : xdec cX6_carryAll 5 = some (.aload_n 0, 6, 0, 0) := by decide +kernel
theorem xX6_carryAll_6 : xdec cX6_carryAll 6 = some (.iload_n 2, 7, 2, 0) := by decide +kernel
theorem xX6_carryAll_7 : xdec cX6_carryAll 7 = some (.putfield 199, 10, 199, 0) := by decide +kernel
theorem xX6_carryAll_10 : xdec cX6_carryAll 10 = some (.aload_n 0, 11, 0, 0) := by decide +kernel
theorem xX6_carryAll_11 : xdec cX6_carryAll 11 = some (.iconst 0, 12, 0, 0) := by decide +kernel
theorem xX6_carryAll_12 : xdec cX6_carryAll 12 = some (.putfield 205, 15, 205, 0) := by decide +kernel
theorem xX6_carryAll_15 : xdec cX6_carryAll 15 = some (.aload_n 0, 16, 0, 0) := by decide +kernel
theorem xX6_carryAll_16 : xdec cX6_carryAll 16 = some (.aload_n 0, 17, 0, 0) := by decide +kernel
theorem xX6_carryAll_17 : xdec cX6_carryAll 17 = some (.aload_n 0, 18, 0, 0) := by decide +kernel
theorem xX6_carryAll_18 : xdec cX6_carryAll 18 = some (.getfield 85, 21, 85, 0) := by decide +kernel
theorem xX6_carryAll_21 : xdec cX6_carryAll 21 = some (.invokevirtual 208, 24, 0, 0) := by decide +kernel
theorem xX6_carryAll_24 : xdec cX6_carryAll 24 = some (.putfield 85, 27, 85, 0) := by decide +kernel
theorem xX6_carryAll_27 : xdec cX6_carryAll 27 = some (.aload_n 0, 28, 0, 0) := by decide +kernel
theorem xX6_carryAll_28 : xdec cX6_carryAll 28 = some (.aload_n 0, 29, 0, 0) := by decide +kernel
theorem xX6_carryAll_29 : xdec cX6_carryAll 29 = some (.aload_n 0, 30, 0, 0) := by decide +kernel
theorem xX6_carryAll_30 : xdec cX6_carryAll 30 = some (.getfield 125, 33, 125, 0) := by decide +kernel
theorem xX6_carryAll_33 : xdec cX6_carryAll 33 = some (.invokevirtual 208, 36, 0, 0) := by decide +kernel
theorem xX6_carryAll_36 : xdec cX6_carryAll 36 = some (.putfield 125, 39, 125, 0) := by decide +kernel
theorem xX6_carryAll_39 : xdec cX6_carryAll 39 = some (.aload_n 0, 40, 0, 0) := by decide +kernel
theorem xX6_carryAll_40 : xdec cX6_carryAll 40 = some (.aload_n 0, 41, 0, 0) := by decide +kernel
theorem xX6_carryAll_41 : xdec cX6_carryAll 41 = some (.aload_n 0, 42, 0, 0) := by decide +kernel
theorem xX6_carryAll_42 : xdec cX6_carryAll 42 = some (.getfield 116, 45, 116, 0) := by decide +kernel
theorem xX6_carryAll_45 : xdec cX6_carryAll 45 = some (.invokevirtual 208, 48, 0, 0) := by decide +kernel
theorem xX6_carryAll_48 : xdec cX6_carryAll 48 = some (.putfield 116, 51, 116, 0) := by decide +kernel
theorem xX6_carryAll_51 : xdec cX6_carryAll 51 = some (.aload_n 0, 52, 0, 0) := by decide +kernel
theorem xX6_carryAll_52 : xdec cX6_carryAll 52 = some (.aload_n 0, 53, 0, 0) := by decide +kernel
theorem xX6_carryAll_53 : xdec cX6_carryAll 53 = some (.aload_n 0, 54, 0, 0) := by decide +kernel
theorem xX6_carryAll_54 : xdec cX6_carryAll 54 = some (.getfield 122, 57, 122, 0) := by decide +kernel
theorem xX6_carryAll_57 : xdec cX6_carryAll 57 = some (.invokevirtual 208, 60, 0, 0) := by decide +kernel
theorem xX6_carryAll_60 : xdec cX6_carryAll 60 = some (.putfield 122, 63, 122, 0) := by decide +kernel
theorem xX6_carryAll_63 : xdec cX6_carryAll 63 = some (.aload_n 0, 64, 0, 0) := by decide +kernel
theorem xX6_carryAll_64 : xdec cX6_carryAll 64 = some (.aload_n 0, 65, 0, 0) := by decide +kernel
theorem xX6_carryAll_65 : xdec cX6_carryAll 65 = some (.aload_n 0, 66, 0, 0) := by decide +kernel
theorem xX6_carryAll_66 : xdec cX6_carryAll 66 = some (.getfield 92, 69, 92, 0) := by decide +kernel
theorem xX6_carryAll_69 : xdec cX6_carryAll 69 = some (.invokevirtual 208, 72, 0, 0) := by decide +kernel
theorem xX6_carryAll_72 : xdec cX6_carryAll 72 = some (.putfield 92, 75, 92, 0) := by decide +kernel
theorem xX6_carryAll_75 : xdec cX6_carryAll 75 = some (.iconst 0, 76, 0, 0) := by decide +kernel
theorem xX6_carryAll_76 : xdec cX6_carryAll 76 = some (.istore_n 3, 77, 3, 0) := by decide +kernel
theorem xX6_carryAll_77 : xdec cX6_carryAll 77 = some (.iload_n 3, 78, 3, 0) := by decide +kernel
theorem xX6_carryAll_78 : xdec cX6_carryAll 78 = some (.bipush 10, 80, 0, 10) := by decide +kernel
theorem xX6_carryAll_80 : xdec cX6_carryAll 80 = some (.if_icmp .ge 25, 83, 105, 0) := by decide +kernel
theorem xX6_carryAll_83 : xdec cX6_carryAll 83 = some (.aload_n 0, 84, 0, 0) := by decide +kernel
theorem xX6_carryAll_84 : xdec cX6_carryAll 84 = some (.getfield 7, 87, 7, 0) := by decide +kernel
theorem xX6_carryAll_87 : xdec cX6_carryAll 87 = some (.iload_n 3, 88, 3, 0) := by decide +kernel
theorem xX6_carryAll_88 : xdec cX6_carryAll 88 = some (.aload_n 0, 89, 0, 0) := by decide +kernel
theorem xX6_carryAll_89 : xdec cX6_carryAll 89 = some (.aload_n 0, 90, 0, 0) := by decide +kernel
theorem xX6_carryAll_90 : xdec cX6_carryAll 90 = some (.getfield 7, 93, 7, 0) := by decide +kernel
theorem xX6_carryAll_93 : xdec cX6_carryAll 93 = some (.iload_n 3, 94, 3, 0) := by decide +kernel
theorem xX6_carryAll_94 : xdec cX6_carryAll 94 = some (.iaload, 95, 0, 0) := by decide +kernel
theorem xX6_carryAll_95 : xdec cX6_carryAll 95 = some (.invokevirtual 208, 98, 0, 0) := by decide +kernel
theorem xX6_carryAll_98 : xdec cX6_carryAll 98 = some (.iastore, 99, 0, 0) := by decide +kernel
theorem xX6_carryAll_99 : xdec cX6_carryAll 99 = some (.iinc 3 1, 102, 3, 1) := by decide +kernel
theorem xX6_carryAll_102 : xdec cX6_carryAll 102 = some (.goto (-25), 105, 77, 0) := by decide +kernel
theorem xX6_carryAll_105 : xdec cX6_carryAll 105 = some (.iconst 0, 106, 0, 0) := by decide +kernel
theorem xX6_carryAll_106 : xdec cX6_carryAll 106 = some (.istore_n 3, 107, 3, 0) := by decide +kernel
theorem xX6_carryAll_107 : xdec cX6_carryAll 107 = some (.iload_n 3, 108, 3, 0) := by decide +kernel
theorem xX6_carryAll_108 : xdec cX6_carryAll 108 = some (.bipush 7, 110, 0, 7) := by decide +kernel
theorem xX6_carryAll_110 : xdec cX6_carryAll 110 = some (.if_icmp .ge 89, 113, 199, 0) := by decide +kernel
theorem xX6_carryAll_113 : xdec cX6_carryAll 113 = some (.aload_n 0, 114, 0, 0) := by decide +kernel
theorem xX6_carryAll_114 : xdec cX6_carryAll 114 = some (.getfield 13, 117, 13, 0) := by decide +kernel
theorem xX6_carryAll_117 : xdec cX6_carryAll 117 = some (.iload_n 3, 118, 3, 0) := by decide +kernel
theorem xX6_carryAll_118 : xdec cX6_carryAll 118 = some (.aload_n 0, 119, 0, 0) := by decide +kernel
theorem xX6_carryAll_119 : xdec cX6_carryAll 119 = some (.aload_n 0, 120, 0, 0) := by decide +kernel
theorem xX6_carryAll_120 : xdec cX6_carryAll 120 = some (.getfield 13, 123, 13, 0) := by decide +kernel
theorem xX6_carryAll_123 : xdec cX6_carryAll 123 = some (.iload_n 3, 124, 3, 0) := by decide +kernel
theorem xX6_carryAll_124 : xdec cX6_carryAll 124 = some (.iaload, 125, 0, 0) := by decide +kernel
theorem xX6_carryAll_125 : xdec cX6_carryAll 125 = some (.invokevirtual 208, 128, 0, 0) := by decide +kernel
theorem xX6_carryAll_128 : xdec cX6_carryAll 128 = some (.iastore, 129, 0, 0) := by decide +kernel
theorem xX6_carryAll_129 : xdec cX6_carryAll 129 = some (.aload_n 0, 130, 0, 0) := by decide +kernel
theorem xX6_carryAll_130 : xdec cX6_carryAll 130 = some (.getfield 16, 133, 16, 0) := by decide +kernel
theorem xX6_carryAll_133 : xdec cX6_carryAll 133 = some (.iload_n 3, 134, 3, 0) := by decide +kernel
theorem xX6_carryAll_134 : xdec cX6_carryAll 134 = some (.aload_n 0, 135, 0, 0) := by decide +kernel
theorem xX6_carryAll_135 : xdec cX6_carryAll 135 = some (.aload_n 0, 136, 0, 0) := by decide +kernel
theorem xX6_carryAll_136 : xdec cX6_carryAll 136 = some (.getfield 16, 139, 16, 0) := by decide +kernel
theorem xX6_carryAll_139 : xdec cX6_carryAll 139 = some (.iload_n 3, 140, 3, 0) := by decide +kernel
theorem xX6_carryAll_140 : xdec cX6_carryAll 140 = some (.iaload, 141, 0, 0) := by decide +kernel
theorem xX6_carryAll_141 : xdec cX6_carryAll 141 = some (.invokevirtual 208, 144, 0, 0) := by decide +kernel
theorem xX6_carryAll_144 : xdec cX6_carryAll 144 = some (.iastore, 145, 0, 0) := by decide +kernel
theorem xX6_carryAll_145 : xdec cX6_carryAll 145 = some (.aload_n 0, 146, 0, 0) := by decide +kernel
theorem xX6_carryAll_146 : xdec cX6_carryAll 146 = some (.getfield 19, 149, 19, 0) := by decide +kernel
theorem xX6_carryAll_149 : xdec cX6_carryAll 149 = some (.iload_n 3, 150, 3, 0) := by decide +kernel
theorem xX6_carryAll_150 : xdec cX6_carryAll 150 = some (.aload_n 0, 151, 0, 0) := by decide +kernel
theorem xX6_carryAll_151 : xdec cX6_carryAll 151 = some (.aload_n 0, 152, 0, 0) := by decide +kernel
theorem xX6_carryAll_152 : xdec cX6_carryAll 152 = some (.getfield 19, 155, 19, 0) := by decide +kernel
theorem xX6_carryAll_155 : xdec cX6_carryAll 155 = some (.iload_n 3, 156, 3, 0) := by decide +kernel
theorem xX6_carryAll_156 : xdec cX6_carryAll 156 = some (.iaload, 157, 0, 0) := by decide +kernel
theorem xX6_carryAll_157 : xdec cX6_carryAll 157 = some (.invokevirtual 208, 160, 0, 0) := by decide +kernel
theorem xX6_carryAll_160 : xdec cX6_carryAll 160 = some (.iastore, 161, 0, 0) := by decide +kernel
theorem xX6_carryAll_161 : xdec cX6_carryAll 161 = some (.aload_n 0, 162, 0, 0) := by decide +kernel
theorem xX6_carryAll_162 : xdec cX6_carryAll 162 = some (.getfield 22, 165, 22, 0) := by decide +kernel
theorem xX6_carryAll_165 : xdec cX6_carryAll 165 = some (.iload_n 3, 166, 3, 0) := by decide +kernel
theorem xX6_carryAll_166 : xdec cX6_carryAll 166 = some (.aload_n 0, 167, 0, 0) := by decide +kernel
theorem xX6_carryAll_167 : xdec cX6_carryAll 167 = some (.aload_n 0, 168, 0, 0) := by decide +kernel
theorem xX6_carryAll_168 : xdec cX6_carryAll 168 = some (.getfield 22, 171, 22, 0) := by decide +kernel
theorem xX6_carryAll_171 : xdec cX6_carryAll 171 = some (.iload_n 3, 172, 3, 0) := by decide +kernel
theorem xX6_carryAll_172 : xdec cX6_carryAll 172 = some (.iaload, 173, 0, 0) := by decide +kernel
theorem xX6_carryAll_173 : xdec cX6_carryAll 173 = some (.invokevirtual 208, 176, 0, 0) := by decide +kernel
theorem xX6_carryAll_176 : xdec cX6_carryAll 176 = some (.iastore, 177, 0, 0) := by decide +kernel
theorem xX6_carryAll_177 : xdec cX6_carryAll 177 = some (.aload_n 0, 178, 0, 0) := by decide +kernel
theorem xX6_carryAll_178 : xdec cX6_carryAll 178 = some (.getfield 25, 181, 25, 0) := by decide +kernel
theorem xX6_carryAll_181 : xdec cX6_carryAll 181 = some (.iload_n 3, 182, 3, 0) := by decide +kernel
theorem xX6_carryAll_182 : xdec cX6_carryAll 182 = some (.aload_n 0, 183, 0, 0) := by decide +kernel
theorem xX6_carryAll_183 : xdec cX6_carryAll 183 = some (.aload_n 0, 184, 0, 0) := by decide +kernel
theorem xX6_carryAll_184 : xdec cX6_carryAll 184 = some (.getfield 25, 187, 25, 0) := by decide +kernel
theorem xX6_carryAll_187 : xdec cX6_carryAll 187 = some (.iload_n 3, 188, 3, 0) := by decide +kernel
theorem xX6_carryAll_188 : xdec cX6_carryAll 188 = some (.iaload, 189, 0, 0) := by decide +kernel
theorem xX6_carryAll_189 : xdec cX6_carryAll 189 = some (.invokevirtual 208, 192, 0, 0) := by decide +kernel
theorem xX6_carryAll_192 : xdec cX6_carryAll 192 = some (.iastore, 193, 0, 0) := by decide +kernel
theorem xX6_carryAll_193 : xdec cX6_carryAll 193 = some (.iinc 3 1, 196, 3, 1) := by decide +kernel
theorem xX6_carryAll_196 : xdec cX6_carryAll 196 = some (.goto (-89), 199, 107, 0) := by decide +kernel
theorem xX6_carryAll_199 : xdec cX6_carryAll 199 = some (.return_, 200, 0, 0) := by decide +kernel
theorem xX6_think_0 : xdec cX6_think 0 = some (.aload_n 0, 1, 0, 0) := by decide +kernel
theorem xX6_think_1 : xdec cX6_think 1 = some (.aload_n 0, 2, 0, 0) := by decide +kernel
theorem xX6_think_2 : xdec cX6_think 2 = some (.getfield 56, 5, 56, 0) := by decide +kernel
theorem xX6_think_5 : xdec cX6_think 5 = some (.iconst 1, 6, 0, 1) := by decide +kernel
theorem xX6_think_6 : xdec cX6_think 6 = some (.invokevirtual 211, 9, 0, 0) := by decide +kernel
theorem xX6_think_9 : xdec cX6_think 9 = some (.return_, 10, 0, 0) := by decide +kernel
theorem xX6_again_0 : xdec cX6_again 0 = some (.aload_n 0, 1, 0, 0) := by decide +kernel
theorem xX6_again_1 : xdec cX6_again 1 = some (.aload_n 0, 2, 0, 0) := by decide +kernel
theorem xX6_again_2 : xdec cX6_again 2 = some (.getfield 56, 5, 56, 0) := by decide +kernel
theorem xX6_again_5 : xdec cX6_again 5 = some (.iconst 0, 6, 0, 0) := by decide +kernel
theorem xX6_again_6 : xdec cX6_again 6 = some (.invokevirtual 211, 9, 0, 0) := by decide +kernel
theorem xX6_again_9 : xdec cX6_again 9 = some (.return_, 10, 0, 0) := by decide +kernel
theorem xX6_image_0 : xdec cX6_image 0 = some (.aload_n 0, 1, 0, 0) := by decide +kernel
theorem xX6_image_1 : xdec cX6_image 1 = some (.iconst 0, 2, 0, 0) := by decide +kernel
theorem xX6_image_2 : xdec cX6_image 2 = some (.putfield 75, 5, 75, 0) := by decide +kernel
theorem xX6_image_5 : xdec cX6_image 5 = some (.aload_n 0, 6, 0, 0) := by decide +kernel
theorem xX6_image_6 : xdec cX6_image 6 = some (.iconst 1, 7, 0, 1) := by decide +kernel
theorem xX6_image_7 : xdec cX6_image 7 = some (.putfield 215, 10, 215, 0) := by decide +kernel
theorem xX6_image_10 : xdec cX6_image 10 = some (.aload_n 0, 11, 0, 0) := by decide +kernel
theorem xX6_image_11 : xdec cX6_image 11 = some (.aload_n 0, 12, 0, 0) := by decide +kernel
theorem xX6_image_12 : xdec cX6_image 12 = some (.getfield 59, 15, 59, 0) := by decide +kernel
theorem xX6_image_15 : xdec cX6_image 15 = some (.iconst 1, 16, 0, 1) := by decide +kernel
theorem xX6_image_16 : xdec cX6_image 16 = some (.invokevirtual 211, 19, 0, 0) := by decide +kernel
theorem xX6_image_19 : xdec cX6_image 19 = some (.aload_n 0, 20, 0, 0) := by decide +kernel
theorem xX6_image_20 : xdec cX6_image 20 = some (.getfield 92, 23, 92, 0) := by decide +kernel
theorem xX6_image_23 : xdec cX6_image 23 = some (.ireturn, 24, 0, 0) := by decide +kernel
theorem xX6_restore_0 : xdec cX6_restore 0 = some (.aload_n 0, 1, 0, 0) := by decide +kernel
theorem xX6_restore_1 : xdec cX6_restore 1 = some (.iconst 0, 2, 0, 0) := by decide +kernel
theorem xX6_restore_2 : xdec cX6_restore 2 = some (.putfield 75, 5, 75, 0) := by decide +kernel
theorem xX6_restore_5 : xdec cX6_restore 5 = some (.aload_n 0, 6, 0, 0) := by decide +kernel
theorem xX6_restore_6 : xdec cX6_restore 6 = some (.getfield 215, 9, 215, 0) := by decide +kernel
theorem xX6_restore_9 : xdec cX6_restore 9 = some (.ifCond .ne 6, 12, 15, 0) := by decide +kernel
theorem xX6_restore_12 : xdec cX6_restore 12 = some (.bipush (-3), 14, 0, (-3)) := by decide +kernel
theorem xX6_restore_14 : xdec cX6_restore 14 = some (.ireturn, 15, 0, 0) := by decide +kernel
theorem xX6_restore_15 : xdec cX6_restore 15 = some (.aload_n 0, 16, 0, 0) := by decide +kernel
theorem xX6_restore_16 : xdec cX6_restore 16 = some (.aload_n 0, 17, 0, 0) := by decide +kernel
theorem xX6_restore_17 : xdec cX6_restore 17 = some (.getfield 59, 20, 59, 0) := by decide +kernel
theorem xX6_restore_20 : xdec cX6_restore 20 = some (.iconst 0, 21, 0, 0) := by decide +kernel
theorem xX6_restore_21 : xdec cX6_restore 21 = some (.invokevirtual 211, 24, 0, 0) := by decide +kernel
theorem xX6_restore_24 : xdec cX6_restore 24 = some (.aload_n 0, 25, 0, 0) := by decide +kernel
theorem xX6_restore_25 : xdec cX6_restore 25 = some (.getfield 92, 28, 92, 0) := by decide +kernel
theorem xX6_restore_28 : xdec cX6_restore 28 = some (.ireturn, 29, 0, 0) := by decide +kernel
theorem xX6_guest_0 : xdec cX6_guest 0 = some (.aload_n 0, 1, 0, 0) := by decide +kernel
theorem xX6_guest_1 : xdec cX6_guest 1 = some (.iconst 0, 2, 0, 0) := by decide +kernel
theorem xX6_guest_2 : xdec cX6_guest 2 = some (.putfield 75, 5, 75, 0) := by decide +kernel
theorem xX6_guest_5 : xdec cX6_guest 5 = some (.aload_n 0, 6, 0, 0) := by decide +kernel
theorem xX6_guest_6 : xdec cX6_guest 6 = some (.iload_n 1, 7, 1, 0) := by decide +kernel
theorem xX6_guest_7 : xdec cX6_guest 7 = some (.invokevirtual 171, 10, 0, 0) := by decide +kernel
theorem xX6_guest_10 : xdec cX6_guest 10 = some (.ifCond .eq 15, 13, 25, 0) := by decide +kernel
theorem xX6_guest_13 : xdec cX6_guest 13 = some (.iload_n 2, 14, 2, 0) := by decide +kernel
theorem xX6_guest_14 : xdec cX6_guest 14 = some (.i2l, 15, 0, 0) := by decide +kernel
theorem xX6_guest_15 : xdec cX6_guest 15 = some (.lconst 0, 16, 0, 0) := by decide +kernel
theorem xX6_guest_16 : xdec cX6_guest 16 = some (.ldc2_w 218, 19, 218, 0) := by decide +kernel
theorem xX6_guest_19 : xdec cX6_guest 19 = some (.invokestatic 81, 22, 0, 0) := by decide +kernel
theorem xX6_guest_22 : xdec cX6_guest 22 = some (.ifCond .ne 5, 25, 27, 0) := by decide +kernel
theorem xX6_guest_25 : xdec cX6_guest 25 = some (.iconst (-1), 26, 0, (-1)) := by decide +kernel
theorem xX6_guest_26 : xdec cX6_guest 26 = some (.ireturn, 27, 0, 0) := by decide +kernel
theorem xX6_guest_27 : xdec cX6_guest 27 = some (.iload_n 2, 28, 2, 0) := by decide +kernel
theorem xX6_guest_28 : xdec cX6_guest 28 = some (.tableswitch 102 0 6 #[44, 51, 58, 65, 72, 79, 96], 72, 0, 0) := by decide +kernel
theorem xX6_guest_72 : xdec cX6_guest 72 = some (.aload_n 0, 73, 0, 0) := by decide +kernel
theorem xX6_guest_73 : xdec cX6_guest 73 = some (.getfield 13, 76, 13, 0) := by decide +kernel
theorem xX6_guest_76 : xdec cX6_guest 76 = some (.iload_n 1, 77, 1, 0) := by decide +kernel
theorem xX6_guest_77 : xdec cX6_guest 77 = some (.iaload, 78, 0, 0) := by decide +kernel
theorem xX6_guest_78 : xdec cX6_guest 78 = some (.ireturn, 79, 0, 0) := by decide +kernel
theorem xX6_guest_79 : xdec cX6_guest 79 = some (.aload_n 0, 80, 0, 0) := by decide +kernel
theorem xX6_guest_80 : xdec cX6_guest 80 = some (.getfield 16, 83, 16, 0) := by decide +kernel
theorem xX6_guest_83 : xdec cX6_guest 83 = some (.iload_n 1, 84, 1, 0) := by decide +kernel
theorem xX6_guest_84 : xdec cX6_guest 84 = some (.iaload, 85, 0, 0) := by decide +kernel
theorem xX6_guest_85 : xdec cX6_guest 85 = some (.ireturn, 86, 0, 0) := by decide +kernel
theorem xX6_guest_86 : xdec cX6_guest 86 = some (.aload_n 0, 87, 0, 0) := by decide +kernel
theorem xX6_guest_87 : xdec cX6_guest 87 = some (.getfield 19, 90, 19, 0) := by decide +kernel
theorem xX6_guest_90 : xdec cX6_guest 90 = some (.iload_n 1, 91, 1, 0) := by decide +kernel
theorem xX6_guest_91 : xdec cX6_guest 91 = some (.iaload, 92, 0, 0) := by decide +kernel
theorem xX6_guest_92 : xdec cX6_guest 92 = some (.ireturn, 93, 0, 0) := by decide +kernel
theorem xX6_guest_93 : xdec cX6_guest 93 = some (.aload_n 0, 94, 0, 0) := by decide +kernel
theorem xX6_guest_94 : xdec cX6_guest 94 = some (.getfield 22, 97, 22, 0) := by decide +kernel
theorem xX6_guest_97 : xdec cX6_guest 97 = some (.iload_n 1, 98, 1, 0) := by decide +kernel
theorem xX6_guest_98 : xdec cX6_guest 98 = some (.iaload, 99, 0, 0) := by decide +kernel
theorem xX6_guest_99 : xdec cX6_guest 99 = some (.ireturn, 100, 0, 0) := by decide +kernel
theorem xX6_guest_100 : xdec cX6_guest 100 = some (.aload_n 0, 101, 0, 0) := by decide +kernel
theorem xX6_guest_101 : xdec cX6_guest 101 = some (.getfield 25, 104, 25, 0) := by decide +kernel
theorem xX6_guest_104 : xdec cX6_guest 104 = some (.iload_n 1, 105, 1, 0) := by decide +kernel
theorem xX6_guest_105 : xdec cX6_guest 105 = some (.iaload, 106, 0, 0) := by decide +kernel
theorem xX6_guest_106 : xdec cX6_guest 106 = some (.ireturn, 107, 0, 0) := by decide +kernel
theorem xX6_guest_107 : xdec cX6_guest 107 = some (.aload_n 0, 108, 0, 0) := by decide +kernel
theorem xX6_guest_108 : xdec cX6_guest 108 = some (.getfield 125, 111, 125, 0) := by decide +kernel
theorem xX6_guest_111 : xdec cX6_guest 111 = some (.iload_n 1, 112, 1, 0) := by decide +kernel
theorem xX6_guest_112 : xdec cX6_guest 112 = some (.invokestatic 105, 115, 0, 0) := by decide +kernel
theorem xX6_guest_115 : xdec cX6_guest 115 = some (.ifCond .eq 7, 118, 122, 0) := by decide +kernel
theorem xX6_guest_118 : xdec cX6_guest 118 = some (.iconst 1, 119, 0, 1) := by decide +kernel
theorem xX6_guest_119 : xdec cX6_guest 119 = some (.goto 4, 122, 123, 0) := by decide +kernel
theorem xX6_guest_122 : xdec cX6_guest 122 = some (.iconst 0, 123, 0, 0) := by decide +kernel
theorem xX6_guest_123 : xdec cX6_guest 123 = some (.ireturn, 124, 0, 0) := by decide +kernel
theorem xX6_guest_124 : xdec cX6_guest 124 = some (.aload_n 0, 125, 0, 0) := by decide +kernel
theorem xX6_guest_125 : xdec cX6_guest 125 = some (.iload_n 1, 126, 1, 0) := by decide +kernel
theorem xX6_guest_126 : xdec cX6_guest 126 = some (.invokevirtual 109, 129, 0, 0) := by decide +kernel
theorem xX6_guest_129 : xdec cX6_guest 129 = some (.ireturn, 130, 0, 0) := by decide +kernel
theorem xX6_guest_130 : xdec cX6_guest 130 = some (.aload_n 0, 131, 0, 0) := by decide +kernel
theorem xX6_guest_131 : xdec cX6_guest 131 = some (.iload_n 1, 132, 1, 0) := by decide +kernel
theorem xX6_guest_132 : xdec cX6_guest 132 = some (.aload_n 0, 133, 0, 0) := by decide +kernel
theorem xX6_guest_133 : xdec cX6_guest 133 = some (.getfield 19, 136, 19, 0) := by decide +kernel
theorem xX6_guest_136 : xdec cX6_guest 136 = some (.iload_n 1, 137, 1, 0) := by decide +kernel
theorem xX6_guest_137 : xdec cX6_guest 137 = some (.iaload, 138, 0, 0) := by decide +kernel
theorem xX6_guest_138 : xdec cX6_guest 138 = some (.invokevirtual 113, 141, 0, 0) := by decide +kernel
theorem xX6_guest_141 : xdec cX6_guest 141 = some (.bipush 10, 143, 0, 10) := by decide +kernel
theorem xX6_guest_143 : xdec cX6_guest 143 = some (.iadd, 144, 0, 0) := by decide +kernel
theorem xX6_guest_144 : xdec cX6_guest 144 = some (.ireturn, 145, 0, 0) := by decide +kernel
theorem xX6_larder_0 : xdec cX6_larder 0 = some (.aload_n 0, 1, 0, 0) := by decide +kernel
theorem xX6_larder_1 : xdec cX6_larder 1 = some (.iconst 0, 2, 0, 0) := by decide +kernel
theorem xX6_larder_2 : xdec cX6_larder 2 = some (.putfield 75, 5, 75, 0) := by decide +kernel
theorem xX6_larder_5 : xdec cX6_larder 5 = some (.iload_n 1, 6, 1, 0) := by decide +kernel
theorem xX6_larder_6 : xdec cX6_larder 6 = some (.invokestatic 220, 9, 0, 0) := by decide +kernel
theorem xX6_larder_9 : xdec cX6_larder 9 = some (.ifCond .eq 12, 12, 21, 0) := by decide +kernel
theorem xX6_larder_12 : xdec cX6_larder 12 = some (.aload_n 0, 13, 0, 0) := by decide +kernel
theorem xX6_larder_13 : xdec cX6_larder 13 = some (.getfield 7, 16, 7, 0) := by decide +kernel
theorem xX6_larder_16 : xdec cX6_larder 16 = some (.iload_n 1, 17, 1, 0) := by decide +kernel
theorem xX6_larder_17 : xdec cX6_larder 17 = some (.iaload, 18, 0, 0) := by decide +kernel
theorem xX6_larder_18 : xdec cX6_larder 18 = some (.goto 4, 21, 22, 0) := by decide +kernel
theorem xX6_larder_21 : xdec cX6_larder 21 = some (.iconst (-1), 22, 0, (-1)) := by decide +kernel
theorem xX6_larder_22 : xdec cX6_larder 22 = some (.ireturn, 23, 0, 0) := by decide +kernel
theorem xX6_comes_0 : xdec cX6_comes 0 = some (.aload_n 0, 1, 0, 0) := by decide +kernel
theorem xX6_comes_1 : xdec cX6_comes 1 = some (.iconst 0, 2, 0, 0) := by decide +kernel
theorem xX6_comes_2 : xdec cX6_comes 2 = some (.putfield 75, 5, 75, 0) := by decide +kernel
theorem xX6_comes_5 : xdec cX6_comes 5 = some (.iload_n 1, 6, 1, 0) := by decide +kernel
theorem xX6_comes_6 : xdec cX6_comes 6 = some (.i2l, 7, 0, 0) := by decide +kernel
theorem xX6_comes_7 : xdec cX6_comes 7 = some (.lconst 0, 8, 0, 0) := by decide +kernel
theorem xX6_comes_8 : xdec cX6_comes 8 = some (.ldc2_w 218, 11, 218, 0) := by decide +kernel
theorem xX6_comes_11 : xdec cX6_comes 11 = some (.invokestatic 81, 14, 0, 0) := by decide +kernel
theorem xX6_comes_14 : xdec cX6_comes 14 = some (.ifCond .eq 10, 17, 24, 0) := by decide +kernel
theorem xX6_comes_17 : xdec cX6_comes 17 = some (.iload_n 2, 18, 2, 0) := by decide +kernel
theorem xX6_comes_18 : xdec cX6_comes 18 = some (.invokestatic 220, 21, 0, 0) := by decide +kernel
theorem xX6_comes_21 : xdec cX6_comes 21 = some (.ifCond .ne 5, 24, 26, 0) := by decide +kernel
theorem xX6_comes_24 : xdec cX6_comes 24 = some (.iconst (-1), 25, 0, (-1)) := by decide +kernel
theorem xX6_comes_25 : xdec cX6_comes 25 = some (.ireturn, 26, 0, 0) := by decide +kernel
theorem xX6_comes_26 : xdec cX6_comes 26 = some (.aload_n 0, 27, 0, 0) := by decide +kernel
theorem xX6_comes_27 : xdec cX6_comes 27 = some (.iload_n 1, 28, 1, 0) := by decide +kernel
theorem xX6_comes_28 : xdec cX6_comes 28 = some (.invokevirtual 223, 31, 0, 0) := by decide +kernel
theorem xX6_comes_31 : xdec cX6_comes 31 = some (.ifCond .lt 12, 34, 43, 0) := by decide +kernel
theorem xX6_comes_34 : xdec cX6_comes 34 = some (.aload_n 0, 35, 0, 0) := by decide +kernel
theorem xX6_comes_35 : xdec cX6_comes 35 = some (.getfield 85, 38, 85, 0) := by decide +kernel
theorem xX6_comes_38 : xdec cX6_comes 38 = some (.bipush 7, 40, 0, 7) := by decide +kernel
theorem xX6_comes_40 : xdec cX6_comes 40 = some (.if_icmp .ne 22, 43, 62, 0) := by decide +kernel
theorem xX6_comes_43 : xdec cX6_comes 43 = some (.aload_n 0, 44, 0, 0) := by decide +kernel
theorem xX6_comes_44 : xdec cX6_comes 44 = some (.iload_n 1, 45, 1, 0) := by decide +kernel
theorem xX6_comes_45 : xdec cX6_comes 45 = some (.invokevirtual 223, 48, 0, 0) := by decide +kernel
theorem xX6_comes_48 : xdec cX6_comes 48 = some (.ifCond .ge 11, 51, 59, 0) := by decide +kernel
theorem xX6_comes_51 : xdec cX6_comes 51 = some (.aload_n 0, 52, 0, 0) := by decide +kernel
theorem xX6_comes_52 : xdec cX6_comes 52 = some (.iload_n 1, 53, 1, 0) := by decide +kernel
theorem xX6_comes_53 : xdec cX6_comes 53 = some (.invokevirtual 223, 56, 0, 0) := by decide +kernel
theorem xX6_comes_56 : xdec cX6_comes 56 = some (.goto 5, 59, 61, 0) := by decide +kernel
theorem xX6_comes_59 : xdec cX6_comes 59 = some (.bipush (-2), 61, 0, (-2)) := by decide +kernel
theorem xX6_comes_61 : xdec cX6_comes 61 = some (.ireturn, 62, 0, 0) := by decide +kernel
theorem xX6_comes_62 : xdec cX6_comes 62 = some (.aload_n 0, 63, 0, 0) := by decide +kernel
theorem xX6_comes_63 : xdec cX6_comes 63 = some (.aload_n 0, 64, 0, 0) := by decide +kernel
theorem xX6_comes_64 : xdec cX6_comes 64 = some (.getfield 31, 67, 31, 0) := by decide +kernel
theorem xX6_comes_67 : xdec cX6_comes 67 = some (.iload_n 1, 68, 1, 0) := by decide +kernel
theorem xX6_comes_68 : xdec cX6_comes 68 = some (.iaload, 69, 0, 0) := by decide +kernel
theorem xX6_comes_69 : xdec cX6_comes 69 = some (.aload_n 0, 70, 0, 0) := by decide +kernel
theorem xX6_comes_70 : xdec cX6_comes 70 = some (.getfield 34, 73, 34, 0) := by decide +kernel
theorem xX6_comes_73 : xdec cX6_comes 73 = some (.iload_n 1, 74, 1, 0) := by decide +kernel
theorem xX6_comes_74 : xdec cX6_comes 74 = some (.iaload, 75, 0, 0) := by decide +kernel
theorem xX6_comes_75 : xdec cX6_comes 75 = some (.iload_n 2, 76, 2, 0) := by decide +kernel
theorem xX6_comes_76 : xdec cX6_comes 76 = some (.invokevirtual 174, 79, 0, 0) := by decide +kernel
theorem xX6_comes_79 : xdec cX6_comes 79 = some (.pop, 80, 0, 0) := by decide +kernel
theorem xX6_comes_80 : xdec cX6_comes 80 = some (.aload_n 0, 81, 0, 0) := by decide +kernel
theorem xX6_comes_81 : xdec cX6_comes 81 = some (.getfield 85, 84, 85, 0) := by decide +kernel
theorem xX6_comes_84 : xdec cX6_comes 84 = some (.iconst 1, 85, 0, 1) := by decide +kernel
theorem xX6_comes_85 : xdec cX6_comes 85 = some (.isub, 86, 0, 0) := by decide +kernel
theorem xX6_comes_86 : xdec cX6_comes 86 = some (.ireturn, 87, 0, 0) := by decide +kernel
theorem xX6_wishes_0 : xdec cX6_wishes 0 = some (.aload_n 0, 1, 0, 0) := by decide +kernel
theorem xX6_wishes_1 : xdec cX6_wishes 1 = some (.iconst 0, 2, 0, 0) := by decide +kernel
theorem xX6_wishes_2 : xdec cX6_wishes 2 = some (.putfield 75, 5, 75, 0) := by decide +kernel
theorem xX6_wishes_5 : xdec cX6_wishes 5 = some (.aload_n 0, 6, 0, 0) := by decide +kernel
theorem xX6_wishes_6 : xdec cX6_wishes 6 = some (.iload_n 1, 7, 1, 0) := by decide +kernel
theorem xX6_wishes_7 : xdec cX6_wishes 7 = some (.invokevirtual 171, 10, 0, 0) := by decide +kernel
theorem xX6_wishes_10 : xdec cX6_wishes 10 = some (.ifCond .eq 10, 13, 20, 0) := by decide +kernel
theorem xX6_wishes_13 : xdec cX6_wishes 13 = some (.iload_n 2, 14, 2, 0) := by decide +kernel
theorem xX6_wishes_14 : xdec cX6_wishes 14 = some (.invokestatic 220, 17, 0, 0) := by decide +kernel
theorem xX6_wishes_17 : xdec cX6_wishes 17 = some (.ifCond .ne 5, 20, 22, 0) := by decide +kernel
theorem xX6_wishes_20 : xdec cX6_wishes 20 = some (.iconst (-1), 21, 0, (-1)) := by decide +kernel
theorem xX6_wishes_21 : xdec cX6_wishes 21 = some (.ireturn, 22, 0, 0) := by decide +kernel
theorem xX6_wishes_22 : xdec cX6_wishes 22 = some (.aload_n 0, 23, 0, 0) := by decide +kernel
theorem xX6_wishes_23 : xdec cX6_wishes 23 = some (.getfield 19, 26, 19, 0) := by decide +kernel
theorem xX6_wishes_26 : xdec cX6_wishes 26 = some (.iload_n 1, 27, 1, 0) := by decide +kernel
theorem xX6_wishes_27 : xdec cX6_wishes 27 = some (.iaload, 28, 0, 0) := by decide +kernel
theorem xX6_wishes_28 : xdec cX6_wishes 28 = some (.istore_n 3, 29, 3, 0) := by decide +kernel
theorem xX6_wishes_29 : xdec cX6_wishes 29 = some (.aload_n 0, 30, 0, 0) := by decide +kernel
theorem xX6_wishes_30 : xdec cX6_wishes 30 = some (.getfield 19, 33, 19, 0) := by decide +kernel
theorem xX6_wishes_33 : xdec cX6_wishes 33 = some (.iload_n 1, 34, 1, 0) := by decide +kernel
theorem xX6_wishes_34 : xdec cX6_wishes 34 = some (.iload_n 2, 35, 2, 0) := by decide +kernel
theorem xX6_wishes_35 : xdec cX6_wishes 35 = some (.iastore, 36, 0, 0) := by decide +kernel
theorem xX6_wishes_36 : xdec cX6_wishes 36 = some (.iload_n 3, 37, 3, 0) := by decide +kernel
theorem xX6_wishes_37 : xdec cX6_wishes 37 = some (.ireturn, 38, 0, 0) := by decide +kernel
theorem xX6_heals_0 : xdec cX6_heals 0 = some (.aload_n 0, 1, 0, 0) := by decide +kernel
theorem xX6_heals_1 : xdec cX6_heals 1 = some (.iconst 0, 2, 0, 0) := by decide +kernel
theorem xX6_heals_2 : xdec cX6_heals 2 = some (.putfield 75, 5, 75, 0) := by decide +kernel
theorem xX6_heals_5 : xdec cX6_heals 5 = some (.aload_n 0, 6, 0, 0) := by decide +kernel
theorem xX6_heals_6 : xdec cX6_heals 6 = some (.iload_n 1, 7, 1, 0) := by decide +kernel
theorem xX6_heals_7 : xdec cX6_heals 7 = some (.invokevirtual 171, 10, 0, 0) := by decide +kernel
theorem xX6_heals_10 : xdec cX6_heals 10 = some (.ifCond .eq 15, 13, 25, 0) := by decide +kernel
theorem xX6_heals_13 : xdec cX6_heals 13 = some (.iload_n 2, 14, 2, 0) := by decide +kernel
theorem xX6_heals_14 : xdec cX6_heals 14 = some (.i2l, 15, 0, 0) := by decide +kernel
theorem xX6_heals_15 : xdec cX6_heals 15 = some (.lconst 1, 16, 0, 1) := by decide +kernel
theorem xX6_heals_16 : xdec cX6_heals 16 = some (.ldc2_w 226, 19, 226, 0) := by decide +kernel
theorem xX6_heals_19 : xdec cX6_heals 19 = some (.invokestatic 81, 22, 0, 0) := by decide +kernel
theorem xX6_heals_22 : xdec cX6_heals 22 = some (.ifCond .ne 5, 25, 27, 0) := by decide +kernel
theorem xX6_heals_25 : xdec cX6_heals 25 = some (.iconst (-1), 26, 0, (-1)) := by decide +kernel
theorem xX6_heals_26 : xdec cX6_heals 26 = some (.ireturn, 27, 0, 0) := by decide +kernel
theorem xX6_heals_27 : xdec cX6_heals 27 = some (.aload_n 0, 28, 0, 0) := by decide +kernel
theorem xX6_heals_28 : xdec cX6_heals 28 = some (.getfield 125, 31, 125, 0) := by decide +kernel
theorem xX6_heals_31 : xdec cX6_heals 31 = some (.iload_n 1, 32, 1, 0) := by decide +kernel
theorem xX6_heals_32 : xdec cX6_heals 32 = some (.invokestatic 105, 35, 0, 0) := by decide +kernel
theorem xX6_heals_35 : xdec cX6_heals 35 = some (.ifCond .ne 6, 38, 41, 0) := by decide +kernel
theorem xX6_heals_38 : xdec cX6_heals 38 = some (.bipush (-3), 40, 0, (-3)) := by decide +kernel
theorem xX6_heals_40 : xdec cX6_heals 40 = some (.ireturn, 41, 0, 0) := by decide +kernel
theorem xX6_heals_41 : xdec cX6_heals 41 = some (.aload_n 0, 42, 0, 0) := by decide +kernel
theorem xX6_heals_42 : xdec cX6_heals 42 = some (.getfield 25, 45, 25, 0) := by decide +kernel
theorem xX6_heals_45 : xdec cX6_heals 45 = some (.iload_n 1, 46, 1, 0) := by decide +kernel
theorem xX6_heals_46 : xdec cX6_heals 46 = some (.iaload, 47, 0, 0) := by decide +kernel
theorem xX6_heals_47 : xdec cX6_heals 47 = some (.istore_n 3, 48, 3, 0) := by decide +kernel
theorem xX6_heals_48 : xdec cX6_heals 48 = some (.aload_n 0, 49, 0, 0) := by decide +kernel
theorem xX6_heals_49 : xdec cX6_heals 49 = some (.getfield 25, 52, 25, 0) := by decide +kernel
theorem xX6_heals_52 : xdec cX6_heals 52 = some (.iload_n 1, 53, 1, 0) := by decide +kernel
theorem xX6_heals_53 : xdec cX6_heals 53 = some (.iload_n 2, 54, 2, 0) := by decide +kernel
theorem xX6_heals_54 : xdec cX6_heals 54 = some (.iastore, 55, 0, 0) := by decide +kernel
theorem xX6_heals_55 : xdec cX6_heals 55 = some (.iload_n 3, 56, 3, 0) := by decide +kernel
theorem xX6_heals_56 : xdec cX6_heals 56 = some (.ireturn, 57, 0, 0) := by decide +kernel
theorem xX6_fills_0 : xdec cX6_fills 0 = some (.aload_n 0, 1, 0, 0) := by decide +kernel
theorem xX6_fills_1 : xdec cX6_fills 1 = some (.iconst 0, 2, 0, 0) := by decide +kernel
theorem xX6_fills_2 : xdec cX6_fills 2 = some (.putfield 75, 5, 75, 0) := by decide +kernel
theorem xX6_fills_5 : xdec cX6_fills 5 = some (.iload_n 1, 6, 1, 0) := by decide +kernel
theorem xX6_fills_6 : xdec cX6_fills 6 = some (.invokestatic 220, 9, 0, 0) := by decide +kernel
theorem xX6_fills_9 : xdec cX6_fills 9 = some (.ifCond .eq 15, 12, 24, 0) := by decide +kernel
theorem xX6_fills_12 : xdec cX6_fills 12 = some (.iload_n 2, 13, 2, 0) := by decide +kernel
theorem xX6_fills_13 : xdec cX6_fills 13 = some (.i2l, 14, 0, 0) := by decide +kernel
theorem xX6_fills_14 : xdec cX6_fills 14 = some (.lconst 0, 15, 0, 0) := by decide +kernel
theorem xX6_fills_15 : xdec cX6_fills 15 = some (.ldc2_w 226, 18, 226, 0) := by decide +kernel
theorem xX6_fills_18 : xdec cX6_fills 18 = some (.invokestatic 81, 21, 0, 0) := by decide +kernel
theorem xX6_fills_21 : xdec cX6_fills 21 = some (.ifCond .ne 5, 24, 26, 0) := by decide +kernel
theorem xX6_fills_24 : xdec cX6_fills 24 = some (.iconst (-1), 25, 0, (-1)) := by decide +kernel
theorem xX6_fills_25 : xdec cX6_fills 25 = some (.ireturn, 26, 0, 0) := by decide +kernel
theorem xX6_fills_26 : xdec cX6_fills 26 = some (.aload_n 0, 27, 0, 0) := by decide +kernel
theorem xX6_fills_27 : xdec cX6_fills 27 = some (.getfield 7, 30, 7, 0) := by decide +kernel
theorem xX6_fills_30 : xdec cX6_fills 30 = some (.iload_n 1, 31, 1, 0) := by decide +kernel
theorem xX6_fills_31 : xdec cX6_fills 31 = some (.iaload, 32, 0, 0) := by decide +kernel
theorem xX6_fills_32 : xdec cX6_fills 32 = some (.istore_n 3, 33, 3, 0) := by decide +kernel
theorem xX6_fills_33 : xdec cX6_fills 33 = some (.aload_n 0, 34, 0, 0) := by decide +kernel
theorem xX6_fills_34 : xdec cX6_fills 34 = some (.getfield 7, 37, 7, 0) := by decide +kernel
theorem xX6_fills_37 : xdec cX6_fills 37 = some (.iload_n 1, 38, 1, 0) := by decide +kernel
theorem xX6_fills_38 : xdec cX6_fills 38 = some (.iload_n 2, 39, 2, 0) := by decide +kernel
theorem xX6_fills_39 : xdec cX6_fills 39 = some (.iastore, 40, 0, 0) := by decide +kernel
theorem xX6_fills_40 : xdec cX6_fills 40 = some (.iload_n 3, 41, 3, 0) := by decide +kernel
theorem xX6_fills_41 : xdec cX6_fills 41 = some (.ireturn, 42, 0, 0) := by decide +kernel
theorem xX6_nights_0 : xdec cX6_nights 0 = some (.aload_n 0, 1, 0, 0) := by decide +kernel
theorem xX6_nights_1 : xdec cX6_nights 1 = some (.iconst 0, 2, 0, 0) := by decide +kernel
theorem xX6_nights_2 : xdec cX6_nights 2 = some (.putfield 75, 5, 75, 0) := by decide +kernel
theorem xX6_nights_5 : xdec cX6_nights 5 = some (.iload_n 1, 6, 1, 0) := by decide +kernel
theorem xX6_nights_6 : xdec cX6_nights 6 = some (.i2l, 7, 0, 0) := by decide +kernel
theorem xX6_nights_7 : xdec cX6_nights 7 = some (.lconst 1, 8, 0, 1) := by decide +kernel
theorem xX6_nights_8 : xdec cX6_nights 8 = some (.ldc2_w 166, 11, 166, 0) := by decide +kernel
theorem xX6_nights_11 : xdec cX6_nights 11 = some (.invokestatic 81, 14, 0, 0) := by decide +kernel
theorem xX6_nights_14 : xdec cX6_nights 14 = some (.ifCond .ne 5, 17, 19, 0) := by decide +kernel
theorem xX6_nights_17 : xdec cX6_nights 17 = some (.iconst (-1), 18, 0, (-1)) := by decide +kernel
theorem xX6_nights_18 : xdec cX6_nights 18 = some (.ireturn, 19, 0, 0) := by decide +kernel
theorem xX6_nights_19 : xdec cX6_nights 19 = some (.aload_n 0, 20, 0, 0) := by decide +kernel
theorem xX6_nights_20 : xdec cX6_nights 20 = some (.getfield 92, 23, 92, 0) := by decide +kernel
theorem xX6_nights_23 : xdec cX6_nights 23 = some (.iload_n 1, 24, 1, 0) := by decide +kernel
theorem xX6_nights_24 : xdec cX6_nights 24 = some (.iadd, 25, 0, 0) := by decide +kernel
theorem xX6_nights_25 : xdec cX6_nights 25 = some (.sipush 999, 28, 0, 999) := by decide +kernel
theorem xX6_nights_28 : xdec cX6_nights 28 = some (.if_icmp .le 6, 31, 34, 0) := by decide +kernel
theorem xX6_nights_31 : xdec cX6_nights 31 = some (.bipush (-3), 33, 0, (-3)) := by decide +kernel
theorem xX6_nights_33 : xdec cX6_nights 33 = some (.ireturn, 34, 0, 0) := by decide +kernel
theorem xX6_nights_34 : xdec cX6_nights 34 = some (.aload_n 0, 35, 0, 0) := by decide +kernel
theorem xX6_nights_35 : xdec cX6_nights 35 = some (.iload_n 1, 36, 1, 0) := by decide +kernel
theorem xX6_nights_36 : xdec cX6_nights 36 = some (.invokevirtual 168, 39, 0, 0) := by decide +kernel
theorem xX6_nights_39 : xdec cX6_nights 39 = some (.aload_n 0, 40, 0, 0) := by decide +kernel
theorem xX6_nights_40 : xdec cX6_nights 40 = some (.getfield 125, 43, 125, 0) := by decide +kernel
theorem xX6_nights_43 : xdec cX6_nights 43 = some (.invokestatic 228, 46, 0, 0) := by decide +kernel
theorem xX6_nights_46 : xdec cX6_nights 46 = some (.ireturn, 47, 0, 0) := by decide +kernel
theorem xX6_guestThen_0 : xdec cX6_guestThen 0 = some (.aload_n 0, 1, 0, 0) := by decide +kernel
theorem xX6_guestThen_1 : xdec cX6_guestThen 1 = some (.iconst 0, 2, 0, 0) := by decide +kernel
theorem xX6_guestThen_2 : xdec cX6_guestThen 2 = some (.putfield 75, 5, 75, 0) := by decide +kernel
theorem xX6_guestThen_5 : xdec cX6_guestThen 5 = some (.aload_n 0, 6, 0, 0) := by decide +kernel
theorem xX6_guestThen_6 : xdec cX6_guestThen 6 = some (.iload_n 1, 7, 1, 0) := by decide +kernel
theorem xX6_guestThen_7 : xdec cX6_guestThen 7 = some (.invokevirtual 171, 10, 0, 0) := by decide +kernel
theorem xX6_guestThen_10 : xdec cX6_guestThen 10 = some (.ifCond .eq 25, 13, 35, 0) := by decide +kernel
theorem xX6_guestThen_13 : xdec cX6_guestThen 13 = some (.iload_n 2, 14, 2, 0) := by decide +kernel
theorem xX6_guestThen_14 : xdec cX6_guestThen 14 = some (.i2l, 15, 0, 0) := by decide +kernel
theorem xX6_guestThen_15 : xdec cX6_guestThen 15 = some (.lconst 0, 16, 0, 0) := by decide +kernel
theorem xX6_guestThen_16 : xdec cX6_guestThen 16 = some (.ldc2_w 166, 19, 166, 0) := by decide +kernel
theorem xX6_guestThen_19 : xdec cX6_guestThen 19 = some (.invokestatic 81, 22, 0, 0) := by decide +kernel
theorem xX6_guestThen_22 : xdec cX6_guestThen 22 = some (.ifCond .eq 13, 25, 35, 0) := by decide +kernel
theorem xX6_guestThen_25 : xdec cX6_guestThen 25 = some (.iload_n 3, 26, 3, 0) := by decide +kernel
theorem xX6_guestThen_26 : xdec cX6_guestThen 26 = some (.i2l, 27, 0, 0) := by decide +kernel
theorem xX6_guestThen_27 : xdec cX6_guestThen 27 = some (.lconst 0, 28, 0, 0) := by decide +kernel
theorem xX6_guestThen_28 : xdec cX6_guestThen 28 = some (.lconst 1, 29, 0, 1) := by decide +kernel
theorem xX6_guestThen_29 : xdec cX6_guestThen 29 = some (.invokestatic 81, 32, 0, 0) := by decide +kernel
theorem xX6_guestThen_32 : xdec cX6_guestThen 32 = some (.ifCond .ne 5, 35, 37, 0) := by decide +kernel
theorem xX6_guestThen_35 : xdec cX6_guestThen 35 = some (.iconst (-1), 36, 0, (-1)) := by decide +kernel
theorem xX6_guestThen_36 : xdec cX6_guestThen 36 = some (.ireturn, 37, 0, 0) := by decide +kernel
theorem xX6_guestThen_37 : xdec cX6_guestThen 37 = some (.aload_n 0, 38, 0, 0) := by decide +kernel
theorem xX6_guestThen_38 : xdec cX6_guestThen 38 = some (.invokevirtual 190, 41, 0, 0) := by decide +kernel
theorem xX6_guestThen_41 : xdec cX6_guestThen 41 = some (.aload_n 0, 42, 0, 0) := by decide +kernel
theorem xX6_guestThen_42 : xdec cX6_guestThen 42 = some (.iload_n 2, 43, 2, 0) := by decide +kernel
theorem xX6_guestThen_43 : xdec cX6_guestThen 43 = some (.invokevirtual 168, 46, 0, 0) := by decide +kernel
theorem xX6_guestThen_46 : xdec cX6_guestThen 46 = some (.iload_n 3, 47, 3, 0) := by decide +kernel
theorem xX6_guestThen_47 : xdec cX6_guestThen 47 = some (.ifCond .ne 12, 50, 59, 0) := by decide +kernel
theorem xX6_guestThen_50 : xdec cX6_guestThen 50 = some (.aload_n 0, 51, 0, 0) := by decide +kernel
theorem xX6_guestThen_51 : xdec cX6_guestThen 51 = some (.getfield 25, 54, 25, 0) := by decide +kernel
theorem xX6_guestThen_54 : xdec cX6_guestThen 54 = some (.iload_n 1, 55, 1, 0) := by decide +kernel
theorem xX6_guestThen_55 : xdec cX6_guestThen 55 = some (.iaload, 56, 0, 0) := by decide +kernel
theorem xX6_guestThen_56 : xdec cX6_guestThen 56 = some (.goto 9, 59, 65, 0) := by decide +kernel
theorem xX6_guestThen_59 : xdec cX6_guestThen 59 = some (.aload_n 0, 60, 0, 0) := by decide +kernel
theorem xX6_guestThen_60 : xdec cX6_guestThen 60 = some (.getfield 22, 63, 22, 0) := by decide +kernel
theorem xX6_guestThen_63 : xdec cX6_guestThen 63 = some (.iload_n 1, 64, 1, 0) := by decide +kernel
theorem xX6_guestThen_64 : xdec cX6_guestThen 64 = some (.iaload, 65, 0, 0) := by decide +kernel
theorem xX6_guestThen_65 : xdec cX6_guestThen 65 = some (.istore 4, 67, 4, 0) := by decide +kernel
theorem xX6_guestThen_67 : xdec cX6_guestThen 67 = some (.aload_n 0, 68, 0, 0) := by decide +kernel
theorem xX6_guestThen_68 : xdec cX6_guestThen 68 = some (.invokevirtual 196, 71, 0, 0) := by decide +kernel
theorem xX6_guestThen_71 : xdec cX6_guestThen 71 = some (.iload 4, 73, 4, 0) := by decide +kernel
theorem xX6_guestThen_73 : xdec cX6_guestThen 73 = some (.ireturn, 74, 0, 0) := by decide +kernel
theorem xX6_larderThen_0 : xdec cX6_larderThen 0 = some (.aload_n 0, 1, 0, 0) := by decide +kernel
theorem xX6_larderThen_1 : xdec cX6_larderThen 1 = some (.iconst 0, 2, 0, 0) := by decide +kernel
theorem xX6_larderThen_2 : xdec cX6_larderThen 2 = some (.putfield 75, 5, 75, 0) := by decide +kernel
theorem xX6_larderThen_5 : xdec cX6_larderThen 5 = some (.iload_n 1, 6, 1, 0) := by decide +kernel
theorem xX6_larderThen_6 : xdec cX6_larderThen 6 = some (.invokestatic 220, 9, 0, 0) := by decide +kernel
theorem xX6_larderThen_9 : xdec cX6_larderThen 9 = some (.ifCond .eq 15, 12, 24, 0) := by decide +kernel
theorem xX6_larderThen_12 : xdec cX6_larderThen 12 = some (.iload_n 2, 13, 2, 0) := by decide +kernel
theorem xX6_larderThen_13 : xdec cX6_larderThen 13 = some (.i2l, 14, 0, 0) := by decide +kernel
theorem xX6_larderThen_14 : xdec cX6_larderThen 14 = some (.lconst 0, 15, 0, 0) := by decide +kernel
theorem xX6_larderThen_15 : xdec cX6_larderThen 15 = some (.ldc2_w 166, 18, 166, 0) := by decide +kernel
theorem xX6_larderThen_18 : xdec cX6_larderThen 18 = some (.invokestatic 81, 21, 0, 0) := by decide +kernel
theorem xX6_larderThen_21 : xdec cX6_larderThen 21 = some (.ifCond .ne 5, 24, 26, 0) := by decide +kernel
theorem xX6_larderThen_24 : xdec cX6_larderThen 24 = some (.iconst (-1), 25, 0, (-1)) := by decide +kernel
theorem xX6_larderThen_25 : xdec cX6_larderThen 25 = some (.ireturn, 26, 0, 0) := by decide +kernel
theorem xX6_larderThen_26 : xdec cX6_larderThen 26 = some (.aload_n 0, 27, 0, 0) := by decide +kernel
theorem xX6_larderThen_27 : xdec cX6_larderThen 27 = some (.invokevirtual 190, 30, 0, 0) := by decide +kernel
theorem xX6_larderThen_30 : xdec cX6_larderThen 30 = some (.aload_n 0, 31, 0, 0) := by decide +kernel
theorem xX6_larderThen_31 : xdec cX6_larderThen 31 = some (.iload_n 2, 32, 2, 0) := by decide +kernel
theorem xX6_larderThen_32 : xdec cX6_larderThen 32 = some (.invokevirtual 168, 35, 0, 0) := by decide +kernel
theorem xX6_larderThen_35 : xdec cX6_larderThen 35 = some (.aload_n 0, 36, 0, 0) := by decide +kernel
theorem xX6_larderThen_36 : xdec cX6_larderThen 36 = some (.getfield 7, 39, 7, 0) := by decide +kernel
theorem xX6_larderThen_39 : xdec cX6_larderThen 39 = some (.iload_n 1, 40, 1, 0) := by decide +kernel
theorem xX6_larderThen_40 : xdec cX6_larderThen 40 = some (.iaload, 41, 0, 0) := by decide +kernel
theorem xX6_larderThen_41 : xdec cX6_larderThen 41 = some (.istore_n 3, 42, 3, 0) := by decide +kernel
theorem xX6_larderThen_42 : xdec cX6_larderThen 42 = some (.aload_n 0, 43, 0, 0) := by decide +kernel
theorem xX6_larderThen_43 : xdec cX6_larderThen 43 = some (.invokevirtual 196, 46, 0, 0) := by decide +kernel
theorem xX6_larderThen_46 : xdec cX6_larderThen 46 = some (.iload_n 3, 47, 3, 0) := by decide +kernel
theorem xX6_larderThen_47 : xdec cX6_larderThen 47 = some (.ireturn, 48, 0, 0) := by decide +kernel
theorem xX6_then_0 : xdec cX6_then 0 = some (.aload_n 0, 1, 0, 0) := by decide +kernel
theorem xX6_then_1 : xdec cX6_then 1 = some (.iconst 0, 2, 0, 0) := by decide +kernel
theorem xX6_then_2 : xdec cX6_then 2 = some (.putfield 75, 5, 75, 0) := by decide +kernel
theorem xX6_then_5 : xdec cX6_then 5 = some (.iload_n 1, 6, 1, 0) := by decide +kernel
theorem xX6_then_6 : xdec cX6_then 6 = some (.i2l, 7, 0, 0) := by decide +kernel
theorem xX6_then_7 : xdec cX6_then 7 = some (.lconst 0, 8, 0, 0) := by decide +kernel
theorem xX6_then_8 : xdec cX6_then 8 = some (.ldc2_w 166, 11, 166, 0) := by decide +kernel
theorem xX6_then_11 : xdec cX6_then 11 = some (.invokestatic 81, 14, 0, 0) := by decide +kernel
theorem xX6_then_14 : xdec cX6_then 14 = some (.ifCond .eq 15, 17, 29, 0) := by decide +kernel
theorem xX6_then_17 : xdec cX6_then 17 = some (.iload_n 2, 18, 2, 0) := by decide +kernel
theorem xX6_then_18 : xdec cX6_then 18 = some (.i2l, 19, 0, 0) := by decide +kernel
theorem xX6_then_19 : xdec cX6_then 19 = some (.lconst 0, 20, 0, 0) := by decide +kernel
theorem xX6_then_20 : xdec cX6_then 20 = some (.ldc2_w 231, 23, 231, 0) := by decide +kernel
theorem xX6_then_23 : xdec cX6_then 23 = some (.invokestatic 81, 26, 0, 0) := by decide +kernel
theorem xX6_then_26 : xdec cX6_then 26 = some (.ifCond .ne 5, 29, 31, 0) := by decide +kernel
theorem xX6_then_29 : xdec cX6_then 29 = some (.iconst (-1), 30, 0, (-1)) := by decide +kernel
theorem xX6_then_30 : xdec cX6_then 30 = some (.ireturn, 31, 0, 0) := by decide +kernel
theorem xX6_then_31 : xdec cX6_then 31 = some (.aload_n 0, 32, 0, 0) := by decide +kernel
theorem xX6_then_32 : xdec cX6_then 32 = some (.invokevirtual 190, 35, 0, 0) := by decide +kernel
theorem xX6_then_35 : xdec cX6_then 35 = some (.aload_n 0, 36, 0, 0) := by decide +kernel
theorem xX6_then_36 : xdec cX6_then 36 = some (.iload_n 1, 37, 1, 0) := by decide +kernel
theorem xX6_then_37 : xdec cX6_then 37 = some (.invokevirtual 168, 40, 0, 0) := by decide +kernel
theorem xX6_then_40 : xdec cX6_then 40 = some (.iload_n 2, 41, 2, 0) := by decide +kernel
theorem xX6_then_41 : xdec cX6_then 41 = some (.ifCond .ne 10, 44, 51, 0) := by decide +kernel
theorem xX6_then_44 : xdec cX6_then 44 = some (.aload_n 0, 45, 0, 0) := by decide +kernel
theorem xX6_then_45 : xdec cX6_then 45 = some (.getfield 125, 48, 125, 0) := by decide +kernel
theorem xX6_then_48 : xdec cX6_then 48 = some (.goto 19, 51, 67, 0) := by decide +kernel
theorem xX6_then_51 : xdec cX6_then 51 = some (.iload_n 2, 52, 2, 0) := by decide +kernel
theorem xX6_then_52 : xdec cX6_then 52 = some (.iconst 1, 53, 0, 1) := by decide +kernel
theorem xX6_then_53 : xdec cX6_then 53 = some (.if_icmp .ne 10, 56, 63, 0) := by decide +kernel
theorem xX6_then_56 : xdec cX6_then 56 = some (.aload_n 0, 57, 0, 0) := by decide +kernel
theorem xX6_then_57 : xdec cX6_then 57 = some (.getfield 116, 60, 116, 0) := by decide +kernel
theorem xX6_then_60 : xdec cX6_then 60 = some (.goto 7, 63, 67, 0) := by decide +kernel
theorem xX6_then_63 : xdec cX6_then 63 = some (.aload_n 0, 64, 0, 0) := by decide +kernel
theorem xX6_then_64 : xdec cX6_then 64 = some (.getfield 122, 67, 122, 0) := by decide +kernel
theorem xX6_then_67 : xdec cX6_then 67 = some (.istore_n 3, 68, 3, 0) := by decide +kernel
theorem xX6_then_68 : xdec cX6_then 68 = some (.aload_n 0, 69, 0, 0) := by decide +kernel
theorem xX6_then_69 : xdec cX6_then 69 = some (.invokevirtual 196, 72, 0, 0) := by decide +kernel
theorem xX6_then_72 : xdec cX6_then 72 = some (.iload_n 3, 73, 3, 0) := by decide +kernel
theorem xX6_then_73 : xdec cX6_then 73 = some (.ireturn, 74, 0, 0) := by decide +kernel
theorem xX6_leavesIn_0 : xdec cX6_leavesIn 0 = some (.bipush 61, 2, 0, 61) := by decide +kernel
theorem xX6_leavesIn_2 : xdec cX6_leavesIn 2 = some (.istore_n 2, 3, 2, 0) := by decide +kernel
theorem xX6_leavesIn_3 : xdec cX6_leavesIn 3 = some (.aload_n 0, 4, 0, 0) := by decide +kernel
theorem xX6_leavesIn_4 : xdec cX6_leavesIn 4 = some (.invokevirtual 190, 7, 0, 0) := by decide +kernel
theorem xX6_leavesIn_7 : xdec cX6_leavesIn 7 = some (.iconst 0, 8, 0, 0) := by decide +kernel
theorem xX6_leavesIn_8 : xdec cX6_leavesIn 8 = some (.istore_n 3, 9, 3, 0) := by decide +kernel
theorem xX6_leavesIn_9 : xdec cX6_leavesIn 9 = some (.iload_n 3, 10, 3, 0) := by decide +kernel
theorem xX6_leavesIn_10 : xdec cX6_leavesIn 10 = some (.bipush 60, 12, 0, 60) := by decide +kernel
theorem xX6_leavesIn_12 : xdec cX6_leavesIn 12 = some (.if_icmp .gt 37, 15, 49, 0) := by decide +kernel
theorem xX6_leavesIn_15 : xdec cX6_leavesIn 15 = some (.iload_n 2, 16, 2, 0) := by decide +kernel
theorem xX6_leavesIn_16 : xdec cX6_leavesIn 16 = some (.bipush 61, 18, 0, 61) := by decide +kernel
theorem xX6_leavesIn_18 : xdec cX6_leavesIn 18 = some (.if_icmp .ne 31, 21, 49, 0) := by decide +kernel
theorem xX6_leavesIn_21 : xdec cX6_leavesIn 21 = some (.aload_n 0, 22, 0, 0) := by decide +kernel
theorem xX6_leavesIn_22 : xdec cX6_leavesIn 22 = some (.getfield 125, 25, 125, 0) := by decide +kernel
theorem xX6_leavesIn_25 : xdec cX6_leavesIn 25 = some (.iload_n 1, 26, 1, 0) := by decide +kernel
theorem xX6_leavesIn_26 : xdec cX6_leavesIn 26 = some (.invokestatic 105, 29, 0, 0) := by decide +kernel
theorem xX6_leavesIn_29 : xdec cX6_leavesIn 29 = some (.ifCond .eq 8, 32, 37, 0) := by decide +kernel
theorem xX6_leavesIn_32 : xdec cX6_leavesIn 32 = some (.bipush 61, 34, 0, 61) := by decide +kernel
theorem xX6_leavesIn_34 : xdec cX6_leavesIn 34 = some (.goto 4, 37, 38, 0) := by decide +kernel
theorem xX6_leavesIn_37 : xdec cX6_leavesIn 37 = some (.iload_n 3, 38, 3, 0) := by decide +kernel
theorem xX6_leavesIn_38 : xdec cX6_leavesIn 38 = some (.istore_n 2, 39, 2, 0) := by decide +kernel
theorem xX6_leavesIn_39 : xdec cX6_leavesIn 39 = some (.aload_n 0, 40, 0, 0) := by decide +kernel
theorem xX6_leavesIn_40 : xdec cX6_leavesIn 40 = some (.invokevirtual 132, 43, 0, 0) := by decide +kernel
theorem xX6_leavesIn_43 : xdec cX6_leavesIn 43 = some (.iinc 3 1, 46, 3, 1) := by decide +kernel
theorem xX6_leavesIn_46 : xdec cX6_leavesIn 46 = some (.goto (-37), 49, 9, 0) := by decide +kernel
theorem xX6_leavesIn_49 : xdec cX6_leavesIn 49 = some (.aload_n 0, 50, 0, 0) := by decide +kernel
theorem xX6_leavesIn_50 : xdec cX6_leavesIn 50 = some (.invokevirtual 196, 53, 0, 0) := by decide +kernel
theorem xX6_leavesIn_53 : xdec cX6_leavesIn 53 = some (.iload_n 2, 54, 2, 0) := by decide +kernel
theorem xX6_leavesIn_54 : xdec cX6_leavesIn 54 = some (.ireturn, 55, 0, 0) := by decide +kernel
theorem xX6_leaves_0 : xdec cX6_leaves 0 = some (.aload_n 0, 1, 0, 0) := by decide +kernel
theorem xX6_leaves_1 : xdec cX6_leaves 1 = some (.iconst 0, 2, 0, 0) := by decide +kernel
theorem xX6_leaves_2 : xdec cX6_leaves 2 = some (.putfield 75, 5, 75, 0) := by decide +kernel
theorem xX6_leaves_5 : xdec cX6_leaves 5 = some (.iload_n 1, 6, 1, 0) := by decide +kernel
theorem xX6_leaves_6 : xdec cX6_leaves 6 = some (.i2l, 7, 0, 0) := by decide +kernel
theorem xX6_leaves_7 : xdec cX6_leaves 7 = some (.ldc2_w 233, 10, 233, 0) := by decide +kernel
theorem xX6_leaves_10 : xdec cX6_leaves 10 = some (.aload_n 0, 11, 0, 0) := by decide +kernel
theorem xX6_leaves_11 : xdec cX6_leaves 11 = some (.getfield 85, 14, 85, 0) := by decide +kernel
theorem xX6_leaves_14 : xdec cX6_leaves 14 = some (.iconst 1, 15, 0, 1) := by decide +kernel
theorem xX6_leaves_15 : xdec cX6_leaves 15 = some (.isub, 16, 0, 0) := by decide +kernel
theorem xX6_leaves_16 : xdec cX6_leaves 16 = some (.i2l, 17, 0, 0) := by decide +kernel
theorem xX6_leaves_17 : xdec cX6_leaves 17 = some (.invokestatic 81, 20, 0, 0) := by decide +kernel
theorem xX6_leaves_20 : xdec cX6_leaves 20 = some (.ifCond .ne 5, 23, 25, 0) := by decide +kernel
theorem xX6_leaves_23 : xdec cX6_leaves 23 = some (.iconst (-1), 24, 0, (-1)) := by decide +kernel
theorem xX6_leaves_24 : xdec cX6_leaves 24 = some (.ireturn, 25, 0, 0) := by decide +kernel
theorem xX6_leaves_25 : xdec cX6_leaves 25 = some (.iload_n 1, 26, 1, 0) := by decide +kernel
theorem xX6_leaves_26 : xdec cX6_leaves 26 = some (.ifCond .lt 22, 29, 48, 0) := by decide +kernel
theorem xX6_leaves_29 : xdec cX6_leaves 29 = some (.aload_n 0, 30, 0, 0) := by decide +kernel
theorem xX6_leaves_30 : xdec cX6_leaves 30 = some (.iload_n 1, 31, 1, 0) := by decide +kernel
theorem xX6_leaves_31 : xdec cX6_leaves 31 = some (.invokevirtual 235, 34, 0, 0) := by decide +kernel
theorem xX6_leaves_34 : xdec cX6_leaves 34 = some (.istore_n 2, 35, 2, 0) := by decide +kernel
theorem xX6_leaves_35 : xdec cX6_leaves 35 = some (.iload_n 2, 36, 2, 0) := by decide +kernel
theorem xX6_leaves_36 : xdec cX6_leaves 36 = some (.bipush 61, 38, 0, 61) := by decide +kernel
theorem xX6_leaves_38 : xdec cX6_leaves 38 = some (.if_icmp .ne 8, 41, 46, 0) := by decide +kernel
theorem xX6_leaves_41 : xdec cX6_leaves 41 = some (.bipush (-4), 43, 0, (-4)) := by decide +kernel
theorem xX6_leaves_43 : xdec cX6_leaves 43 = some (.goto 4, 46, 47, 0) := by decide +kernel
theorem xX6_leaves_46 : xdec cX6_leaves 46 = some (.iload_n 2, 47, 2, 0) := by decide +kernel
theorem xX6_leaves_47 : xdec cX6_leaves 47 = some (.ireturn, 48, 0, 0) := by decide +kernel
theorem xX6_leaves_48 : xdec cX6_leaves 48 = some (.bipush (-4), 50, 0, (-4)) := by decide +kernel
theorem xX6_leaves_50 : xdec cX6_leaves 50 = some (.istore_n 2, 51, 2, 0) := by decide +kernel
theorem xX6_leaves_51 : xdec cX6_leaves 51 = some (.bipush 61, 53, 0, 61) := by decide +kernel
theorem xX6_leaves_53 : xdec cX6_leaves 53 = some (.istore_n 3, 54, 3, 0) := by decide +kernel
theorem xX6_leaves_54 : xdec cX6_leaves 54 = some (.iconst 0, 55, 0, 0) := by decide +kernel
theorem xX6_leaves_55 : xdec cX6_leaves 55 = some (.istore 4, 57, 4, 0) := by decide +kernel
theorem xX6_leaves_57 : xdec cX6_leaves 57 = some (.iload 4, 59, 4, 0) := by decide +kernel
theorem xX6_leaves_59 : xdec cX6_leaves 59 = some (.aload_n 0, 60, 0, 0) := by decide +kernel
theorem xX6_leaves_60 : xdec cX6_leaves 60 = some (.getfield 85, 63, 85, 0) := by decide +kernel
theorem xX6_leaves_63 : xdec cX6_leaves 63 = some (.if_icmp .ge 60, 66, 123, 0) := by decide +kernel
theorem xX6_leaves_66 : xdec cX6_leaves 66 = some (.aload_n 0, 67, 0, 0) := by decide +kernel
theorem xX6_leaves_67 : xdec cX6_leaves 67 = some (.getfield 125, 70, 125, 0) := by decide +kernel
theorem xX6_leaves_70 : xdec cX6_leaves 70 = some (.iload 4, 72, 4, 0) := by decide +kernel
theorem xX6_leaves_72 : xdec cX6_leaves 72 = some (.invokestatic 105, 75, 0, 0) := by decide +kernel
theorem xX6_leaves_75 : xdec cX6_leaves 75 = some (.ifCond .eq 12, 78, 87, 0) := by decide +kernel
theorem xX6_leaves_78 : xdec cX6_leaves 78 = some (.aload_n 0, 79, 0, 0) := by decide +kernel
theorem xX6_leaves_79 : xdec cX6_leaves 79 = some (.iload 4, 81, 4, 0) := by decide +kernel
theorem xX6_leaves_81 : xdec cX6_leaves 81 = some (.invokevirtual 235, 84, 0, 0) := by decide +kernel
theorem xX6_leaves_84 : xdec cX6_leaves 84 = some (.goto 5, 87, 89, 0) := by decide +kernel
theorem xX6_leaves_87 : xdec cX6_leaves 87 = some (.bipush 61, 89, 0, 61) := by decide +kernel
theorem xX6_leaves_89 : xdec cX6_leaves 89 = some (.istore 5, 91, 5, 0) := by decide +kernel
theorem xX6_leaves_91 : xdec cX6_leaves 91 = some (.iload 5, 93, 5, 0) := by decide +kernel
theorem xX6_leaves_93 : xdec cX6_leaves 93 = some (.iload_n 3, 94, 3, 0) := by decide +kernel
theorem xX6_leaves_94 : xdec cX6_leaves 94 = some (.if_icmp .ge 8, 97, 102, 0) := by decide +kernel
theorem xX6_leaves_97 : xdec cX6_leaves 97 = some (.iload 4, 99, 4, 0) := by decide +kernel
theorem xX6_leaves_99 : xdec cX6_leaves 99 = some (.goto 4, 102, 103, 0) := by decide +kernel
theorem xX6_leaves_102 : xdec cX6_leaves 102 = some (.iload_n 2, 103, 2, 0) := by decide +kernel
theorem xX6_leaves_103 : xdec cX6_leaves 103 = some (.istore_n 2, 104, 2, 0) := by decide +kernel
theorem xX6_leaves_104 : xdec cX6_leaves 104 = some (.iload 5, 106, 5, 0) := by decide +kernel
theorem xX6_leaves_106 : xdec cX6_leaves 106 = some (.iload_n 3, 107, 3, 0) := by decide +kernel
theorem xX6_leaves_107 : xdec cX6_leaves 107 = some (.if_icmp .ge 8, 110, 115, 0) := by decide +kernel
theorem xX6_leaves_110 : xdec cX6_leaves 110 = some (.iload 5, 112, 5, 0) := by decide +kernel
theorem xX6_leaves_112 : xdec cX6_leaves 112 = some (.goto 4, 115, 116, 0) := by decide +kernel
theorem xX6_leaves_115 : xdec cX6_leaves 115 = some (.iload_n 3, 116, 3, 0) := by decide +kernel
theorem xX6_leaves_116 : xdec cX6_leaves 116 = some (.istore_n 3, 117, 3, 0) := by decide +kernel
theorem xX6_leaves_117 : xdec cX6_leaves 117 = some (.iinc 4 1, 120, 4, 1) := by decide +kernel
theorem xX6_leaves_120 : xdec cX6_leaves 120 = some (.goto (-63), 123, 57, 0) := by decide +kernel
theorem xX6_leaves_123 : xdec cX6_leaves 123 = some (.iload_n 2, 124, 2, 0) := by decide +kernel
theorem xX6_leaves_124 : xdec cX6_leaves 124 = some (.ireturn, 125, 0, 0) := by decide +kernel
theorem xX6_out_0 : xdec cX6_out 0 = some (.aload_n 0, 1, 0, 0) := by decide +kernel
theorem xX6_out_1 : xdec cX6_out 1 = some (.iconst 0, 2, 0, 0) := by decide +kernel
theorem xX6_out_2 : xdec cX6_out 2 = some (.putfield 75, 5, 75, 0) := by decide +kernel
theorem xX6_out_5 : xdec cX6_out 5 = some (.iload_n 1, 6, 1, 0) := by decide +kernel
theorem xX6_out_6 : xdec cX6_out 6 = some (.invokestatic 220, 9, 0, 0) := by decide +kernel
theorem xX6_out_9 : xdec cX6_out 9 = some (.ifCond .ne 5, 12, 14, 0) := by decide +kernel
theorem xX6_out_12 : xdec cX6_out 12 = some (.iconst (-1), 13, 0, (-1)) := by decide +kernel
theorem xX6_out_13 : xdec cX6_out 13 = some (.ireturn, 14, 0, 0) := by decide +kernel
theorem xX6_out_14 : xdec cX6_out 14 = some (.bipush (-4), 16, 0, (-4)) := by decide +kernel
theorem xX6_out_16 : xdec cX6_out 16 = some (.istore_n 2, 17, 2, 0) := by decide +kernel
theorem xX6_out_17 : xdec cX6_out 17 = some (.aload_n 0, 18, 0, 0) := by decide +kernel
theorem xX6_out_18 : xdec cX6_out 18 = some (.invokevirtual 190, 21, 0, 0) := by decide +kernel
theorem xX6_out_21 : xdec cX6_out 21 = some (.iconst 0, 22, 0, 0) := by decide +kernel
theorem xX6_out_22 : xdec cX6_out 22 = some (.istore_n 3, 23, 3, 0) := by decide +kernel
theorem xX6_out_23 : xdec cX6_out 23 = some (.iload_n 3, 24, 3, 0) := by decide +kernel
theorem xX6_out_24 : xdec cX6_out 24 = some (.bipush 60, 26, 0, 60) := by decide +kernel
theorem xX6_out_26 : xdec cX6_out 26 = some (.if_icmp .gt 33, 29, 59, 0) := by decide +kernel
theorem xX6_out_29 : xdec cX6_out 29 = some (.iload_n 2, 30, 2, 0) := by decide +kernel
theorem xX6_out_30 : xdec cX6_out 30 = some (.ifCond .ge 29, 33, 59, 0) := by decide +kernel
theorem xX6_out_33 : xdec cX6_out 33 = some (.aload_n 0, 34, 0, 0) := by decide +kernel
theorem xX6_out_34 : xdec cX6_out 34 = some (.getfield 7, 37, 7, 0) := by decide +kernel
theorem xX6_out_37 : xdec cX6_out 37 = some (.iload_n 1, 38, 1, 0) := by decide +kernel
theorem xX6_out_38 : xdec cX6_out 38 = some (.iaload, 39, 0, 0) := by decide +kernel
theorem xX6_out_39 : xdec cX6_out 39 = some (.ifCond .ne 7, 42, 46, 0) := by decide +kernel
theorem xX6_out_42 : xdec cX6_out 42 = some (.iload_n 3, 43, 3, 0) := by decide +kernel
theorem xX6_out_43 : xdec cX6_out 43 = some (.goto 5, 46, 48, 0) := by decide +kernel
theorem xX6_out_46 : xdec cX6_out 46 = some (.bipush (-4), 48, 0, (-4)) := by decide +kernel
theorem xX6_out_48 : xdec cX6_out 48 = some (.istore_n 2, 49, 2, 0) := by decide +kernel
theorem xX6_out_49 : xdec cX6_out 49 = some (.aload_n 0, 50, 0, 0) := by decide +kernel
theorem xX6_out_50 : xdec cX6_out 50 = some (.invokevirtual 132, 53, 0, 0) := by decide +kernel
theorem xX6_out_53 : xdec cX6_out 53 = some (.iinc 3 1, 56, 3, 1) := by decide +kernel
theorem xX6_out_56 : xdec cX6_out 56 = some (.goto (-33), 59, 23, 0) := by decide +kernel
theorem xX6_out_59 : xdec cX6_out 59 = some (.aload_n 0, 60, 0, 0) := by decide +kernel
theorem xX6_out_60 : xdec cX6_out 60 = some (.invokevirtual 196, 63, 0, 0) := by decide +kernel
theorem xX6_out_63 : xdec cX6_out 63 = some (.iload_n 2, 64, 2, 0) := by decide +kernel
theorem xX6_out_64 : xdec cX6_out 64 = some (.ireturn, 65, 0, 0) := by decide +kernel
theorem xX6_dreamsNext_0 : xdec cX6_dreamsNext 0 = some (.aload_n 0, 1, 0, 0) := by decide +kernel
theorem xX6_dreamsNext_1 : xdec cX6_dreamsNext 1 = some (.getfield 125, 4, 125, 0) := by decide +kernel
theorem xX6_dreamsNext_4 : xdec cX6_dreamsNext 4 = some (.iload_n 1, 5, 1, 0) := by decide +kernel
theorem xX6_dreamsNext_5 : xdec cX6_dreamsNext 5 = some (.invokestatic 105, 8, 0, 0) := by decide +kernel
theorem xX6_dreamsNext_8 : xdec cX6_dreamsNext 8 = some (.ifCond .eq 17, 11, 25, 0) := by decide +kernel
theorem xX6_dreamsNext_11 : xdec cX6_dreamsNext 11 = some (.aload_n 0, 12, 0, 0) := by decide +kernel
theorem xX6_dreamsNext_12 : xdec cX6_dreamsNext 12 = some (.iload_n 1, 13, 1, 0) := by decide +kernel
theorem xX6_dreamsNext_13 : xdec cX6_dreamsNext 13 = some (.aload_n 0, 14, 0, 0) := by decide +kernel
theorem xX6_dreamsNext_14 : xdec cX6_dreamsNext 14 = some (.getfield 92, 17, 92, 0) := by decide +kernel
theorem xX6_dreamsNext_17 : xdec cX6_dreamsNext 17 = some (.iconst 1, 18, 0, 1) := by decide +kernel
theorem xX6_dreamsNext_18 : xdec cX6_dreamsNext 18 = some (.iadd, 19, 0, 0) := by decide +kernel
theorem xX6_dreamsNext_19 : xdec cX6_dreamsNext 19 = some (.invokevirtual 95, 22, 0, 0) := by decide +kernel
theorem xX6_dreamsNext_22 : xdec cX6_dreamsNext 22 = some (.goto 5, 25, 27, 0) := by decide +kernel
theorem xX6_dreamsNext_25 : xdec cX6_dreamsNext 25 = some (.bipush (-4), 27, 0, (-4)) := by decide +kernel
theorem xX6_dreamsNext_27 : xdec cX6_dreamsNext 27 = some (.ireturn, 28, 0, 0) := by decide +kernel
theorem xX6_table_0 : xdec cX6_table 0 = some (.aload_n 0, 1, 0, 0) := by decide +kernel
theorem xX6_table_1 : xdec cX6_table 1 = some (.iconst 0, 2, 0, 0) := by decide +kernel
theorem xX6_table_2 : xdec cX6_table 2 = some (.putfield 75, 5, 75, 0) := by decide +kernel
theorem xX6_table_5 : xdec cX6_table 5 = some (.aload_n 0, 6, 0, 0) := by decide +kernel
theorem xX6_table_6 : xdec cX6_table 6 = some (.iload_n 1, 7, 1, 0) := by decide +kernel
theorem xX6_table_7 : xdec cX6_table 7 = some (.invokevirtual 171, 10, 0, 0) := by decide +kernel
theorem xX6_table_10 : xdec cX6_table 10 = some (.ifCond .eq 13, 13, 23, 0) := by decide +kernel
theorem xX6_table_13 : xdec cX6_table 13 = some (.iload_n 2, 14, 2, 0) := by decide +kernel
theorem xX6_table_14 : xdec cX6_table 14 = some (.i2l, 15, 0, 0) := by decide +kernel
theorem xX6_table_15 : xdec cX6_table 15 = some (.lconst 0, 16, 0, 0) := by decide +kernel
theorem xX6_table_16 : xdec cX6_table 16 = some (.lconst 1, 17, 0, 1) := by decide +kernel
theorem xX6_table_17 : xdec cX6_table 17 = some (.invokestatic 81, 20, 0, 0) := by decide +kernel
theorem xX6_table_20 : xdec cX6_table 20 = some (.ifCond .ne 5, 23, 25, 0) := by decide +kernel
theorem xX6_table_23 : xdec cX6_table 23 = some (.iconst (-1), 24, 0, (-1)) := by decide +kernel
theorem xX6_table_24 : xdec cX6_table 24 = some (.ireturn, 25, 0, 0) := by decide +kernel
theorem xX6_table_25 : xdec cX6_table 25 = some (.iload_n 2, 26, 2, 0) := by decide +kernel
theorem xX6_table_26 : xdec cX6_table 26 = some (.ifCond .ne 9, 29, 35, 0) := by decide +kernel
theorem xX6_table_29 : xdec cX6_table 29 = some (.aload_n 0, 30, 0, 0) := by decide +kernel
theorem xX6_table_30 : xdec cX6_table 30 = some (.iload_n 1, 31, 1, 0) := by decide +kernel
theorem xX6_table_31 : xdec cX6_table 31 = some (.invokevirtual 238, 34, 0, 0) := by decide +kernel
theorem xX6_table_34 : xdec cX6_table 34 = some (.ireturn, 35, 0, 0) := by decide +kernel
theorem xX6_table_35 : xdec cX6_table 35 = some (.aload_n 0, 36, 0, 0) := by decide +kernel
theorem xX6_table_36 : xdec cX6_table 36 = some (.invokevirtual 190, 39, 0, 0) := by decide +kernel
theorem xX6_table_39 : xdec cX6_table 39 = some (.aload_n 0, 40, 0, 0) := by decide +kernel
theorem xX6_table_40 : xdec cX6_table 40 = some (.invokevirtual 132, 43, 0, 0) := by decide +kernel
theorem xX6_table_43 : xdec cX6_table 43 = some (.aload_n 0, 44, 0, 0) := by decide +kernel
theorem xX6_table_44 : xdec cX6_table 44 = some (.getfield 119, 47, 119, 0) := by decide +kernel
theorem xX6_table_47 : xdec cX6_table 47 = some (.iload_n 1, 48, 1, 0) := by decide +kernel
theorem xX6_table_48 : xdec cX6_table 48 = some (.invokestatic 105, 51, 0, 0) := by decide +kernel
theorem xX6_table_51 : xdec cX6_table 51 = some (.ifCond .eq 7, 54, 58, 0) := by decide +kernel
theorem xX6_table_54 : xdec cX6_table 54 = some (.iconst 1, 55, 0, 1) := by decide +kernel
theorem xX6_table_55 : xdec cX6_table 55 = some (.goto 4, 58, 59, 0) := by decide +kernel
theorem xX6_table_58 : xdec cX6_table 58 = some (.iconst 0, 59, 0, 0) := by decide +kernel
theorem xX6_table_59 : xdec cX6_table 59 = some (.istore_n 3, 60, 3, 0) := by decide +kernel
theorem xX6_table_60 : xdec cX6_table 60 = some (.aload_n 0, 61, 0, 0) := by decide +kernel
theorem xX6_table_61 : xdec cX6_table 61 = some (.invokevirtual 196, 64, 0, 0) := by decide +kernel
theorem xX6_table_64 : xdec cX6_table 64 = some (.iload_n 3, 65, 3, 0) := by decide +kernel
theorem xX6_table_65 : xdec cX6_table 65 = some (.ireturn, 66, 0, 0) := by decide +kernel
theorem xX6_bestWish_0 : xdec cX6_bestWish 0 = some (.aload_n 0, 1, 0, 0) := by decide +kernel
theorem xX6_bestWish_1 : xdec cX6_bestWish 1 = some (.iconst 0, 2, 0, 0) := by decide +kernel
theorem xX6_bestWish_2 : xdec cX6_bestWish 2 = some (.putfield 75, 5, 75, 0) := by decide +kernel
theorem xX6_bestWish_5 : xdec cX6_bestWish 5 = some (.aload_n 0, 6, 0, 0) := by decide +kernel
theorem xX6_bestWish_6 : xdec cX6_bestWish 6 = some (.iload_n 1, 7, 1, 0) := by decide +kernel
theorem xX6_bestWish_7 : xdec cX6_bestWish 7 = some (.invokevirtual 171, 10, 0, 0) := by decide +kernel
theorem xX6_bestWish_10 : xdec cX6_bestWish 10 = some (.ifCond .eq 25, 13, 35, 0) := by decide +kernel
theorem xX6_bestWish_13 : xdec cX6_bestWish 13 = some (.iload_n 2, 14, 2, 0) := by decide +kernel
theorem xX6_bestWish_14 : xdec cX6_bestWish 14 = some (.i2l, 15, 0, 0) := by decide +kernel
theorem xX6_bestWish_15 : xdec cX6_bestWish 15 = some (.lconst 0, 16, 0, 0) := by decide +kernel
theorem xX6_bestWish_16 : xdec cX6_bestWish 16 = some (.ldc2_w 166, 19, 166, 0) := by decide +kernel
theorem xX6_bestWish_19 : xdec cX6_bestWish 19 = some (.invokestatic 81, 22, 0, 0) := by decide +kernel
theorem xX6_bestWish_22 : xdec cX6_bestWish 22 = some (.ifCond .eq 13, 25, 35, 0) := by decide +kernel
theorem xX6_bestWish_25 : xdec cX6_bestWish 25 = some (.iload_n 3, 26, 3, 0) := by decide +kernel
theorem xX6_bestWish_26 : xdec cX6_bestWish 26 = some (.i2l, 27, 0, 0) := by decide +kernel
theorem xX6_bestWish_27 : xdec cX6_bestWish 27 = some (.lconst 0, 28, 0, 0) := by decide +kernel
theorem xX6_bestWish_28 : xdec cX6_bestWish 28 = some (.lconst 1, 29, 0, 1) := by decide +kernel
theorem xX6_bestWish_29 : xdec cX6_bestWish 29 = some (.invokestatic 81, 32, 0, 0) := by decide +kernel
theorem xX6_bestWish_32 : xdec cX6_bestWish 32 = some (.ifCond .ne 5, 35, 37, 0) := by decide +kernel
theorem xX6_bestWish_35 : xdec cX6_bestWish 35 = some (.iconst (-1), 36, 0, (-1)) := by decide +kernel
theorem xX6_bestWish_36 : xdec cX6_bestWish 36 = some (.ireturn, 37, 0, 0) := by decide +kernel
theorem xX6_bestWish_37 : xdec cX6_bestWish 37 = some (.iconst 0, 38, 0, 0) := by decide +kernel
theorem xX6_bestWish_38 : xdec cX6_bestWish 38 = some (.istore 4, 40, 4, 0) := by decide +kernel
theorem xX6_bestWish_40 : xdec cX6_bestWish 40 = some (.iconst (-1), 41, 0, (-1)) := by decide +kernel
theorem xX6_bestWish_41 : xdec cX6_bestWish 41 = some (.istore 5, 43, 5, 0) := by decide +kernel
theorem xX6_bestWish_43 : xdec cX6_bestWish 43 = some (.aload_n 0, 44, 0, 0) := by decide +kernel
theorem xX6_bestWish_44 : xdec cX6_bestWish 44 = some (.invokevirtual 190, 47, 0, 0) := by decide +kernel
theorem xX6_bestWish_47 : xdec cX6_bestWish 47 = some (.iconst 0, 48, 0, 0) := by decide +kernel
theorem xX6_bestWish_48 : xdec cX6_bestWish 48 = some (.istore 6, 50, 6, 0) := by decide +kernel
theorem xX6_bestWish_50 : xdec cX6_bestWish 50 = some (.iload 6, 52, 6, 0) := by decide +kernel
theorem xX6_bestWish_52 : xdec cX6_bestWish 52 = some (.bipush 10, 54, 0, 10) := by decide +kernel
theorem xX6_bestWish_54 : xdec cX6_bestWish 54 = some (.if_icmp .ge 66, 57, 120, 0) := by decide +kernel
theorem xX6_bestWish_57 : xdec cX6_bestWish 57 = some (.aload_n 0, 58, 0, 0) := by decide +kernel
theorem xX6_bestWish_58 : xdec cX6_bestWish 58 = some (.getfield 19, 61, 19, 0) := by decide +kernel
theorem xX6_bestWish_61 : xdec cX6_bestWish 61 = some (.iload_n 1, 62, 1, 0) := by decide +kernel
theorem xX6_bestWish_62 : xdec cX6_bestWish 62 = some (.iload 6, 64, 6, 0) := by decide +kernel
theorem xX6_bestWish_64 : xdec cX6_bestWish 64 = some (.iastore, 65, 0, 0) := by decide +kernel
theorem xX6_bestWish_65 : xdec cX6_bestWish 65 = some (.aload_n 0, 66, 0, 0) := by decide +kernel
theorem xX6_bestWish_66 : xdec cX6_bestWish 66 = some (.iload_n 2, 67, 2, 0) := by decide +kernel
theorem xX6_bestWish_67 : xdec cX6_bestWish 67 = some (.invokevirtual 168, 70, 0, 0) := by decide +kernel
theorem xX6_bestWish_70 : xdec cX6_bestWish 70 = some (.aload_n 0, 71, 0, 0) := by decide +kernel
theorem xX6_bestWish_71 : xdec cX6_bestWish 71 = some (.getfield 25, 74, 25, 0) := by decide +kernel
theorem xX6_bestWish_74 : xdec cX6_bestWish 74 = some (.iload_n 1, 75, 1, 0) := by decide +kernel
theorem xX6_bestWish_75 : xdec cX6_bestWish 75 = some (.iaload, 76, 0, 0) := by decide +kernel
theorem xX6_bestWish_76 : xdec cX6_bestWish 76 = some (.istore 7, 78, 7, 0) := by decide +kernel
theorem xX6_bestWish_78 : xdec cX6_bestWish 78 = some (.aload_n 0, 79, 0, 0) := by decide +kernel
theorem xX6_bestWish_79 : xdec cX6_bestWish 79 = some (.invokevirtual 196, 82, 0, 0) := by decide +kernel
theorem xX6_bestWish_82 : xdec cX6_bestWish 82 = some (.iload 7, 84, 7, 0) := by decide +kernel
theorem xX6_bestWish_84 : xdec cX6_bestWish 84 = some (.iload 5, 86, 5, 0) := by decide +kernel
theorem xX6_bestWish_86 : xdec cX6_bestWish 86 = some (.if_icmp .le 8, 89, 94, 0) := by decide +kernel
theorem xX6_bestWish_89 : xdec cX6_bestWish 89 = some (.iload 6, 91, 6, 0) := by decide +kernel
theorem xX6_bestWish_91 : xdec cX6_bestWish 91 = some (.goto 5, 94, 96, 0) := by decide +kernel
theorem xX6_bestWish_94 : xdec cX6_bestWish 94 = some (.iload 4, 96, 4, 0) := by decide +kernel
theorem xX6_bestWish_96 : xdec cX6_bestWish 96 = some (.istore 4, 98, 4, 0) := by decide +kernel
theorem xX6_bestWish_98 : xdec cX6_bestWish 98 = some (.iload 7, 100, 7, 0) := by decide +kernel
theorem xX6_bestWish_100 : xdec cX6_bestWish 100 = some (.iload 5, 102, 5, 0) := by decide +kernel
theorem xX6_bestWish_102 : xdec cX6_bestWish 102 = some (.if_icmp .le 8, 105, 110, 0) := by decide +kernel
theorem xX6_bestWish_105 : xdec cX6_bestWish 105 = some (.iload 7, 107, 7, 0) := by decide +kernel
theorem xX6_bestWish_107 : xdec cX6_bestWish 107 = some (.goto 5, 110, 112, 0) := by decide +kernel
theorem xX6_bestWish_110 : xdec cX6_bestWish 110 = some (.iload 5, 112, 5, 0) := by decide +kernel
theorem xX6_bestWish_112 : xdec cX6_bestWish 112 = some (.istore 5, 114, 5, 0) := by decide +kernel
theorem xX6_bestWish_114 : xdec cX6_bestWish 114 = some (.iinc 6 1, 117, 6, 1) := by decide +kernel
theorem xX6_bestWish_117 : xdec cX6_bestWish 117 = some (.goto (-67), 120, 50, 0) := by decide +kernel
theorem xX6_bestWish_120 : xdec cX6_bestWish 120 = some (.iload_n 3, 121, 3, 0) := by decide +kernel
theorem xX6_bestWish_121 : xdec cX6_bestWish 121 = some (.ifCond .ne 8, 124, 129, 0) := by decide +kernel
theorem xX6_bestWish_124 : xdec cX6_bestWish 124 = some (.iload 4, 126, 4, 0) := by decide +kernel
theorem xX6_bestWish_126 : xdec cX6_bestWish 126 = some (.goto 5, 129, 131, 0) := by decide +kernel
theorem xX6_bestWish_129 : xdec cX6_bestWish 129 = some (.iload 5, 131, 5, 0) := by decide +kernel
theorem xX6_bestWish_131 : xdec cX6_bestWish 131 = some (.ireturn, 132, 0, 0) := by decide +kernel
theorem xX6_lackingThen_0 : xdec cX6_lackingThen 0 = some (.aload_n 0, 1, 0, 0) := by decide +kernel
theorem xX6_lackingThen_1 : xdec cX6_lackingThen 1 = some (.iload_n 1, 2, 1, 0) := by decide +kernel
theorem xX6_lackingThen_2 : xdec cX6_lackingThen 2 = some (.invokevirtual 168, 5, 0, 0) := by decide +kernel
theorem xX6_lackingThen_5 : xdec cX6_lackingThen 5 = some (.aload_n 0, 6, 0, 0) := by decide +kernel
theorem xX6_lackingThen_6 : xdec cX6_lackingThen 6 = some (.getfield 122, 9, 122, 0) := by decide +kernel
theorem xX6_lackingThen_9 : xdec cX6_lackingThen 9 = some (.istore_n 2, 10, 2, 0) := by decide +kernel
theorem xX6_lackingThen_10 : xdec cX6_lackingThen 10 = some (.aload_n 0, 11, 0, 0) := by decide +kernel
theorem xX6_lackingThen_11 : xdec cX6_lackingThen 11 = some (.invokevirtual 196, 14, 0, 0) := by decide +kernel
theorem xX6_lackingThen_14 : xdec cX6_lackingThen 14 = some (.iload_n 2, 15, 2, 0) := by decide +kernel
theorem xX6_lackingThen_15 : xdec cX6_lackingThen 15 = some (.ireturn, 16, 0, 0) := by decide +kernel
theorem xX6_buy_0 : xdec cX6_buy 0 = some (.aload_n 0, 1, 0, 0) := by decide +kernel
theorem xX6_buy_1 : xdec cX6_buy 1 = some (.iconst 0, 2, 0, 0) := by decide +kernel
theorem xX6_buy_2 : xdec cX6_buy 2 = some (.putfield 75, 5, 75, 0) := by decide +kernel
theorem xX6_buy_5 : xdec cX6_buy 5 = some (.iload_n 1, 6, 1, 0) := by decide +kernel
theorem xX6_buy_6 : xdec cX6_buy 6 = some (.i2l, 7, 0, 0) := by decide +kernel
theorem xX6_buy_7 : xdec cX6_buy 7 = some (.lconst 0, 8, 0, 0) := by decide +kernel
theorem xX6_buy_8 : xdec cX6_buy 8 = some (.ldc2_w 166, 11, 166, 0) := by decide +kernel
theorem xX6_buy_11 : xdec cX6_buy 11 = some (.invokestatic 81, 14, 0, 0) := by decide +kernel
theorem xX6_buy_14 : xdec cX6_buy 14 = some (.ifCond .ne 5, 17, 19, 0) := by decide +kernel
theorem xX6_buy_17 : xdec cX6_buy 17 = some (.iconst (-1), 18, 0, (-1)) := by decide +kernel
theorem xX6_buy_18 : xdec cX6_buy 18 = some (.ireturn, 19, 0, 0) := by decide +kernel
theorem xX6_buy_19 : xdec cX6_buy 19 = some (.bipush (-4), 21, 0, (-4)) := by decide +kernel
theorem xX6_buy_21 : xdec cX6_buy 21 = some (.istore_n 2, 22, 2, 0) := by decide +kernel
theorem xX6_buy_22 : xdec cX6_buy 22 = some (.aload_n 0, 23, 0, 0) := by decide +kernel
theorem xX6_buy_23 : xdec cX6_buy 23 = some (.invokevirtual 190, 26, 0, 0) := by decide +kernel
theorem xX6_buy_26 : xdec cX6_buy 26 = some (.aload_n 0, 27, 0, 0) := by decide +kernel
theorem xX6_buy_27 : xdec cX6_buy 27 = some (.iload_n 1, 28, 1, 0) := by decide +kernel
theorem xX6_buy_28 : xdec cX6_buy 28 = some (.invokevirtual 241, 31, 0, 0) := by decide +kernel
theorem xX6_buy_31 : xdec cX6_buy 31 = some (.istore_n 3, 32, 3, 0) := by decide +kernel
theorem xX6_buy_32 : xdec cX6_buy 32 = some (.iconst 0, 33, 0, 0) := by decide +kernel
theorem xX6_buy_33 : xdec cX6_buy 33 = some (.istore 4, 35, 4, 0) := by decide +kernel
theorem xX6_buy_35 : xdec cX6_buy 35 = some (.iload 4, 37, 4, 0) := by decide +kernel
theorem xX6_buy_37 : xdec cX6_buy 37 = some (.bipush 10, 39, 0, 10) := by decide +kernel
theorem xX6_buy_39 : xdec cX6_buy 39 = some (.if_icmp .ge 63, 42, 102, 0) := by decide +kernel
theorem xX6_buy_42 : xdec cX6_buy 42 = some (.aload_n 0, 43, 0, 0) := by decide +kernel
theorem xX6_buy_43 : xdec cX6_buy 43 = some (.getfield 7, 46, 7, 0) := by decide +kernel
theorem xX6_buy_46 : xdec cX6_buy 46 = some (.iload 4, 48, 4, 0) := by decide +kernel
theorem xX6_buy_48 : xdec cX6_buy 48 = some (.aload_n 0, 49, 0, 0) := by decide +kernel
theorem xX6_buy_49 : xdec cX6_buy 49 = some (.getfield 7, 52, 7, 0) := by decide +kernel
theorem xX6_buy_52 : xdec cX6_buy 52 = some (.iload 4, 54, 4, 0) := by decide +kernel
theorem xX6_buy_54 : xdec cX6_buy 54 = some (.iaload, 55, 0, 0) := by decide +kernel
theorem xX6_buy_55 : xdec cX6_buy 55 = some (.iconst 5, 56, 0, 5) := by decide +kernel
theorem xX6_buy_56 : xdec cX6_buy 56 = some (.iadd, 57, 0, 0) := by decide +kernel
theorem xX6_buy_57 : xdec cX6_buy 57 = some (.bipush 99, 59, 0, 99) := by decide +kernel
theorem xX6_buy_59 : xdec cX6_buy 59 = some (.invokestatic 88, 62, 0, 0) := by decide +kernel
theorem xX6_buy_62 : xdec cX6_buy 62 = some (.iastore, 63, 0, 0) := by decide +kernel
theorem xX6_buy_63 : xdec cX6_buy 63 = some (.aload_n 0, 64, 0, 0) := by decide +kernel
theorem xX6_buy_64 : xdec cX6_buy 64 = some (.iload_n 1, 65, 1, 0) := by decide +kernel
theorem xX6_buy_65 : xdec cX6_buy 65 = some (.invokevirtual 241, 68, 0, 0) := by decide +kernel
theorem xX6_buy_68 : xdec cX6_buy 68 = some (.istore 5, 70, 5, 0) := by decide +kernel
theorem xX6_buy_70 : xdec cX6_buy 70 = some (.iload 5, 72, 5, 0) := by decide +kernel
theorem xX6_buy_72 : xdec cX6_buy 72 = some (.iload_n 3, 73, 3, 0) := by decide +kernel
theorem xX6_buy_73 : xdec cX6_buy 73 = some (.if_icmp .ge 8, 76, 81, 0) := by decide +kernel
theorem xX6_buy_76 : xdec cX6_buy 76 = some (.iload 4, 78, 4, 0) := by decide +kernel
theorem xX6_buy_78 : xdec cX6_buy 78 = some (.goto 4, 81, 82, 0) := by decide +kernel
theorem xX6_buy_81 : xdec cX6_buy 81 = some (.iload_n 2, 82, 2, 0) := by decide +kernel
theorem xX6_buy_82 : xdec cX6_buy 82 = some (.istore_n 2, 83, 2, 0) := by decide +kernel
theorem xX6_buy_83 : xdec cX6_buy 83 = some (.iload 5, 85, 5, 0) := by decide +kernel
theorem xX6_buy_85 : xdec cX6_buy 85 = some (.iload_n 3, 86, 3, 0) := by decide +kernel
theorem xX6_buy_86 : xdec cX6_buy 86 = some (.if_icmp .ge 8, 89, 94, 0) := by decide +kernel
theorem xX6_buy_89 : xdec cX6_buy 89 = some (.iload 5, 91, 5, 0) := by decide +kernel
theorem xX6_buy_91 : xdec cX6_buy 91 = some (.goto 4, 94, 95, 0) := by decide +kernel
theorem xX6_buy_94 : xdec cX6_buy 94 = some (.iload_n 3, 95, 3, 0) := by decide +kernel
theorem xX6_buy_95 : xdec cX6_buy 95 = some (.istore_n 3, 96, 3, 0) := by decide +kernel
theorem xX6_buy_96 : xdec cX6_buy 96 = some (.iinc 4 1, 99, 4, 1) := by decide +kernel
theorem xX6_buy_99 : xdec cX6_buy 99 = some (.goto (-64), 102, 35, 0) := by decide +kernel
theorem xX6_buy_102 : xdec cX6_buy 102 = some (.iload_n 2, 103, 2, 0) := by decide +kernel
theorem xX6_buy_103 : xdec cX6_buy 103 = some (.ireturn, 104, 0, 0) := by decide +kernel
theorem xX6_least_0 : xdec cX6_least 0 = some (.aload_n 0, 1, 0, 0) := by decide +kernel
theorem xX6_least_1 : xdec cX6_least 1 = some (.iconst 0, 2, 0, 0) := by decide +kernel
theorem xX6_least_2 : xdec cX6_least 2 = some (.putfield 75, 5, 75, 0) := by decide +kernel
theorem xX6_least_5 : xdec cX6_least 5 = some (.iload_n 1, 6, 1, 0) := by decide +kernel
theorem xX6_least_6 : xdec cX6_least 6 = some (.invokestatic 220, 9, 0, 0) := by decide +kernel
theorem xX6_least_9 : xdec cX6_least 9 = some (.ifCond .eq 15, 12, 24, 0) := by decide +kernel
theorem xX6_least_12 : xdec cX6_least 12 = some (.iload_n 2, 13, 2, 0) := by decide +kernel
theorem xX6_least_13 : xdec cX6_least 13 = some (.i2l, 14, 0, 0) := by decide +kernel
theorem xX6_least_14 : xdec cX6_least 14 = some (.lconst 1, 15, 0, 1) := by decide +kernel
theorem xX6_least_15 : xdec cX6_least 15 = some (.ldc2_w 244, 18, 244, 0) := by decide +kernel
theorem xX6_least_18 : xdec cX6_least 18 = some (.invokestatic 81, 21, 0, 0) := by decide +kernel
theorem xX6_least_21 : xdec cX6_least 21 = some (.ifCond .ne 5, 24, 26, 0) := by decide +kernel
theorem xX6_least_24 : xdec cX6_least 24 = some (.iconst (-1), 25, 0, (-1)) := by decide +kernel
theorem xX6_least_25 : xdec cX6_least 25 = some (.ireturn, 26, 0, 0) := by decide +kernel
theorem xX6_least_26 : xdec cX6_least 26 = some (.bipush (-4), 28, 0, (-4)) := by decide +kernel
theorem xX6_least_28 : xdec cX6_least 28 = some (.istore_n 3, 29, 3, 0) := by decide +kernel
theorem xX6_least_29 : xdec cX6_least 29 = some (.aload_n 0, 30, 0, 0) := by decide +kernel
theorem xX6_least_30 : xdec cX6_least 30 = some (.getfield 122, 33, 122, 0) := by decide +kernel
theorem xX6_least_33 : xdec cX6_least 33 = some (.istore 4, 35, 4, 0) := by decide +kernel
theorem xX6_least_35 : xdec cX6_least 35 = some (.aload_n 0, 36, 0, 0) := by decide +kernel
theorem xX6_least_36 : xdec cX6_least 36 = some (.invokevirtual 190, 39, 0, 0) := by decide +kernel
theorem xX6_least_39 : xdec cX6_least 39 = some (.iconst 0, 40, 0, 0) := by decide +kernel
theorem xX6_least_40 : xdec cX6_least 40 = some (.istore 5, 42, 5, 0) := by decide +kernel
theorem xX6_least_42 : xdec cX6_least 42 = some (.iload 5, 44, 5, 0) := by decide +kernel
theorem xX6_least_44 : xdec cX6_least 44 = some (.bipush 100, 46, 0, 100) := by decide +kernel
theorem xX6_least_46 : xdec cX6_least 46 = some (.if_icmp .ge 39, 49, 85, 0) := by decide +kernel
theorem xX6_least_49 : xdec cX6_least 49 = some (.iload_n 3, 50, 3, 0) := by decide +kernel
theorem xX6_least_50 : xdec cX6_least 50 = some (.ifCond .ge 35, 53, 85, 0) := by decide +kernel
theorem xX6_least_53 : xdec cX6_least 53 = some (.aload_n 0, 54, 0, 0) := by decide +kernel
theorem xX6_least_54 : xdec cX6_least 54 = some (.getfield 7, 57, 7, 0) := by decide +kernel
theorem xX6_least_57 : xdec cX6_least 57 = some (.iload_n 1, 58, 1, 0) := by decide +kernel
theorem xX6_least_58 : xdec cX6_least 58 = some (.iload 5, 60, 5, 0) := by decide +kernel
theorem xX6_least_60 : xdec cX6_least 60 = some (.iastore, 61, 0, 0) := by decide +kernel
theorem xX6_least_61 : xdec cX6_least 61 = some (.aload_n 0, 62, 0, 0) := by decide +kernel
theorem xX6_least_62 : xdec cX6_least 62 = some (.iload_n 2, 63, 2, 0) := by decide +kernel
theorem xX6_least_63 : xdec cX6_least 63 = some (.invokevirtual 241, 66, 0, 0) := by decide +kernel
theorem xX6_least_66 : xdec cX6_least 66 = some (.iload 4, 68, 4, 0) := by decide +kernel
theorem xX6_least_68 : xdec cX6_least 68 = some (.if_icmp .ne 8, 71, 76, 0) := by decide +kernel
theorem xX6_least_71 : xdec cX6_least 71 = some (.iload 5, 73, 5, 0) := by decide +kernel
theorem xX6_least_73 : xdec cX6_least 73 = some (.goto 5, 76, 78, 0) := by decide +kernel
theorem xX6_least_76 : xdec cX6_least 76 = some (.bipush (-4), 78, 0, (-4)) := by decide +kernel
theorem xX6_least_78 : xdec cX6_least 78 = some (.istore_n 3, 79, 3, 0) := by decide +kernel
theorem xX6_least_79 : xdec cX6_least 79 = some (.iinc 5 1, 82, 5, 1) := by decide +kernel
theorem xX6_least_82 : xdec cX6_least 82 = some (.goto (-40), 85, 42, 0) := by decide +kernel
theorem xX6_least_85 : xdec cX6_least 85 = some (.iload_n 3, 86, 3, 0) := by decide +kernel
theorem xX6_least_86 : xdec cX6_least 86 = some (.ireturn, 87, 0, 0) := by decide +kernel
theorem xX6_healthBut_0 : xdec cX6_healthBut 0 = some (.aload_n 0, 1, 0, 0) := by decide +kernel
theorem xX6_healthBut_1 : xdec cX6_healthBut 1 = some (.getfield 125, 4, 125, 0) := by decide +kernel
theorem xX6_healthBut_4 : xdec cX6_healthBut 4 = some (.istore_n 3, 5, 3, 0) := by decide +kernel
theorem xX6_healthBut_5 : xdec cX6_healthBut 5 = some (.aload_n 0, 6, 0, 0) := by decide +kernel
theorem xX6_healthBut_6 : xdec cX6_healthBut 6 = some (.iload_n 2, 7, 2, 0) := by decide +kernel
theorem xX6_healthBut_7 : xdec cX6_healthBut 7 = some (.invokevirtual 168, 10, 0, 0) := by decide +kernel
theorem xX6_healthBut_10 : xdec cX6_healthBut 10 = some (.iconst 0, 11, 0, 0) := by decide +kernel
theorem xX6_healthBut_11 : xdec cX6_healthBut 11 = some (.istore 4, 13, 4, 0) := by decide +kernel
theorem xX6_healthBut_13 : xdec cX6_healthBut 13 = some (.iconst 0, 14, 0, 0) := by decide +kernel
theorem xX6_healthBut_14 : xdec cX6_healthBut 14 = some (.istore 5, 16, 5, 0) := by decide +kernel
theorem xX6_healthBut_16 : xdec cX6_healthBut 16 = some (.iload 5, 18, 5, 0) := by decide +kernel
theorem xX6_healthBut_18 : xdec cX6_healthBut 18 = some (.aload_n 0, 19, 0, 0) := by decide +kernel
theorem xX6_healthBut_19 : xdec cX6_healthBut 19 = some (.getfield 85, 22, 85, 0) := by decide +kernel
theorem xX6_healthBut_22 : xdec cX6_healthBut 22 = some (.if_icmp .ge 45, 25, 67, 0) := by decide +kernel
theorem xX6_healthBut_25 : xdec cX6_healthBut 25 = some (.iload 4, 27, 4, 0) := by decide +kernel
theorem xX6_healthBut_27 : xdec cX6_healthBut 27 = some (.iload 5, 29, 5, 0) := by decide +kernel
theorem xX6_healthBut_29 : xdec cX6_healthBut 29 = some (.iload_n 1, 30, 1, 0) := by decide +kernel
theorem xX6_healthBut_30 : xdec cX6_healthBut 30 = some (.if_icmp .eq 27, 33, 57, 0) := by decide +kernel
theorem xX6_healthBut_33 : xdec cX6_healthBut 33 = some (.iload_n 3, 34, 3, 0) := by decide +kernel
theorem xX6_healthBut_34 : xdec cX6_healthBut 34 = some (.aload_n 0, 35, 0, 0) := by decide +kernel
theorem xX6_healthBut_35 : xdec cX6_healthBut 35 = some (.getfield 125, 38, 125, 0) := by decide +kernel
theorem xX6_healthBut_38 : xdec cX6_healthBut 38 = some (.iand, 39, 0, 0) := by decide +kernel
theorem xX6_healthBut_39 : xdec cX6_healthBut 39 = some (.iload 5, 41, 5, 0) := by decide +kernel
theorem xX6_healthBut_41 : xdec cX6_healthBut 41 = some (.invokestatic 105, 44, 0, 0) := by decide +kernel
theorem xX6_healthBut_44 : xdec cX6_healthBut 44 = some (.ifCond .eq 13, 47, 57, 0) := by decide +kernel
theorem xX6_healthBut_47 : xdec cX6_healthBut 47 = some (.aload_n 0, 48, 0, 0) := by decide +kernel
theorem xX6_healthBut_48 : xdec cX6_healthBut 48 = some (.getfield 25, 51, 25, 0) := by decide +kernel
theorem xX6_healthBut_51 : xdec cX6_healthBut 51 = some (.iload 5, 53, 5, 0) := by decide +kernel
theorem xX6_healthBut_53 : xdec cX6_healthBut 53 = some (.iaload, 54, 0, 0) := by decide +kernel
theorem xX6_healthBut_54 : xdec cX6_healthBut 54 = some (.goto 4, 57, 58, 0) := by decide +kernel
theorem xX6_healthBut_57 : xdec cX6_healthBut 57 = some (.iconst 0, 58, 0, 0) := by decide +kernel
theorem xX6_healthBut_58 : xdec cX6_healthBut 58 = some (.iadd, 59, 0, 0) := by decide +kernel
theorem xX6_healthBut_59 : xdec cX6_healthBut 59 = some (.istore 4, 61, 4, 0) := by decide +kernel
theorem xX6_healthBut_61 : xdec cX6_healthBut 61 = some (.iinc 5 1, 64, 5, 1) := by decide +kernel
theorem xX6_healthBut_64 : xdec cX6_healthBut 64 = some (.goto (-48), 67, 16, 0) := by decide +kernel
theorem xX6_healthBut_67 : xdec cX6_healthBut 67 = some (.aload_n 0, 68, 0, 0) := by decide +kernel
theorem xX6_healthBut_68 : xdec cX6_healthBut 68 = some (.invokevirtual 196, 71, 0, 0) := by decide +kernel
theorem xX6_healthBut_71 : xdec cX6_healthBut 71 = some (.iload 4, 73, 4, 0) := by decide +kernel
theorem xX6_healthBut_73 : xdec cX6_healthBut 73 = some (.ireturn, 74, 0, 0) := by decide +kernel
theorem xX6_send_0 : xdec cX6_send 0 = some (.aload_n 0, 1, 0, 0) := by decide +kernel
theorem xX6_send_1 : xdec cX6_send 1 = some (.iconst 0, 2, 0, 0) := by decide +kernel
theorem xX6_send_2 : xdec cX6_send 2 = some (.putfield 75, 5, 75, 0) := by decide +kernel
theorem xX6_send_5 : xdec cX6_send 5 = some (.iload_n 1, 6, 1, 0) := by decide +kernel
theorem xX6_send_6 : xdec cX6_send 6 = some (.i2l, 7, 0, 0) := by decide +kernel
theorem xX6_send_7 : xdec cX6_send 7 = some (.lconst 0, 8, 0, 0) := by decide +kernel
theorem xX6_send_8 : xdec cX6_send 8 = some (.ldc2_w 166, 11, 166, 0) := by decide +kernel
theorem xX6_send_11 : xdec cX6_send 11 = some (.invokestatic 81, 14, 0, 0) := by decide +kernel
theorem xX6_send_14 : xdec cX6_send 14 = some (.ifCond .ne 5, 17, 19, 0) := by decide +kernel
theorem xX6_send_17 : xdec cX6_send 17 = some (.iconst (-1), 18, 0, (-1)) := by decide +kernel
theorem xX6_send_18 : xdec cX6_send 18 = some (.ireturn, 19, 0, 0) := by decide +kernel
theorem xX6_send_19 : xdec cX6_send 19 = some (.bipush (-4), 21, 0, (-4)) := by decide +kernel
theorem xX6_send_21 : xdec cX6_send 21 = some (.istore_n 2, 22, 2, 0) := by decide +kernel
theorem xX6_send_22 : xdec cX6_send 22 = some (.iconst (-1), 23, 0, (-1)) := by decide +kernel
theorem xX6_send_23 : xdec cX6_send 23 = some (.istore_n 3, 24, 3, 0) := by decide +kernel
theorem xX6_send_24 : xdec cX6_send 24 = some (.aload_n 0, 25, 0, 0) := by decide +kernel
theorem xX6_send_25 : xdec cX6_send 25 = some (.invokevirtual 190, 28, 0, 0) := by decide +kernel
theorem xX6_send_28 : xdec cX6_send 28 = some (.iconst 0, 29, 0, 0) := by decide +kernel
theorem xX6_send_29 : xdec cX6_send 29 = some (.istore 4, 31, 4, 0) := by decide +kernel
theorem xX6_send_31 : xdec cX6_send 31 = some (.iload 4, 33, 4, 0) := by decide +kernel
theorem xX6_send_33 : xdec cX6_send 33 = some (.aload_n 0, 34, 0, 0) := by decide +kernel
theorem xX6_send_34 : xdec cX6_send 34 = some (.getfield 85, 37, 85, 0) := by decide +kernel
theorem xX6_send_37 : xdec cX6_send 37 = some (.if_icmp .ge 94, 40, 131, 0) := by decide +kernel
theorem xX6_send_40 : xdec cX6_send 40 = some (.aload_n 0, 41, 0, 0) := by decide +kernel
theorem xX6_send_41 : xdec cX6_send 41 = some (.getfield 125, 44, 125, 0) := by decide +kernel
theorem xX6_send_44 : xdec cX6_send 44 = some (.iload 4, 46, 4, 0) := by decide +kernel
theorem xX6_send_46 : xdec cX6_send 46 = some (.invokestatic 105, 49, 0, 0) := by decide +kernel
theorem xX6_send_49 : xdec cX6_send 49 = some (.ifCond .eq 76, 52, 125, 0) := by decide +kernel
theorem xX6_send_52 : xdec cX6_send 52 = some (.aload_n 0, 53, 0, 0) := by decide +kernel
theorem xX6_send_53 : xdec cX6_send 53 = some (.iload 4, 55, 4, 0) := by decide +kernel
theorem xX6_send_55 : xdec cX6_send 55 = some (.iload_n 1, 56, 1, 0) := by decide +kernel
theorem xX6_send_56 : xdec cX6_send 56 = some (.invokevirtual 246, 59, 0, 0) := by decide +kernel
theorem xX6_send_59 : xdec cX6_send 59 = some (.istore 5, 61, 5, 0) := by decide +kernel
theorem xX6_send_61 : xdec cX6_send 61 = some (.aload_n 0, 62, 0, 0) := by decide +kernel
theorem xX6_send_62 : xdec cX6_send 62 = some (.dup, 63, 0, 0) := by decide +kernel
theorem xX6_send_63 : xdec cX6_send 63 = some (.getfield 125, 66, 125, 0) := by decide +kernel
theorem xX6_send_66 : xdec cX6_send 66 = some (.iconst 1, 67, 0, 1) := by decide +kernel
theorem xX6_send_67 : xdec cX6_send 67 = some (.iload 4, 69, 4, 0) := by decide +kernel
theorem xX6_send_69 : xdec cX6_send 69 = some (.ishl, 70, 0, 0) := by decide +kernel
theorem xX6_send_70 : xdec cX6_send 70 = some (.iconst (-1), 71, 0, (-1)) := by decide +kernel
theorem xX6_send_71 : xdec cX6_send 71 = some (.ixor, 72, 0, 0) := by decide +kernel
theorem xX6_send_72 : xdec cX6_send 72 = some (.iand, 73, 0, 0) := by decide +kernel
theorem xX6_send_73 : xdec cX6_send 73 = some (.putfield 125, 76, 125, 0) := by decide +kernel
theorem xX6_send_76 : xdec cX6_send 76 = some (.aload_n 0, 77, 0, 0) := by decide +kernel
theorem xX6_send_77 : xdec cX6_send 77 = some (.iload 4, 79, 4, 0) := by decide +kernel
theorem xX6_send_79 : xdec cX6_send 79 = some (.iload_n 1, 80, 1, 0) := by decide +kernel
theorem xX6_send_80 : xdec cX6_send 80 = some (.invokevirtual 246, 83, 0, 0) := by decide +kernel
theorem xX6_send_83 : xdec cX6_send 83 = some (.istore 6, 85, 6, 0) := by decide +kernel
theorem xX6_send_85 : xdec cX6_send 85 = some (.iload 6, 87, 6, 0) := by decide +kernel
theorem xX6_send_87 : xdec cX6_send 87 = some (.iload 5, 89, 5, 0) := by decide +kernel
theorem xX6_send_89 : xdec cX6_send 89 = some (.if_icmp .le 14, 92, 103, 0) := by decide +kernel
theorem xX6_send_92 : xdec cX6_send 92 = some (.iload 6, 94, 6, 0) := by decide +kernel
