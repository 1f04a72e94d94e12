theorem dX6_init_0 : decode cX6_init 0 = .ok (.aload_n 0, 1) := by decide +kernel
theorem dX6_init_1 : decode cX6_init 1 = .ok (.invokespecial 1, 3) := by decide +kernel
theorem dX6_init_4 : decode cX6_init 4 = .ok (.aload_n 0, 1) := by decide +kernel
theorem dX6_init_5 : decode cX6_init 5 = .ok (.bipush 10, 2) := by decide +kernel
theorem dX6_init_7 : decode cX6_init 7 = .ok (.newarray .int, 2) := by decide +kernel
theorem dX6_init_9 : decode cX6_init 9 = .ok (.putfield 7, 3) := by decide +kernel
theorem dX6_init_12 : decode cX6_init 12 = .ok (.aload_n 0, 1) := by decide +kernel
theorem dX6_init_13 : decode cX6_init 13 = .ok (.bipush 7, 2) := by decide +kernel
theorem dX6_init_15 : decode cX6_init 15 = .ok (.newarray .int, 2) := by decide +kernel
theorem dX6_init_17 : decode cX6_init 17 = .ok (.putfield 13, 3) := by decide +kernel
theorem dX6_init_20 : decode cX6_init 20 = .ok (.aload_n 0, 1) := by decide +kernel
theorem dX6_init_21 : decode cX6_init 21 = .ok (.bipush 7, 2) := by decide +kernel
theorem dX6_init_23 : decode cX6_init 23 = .ok (.newarray .int, 2) := by decide +kernel
theorem dX6_init_25 : decode cX6_init 25 = .ok (.putfield 16, 3) := by decide +kernel
theorem dX6_init_28 : decode cX6_init 28 = .ok (.aload_n 0, 1) := by decide +kernel
theorem dX6_init_29 : decode cX6_init 29 = .ok (.bipush 7, 2) := by decide +kernel
theorem dX6_init_31 : decode cX6_init 31 = .ok (.newarray .int, 2) := by decide +kernel
theorem dX6_init_33 : decode cX6_init 33 = .ok (.putfield 19, 3) := by decide +kernel
theorem dX6_init_36 : decode cX6_init 36 = .ok (.aload_n 0, 1) := by decide +kernel
theorem dX6_init_37 : decode cX6_init 37 = .ok (.bipush 7, 2) := by decide +kernel
theorem dX6_init_39 : decode cX6_init 39 = .ok (.newarray .int, 2) := by decide +kernel
theorem dX6_init_41 : decode cX6_init 41 = .ok (.putfield 22, 3) := by decide +kernel
theorem dX6_init_44 : decode cX6_init 44 = .ok (.aload_n 0, 1) := by decide +kernel
theorem dX6_init_45 : decode cX6_init 45 = .ok (.bipush 7, 2) := by decide +kernel
theorem dX6_init_47 : decode cX6_init 47 = .ok (.newarray .int, 2) := by decide +kernel
theorem dX6_init_49 : decode cX6_init 49 = .ok (.putfield 25, 3) := by decide +kernel
theorem dX6_init_52 : decode cX6_init 52 = .ok (.aload_n 0, 1) := by decide +kernel
theorem dX6_init_53 : decode cX6_init 53 = .ok (.bipush 8, 2) := by decide +kernel
theorem dX6_init_55 : decode cX6_init 55 = .ok (.newarray .int, 2) := by decide +kernel
theorem dX6_init_57 : decode cX6_init 57 = .ok (.putfield 28, 3) := by decide +kernel
theorem dX6_init_60 : decode cX6_init 60 = .ok (.aload_n 0, 1) := by decide +kernel
theorem dX6_init_61 : decode cX6_init 61 = .ok (.bipush 8, 2) := by decide +kernel
theorem dX6_init_63 : decode cX6_init 63 = .ok (.newarray .int, 2) := by decide +kernel
theorem dX6_init_65 : decode cX6_init 65 = .ok (.putfield 31, 3) := by decide +kernel
theorem dX6_init_68 : decode cX6_init 68 = .ok (.aload_n 0, 1) := by decide +kernel
theorem dX6_init_69 : decode cX6_init 69 = .ok (.bipush 8, 2) := by decide +kernel
theorem dX6_init_71 : decode cX6_init 71 = .ok (.newarray .int, 2) := by decide +kernel
theorem dX6_init_73 : decode cX6_init 73 = .ok (.putfield 34, 3) := by decide +kernel
theorem dX6_init_76 : decode cX6_init 76 = .ok (.aload_n 0, 1) := by decide +kernel
theorem dX6_init_77 : decode cX6_init 77 = .ok (.bipush 8, 2) := by decide +kernel
theorem dX6_init_79 : decode cX6_init 79 = .ok (.newarray .int, 2) := by decide +kernel
theorem dX6_init_81 : decode cX6_init 81 = .ok (.putfield 37, 3) := by decide +kernel
theorem dX6_init_84 : decode cX6_init 84 = .ok (.aload_n 0, 1) := by decide +kernel
theorem dX6_init_85 : decode cX6_init 85 = .ok (.bipush 8, 2) := by decide +kernel
theorem dX6_init_87 : decode cX6_init 87 = .ok (.newarray .int, 2) := by decide +kernel
theorem dX6_init_89 : decode cX6_init 89 = .ok (.putfield 40, 3) := by decide +kernel
theorem dX6_init_92 : decode cX6_init 92 = .ok (.aload_n 0, 1) := by decide +kernel
theorem dX6_init_93 : decode cX6_init 93 = .ok (.sipush 800, 3) := by decide +kernel
theorem dX6_init_96 : decode cX6_init 96 = .ok (.newarray .long, 2) := by decide +kernel
theorem dX6_init_98 : decode cX6_init 98 = .ok (.putfield 43, 3) := by decide +kernel
theorem dX6_init_101 : decode cX6_init 101 = .ok (.aload_n 0, 1) := by decide +kernel
theorem dX6_init_102 : decode cX6_init 102 = .ok (.bipush 51, 2) := by decide +kernel
theorem dX6_init_104 : decode cX6_init 104 = .ok (.newarray .int, 2) := by decide +kernel
theorem dX6_init_106 : decode cX6_init 106 = .ok (.putfield 47, 3) := by decide +kernel
theorem dX6_init_109 : decode cX6_init 109 = .ok (.aload_n 0, 1) := by decide +kernel
theorem dX6_init_110 : decode cX6_init 110 = .ok (.bipush 51, 2) := by decide +kernel
theorem dX6_init_112 : decode cX6_init 112 = .ok (.newarray .int, 2) := by decide +kernel
theorem dX6_init_114 : decode cX6_init 114 = .ok (.putfield 50, 3) := by decide +kernel
theorem dX6_init_117 : decode cX6_init 117 = .ok (.aload_n 0, 1) := by decide +kernel
theorem dX6_init_118 : decode cX6_init 118 = .ok (.sipush 153, 3) := by decide +kernel
theorem dX6_init_121 : decode cX6_init 121 = .ok (.newarray .int, 2) := by decide +kernel
theorem dX6_init_123 : decode cX6_init 123 = .ok (.putfield 53, 3) := by decide +kernel
theorem dX6_init_126 : decode cX6_init 126 = .ok (.aload_n 0, 1) := by decide +kernel
theorem dX6_init_127 : decode cX6_init 127 = .ok (.bipush 50, 2) := by decide +kernel
theorem dX6_init_129 : decode cX6_init 129 = .ok (.newarray .int, 2) := by decide +kernel
theorem dX6_init_131 : decode cX6_init 131 = .ok (.putfield 56, 3) := by decide +kernel
theorem dX6_init_134 : decode cX6_init 134 = .ok (.aload_n 0, 1) := by decide +kernel
theorem dX6_init_135 : decode cX6_init 135 = .ok (.bipush 50, 2) := by decide +kernel
theorem dX6_init_137 : decode cX6_init 137 = .ok (.newarray .int, 2) := by decide +kernel
theorem dX6_init_139 : decode cX6_init 139 = .ok (.putfield 59, 3) := by decide +kernel
theorem dX6_init_142 : decode cX6_init 142 = .ok (.aload_n 0, 1) := by decide +kernel
theorem dX6_init_143 : decode cX6_init 143 = .ok (.bipush 7, 2) := by decide +kernel
theorem dX6_init_145 : decode cX6_init 145 = .ok (.newarray .int, 2) := by decide +kernel
theorem dX6_init_147 : decode cX6_init 147 = .ok (.putfield 62, 3) := by decide +kernel
theorem dX6_init_150 : decode cX6_init 150 = .ok (.aload_n 0, 1) := by decide +kernel
theorem dX6_init_151 : decode cX6_init 151 = .ok (.sipush 1024, 3) := by decide +kernel
theorem dX6_init_154 : decode cX6_init 154 = .ok (.newarray .boolean, 2) := by decide +kernel
theorem dX6_init_156 : decode cX6_init 156 = .ok (.putfield 65, 3) := by decide +kernel
theorem dX6_init_159 : decode cX6_init 159 = .ok (.aload_n 0, 1) := by decide +kernel
theorem dX6_init_160 : decode cX6_init 160 = .ok (.bipush 8, 2) := by decide +kernel
theorem dX6_init_162 : decode cX6_init 162 = .ok (.newarray .int, 2) := by decide +kernel
theorem dX6_init_164 : decode cX6_init 164 = .ok (.putfield 69, 3) := by decide +kernel
theorem dX6_init_167 : decode cX6_init 167 = .ok (.aload_n 0, 1) := by decide +kernel
theorem dX6_init_168 : decode cX6_init 168 = .ok (.bipush 100, 2) := by decide +kernel
theorem dX6_init_170 : decode cX6_init 170 = .ok (.newarray .long, 2) := by decide +kernel
theorem dX6_init_172 : decode cX6_init 172 = .ok (.putfield 72, 3) := by decide +kernel
theorem dX6_init_175 : decode cX6_init 175 = .ok (.aload_n 0, 1) := by decide +kernel
theorem dX6_init_176 : decode cX6_init 176 = .ok (.iconst 0, 1) := by decide +kernel
theorem dX6_init_177 : decode cX6_init 177 = .ok (.putfield 75, 3) := by decide +kernel
theorem dX6_init_180 : decode cX6_init 180 = .ok (.iconst 0, 1) := by decide +kernel
theorem dX6_init_181 : decode cX6_init 181 = .ok (.istore_n 1, 1) := by decide +kernel
theorem dX6_init_182 : decode cX6_init 182 = .ok (.iload_n 1, 1) := by decide +kernel
theorem dX6_init_183 : decode cX6_init 183 = .ok (.bipush 10, 2) := by decide +kernel
theorem dX6_init_185 : decode cX6_init 185 = .ok (.if_icmp .ge 16, 3) := by decide +kernel
theorem dX6_init_188 : decode cX6_init 188 = .ok (.aload_n 0, 1) := by decide +kernel
theorem dX6_init_189 : decode cX6_init 189 = .ok (.getfield 7, 3) := by decide +kernel
theorem dX6_init_192 : decode cX6_init 192 = .ok (.iload_n 1, 1) := by decide +kernel
theorem dX6_init_193 : decode cX6_init 193 = .ok (.iconst 5, 1) := by decide +kernel
theorem dX6_init_194 : decode cX6_init 194 = .ok (.iastore, 1) := by decide +kernel
theorem dX6_init_195 : decode cX6_init 195 = .ok (.iinc 1 1, 3) := by decide +kernel
theorem dX6_init_198 : decode cX6_init 198 = .ok (.goto (-16), 3) := by decide +kernel
theorem dX6_init_201 : decode cX6_init 201 = .ok (.return_, 1) := by decide +kernel
theorem dX6_thrown_0 : decode cX6_thrown 0 = .ok (.aload_n 0, 1) := by decide +kernel
theorem dX6_thrown_1 : decode cX6_thrown 1 = .ok (.getfield 75, 3) := by decide +kernel
theorem dX6_thrown_4 : decode cX6_thrown 4 = .ok (.ireturn, 1) := by decide +kernel
theorem dX6_in_0 : decode cX6_in 0 = .ok (.lload_n 0, 1) := by decide +kernel
theorem dX6_in_1 : decode cX6_in 1 = .ok (.lload_n 2, 1) := by decide +kernel
theorem dX6_in_2 : decode cX6_in 2 = .ok (.lcmp, 1) := by decide +kernel
theorem dX6_in_3 : decode cX6_in 3 = .ok (.ifCond .lt 14, 3) := by decide +kernel
theorem dX6_in_6 : decode cX6_in 6 = .ok (.lload_n 0, 1) := by decide +kernel
theorem dX6_in_7 : decode cX6_in 7 = .ok (.lload 4, 2) := by decide +kernel
theorem dX6_in_9 : decode cX6_in 9 = .ok (.lcmp, 1) := by decide +kernel
theorem dX6_in_10 : decode cX6_in 10 = .ok (.ifCond .gt 7, 3) := by decide +kernel
theorem dX6_in_13 : decode cX6_in 13 = .ok (.iconst 1, 1) := by decide +kernel
theorem dX6_in_14 : decode cX6_in 14 = .ok (.goto 4, 3) := by decide +kernel
theorem dX6_in_17 : decode cX6_in 17 = .ok (.iconst 0, 1) := by decide +kernel
theorem dX6_in_18 : decode cX6_in 18 = .ok (.ireturn, 1) := by decide +kernel
theorem dX6_hasBit_0 : decode cX6_hasBit 0 = .ok (.iload_n 0, 1) := by decide +kernel
theorem dX6_hasBit_1 : decode cX6_hasBit 1 = .ok (.iload_n 1, 1) := by decide +kernel
theorem dX6_hasBit_2 : decode cX6_hasBit 2 = .ok (.ishr, 1) := by decide +kernel
theorem dX6_hasBit_3 : decode cX6_hasBit 3 = .ok (.iconst 1, 1) := by decide +kernel
theorem dX6_hasBit_4 : decode cX6_hasBit 4 = .ok (.iand, 1) := by decide +kernel
theorem dX6_hasBit_5 : decode cX6_hasBit 5 = .ok (.iconst 1, 1) := by decide +kernel
theorem dX6_hasBit_6 : decode cX6_hasBit 6 = .ok (.if_icmp .ne 7, 3) := by decide +kernel
theorem dX6_hasBit_9 : decode cX6_hasBit 9 = .ok (.iconst 1, 1) := by decide +kernel
theorem dX6_hasBit_10 : decode cX6_hasBit 10 = .ok (.goto 4, 3) := by decide +kernel
theorem dX6_hasBit_13 : decode cX6_hasBit 13 = .ok (.iconst 0, 1) := by decide +kernel
theorem dX6_hasBit_14 : decode cX6_hasBit 14 = .ok (.ireturn, 1) := by decide +kernel
theorem dX6_onesOf_0 : decode cX6_onesOf 0 = .ok (.iconst 0, 1) := by decide +kernel
theorem dX6_onesOf_1 : decode cX6_onesOf 1 = .ok (.istore_n 1, 1) := by decide +kernel
theorem dX6_onesOf_2 : decode cX6_onesOf 2 = .ok (.iload_n 0, 1) := by decide +kernel
theorem dX6_onesOf_3 : decode cX6_onesOf 3 = .ok (.istore_n 2, 1) := by decide +kernel
theorem dX6_onesOf_4 : decode cX6_onesOf 4 = .ok (.iload_n 2, 1) := by decide +kernel
theorem dX6_onesOf_5 : decode cX6_onesOf 5 = .ok (.ifCond .eq 15, 3) := by decide +kernel
theorem dX6_onesOf_8 : decode cX6_onesOf 8 = .ok (.iinc 1 1, 3) := by decide +kernel
theorem dX6_onesOf_11 : decode cX6_onesOf 11 = .ok (.iload_n 2, 1) := by decide +kernel
theorem dX6_onesOf_12 : decode cX6_onesOf 12 = .ok (.iload_n 2, 1) := by decide +kernel
theorem dX6_onesOf_13 : decode cX6_onesOf 13 = .ok (.iconst 1, 1) := by decide +kernel
theorem dX6_onesOf_14 : decode cX6_onesOf 14 = .ok (.isub, 1) := by decide +kernel
theorem dX6_onesOf_15 : decode cX6_onesOf 15 = .ok (.iand, 1) := by decide +kernel
theorem dX6_onesOf_16 : decode cX6_onesOf 16 = .ok (.istore_n 2, 1) := by decide +kernel
theorem dX6_onesOf_17 : decode cX6_onesOf 17 = .ok (.goto (-13), 3) := by decide +kernel
theorem dX6_onesOf_20 : decode cX6_onesOf 20 = .ok (.iload_n 1, 1) := by decide +kernel
theorem dX6_onesOf_21 : decode cX6_onesOf 21 = .ok (.ireturn, 1) := by decide +kernel
theorem dX6_held_0 : decode cX6_held 0 = .ok (.iload_n 0, 1) := by decide +kernel
theorem dX6_held_1 : decode cX6_held 1 = .ok (.ifCond .ge 7, 3) := by decide +kernel
theorem dX6_held_4 : decode cX6_held 4 = .ok (.iconst 0, 1) := by decide +kernel
theorem dX6_held_5 : decode cX6_held 5 = .ok (.goto 13, 3) := by decide +kernel
theorem dX6_held_8 : decode cX6_held 8 = .ok (.iload_n 0, 1) := by decide +kernel
theorem dX6_held_9 : decode cX6_held 9 = .ok (.iload_n 1, 1) := by decide +kernel
theorem dX6_held_10 : decode cX6_held 10 = .ok (.if_icmp .le 7, 3) := by decide +kernel
theorem dX6_held_13 : decode cX6_held 13 = .ok (.iload_n 1, 1) := by decide +kernel
theorem dX6_held_14 : decode cX6_held 14 = .ok (.goto 4, 3) := by decide +kernel
theorem dX6_held_17 : decode cX6_held 17 = .ok (.iload_n 0, 1) := by decide +kernel
theorem dX6_held_18 : decode cX6_held 18 = .ok (.ireturn, 1) := by decide +kernel
theorem dX6_isPlate_0 : decode cX6_isPlate 0 = .ok (.iload_n 0, 1) := by decide +kernel
theorem dX6_isPlate_1 : decode cX6_isPlate 1 = .ok (.i2l, 1) := by decide +kernel
theorem dX6_isPlate_2 : decode cX6_isPlate 2 = .ok (.lconst 0, 1) := by decide +kernel
theorem dX6_isPlate_3 : decode cX6_isPlate 3 = .ok (.ldc2_w 79, 3) := by decide +kernel
theorem dX6_isPlate_6 : decode cX6_isPlate 6 = .ok (.invokestatic 81, 3) := by decide +kernel
theorem dX6_isPlate_9 : decode cX6_isPlate 9 = .ok (.ireturn, 1) := by decide +kernel
theorem dX6_isOne_0 : decode cX6_isOne 0 = .ok (.iload_n 1, 1) := by decide +kernel
theorem dX6_isOne_1 : decode cX6_isOne 1 = .ok (.i2l, 1) := by decide +kernel
theorem dX6_isOne_2 : decode cX6_isOne 2 = .ok (.lconst 0, 1) := by decide +kernel
theorem dX6_isOne_3 : decode cX6_isOne 3 = .ok (.aload_n 0, 1) := by decide +kernel
theorem dX6_isOne_4 : decode cX6_isOne 4 = .ok (.getfield 85, 3) := by decide +kernel
theorem dX6_isOne_7 : decode cX6_isOne 7 = .ok (.iconst 1, 1) := by decide +kernel
theorem dX6_isOne_8 : decode cX6_isOne 8 = .ok (.isub, 1) := by decide +kernel
theorem dX6_isOne_9 : decode cX6_isOne 9 = .ok (.i2l, 1) := by decide +kernel
theorem dX6_isOne_10 : decode cX6_isOne 10 = .ok (.invokestatic 81, 3) := by decide +kernel
theorem dX6_isOne_13 : decode cX6_isOne 13 = .ok (.ireturn, 1) := by decide +kernel
theorem dX6_dreamsOf_0 : decode cX6_dreamsOf 0 = .ok (.aload_n 0, 1) := by decide +kernel
theorem dX6_dreamsOf_1 : decode cX6_dreamsOf 1 = .ok (.getfield 16, 3) := by decide +kernel
theorem dX6_dreamsOf_4 : decode cX6_dreamsOf 4 = .ok (.iload_n 1, 1) := by decide +kernel
theorem dX6_dreamsOf_5 : decode cX6_dreamsOf 5 = .ok (.iaload, 1) := by decide +kernel
theorem dX6_dreamsOf_6 : decode cX6_dreamsOf 6 = .ok (.istore_n 3, 1) := by decide +kernel
theorem dX6_dreamsOf_7 : decode cX6_dreamsOf 7 = .ok (.iload_n 2, 1) := by decide +kernel
theorem dX6_dreamsOf_8 : decode cX6_dreamsOf 8 = .ok (.iload_n 3, 1) := by decide +kernel
theorem dX6_dreamsOf_9 : decode cX6_dreamsOf 9 = .ok (.iconst 2, 1) := by decide +kernel
theorem dX6_dreamsOf_10 : decode cX6_dreamsOf 10 = .ok (.iadd, 1) := by decide +kernel
theorem dX6_dreamsOf_11 : decode cX6_dreamsOf 11 = .ok (.irem, 1) := by decide +kernel
theorem dX6_dreamsOf_12 : decode cX6_dreamsOf 12 = .ok (.ifCond .ne 12, 3) := by decide +kernel
theorem dX6_dreamsOf_15 : decode cX6_dreamsOf 15 = .ok (.aload_n 0, 1) := by decide +kernel
theorem dX6_dreamsOf_16 : decode cX6_dreamsOf 16 = .ok (.getfield 19, 3) := by decide +kernel
theorem dX6_dreamsOf_19 : decode cX6_dreamsOf 19 = .ok (.iload_n 1, 1) := by decide +kernel
theorem dX6_dreamsOf_20 : decode cX6_dreamsOf 20 = .ok (.iaload, 1) := by decide +kernel
theorem dX6_dreamsOf_21 : decode cX6_dreamsOf 21 = .ok (.goto 5, 3) := by decide +kernel
theorem dX6_dreamsOf_24 : decode cX6_dreamsOf 24 = .ok (.bipush (-4), 2) := by decide +kernel
theorem dX6_dreamsOf_26 : decode cX6_dreamsOf 26 = .ok (.istore 4, 2) := by decide +kernel
theorem dX6_dreamsOf_28 : decode cX6_dreamsOf 28 = .ok (.aload_n 0, 1) := by decide +kernel
theorem dX6_dreamsOf_29 : decode cX6_dreamsOf 29 = .ok (.getfield 13, 3) := by decide +kernel
theorem dX6_dreamsOf_32 : decode cX6_dreamsOf 32 = .ok (.iload_n 1, 1) := by decide +kernel
theorem dX6_dreamsOf_33 : decode cX6_dreamsOf 33 = .ok (.iaload, 1) := by decide +kernel
theorem dX6_dreamsOf_34 : decode cX6_dreamsOf 34 = .ok (.tableswitch 96 1 7 #[42, 44, 56, 59, 61, 75, 78], 42) := by decide +kernel
theorem dX6_dreamsOf_76 : decode cX6_dreamsOf 76 = .ok (.iconst 1, 1) := by decide +kernel
theorem dX6_dreamsOf_77 : decode cX6_dreamsOf 77 = .ok (.ireturn, 1) := by decide +kernel
theorem dX6_dreamsOf_78 : decode cX6_dreamsOf 78 = .ok (.aload_n 0, 1) := by decide +kernel
theorem dX6_dreamsOf_79 : decode cX6_dreamsOf 79 = .ok (.getfield 19, 3) := by decide +kernel
theorem dX6_dreamsOf_82 : decode cX6_dreamsOf 82 = .ok (.iload_n 1, 1) := by decide +kernel
theorem dX6_dreamsOf_83 : decode cX6_dreamsOf 83 = .ok (.iaload, 1) := by decide +kernel
theorem dX6_dreamsOf_84 : decode cX6_dreamsOf 84 = .ok (.iload_n 2, 1) := by decide +kernel
theorem dX6_dreamsOf_85 : decode cX6_dreamsOf 85 = .ok (.iadd, 1) := by decide +kernel
theorem dX6_dreamsOf_86 : decode cX6_dreamsOf 86 = .ok (.bipush 10, 2) := by decide +kernel
theorem dX6_dreamsOf_88 : decode cX6_dreamsOf 88 = .ok (.irem, 1) := by decide +kernel
theorem dX6_dreamsOf_89 : decode cX6_dreamsOf 89 = .ok (.ireturn, 1) := by decide +kernel
theorem dX6_dreamsOf_90 : decode cX6_dreamsOf 90 = .ok (.iload 4, 2) := by decide +kernel
theorem dX6_dreamsOf_92 : decode cX6_dreamsOf 92 = .ok (.ireturn, 1) := by decide +kernel
theorem dX6_dreamsOf_93 : decode cX6_dreamsOf 93 = .ok (.iconst 0, 1) := by decide +kernel
theorem dX6_dreamsOf_94 : decode cX6_dreamsOf 94 = .ok (.ireturn, 1) := by decide +kernel
theorem dX6_dreamsOf_95 : decode cX6_dreamsOf 95 = .ok (.aload_n 0, 1) := by decide +kernel
theorem dX6_dreamsOf_96 : decode cX6_dreamsOf 96 = .ok (.getfield 22, 3) := by decide +kernel
theorem dX6_dreamsOf_99 : decode cX6_dreamsOf 99 = .ok (.iload_n 1, 1) := by decide +kernel
theorem dX6_dreamsOf_100 : decode cX6_dreamsOf 100 = .ok (.iaload, 1) := by decide +kernel
theorem dX6_dreamsOf_101 : decode cX6_dreamsOf 101 = .ok (.iconst 1, 1) := by decide +kernel
theorem dX6_dreamsOf_102 : decode cX6_dreamsOf 102 = .ok (.iadd, 1) := by decide +kernel
theorem dX6_dreamsOf_103 : decode cX6_dreamsOf 103 = .ok (.iload_n 3, 1) := by decide +kernel
theorem dX6_dreamsOf_104 : decode cX6_dreamsOf 104 = .ok (.iadd, 1) := by decide +kernel
theorem dX6_dreamsOf_105 : decode cX6_dreamsOf 105 = .ok (.bipush 10, 2) := by decide +kernel
theorem dX6_dreamsOf_107 : decode cX6_dreamsOf 107 = .ok (.irem, 1) := by decide +kernel
theorem dX6_dreamsOf_108 : decode cX6_dreamsOf 108 = .ok (.ireturn, 1) := by decide +kernel
theorem dX6_dreamsOf_109 : decode cX6_dreamsOf 109 = .ok (.bipush 9, 2) := by decide +kernel
theorem dX6_dreamsOf_111 : decode cX6_dreamsOf 111 = .ok (.ireturn, 1) := by decide +kernel
theorem dX6_dreamsOf_112 : decode cX6_dreamsOf 112 = .ok (.iload_n 2, 1) := by decide +kernel
theorem dX6_dreamsOf_113 : decode cX6_dreamsOf 113 = .ok (.iconst 2, 1) := by decide +kernel
theorem dX6_dreamsOf_114 : decode cX6_dreamsOf 114 = .ok (.irem, 1) := by decide +kernel
theorem dX6_dreamsOf_115 : decode cX6_dreamsOf 115 = .ok (.ifCond .ne 12, 3) := by decide +kernel
theorem dX6_dreamsOf_118 : decode cX6_dreamsOf 118 = .ok (.aload_n 0, 1) := by decide +kernel
theorem dX6_dreamsOf_119 : decode cX6_dreamsOf 119 = .ok (.getfield 22, 3) := by decide +kernel
theorem dX6_dreamsOf_122 : decode cX6_dreamsOf 122 = .ok (.iload_n 1, 1) := by decide +kernel
theorem dX6_dreamsOf_123 : decode cX6_dreamsOf 123 = .ok (.iaload, 1) := by decide +kernel
theorem dX6_dreamsOf_124 : decode cX6_dreamsOf 124 = .ok (.goto 5, 3) := by decide +kernel
theorem dX6_dreamsOf_127 : decode cX6_dreamsOf 127 = .ok (.iload 4, 2) := by decide +kernel
theorem dX6_dreamsOf_129 : decode cX6_dreamsOf 129 = .ok (.ireturn, 1) := by decide +kernel
theorem dX6_dreamsOf_130 : decode cX6_dreamsOf 130 = .ok (.aload_n 0, 1) := by decide +kernel
theorem dX6_dreamsOf_131 : decode cX6_dreamsOf 131 = .ok (.getfield 19, 3) := by decide +kernel
theorem dX6_dreamsOf_134 : decode cX6_dreamsOf 134 = .ok (.iload_n 1, 1) := by decide +kernel
theorem dX6_dreamsOf_135 : decode cX6_dreamsOf 135 = .ok (.iaload, 1) := by decide +kernel
theorem dX6_dreamsOf_136 : decode cX6_dreamsOf 136 = .ok (.ireturn, 1) := by decide +kernel
theorem dX6_eatsOf_0 : decode cX6_eatsOf 0 = .ok (.aload_n 0, 1) := by decide +kernel
theorem dX6_eatsOf_1 : decode cX6_eatsOf 1 = .ok (.getfield 13, 3) := by decide +kernel
theorem dX6_eatsOf_4 : decode cX6_eatsOf 4 = .ok (.iload_n 1, 1) := by decide +kernel
theorem dX6_eatsOf_5 : decode cX6_eatsOf 5 = .ok (.iaload, 1) := by decide +kernel
theorem dX6_eatsOf_6 : decode cX6_eatsOf 6 = .ok (.iconst 2, 1) := by decide +kernel
theorem dX6_eatsOf_7 : decode cX6_eatsOf 7 = .ok (.if_icmp .eq 14, 3) := by decide +kernel
theorem dX6_eatsOf_10 : decode cX6_eatsOf 10 = .ok (.aload_n 0, 1) := by decide +kernel
theorem dX6_eatsOf_11 : decode cX6_eatsOf 11 = .ok (.getfield 13, 3) := by decide +kernel
theorem dX6_eatsOf_14 : decode cX6_eatsOf 14 = .ok (.iload_n 1, 1) := by decide +kernel
theorem dX6_eatsOf_15 : decode cX6_eatsOf 15 = .ok (.iaload, 1) := by decide +kernel
theorem dX6_eatsOf_16 : decode cX6_eatsOf 16 = .ok (.bipush 7, 2) := by decide +kernel
theorem dX6_eatsOf_18 : decode cX6_eatsOf 18 = .ok (.if_icmp .ne 7, 3) := by decide +kernel
theorem dX6_eatsOf_21 : decode cX6_eatsOf 21 = .ok (.iconst 2, 1) := by decide +kernel
theorem dX6_eatsOf_22 : decode cX6_eatsOf 22 = .ok (.goto 4, 3) := by decide +kernel
theorem dX6_eatsOf_25 : decode cX6_eatsOf 25 = .ok (.iconst 1, 1) := by decide +kernel
theorem dX6_eatsOf_26 : decode cX6_eatsOf 26 = .ok (.ireturn, 1) := by decide +kernel
theorem dX6_gainsOf_0 : decode cX6_gainsOf 0 = .ok (.aload_n 0, 1) := by decide +kernel
theorem dX6_gainsOf_1 : decode cX6_gainsOf 1 = .ok (.getfield 13, 3) := by decide +kernel
theorem dX6_gainsOf_4 : decode cX6_gainsOf 4 = .ok (.iload_n 1, 1) := by decide +kernel
theorem dX6_gainsOf_5 : decode cX6_gainsOf 5 = .ok (.iaload, 1) := by decide +kernel
theorem dX6_gainsOf_6 : decode cX6_gainsOf 6 = .ok (.tableswitch 76 1 7 #[42, 44, 48, 42, 53, 59, 66], 42) := by decide +kernel
theorem dX6_gainsOf_48 : decode cX6_gainsOf 48 = .ok (.iconst 1, 1) := by decide +kernel
theorem dX6_gainsOf_49 : decode cX6_gainsOf 49 = .ok (.ireturn, 1) := by decide +kernel
theorem dX6_gainsOf_50 : decode cX6_gainsOf 50 = .ok (.iload_n 2, 1) := by decide +kernel
theorem dX6_gainsOf_51 : decode cX6_gainsOf 51 = .ok (.iconst 2, 1) := by decide +kernel
theorem dX6_gainsOf_52 : decode cX6_gainsOf 52 = .ok (.idiv, 1) := by decide +kernel
theorem dX6_gainsOf_53 : decode cX6_gainsOf 53 = .ok (.ireturn, 1) := by decide +kernel
theorem dX6_gainsOf_54 : decode cX6_gainsOf 54 = .ok (.bipush 9, 2) := by decide +kernel
theorem dX6_gainsOf_56 : decode cX6_gainsOf 56 = .ok (.iload_n 2, 1) := by decide +kernel
theorem dX6_gainsOf_57 : decode cX6_gainsOf 57 = .ok (.isub, 1) := by decide +kernel
theorem dX6_gainsOf_58 : decode cX6_gainsOf 58 = .ok (.ireturn, 1) := by decide +kernel
theorem dX6_gainsOf_59 : decode cX6_gainsOf 59 = .ok (.iload_n 2, 1) := by decide +kernel
theorem dX6_gainsOf_60 : decode cX6_gainsOf 60 = .ok (.iconst 2, 1) := by decide +kernel
theorem dX6_gainsOf_61 : decode cX6_gainsOf 61 = .ok (.idiv, 1) := by decide +kernel
theorem dX6_gainsOf_62 : decode cX6_gainsOf 62 = .ok (.iconst 3, 1) := by decide +kernel
theorem dX6_gainsOf_63 : decode cX6_gainsOf 63 = .ok (.isub, 1) := by decide +kernel
theorem dX6_gainsOf_64 : decode cX6_gainsOf 64 = .ok (.ireturn, 1) := by decide +kernel
theorem dX6_gainsOf_65 : decode cX6_gainsOf 65 = .ok (.aload_n 0, 1) := by decide +kernel
theorem dX6_gainsOf_66 : decode cX6_gainsOf 66 = .ok (.getfield 16, 3) := by decide +kernel
theorem dX6_gainsOf_69 : decode cX6_gainsOf 69 = .ok (.iload_n 1, 1) := by decide +kernel
theorem dX6_gainsOf_70 : decode cX6_gainsOf 70 = .ok (.iaload, 1) := by decide +kernel
theorem dX6_gainsOf_71 : decode cX6_gainsOf 71 = .ok (.ireturn, 1) := by decide +kernel
theorem dX6_gainsOf_72 : decode cX6_gainsOf 72 = .ok (.bipush 8, 2) := by decide +kernel
theorem dX6_gainsOf_74 : decode cX6_gainsOf 74 = .ok (.iload_n 2, 1) := by decide +kernel
theorem dX6_gainsOf_75 : decode cX6_gainsOf 75 = .ok (.isub, 1) := by decide +kernel
theorem dX6_gainsOf_76 : decode cX6_gainsOf 76 = .ok (.bipush 9, 2) := by decide +kernel
theorem dX6_gainsOf_78 : decode cX6_gainsOf 78 = .ok (.invokestatic 88, 3) := by decide +kernel
theorem dX6_gainsOf_81 : decode cX6_gainsOf 81 = .ok (.ireturn, 1) := by decide +kernel
theorem dX6_gainsOf_82 : decode cX6_gainsOf 82 = .ok (.iload_n 2, 1) := by decide +kernel
theorem dX6_gainsOf_83 : decode cX6_gainsOf 83 = .ok (.aload_n 0, 1) := by decide +kernel
theorem dX6_gainsOf_84 : decode cX6_gainsOf 84 = .ok (.getfield 22, 3) := by decide +kernel
theorem dX6_gainsOf_87 : decode cX6_gainsOf 87 = .ok (.iload_n 1, 1) := by decide +kernel
theorem dX6_gainsOf_88 : decode cX6_gainsOf 88 = .ok (.iaload, 1) := by decide +kernel
theorem dX6_gainsOf_89 : decode cX6_gainsOf 89 = .ok (.if_icmp .ne 7, 3) := by decide +kernel
theorem dX6_gainsOf_92 : decode cX6_gainsOf 92 = .ok (.iconst 0, 1) := by decide +kernel
theorem dX6_gainsOf_93 : decode cX6_gainsOf 93 = .ok (.goto 4, 3) := by decide +kernel
theorem dX6_gainsOf_96 : decode cX6_gainsOf 96 = .ok (.iconst 2, 1) := by decide +kernel
theorem dX6_gainsOf_97 : decode cX6_gainsOf 97 = .ok (.ireturn, 1) := by decide +kernel
theorem dX6_breakfast_0 : decode cX6_breakfast 0 = .ok (.aload_n 0, 1) := by decide +kernel
theorem dX6_breakfast_1 : decode cX6_breakfast 1 = .ok (.iload_n 1, 1) := by decide +kernel
theorem dX6_breakfast_2 : decode cX6_breakfast 2 = .ok (.aload_n 0, 1) := by decide +kernel
theorem dX6_breakfast_3 : decode cX6_breakfast 3 = .ok (.getfield 92, 3) := by decide +kernel
theorem dX6_breakfast_6 : decode cX6_breakfast 6 = .ok (.invokevirtual 95, 3) := by decide +kernel
theorem dX6_breakfast_9 : decode cX6_breakfast 9 = .ok (.istore_n 2, 1) := by decide +kernel
theorem dX6_breakfast_10 : decode cX6_breakfast 10 = .ok (.aload_n 0, 1) := by decide +kernel
theorem dX6_breakfast_11 : decode cX6_breakfast 11 = .ok (.getfield 98, 3) := by decide +kernel
theorem dX6_breakfast_14 : decode cX6_breakfast 14 = .ok (.ifCond .eq 12, 3) := by decide +kernel
theorem dX6_breakfast_17 : decode cX6_breakfast 17 = .ok (.iload_n 2, 1) := by decide +kernel
theorem dX6_breakfast_18 : decode cX6_breakfast 18 = .ok (.ifCond .lt 8, 3) := by decide +kernel
theorem dX6_breakfast_21 : decode cX6_breakfast 21 = .ok (.bipush 7, 2) := by decide +kernel
theorem dX6_breakfast_23 : decode cX6_breakfast 23 = .ok (.goto 4, 3) := by decide +kernel
theorem dX6_breakfast_26 : decode cX6_breakfast 26 = .ok (.iload_n 2, 1) := by decide +kernel
theorem dX6_breakfast_27 : decode cX6_breakfast 27 = .ok (.istore_n 2, 1) := by decide +kernel
theorem dX6_breakfast_28 : decode cX6_breakfast 28 = .ok (.aload_n 0, 1) := by decide +kernel
theorem dX6_breakfast_29 : decode cX6_breakfast 29 = .ok (.getfield 102, 3) := by decide +kernel
theorem dX6_breakfast_32 : decode cX6_breakfast 32 = .ok (.iload_n 1, 1) := by decide +kernel
theorem dX6_breakfast_33 : decode cX6_breakfast 33 = .ok (.invokestatic 105, 3) := by decide +kernel
theorem dX6_breakfast_36 : decode cX6_breakfast 36 = .ok (.ifCond .eq 7, 3) := by decide +kernel
theorem dX6_breakfast_39 : decode cX6_breakfast 39 = .ok (.iconst 1, 1) := by decide +kernel
theorem dX6_breakfast_40 : decode cX6_breakfast 40 = .ok (.goto 4, 3) := by decide +kernel
theorem dX6_breakfast_43 : decode cX6_breakfast 43 = .ok (.iload_n 2, 1) := by decide +kernel
theorem dX6_breakfast_44 : decode cX6_breakfast 44 = .ok (.istore_n 2, 1) := by decide +kernel
theorem dX6_breakfast_45 : decode cX6_breakfast 45 = .ok (.iload_n 2, 1) := by decide +kernel
theorem dX6_breakfast_46 : decode cX6_breakfast 46 = .ok (.ifCond .ge 25, 3) := by decide +kernel
theorem dX6_breakfast_49 : decode cX6_breakfast 49 = .ok (.aload_n 0, 1) := by decide +kernel
theorem dX6_breakfast_50 : decode cX6_breakfast 50 = .ok (.getfield 25, 3) := by decide +kernel
theorem dX6_breakfast_53 : decode cX6_breakfast 53 = .ok (.iload_n 1, 1) := by decide +kernel
theorem dX6_breakfast_54 : decode cX6_breakfast 54 = .ok (.aload_n 0, 1) := by decide +kernel
theorem dX6_breakfast_55 : decode cX6_breakfast 55 = .ok (.getfield 25, 3) := by decide +kernel
theorem dX6_breakfast_58 : decode cX6_breakfast 58 = .ok (.iload_n 1, 1) := by decide +kernel
theorem dX6_breakfast_59 : decode cX6_breakfast 59 = .ok (.iaload, 1) := by decide +kernel
theorem dX6_breakfast_60 : decode cX6_breakfast 60 = .ok (.iconst 5, 1) := by decide +kernel
theorem dX6_breakfast_61 : decode cX6_breakfast 61 = .ok (.isub, 1) := by decide +kernel
theorem dX6_breakfast_62 : decode cX6_breakfast 62 = .ok (.bipush 99, 2) := by decide +kernel
theorem dX6_breakfast_64 : decode cX6_breakfast 64 = .ok (.invokestatic 88, 3) := by decide +kernel
theorem dX6_breakfast_67 : decode cX6_breakfast 67 = .ok (.iastore, 1) := by decide +kernel
theorem dX6_breakfast_68 : decode cX6_breakfast 68 = .ok (.goto 128, 3) := by decide +kernel
theorem dX6_breakfast_71 : decode cX6_breakfast 71 = .ok (.aload_n 0, 1) := by decide +kernel
theorem dX6_breakfast_72 : decode cX6_breakfast 72 = .ok (.getfield 7, 3) := by decide +kernel
theorem dX6_breakfast_75 : decode cX6_breakfast 75 = .ok (.iload_n 2, 1) := by decide +kernel
theorem dX6_breakfast_76 : decode cX6_breakfast 76 = .ok (.iaload, 1) := by decide +kernel
theorem dX6_breakfast_77 : decode cX6_breakfast 77 = .ok (.aload_n 0, 1) := by decide +kernel
theorem dX6_breakfast_78 : decode cX6_breakfast 78 = .ok (.iload_n 1, 1) := by decide +kernel
theorem dX6_breakfast_79 : decode cX6_breakfast 79 = .ok (.invokevirtual 109, 3) := by decide +kernel
theorem dX6_breakfast_82 : decode cX6_breakfast 82 = .ok (.if_icmp .lt 79, 3) := by decide +kernel
theorem dX6_breakfast_85 : decode cX6_breakfast 85 = .ok (.aload_n 0, 1) := by decide +kernel
theorem dX6_breakfast_86 : decode cX6_breakfast 86 = .ok (.getfield 7, 3) := by decide +kernel
theorem dX6_breakfast_89 : decode cX6_breakfast 89 = .ok (.iload_n 2, 1) := by decide +kernel
theorem dX6_breakfast_90 : decode cX6_breakfast 90 = .ok (.dup2, 1) := by decide +kernel
theorem dX6_breakfast_91 : decode cX6_breakfast 91 = .ok (.iaload, 1) := by decide +kernel
theorem dX6_breakfast_92 : decode cX6_breakfast 92 = .ok (.aload_n 0, 1) := by decide +kernel
theorem dX6_breakfast_93 : decode cX6_breakfast 93 = .ok (.iload_n 1, 1) := by decide +kernel
theorem dX6_breakfast_94 : decode cX6_breakfast 94 = .ok (.invokevirtual 109, 3) := by decide +kernel
theorem dX6_breakfast_97 : decode cX6_breakfast 97 = .ok (.isub, 1) := by decide +kernel
theorem dX6_breakfast_98 : decode cX6_breakfast 98 = .ok (.iastore, 1) := by decide +kernel
theorem dX6_breakfast_99 : decode cX6_breakfast 99 = .ok (.aload_n 0, 1) := by decide +kernel
theorem dX6_breakfast_100 : decode cX6_breakfast 100 = .ok (.getfield 25, 3) := by decide +kernel
theorem dX6_breakfast_103 : decode cX6_breakfast 103 = .ok (.iload_n 1, 1) := by decide +kernel
theorem dX6_breakfast_104 : decode cX6_breakfast 104 = .ok (.aload_n 0, 1) := by decide +kernel
theorem dX6_breakfast_105 : decode cX6_breakfast 105 = .ok (.getfield 25, 3) := by decide +kernel
theorem dX6_breakfast_108 : decode cX6_breakfast 108 = .ok (.iload_n 1, 1) := by decide +kernel
theorem dX6_breakfast_109 : decode cX6_breakfast 109 = .ok (.iaload, 1) := by decide +kernel
theorem dX6_breakfast_110 : decode cX6_breakfast 110 = .ok (.aload_n 0, 1) := by decide +kernel
theorem dX6_breakfast_111 : decode cX6_breakfast 111 = .ok (.iload_n 1, 1) := by decide +kernel
theorem dX6_breakfast_112 : decode cX6_breakfast 112 = .ok (.iload_n 2, 1) := by decide +kernel
theorem dX6_breakfast_113 : decode cX6_breakfast 113 = .ok (.invokevirtual 113, 3) := by decide +kernel
theorem dX6_breakfast_116 : decode cX6_breakfast 116 = .ok (.iadd, 1) := by decide +kernel
theorem dX6_breakfast_117 : decode cX6_breakfast 117 = .ok (.bipush 99, 2) := by decide +kernel
theorem dX6_breakfast_119 : decode cX6_breakfast 119 = .ok (.invokestatic 88, 3) := by decide +kernel
theorem dX6_breakfast_122 : decode cX6_breakfast 122 = .ok (.iastore, 1) := by decide +kernel
theorem dX6_breakfast_123 : decode cX6_breakfast 123 = .ok (.aload_n 0, 1) := by decide +kernel
theorem dX6_breakfast_124 : decode cX6_breakfast 124 = .ok (.getfield 22, 3) := by decide +kernel
theorem dX6_breakfast_127 : decode cX6_breakfast 127 = .ok (.iload_n 1, 1) := by decide +kernel
theorem dX6_breakfast_128 : decode cX6_breakfast 128 = .ok (.iload_n 2, 1) := by decide +kernel
theorem dX6_breakfast_129 : decode cX6_breakfast 129 = .ok (.iastore, 1) := by decide +kernel
theorem dX6_breakfast_130 : decode cX6_breakfast 130 = .ok (.aload_n 0, 1) := by decide +kernel
theorem dX6_breakfast_131 : decode cX6_breakfast 131 = .ok (.aload_n 0, 1) := by decide +kernel
theorem dX6_breakfast_132 : decode cX6_breakfast 132 = .ok (.getfield 116, 3) := by decide +kernel
theorem dX6_breakfast_135 : decode cX6_breakfast 135 = .ok (.iconst 1, 1) := by decide +kernel
theorem dX6_breakfast_136 : decode cX6_breakfast 136 = .ok (.iadd, 1) := by decide +kernel
theorem dX6_breakfast_137 : decode cX6_breakfast 137 = .ok (.sipush 9999, 3) := by decide +kernel
theorem dX6_breakfast_140 : decode cX6_breakfast 140 = .ok (.invokestatic 88, 3) := by decide +kernel
theorem dX6_breakfast_143 : decode cX6_breakfast 143 = .ok (.putfield 116, 3) := by decide +kernel
theorem dX6_breakfast_146 : decode cX6_breakfast 146 = .ok (.aload_n 0, 1) := by decide +kernel
theorem dX6_breakfast_147 : decode cX6_breakfast 147 = .ok (.dup, 1) := by decide +kernel
theorem dX6_breakfast_148 : decode cX6_breakfast 148 = .ok (.getfield 119, 3) := by decide +kernel
theorem dX6_breakfast_151 : decode cX6_breakfast 151 = .ok (.iconst 1, 1) := by decide +kernel
theorem dX6_breakfast_152 : decode cX6_breakfast 152 = .ok (.iload_n 1, 1) := by decide +kernel
theorem dX6_breakfast_153 : decode cX6_breakfast 153 = .ok (.ishl, 1) := by decide +kernel
theorem dX6_breakfast_154 : decode cX6_breakfast 154 = .ok (.ior, 1) := by decide +kernel
theorem dX6_breakfast_155 : decode cX6_breakfast 155 = .ok (.putfield 119, 3) := by decide +kernel
theorem dX6_breakfast_158 : decode cX6_breakfast 158 = .ok (.goto 38, 3) := by decide +kernel
theorem dX6_breakfast_161 : decode cX6_breakfast 161 = .ok (.aload_n 0, 1) := by decide +kernel
theorem dX6_breakfast_162 : decode cX6_breakfast 162 = .ok (.getfield 25, 3) := by decide +kernel
theorem dX6_breakfast_165 : decode cX6_breakfast 165 = .ok (.iload_n 1, 1) := by decide +kernel
theorem dX6_breakfast_166 : decode cX6_breakfast 166 = .ok (.aload_n 0, 1) := by decide +kernel
theorem dX6_breakfast_167 : decode cX6_breakfast 167 = .ok (.getfield 25, 3) := by decide +kernel
theorem dX6_breakfast_170 : decode cX6_breakfast 170 = .ok (.iload_n 1, 1) := by decide +kernel
theorem dX6_breakfast_171 : decode cX6_breakfast 171 = .ok (.iaload, 1) := by decide +kernel
theorem dX6_breakfast_172 : decode cX6_breakfast 172 = .ok (.iconst 3, 1) := by decide +kernel
theorem dX6_breakfast_173 : decode cX6_breakfast 173 = .ok (.isub, 1) := by decide +kernel
theorem dX6_breakfast_174 : decode cX6_breakfast 174 = .ok (.bipush 99, 2) := by decide +kernel
theorem dX6_breakfast_176 : decode cX6_breakfast 176 = .ok (.invokestatic 88, 3) := by decide +kernel
theorem dX6_breakfast_179 : decode cX6_breakfast 179 = .ok (.iastore, 1) := by decide +kernel
theorem dX6_breakfast_180 : decode cX6_breakfast 180 = .ok (.aload_n 0, 1) := by decide +kernel
theorem dX6_breakfast_181 : decode cX6_breakfast 181 = .ok (.aload_n 0, 1) := by decide +kernel
theorem dX6_breakfast_182 : decode cX6_breakfast 182 = .ok (.getfield 122, 3) := by decide +kernel
theorem dX6_breakfast_185 : decode cX6_breakfast 185 = .ok (.iconst 1, 1) := by decide +kernel
theorem dX6_breakfast_186 : decode cX6_breakfast 186 = .ok (.iadd, 1) := by decide +kernel
theorem dX6_breakfast_187 : decode cX6_breakfast 187 = .ok (.sipush 9999, 3) := by decide +kernel
theorem dX6_breakfast_190 : decode cX6_breakfast 190 = .ok (.invokestatic 88, 3) := by decide +kernel
theorem dX6_breakfast_193 : decode cX6_breakfast 193 = .ok (.putfield 122, 3) := by decide +kernel
theorem dX6_breakfast_196 : decode cX6_breakfast 196 = .ok (.aload_n 0, 1) := by decide +kernel
theorem dX6_breakfast_197 : decode cX6_breakfast 197 = .ok (.dup, 1) := by decide +kernel
theorem dX6_breakfast_198 : decode cX6_breakfast 198 = .ok (.getfield 125, 3) := by decide +kernel
theorem dX6_breakfast_201 : decode cX6_breakfast 201 = .ok (.aload_n 0, 1) := by decide +kernel
theorem dX6_breakfast_202 : decode cX6_breakfast 202 = .ok (.getfield 25, 3) := by decide +kernel
theorem dX6_breakfast_205 : decode cX6_breakfast 205 = .ok (.iload_n 1, 1) := by decide +kernel
theorem dX6_breakfast_206 : decode cX6_breakfast 206 = .ok (.iaload, 1) := by decide +kernel
theorem dX6_breakfast_207 : decode cX6_breakfast 207 = .ok (.ifCond .ne 11, 3) := by decide +kernel
theorem dX6_breakfast_210 : decode cX6_breakfast 210 = .ok (.iconst 1, 1) := by decide +kernel
theorem dX6_breakfast_211 : decode cX6_breakfast 211 = .ok (.iload_n 1, 1) := by decide +kernel
theorem dX6_breakfast_212 : decode cX6_breakfast 212 = .ok (.ishl, 1) := by decide +kernel
theorem dX6_breakfast_213 : decode cX6_breakfast 213 = .ok (.iconst (-1), 1) := by decide +kernel
theorem dX6_breakfast_214 : decode cX6_breakfast 214 = .ok (.ixor, 1) := by decide +kernel
theorem dX6_breakfast_215 : decode cX6_breakfast 215 = .ok (.goto 4, 3) := by decide +kernel
theorem dX6_breakfast_218 : decode cX6_breakfast 218 = .ok (.iconst (-1), 1) := by decide +kernel
theorem dX6_breakfast_219 : decode cX6_breakfast 219 = .ok (.iand, 1) := by decide +kernel
theorem dX6_breakfast_220 : decode cX6_breakfast 220 = .ok (.putfield 125, 3) := by decide +kernel
theorem dX6_breakfast_223 : decode cX6_breakfast 223 = .ok (.return_, 1) := by decide +kernel
theorem dX6_nightOn_0 : decode cX6_nightOn 0 = .ok (.aload_n 0, 1) := by decide +kernel
theorem dX6_nightOn_1 : decode cX6_nightOn 1 = .ok (.dup, 1) := by decide +kernel
theorem dX6_nightOn_2 : decode cX6_nightOn 2 = .ok (.getfield 92, 3) := by decide +kernel
theorem dX6_nightOn_5 : decode cX6_nightOn 5 = .ok (.iconst 1, 1) := by decide +kernel
theorem dX6_nightOn_6 : decode cX6_nightOn 6 = .ok (.iadd, 1) := by decide +kernel
theorem dX6_nightOn_7 : decode cX6_nightOn 7 = .ok (.putfield 92, 3) := by decide +kernel
theorem dX6_nightOn_10 : decode cX6_nightOn 10 = .ok (.aload_n 0, 1) := by decide +kernel
theorem dX6_nightOn_11 : decode cX6_nightOn 11 = .ok (.iconst 0, 1) := by decide +kernel
theorem dX6_nightOn_12 : decode cX6_nightOn 12 = .ok (.putfield 119, 3) := by decide +kernel
theorem dX6_nightOn_15 : decode cX6_nightOn 15 = .ok (.aload_n 0, 1) := by decide +kernel
theorem dX6_nightOn_16 : decode cX6_nightOn 16 = .ok (.getfield 7, 3) := by decide +kernel
theorem dX6_nightOn_19 : decode cX6_nightOn 19 = .ok (.aload_n 0, 1) := by decide +kernel
theorem dX6_nightOn_20 : decode cX6_nightOn 20 = .ok (.getfield 92, 3) := by decide +kernel
theorem dX6_nightOn_23 : decode cX6_nightOn 23 = .ok (.bipush 10, 2) := by decide +kernel
theorem dX6_nightOn_25 : decode cX6_nightOn 25 = .ok (.irem, 1) := by decide +kernel
theorem dX6_nightOn_26 : decode cX6_nightOn 26 = .ok (.aload_n 0, 1) := by decide +kernel
theorem dX6_nightOn_27 : decode cX6_nightOn 27 = .ok (.getfield 7, 3) := by decide +kernel
theorem dX6_nightOn_30 : decode cX6_nightOn 30 = .ok (.aload_n 0, 1) := by decide +kernel
theorem dX6_nightOn_31 : decode cX6_nightOn 31 = .ok (.getfield 92, 3) := by decide +kernel
theorem dX6_nightOn_34 : decode cX6_nightOn 34 = .ok (.bipush 10, 2) := by decide +kernel
theorem dX6_nightOn_36 : decode cX6_nightOn 36 = .ok (.irem, 1) := by decide +kernel
theorem dX6_nightOn_37 : decode cX6_nightOn 37 = .ok (.iaload, 1) := by decide +kernel
theorem dX6_nightOn_38 : decode cX6_nightOn 38 = .ok (.iconst 2, 1) := by decide +kernel
theorem dX6_nightOn_39 : decode cX6_nightOn 39 = .ok (.iadd, 1) := by decide +kernel
theorem dX6_nightOn_40 : decode cX6_nightOn 40 = .ok (.bipush 99, 2) := by decide +kernel
theorem dX6_nightOn_42 : decode cX6_nightOn 42 = .ok (.invokestatic 88, 3) := by decide +kernel
theorem dX6_nightOn_45 : decode cX6_nightOn 45 = .ok (.iastore, 1) := by decide +kernel
theorem dX6_nightOn_46 : decode cX6_nightOn 46 = .ok (.iconst 0, 1) := by decide +kernel
theorem dX6_nightOn_47 : decode cX6_nightOn 47 = .ok (.istore_n 1, 1) := by decide +kernel
theorem dX6_nightOn_48 : decode cX6_nightOn 48 = .ok (.iload_n 1, 1) := by decide +kernel
theorem dX6_nightOn_49 : decode cX6_nightOn 49 = .ok (.aload_n 0, 1) := by decide +kernel
theorem dX6_nightOn_50 : decode cX6_nightOn 50 = .ok (.getfield 85, 3) := by decide +kernel
theorem dX6_nightOn_53 : decode cX6_nightOn 53 = .ok (.if_icmp .ge 25, 3) := by decide +kernel
theorem dX6_nightOn_56 : decode cX6_nightOn 56 = .ok (.aload_n 0, 1) := by decide +kernel
theorem dX6_nightOn_57 : decode cX6_nightOn 57 = .ok (.getfield 125, 3) := by decide +kernel
theorem dX6_nightOn_60 : decode cX6_nightOn 60 = .ok (.iload_n 1, 1) := by decide +kernel
theorem dX6_nightOn_61 : decode cX6_nightOn 61 = .ok (.invokestatic 105, 3) := by decide +kernel
theorem dX6_nightOn_64 : decode cX6_nightOn 64 = .ok (.ifCond .eq 8, 3) := by decide +kernel
theorem dX6_nightOn_67 : decode cX6_nightOn 67 = .ok (.aload_n 0, 1) := by decide +kernel
theorem dX6_nightOn_68 : decode cX6_nightOn 68 = .ok (.iload_n 1, 1) := by decide +kernel
theorem dX6_nightOn_69 : decode cX6_nightOn 69 = .ok (.invokevirtual 128, 3) := by decide +kernel
theorem dX6_nightOn_72 : decode cX6_nightOn 72 = .ok (.iinc 1 1, 3) := by decide +kernel
theorem dX6_nightOn_75 : decode cX6_nightOn 75 = .ok (.goto (-27), 3) := by decide +kernel
theorem dX6_nightOn_78 : decode cX6_nightOn 78 = .ok (.aload_n 0, 1) := by decide +kernel
theorem dX6_nightOn_79 : decode cX6_nightOn 79 = .ok (.iconst 0, 1) := by decide +kernel
theorem dX6_nightOn_80 : decode cX6_nightOn 80 = .ok (.putfield 102, 3) := by decide +kernel
theorem dX6_nightOn_83 : decode cX6_nightOn 83 = .ok (.aload_n 0, 1) := by decide +kernel
theorem dX6_nightOn_84 : decode cX6_nightOn 84 = .ok (.iconst 0, 1) := by decide +kernel
theorem dX6_nightOn_85 : decode cX6_nightOn 85 = .ok (.putfield 98, 3) := by decide +kernel
theorem dX6_nightOn_88 : decode cX6_nightOn 88 = .ok (.return_, 1) := by decide +kernel
theorem dX6_goNights_0 : decode cX6_goNights 0 = .ok (.iconst 0, 1) := by decide +kernel
theorem dX6_goNights_1 : decode cX6_goNights 1 = .ok (.istore_n 2, 1) := by decide +kernel
theorem dX6_goNights_2 : decode cX6_goNights 2 = .ok (.iload_n 2, 1) := by decide +kernel
theorem dX6_goNights_3 : decode cX6_goNights 3 = .ok (.iload_n 1, 1) := by decide +kernel
theorem dX6_goNights_4 : decode cX6_goNights 4 = .ok (.if_icmp .ge 13, 3) := by decide +kernel
theorem dX6_goNights_7 : decode cX6_goNights 7 = .ok (.aload_n 0, 1) := by decide +kernel
theorem dX6_goNights_8 : decode cX6_goNights 8 = .ok (.invokevirtual 132, 3) := by decide +kernel
theorem dX6_goNights_11 : decode cX6_goNights 11 = .ok (.iinc 2 1, 3) := by decide +kernel
theorem dX6_goNights_14 : decode cX6_goNights 14 = .ok (.goto (-12), 3) := by decide +kernel
theorem dX6_goNights_17 : decode cX6_goNights 17 = .ok (.return_, 1) := by decide +kernel
theorem dX6_allPlates_0 : decode cX6_allPlates 0 = .ok (.iconst 0, 1) := by decide +kernel
theorem dX6_allPlates_1 : decode cX6_allPlates 1 = .ok (.istore_n 1, 1) := by decide +kernel
theorem dX6_allPlates_2 : decode cX6_allPlates 2 = .ok (.iconst 0, 1) := by decide +kernel
theorem dX6_allPlates_3 : decode cX6_allPlates 3 = .ok (.istore_n 2, 1) := by decide +kernel
theorem dX6_allPlates_4 : decode cX6_allPlates 4 = .ok (.iload_n 2, 1) := by decide +kernel
theorem dX6_allPlates_5 : decode cX6_allPlates 5 = .ok (.bipush 10, 2) := by decide +kernel
theorem dX6_allPlates_7 : decode cX6_allPlates 7 = .ok (.if_icmp .ge 18, 3) := by decide +kernel
theorem dX6_allPlates_10 : decode cX6_allPlates 10 = .ok (.iload_n 1, 1) := by decide +kernel
theorem dX6_allPlates_11 : decode cX6_allPlates 11 = .ok (.aload_n 0, 1) := by decide +kernel
theorem dX6_allPlates_12 : decode cX6_allPlates 12 = .ok (.getfield 7, 3) := by decide +kernel
theorem dX6_allPlates_15 : decode cX6_allPlates 15 = .ok (.iload_n 2, 1) := by decide +kernel
theorem dX6_allPlates_16 : decode cX6_allPlates 16 = .ok (.iaload, 1) := by decide +kernel
theorem dX6_allPlates_17 : decode cX6_allPlates 17 = .ok (.iadd, 1) := by decide +kernel
theorem dX6_allPlates_18 : decode cX6_allPlates 18 = .ok (.istore_n 1, 1) := by decide +kernel
theorem dX6_allPlates_19 : decode cX6_allPlates 19 = .ok (.iinc 2 1, 3) := by decide +kernel
theorem dX6_allPlates_22 : decode cX6_allPlates 22 = .ok (.goto (-18), 3) := by decide +kernel
theorem dX6_allPlates_25 : decode cX6_allPlates 25 = .ok (.iload_n 1, 1) := by decide +kernel
theorem dX6_allPlates_26 : decode cX6_allPlates 26 = .ok (.ireturn, 1) := by decide +kernel
theorem dX6_here_0 : decode cX6_here 0 = .ok (.aload_n 0, 1) := by decide +kernel
theorem dX6_here_1 : decode cX6_here 1 = .ok (.getfield 135, 3) := by decide +kernel
theorem dX6_here_4 : decode cX6_here 4 = .ok (.aload_n 0, 1) := by decide +kernel
theorem dX6_here_5 : decode cX6_here 5 = .ok (.getfield 40, 3) := by decide +kernel
theorem dX6_here_8 : decode cX6_here 8 = .ok (.aload_n 0, 1) := by decide +kernel
theorem dX6_here_9 : decode cX6_here 9 = .ok (.getfield 138, 3) := by decide +kernel
theorem dX6_here_12 : decode cX6_here 12 = .ok (.iaload, 1) := by decide +kernel
theorem dX6_here_13 : decode cX6_here 13 = .ok (.if_icmp .ge 24, 3) := by decide +kernel
theorem dX6_here_16 : decode cX6_here 16 = .ok (.aload_n 0, 1) := by decide +kernel
theorem dX6_here_17 : decode cX6_here 17 = .ok (.getfield 43, 3) := by decide +kernel
theorem dX6_here_20 : decode cX6_here 20 = .ok (.bipush 100, 2) := by decide +kernel
theorem dX6_here_22 : decode cX6_here 22 = .ok (.aload_n 0, 1) := by decide +kernel
theorem dX6_here_23 : decode cX6_here 23 = .ok (.getfield 138, 3) := by decide +kernel
theorem dX6_here_26 : decode cX6_here 26 = .ok (.imul, 1) := by decide +kernel
theorem dX6_here_27 : decode cX6_here 27 = .ok (.aload_n 0, 1) := by decide +kernel
theorem dX6_here_28 : decode cX6_here 28 = .ok (.getfield 135, 3) := by decide +kernel
theorem dX6_here_31 : decode cX6_here 31 = .ok (.iadd, 1) := by decide +kernel
theorem dX6_here_32 : decode cX6_here 32 = .ok (.laload, 1) := by decide +kernel
theorem dX6_here_33 : decode cX6_here 33 = .ok (.l2i, 1) := by decide +kernel
theorem dX6_here_34 : decode cX6_here 34 = .ok (.goto 6, 3) := by decide +kernel
theorem dX6_here_37 : decode cX6_here 37 = .ok (.sipush (-999), 3) := by decide +kernel
theorem dX6_here_40 : decode cX6_here 40 = .ok (.ireturn, 1) := by decide +kernel
theorem dX6_readDigits_0 : decode cX6_readDigits 0 = .ok (.iconst 0, 1) := by decide +kernel
theorem dX6_readDigits_1 : decode cX6_readDigits 1 = .ok (.istore_n 2, 1) := by decide +kernel
theorem dX6_readDigits_2 : decode cX6_readDigits 2 = .ok (.iconst 0, 1) := by decide +kernel
theorem dX6_readDigits_3 : decode cX6_readDigits 3 = .ok (.istore_n 3, 1) := by decide +kernel
theorem dX6_readDigits_4 : decode cX6_readDigits 4 = .ok (.iload_n 3, 1) := by decide +kernel
theorem dX6_readDigits_5 : decode cX6_readDigits 5 = .ok (.iload_n 1, 1) := by decide +kernel
theorem dX6_readDigits_6 : decode cX6_readDigits 6 = .ok (.if_icmp .ge 87, 3) := by decide +kernel
theorem dX6_readDigits_9 : decode cX6_readDigits 9 = .ok (.aload_n 0, 1) := by decide +kernel
theorem dX6_readDigits_10 : decode cX6_readDigits 10 = .ok (.aload_n 0, 1) := by decide +kernel
theorem dX6_readDigits_11 : decode cX6_readDigits 11 = .ok (.getfield 141, 3) := by decide +kernel
theorem dX6_readDigits_14 : decode cX6_readDigits 14 = .ok (.ifCond .ne 20, 3) := by decide +kernel
theorem dX6_readDigits_17 : decode cX6_readDigits 17 = .ok (.aload_n 0, 1) := by decide +kernel
theorem dX6_readDigits_18 : decode cX6_readDigits 18 = .ok (.invokevirtual 144, 3) := by decide +kernel
theorem dX6_readDigits_21 : decode cX6_readDigits 21 = .ok (.i2l, 1) := by decide +kernel
theorem dX6_readDigits_22 : decode cX6_readDigits 22 = .ok (.ldc2_w 148, 3) := by decide +kernel
theorem dX6_readDigits_25 : decode cX6_readDigits 25 = .ok (.ldc2_w 150, 3) := by decide +kernel
theorem dX6_readDigits_28 : decode cX6_readDigits 28 = .ok (.invokestatic 81, 3) := by decide +kernel
theorem dX6_readDigits_31 : decode cX6_readDigits 31 = .ok (.ifCond .ne 7, 3) := by decide +kernel
theorem dX6_readDigits_34 : decode cX6_readDigits 34 = .ok (.iconst 1, 1) := by decide +kernel
theorem dX6_readDigits_35 : decode cX6_readDigits 35 = .ok (.goto 4, 3) := by decide +kernel
theorem dX6_readDigits_38 : decode cX6_readDigits 38 = .ok (.iconst 0, 1) := by decide +kernel
theorem dX6_readDigits_39 : decode cX6_readDigits 39 = .ok (.putfield 141, 3) := by decide +kernel
theorem dX6_readDigits_42 : decode cX6_readDigits 42 = .ok (.aload_n 0, 1) := by decide +kernel
theorem dX6_readDigits_43 : decode cX6_readDigits 43 = .ok (.getfield 141, 3) := by decide +kernel
theorem dX6_readDigits_46 : decode cX6_readDigits 46 = .ok (.ifCond .eq 7, 3) := by decide +kernel
theorem dX6_readDigits_49 : decode cX6_readDigits 49 = .ok (.iconst 0, 1) := by decide +kernel
theorem dX6_readDigits_50 : decode cX6_readDigits 50 = .ok (.goto 15, 3) := by decide +kernel
theorem dX6_readDigits_53 : decode cX6_readDigits 53 = .ok (.bipush 10, 2) := by decide +kernel
theorem dX6_readDigits_55 : decode cX6_readDigits 55 = .ok (.iload_n 2, 1) := by decide +kernel
theorem dX6_readDigits_56 : decode cX6_readDigits 56 = .ok (.imul, 1) := by decide +kernel
theorem dX6_readDigits_57 : decode cX6_readDigits 57 = .ok (.aload_n 0, 1) := by decide +kernel
theorem dX6_readDigits_58 : decode cX6_readDigits 58 = .ok (.invokevirtual 144, 3) := by decide +kernel
theorem dX6_readDigits_61 : decode cX6_readDigits 61 = .ok (.iadd, 1) := by decide +kernel
theorem dX6_readDigits_62 : decode cX6_readDigits 62 = .ok (.bipush 48, 2) := by decide +kernel
theorem dX6_readDigits_64 : decode cX6_readDigits 64 = .ok (.isub, 1) := by decide +kernel
theorem dX6_readDigits_65 : decode cX6_readDigits 65 = .ok (.istore_n 2, 1) := by decide +kernel
theorem dX6_readDigits_66 : decode cX6_readDigits 66 = .ok (.aload_n 0, 1) := by decide +kernel
theorem dX6_readDigits_67 : decode cX6_readDigits 67 = .ok (.dup, 1) := by decide +kernel
theorem dX6_readDigits_68 : decode cX6_readDigits 68 = .ok (.getfield 135, 3) := by decide +kernel
theorem dX6_readDigits_71 : decode cX6_readDigits 71 = .ok (.aload_n 0, 1) := by decide +kernel
theorem dX6_readDigits_72 : decode cX6_readDigits 72 = .ok (.getfield 141, 3) := by decide +kernel
theorem dX6_readDigits_75 : decode cX6_readDigits 75 = .ok (.ifCond .eq 7, 3) := by decide +kernel
theorem dX6_readDigits_78 : decode cX6_readDigits 78 = .ok (.iconst 0, 1) := by decide +kernel
theorem dX6_readDigits_79 : decode cX6_readDigits 79 = .ok (.goto 4, 3) := by decide +kernel
theorem dX6_readDigits_82 : decode cX6_readDigits 82 = .ok (.iconst 1, 1) := by decide +kernel
theorem dX6_readDigits_83 : decode cX6_readDigits 83 = .ok (.iadd, 1) := by decide +kernel
theorem dX6_readDigits_84 : decode cX6_readDigits 84 = .ok (.putfield 135, 3) := by decide +kernel
theorem dX6_readDigits_87 : decode cX6_readDigits 87 = .ok (.iinc 3 1, 3) := by decide +kernel
theorem dX6_readDigits_90 : decode cX6_readDigits 90 = .ok (.goto (-86), 3) := by decide +kernel
theorem dX6_readDigits_93 : decode cX6_readDigits 93 = .ok (.iload_n 2, 1) := by decide +kernel
theorem dX6_readDigits_94 : decode cX6_readDigits 94 = .ok (.ireturn, 1) := by decide +kernel
theorem dX6_isLetter_0 : decode cX6_isLetter 0 = .ok (.iload_n 0, 1) := by decide +kernel
theorem dX6_isLetter_1 : decode cX6_isLetter 1 = .ok (.bipush 103, 2) := by decide +kernel
theorem dX6_isLetter_3 : decode cX6_isLetter 3 = .ok (.if_icmp .eq 39, 3) := by decide +kernel
theorem dX6_isLetter_6 : decode cX6_isLetter 6 = .ok (.iload_n 0, 1) := by decide +kernel
theorem dX6_isLetter_7 : decode cX6_isLetter 7 = .ok (.bipush 108, 2) := by decide +kernel
theorem dX6_isLetter_9 : decode cX6_isLetter 9 = .ok (.if_icmp .eq 33, 3) := by decide +kernel
theorem dX6_isLetter_12 : decode cX6_isLetter 12 = .ok (.iload_n 0, 1) := by decide +kernel
theorem dX6_isLetter_13 : decode cX6_isLetter 13 = .ok (.bipush 119, 2) := by decide +kernel
theorem dX6_isLetter_15 : decode cX6_isLetter 15 = .ok (.if_icmp .eq 27, 3) := by decide +kernel
theorem dX6_isLetter_18 : decode cX6_isLetter 18 = .ok (.iload_n 0, 1) := by decide +kernel
theorem dX6_isLetter_19 : decode cX6_isLetter 19 = .ok (.bipush 104, 2) := by decide +kernel
theorem dX6_isLetter_21 : decode cX6_isLetter 21 = .ok (.if_icmp .eq 21, 3) := by decide +kernel
theorem dX6_isLetter_24 : decode cX6_isLetter 24 = .ok (.iload_n 0, 1) := by decide +kernel
theorem dX6_isLetter_25 : decode cX6_isLetter 25 = .ok (.bipush 101, 2) := by decide +kernel
theorem dX6_isLetter_27 : decode cX6_isLetter 27 = .ok (.if_icmp .eq 15, 3) := by decide +kernel
theorem dX6_isLetter_30 : decode cX6_isLetter 30 = .ok (.iload_n 0, 1) := by decide +kernel
theorem dX6_isLetter_31 : decode cX6_isLetter 31 = .ok (.bipush 98, 2) := by decide +kernel
theorem dX6_isLetter_33 : decode cX6_isLetter 33 = .ok (.if_icmp .eq 9, 3) := by decide +kernel
theorem dX6_isLetter_36 : decode cX6_isLetter 36 = .ok (.iload_n 0, 1) := by decide +kernel
theorem dX6_isLetter_37 : decode cX6_isLetter 37 = .ok (.bipush 100, 2) := by decide +kernel
theorem dX6_isLetter_39 : decode cX6_isLetter 39 = .ok (.if_icmp .ne 7, 3) := by decide +kernel
theorem dX6_isLetter_42 : decode cX6_isLetter 42 = .ok (.iconst 1, 1) := by decide +kernel
theorem dX6_isLetter_43 : decode cX6_isLetter 43 = .ok (.goto 4, 3) := by decide +kernel
theorem dX6_isLetter_46 : decode cX6_isLetter 46 = .ok (.iconst 0, 1) := by decide +kernel
theorem dX6_isLetter_47 : decode cX6_isLetter 47 = .ok (.ireturn, 1) := by decide +kernel
theorem dX6_readNumbers_0 : decode cX6_readNumbers 0 = .ok (.aload_n 0, 1) := by decide +kernel
theorem dX6_readNumbers_1 : decode cX6_readNumbers 1 = .ok (.getfield 53, 3) := by decide +kernel
theorem dX6_readNumbers_4 : decode cX6_readNumbers 4 = .ok (.iload_n 2, 1) := by decide +kernel
theorem dX6_readNumbers_5 : decode cX6_readNumbers 5 = .ok (.aload_n 0, 1) := by decide +kernel
theorem dX6_readNumbers_6 : decode cX6_readNumbers 6 = .ok (.iload_n 1, 1) := by decide +kernel
theorem dX6_readNumbers_7 : decode cX6_readNumbers 7 = .ok (.bipush 100, 2) := by decide +kernel
theorem dX6_readNumbers_9 : decode cX6_readNumbers 9 = .ok (.if_icmp .ne 7, 3) := by decide +kernel
theorem dX6_readNumbers_12 : decode cX6_readNumbers 12 = .ok (.iconst 2, 1) := by decide +kernel
theorem dX6_readNumbers_13 : decode cX6_readNumbers 13 = .ok (.goto 4, 3) := by decide +kernel
theorem dX6_readNumbers_16 : decode cX6_readNumbers 16 = .ok (.iconst 1, 1) := by decide +kernel
theorem dX6_readNumbers_17 : decode cX6_readNumbers 17 = .ok (.invokevirtual 152, 3) := by decide +kernel
theorem dX6_readNumbers_20 : decode cX6_readNumbers 20 = .ok (.iastore, 1) := by decide +kernel
theorem dX6_readNumbers_21 : decode cX6_readNumbers 21 = .ok (.iload_n 1, 1) := by decide +kernel
theorem dX6_readNumbers_22 : decode cX6_readNumbers 22 = .ok (.bipush 100, 2) := by decide +kernel
theorem dX6_readNumbers_24 : decode cX6_readNumbers 24 = .ok (.if_icmp .eq 32, 3) := by decide +kernel
theorem dX6_readNumbers_27 : decode cX6_readNumbers 27 = .ok (.aload_n 0, 1) := by decide +kernel
theorem dX6_readNumbers_28 : decode cX6_readNumbers 28 = .ok (.getfield 53, 3) := by decide +kernel
theorem dX6_readNumbers_31 : decode cX6_readNumbers 31 = .ok (.iload_n 2, 1) := by decide +kernel
theorem dX6_readNumbers_32 : decode cX6_readNumbers 32 = .ok (.iconst 1, 1) := by decide +kernel
theorem dX6_readNumbers_33 : decode cX6_readNumbers 33 = .ok (.iadd, 1) := by decide +kernel
theorem dX6_readNumbers_34 : decode cX6_readNumbers 34 = .ok (.aload_n 0, 1) := by decide +kernel
theorem dX6_readNumbers_35 : decode cX6_readNumbers 35 = .ok (.iload_n 1, 1) := by decide +kernel
theorem dX6_readNumbers_36 : decode cX6_readNumbers 36 = .ok (.bipush 108, 2) := by decide +kernel
theorem dX6_readNumbers_38 : decode cX6_readNumbers 38 = .ok (.if_icmp .eq 9, 3) := by decide +kernel
theorem dX6_readNumbers_41 : decode cX6_readNumbers 41 = .ok (.iload_n 1, 1) := by decide +kernel
theorem dX6_readNumbers_42 : decode cX6_readNumbers 42 = .ok (.bipush 104, 2) := by decide +kernel
theorem dX6_readNumbers_44 : decode cX6_readNumbers 44 = .ok (.if_icmp .ne 7, 3) := by decide +kernel
theorem dX6_readNumbers_47 : decode cX6_readNumbers 47 = .ok (.iconst 2, 1) := by decide +kernel
theorem dX6_readNumbers_48 : decode cX6_readNumbers 48 = .ok (.goto 4, 3) := by decide +kernel
theorem dX6_readNumbers_51 : decode cX6_readNumbers 51 = .ok (.iconst 1, 1) := by decide +kernel
theorem dX6_readNumbers_52 : decode cX6_readNumbers 52 = .ok (.invokevirtual 152, 3) := by decide +kernel
theorem dX6_readNumbers_55 : decode cX6_readNumbers 55 = .ok (.iastore, 1) := by decide +kernel
theorem dX6_readNumbers_56 : decode cX6_readNumbers 56 = .ok (.iload_n 1, 1) := by decide +kernel
theorem dX6_readNumbers_57 : decode cX6_readNumbers 57 = .ok (.bipush 103, 2) := by decide +kernel
theorem dX6_readNumbers_59 : decode cX6_readNumbers 59 = .ok (.if_icmp .ne 16, 3) := by decide +kernel
theorem dX6_readNumbers_62 : decode cX6_readNumbers 62 = .ok (.aload_n 0, 1) := by decide +kernel
theorem dX6_readNumbers_63 : decode cX6_readNumbers 63 = .ok (.getfield 53, 3) := by decide +kernel
theorem dX6_readNumbers_66 : decode cX6_readNumbers 66 = .ok (.iload_n 2, 1) := by decide +kernel
theorem dX6_readNumbers_67 : decode cX6_readNumbers 67 = .ok (.iconst 2, 1) := by decide +kernel
theorem dX6_readNumbers_68 : decode cX6_readNumbers 68 = .ok (.iadd, 1) := by decide +kernel
theorem dX6_readNumbers_69 : decode cX6_readNumbers 69 = .ok (.aload_n 0, 1) := by decide +kernel
theorem dX6_readNumbers_70 : decode cX6_readNumbers 70 = .ok (.iconst 1, 1) := by decide +kernel
theorem dX6_readNumbers_71 : decode cX6_readNumbers 71 = .ok (.invokevirtual 152, 3) := by decide +kernel
theorem dX6_readNumbers_74 : decode cX6_readNumbers 74 = .ok (.iastore, 1) := by decide +kernel
theorem dX6_readNumbers_75 : decode cX6_readNumbers 75 = .ok (.return_, 1) := by decide +kernel
theorem dX6_readStatement_0 : decode cX6_readStatement 0 = .ok (.aload_n 0, 1) := by decide +kernel
theorem dX6_readStatement_1 : decode cX6_readStatement 1 = .ok (.getfield 155, 3) := by decide +kernel
theorem dX6_readStatement_4 : decode cX6_readStatement 4 = .ok (.istore_n 1, 1) := by decide +kernel
theorem dX6_readStatement_5 : decode cX6_readStatement 5 = .ok (.aload_n 0, 1) := by decide +kernel
theorem dX6_readStatement_6 : decode cX6_readStatement 6 = .ok (.invokevirtual 144, 3) := by decide +kernel
theorem dX6_readStatement_9 : decode cX6_readStatement 9 = .ok (.istore_n 2, 1) := by decide +kernel
theorem dX6_readStatement_10 : decode cX6_readStatement 10 = .ok (.aload_n 0, 1) := by decide +kernel
theorem dX6_readStatement_11 : decode cX6_readStatement 11 = .ok (.getfield 47, 3) := by decide +kernel
theorem dX6_readStatement_14 : decode cX6_readStatement 14 = .ok (.iload_n 1, 1) := by decide +kernel
theorem dX6_readStatement_15 : decode cX6_readStatement 15 = .ok (.aload_n 0, 1) := by decide +kernel
theorem dX6_readStatement_16 : decode cX6_readStatement 16 = .ok (.getfield 135, 3) := by decide +kernel
theorem dX6_readStatement_19 : decode cX6_readStatement 19 = .ok (.iastore, 1) := by decide +kernel
theorem dX6_readStatement_20 : decode cX6_readStatement 20 = .ok (.aload_n 0, 1) := by decide +kernel
theorem dX6_readStatement_21 : decode cX6_readStatement 21 = .ok (.getfield 50, 3) := by decide +kernel
theorem dX6_readStatement_24 : decode cX6_readStatement 24 = .ok (.iload_n 1, 1) := by decide +kernel
theorem dX6_readStatement_25 : decode cX6_readStatement 25 = .ok (.iload_n 2, 1) := by decide +kernel
theorem dX6_readStatement_26 : decode cX6_readStatement 26 = .ok (.iastore, 1) := by decide +kernel
theorem dX6_readStatement_27 : decode cX6_readStatement 27 = .ok (.aload_n 0, 1) := by decide +kernel
theorem dX6_readStatement_28 : decode cX6_readStatement 28 = .ok (.aload_n 0, 1) := by decide +kernel
theorem dX6_readStatement_29 : decode cX6_readStatement 29 = .ok (.getfield 141, 3) := by decide +kernel
theorem dX6_readStatement_32 : decode cX6_readStatement 32 = .ok (.ifCond .ne 10, 3) := by decide +kernel
theorem dX6_readStatement_35 : decode cX6_readStatement 35 = .ok (.iload_n 2, 1) := by decide +kernel
theorem dX6_readStatement_36 : decode cX6_readStatement 36 = .ok (.invokestatic 158, 3) := by decide +kernel
theorem dX6_readStatement_39 : decode cX6_readStatement 39 = .ok (.ifCond .ne 7, 3) := by decide +kernel
theorem dX6_readStatement_42 : decode cX6_readStatement 42 = .ok (.iconst 1, 1) := by decide +kernel
theorem dX6_readStatement_43 : decode cX6_readStatement 43 = .ok (.goto 4, 3) := by decide +kernel
theorem dX6_readStatement_46 : decode cX6_readStatement 46 = .ok (.iconst 0, 1) := by decide +kernel
theorem dX6_readStatement_47 : decode cX6_readStatement 47 = .ok (.putfield 141, 3) := by decide +kernel
theorem dX6_readStatement_50 : decode cX6_readStatement 50 = .ok (.aload_n 0, 1) := by decide +kernel
theorem dX6_readStatement_51 : decode cX6_readStatement 51 = .ok (.dup, 1) := by decide +kernel
theorem dX6_readStatement_52 : decode cX6_readStatement 52 = .ok (.getfield 135, 3) := by decide +kernel
theorem dX6_readStatement_55 : decode cX6_readStatement 55 = .ok (.aload_n 0, 1) := by decide +kernel
theorem dX6_readStatement_56 : decode cX6_readStatement 56 = .ok (.getfield 141, 3) := by decide +kernel
theorem dX6_readStatement_59 : decode cX6_readStatement 59 = .ok (.ifCond .eq 7, 3) := by decide +kernel
theorem dX6_readStatement_62 : decode cX6_readStatement 62 = .ok (.iconst 0, 1) := by decide +kernel
theorem dX6_readStatement_63 : decode cX6_readStatement 63 = .ok (.goto 4, 3) := by decide +kernel
theorem dX6_readStatement_66 : decode cX6_readStatement 66 = .ok (.iconst 1, 1) := by decide +kernel
theorem dX6_readStatement_67 : decode cX6_readStatement 67 = .ok (.iadd, 1) := by decide +kernel
theorem dX6_readStatement_68 : decode cX6_readStatement 68 = .ok (.putfield 135, 3) := by decide +kernel
theorem dX6_readStatement_71 : decode cX6_readStatement 71 = .ok (.aload_n 0, 1) := by decide +kernel
theorem dX6_readStatement_72 : decode cX6_readStatement 72 = .ok (.getfield 141, 3) := by decide +kernel
theorem dX6_readStatement_75 : decode cX6_readStatement 75 = .ok (.ifCond .ne 11, 3) := by decide +kernel
theorem dX6_readStatement_78 : decode cX6_readStatement 78 = .ok (.aload_n 0, 1) := by decide +kernel
theorem dX6_readStatement_79 : decode cX6_readStatement 79 = .ok (.iload_n 2, 1) := by decide +kernel
theorem dX6_readStatement_80 : decode cX6_readStatement 80 = .ok (.iconst 3, 1) := by decide +kernel
theorem dX6_readStatement_81 : decode cX6_readStatement 81 = .ok (.iload_n 1, 1) := by decide +kernel
theorem dX6_readStatement_82 : decode cX6_readStatement 82 = .ok (.imul, 1) := by decide +kernel
theorem dX6_readStatement_83 : decode cX6_readStatement 83 = .ok (.invokevirtual 162, 3) := by decide +kernel
theorem dX6_readStatement_86 : decode cX6_readStatement 86 = .ok (.aload_n 0, 1) := by decide +kernel
theorem dX6_readStatement_87 : decode cX6_readStatement 87 = .ok (.aload_n 0, 1) := by decide +kernel
theorem dX6_readStatement_88 : decode cX6_readStatement 88 = .ok (.getfield 141, 3) := by decide +kernel
theorem dX6_readStatement_91 : decode cX6_readStatement 91 = .ok (.ifCond .ne 12, 3) := by decide +kernel
theorem dX6_readStatement_94 : decode cX6_readStatement 94 = .ok (.aload_n 0, 1) := by decide +kernel
theorem dX6_readStatement_95 : decode cX6_readStatement 95 = .ok (.invokevirtual 144, 3) := by decide +kernel
theorem dX6_readStatement_98 : decode cX6_readStatement 98 = .ok (.bipush 59, 2) := by decide +kernel
theorem dX6_readStatement_100 : decode cX6_readStatement 100 = .ok (.if_icmp .eq 7, 3) := by decide +kernel
theorem dX6_readStatement_103 : decode cX6_readStatement 103 = .ok (.iconst 1, 1) := by decide +kernel
theorem dX6_readStatement_104 : decode cX6_readStatement 104 = .ok (.goto 4, 3) := by decide +kernel
theorem dX6_readStatement_107 : decode cX6_readStatement 107 = .ok (.iconst 0, 1) := by decide +kernel
theorem dX6_readStatement_108 : decode cX6_readStatement 108 = .ok (.putfield 141, 3) := by decide +kernel
theorem dX6_readStatement_111 : decode cX6_readStatement 111 = .ok (.aload_n 0, 1) := by decide +kernel
theorem dX6_readStatement_112 : decode cX6_readStatement 112 = .ok (.dup, 1) := by decide +kernel
theorem dX6_readStatement_113 : decode cX6_readStatement 113 = .ok (.getfield 135, 3) := by decide +kernel
theorem dX6_readStatement_116 : decode cX6_readStatement 116 = .ok (.aload_n 0, 1) := by decide +kernel
theorem dX6_readStatement_117 : decode cX6_readStatement 117 = .ok (.getfield 141, 3) := by decide +kernel
theorem dX6_readStatement_120 : decode cX6_readStatement 120 = .ok (.ifCond .eq 7, 3) := by decide +kernel
theorem dX6_readStatement_123 : decode cX6_readStatement 123 = .ok (.iconst 0, 1) := by decide +kernel
theorem dX6_readStatement_124 : decode cX6_readStatement 124 = .ok (.goto 4, 3) := by decide +kernel
theorem dX6_readStatement_127 : decode cX6_readStatement 127 = .ok (.iconst 1, 1) := by decide +kernel
theorem dX6_readStatement_128 : decode cX6_readStatement 128 = .ok (.iadd, 1) := by decide +kernel
theorem dX6_readStatement_129 : decode cX6_readStatement 129 = .ok (.putfield 135, 3) := by decide +kernel
theorem dX6_readStatement_132 : decode cX6_readStatement 132 = .ok (.aload_n 0, 1) := by decide +kernel
theorem dX6_readStatement_133 : decode cX6_readStatement 133 = .ok (.dup, 1) := by decide +kernel
theorem dX6_readStatement_134 : decode cX6_readStatement 134 = .ok (.getfield 155, 3) := by decide +kernel
theorem dX6_readStatement_137 : decode cX6_readStatement 137 = .ok (.iconst 1, 1) := by decide +kernel
theorem dX6_readStatement_138 : decode cX6_readStatement 138 = .ok (.iadd, 1) := by decide +kernel
theorem dX6_readStatement_139 : decode cX6_readStatement 139 = .ok (.putfield 155, 3) := by decide +kernel
theorem dX6_readStatement_142 : decode cX6_readStatement 142 = .ok (.return_, 1) := by decide +kernel
theorem dX6_guestComes_0 : decode cX6_guestComes 0 = .ok (.iload_n 1, 1) := by decide +kernel
theorem dX6_guestComes_1 : decode cX6_guestComes 1 = .ok (.bipush 8, 2) := by decide +kernel
theorem dX6_guestComes_3 : decode cX6_guestComes 3 = .ok (.if_icmp .ge 16, 3) := by decide +kernel
theorem dX6_guestComes_6 : decode cX6_guestComes 6 = .ok (.aload_n 0, 1) := by decide +kernel
theorem dX6_guestComes_7 : decode cX6_guestComes 7 = .ok (.getfield 85, 3) := by decide +kernel
theorem dX6_guestComes_10 : decode cX6_guestComes 10 = .ok (.bipush 7, 2) := by decide +kernel
theorem dX6_guestComes_12 : decode cX6_guestComes 12 = .ok (.if_icmp .ge 7, 3) := by decide +kernel
theorem dX6_guestComes_15 : decode cX6_guestComes 15 = .ok (.iconst 1, 1) := by decide +kernel
theorem dX6_guestComes_16 : decode cX6_guestComes 16 = .ok (.goto 4, 3) := by decide +kernel
theorem dX6_guestComes_19 : decode cX6_guestComes 19 = .ok (.iconst 0, 1) := by decide +kernel
theorem dX6_guestComes_20 : decode cX6_guestComes 20 = .ok (.istore 4, 2) := by decide +kernel
theorem dX6_guestComes_22 : decode cX6_guestComes 22 = .ok (.iload 4, 2) := by decide +kernel
theorem dX6_guestComes_24 : decode cX6_guestComes 24 = .ok (.ifCond .eq 79, 3) := by decide +kernel
theorem dX6_guestComes_27 : decode cX6_guestComes 27 = .ok (.aload_n 0, 1) := by decide +kernel
theorem dX6_guestComes_28 : decode cX6_guestComes 28 = .ok (.getfield 13, 3) := by decide +kernel
theorem dX6_guestComes_31 : decode cX6_guestComes 31 = .ok (.aload_n 0, 1) := by decide +kernel
theorem dX6_guestComes_32 : decode cX6_guestComes 32 = .ok (.getfield 85, 3) := by decide +kernel
theorem dX6_guestComes_35 : decode cX6_guestComes 35 = .ok (.iload_n 1, 1) := by decide +kernel
theorem dX6_guestComes_36 : decode cX6_guestComes 36 = .ok (.iastore, 1) := by decide +kernel
theorem dX6_guestComes_37 : decode cX6_guestComes 37 = .ok (.aload_n 0, 1) := by decide +kernel
theorem dX6_guestComes_38 : decode cX6_guestComes 38 = .ok (.getfield 16, 3) := by decide +kernel
theorem dX6_guestComes_41 : decode cX6_guestComes 41 = .ok (.aload_n 0, 1) := by decide +kernel
theorem dX6_guestComes_42 : decode cX6_guestComes 42 = .ok (.getfield 85, 3) := by decide +kernel
theorem dX6_guestComes_45 : decode cX6_guestComes 45 = .ok (.iload_n 2, 1) := by decide +kernel
theorem dX6_guestComes_46 : decode cX6_guestComes 46 = .ok (.iastore, 1) := by decide +kernel
theorem dX6_guestComes_47 : decode cX6_guestComes 47 = .ok (.aload_n 0, 1) := by decide +kernel
theorem dX6_guestComes_48 : decode cX6_guestComes 48 = .ok (.getfield 19, 3) := by decide +kernel
theorem dX6_guestComes_51 : decode cX6_guestComes 51 = .ok (.aload_n 0, 1) := by decide +kernel
theorem dX6_guestComes_52 : decode cX6_guestComes 52 = .ok (.getfield 85, 3) := by decide +kernel
theorem dX6_guestComes_55 : decode cX6_guestComes 55 = .ok (.iload_n 3, 1) := by decide +kernel
theorem dX6_guestComes_56 : decode cX6_guestComes 56 = .ok (.iastore, 1) := by decide +kernel
theorem dX6_guestComes_57 : decode cX6_guestComes 57 = .ok (.aload_n 0, 1) := by decide +kernel
theorem dX6_guestComes_58 : decode cX6_guestComes 58 = .ok (.getfield 22, 3) := by decide +kernel
theorem dX6_guestComes_61 : decode cX6_guestComes 61 = .ok (.aload_n 0, 1) := by decide +kernel
theorem dX6_guestComes_62 : decode cX6_guestComes 62 = .ok (.getfield 85, 3) := by decide +kernel
theorem dX6_guestComes_65 : decode cX6_guestComes 65 = .ok (.iconst 0, 1) := by decide +kernel
theorem dX6_guestComes_66 : decode cX6_guestComes 66 = .ok (.iastore, 1) := by decide +kernel
theorem dX6_guestComes_67 : decode cX6_guestComes 67 = .ok (.aload_n 0, 1) := by decide +kernel
theorem dX6_guestComes_68 : decode cX6_guestComes 68 = .ok (.getfield 25, 3) := by decide +kernel
theorem dX6_guestComes_71 : decode cX6_guestComes 71 = .ok (.aload_n 0, 1) := by decide +kernel
theorem dX6_guestComes_72 : decode cX6_guestComes 72 = .ok (.getfield 85, 3) := by decide +kernel
theorem dX6_guestComes_75 : decode cX6_guestComes 75 = .ok (.bipush 50, 2) := by decide +kernel
theorem dX6_guestComes_77 : decode cX6_guestComes 77 = .ok (.iastore, 1) := by decide +kernel
theorem dX6_guestComes_78 : decode cX6_guestComes 78 = .ok (.aload_n 0, 1) := by decide +kernel
theorem dX6_guestComes_79 : decode cX6_guestComes 79 = .ok (.dup, 1) := by decide +kernel
theorem dX6_guestComes_80 : decode cX6_guestComes 80 = .ok (.getfield 125, 3) := by decide +kernel
theorem dX6_guestComes_83 : decode cX6_guestComes 83 = .ok (.iconst 1, 1) := by decide +kernel
theorem dX6_guestComes_84 : decode cX6_guestComes 84 = .ok (.aload_n 0, 1) := by decide +kernel
theorem dX6_guestComes_85 : decode cX6_guestComes 85 = .ok (.getfield 85, 3) := by decide +kernel
theorem dX6_guestComes_88 : decode cX6_guestComes 88 = .ok (.ishl, 1) := by decide +kernel
theorem dX6_guestComes_89 : decode cX6_guestComes 89 = .ok (.ior, 1) := by decide +kernel
theorem dX6_guestComes_90 : decode cX6_guestComes 90 = .ok (.putfield 125, 3) := by decide +kernel
theorem dX6_guestComes_93 : decode cX6_guestComes 93 = .ok (.aload_n 0, 1) := by decide +kernel
theorem dX6_guestComes_94 : decode cX6_guestComes 94 = .ok (.dup, 1) := by decide +kernel
theorem dX6_guestComes_95 : decode cX6_guestComes 95 = .ok (.getfield 85, 3) := by decide +kernel
theorem dX6_guestComes_98 : decode cX6_guestComes 98 = .ok (.iconst 1, 1) := by decide +kernel
theorem dX6_guestComes_99 : decode cX6_guestComes 99 = .ok (.iadd, 1) := by decide +kernel
theorem dX6_guestComes_100 : decode cX6_guestComes 100 = .ok (.putfield 85, 3) := by decide +kernel
theorem dX6_guestComes_103 : decode cX6_guestComes 103 = .ok (.iload 4, 2) := by decide +kernel
theorem dX6_guestComes_105 : decode cX6_guestComes 105 = .ok (.ireturn, 1) := by decide +kernel
theorem dX6_nightsCome_0 : decode cX6_nightsCome 0 = .ok (.iload_n 1, 1) := by decide +kernel
theorem dX6_nightsCome_1 : decode cX6_nightsCome 1 = .ok (.i2l, 1) := by decide +kernel
theorem dX6_nightsCome_2 : decode cX6_nightsCome 2 = .ok (.lconst 1, 1) := by decide +kernel
theorem dX6_nightsCome_3 : decode cX6_nightsCome 3 = .ok (.ldc2_w 166, 3) := by decide +kernel
theorem dX6_nightsCome_6 : decode cX6_nightsCome 6 = .ok (.invokestatic 81, 3) := by decide +kernel
theorem dX6_nightsCome_9 : decode cX6_nightsCome 9 = .ok (.ifCond .eq 19, 3) := by decide +kernel
theorem dX6_nightsCome_12 : decode cX6_nightsCome 12 = .ok (.aload_n 0, 1) := by decide +kernel
theorem dX6_nightsCome_13 : decode cX6_nightsCome 13 = .ok (.getfield 92, 3) := by decide +kernel
theorem dX6_nightsCome_16 : decode cX6_nightsCome 16 = .ok (.iload_n 1, 1) := by decide +kernel
theorem dX6_nightsCome_17 : decode cX6_nightsCome 17 = .ok (.iadd, 1) := by decide +kernel
theorem dX6_nightsCome_18 : decode cX6_nightsCome 18 = .ok (.sipush 999, 3) := by decide +kernel
theorem dX6_nightsCome_21 : decode cX6_nightsCome 21 = .ok (.if_icmp .gt 7, 3) := by decide +kernel
theorem dX6_nightsCome_24 : decode cX6_nightsCome 24 = .ok (.iconst 1, 1) := by decide +kernel
theorem dX6_nightsCome_25 : decode cX6_nightsCome 25 = .ok (.goto 4, 3) := by decide +kernel
theorem dX6_nightsCome_28 : decode cX6_nightsCome 28 = .ok (.iconst 0, 1) := by decide +kernel
theorem dX6_nightsCome_29 : decode cX6_nightsCome 29 = .ok (.istore_n 2, 1) := by decide +kernel
theorem dX6_nightsCome_30 : decode cX6_nightsCome 30 = .ok (.iload_n 2, 1) := by decide +kernel
theorem dX6_nightsCome_31 : decode cX6_nightsCome 31 = .ok (.ifCond .eq 8, 3) := by decide +kernel
theorem dX6_nightsCome_34 : decode cX6_nightsCome 34 = .ok (.aload_n 0, 1) := by decide +kernel
theorem dX6_nightsCome_35 : decode cX6_nightsCome 35 = .ok (.iload_n 1, 1) := by decide +kernel
theorem dX6_nightsCome_36 : decode cX6_nightsCome 36 = .ok (.invokevirtual 168, 3) := by decide +kernel
theorem dX6_nightsCome_39 : decode cX6_nightsCome 39 = .ok (.iload_n 2, 1) := by decide +kernel
theorem dX6_nightsCome_40 : decode cX6_nightsCome 40 = .ok (.ireturn, 1) := by decide +kernel
theorem dX6_ofGuest_0 : decode cX6_ofGuest 0 = .ok (.aload_n 0, 1) := by decide +kernel
theorem dX6_ofGuest_1 : decode cX6_ofGuest 1 = .ok (.iload_n 2, 1) := by decide +kernel
theorem dX6_ofGuest_2 : decode cX6_ofGuest 2 = .ok (.invokevirtual 171, 3) := by decide +kernel
theorem dX6_ofGuest_5 : decode cX6_ofGuest 5 = .ok (.ifCond .eq 17, 3) := by decide +kernel
theorem dX6_ofGuest_8 : decode cX6_ofGuest 8 = .ok (.iload_n 1, 1) := by decide +kernel
theorem dX6_ofGuest_9 : decode cX6_ofGuest 9 = .ok (.bipush 104, 2) := by decide +kernel
theorem dX6_ofGuest_11 : decode cX6_ofGuest 11 = .ok (.if_icmp .ne 7, 3) := by decide +kernel
theorem dX6_ofGuest_14 : decode cX6_ofGuest 14 = .ok (.iload_n 3, 1) := by decide +kernel
theorem dX6_ofGuest_15 : decode cX6_ofGuest 15 = .ok (.ifCond .le 7, 3) := by decide +kernel
theorem dX6_ofGuest_18 : decode cX6_ofGuest 18 = .ok (.iconst 1, 1) := by decide +kernel
theorem dX6_ofGuest_19 : decode cX6_ofGuest 19 = .ok (.goto 4, 3) := by decide +kernel
theorem dX6_ofGuest_22 : decode cX6_ofGuest 22 = .ok (.iconst 0, 1) := by decide +kernel
theorem dX6_ofGuest_23 : decode cX6_ofGuest 23 = .ok (.istore 4, 2) := by decide +kernel
theorem dX6_ofGuest_25 : decode cX6_ofGuest 25 = .ok (.iload 4, 2) := by decide +kernel
theorem dX6_ofGuest_27 : decode cX6_ofGuest 27 = .ok (.ifCond .eq 16, 3) := by decide +kernel
theorem dX6_ofGuest_30 : decode cX6_ofGuest 30 = .ok (.iload_n 1, 1) := by decide +kernel
theorem dX6_ofGuest_31 : decode cX6_ofGuest 31 = .ok (.bipush 119, 2) := by decide +kernel
theorem dX6_ofGuest_33 : decode cX6_ofGuest 33 = .ok (.if_icmp .ne 10, 3) := by decide +kernel
theorem dX6_ofGuest_36 : decode cX6_ofGuest 36 = .ok (.aload_n 0, 1) := by decide +kernel
theorem dX6_ofGuest_37 : decode cX6_ofGuest 37 = .ok (.getfield 19, 3) := by decide +kernel
theorem dX6_ofGuest_40 : decode cX6_ofGuest 40 = .ok (.iload_n 2, 1) := by decide +kernel
theorem dX6_ofGuest_41 : decode cX6_ofGuest 41 = .ok (.iload_n 3, 1) := by decide +kernel
theorem dX6_ofGuest_42 : decode cX6_ofGuest 42 = .ok (.iastore, 1) := by decide +kernel
theorem dX6_ofGuest_43 : decode cX6_ofGuest 43 = .ok (.iload 4, 2) := by decide +kernel
theorem dX6_ofGuest_45 : decode cX6_ofGuest 45 = .ok (.ifCond .eq 16, 3) := by decide +kernel
theorem dX6_ofGuest_48 : decode cX6_ofGuest 48 = .ok (.iload_n 1, 1) := by decide +kernel
theorem dX6_ofGuest_49 : decode cX6_ofGuest 49 = .ok (.bipush 101, 2) := by decide +kernel
theorem dX6_ofGuest_51 : decode cX6_ofGuest 51 = .ok (.if_icmp .ne 10, 3) := by decide +kernel
theorem dX6_ofGuest_54 : decode cX6_ofGuest 54 = .ok (.aload_n 0, 1) := by decide +kernel
theorem dX6_ofGuest_55 : decode cX6_ofGuest 55 = .ok (.getfield 22, 3) := by decide +kernel
theorem dX6_ofGuest_58 : decode cX6_ofGuest 58 = .ok (.iload_n 2, 1) := by decide +kernel
theorem dX6_ofGuest_59 : decode cX6_ofGuest 59 = .ok (.iload_n 3, 1) := by decide +kernel
theorem dX6_ofGuest_60 : decode cX6_ofGuest 60 = .ok (.iastore, 1) := by decide +kernel
theorem dX6_ofGuest_61 : decode cX6_ofGuest 61 = .ok (.iload 4, 2) := by decide +kernel
theorem dX6_ofGuest_63 : decode cX6_ofGuest 63 = .ok (.ifCond .eq 28, 3) := by decide +kernel
theorem dX6_ofGuest_66 : decode cX6_ofGuest 66 = .ok (.iload_n 1, 1) := by decide +kernel
theorem dX6_ofGuest_67 : decode cX6_ofGuest 67 = .ok (.bipush 104, 2) := by decide +kernel
theorem dX6_ofGuest_69 : decode cX6_ofGuest 69 = .ok (.if_icmp .ne 22, 3) := by decide +kernel
theorem dX6_ofGuest_72 : decode cX6_ofGuest 72 = .ok (.aload_n 0, 1) := by decide +kernel
theorem dX6_ofGuest_73 : decode cX6_ofGuest 73 = .ok (.getfield 25, 3) := by decide +kernel
theorem dX6_ofGuest_76 : decode cX6_ofGuest 76 = .ok (.iload_n 2, 1) := by decide +kernel
theorem dX6_ofGuest_77 : decode cX6_ofGuest 77 = .ok (.iload_n 3, 1) := by decide +kernel
theorem dX6_ofGuest_78 : decode cX6_ofGuest 78 = .ok (.iastore, 1) := by decide +kernel
theorem dX6_ofGuest_79 : decode cX6_ofGuest 79 = .ok (.aload_n 0, 1) := by decide +kernel
theorem dX6_ofGuest_80 : decode cX6_ofGuest 80 = .ok (.dup, 1) := by decide +kernel
theorem dX6_ofGuest_81 : decode cX6_ofGuest 81 = .ok (.getfield 125, 3) := by decide +kernel
theorem dX6_ofGuest_84 : decode cX6_ofGuest 84 = .ok (.iconst 1, 1) := by decide +kernel
theorem dX6_ofGuest_85 : decode cX6_ofGuest 85 = .ok (.iload_n 2, 1) := by decide +kernel
theorem dX6_ofGuest_86 : decode cX6_ofGuest 86 = .ok (.ishl, 1) := by decide +kernel
theorem dX6_ofGuest_87 : decode cX6_ofGuest 87 = .ok (.ior, 1) := by decide +kernel
theorem dX6_ofGuest_88 : decode cX6_ofGuest 88 = .ok (.putfield 125, 3) := by decide +kernel
theorem dX6_ofGuest_91 : decode cX6_ofGuest 91 = .ok (.iload 4, 2) := by decide +kernel
theorem dX6_ofGuest_93 : decode cX6_ofGuest 93 = .ok (.ireturn, 1) := by decide +kernel
theorem dX6_comesTold_0 : decode cX6_comesTold 0 = .ok (.aload_n 0, 1) := by decide +kernel
theorem dX6_comesTold_1 : decode cX6_comesTold 1 = .ok (.getfield 53, 3) := by decide +kernel
theorem dX6_comesTold_4 : decode cX6_comesTold 4 = .ok (.iconst 3, 1) := by decide +kernel
theorem dX6_comesTold_5 : decode cX6_comesTold 5 = .ok (.iload_n 1, 1) := by decide +kernel
theorem dX6_comesTold_6 : decode cX6_comesTold 6 = .ok (.imul, 1) := by decide +kernel
theorem dX6_comesTold_7 : decode cX6_comesTold 7 = .ok (.iaload, 1) := by decide +kernel
theorem dX6_comesTold_8 : decode cX6_comesTold 8 = .ok (.istore_n 2, 1) := by decide +kernel
theorem dX6_comesTold_9 : decode cX6_comesTold 9 = .ok (.aload_n 0, 1) := by decide +kernel
theorem dX6_comesTold_10 : decode cX6_comesTold 10 = .ok (.getfield 53, 3) := by decide +kernel
theorem dX6_comesTold_13 : decode cX6_comesTold 13 = .ok (.iconst 3, 1) := by decide +kernel
theorem dX6_comesTold_14 : decode cX6_comesTold 14 = .ok (.iload_n 1, 1) := by decide +kernel
theorem dX6_comesTold_15 : decode cX6_comesTold 15 = .ok (.imul, 1) := by decide +kernel
theorem dX6_comesTold_16 : decode cX6_comesTold 16 = .ok (.iconst 1, 1) := by decide +kernel
theorem dX6_comesTold_17 : decode cX6_comesTold 17 = .ok (.iadd, 1) := by decide +kernel
theorem dX6_comesTold_18 : decode cX6_comesTold 18 = .ok (.iaload, 1) := by decide +kernel
theorem dX6_comesTold_19 : decode cX6_comesTold 19 = .ok (.istore_n 3, 1) := by decide +kernel
theorem dX6_comesTold_20 : decode cX6_comesTold 20 = .ok (.aload_n 0, 1) := by decide +kernel
theorem dX6_comesTold_21 : decode cX6_comesTold 21 = .ok (.getfield 50, 3) := by decide +kernel
theorem dX6_comesTold_24 : decode cX6_comesTold 24 = .ok (.iload_n 1, 1) := by decide +kernel
theorem dX6_comesTold_25 : decode cX6_comesTold 25 = .ok (.iaload, 1) := by decide +kernel
theorem dX6_comesTold_26 : decode cX6_comesTold 26 = .ok (.lookupswitch 95 #[(98, 68), (100, 89), (103, 42), (108, 59)], 42) := by decide +kernel
theorem dX6_comesTold_68 : decode cX6_comesTold 68 = .ok (.aload_n 0, 1) := by decide +kernel
theorem dX6_comesTold_69 : decode cX6_comesTold 69 = .ok (.iload_n 2, 1) := by decide +kernel
theorem dX6_comesTold_70 : decode cX6_comesTold 70 = .ok (.iload_n 3, 1) := by decide +kernel
theorem dX6_comesTold_71 : decode cX6_comesTold 71 = .ok (.aload_n 0, 1) := by decide +kernel
theorem dX6_comesTold_72 : decode cX6_comesTold 72 = .ok (.getfield 53, 3) := by decide +kernel
theorem dX6_comesTold_75 : decode cX6_comesTold 75 = .ok (.iconst 3, 1) := by decide +kernel
theorem dX6_comesTold_76 : decode cX6_comesTold 76 = .ok (.iload_n 1, 1) := by decide +kernel
theorem dX6_comesTold_77 : decode cX6_comesTold 77 = .ok (.imul, 1) := by decide +kernel
theorem dX6_comesTold_78 : decode cX6_comesTold 78 = .ok (.iconst 2, 1) := by decide +kernel
theorem dX6_comesTold_79 : decode cX6_comesTold 79 = .ok (.iadd, 1) := by decide +kernel
theorem dX6_comesTold_80 : decode cX6_comesTold 80 = .ok (.iaload, 1) := by decide +kernel
theorem dX6_comesTold_81 : decode cX6_comesTold 81 = .ok (.invokevirtual 174, 3) := by decide +kernel
theorem dX6_comesTold_84 : decode cX6_comesTold 84 = .ok (.ireturn, 1) := by decide +kernel
theorem dX6_comesTold_85 : decode cX6_comesTold 85 = .ok (.aload_n 0, 1) := by decide +kernel
theorem dX6_comesTold_86 : decode cX6_comesTold 86 = .ok (.getfield 7, 3) := by decide +kernel
theorem dX6_comesTold_89 : decode cX6_comesTold 89 = .ok (.iload_n 2, 1) := by decide +kernel
theorem dX6_comesTold_90 : decode cX6_comesTold 90 = .ok (.iload_n 3, 1) := by decide +kernel
theorem dX6_comesTold_91 : decode cX6_comesTold 91 = .ok (.iastore, 1) := by decide +kernel
theorem dX6_comesTold_92 : decode cX6_comesTold 92 = .ok (.iconst 1, 1) := by decide +kernel
theorem dX6_comesTold_93 : decode cX6_comesTold 93 = .ok (.ireturn, 1) := by decide +kernel
theorem dX6_comesTold_94 : decode cX6_comesTold 94 = .ok (.aload_n 0, 1) := by decide +kernel
theorem dX6_comesTold_95 : decode cX6_comesTold 95 = .ok (.getfield 7, 3) := by decide +kernel
theorem dX6_comesTold_98 : decode cX6_comesTold 98 = .ok (.iload_n 2, 1) := by decide +kernel
theorem dX6_comesTold_99 : decode cX6_comesTold 99 = .ok (.aload_n 0, 1) := by decide +kernel
theorem dX6_comesTold_100 : decode cX6_comesTold 100 = .ok (.getfield 7, 3) := by decide +kernel
theorem dX6_comesTold_103 : decode cX6_comesTold 103 = .ok (.iload_n 2, 1) := by decide +kernel
theorem dX6_comesTold_104 : decode cX6_comesTold 104 = .ok (.iaload, 1) := by decide +kernel
theorem dX6_comesTold_105 : decode cX6_comesTold 105 = .ok (.iload_n 3, 1) := by decide +kernel
theorem dX6_comesTold_106 : decode cX6_comesTold 106 = .ok (.iadd, 1) := by decide +kernel
theorem dX6_comesTold_107 : decode cX6_comesTold 107 = .ok (.bipush 99, 2) := by decide +kernel
theorem dX6_comesTold_109 : decode cX6_comesTold 109 = .ok (.invokestatic 88, 3) := by decide +kernel
theorem dX6_comesTold_112 : decode cX6_comesTold 112 = .ok (.iastore, 1) := by decide +kernel
theorem dX6_comesTold_113 : decode cX6_comesTold 113 = .ok (.iconst 1, 1) := by decide +kernel
theorem dX6_comesTold_114 : decode cX6_comesTold 114 = .ok (.ireturn, 1) := by decide +kernel
theorem dX6_comesTold_115 : decode cX6_comesTold 115 = .ok (.aload_n 0, 1) := by decide +kernel
theorem dX6_comesTold_116 : decode cX6_comesTold 116 = .ok (.iload_n 2, 1) := by decide +kernel
theorem dX6_comesTold_117 : decode cX6_comesTold 117 = .ok (.invokevirtual 178, 3) := by decide +kernel
theorem dX6_comesTold_120 : decode cX6_comesTold 120 = .ok (.ireturn, 1) := by decide +kernel
theorem dX6_comesTold_121 : decode cX6_comesTold 121 = .ok (.aload_n 0, 1) := by decide +kernel
theorem dX6_comesTold_122 : decode cX6_comesTold 122 = .ok (.aload_n 0, 1) := by decide +kernel
theorem dX6_comesTold_123 : decode cX6_comesTold 123 = .ok (.getfield 50, 3) := by decide +kernel
theorem dX6_comesTold_126 : decode cX6_comesTold 126 = .ok (.iload_n 1, 1) := by decide +kernel
theorem dX6_comesTold_127 : decode cX6_comesTold 127 = .ok (.iaload, 1) := by decide +kernel
theorem dX6_comesTold_128 : decode cX6_comesTold 128 = .ok (.iload_n 2, 1) := by decide +kernel
theorem dX6_comesTold_129 : decode cX6_comesTold 129 = .ok (.iload_n 3, 1) := by decide +kernel
theorem dX6_comesTold_130 : decode cX6_comesTold 130 = .ok (.invokevirtual 181, 3) := by decide +kernel
theorem dX6_comesTold_133 : decode cX6_comesTold 133 = .ok (.ireturn, 1) := by decide +kernel
theorem dX6_inn_0 : decode cX6_inn 0 = .ok (.aload_n 0, 1) := by decide +kernel
theorem dX6_inn_1 : decode cX6_inn 1 = .ok (.iconst 0, 1) := by decide +kernel
theorem dX6_inn_2 : decode cX6_inn 2 = .ok (.putfield 75, 3) := by decide +kernel
theorem dX6_inn_5 : decode cX6_inn 5 = .ok (.aload_n 0, 1) := by decide +kernel
theorem dX6_inn_6 : decode cX6_inn 6 = .ok (.iload_n 1, 1) := by decide +kernel
theorem dX6_inn_7 : decode cX6_inn 7 = .ok (.invokevirtual 184, 3) := by decide +kernel
theorem dX6_inn_10 : decode cX6_inn 10 = .ok (.istore_n 2, 1) := by decide +kernel
theorem dX6_inn_11 : decode cX6_inn 11 = .ok (.iload_n 2, 1) := by decide +kernel
theorem dX6_inn_12 : decode cX6_inn 12 = .ok (.ifCond .ne 17, 3) := by decide +kernel
theorem dX6_inn_15 : decode cX6_inn 15 = .ok (.aload_n 0, 1) := by decide +kernel
theorem dX6_inn_16 : decode cX6_inn 16 = .ok (.getfield 37, 3) := by decide +kernel
theorem dX6_inn_19 : decode cX6_inn 19 = .ok (.iload_n 1, 1) := by decide +kernel
theorem dX6_inn_20 : decode cX6_inn 20 = .ok (.iaload, 1) := by decide +kernel
theorem dX6_inn_21 : decode cX6_inn 21 = .ok (.ifCond .eq 8, 3) := by decide +kernel
theorem dX6_inn_24 : decode cX6_inn 24 = .ok (.bipush (-12), 2) := by decide +kernel
theorem dX6_inn_26 : decode cX6_inn 26 = .ok (.goto 4, 3) := by decide +kernel
theorem dX6_inn_29 : decode cX6_inn 29 = .ok (.iload_n 2, 1) := by decide +kernel
theorem dX6_inn_30 : decode cX6_inn 30 = .ok (.istore_n 2, 1) := by decide +kernel
theorem dX6_inn_31 : decode cX6_inn 31 = .ok (.iload_n 2, 1) := by decide +kernel
theorem dX6_inn_32 : decode cX6_inn 32 = .ok (.ifCond .ge 5, 3) := by decide +kernel
theorem dX6_inn_35 : decode cX6_inn 35 = .ok (.iload_n 2, 1) := by decide +kernel
theorem dX6_inn_36 : decode cX6_inn 36 = .ok (.ireturn, 1) := by decide +kernel
theorem dX6_inn_37 : decode cX6_inn 37 = .ok (.aload_n 0, 1) := by decide +kernel
theorem dX6_inn_38 : decode cX6_inn 38 = .ok (.iload_n 1, 1) := by decide +kernel
theorem dX6_inn_39 : decode cX6_inn 39 = .ok (.putfield 138, 3) := by decide +kernel
theorem dX6_inn_42 : decode cX6_inn 42 = .ok (.aload_n 0, 1) := by decide +kernel
theorem dX6_inn_43 : decode cX6_inn 43 = .ok (.iconst 0, 1) := by decide +kernel
theorem dX6_inn_44 : decode cX6_inn 44 = .ok (.putfield 135, 3) := by decide +kernel
theorem dX6_inn_47 : decode cX6_inn 47 = .ok (.aload_n 0, 1) := by decide +kernel
theorem dX6_inn_48 : decode cX6_inn 48 = .ok (.iconst 0, 1) := by decide +kernel
theorem dX6_inn_49 : decode cX6_inn 49 = .ok (.putfield 141, 3) := by decide +kernel
theorem dX6_inn_52 : decode cX6_inn 52 = .ok (.aload_n 0, 1) := by decide +kernel
theorem dX6_inn_53 : decode cX6_inn 53 = .ok (.iconst 0, 1) := by decide +kernel
theorem dX6_inn_54 : decode cX6_inn 54 = .ok (.putfield 155, 3) := by decide +kernel
theorem dX6_inn_57 : decode cX6_inn 57 = .ok (.aload_n 0, 1) := by decide +kernel
theorem dX6_inn_58 : decode cX6_inn 58 = .ok (.getfield 141, 3) := by decide +kernel
theorem dX6_inn_61 : decode cX6_inn 61 = .ok (.ifCond .ne 30, 3) := by decide +kernel
theorem dX6_inn_64 : decode cX6_inn 64 = .ok (.aload_n 0, 1) := by decide +kernel
theorem dX6_inn_65 : decode cX6_inn 65 = .ok (.getfield 155, 3) := by decide +kernel
theorem dX6_inn_68 : decode cX6_inn 68 = .ok (.ifCond .eq 16, 3) := by decide +kernel
theorem dX6_inn_71 : decode cX6_inn 71 = .ok (.aload_n 0, 1) := by decide +kernel
theorem dX6_inn_72 : decode cX6_inn 72 = .ok (.getfield 135, 3) := by decide +kernel
theorem dX6_inn_75 : decode cX6_inn 75 = .ok (.aload_n 0, 1) := by decide +kernel
theorem dX6_inn_76 : decode cX6_inn 76 = .ok (.getfield 40, 3) := by decide +kernel
theorem dX6_inn_79 : decode cX6_inn 79 = .ok (.iload_n 1, 1) := by decide +kernel
theorem dX6_inn_80 : decode cX6_inn 80 = .ok (.iaload, 1) := by decide +kernel
theorem dX6_inn_81 : decode cX6_inn 81 = .ok (.if_icmp .ge 10, 3) := by decide +kernel
theorem dX6_inn_84 : decode cX6_inn 84 = .ok (.aload_n 0, 1) := by decide +kernel
theorem dX6_inn_85 : decode cX6_inn 85 = .ok (.invokevirtual 187, 3) := by decide +kernel
theorem dX6_inn_88 : decode cX6_inn 88 = .ok (.goto (-31), 3) := by decide +kernel
theorem dX6_inn_91 : decode cX6_inn 91 = .ok (.aload_n 0, 1) := by decide +kernel
theorem dX6_inn_92 : decode cX6_inn 92 = .ok (.getfield 141, 3) := by decide +kernel
theorem dX6_inn_95 : decode cX6_inn 95 = .ok (.ifCond .eq 12, 3) := by decide +kernel
theorem dX6_inn_98 : decode cX6_inn 98 = .ok (.sipush (-1000), 3) := by decide +kernel
theorem dX6_inn_101 : decode cX6_inn 101 = .ok (.aload_n 0, 1) := by decide +kernel
theorem dX6_inn_102 : decode cX6_inn 102 = .ok (.getfield 135, 3) := by decide +kernel
theorem dX6_inn_105 : decode cX6_inn 105 = .ok (.isub, 1) := by decide +kernel
theorem dX6_inn_106 : decode cX6_inn 106 = .ok (.ireturn, 1) := by decide +kernel
theorem dX6_inn_107 : decode cX6_inn 107 = .ok (.aload_n 0, 1) := by decide +kernel
theorem dX6_inn_108 : decode cX6_inn 108 = .ok (.invokevirtual 190, 3) := by decide +kernel
theorem dX6_inn_111 : decode cX6_inn 111 = .ok (.iconst 0, 1) := by decide +kernel
theorem dX6_inn_112 : decode cX6_inn 112 = .ok (.istore_n 3, 1) := by decide +kernel
theorem dX6_inn_113 : decode cX6_inn 113 = .ok (.iload_n 3, 1) := by decide +kernel
theorem dX6_inn_114 : decode cX6_inn 114 = .ok (.aload_n 0, 1) := by decide +kernel
theorem dX6_inn_115 : decode cX6_inn 115 = .ok (.getfield 155, 3) := by decide +kernel
theorem dX6_inn_118 : decode cX6_inn 118 = .ok (.if_icmp .ge 32, 3) := by decide +kernel
theorem dX6_inn_121 : decode cX6_inn 121 = .ok (.aload_n 0, 1) := by decide +kernel
theorem dX6_inn_122 : decode cX6_inn 122 = .ok (.iload_n 3, 1) := by decide +kernel
theorem dX6_inn_123 : decode cX6_inn 123 = .ok (.invokevirtual 193, 3) := by decide +kernel
theorem dX6_inn_126 : decode cX6_inn 126 = .ok (.ifCond .ne 18, 3) := by decide +kernel
theorem dX6_inn_129 : decode cX6_inn 129 = .ok (.aload_n 0, 1) := by decide +kernel
theorem dX6_inn_130 : decode cX6_inn 130 = .ok (.invokevirtual 196, 3) := by decide +kernel
theorem dX6_inn_133 : decode cX6_inn 133 = .ok (.sipush (-2000), 3) := by decide +kernel
theorem dX6_inn_136 : decode cX6_inn 136 = .ok (.aload_n 0, 1) := by decide +kernel
theorem dX6_inn_137 : decode cX6_inn 137 = .ok (.getfield 47, 3) := by decide +kernel
theorem dX6_inn_140 : decode cX6_inn 140 = .ok (.iload_n 3, 1) := by decide +kernel
theorem dX6_inn_141 : decode cX6_inn 141 = .ok (.iaload, 1) := by decide +kernel
theorem dX6_inn_142 : decode cX6_inn 142 = .ok (.isub, 1) := by decide +kernel
theorem dX6_inn_143 : decode cX6_inn 143 = .ok (.ireturn, 1) := by decide +kernel
theorem dX6_inn_144 : decode cX6_inn 144 = .ok (.iinc 3 1, 3) := by decide +kernel
theorem dX6_inn_147 : decode cX6_inn 147 = .ok (.goto (-34), 3) := by decide +kernel
theorem dX6_inn_150 : decode cX6_inn 150 = .ok (.aload_n 0, 1) := by decide +kernel
theorem dX6_inn_151 : decode cX6_inn 151 = .ok (.getfield 155, 3) := by decide +kernel
theorem dX6_inn_154 : decode cX6_inn 154 = .ok (.ireturn, 1) := by decide +kernel
theorem dX6_carry_0 : decode cX6_carry 0 = .ok (.aload_n 0, 1) := by decide +kernel
theorem dX6_carry_1 : decode cX6_carry 1 = .ok (.getfield 199, 3) := by decide +kernel
theorem dX6_carry_4 : decode cX6_carry 4 = .ok (.ifCond .eq 13, 3) := by decide +kernel
theorem dX6_carry_7 : decode cX6_carry 7 = .ok (.aload_n 0, 1) := by decide +kernel
theorem dX6_carry_8 : decode cX6_carry 8 = .ok (.getfield 202, 3) := by decide +kernel
theorem dX6_carry_11 : decode cX6_carry 11 = .ok (.aload_n 0, 1) := by decide +kernel
theorem dX6_carry_12 : decode cX6_carry 12 = .ok (.getfield 205, 3) := by decide +kernel
theorem dX6_carry_15 : decode cX6_carry 15 = .ok (.iload_n 1, 1) := by decide +kernel
theorem dX6_carry_16 : decode cX6_carry 16 = .ok (.iastore, 1) := by decide +kernel
theorem dX6_carry_17 : decode cX6_carry 17 = .ok (.aload_n 0, 1) := by decide +kernel
theorem dX6_carry_18 : decode cX6_carry 18 = .ok (.dup, 1) := by decide +kernel
theorem dX6_carry_19 : decode cX6_carry 19 = .ok (.getfield 205, 3) := by decide +kernel
theorem dX6_carry_22 : decode cX6_carry 22 = .ok (.iconst 1, 1) := by decide +kernel
theorem dX6_carry_23 : decode cX6_carry 23 = .ok (.iadd, 1) := by decide +kernel
theorem dX6_carry_24 : decode cX6_carry 24 = .ok (.putfield 205, 3) := by decide +kernel
theorem dX6_carry_27 : decode cX6_carry 27 = .ok (.aload_n 0, 1) := by decide +kernel
theorem dX6_carry_28 : decode cX6_carry 28 = .ok (.getfield 202, 3) := by decide +kernel
theorem dX6_carry_31 : decode cX6_carry 31 = .ok (.aload_n 0, 1) := by decide +kernel
theorem dX6_carry_32 : decode cX6_carry 32 = .ok (.getfield 205, 3) := by decide +kernel
theorem dX6_carry_35 : decode cX6_carry 35 = .ok (.iconst 1, 1) := by decide +kernel
theorem dX6_carry_36 : decode cX6_carry 36 = .ok (.isub, 1) := by decide +kernel
theorem dX6_carry_37 : decode cX6_carry 37 = .ok (.iaload, 1) := by decide +kernel
theorem dX6_carry_38 : decode cX6_carry 38 = .ok (.ireturn, 1) := by decide +kernel
theorem dX6_carryAll_0 : decode cX6_carryAll 0 = .ok (.aload_n 0, 1) := by decide +kernel
theorem dX6_carryAll_1 : decode cX6_carryAll 1 = .ok (.aload_n 1, 1) := by decide +kernel
theorem dX6_carryAll_2 : decode cX6_carryAll 2 = .ok (.putfield 202, 3) := by decide +kernel
theorem dX6_carryAll_5 : decode cX6_carryAll 5 = .ok (.aload_n 0, 1) := by decide +kernel
theorem dX6_carryAll_6 : decode cX6_carryAll 6 = .ok (.iload_n 2, 1) := by decide +kernel
theorem dX6_carryAll_7 : decode cX6_carryAll 7 = .ok (.putfield 199, 3) := by decide +kernel
theorem dX6_carryAll_10 : decode cX6_carryAll 10 = .ok (.aload_n 0, 1) := by decide +kernel
theorem dX6_carryAll_11 : decode cX6_carryAll 11 = .ok (.iconst 0, 1) := by decide +kernel
theorem dX6_carryAll_12 : decode cX6_carryAll 12 = .ok (.putfield 205, 3) := by decide +kernel
theorem dX6_carryAll_15 : decode cX6_carryAll 15 = .ok (.aload_n 0, 1) := by decide +kernel
theorem dX6_carryAll_16 : decode cX6_carryAll 16 = .ok (.aload_n 0, 1) := by decide +kernel
theorem dX6_carryAll_17 : decode cX6_carryAll 17 = .ok (.aload_n 0, 1) := by decide +kernel
theorem dX6_carryAll_18 : decode cX6_carryAll 18 = .ok (.getfield 85, 3) := by decide +kernel
theorem dX6_carryAll_21 : decode cX6_carryAll 21 = .ok (.invokevirtual 208, 3) := by decide +kernel
theorem dX6_carryAll_24 : decode cX6_carryAll 24 = .ok (.putfield 85, 3) := by decide +kernel
theorem dX6_carryAll_27 : decode cX6_carryAll 27 = .ok (.aload_n 0, 1) := by decide +kernel
theorem dX6_carryAll_28 : decode cX6_carryAll 28 = .ok (.aload_n 0, 1) := by decide +kernel
theorem dX6_carryAll_29 : decode cX6_carryAll 29 = .ok (.aload_n 0, 1) := by decide +kernel
theorem dX6_carryAll_30 : decode cX6_carryAll 30 = .ok (.getfield 125, 3) := by decide +kernel
theorem dX6_carryAll_33 : decode cX6_carryAll 33 = .ok (.invokevirtual 208, 3) := by decide +kernel
theorem dX6_carryAll_36 : decode cX6_carryAll 36 = .ok (.putfield 125, 3) := by decide +kernel
theorem dX6_carryAll_39 : decode cX6_carryAll 39 = .ok (.aload_n 0, 1) := by decide +kernel
theorem dX6_carryAll_40 : decode cX6_carryAll 40 = .ok (.aload_n 0, 1) := by decide +kernel
theorem dX6_carryAll_41 : decode cX6_carryAll 41 = .ok (.aload_n 0, 1) := by decide +kernel
theorem dX6_carryAll_42 : decode cX6_carryAll 42 = .ok (.getfield 116, 3) := by decide +kernel
theorem dX6_carryAll_45 : decode cX6_carryAll 45 = .ok (.invokevirtual 208, 3) := by decide +kernel
theorem dX6_carryAll_48 : decode cX6_carryAll 48 = .ok (.putfield 116, 3) := by decide +kernel
theorem dX6_carryAll_51 : decode cX6_carryAll 51 = .ok (.aload_n 0, 1) := by decide +kernel
theorem dX6_carryAll_52 : decode cX6_carryAll 52 = .ok (.aload_n 0, 1) := by decide +kernel
theorem dX6_carryAll_53 : decode cX6_carryAll 53 = .ok (.aload_n 0, 1) := by decide +kernel
theorem dX6_carryAll_54 : decode cX6_carryAll 54 = .ok (.getfield 122, 3) := by decide +kernel
theorem dX6_carryAll_57 : decode cX6_carryAll 57 = .ok (.invokevirtual 208, 3) := by decide +kernel
theorem dX6_carryAll_60 : decode cX6_carryAll 60 = .ok (.putfield 122, 3) := by decide +kernel
theorem dX6_carryAll_63 : decode cX6_carryAll 63 = .ok (.aload_n 0, 1) := by decide +kernel
theorem dX6_carryAll_64 : decode cX6_carryAll 64 = .ok (.aload_n 0, 1) := by decide +kernel
theorem dX6_carryAll_65 : decode cX6_carryAll 65 = .ok (.aload_n 0, 1) := by decide +kernel
theorem dX6_carryAll_66 : decode cX6_carryAll 66 = .ok (.getfield 92, 3) := by decide +kernel
theorem dX6_carryAll_69 : decode cX6_carryAll 69 = .ok (.invokevirtual 208, 3) := by decide +kernel
theorem dX6_carryAll_72 : decode cX6_carryAll 72 = .ok (.putfield 92, 3) := by decide +kernel
theorem dX6_carryAll_75 : decode cX6_carryAll 75 = .ok (.iconst 0, 1) := by decide +kernel
theorem dX6_carryAll_76 : decode cX6_carryAll 76 = .ok (.istore_n 3, 1) := by decide +kernel
theorem dX6_carryAll_77 : decode cX6_carryAll 77 = .ok (.iload_n 3, 1) := by decide +kernel
theorem dX6_carryAll_78 : decode cX6_carryAll 78 = .ok (.bipush 10, 2) := by decide +kernel
theorem dX6_carryAll_80 : decode cX6_carryAll 80 = .ok (.if_icmp .ge 25, 3) := by decide +kernel
theorem dX6_carryAll_83 : decode cX6_carryAll 83 = .ok (.aload_n 0, 1) := by decide +kernel
theorem dX6_carryAll_84 : decode cX6_carryAll 84 = .ok (.getfield 7, 3) := by decide +kernel
theorem dX6_carryAll_87 : decode cX6_carryAll 87 = .ok (.iload_n 3, 1) := by decide +kernel
theorem dX6_carryAll_88 : decode cX6_carryAll 88 = .ok (.aload_n 0, 1) := by decide +kernel
theorem dX6_carryAll_89 : decode cX6_carryAll 89 = .ok (.aload_n 0, 1) := by decide +kernel
theorem dX6_carryAll_90 : decode cX6_carryAll 90 = .ok (.getfield 7, 3) := by decide +kernel
theorem dX6_carryAll_93 : decode cX6_carryAll 93 = .ok (.iload_n 3, 1) := by decide +kernel
theorem dX6_carryAll_94 : decode cX6_carryAll 94 = .ok (.iaload, 1) := by decide +kernel
theorem dX6_carryAll_95 : decode cX6_carryAll 95 = .ok (.invokevirtual 208, 3) := by decide +kernel
theorem dX6_carryAll_98 : decode cX6_carryAll 98 = .ok (.iastore, 1) := by decide +kernel
theorem dX6_carryAll_99 : decode cX6_carryAll 99 = .ok (.iinc 3 1, 3) := by decide +kernel
theorem dX6_carryAll_102 : decode cX6_carryAll 102 = .ok (.goto (-25), 3) := by decide +kernel
theorem dX6_carryAll_105 : decode cX6_carryAll 105 = .ok (.iconst 0, 1) := by decide +kernel
theorem dX6_carryAll_106 : decode cX6_carryAll 106 = .ok (.istore_n 3, 1) := by decide +kernel
theorem dX6_carryAll_107 : decode cX6_carryAll 107 = .ok (.iload_n 3, 1) := by decide +kernel
theorem dX6_carryAll_108 : decode cX6_carryAll 108 = .ok (.bipush 7, 2) := by decide +kernel
theorem dX6_carryAll_110 : decode cX6_carryAll 110 = .ok (.if_icmp .ge 89, 3) := by decide +kernel
theorem dX6_carryAll_113 : decode cX6_carryAll 113 = .ok (.aload_n 0, 1) := by decide +kernel
theorem dX6_carryAll_114 : decode cX6_carryAll 114 = .ok (.getfield 13, 3) := by decide +kernel
theorem dX6_carryAll_117 : decode cX6_carryAll 117 = .ok (.iload_n 3, 1) := by decide +kernel
theorem dX6_carryAll_118 : decode cX6_carryAll 118 = .ok (.aload_n 0, 1) := by decide +kernel
theorem dX6_carryAll_119 : decode cX6_carryAll 119 = .ok (.aload_n 0, 1) := by decide +kernel
theorem dX6_carryAll_120 : decode cX6_carryAll 120 = .ok (.getfield 13, 3) := by decide +kernel
theorem dX6_carryAll_123 : decode cX6_carryAll 123 = .ok (.iload_n 3, 1) := by decide +kernel
theorem dX6_carryAll_124 : decode cX6_carryAll 124 = .ok (.iaload, 1) := by decide +kernel
theorem dX6_carryAll_125 : decode cX6_carryAll 125 = .ok (.invokevirtual 208, 3) := by decide +kernel
theorem dX6_carryAll_128 : decode cX6_carryAll 128 = .ok (.iastore, 1) := by decide +kernel
theorem dX6_carryAll_129 : decode cX6_carryAll 129 = .ok (.aload_n 0, 1) := by decide +kernel
theorem dX6_carryAll_130 : decode cX6_carryAll 130 = .ok (.getfield 16, 3) := by decide +kernel
theorem dX6_carryAll_133 : decode cX6_carryAll 133 = .ok (.iload_n 3, 1) := by decide +kernel
theorem dX6_carryAll_134 : decode cX6_carryAll 134 = .ok (.aload_n 0, 1) := by decide +kernel
theorem dX6_carryAll_135 : decode cX6_carryAll 135 = .ok (.aload_n 0, 1) := by decide +kernel
theorem dX6_carryAll_136 : decode cX6_carryAll 136 = .ok (.getfield 16, 3) := by decide +kernel
theorem dX6_carryAll_139 : decode cX6_carryAll 139 = .ok (.iload_n 3, 1) := by decide +kernel
theorem dX6_carryAll_140 : decode cX6_carryAll 140 = .ok (.iaload, 1) := by decide +kernel
theorem dX6_carryAll_141 : decode cX6_carryAll 141 = .ok (.invokevirtual 208, 3) := by decide +kernel
theorem dX6_carryAll_144 : decode cX6_carryAll 144 = .ok (.iastore, 1) := by decide +kernel
theorem dX6_carryAll_145 : decode cX6_carryAll 145 = .ok (.aload_n 0, 1) := by decide +kernel
theorem dX6_carryAll_146 : decode cX6_carryAll 146 = .ok (.getfield 19, 3) := by decide +kernel
theorem dX6_carryAll_149 : decode cX6_carryAll 149 = .ok (.iload_n 3, 1) := by decide +kernel
theorem dX6_carryAll_150 : decode cX6_carryAll 150 = .ok (.aload_n 0, 1) := by decide +kernel
theorem dX6_carryAll_151 : decode cX6_carryAll 151 = .ok (.aload_n 0, 1) := by decide +kernel
theorem dX6_carryAll_152 : decode cX6_carryAll 152 = .ok (.getfield 19, 3) := by decide +kernel
theorem dX6_carryAll_155 : decode cX6_carryAll 155 = .ok (.iload_n 3, 1) := by decide +kernel
theorem dX6_carryAll_156 : decode cX6_carryAll 156 = .ok (.iaload, 1) := by decide +kernel
theorem dX6_carryAll_157 : decode cX6_carryAll 157 = .ok (.invokevirtual 208, 3) := by decide +kernel
theorem dX6_carryAll_160 : decode cX6_carryAll 160 = .ok (.iastore, 1) := by decide +kernel
theorem dX6_carryAll_161 : decode cX6_carryAll 161 = .ok (.aload_n 0, 1) := by decide +kernel
theorem dX6_carryAll_162 : decode cX6_carryAll 162 = .ok (.getfield 22, 3) := by decide +kernel
theorem dX6_carryAll_165 : decode cX6_carryAll 165 = .ok (.iload_n 3, 1) := by decide +kernel
theorem dX6_carryAll_166 : decode cX6_carryAll 166 = .ok (.aload_n 0, 1) := by decide +kernel
theorem dX6_carryAll_167 : decode cX6_carryAll 167 = .ok (.aload_n 0, 1) := by decide +kernel
theorem dX6_carryAll_168 : decode cX6_carryAll 168 = .ok (.getfield 22, 3) := by decide +kernel
theorem dX6_carryAll_171 : decode cX6_carryAll 171 = .ok (.iload_n 3, 1) := by decide +kernel
theorem dX6_carryAll_172 : decode cX6_carryAll 172 = .ok (.iaload, 1) := by decide +kernel
theorem dX6_carryAll_173 : decode cX6_carryAll 173 = .ok (.invokevirtual 208, 3) := by decide +kernel
theorem dX6_carryAll_176 : decode cX6_carryAll 176 = .ok (.iastore, 1) := by decide +kernel
theorem dX6_carryAll_177 : decode cX6_carryAll 177 = .ok (.aload_n 0, 1) := by decide +kernel
theorem dX6_carryAll_178 : decode cX6_carryAll 178 = .ok (.getfield 25, 3) := by decide +kernel
theorem dX6_carryAll_181 : decode cX6_carryAll 181 = .ok (.iload_n 3, 1) := by decide +kernel
theorem dX6_carryAll_182 : decode cX6_carryAll 182 = .ok (.aload_n 0, 1) := by decide +kernel
theorem dX6_carryAll_183 : decode cX6_carryAll 183 = .ok (.aload_n 0, 1) := by decide +kernel
theorem dX6_carryAll_184 : decode cX6_carryAll 184 = .ok (.getfield 25, 3) := by decide +kernel
theorem dX6_carryAll_187 : decode cX6_carryAll 187 = .ok (.iload_n 3, 1) := by decide +kernel
theorem dX6_carryAll_188 : decode cX6_carryAll 188 = .ok (.iaload, 1) := by decide +kernel
theorem dX6_carryAll_189 : decode cX6_carryAll 189 = .ok (.invokevirtual 208, 3) := by decide +kernel
theorem dX6_carryAll_192 : decode cX6_carryAll 192 = .ok (.iastore, 1) := by decide +kernel
theorem dX6_carryAll_193 : decode cX6_carryAll 193 = .ok (.iinc 3 1, 3) := by decide +kernel
theorem dX6_carryAll_196 : decode cX6_carryAll 196 = .ok (.goto (-89), 3) := by decide +kernel
theorem dX6_carryAll_199 : decode cX6_carryAll 199 = .ok (.return_, 1) := by decide +kernel
theorem dX6_think_0 : decode cX6_think 0 = .ok (.aload_n 0, 1) := by decide +kernel
theorem dX6_think_1 : decode cX6_think 1 = .ok (.aload_n 0, 1) := by decide +kernel
theorem dX6_think_2 : decode cX6_think 2 = .ok (.getfield 56, 3) := by decide +kernel
theorem dX6_think_5 : decode cX6_think 5 = .ok (.iconst 1, 1) := by decide +kernel
theorem dX6_think_6 : decode cX6_think 6 = .ok (.invokevirtual 211, 3) := by decide +kernel
theorem dX6_think_9 : decode cX6_think 9 = .ok (.return_, 1) := by decide +kernel
theorem dX6_again_0 : decode cX6_again 0 = .ok (.aload_n 0, 1) := by decide +kernel
theorem dX6_again_1 : decode cX6_again 1 = .ok (.aload_n 0, 1) := by decide +kernel
theorem dX6_again_2 : decode cX6_again 2 = .ok (.getfield 56, 3) := by decide +kernel
theorem dX6_again_5 : decode cX6_again 5 = .ok (.iconst 0, 1) := by decide +kernel
theorem dX6_again_6 : decode cX6_again 6 = .ok (.invokevirtual 211, 3) := by decide +kernel
theorem dX6_again_9 : decode cX6_again 9 = .ok (.return_, 1) := by decide +kernel
theorem dX6_image_0 : decode cX6_image 0 = .ok (.aload_n 0, 1) := by decide +kernel
theorem dX6_image_1 : decode cX6_image 1 = .ok (.iconst 0, 1) := by decide +kernel
theorem dX6_image_2 : decode cX6_image 2 = .ok (.putfield 75, 3) := by decide +kernel
theorem dX6_image_5 : decode cX6_image 5 = .ok (.aload_n 0, 1) := by decide +kernel
theorem dX6_image_6 : decode cX6_image 6 = .ok (.iconst 1, 1) := by decide +kernel
theorem dX6_image_7 : decode cX6_image 7 = .ok (.putfield 215, 3) := by decide +kernel
theorem dX6_image_10 : decode cX6_image 10 = .ok (.aload_n 0, 1) := by decide +kernel
theorem dX6_image_11 : decode cX6_image 11 = .ok (.aload_n 0, 1) := by decide +kernel
theorem dX6_image_12 : decode cX6_image 12 = .ok (.getfield 59, 3) := by decide +kernel
theorem dX6_image_15 : decode cX6_image 15 = .ok (.iconst 1, 1) := by decide +kernel
theorem dX6_image_16 : decode cX6_image 16 = .ok (.invokevirtual 211, 3) := by decide +kernel
theorem dX6_image_19 : decode cX6_image 19 = .ok (.aload_n 0, 1) := by decide +kernel
theorem dX6_image_20 : decode cX6_image 20 = .ok (.getfield 92, 3) := by decide +kernel
theorem dX6_image_23 : decode cX6_image 23 = .ok (.ireturn, 1) := by decide +kernel
theorem dX6_restore_0 : decode cX6_restore 0 = .ok (.aload_n 0, 1) := by decide +kernel
theorem dX6_restore_1 : decode cX6_restore 1 = .ok (.iconst 0, 1) := by decide +kernel
theorem dX6_restore_2 : decode cX6_restore 2 = .ok (.putfield 75, 3) := by decide +kernel
theorem dX6_restore_5 : decode cX6_restore 5 = .ok (.aload_n 0, 1) := by decide +kernel
theorem dX6_restore_6 : decode cX6_restore 6 = .ok (.getfield 215, 3) := by decide +kernel
theorem dX6_restore_9 : decode cX6_restore 9 = .ok (.ifCond .ne 6, 3) := by decide +kernel
theorem dX6_restore_12 : decode cX6_restore 12 = .ok (.bipush (-3), 2) := by decide +kernel
theorem dX6_restore_14 : decode cX6_restore 14 = .ok (.ireturn, 1) := by decide +kernel
theorem dX6_restore_15 : decode cX6_restore 15 = .ok (.aload_n 0, 1) := by decide +kernel
theorem dX6_restore_16 : decode cX6_restore 16 = .ok (.aload_n 0, 1) := by decide +kernel
theorem dX6_restore_17 : decode cX6_restore 17 = .ok (.getfield 59, 3) := by decide +kernel
theorem dX6_restore_20 : decode cX6_restore 20 = .ok (.iconst 0, 1) := by decide +kernel
theorem dX6_restore_21 : decode cX6_restore 21 = .ok (.invokevirtual 211, 3) := by decide +kernel
theorem dX6_restore_24 : decode cX6_restore 24 = .ok (.aload_n 0, 1) := by decide +kernel
theorem dX6_restore_25 : decode cX6_restore 25 = .ok (.getfield 92, 3) := by decide +kernel
theorem dX6_restore_28 : decode cX6_restore 28 = .ok (.ireturn, 1) := by decide +kernel
theorem dX6_guest_0 : decode cX6_guest 0 = .ok (.aload_n 0, 1) := by decide +kernel
theorem dX6_guest_1 : decode cX6_guest 1 = .ok (.iconst 0, 1) := by decide +kernel
theorem dX6_guest_2 : decode cX6_guest 2 = .ok (.putfield 75, 3) := by decide +kernel
theorem dX6_guest_5 : decode cX6_guest 5 = .ok (.aload_n 0, 1) := by decide +kernel
theorem dX6_guest_6 : decode cX6_guest 6 = .ok (.iload_n 1, 1) := by decide +kernel
theorem dX6_guest_7 : decode cX6_guest 7 = .ok (.invokevirtual 171, 3) := by decide +kernel
theorem dX6_guest_10 : decode cX6_guest 10 = .ok (.ifCond .eq 15, 3) := by decide +kernel
theorem dX6_guest_13 : decode cX6_guest 13 = .ok (.iload_n 2, 1) := by decide +kernel
theorem dX6_guest_14 : decode cX6_guest 14 = .ok (.i2l, 1) := by decide +kernel
theorem dX6_guest_15 : decode cX6_guest 15 = .ok (.lconst 0, 1) := by decide +kernel
theorem dX6_guest_16 : decode cX6_guest 16 = .ok (.ldc2_w 218, 3) := by decide +kernel
theorem dX6_guest_19 : decode cX6_guest 19 = .ok (.invokestatic 81, 3) := by decide +kernel
theorem dX6_guest_22 : decode cX6_guest 22 = .ok (.ifCond .ne 5, 3) := by decide +kernel
theorem dX6_guest_25 : decode cX6_guest 25 = .ok (.iconst (-1), 1) := by decide +kernel
theorem dX6_guest_26 : decode cX6_guest 26 = .ok (.ireturn, 1) := by decide +kernel
theorem dX6_guest_27 : decode cX6_guest 27 = .ok (.iload_n 2, 1) := by decide +kernel
theorem dX6_guest_28 : decode cX6_guest 28 = .ok (.tableswitch 102 0 6 #[44, 51, 58, 65, 72, 79, 96], 44) := by decide +kernel
theorem dX6_guest_72 : decode cX6_guest 72 = .ok (.aload_n 0, 1) := by decide +kernel
theorem dX6_guest_73 : decode cX6_guest 73 = .ok (.getfield 13, 3) := by decide +kernel
theorem dX6_guest_76 : decode cX6_guest 76 = .ok (.iload_n 1, 1) := by decide +kernel
theorem dX6_guest_77 : decode cX6_guest 77 = .ok (.iaload, 1) := by decide +kernel
theorem dX6_guest_78 : decode cX6_guest 78 = .ok (.ireturn, 1) := by decide +kernel
theorem dX6_guest_79 : decode cX6_guest 79 = .ok (.aload_n 0, 1) := by decide +kernel
theorem dX6_guest_80 : decode cX6_guest 80 = .ok (.getfield 16, 3) := by decide +kernel
theorem dX6_guest_83 : decode cX6_guest 83 = .ok (.iload_n 1, 1) := by decide +kernel
theorem dX6_guest_84 : decode cX6_guest 84 = .ok (.iaload, 1) := by decide +kernel
theorem dX6_guest_85 : decode cX6_guest 85 = .ok (.ireturn, 1) := by decide +kernel
theorem dX6_guest_86 : decode cX6_guest 86 = .ok (.aload_n 0, 1) := by decide +kernel
theorem dX6_guest_87 : decode cX6_guest 87 = .ok (.getfield 19, 3) := by decide +kernel
theorem dX6_guest_90 : decode cX6_guest 90 = .ok (.iload_n 1, 1) := by decide +kernel
theorem dX6_guest_91 : decode cX6_guest 91 = .ok (.iaload, 1) := by decide +kernel
theorem dX6_guest_92 : decode cX6_guest 92 = .ok (.ireturn, 1) := by decide +kernel
theorem dX6_guest_93 : decode cX6_guest 93 = .ok (.aload_n 0, 1) := by decide +kernel
theorem dX6_guest_94 : decode cX6_guest 94 = .ok (.getfield 22, 3) := by decide +kernel
theorem dX6_guest_97 : decode cX6_guest 97 = .ok (.iload_n 1, 1) := by decide +kernel
theorem dX6_guest_98 : decode cX6_guest 98 = .ok (.iaload, 1) := by decide +kernel
theorem dX6_guest_99 : decode cX6_guest 99 = .ok (.ireturn, 1) := by decide +kernel
theorem dX6_guest_100 : decode cX6_guest 100 = .ok (.aload_n 0, 1) := by decide +kernel
theorem dX6_guest_101 : decode cX6_guest 101 = .ok (.getfield 25, 3) := by decide +kernel
theorem dX6_guest_104 : decode cX6_guest 104 = .ok (.iload_n 1, 1) := by decide +kernel
theorem dX6_guest_105 : decode cX6_guest 105 = .ok (.iaload, 1) := by decide +kernel
theorem dX6_guest_106 : decode cX6_guest 106 = .ok (.ireturn, 1) := by decide +kernel
theorem dX6_guest_107 : decode cX6_guest 107 = .ok (.aload_n 0, 1) := by decide +kernel
theorem dX6_guest_108 : decode cX6_guest 108 = .ok (.getfield 125, 3) := by decide +kernel
theorem dX6_guest_111 : decode cX6_guest 111 = .ok (.iload_n 1, 1) := by decide +kernel
theorem dX6_guest_112 : decode cX6_guest 112 = .ok (.invokestatic 105, 3) := by decide +kernel
theorem dX6_guest_115 : decode cX6_guest 115 = .ok (.ifCond .eq 7, 3) := by decide +kernel
theorem dX6_guest_118 : decode cX6_guest 118 = .ok (.iconst 1, 1) := by decide +kernel
theorem dX6_guest_119 : decode cX6_guest 119 = .ok (.goto 4, 3) := by decide +kernel
theorem dX6_guest_122 : decode cX6_guest 122 = .ok (.iconst 0, 1) := by decide +kernel
theorem dX6_guest_123 : decode cX6_guest 123 = .ok (.ireturn, 1) := by decide +kernel
theorem dX6_guest_124 : decode cX6_guest 124 = .ok (.aload_n 0, 1) := by decide +kernel
theorem dX6_guest_125 : decode cX6_guest 125 = .ok (.iload_n 1, 1) := by decide +kernel
theorem dX6_guest_126 : decode cX6_guest 126 = .ok (.invokevirtual 109, 3) := by decide +kernel
theorem dX6_guest_129 : decode cX6_guest 129 = .ok (.ireturn, 1) := by decide +kernel
theorem dX6_guest_130 : decode cX6_guest 130 = .ok (.aload_n 0, 1) := by decide +kernel
theorem dX6_guest_131 : decode cX6_guest 131 = .ok (.iload_n 1, 1) := by decide +kernel
theorem dX6_guest_132 : decode cX6_guest 132 = .ok (.aload_n 0, 1) := by decide +kernel
theorem dX6_guest_133 : decode cX6_guest 133 = .ok (.getfield 19, 3) := by decide +kernel
theorem dX6_guest_136 : decode cX6_guest 136 = .ok (.iload_n 1, 1) := by decide +kernel
theorem dX6_guest_137 : decode cX6_guest 137 = .ok (.iaload, 1) := by decide +kernel
theorem dX6_guest_138 : decode cX6_guest 138 = .ok (.invokevirtual 113, 3) := by decide +kernel
theorem dX6_guest_141 : decode cX6_guest 141 = .ok (.bipush 10, 2) := by decide +kernel
theorem dX6_guest_143 : decode cX6_guest 143 = .ok (.iadd, 1) := by decide +kernel
theorem dX6_guest_144 : decode cX6_guest 144 = .ok (.ireturn, 1) := by decide +kernel
theorem dX6_larder_0 : decode cX6_larder 0 = .ok (.aload_n 0, 1) := by decide +kernel
theorem dX6_larder_1 : decode cX6_larder 1 = .ok (.iconst 0, 1) := by decide +kernel
theorem dX6_larder_2 : decode cX6_larder 2 = .ok (.putfield 75, 3) := by decide +kernel
theorem dX6_larder_5 : decode cX6_larder 5 = .ok (.iload_n 1, 1) := by decide +kernel
theorem dX6_larder_6 : decode cX6_larder 6 = .ok (.invokestatic 220, 3) := by decide +kernel
theorem dX6_larder_9 : decode cX6_larder 9 = .ok (.ifCond .eq 12, 3) := by decide +kernel
theorem dX6_larder_12 : decode cX6_larder 12 = .ok (.aload_n 0, 1) := by decide +kernel
theorem dX6_larder_13 : decode cX6_larder 13 = .ok (.getfield 7, 3) := by decide +kernel
theorem dX6_larder_16 : decode cX6_larder 16 = .ok (.iload_n 1, 1) := by decide +kernel
theorem dX6_larder_17 : decode cX6_larder 17 = .ok (.iaload, 1) := by decide +kernel
theorem dX6_larder_18 : decode cX6_larder 18 = .ok (.goto 4, 3) := by decide +kernel
theorem dX6_larder_21 : decode cX6_larder 21 = .ok (.iconst (-1), 1) := by decide +kernel
theorem dX6_larder_22 : decode cX6_larder 22 = .ok (.ireturn, 1) := by decide +kernel
theorem dX6_comes_0 : decode cX6_comes 0 = .ok (.aload_n 0, 1) := by decide +kernel
theorem dX6_comes_1 : decode cX6_comes 1 = .ok (.iconst 0, 1) := by decide +kernel
theorem dX6_comes_2 : decode cX6_comes 2 = .ok (.putfield 75, 3) := by decide +kernel
theorem dX6_comes_5 : decode cX6_comes 5 = .ok (.iload_n 1, 1) := by decide +kernel
theorem dX6_comes_6 : decode cX6_comes 6 = .ok (.i2l, 1) := by decide +kernel
theorem dX6_comes_7 : decode cX6_comes 7 = .ok (.lconst 0, 1) := by decide +kernel
theorem dX6_comes_8 : decode cX6_comes 8 = .ok (.ldc2_w 218, 3) := by decide +kernel
theorem dX6_comes_11 : decode cX6_comes 11 = .ok (.invokestatic 81, 3) := by decide +kernel
theorem dX6_comes_14 : decode cX6_comes 14 = .ok (.ifCond .eq 10, 3) := by decide +kernel
theorem dX6_comes_17 : decode cX6_comes 17 = .ok (.iload_n 2, 1) := by decide +kernel
theorem dX6_comes_18 : decode cX6_comes 18 = .ok (.invokestatic 220, 3) := by decide +kernel
theorem dX6_comes_21 : decode cX6_comes 21 = .ok (.ifCond .ne 5, 3) := by decide +kernel
theorem dX6_comes_24 : decode cX6_comes 24 = .ok (.iconst (-1), 1) := by decide +kernel
theorem dX6_comes_25 : decode cX6_comes 25 = .ok (.ireturn, 1) := by decide +kernel
theorem dX6_comes_26 : decode cX6_comes 26 = .ok (.aload_n 0, 1) := by decide +kernel
theorem dX6_comes_27 : decode cX6_comes 27 = .ok (.iload_n 1, 1) := by decide +kernel
theorem dX6_comes_28 : decode cX6_comes 28 = .ok (.invokevirtual 223, 3) := by decide +kernel
theorem dX6_comes_31 : decode cX6_comes 31 = .ok (.ifCond .lt 12, 3) := by decide +kernel
theorem dX6_comes_34 : decode cX6_comes 34 = .ok (.aload_n 0, 1) := by decide +kernel
theorem dX6_comes_35 : decode cX6_comes 35 = .ok (.getfield 85, 3) := by decide +kernel
theorem dX6_comes_38 : decode cX6_comes 38 = .ok (.bipush 7, 2) := by decide +kernel
theorem dX6_comes_40 : decode cX6_comes 40 = .ok (.if_icmp .ne 22, 3) := by decide +kernel
theorem dX6_comes_43 : decode cX6_comes 43 = .ok (.aload_n 0, 1) := by decide +kernel
theorem dX6_comes_44 : decode cX6_comes 44 = .ok (.iload_n 1, 1) := by decide +kernel
theorem dX6_comes_45 : decode cX6_comes 45 = .ok (.invokevirtual 223, 3) := by decide +kernel
theorem dX6_comes_48 : decode cX6_comes 48 = .ok (.ifCond .ge 11, 3) := by decide +kernel
theorem dX6_comes_51 : decode cX6_comes 51 = .ok (.aload_n 0, 1) := by decide +kernel
theorem dX6_comes_52 : decode cX6_comes 52 = .ok (.iload_n 1, 1) := by decide +kernel
