theorem xX4_digitsBehind_0 : xdec cX4_digitsBehind 0 = some (.iload_n 0, 1, 0, 0) := by decide +kernel
theorem xX4_digitsBehind_1 : xdec cX4_digitsBehind 1 = some (.tableswitch 107 98 119 #[105, 107, 105, 105, 107, 103, 103, 107, 107, 107, 103, 107, 107, 107, 107, 107, 107, 107, 107, 107, 107, 105], 104, 0, 0) := by decide +kernel
theorem xX4_digitsBehind_104 : xdec cX4_digitsBehind 104 = some (.iconst 3, 105, 0, 3) := by decide +kernel
theorem xX4_digitsBehind_105 : xdec cX4_digitsBehind 105 = some (.ireturn, 106, 0, 0) := by decide +kernel
theorem xX4_digitsBehind_106 : xdec cX4_digitsBehind 106 = some (.iconst 2, 107, 0, 2) := by decide +kernel
theorem xX4_digitsBehind_107 : xdec cX4_digitsBehind 107 = some (.ireturn, 108, 0, 0) := by decide +kernel
theorem xX4_digitsBehind_108 : xdec cX4_digitsBehind 108 = some (.iconst 0, 109, 0, 0) := by decide +kernel
theorem xX4_digitsBehind_109 : xdec cX4_digitsBehind 109 = some (.ireturn, 110, 0, 0) := by decide +kernel
theorem xX4_placeOfBadByte_0 : xdec cX4_placeOfBadByte 0 = some (.iconst (-1), 1, 0, (-1)) := by decide +kernel
theorem xX4_placeOfBadByte_1 : xdec cX4_placeOfBadByte 1 = some (.istore_n 1, 2, 1, 0) := by decide +kernel
theorem xX4_placeOfBadByte_2 : xdec cX4_placeOfBadByte 2 = some (.iconst 0, 3, 0, 0) := by decide +kernel
theorem xX4_placeOfBadByte_3 : xdec cX4_placeOfBadByte 3 = some (.istore_n 2, 4, 2, 0) := by decide +kernel
theorem xX4_placeOfBadByte_4 : xdec cX4_placeOfBadByte 4 = some (.iload_n 2, 5, 2, 0) := by decide +kernel
theorem xX4_placeOfBadByte_5 : xdec cX4_placeOfBadByte 5 = some (.aload_n 0, 6, 0, 0) := by decide +kernel
theorem xX4_placeOfBadByte_6 : xdec cX4_placeOfBadByte 6 = some (.getfield 11, 9, 11, 0) := by decide +kernel
theorem xX4_placeOfBadByte_9 : xdec cX4_placeOfBadByte 9 = some (.if_icmp .ge 64, 12, 73, 0) := by decide +kernel
theorem xX4_placeOfBadByte_12 : xdec cX4_placeOfBadByte 12 = some (.aload_n 0, 13, 0, 0) := by decide +kernel
theorem xX4_placeOfBadByte_13 : xdec cX4_placeOfBadByte 13 = some (.getfield 17, 16, 17, 0) := by decide +kernel
theorem xX4_placeOfBadByte_16 : xdec cX4_placeOfBadByte 16 = some (.iload_n 2, 17, 2, 0) := by decide +kernel
theorem xX4_placeOfBadByte_17 : xdec cX4_placeOfBadByte 17 = some (.iaload, 18, 0, 0) := by decide +kernel
theorem xX4_placeOfBadByte_18 : xdec cX4_placeOfBadByte 18 = some (.istore_n 3, 19, 3, 0) := by decide +kernel
theorem xX4_placeOfBadByte_19 : xdec cX4_placeOfBadByte 19 = some (.iload_n 1, 20, 1, 0) := by decide +kernel
theorem xX4_placeOfBadByte_20 : xdec cX4_placeOfBadByte 20 = some (.iconst (-1), 21, 0, (-1)) := by decide +kernel
theorem xX4_placeOfBadByte_21 : xdec cX4_placeOfBadByte 21 = some (.if_icmp .ne 14, 24, 35, 0) := by decide +kernel
theorem xX4_placeOfBadByte_24 : xdec cX4_placeOfBadByte 24 = some (.iload_n 3, 25, 3, 0) := by decide +kernel
theorem xX4_placeOfBadByte_25 : xdec cX4_placeOfBadByte 25 = some (.invokestatic 21, 28, 0, 0) := by decide +kernel
theorem xX4_placeOfBadByte_28 : xdec cX4_placeOfBadByte 28 = some (.istore_n 1, 29, 1, 0) := by decide +kernel
theorem xX4_placeOfBadByte_29 : xdec cX4_placeOfBadByte 29 = some (.iload_n 1, 30, 1, 0) := by decide +kernel
theorem xX4_placeOfBadByte_30 : xdec cX4_placeOfBadByte 30 = some (.ifCond .ne 37, 33, 67, 0) := by decide +kernel
theorem xX4_placeOfBadByte_33 : xdec cX4_placeOfBadByte 33 = some (.iload_n 2, 34, 2, 0) := by decide +kernel
theorem xX4_placeOfBadByte_34 : xdec cX4_placeOfBadByte 34 = some (.ireturn, 35, 0, 0) := by decide +kernel
theorem xX4_placeOfBadByte_35 : xdec cX4_placeOfBadByte 35 = some (.iload_n 1, 36, 1, 0) := by decide +kernel
theorem xX4_placeOfBadByte_36 : xdec cX4_placeOfBadByte 36 = some (.ifCond .le 21, 39, 57, 0) := by decide +kernel
theorem xX4_placeOfBadByte_39 : xdec cX4_placeOfBadByte 39 = some (.iload_n 3, 40, 3, 0) := by decide +kernel
theorem xX4_placeOfBadByte_40 : xdec cX4_placeOfBadByte 40 = some (.bipush 48, 42, 0, 48) := by decide +kernel
theorem xX4_placeOfBadByte_42 : xdec cX4_placeOfBadByte 42 = some (.isub, 43, 0, 0) := by decide +kernel
theorem xX4_placeOfBadByte_43 : xdec cX4_placeOfBadByte 43 = some (.invokestatic 25, 46, 0, 0) := by decide +kernel
theorem xX4_placeOfBadByte_46 : xdec cX4_placeOfBadByte 46 = some (.ifCond .ne 5, 49, 51, 0) := by decide +kernel
theorem xX4_placeOfBadByte_49 : xdec cX4_placeOfBadByte 49 = some (.iload_n 2, 50, 2, 0) := by decide +kernel
theorem xX4_placeOfBadByte_50 : xdec cX4_placeOfBadByte 50 = some (.ireturn, 51, 0, 0) := by decide +kernel
theorem xX4_placeOfBadByte_51 : xdec cX4_placeOfBadByte 51 = some (.iinc 1 (-1), 54, 1, (-1)) := by decide +kernel
theorem xX4_placeOfBadByte_54 : xdec cX4_placeOfBadByte 54 = some (.goto 13, 57, 67, 0) := by decide +kernel
theorem xX4_placeOfBadByte_57 : xdec cX4_placeOfBadByte 57 = some (.iload_n 3, 58, 3, 0) := by decide +kernel
theorem xX4_placeOfBadByte_58 : xdec cX4_placeOfBadByte 58 = some (.bipush 59, 60, 0, 59) := by decide +kernel
theorem xX4_placeOfBadByte_60 : xdec cX4_placeOfBadByte 60 = some (.if_icmp .eq 5, 63, 65, 0) := by decide +kernel
theorem xX4_placeOfBadByte_63 : xdec cX4_placeOfBadByte 63 = some (.iload_n 2, 64, 2, 0) := by decide +kernel
theorem xX4_placeOfBadByte_64 : xdec cX4_placeOfBadByte 64 = some (.ireturn, 65, 0, 0) := by decide +kernel
theorem xX4_placeOfBadByte_65 : xdec cX4_placeOfBadByte 65 = some (.iconst (-1), 66, 0, (-1)) := by decide +kernel
theorem xX4_placeOfBadByte_66 : xdec cX4_placeOfBadByte 66 = some (.istore_n 1, 67, 1, 0) := by decide +kernel
theorem xX4_placeOfBadByte_67 : xdec cX4_placeOfBadByte 67 = some (.iinc 2 1, 70, 2, 1) := by decide +kernel
theorem xX4_placeOfBadByte_70 : xdec cX4_placeOfBadByte 70 = some (.goto (-66), 73, 4, 0) := by decide +kernel
theorem xX4_placeOfBadByte_73 : xdec cX4_placeOfBadByte 73 = some (.aload_n 0, 74, 0, 0) := by decide +kernel
theorem xX4_placeOfBadByte_74 : xdec cX4_placeOfBadByte 74 = some (.getfield 11, 77, 11, 0) := by decide +kernel
theorem xX4_placeOfBadByte_77 : xdec cX4_placeOfBadByte 77 = some (.ifCond .le 12, 80, 89, 0) := by decide +kernel
theorem xX4_placeOfBadByte_80 : xdec cX4_placeOfBadByte 80 = some (.iload_n 1, 81, 1, 0) := by decide +kernel
theorem xX4_placeOfBadByte_81 : xdec cX4_placeOfBadByte 81 = some (.iconst (-1), 82, 0, (-1)) := by decide +kernel
theorem xX4_placeOfBadByte_82 : xdec cX4_placeOfBadByte 82 = some (.if_icmp .ne 7, 85, 89, 0) := by decide +kernel
theorem xX4_placeOfBadByte_85 : xdec cX4_placeOfBadByte 85 = some (.iconst 1, 86, 0, 1) := by decide +kernel
theorem xX4_placeOfBadByte_86 : xdec cX4_placeOfBadByte 86 = some (.goto 4, 89, 90, 0) := by decide +kernel
theorem xX4_placeOfBadByte_89 : xdec cX4_placeOfBadByte 89 = some (.iconst 0, 90, 0, 0) := by decide +kernel
theorem xX4_placeOfBadByte_90 : xdec cX4_placeOfBadByte 90 = some (.istore_n 2, 91, 2, 0) := by decide +kernel
theorem xX4_placeOfBadByte_91 : xdec cX4_placeOfBadByte 91 = some (.iload_n 2, 92, 2, 0) := by decide +kernel
theorem xX4_placeOfBadByte_92 : xdec cX4_placeOfBadByte 92 = some (.ifCond .eq 7, 95, 99, 0) := by decide +kernel
theorem xX4_placeOfBadByte_95 : xdec cX4_placeOfBadByte 95 = some (.iconst (-1), 96, 0, (-1)) := by decide +kernel
theorem xX4_placeOfBadByte_96 : xdec cX4_placeOfBadByte 96 = some (.goto 7, 99, 103, 0) := by decide +kernel
theorem xX4_placeOfBadByte_99 : xdec cX4_placeOfBadByte 99 = some (.aload_n 0, 100, 0, 0) := by decide +kernel
theorem xX4_placeOfBadByte_100 : xdec cX4_placeOfBadByte 100 = some (.getfield 11, 103, 11, 0) := by decide +kernel
theorem xX4_placeOfBadByte_103 : xdec cX4_placeOfBadByte 103 = some (.ireturn, 104, 0, 0) := by decide +kernel
theorem xX4_isLetter_0 : xdec cX4_isLetter 0 = some (.iload_n 0, 1, 0, 0) := by decide +kernel
theorem xX4_isLetter_1 : xdec cX4_isLetter 1 = some (.invokestatic 21, 4, 0, 0) := by decide +kernel
theorem xX4_isLetter_4 : xdec cX4_isLetter 4 = some (.ifCond .eq 7, 7, 11, 0) := by decide +kernel
theorem xX4_isLetter_7 : xdec cX4_isLetter 7 = some (.iconst 1, 8, 0, 1) := by decide +kernel
theorem xX4_isLetter_8 : xdec cX4_isLetter 8 = some (.goto 4, 11, 12, 0) := by decide +kernel
theorem xX4_isLetter_11 : xdec cX4_isLetter 11 = some (.iconst 0, 12, 0, 0) := by decide +kernel
theorem xX4_isLetter_12 : xdec cX4_isLetter 12 = some (.ireturn, 13, 0, 0) := by decide +kernel
theorem xX4_digitAt_0 : xdec cX4_digitAt 0 = some (.aload_n 0, 1, 0, 0) := by decide +kernel
theorem xX4_digitAt_1 : xdec cX4_digitAt 1 = some (.iload_n 1, 2, 1, 0) := by decide +kernel
theorem xX4_digitAt_2 : xdec cX4_digitAt 2 = some (.invokevirtual 29, 5, 0, 0) := by decide +kernel
theorem xX4_digitAt_5 : xdec cX4_digitAt 5 = some (.ifCond .eq 15, 8, 20, 0) := by decide +kernel
theorem xX4_digitAt_8 : xdec cX4_digitAt 8 = some (.aload_n 0, 9, 0, 0) := by decide +kernel
theorem xX4_digitAt_9 : xdec cX4_digitAt 9 = some (.getfield 17, 12, 17, 0) := by decide +kernel
theorem xX4_digitAt_12 : xdec cX4_digitAt 12 = some (.iload_n 1, 13, 1, 0) := by decide +kernel
theorem xX4_digitAt_13 : xdec cX4_digitAt 13 = some (.iaload, 14, 0, 0) := by decide +kernel
theorem xX4_digitAt_14 : xdec cX4_digitAt 14 = some (.bipush 48, 16, 0, 48) := by decide +kernel
theorem xX4_digitAt_16 : xdec cX4_digitAt 16 = some (.isub, 17, 0, 0) := by decide +kernel
theorem xX4_digitAt_17 : xdec cX4_digitAt 17 = some (.goto 4, 20, 21, 0) := by decide +kernel
theorem xX4_digitAt_20 : xdec cX4_digitAt 20 = some (.iconst 0, 21, 0, 0) := by decide +kernel
theorem xX4_digitAt_21 : xdec cX4_digitAt 21 = some (.ireturn, 22, 0, 0) := by decide +kernel
theorem xX4_tell_0 : xdec cX4_tell 0 = some (.aload_n 0, 1, 0, 0) := by decide +kernel
theorem xX4_tell_1 : xdec cX4_tell 1 = some (.iload_n 1, 2, 1, 0) := by decide +kernel
theorem xX4_tell_2 : xdec cX4_tell 2 = some (.iconst 1, 3, 0, 1) := by decide +kernel
theorem xX4_tell_3 : xdec cX4_tell 3 = some (.iadd, 4, 0, 0) := by decide +kernel
theorem xX4_tell_4 : xdec cX4_tell 4 = some (.invokestatic 32, 7, 0, 0) := by decide +kernel
theorem xX4_tell_7 : xdec cX4_tell 7 = some (.istore_n 3, 8, 3, 0) := by decide +kernel
theorem xX4_tell_8 : xdec cX4_tell 8 = some (.aload_n 0, 9, 0, 0) := by decide +kernel
theorem xX4_tell_9 : xdec cX4_tell 9 = some (.iload_n 1, 10, 1, 0) := by decide +kernel
theorem xX4_tell_10 : xdec cX4_tell 10 = some (.iconst 2, 11, 0, 2) := by decide +kernel
theorem xX4_tell_11 : xdec cX4_tell 11 = some (.iadd, 12, 0, 0) := by decide +kernel
theorem xX4_tell_12 : xdec cX4_tell 12 = some (.invokestatic 32, 15, 0, 0) := by decide +kernel
theorem xX4_tell_15 : xdec cX4_tell 15 = some (.istore 4, 17, 4, 0) := by decide +kernel
theorem xX4_tell_17 : xdec cX4_tell 17 = some (.aload_n 0, 18, 0, 0) := by decide +kernel
theorem xX4_tell_18 : xdec cX4_tell 18 = some (.iload_n 1, 19, 1, 0) := by decide +kernel
theorem xX4_tell_19 : xdec cX4_tell 19 = some (.iconst 3, 20, 0, 3) := by decide +kernel
theorem xX4_tell_20 : xdec cX4_tell 20 = some (.iadd, 21, 0, 0) := by decide +kernel
theorem xX4_tell_21 : xdec cX4_tell 21 = some (.invokestatic 32, 24, 0, 0) := by decide +kernel
theorem xX4_tell_24 : xdec cX4_tell 24 = some (.istore 5, 26, 5, 0) := by decide +kernel
theorem xX4_tell_26 : xdec cX4_tell 26 = some (.aload_n 0, 27, 0, 0) := by decide +kernel
theorem xX4_tell_27 : xdec cX4_tell 27 = some (.getfield 17, 30, 17, 0) := by decide +kernel
theorem xX4_tell_30 : xdec cX4_tell 30 = some (.iload_n 1, 31, 1, 0) := by decide +kernel
theorem xX4_tell_31 : xdec cX4_tell 31 = some (.iaload, 32, 0, 0) := by decide +kernel
theorem xX4_tell_32 : xdec cX4_tell 32 = some (.lookupswitch 137 #[(98, 129), (101, 121), (103, 60), (104, 107), (108, 85), (119, 99)], 92, 0, 0) := by decide +kernel
theorem xX4_tell_92 : xdec cX4_tell 92 = some (.iload_n 3, 93, 3, 0) := by decide +kernel
theorem xX4_tell_93 : xdec cX4_tell 93 = some (.invokestatic 36, 96, 0, 0) := by decide +kernel
theorem xX4_tell_96 : xdec cX4_tell 96 = some (.ifCond .eq 19, 99, 115, 0) := by decide +kernel
theorem xX4_tell_99 : xdec cX4_tell 99 = some (.aload_n 2, 100, 2, 0) := by decide +kernel
theorem xX4_tell_100 : xdec cX4_tell 100 = some (.iload_n 3, 101, 3, 0) := by decide +kernel
theorem xX4_tell_101 : xdec cX4_tell 101 = some (.iload 4, 103, 4, 0) := by decide +kernel
theorem xX4_tell_103 : xdec cX4_tell 103 = some (.iload 5, 105, 5, 0) := by decide +kernel
theorem xX4_tell_105 : xdec cX4_tell 105 = some (.invokevirtual 41, 108, 0, 0) := by decide +kernel
theorem xX4_tell_108 : xdec cX4_tell 108 = some (.ifCond .lt 7, 111, 115, 0) := by decide +kernel
theorem xX4_tell_111 : xdec cX4_tell 111 = some (.iconst 1, 112, 0, 1) := by decide +kernel
theorem xX4_tell_112 : xdec cX4_tell 112 = some (.goto 4, 115, 116, 0) := by decide +kernel
theorem xX4_tell_115 : xdec cX4_tell 115 = some (.iconst 0, 116, 0, 0) := by decide +kernel
theorem xX4_tell_116 : xdec cX4_tell 116 = some (.ireturn, 117, 0, 0) := by decide +kernel
theorem xX4_tell_117 : xdec cX4_tell 117 = some (.aload_n 2, 118, 2, 0) := by decide +kernel
theorem xX4_tell_118 : xdec cX4_tell 118 = some (.iload_n 3, 119, 3, 0) := by decide +kernel
theorem xX4_tell_119 : xdec cX4_tell 119 = some (.bipush 10, 121, 0, 10) := by decide +kernel
theorem xX4_tell_121 : xdec cX4_tell 121 = some (.iload 4, 123, 4, 0) := by decide +kernel
theorem xX4_tell_123 : xdec cX4_tell 123 = some (.imul, 124, 0, 0) := by decide +kernel
theorem xX4_tell_124 : xdec cX4_tell 124 = some (.iload 5, 126, 5, 0) := by decide +kernel
theorem xX4_tell_126 : xdec cX4_tell 126 = some (.iadd, 127, 0, 0) := by decide +kernel
theorem xX4_tell_127 : xdec cX4_tell 127 = some (.invokestatic 47, 130, 0, 0) := by decide +kernel
theorem xX4_tell_130 : xdec cX4_tell 130 = some (.ireturn, 131, 0, 0) := by decide +kernel
theorem xX4_tell_131 : xdec cX4_tell 131 = some (.aload_n 2, 132, 2, 0) := by decide +kernel
theorem xX4_tell_132 : xdec cX4_tell 132 = some (.iload_n 3, 133, 3, 0) := by decide +kernel
theorem xX4_tell_133 : xdec cX4_tell 133 = some (.iload 4, 135, 4, 0) := by decide +kernel
theorem xX4_tell_135 : xdec cX4_tell 135 = some (.invokestatic 51, 138, 0, 0) := by decide +kernel
theorem xX4_tell_138 : xdec cX4_tell 138 = some (.ireturn, 139, 0, 0) := by decide +kernel
theorem xX4_tell_139 : xdec cX4_tell 139 = some (.aload_n 2, 140, 2, 0) := by decide +kernel
theorem xX4_tell_140 : xdec cX4_tell 140 = some (.iload_n 3, 141, 3, 0) := by decide +kernel
theorem xX4_tell_141 : xdec cX4_tell 141 = some (.bipush 10, 143, 0, 10) := by decide +kernel
theorem xX4_tell_143 : xdec cX4_tell 143 = some (.iload 4, 145, 4, 0) := by decide +kernel
theorem xX4_tell_145 : xdec cX4_tell 145 = some (.imul, 146, 0, 0) := by decide +kernel
theorem xX4_tell_146 : xdec cX4_tell 146 = some (.iload 5, 148, 5, 0) := by decide +kernel
theorem xX4_tell_148 : xdec cX4_tell 148 = some (.iadd, 149, 0, 0) := by decide +kernel
theorem xX4_tell_149 : xdec cX4_tell 149 = some (.invokestatic 54, 152, 0, 0) := by decide +kernel
theorem xX4_tell_152 : xdec cX4_tell 152 = some (.ireturn, 153, 0, 0) := by decide +kernel
theorem xX4_tell_153 : xdec cX4_tell 153 = some (.aload_n 2, 154, 2, 0) := by decide +kernel
theorem xX4_tell_154 : xdec cX4_tell 154 = some (.iload_n 3, 155, 3, 0) := by decide +kernel
theorem xX4_tell_155 : xdec cX4_tell 155 = some (.iload 4, 157, 4, 0) := by decide +kernel
theorem xX4_tell_157 : xdec cX4_tell 157 = some (.invokestatic 57, 160, 0, 0) := by decide +kernel
theorem xX4_tell_160 : xdec cX4_tell 160 = some (.ireturn, 161, 0, 0) := by decide +kernel
theorem xX4_tell_161 : xdec cX4_tell 161 = some (.aload_n 2, 162, 2, 0) := by decide +kernel
theorem xX4_tell_162 : xdec cX4_tell 162 = some (.iload_n 3, 163, 3, 0) := by decide +kernel
theorem xX4_tell_163 : xdec cX4_tell 163 = some (.iload 4, 165, 4, 0) := by decide +kernel
theorem xX4_tell_165 : xdec cX4_tell 165 = some (.invokestatic 60, 168, 0, 0) := by decide +kernel
theorem xX4_tell_168 : xdec cX4_tell 168 = some (.ireturn, 169, 0, 0) := by decide +kernel
theorem xX4_tell_169 : xdec cX4_tell 169 = some (.aload_n 2, 170, 2, 0) := by decide +kernel
theorem xX4_tell_170 : xdec cX4_tell 170 = some (.bipush 10, 172, 0, 10) := by decide +kernel
theorem xX4_tell_172 : xdec cX4_tell 172 = some (.iload_n 3, 173, 3, 0) := by decide +kernel
theorem xX4_tell_173 : xdec cX4_tell 173 = some (.imul, 174, 0, 0) := by decide +kernel
theorem xX4_tell_174 : xdec cX4_tell 174 = some (.iload 4, 176, 4, 0) := by decide +kernel
theorem xX4_tell_176 : xdec cX4_tell 176 = some (.iadd, 177, 0, 0) := by decide +kernel
theorem xX4_tell_177 : xdec cX4_tell 177 = some (.invokestatic 63, 180, 0, 0) := by decide +kernel
theorem xX4_tell_180 : xdec cX4_tell 180 = some (.ireturn, 181, 0, 0) := by decide +kernel
theorem xX4_setStock_0 : xdec cX4_setStock 0 = some (.aload_n 0, 1, 0, 0) := by decide +kernel
theorem xX4_setStock_1 : xdec cX4_setStock 1 = some (.getfield 67, 4, 67, 0) := by decide +kernel
theorem xX4_setStock_4 : xdec cX4_setStock 4 = some (.iload_n 1, 5, 1, 0) := by decide +kernel
theorem xX4_setStock_5 : xdec cX4_setStock 5 = some (.iload_n 2, 6, 2, 0) := by decide +kernel
theorem xX4_setStock_6 : xdec cX4_setStock 6 = some (.iastore, 7, 0, 0) := by decide +kernel
theorem xX4_setStock_7 : xdec cX4_setStock 7 = some (.iconst 1, 8, 0, 1) := by decide +kernel
theorem xX4_setStock_8 : xdec cX4_setStock 8 = some (.ireturn, 9, 0, 0) := by decide +kernel
theorem xX4_addStock_0 : xdec cX4_addStock 0 = some (.aload_n 0, 1, 0, 0) := by decide +kernel
theorem xX4_addStock_1 : xdec cX4_addStock 1 = some (.iload_n 1, 2, 1, 0) := by decide +kernel
theorem xX4_addStock_2 : xdec cX4_addStock 2 = some (.iload_n 2, 3, 2, 0) := by decide +kernel
theorem xX4_addStock_3 : xdec cX4_addStock 3 = some (.invokevirtual 70, 6, 0, 0) := by decide +kernel
theorem xX4_addStock_6 : xdec cX4_addStock 6 = some (.iconst 1, 7, 0, 1) := by decide +kernel
theorem xX4_addStock_7 : xdec cX4_addStock 7 = some (.ireturn, 8, 0, 0) := by decide +kernel
theorem xX4_setWish_0 : xdec cX4_setWish 0 = some (.aload_n 0, 1, 0, 0) := by decide +kernel
theorem xX4_setWish_1 : xdec cX4_setWish 1 = some (.iload_n 1, 2, 1, 0) := by decide +kernel
theorem xX4_setWish_2 : xdec cX4_setWish 2 = some (.invokevirtual 74, 5, 0, 0) := by decide +kernel
theorem xX4_setWish_5 : xdec cX4_setWish 5 = some (.ifCond .ne 5, 8, 10, 0) := by decide +kernel
theorem xX4_setWish_8 : xdec cX4_setWish 8 = some (.iconst 0, 9, 0, 0) := by decide +kernel
theorem xX4_setWish_9 : xdec cX4_setWish 9 = some (.ireturn, 10, 0, 0) := by decide +kernel
theorem xX4_setWish_10 : xdec cX4_setWish 10 = some (.aload_n 0, 11, 0, 0) := by decide +kernel
theorem xX4_setWish_11 : xdec cX4_setWish 11 = some (.getfield 77, 14, 77, 0) := by decide +kernel
theorem xX4_setWish_14 : xdec cX4_setWish 14 = some (.iload_n 1, 15, 1, 0) := by decide +kernel
theorem xX4_setWish_15 : xdec cX4_setWish 15 = some (.iload_n 2, 16, 2, 0) := by decide +kernel
theorem xX4_setWish_16 : xdec cX4_setWish 16 = some (.iastore, 17, 0, 0) := by decide +kernel
theorem xX4_setWish_17 : xdec cX4_setWish 17 = some (.iconst 1, 18, 0, 1) := by decide +kernel
theorem xX4_setWish_18 : xdec cX4_setWish 18 = some (.ireturn, 19, 0, 0) := by decide +kernel
theorem xX4_setLast_0 : xdec cX4_setLast 0 = some (.aload_n 0, 1, 0, 0) := by decide +kernel
theorem xX4_setLast_1 : xdec cX4_setLast 1 = some (.iload_n 1, 2, 1, 0) := by decide +kernel
theorem xX4_setLast_2 : xdec cX4_setLast 2 = some (.invokevirtual 74, 5, 0, 0) := by decide +kernel
theorem xX4_setLast_5 : xdec cX4_setLast 5 = some (.ifCond .ne 5, 8, 10, 0) := by decide +kernel
theorem xX4_setLast_8 : xdec cX4_setLast 8 = some (.iconst 0, 9, 0, 0) := by decide +kernel
theorem xX4_setLast_9 : xdec cX4_setLast 9 = some (.ireturn, 10, 0, 0) := by decide +kernel
theorem xX4_setLast_10 : xdec cX4_setLast 10 = some (.aload_n 0, 11, 0, 0) := by decide +kernel
theorem xX4_setLast_11 : xdec cX4_setLast 11 = some (.getfield 80, 14, 80, 0) := by decide +kernel
theorem xX4_setLast_14 : xdec cX4_setLast 14 = some (.iload_n 1, 15, 1, 0) := by decide +kernel
theorem xX4_setLast_15 : xdec cX4_setLast 15 = some (.iload_n 2, 16, 2, 0) := by decide +kernel
theorem xX4_setLast_16 : xdec cX4_setLast 16 = some (.iastore, 17, 0, 0) := by decide +kernel
theorem xX4_setLast_17 : xdec cX4_setLast 17 = some (.iconst 1, 18, 0, 1) := by decide +kernel
theorem xX4_setLast_18 : xdec cX4_setLast 18 = some (.ireturn, 19, 0, 0) := by decide +kernel
theorem xX4_setHealth_0 : xdec cX4_setHealth 0 = some (.aload_n 0, 1, 0, 0) := by decide +kernel
theorem xX4_setHealth_1 : xdec cX4_setHealth 1 = some (.iload_n 1, 2, 1, 0) := by decide +kernel
theorem xX4_setHealth_2 : xdec cX4_setHealth 2 = some (.invokevirtual 74, 5, 0, 0) := by decide +kernel
theorem xX4_setHealth_5 : xdec cX4_setHealth 5 = some (.ifCond .eq 13, 8, 18, 0) := by decide +kernel
theorem xX4_setHealth_8 : xdec cX4_setHealth 8 = some (.iload_n 2, 9, 2, 0) := by decide +kernel
theorem xX4_setHealth_9 : xdec cX4_setHealth 9 = some (.iconst 1, 10, 0, 1) := by decide +kernel
theorem xX4_setHealth_10 : xdec cX4_setHealth 10 = some (.bipush 99, 12, 0, 99) := by decide +kernel
theorem xX4_setHealth_12 : xdec cX4_setHealth 12 = some (.invokestatic 83, 15, 0, 0) := by decide +kernel
theorem xX4_setHealth_15 : xdec cX4_setHealth 15 = some (.ifCond .ne 5, 18, 20, 0) := by decide +kernel
theorem xX4_setHealth_18 : xdec cX4_setHealth 18 = some (.iconst 0, 19, 0, 0) := by decide +kernel
theorem xX4_setHealth_19 : xdec cX4_setHealth 19 = some (.ireturn, 20, 0, 0) := by decide +kernel
theorem xX4_setHealth_20 : xdec cX4_setHealth 20 = some (.aload_n 0, 21, 0, 0) := by decide +kernel
theorem xX4_setHealth_21 : xdec cX4_setHealth 21 = some (.getfield 87, 24, 87, 0) := by decide +kernel
theorem xX4_setHealth_24 : xdec cX4_setHealth 24 = some (.iload_n 1, 25, 1, 0) := by decide +kernel
theorem xX4_setHealth_25 : xdec cX4_setHealth 25 = some (.iload_n 2, 26, 2, 0) := by decide +kernel
theorem xX4_setHealth_26 : xdec cX4_setHealth 26 = some (.iastore, 27, 0, 0) := by decide +kernel
theorem xX4_setHealth_27 : xdec cX4_setHealth 27 = some (.aload_n 0, 28, 0, 0) := by decide +kernel
theorem xX4_setHealth_28 : xdec cX4_setHealth 28 = some (.dup, 29, 0, 0) := by decide +kernel
theorem xX4_setHealth_29 : xdec cX4_setHealth 29 = some (.getfield 90, 32, 90, 0) := by decide +kernel
theorem xX4_setHealth_32 : xdec cX4_setHealth 32 = some (.iconst 1, 33, 0, 1) := by decide +kernel
theorem xX4_setHealth_33 : xdec cX4_setHealth 33 = some (.iload_n 1, 34, 1, 0) := by decide +kernel
theorem xX4_setHealth_34 : xdec cX4_setHealth 34 = some (.ishl, 35, 0, 0) := by decide +kernel
theorem xX4_setHealth_35 : xdec cX4_setHealth 35 = some (.ior, 36, 0, 0) := by decide +kernel
theorem xX4_setHealth_36 : xdec cX4_setHealth 36 = some (.putfield 90, 39, 90, 0) := by decide +kernel
theorem xX4_setHealth_39 : xdec cX4_setHealth 39 = some (.iconst 1, 40, 0, 1) := by decide +kernel
theorem xX4_setHealth_40 : xdec cX4_setHealth 40 = some (.ireturn, 41, 0, 0) := by decide +kernel
theorem xX4_passNights_0 : xdec cX4_passNights 0 = some (.iload_n 1, 1, 1, 0) := by decide +kernel
theorem xX4_passNights_1 : xdec cX4_passNights 1 = some (.iconst 1, 2, 0, 1) := by decide +kernel
theorem xX4_passNights_2 : xdec cX4_passNights 2 = some (.bipush 60, 4, 0, 60) := by decide +kernel
theorem xX4_passNights_4 : xdec cX4_passNights 4 = some (.invokestatic 83, 7, 0, 0) := by decide +kernel
theorem xX4_passNights_7 : xdec cX4_passNights 7 = some (.ifCond .eq 15, 10, 22, 0) := by decide +kernel
theorem xX4_passNights_10 : xdec cX4_passNights 10 = some (.aload_n 0, 11, 0, 0) := by decide +kernel
theorem xX4_passNights_11 : xdec cX4_passNights 11 = some (.getfield 93, 14, 93, 0) := by decide +kernel
theorem xX4_passNights_14 : xdec cX4_passNights 14 = some (.iload_n 1, 15, 1, 0) := by decide +kernel
theorem xX4_passNights_15 : xdec cX4_passNights 15 = some (.iadd, 16, 0, 0) := by decide +kernel
theorem xX4_passNights_16 : xdec cX4_passNights 16 = some (.sipush 999, 19, 0, 999) := by decide +kernel
theorem xX4_passNights_19 : xdec cX4_passNights 19 = some (.if_icmp .le 5, 22, 24, 0) := by decide +kernel
theorem xX4_passNights_22 : xdec cX4_passNights 22 = some (.iconst 0, 23, 0, 0) := by decide +kernel
theorem xX4_passNights_23 : xdec cX4_passNights 23 = some (.ireturn, 24, 0, 0) := by decide +kernel
theorem xX4_passNights_24 : xdec cX4_passNights 24 = some (.aload_n 0, 25, 0, 0) := by decide +kernel
theorem xX4_passNights_25 : xdec cX4_passNights 25 = some (.iload_n 1, 26, 1, 0) := by decide +kernel
theorem xX4_passNights_26 : xdec cX4_passNights 26 = some (.invokevirtual 96, 29, 0, 0) := by decide +kernel
theorem xX4_passNights_29 : xdec cX4_passNights 29 = some (.iconst 1, 30, 0, 1) := by decide +kernel
theorem xX4_passNights_30 : xdec cX4_passNights 30 = some (.ireturn, 31, 0, 0) := by decide +kernel
