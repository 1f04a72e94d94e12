theorem dX4_digitsBehind_0 : decode cX4_digitsBehind 0 = .ok (.iload_n 0, 1) := by decide +kernel
theorem dX4_digitsBehind_1 : decode cX4_digitsBehind 1 = .ok (.tableswitch 107 98 119 #[105, 107, 105, 105, 107, 103, 103, 107, 107, 107, 103, 107, 107, 107, 107, 107, 107, 107, 107, 107, 107, 105], 103) := by decide +kernel
theorem dX4_digitsBehind_104 : decode cX4_digitsBehind 104 = .ok (.iconst 3, 1) := by decide +kernel
theorem dX4_digitsBehind_105 : decode cX4_digitsBehind 105 = .ok (.ireturn, 1) := by decide +kernel
theorem dX4_digitsBehind_106 : decode cX4_digitsBehind 106 = .ok (.iconst 2, 1) := by decide +kernel
theorem dX4_digitsBehind_107 : decode cX4_digitsBehind 107 = .ok (.ireturn, 1) := by decide +kernel
theorem dX4_digitsBehind_108 : decode cX4_digitsBehind 108 = .ok (.iconst 0, 1) := by decide +kernel
theorem dX4_digitsBehind_109 : decode cX4_digitsBehind 109 = .ok (.ireturn, 1) := by decide +kernel
theorem dX4_placeOfBadByte_0 : decode cX4_placeOfBadByte 0 = .ok (.iconst (-1), 1) := by decide +kernel
theorem dX4_placeOfBadByte_1 : decode cX4_placeOfBadByte 1 = .ok (.istore_n 1, 1) := by decide +kernel
theorem dX4_placeOfBadByte_2 : decode cX4_placeOfBadByte 2 = .ok (.iconst 0, 1) := by decide +kernel
theorem dX4_placeOfBadByte_3 : decode cX4_placeOfBadByte 3 = .ok (.istore_n 2, 1) := by decide +kernel
theorem dX4_placeOfBadByte_4 : decode cX4_placeOfBadByte 4 = .ok (.iload_n 2, 1) := by decide +kernel
theorem dX4_placeOfBadByte_5 : decode cX4_placeOfBadByte 5 = .ok (.aload_n 0, 1) := by decide +kernel
theorem dX4_placeOfBadByte_6 : decode cX4_placeOfBadByte 6 = .ok (.getfield 11, 3) := by decide +kernel
theorem dX4_placeOfBadByte_9 : decode cX4_placeOfBadByte 9 = .ok (.if_icmp .ge 64, 3) := by decide +kernel
theorem dX4_placeOfBadByte_12 : decode cX4_placeOfBadByte 12 = .ok (.aload_n 0, 1) := by decide +kernel
theorem dX4_placeOfBadByte_13 : decode cX4_placeOfBadByte 13 = .ok (.getfield 17, 3) := by decide +kernel
theorem dX4_placeOfBadByte_16 : decode cX4_placeOfBadByte 16 = .ok (.iload_n 2, 1) := by decide +kernel
theorem dX4_placeOfBadByte_17 : decode cX4_placeOfBadByte 17 = .ok (.iaload, 1) := by decide +kernel
theorem dX4_placeOfBadByte_18 : decode cX4_placeOfBadByte 18 = .ok (.istore_n 3, 1) := by decide +kernel
theorem dX4_placeOfBadByte_19 : decode cX4_placeOfBadByte 19 = .ok (.iload_n 1, 1) := by decide +kernel
theorem dX4_placeOfBadByte_20 : decode cX4_placeOfBadByte 20 = .ok (.iconst (-1), 1) := by decide +kernel
theorem dX4_placeOfBadByte_21 : decode cX4_placeOfBadByte 21 = .ok (.if_icmp .ne 14, 3) := by decide +kernel
theorem dX4_placeOfBadByte_24 : decode cX4_placeOfBadByte 24 = .ok (.iload_n 3, 1) := by decide +kernel
theorem dX4_placeOfBadByte_25 : decode cX4_placeOfBadByte 25 = .ok (.invokestatic 21, 3) := by decide +kernel
theorem dX4_placeOfBadByte_28 : decode cX4_placeOfBadByte 28 = .ok (.istore_n 1, 1) := by decide +kernel
theorem dX4_placeOfBadByte_29 : decode cX4_placeOfBadByte 29 = .ok (.iload_n 1, 1) := by decide +kernel
theorem dX4_placeOfBadByte_30 : decode cX4_placeOfBadByte 30 = .ok (.ifCond .ne 37, 3) := by decide +kernel
theorem dX4_placeOfBadByte_33 : decode cX4_placeOfBadByte 33 = .ok (.iload_n 2, 1) := by decide +kernel
theorem dX4_placeOfBadByte_34 : decode cX4_placeOfBadByte 34 = .ok (.ireturn, 1) := by decide +kernel
theorem dX4_placeOfBadByte_35 : decode cX4_placeOfBadByte 35 = .ok (.iload_n 1, 1) := by decide +kernel
theorem dX4_placeOfBadByte_36 : decode cX4_placeOfBadByte 36 = .ok (.ifCond .le 21, 3) := by decide +kernel
theorem dX4_placeOfBadByte_39 : decode cX4_placeOfBadByte 39 = .ok (.iload_n 3, 1) := by decide +kernel
theorem dX4_placeOfBadByte_40 : decode cX4_placeOfBadByte 40 = .ok (.bipush 48, 2) := by decide +kernel
theorem dX4_placeOfBadByte_42 : decode cX4_placeOfBadByte 42 = .ok (.isub, 1) := by decide +kernel
theorem dX4_placeOfBadByte_43 : decode cX4_placeOfBadByte 43 = .ok (.invokestatic 25, 3) := by decide +kernel
theorem dX4_placeOfBadByte_46 : decode cX4_placeOfBadByte 46 = .ok (.ifCond .ne 5, 3) := by decide +kernel
theorem dX4_placeOfBadByte_49 : decode cX4_placeOfBadByte 49 = .ok (.iload_n 2, 1) := by decide +kernel
theorem dX4_placeOfBadByte_50 : decode cX4_placeOfBadByte 50 = .ok (.ireturn, 1) := by decide +kernel
theorem dX4_placeOfBadByte_51 : decode cX4_placeOfBadByte 51 = .ok (.iinc 1 (-1), 3) := by decide +kernel
theorem dX4_placeOfBadByte_54 : decode cX4_placeOfBadByte 54 = .ok (.goto 13, 3) := by decide +kernel
theorem dX4_placeOfBadByte_57 : decode cX4_placeOfBadByte 57 = .ok (.iload_n 3, 1) := by decide +kernel
theorem dX4_placeOfBadByte_58 : decode cX4_placeOfBadByte 58 = .ok (.bipush 59, 2) := by decide +kernel
theorem dX4_placeOfBadByte_60 : decode cX4_placeOfBadByte 60 = .ok (.if_icmp .eq 5, 3) := by decide +kernel
theorem dX4_placeOfBadByte_63 : decode cX4_placeOfBadByte 63 = .ok (.iload_n 2, 1) := by decide +kernel
theorem dX4_placeOfBadByte_64 : decode cX4_placeOfBadByte 64 = .ok (.ireturn, 1) := by decide +kernel
theorem dX4_placeOfBadByte_65 : decode cX4_placeOfBadByte 65 = .ok (.iconst (-1), 1) := by decide +kernel
theorem dX4_placeOfBadByte_66 : decode cX4_placeOfBadByte 66 = .ok (.istore_n 1, 1) := by decide +kernel
theorem dX4_placeOfBadByte_67 : decode cX4_placeOfBadByte 67 = .ok (.iinc 2 1, 3) := by decide +kernel
theorem dX4_placeOfBadByte_70 : decode cX4_placeOfBadByte 70 = .ok (.goto (-66), 3) := by decide +kernel
theorem dX4_placeOfBadByte_73 : decode cX4_placeOfBadByte 73 = .ok (.aload_n 0, 1) := by decide +kernel
theorem dX4_placeOfBadByte_74 : decode cX4_placeOfBadByte 74 = .ok (.getfield 11, 3) := by decide +kernel
theorem dX4_placeOfBadByte_77 : decode cX4_placeOfBadByte 77 = .ok (.ifCond .le 12, 3) := by decide +kernel
theorem dX4_placeOfBadByte_80 : decode cX4_placeOfBadByte 80 = .ok (.iload_n 1, 1) := by decide +kernel
theorem dX4_placeOfBadByte_81 : decode cX4_placeOfBadByte 81 = .ok (.iconst (-1), 1) := by decide +kernel
theorem dX4_placeOfBadByte_82 : decode cX4_placeOfBadByte 82 = .ok (.if_icmp .ne 7, 3) := by decide +kernel
theorem dX4_placeOfBadByte_85 : decode cX4_placeOfBadByte 85 = .ok (.iconst 1, 1) := by decide +kernel
theorem dX4_placeOfBadByte_86 : decode cX4_placeOfBadByte 86 = .ok (.goto 4, 3) := by decide +kernel
theorem dX4_placeOfBadByte_89 : decode cX4_placeOfBadByte 89 = .ok (.iconst 0, 1) := by decide +kernel
theorem dX4_placeOfBadByte_90 : decode cX4_placeOfBadByte 90 = .ok (.istore_n 2, 1) := by decide +kernel
theorem dX4_placeOfBadByte_91 : decode cX4_placeOfBadByte 91 = .ok (.iload_n 2, 1) := by decide +kernel
theorem dX4_placeOfBadByte_92 : decode cX4_placeOfBadByte 92 = .ok (.ifCond .eq 7, 3) := by decide +kernel
theorem dX4_placeOfBadByte_95 : decode cX4_placeOfBadByte 95 = .ok (.iconst (-1), 1) := by decide +kernel
theorem dX4_placeOfBadByte_96 : decode cX4_placeOfBadByte 96 = .ok (.goto 7, 3) := by decide +kernel
theorem dX4_placeOfBadByte_99 : decode cX4_placeOfBadByte 99 = .ok (.aload_n 0, 1) := by decide +kernel
theorem dX4_placeOfBadByte_100 : decode cX4_placeOfBadByte 100 = .ok (.getfield 11, 3) := by decide +kernel
theorem dX4_placeOfBadByte_103 : decode cX4_placeOfBadByte 103 = .ok (.ireturn, 1) := by decide +kernel
theorem dX4_isLetter_0 : decode cX4_isLetter 0 = .ok (.iload_n 0, 1) := by decide +kernel
theorem dX4_isLetter_1 : decode cX4_isLetter 1 = .ok (.invokestatic 21, 3) := by decide +kernel
theorem dX4_isLetter_4 : decode cX4_isLetter 4 = .ok (.ifCond .eq 7, 3) := by decide +kernel
theorem dX4_isLetter_7 : decode cX4_isLetter 7 = .ok (.iconst 1, 1) := by decide +kernel
theorem dX4_isLetter_8 : decode cX4_isLetter 8 = .ok (.goto 4, 3) := by decide +kernel
theorem dX4_isLetter_11 : decode cX4_isLetter 11 = .ok (.iconst 0, 1) := by decide +kernel
theorem dX4_isLetter_12 : decode cX4_isLetter 12 = .ok (.ireturn, 1) := by decide +kernel
theorem dX4_digitAt_0 : decode cX4_digitAt 0 = .ok (.aload_n 0, 1) := by decide +kernel
theorem dX4_digitAt_1 : decode cX4_digitAt 1 = .ok (.iload_n 1, 1) := by decide +kernel
theorem dX4_digitAt_2 : decode cX4_digitAt 2 = .ok (.invokevirtual 29, 3) := by decide +kernel
theorem dX4_digitAt_5 : decode cX4_digitAt 5 = .ok (.ifCond .eq 15, 3) := by decide +kernel
theorem dX4_digitAt_8 : decode cX4_digitAt 8 = .ok (.aload_n 0, 1) := by decide +kernel
theorem dX4_digitAt_9 : decode cX4_digitAt 9 = .ok (.getfield 17, 3) := by decide +kernel
theorem dX4_digitAt_12 : decode cX4_digitAt 12 = .ok (.iload_n 1, 1) := by decide +kernel
theorem dX4_digitAt_13 : decode cX4_digitAt 13 = .ok (.iaload, 1) := by decide +kernel
theorem dX4_digitAt_14 : decode cX4_digitAt 14 = .ok (.bipush 48, 2) := by decide +kernel
theorem dX4_digitAt_16 : decode cX4_digitAt 16 = .ok (.isub, 1) := by decide +kernel
theorem dX4_digitAt_17 : decode cX4_digitAt 17 = .ok (.goto 4, 3) := by decide +kernel
theorem dX4_digitAt_20 : decode cX4_digitAt 20 = .ok (.iconst 0, 1) := by decide +kernel
theorem dX4_digitAt_21 : decode cX4_digitAt 21 = .ok (.ireturn, 1) := by decide +kernel
theorem dX4_tell_0 : decode cX4_tell 0 = .ok (.aload_n 0, 1) := by decide +kernel
theorem dX4_tell_1 : decode cX4_tell 1 = .ok (.iload_n 1, 1) := by decide +kernel
theorem dX4_tell_2 : decode cX4_tell 2 = .ok (.iconst 1, 1) := by decide +kernel
theorem dX4_tell_3 : decode cX4_tell 3 = .ok (.iadd, 1) := by decide +kernel
theorem dX4_tell_4 : decode cX4_tell 4 = .ok (.invokestatic 32, 3) := by decide +kernel
theorem dX4_tell_7 : decode cX4_tell 7 = .ok (.istore_n 3, 1) := by decide +kernel
theorem dX4_tell_8 : decode cX4_tell 8 = .ok (.aload_n 0, 1) := by decide +kernel
theorem dX4_tell_9 : decode cX4_tell 9 = .ok (.iload_n 1, 1) := by decide +kernel
theorem dX4_tell_10 : decode cX4_tell 10 = .ok (.iconst 2, 1) := by decide +kernel
theorem dX4_tell_11 : decode cX4_tell 11 = .ok (.iadd, 1) := by decide +kernel
theorem dX4_tell_12 : decode cX4_tell 12 = .ok (.invokestatic 32, 3) := by decide +kernel
theorem dX4_tell_15 : decode cX4_tell 15 = .ok (.istore 4, 2) := by decide +kernel
theorem dX4_tell_17 : decode cX4_tell 17 = .ok (.aload_n 0, 1) := by decide +kernel
theorem dX4_tell_18 : decode cX4_tell 18 = .ok (.iload_n 1, 1) := by decide +kernel
theorem dX4_tell_19 : decode cX4_tell 19 = .ok (.iconst 3, 1) := by decide +kernel
theorem dX4_tell_20 : decode cX4_tell 20 = .ok (.iadd, 1) := by decide +kernel
theorem dX4_tell_21 : decode cX4_tell 21 = .ok (.invokestatic 32, 3) := by decide +kernel
theorem dX4_tell_24 : decode cX4_tell 24 = .ok (.istore 5, 2) := by decide +kernel
theorem dX4_tell_26 : decode cX4_tell 26 = .ok (.aload_n 0, 1) := by decide +kernel
theorem dX4_tell_27 : decode cX4_tell 27 = .ok (.getfield 17, 3) := by decide +kernel
theorem dX4_tell_30 : decode cX4_tell 30 = .ok (.iload_n 1, 1) := by decide +kernel
theorem dX4_tell_31 : decode cX4_tell 31 = .ok (.iaload, 1) := by decide +kernel
theorem dX4_tell_32 : decode cX4_tell 32 = .ok (.lookupswitch 137 #[(98, 129), (101, 121), (103, 60), (104, 107), (108, 85), (119, 99)], 60) := by decide +kernel
theorem dX4_tell_92 : decode cX4_tell 92 = .ok (.iload_n 3, 1) := by decide +kernel
theorem dX4_tell_93 : decode cX4_tell 93 = .ok (.invokestatic 36, 3) := by decide +kernel
theorem dX4_tell_96 : decode cX4_tell 96 = .ok (.ifCond .eq 19, 3) := by decide +kernel
theorem dX4_tell_99 : decode cX4_tell 99 = .ok (.aload_n 2, 1) := by decide +kernel
theorem dX4_tell_100 : decode cX4_tell 100 = .ok (.iload_n 3, 1) := by decide +kernel
theorem dX4_tell_101 : decode cX4_tell 101 = .ok (.iload 4, 2) := by decide +kernel
theorem dX4_tell_103 : decode cX4_tell 103 = .ok (.iload 5, 2) := by decide +kernel
theorem dX4_tell_105 : decode cX4_tell 105 = .ok (.invokevirtual 41, 3) := by decide +kernel
theorem dX4_tell_108 : decode cX4_tell 108 = .ok (.ifCond .lt 7, 3) := by decide +kernel
theorem dX4_tell_111 : decode cX4_tell 111 = .ok (.iconst 1, 1) := by decide +kernel
theorem dX4_tell_112 : decode cX4_tell 112 = .ok (.goto 4, 3) := by decide +kernel
theorem dX4_tell_115 : decode cX4_tell 115 = .ok (.iconst 0, 1) := by decide +kernel
theorem dX4_tell_116 : decode cX4_tell 116 = .ok (.ireturn, 1) := by decide +kernel
theorem dX4_tell_117 : decode cX4_tell 117 = .ok (.aload_n 2, 1) := by decide +kernel
theorem dX4_tell_118 : decode cX4_tell 118 = .ok (.iload_n 3, 1) := by decide +kernel
theorem dX4_tell_119 : decode cX4_tell 119 = .ok (.bipush 10, 2) := by decide +kernel
theorem dX4_tell_121 : decode cX4_tell 121 = .ok (.iload 4, 2) := by decide +kernel
theorem dX4_tell_123 : decode cX4_tell 123 = .ok (.imul, 1) := by decide +kernel
theorem dX4_tell_124 : decode cX4_tell 124 = .ok (.iload 5, 2) := by decide +kernel
theorem dX4_tell_126 : decode cX4_tell 126 = .ok (.iadd, 1) := by decide +kernel
theorem dX4_tell_127 : decode cX4_tell 127 = .ok (.invokestatic 47, 3) := by decide +kernel
theorem dX4_tell_130 : decode cX4_tell 130 = .ok (.ireturn, 1) := by decide +kernel
theorem dX4_tell_131 : decode cX4_tell 131 = .ok (.aload_n 2, 1) := by decide +kernel
theorem dX4_tell_132 : decode cX4_tell 132 = .ok (.iload_n 3, 1) := by decide +kernel
theorem dX4_tell_133 : decode cX4_tell 133 = .ok (.iload 4, 2) := by decide +kernel
theorem dX4_tell_135 : decode cX4_tell 135 = .ok (.invokestatic 51, 3) := by decide +kernel
theorem dX4_tell_138 : decode cX4_tell 138 = .ok (.ireturn, 1) := by decide +kernel
theorem dX4_tell_139 : decode cX4_tell 139 = .ok (.aload_n 2, 1) := by decide +kernel
theorem dX4_tell_140 : decode cX4_tell 140 = .ok (.iload_n 3, 1) := by decide +kernel
theorem dX4_tell_141 : decode cX4_tell 141 = .ok (.bipush 10, 2) := by decide +kernel
theorem dX4_tell_143 : decode cX4_tell 143 = .ok (.iload 4, 2) := by decide +kernel
theorem dX4_tell_145 : decode cX4_tell 145 = .ok (.imul, 1) := by decide +kernel
theorem dX4_tell_146 : decode cX4_tell 146 = .ok (.iload 5, 2) := by decide +kernel
theorem dX4_tell_148 : decode cX4_tell 148 = .ok (.iadd, 1) := by decide +kernel
theorem dX4_tell_149 : decode cX4_tell 149 = .ok (.invokestatic 54, 3) := by decide +kernel
theorem dX4_tell_152 : decode cX4_tell 152 = .ok (.ireturn, 1) := by decide +kernel
theorem dX4_tell_153 : decode cX4_tell 153 = .ok (.aload_n 2, 1) := by decide +kernel
theorem dX4_tell_154 : decode cX4_tell 154 = .ok (.iload_n 3, 1) := by decide +kernel
theorem dX4_tell_155 : decode cX4_tell 155 = .ok (.iload 4, 2) := by decide +kernel
theorem dX4_tell_157 : decode cX4_tell 157 = .ok (.invokestatic 57, 3) := by decide +kernel
theorem dX4_tell_160 : decode cX4_tell 160 = .ok (.ireturn, 1) := by decide +kernel
theorem dX4_tell_161 : decode cX4_tell 161 = .ok (.aload_n 2, 1) := by decide +kernel
theorem dX4_tell_162 : decode cX4_tell 162 = .ok (.iload_n 3, 1) := by decide +kernel
theorem dX4_tell_163 : decode cX4_tell 163 = .ok (.iload 4, 2) := by decide +kernel
theorem dX4_tell_165 : decode cX4_tell 165 = .ok (.invokestatic 60, 3) := by decide +kernel
theorem dX4_tell_168 : decode cX4_tell 168 = .ok (.ireturn, 1) := by decide +kernel
theorem dX4_tell_169 : decode cX4_tell 169 = .ok (.aload_n 2, 1) := by decide +kernel
theorem dX4_tell_170 : decode cX4_tell 170 = .ok (.bipush 10, 2) := by decide +kernel
theorem dX4_tell_172 : decode cX4_tell 172 = .ok (.iload_n 3, 1) := by decide +kernel
theorem dX4_tell_173 : decode cX4_tell 173 = .ok (.imul, 1) := by decide +kernel
theorem dX4_tell_174 : decode cX4_tell 174 = .ok (.iload 4, 2) := by decide +kernel
theorem dX4_tell_176 : decode cX4_tell 176 = .ok (.iadd, 1) := by decide +kernel
theorem dX4_tell_177 : decode cX4_tell 177 = .ok (.invokestatic 63, 3) := by decide +kernel
theorem dX4_tell_180 : decode cX4_tell 180 = .ok (.ireturn, 1) := by decide +kernel
theorem dX4_setStock_0 : decode cX4_setStock 0 = .ok (.aload_n 0, 1) := by decide +kernel
theorem dX4_setStock_1 : decode cX4_setStock 1 = .ok (.getfield 67, 3) := by decide +kernel
theorem dX4_setStock_4 : decode cX4_setStock 4 = .ok (.iload_n 1, 1) := by decide +kernel
theorem dX4_setStock_5 : decode cX4_setStock 5 = .ok (.iload_n 2, 1) := by decide +kernel
theorem dX4_setStock_6 : decode cX4_setStock 6 = .ok (.iastore, 1) := by decide +kernel
theorem dX4_setStock_7 : decode cX4_setStock 7 = .ok (.iconst 1, 1) := by decide +kernel
theorem dX4_setStock_8 : decode cX4_setStock 8 = .ok (.ireturn, 1) := by decide +kernel
theorem dX4_addStock_0 : decode cX4_addStock 0 = .ok (.aload_n 0, 1) := by decide +kernel
theorem dX4_addStock_1 : decode cX4_addStock 1 = .ok (.iload_n 1, 1) := by decide +kernel
theorem dX4_addStock_2 : decode cX4_addStock 2 = .ok (.iload_n 2, 1) := by decide +kernel
theorem dX4_addStock_3 : decode cX4_addStock 3 = .ok (.invokevirtual 70, 3) := by decide +kernel
theorem dX4_addStock_6 : decode cX4_addStock 6 = .ok (.iconst 1, 1) := by decide +kernel
theorem dX4_addStock_7 : decode cX4_addStock 7 = .ok (.ireturn, 1) := by decide +kernel
theorem dX4_setWish_0 : decode cX4_setWish 0 = .ok (.aload_n 0, 1) := by decide +kernel
theorem dX4_setWish_1 : decode cX4_setWish 1 = .ok (.iload_n 1, 1) := by decide +kernel
theorem dX4_setWish_2 : decode cX4_setWish 2 = .ok (.invokevirtual 74, 3) := by decide +kernel
theorem dX4_setWish_5 : decode cX4_setWish 5 = .ok (.ifCond .ne 5, 3) := by decide +kernel
theorem dX4_setWish_8 : decode cX4_setWish 8 = .ok (.iconst 0, 1) := by decide +kernel
theorem dX4_setWish_9 : decode cX4_setWish 9 = .ok (.ireturn, 1) := by decide +kernel
theorem dX4_setWish_10 : decode cX4_setWish 10 = .ok (.aload_n 0, 1) := by decide +kernel
theorem dX4_setWish_11 : decode cX4_setWish 11 = .ok (.getfield 77, 3) := by decide +kernel
theorem dX4_setWish_14 : decode cX4_setWish 14 = .ok (.iload_n 1, 1) := by decide +kernel
theorem dX4_setWish_15 : decode cX4_setWish 15 = .ok (.iload_n 2, 1) := by decide +kernel
theorem dX4_setWish_16 : decode cX4_setWish 16 = .ok (.iastore, 1) := by decide +kernel
theorem dX4_setWish_17 : decode cX4_setWish 17 = .ok (.iconst 1, 1) := by decide +kernel
theorem dX4_setWish_18 : decode cX4_setWish 18 = .ok (.ireturn, 1) := by decide +kernel
theorem dX4_setLast_0 : decode cX4_setLast 0 = .ok (.aload_n 0, 1) := by decide +kernel
theorem dX4_setLast_1 : decode cX4_setLast 1 = .ok (.iload_n 1, 1) := by decide +kernel
theorem dX4_setLast_2 : decode cX4_setLast 2 = .ok (.invokevirtual 74, 3) := by decide +kernel
theorem dX4_setLast_5 : decode cX4_setLast 5 = .ok (.ifCond .ne 5, 3) := by decide +kernel
theorem dX4_setLast_8 : decode cX4_setLast 8 = .ok (.iconst 0, 1) := by decide +kernel
theorem dX4_setLast_9 : decode cX4_setLast 9 = .ok (.ireturn, 1) := by decide +kernel
theorem dX4_setLast_10 : decode cX4_setLast 10 = .ok (.aload_n 0, 1) := by decide +kernel
theorem dX4_setLast_11 : decode cX4_setLast 11 = .ok (.getfield 80, 3) := by decide +kernel
theorem dX4_setLast_14 : decode cX4_setLast 14 = .ok (.iload_n 1, 1) := by decide +kernel
theorem dX4_setLast_15 : decode cX4_setLast 15 = .ok (.iload_n 2, 1) := by decide +kernel
theorem dX4_setLast_16 : decode cX4_setLast 16 = .ok (.iastore, 1) := by decide +kernel
theorem dX4_setLast_17 : decode cX4_setLast 17 = .ok (.iconst 1, 1) := by decide +kernel
theorem dX4_setLast_18 : decode cX4_setLast 18 = .ok (.ireturn, 1) := by decide +kernel
theorem dX4_setHealth_0 : decode cX4_setHealth 0 = .ok (.aload_n 0, 1) := by decide +kernel
theorem dX4_setHealth_1 : decode cX4_setHealth 1 = .ok (.iload_n 1, 1) := by decide +kernel
theorem dX4_setHealth_2 : decode cX4_setHealth 2 = .ok (.invokevirtual 74, 3) := by decide +kernel
theorem dX4_setHealth_5 : decode cX4_setHealth 5 = .ok (.ifCond .eq 13, 3) := by decide +kernel
theorem dX4_setHealth_8 : decode cX4_setHealth 8 = .ok (.iload_n 2, 1) := by decide +kernel
theorem dX4_setHealth_9 : decode cX4_setHealth 9 = .ok (.iconst 1, 1) := by decide +kernel
theorem dX4_setHealth_10 : decode cX4_setHealth 10 = .ok (.bipush 99, 2) := by decide +kernel
theorem dX4_setHealth_12 : decode cX4_setHealth 12 = .ok (.invokestatic 83, 3) := by decide +kernel
theorem dX4_setHealth_15 : decode cX4_setHealth 15 = .ok (.ifCond .ne 5, 3) := by decide +kernel
theorem dX4_setHealth_18 : decode cX4_setHealth 18 = .ok (.iconst 0, 1) := by decide +kernel
theorem dX4_setHealth_19 : decode cX4_setHealth 19 = .ok (.ireturn, 1) := by decide +kernel
theorem dX4_setHealth_20 : decode cX4_setHealth 20 = .ok (.aload_n 0, 1) := by decide +kernel
theorem dX4_setHealth_21 : decode cX4_setHealth 21 = .ok (.getfield 87, 3) := by decide +kernel
theorem dX4_setHealth_24 : decode cX4_setHealth 24 = .ok (.iload_n 1, 1) := by decide +kernel
theorem dX4_setHealth_25 : decode cX4_setHealth 25 = .ok (.iload_n 2, 1) := by decide +kernel
theorem dX4_setHealth_26 : decode cX4_setHealth 26 = .ok (.iastore, 1) := by decide +kernel
theorem dX4_setHealth_27 : decode cX4_setHealth 27 = .ok (.aload_n 0, 1) := by decide +kernel
theorem dX4_setHealth_28 : decode cX4_setHealth 28 = .ok (.dup, 1) := by decide +kernel
theorem dX4_setHealth_29 : decode cX4_setHealth 29 = .ok (.getfield 90, 3) := by decide +kernel
theorem dX4_setHealth_32 : decode cX4_setHealth 32 = .ok (.iconst 1, 1) := by decide +kernel
theorem dX4_setHealth_33 : decode cX4_setHealth 33 = .ok (.iload_n 1, 1) := by decide +kernel
theorem dX4_setHealth_34 : decode cX4_setHealth 34 = .ok (.ishl, 1) := by decide +kernel
theorem dX4_setHealth_35 : decode cX4_setHealth 35 = .ok (.ior, 1) := by decide +kernel
theorem dX4_setHealth_36 : decode cX4_setHealth 36 = .ok (.putfield 90, 3) := by decide +kernel
theorem dX4_setHealth_39 : decode cX4_setHealth 39 = .ok (.iconst 1, 1) := by decide +kernel
theorem dX4_setHealth_40 : decode cX4_setHealth 40 = .ok (.ireturn, 1) := by decide +kernel
theorem dX4_passNights_0 : decode cX4_passNights 0 = .ok (.iload_n 1, 1) := by decide +kernel
theorem dX4_passNights_1 : decode cX4_passNights 1 = .ok (.iconst 1, 1) := by decide +kernel
theorem dX4_passNights_2 : decode cX4_passNights 2 = .ok (.bipush 60, 2) := by decide +kernel
theorem dX4_passNights_4 : decode cX4_passNights 4 = .ok (.invokestatic 83, 3) := by decide +kernel
theorem dX4_passNights_7 : decode cX4_passNights 7 = .ok (.ifCond .eq 15, 3) := by decide +kernel
theorem dX4_passNights_10 : decode cX4_passNights 10 = .ok (.aload_n 0, 1) := by decide +kernel
theorem dX4_passNights_11 : decode cX4_passNights 11 = .ok (.getfield 93, 3) := by decide +kernel
theorem dX4_passNights_14 : decode cX4_passNights 14 = .ok (.iload_n 1, 1) := by decide +kernel
theorem dX4_passNights_15 : decode cX4_passNights 15 = .ok (.iadd, 1) := by decide +kernel
theorem dX4_passNights_16 : decode cX4_passNights 16 = .ok (.sipush 999, 3) := by decide +kernel
theorem dX4_passNights_19 : decode cX4_passNights 19 = .ok (.if_icmp .le 5, 3) := by decide +kernel
theorem dX4_passNights_22 : decode cX4_passNights 22 = .ok (.iconst 0, 1) := by decide +kernel
theorem dX4_passNights_23 : decode cX4_passNights 23 = .ok (.ireturn, 1) := by decide +kernel
theorem dX4_passNights_24 : decode cX4_passNights 24 = .ok (.aload_n 0, 1) := by decide +kernel
theorem dX4_passNights_25 : decode cX4_passNights 25 = .ok (.iload_n 1, 1) := by decide +kernel
theorem dX4_passNights_26 : decode cX4_passNights 26 = .ok (.invokevirtual 96, 3) := by decide +kernel
theorem dX4_passNights_29 : decode cX4_passNights 29 = .ok (.iconst 1, 1) := by decide +kernel
theorem dX4_passNights_30 : decode cX4_passNights 30 = .ok (.ireturn, 1) := by decide +kernel
