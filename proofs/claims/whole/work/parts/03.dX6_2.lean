theorem dX6_whatIs_133 : decode cX6_whatIs 133 = .ok (.iinc 6 1, 3) := by decide +kernel
theorem dX6_whatIs_136 : decode cX6_whatIs 136 = .ok (.goto (-84), 3) := by decide +kernel
theorem dX6_whatIs_139 : decode cX6_whatIs 139 = .ok (.iload 5, 2) := by decide +kernel
theorem dX6_whatIs_141 : decode cX6_whatIs 141 = .ok (.ireturn, 1) := by decide +kernel
theorem dX6_whatWish_0 : decode cX6_whatWish 0 = .ok (.aload_n 0, 1) := by decide +kernel
theorem dX6_whatWish_1 : decode cX6_whatWish 1 = .ok (.iconst 0, 1) := by decide +kernel
theorem dX6_whatWish_2 : decode cX6_whatWish 2 = .ok (.putfield 75, 3) := by decide +kernel
theorem dX6_whatWish_5 : decode cX6_whatWish 5 = .ok (.aload_n 0, 1) := by decide +kernel
theorem dX6_whatWish_6 : decode cX6_whatWish 6 = .ok (.iload_n 2, 1) := by decide +kernel
theorem dX6_whatWish_7 : decode cX6_whatWish 7 = .ok (.invokevirtual 171, 3) := by decide +kernel
theorem dX6_whatWish_10 : decode cX6_whatWish 10 = .ok (.ifCond .eq 11, 3) := by decide +kernel
theorem dX6_whatWish_13 : decode cX6_whatWish 13 = .ok (.aload_n 0, 1) := by decide +kernel
theorem dX6_whatWish_14 : decode cX6_whatWish 14 = .ok (.iload_n 1, 1) := by decide +kernel
theorem dX6_whatWish_15 : decode cX6_whatWish 15 = .ok (.invokevirtual 184, 3) := by decide +kernel
theorem dX6_whatWish_18 : decode cX6_whatWish 18 = .ok (.goto 4, 3) := by decide +kernel
theorem dX6_whatWish_21 : decode cX6_whatWish 21 = .ok (.iconst (-1), 1) := by decide +kernel
theorem dX6_whatWish_22 : decode cX6_whatWish 22 = .ok (.istore_n 3, 1) := by decide +kernel
theorem dX6_whatWish_23 : decode cX6_whatWish 23 = .ok (.iload_n 3, 1) := by decide +kernel
theorem dX6_whatWish_24 : decode cX6_whatWish 24 = .ok (.ifCond .ge 5, 3) := by decide +kernel
theorem dX6_whatWish_27 : decode cX6_whatWish 27 = .ok (.iload_n 3, 1) := by decide +kernel
theorem dX6_whatWish_28 : decode cX6_whatWish 28 = .ok (.ireturn, 1) := by decide +kernel
theorem dX6_whatWish_29 : decode cX6_whatWish 29 = .ok (.iconst 0, 1) := by decide +kernel
theorem dX6_whatWish_30 : decode cX6_whatWish 30 = .ok (.istore 4, 2) := by decide +kernel
theorem dX6_whatWish_32 : decode cX6_whatWish 32 = .ok (.aload_n 0, 1) := by decide +kernel
theorem dX6_whatWish_33 : decode cX6_whatWish 33 = .ok (.invokevirtual 190, 3) := by decide +kernel
theorem dX6_whatWish_36 : decode cX6_whatWish 36 = .ok (.iconst 0, 1) := by decide +kernel
theorem dX6_whatWish_37 : decode cX6_whatWish 37 = .ok (.istore 5, 2) := by decide +kernel
theorem dX6_whatWish_39 : decode cX6_whatWish 39 = .ok (.iload 5, 2) := by decide +kernel
theorem dX6_whatWish_41 : decode cX6_whatWish 41 = .ok (.bipush 10, 2) := by decide +kernel
theorem dX6_whatWish_43 : decode cX6_whatWish 43 = .ok (.if_icmp .ge 39, 3) := by decide +kernel
theorem dX6_whatWish_46 : decode cX6_whatWish 46 = .ok (.aload_n 0, 1) := by decide +kernel
theorem dX6_whatWish_47 : decode cX6_whatWish 47 = .ok (.getfield 19, 3) := by decide +kernel
theorem dX6_whatWish_50 : decode cX6_whatWish 50 = .ok (.iload_n 2, 1) := by decide +kernel
theorem dX6_whatWish_51 : decode cX6_whatWish 51 = .ok (.iload 5, 2) := by decide +kernel
theorem dX6_whatWish_53 : decode cX6_whatWish 53 = .ok (.iastore, 1) := by decide +kernel
theorem dX6_whatWish_54 : decode cX6_whatWish 54 = .ok (.iload 4, 2) := by decide +kernel
theorem dX6_whatWish_56 : decode cX6_whatWish 56 = .ok (.aload_n 0, 1) := by decide +kernel
theorem dX6_whatWish_57 : decode cX6_whatWish 57 = .ok (.iload_n 1, 1) := by decide +kernel
theorem dX6_whatWish_58 : decode cX6_whatWish 58 = .ok (.iload_n 2, 1) := by decide +kernel
theorem dX6_whatWish_59 : decode cX6_whatWish 59 = .ok (.invokevirtual 290, 3) := by decide +kernel
theorem dX6_whatWish_62 : decode cX6_whatWish 62 = .ok (.ifCond .eq 10, 3) := by decide +kernel
theorem dX6_whatWish_65 : decode cX6_whatWish 65 = .ok (.iconst 1, 1) := by decide +kernel
theorem dX6_whatWish_66 : decode cX6_whatWish 66 = .ok (.iload 5, 2) := by decide +kernel
theorem dX6_whatWish_68 : decode cX6_whatWish 68 = .ok (.ishl, 1) := by decide +kernel
theorem dX6_whatWish_69 : decode cX6_whatWish 69 = .ok (.goto 4, 3) := by decide +kernel
theorem dX6_whatWish_72 : decode cX6_whatWish 72 = .ok (.iconst 0, 1) := by decide +kernel
theorem dX6_whatWish_73 : decode cX6_whatWish 73 = .ok (.ior, 1) := by decide +kernel
theorem dX6_whatWish_74 : decode cX6_whatWish 74 = .ok (.istore 4, 2) := by decide +kernel
theorem dX6_whatWish_76 : decode cX6_whatWish 76 = .ok (.iinc 5 1, 3) := by decide +kernel
theorem dX6_whatWish_79 : decode cX6_whatWish 79 = .ok (.goto (-40), 3) := by decide +kernel
theorem dX6_whatWish_82 : decode cX6_whatWish 82 = .ok (.iload 4, 2) := by decide +kernel
theorem dX6_whatWish_84 : decode cX6_whatWish 84 = .ok (.ireturn, 1) := by decide +kernel
theorem dX6_two_0 : decode cX6_two 0 = .ok (.aload_n 0, 1) := by decide +kernel
theorem dX6_two_1 : decode cX6_two 1 = .ok (.iconst 0, 1) := by decide +kernel
theorem dX6_two_2 : decode cX6_two 2 = .ok (.putfield 75, 3) := by decide +kernel
theorem dX6_two_5 : decode cX6_two 5 = .ok (.aload_n 0, 1) := by decide +kernel
theorem dX6_two_6 : decode cX6_two 6 = .ok (.iload_n 1, 1) := by decide +kernel
theorem dX6_two_7 : decode cX6_two 7 = .ok (.invokevirtual 171, 3) := by decide +kernel
theorem dX6_two_10 : decode cX6_two 10 = .ok (.ifCond .eq 28, 3) := by decide +kernel
theorem dX6_two_13 : decode cX6_two 13 = .ok (.aload_n 0, 1) := by decide +kernel
theorem dX6_two_14 : decode cX6_two 14 = .ok (.iload_n 2, 1) := by decide +kernel
theorem dX6_two_15 : decode cX6_two 15 = .ok (.invokevirtual 171, 3) := by decide +kernel
theorem dX6_two_18 : decode cX6_two 18 = .ok (.ifCond .eq 20, 3) := by decide +kernel
theorem dX6_two_21 : decode cX6_two 21 = .ok (.iload_n 1, 1) := by decide +kernel
theorem dX6_two_22 : decode cX6_two 22 = .ok (.iload_n 2, 1) := by decide +kernel
theorem dX6_two_23 : decode cX6_two 23 = .ok (.if_icmp .eq 15, 3) := by decide +kernel
theorem dX6_two_26 : decode cX6_two 26 = .ok (.iload_n 3, 1) := by decide +kernel
theorem dX6_two_27 : decode cX6_two 27 = .ok (.i2l, 1) := by decide +kernel
theorem dX6_two_28 : decode cX6_two 28 = .ok (.lconst 1, 1) := by decide +kernel
theorem dX6_two_29 : decode cX6_two 29 = .ok (.ldc2_w 293, 3) := by decide +kernel
theorem dX6_two_32 : decode cX6_two 32 = .ok (.invokestatic 81, 3) := by decide +kernel
theorem dX6_two_35 : decode cX6_two 35 = .ok (.ifCond .ne 5, 3) := by decide +kernel
theorem dX6_two_38 : decode cX6_two 38 = .ok (.iconst (-1), 1) := by decide +kernel
theorem dX6_two_39 : decode cX6_two 39 = .ok (.ireturn, 1) := by decide +kernel
theorem dX6_two_40 : decode cX6_two 40 = .ok (.aload_n 0, 1) := by decide +kernel
theorem dX6_two_41 : decode cX6_two 41 = .ok (.getfield 125, 3) := by decide +kernel
theorem dX6_two_44 : decode cX6_two 44 = .ok (.iload_n 1, 1) := by decide +kernel
theorem dX6_two_45 : decode cX6_two 45 = .ok (.invokestatic 105, 3) := by decide +kernel
theorem dX6_two_48 : decode cX6_two 48 = .ok (.ifCond .eq 14, 3) := by decide +kernel
theorem dX6_two_51 : decode cX6_two 51 = .ok (.aload_n 0, 1) := by decide +kernel
theorem dX6_two_52 : decode cX6_two 52 = .ok (.getfield 125, 3) := by decide +kernel
theorem dX6_two_55 : decode cX6_two 55 = .ok (.iload_n 2, 1) := by decide +kernel
theorem dX6_two_56 : decode cX6_two 56 = .ok (.invokestatic 105, 3) := by decide +kernel
theorem dX6_two_59 : decode cX6_two 59 = .ok (.ifCond .ne 6, 3) := by decide +kernel
theorem dX6_two_62 : decode cX6_two 62 = .ok (.bipush (-3), 2) := by decide +kernel
theorem dX6_two_64 : decode cX6_two 64 = .ok (.ireturn, 1) := by decide +kernel
theorem dX6_two_65 : decode cX6_two 65 = .ok (.aload_n 0, 1) := by decide +kernel
theorem dX6_two_66 : decode cX6_two 66 = .ok (.invokevirtual 190, 3) := by decide +kernel
theorem dX6_two_69 : decode cX6_two 69 = .ok (.iconst 0, 1) := by decide +kernel
theorem dX6_two_70 : decode cX6_two 70 = .ok (.istore 4, 2) := by decide +kernel
theorem dX6_two_72 : decode cX6_two 72 = .ok (.iload 4, 2) := by decide +kernel
theorem dX6_two_74 : decode cX6_two 74 = .ok (.iconst 4, 1) := by decide +kernel
theorem dX6_two_75 : decode cX6_two 75 = .ok (.if_icmp .ge 89, 3) := by decide +kernel
theorem dX6_two_78 : decode cX6_two 78 = .ok (.aload_n 0, 1) := by decide +kernel
theorem dX6_two_79 : decode cX6_two 79 = .ok (.iconst 1, 1) := by decide +kernel
theorem dX6_two_80 : decode cX6_two 80 = .ok (.iload 4, 2) := by decide +kernel
theorem dX6_two_82 : decode cX6_two 82 = .ok (.iconst 2, 1) := by decide +kernel
theorem dX6_two_83 : decode cX6_two 83 = .ok (.idiv, 1) := by decide +kernel
theorem dX6_two_84 : decode cX6_two 84 = .ok (.isub, 1) := by decide +kernel
theorem dX6_two_85 : decode cX6_two 85 = .ok (.iload_n 1, 1) := by decide +kernel
theorem dX6_two_86 : decode cX6_two 86 = .ok (.ishl, 1) := by decide +kernel
theorem dX6_two_87 : decode cX6_two 87 = .ok (.iconst 1, 1) := by decide +kernel
theorem dX6_two_88 : decode cX6_two 88 = .ok (.iload 4, 2) := by decide +kernel
theorem dX6_two_90 : decode cX6_two 90 = .ok (.iconst 2, 1) := by decide +kernel
theorem dX6_two_91 : decode cX6_two 91 = .ok (.irem, 1) := by decide +kernel
theorem dX6_two_92 : decode cX6_two 92 = .ok (.isub, 1) := by decide +kernel
theorem dX6_two_93 : decode cX6_two 93 = .ok (.iload_n 2, 1) := by decide +kernel
theorem dX6_two_94 : decode cX6_two 94 = .ok (.ishl, 1) := by decide +kernel
theorem dX6_two_95 : decode cX6_two 95 = .ok (.ior, 1) := by decide +kernel
theorem dX6_two_96 : decode cX6_two 96 = .ok (.putfield 102, 3) := by decide +kernel
theorem dX6_two_99 : decode cX6_two 99 = .ok (.aload_n 0, 1) := by decide +kernel
theorem dX6_two_100 : decode cX6_two 100 = .ok (.iload_n 3, 1) := by decide +kernel
theorem dX6_two_101 : decode cX6_two 101 = .ok (.invokevirtual 168, 3) := by decide +kernel
theorem dX6_two_104 : decode cX6_two 104 = .ok (.aload_n 0, 1) := by decide +kernel
theorem dX6_two_105 : decode cX6_two 105 = .ok (.getfield 69, 3) := by decide +kernel
theorem dX6_two_108 : decode cX6_two 108 = .ok (.iconst 2, 1) := by decide +kernel
theorem dX6_two_109 : decode cX6_two 109 = .ok (.iload 4, 2) := by decide +kernel
theorem dX6_two_111 : decode cX6_two 111 = .ok (.imul, 1) := by decide +kernel
theorem dX6_two_112 : decode cX6_two 112 = .ok (.aload_n 0, 1) := by decide +kernel
theorem dX6_two_113 : decode cX6_two 113 = .ok (.getfield 25, 3) := by decide +kernel
theorem dX6_two_116 : decode cX6_two 116 = .ok (.iload_n 1, 1) := by decide +kernel
theorem dX6_two_117 : decode cX6_two 117 = .ok (.iaload, 1) := by decide +kernel
theorem dX6_two_118 : decode cX6_two 118 = .ok (.iconst 2, 1) := by decide +kernel
theorem dX6_two_119 : decode cX6_two 119 = .ok (.iconst 1, 1) := by decide +kernel
theorem dX6_two_120 : decode cX6_two 120 = .ok (.iload 4, 2) := by decide +kernel
theorem dX6_two_122 : decode cX6_two 122 = .ok (.iconst 2, 1) := by decide +kernel
theorem dX6_two_123 : decode cX6_two 123 = .ok (.idiv, 1) := by decide +kernel
theorem dX6_two_124 : decode cX6_two 124 = .ok (.isub, 1) := by decide +kernel
theorem dX6_two_125 : decode cX6_two 125 = .ok (.imul, 1) := by decide +kernel
theorem dX6_two_126 : decode cX6_two 126 = .ok (.isub, 1) := by decide +kernel
theorem dX6_two_127 : decode cX6_two 127 = .ok (.iastore, 1) := by decide +kernel
theorem dX6_two_128 : decode cX6_two 128 = .ok (.aload_n 0, 1) := by decide +kernel
theorem dX6_two_129 : decode cX6_two 129 = .ok (.getfield 69, 3) := by decide +kernel
theorem dX6_two_132 : decode cX6_two 132 = .ok (.iconst 2, 1) := by decide +kernel
theorem dX6_two_133 : decode cX6_two 133 = .ok (.iload 4, 2) := by decide +kernel
theorem dX6_two_135 : decode cX6_two 135 = .ok (.imul, 1) := by decide +kernel
theorem dX6_two_136 : decode cX6_two 136 = .ok (.iconst 1, 1) := by decide +kernel
theorem dX6_two_137 : decode cX6_two 137 = .ok (.iadd, 1) := by decide +kernel
theorem dX6_two_138 : decode cX6_two 138 = .ok (.aload_n 0, 1) := by decide +kernel
theorem dX6_two_139 : decode cX6_two 139 = .ok (.getfield 25, 3) := by decide +kernel
theorem dX6_two_142 : decode cX6_two 142 = .ok (.iload_n 2, 1) := by decide +kernel
theorem dX6_two_143 : decode cX6_two 143 = .ok (.iaload, 1) := by decide +kernel
theorem dX6_two_144 : decode cX6_two 144 = .ok (.iconst 2, 1) := by decide +kernel
theorem dX6_two_145 : decode cX6_two 145 = .ok (.iconst 1, 1) := by decide +kernel
theorem dX6_two_146 : decode cX6_two 146 = .ok (.iload 4, 2) := by decide +kernel
theorem dX6_two_148 : decode cX6_two 148 = .ok (.iconst 2, 1) := by decide +kernel
theorem dX6_two_149 : decode cX6_two 149 = .ok (.irem, 1) := by decide +kernel
theorem dX6_two_150 : decode cX6_two 150 = .ok (.isub, 1) := by decide +kernel
theorem dX6_two_151 : decode cX6_two 151 = .ok (.imul, 1) := by decide +kernel
theorem dX6_two_152 : decode cX6_two 152 = .ok (.isub, 1) := by decide +kernel
theorem dX6_two_153 : decode cX6_two 153 = .ok (.iastore, 1) := by decide +kernel
theorem dX6_two_154 : decode cX6_two 154 = .ok (.aload_n 0, 1) := by decide +kernel
theorem dX6_two_155 : decode cX6_two 155 = .ok (.invokevirtual 196, 3) := by decide +kernel
theorem dX6_two_158 : decode cX6_two 158 = .ok (.iinc 4 1, 3) := by decide +kernel
theorem dX6_two_161 : decode cX6_two 161 = .ok (.goto (-89), 3) := by decide +kernel
theorem dX6_two_164 : decode cX6_two 164 = .ok (.iconst 0, 1) := by decide +kernel
theorem dX6_two_165 : decode cX6_two 165 = .ok (.istore 4, 2) := by decide +kernel
theorem dX6_two_167 : decode cX6_two 167 = .ok (.iload 4, 2) := by decide +kernel
theorem dX6_two_169 : decode cX6_two 169 = .ok (.iconst 4, 1) := by decide +kernel
theorem dX6_two_170 : decode cX6_two 170 = .ok (.if_icmp .ge 98, 3) := by decide +kernel
theorem dX6_two_173 : decode cX6_two 173 = .ok (.iconst 2, 1) := by decide +kernel
theorem dX6_two_174 : decode cX6_two 174 = .ok (.iconst 1, 1) := by decide +kernel
theorem dX6_two_175 : decode cX6_two 175 = .ok (.iload 4, 2) := by decide +kernel
theorem dX6_two_177 : decode cX6_two 177 = .ok (.iconst 2, 1) := by decide +kernel
theorem dX6_two_178 : decode cX6_two 178 = .ok (.idiv, 1) := by decide +kernel
theorem dX6_two_179 : decode cX6_two 179 = .ok (.isub, 1) := by decide +kernel
theorem dX6_two_180 : decode cX6_two 180 = .ok (.imul, 1) := by decide +kernel
theorem dX6_two_181 : decode cX6_two 181 = .ok (.iload 4, 2) := by decide +kernel
theorem dX6_two_183 : decode cX6_two 183 = .ok (.iconst 2, 1) := by decide +kernel
theorem dX6_two_184 : decode cX6_two 184 = .ok (.irem, 1) := by decide +kernel
theorem dX6_two_185 : decode cX6_two 185 = .ok (.iadd, 1) := by decide +kernel
theorem dX6_two_186 : decode cX6_two 186 = .ok (.istore 5, 2) := by decide +kernel
theorem dX6_two_188 : decode cX6_two 188 = .ok (.iconst 2, 1) := by decide +kernel
theorem dX6_two_189 : decode cX6_two 189 = .ok (.iload 4, 2) := by decide +kernel
theorem dX6_two_191 : decode cX6_two 191 = .ok (.iconst 2, 1) := by decide +kernel
theorem dX6_two_192 : decode cX6_two 192 = .ok (.idiv, 1) := by decide +kernel
theorem dX6_two_193 : decode cX6_two 193 = .ok (.imul, 1) := by decide +kernel
theorem dX6_two_194 : decode cX6_two 194 = .ok (.iconst 1, 1) := by decide +kernel
theorem dX6_two_195 : decode cX6_two 195 = .ok (.iadd, 1) := by decide +kernel
theorem dX6_two_196 : decode cX6_two 196 = .ok (.iload 4, 2) := by decide +kernel
theorem dX6_two_198 : decode cX6_two 198 = .ok (.iconst 2, 1) := by decide +kernel
theorem dX6_two_199 : decode cX6_two 199 = .ok (.irem, 1) := by decide +kernel
theorem dX6_two_200 : decode cX6_two 200 = .ok (.isub, 1) := by decide +kernel
theorem dX6_two_201 : decode cX6_two 201 = .ok (.istore 6, 2) := by decide +kernel
theorem dX6_two_203 : decode cX6_two 203 = .ok (.aload_n 0, 1) := by decide +kernel
theorem dX6_two_204 : decode cX6_two 204 = .ok (.getfield 69, 3) := by decide +kernel
theorem dX6_two_207 : decode cX6_two 207 = .ok (.iconst 2, 1) := by decide +kernel
theorem dX6_two_208 : decode cX6_two 208 = .ok (.iload 4, 2) := by decide +kernel
theorem dX6_two_210 : decode cX6_two 210 = .ok (.imul, 1) := by decide +kernel
theorem dX6_two_211 : decode cX6_two 211 = .ok (.iaload, 1) := by decide +kernel
theorem dX6_two_212 : decode cX6_two 212 = .ok (.aload_n 0, 1) := by decide +kernel
theorem dX6_two_213 : decode cX6_two 213 = .ok (.getfield 69, 3) := by decide +kernel
theorem dX6_two_216 : decode cX6_two 216 = .ok (.iconst 2, 1) := by decide +kernel
theorem dX6_two_217 : decode cX6_two 217 = .ok (.iload 5, 2) := by decide +kernel
theorem dX6_two_219 : decode cX6_two 219 = .ok (.imul, 1) := by decide +kernel
theorem dX6_two_220 : decode cX6_two 220 = .ok (.iaload, 1) := by decide +kernel
theorem dX6_two_221 : decode cX6_two 221 = .ok (.if_icmp .lt 41, 3) := by decide +kernel
theorem dX6_two_224 : decode cX6_two 224 = .ok (.aload_n 0, 1) := by decide +kernel
theorem dX6_two_225 : decode cX6_two 225 = .ok (.getfield 69, 3) := by decide +kernel
theorem dX6_two_228 : decode cX6_two 228 = .ok (.iconst 2, 1) := by decide +kernel
theorem dX6_two_229 : decode cX6_two 229 = .ok (.iload 4, 2) := by decide +kernel
theorem dX6_two_231 : decode cX6_two 231 = .ok (.imul, 1) := by decide +kernel
theorem dX6_two_232 : decode cX6_two 232 = .ok (.iconst 1, 1) := by decide +kernel
theorem dX6_two_233 : decode cX6_two 233 = .ok (.iadd, 1) := by decide +kernel
theorem dX6_two_234 : decode cX6_two 234 = .ok (.iaload, 1) := by decide +kernel
theorem dX6_two_235 : decode cX6_two 235 = .ok (.aload_n 0, 1) := by decide +kernel
theorem dX6_two_236 : decode cX6_two 236 = .ok (.getfield 69, 3) := by decide +kernel
theorem dX6_two_239 : decode cX6_two 239 = .ok (.iconst 2, 1) := by decide +kernel
theorem dX6_two_240 : decode cX6_two 240 = .ok (.iload 6, 2) := by decide +kernel
theorem dX6_two_242 : decode cX6_two 242 = .ok (.imul, 1) := by decide +kernel
theorem dX6_two_243 : decode cX6_two 243 = .ok (.iconst 1, 1) := by decide +kernel
theorem dX6_two_244 : decode cX6_two 244 = .ok (.iadd, 1) := by decide +kernel
theorem dX6_two_245 : decode cX6_two 245 = .ok (.iaload, 1) := by decide +kernel
theorem dX6_two_246 : decode cX6_two 246 = .ok (.if_icmp .lt 16, 3) := by decide +kernel
theorem dX6_two_249 : decode cX6_two 249 = .ok (.bipush 10, 2) := by decide +kernel
theorem dX6_two_251 : decode cX6_two 251 = .ok (.iload 4, 2) := by decide +kernel
theorem dX6_two_253 : decode cX6_two 253 = .ok (.iconst 2, 1) := by decide +kernel
theorem dX6_two_254 : decode cX6_two 254 = .ok (.idiv, 1) := by decide +kernel
theorem dX6_two_255 : decode cX6_two 255 = .ok (.imul, 1) := by decide +kernel
theorem dX6_two_256 : decode cX6_two 256 = .ok (.iload 4, 2) := by decide +kernel
theorem dX6_two_258 : decode cX6_two 258 = .ok (.iconst 2, 1) := by decide +kernel
theorem dX6_two_259 : decode cX6_two 259 = .ok (.irem, 1) := by decide +kernel
theorem dX6_two_260 : decode cX6_two 260 = .ok (.iadd, 1) := by decide +kernel
theorem dX6_two_261 : decode cX6_two 261 = .ok (.ireturn, 1) := by decide +kernel
theorem dX6_two_262 : decode cX6_two 262 = .ok (.iinc 4 1, 3) := by decide +kernel
theorem dX6_two_265 : decode cX6_two 265 = .ok (.goto (-98), 3) := by decide +kernel
theorem dX6_two_268 : decode cX6_two 268 = .ok (.bipush (-4), 2) := by decide +kernel
theorem dX6_two_270 : decode cX6_two 270 = .ok (.ireturn, 1) := by decide +kernel
theorem dX6_divisor_0 : decode cX6_divisor 0 = .ok (.lload_n 0, 1) := by decide +kernel
theorem dX6_divisor_1 : decode cX6_divisor 1 = .ok (.lstore 4, 2) := by decide +kernel
theorem dX6_divisor_3 : decode cX6_divisor 3 = .ok (.lload_n 2, 1) := by decide +kernel
theorem dX6_divisor_4 : decode cX6_divisor 4 = .ok (.lstore 6, 2) := by decide +kernel
theorem dX6_divisor_6 : decode cX6_divisor 6 = .ok (.lload 6, 2) := by decide +kernel
theorem dX6_divisor_8 : decode cX6_divisor 8 = .ok (.lconst 0, 1) := by decide +kernel
theorem dX6_divisor_9 : decode cX6_divisor 9 = .ok (.lcmp, 1) := by decide +kernel
theorem dX6_divisor_10 : decode cX6_divisor 10 = .ok (.ifCond .eq 21, 3) := by decide +kernel
theorem dX6_divisor_13 : decode cX6_divisor 13 = .ok (.lload 4, 2) := by decide +kernel
theorem dX6_divisor_15 : decode cX6_divisor 15 = .ok (.lload 6, 2) := by decide +kernel
theorem dX6_divisor_17 : decode cX6_divisor 17 = .ok (.lrem, 1) := by decide +kernel
theorem dX6_divisor_18 : decode cX6_divisor 18 = .ok (.lstore 8, 2) := by decide +kernel
theorem dX6_divisor_20 : decode cX6_divisor 20 = .ok (.lload 6, 2) := by decide +kernel
theorem dX6_divisor_22 : decode cX6_divisor 22 = .ok (.lstore 4, 2) := by decide +kernel
theorem dX6_divisor_24 : decode cX6_divisor 24 = .ok (.lload 8, 2) := by decide +kernel
theorem dX6_divisor_26 : decode cX6_divisor 26 = .ok (.lstore 6, 2) := by decide +kernel
theorem dX6_divisor_28 : decode cX6_divisor 28 = .ok (.goto (-22), 3) := by decide +kernel
theorem dX6_divisor_31 : decode cX6_divisor 31 = .ok (.lload 4, 2) := by decide +kernel
theorem dX6_divisor_33 : decode cX6_divisor 33 = .ok (.lreturn, 1) := by decide +kernel
theorem dX6_partOf_0 : decode cX6_partOf 0 = .ok (.lload_n 0, 1) := by decide +kernel
theorem dX6_partOf_1 : decode cX6_partOf 1 = .ok (.lconst 0, 1) := by decide +kernel
theorem dX6_partOf_2 : decode cX6_partOf 2 = .ok (.lcmp, 1) := by decide +kernel
theorem dX6_partOf_3 : decode cX6_partOf 3 = .ok (.ifCond .ne 7, 3) := by decide +kernel
theorem dX6_partOf_6 : decode cX6_partOf 6 = .ok (.iload 4, 2) := by decide +kernel
theorem dX6_partOf_8 : decode cX6_partOf 8 = .ok (.i2l, 1) := by decide +kernel
theorem dX6_partOf_9 : decode cX6_partOf 9 = .ok (.lreturn, 1) := by decide +kernel
theorem dX6_partOf_10 : decode cX6_partOf 10 = .ok (.lload_n 0, 1) := by decide +kernel
theorem dX6_partOf_11 : decode cX6_partOf 11 = .ok (.lload_n 2, 1) := by decide +kernel
theorem dX6_partOf_12 : decode cX6_partOf 12 = .ok (.invokestatic 295, 3) := by decide +kernel
theorem dX6_partOf_15 : decode cX6_partOf 15 = .ok (.lstore 5, 2) := by decide +kernel
theorem dX6_partOf_17 : decode cX6_partOf 17 = .ok (.iload 4, 2) := by decide +kernel
theorem dX6_partOf_19 : decode cX6_partOf 19 = .ok (.ifCond .ne 10, 3) := by decide +kernel
theorem dX6_partOf_22 : decode cX6_partOf 22 = .ok (.lload_n 0, 1) := by decide +kernel
theorem dX6_partOf_23 : decode cX6_partOf 23 = .ok (.lload 5, 2) := by decide +kernel
theorem dX6_partOf_25 : decode cX6_partOf 25 = .ok (.ldiv, 1) := by decide +kernel
theorem dX6_partOf_26 : decode cX6_partOf 26 = .ok (.goto 7, 3) := by decide +kernel
theorem dX6_partOf_29 : decode cX6_partOf 29 = .ok (.lload_n 2, 1) := by decide +kernel
theorem dX6_partOf_30 : decode cX6_partOf 30 = .ok (.lload 5, 2) := by decide +kernel
theorem dX6_partOf_32 : decode cX6_partOf 32 = .ok (.ldiv, 1) := by decide +kernel
theorem dX6_partOf_33 : decode cX6_partOf 33 = .ok (.lreturn, 1) := by decide +kernel
theorem dX6_mares_0 : decode cX6_mares 0 = .ok (.aload_n 0, 1) := by decide +kernel
theorem dX6_mares_1 : decode cX6_mares 1 = .ok (.iconst 0, 1) := by decide +kernel
theorem dX6_mares_2 : decode cX6_mares 2 = .ok (.putfield 75, 3) := by decide +kernel
theorem dX6_mares_5 : decode cX6_mares 5 = .ok (.aload_n 0, 1) := by decide +kernel
theorem dX6_mares_6 : decode cX6_mares 6 = .ok (.iload_n 1, 1) := by decide +kernel
theorem dX6_mares_7 : decode cX6_mares 7 = .ok (.invokevirtual 171, 3) := by decide +kernel
theorem dX6_mares_10 : decode cX6_mares 10 = .ok (.ifCond .eq 53, 3) := by decide +kernel
theorem dX6_mares_13 : decode cX6_mares 13 = .ok (.iload_n 2, 1) := by decide +kernel
theorem dX6_mares_14 : decode cX6_mares 14 = .ok (.i2l, 1) := by decide +kernel
theorem dX6_mares_15 : decode cX6_mares 15 = .ok (.lconst 0, 1) := by decide +kernel
theorem dX6_mares_16 : decode cX6_mares 16 = .ok (.ldc2_w 218, 3) := by decide +kernel
theorem dX6_mares_19 : decode cX6_mares 19 = .ok (.invokestatic 81, 3) := by decide +kernel
theorem dX6_mares_22 : decode cX6_mares 22 = .ok (.ifCond .eq 41, 3) := by decide +kernel
theorem dX6_mares_25 : decode cX6_mares 25 = .ok (.iload_n 3, 1) := by decide +kernel
theorem dX6_mares_26 : decode cX6_mares 26 = .ok (.i2l, 1) := by decide +kernel
theorem dX6_mares_27 : decode cX6_mares 27 = .ok (.ldc2_w 231, 3) := by decide +kernel
theorem dX6_mares_30 : decode cX6_mares 30 = .ok (.ldc2_w 244, 3) := by decide +kernel
theorem dX6_mares_33 : decode cX6_mares 33 = .ok (.invokestatic 81, 3) := by decide +kernel
theorem dX6_mares_36 : decode cX6_mares 36 = .ok (.ifCond .eq 27, 3) := by decide +kernel
theorem dX6_mares_39 : decode cX6_mares 39 = .ok (.iload 4, 2) := by decide +kernel
theorem dX6_mares_41 : decode cX6_mares 41 = .ok (.i2l, 1) := by decide +kernel
theorem dX6_mares_42 : decode cX6_mares 42 = .ok (.lconst 0, 1) := by decide +kernel
theorem dX6_mares_43 : decode cX6_mares 43 = .ok (.ldc2_w 226, 3) := by decide +kernel
theorem dX6_mares_46 : decode cX6_mares 46 = .ok (.invokestatic 81, 3) := by decide +kernel
theorem dX6_mares_49 : decode cX6_mares 49 = .ok (.ifCond .eq 14, 3) := by decide +kernel
theorem dX6_mares_52 : decode cX6_mares 52 = .ok (.iload 5, 2) := by decide +kernel
theorem dX6_mares_54 : decode cX6_mares 54 = .ok (.i2l, 1) := by decide +kernel
theorem dX6_mares_55 : decode cX6_mares 55 = .ok (.lconst 0, 1) := by decide +kernel
theorem dX6_mares_56 : decode cX6_mares 56 = .ok (.lconst 1, 1) := by decide +kernel
theorem dX6_mares_57 : decode cX6_mares 57 = .ok (.invokestatic 81, 3) := by decide +kernel
theorem dX6_mares_60 : decode cX6_mares 60 = .ok (.ifCond .ne 7, 3) := by decide +kernel
theorem dX6_mares_63 : decode cX6_mares 63 = .ok (.ldc2_w 299, 3) := by decide +kernel
theorem dX6_mares_66 : decode cX6_mares 66 = .ok (.lreturn, 1) := by decide +kernel
theorem dX6_mares_67 : decode cX6_mares 67 = .ok (.lconst 0, 1) := by decide +kernel
theorem dX6_mares_68 : decode cX6_mares 68 = .ok (.lstore 6, 2) := by decide +kernel
theorem dX6_mares_70 : decode cX6_mares 70 = .ok (.lconst 1, 1) := by decide +kernel
theorem dX6_mares_71 : decode cX6_mares 71 = .ok (.lstore 8, 2) := by decide +kernel
theorem dX6_mares_73 : decode cX6_mares 73 = .ok (.iconst 0, 1) := by decide +kernel
theorem dX6_mares_74 : decode cX6_mares 74 = .ok (.istore 10, 2) := by decide +kernel
theorem dX6_mares_76 : decode cX6_mares 76 = .ok (.iload 10, 2) := by decide +kernel
theorem dX6_mares_78 : decode cX6_mares 78 = .ok (.iload_n 2, 1) := by decide +kernel
theorem dX6_mares_79 : decode cX6_mares 79 = .ok (.if_icmp .ge 16, 3) := by decide +kernel
theorem dX6_mares_82 : decode cX6_mares 82 = .ok (.lload 8, 2) := by decide +kernel
theorem dX6_mares_84 : decode cX6_mares 84 = .ok (.iload_n 3, 1) := by decide +kernel
theorem dX6_mares_85 : decode cX6_mares 85 = .ok (.i2l, 1) := by decide +kernel
theorem dX6_mares_86 : decode cX6_mares 86 = .ok (.lmul, 1) := by decide +kernel
theorem dX6_mares_87 : decode cX6_mares 87 = .ok (.lstore 8, 2) := by decide +kernel
theorem dX6_mares_89 : decode cX6_mares 89 = .ok (.iinc 10 1, 3) := by decide +kernel
theorem dX6_mares_92 : decode cX6_mares 92 = .ok (.goto (-16), 3) := by decide +kernel
theorem dX6_mares_95 : decode cX6_mares 95 = .ok (.aload_n 0, 1) := by decide +kernel
theorem dX6_mares_96 : decode cX6_mares 96 = .ok (.invokevirtual 190, 3) := by decide +kernel
theorem dX6_mares_99 : decode cX6_mares 99 = .ok (.iconst 0, 1) := by decide +kernel
theorem dX6_mares_100 : decode cX6_mares 100 = .ok (.istore 10, 2) := by decide +kernel
theorem dX6_mares_102 : decode cX6_mares 102 = .ok (.iload 10, 2) := by decide +kernel
theorem dX6_mares_104 : decode cX6_mares 104 = .ok (.iconst 1, 1) := by decide +kernel
theorem dX6_mares_105 : decode cX6_mares 105 = .ok (.iload_n 2, 1) := by decide +kernel
theorem dX6_mares_106 : decode cX6_mares 106 = .ok (.ishl, 1) := by decide +kernel
theorem dX6_mares_107 : decode cX6_mares 107 = .ok (.if_icmp .ge 91, 3) := by decide +kernel
theorem dX6_mares_110 : decode cX6_mares 110 = .ok (.lconst 1, 1) := by decide +kernel
theorem dX6_mares_111 : decode cX6_mares 111 = .ok (.lstore 11, 2) := by decide +kernel
theorem dX6_mares_113 : decode cX6_mares 113 = .ok (.iconst 0, 1) := by decide +kernel
theorem dX6_mares_114 : decode cX6_mares 114 = .ok (.istore 13, 2) := by decide +kernel
theorem dX6_mares_116 : decode cX6_mares 116 = .ok (.iload 13, 2) := by decide +kernel
theorem dX6_mares_118 : decode cX6_mares 118 = .ok (.iload_n 2, 1) := by decide +kernel
theorem dX6_mares_119 : decode cX6_mares 119 = .ok (.if_icmp .ge 47, 3) := by decide +kernel
theorem dX6_mares_122 : decode cX6_mares 122 = .ok (.lload 11, 2) := by decide +kernel
theorem dX6_mares_124 : decode cX6_mares 124 = .ok (.iload 10, 2) := by decide +kernel
theorem dX6_mares_126 : decode cX6_mares 126 = .ok (.iload 13, 2) := by decide +kernel
theorem dX6_mares_128 : decode cX6_mares 128 = .ok (.invokestatic 105, 3) := by decide +kernel
theorem dX6_mares_131 : decode cX6_mares 131 = .ok (.ifCond .eq 7, 3) := by decide +kernel
theorem dX6_mares_134 : decode cX6_mares 134 = .ok (.lconst 1, 1) := by decide +kernel
theorem dX6_mares_135 : decode cX6_mares 135 = .ok (.goto 7, 3) := by decide +kernel
theorem dX6_mares_138 : decode cX6_mares 138 = .ok (.iload_n 3, 1) := by decide +kernel
theorem dX6_mares_139 : decode cX6_mares 139 = .ok (.iconst 1, 1) := by decide +kernel
theorem dX6_mares_140 : decode cX6_mares 140 = .ok (.isub, 1) := by decide +kernel
theorem dX6_mares_141 : decode cX6_mares 141 = .ok (.i2l, 1) := by decide +kernel
theorem dX6_mares_142 : decode cX6_mares 142 = .ok (.lmul, 1) := by decide +kernel
theorem dX6_mares_143 : decode cX6_mares 143 = .ok (.lstore 11, 2) := by decide +kernel
theorem dX6_mares_145 : decode cX6_mares 145 = .ok (.aload_n 0, 1) := by decide +kernel
theorem dX6_mares_146 : decode cX6_mares 146 = .ok (.iload 10, 2) := by decide +kernel
theorem dX6_mares_148 : decode cX6_mares 148 = .ok (.iload 13, 2) := by decide +kernel
theorem dX6_mares_150 : decode cX6_mares 150 = .ok (.invokestatic 105, 3) := by decide +kernel
theorem dX6_mares_153 : decode cX6_mares 153 = .ok (.putfield 98, 3) := by decide +kernel
theorem dX6_mares_156 : decode cX6_mares 156 = .ok (.aload_n 0, 1) := by decide +kernel
theorem dX6_mares_157 : decode cX6_mares 157 = .ok (.invokevirtual 132, 3) := by decide +kernel
theorem dX6_mares_160 : decode cX6_mares 160 = .ok (.iinc 13 1, 3) := by decide +kernel
theorem dX6_mares_163 : decode cX6_mares 163 = .ok (.goto (-47), 3) := by decide +kernel
theorem dX6_mares_166 : decode cX6_mares 166 = .ok (.lload 6, 2) := by decide +kernel
theorem dX6_mares_168 : decode cX6_mares 168 = .ok (.aload_n 0, 1) := by decide +kernel
theorem dX6_mares_169 : decode cX6_mares 169 = .ok (.getfield 25, 3) := by decide +kernel
theorem dX6_mares_172 : decode cX6_mares 172 = .ok (.iload_n 1, 1) := by decide +kernel
theorem dX6_mares_173 : decode cX6_mares 173 = .ok (.iaload, 1) := by decide +kernel
theorem dX6_mares_174 : decode cX6_mares 174 = .ok (.iload 4, 2) := by decide +kernel
theorem dX6_mares_176 : decode cX6_mares 176 = .ok (.if_icmp .lt 8, 3) := by decide +kernel
theorem dX6_mares_179 : decode cX6_mares 179 = .ok (.lload 11, 2) := by decide +kernel
theorem dX6_mares_181 : decode cX6_mares 181 = .ok (.goto 4, 3) := by decide +kernel
theorem dX6_mares_184 : decode cX6_mares 184 = .ok (.lconst 0, 1) := by decide +kernel
theorem dX6_mares_185 : decode cX6_mares 185 = .ok (.ladd, 1) := by decide +kernel
theorem dX6_mares_186 : decode cX6_mares 186 = .ok (.lstore 6, 2) := by decide +kernel
theorem dX6_mares_188 : decode cX6_mares 188 = .ok (.aload_n 0, 1) := by decide +kernel
theorem dX6_mares_189 : decode cX6_mares 189 = .ok (.invokevirtual 196, 3) := by decide +kernel
theorem dX6_mares_192 : decode cX6_mares 192 = .ok (.iinc 10 1, 3) := by decide +kernel
theorem dX6_mares_195 : decode cX6_mares 195 = .ok (.goto (-93), 3) := by decide +kernel
theorem dX6_mares_198 : decode cX6_mares 198 = .ok (.lload 6, 2) := by decide +kernel
theorem dX6_mares_200 : decode cX6_mares 200 = .ok (.lload 8, 2) := by decide +kernel
theorem dX6_mares_202 : decode cX6_mares 202 = .ok (.iload 5, 2) := by decide +kernel
theorem dX6_mares_204 : decode cX6_mares 204 = .ok (.invokestatic 301, 3) := by decide +kernel
theorem dX6_mares_207 : decode cX6_mares 207 = .ok (.lreturn, 1) := by decide +kernel
theorem dX6_mean_0 : decode cX6_mean 0 = .ok (.aload_n 0, 1) := by decide +kernel
theorem dX6_mean_1 : decode cX6_mean 1 = .ok (.iconst 0, 1) := by decide +kernel
theorem dX6_mean_2 : decode cX6_mean 2 = .ok (.putfield 75, 3) := by decide +kernel
theorem dX6_mean_5 : decode cX6_mean 5 = .ok (.iload_n 1, 1) := by decide +kernel
theorem dX6_mean_6 : decode cX6_mean 6 = .ok (.i2l, 1) := by decide +kernel
theorem dX6_mean_7 : decode cX6_mean 7 = .ok (.lconst 0, 1) := by decide +kernel
theorem dX6_mean_8 : decode cX6_mean 8 = .ok (.lconst 1, 1) := by decide +kernel
theorem dX6_mean_9 : decode cX6_mean 9 = .ok (.invokestatic 81, 3) := by decide +kernel
theorem dX6_mean_12 : decode cX6_mean 12 = .ok (.ifCond .ne 7, 3) := by decide +kernel
theorem dX6_mean_15 : decode cX6_mean 15 = .ok (.ldc2_w 299, 3) := by decide +kernel
theorem dX6_mean_18 : decode cX6_mean 18 = .ok (.lreturn, 1) := by decide +kernel
theorem dX6_mean_19 : decode cX6_mean 19 = .ok (.lconst 0, 1) := by decide +kernel
theorem dX6_mean_20 : decode cX6_mean 20 = .ok (.lstore_n 2, 1) := by decide +kernel
theorem dX6_mean_21 : decode cX6_mean 21 = .ok (.iconst 0, 1) := by decide +kernel
theorem dX6_mean_22 : decode cX6_mean 22 = .ok (.istore 4, 2) := by decide +kernel
theorem dX6_mean_24 : decode cX6_mean 24 = .ok (.iload 4, 2) := by decide +kernel
theorem dX6_mean_26 : decode cX6_mean 26 = .ok (.aload_n 0, 1) := by decide +kernel
theorem dX6_mean_27 : decode cX6_mean 27 = .ok (.getfield 85, 3) := by decide +kernel
theorem dX6_mean_30 : decode cX6_mean 30 = .ok (.if_icmp .ge 36, 3) := by decide +kernel
theorem dX6_mean_33 : decode cX6_mean 33 = .ok (.lload_n 2, 1) := by decide +kernel
theorem dX6_mean_34 : decode cX6_mean 34 = .ok (.aload_n 0, 1) := by decide +kernel
theorem dX6_mean_35 : decode cX6_mean 35 = .ok (.getfield 125, 3) := by decide +kernel
theorem dX6_mean_38 : decode cX6_mean 38 = .ok (.iload 4, 2) := by decide +kernel
theorem dX6_mean_40 : decode cX6_mean 40 = .ok (.invokestatic 105, 3) := by decide +kernel
theorem dX6_mean_43 : decode cX6_mean 43 = .ok (.ifCond .eq 14, 3) := by decide +kernel
theorem dX6_mean_46 : decode cX6_mean 46 = .ok (.aload_n 0, 1) := by decide +kernel
theorem dX6_mean_47 : decode cX6_mean 47 = .ok (.getfield 25, 3) := by decide +kernel
theorem dX6_mean_50 : decode cX6_mean 50 = .ok (.iload 4, 2) := by decide +kernel
theorem dX6_mean_52 : decode cX6_mean 52 = .ok (.iaload, 1) := by decide +kernel
theorem dX6_mean_53 : decode cX6_mean 53 = .ok (.i2l, 1) := by decide +kernel
theorem dX6_mean_54 : decode cX6_mean 54 = .ok (.goto 4, 3) := by decide +kernel
theorem dX6_mean_57 : decode cX6_mean 57 = .ok (.lconst 0, 1) := by decide +kernel
theorem dX6_mean_58 : decode cX6_mean 58 = .ok (.ladd, 1) := by decide +kernel
theorem dX6_mean_59 : decode cX6_mean 59 = .ok (.lstore_n 2, 1) := by decide +kernel
theorem dX6_mean_60 : decode cX6_mean 60 = .ok (.iinc 4 1, 3) := by decide +kernel
theorem dX6_mean_63 : decode cX6_mean 63 = .ok (.goto (-39), 3) := by decide +kernel
theorem dX6_mean_66 : decode cX6_mean 66 = .ok (.lload_n 2, 1) := by decide +kernel
theorem dX6_mean_67 : decode cX6_mean 67 = .ok (.aload_n 0, 1) := by decide +kernel
theorem dX6_mean_68 : decode cX6_mean 68 = .ok (.getfield 125, 3) := by decide +kernel
theorem dX6_mean_71 : decode cX6_mean 71 = .ok (.invokestatic 228, 3) := by decide +kernel
theorem dX6_mean_74 : decode cX6_mean 74 = .ok (.i2l, 1) := by decide +kernel
theorem dX6_mean_75 : decode cX6_mean 75 = .ok (.iload_n 1, 1) := by decide +kernel
theorem dX6_mean_76 : decode cX6_mean 76 = .ok (.invokestatic 301, 3) := by decide +kernel
theorem dX6_mean_79 : decode cX6_mean 79 = .ok (.lreturn, 1) := by decide +kernel
theorem dX6_forged_0 : decode cX6_forged 0 = .ok (.aload_n 0, 1) := by decide +kernel
theorem dX6_forged_1 : decode cX6_forged 1 = .ok (.iconst 0, 1) := by decide +kernel
theorem dX6_forged_2 : decode cX6_forged 2 = .ok (.putfield 75, 3) := by decide +kernel
theorem dX6_forged_5 : decode cX6_forged 5 = .ok (.aload_n 0, 1) := by decide +kernel
theorem dX6_forged_6 : decode cX6_forged 6 = .ok (.iload_n 1, 1) := by decide +kernel
theorem dX6_forged_7 : decode cX6_forged 7 = .ok (.invokevirtual 184, 3) := by decide +kernel
theorem dX6_forged_10 : decode cX6_forged 10 = .ok (.istore_n 2, 1) := by decide +kernel
theorem dX6_forged_11 : decode cX6_forged 11 = .ok (.iload_n 2, 1) := by decide +kernel
theorem dX6_forged_12 : decode cX6_forged 12 = .ok (.ifCond .ge 5, 3) := by decide +kernel
theorem dX6_forged_15 : decode cX6_forged 15 = .ok (.iload_n 2, 1) := by decide +kernel
theorem dX6_forged_16 : decode cX6_forged 16 = .ok (.ireturn, 1) := by decide +kernel
theorem dX6_forged_17 : decode cX6_forged 17 = .ok (.iconst 0, 1) := by decide +kernel
theorem dX6_forged_18 : decode cX6_forged 18 = .ok (.istore_n 3, 1) := by decide +kernel
theorem dX6_forged_19 : decode cX6_forged 19 = .ok (.iload_n 3, 1) := by decide +kernel
theorem dX6_forged_20 : decode cX6_forged 20 = .ok (.aload_n 0, 1) := by decide +kernel
theorem dX6_forged_21 : decode cX6_forged 21 = .ok (.getfield 40, 3) := by decide +kernel
theorem dX6_forged_24 : decode cX6_forged 24 = .ok (.iload_n 1, 1) := by decide +kernel
theorem dX6_forged_25 : decode cX6_forged 25 = .ok (.iaload, 1) := by decide +kernel
theorem dX6_forged_26 : decode cX6_forged 26 = .ok (.if_icmp .ge 39, 3) := by decide +kernel
theorem dX6_forged_29 : decode cX6_forged 29 = .ok (.iload_n 3, 1) := by decide +kernel
theorem dX6_forged_30 : decode cX6_forged 30 = .ok (.bipush 10, 2) := by decide +kernel
theorem dX6_forged_32 : decode cX6_forged 32 = .ok (.if_icmp .ge 25, 3) := by decide +kernel
theorem dX6_forged_35 : decode cX6_forged 35 = .ok (.aload_n 0, 1) := by decide +kernel
theorem dX6_forged_36 : decode cX6_forged 36 = .ok (.getfield 43, 3) := by decide +kernel
theorem dX6_forged_39 : decode cX6_forged 39 = .ok (.bipush 100, 2) := by decide +kernel
theorem dX6_forged_41 : decode cX6_forged 41 = .ok (.iload_n 1, 1) := by decide +kernel
theorem dX6_forged_42 : decode cX6_forged 42 = .ok (.imul, 1) := by decide +kernel
theorem dX6_forged_43 : decode cX6_forged 43 = .ok (.iload_n 3, 1) := by decide +kernel
theorem dX6_forged_44 : decode cX6_forged 44 = .ok (.iadd, 1) := by decide +kernel
theorem dX6_forged_45 : decode cX6_forged 45 = .ok (.laload, 1) := by decide +kernel
theorem dX6_forged_46 : decode cX6_forged 46 = .ok (.aload_n 0, 1) := by decide +kernel
theorem dX6_forged_47 : decode cX6_forged 47 = .ok (.getfield 7, 3) := by decide +kernel
theorem dX6_forged_50 : decode cX6_forged 50 = .ok (.iload_n 3, 1) := by decide +kernel
theorem dX6_forged_51 : decode cX6_forged 51 = .ok (.iaload, 1) := by decide +kernel
theorem dX6_forged_52 : decode cX6_forged 52 = .ok (.i2l, 1) := by decide +kernel
theorem dX6_forged_53 : decode cX6_forged 53 = .ok (.lcmp, 1) := by decide +kernel
theorem dX6_forged_54 : decode cX6_forged 54 = .ok (.ifCond .eq 5, 3) := by decide +kernel
theorem dX6_forged_57 : decode cX6_forged 57 = .ok (.iload_n 3, 1) := by decide +kernel
theorem dX6_forged_58 : decode cX6_forged 58 = .ok (.ireturn, 1) := by decide +kernel
theorem dX6_forged_59 : decode cX6_forged 59 = .ok (.iinc 3 1, 3) := by decide +kernel
theorem dX6_forged_62 : decode cX6_forged 62 = .ok (.goto (-43), 3) := by decide +kernel
theorem dX6_forged_65 : decode cX6_forged 65 = .ok (.bipush (-4), 2) := by decide +kernel
theorem dX6_forged_67 : decode cX6_forged 67 = .ok (.ireturn, 1) := by decide +kernel
theorem dX6_judge_0 : decode cX6_judge 0 = .ok (.aload_n 0, 1) := by decide +kernel
theorem dX6_judge_1 : decode cX6_judge 1 = .ok (.iconst 0, 1) := by decide +kernel
theorem dX6_judge_2 : decode cX6_judge 2 = .ok (.putfield 75, 3) := by decide +kernel
theorem dX6_judge_5 : decode cX6_judge 5 = .ok (.aload_n 0, 1) := by decide +kernel
theorem dX6_judge_6 : decode cX6_judge 6 = .ok (.iload_n 1, 1) := by decide +kernel
theorem dX6_judge_7 : decode cX6_judge 7 = .ok (.invokevirtual 184, 3) := by decide +kernel
theorem dX6_judge_10 : decode cX6_judge 10 = .ok (.istore_n 2, 1) := by decide +kernel
theorem dX6_judge_11 : decode cX6_judge 11 = .ok (.iload_n 2, 1) := by decide +kernel
theorem dX6_judge_12 : decode cX6_judge 12 = .ok (.ifCond .ge 5, 3) := by decide +kernel
theorem dX6_judge_15 : decode cX6_judge 15 = .ok (.iload_n 2, 1) := by decide +kernel
theorem dX6_judge_16 : decode cX6_judge 16 = .ok (.ireturn, 1) := by decide +kernel
theorem dX6_judge_17 : decode cX6_judge 17 = .ok (.bipush (-4), 2) := by decide +kernel
theorem dX6_judge_19 : decode cX6_judge 19 = .ok (.istore_n 3, 1) := by decide +kernel
theorem dX6_judge_20 : decode cX6_judge 20 = .ok (.aload_n 0, 1) := by decide +kernel
theorem dX6_judge_21 : decode cX6_judge 21 = .ok (.invokevirtual 190, 3) := by decide +kernel
theorem dX6_judge_24 : decode cX6_judge 24 = .ok (.iconst 0, 1) := by decide +kernel
theorem dX6_judge_25 : decode cX6_judge 25 = .ok (.istore 4, 2) := by decide +kernel
theorem dX6_judge_27 : decode cX6_judge 27 = .ok (.iload 4, 2) := by decide +kernel
theorem dX6_judge_29 : decode cX6_judge 29 = .ok (.aload_n 0, 1) := by decide +kernel
theorem dX6_judge_30 : decode cX6_judge 30 = .ok (.getfield 40, 3) := by decide +kernel
theorem dX6_judge_33 : decode cX6_judge 33 = .ok (.iload_n 1, 1) := by decide +kernel
theorem dX6_judge_34 : decode cX6_judge 34 = .ok (.iaload, 1) := by decide +kernel
theorem dX6_judge_35 : decode cX6_judge 35 = .ok (.if_icmp .ge 56, 3) := by decide +kernel
theorem dX6_judge_38 : decode cX6_judge 38 = .ok (.iload_n 3, 1) := by decide +kernel
theorem dX6_judge_39 : decode cX6_judge 39 = .ok (.ifCond .ge 52, 3) := by decide +kernel
theorem dX6_judge_42 : decode cX6_judge 42 = .ok (.aload_n 0, 1) := by decide +kernel
theorem dX6_judge_43 : decode cX6_judge 43 = .ok (.iload_n 1, 1) := by decide +kernel
theorem dX6_judge_44 : decode cX6_judge 44 = .ok (.iload 4, 2) := by decide +kernel
theorem dX6_judge_46 : decode cX6_judge 46 = .ok (.invokevirtual 284, 3) := by decide +kernel
theorem dX6_judge_49 : decode cX6_judge 49 = .ok (.ifCond .ne 29, 3) := by decide +kernel
theorem dX6_judge_52 : decode cX6_judge 52 = .ok (.aload_n 0, 1) := by decide +kernel
theorem dX6_judge_53 : decode cX6_judge 53 = .ok (.getfield 43, 3) := by decide +kernel
theorem dX6_judge_56 : decode cX6_judge 56 = .ok (.bipush 100, 2) := by decide +kernel
theorem dX6_judge_58 : decode cX6_judge 58 = .ok (.iload_n 1, 1) := by decide +kernel
theorem dX6_judge_59 : decode cX6_judge 59 = .ok (.imul, 1) := by decide +kernel
theorem dX6_judge_60 : decode cX6_judge 60 = .ok (.iload 4, 2) := by decide +kernel
theorem dX6_judge_62 : decode cX6_judge 62 = .ok (.iadd, 1) := by decide +kernel
theorem dX6_judge_63 : decode cX6_judge 63 = .ok (.laload, 1) := by decide +kernel
theorem dX6_judge_64 : decode cX6_judge 64 = .ok (.aload_n 0, 1) := by decide +kernel
theorem dX6_judge_65 : decode cX6_judge 65 = .ok (.invokevirtual 264, 3) := by decide +kernel
theorem dX6_judge_68 : decode cX6_judge 68 = .ok (.i2l, 1) := by decide +kernel
theorem dX6_judge_69 : decode cX6_judge 69 = .ok (.lcmp, 1) := by decide +kernel
theorem dX6_judge_70 : decode cX6_judge 70 = .ok (.ifCond .eq 8, 3) := by decide +kernel
theorem dX6_judge_73 : decode cX6_judge 73 = .ok (.iload 4, 2) := by decide +kernel
theorem dX6_judge_75 : decode cX6_judge 75 = .ok (.goto 5, 3) := by decide +kernel
theorem dX6_judge_78 : decode cX6_judge 78 = .ok (.bipush (-4), 2) := by decide +kernel
theorem dX6_judge_80 : decode cX6_judge 80 = .ok (.istore_n 3, 1) := by decide +kernel
theorem dX6_judge_81 : decode cX6_judge 81 = .ok (.aload_n 0, 1) := by decide +kernel
theorem dX6_judge_82 : decode cX6_judge 82 = .ok (.invokevirtual 132, 3) := by decide +kernel
theorem dX6_judge_85 : decode cX6_judge 85 = .ok (.iinc 4 1, 3) := by decide +kernel
theorem dX6_judge_88 : decode cX6_judge 88 = .ok (.goto (-61), 3) := by decide +kernel
theorem dX6_judge_91 : decode cX6_judge 91 = .ok (.aload_n 0, 1) := by decide +kernel
theorem dX6_judge_92 : decode cX6_judge 92 = .ok (.invokevirtual 196, 3) := by decide +kernel
theorem dX6_judge_95 : decode cX6_judge 95 = .ok (.iload_n 3, 1) := by decide +kernel
theorem dX6_judge_96 : decode cX6_judge 96 = .ok (.ireturn, 1) := by decide +kernel
theorem dX6_drawBelow_0 : decode cX6_drawBelow 0 = .ok (.aload_n 0, 1) := by decide +kernel
theorem dX6_drawBelow_1 : decode cX6_drawBelow 1 = .ok (.aload_n 0, 1) := by decide +kernel
theorem dX6_drawBelow_2 : decode cX6_drawBelow 2 = .ok (.getfield 305, 3) := by decide +kernel
theorem dX6_drawBelow_5 : decode cX6_drawBelow 5 = .ok (.ldc_w 308, 3) := by decide +kernel
theorem dX6_drawBelow_8 : decode cX6_drawBelow 8 = .ok (.imul, 1) := by decide +kernel
theorem dX6_drawBelow_9 : decode cX6_drawBelow 9 = .ok (.sipush 12345, 3) := by decide +kernel
theorem dX6_drawBelow_12 : decode cX6_drawBelow 12 = .ok (.iadd, 1) := by decide +kernel
theorem dX6_drawBelow_13 : decode cX6_drawBelow 13 = .ok (.putfield 305, 3) := by decide +kernel
theorem dX6_drawBelow_16 : decode cX6_drawBelow 16 = .ok (.aload_n 0, 1) := by decide +kernel
theorem dX6_drawBelow_17 : decode cX6_drawBelow 17 = .ok (.getfield 305, 3) := by decide +kernel
theorem dX6_drawBelow_20 : decode cX6_drawBelow 20 = .ok (.ldc_w 309, 3) := by decide +kernel
theorem dX6_drawBelow_23 : decode cX6_drawBelow 23 = .ok (.iand, 1) := by decide +kernel
theorem dX6_drawBelow_24 : decode cX6_drawBelow 24 = .ok (.ldc_w 310, 3) := by decide +kernel
theorem dX6_drawBelow_27 : decode cX6_drawBelow 27 = .ok (.idiv, 1) := by decide +kernel
theorem dX6_drawBelow_28 : decode cX6_drawBelow 28 = .ok (.iload_n 1, 1) := by decide +kernel
theorem dX6_drawBelow_29 : decode cX6_drawBelow 29 = .ok (.irem, 1) := by decide +kernel
theorem dX6_drawBelow_30 : decode cX6_drawBelow 30 = .ok (.ireturn, 1) := by decide +kernel
theorem dX6_years_0 : decode cX6_years 0 = .ok (.aload_n 0, 1) := by decide +kernel
theorem dX6_years_1 : decode cX6_years 1 = .ok (.iconst 0, 1) := by decide +kernel
theorem dX6_years_2 : decode cX6_years 2 = .ok (.putfield 75, 3) := by decide +kernel
theorem dX6_years_5 : decode cX6_years 5 = .ok (.iload_n 1, 1) := by decide +kernel
theorem dX6_years_6 : decode cX6_years 6 = .ok (.i2l, 1) := by decide +kernel
theorem dX6_years_7 : decode cX6_years 7 = .ok (.lconst 1, 1) := by decide +kernel
theorem dX6_years_8 : decode cX6_years 8 = .ok (.ldc2_w 244, 3) := by decide +kernel
theorem dX6_years_11 : decode cX6_years 11 = .ok (.invokestatic 81, 3) := by decide +kernel
theorem dX6_years_14 : decode cX6_years 14 = .ok (.ifCond .eq 13, 3) := by decide +kernel
theorem dX6_years_17 : decode cX6_years 17 = .ok (.iload_n 3, 1) := by decide +kernel
theorem dX6_years_18 : decode cX6_years 18 = .ok (.i2l, 1) := by decide +kernel
theorem dX6_years_19 : decode cX6_years 19 = .ok (.lconst 0, 1) := by decide +kernel
theorem dX6_years_20 : decode cX6_years 20 = .ok (.lconst 1, 1) := by decide +kernel
theorem dX6_years_21 : decode cX6_years 21 = .ok (.invokestatic 81, 3) := by decide +kernel
theorem dX6_years_24 : decode cX6_years 24 = .ok (.ifCond .ne 5, 3) := by decide +kernel
theorem dX6_years_27 : decode cX6_years 27 = .ok (.iconst (-1), 1) := by decide +kernel
theorem dX6_years_28 : decode cX6_years 28 = .ok (.ireturn, 1) := by decide +kernel
theorem dX6_years_29 : decode cX6_years 29 = .ok (.aload_n 0, 1) := by decide +kernel
theorem dX6_years_30 : decode cX6_years 30 = .ok (.iload_n 2, 1) := by decide +kernel
theorem dX6_years_31 : decode cX6_years 31 = .ok (.putfield 305, 3) := by decide +kernel
theorem dX6_years_34 : decode cX6_years 34 = .ok (.iconst 0, 1) := by decide +kernel
theorem dX6_years_35 : decode cX6_years 35 = .ok (.istore 4, 2) := by decide +kernel
theorem dX6_years_37 : decode cX6_years 37 = .ok (.aload_n 0, 1) := by decide +kernel
theorem dX6_years_38 : decode cX6_years 38 = .ok (.getfield 116, 3) := by decide +kernel
theorem dX6_years_41 : decode cX6_years 41 = .ok (.istore 5, 2) := by decide +kernel
theorem dX6_years_43 : decode cX6_years 43 = .ok (.aload_n 0, 1) := by decide +kernel
theorem dX6_years_44 : decode cX6_years 44 = .ok (.invokevirtual 190, 3) := by decide +kernel
theorem dX6_years_47 : decode cX6_years 47 = .ok (.iconst 0, 1) := by decide +kernel
theorem dX6_years_48 : decode cX6_years 48 = .ok (.istore 6, 2) := by decide +kernel
theorem dX6_years_50 : decode cX6_years 50 = .ok (.iload 6, 2) := by decide +kernel
theorem dX6_years_52 : decode cX6_years 52 = .ok (.iload_n 1, 1) := by decide +kernel
theorem dX6_years_53 : decode cX6_years 53 = .ok (.if_icmp .ge 105, 3) := by decide +kernel
theorem dX6_years_56 : decode cX6_years 56 = .ok (.iconst 0, 1) := by decide +kernel
theorem dX6_years_57 : decode cX6_years 57 = .ok (.istore 7, 2) := by decide +kernel
theorem dX6_years_59 : decode cX6_years 59 = .ok (.iload 7, 2) := by decide +kernel
theorem dX6_years_61 : decode cX6_years 61 = .ok (.aload_n 0, 1) := by decide +kernel
theorem dX6_years_62 : decode cX6_years 62 = .ok (.getfield 85, 3) := by decide +kernel
theorem dX6_years_65 : decode cX6_years 65 = .ok (.if_icmp .ge 22, 3) := by decide +kernel
theorem dX6_years_68 : decode cX6_years 68 = .ok (.aload_n 0, 1) := by decide +kernel
theorem dX6_years_69 : decode cX6_years 69 = .ok (.getfield 19, 3) := by decide +kernel
theorem dX6_years_72 : decode cX6_years 72 = .ok (.iload 7, 2) := by decide +kernel
theorem dX6_years_74 : decode cX6_years 74 = .ok (.aload_n 0, 1) := by decide +kernel
theorem dX6_years_75 : decode cX6_years 75 = .ok (.bipush 10, 2) := by decide +kernel
theorem dX6_years_77 : decode cX6_years 77 = .ok (.invokevirtual 311, 3) := by decide +kernel
theorem dX6_years_80 : decode cX6_years 80 = .ok (.iastore, 1) := by decide +kernel
theorem dX6_years_81 : decode cX6_years 81 = .ok (.iinc 7 1, 3) := by decide +kernel
theorem dX6_years_84 : decode cX6_years 84 = .ok (.goto (-25), 3) := by decide +kernel
theorem dX6_years_87 : decode cX6_years 87 = .ok (.iconst 0, 1) := by decide +kernel
theorem dX6_years_88 : decode cX6_years 88 = .ok (.istore 7, 2) := by decide +kernel
theorem dX6_years_90 : decode cX6_years 90 = .ok (.iload 7, 2) := by decide +kernel
theorem dX6_years_92 : decode cX6_years 92 = .ok (.bipush 10, 2) := by decide +kernel
theorem dX6_years_94 : decode cX6_years 94 = .ok (.if_icmp .ge 22, 3) := by decide +kernel
theorem dX6_years_97 : decode cX6_years 97 = .ok (.aload_n 0, 1) := by decide +kernel
theorem dX6_years_98 : decode cX6_years 98 = .ok (.getfield 7, 3) := by decide +kernel
theorem dX6_years_101 : decode cX6_years 101 = .ok (.iload 7, 2) := by decide +kernel
theorem dX6_years_103 : decode cX6_years 103 = .ok (.aload_n 0, 1) := by decide +kernel
theorem dX6_years_104 : decode cX6_years 104 = .ok (.bipush 6, 2) := by decide +kernel
theorem dX6_years_106 : decode cX6_years 106 = .ok (.invokevirtual 311, 3) := by decide +kernel
theorem dX6_years_109 : decode cX6_years 109 = .ok (.iastore, 1) := by decide +kernel
theorem dX6_years_110 : decode cX6_years 110 = .ok (.iinc 7 1, 3) := by decide +kernel
theorem dX6_years_113 : decode cX6_years 113 = .ok (.goto (-23), 3) := by decide +kernel
theorem dX6_years_116 : decode cX6_years 116 = .ok (.aload_n 0, 1) := by decide +kernel
theorem dX6_years_117 : decode cX6_years 117 = .ok (.bipush 12, 2) := by decide +kernel
theorem dX6_years_119 : decode cX6_years 119 = .ok (.invokevirtual 168, 3) := by decide +kernel
theorem dX6_years_122 : decode cX6_years 122 = .ok (.iload 4, 2) := by decide +kernel
theorem dX6_years_124 : decode cX6_years 124 = .ok (.iload_n 3, 1) := by decide +kernel
theorem dX6_years_125 : decode cX6_years 125 = .ok (.ifCond .ne 13, 3) := by decide +kernel
theorem dX6_years_128 : decode cX6_years 128 = .ok (.aload_n 0, 1) := by decide +kernel
theorem dX6_years_129 : decode cX6_years 129 = .ok (.getfield 116, 3) := by decide +kernel
theorem dX6_years_132 : decode cX6_years 132 = .ok (.iload 5, 2) := by decide +kernel
theorem dX6_years_134 : decode cX6_years 134 = .ok (.isub, 1) := by decide +kernel
theorem dX6_years_135 : decode cX6_years 135 = .ok (.goto 10, 3) := by decide +kernel
theorem dX6_years_138 : decode cX6_years 138 = .ok (.aload_n 0, 1) := by decide +kernel
theorem dX6_years_139 : decode cX6_years 139 = .ok (.getfield 125, 3) := by decide +kernel
theorem dX6_years_142 : decode cX6_years 142 = .ok (.invokestatic 228, 3) := by decide +kernel
theorem dX6_years_145 : decode cX6_years 145 = .ok (.iadd, 1) := by decide +kernel
theorem dX6_years_146 : decode cX6_years 146 = .ok (.istore 4, 2) := by decide +kernel
theorem dX6_years_148 : decode cX6_years 148 = .ok (.aload_n 0, 1) := by decide +kernel
theorem dX6_years_149 : decode cX6_years 149 = .ok (.invokevirtual 196, 3) := by decide +kernel
theorem dX6_years_152 : decode cX6_years 152 = .ok (.iinc 6 1, 3) := by decide +kernel
theorem dX6_years_155 : decode cX6_years 155 = .ok (.goto (-105), 3) := by decide +kernel
theorem dX6_years_158 : decode cX6_years 158 = .ok (.iload 4, 2) := by decide +kernel
theorem dX6_years_160 : decode cX6_years 160 = .ok (.ireturn, 1) := by decide +kernel
theorem dX6_count_0 : decode cX6_count 0 = .ok (.aload_n 0, 1) := by decide +kernel
theorem dX6_count_1 : decode cX6_count 1 = .ok (.iconst 0, 1) := by decide +kernel
theorem dX6_count_2 : decode cX6_count 2 = .ok (.putfield 75, 3) := by decide +kernel
theorem dX6_count_5 : decode cX6_count 5 = .ok (.iload_n 1, 1) := by decide +kernel
theorem dX6_count_6 : decode cX6_count 6 = .ok (.tableswitch 68 0 5 #[38, 43, 48, 53, 58, 63], 38) := by decide +kernel
theorem dX6_count_44 : decode cX6_count 44 = .ok (.aload_n 0, 1) := by decide +kernel
theorem dX6_count_45 : decode cX6_count 45 = .ok (.getfield 85, 3) := by decide +kernel
theorem dX6_count_48 : decode cX6_count 48 = .ok (.ireturn, 1) := by decide +kernel
theorem dX6_count_49 : decode cX6_count 49 = .ok (.aload_n 0, 1) := by decide +kernel
theorem dX6_count_50 : decode cX6_count 50 = .ok (.getfield 92, 3) := by decide +kernel
theorem dX6_count_53 : decode cX6_count 53 = .ok (.ireturn, 1) := by decide +kernel
theorem dX6_count_54 : decode cX6_count 54 = .ok (.aload_n 0, 1) := by decide +kernel
theorem dX6_count_55 : decode cX6_count 55 = .ok (.getfield 116, 3) := by decide +kernel
theorem dX6_count_58 : decode cX6_count 58 = .ok (.ireturn, 1) := by decide +kernel
theorem dX6_count_59 : decode cX6_count 59 = .ok (.aload_n 0, 1) := by decide +kernel
theorem dX6_count_60 : decode cX6_count 60 = .ok (.getfield 122, 3) := by decide +kernel
theorem dX6_count_63 : decode cX6_count 63 = .ok (.ireturn, 1) := by decide +kernel
theorem dX6_count_64 : decode cX6_count 64 = .ok (.aload_n 0, 1) := by decide +kernel
theorem dX6_count_65 : decode cX6_count 65 = .ok (.getfield 125, 3) := by decide +kernel
theorem dX6_count_68 : decode cX6_count 68 = .ok (.ireturn, 1) := by decide +kernel
theorem dX6_count_69 : decode cX6_count 69 = .ok (.aload_n 0, 1) := by decide +kernel
theorem dX6_count_70 : decode cX6_count 70 = .ok (.invokevirtual 264, 3) := by decide +kernel
theorem dX6_count_73 : decode cX6_count 73 = .ok (.ireturn, 1) := by decide +kernel
theorem dX6_count_74 : decode cX6_count 74 = .ok (.iconst (-1), 1) := by decide +kernel
theorem dX6_count_75 : decode cX6_count 75 = .ok (.ireturn, 1) := by decide +kernel
theorem dX6_wrongKept_0 : decode cX6_wrongKept 0 = .ok (.iload_n 1, 1) := by decide +kernel
theorem dX6_wrongKept_1 : decode cX6_wrongKept 1 = .ok (.i2l, 1) := by decide +kernel
theorem dX6_wrongKept_2 : decode cX6_wrongKept 2 = .ok (.lconst 0, 1) := by decide +kernel
theorem dX6_wrongKept_3 : decode cX6_wrongKept 3 = .ok (.ldc2_w 218, 3) := by decide +kernel
theorem dX6_wrongKept_6 : decode cX6_wrongKept 6 = .ok (.invokestatic 81, 3) := by decide +kernel
theorem dX6_wrongKept_9 : decode cX6_wrongKept 9 = .ok (.ifCond .ne 7, 3) := by decide +kernel
theorem dX6_wrongKept_12 : decode cX6_wrongKept 12 = .ok (.iconst (-1), 1) := by decide +kernel
theorem dX6_wrongKept_13 : decode cX6_wrongKept 13 = .ok (.goto 33, 3) := by decide +kernel
theorem dX6_wrongKept_16 : decode cX6_wrongKept 16 = .ok (.aload_n 0, 1) := by decide +kernel
theorem dX6_wrongKept_17 : decode cX6_wrongKept 17 = .ok (.getfield 28, 3) := by decide +kernel
theorem dX6_wrongKept_20 : decode cX6_wrongKept 20 = .ok (.iload_n 1, 1) := by decide +kernel
theorem dX6_wrongKept_21 : decode cX6_wrongKept 21 = .ok (.iaload, 1) := by decide +kernel
theorem dX6_wrongKept_22 : decode cX6_wrongKept 22 = .ok (.ifCond .ne 8, 3) := by decide +kernel
theorem dX6_wrongKept_25 : decode cX6_wrongKept 25 = .ok (.bipush (-11), 2) := by decide +kernel
theorem dX6_wrongKept_27 : decode cX6_wrongKept 27 = .ok (.goto 19, 3) := by decide +kernel
theorem dX6_wrongKept_30 : decode cX6_wrongKept 30 = .ok (.aload_n 0, 1) := by decide +kernel
theorem dX6_wrongKept_31 : decode cX6_wrongKept 31 = .ok (.getfield 28, 3) := by decide +kernel
theorem dX6_wrongKept_34 : decode cX6_wrongKept 34 = .ok (.iload_n 1, 1) := by decide +kernel
theorem dX6_wrongKept_35 : decode cX6_wrongKept 35 = .ok (.iaload, 1) := by decide +kernel
theorem dX6_wrongKept_36 : decode cX6_wrongKept 36 = .ok (.iconst 2, 1) := by decide +kernel
theorem dX6_wrongKept_37 : decode cX6_wrongKept 37 = .ok (.if_icmp .ne 8, 3) := by decide +kernel
theorem dX6_wrongKept_40 : decode cX6_wrongKept 40 = .ok (.bipush (-12), 2) := by decide +kernel
theorem dX6_wrongKept_42 : decode cX6_wrongKept 42 = .ok (.goto 4, 3) := by decide +kernel
theorem dX6_wrongKept_45 : decode cX6_wrongKept 45 = .ok (.iconst 0, 1) := by decide +kernel
theorem dX6_wrongKept_46 : decode cX6_wrongKept 46 = .ok (.ireturn, 1) := by decide +kernel
theorem dX6_keep_0 : decode cX6_keep 0 = .ok (.aload_n 0, 1) := by decide +kernel
theorem dX6_keep_1 : decode cX6_keep 1 = .ok (.iconst 0, 1) := by decide +kernel
theorem dX6_keep_2 : decode cX6_keep 2 = .ok (.putfield 75, 3) := by decide +kernel
theorem dX6_keep_5 : decode cX6_keep 5 = .ok (.iload_n 1, 1) := by decide +kernel
theorem dX6_keep_6 : decode cX6_keep 6 = .ok (.i2l, 1) := by decide +kernel
theorem dX6_keep_7 : decode cX6_keep 7 = .ok (.lconst 0, 1) := by decide +kernel
theorem dX6_keep_8 : decode cX6_keep 8 = .ok (.ldc2_w 218, 3) := by decide +kernel
theorem dX6_keep_11 : decode cX6_keep 11 = .ok (.invokestatic 81, 3) := by decide +kernel
theorem dX6_keep_14 : decode cX6_keep 14 = .ok (.ifCond .eq 43, 3) := by decide +kernel
theorem dX6_keep_17 : decode cX6_keep 17 = .ok (.iload_n 2, 1) := by decide +kernel
theorem dX6_keep_18 : decode cX6_keep 18 = .ok (.i2l, 1) := by decide +kernel
theorem dX6_keep_19 : decode cX6_keep 19 = .ok (.lconst 0, 1) := by decide +kernel
theorem dX6_keep_20 : decode cX6_keep 20 = .ok (.lconst 1, 1) := by decide +kernel
theorem dX6_keep_21 : decode cX6_keep 21 = .ok (.invokestatic 81, 3) := by decide +kernel
theorem dX6_keep_24 : decode cX6_keep 24 = .ok (.ifCond .eq 33, 3) := by decide +kernel
theorem dX6_keep_27 : decode cX6_keep 27 = .ok (.iload_n 2, 1) := by decide +kernel
theorem dX6_keep_28 : decode cX6_keep 28 = .ok (.iconst 1, 1) := by decide +kernel
theorem dX6_keep_29 : decode cX6_keep 29 = .ok (.if_icmp .ne 30, 3) := by decide +kernel
theorem dX6_keep_32 : decode cX6_keep 32 = .ok (.iload_n 3, 1) := by decide +kernel
theorem dX6_keep_33 : decode cX6_keep 33 = .ok (.i2l, 1) := by decide +kernel
theorem dX6_keep_34 : decode cX6_keep 34 = .ok (.lconst 0, 1) := by decide +kernel
theorem dX6_keep_35 : decode cX6_keep 35 = .ok (.ldc2_w 218, 3) := by decide +kernel
theorem dX6_keep_38 : decode cX6_keep 38 = .ok (.invokestatic 81, 3) := by decide +kernel
theorem dX6_keep_41 : decode cX6_keep 41 = .ok (.ifCond .eq 16, 3) := by decide +kernel
theorem dX6_keep_44 : decode cX6_keep 44 = .ok (.iload 4, 2) := by decide +kernel
theorem dX6_keep_46 : decode cX6_keep 46 = .ok (.i2l, 1) := by decide +kernel
theorem dX6_keep_47 : decode cX6_keep 47 = .ok (.lconst 0, 1) := by decide +kernel
theorem dX6_keep_48 : decode cX6_keep 48 = .ok (.ldc2_w 79, 3) := by decide +kernel
theorem dX6_keep_51 : decode cX6_keep 51 = .ok (.invokestatic 81, 3) := by decide +kernel
theorem dX6_keep_54 : decode cX6_keep 54 = .ok (.ifCond .ne 5, 3) := by decide +kernel
theorem dX6_keep_57 : decode cX6_keep 57 = .ok (.iconst (-1), 1) := by decide +kernel
theorem dX6_keep_58 : decode cX6_keep 58 = .ok (.ireturn, 1) := by decide +kernel
theorem dX6_keep_59 : decode cX6_keep 59 = .ok (.aload_n 0, 1) := by decide +kernel
theorem dX6_keep_60 : decode cX6_keep 60 = .ok (.getfield 28, 3) := by decide +kernel
theorem dX6_keep_63 : decode cX6_keep 63 = .ok (.iload_n 1, 1) := by decide +kernel
theorem dX6_keep_64 : decode cX6_keep 64 = .ok (.iload_n 2, 1) := by decide +kernel
theorem dX6_keep_65 : decode cX6_keep 65 = .ok (.iastore, 1) := by decide +kernel
theorem dX6_keep_66 : decode cX6_keep 66 = .ok (.aload_n 0, 1) := by decide +kernel
theorem dX6_keep_67 : decode cX6_keep 67 = .ok (.getfield 31, 3) := by decide +kernel
theorem dX6_keep_70 : decode cX6_keep 70 = .ok (.iload_n 1, 1) := by decide +kernel
theorem dX6_keep_71 : decode cX6_keep 71 = .ok (.iload_n 2, 1) := by decide +kernel
theorem dX6_keep_72 : decode cX6_keep 72 = .ok (.iconst 1, 1) := by decide +kernel
theorem dX6_keep_73 : decode cX6_keep 73 = .ok (.if_icmp .ne 7, 3) := by decide +kernel
theorem dX6_keep_76 : decode cX6_keep 76 = .ok (.iload_n 3, 1) := by decide +kernel
theorem dX6_keep_77 : decode cX6_keep 77 = .ok (.goto 4, 3) := by decide +kernel
theorem dX6_keep_80 : decode cX6_keep 80 = .ok (.iconst 0, 1) := by decide +kernel
theorem dX6_keep_81 : decode cX6_keep 81 = .ok (.iastore, 1) := by decide +kernel
theorem dX6_keep_82 : decode cX6_keep 82 = .ok (.aload_n 0, 1) := by decide +kernel
theorem dX6_keep_83 : decode cX6_keep 83 = .ok (.getfield 34, 3) := by decide +kernel
theorem dX6_keep_86 : decode cX6_keep 86 = .ok (.iload_n 1, 1) := by decide +kernel
theorem dX6_keep_87 : decode cX6_keep 87 = .ok (.iload_n 2, 1) := by decide +kernel
theorem dX6_keep_88 : decode cX6_keep 88 = .ok (.iconst 1, 1) := by decide +kernel
theorem dX6_keep_89 : decode cX6_keep 89 = .ok (.if_icmp .ne 8, 3) := by decide +kernel
theorem dX6_keep_92 : decode cX6_keep 92 = .ok (.iload 4, 2) := by decide +kernel
theorem dX6_keep_94 : decode cX6_keep 94 = .ok (.goto 4, 3) := by decide +kernel
theorem dX6_keep_97 : decode cX6_keep 97 = .ok (.iconst 0, 1) := by decide +kernel
theorem dX6_keep_98 : decode cX6_keep 98 = .ok (.iastore, 1) := by decide +kernel
theorem dX6_keep_99 : decode cX6_keep 99 = .ok (.iconst 0, 1) := by decide +kernel
theorem dX6_keep_100 : decode cX6_keep 100 = .ok (.ireturn, 1) := by decide +kernel
theorem dX6_wrongRow_0 : decode cX6_wrongRow 0 = .ok (.iload_n 1, 1) := by decide +kernel
theorem dX6_wrongRow_1 : decode cX6_wrongRow 1 = .ok (.i2l, 1) := by decide +kernel
theorem dX6_wrongRow_2 : decode cX6_wrongRow 2 = .ok (.lconst 0, 1) := by decide +kernel
theorem dX6_wrongRow_3 : decode cX6_wrongRow 3 = .ok (.ldc2_w 218, 3) := by decide +kernel
theorem dX6_wrongRow_6 : decode cX6_wrongRow 6 = .ok (.invokestatic 81, 3) := by decide +kernel
theorem dX6_wrongRow_9 : decode cX6_wrongRow 9 = .ok (.ifCond .ne 7, 3) := by decide +kernel
theorem dX6_wrongRow_12 : decode cX6_wrongRow 12 = .ok (.iconst (-1), 1) := by decide +kernel
theorem dX6_wrongRow_13 : decode cX6_wrongRow 13 = .ok (.goto 33, 3) := by decide +kernel
theorem dX6_wrongRow_16 : decode cX6_wrongRow 16 = .ok (.aload_n 0, 1) := by decide +kernel
theorem dX6_wrongRow_17 : decode cX6_wrongRow 17 = .ok (.getfield 28, 3) := by decide +kernel
theorem dX6_wrongRow_20 : decode cX6_wrongRow 20 = .ok (.iload_n 1, 1) := by decide +kernel
theorem dX6_wrongRow_21 : decode cX6_wrongRow 21 = .ok (.iaload, 1) := by decide +kernel
theorem dX6_wrongRow_22 : decode cX6_wrongRow 22 = .ok (.ifCond .ne 8, 3) := by decide +kernel
theorem dX6_wrongRow_25 : decode cX6_wrongRow 25 = .ok (.bipush (-11), 2) := by decide +kernel
theorem dX6_wrongRow_27 : decode cX6_wrongRow 27 = .ok (.goto 19, 3) := by decide +kernel
theorem dX6_wrongRow_30 : decode cX6_wrongRow 30 = .ok (.aload_n 0, 1) := by decide +kernel
theorem dX6_wrongRow_31 : decode cX6_wrongRow 31 = .ok (.getfield 28, 3) := by decide +kernel
theorem dX6_wrongRow_34 : decode cX6_wrongRow 34 = .ok (.iload_n 1, 1) := by decide +kernel
theorem dX6_wrongRow_35 : decode cX6_wrongRow 35 = .ok (.iaload, 1) := by decide +kernel
theorem dX6_wrongRow_36 : decode cX6_wrongRow 36 = .ok (.iconst 2, 1) := by decide +kernel
theorem dX6_wrongRow_37 : decode cX6_wrongRow 37 = .ok (.if_icmp .eq 8, 3) := by decide +kernel
theorem dX6_wrongRow_40 : decode cX6_wrongRow 40 = .ok (.bipush (-12), 2) := by decide +kernel
theorem dX6_wrongRow_42 : decode cX6_wrongRow 42 = .ok (.goto 4, 3) := by decide +kernel
theorem dX6_wrongRow_45 : decode cX6_wrongRow 45 = .ok (.iconst 0, 1) := by decide +kernel
theorem dX6_wrongRow_46 : decode cX6_wrongRow 46 = .ok (.ireturn, 1) := by decide +kernel
theorem dX6_narrowed_0 : decode cX6_narrowed 0 = .ok (.iload_n 1, 1) := by decide +kernel
theorem dX6_narrowed_1 : decode cX6_narrowed 1 = .ok (.ifCond .ne 9, 3) := by decide +kernel
theorem dX6_narrowed_4 : decode cX6_narrowed 4 = .ok (.iload_n 0, 1) := by decide +kernel
theorem dX6_narrowed_5 : decode cX6_narrowed 5 = .ok (.i2b, 1) := by decide +kernel
theorem dX6_narrowed_6 : decode cX6_narrowed 6 = .ok (.i2l, 1) := by decide +kernel
theorem dX6_narrowed_7 : decode cX6_narrowed 7 = .ok (.goto 16, 3) := by decide +kernel
theorem dX6_narrowed_10 : decode cX6_narrowed 10 = .ok (.iload_n 1, 1) := by decide +kernel
theorem dX6_narrowed_11 : decode cX6_narrowed 11 = .ok (.iconst 1, 1) := by decide +kernel
theorem dX6_narrowed_12 : decode cX6_narrowed 12 = .ok (.if_icmp .ne 9, 3) := by decide +kernel
theorem dX6_narrowed_15 : decode cX6_narrowed 15 = .ok (.iload_n 0, 1) := by decide +kernel
theorem dX6_narrowed_16 : decode cX6_narrowed 16 = .ok (.i2s, 1) := by decide +kernel
theorem dX6_narrowed_17 : decode cX6_narrowed 17 = .ok (.i2l, 1) := by decide +kernel
theorem dX6_narrowed_18 : decode cX6_narrowed 18 = .ok (.goto 5, 3) := by decide +kernel
theorem dX6_narrowed_21 : decode cX6_narrowed 21 = .ok (.iload_n 0, 1) := by decide +kernel
theorem dX6_narrowed_22 : decode cX6_narrowed 22 = .ok (.i2l, 1) := by decide +kernel
theorem dX6_narrowed_23 : decode cX6_narrowed 23 = .ok (.lreturn, 1) := by decide +kernel
theorem dX6_row_0 : decode cX6_row 0 = .ok (.aload_n 0, 1) := by decide +kernel
theorem dX6_row_1 : decode cX6_row 1 = .ok (.iconst 0, 1) := by decide +kernel
theorem dX6_row_2 : decode cX6_row 2 = .ok (.putfield 75, 3) := by decide +kernel
theorem dX6_row_5 : decode cX6_row 5 = .ok (.iload_n 1, 1) := by decide +kernel
theorem dX6_row_6 : decode cX6_row 6 = .ok (.i2l, 1) := by decide +kernel
theorem dX6_row_7 : decode cX6_row 7 = .ok (.lconst 0, 1) := by decide +kernel
theorem dX6_row_8 : decode cX6_row 8 = .ok (.ldc2_w 218, 3) := by decide +kernel
theorem dX6_row_11 : decode cX6_row 11 = .ok (.invokestatic 81, 3) := by decide +kernel
theorem dX6_row_14 : decode cX6_row 14 = .ok (.ifCond .eq 21, 3) := by decide +kernel
theorem dX6_row_17 : decode cX6_row 17 = .ok (.iload_n 2, 1) := by decide +kernel
theorem dX6_row_18 : decode cX6_row 18 = .ok (.i2l, 1) := by decide +kernel
theorem dX6_row_19 : decode cX6_row 19 = .ok (.lconst 0, 1) := by decide +kernel
theorem dX6_row_20 : decode cX6_row 20 = .ok (.ldc2_w 231, 3) := by decide +kernel
theorem dX6_row_23 : decode cX6_row 23 = .ok (.invokestatic 81, 3) := by decide +kernel
theorem dX6_row_26 : decode cX6_row 26 = .ok (.ifCond .eq 9, 3) := by decide +kernel
theorem dX6_row_29 : decode cX6_row 29 = .ok (.iload_n 3, 1) := by decide +kernel
theorem dX6_row_30 : decode cX6_row 30 = .ok (.bipush 100, 2) := by decide +kernel
theorem dX6_row_32 : decode cX6_row 32 = .ok (.if_icmp .le 5, 3) := by decide +kernel
theorem dX6_row_35 : decode cX6_row 35 = .ok (.iconst (-1), 1) := by decide +kernel
theorem dX6_row_36 : decode cX6_row 36 = .ok (.ireturn, 1) := by decide +kernel
theorem dX6_row_37 : decode cX6_row 37 = .ok (.iload_n 3, 1) := by decide +kernel
theorem dX6_row_38 : decode cX6_row 38 = .ok (.ifCond .ge 6, 3) := by decide +kernel
theorem dX6_row_41 : decode cX6_row 41 = .ok (.bipush (-14), 2) := by decide +kernel
theorem dX6_row_43 : decode cX6_row 43 = .ok (.ireturn, 1) := by decide +kernel
theorem dX6_row_44 : decode cX6_row 44 = .ok (.aload_n 0, 1) := by decide +kernel
theorem dX6_row_45 : decode cX6_row 45 = .ok (.getfield 28, 3) := by decide +kernel
theorem dX6_row_48 : decode cX6_row 48 = .ok (.iload_n 1, 1) := by decide +kernel
theorem dX6_row_49 : decode cX6_row 49 = .ok (.iconst 2, 1) := by decide +kernel
theorem dX6_row_50 : decode cX6_row 50 = .ok (.iastore, 1) := by decide +kernel
theorem dX6_row_51 : decode cX6_row 51 = .ok (.aload_n 0, 1) := by decide +kernel
theorem dX6_row_52 : decode cX6_row 52 = .ok (.getfield 37, 3) := by decide +kernel
theorem dX6_row_55 : decode cX6_row 55 = .ok (.iload_n 1, 1) := by decide +kernel
theorem dX6_row_56 : decode cX6_row 56 = .ok (.iload_n 2, 1) := by decide +kernel
theorem dX6_row_57 : decode cX6_row 57 = .ok (.iastore, 1) := by decide +kernel
theorem dX6_row_58 : decode cX6_row 58 = .ok (.aload_n 0, 1) := by decide +kernel
theorem dX6_row_59 : decode cX6_row 59 = .ok (.getfield 40, 3) := by decide +kernel
theorem dX6_row_62 : decode cX6_row 62 = .ok (.iload_n 1, 1) := by decide +kernel
theorem dX6_row_63 : decode cX6_row 63 = .ok (.iload_n 3, 1) := by decide +kernel
theorem dX6_row_64 : decode cX6_row 64 = .ok (.iastore, 1) := by decide +kernel
theorem dX6_row_65 : decode cX6_row 65 = .ok (.iconst 0, 1) := by decide +kernel
theorem dX6_row_66 : decode cX6_row 66 = .ok (.istore 4, 2) := by decide +kernel
theorem dX6_row_68 : decode cX6_row 68 = .ok (.iload 4, 2) := by decide +kernel
theorem dX6_row_70 : decode cX6_row 70 = .ok (.bipush 100, 2) := by decide +kernel
theorem dX6_row_72 : decode cX6_row 72 = .ok (.if_icmp .ge 22, 3) := by decide +kernel
theorem dX6_row_75 : decode cX6_row 75 = .ok (.aload_n 0, 1) := by decide +kernel
theorem dX6_row_76 : decode cX6_row 76 = .ok (.getfield 43, 3) := by decide +kernel
theorem dX6_row_79 : decode cX6_row 79 = .ok (.bipush 100, 2) := by decide +kernel
theorem dX6_row_81 : decode cX6_row 81 = .ok (.iload_n 1, 1) := by decide +kernel
theorem dX6_row_82 : decode cX6_row 82 = .ok (.imul, 1) := by decide +kernel
theorem dX6_row_83 : decode cX6_row 83 = .ok (.iload 4, 2) := by decide +kernel
theorem dX6_row_85 : decode cX6_row 85 = .ok (.iadd, 1) := by decide +kernel
theorem dX6_row_86 : decode cX6_row 86 = .ok (.lconst 0, 1) := by decide +kernel
theorem dX6_row_87 : decode cX6_row 87 = .ok (.lastore, 1) := by decide +kernel
theorem dX6_row_88 : decode cX6_row 88 = .ok (.iinc 4 1, 3) := by decide +kernel
theorem dX6_row_91 : decode cX6_row 91 = .ok (.goto (-23), 3) := by decide +kernel
theorem dX6_row_94 : decode cX6_row 94 = .ok (.iconst 0, 1) := by decide +kernel
theorem dX6_row_95 : decode cX6_row 95 = .ok (.ireturn, 1) := by decide +kernel
theorem dX6_put_0 : decode cX6_put 0 = .ok (.aload_n 0, 1) := by decide +kernel
theorem dX6_put_1 : decode cX6_put 1 = .ok (.iconst 0, 1) := by decide +kernel
theorem dX6_put_2 : decode cX6_put 2 = .ok (.putfield 75, 3) := by decide +kernel
theorem dX6_put_5 : decode cX6_put 5 = .ok (.aload_n 0, 1) := by decide +kernel
theorem dX6_put_6 : decode cX6_put 6 = .ok (.iload_n 1, 1) := by decide +kernel
theorem dX6_put_7 : decode cX6_put 7 = .ok (.invokevirtual 184, 3) := by decide +kernel
theorem dX6_put_10 : decode cX6_put 10 = .ok (.istore 4, 2) := by decide +kernel
theorem dX6_put_12 : decode cX6_put 12 = .ok (.iload 4, 2) := by decide +kernel
theorem dX6_put_14 : decode cX6_put 14 = .ok (.ifCond .ge 6, 3) := by decide +kernel
theorem dX6_put_17 : decode cX6_put 17 = .ok (.iload 4, 2) := by decide +kernel
theorem dX6_put_19 : decode cX6_put 19 = .ok (.ireturn, 1) := by decide +kernel
theorem dX6_put_20 : decode cX6_put 20 = .ok (.iload_n 2, 1) := by decide +kernel
theorem dX6_put_21 : decode cX6_put 21 = .ok (.i2l, 1) := by decide +kernel
theorem dX6_put_22 : decode cX6_put 22 = .ok (.lconst 0, 1) := by decide +kernel
theorem dX6_put_23 : decode cX6_put 23 = .ok (.aload_n 0, 1) := by decide +kernel
theorem dX6_put_24 : decode cX6_put 24 = .ok (.getfield 40, 3) := by decide +kernel
theorem dX6_put_27 : decode cX6_put 27 = .ok (.iload_n 1, 1) := by decide +kernel
theorem dX6_put_28 : decode cX6_put 28 = .ok (.iaload, 1) := by decide +kernel
theorem dX6_put_29 : decode cX6_put 29 = .ok (.iconst 1, 1) := by decide +kernel
theorem dX6_put_30 : decode cX6_put 30 = .ok (.isub, 1) := by decide +kernel
theorem dX6_put_31 : decode cX6_put 31 = .ok (.i2l, 1) := by decide +kernel
theorem dX6_put_32 : decode cX6_put 32 = .ok (.invokestatic 81, 3) := by decide +kernel
theorem dX6_put_35 : decode cX6_put 35 = .ok (.ifCond .ne 6, 3) := by decide +kernel
theorem dX6_put_38 : decode cX6_put 38 = .ok (.bipush (-13), 2) := by decide +kernel
theorem dX6_put_40 : decode cX6_put 40 = .ok (.ireturn, 1) := by decide +kernel
theorem dX6_put_41 : decode cX6_put 41 = .ok (.aload_n 0, 1) := by decide +kernel
theorem dX6_put_42 : decode cX6_put 42 = .ok (.getfield 43, 3) := by decide +kernel
theorem dX6_put_45 : decode cX6_put 45 = .ok (.bipush 100, 2) := by decide +kernel
theorem dX6_put_47 : decode cX6_put 47 = .ok (.iload_n 1, 1) := by decide +kernel
theorem dX6_put_48 : decode cX6_put 48 = .ok (.imul, 1) := by decide +kernel
theorem dX6_put_49 : decode cX6_put 49 = .ok (.iload_n 2, 1) := by decide +kernel
theorem dX6_put_50 : decode cX6_put 50 = .ok (.iadd, 1) := by decide +kernel
theorem dX6_put_51 : decode cX6_put 51 = .ok (.iload_n 3, 1) := by decide +kernel
theorem dX6_put_52 : decode cX6_put 52 = .ok (.aload_n 0, 1) := by decide +kernel
theorem dX6_put_53 : decode cX6_put 53 = .ok (.getfield 37, 3) := by decide +kernel
theorem dX6_put_56 : decode cX6_put 56 = .ok (.iload_n 1, 1) := by decide +kernel
theorem dX6_put_57 : decode cX6_put 57 = .ok (.iaload, 1) := by decide +kernel
theorem dX6_put_58 : decode cX6_put 58 = .ok (.invokestatic 314, 3) := by decide +kernel
theorem dX6_put_61 : decode cX6_put 61 = .ok (.lastore, 1) := by decide +kernel
theorem dX6_put_62 : decode cX6_put 62 = .ok (.iconst 0, 1) := by decide +kernel
theorem dX6_put_63 : decode cX6_put 63 = .ok (.ireturn, 1) := by decide +kernel
theorem dX6_element_0 : decode cX6_element 0 = .ok (.aload_n 0, 1) := by decide +kernel
theorem dX6_element_1 : decode cX6_element 1 = .ok (.iload_n 1, 1) := by decide +kernel
theorem dX6_element_2 : decode cX6_element 2 = .ok (.invokevirtual 184, 3) := by decide +kernel
theorem dX6_element_5 : decode cX6_element 5 = .ok (.istore_n 3, 1) := by decide +kernel
theorem dX6_element_6 : decode cX6_element 6 = .ok (.aload_n 0, 1) := by decide +kernel
theorem dX6_element_7 : decode cX6_element 7 = .ok (.iload_n 3, 1) := by decide +kernel
theorem dX6_element_8 : decode cX6_element 8 = .ok (.iconst (-1), 1) := by decide +kernel
theorem dX6_element_9 : decode cX6_element 9 = .ok (.if_icmp .ne 7, 3) := by decide +kernel
theorem dX6_element_12 : decode cX6_element 12 = .ok (.iconst 1, 1) := by decide +kernel
theorem dX6_element_13 : decode cX6_element 13 = .ok (.goto 30, 3) := by decide +kernel
theorem dX6_element_16 : decode cX6_element 16 = .ok (.iload_n 3, 1) := by decide +kernel
theorem dX6_element_17 : decode cX6_element 17 = .ok (.ifCond .lt 21, 3) := by decide +kernel
theorem dX6_element_20 : decode cX6_element 20 = .ok (.iload_n 2, 1) := by decide +kernel
theorem dX6_element_21 : decode cX6_element 21 = .ok (.i2l, 1) := by decide +kernel
theorem dX6_element_22 : decode cX6_element 22 = .ok (.lconst 0, 1) := by decide +kernel
theorem dX6_element_23 : decode cX6_element 23 = .ok (.aload_n 0, 1) := by decide +kernel
theorem dX6_element_24 : decode cX6_element 24 = .ok (.getfield 40, 3) := by decide +kernel
theorem dX6_element_27 : decode cX6_element 27 = .ok (.iload_n 1, 1) := by decide +kernel
theorem dX6_element_28 : decode cX6_element 28 = .ok (.iaload, 1) := by decide +kernel
theorem dX6_element_29 : decode cX6_element 29 = .ok (.iconst 1, 1) := by decide +kernel
theorem dX6_element_30 : decode cX6_element 30 = .ok (.isub, 1) := by decide +kernel
theorem dX6_element_31 : decode cX6_element 31 = .ok (.i2l, 1) := by decide +kernel
theorem dX6_element_32 : decode cX6_element 32 = .ok (.invokestatic 81, 3) := by decide +kernel
theorem dX6_element_35 : decode cX6_element 35 = .ok (.ifCond .ne 7, 3) := by decide +kernel
theorem dX6_element_38 : decode cX6_element 38 = .ok (.iconst 2, 1) := by decide +kernel
theorem dX6_element_39 : decode cX6_element 39 = .ok (.goto 4, 3) := by decide +kernel
theorem dX6_element_42 : decode cX6_element 42 = .ok (.iconst 0, 1) := by decide +kernel
theorem dX6_element_43 : decode cX6_element 43 = .ok (.putfield 75, 3) := by decide +kernel
theorem dX6_element_46 : decode cX6_element 46 = .ok (.aload_n 0, 1) := by decide +kernel
theorem dX6_element_47 : decode cX6_element 47 = .ok (.getfield 75, 3) := by decide +kernel
theorem dX6_element_50 : decode cX6_element 50 = .ok (.ifCond .le 7, 3) := by decide +kernel
theorem dX6_element_53 : decode cX6_element 53 = .ok (.lconst 0, 1) := by decide +kernel
theorem dX6_element_54 : decode cX6_element 54 = .ok (.goto 14, 3) := by decide +kernel
theorem dX6_element_57 : decode cX6_element 57 = .ok (.aload_n 0, 1) := by decide +kernel
theorem dX6_element_58 : decode cX6_element 58 = .ok (.getfield 43, 3) := by decide +kernel
theorem dX6_element_61 : decode cX6_element 61 = .ok (.bipush 100, 2) := by decide +kernel
theorem dX6_element_63 : decode cX6_element 63 = .ok (.iload_n 1, 1) := by decide +kernel
theorem dX6_element_64 : decode cX6_element 64 = .ok (.imul, 1) := by decide +kernel
theorem dX6_element_65 : decode cX6_element 65 = .ok (.iload_n 2, 1) := by decide +kernel
theorem dX6_element_66 : decode cX6_element 66 = .ok (.iadd, 1) := by decide +kernel
theorem dX6_element_67 : decode cX6_element 67 = .ok (.laload, 1) := by decide +kernel
theorem dX6_element_68 : decode cX6_element 68 = .ok (.lreturn, 1) := by decide +kernel
theorem dX6_copy_0 : decode cX6_copy 0 = .ok (.aload_n 0, 1) := by decide +kernel
theorem dX6_copy_1 : decode cX6_copy 1 = .ok (.iconst 0, 1) := by decide +kernel
theorem dX6_copy_2 : decode cX6_copy 2 = .ok (.putfield 75, 3) := by decide +kernel
theorem dX6_copy_5 : decode cX6_copy 5 = .ok (.iload_n 1, 1) := by decide +kernel
theorem dX6_copy_6 : decode cX6_copy 6 = .ok (.i2l, 1) := by decide +kernel
theorem dX6_copy_7 : decode cX6_copy 7 = .ok (.lconst 0, 1) := by decide +kernel
theorem dX6_copy_8 : decode cX6_copy 8 = .ok (.ldc2_w 218, 3) := by decide +kernel
theorem dX6_copy_11 : decode cX6_copy 11 = .ok (.invokestatic 81, 3) := by decide +kernel
theorem dX6_copy_14 : decode cX6_copy 14 = .ok (.ifCond .eq 15, 3) := by decide +kernel
theorem dX6_copy_17 : decode cX6_copy 17 = .ok (.iload_n 3, 1) := by decide +kernel
theorem dX6_copy_18 : decode cX6_copy 18 = .ok (.i2l, 1) := by decide +kernel
theorem dX6_copy_19 : decode cX6_copy 19 = .ok (.lconst 0, 1) := by decide +kernel
theorem dX6_copy_20 : decode cX6_copy 20 = .ok (.ldc2_w 218, 3) := by decide +kernel
theorem dX6_copy_23 : decode cX6_copy 23 = .ok (.invokestatic 81, 3) := by decide +kernel
theorem dX6_copy_26 : decode cX6_copy 26 = .ok (.ifCond .ne 5, 3) := by decide +kernel
theorem dX6_copy_29 : decode cX6_copy 29 = .ok (.iconst (-1), 1) := by decide +kernel
theorem dX6_copy_30 : decode cX6_copy 30 = .ok (.ireturn, 1) := by decide +kernel
theorem dX6_copy_31 : decode cX6_copy 31 = .ok (.aload_n 0, 1) := by decide +kernel
theorem dX6_copy_32 : decode cX6_copy 32 = .ok (.getfield 28, 3) := by decide +kernel
theorem dX6_copy_35 : decode cX6_copy 35 = .ok (.iload_n 1, 1) := by decide +kernel
theorem dX6_copy_36 : decode cX6_copy 36 = .ok (.iaload, 1) := by decide +kernel
theorem dX6_copy_37 : decode cX6_copy 37 = .ok (.ifCond .eq 12, 3) := by decide +kernel
theorem dX6_copy_40 : decode cX6_copy 40 = .ok (.aload_n 0, 1) := by decide +kernel
theorem dX6_copy_41 : decode cX6_copy 41 = .ok (.getfield 28, 3) := by decide +kernel
theorem dX6_copy_44 : decode cX6_copy 44 = .ok (.iload_n 3, 1) := by decide +kernel
theorem dX6_copy_45 : decode cX6_copy 45 = .ok (.iaload, 1) := by decide +kernel
theorem dX6_copy_46 : decode cX6_copy 46 = .ok (.ifCond .ne 6, 3) := by decide +kernel
theorem dX6_copy_49 : decode cX6_copy 49 = .ok (.bipush (-11), 2) := by decide +kernel
theorem dX6_copy_51 : decode cX6_copy 51 = .ok (.ireturn, 1) := by decide +kernel
theorem dX6_copy_52 : decode cX6_copy 52 = .ok (.aload_n 0, 1) := by decide +kernel
theorem dX6_copy_53 : decode cX6_copy 53 = .ok (.getfield 28, 3) := by decide +kernel
theorem dX6_copy_56 : decode cX6_copy 56 = .ok (.iload_n 1, 1) := by decide +kernel
theorem dX6_copy_57 : decode cX6_copy 57 = .ok (.iaload, 1) := by decide +kernel
theorem dX6_copy_58 : decode cX6_copy 58 = .ok (.iconst 2, 1) := by decide +kernel
theorem dX6_copy_59 : decode cX6_copy 59 = .ok (.if_icmp .ne 28, 3) := by decide +kernel
theorem dX6_copy_62 : decode cX6_copy 62 = .ok (.aload_n 0, 1) := by decide +kernel
theorem dX6_copy_63 : decode cX6_copy 63 = .ok (.getfield 28, 3) := by decide +kernel
theorem dX6_copy_66 : decode cX6_copy 66 = .ok (.iload_n 3, 1) := by decide +kernel
theorem dX6_copy_67 : decode cX6_copy 67 = .ok (.iaload, 1) := by decide +kernel
theorem dX6_copy_68 : decode cX6_copy 68 = .ok (.iconst 2, 1) := by decide +kernel
theorem dX6_copy_69 : decode cX6_copy 69 = .ok (.if_icmp .ne 18, 3) := by decide +kernel
theorem dX6_copy_72 : decode cX6_copy 72 = .ok (.aload_n 0, 1) := by decide +kernel
theorem dX6_copy_73 : decode cX6_copy 73 = .ok (.getfield 37, 3) := by decide +kernel
theorem dX6_copy_76 : decode cX6_copy 76 = .ok (.iload_n 1, 1) := by decide +kernel
theorem dX6_copy_77 : decode cX6_copy 77 = .ok (.iaload, 1) := by decide +kernel
theorem dX6_copy_78 : decode cX6_copy 78 = .ok (.aload_n 0, 1) := by decide +kernel
theorem dX6_copy_79 : decode cX6_copy 79 = .ok (.getfield 37, 3) := by decide +kernel
theorem dX6_copy_82 : decode cX6_copy 82 = .ok (.iload_n 3, 1) := by decide +kernel
theorem dX6_copy_83 : decode cX6_copy 83 = .ok (.iaload, 1) := by decide +kernel
theorem dX6_copy_84 : decode cX6_copy 84 = .ok (.if_icmp .eq 6, 3) := by decide +kernel
theorem dX6_copy_87 : decode cX6_copy 87 = .ok (.bipush (-12), 2) := by decide +kernel
theorem dX6_copy_89 : decode cX6_copy 89 = .ok (.ireturn, 1) := by decide +kernel
theorem dX6_copy_90 : decode cX6_copy 90 = .ok (.iload 5, 2) := by decide +kernel
theorem dX6_copy_92 : decode cX6_copy 92 = .ok (.ifCond .lt 39, 3) := by decide +kernel
theorem dX6_copy_95 : decode cX6_copy 95 = .ok (.iload_n 2, 1) := by decide +kernel
theorem dX6_copy_96 : decode cX6_copy 96 = .ok (.ifCond .lt 35, 3) := by decide +kernel
theorem dX6_copy_99 : decode cX6_copy 99 = .ok (.iload 4, 2) := by decide +kernel
theorem dX6_copy_101 : decode cX6_copy 101 = .ok (.ifCond .lt 30, 3) := by decide +kernel
theorem dX6_copy_104 : decode cX6_copy 104 = .ok (.iload_n 2, 1) := by decide +kernel
theorem dX6_copy_105 : decode cX6_copy 105 = .ok (.aload_n 0, 1) := by decide +kernel
theorem dX6_copy_106 : decode cX6_copy 106 = .ok (.getfield 40, 3) := by decide +kernel
theorem dX6_copy_109 : decode cX6_copy 109 = .ok (.iload_n 1, 1) := by decide +kernel
theorem dX6_copy_110 : decode cX6_copy 110 = .ok (.iaload, 1) := by decide +kernel
theorem dX6_copy_111 : decode cX6_copy 111 = .ok (.iload 5, 2) := by decide +kernel
theorem dX6_copy_113 : decode cX6_copy 113 = .ok (.isub, 1) := by decide +kernel
theorem dX6_copy_114 : decode cX6_copy 114 = .ok (.if_icmp .gt 17, 3) := by decide +kernel
theorem dX6_copy_117 : decode cX6_copy 117 = .ok (.iload 4, 2) := by decide +kernel
theorem dX6_copy_119 : decode cX6_copy 119 = .ok (.aload_n 0, 1) := by decide +kernel
theorem dX6_copy_120 : decode cX6_copy 120 = .ok (.getfield 40, 3) := by decide +kernel
theorem dX6_copy_123 : decode cX6_copy 123 = .ok (.iload_n 3, 1) := by decide +kernel
theorem dX6_copy_124 : decode cX6_copy 124 = .ok (.iaload, 1) := by decide +kernel
theorem dX6_copy_125 : decode cX6_copy 125 = .ok (.iload 5, 2) := by decide +kernel
theorem dX6_copy_127 : decode cX6_copy 127 = .ok (.isub, 1) := by decide +kernel
theorem dX6_copy_128 : decode cX6_copy 128 = .ok (.if_icmp .le 6, 3) := by decide +kernel
theorem dX6_copy_131 : decode cX6_copy 131 = .ok (.bipush (-13), 2) := by decide +kernel
theorem dX6_copy_133 : decode cX6_copy 133 = .ok (.ireturn, 1) := by decide +kernel
theorem dX6_copy_134 : decode cX6_copy 134 = .ok (.iconst 0, 1) := by decide +kernel
theorem dX6_copy_135 : decode cX6_copy 135 = .ok (.istore 6, 2) := by decide +kernel
theorem dX6_copy_137 : decode cX6_copy 137 = .ok (.iload 6, 2) := by decide +kernel
theorem dX6_copy_139 : decode cX6_copy 139 = .ok (.iload 5, 2) := by decide +kernel
theorem dX6_copy_141 : decode cX6_copy 141 = .ok (.if_icmp .ge 30, 3) := by decide +kernel
theorem dX6_copy_144 : decode cX6_copy 144 = .ok (.aload_n 0, 1) := by decide +kernel
theorem dX6_copy_145 : decode cX6_copy 145 = .ok (.getfield 72, 3) := by decide +kernel
theorem dX6_copy_148 : decode cX6_copy 148 = .ok (.iload 6, 2) := by decide +kernel
theorem dX6_copy_150 : decode cX6_copy 150 = .ok (.aload_n 0, 1) := by decide +kernel
theorem dX6_copy_151 : decode cX6_copy 151 = .ok (.getfield 43, 3) := by decide +kernel
theorem dX6_copy_154 : decode cX6_copy 154 = .ok (.bipush 100, 2) := by decide +kernel
theorem dX6_copy_156 : decode cX6_copy 156 = .ok (.iload_n 1, 1) := by decide +kernel
theorem dX6_copy_157 : decode cX6_copy 157 = .ok (.imul, 1) := by decide +kernel
theorem dX6_copy_158 : decode cX6_copy 158 = .ok (.iload_n 2, 1) := by decide +kernel
theorem dX6_copy_159 : decode cX6_copy 159 = .ok (.iadd, 1) := by decide +kernel
theorem dX6_copy_160 : decode cX6_copy 160 = .ok (.iload 6, 2) := by decide +kernel
theorem dX6_copy_162 : decode cX6_copy 162 = .ok (.iadd, 1) := by decide +kernel
theorem dX6_copy_163 : decode cX6_copy 163 = .ok (.laload, 1) := by decide +kernel
theorem dX6_copy_164 : decode cX6_copy 164 = .ok (.lastore, 1) := by decide +kernel
theorem dX6_copy_165 : decode cX6_copy 165 = .ok (.iinc 6 1, 3) := by decide +kernel
theorem dX6_copy_168 : decode cX6_copy 168 = .ok (.goto (-31), 3) := by decide +kernel
theorem dX6_copy_171 : decode cX6_copy 171 = .ok (.iconst 0, 1) := by decide +kernel
theorem dX6_copy_172 : decode cX6_copy 172 = .ok (.istore 6, 2) := by decide +kernel
theorem dX6_copy_174 : decode cX6_copy 174 = .ok (.iload 6, 2) := by decide +kernel
theorem dX6_copy_176 : decode cX6_copy 176 = .ok (.iload 5, 2) := by decide +kernel
theorem dX6_copy_178 : decode cX6_copy 178 = .ok (.if_icmp .ge 31, 3) := by decide +kernel
theorem dX6_copy_181 : decode cX6_copy 181 = .ok (.aload_n 0, 1) := by decide +kernel
theorem dX6_copy_182 : decode cX6_copy 182 = .ok (.getfield 43, 3) := by decide +kernel
theorem dX6_copy_185 : decode cX6_copy 185 = .ok (.bipush 100, 2) := by decide +kernel
theorem dX6_copy_187 : decode cX6_copy 187 = .ok (.iload_n 3, 1) := by decide +kernel
theorem dX6_copy_188 : decode cX6_copy 188 = .ok (.imul, 1) := by decide +kernel
theorem dX6_copy_189 : decode cX6_copy 189 = .ok (.iload 4, 2) := by decide +kernel
theorem dX6_copy_191 : decode cX6_copy 191 = .ok (.iadd, 1) := by decide +kernel
theorem dX6_copy_192 : decode cX6_copy 192 = .ok (.iload 6, 2) := by decide +kernel
theorem dX6_copy_194 : decode cX6_copy 194 = .ok (.iadd, 1) := by decide +kernel
theorem dX6_copy_195 : decode cX6_copy 195 = .ok (.aload_n 0, 1) := by decide +kernel
theorem dX6_copy_196 : decode cX6_copy 196 = .ok (.getfield 72, 3) := by decide +kernel
theorem dX6_copy_199 : decode cX6_copy 199 = .ok (.iload 6, 2) := by decide +kernel
theorem dX6_copy_201 : decode cX6_copy 201 = .ok (.laload, 1) := by decide +kernel
theorem dX6_copy_202 : decode cX6_copy 202 = .ok (.lastore, 1) := by decide +kernel
theorem dX6_copy_203 : decode cX6_copy 203 = .ok (.iinc 6 1, 3) := by decide +kernel
theorem dX6_copy_206 : decode cX6_copy 206 = .ok (.goto (-32), 3) := by decide +kernel
theorem dX6_copy_209 : decode cX6_copy 209 = .ok (.iload 5, 2) := by decide +kernel
theorem dX6_copy_211 : decode cX6_copy 211 = .ok (.ireturn, 1) := by decide +kernel
theorem dX6_costOf_0 : decode cX6_costOf 0 = .ok (.iload_n 0, 1) := by decide +kernel
theorem dX6_costOf_1 : decode cX6_costOf 1 = .ok (.tableswitch 74 0 7 #[47, 49, 51, 55, 74, 58, 74, 64], 47) := by decide +kernel
theorem dX6_costOf_48 : decode cX6_costOf 48 = .ok (.iconst 3, 1) := by decide +kernel
theorem dX6_costOf_49 : decode cX6_costOf 49 = .ok (.ireturn, 1) := by decide +kernel
theorem dX6_costOf_50 : decode cX6_costOf 50 = .ok (.iconst 1, 1) := by decide +kernel
theorem dX6_costOf_51 : decode cX6_costOf 51 = .ok (.ireturn, 1) := by decide +kernel
theorem dX6_costOf_52 : decode cX6_costOf 52 = .ok (.iconst 3, 1) := by decide +kernel
theorem dX6_costOf_53 : decode cX6_costOf 53 = .ok (.iload_n 1, 1) := by decide +kernel
theorem dX6_costOf_54 : decode cX6_costOf 54 = .ok (.iadd, 1) := by decide +kernel
theorem dX6_costOf_55 : decode cX6_costOf 55 = .ok (.ireturn, 1) := by decide +kernel
theorem dX6_costOf_56 : decode cX6_costOf 56 = .ok (.bipush 6, 2) := by decide +kernel
theorem dX6_costOf_58 : decode cX6_costOf 58 = .ok (.ireturn, 1) := by decide +kernel
theorem dX6_costOf_59 : decode cX6_costOf 59 = .ok (.iconst 3, 1) := by decide +kernel
theorem dX6_costOf_60 : decode cX6_costOf 60 = .ok (.iload_n 1, 1) := by decide +kernel
theorem dX6_costOf_61 : decode cX6_costOf 61 = .ok (.iadd, 1) := by decide +kernel
theorem dX6_costOf_62 : decode cX6_costOf 62 = .ok (.iconst 2, 1) := by decide +kernel
theorem dX6_costOf_63 : decode cX6_costOf 63 = .ok (.idiv, 1) := by decide +kernel
theorem dX6_costOf_64 : decode cX6_costOf 64 = .ok (.ireturn, 1) := by decide +kernel
theorem dX6_costOf_65 : decode cX6_costOf 65 = .ok (.bipush 6, 2) := by decide +kernel
theorem dX6_costOf_67 : decode cX6_costOf 67 = .ok (.iload_n 1, 1) := by decide +kernel
theorem dX6_costOf_68 : decode cX6_costOf 68 = .ok (.isub, 1) := by decide +kernel
theorem dX6_costOf_69 : decode cX6_costOf 69 = .ok (.bipush 6, 2) := by decide +kernel
theorem dX6_costOf_71 : decode cX6_costOf 71 = .ok (.invokestatic 88, 3) := by decide +kernel
theorem dX6_costOf_74 : decode cX6_costOf 74 = .ok (.ireturn, 1) := by decide +kernel
theorem dX6_costOf_75 : decode cX6_costOf 75 = .ok (.iconst 0, 1) := by decide +kernel
theorem dX6_costOf_76 : decode cX6_costOf 76 = .ok (.ireturn, 1) := by decide +kernel
theorem dX6_cost_0 : decode cX6_cost 0 = .ok (.aload_n 0, 1) := by decide +kernel
theorem dX6_cost_1 : decode cX6_cost 1 = .ok (.iconst 0, 1) := by decide +kernel
theorem dX6_cost_2 : decode cX6_cost 2 = .ok (.putfield 75, 3) := by decide +kernel
theorem dX6_cost_5 : decode cX6_cost 5 = .ok (.aload_n 0, 1) := by decide +kernel
theorem dX6_cost_6 : decode cX6_cost 6 = .ok (.iload_n 1, 1) := by decide +kernel
theorem dX6_cost_7 : decode cX6_cost 7 = .ok (.invokevirtual 223, 3) := by decide +kernel
theorem dX6_cost_10 : decode cX6_cost 10 = .ok (.ifCond .ge 11, 3) := by decide +kernel
theorem dX6_cost_13 : decode cX6_cost 13 = .ok (.aload_n 0, 1) := by decide +kernel
theorem dX6_cost_14 : decode cX6_cost 14 = .ok (.iload_n 1, 1) := by decide +kernel
theorem dX6_cost_15 : decode cX6_cost 15 = .ok (.invokevirtual 223, 3) := by decide +kernel
theorem dX6_cost_18 : decode cX6_cost 18 = .ok (.goto 18, 3) := by decide +kernel
theorem dX6_cost_21 : decode cX6_cost 21 = .ok (.aload_n 0, 1) := by decide +kernel
theorem dX6_cost_22 : decode cX6_cost 22 = .ok (.getfield 31, 3) := by decide +kernel
theorem dX6_cost_25 : decode cX6_cost 25 = .ok (.iload_n 1, 1) := by decide +kernel
theorem dX6_cost_26 : decode cX6_cost 26 = .ok (.iaload, 1) := by decide +kernel
theorem dX6_cost_27 : decode cX6_cost 27 = .ok (.aload_n 0, 1) := by decide +kernel
theorem dX6_cost_28 : decode cX6_cost 28 = .ok (.getfield 34, 3) := by decide +kernel
theorem dX6_cost_31 : decode cX6_cost 31 = .ok (.iload_n 1, 1) := by decide +kernel
theorem dX6_cost_32 : decode cX6_cost 32 = .ok (.iaload, 1) := by decide +kernel
theorem dX6_cost_33 : decode cX6_cost 33 = .ok (.invokestatic 318, 3) := by decide +kernel
theorem dX6_cost_36 : decode cX6_cost 36 = .ok (.ireturn, 1) := by decide +kernel
theorem dX6_toss_0 : decode cX6_toss 0 = .ok (.aload_n 0, 1) := by decide +kernel
theorem dX6_toss_1 : decode cX6_toss 1 = .ok (.iconst 0, 1) := by decide +kernel
theorem dX6_toss_2 : decode cX6_toss 2 = .ok (.putfield 75, 3) := by decide +kernel
theorem dX6_toss_5 : decode cX6_toss 5 = .ok (.aload_n 0, 1) := by decide +kernel
theorem dX6_toss_6 : decode cX6_toss 6 = .ok (.iload_n 1, 1) := by decide +kernel
theorem dX6_toss_7 : decode cX6_toss 7 = .ok (.invokevirtual 223, 3) := by decide +kernel
theorem dX6_toss_10 : decode cX6_toss 10 = .ok (.ifCond .ge 9, 3) := by decide +kernel
theorem dX6_toss_13 : decode cX6_toss 13 = .ok (.aload_n 0, 1) := by decide +kernel
theorem dX6_toss_14 : decode cX6_toss 14 = .ok (.iload_n 1, 1) := by decide +kernel
theorem dX6_toss_15 : decode cX6_toss 15 = .ok (.invokevirtual 223, 3) := by decide +kernel
theorem dX6_toss_18 : decode cX6_toss 18 = .ok (.ireturn, 1) := by decide +kernel
theorem dX6_toss_19 : decode cX6_toss 19 = .ok (.aload_n 0, 1) := by decide +kernel
theorem dX6_toss_20 : decode cX6_toss 20 = .ok (.getfield 31, 3) := by decide +kernel
theorem dX6_toss_23 : decode cX6_toss 23 = .ok (.iload_n 1, 1) := by decide +kernel
theorem dX6_toss_24 : decode cX6_toss 24 = .ok (.iaload, 1) := by decide +kernel
theorem dX6_toss_25 : decode cX6_toss 25 = .ok (.istore_n 2, 1) := by decide +kernel
theorem dX6_toss_26 : decode cX6_toss 26 = .ok (.aload_n 0, 1) := by decide +kernel
theorem dX6_toss_27 : decode cX6_toss 27 = .ok (.getfield 34, 3) := by decide +kernel
theorem dX6_toss_30 : decode cX6_toss 30 = .ok (.iload_n 1, 1) := by decide +kernel
theorem dX6_toss_31 : decode cX6_toss 31 = .ok (.iaload, 1) := by decide +kernel
theorem dX6_toss_32 : decode cX6_toss 32 = .ok (.istore_n 3, 1) := by decide +kernel
theorem dX6_toss_33 : decode cX6_toss 33 = .ok (.iload_n 2, 1) := by decide +kernel
theorem dX6_toss_34 : decode cX6_toss 34 = .ok (.iconst 1, 1) := by decide +kernel
theorem dX6_toss_35 : decode cX6_toss 35 = .ok (.if_icmp .eq 18, 3) := by decide +kernel
theorem dX6_toss_38 : decode cX6_toss 38 = .ok (.iload_n 2, 1) := by decide +kernel
theorem dX6_toss_39 : decode cX6_toss 39 = .ok (.iconst 4, 1) := by decide +kernel
theorem dX6_toss_40 : decode cX6_toss 40 = .ok (.if_icmp .eq 13, 3) := by decide +kernel
theorem dX6_toss_43 : decode cX6_toss 43 = .ok (.iload_n 2, 1) := by decide +kernel
theorem dX6_toss_44 : decode cX6_toss 44 = .ok (.bipush 6, 2) := by decide +kernel
theorem dX6_toss_46 : decode cX6_toss 46 = .ok (.if_icmp .eq 7, 3) := by decide +kernel
theorem dX6_toss_49 : decode cX6_toss 49 = .ok (.iload_n 3, 1) := by decide +kernel
theorem dX6_toss_50 : decode cX6_toss 50 = .ok (.ifCond .ne 6, 3) := by decide +kernel
theorem dX6_toss_53 : decode cX6_toss 53 = .ok (.bipush (-15), 2) := by decide +kernel
theorem dX6_toss_55 : decode cX6_toss 55 = .ok (.ireturn, 1) := by decide +kernel
theorem dX6_toss_56 : decode cX6_toss 56 = .ok (.iload_n 2, 1) := by decide +kernel
theorem dX6_toss_57 : decode cX6_toss 57 = .ok (.iconst 2, 1) := by decide +kernel
theorem dX6_toss_58 : decode cX6_toss 58 = .ok (.if_icmp .eq 8, 3) := by decide +kernel
theorem dX6_toss_61 : decode cX6_toss 61 = .ok (.iload_n 2, 1) := by decide +kernel
theorem dX6_toss_62 : decode cX6_toss 62 = .ok (.iconst 5, 1) := by decide +kernel
theorem dX6_toss_63 : decode cX6_toss 63 = .ok (.if_icmp .ne 10, 3) := by decide +kernel
theorem dX6_toss_66 : decode cX6_toss 66 = .ok (.bipush 100, 2) := by decide +kernel
theorem dX6_toss_68 : decode cX6_toss 68 = .ok (.iload_n 3, 1) := by decide +kernel
theorem dX6_toss_69 : decode cX6_toss 69 = .ok (.iadd, 1) := by decide +kernel
theorem dX6_toss_70 : decode cX6_toss 70 = .ok (.goto 22, 3) := by decide +kernel
theorem dX6_toss_73 : decode cX6_toss 73 = .ok (.iload_n 2, 1) := by decide +kernel
theorem dX6_toss_74 : decode cX6_toss 74 = .ok (.bipush 7, 2) := by decide +kernel
theorem dX6_toss_76 : decode cX6_toss 76 = .ok (.if_icmp .ne 15, 3) := by decide +kernel
theorem dX6_toss_79 : decode cX6_toss 79 = .ok (.sipush 200, 3) := by decide +kernel
theorem dX6_toss_82 : decode cX6_toss 82 = .ok (.iload_n 2, 1) := by decide +kernel
theorem dX6_toss_83 : decode cX6_toss 83 = .ok (.iload_n 3, 1) := by decide +kernel
theorem dX6_toss_84 : decode cX6_toss 84 = .ok (.invokestatic 318, 3) := by decide +kernel
theorem dX6_toss_87 : decode cX6_toss 87 = .ok (.iadd, 1) := by decide +kernel
theorem dX6_toss_88 : decode cX6_toss 88 = .ok (.goto 4, 3) := by decide +kernel
theorem dX6_toss_91 : decode cX6_toss 91 = .ok (.iload_n 3, 1) := by decide +kernel
theorem dX6_toss_92 : decode cX6_toss 92 = .ok (.ireturn, 1) := by decide +kernel
