theorem xX6_send_94 : xdec cX6_send 94 = some (.iload_n 3, 95, 3, 0) := by decide +kernel
theorem xX6_send_95 : xdec cX6_send 95 = some (.if_icmp .le 8, 98, 103, 0) := by decide +kernel
theorem xX6_send_98 : xdec cX6_send 98 = some (.iload 4, 100, 4, 0) := by decide +kernel
theorem xX6_send_100 : xdec cX6_send 100 = some (.goto 4, 103, 104, 0) := by decide +kernel
theorem xX6_send_103 : xdec cX6_send 103 = some (.iload_n 2, 104, 2, 0) := by decide +kernel
theorem xX6_send_104 : xdec cX6_send 104 = some (.istore_n 2, 105, 2, 0) := by decide +kernel
theorem xX6_send_105 : xdec cX6_send 105 = some (.iload 6, 107, 6, 0) := by decide +kernel
theorem xX6_send_107 : xdec cX6_send 107 = some (.iload 5, 109, 5, 0) := by decide +kernel
theorem xX6_send_109 : xdec cX6_send 109 = some (.if_icmp .le 14, 112, 123, 0) := by decide +kernel
theorem xX6_send_112 : xdec cX6_send 112 = some (.iload 6, 114, 6, 0) := by decide +kernel
theorem xX6_send_114 : xdec cX6_send 114 = some (.iload_n 3, 115, 3, 0) := by decide +kernel
theorem xX6_send_115 : xdec cX6_send 115 = some (.if_icmp .le 8, 118, 123, 0) := by decide +kernel
theorem xX6_send_118 : xdec cX6_send 118 = some (.iload 6, 120, 6, 0) := by decide +kernel
theorem xX6_send_120 : xdec cX6_send 120 = some (.goto 4, 123, 124, 0) := by decide +kernel
theorem xX6_send_123 : xdec cX6_send 123 = some (.iload_n 3, 124, 3, 0) := by decide +kernel
theorem xX6_send_124 : xdec cX6_send 124 = some (.istore_n 3, 125, 3, 0) := by decide +kernel
theorem xX6_send_125 : xdec cX6_send 125 = some (.iinc 4 1, 128, 4, 1) := by decide +kernel
theorem xX6_send_128 : xdec cX6_send 128 = some (.goto (-97), 131, 31, 0) := by decide +kernel
theorem xX6_send_131 : xdec cX6_send 131 = some (.iload_n 2, 132, 2, 0) := by decide +kernel
theorem xX6_send_132 : xdec cX6_send 132 = some (.ireturn, 133, 0, 0) := by decide +kernel
theorem xX6_isUnlike_0 : xdec cX6_isUnlike 0 = some (.aload_n 0, 1, 0, 0) := by decide +kernel
theorem xX6_isUnlike_1 : xdec cX6_isUnlike 1 = some (.getfield 62, 4, 62, 0) := by decide +kernel
theorem xX6_isUnlike_4 : xdec cX6_isUnlike 4 = some (.iload_n 1, 5, 1, 0) := by decide +kernel
theorem xX6_isUnlike_5 : xdec cX6_isUnlike 5 = some (.iaload, 6, 0, 0) := by decide +kernel
theorem xX6_isUnlike_6 : xdec cX6_isUnlike 6 = some (.ifCond .lt 18, 9, 24, 0) := by decide +kernel
theorem xX6_isUnlike_9 : xdec cX6_isUnlike 9 = some (.aload_n 0, 10, 0, 0) := by decide +kernel
theorem xX6_isUnlike_10 : xdec cX6_isUnlike 10 = some (.getfield 62, 13, 62, 0) := by decide +kernel
theorem xX6_isUnlike_13 : xdec cX6_isUnlike 13 = some (.iload_n 1, 14, 1, 0) := by decide +kernel
theorem xX6_isUnlike_14 : xdec cX6_isUnlike 14 = some (.iaload, 15, 0, 0) := by decide +kernel
theorem xX6_isUnlike_15 : xdec cX6_isUnlike 15 = some (.aload_n 0, 16, 0, 0) := by decide +kernel
theorem xX6_isUnlike_16 : xdec cX6_isUnlike 16 = some (.getfield 62, 19, 62, 0) := by decide +kernel
theorem xX6_isUnlike_19 : xdec cX6_isUnlike 19 = some (.iload_n 2, 20, 2, 0) := by decide +kernel
theorem xX6_isUnlike_20 : xdec cX6_isUnlike 20 = some (.iaload, 21, 0, 0) := by decide +kernel
theorem xX6_isUnlike_21 : xdec cX6_isUnlike 21 = some (.if_icmp .eq 7, 24, 28, 0) := by decide +kernel
theorem xX6_isUnlike_24 : xdec cX6_isUnlike 24 = some (.iconst 1, 25, 0, 1) := by decide +kernel
theorem xX6_isUnlike_25 : xdec cX6_isUnlike 25 = some (.goto 4, 28, 29, 0) := by decide +kernel
theorem xX6_isUnlike_28 : xdec cX6_isUnlike 28 = some (.iconst 0, 29, 0, 0) := by decide +kernel
theorem xX6_isUnlike_29 : xdec cX6_isUnlike 29 = some (.ireturn, 30, 0, 0) := by decide +kernel
theorem xX6_laySeats_0 : xdec cX6_laySeats 0 = some (.iconst 0, 1, 0, 0) := by decide +kernel
theorem xX6_laySeats_1 : xdec cX6_laySeats 1 = some (.istore_n 1, 2, 1, 0) := by decide +kernel
theorem xX6_laySeats_2 : xdec cX6_laySeats 2 = some (.iload_n 1, 3, 1, 0) := by decide +kernel
theorem xX6_laySeats_3 : xdec cX6_laySeats 3 = some (.aload_n 0, 4, 0, 0) := by decide +kernel
theorem xX6_laySeats_4 : xdec cX6_laySeats 4 = some (.getfield 85, 7, 85, 0) := by decide +kernel
theorem xX6_laySeats_7 : xdec cX6_laySeats 7 = some (.if_icmp .ge 20, 10, 27, 0) := by decide +kernel
theorem xX6_laySeats_10 : xdec cX6_laySeats 10 = some (.aload_n 0, 11, 0, 0) := by decide +kernel
theorem xX6_laySeats_11 : xdec cX6_laySeats 11 = some (.getfield 62, 14, 62, 0) := by decide +kernel
theorem xX6_laySeats_14 : xdec cX6_laySeats 14 = some (.iload_n 1, 15, 1, 0) := by decide +kernel
theorem xX6_laySeats_15 : xdec cX6_laySeats 15 = some (.aload_n 0, 16, 0, 0) := by decide +kernel
theorem xX6_laySeats_16 : xdec cX6_laySeats 16 = some (.iload_n 1, 17, 1, 0) := by decide +kernel
theorem xX6_laySeats_17 : xdec cX6_laySeats 17 = some (.invokevirtual 238, 20, 0, 0) := by decide +kernel
theorem xX6_laySeats_20 : xdec cX6_laySeats 20 = some (.iastore, 21, 0, 0) := by decide +kernel
theorem xX6_laySeats_21 : xdec cX6_laySeats 21 = some (.iinc 1 1, 24, 1, 1) := by decide +kernel
theorem xX6_laySeats_24 : xdec cX6_laySeats 24 = some (.goto (-22), 27, 2, 0) := by decide +kernel
theorem xX6_laySeats_27 : xdec cX6_laySeats 27 = some (.sipush 1023, 30, 0, 1023) := by decide +kernel
theorem xX6_laySeats_30 : xdec cX6_laySeats 30 = some (.istore_n 1, 31, 1, 0) := by decide +kernel
theorem xX6_laySeats_31 : xdec cX6_laySeats 31 = some (.iload_n 1, 32, 1, 0) := by decide +kernel
theorem xX6_laySeats_32 : xdec cX6_laySeats 32 = some (.ifCond .lt 136, 35, 168, 0) := by decide +kernel
theorem xX6_laySeats_35 : xdec cX6_laySeats 35 = some (.iload_n 1, 36, 1, 0) := by decide +kernel
theorem xX6_laySeats_36 : xdec cX6_laySeats 36 = some (.bipush 8, 38, 0, 8) := by decide +kernel
theorem xX6_laySeats_38 : xdec cX6_laySeats 38 = some (.idiv, 39, 0, 0) := by decide +kernel
theorem xX6_laySeats_39 : xdec cX6_laySeats 39 = some (.istore_n 2, 40, 2, 0) := by decide +kernel
theorem xX6_laySeats_40 : xdec cX6_laySeats 40 = some (.iload_n 1, 41, 1, 0) := by decide +kernel
theorem xX6_laySeats_41 : xdec cX6_laySeats 41 = some (.bipush 8, 43, 0, 8) := by decide +kernel
theorem xX6_laySeats_43 : xdec cX6_laySeats 43 = some (.irem, 44, 0, 0) := by decide +kernel
theorem xX6_laySeats_44 : xdec cX6_laySeats 44 = some (.istore_n 3, 45, 3, 0) := by decide +kernel
theorem xX6_laySeats_45 : xdec cX6_laySeats 45 = some (.iload_n 2, 46, 2, 0) := by decide +kernel
theorem xX6_laySeats_46 : xdec cX6_laySeats 46 = some (.aload_n 0, 47, 0, 0) := by decide +kernel
theorem xX6_laySeats_47 : xdec cX6_laySeats 47 = some (.getfield 125, 50, 125, 0) := by decide +kernel
theorem xX6_laySeats_50 : xdec cX6_laySeats 50 = some (.if_icmp .ne 7, 53, 57, 0) := by decide +kernel
theorem xX6_laySeats_53 : xdec cX6_laySeats 53 = some (.iconst 1, 54, 0, 1) := by decide +kernel
theorem xX6_laySeats_54 : xdec cX6_laySeats 54 = some (.goto 4, 57, 58, 0) := by decide +kernel
theorem xX6_laySeats_57 : xdec cX6_laySeats 57 = some (.iconst 0, 58, 0, 0) := by decide +kernel
theorem xX6_laySeats_58 : xdec cX6_laySeats 58 = some (.istore 4, 60, 4, 0) := by decide +kernel
theorem xX6_laySeats_60 : xdec cX6_laySeats 60 = some (.iconst 0, 61, 0, 0) := by decide +kernel
theorem xX6_laySeats_61 : xdec cX6_laySeats 61 = some (.istore 5, 63, 5, 0) := by decide +kernel
theorem xX6_laySeats_63 : xdec cX6_laySeats 63 = some (.iload 5, 65, 5, 0) := by decide +kernel
theorem xX6_laySeats_65 : xdec cX6_laySeats 65 = some (.aload_n 0, 66, 0, 0) := by decide +kernel
theorem xX6_laySeats_66 : xdec cX6_laySeats 66 = some (.getfield 85, 69, 85, 0) := by decide +kernel
theorem xX6_laySeats_69 : xdec cX6_laySeats 69 = some (.if_icmp .ge 85, 72, 154, 0) := by decide +kernel
theorem xX6_laySeats_72 : xdec cX6_laySeats 72 = some (.iload 4, 74, 4, 0) := by decide +kernel
theorem xX6_laySeats_74 : xdec cX6_laySeats 74 = some (.ifCond .ne 80, 77, 154, 0) := by decide +kernel
theorem xX6_laySeats_77 : xdec cX6_laySeats 77 = some (.iload_n 3, 78, 3, 0) := by decide +kernel
theorem xX6_laySeats_78 : xdec cX6_laySeats 78 = some (.bipush 7, 80, 0, 7) := by decide +kernel
theorem xX6_laySeats_80 : xdec cX6_laySeats 80 = some (.if_icmp .ge 74, 83, 154, 0) := by decide +kernel
theorem xX6_laySeats_83 : xdec cX6_laySeats 83 = some (.aload_n 0, 84, 0, 0) := by decide +kernel
theorem xX6_laySeats_84 : xdec cX6_laySeats 84 = some (.getfield 125, 87, 125, 0) := by decide +kernel
theorem xX6_laySeats_87 : xdec cX6_laySeats 87 = some (.iload_n 2, 88, 2, 0) := by decide +kernel
theorem xX6_laySeats_88 : xdec cX6_laySeats 88 = some (.iconst (-1), 89, 0, (-1)) := by decide +kernel
theorem xX6_laySeats_89 : xdec cX6_laySeats 89 = some (.ixor, 90, 0, 0) := by decide +kernel
theorem xX6_laySeats_90 : xdec cX6_laySeats 90 = some (.iand, 91, 0, 0) := by decide +kernel
theorem xX6_laySeats_91 : xdec cX6_laySeats 91 = some (.iload 5, 93, 5, 0) := by decide +kernel
theorem xX6_laySeats_93 : xdec cX6_laySeats 93 = some (.invokestatic 105, 96, 0, 0) := by decide +kernel
theorem xX6_laySeats_96 : xdec cX6_laySeats 96 = some (.ifCond .eq 17, 99, 113, 0) := by decide +kernel
theorem xX6_laySeats_99 : xdec cX6_laySeats 99 = some (.aload_n 0, 100, 0, 0) := by decide +kernel
theorem xX6_laySeats_100 : xdec cX6_laySeats 100 = some (.iload_n 3, 101, 3, 0) := by decide +kernel
theorem xX6_laySeats_101 : xdec cX6_laySeats 101 = some (.iload 5, 103, 5, 0) := by decide +kernel
theorem xX6_laySeats_103 : xdec cX6_laySeats 103 = some (.invokevirtual 249, 106, 0, 0) := by decide +kernel
theorem xX6_laySeats_106 : xdec cX6_laySeats 106 = some (.ifCond .eq 7, 109, 113, 0) := by decide +kernel
theorem xX6_laySeats_109 : xdec cX6_laySeats 109 = some (.iconst 1, 110, 0, 1) := by decide +kernel
theorem xX6_laySeats_110 : xdec cX6_laySeats 110 = some (.goto 4, 113, 114, 0) := by decide +kernel
theorem xX6_laySeats_113 : xdec cX6_laySeats 113 = some (.iconst 0, 114, 0, 0) := by decide +kernel
theorem xX6_laySeats_114 : xdec cX6_laySeats 114 = some (.istore 6, 116, 6, 0) := by decide +kernel
theorem xX6_laySeats_116 : xdec cX6_laySeats 116 = some (.iload 6, 118, 6, 0) := by decide +kernel
theorem xX6_laySeats_118 : xdec cX6_laySeats 118 = some (.ifCond .eq 27, 121, 145, 0) := by decide +kernel
theorem xX6_laySeats_121 : xdec cX6_laySeats 121 = some (.aload_n 0, 122, 0, 0) := by decide +kernel
theorem xX6_laySeats_122 : xdec cX6_laySeats 122 = some (.getfield 65, 125, 65, 0) := by decide +kernel
theorem xX6_laySeats_125 : xdec cX6_laySeats 125 = some (.bipush 8, 127, 0, 8) := by decide +kernel
theorem xX6_laySeats_127 : xdec cX6_laySeats 127 = some (.iload_n 2, 128, 2, 0) := by decide +kernel
theorem xX6_laySeats_128 : xdec cX6_laySeats 128 = some (.iconst 1, 129, 0, 1) := by decide +kernel
theorem xX6_laySeats_129 : xdec cX6_laySeats 129 = some (.iload 5, 131, 5, 0) := by decide +kernel
theorem xX6_laySeats_131 : xdec cX6_laySeats 131 = some (.ishl, 132, 0, 0) := by decide +kernel
theorem xX6_laySeats_132 : xdec cX6_laySeats 132 = some (.ior, 133, 0, 0) := by decide +kernel
theorem xX6_laySeats_133 : xdec cX6_laySeats 133 = some (.imul, 134, 0, 0) := by decide +kernel
theorem xX6_laySeats_134 : xdec cX6_laySeats 134 = some (.iload 5, 136, 5, 0) := by decide +kernel
theorem xX6_laySeats_136 : xdec cX6_laySeats 136 = some (.iadd, 137, 0, 0) := by decide +kernel
theorem xX6_laySeats_137 : xdec cX6_laySeats 137 = some (.baload, 138, 0, 0) := by decide +kernel
theorem xX6_laySeats_138 : xdec cX6_laySeats 138 = some (.ifCond .eq 7, 141, 145, 0) := by decide +kernel
theorem xX6_laySeats_141 : xdec cX6_laySeats 141 = some (.iconst 1, 142, 0, 1) := by decide +kernel
theorem xX6_laySeats_142 : xdec cX6_laySeats 142 = some (.goto 4, 145, 146, 0) := by decide +kernel
theorem xX6_laySeats_145 : xdec cX6_laySeats 145 = some (.iconst 0, 146, 0, 0) := by decide +kernel
theorem xX6_laySeats_146 : xdec cX6_laySeats 146 = some (.istore 4, 148, 4, 0) := by decide +kernel
theorem xX6_laySeats_148 : xdec cX6_laySeats 148 = some (.iinc 5 1, 151, 5, 1) := by decide +kernel
theorem xX6_laySeats_151 : xdec cX6_laySeats 151 = some (.goto (-88), 154, 63, 0) := by decide +kernel
theorem xX6_laySeats_154 : xdec cX6_laySeats 154 = some (.aload_n 0, 155, 0, 0) := by decide +kernel
theorem xX6_laySeats_155 : xdec cX6_laySeats 155 = some (.getfield 65, 158, 65, 0) := by decide +kernel
theorem xX6_laySeats_158 : xdec cX6_laySeats 158 = some (.iload_n 1, 159, 1, 0) := by decide +kernel
theorem xX6_laySeats_159 : xdec cX6_laySeats 159 = some (.iload 4, 161, 4, 0) := by decide +kernel
theorem xX6_laySeats_161 : xdec cX6_laySeats 161 = some (.bastore, 162, 0, 0) := by decide +kernel
theorem xX6_laySeats_162 : xdec cX6_laySeats 162 = some (.iinc 1 (-1), 165, 1, (-1)) := by decide +kernel
theorem xX6_laySeats_165 : xdec cX6_laySeats 165 = some (.goto (-134), 168, 31, 0) := by decide +kernel
theorem xX6_laySeats_168 : xdec cX6_laySeats 168 = some (.return_, 169, 0, 0) := by decide +kernel
theorem xX6_seats_0 : xdec cX6_seats 0 = some (.aload_n 0, 1, 0, 0) := by decide +kernel
theorem xX6_seats_1 : xdec cX6_seats 1 = some (.iconst 0, 2, 0, 0) := by decide +kernel
theorem xX6_seats_2 : xdec cX6_seats 2 = some (.putfield 75, 5, 75, 0) := by decide +kernel
theorem xX6_seats_5 : xdec cX6_seats 5 = some (.iload_n 1, 6, 1, 0) := by decide +kernel
theorem xX6_seats_6 : xdec cX6_seats 6 = some (.ifCond .ge 5, 9, 11, 0) := by decide +kernel
theorem xX6_seats_9 : xdec cX6_seats 9 = some (.iconst (-1), 10, 0, (-1)) := by decide +kernel
theorem xX6_seats_10 : xdec cX6_seats 10 = some (.ireturn, 11, 0, 0) := by decide +kernel
theorem xX6_seats_11 : xdec cX6_seats 11 = some (.aload_n 0, 12, 0, 0) := by decide +kernel
theorem xX6_seats_12 : xdec cX6_seats 12 = some (.invokevirtual 252, 15, 0, 0) := by decide +kernel
theorem xX6_seats_15 : xdec cX6_seats 15 = some (.iconst 0, 16, 0, 0) := by decide +kernel
theorem xX6_seats_16 : xdec cX6_seats 16 = some (.istore_n 2, 17, 2, 0) := by decide +kernel
theorem xX6_seats_17 : xdec cX6_seats 17 = some (.bipush 7, 19, 0, 7) := by decide +kernel
theorem xX6_seats_19 : xdec cX6_seats 19 = some (.istore_n 3, 20, 3, 0) := by decide +kernel
theorem xX6_seats_20 : xdec cX6_seats 20 = some (.iconst 0, 21, 0, 0) := by decide +kernel
theorem xX6_seats_21 : xdec cX6_seats 21 = some (.istore 4, 23, 4, 0) := by decide +kernel
theorem xX6_seats_23 : xdec cX6_seats 23 = some (.iload 4, 25, 4, 0) := by decide +kernel
theorem xX6_seats_25 : xdec cX6_seats 25 = some (.iload_n 1, 26, 1, 0) := by decide +kernel
theorem xX6_seats_26 : xdec cX6_seats 26 = some (.if_icmp .gt 130, 29, 156, 0) := by decide +kernel
theorem xX6_seats_29 : xdec cX6_seats 29 = some (.iload 4, 31, 4, 0) := by decide +kernel
theorem xX6_seats_31 : xdec cX6_seats 31 = some (.bipush 7, 33, 0, 7) := by decide +kernel
theorem xX6_seats_33 : xdec cX6_seats 33 = some (.if_icmp .ge 123, 36, 156, 0) := by decide +kernel
theorem xX6_seats_36 : xdec cX6_seats 36 = some (.bipush (-4), 38, 0, (-4)) := by decide +kernel
theorem xX6_seats_38 : xdec cX6_seats 38 = some (.istore 5, 40, 5, 0) := by decide +kernel
theorem xX6_seats_40 : xdec cX6_seats 40 = some (.aload_n 0, 41, 0, 0) := by decide +kernel
theorem xX6_seats_41 : xdec cX6_seats 41 = some (.getfield 85, 44, 85, 0) := by decide +kernel
theorem xX6_seats_44 : xdec cX6_seats 44 = some (.iconst 1, 45, 0, 1) := by decide +kernel
theorem xX6_seats_45 : xdec cX6_seats 45 = some (.isub, 46, 0, 0) := by decide +kernel
theorem xX6_seats_46 : xdec cX6_seats 46 = some (.istore 6, 48, 6, 0) := by decide +kernel
theorem xX6_seats_48 : xdec cX6_seats 48 = some (.iload 6, 50, 6, 0) := by decide +kernel
theorem xX6_seats_50 : xdec cX6_seats 50 = some (.ifCond .lt 82, 53, 132, 0) := by decide +kernel
theorem xX6_seats_53 : xdec cX6_seats 53 = some (.aload_n 0, 54, 0, 0) := by decide +kernel
theorem xX6_seats_54 : xdec cX6_seats 54 = some (.getfield 125, 57, 125, 0) := by decide +kernel
theorem xX6_seats_57 : xdec cX6_seats 57 = some (.iload_n 2, 58, 2, 0) := by decide +kernel
theorem xX6_seats_58 : xdec cX6_seats 58 = some (.iconst (-1), 59, 0, (-1)) := by decide +kernel
theorem xX6_seats_59 : xdec cX6_seats 59 = some (.ixor, 60, 0, 0) := by decide +kernel
theorem xX6_seats_60 : xdec cX6_seats 60 = some (.iand, 61, 0, 0) := by decide +kernel
theorem xX6_seats_61 : xdec cX6_seats 61 = some (.iload 6, 63, 6, 0) := by decide +kernel
theorem xX6_seats_63 : xdec cX6_seats 63 = some (.invokestatic 105, 66, 0, 0) := by decide +kernel
theorem xX6_seats_66 : xdec cX6_seats 66 = some (.ifCond .eq 23, 69, 89, 0) := by decide +kernel
theorem xX6_seats_69 : xdec cX6_seats 69 = some (.iload_n 3, 70, 3, 0) := by decide +kernel
theorem xX6_seats_70 : xdec cX6_seats 70 = some (.bipush 7, 72, 0, 7) := by decide +kernel
theorem xX6_seats_72 : xdec cX6_seats 72 = some (.if_icmp .eq 13, 75, 85, 0) := by decide +kernel
theorem xX6_seats_75 : xdec cX6_seats 75 = some (.aload_n 0, 76, 0, 0) := by decide +kernel
theorem xX6_seats_76 : xdec cX6_seats 76 = some (.iload_n 3, 77, 3, 0) := by decide +kernel
theorem xX6_seats_77 : xdec cX6_seats 77 = some (.iload 6, 79, 6, 0) := by decide +kernel
theorem xX6_seats_79 : xdec cX6_seats 79 = some (.invokevirtual 249, 82, 0, 0) := by decide +kernel
theorem xX6_seats_82 : xdec cX6_seats 82 = some (.ifCond .eq 7, 85, 89, 0) := by decide +kernel
theorem xX6_seats_85 : xdec cX6_seats 85 = some (.iconst 1, 86, 0, 1) := by decide +kernel
theorem xX6_seats_86 : xdec cX6_seats 86 = some (.goto 4, 89, 90, 0) := by decide +kernel
theorem xX6_seats_89 : xdec cX6_seats 89 = some (.iconst 0, 90, 0, 0) := by decide +kernel
theorem xX6_seats_90 : xdec cX6_seats 90 = some (.istore 7, 92, 7, 0) := by decide +kernel
theorem xX6_seats_92 : xdec cX6_seats 92 = some (.iload 7, 94, 7, 0) := by decide +kernel
theorem xX6_seats_94 : xdec cX6_seats 94 = some (.ifCond .eq 28, 97, 122, 0) := by decide +kernel
theorem xX6_seats_97 : xdec cX6_seats 97 = some (.aload_n 0, 98, 0, 0) := by decide +kernel
theorem xX6_seats_98 : xdec cX6_seats 98 = some (.getfield 65, 101, 65, 0) := by decide +kernel
theorem xX6_seats_101 : xdec cX6_seats 101 = some (.bipush 8, 103, 0, 8) := by decide +kernel
theorem xX6_seats_103 : xdec cX6_seats 103 = some (.iload_n 2, 104, 2, 0) := by decide +kernel
theorem xX6_seats_104 : xdec cX6_seats 104 = some (.iconst 1, 105, 0, 1) := by decide +kernel
theorem xX6_seats_105 : xdec cX6_seats 105 = some (.iload 6, 107, 6, 0) := by decide +kernel
theorem xX6_seats_107 : xdec cX6_seats 107 = some (.ishl, 108, 0, 0) := by decide +kernel
theorem xX6_seats_108 : xdec cX6_seats 108 = some (.ior, 109, 0, 0) := by decide +kernel
theorem xX6_seats_109 : xdec cX6_seats 109 = some (.imul, 110, 0, 0) := by decide +kernel
theorem xX6_seats_110 : xdec cX6_seats 110 = some (.iload 6, 112, 6, 0) := by decide +kernel
theorem xX6_seats_112 : xdec cX6_seats 112 = some (.iadd, 113, 0, 0) := by decide +kernel
theorem xX6_seats_113 : xdec cX6_seats 113 = some (.baload, 114, 0, 0) := by decide +kernel
theorem xX6_seats_114 : xdec cX6_seats 114 = some (.ifCond .eq 8, 117, 122, 0) := by decide +kernel
theorem xX6_seats_117 : xdec cX6_seats 117 = some (.iload 6, 119, 6, 0) := by decide +kernel
theorem xX6_seats_119 : xdec cX6_seats 119 = some (.goto 5, 122, 124, 0) := by decide +kernel
theorem xX6_seats_122 : xdec cX6_seats 122 = some (.iload 5, 124, 5, 0) := by decide +kernel
theorem xX6_seats_124 : xdec cX6_seats 124 = some (.istore 5, 126, 5, 0) := by decide +kernel
theorem xX6_seats_126 : xdec cX6_seats 126 = some (.iinc 6 (-1), 129, 6, (-1)) := by decide +kernel
theorem xX6_seats_129 : xdec cX6_seats 129 = some (.goto (-81), 132, 48, 0) := by decide +kernel
theorem xX6_seats_132 : xdec cX6_seats 132 = some (.iload 5, 134, 5, 0) := by decide +kernel
theorem xX6_seats_134 : xdec cX6_seats 134 = some (.ifCond .ge 6, 137, 140, 0) := by decide +kernel
theorem xX6_seats_137 : xdec cX6_seats 137 = some (.bipush (-4), 139, 0, (-4)) := by decide +kernel
theorem xX6_seats_139 : xdec cX6_seats 139 = some (.ireturn, 140, 0, 0) := by decide +kernel
theorem xX6_seats_140 : xdec cX6_seats 140 = some (.iload_n 2, 141, 2, 0) := by decide +kernel
theorem xX6_seats_141 : xdec cX6_seats 141 = some (.iconst 1, 142, 0, 1) := by decide +kernel
theorem xX6_seats_142 : xdec cX6_seats 142 = some (.iload 5, 144, 5, 0) := by decide +kernel
theorem xX6_seats_144 : xdec cX6_seats 144 = some (.ishl, 145, 0, 0) := by decide +kernel
theorem xX6_seats_145 : xdec cX6_seats 145 = some (.ior, 146, 0, 0) := by decide +kernel
theorem xX6_seats_146 : xdec cX6_seats 146 = some (.istore_n 2, 147, 2, 0) := by decide +kernel
theorem xX6_seats_147 : xdec cX6_seats 147 = some (.iload 5, 149, 5, 0) := by decide +kernel
theorem xX6_seats_149 : xdec cX6_seats 149 = some (.istore_n 3, 150, 3, 0) := by decide +kernel
theorem xX6_seats_150 : xdec cX6_seats 150 = some (.iinc 4 1, 153, 4, 1) := by decide +kernel
theorem xX6_seats_153 : xdec cX6_seats 153 = some (.goto (-130), 156, 23, 0) := by decide +kernel
theorem xX6_seats_156 : xdec cX6_seats 156 = some (.iload_n 1, 157, 1, 0) := by decide +kernel
theorem xX6_seats_157 : xdec cX6_seats 157 = some (.bipush 7, 159, 0, 7) := by decide +kernel
theorem xX6_seats_159 : xdec cX6_seats 159 = some (.if_icmp .ge 7, 162, 166, 0) := by decide +kernel
theorem xX6_seats_162 : xdec cX6_seats 162 = some (.iload_n 3, 163, 3, 0) := by decide +kernel
theorem xX6_seats_163 : xdec cX6_seats 163 = some (.goto 5, 166, 168, 0) := by decide +kernel
theorem xX6_seats_166 : xdec cX6_seats 166 = some (.bipush (-4), 168, 0, (-4)) := by decide +kernel
theorem xX6_seats_168 : xdec cX6_seats 168 = some (.ireturn, 169, 0, 0) := by decide +kernel
theorem xX6_sameTwos_0 : xdec cX6_sameTwos 0 = some (.iconst 0, 1, 0, 0) := by decide +kernel
theorem xX6_sameTwos_1 : xdec cX6_sameTwos 1 = some (.istore_n 1, 2, 1, 0) := by decide +kernel
theorem xX6_sameTwos_2 : xdec cX6_sameTwos 2 = some (.iconst 0, 3, 0, 0) := by decide +kernel
theorem xX6_sameTwos_3 : xdec cX6_sameTwos 3 = some (.istore_n 2, 4, 2, 0) := by decide +kernel
theorem xX6_sameTwos_4 : xdec cX6_sameTwos 4 = some (.iload_n 2, 5, 2, 0) := by decide +kernel
theorem xX6_sameTwos_5 : xdec cX6_sameTwos 5 = some (.aload_n 0, 6, 0, 0) := by decide +kernel
theorem xX6_sameTwos_6 : xdec cX6_sameTwos 6 = some (.getfield 85, 9, 85, 0) := by decide +kernel
theorem xX6_sameTwos_9 : xdec cX6_sameTwos 9 = some (.if_icmp .ge 56, 12, 65, 0) := by decide +kernel
theorem xX6_sameTwos_12 : xdec cX6_sameTwos 12 = some (.iload_n 2, 13, 2, 0) := by decide +kernel
theorem xX6_sameTwos_13 : xdec cX6_sameTwos 13 = some (.iconst 1, 14, 0, 1) := by decide +kernel
theorem xX6_sameTwos_14 : xdec cX6_sameTwos 14 = some (.iadd, 15, 0, 0) := by decide +kernel
theorem xX6_sameTwos_15 : xdec cX6_sameTwos 15 = some (.istore_n 3, 16, 3, 0) := by decide +kernel
theorem xX6_sameTwos_16 : xdec cX6_sameTwos 16 = some (.iload_n 3, 17, 3, 0) := by decide +kernel
theorem xX6_sameTwos_17 : xdec cX6_sameTwos 17 = some (.aload_n 0, 18, 0, 0) := by decide +kernel
theorem xX6_sameTwos_18 : xdec cX6_sameTwos 18 = some (.getfield 85, 21, 85, 0) := by decide +kernel
theorem xX6_sameTwos_21 : xdec cX6_sameTwos 21 = some (.if_icmp .ge 38, 24, 59, 0) := by decide +kernel
theorem xX6_sameTwos_24 : xdec cX6_sameTwos 24 = some (.iload_n 1, 25, 1, 0) := by decide +kernel
theorem xX6_sameTwos_25 : xdec cX6_sameTwos 25 = some (.aload_n 0, 26, 0, 0) := by decide +kernel
theorem xX6_sameTwos_26 : xdec cX6_sameTwos 26 = some (.iload_n 2, 27, 2, 0) := by decide +kernel
theorem xX6_sameTwos_27 : xdec cX6_sameTwos 27 = some (.invokevirtual 238, 30, 0, 0) := by decide +kernel
theorem xX6_sameTwos_30 : xdec cX6_sameTwos 30 = some (.ifCond .lt 20, 33, 50, 0) := by decide +kernel
theorem xX6_sameTwos_33 : xdec cX6_sameTwos 33 = some (.aload_n 0, 34, 0, 0) := by decide +kernel
theorem xX6_sameTwos_34 : xdec cX6_sameTwos 34 = some (.iload_n 2, 35, 2, 0) := by decide +kernel
theorem xX6_sameTwos_35 : xdec cX6_sameTwos 35 = some (.invokevirtual 238, 38, 0, 0) := by decide +kernel
theorem xX6_sameTwos_38 : xdec cX6_sameTwos 38 = some (.aload_n 0, 39, 0, 0) := by decide +kernel
theorem xX6_sameTwos_39 : xdec cX6_sameTwos 39 = some (.iload_n 3, 40, 3, 0) := by decide +kernel
theorem xX6_sameTwos_40 : xdec cX6_sameTwos 40 = some (.invokevirtual 238, 43, 0, 0) := by decide +kernel
theorem xX6_sameTwos_43 : xdec cX6_sameTwos 43 = some (.if_icmp .ne 7, 46, 50, 0) := by decide +kernel
theorem xX6_sameTwos_46 : xdec cX6_sameTwos 46 = some (.iconst 1, 47, 0, 1) := by decide +kernel
theorem xX6_sameTwos_47 : xdec cX6_sameTwos 47 = some (.goto 4, 50, 51, 0) := by decide +kernel
theorem xX6_sameTwos_50 : xdec cX6_sameTwos 50 = some (.iconst 0, 51, 0, 0) := by decide +kernel
theorem xX6_sameTwos_51 : xdec cX6_sameTwos 51 = some (.iadd, 52, 0, 0) := by decide +kernel
theorem xX6_sameTwos_52 : xdec cX6_sameTwos 52 = some (.istore_n 1, 53, 1, 0) := by decide +kernel
theorem xX6_sameTwos_53 : xdec cX6_sameTwos 53 = some (.iinc 3 1, 56, 3, 1) := by decide +kernel
theorem xX6_sameTwos_56 : xdec cX6_sameTwos 56 = some (.goto (-40), 59, 16, 0) := by decide +kernel
theorem xX6_sameTwos_59 : xdec cX6_sameTwos 59 = some (.iinc 2 1, 62, 2, 1) := by decide +kernel
theorem xX6_sameTwos_62 : xdec cX6_sameTwos 62 = some (.goto (-58), 65, 4, 0) := by decide +kernel
theorem xX6_sameTwos_65 : xdec cX6_sameTwos 65 = some (.iload_n 1, 66, 1, 0) := by decide +kernel
theorem xX6_sameTwos_66 : xdec cX6_sameTwos 66 = some (.ireturn, 67, 0, 0) := by decide +kernel
theorem xX6_wellest_0 : xdec cX6_wellest 0 = some (.bipush (-4), 2, 0, (-4)) := by decide +kernel
theorem xX6_wellest_2 : xdec cX6_wellest 2 = some (.istore_n 1, 3, 1, 0) := by decide +kernel
theorem xX6_wellest_3 : xdec cX6_wellest 3 = some (.iconst 0, 4, 0, 0) := by decide +kernel
theorem xX6_wellest_4 : xdec cX6_wellest 4 = some (.istore_n 2, 5, 2, 0) := by decide +kernel
theorem xX6_wellest_5 : xdec cX6_wellest 5 = some (.iload_n 2, 6, 2, 0) := by decide +kernel
theorem xX6_wellest_6 : xdec cX6_wellest 6 = some (.aload_n 0, 7, 0, 0) := by decide +kernel
theorem xX6_wellest_7 : xdec cX6_wellest 7 = some (.getfield 85, 10, 85, 0) := by decide +kernel
theorem xX6_wellest_10 : xdec cX6_wellest 10 = some (.if_icmp .ge 45, 13, 55, 0) := by decide +kernel
theorem xX6_wellest_13 : xdec cX6_wellest 13 = some (.aload_n 0, 14, 0, 0) := by decide +kernel
theorem xX6_wellest_14 : xdec cX6_wellest 14 = some (.getfield 125, 17, 125, 0) := by decide +kernel
theorem xX6_wellest_17 : xdec cX6_wellest 17 = some (.iload_n 2, 18, 2, 0) := by decide +kernel
theorem xX6_wellest_18 : xdec cX6_wellest 18 = some (.invokestatic 105, 21, 0, 0) := by decide +kernel
theorem xX6_wellest_21 : xdec cX6_wellest 21 = some (.ifCond .eq 26, 24, 47, 0) := by decide +kernel
theorem xX6_wellest_24 : xdec cX6_wellest 24 = some (.iload_n 1, 25, 1, 0) := by decide +kernel
theorem xX6_wellest_25 : xdec cX6_wellest 25 = some (.ifCond .lt 18, 28, 43, 0) := by decide +kernel
theorem xX6_wellest_28 : xdec cX6_wellest 28 = some (.aload_n 0, 29, 0, 0) := by decide +kernel
theorem xX6_wellest_29 : xdec cX6_wellest 29 = some (.getfield 25, 32, 25, 0) := by decide +kernel
theorem xX6_wellest_32 : xdec cX6_wellest 32 = some (.iload_n 2, 33, 2, 0) := by decide +kernel
theorem xX6_wellest_33 : xdec cX6_wellest 33 = some (.iaload, 34, 0, 0) := by decide +kernel
theorem xX6_wellest_34 : xdec cX6_wellest 34 = some (.aload_n 0, 35, 0, 0) := by decide +kernel
theorem xX6_wellest_35 : xdec cX6_wellest 35 = some (.getfield 25, 38, 25, 0) := by decide +kernel
theorem xX6_wellest_38 : xdec cX6_wellest 38 = some (.iload_n 1, 39, 1, 0) := by decide +kernel
theorem xX6_wellest_39 : xdec cX6_wellest 39 = some (.iaload, 40, 0, 0) := by decide +kernel
theorem xX6_wellest_40 : xdec cX6_wellest 40 = some (.if_icmp .le 7, 43, 47, 0) := by decide +kernel
theorem xX6_wellest_43 : xdec cX6_wellest 43 = some (.iload_n 2, 44, 2, 0) := by decide +kernel
theorem xX6_wellest_44 : xdec cX6_wellest 44 = some (.goto 4, 47, 48, 0) := by decide +kernel
theorem xX6_wellest_47 : xdec cX6_wellest 47 = some (.iload_n 1, 48, 1, 0) := by decide +kernel
theorem xX6_wellest_48 : xdec cX6_wellest 48 = some (.istore_n 1, 49, 1, 0) := by decide +kernel
theorem xX6_wellest_49 : xdec cX6_wellest 49 = some (.iinc 2 1, 52, 2, 1) := by decide +kernel
theorem xX6_wellest_52 : xdec cX6_wellest 52 = some (.goto (-47), 55, 5, 0) := by decide +kernel
theorem xX6_wellest_55 : xdec cX6_wellest 55 = some (.iload_n 1, 56, 1, 0) := by decide +kernel
theorem xX6_wellest_56 : xdec cX6_wellest 56 = some (.ireturn, 57, 0, 0) := by decide +kernel
theorem xX6_fullestPlate_0 : xdec cX6_fullestPlate 0 = some (.iconst 0, 1, 0, 0) := by decide +kernel
theorem xX6_fullestPlate_1 : xdec cX6_fullestPlate 1 = some (.istore_n 1, 2, 1, 0) := by decide +kernel
theorem xX6_fullestPlate_2 : xdec cX6_fullestPlate 2 = some (.iconst 1, 3, 0, 1) := by decide +kernel
theorem xX6_fullestPlate_3 : xdec cX6_fullestPlate 3 = some (.istore_n 2, 4, 2, 0) := by decide +kernel
theorem xX6_fullestPlate_4 : xdec cX6_fullestPlate 4 = some (.iload_n 2, 5, 2, 0) := by decide +kernel
theorem xX6_fullestPlate_5 : xdec cX6_fullestPlate 5 = some (.bipush 10, 7, 0, 10) := by decide +kernel
theorem xX6_fullestPlate_7 : xdec cX6_fullestPlate 7 = some (.if_icmp .ge 30, 10, 37, 0) := by decide +kernel
theorem xX6_fullestPlate_10 : xdec cX6_fullestPlate 10 = some (.aload_n 0, 11, 0, 0) := by decide +kernel
theorem xX6_fullestPlate_11 : xdec cX6_fullestPlate 11 = some (.getfield 7, 14, 7, 0) := by decide +kernel
theorem xX6_fullestPlate_14 : xdec cX6_fullestPlate 14 = some (.iload_n 2, 15, 2, 0) := by decide +kernel
theorem xX6_fullestPlate_15 : xdec cX6_fullestPlate 15 = some (.iaload, 16, 0, 0) := by decide +kernel
theorem xX6_fullestPlate_16 : xdec cX6_fullestPlate 16 = some (.aload_n 0, 17, 0, 0) := by decide +kernel
theorem xX6_fullestPlate_17 : xdec cX6_fullestPlate 17 = some (.getfield 7, 20, 7, 0) := by decide +kernel
theorem xX6_fullestPlate_20 : xdec cX6_fullestPlate 20 = some (.iload_n 1, 21, 1, 0) := by decide +kernel
theorem xX6_fullestPlate_21 : xdec cX6_fullestPlate 21 = some (.iaload, 22, 0, 0) := by decide +kernel
theorem xX6_fullestPlate_22 : xdec cX6_fullestPlate 22 = some (.if_icmp .le 7, 25, 29, 0) := by decide +kernel
theorem xX6_fullestPlate_25 : xdec cX6_fullestPlate 25 = some (.iload_n 2, 26, 2, 0) := by decide +kernel
theorem xX6_fullestPlate_26 : xdec cX6_fullestPlate 26 = some (.goto 4, 29, 30, 0) := by decide +kernel
theorem xX6_fullestPlate_29 : xdec cX6_fullestPlate 29 = some (.iload_n 1, 30, 1, 0) := by decide +kernel
theorem xX6_fullestPlate_30 : xdec cX6_fullestPlate 30 = some (.istore_n 1, 31, 1, 0) := by decide +kernel
theorem xX6_fullestPlate_31 : xdec cX6_fullestPlate 31 = some (.iinc 2 1, 34, 2, 1) := by decide +kernel
theorem xX6_fullestPlate_34 : xdec cX6_fullestPlate 34 = some (.goto (-30), 37, 4, 0) := by decide +kernel
theorem xX6_fullestPlate_37 : xdec cX6_fullestPlate 37 = some (.iload_n 1, 38, 1, 0) := by decide +kernel
theorem xX6_fullestPlate_38 : xdec cX6_fullestPlate 38 = some (.ireturn, 39, 0, 0) := by decide +kernel
theorem xX6_emptyPlates_0 : xdec cX6_emptyPlates 0 = some (.iconst 0, 1, 0, 0) := by decide +kernel
theorem xX6_emptyPlates_1 : xdec cX6_emptyPlates 1 = some (.istore_n 1, 2, 1, 0) := by decide +kernel
theorem xX6_emptyPlates_2 : xdec cX6_emptyPlates 2 = some (.iconst 0, 3, 0, 0) := by decide +kernel
theorem xX6_emptyPlates_3 : xdec cX6_emptyPlates 3 = some (.istore_n 2, 4, 2, 0) := by decide +kernel
theorem xX6_emptyPlates_4 : xdec cX6_emptyPlates 4 = some (.iload_n 2, 5, 2, 0) := by decide +kernel
theorem xX6_emptyPlates_5 : xdec cX6_emptyPlates 5 = some (.bipush 10, 7, 0, 10) := by decide +kernel
theorem xX6_emptyPlates_7 : xdec cX6_emptyPlates 7 = some (.if_icmp .ge 28, 10, 35, 0) := by decide +kernel
theorem xX6_emptyPlates_10 : xdec cX6_emptyPlates 10 = some (.iload_n 1, 11, 1, 0) := by decide +kernel
theorem xX6_emptyPlates_11 : xdec cX6_emptyPlates 11 = some (.aload_n 0, 12, 0, 0) := by decide +kernel
theorem xX6_emptyPlates_12 : xdec cX6_emptyPlates 12 = some (.getfield 7, 15, 7, 0) := by decide +kernel
theorem xX6_emptyPlates_15 : xdec cX6_emptyPlates 15 = some (.iload_n 2, 16, 2, 0) := by decide +kernel
theorem xX6_emptyPlates_16 : xdec cX6_emptyPlates 16 = some (.iaload, 17, 0, 0) := by decide +kernel
theorem xX6_emptyPlates_17 : xdec cX6_emptyPlates 17 = some (.ifCond .ne 9, 20, 26, 0) := by decide +kernel
theorem xX6_emptyPlates_20 : xdec cX6_emptyPlates 20 = some (.iconst 1, 21, 0, 1) := by decide +kernel
theorem xX6_emptyPlates_21 : xdec cX6_emptyPlates 21 = some (.iload_n 2, 22, 2, 0) := by decide +kernel
theorem xX6_emptyPlates_22 : xdec cX6_emptyPlates 22 = some (.ishl, 23, 0, 0) := by decide +kernel
theorem xX6_emptyPlates_23 : xdec cX6_emptyPlates 23 = some (.goto 4, 26, 27, 0) := by decide +kernel
theorem xX6_emptyPlates_26 : xdec cX6_emptyPlates 26 = some (.iconst 0, 27, 0, 0) := by decide +kernel
theorem xX6_emptyPlates_27 : xdec cX6_emptyPlates 27 = some (.ior, 28, 0, 0) := by decide +kernel
theorem xX6_emptyPlates_28 : xdec cX6_emptyPlates 28 = some (.istore_n 1, 29, 1, 0) := by decide +kernel
theorem xX6_emptyPlates_29 : xdec cX6_emptyPlates 29 = some (.iinc 2 1, 32, 2, 1) := by decide +kernel
theorem xX6_emptyPlates_32 : xdec cX6_emptyPlates 32 = some (.goto (-28), 35, 4, 0) := by decide +kernel
theorem xX6_emptyPlates_35 : xdec cX6_emptyPlates 35 = some (.iload_n 1, 36, 1, 0) := by decide +kernel
theorem xX6_emptyPlates_36 : xdec cX6_emptyPlates 36 = some (.ireturn, 37, 0, 0) := by decide +kernel
theorem xX6_platesOf_0 : xdec cX6_platesOf 0 = some (.iconst 0, 1, 0, 0) := by decide +kernel
theorem xX6_platesOf_1 : xdec cX6_platesOf 1 = some (.istore_n 2, 2, 2, 0) := by decide +kernel
theorem xX6_platesOf_2 : xdec cX6_platesOf 2 = some (.iconst 0, 3, 0, 0) := by decide +kernel
theorem xX6_platesOf_3 : xdec cX6_platesOf 3 = some (.istore_n 3, 4, 3, 0) := by decide +kernel
theorem xX6_platesOf_4 : xdec cX6_platesOf 4 = some (.iload_n 3, 5, 3, 0) := by decide +kernel
theorem xX6_platesOf_5 : xdec cX6_platesOf 5 = some (.aload_n 0, 6, 0, 0) := by decide +kernel
theorem xX6_platesOf_6 : xdec cX6_platesOf 6 = some (.getfield 85, 9, 85, 0) := by decide +kernel
theorem xX6_platesOf_9 : xdec cX6_platesOf 9 = some (.if_icmp .ge 48, 12, 57, 0) := by decide +kernel
theorem xX6_platesOf_12 : xdec cX6_platesOf 12 = some (.iload_n 2, 13, 2, 0) := by decide +kernel
theorem xX6_platesOf_13 : xdec cX6_platesOf 13 = some (.aload_n 0, 14, 0, 0) := by decide +kernel
theorem xX6_platesOf_14 : xdec cX6_platesOf 14 = some (.getfield 125, 17, 125, 0) := by decide +kernel
theorem xX6_platesOf_17 : xdec cX6_platesOf 17 = some (.iload_n 3, 18, 3, 0) := by decide +kernel
theorem xX6_platesOf_18 : xdec cX6_platesOf 18 = some (.invokestatic 105, 21, 0, 0) := by decide +kernel
theorem xX6_platesOf_21 : xdec cX6_platesOf 21 = some (.ifCond .eq 27, 24, 48, 0) := by decide +kernel
theorem xX6_platesOf_24 : xdec cX6_platesOf 24 = some (.iconst 1, 25, 0, 1) := by decide +kernel
theorem xX6_platesOf_25 : xdec cX6_platesOf 25 = some (.iload_n 1, 26, 1, 0) := by decide +kernel
theorem xX6_platesOf_26 : xdec cX6_platesOf 26 = some (.ifCond .eq 12, 29, 38, 0) := by decide +kernel
theorem xX6_platesOf_29 : xdec cX6_platesOf 29 = some (.aload_n 0, 30, 0, 0) := by decide +kernel
theorem xX6_platesOf_30 : xdec cX6_platesOf 30 = some (.getfield 19, 33, 19, 0) := by decide +kernel
theorem xX6_platesOf_33 : xdec cX6_platesOf 33 = some (.iload_n 3, 34, 3, 0) := by decide +kernel
theorem xX6_platesOf_34 : xdec cX6_platesOf 34 = some (.iaload, 35, 0, 0) := by decide +kernel
theorem xX6_platesOf_35 : xdec cX6_platesOf 35 = some (.goto 9, 38, 44, 0) := by decide +kernel
theorem xX6_platesOf_38 : xdec cX6_platesOf 38 = some (.aload_n 0, 39, 0, 0) := by decide +kernel
theorem xX6_platesOf_39 : xdec cX6_platesOf 39 = some (.getfield 22, 42, 22, 0) := by decide +kernel
theorem xX6_platesOf_42 : xdec cX6_platesOf 42 = some (.iload_n 3, 43, 3, 0) := by decide +kernel
theorem xX6_platesOf_43 : xdec cX6_platesOf 43 = some (.iaload, 44, 0, 0) := by decide +kernel
theorem xX6_platesOf_44 : xdec cX6_platesOf 44 = some (.ishl, 45, 0, 0) := by decide +kernel
theorem xX6_platesOf_45 : xdec cX6_platesOf 45 = some (.goto 4, 48, 49, 0) := by decide +kernel
theorem xX6_platesOf_48 : xdec cX6_platesOf 48 = some (.iconst 0, 49, 0, 0) := by decide +kernel
theorem xX6_platesOf_49 : xdec cX6_platesOf 49 = some (.ior, 50, 0, 0) := by decide +kernel
theorem xX6_platesOf_50 : xdec cX6_platesOf 50 = some (.istore_n 2, 51, 2, 0) := by decide +kernel
theorem xX6_platesOf_51 : xdec cX6_platesOf 51 = some (.iinc 3 1, 54, 3, 1) := by decide +kernel
theorem xX6_platesOf_54 : xdec cX6_platesOf 54 = some (.goto (-50), 57, 4, 0) := by decide +kernel
theorem xX6_platesOf_57 : xdec cX6_platesOf 57 = some (.iload_n 2, 58, 2, 0) := by decide +kernel
theorem xX6_platesOf_58 : xdec cX6_platesOf 58 = some (.ireturn, 59, 0, 0) := by decide +kernel
theorem xX6_same_0 : xdec cX6_same 0 = some (.aload_n 0, 1, 0, 0) := by decide +kernel
theorem xX6_same_1 : xdec cX6_same 1 = some (.iconst 0, 2, 0, 0) := by decide +kernel
theorem xX6_same_2 : xdec cX6_same 2 = some (.putfield 75, 5, 75, 0) := by decide +kernel
theorem xX6_same_5 : xdec cX6_same 5 = some (.iload_n 1, 6, 1, 0) := by decide +kernel
theorem xX6_same_6 : xdec cX6_same 6 = some (.tableswitch 79 0 6 #[42, 47, 52, 57, 62, 67, 73], 48, 0, 0) := by decide +kernel
theorem xX6_same_48 : xdec cX6_same 48 = some (.aload_n 0, 49, 0, 0) := by decide +kernel
theorem xX6_same_49 : xdec cX6_same 49 = some (.invokevirtual 255, 52, 0, 0) := by decide +kernel
theorem xX6_same_52 : xdec cX6_same 52 = some (.ireturn, 53, 0, 0) := by decide +kernel
theorem xX6_same_53 : xdec cX6_same 53 = some (.aload_n 0, 54, 0, 0) := by decide +kernel
theorem xX6_same_54 : xdec cX6_same 54 = some (.invokevirtual 258, 57, 0, 0) := by decide +kernel
theorem xX6_same_57 : xdec cX6_same 57 = some (.ireturn, 58, 0, 0) := by decide +kernel
theorem xX6_same_58 : xdec cX6_same 58 = some (.aload_n 0, 59, 0, 0) := by decide +kernel
theorem xX6_same_59 : xdec cX6_same 59 = some (.invokevirtual 261, 62, 0, 0) := by decide +kernel
theorem xX6_same_62 : xdec cX6_same 62 = some (.ireturn, 63, 0, 0) := by decide +kernel
theorem xX6_same_63 : xdec cX6_same 63 = some (.aload_n 0, 64, 0, 0) := by decide +kernel
theorem xX6_same_64 : xdec cX6_same 64 = some (.invokevirtual 264, 67, 0, 0) := by decide +kernel
theorem xX6_same_67 : xdec cX6_same 67 = some (.ireturn, 68, 0, 0) := by decide +kernel
theorem xX6_same_68 : xdec cX6_same 68 = some (.aload_n 0, 69, 0, 0) := by decide +kernel
theorem xX6_same_69 : xdec cX6_same 69 = some (.invokevirtual 267, 72, 0, 0) := by decide +kernel
theorem xX6_same_72 : xdec cX6_same 72 = some (.ireturn, 73, 0, 0) := by decide +kernel
theorem xX6_same_73 : xdec cX6_same 73 = some (.aload_n 0, 74, 0, 0) := by decide +kernel
theorem xX6_same_74 : xdec cX6_same 74 = some (.iconst 1, 75, 0, 1) := by decide +kernel
theorem xX6_same_75 : xdec cX6_same 75 = some (.invokevirtual 270, 78, 0, 0) := by decide +kernel
theorem xX6_same_78 : xdec cX6_same 78 = some (.ireturn, 79, 0, 0) := by decide +kernel
theorem xX6_same_79 : xdec cX6_same 79 = some (.aload_n 0, 80, 0, 0) := by decide +kernel
theorem xX6_same_80 : xdec cX6_same 80 = some (.iconst 0, 81, 0, 0) := by decide +kernel
theorem xX6_same_81 : xdec cX6_same 81 = some (.invokevirtual 270, 84, 0, 0) := by decide +kernel
theorem xX6_same_84 : xdec cX6_same 84 = some (.ireturn, 85, 0, 0) := by decide +kernel
theorem xX6_same_85 : xdec cX6_same 85 = some (.iconst (-1), 86, 0, (-1)) := by decide +kernel
theorem xX6_same_86 : xdec cX6_same 86 = some (.ireturn, 87, 0, 0) := by decide +kernel
theorem xX6_leastOf_0 : xdec cX6_leastOf 0 = some (.iload_n 0, 1, 0, 0) := by decide +kernel
theorem xX6_leastOf_1 : xdec cX6_leastOf 1 = some (.ifCond .ne 9, 4, 10, 0) := by decide +kernel
theorem xX6_leastOf_4 : xdec cX6_leastOf 4 = some (.ldc2_w 274, 7, 274, 0) := by decide +kernel
theorem xX6_leastOf_7 : xdec cX6_leastOf 7 = some (.goto 17, 10, 24, 0) := by decide +kernel
theorem xX6_leastOf_10 : xdec cX6_leastOf 10 = some (.iload_n 0, 11, 0, 0) := by decide +kernel
theorem xX6_leastOf_11 : xdec cX6_leastOf 11 = some (.iconst 1, 12, 0, 1) := by decide +kernel
theorem xX6_leastOf_12 : xdec cX6_leastOf 12 = some (.if_icmp .ne 9, 15, 21, 0) := by decide +kernel
theorem xX6_leastOf_15 : xdec cX6_leastOf 15 = some (.ldc2_w 276, 18, 276, 0) := by decide +kernel
theorem xX6_leastOf_18 : xdec cX6_leastOf 18 = some (.goto 6, 21, 24, 0) := by decide +kernel
theorem xX6_leastOf_21 : xdec cX6_leastOf 21 = some (.ldc2_w 278, 24, 278, 0) := by decide +kernel
theorem xX6_leastOf_24 : xdec cX6_leastOf 24 = some (.lreturn, 25, 0, 0) := by decide +kernel
theorem xX6_isSkipped_0 : xdec cX6_isSkipped 0 = some (.aload_n 0, 1, 0, 0) := by decide +kernel
theorem xX6_isSkipped_1 : xdec cX6_isSkipped 1 = some (.getfield 43, 4, 43, 0) := by decide +kernel
theorem xX6_isSkipped_4 : xdec cX6_isSkipped 4 = some (.bipush 100, 6, 0, 100) := by decide +kernel
theorem xX6_isSkipped_6 : xdec cX6_isSkipped 6 = some (.iload_n 1, 7, 1, 0) := by decide +kernel
theorem xX6_isSkipped_7 : xdec cX6_isSkipped 7 = some (.imul, 8, 0, 0) := by decide +kernel
theorem xX6_isSkipped_8 : xdec cX6_isSkipped 8 = some (.iload_n 2, 9, 2, 0) := by decide +kernel
theorem xX6_isSkipped_9 : xdec cX6_isSkipped 9 = some (.iadd, 10, 0, 0) := by decide +kernel
theorem xX6_isSkipped_10 : xdec cX6_isSkipped 10 = some (.laload, 11, 0, 0) := by decide +kernel
theorem xX6_isSkipped_11 : xdec cX6_isSkipped 11 = some (.aload_n 0, 12, 0, 0) := by decide +kernel
theorem xX6_isSkipped_12 : xdec cX6_isSkipped 12 = some (.getfield 37, 15, 37, 0) := by decide +kernel
theorem xX6_isSkipped_15 : xdec cX6_isSkipped 15 = some (.iload_n 1, 16, 1, 0) := by decide +kernel
theorem xX6_isSkipped_16 : xdec cX6_isSkipped 16 = some (.iaload, 17, 0, 0) := by decide +kernel
theorem xX6_isSkipped_17 : xdec cX6_isSkipped 17 = some (.invokestatic 280, 20, 0, 0) := by decide +kernel
theorem xX6_isSkipped_20 : xdec cX6_isSkipped 20 = some (.lcmp, 21, 0, 0) := by decide +kernel
theorem xX6_isSkipped_21 : xdec cX6_isSkipped 21 = some (.ifCond .ne 7, 24, 28, 0) := by decide +kernel
theorem xX6_isSkipped_24 : xdec cX6_isSkipped 24 = some (.iconst 1, 25, 0, 1) := by decide +kernel
theorem xX6_isSkipped_25 : xdec cX6_isSkipped 25 = some (.goto 4, 28, 29, 0) := by decide +kernel
theorem xX6_isSkipped_28 : xdec cX6_isSkipped 28 = some (.iconst 0, 29, 0, 0) := by decide +kernel
theorem xX6_isSkipped_29 : xdec cX6_isSkipped 29 = some (.ireturn, 30, 0, 0) := by decide +kernel
theorem xX6_isHealthRow_0 : xdec cX6_isHealthRow 0 = some (.iconst 1, 1, 0, 1) := by decide +kernel
theorem xX6_isHealthRow_1 : xdec cX6_isHealthRow 1 = some (.istore_n 3, 2, 3, 0) := by decide +kernel
theorem xX6_isHealthRow_2 : xdec cX6_isHealthRow 2 = some (.iconst 0, 3, 0, 0) := by decide +kernel
theorem xX6_isHealthRow_3 : xdec cX6_isHealthRow 3 = some (.istore 4, 5, 4, 0) := by decide +kernel
theorem xX6_isHealthRow_5 : xdec cX6_isHealthRow 5 = some (.iload 4, 7, 4, 0) := by decide +kernel
theorem xX6_isHealthRow_7 : xdec cX6_isHealthRow 7 = some (.aload_n 0, 8, 0, 0) := by decide +kernel
theorem xX6_isHealthRow_8 : xdec cX6_isHealthRow 8 = some (.getfield 40, 11, 40, 0) := by decide +kernel
theorem xX6_isHealthRow_11 : xdec cX6_isHealthRow 11 = some (.iload_n 1, 12, 1, 0) := by decide +kernel
theorem xX6_isHealthRow_12 : xdec cX6_isHealthRow 12 = some (.iaload, 13, 0, 0) := by decide +kernel
theorem xX6_isHealthRow_13 : xdec cX6_isHealthRow 13 = some (.if_icmp .ge 56, 16, 69, 0) := by decide +kernel
theorem xX6_isHealthRow_16 : xdec cX6_isHealthRow 16 = some (.iload_n 3, 17, 3, 0) := by decide +kernel
theorem xX6_isHealthRow_17 : xdec cX6_isHealthRow 17 = some (.ifCond .eq 52, 20, 69, 0) := by decide +kernel
theorem xX6_isHealthRow_20 : xdec cX6_isHealthRow 20 = some (.aload_n 0, 21, 0, 0) := by decide +kernel
theorem xX6_isHealthRow_21 : xdec cX6_isHealthRow 21 = some (.iload_n 1, 22, 1, 0) := by decide +kernel
theorem xX6_isHealthRow_22 : xdec cX6_isHealthRow 22 = some (.iload 4, 24, 4, 0) := by decide +kernel
theorem xX6_isHealthRow_24 : xdec cX6_isHealthRow 24 = some (.invokevirtual 284, 27, 0, 0) := by decide +kernel
theorem xX6_isHealthRow_27 : xdec cX6_isHealthRow 27 = some (.ifCond .ne 26, 30, 53, 0) := by decide +kernel
theorem xX6_isHealthRow_30 : xdec cX6_isHealthRow 30 = some (.aload_n 0, 31, 0, 0) := by decide +kernel
theorem xX6_isHealthRow_31 : xdec cX6_isHealthRow 31 = some (.getfield 43, 34, 43, 0) := by decide +kernel
theorem xX6_isHealthRow_34 : xdec cX6_isHealthRow 34 = some (.bipush 100, 36, 0, 100) := by decide +kernel
theorem xX6_isHealthRow_36 : xdec cX6_isHealthRow 36 = some (.iload_n 1, 37, 1, 0) := by decide +kernel
theorem xX6_isHealthRow_37 : xdec cX6_isHealthRow 37 = some (.imul, 38, 0, 0) := by decide +kernel
theorem xX6_isHealthRow_38 : xdec cX6_isHealthRow 38 = some (.iload 4, 40, 4, 0) := by decide +kernel
theorem xX6_isHealthRow_40 : xdec cX6_isHealthRow 40 = some (.iadd, 41, 0, 0) := by decide +kernel
theorem xX6_isHealthRow_41 : xdec cX6_isHealthRow 41 = some (.laload, 42, 0, 0) := by decide +kernel
theorem xX6_isHealthRow_42 : xdec cX6_isHealthRow 42 = some (.aload_n 0, 43, 0, 0) := by decide +kernel
theorem xX6_isHealthRow_43 : xdec cX6_isHealthRow 43 = some (.getfield 25, 46, 25, 0) := by decide +kernel
theorem xX6_isHealthRow_46 : xdec cX6_isHealthRow 46 = some (.iload_n 2, 47, 2, 0) := by decide +kernel
theorem xX6_isHealthRow_47 : xdec cX6_isHealthRow 47 = some (.iaload, 48, 0, 0) := by decide +kernel
theorem xX6_isHealthRow_48 : xdec cX6_isHealthRow 48 = some (.i2l, 49, 0, 0) := by decide +kernel
theorem xX6_isHealthRow_49 : xdec cX6_isHealthRow 49 = some (.lcmp, 50, 0, 0) := by decide +kernel
theorem xX6_isHealthRow_50 : xdec cX6_isHealthRow 50 = some (.ifCond .ne 7, 53, 57, 0) := by decide +kernel
theorem xX6_isHealthRow_53 : xdec cX6_isHealthRow 53 = some (.iconst 1, 54, 0, 1) := by decide +kernel
theorem xX6_isHealthRow_54 : xdec cX6_isHealthRow 54 = some (.goto 4, 57, 58, 0) := by decide +kernel
theorem xX6_isHealthRow_57 : xdec cX6_isHealthRow 57 = some (.iconst 0, 58, 0, 0) := by decide +kernel
theorem xX6_isHealthRow_58 : xdec cX6_isHealthRow 58 = some (.istore_n 3, 59, 3, 0) := by decide +kernel
theorem xX6_isHealthRow_59 : xdec cX6_isHealthRow 59 = some (.aload_n 0, 60, 0, 0) := by decide +kernel
theorem xX6_isHealthRow_60 : xdec cX6_isHealthRow 60 = some (.invokevirtual 132, 63, 0, 0) := by decide +kernel
theorem xX6_isHealthRow_63 : xdec cX6_isHealthRow 63 = some (.iinc 4 1, 66, 4, 1) := by decide +kernel
theorem xX6_isHealthRow_66 : xdec cX6_isHealthRow 66 = some (.goto (-61), 69, 5, 0) := by decide +kernel
theorem xX6_isHealthRow_69 : xdec cX6_isHealthRow 69 = some (.aload_n 0, 70, 0, 0) := by decide +kernel
theorem xX6_isHealthRow_70 : xdec cX6_isHealthRow 70 = some (.invokevirtual 196, 73, 0, 0) := by decide +kernel
theorem xX6_isHealthRow_73 : xdec cX6_isHealthRow 73 = some (.iload_n 3, 74, 3, 0) := by decide +kernel
theorem xX6_isHealthRow_74 : xdec cX6_isHealthRow 74 = some (.ireturn, 75, 0, 0) := by decide +kernel
theorem xX6_isPlateRow_0 : xdec cX6_isPlateRow 0 = some (.iconst 1, 1, 0, 1) := by decide +kernel
theorem xX6_isPlateRow_1 : xdec cX6_isPlateRow 1 = some (.istore_n 3, 2, 3, 0) := by decide +kernel
theorem xX6_isPlateRow_2 : xdec cX6_isPlateRow 2 = some (.iconst 0, 3, 0, 0) := by decide +kernel
theorem xX6_isPlateRow_3 : xdec cX6_isPlateRow 3 = some (.istore 4, 5, 4, 0) := by decide +kernel
theorem xX6_isPlateRow_5 : xdec cX6_isPlateRow 5 = some (.iload 4, 7, 4, 0) := by decide +kernel
theorem xX6_isPlateRow_7 : xdec cX6_isPlateRow 7 = some (.aload_n 0, 8, 0, 0) := by decide +kernel
theorem xX6_isPlateRow_8 : xdec cX6_isPlateRow 8 = some (.getfield 40, 11, 40, 0) := by decide +kernel
theorem xX6_isPlateRow_11 : xdec cX6_isPlateRow 11 = some (.iload_n 1, 12, 1, 0) := by decide +kernel
theorem xX6_isPlateRow_12 : xdec cX6_isPlateRow 12 = some (.iaload, 13, 0, 0) := by decide +kernel
theorem xX6_isPlateRow_13 : xdec cX6_isPlateRow 13 = some (.if_icmp .ge 56, 16, 69, 0) := by decide +kernel
theorem xX6_isPlateRow_16 : xdec cX6_isPlateRow 16 = some (.iload_n 3, 17, 3, 0) := by decide +kernel
theorem xX6_isPlateRow_17 : xdec cX6_isPlateRow 17 = some (.ifCond .eq 52, 20, 69, 0) := by decide +kernel
theorem xX6_isPlateRow_20 : xdec cX6_isPlateRow 20 = some (.aload_n 0, 21, 0, 0) := by decide +kernel
theorem xX6_isPlateRow_21 : xdec cX6_isPlateRow 21 = some (.invokevirtual 132, 24, 0, 0) := by decide +kernel
theorem xX6_isPlateRow_24 : xdec cX6_isPlateRow 24 = some (.aload_n 0, 25, 0, 0) := by decide +kernel
theorem xX6_isPlateRow_25 : xdec cX6_isPlateRow 25 = some (.iload_n 1, 26, 1, 0) := by decide +kernel
theorem xX6_isPlateRow_26 : xdec cX6_isPlateRow 26 = some (.iload 4, 28, 4, 0) := by decide +kernel
theorem xX6_isPlateRow_28 : xdec cX6_isPlateRow 28 = some (.invokevirtual 284, 31, 0, 0) := by decide +kernel
theorem xX6_isPlateRow_31 : xdec cX6_isPlateRow 31 = some (.ifCond .ne 26, 34, 57, 0) := by decide +kernel
theorem xX6_isPlateRow_34 : xdec cX6_isPlateRow 34 = some (.aload_n 0, 35, 0, 0) := by decide +kernel
theorem xX6_isPlateRow_35 : xdec cX6_isPlateRow 35 = some (.getfield 43, 38, 43, 0) := by decide +kernel
theorem xX6_isPlateRow_38 : xdec cX6_isPlateRow 38 = some (.bipush 100, 40, 0, 100) := by decide +kernel
theorem xX6_isPlateRow_40 : xdec cX6_isPlateRow 40 = some (.iload_n 1, 41, 1, 0) := by decide +kernel
theorem xX6_isPlateRow_41 : xdec cX6_isPlateRow 41 = some (.imul, 42, 0, 0) := by decide +kernel
theorem xX6_isPlateRow_42 : xdec cX6_isPlateRow 42 = some (.iload 4, 44, 4, 0) := by decide +kernel
theorem xX6_isPlateRow_44 : xdec cX6_isPlateRow 44 = some (.iadd, 45, 0, 0) := by decide +kernel
theorem xX6_isPlateRow_45 : xdec cX6_isPlateRow 45 = some (.laload, 46, 0, 0) := by decide +kernel
theorem xX6_isPlateRow_46 : xdec cX6_isPlateRow 46 = some (.aload_n 0, 47, 0, 0) := by decide +kernel
theorem xX6_isPlateRow_47 : xdec cX6_isPlateRow 47 = some (.getfield 22, 50, 22, 0) := by decide +kernel
theorem xX6_isPlateRow_50 : xdec cX6_isPlateRow 50 = some (.iload_n 2, 51, 2, 0) := by decide +kernel
theorem xX6_isPlateRow_51 : xdec cX6_isPlateRow 51 = some (.iaload, 52, 0, 0) := by decide +kernel
theorem xX6_isPlateRow_52 : xdec cX6_isPlateRow 52 = some (.i2l, 53, 0, 0) := by decide +kernel
theorem xX6_isPlateRow_53 : xdec cX6_isPlateRow 53 = some (.lcmp, 54, 0, 0) := by decide +kernel
theorem xX6_isPlateRow_54 : xdec cX6_isPlateRow 54 = some (.ifCond .ne 7, 57, 61, 0) := by decide +kernel
theorem xX6_isPlateRow_57 : xdec cX6_isPlateRow 57 = some (.iconst 1, 58, 0, 1) := by decide +kernel
theorem xX6_isPlateRow_58 : xdec cX6_isPlateRow 58 = some (.goto 4, 61, 62, 0) := by decide +kernel
theorem xX6_isPlateRow_61 : xdec cX6_isPlateRow 61 = some (.iconst 0, 62, 0, 0) := by decide +kernel
theorem xX6_isPlateRow_62 : xdec cX6_isPlateRow 62 = some (.istore_n 3, 63, 3, 0) := by decide +kernel
theorem xX6_isPlateRow_63 : xdec cX6_isPlateRow 63 = some (.iinc 4 1, 66, 4, 1) := by decide +kernel
theorem xX6_isPlateRow_66 : xdec cX6_isPlateRow 66 = some (.goto (-61), 69, 5, 0) := by decide +kernel
theorem xX6_isPlateRow_69 : xdec cX6_isPlateRow 69 = some (.aload_n 0, 70, 0, 0) := by decide +kernel
theorem xX6_isPlateRow_70 : xdec cX6_isPlateRow 70 = some (.invokevirtual 196, 73, 0, 0) := by decide +kernel
theorem xX6_isPlateRow_73 : xdec cX6_isPlateRow 73 = some (.iload_n 3, 74, 3, 0) := by decide +kernel
theorem xX6_isPlateRow_74 : xdec cX6_isPlateRow 74 = some (.ireturn, 75, 0, 0) := by decide +kernel
theorem xX6_whatIs_0 : xdec cX6_whatIs 0 = some (.aload_n 0, 1, 0, 0) := by decide +kernel
theorem xX6_whatIs_1 : xdec cX6_whatIs 1 = some (.iconst 0, 2, 0, 0) := by decide +kernel
theorem xX6_whatIs_2 : xdec cX6_whatIs 2 = some (.putfield 75, 5, 75, 0) := by decide +kernel
theorem xX6_whatIs_5 : xdec cX6_whatIs 5 = some (.aload_n 0, 6, 0, 0) := by decide +kernel
theorem xX6_whatIs_6 : xdec cX6_whatIs 6 = some (.iload_n 2, 7, 2, 0) := by decide +kernel
theorem xX6_whatIs_7 : xdec cX6_whatIs 7 = some (.invokevirtual 171, 10, 0, 0) := by decide +kernel
theorem xX6_whatIs_10 : xdec cX6_whatIs 10 = some (.ifCond .eq 21, 13, 31, 0) := by decide +kernel
theorem xX6_whatIs_13 : xdec cX6_whatIs 13 = some (.iload_n 3, 14, 3, 0) := by decide +kernel
theorem xX6_whatIs_14 : xdec cX6_whatIs 14 = some (.i2l, 15, 0, 0) := by decide +kernel
theorem xX6_whatIs_15 : xdec cX6_whatIs 15 = some (.lconst 0, 16, 0, 0) := by decide +kernel
theorem xX6_whatIs_16 : xdec cX6_whatIs 16 = some (.lconst 1, 17, 0, 1) := by decide +kernel
theorem xX6_whatIs_17 : xdec cX6_whatIs 17 = some (.invokestatic 81, 20, 0, 0) := by decide +kernel
theorem xX6_whatIs_20 : xdec cX6_whatIs 20 = some (.ifCond .eq 11, 23, 31, 0) := by decide +kernel
theorem xX6_whatIs_23 : xdec cX6_whatIs 23 = some (.aload_n 0, 24, 0, 0) := by decide +kernel
theorem xX6_whatIs_24 : xdec cX6_whatIs 24 = some (.iload_n 1, 25, 1, 0) := by decide +kernel
theorem xX6_whatIs_25 : xdec cX6_whatIs 25 = some (.invokevirtual 184, 28, 0, 0) := by decide +kernel
theorem xX6_whatIs_28 : xdec cX6_whatIs 28 = some (.goto 4, 31, 32, 0) := by decide +kernel
theorem xX6_whatIs_31 : xdec cX6_whatIs 31 = some (.iconst (-1), 32, 0, (-1)) := by decide +kernel
theorem xX6_whatIs_32 : xdec cX6_whatIs 32 = some (.istore 4, 34, 4, 0) := by decide +kernel
theorem xX6_whatIs_34 : xdec cX6_whatIs 34 = some (.iload 4, 36, 4, 0) := by decide +kernel
theorem xX6_whatIs_36 : xdec cX6_whatIs 36 = some (.ifCond .ge 6, 39, 42, 0) := by decide +kernel
theorem xX6_whatIs_39 : xdec cX6_whatIs 39 = some (.iload 4, 41, 4, 0) := by decide +kernel
theorem xX6_whatIs_41 : xdec cX6_whatIs 41 = some (.ireturn, 42, 0, 0) := by decide +kernel
theorem xX6_whatIs_42 : xdec cX6_whatIs 42 = some (.iconst 0, 43, 0, 0) := by decide +kernel
theorem xX6_whatIs_43 : xdec cX6_whatIs 43 = some (.istore 5, 45, 5, 0) := by decide +kernel
theorem xX6_whatIs_45 : xdec cX6_whatIs 45 = some (.aload_n 0, 46, 0, 0) := by decide +kernel
theorem xX6_whatIs_46 : xdec cX6_whatIs 46 = some (.invokevirtual 190, 49, 0, 0) := by decide +kernel
theorem xX6_whatIs_49 : xdec cX6_whatIs 49 = some (.iconst 0, 50, 0, 0) := by decide +kernel
theorem xX6_whatIs_50 : xdec cX6_whatIs 50 = some (.istore 6, 52, 6, 0) := by decide +kernel
theorem xX6_whatIs_52 : xdec cX6_whatIs 52 = some (.iload 6, 54, 6, 0) := by decide +kernel
theorem xX6_whatIs_54 : xdec cX6_whatIs 54 = some (.iload_n 3, 55, 3, 0) := by decide +kernel
theorem xX6_whatIs_55 : xdec cX6_whatIs 55 = some (.ifCond .ne 8, 58, 63, 0) := by decide +kernel
theorem xX6_whatIs_58 : xdec cX6_whatIs 58 = some (.bipush 8, 60, 0, 8) := by decide +kernel
theorem xX6_whatIs_60 : xdec cX6_whatIs 60 = some (.goto 5, 63, 65, 0) := by decide +kernel
theorem xX6_whatIs_63 : xdec cX6_whatIs 63 = some (.bipush 10, 65, 0, 10) := by decide +kernel
theorem xX6_whatIs_65 : xdec cX6_whatIs 65 = some (.if_icmp .ge 74, 68, 139, 0) := by decide +kernel
theorem xX6_whatIs_68 : xdec cX6_whatIs 68 = some (.aload_n 0, 69, 0, 0) := by decide +kernel
theorem xX6_whatIs_69 : xdec cX6_whatIs 69 = some (.getfield 13, 72, 13, 0) := by decide +kernel
theorem xX6_whatIs_72 : xdec cX6_whatIs 72 = some (.iload_n 2, 73, 2, 0) := by decide +kernel
theorem xX6_whatIs_73 : xdec cX6_whatIs 73 = some (.iload_n 3, 74, 3, 0) := by decide +kernel
theorem xX6_whatIs_74 : xdec cX6_whatIs 74 = some (.ifCond .ne 8, 77, 82, 0) := by decide +kernel
theorem xX6_whatIs_77 : xdec cX6_whatIs 77 = some (.iload 6, 79, 6, 0) := by decide +kernel
theorem xX6_whatIs_79 : xdec cX6_whatIs 79 = some (.goto 9, 82, 88, 0) := by decide +kernel
theorem xX6_whatIs_82 : xdec cX6_whatIs 82 = some (.aload_n 0, 83, 0, 0) := by decide +kernel
theorem xX6_whatIs_83 : xdec cX6_whatIs 83 = some (.getfield 13, 86, 13, 0) := by decide +kernel
theorem xX6_whatIs_86 : xdec cX6_whatIs 86 = some (.iload_n 2, 87, 2, 0) := by decide +kernel
theorem xX6_whatIs_87 : xdec cX6_whatIs 87 = some (.iaload, 88, 0, 0) := by decide +kernel
theorem xX6_whatIs_88 : xdec cX6_whatIs 88 = some (.iastore, 89, 0, 0) := by decide +kernel
theorem xX6_whatIs_89 : xdec cX6_whatIs 89 = some (.aload_n 0, 90, 0, 0) := by decide +kernel
theorem xX6_whatIs_90 : xdec cX6_whatIs 90 = some (.getfield 16, 93, 16, 0) := by decide +kernel
theorem xX6_whatIs_93 : xdec cX6_whatIs 93 = some (.iload_n 2, 94, 2, 0) := by decide +kernel
theorem xX6_whatIs_94 : xdec cX6_whatIs 94 = some (.iload_n 3, 95, 3, 0) := by decide +kernel
theorem xX6_whatIs_95 : xdec cX6_whatIs 95 = some (.iconst 1, 96, 0, 1) := by decide +kernel
theorem xX6_whatIs_96 : xdec cX6_whatIs 96 = some (.if_icmp .ne 8, 99, 104, 0) := by decide +kernel
theorem xX6_whatIs_99 : xdec cX6_whatIs 99 = some (.iload 6, 101, 6, 0) := by decide +kernel
theorem xX6_whatIs_101 : xdec cX6_whatIs 101 = some (.goto 9, 104, 110, 0) := by decide +kernel
theorem xX6_whatIs_104 : xdec cX6_whatIs 104 = some (.aload_n 0, 105, 0, 0) := by decide +kernel
theorem xX6_whatIs_105 : xdec cX6_whatIs 105 = some (.getfield 16, 108, 16, 0) := by decide +kernel
theorem xX6_whatIs_108 : xdec cX6_whatIs 108 = some (.iload_n 2, 109, 2, 0) := by decide +kernel
theorem xX6_whatIs_109 : xdec cX6_whatIs 109 = some (.iaload, 110, 0, 0) := by decide +kernel
theorem xX6_whatIs_110 : xdec cX6_whatIs 110 = some (.iastore, 111, 0, 0) := by decide +kernel
theorem xX6_whatIs_111 : xdec cX6_whatIs 111 = some (.iload 5, 113, 5, 0) := by decide +kernel
theorem xX6_whatIs_113 : xdec cX6_whatIs 113 = some (.aload_n 0, 114, 0, 0) := by decide +kernel
theorem xX6_whatIs_114 : xdec cX6_whatIs 114 = some (.iload_n 1, 115, 1, 0) := by decide +kernel
theorem xX6_whatIs_115 : xdec cX6_whatIs 115 = some (.iload_n 2, 116, 2, 0) := by decide +kernel
theorem xX6_whatIs_116 : xdec cX6_whatIs 116 = some (.invokevirtual 287, 119, 0, 0) := by decide +kernel
theorem xX6_whatIs_119 : xdec cX6_whatIs 119 = some (.ifCond .eq 10, 122, 129, 0) := by decide +kernel
theorem xX6_whatIs_122 : xdec cX6_whatIs 122 = some (.iconst 1, 123, 0, 1) := by decide +kernel
theorem xX6_whatIs_123 : xdec cX6_whatIs 123 = some (.iload 6, 125, 6, 0) := by decide +kernel
theorem xX6_whatIs_125 : xdec cX6_whatIs 125 = some (.ishl, 126, 0, 0) := by decide +kernel
theorem xX6_whatIs_126 : xdec cX6_whatIs 126 = some (.goto 4, 129, 130, 0) := by decide +kernel
theorem xX6_whatIs_129 : xdec cX6_whatIs 129 = some (.iconst 0, 130, 0, 0) := by decide +kernel
theorem xX6_whatIs_130 : xdec cX6_whatIs 130 = some (.ior, 131, 0, 0) := by decide +kernel
theorem xX6_whatIs_131 : xdec cX6_whatIs 131 = some (.istore 5, 133, 5, 0) := by decide +kernel
theorem xX6_whatIs_133 : xdec cX6_whatIs 133 = some (.iinc 6 1, 136, 6, 1) := by decide +kernel
theorem xX6_whatIs_136 : xdec cX6_whatIs 136 = some (.goto (-84), 139, 52, 0) := by decide +kernel
theorem xX6_whatIs_139 : xdec cX6_whatIs 139 = some (.iload 5, 141, 5, 0) := by decide +kernel
theorem xX6_whatIs_141 : xdec cX6_whatIs 141 = some (.ireturn, 142, 0, 0) := by decide +kernel
theorem xX6_whatWish_0 : xdec cX6_whatWish 0 = some (.aload_n 0, 1, 0, 0) := by decide +kernel
theorem xX6_whatWish_1 : xdec cX6_whatWish 1 = some (.iconst 0, 2, 0, 0) := by decide +kernel
theorem xX6_whatWish_2 : xdec cX6_whatWish 2 = some (.putfield 75, 5, 75, 0) := by decide +kernel
theorem xX6_whatWish_5 : xdec cX6_whatWish 5 = some (.aload_n 0, 6, 0, 0) := by decide +kernel
theorem xX6_whatWish_6 : xdec cX6_whatWish 6 = some (.iload_n 2, 7, 2, 0) := by decide +kernel
theorem xX6_whatWish_7 : xdec cX6_whatWish 7 = some (.invokevirtual 171, 10, 0, 0) := by decide +kernel
theorem xX6_whatWish_10 : xdec cX6_whatWish 10 = some (.ifCond .eq 11, 13, 21, 0) := by decide +kernel
theorem xX6_whatWish_13 : xdec cX6_whatWish 13 = some (.aload_n 0, 14, 0, 0) := by decide +kernel
theorem xX6_whatWish_14 : xdec cX6_whatWish 14 = some (.iload_n 1, 15, 1, 0) := by decide +kernel
theorem xX6_whatWish_15 : xdec cX6_whatWish 15 = some (.invokevirtual 184, 18, 0, 0) := by decide +kernel
theorem xX6_whatWish_18 : xdec cX6_whatWish 18 = some (.goto 4, 21, 22, 0) := by decide +kernel
theorem xX6_whatWish_21 : xdec cX6_whatWish 21 = some (.iconst (-1), 22, 0, (-1)) := by decide +kernel
theorem xX6_whatWish_22 : xdec cX6_whatWish 22 = some (.istore_n 3, 23, 3, 0) := by decide +kernel
theorem xX6_whatWish_23 : xdec cX6_whatWish 23 = some (.iload_n 3, 24, 3, 0) := by decide +kernel
theorem xX6_whatWish_24 : xdec cX6_whatWish 24 = some (.ifCond .ge 5, 27, 29, 0) := by decide +kernel
theorem xX6_whatWish_27 : xdec cX6_whatWish 27 = some (.iload_n 3, 28, 3, 0) := by decide +kernel
theorem xX6_whatWish_28 : xdec cX6_whatWish 28 = some (.ireturn, 29, 0, 0) := by decide +kernel
theorem xX6_whatWish_29 : xdec cX6_whatWish 29 = some (.iconst 0, 30, 0, 0) := by decide +kernel
theorem xX6_whatWish_30 : xdec cX6_whatWish 30 = some (.istore 4, 32, 4, 0) := by decide +kernel
theorem xX6_whatWish_32 : xdec cX6_whatWish 32 = some (.aload_n 0, 33, 0, 0) := by decide +kernel
theorem xX6_whatWish_33 : xdec cX6_whatWish 33 = some (.invokevirtual 190, 36, 0, 0) := by decide +kernel
theorem xX6_whatWish_36 : xdec cX6_whatWish 36 = some (.iconst 0, 37, 0, 0) := by decide +kernel
theorem xX6_whatWish_37 : xdec cX6_whatWish 37 = some (.istore 5, 39, 5, 0) := by decide +kernel
theorem xX6_whatWish_39 : xdec cX6_whatWish 39 = some (.iload 5, 41, 5, 0) := by decide +kernel
theorem xX6_whatWish_41 : xdec cX6_whatWish 41 = some (.bipush 10, 43, 0, 10) := by decide +kernel
theorem xX6_whatWish_43 : xdec cX6_whatWish 43 = some (.if_icmp .ge 39, 46, 82, 0) := by decide +kernel
theorem xX6_whatWish_46 : xdec cX6_whatWish 46 = some (.aload_n 0, 47, 0, 0) := by decide +kernel
theorem xX6_whatWish_47 : xdec cX6_whatWish 47 = some (.getfield 19, 50, 19, 0) := by decide +kernel
theorem xX6_whatWish_50 : xdec cX6_whatWish 50 = some (.iload_n 2, 51, 2, 0) := by decide +kernel
theorem xX6_whatWish_51 : xdec cX6_whatWish 51 = some (.iload 5, 53, 5, 0) := by decide +kernel
theorem xX6_whatWish_53 : xdec cX6_whatWish 53 = some (.iastore, 54, 0, 0) := by decide +kernel
theorem xX6_whatWish_54 : xdec cX6_whatWish 54 = some (.iload 4, 56, 4, 0) := by decide +kernel
theorem xX6_whatWish_56 : xdec cX6_whatWish 56 = some (.aload_n 0, 57, 0, 0) := by decide +kernel
theorem xX6_whatWish_57 : xdec cX6_whatWish 57 = some (.iload_n 1, 58, 1, 0) := by decide +kernel
theorem xX6_whatWish_58 : xdec cX6_whatWish 58 = some (.iload_n 2, 59, 2, 0) := by decide +kernel
theorem xX6_whatWish_59 : xdec cX6_whatWish 59 = some (.invokevirtual 290, 62, 0, 0) := by decide +kernel
theorem xX6_whatWish_62 : xdec cX6_whatWish 62 = some (.ifCond .eq 10, 65, 72, 0) := by decide +kernel
theorem xX6_whatWish_65 : xdec cX6_whatWish 65 = some (.iconst 1, 66, 0, 1) := by decide +kernel
theorem xX6_whatWish_66 : xdec cX6_whatWish 66 = some (.iload 5, 68, 5, 0) := by decide +kernel
theorem xX6_whatWish_68 : xdec cX6_whatWish 68 = some (.ishl, 69, 0, 0) := by decide +kernel
theorem xX6_whatWish_69 : xdec cX6_whatWish 69 = some (.goto 4, 72, 73, 0) := by decide +kernel
theorem xX6_whatWish_72 : xdec cX6_whatWish 72 = some (.iconst 0, 73, 0, 0) := by decide +kernel
theorem xX6_whatWish_73 : xdec cX6_whatWish 73 = some (.ior, 74, 0, 0) := by decide +kernel
theorem xX6_whatWish_74 : xdec cX6_whatWish 74 = some (.istore 4, 76, 4, 0) := by decide +kernel
theorem xX6_whatWish_76 : xdec cX6_whatWish 76 = some (.iinc 5 1, 79, 5, 1) := by decide +kernel
theorem xX6_whatWish_79 : xdec cX6_whatWish 79 = some (.goto (-40), 82, 39, 0) := by decide +kernel
theorem xX6_whatWish_82 : xdec cX6_whatWish 82 = some (.iload 4, 84, 4, 0) := by decide +kernel
theorem xX6_whatWish_84 : xdec cX6_whatWish 84 = some (.ireturn, 85, 0, 0) := by decide +kernel
theorem xX6_two_0 : xdec cX6_two 0 = some (.aload_n 0, 1, 0, 0) := by decide +kernel
theorem xX6_two_1 : xdec cX6_two 1 = some (.iconst 0, 2, 0, 0) := by decide +kernel
theorem xX6_two_2 : xdec cX6_two 2 = some (.putfield 75, 5, 75, 0) := by decide +kernel
theorem xX6_two_5 : xdec cX6_two 5 = some (.aload_n 0, 6, 0, 0) := by decide +kernel
theorem xX6_two_6 : xdec cX6_two 6 = some (.iload_n 1, 7, 1, 0) := by decide +kernel
theorem xX6_two_7 : xdec cX6_two 7 = some (.invokevirtual 171, 10, 0, 0) := by decide +kernel
theorem xX6_two_10 : xdec cX6_two 10 = some (.ifCond .eq 28, 13, 38, 0) := by decide +kernel
theorem xX6_two_13 : xdec cX6_two 13 = some (.aload_n 0, 14, 0, 0) := by decide +kernel
theorem xX6_two_14 : xdec cX6_two 14 = some (.iload_n 2, 15, 2, 0) := by decide +kernel
theorem xX6_two_15 : xdec cX6_two 15 = some (.invokevirtual 171, 18, 0, 0) := by decide +kernel
theorem xX6_two_18 : xdec cX6_two 18 = some (.ifCond .eq 20, 21, 38, 0) := by decide +kernel
theorem xX6_two_21 : xdec cX6_two 21 = some (.iload_n 1, 22, 1, 0) := by decide +kernel
theorem xX6_two_22 : xdec cX6_two 22 = some (.iload_n 2, 23, 2, 0) := by decide +kernel
theorem xX6_two_23 : xdec cX6_two 23 = some (.if_icmp .eq 15, 26, 38, 0) := by decide +kernel
theorem xX6_two_26 : xdec cX6_two 26 = some (.iload_n 3, 27, 3, 0) := by decide +kernel
theorem xX6_two_27 : xdec cX6_two 27 = some (.i2l, 28, 0, 0) := by decide +kernel
theorem xX6_two_28 : xdec cX6_two 28 = some (.lconst 1, 29, 0, 1) := by decide +kernel
theorem xX6_two_29 : xdec cX6_two 29 = some (.ldc2_w 293, 32, 293, 0) := by decide +kernel
theorem xX6_two_32 : xdec cX6_two 32 = some (.invokestatic 81, 35, 0, 0) := by decide +kernel
theorem xX6_two_35 : xdec cX6_two 35 = some (.ifCond .ne 5, 38, 40, 0) := by decide +kernel
theorem xX6_two_38 : xdec cX6_two 38 = some (.iconst (-1), 39, 0, (-1)) := by decide +kernel
theorem xX6_two_39 : xdec cX6_two 39 = some (.ireturn, 40, 0, 0) := by decide +kernel
theorem xX6_two_40 : xdec cX6_two 40 = some (.aload_n 0, 41, 0, 0) := by decide +kernel
theorem xX6_two_41 : xdec cX6_two 41 = some (.getfield 125, 44, 125, 0) := by decide +kernel
theorem xX6_two_44 : xdec cX6_two 44 = some (.iload_n 1, 45, 1, 0) := by decide +kernel
theorem xX6_two_45 : xdec cX6_two 45 = some (.invokestatic 105, 48, 0, 0) := by decide +kernel
theorem xX6_two_48 : xdec cX6_two 48 = some (.ifCond .eq 14, 51, 62, 0) := by decide +kernel
theorem xX6_two_51 : xdec cX6_two 51 = some (.aload_n 0, 52, 0, 0) := by decide +kernel
theorem xX6_two_52 : xdec cX6_two 52 = some (.getfield 125, 55, 125, 0) := by decide +kernel
theorem xX6_two_55 : xdec cX6_two 55 = some (.iload_n 2, 56, 2, 0) := by decide +kernel
theorem xX6_two_56 : xdec cX6_two 56 = some (.invokestatic 105, 59, 0, 0) := by decide +kernel
theorem xX6_two_59 : xdec cX6_two 59 = some (.ifCond .ne 6, 62, 65, 0) := by decide +kernel
theorem xX6_two_62 : xdec cX6_two 62 = some (.bipush (-3), 64, 0, (-3)) := by decide +kernel
theorem xX6_two_64 : xdec cX6_two 64 = some (.ireturn, 65, 0, 0) := by decide +kernel
theorem xX6_two_65 : xdec cX6_two 65 = some (.aload_n 0, 66, 0, 0) := by decide +kernel
theorem xX6_two_66 : xdec cX6_two 66 = some (.invokevirtual 190, 69, 0, 0) := by decide +kernel
theorem xX6_two_69 : xdec cX6_two 69 = some (.iconst 0, 70, 0, 0) := by decide +kernel
theorem xX6_two_70 : xdec cX6_two 70 = some (.istore 4, 72, 4, 0) := by decide +kernel
theorem xX6_two_72 : xdec cX6_two 72 = some (.iload 4, 74, 4, 0) := by decide +kernel
theorem xX6_two_74 : xdec cX6_two 74 = some (.iconst 4, 75, 0, 4) := by decide +kernel
theorem xX6_two_75 : xdec cX6_two 75 = some (.if_icmp .ge 89, 78, 164, 0) := by decide +kernel
theorem xX6_two_78 : xdec cX6_two 78 = some (.aload_n 0, 79, 0, 0) := by decide +kernel
theorem xX6_two_79 : xdec cX6_two 79 = some (.iconst 1, 80, 0, 1) := by decide +kernel
theorem xX6_two_80 : xdec cX6_two 80 = some (.iload 4, 82, 4, 0) := by decide +kernel
theorem xX6_two_82 : xdec cX6_two 82 = some (.iconst 2, 83, 0, 2) := by decide +kernel
theorem xX6_two_83 : xdec cX6_two 83 = some (.idiv, 84, 0, 0) := by decide +kernel
theorem xX6_two_84 : xdec cX6_two 84 = some (.isub, 85, 0, 0) := by decide +kernel
theorem xX6_two_85 : xdec cX6_two 85 = some (.iload_n 1, 86, 1, 0) := by decide +kernel
theorem xX6_two_86 : xdec cX6_two 86 = some (.ishl, 87, 0, 0) := by decide +kernel
theorem xX6_two_87 : xdec cX6_two 87 = some (.iconst 1, 88, 0, 1) := by decide +kernel
theorem xX6_two_88 : xdec cX6_two 88 = some (.iload 4, 90, 4, 0) := by decide +kernel
theorem xX6_two_90 : xdec cX6_two 90 = some (.iconst 2, 91, 0, 2) := by decide +kernel
theorem xX6_two_91 : xdec cX6_two 91 = some (.irem, 92, 0, 0) := by decide +kernel
theorem xX6_two_92 : xdec cX6_two 92 = some (.isub, 93, 0, 0) := by decide +kernel
theorem xX6_two_93 : xdec cX6_two 93 = some (.iload_n 2, 94, 2, 0) := by decide +kernel
theorem xX6_two_94 : xdec cX6_two 94 = some (.ishl, 95, 0, 0) := by decide +kernel
theorem xX6_two_95 : xdec cX6_two 95 = some (.ior, 96, 0, 0) := by decide +kernel
theorem xX6_two_96 : xdec cX6_two 96 = some (.putfield 102, 99, 102, 0) := by decide +kernel
theorem xX6_two_99 : xdec cX6_two 99 = some (.aload_n 0, 100, 0, 0) := by decide +kernel
theorem xX6_two_100 : xdec cX6_two 100 = some (.iload_n 3, 101, 3, 0) := by decide +kernel
theorem xX6_two_101 : xdec cX6_two 101 = some (.invokevirtual 168, 104, 0, 0) := by decide +kernel
theorem xX6_two_104 : xdec cX6_two 104 = some (.aload_n 0, 105, 0, 0) := by decide +kernel
theorem xX6_two_105 : xdec cX6_two 105 = some (.getfield 69, 108, 69, 0) := by decide +kernel
theorem xX6_two_108 : xdec cX6_two 108 = some (.iconst 2, 109, 0, 2) := by decide +kernel
theorem xX6_two_109 : xdec cX6_two 109 = some (.iload 4, 111, 4, 0) := by decide +kernel
theorem xX6_two_111 : xdec cX6_two 111 = some (.imul, 112, 0, 0) := by decide +kernel
theorem xX6_two_112 : xdec cX6_two 112 = some (.aload_n 0, 113, 0, 0) := by decide +kernel
theorem xX6_two_113 : xdec cX6_two 113 = some (.getfield 25, 116, 25, 0) := by decide +kernel
theorem xX6_two_116 : xdec cX6_two 116 = some (.iload_n 1, 117, 1, 0) := by decide +kernel
theorem xX6_two_117 : xdec cX6_two 117 = some (.iaload, 118, 0, 0) := by decide +kernel
theorem xX6_two_118 : xdec cX6_two 118 = some (.iconst 2, 119, 0, 2) := by decide +kernel
theorem xX6_two_119 : xdec cX6_two 119 = some (.iconst 1, 120, 0, 1) := by decide +kernel
theorem xX6_two_120 : xdec cX6_two 120 = some (.iload 4, 122, 4, 0) := by decide +kernel
theorem xX6_two_122 : xdec cX6_two 122 = some (.iconst 2, 123, 0, 2) := by decide +kernel
theorem xX6_two_123 : xdec cX6_two 123 = some (.idiv, 124, 0, 0) := by decide +kernel
theorem xX6_two_124 : xdec cX6_two 124 = some (.isub, 125, 0, 0) := by decide +kernel
theorem xX6_two_125 : xdec cX6_two 125 = some (.imul, 126, 0, 0) := by decide +kernel
theorem xX6_two_126 : xdec cX6_two 126 = some (.isub, 127, 0, 0) := by decide +kernel
theorem xX6_two_127 : xdec cX6_two 127 = some (.iastore, 128, 0, 0) := by decide +kernel
theorem xX6_two_128 : xdec cX6_two 128 = some (.aload_n 0, 129, 0, 0) := by decide +kernel
theorem xX6_two_129 : xdec cX6_two 129 = some (.getfield 69, 132, 69, 0) := by decide +kernel
theorem xX6_two_132 : xdec cX6_two 132 = some (.iconst 2, 133, 0, 2) := by decide +kernel
theorem xX6_two_133 : xdec cX6_two 133 = some (.iload 4, 135, 4, 0) := by decide +kernel
theorem xX6_two_135 : xdec cX6_two 135 = some (.imul, 136, 0, 0) := by decide +kernel
theorem xX6_two_136 : xdec cX6_two 136 = some (.iconst 1, 137, 0, 1) := by decide +kernel
theorem xX6_two_137 : xdec cX6_two 137 = some (.iadd, 138, 0, 0) := by decide +kernel
theorem xX6_two_138 : xdec cX6_two 138 = some (.aload_n 0, 139, 0, 0) := by decide +kernel
theorem xX6_two_139 : xdec cX6_two 139 = some (.getfield 25, 142, 25, 0) := by decide +kernel
theorem xX6_two_142 : xdec cX6_two 142 = some (.iload_n 2, 143, 2, 0) := by decide +kernel
theorem xX6_two_143 : xdec cX6_two 143 = some (.iaload, 144, 0, 0) := by decide +kernel
theorem xX6_two_144 : xdec cX6_two 144 = some (.iconst 2, 145, 0, 2) := by decide +kernel
theorem xX6_two_145 : xdec cX6_two 145 = some (.iconst 1, 146, 0, 1) := by decide +kernel
theorem xX6_two_146 : xdec cX6_two 146 = some (.iload 4, 148, 4, 0) := by decide +kernel
theorem xX6_two_148 : xdec cX6_two 148 = some (.iconst 2, 149, 0, 2) := by decide +kernel
theorem xX6_two_149 : xdec cX6_two 149 = some (.irem, 150, 0, 0) := by decide +kernel
theorem xX6_two_150 : xdec cX6_two 150 = some (.isub, 151, 0, 0) := by decide +kernel
theorem xX6_two_151 : xdec cX6_two 151 = some (.imul, 152, 0, 0) := by decide +kernel
theorem xX6_two_152 : xdec cX6_two 152 = some (.isub, 153, 0, 0) := by decide +kernel
theorem xX6_two_153 : xdec cX6_two 153 = some (.iastore, 154, 0, 0) := by decide +kernel
theorem xX6_two_154 : xdec cX6_two 154 = some (.aload_n 0, 155, 0, 0) := by decide +kernel
theorem xX6_two_155 : xdec cX6_two 155 = some (.invokevirtual 196, 158, 0, 0) := by decide +kernel
theorem xX6_two_158 : xdec cX6_two 158 = some (.iinc 4 1, 161, 4, 1) := by decide +kernel
theorem xX6_two_161 : xdec cX6_two 161 = some (.goto (-89), 164, 72, 0) := by decide +kernel
theorem xX6_two_164 : xdec cX6_two 164 = some (.iconst 0, 165, 0, 0) := by decide +kernel
theorem xX6_two_165 : xdec cX6_two 165 = some (.istore 4, 167, 4, 0) := by decide +kernel
theorem xX6_two_167 : xdec cX6_two 167 = some (.iload 4, 169, 4, 0) := by decide +kernel
theorem xX6_two_169 : xdec cX6_two 169 = some (.iconst 4, 170, 0, 4) := by decide +kernel
theorem xX6_two_170 : xdec cX6_two 170 = some (.if_icmp .ge 98, 173, 268, 0) := by decide +kernel
theorem xX6_two_173 : xdec cX6_two 173 = some (.iconst 2, 174, 0, 2) := by decide +kernel
theorem xX6_two_174 : xdec cX6_two 174 = some (.iconst 1, 175, 0, 1) := by decide +kernel
theorem xX6_two_175 : xdec cX6_two 175 = some (.iload 4, 177, 4, 0) := by decide +kernel
theorem xX6_two_177 : xdec cX6_two 177 = some (.iconst 2, 178, 0, 2) := by decide +kernel
theorem xX6_two_178 : xdec cX6_two 178 = some (.idiv, 179, 0, 0) := by decide +kernel
theorem xX6_two_179 : xdec cX6_two 179 = some (.isub, 180, 0, 0) := by decide +kernel
theorem xX6_two_180 : xdec cX6_two 180 = some (.imul, 181, 0, 0) := by decide +kernel
theorem xX6_two_181 : xdec cX6_two 181 = some (.iload 4, 183, 4, 0) := by decide +kernel
theorem xX6_two_183 : xdec cX6_two 183 = some (.iconst 2, 184, 0, 2) := by decide +kernel
theorem xX6_two_184 : xdec cX6_two 184 = some (.irem, 185, 0, 0) := by decide +kernel
theorem xX6_two_185 : xdec cX6_two 185 = some (.iadd, 186, 0, 0) := by decide +kernel
theorem xX6_two_186 : xdec cX6_two 186 = some (.istore 5, 188, 5, 0) := by decide +kernel
theorem xX6_two_188 : xdec cX6_two 188 = some (.iconst 2, 189, 0, 2) := by decide +kernel
theorem xX6_two_189 : xdec cX6_two 189 = some (.iload 4, 191, 4, 0) := by decide +kernel
theorem xX6_two_191 : xdec cX6_two 191 = some (.iconst 2, 192, 0, 2) := by decide +kernel
theorem xX6_two_192 : xdec cX6_two 192 = some (.idiv, 193, 0, 0) := by decide +kernel
theorem xX6_two_193 : xdec cX6_two 193 = some (.imul, 194, 0, 0) := by decide +kernel
theorem xX6_two_194 : xdec cX6_two 194 = some (.iconst 1, 195, 0, 1) := by decide +kernel
theorem xX6_two_195 : xdec cX6_two 195 = some (.iadd, 196, 0, 0) := by decide +kernel
theorem xX6_two_196 : xdec cX6_two 196 = some (.iload 4, 198, 4, 0) := by decide +kernel
theorem xX6_two_198 : xdec cX6_two 198 = some (.iconst 2, 199, 0, 2) := by decide +kernel
theorem xX6_two_199 : xdec cX6_two 199 = some (.irem, 200, 0, 0) := by decide +kernel
theorem xX6_two_200 : xdec cX6_two 200 = some (.isub, 201, 0, 0) := by decide +kernel
theorem xX6_two_201 : xdec cX6_two 201 = some (.istore 6, 203, 6, 0) := by decide +kernel
theorem xX6_two_203 : xdec cX6_two 203 = some (.aload_n 0, 204, 0, 0) := by decide +kernel
theorem xX6_two_204 : xdec cX6_two 204 = some (.getfield 69, 207, 69, 0) := by decide +kernel
theorem xX6_two_207 : xdec cX6_two 207 = some (.iconst 2, 208, 0, 2) := by decide +kernel
theorem xX6_two_208 : xdec cX6_two 208 = some (.iload 4, 210, 4, 0) := by decide +kernel
theorem xX6_two_210 : xdec cX6_two 210 = some (.imul, 211, 0, 0) := by decide +kernel
theorem xX6_two_211 : xdec cX6_two 211 = some (.iaload, 212, 0, 0) := by decide +kernel
theorem xX6_two_212 : xdec cX6_two 212 = some (.aload_n 0, 213, 0, 0) := by decide +kernel
theorem xX6_two_213 : xdec cX6_two 213 = some (.getfield 69, 216, 69, 0) := by decide +kernel
theorem xX6_two_216 : xdec cX6_two 216 = some (.iconst 2, 217, 0, 2) := by decide +kernel
theorem xX6_two_217 : xdec cX6_two 217 = some (.iload 5, 219, 5, 0) := by decide +kernel
theorem xX6_two_219 : xdec cX6_two 219 = some (.imul, 220, 0, 0) := by decide +kernel
theorem xX6_two_220 : xdec cX6_two 220 = some (.iaload, 221, 0, 0) := by decide +kernel
theorem xX6_two_221 : xdec cX6_two 221 = some (.if_icmp .lt 41, 224, 262, 0) := by decide +kernel
theorem xX6_two_224 : xdec cX6_two 224 = some (.aload_n 0, 225, 0, 0) := by decide +kernel
theorem xX6_two_225 : xdec cX6_two 225 = some (.getfield 69, 228, 69, 0) := by decide +kernel
theorem xX6_two_228 : xdec cX6_two 228 = some (.iconst 2, 229, 0, 2) := by decide +kernel
theorem xX6_two_229 : xdec cX6_two 229 = some (.iload 4, 231, 4, 0) := by decide +kernel
theorem xX6_two_231 : xdec cX6_two 231 = some (.imul, 232, 0, 0) := by decide +kernel
theorem xX6_two_232 : xdec cX6_two 232 = some (.iconst 1, 233, 0, 1) := by decide +kernel
theorem xX6_two_233 : xdec cX6_two 233 = some (.iadd, 234, 0, 0) := by decide +kernel
theorem xX6_two_234 : xdec cX6_two 234 = some (.iaload, 235, 0, 0) := by decide +kernel
theorem xX6_two_235 : xdec cX6_two 235 = some (.aload_n 0, 236, 0, 0) := by decide +kernel
theorem xX6_two_236 : xdec cX6_two 236 = some (.getfield 69, 239, 69, 0) := by decide +kernel
theorem xX6_two_239 : xdec cX6_two 239 = some (.iconst 2, 240, 0, 2) := by decide +kernel
theorem xX6_two_240 : xdec cX6_two 240 = some (.iload 6, 242, 6, 0) := by decide +kernel
theorem xX6_two_242 : xdec cX6_two 242 = some (.imul, 243, 0, 0) := by decide +kernel
theorem xX6_two_243 : xdec cX6_two 243 = some (.iconst 1, 244, 0, 1) := by decide +kernel
theorem xX6_two_244 : xdec cX6_two 244 = some (.iadd, 245, 0, 0) := by decide +kernel
theorem xX6_two_245 : xdec cX6_two 245 = some (.iaload, 246, 0, 0) := by decide +kernel
theorem xX6_two_246 : xdec cX6_two 246 = some (.if_icmp .lt 16, 249, 262, 0) := by decide +kernel
theorem xX6_two_249 : xdec cX6_two 249 = some (.bipush 10, 251, 0, 10) := by decide +kernel
theorem xX6_two_251 : xdec cX6_two 251 = some (.iload 4, 253, 4, 0) := by decide +kernel
theorem xX6_two_253 : xdec cX6_two 253 = some (.iconst 2, 254, 0, 2) := by decide +kernel
theorem xX6_two_254 : xdec cX6_two 254 = some (.idiv, 255, 0, 0) := by decide +kernel
theorem xX6_two_255 : xdec cX6_two 255 = some (.imul, 256, 0, 0) := by decide +kernel
theorem xX6_two_256 : xdec cX6_two 256 = some (.iload 4, 258, 4, 0) := by decide +kernel
theorem xX6_two_258 : xdec cX6_two 258 = some (.iconst 2, 259, 0, 2) := by decide +kernel
theorem xX6_two_259 : xdec cX6_two 259 = some (.irem, 260, 0, 0) := by decide +kernel
theorem xX6_two_260 : xdec cX6_two 260 = some (.iadd, 261, 0, 0) := by decide +kernel
theorem xX6_two_261 : xdec cX6_two 261 = some (.ireturn, 262, 0, 0) := by decide +kernel
theorem xX6_two_262 : xdec cX6_two 262 = some (.iinc 4 1, 265, 4, 1) := by decide +kernel
theorem xX6_two_265 : xdec cX6_two 265 = some (.goto (-98), 268, 167, 0) := by decide +kernel
theorem xX6_two_268 : xdec cX6_two 268 = some (.bipush (-4), 270, 0, (-4)) := by decide +kernel
theorem xX6_two_270 : xdec cX6_two 270 = some (.ireturn, 271, 0, 0) := by decide +kernel
theorem xX6_divisor_0 : xdec cX6_divisor 0 = some (.lload_n 0, 1, 0, 0) := by decide +kernel
theorem xX6_divisor_1 : xdec cX6_divisor 1 = some (.lstore 4, 3, 4, 0) := by decide +kernel
theorem xX6_divisor_3 : xdec cX6_divisor 3 = some (.lload_n 2, 4, 2, 0) := by decide +kernel
theorem xX6_divisor_4 : xdec cX6_divisor 4 = some (.lstore 6, 6, 6, 0) := by decide +kernel
theorem xX6_divisor_6 : xdec cX6_divisor 6 = some (.lload 6, 8, 6, 0) := by decide +kernel
theorem xX6_divisor_8 : xdec cX6_divisor 8 = some (.lconst 0, 9, 0, 0) := by decide +kernel
theorem xX6_divisor_9 : xdec cX6_divisor 9 = some (.lcmp, 10, 0, 0) := by decide +kernel
theorem xX6_divisor_10 : xdec cX6_divisor 10 = some (.ifCond .eq 21, 13, 31, 0) := by decide +kernel
theorem xX6_divisor_13 : xdec cX6_divisor 13 = some (.lload 4, 15, 4, 0) := by decide +kernel
theorem xX6_divisor_15 : xdec cX6_divisor 15 = some (.lload 6, 17, 6, 0) := by decide +kernel
theorem xX6_divisor_17 : xdec cX6_divisor 17 = some (.lrem, 18, 0, 0) := by decide +kernel
theorem xX6_divisor_18 : xdec cX6_divisor 18 = some (.lstore 8, 20, 8, 0) := by decide +kernel
theorem xX6_divisor_20 : xdec cX6_divisor 20 = some (.lload 6, 22, 6, 0) := by decide +kernel
theorem xX6_divisor_22 : xdec cX6_divisor 22 = some (.lstore 4, 24, 4, 0) := by decide +kernel
theorem xX6_divisor_24 : xdec cX6_divisor 24 = some (.lload 8, 26, 8, 0) := by decide +kernel
theorem xX6_divisor_26 : xdec cX6_divisor 26 = some (.lstore 6, 28, 6, 0) := by decide +kernel
theorem xX6_divisor_28 : xdec cX6_divisor 28 = some (.goto (-22), 31, 6, 0) := by decide +kernel
theorem xX6_divisor_31 : xdec cX6_divisor 31 = some (.lload 4, 33, 4, 0) := by decide +kernel
theorem xX6_divisor_33 : xdec cX6_divisor 33 = some (.lreturn, 34, 0, 0) := by decide +kernel
theorem xX6_partOf_0 : xdec cX6_partOf 0 = some (.lload_n 0, 1, 0, 0) := by decide +kernel
theorem xX6_partOf_1 : xdec cX6_partOf 1 = some (.lconst 0, 2, 0, 0) := by decide +kernel
theorem xX6_partOf_2 : xdec cX6_partOf 2 = some (.lcmp, 3, 0, 0) := by decide +kernel
theorem xX6_partOf_3 : xdec cX6_partOf 3 = some (.ifCond .ne 7, 6, 10, 0) := by decide +kernel
theorem xX6_partOf_6 : xdec cX6_partOf 6 = some (.iload 4, 8, 4, 0) := by decide +kernel
theorem xX6_partOf_8 : xdec cX6_partOf 8 = some (.i2l, 9, 0, 0) := by decide +kernel
theorem xX6_partOf_9 : xdec cX6_partOf 9 = some (.lreturn, 10, 0, 0) := by decide +kernel
theorem xX6_partOf_10 : xdec cX6_partOf 10 = some (.lload_n 0, 11, 0, 0) := by decide +kernel
theorem xX6_partOf_11 : xdec cX6_partOf 11 = some (.lload_n 2, 12, 2, 0) := by decide +kernel
theorem xX6_partOf_12 : xdec cX6_partOf 12 = some (.invokestatic 295, 15, 0, 0) := by decide +kernel
theorem xX6_partOf_15 : xdec cX6_partOf 15 = some (.lstore 5, 17, 5, 0) := by decide +kernel
theorem xX6_partOf_17 : xdec cX6_partOf 17 = some (.iload 4, 19, 4, 0) := by decide +kernel
theorem xX6_partOf_19 : xdec cX6_partOf 19 = some (.ifCond .ne 10, 22, 29, 0) := by decide +kernel
theorem xX6_partOf_22 : xdec cX6_partOf 22 = some (.lload_n 0, 23, 0, 0) := by decide +kernel
theorem xX6_partOf_23 : xdec cX6_partOf 23 = some (.lload 5, 25, 5, 0) := by decide +kernel
theorem xX6_partOf_25 : xdec cX6_partOf 25 = some (.ldiv, 26, 0, 0) := by decide +kernel
theorem xX6_partOf_26 : xdec cX6_partOf 26 = some (.goto 7, 29, 33, 0) := by decide +kernel
theorem xX6_partOf_29 : xdec cX6_partOf 29 = some (.lload_n 2, 30, 2, 0) := by decide +kernel
theorem xX6_partOf_30 : xdec cX6_partOf 30 = some (.lload 5, 32, 5, 0) := by decide +kernel
theorem xX6_partOf_32 : xdec cX6_partOf 32 = some (.ldiv, 33, 0, 0) := by decide +kernel
theorem xX6_partOf_33 : xdec cX6_partOf 33 = some (.lreturn, 34, 0, 0) := by decide +kernel
theorem xX6_mares_0 : xdec cX6_mares 0 = some (.aload_n 0, 1, 0, 0) := by decide +kernel
theorem xX6_mares_1 : xdec cX6_mares 1 = some (.iconst 0, 2, 0, 0) := by decide +kernel
theorem xX6_mares_2 : xdec cX6_mares 2 = some (.putfield 75, 5, 75, 0) := by decide +kernel
theorem xX6_mares_5 : xdec cX6_mares 5 = some (.aload_n 0, 6, 0, 0) := by decide +kernel
theorem xX6_mares_6 : xdec cX6_mares 6 = some (.iload_n 1, 7, 1, 0) := by decide +kernel
theorem xX6_mares_7 : xdec cX6_mares 7 = some (.invokevirtual 171, 10, 0, 0) := by decide +kernel
theorem xX6_mares_10 : xdec cX6_mares 10 = some (.ifCond .eq 53, 13, 63, 0) := by decide +kernel
theorem xX6_mares_13 : xdec cX6_mares 13 = some (.iload_n 2, 14, 2, 0) := by decide +kernel
theorem xX6_mares_14 : xdec cX6_mares 14 = some (.i2l, 15, 0, 0) := by decide +kernel
theorem xX6_mares_15 : xdec cX6_mares 15 = some (.lconst 0, 16, 0, 0) := by decide +kernel
theorem xX6_mares_16 : xdec cX6_mares 16 = some (.ldc2_w 218, 19, 218, 0) := by decide +kernel
theorem xX6_mares_19 : xdec cX6_mares 19 = some (.invokestatic 81, 22, 0, 0) := by decide +kernel
theorem xX6_mares_22 : xdec cX6_mares 22 = some (.ifCond .eq 41, 25, 63, 0) := by decide +kernel
theorem xX6_mares_25 : xdec cX6_mares 25 = some (.iload_n 3, 26, 3, 0) := by decide +kernel
theorem xX6_mares_26 : xdec cX6_mares 26 = some (.i2l, 27, 0, 0) := by decide +kernel
theorem xX6_mares_27 : xdec cX6_mares 27 = some (.ldc2_w 231, 30, 231, 0) := by decide +kernel
theorem xX6_mares_30 : xdec cX6_mares 30 = some (.ldc2_w 244, 33, 244, 0) := by decide +kernel
theorem xX6_mares_33 : xdec cX6_mares 33 = some (.invokestatic 81, 36, 0, 0) := by decide +kernel
theorem xX6_mares_36 : xdec cX6_mares 36 = some (.ifCond .eq 27, 39, 63, 0) := by decide +kernel
theorem xX6_mares_39 : xdec cX6_mares 39 = some (.iload 4, 41, 4, 0) := by decide +kernel
theorem xX6_mares_41 : xdec cX6_mares 41 = some (.i2l, 42, 0, 0) := by decide +kernel
theorem xX6_mares_42 : xdec cX6_mares 42 = some (.lconst 0, 43, 0, 0) := by decide +kernel
theorem xX6_mares_43 : xdec cX6_mares 43 = some (.ldc2_w 226, 46, 226, 0) := by decide +kernel
theorem xX6_mares_46 : xdec cX6_mares 46 = some (.invokestatic 81, 49, 0, 0) := by decide +kernel
theorem xX6_mares_49 : xdec cX6_mares 49 = some (.ifCond .eq 14, 52, 63, 0) := by decide +kernel
theorem xX6_mares_52 : xdec cX6_mares 52 = some (.iload 5, 54, 5, 0) := by decide +kernel
theorem xX6_mares_54 : xdec cX6_mares 54 = some (.i2l, 55, 0, 0) := by decide +kernel
theorem xX6_mares_55 : xdec cX6_mares 55 = some (.lconst 0, 56, 0, 0) := by decide +kernel
theorem xX6_mares_56 : xdec cX6_mares 56 = some (.lconst 1, 57, 0, 1) := by decide +kernel
theorem xX6_mares_57 : xdec cX6_mares 57 = some (.invokestatic 81, 60, 0, 0) := by decide +kernel
theorem xX6_mares_60 : xdec cX6_mares 60 = some (.ifCond .ne 7, 63, 67, 0) := by decide +kernel
theorem xX6_mares_63 : xdec cX6_mares 63 = some (.ldc2_w 299, 66, 299, 0) := by decide +kernel
theorem xX6_mares_66 : xdec cX6_mares 66 = some (.lreturn, 67, 0, 0) := by decide +kernel
theorem xX6_mares_67 : xdec cX6_mares 67 = some (.lconst 0, 68, 0, 0) := by decide +kernel
theorem xX6_mares_68 : xdec cX6_mares 68 = some (.lstore 6, 70, 6, 0) := by decide +kernel
theorem xX6_mares_70 : xdec cX6_mares 70 = some (.lconst 1, 71, 0, 1) := by decide +kernel
theorem xX6_mares_71 : xdec cX6_mares 71 = some (.lstore 8, 73, 8, 0) := by decide +kernel
theorem xX6_mares_73 : xdec cX6_mares 73 = some (.iconst 0, 74, 0, 0) := by decide +kernel
theorem xX6_mares_74 : xdec cX6_mares 74 = some (.istore 10, 76, 10, 0) := by decide +kernel
theorem xX6_mares_76 : xdec cX6_mares 76 = some (.iload 10, 78, 10, 0) := by decide +kernel
theorem xX6_mares_78 : xdec cX6_mares 78 = some (.iload_n 2, 79, 2, 0) := by decide +kernel
theorem xX6_mares_79 : xdec cX6_mares 79 = some (.if_icmp .ge 16, 82, 95, 0) := by decide +kernel
theorem xX6_mares_82 : xdec cX6_mares 82 = some (.lload 8, 84, 8, 0) := by decide +kernel
theorem xX6_mares_84 : xdec cX6_mares 84 = some (.iload_n 3, 85, 3, 0) := by decide +kernel
theorem xX6_mares_85 : xdec cX6_mares 85 = some (.i2l, 86, 0, 0) := by decide +kernel
theorem xX6_mares_86 : xdec cX6_mares 86 = some (.lmul, 87, 0, 0) := by decide +kernel
theorem xX6_mares_87 : xdec cX6_mares 87 = some (.lstore 8, 89, 8, 0) := by decide +kernel
theorem xX6_mares_89 : xdec cX6_mares 89 = some (.iinc 10 1, 92, 10, 1) := by decide +kernel
theorem xX6_mares_92 : xdec cX6_mares 92 = some (.goto (-16), 95, 76, 0) := by decide +kernel
theorem xX6_mares_95 : xdec cX6_mares 95 = some (.aload_n 0, 96, 0, 0) := by decide +kernel
theorem xX6_mares_96 : xdec cX6_mares 96 = some (.invokevirtual 190, 99, 0, 0) := by decide +kernel
theorem xX6_mares_99 : xdec cX6_mares 99 = some (.iconst 0, 100, 0, 0) := by decide +kernel
theorem xX6_mares_100 : xdec cX6_mares 100 = some (.istore 10, 102, 10, 0) := by decide +kernel
theorem xX6_mares_102 : xdec cX6_mares 102 = some (.iload 10, 104, 10, 0) := by decide +kernel
theorem xX6_mares_104 : xdec cX6_mares 104 = some (.iconst 1, 105, 0, 1) := by decide +kernel
theorem xX6_mares_105 : xdec cX6_mares 105 = some (.iload_n 2, 106, 2, 0) := by decide +kernel
theorem xX6_mares_106 : xdec cX6_mares 106 = some (.ishl, 107, 0, 0) := by decide +kernel
theorem xX6_mares_107 : xdec cX6_mares 107 = some (.if_icmp .ge 91, 110, 198, 0) := by decide +kernel
theorem xX6_mares_110 : xdec cX6_mares 110 = some (.lconst 1, 111, 0, 1) := by decide +kernel
theorem xX6_mares_111 : xdec cX6_mares 111 = some (.lstore 11, 113, 11, 0) := by decide +kernel
theorem xX6_mares_113 : xdec cX6_mares 113 = some (.iconst 0, 114, 0, 0) := by decide +kernel
theorem xX6_mares_114 : xdec cX6_mares 114 = some (.istore 13, 116, 13, 0) := by decide +kernel
theorem xX6_mares_116 : xdec cX6_mares 116 = some (.iload 13, 118, 13, 0) := by decide +kernel
theorem xX6_mares_118 : xdec cX6_mares 118 = some (.iload_n 2, 119, 2, 0) := by decide +kernel
theorem xX6_mares_119 : xdec cX6_mares 119 = some (.if_icmp .ge 47, 122, 166, 0) := by decide +kernel
theorem xX6_mares_122 : xdec cX6_mares 122 = some (.lload 11, 124, 11, 0) := by decide +kernel
theorem xX6_mares_124 : xdec cX6_mares 124 = some (.iload 10, 126, 10, 0) := by decide +kernel
theorem xX6_mares_126 : xdec cX6_mares 126 = some (.iload 13, 128, 13, 0) := by decide +kernel
theorem xX6_mares_128 : xdec cX6_mares 128 = some (.invokestatic 105, 131, 0, 0) := by decide +kernel
theorem xX6_mares_131 : xdec cX6_mares 131 = some (.ifCond .eq 7, 134, 138, 0) := by decide +kernel
theorem xX6_mares_134 : xdec cX6_mares 134 = some (.lconst 1, 135, 0, 1) := by decide +kernel
theorem xX6_mares_135 : xdec cX6_mares 135 = some (.goto 7, 138, 142, 0) := by decide +kernel
theorem xX6_mares_138 : xdec cX6_mares 138 = some (.iload_n 3, 139, 3, 0) := by decide +kernel
theorem xX6_mares_139 : xdec cX6_mares 139 = some (.iconst 1, 140, 0, 1) := by decide +kernel
theorem xX6_mares_140 : xdec cX6_mares 140 = some (.isub, 141, 0, 0) := by decide +kernel
theorem xX6_mares_141 : xdec cX6_mares 141 = some (.i2l, 142, 0, 0) := by decide +kernel
theorem xX6_mares_142 : xdec cX6_mares 142 = some (.lmul, 143, 0, 0) := by decide +kernel
theorem xX6_mares_143 : xdec cX6_mares 143 = some (.lstore 11, 145, 11, 0) := by decide +kernel
theorem xX6_mares_145 : xdec cX6_mares 145 = some (.aload_n 0, 146, 0, 0) := by decide +kernel
theorem xX6_mares_146 : xdec cX6_mares 146 = some (.iload 10, 148, 10, 0) := by decide +kernel
theorem xX6_mares_148 : xdec cX6_mares 148 = some (.iload 13, 150, 13, 0) := by decide +kernel
theorem xX6_mares_150 : xdec cX6_mares 150 = some (.invokestatic 105, 153, 0, 0) := by decide +kernel
theorem xX6_mares_153 : xdec cX6_mares 153 = some (.putfield 98, 156, 98, 0) := by decide +kernel
theorem xX6_mares_156 : xdec cX6_mares 156 = some (.aload_n 0, 157, 0, 0) := by decide +kernel
theorem xX6_mares_157 : xdec cX6_mares 157 = some (.invokevirtual 132, 160, 0, 0) := by decide +kernel
theorem xX6_mares_160 : xdec cX6_mares 160 = some (.iinc 13 1, 163, 13, 1) := by decide +kernel
theorem xX6_mares_163 : xdec cX6_mares 163 = some (.goto (-47), 166, 116, 0) := by decide +kernel
theorem xX6_mares_166 : xdec cX6_mares 166 = some (.lload 6, 168, 6, 0) := by decide +kernel
theorem xX6_mares_168 : xdec cX6_mares 168 = some (.aload_n 0, 169, 0, 0) := by decide +kernel
theorem xX6_mares_169 : xdec cX6_mares 169 = some (.getfield 25, 172, 25, 0) := by decide +kernel
theorem xX6_mares_172 : xdec cX6_mares 172 = some (.iload_n 1, 173, 1, 0) := by decide +kernel
theorem xX6_mares_173 : xdec cX6_mares 173 = some (.iaload, 174, 0, 0) := by decide +kernel
theorem xX6_mares_174 : xdec cX6_mares 174 = some (.iload 4, 176, 4, 0) := by decide +kernel
theorem xX6_mares_176 : xdec cX6_mares 176 = some (.if_icmp .lt 8, 179, 184, 0) := by decide +kernel
theorem xX6_mares_179 : xdec cX6_mares 179 = some (.lload 11, 181, 11, 0) := by decide +kernel
theorem xX6_mares_181 : xdec cX6_mares 181 = some (.goto 4, 184, 185, 0) := by decide +kernel
theorem xX6_mares_184 : xdec cX6_mares 184 = some (.lconst 0, 185, 0, 0) := by decide +kernel
theorem xX6_mares_185 : xdec cX6_mares 185 = some (.ladd, 186, 0, 0) := by decide +kernel
theorem xX6_mares_186 : xdec cX6_mares 186 = some (.lstore 6, 188, 6, 0) := by decide +kernel
theorem xX6_mares_188 : xdec cX6_mares 188 = some (.aload_n 0, 189, 0, 0) := by decide +kernel
theorem xX6_mares_189 : xdec cX6_mares 189 = some (.invokevirtual 196, 192, 0, 0) := by decide +kernel
theorem xX6_mares_192 : xdec cX6_mares 192 = some (.iinc 10 1, 195, 10, 1) := by decide +kernel
theorem xX6_mares_195 : xdec cX6_mares 195 = some (.goto (-93), 198, 102, 0) := by decide +kernel
theorem xX6_mares_198 : xdec cX6_mares 198 = some (.lload 6, 200, 6, 0) := by decide +kernel
theorem xX6_mares_200 : xdec cX6_mares 200 = some (.lload 8, 202, 8, 0) := by decide +kernel
theorem xX6_mares_202 : xdec cX6_mares 202 = some (.iload 5, 204, 5, 0) := by decide +kernel
theorem xX6_mares_204 : xdec cX6_mares 204 = some (.invokestatic 301, 207, 0, 0) := by decide +kernel
theorem xX6_mares_207 : xdec cX6_mares 207 = some (.lreturn, 208, 0, 0) := by decide +kernel
theorem xX6_mean_0 : xdec cX6_mean 0 = some (.aload_n 0, 1, 0, 0) := by decide +kernel
theorem xX6_mean_1 : xdec cX6_mean 1 = some (.iconst 0, 2, 0, 0) := by decide +kernel
theorem xX6_mean_2 : xdec cX6_mean 2 = some (.putfield 75, 5, 75, 0) := by decide +kernel
theorem xX6_mean_5 : xdec cX6_mean 5 = some (.iload_n 1, 6, 1, 0) := by decide +kernel
theorem xX6_mean_6 : xdec cX6_mean 6 = some (.i2l, 7, 0, 0) := by decide +kernel
theorem xX6_mean_7 : xdec cX6_mean 7 = some (.lconst 0, 8, 0, 0) := by decide +kernel
theorem xX6_mean_8 : xdec cX6_mean 8 = some (.lconst 1, 9, 0, 1) := by decide +kernel
theorem xX6_mean_9 : xdec cX6_mean 9 = some (.invokestatic 81, 12, 0, 0) := by decide +kernel
theorem xX6_mean_12 : xdec cX6_mean 12 = some (.ifCond .ne 7, 15, 19, 0) := by decide +kernel
theorem xX6_mean_15 : xdec cX6_mean 15 = some (.ldc2_w 299, 18, 299, 0) := by decide +kernel
theorem xX6_mean_18 : xdec cX6_mean 18 = some (.lreturn, 19, 0, 0) := by decide +kernel
theorem xX6_mean_19 : xdec cX6_mean 19 = some (.lconst 0, 20, 0, 0) := by decide +kernel
theorem xX6_mean_20 : xdec cX6_mean 20 = some (.lstore_n 2, 21, 2, 0) := by decide +kernel
theorem xX6_mean_21 : xdec cX6_mean 21 = some (.iconst 0, 22, 0, 0) := by decide +kernel
theorem xX6_mean_22 : xdec cX6_mean 22 = some (.istore 4, 24, 4, 0) := by decide +kernel
theorem xX6_mean_24 : xdec cX6_mean 24 = some (.iload 4, 26, 4, 0) := by decide +kernel
theorem xX6_mean_26 : xdec cX6_mean 26 = some (.aload_n 0, 27, 0, 0) := by decide +kernel
theorem xX6_mean_27 : xdec cX6_mean 27 = some (.getfield 85, 30, 85, 0) := by decide +kernel
theorem xX6_mean_30 : xdec cX6_mean 30 = some (.if_icmp .ge 36, 33, 66, 0) := by decide +kernel
theorem xX6_mean_33 : xdec cX6_mean 33 = some (.lload_n 2, 34, 2, 0) := by decide +kernel
theorem xX6_mean_34 : xdec cX6_mean 34 = some (.aload_n 0, 35, 0, 0) := by decide +kernel
theorem xX6_mean_35 : xdec cX6_mean 35 = some (.getfield 125, 38, 125, 0) := by decide +kernel
theorem xX6_mean_38 : xdec cX6_mean 38 = some (.iload 4, 40, 4, 0) := by decide +kernel
theorem xX6_mean_40 : xdec cX6_mean 40 = some (.invokestatic 105, 43, 0, 0) := by decide +kernel
theorem xX6_mean_43 : xdec cX6_mean 43 = some (.ifCond .eq 14, 46, 57, 0) := by decide +kernel
theorem xX6_mean_46 : xdec cX6_mean 46 = some (.aload_n 0, 47, 0, 0) := by decide +kernel
theorem xX6_mean_47 : xdec cX6_mean 47 = some (.getfield 25, 50, 25, 0) := by decide +kernel
theorem xX6_mean_50 : xdec cX6_mean 50 = some (.iload 4, 52, 4, 0) := by decide +kernel
theorem xX6_mean_52 : xdec cX6_mean 52 = some (.iaload, 53, 0, 0) := by decide +kernel
theorem xX6_mean_53 : xdec cX6_mean 53 = some (.i2l, 54, 0, 0) := by decide +kernel
theorem xX6_mean_54 : xdec cX6_mean 54 = some (.goto 4, 57, 58, 0) := by decide +kernel
theorem xX6_mean_57 : xdec cX6_mean 57 = some (.lconst 0, 58, 0, 0) := by decide +kernel
theorem xX6_mean_58 : xdec cX6_mean 58 = some (.ladd, 59, 0, 0) := by decide +kernel
theorem xX6_mean_59 : xdec cX6_mean 59 = some (.lstore_n 2, 60, 2, 0) := by decide +kernel
theorem xX6_mean_60 : xdec cX6_mean 60 = some (.iinc 4 1, 63, 4, 1) := by decide +kernel
theorem xX6_mean_63 : xdec cX6_mean 63 = some (.goto (-39), 66, 24, 0) := by decide +kernel
theorem xX6_mean_66 : xdec cX6_mean 66 = some (.lload_n 2, 67, 2, 0) := by decide +kernel
theorem xX6_mean_67 : xdec cX6_mean 67 = some (.aload_n 0, 68, 0, 0) := by decide +kernel
theorem xX6_mean_68 : xdec cX6_mean 68 = some (.getfield 125, 71, 125, 0) := by decide +kernel
theorem xX6_mean_71 : xdec cX6_mean 71 = some (.invokestatic 228, 74, 0, 0) := by decide +kernel
theorem xX6_mean_74 : xdec cX6_mean 74 = some (.i2l, 75, 0, 0) := by decide +kernel
theorem xX6_mean_75 : xdec cX6_mean 75 = some (.iload_n 1, 76, 1, 0) := by decide +kernel
theorem xX6_mean_76 : xdec cX6_mean 76 = some (.invokestatic 301, 79, 0, 0) := by decide +kernel
theorem xX6_mean_79 : xdec cX6_mean 79 = some (.lreturn, 80, 0, 0) := by decide +kernel
theorem xX6_forged_0 : xdec cX6_forged 0 = some (.aload_n 0, 1, 0, 0) := by decide +kernel
theorem xX6_forged_1 : xdec cX6_forged 1 = some (.iconst 0, 2, 0, 0) := by decide +kernel
theorem xX6_forged_2 : xdec cX6_forged 2 = some (.putfield 75, 5, 75, 0) := by decide +kernel
theorem xX6_forged_5 : xdec cX6_forged 5 = some (.aload_n 0, 6, 0, 0) := by decide +kernel
theorem xX6_forged_6 : xdec cX6_forged 6 = some (.iload_n 1, 7, 1, 0) := by decide +kernel
theorem xX6_forged_7 : xdec cX6_forged 7 = some (.invokevirtual 184, 10, 0, 0) := by decide +kernel
theorem xX6_forged_10 : xdec cX6_forged 10 = some (.istore_n 2, 11, 2, 0) := by decide +kernel
theorem xX6_forged_11 : xdec cX6_forged 11 = some (.iload_n 2, 12, 2, 0) := by decide +kernel
theorem xX6_forged_12 : xdec cX6_forged 12 = some (.ifCond .ge 5, 15, 17, 0) := by decide +kernel
theorem xX6_forged_15 : xdec cX6_forged 15 = some (.iload_n 2, 16, 2, 0) := by decide +kernel
theorem xX6_forged_16 : xdec cX6_forged 16 = some (.ireturn, 17, 0, 0) := by decide +kernel
theorem xX6_forged_17 : xdec cX6_forged 17 = some (.iconst 0, 18, 0, 0) := by decide +kernel
theorem xX6_forged_18 : xdec cX6_forged 18 = some (.istore_n 3, 19, 3, 0) := by decide +kernel
theorem xX6_forged_19 : xdec cX6_forged 19 = some (.iload_n 3, 20, 3, 0) := by decide +kernel
theorem xX6_forged_20 : xdec cX6_forged 20 = some (.aload_n 0, 21, 0, 0) := by decide +kernel
theorem xX6_forged_21 : xdec cX6_forged 21 = some (.getfield 40, 24, 40, 0) := by decide +kernel
theorem xX6_forged_24 : xdec cX6_forged 24 = some (.iload_n 1, 25, 1, 0) := by decide +kernel
theorem xX6_forged_25 : xdec cX6_forged 25 = some (.iaload, 26, 0, 0) := by decide +kernel
theorem xX6_forged_26 : xdec cX6_forged 26 = some (.if_icmp .ge 39, 29, 65, 0) := by decide +kernel
theorem xX6_forged_29 : xdec cX6_forged 29 = some (.iload_n 3, 30, 3, 0) := by decide +kernel
theorem xX6_forged_30 : xdec cX6_forged 30 = some (.bipush 10, 32, 0, 10) := by decide +kernel
theorem xX6_forged_32 : xdec cX6_forged 32 = some (.if_icmp .ge 25, 35, 57, 0) := by decide +kernel
theorem xX6_forged_35 : xdec cX6_forged 35 = some (.aload_n 0, 36, 0, 0) := by decide +kernel
theorem xX6_forged_36 : xdec cX6_forged 36 = some (.getfield 43, 39, 43, 0) := by decide +kernel
theorem xX6_forged_39 : xdec cX6_forged 39 = some (.bipush 100, 41, 0, 100) := by decide +kernel
theorem xX6_forged_41 : xdec cX6_forged 41 = some (.iload_n 1, 42, 1, 0) := by decide +kernel
theorem xX6_forged_42 : xdec cX6_forged 42 = some (.imul, 43, 0, 0) := by decide +kernel
theorem xX6_forged_43 : xdec cX6_forged 43 = some (.iload_n 3, 44, 3, 0) := by decide +kernel
theorem xX6_forged_44 : xdec cX6_forged 44 = some (.iadd, 45, 0, 0) := by decide +kernel
theorem xX6_forged_45 : xdec cX6_forged 45 = some (.laload, 46, 0, 0) := by decide +kernel
theorem xX6_forged_46 : xdec cX6_forged 46 = some (.aload_n 0, 47, 0, 0) := by decide +kernel
theorem xX6_forged_47 : xdec cX6_forged 47 = some (.getfield 7, 50, 7, 0) := by decide +kernel
theorem xX6_forged_50 : xdec cX6_forged 50 = some (.iload_n 3, 51, 3, 0) := by decide +kernel
theorem xX6_forged_51 : xdec cX6_forged 51 = some (.iaload, 52, 0, 0) := by decide +kernel
theorem xX6_forged_52 : xdec cX6_forged 52 = some (.i2l, 53, 0, 0) := by decide +kernel
theorem xX6_forged_53 : xdec cX6_forged 53 = some (.lcmp, 54, 0, 0) := by decide +kernel
theorem xX6_forged_54 : xdec cX6_forged 54 = some (.ifCond .eq 5, 57, 59, 0) := by decide +kernel
theorem xX6_forged_57 : xdec cX6_forged 57 = some (.iload_n 3, 58, 3, 0) := by decide +kernel
theorem xX6_forged_58 : xdec cX6_forged 58 = some (.ireturn, 59, 0, 0) := by decide +kernel
theorem xX6_forged_59 : xdec cX6_forged 59 = some (.iinc 3 1, 62, 3, 1) := by decide +kernel
theorem xX6_forged_62 : xdec cX6_forged 62 = some (.goto (-43), 65, 19, 0) := by decide +kernel
theorem xX6_forged_65 : xdec cX6_forged 65 = some (.bipush (-4), 67, 0, (-4)) := by decide +kernel
theorem xX6_forged_67 : xdec cX6_forged 67 = some (.ireturn, 68, 0, 0) := by decide +kernel
theorem xX6_judge_0 : xdec cX6_judge 0 = some (.aload_n 0, 1, 0, 0) := by decide +kernel
theorem xX6_judge_1 : xdec cX6_judge 1 = some (.iconst 0, 2, 0, 0) := by decide +kernel
theorem xX6_judge_2 : xdec cX6_judge 2 = some (.putfield 75, 5, 75, 0) := by decide +kernel
theorem xX6_judge_5 : xdec cX6_judge 5 = some (.aload_n 0, 6, 0, 0) := by decide +kernel
theorem xX6_judge_6 : xdec cX6_judge 6 = some (.iload_n 1, 7, 1, 0) := by decide +kernel
theorem xX6_judge_7 : xdec cX6_judge 7 = some (.invokevirtual 184, 10, 0, 0) := by decide +kernel
theorem xX6_judge_10 : xdec cX6_judge 10 = some (.istore_n 2, 11, 2, 0) := by decide +kernel
theorem xX6_judge_11 : xdec cX6_judge 11 = some (.iload_n 2, 12, 2, 0) := by decide +kernel
theorem xX6_judge_12 : xdec cX6_judge 12 = some (.ifCond .ge 5, 15, 17, 0) := by decide +kernel
theorem xX6_judge_15 : xdec cX6_judge 15 = some (.iload_n 2, 16, 2, 0) := by decide +kernel
theorem xX6_judge_16 : xdec cX6_judge 16 = some (.ireturn, 17, 0, 0) := by decide +kernel
theorem xX6_judge_17 : xdec cX6_judge 17 = some (.bipush (-4), 19, 0, (-4)) := by decide +kernel
theorem xX6_judge_19 : xdec cX6_judge 19 = some (.istore_n 3, 20, 3, 0) := by decide +kernel
theorem xX6_judge_20 : xdec cX6_judge 20 = some (.aload_n 0, 21, 0, 0) := by decide +kernel
theorem xX6_judge_21 : xdec cX6_judge 21 = some (.invokevirtual 190, 24, 0, 0) := by decide +kernel
theorem xX6_judge_24 : xdec cX6_judge 24 = some (.iconst 0, 25, 0, 0) := by decide +kernel
theorem xX6_judge_25 : xdec cX6_judge 25 = some (.istore 4, 27, 4, 0) := by decide +kernel
theorem xX6_judge_27 : xdec cX6_judge 27 = some (.iload 4, 29, 4, 0) := by decide +kernel
theorem xX6_judge_29 : xdec cX6_judge 29 = some (.aload_n 0, 30, 0, 0) := by decide +kernel
theorem xX6_judge_30 : xdec cX6_judge 30 = some (.getfield 40, 33, 40, 0) := by decide +kernel
theorem xX6_judge_33 : xdec cX6_judge 33 = some (.iload_n 1, 34, 1, 0) := by decide +kernel
theorem xX6_judge_34 : xdec cX6_judge 34 = some (.iaload, 35, 0, 0) := by decide +kernel
theorem xX6_judge_35 : xdec cX6_judge 35 = some (.if_icmp .ge 56, 38, 91, 0) := by decide +kernel
theorem xX6_judge_38 : xdec cX6_judge 38 = some (.iload_n 3, 39, 3, 0) := by decide +kernel
theorem xX6_judge_39 : xdec cX6_judge 39 = some (.ifCond .ge 52, 42, 91, 0) := by decide +kernel
theorem xX6_judge_42 : xdec cX6_judge 42 = some (.aload_n 0, 43, 0, 0) := by decide +kernel
theorem xX6_judge_43 : xdec cX6_judge 43 = some (.iload_n 1, 44, 1, 0) := by decide +kernel
theorem xX6_judge_44 : xdec cX6_judge 44 = some (.iload 4, 46, 4, 0) := by decide +kernel
theorem xX6_judge_46 : xdec cX6_judge 46 = some (.invokevirtual 284, 49, 0, 0) := by decide +kernel
theorem xX6_judge_49 : xdec cX6_judge 49 = some (.ifCond .ne 29, 52, 78, 0) := by decide +kernel
theorem xX6_judge_52 : xdec cX6_judge 52 = some (.aload_n 0, 53, 0, 0) := by decide +kernel
theorem xX6_judge_53 : xdec cX6_judge 53 = some (.getfield 43, 56, 43, 0) := by decide +kernel
theorem xX6_judge_56 : xdec cX6_judge 56 = some (.bipush 100, 58, 0, 100) := by decide +kernel
theorem xX6_judge_58 : xdec cX6_judge 58 = some (.iload_n 1, 59, 1, 0) := by decide +kernel
theorem xX6_judge_59 : xdec cX6_judge 59 = some (.imul, 60, 0, 0) := by decide +kernel
theorem xX6_judge_60 : xdec cX6_judge 60 = some (.iload 4, 62, 4, 0) := by decide +kernel
theorem xX6_judge_62 : xdec cX6_judge 62 = some (.iadd, 63, 0, 0) := by decide +kernel
theorem xX6_judge_63 : xdec cX6_judge 63 = some (.laload, 64, 0, 0) := by decide +kernel
theorem xX6_judge_64 : xdec cX6_judge 64 = some (.aload_n 0, 65, 0, 0) := by decide +kernel
theorem xX6_judge_65 : xdec cX6_judge 65 = some (.invokevirtual 264, 68, 0, 0) := by decide +kernel
theorem xX6_judge_68 : xdec cX6_judge 68 = some (.i2l, 69, 0, 0) := by decide +kernel
theorem xX6_judge_69 : xdec cX6_judge 69 = some (.lcmp, 70, 0, 0) := by decide +kernel
theorem xX6_judge_70 : xdec cX6_judge 70 = some (.ifCond .eq 8, 73, 78, 0) := by decide +kernel
theorem xX6_judge_73 : xdec cX6_judge 73 = some (.iload 4, 75, 4, 0) := by decide +kernel
theorem xX6_judge_75 : xdec cX6_judge 75 = some (.goto 5, 78, 80, 0) := by decide +kernel
theorem xX6_judge_78 : xdec cX6_judge 78 = some (.bipush (-4), 80, 0, (-4)) := by decide +kernel
theorem xX6_judge_80 : xdec cX6_judge 80 = some (.istore_n 3, 81, 3, 0) := by decide +kernel
theorem xX6_judge_81 : xdec cX6_judge 81 = some (.aload_n 0, 82, 0, 0) := by decide +kernel
theorem xX6_judge_82 : xdec cX6_judge 82 = some (.invokevirtual 132, 85, 0, 0) := by decide +kernel
theorem xX6_judge_85 : xdec cX6_judge 85 = some (.iinc 4 1, 88, 4, 1) := by decide +kernel
theorem xX6_judge_88 : xdec cX6_judge 88 = some (.goto (-61), 91, 27, 0) := by decide +kernel
theorem xX6_judge_91 : xdec cX6_judge 91 = some (.aload_n 0, 92, 0, 0) := by decide +kernel
theorem xX6_judge_92 : xdec cX6_judge 92 = some (.invokevirtual 196, 95, 0, 0) := by decide +kernel
theorem xX6_judge_95 : xdec cX6_judge 95 = some (.iload_n 3, 96, 3, 0) := by decide +kernel
theorem xX6_judge_96 : xdec cX6_judge 96 = some (.ireturn, 97, 0, 0) := by decide +kernel
theorem xX6_drawBelow_0 : xdec cX6_drawBelow 0 = some (.aload_n 0, 1, 0, 0) := by decide +kernel
theorem xX6_drawBelow_1 : xdec cX6_drawBelow 1 = some (.aload_n 0, 2, 0, 0) := by decide +kernel
theorem xX6_drawBelow_2 : xdec cX6_drawBelow 2 = some (.getfield 305, 5, 305, 0) := by decide +kernel
theorem xX6_drawBelow_5 : xdec cX6_drawBelow 5 = some (.ldc_w 308, 8, 308, 0) := by decide +kernel
theorem xX6_drawBelow_8 : xdec cX6_drawBelow 8 = some (.imul, 9, 0, 0) := by decide +kernel
theorem xX6_drawBelow_9 : xdec cX6_drawBelow 9 = some (.sipush 12345, 12, 0, 12345) := by decide +kernel
theorem xX6_drawBelow_12 : xdec cX6_drawBelow 12 = some (.iadd, 13, 0, 0) := by decide +kernel
theorem xX6_drawBelow_13 : xdec cX6_drawBelow 13 = some (.putfield 305, 16, 305, 0) := by decide +kernel
theorem xX6_drawBelow_16 : xdec cX6_drawBelow 16 = some (.aload_n 0, 17, 0, 0) := by decide +kernel
theorem xX6_drawBelow_17 : xdec cX6_drawBelow 17 = some (.getfield 305, 20, 305, 0) := by decide +kernel
theorem xX6_drawBelow_20 : xdec cX6_drawBelow 20 = some (.ldc_w 309, 23, 309, 0) := by decide +kernel
theorem xX6_drawBelow_23 : xdec cX6_drawBelow 23 = some (.iand, 24, 0, 0) := by decide +kernel
theorem xX6_drawBelow_24 : xdec cX6_drawBelow 24 = some (.ldc_w 310, 27, 310, 0) := by decide +kernel
theorem xX6_drawBelow_27 : xdec cX6_drawBelow 27 = some (.idiv, 28, 0, 0) := by decide +kernel
theorem xX6_drawBelow_28 : xdec cX6_drawBelow 28 = some (.iload_n 1, 29, 1, 0) := by decide +kernel
theorem xX6_drawBelow_29 : xdec cX6_drawBelow 29 = some (.irem, 30, 0, 0) := by decide +kernel
theorem xX6_drawBelow_30 : xdec cX6_drawBelow 30 = some (.ireturn, 31, 0, 0) := by decide +kernel
theorem xX6_years_0 : xdec cX6_years 0 = some (.aload_n 0, 1, 0, 0) := by decide +kernel
theorem xX6_years_1 : xdec cX6_years 1 = some (.iconst 0, 2, 0, 0) := by decide +kernel
theorem xX6_years_2 : xdec cX6_years 2 = some (.putfield 75, 5, 75, 0) := by decide +kernel
theorem xX6_years_5 : xdec cX6_years 5 = some (.iload_n 1, 6, 1, 0) := by decide +kernel
theorem xX6_years_6 : xdec cX6_years 6 = some (.i2l, 7, 0, 0) := by decide +kernel
theorem xX6_years_7 : xdec cX6_years 7 = some (.lconst 1, 8, 0, 1) := by decide +kernel
theorem xX6_years_8 : xdec cX6_years 8 = some (.ldc2_w 244, 11, 244, 0) := by decide +kernel
theorem xX6_years_11 : xdec cX6_years 11 = some (.invokestatic 81, 14, 0, 0) := by decide +kernel
theorem xX6_years_14 : xdec cX6_years 14 = some (.ifCond .eq 13, 17, 27, 0) := by decide +kernel
theorem xX6_years_17 : xdec cX6_years 17 = some (.iload_n 3, 18, 3, 0) := by decide +kernel
theorem xX6_years_18 : xdec cX6_years 18 = some (.i2l, 19, 0, 0) := by decide +kernel
theorem xX6_years_19 : xdec cX6_years 19 = some (.lconst 0, 20, 0, 0) := by decide +kernel
theorem xX6_years_20 : xdec cX6_years 20 = some (.lconst 1, 21, 0, 1) := by decide +kernel
theorem xX6_years_21 : xdec cX6_years 21 = some (.invokestatic 81, 24, 0, 0) := by decide +kernel
theorem xX6_years_24 : xdec cX6_years 24 = some (.ifCond .ne 5, 27, 29, 0) := by decide +kernel
theorem xX6_years_27 : xdec cX6_years 27 = some (.iconst (-1), 28, 0, (-1)) := by decide +kernel
theorem xX6_years_28 : xdec cX6_years 28 = some (.ireturn, 29, 0, 0) := by decide +kernel
theorem xX6_years_29 : xdec cX6_years 29 = some (.aload_n 0, 30, 0, 0) := by decide +kernel
theorem xX6_years_30 : xdec cX6_years 30 = some (.iload_n 2, 31, 2, 0) := by decide +kernel
theorem xX6_years_31 : xdec cX6_years 31 = some (.putfield 305, 34, 305, 0) := by decide +kernel
theorem xX6_years_34 : xdec cX6_years 34 = some (.iconst 0, 35, 0, 0) := by decide +kernel
theorem xX6_years_35 : xdec cX6_years 35 = some (.istore 4, 37, 4, 0) := by decide +kernel
theorem xX6_years_37 : xdec cX6_years 37 = some (.aload_n 0, 38, 0, 0) := by decide +kernel
theorem xX6_years_38 : xdec cX6_years 38 = some (.getfield 116, 41, 116, 0) := by decide +kernel
theorem xX6_years_41 : xdec cX6_years 41 = some (.istore 5, 43, 5, 0) := by decide +kernel
theorem xX6_years_43 : xdec cX6_years 43 = some (.aload_n 0, 44, 0, 0) := by decide +kernel
theorem xX6_years_44 : xdec cX6_years 44 = some (.invokevirtual 190, 47, 0, 0) := by decide +kernel
theorem xX6_years_47 : xdec cX6_years 47 = some (.iconst 0, 48, 0, 0) := by decide +kernel
theorem xX6_years_48 : xdec cX6_years 48 = some (.istore 6, 50, 6, 0) := by decide +kernel
theorem xX6_years_50 : xdec cX6_years 50 = some (.iload 6, 52, 6, 0) := by decide +kernel
theorem xX6_years_52 : xdec cX6_years 52 = some (.iload_n 1, 53, 1, 0) := by decide +kernel
theorem xX6_years_53 : xdec cX6_years 53 = some (.if_icmp .ge 105, 56, 158, 0) := by decide +kernel
theorem xX6_years_56 : xdec cX6_years 56 = some (.iconst 0, 57, 0, 0) := by decide +kernel
theorem xX6_years_57 : xdec cX6_years 57 = some (.istore 7, 59, 7, 0) := by decide +kernel
theorem xX6_years_59 : xdec cX6_years 59 = some (.iload 7, 61, 7, 0) := by decide +kernel
theorem xX6_years_61 : xdec cX6_years 61 = some (.aload_n 0, 62, 0, 0) := by decide +kernel
theorem xX6_years_62 : xdec cX6_years 62 = some (.getfield 85, 65, 85, 0) := by decide +kernel
theorem xX6_years_65 : xdec cX6_years 65 = some (.if_icmp .ge 22, 68, 87, 0) := by decide +kernel
theorem xX6_years_68 : xdec cX6_years 68 = some (.aload_n 0, 69, 0, 0) := by decide +kernel
theorem xX6_years_69 : xdec cX6_years 69 = some (.getfield 19, 72, 19, 0) := by decide +kernel
theorem xX6_years_72 : xdec cX6_years 72 = some (.iload 7, 74, 7, 0) := by decide +kernel
theorem xX6_years_74 : xdec cX6_years 74 = some (.aload_n 0, 75, 0, 0) := by decide +kernel
theorem xX6_years_75 : xdec cX6_years 75 = some (.bipush 10, 77, 0, 10) := by decide +kernel
theorem xX6_years_77 : xdec cX6_years 77 = some (.invokevirtual 311, 80, 0, 0) := by decide +kernel
theorem xX6_years_80 : xdec cX6_years 80 = some (.iastore, 81, 0, 0) := by decide +kernel
theorem xX6_years_81 : xdec cX6_years 81 = some (.iinc 7 1, 84, 7, 1) := by decide +kernel
theorem xX6_years_84 : xdec cX6_years 84 = some (.goto (-25), 87, 59, 0) := by decide +kernel
theorem xX6_years_87 : xdec cX6_years 87 = some (.iconst 0, 88, 0, 0) := by decide +kernel
theorem xX6_years_88 : xdec cX6_years 88 = some (.istore 7, 90, 7, 0) := by decide +kernel
theorem xX6_years_90 : xdec cX6_years 90 = some (.iload 7, 92, 7, 0) := by decide +kernel
theorem xX6_years_92 : xdec cX6_years 92 = some (.bipush 10, 94, 0, 10) := by decide +kernel
theorem xX6_years_94 : xdec cX6_years 94 = some (.if_icmp .ge 22, 97, 116, 0) := by decide +kernel
theorem xX6_years_97 : xdec cX6_years 97 = some (.aload_n 0, 98, 0, 0) := by decide +kernel
theorem xX6_years_98 : xdec cX6_years 98 = some (.getfield 7, 101, 7, 0) := by decide +kernel
theorem xX6_years_101 : xdec cX6_years 101 = some (.iload 7, 103, 7, 0) := by decide +kernel
theorem xX6_years_103 : xdec cX6_years 103 = some (.aload_n 0, 104, 0, 0) := by decide +kernel
theorem xX6_years_104 : xdec cX6_years 104 = some (.bipush 6, 106, 0, 6) := by decide +kernel
theorem xX6_years_106 : xdec cX6_years 106 = some (.invokevirtual 311, 109, 0, 0) := by decide +kernel
theorem xX6_years_109 : xdec cX6_years 109 = some (.iastore, 110, 0, 0) := by decide +kernel
theorem xX6_years_110 : xdec cX6_years 110 = some (.iinc 7 1, 113, 7, 1) := by decide +kernel
theorem xX6_years_113 : xdec cX6_years 113 = some (.goto (-23), 116, 90, 0) := by decide +kernel
theorem xX6_years_116 : xdec cX6_years 116 = some (.aload_n 0, 117, 0, 0) := by decide +kernel
theorem xX6_years_117 : xdec cX6_years 117 = some (.bipush 12, 119, 0, 12) := by decide +kernel
theorem xX6_years_119 : xdec cX6_years 119 = some (.invokevirtual 168, 122, 0, 0) := by decide +kernel
theorem xX6_years_122 : xdec cX6_years 122 = some (.iload 4, 124, 4, 0) := by decide +kernel
theorem xX6_years_124 : xdec cX6_years 124 = some (.iload_n 3, 125, 3, 0) := by decide +kernel
theorem xX6_years_125 : xdec cX6_years 125 = some (.ifCond .ne 13, 128, 138, 0) := by decide +kernel
theorem xX6_years_128 : xdec cX6_years 128 = some (.aload_n 0, 129, 0, 0) := by decide +kernel
theorem xX6_years_129 : xdec cX6_years 129 = some (.getfield 116, 132, 116, 0) := by decide +kernel
theorem xX6_years_132 : xdec cX6_years 132 = some (.iload 5, 134, 5, 0) := by decide +kernel
theorem xX6_years_134 : xdec cX6_years 134 = some (.isub, 135, 0, 0) := by decide +kernel
theorem xX6_years_135 : xdec cX6_years 135 = some (.goto 10, 138, 145, 0) := by decide +kernel
theorem xX6_years_138 : xdec cX6_years 138 = some (.aload_n 0, 139, 0, 0) := by decide +kernel
theorem xX6_years_139 : xdec cX6_years 139 = some (.getfield 125, 142, 125, 0) := by decide +kernel
theorem xX6_years_142 : xdec cX6_years 142 = some (.invokestatic 228, 145, 0, 0) := by decide +kernel
theorem xX6_years_145 : xdec cX6_years 145 = some (.iadd, 146, 0, 0) := by decide +kernel
theorem xX6_years_146 : xdec cX6_years 146 = some (.istore 4, 148, 4, 0) := by decide +kernel
theorem xX6_years_148 : xdec cX6_years 148 = some (.aload_n 0, 149, 0, 0) := by decide +kernel
theorem xX6_years_149 : xdec cX6_years 149 = some (.invokevirtual 196, 152, 0, 0) := by decide +kernel
theorem xX6_years_152 : xdec cX6_years 152 = some (.iinc 6 1, 155, 6, 1) := by decide +kernel
theorem xX6_years_155 : xdec cX6_years 155 = some (.goto (-105), 158, 50, 0) := by decide +kernel
theorem xX6_years_158 : xdec cX6_years 158 = some (.iload 4, 160, 4, 0) := by decide +kernel
theorem xX6_years_160 : xdec cX6_years 160 = some (.ireturn, 161, 0, 0) := by decide +kernel
theorem xX6_count_0 : xdec cX6_count 0 = some (.aload_n 0, 1, 0, 0) := by decide +kernel
theorem xX6_count_1 : xdec cX6_count 1 = some (.iconst 0, 2, 0, 0) := by decide +kernel
theorem xX6_count_2 : xdec cX6_count 2 = some (.putfield 75, 5, 75, 0) := by decide +kernel
theorem xX6_count_5 : xdec cX6_count 5 = some (.iload_n 1, 6, 1, 0) := by decide +kernel
theorem xX6_count_6 : xdec cX6_count 6 = some (.tableswitch 68 0 5 #[38, 43, 48, 53, 58, 63], 44, 0, 0) := by decide +kernel
theorem xX6_count_44 : xdec cX6_count 44 = some (.aload_n 0, 45, 0, 0) := by decide +kernel
theorem xX6_count_45 : xdec cX6_count 45 = some (.getfield 85, 48, 85, 0) := by decide +kernel
theorem xX6_count_48 : xdec cX6_count 48 = some (.ireturn, 49, 0, 0) := by decide +kernel
theorem xX6_count_49 : xdec cX6_count 49 = some (.aload_n 0, 50, 0, 0) := by decide +kernel
theorem xX6_count_50 : xdec cX6_count 50 = some (.getfield 92, 53, 92, 0) := by decide +kernel
theorem xX6_count_53 : xdec cX6_count 53 = some (.ireturn, 54, 0, 0) := by decide +kernel
theorem xX6_count_54 : xdec cX6_count 54 = some (.aload_n 0, 55, 0, 0) := by decide +kernel
theorem xX6_count_55 : xdec cX6_count 55 = some (.getfield 116, 58, 116, 0) := by decide +kernel
theorem xX6_count_58 : xdec cX6_count 58 = some (.ireturn, 59, 0, 0) := by decide +kernel
theorem xX6_count_59 : xdec cX6_count 59 = some (.aload_n 0, 60, 0, 0) := by decide +kernel
theorem xX6_count_60 : xdec cX6_count 60 = some (.getfield 122, 63, 122, 0) := by decide +kernel
theorem xX6_count_63 : xdec cX6_count 63 = some (.ireturn, 64, 0, 0) := by decide +kernel
theorem xX6_count_64 : xdec cX6_count 64 = some (.aload_n 0, 65, 0, 0) := by decide +kernel
theorem xX6_count_65 : xdec cX6_count 65 = some (.getfield 125, 68, 125, 0) := by decide +kernel
theorem xX6_count_68 : xdec cX6_count 68 = some (.ireturn, 69, 0, 0) := by decide +kernel
theorem xX6_count_69 : xdec cX6_count 69 = some (.aload_n 0, 70, 0, 0) := by decide +kernel
theorem xX6_count_70 : xdec cX6_count 70 = some (.invokevirtual 264, 73, 0, 0) := by decide +kernel
theorem xX6_count_73 : xdec cX6_count 73 = some (.ireturn, 74, 0, 0) := by decide +kernel
theorem xX6_count_74 : xdec cX6_count 74 = some (.iconst (-1), 75, 0, (-1)) := by decide +kernel
theorem xX6_count_75 : xdec cX6_count 75 = some (.ireturn, 76, 0, 0) := by decide +kernel
theorem xX6_wrongKept_0 : xdec cX6_wrongKept 0 = some (.iload_n 1, 1, 1, 0) := by decide +kernel
theorem xX6_wrongKept_1 : xdec cX6_wrongKept 1 = some (.i2l, 2, 0, 0) := by decide +kernel
theorem xX6_wrongKept_2 : xdec cX6_wrongKept 2 = some (.lconst 0, 3, 0, 0) := by decide +kernel
theorem xX6_wrongKept_3 : xdec cX6_wrongKept 3 = some (.ldc2_w 218, 6, 218, 0) := by decide +kernel
theorem xX6_wrongKept_6 : xdec cX6_wrongKept 6 = some (.invokestatic 81, 9, 0, 0) := by decide +kernel
theorem xX6_wrongKept_9 : xdec cX6_wrongKept 9 = some (.ifCond .ne 7, 12, 16, 0) := by decide +kernel
theorem xX6_wrongKept_12 : xdec cX6_wrongKept 12 = some (.iconst (-1), 13, 0, (-1)) := by decide +kernel
theorem xX6_wrongKept_13 : xdec cX6_wrongKept 13 = some (.goto 33, 16, 46, 0) := by decide +kernel
theorem xX6_wrongKept_16 : xdec cX6_wrongKept 16 = some (.aload_n 0, 17, 0, 0) := by decide +kernel
theorem xX6_wrongKept_17 : xdec cX6_wrongKept 17 = some (.getfield 28, 20, 28, 0) := by decide +kernel
theorem xX6_wrongKept_20 : xdec cX6_wrongKept 20 = some (.iload_n 1, 21, 1, 0) := by decide +kernel
theorem xX6_wrongKept_21 : xdec cX6_wrongKept 21 = some (.iaload, 22, 0, 0) := by decide +kernel
theorem xX6_wrongKept_22 : xdec cX6_wrongKept 22 = some (.ifCond .ne 8, 25, 30, 0) := by decide +kernel
theorem xX6_wrongKept_25 : xdec cX6_wrongKept 25 = some (.bipush (-11), 27, 0, (-11)) := by decide +kernel
theorem xX6_wrongKept_27 : xdec cX6_wrongKept 27 = some (.goto 19, 30, 46, 0) := by decide +kernel
theorem xX6_wrongKept_30 : xdec cX6_wrongKept 30 = some (.aload_n 0, 31, 0, 0) := by decide +kernel
theorem xX6_wrongKept_31 : xdec cX6_wrongKept 31 = some (.getfield 28, 34, 28, 0) := by decide +kernel
theorem xX6_wrongKept_34 : xdec cX6_wrongKept 34 = some (.iload_n 1, 35, 1, 0) := by decide +kernel
theorem xX6_wrongKept_35 : xdec cX6_wrongKept 35 = some (.iaload, 36, 0, 0) := by decide +kernel
theorem xX6_wrongKept_36 : xdec cX6_wrongKept 36 = some (.iconst 2, 37, 0, 2) := by decide +kernel
theorem xX6_wrongKept_37 : xdec cX6_wrongKept 37 = some (.if_icmp .ne 8, 40, 45, 0) := by decide +kernel
theorem xX6_wrongKept_40 : xdec cX6_wrongKept 40 = some (.bipush (-12), 42, 0, (-12)) := by decide +kernel
theorem xX6_wrongKept_42 : xdec cX6_wrongKept 42 = some (.goto 4, 45, 46, 0) := by decide +kernel
theorem xX6_wrongKept_45 : xdec cX6_wrongKept 45 = some (.iconst 0, 46, 0, 0) := by decide +kernel
theorem xX6_wrongKept_46 : xdec cX6_wrongKept 46 = some (.ireturn, 47, 0, 0) := by decide +kernel
theorem xX6_keep_0 : xdec cX6_keep 0 = some (.aload_n 0, 1, 0, 0) := by decide +kernel
theorem xX6_keep_1 : xdec cX6_keep 1 = some (.iconst 0, 2, 0, 0) := by decide +kernel
theorem xX6_keep_2 : xdec cX6_keep 2 = some (.putfield 75, 5, 75, 0) := by decide +kernel
theorem xX6_keep_5 : xdec cX6_keep 5 = some (.iload_n 1, 6, 1, 0) := by decide +kernel
theorem xX6_keep_6 : xdec cX6_keep 6 = some (.i2l, 7, 0, 0) := by decide +kernel
theorem xX6_keep_7 : xdec cX6_keep 7 = some (.lconst 0, 8, 0, 0) := by decide +kernel
theorem xX6_keep_8 : xdec cX6_keep 8 = some (.ldc2_w 218, 11, 218, 0) := by decide +kernel
theorem xX6_keep_11 : xdec cX6_keep 11 = some (.invokestatic 81, 14, 0, 0) := by decide +kernel
theorem xX6_keep_14 : xdec cX6_keep 14 = some (.ifCond .eq 43, 17, 57, 0) := by decide +kernel
theorem xX6_keep_17 : xdec cX6_keep 17 = some (.iload_n 2, 18, 2, 0) := by decide +kernel
theorem xX6_keep_18 : xdec cX6_keep 18 = some (.i2l, 19, 0, 0) := by decide +kernel
theorem xX6_keep_19 : xdec cX6_keep 19 = some (.lconst 0, 20, 0, 0) := by decide +kernel
theorem xX6_keep_20 : xdec cX6_keep 20 = some (.lconst 1, 21, 0, 1) := by decide +kernel
theorem xX6_keep_21 : xdec cX6_keep 21 = some (.invokestatic 81, 24, 0, 0) := by decide +kernel
theorem xX6_keep_24 : xdec cX6_keep 24 = some (.ifCond .eq 33, 27, 57, 0) := by decide +kernel
theorem xX6_keep_27 : xdec cX6_keep 27 = some (.iload_n 2, 28, 2, 0) := by decide +kernel
theorem xX6_keep_28 : xdec cX6_keep 28 = some (.iconst 1, 29, 0, 1) := by decide +kernel
theorem xX6_keep_29 : xdec cX6_keep 29 = some (.if_icmp .ne 30, 32, 59, 0) := by decide +kernel
theorem xX6_keep_32 : xdec cX6_keep 32 = some (.iload_n 3, 33, 3, 0) := by decide +kernel
theorem xX6_keep_33 : xdec cX6_keep 33 = some (.i2l, 34, 0, 0) := by decide +kernel
theorem xX6_keep_34 : xdec cX6_keep 34 = some (.lconst 0, 35, 0, 0) := by decide +kernel
theorem xX6_keep_35 : xdec cX6_keep 35 = some (.ldc2_w 218, 38, 218, 0) := by decide +kernel
theorem xX6_keep_38 : xdec cX6_keep 38 = some (.invokestatic 81, 41, 0, 0) := by decide +kernel
theorem xX6_keep_41 : xdec cX6_keep 41 = some (.ifCond .eq 16, 44, 57, 0) := by decide +kernel
theorem xX6_keep_44 : xdec cX6_keep 44 = some (.iload 4, 46, 4, 0) := by decide +kernel
theorem xX6_keep_46 : xdec cX6_keep 46 = some (.i2l, 47, 0, 0) := by decide +kernel
theorem xX6_keep_47 : xdec cX6_keep 47 = some (.lconst 0, 48, 0, 0) := by decide +kernel
theorem xX6_keep_48 : xdec cX6_keep 48 = some (.ldc2_w 79, 51, 79, 0) := by decide +kernel
theorem xX6_keep_51 : xdec cX6_keep 51 = some (.invokestatic 81, 54, 0, 0) := by decide +kernel
theorem xX6_keep_54 : xdec cX6_keep 54 = some (.ifCond .ne 5, 57, 59, 0) := by decide +kernel
theorem xX6_keep_57 : xdec cX6_keep 57 = some (.iconst (-1), 58, 0, (-1)) := by decide +kernel
theorem xX6_keep_58 : xdec cX6_keep 58 = some (.ireturn, 59, 0, 0) := by decide +kernel
theorem xX6_keep_59 : xdec cX6_keep 59 = some (.aload_n 0, 60, 0, 0) := by decide +kernel
theorem xX6_keep_60 : xdec cX6_keep 60 = some (.getfield 28, 63, 28, 0) := by decide +kernel
theorem xX6_keep_63 : xdec cX6_keep 63 = some (.iload_n 1, 64, 1, 0) := by decide +kernel
theorem xX6_keep_64 : xdec cX6_keep 64 = some (.iload_n 2, 65, 2, 0) := by decide +kernel
theorem xX6_keep_65 : xdec cX6_keep 65 = some (.iastore, 66, 0, 0) := by decide +kernel
theorem xX6_keep_66 : xdec cX6_keep 66 = some (.aload_n 0, 67, 0, 0) := by decide +kernel
theorem xX6_keep_67 : xdec cX6_keep 67 = some (.getfield 31, 70, 31, 0) := by decide +kernel
theorem xX6_keep_70 : xdec cX6_keep 70 = some (.iload_n 1, 71, 1, 0) := by decide +kernel
theorem xX6_keep_71 : xdec cX6_keep 71 = some (.iload_n 2, 72, 2, 0) := by decide +kernel
theorem xX6_keep_72 : xdec cX6_keep 72 = some (.iconst 1, 73, 0, 1) := by decide +kernel
theorem xX6_keep_73 : xdec cX6_keep 73 = some (.if_icmp .ne 7, 76, 80, 0) := by decide +kernel
theorem xX6_keep_76 : xdec cX6_keep 76 = some (.iload_n 3, 77, 3, 0) := by decide +kernel
theorem xX6_keep_77 : xdec cX6_keep 77 = some (.goto 4, 80, 81, 0) := by decide +kernel
theorem xX6_keep_80 : xdec cX6_keep 80 = some (.iconst 0, 81, 0, 0) := by decide +kernel
theorem xX6_keep_81 : xdec cX6_keep 81 = some (.iastore, 82, 0, 0) := by decide +kernel
theorem xX6_keep_82 : xdec cX6_keep 82 = some (.aload_n 0, 83, 0, 0) := by decide +kernel
theorem xX6_keep_83 : xdec cX6_keep 83 = some (.getfield 34, 86, 34, 0) := by decide +kernel
theorem xX6_keep_86 : xdec cX6_keep 86 = some (.iload_n 1, 87, 1, 0) := by decide +kernel
theorem xX6_keep_87 : xdec cX6_keep 87 = some (.iload_n 2, 88, 2, 0) := by decide +kernel
theorem xX6_keep_88 : xdec cX6_keep 88 = some (.iconst 1, 89, 0, 1) := by decide +kernel
theorem xX6_keep_89 : xdec cX6_keep 89 = some (.if_icmp .ne 8, 92, 97, 0) := by decide +kernel
theorem xX6_keep_92 : xdec cX6_keep 92 = some (.iload 4, 94, 4, 0) := by decide +kernel
theorem xX6_keep_94 : xdec cX6_keep 94 = some (.goto 4, 97, 98, 0) := by decide +kernel
theorem xX6_keep_97 : xdec cX6_keep 97 = some (.iconst 0, 98, 0, 0) := by decide +kernel
theorem xX6_keep_98 : xdec cX6_keep 98 = some (.iastore, 99, 0, 0) := by decide +kernel
theorem xX6_keep_99 : xdec cX6_keep 99 = some (.iconst 0, 100, 0, 0) := by decide +kernel
theorem xX6_keep_100 : xdec cX6_keep 100 = some (.ireturn, 101, 0, 0) := by decide +kernel
theorem xX6_wrongRow_0 : xdec cX6_wrongRow 0 = some (.iload_n 1, 1, 1, 0) := by decide +kernel
theorem xX6_wrongRow_1 : xdec cX6_wrongRow 1 = some (.i2l, 2, 0, 0) := by decide +kernel
theorem xX6_wrongRow_2 : xdec cX6_wrongRow 2 = some (.lconst 0, 3, 0, 0) := by decide +kernel
theorem xX6_wrongRow_3 : xdec cX6_wrongRow 3 = some (.ldc2_w 218, 6, 218, 0) := by decide +kernel
theorem xX6_wrongRow_6 : xdec cX6_wrongRow 6 = some (.invokestatic 81, 9, 0, 0) := by decide +kernel
theorem xX6_wrongRow_9 : xdec cX6_wrongRow 9 = some (.ifCond .ne 7, 12, 16, 0) := by decide +kernel
theorem xX6_wrongRow_12 : xdec cX6_wrongRow 12 = some (.iconst (-1), 13, 0, (-1)) := by decide +kernel
theorem xX6_wrongRow_13 : xdec cX6_wrongRow 13 = some (.goto 33, 16, 46, 0) := by decide +kernel
theorem xX6_wrongRow_16 : xdec cX6_wrongRow 16 = some (.aload_n 0, 17, 0, 0) := by decide +kernel
theorem xX6_wrongRow_17 : xdec cX6_wrongRow 17 = some (.getfield 28, 20, 28, 0) := by decide +kernel
theorem xX6_wrongRow_20 : xdec cX6_wrongRow 20 = some (.iload_n 1, 21, 1, 0) := by decide +kernel
theorem xX6_wrongRow_21 : xdec cX6_wrongRow 21 = some (.iaload, 22, 0, 0) := by decide +kernel
theorem xX6_wrongRow_22 : xdec cX6_wrongRow 22 = some (.ifCond .ne 8, 25, 30, 0) := by decide +kernel
theorem xX6_wrongRow_25 : xdec cX6_wrongRow 25 = some (.bipush (-11), 27, 0, (-11)) := by decide +kernel
theorem xX6_wrongRow_27 : xdec cX6_wrongRow 27 = some (.goto 19, 30, 46, 0) := by decide +kernel
theorem xX6_wrongRow_30 : xdec cX6_wrongRow 30 = some (.aload_n 0, 31, 0, 0) := by decide +kernel
theorem xX6_wrongRow_31 : xdec cX6_wrongRow 31 = some (.getfield 28, 34, 28, 0) := by decide +kernel
theorem xX6_wrongRow_34 : xdec cX6_wrongRow 34 = some (.iload_n 1, 35, 1, 0) := by decide +kernel
theorem xX6_wrongRow_35 : xdec cX6_wrongRow 35 = some (.iaload, 36, 0, 0) := by decide +kernel
theorem xX6_wrongRow_36 : xdec cX6_wrongRow 36 = some (.iconst 2, 37, 0, 2) := by decide +kernel
theorem xX6_wrongRow_37 : xdec cX6_wrongRow 37 = some (.if_icmp .eq 8, 40, 45, 0) := by decide +kernel
theorem xX6_wrongRow_40 : xdec cX6_wrongRow 40 = some (.bipush (-12), 42, 0, (-12)) := by decide +kernel
theorem xX6_wrongRow_42 : xdec cX6_wrongRow 42 = some (.goto 4, 45, 46, 0) := by decide +kernel
theorem xX6_wrongRow_45 : xdec cX6_wrongRow 45 = some (.iconst 0, 46, 0, 0) := by decide +kernel
theorem xX6_wrongRow_46 : xdec cX6_wrongRow 46 = some (.ireturn, 47, 0, 0) := by decide +kernel
theorem xX6_narrowed_0 : xdec cX6_narrowed 0 = some (.iload_n 1, 1, 1, 0) := by decide +kernel
theorem xX6_narrowed_1 : xdec cX6_narrowed 1 = some (.ifCond .ne 9, 4, 10, 0) := by decide +kernel
theorem xX6_narrowed_4 : xdec cX6_narrowed 4 = some (.iload_n 0, 5, 0, 0) := by decide +kernel
theorem xX6_narrowed_5 : xdec cX6_narrowed 5 = some (.i2b, 6, 0, 0) := by decide +kernel
theorem xX6_narrowed_6 : xdec cX6_narrowed 6 = some (.i2l, 7, 0, 0) := by decide +kernel
theorem xX6_narrowed_7 : xdec cX6_narrowed 7 = some (.goto 16, 10, 23, 0) := by decide +kernel
theorem xX6_narrowed_10 : xdec cX6_narrowed 10 = some (.iload_n 1, 11, 1, 0) := by decide +kernel
theorem xX6_narrowed_11 : xdec cX6_narrowed 11 = some (.iconst 1, 12, 0, 1) := by decide +kernel
theorem xX6_narrowed_12 : xdec cX6_narrowed 12 = some (.if_icmp .ne 9, 15, 21, 0) := by decide +kernel
theorem xX6_narrowed_15 : xdec cX6_narrowed 15 = some (.iload_n 0, 16, 0, 0) := by decide +kernel
theorem xX6_narrowed_16 : xdec cX6_narrowed 16 = some (.i2s, 17, 0, 0) := by decide +kernel
theorem xX6_narrowed_17 : xdec cX6_narrowed 17 = some (.i2l, 18, 0, 0) := by decide +kernel
theorem xX6_narrowed_18 : xdec cX6_narrowed 18 = some (.goto 5, 21, 23, 0) := by decide +kernel
theorem xX6_narrowed_21 : xdec cX6_narrowed 21 = some (.iload_n 0, 22, 0, 0) := by decide +kernel
theorem xX6_narrowed_22 : xdec cX6_narrowed 22 = some (.i2l, 23, 0, 0) := by decide +kernel
theorem xX6_narrowed_23 : xdec cX6_narrowed 23 = some (.lreturn, 24, 0, 0) := by decide +kernel
theorem xX6_row_0 : xdec cX6_row 0 = some (.aload_n 0, 1, 0, 0) := by decide +kernel
theorem xX6_row_1 : xdec cX6_row 1 = some (.iconst 0, 2, 0, 0) := by decide +kernel
theorem xX6_row_2 : xdec cX6_row 2 = some (.putfield 75, 5, 75, 0) := by decide +kernel
theorem xX6_row_5 : xdec cX6_row 5 = some (.iload_n 1, 6, 1, 0) := by decide +kernel
theorem xX6_row_6 : xdec cX6_row 6 = some (.i2l, 7, 0, 0) := by decide +kernel
theorem xX6_row_7 : xdec cX6_row 7 = some (.lconst 0, 8, 0, 0) := by decide +kernel
theorem xX6_row_8 : xdec cX6_row 8 = some (.ldc2_w 218, 11, 218, 0) := by decide +kernel
theorem xX6_row_11 : xdec cX6_row 11 = some (.invokestatic 81, 14, 0, 0) := by decide +kernel
theorem xX6_row_14 : xdec cX6_row 14 = some (.ifCond .eq 21, 17, 35, 0) := by decide +kernel
theorem xX6_row_17 : xdec cX6_row 17 = some (.iload_n 2, 18, 2, 0) := by decide +kernel
theorem xX6_row_18 : xdec cX6_row 18 = some (.i2l, 19, 0, 0) := by decide +kernel
theorem xX6_row_19 : xdec cX6_row 19 = some (.lconst 0, 20, 0, 0) := by decide +kernel
theorem xX6_row_20 : xdec cX6_row 20 = some (.ldc2_w 231, 23, 231, 0) := by decide +kernel
theorem xX6_row_23 : xdec cX6_row 23 = some (.invokestatic 81, 26, 0, 0) := by decide +kernel
theorem xX6_row_26 : xdec cX6_row 26 = some (.ifCond .eq 9, 29, 35, 0) := by decide +kernel
theorem xX6_row_29 : xdec cX6_row 29 = some (.iload_n 3, 30, 3, 0) := by decide +kernel
theorem xX6_row_30 : xdec cX6_row 30 = some (.bipush 100, 32, 0, 100) := by decide +kernel
theorem xX6_row_32 : xdec cX6_row 32 = some (.if_icmp .le 5, 35, 37, 0) := by decide +kernel
theorem xX6_row_35 : xdec cX6_row 35 = some (.iconst (-1), 36, 0, (-1)) := by decide +kernel
theorem xX6_row_36 : xdec cX6_row 36 = some (.ireturn, 37, 0, 0) := by decide +kernel
theorem xX6_row_37 : xdec cX6_row 37 = some (.iload_n 3, 38, 3, 0) := by decide +kernel
theorem xX6_row_38 : xdec cX6_row 38 = some (.ifCond .ge 6, 41, 44, 0) := by decide +kernel
theorem xX6_row_41 : xdec cX6_row 41 = some (.bipush (-14), 43, 0, (-14)) := by decide +kernel
theorem xX6_row_43 : xdec cX6_row 43 = some (.ireturn, 44, 0, 0) := by decide +kernel
theorem xX6_row_44 : xdec cX6_row 44 = some (.aload_n 0, 45, 0, 0) := by decide +kernel
theorem xX6_row_45 : xdec cX6_row 45 = some (.getfield 28, 48, 28, 0) := by decide +kernel
theorem xX6_row_48 : xdec cX6_row 48 = some (.iload_n 1, 49, 1, 0) := by decide +kernel
theorem xX6_row_49 : xdec cX6_row 49 = some (.iconst 2, 50, 0, 2) := by decide +kernel
theorem xX6_row_50 : xdec cX6_row 50 = some (.iastore, 51, 0, 0) := by decide +kernel
theorem xX6_row_51 : xdec cX6_row 51 = some (.aload_n 0, 52, 0, 0) := by decide +kernel
theorem xX6_row_52 : xdec cX6_row 52 = some (.getfield 37, 55, 37, 0) := by decide +kernel
theorem xX6_row_55 : xdec cX6_row 55 = some (.iload_n 1, 56, 1, 0) := by decide +kernel
theorem xX6_row_56 : xdec cX6_row 56 = some (.iload_n 2, 57, 2, 0) := by decide +kernel
theorem xX6_row_57 : xdec cX6_row 57 = some (.iastore, 58, 0, 0) := by decide +kernel
theorem xX6_row_58 : xdec cX6_row 58 = some (.aload_n 0, 59, 0, 0) := by decide +kernel
theorem xX6_row_59 : xdec cX6_row 59 = some (.getfield 40, 62, 40, 0) := by decide +kernel
theorem xX6_row_62 : xdec cX6_row 62 = some (.iload_n 1, 63, 1, 0) := by decide +kernel
theorem xX6_row_63 : xdec cX6_row 63 = some (.iload_n 3, 64, 3, 0) := by decide +kernel
theorem xX6_row_64 : xdec cX6_row 64 = some (.iastore, 65, 0, 0) := by decide +kernel
theorem xX6_row_65 : xdec cX6_row 65 = some (.iconst 0, 66, 0, 0) := by decide +kernel
theorem xX6_row_66 : xdec cX6_row 66 = some (.istore 4, 68, 4, 0) := by decide +kernel
theorem xX6_row_68 : xdec cX6_row 68 = some (.iload 4, 70, 4, 0) := by decide +kernel
theorem xX6_row_70 : xdec cX6_row 70 = some (.bipush 100, 72, 0, 100) := by decide +kernel
theorem xX6_row_72 : xdec cX6_row 72 = some (.if_icmp .ge 22, 75, 94, 0) := by decide +kernel
theorem xX6_row_75 : xdec cX6_row 75 = some (.aload_n 0, 76, 0, 0) := by decide +kernel
theorem xX6_row_76 : xdec cX6_row 76 = some (.getfield 43, 79, 43, 0) := by decide +kernel
theorem xX6_row_79 : xdec cX6_row 79 = some (.bipush 100, 81, 0, 100) := by decide +kernel
theorem xX6_row_81 : xdec cX6_row 81 = some (.iload_n 1, 82, 1, 0) := by decide +kernel
theorem xX6_row_82 : xdec cX6_row 82 = some (.imul, 83, 0, 0) := by decide +kernel
theorem xX6_row_83 : xdec cX6_row 83 = some (.iload 4, 85, 4, 0) := by decide +kernel
theorem xX6_row_85 : xdec cX6_row 85 = some (.iadd, 86, 0, 0) := by decide +kernel
theorem xX6_row_86 : xdec cX6_row 86 = some (.lconst 0, 87, 0, 0) := by decide +kernel
theorem xX6_row_87 : xdec cX6_row 87 = some (.lastore, 88, 0, 0) := by decide +kernel
theorem xX6_row_88 : xdec cX6_row 88 = some (.iinc 4 1, 91, 4, 1) := by decide +kernel
theorem xX6_row_91 : xdec cX6_row 91 = some (.goto (-23), 94, 68, 0) := by decide +kernel
theorem xX6_row_94 : xdec cX6_row 94 = some (.iconst 0, 95, 0, 0) := by decide +kernel
theorem xX6_row_95 : xdec cX6_row 95 = some (.ireturn, 96, 0, 0) := by decide +kernel
theorem xX6_put_0 : xdec cX6_put 0 = some (.aload_n 0, 1, 0, 0) := by decide +kernel
theorem xX6_put_1 : xdec cX6_put 1 = some (.iconst 0, 2, 0, 0) := by decide +kernel
theorem xX6_put_2 : xdec cX6_put 2 = some (.putfield 75, 5, 75, 0) := by decide +kernel
theorem xX6_put_5 : xdec cX6_put 5 = some (.aload_n 0, 6, 0, 0) := by decide +kernel
theorem xX6_put_6 : xdec cX6_put 6 = some (.iload_n 1, 7, 1, 0) := by decide +kernel
theorem xX6_put_7 : xdec cX6_put 7 = some (.invokevirtual 184, 10, 0, 0) := by decide +kernel
theorem xX6_put_10 : xdec cX6_put 10 = some (.istore 4, 12, 4, 0) := by decide +kernel
theorem xX6_put_12 : xdec cX6_put 12 = some (.iload 4, 14, 4, 0) := by decide +kernel
theorem xX6_put_14 : xdec cX6_put 14 = some (.ifCond .ge 6, 17, 20, 0) := by decide +kernel
theorem xX6_put_17 : xdec cX6_put 17 = some (.iload 4, 19, 4, 0) := by decide +kernel
theorem xX6_put_19 : xdec cX6_put 19 = some (.ireturn, 20, 0, 0) := by decide +kernel
theorem xX6_put_20 : xdec cX6_put 20 = some (.iload_n 2, 21, 2, 0) := by decide +kernel
theorem xX6_put_21 : xdec cX6_put 21 = some (.i2l, 22, 0, 0) := by decide +kernel
theorem xX6_put_22 : xdec cX6_put 22 = some (.lconst 0, 23, 0, 0) := by decide +kernel
theorem xX6_put_23 : xdec cX6_put 23 = some (.aload_n 0, 24, 0, 0) := by decide +kernel
theorem xX6_put_24 : xdec cX6_put 24 = some (.getfield 40, 27, 40, 0) := by decide +kernel
theorem xX6_put_27 : xdec cX6_put 27 = some (.iload_n 1, 28, 1, 0) := by decide +kernel
theorem xX6_put_28 : xdec cX6_put 28 = some (.iaload, 29, 0, 0) := by decide +kernel
theorem xX6_put_29 : xdec cX6_put 29 = some (.iconst 1, 30, 0, 1) := by decide +kernel
theorem xX6_put_30 : xdec cX6_put 30 = some (.isub, 31, 0, 0) := by decide +kernel
theorem xX6_put_31 : xdec cX6_put 31 = some (.i2l, 32, 0, 0) := by decide +kernel
theorem xX6_put_32 : xdec cX6_put 32 = some (.invokestatic 81, 35, 0, 0) := by decide +kernel
theorem xX6_put_35 : xdec cX6_put 35 = some (.ifCond .ne 6, 38, 41, 0) := by decide +kernel
theorem xX6_put_38 : xdec cX6_put 38 = some (.bipush (-13), 40, 0, (-13)) := by decide +kernel
theorem xX6_put_40 : xdec cX6_put 40 = some (.ireturn, 41, 0, 0) := by decide +kernel
theorem xX6_put_41 : xdec cX6_put 41 = some (.aload_n 0, 42, 0, 0) := by decide +kernel
theorem xX6_put_42 : xdec cX6_put 42 = some (.getfield 43, 45, 43, 0) := by decide +kernel
theorem xX6_put_45 : xdec cX6_put 45 = some (.bipush 100, 47, 0, 100) := by decide +kernel
theorem xX6_put_47 : xdec cX6_put 47 = some (.iload_n 1, 48, 1, 0) := by decide +kernel
theorem xX6_put_48 : xdec cX6_put 48 = some (.imul, 49, 0, 0) := by decide +kernel
theorem xX6_put_49 : xdec cX6_put 49 = some (.iload_n 2, 50, 2, 0) := by decide +kernel
theorem xX6_put_50 : xdec cX6_put 50 = some (.iadd, 51, 0, 0) := by decide +kernel
theorem xX6_put_51 : xdec cX6_put 51 = some (.iload_n 3, 52, 3, 0) := by decide +kernel
theorem xX6_put_52 : xdec cX6_put 52 = some (.aload_n 0, 53, 0, 0) := by decide +kernel
theorem xX6_put_53 : xdec cX6_put 53 = some (.getfield 37, 56, 37, 0) := by decide +kernel
theorem xX6_put_56 : xdec cX6_put 56 = some (.iload_n 1, 57, 1, 0) := by decide +kernel
theorem xX6_put_57 : xdec cX6_put 57 = some (.iaload, 58, 0, 0) := by decide +kernel
theorem xX6_put_58 : xdec cX6_put 58 = some (.invokestatic 314, 61, 0, 0) := by decide +kernel
theorem xX6_put_61 : xdec cX6_put 61 = some (.lastore, 62, 0, 0) := by decide +kernel
theorem xX6_put_62 : xdec cX6_put 62 = some (.iconst 0, 63, 0, 0) := by decide +kernel
theorem xX6_put_63 : xdec cX6_put 63 = some (.ireturn, 64, 0, 0) := by decide +kernel
theorem xX6_element_0 : xdec cX6_element 0 = some (.aload_n 0, 1, 0, 0) := by decide +kernel
theorem xX6_element_1 : xdec cX6_element 1 = some (.iload_n 1, 2, 1, 0) := by decide +kernel
theorem xX6_element_2 : xdec cX6_element 2 = some (.invokevirtual 184, 5, 0, 0) := by decide +kernel
theorem xX6_element_5 : xdec cX6_element 5 = some (.istore_n 3, 6, 3, 0) := by decide +kernel
theorem xX6_element_6 : xdec cX6_element 6 = some (.aload_n 0, 7, 0, 0) := by decide +kernel
theorem xX6_element_7 : xdec cX6_element 7 = some (.iload_n 3, 8, 3, 0) := by decide +kernel
theorem xX6_element_8 : xdec cX6_element 8 = some (.iconst (-1), 9, 0, (-1)) := by decide +kernel
theorem xX6_element_9 : xdec cX6_element 9 = some (.if_icmp .ne 7, 12, 16, 0) := by decide +kernel
theorem xX6_element_12 : xdec cX6_element 12 = some (.iconst 1, 13, 0, 1) := by decide +kernel
theorem xX6_element_13 : xdec cX6_element 13 = some (.goto 30, 16, 43, 0) := by decide +kernel
theorem xX6_element_16 : xdec cX6_element 16 = some (.iload_n 3, 17, 3, 0) := by decide +kernel
theorem xX6_element_17 : xdec cX6_element 17 = some (.ifCond .lt 21, 20, 38, 0) := by decide +kernel
theorem xX6_element_20 : xdec cX6_element 20 = some (.iload_n 2, 21, 2, 0) := by decide +kernel
theorem xX6_element_21 : xdec cX6_element 21 = some (.i2l, 22, 0, 0) := by decide +kernel
theorem xX6_element_22 : xdec cX6_element 22 = some (.lconst 0, 23, 0, 0) := by decide +kernel
theorem xX6_element_23 : xdec cX6_element 23 = some (.aload_n 0, 24, 0, 0) := by decide +kernel
theorem xX6_element_24 : xdec cX6_element 24 = some (.getfield 40, 27, 40, 0) := by decide +kernel
theorem xX6_element_27 : xdec cX6_element 27 = some (.iload_n 1, 28, 1, 0) := by decide +kernel
theorem xX6_element_28 : xdec cX6_element 28 = some (.iaload, 29, 0, 0) := by decide +kernel
theorem xX6_element_29 : xdec cX6_element 29 = some (.iconst 1, 30, 0, 1) := by decide +kernel
theorem xX6_element_30 : xdec cX6_element 30 = some (.isub, 31, 0, 0) := by decide +kernel
theorem xX6_element_31 : xdec cX6_element 31 = some (.i2l, 32, 0, 0) := by decide +kernel
theorem xX6_element_32 : xdec cX6_element 32 = some (.invokestatic 81, 35, 0, 0) := by decide +kernel
theorem xX6_element_35 : xdec cX6_element 35 = some (.ifCond .ne 7, 38, 42, 0) := by decide +kernel
theorem xX6_element_38 : xdec cX6_element 38 = some (.iconst 2, 39, 0, 2) := by decide +kernel
theorem xX6_element_39 : xdec cX6_element 39 = some (.goto 4, 42, 43, 0) := by decide +kernel
theorem xX6_element_42 : xdec cX6_element 42 = some (.iconst 0, 43, 0, 0) := by decide +kernel
theorem xX6_element_43 : xdec cX6_element 43 = some (.putfield 75, 46, 75, 0) := by decide +kernel
theorem xX6_element_46 : xdec cX6_element 46 = some (.aload_n 0, 47, 0, 0) := by decide +kernel
theorem xX6_element_47 : xdec cX6_element 47 = some (.getfield 75, 50, 75, 0) := by decide +kernel
theorem xX6_element_50 : xdec cX6_element 50 = some (.ifCond .le 7, 53, 57, 0) := by decide +kernel
theorem xX6_element_53 : xdec cX6_element 53 = some (.lconst 0, 54, 0, 0) := by decide +kernel
theorem xX6_element_54 : xdec cX6_element 54 = some (.goto 14, 57, 68, 0) := by decide +kernel
theorem xX6_element_57 : xdec cX6_element 57 = some (.aload_n 0, 58, 0, 0) := by decide +kernel
theorem xX6_element_58 : xdec cX6_element 58 = some (.getfield 43, 61, 43, 0) := by decide +kernel
theorem xX6_element_61 : xdec cX6_element 61 = some (.bipush 100, 63, 0, 100) := by decide +kernel
theorem xX6_element_63 : xdec cX6_element 63 = some (.iload_n 1, 64, 1, 0) := by decide +kernel
theorem xX6_element_64 : xdec cX6_element 64 = some (.imul, 65, 0, 0) := by decide +kernel
theorem xX6_element_65 : xdec cX6_element 65 = some (.iload_n 2, 66, 2, 0) := by decide +kernel
theorem xX6_element_66 : xdec cX6_element 66 = some (.iadd, 67, 0, 0) := by decide +kernel
theorem xX6_element_67 : xdec cX6_element 67 = some (.laload, 68, 0, 0) := by decide +kernel
theorem xX6_element_68 : xdec cX6_element 68 = some (.lreturn, 69, 0, 0) := by decide +kernel
theorem xX6_copy_0 : xdec cX6_copy 0 = some (.aload_n 0, 1, 0, 0) := by decide +kernel
theorem xX6_copy_1 : xdec cX6_copy 1 = some (.iconst 0, 2, 0, 0) := by decide +kernel
theorem xX6_copy_2 : xdec cX6_copy 2 = some (.putfield 75, 5, 75, 0) := by decide +kernel
theorem xX6_copy_5 : xdec cX6_copy 5 = some (.iload_n 1, 6, 1, 0) := by decide +kernel
theorem xX6_copy_6 : xdec cX6_copy 6 = some (.i2l, 7, 0, 0) := by decide +kernel
theorem xX6_copy_7 : xdec cX6_copy 7 = some (.lconst 0, 8, 0, 0) := by decide +kernel
theorem xX6_copy_8 : xdec cX6_copy 8 = some (.ldc2_w 218, 11, 218, 0) := by decide +kernel
theorem xX6_copy_11 : xdec cX6_copy 11 = some (.invokestatic 81, 14, 0, 0) := by decide +kernel
theorem xX6_copy_14 : xdec cX6_copy 14 = some (.ifCond .eq 15, 17, 29, 0) := by decide +kernel
theorem xX6_copy_17 : xdec cX6_copy 17 = some (.iload_n 3, 18, 3, 0) := by decide +kernel
theorem xX6_copy_18 : xdec cX6_copy 18 = some (.i2l, 19, 0, 0) := by decide +kernel
theorem xX6_copy_19 : xdec cX6_copy 19 = some (.lconst 0, 20, 0, 0) := by decide +kernel
theorem xX6_copy_20 : xdec cX6_copy 20 = some (.ldc2_w 218, 23, 218, 0) := by decide +kernel
theorem xX6_copy_23 : xdec cX6_copy 23 = some (.invokestatic 81, 26, 0, 0) := by decide +kernel
theorem xX6_copy_26 : xdec cX6_copy 26 = some (.ifCond .ne 5, 29, 31, 0) := by decide +kernel
theorem xX6_copy_29 : xdec cX6_copy 29 = some (.iconst (-1), 30, 0, (-1)) := by decide +kernel
theorem xX6_copy_30 : xdec cX6_copy 30 = some (.ireturn, 31, 0, 0) := by decide +kernel
theorem xX6_copy_31 : xdec cX6_copy 31 = some (.aload_n 0, 32, 0, 0) := by decide +kernel
theorem xX6_copy_32 : xdec cX6_copy 32 = some (.getfield 28, 35, 28, 0) := by decide +kernel
theorem xX6_copy_35 : xdec cX6_copy 35 = some (.iload_n 1, 36, 1, 0) := by decide +kernel
theorem xX6_copy_36 : xdec cX6_copy 36 = some (.iaload, 37, 0, 0) := by decide +kernel
theorem xX6_copy_37 : xdec cX6_copy 37 = some (.ifCond .eq 12, 40, 49, 0) := by decide +kernel
theorem xX6_copy_40 : xdec cX6_copy 40 = some (.aload_n 0, 41, 0, 0) := by decide +kernel
theorem xX6_copy_41 : xdec cX6_copy 41 = some (.getfield 28, 44, 28, 0) := by decide +kernel
theorem xX6_copy_44 : xdec cX6_copy 44 = some (.iload_n 3, 45, 3, 0) := by decide +kernel
theorem xX6_copy_45 : xdec cX6_copy 45 = some (.iaload, 46, 0, 0) := by decide +kernel
theorem xX6_copy_46 : xdec cX6_copy 46 = some (.ifCond .ne 6, 49, 52, 0) := by decide +kernel
theorem xX6_copy_49 : xdec cX6_copy 49 = some (.bipush (-11), 51, 0, (-11)) := by decide +kernel
theorem xX6_copy_51 : xdec cX6_copy 51 = some (.ireturn, 52, 0, 0) := by decide +kernel
theorem xX6_copy_52 : xdec cX6_copy 52 = some (.aload_n 0, 53, 0, 0) := by decide +kernel
theorem xX6_copy_53 : xdec cX6_copy 53 = some (.getfield 28, 56, 28, 0) := by decide +kernel
theorem xX6_copy_56 : xdec cX6_copy 56 = some (.iload_n 1, 57, 1, 0) := by decide +kernel
theorem xX6_copy_57 : xdec cX6_copy 57 = some (.iaload, 58, 0, 0) := by decide +kernel
theorem xX6_copy_58 : xdec cX6_copy 58 = some (.iconst 2, 59, 0, 2) := by decide +kernel
theorem xX6_copy_59 : xdec cX6_copy 59 = some (.if_icmp .ne 28, 62, 87, 0) := by decide +kernel
theorem xX6_copy_62 : xdec cX6_copy 62 = some (.aload_n 0, 63, 0, 0) := by decide +kernel
theorem xX6_copy_63 : xdec cX6_copy 63 = some (.getfield 28, 66, 28, 0) := by decide +kernel
theorem xX6_copy_66 : xdec cX6_copy 66 = some (.iload_n 3, 67, 3, 0) := by decide +kernel
theorem xX6_copy_67 : xdec cX6_copy 67 = some (.iaload, 68, 0, 0) := by decide +kernel
theorem xX6_copy_68 : xdec cX6_copy 68 = some (.iconst 2, 69, 0, 2) := by decide +kernel
theorem xX6_copy_69 : xdec cX6_copy 69 = some (.if_icmp .ne 18, 72, 87, 0) := by decide +kernel
theorem xX6_copy_72 : xdec cX6_copy 72 = some (.aload_n 0, 73, 0, 0) := by decide +kernel
theorem xX6_copy_73 : xdec cX6_copy 73 = some (.getfield 37, 76, 37, 0) := by decide +kernel
theorem xX6_copy_76 : xdec cX6_copy 76 = some (.iload_n 1, 77, 1, 0) := by decide +kernel
theorem xX6_copy_77 : xdec cX6_copy 77 = some (.iaload, 78, 0, 0) := by decide +kernel
theorem xX6_copy_78 : xdec cX6_copy 78 = some (.aload_n 0, 79, 0, 0) := by decide +kernel
theorem xX6_copy_79 : xdec cX6_copy 79 = some (.getfield 37, 82, 37, 0) := by decide +kernel
theorem xX6_copy_82 : xdec cX6_copy 82 = some (.iload_n 3, 83, 3, 0) := by decide +kernel
theorem xX6_copy_83 : xdec cX6_copy 83 = some (.iaload, 84, 0, 0) := by decide +kernel
theorem xX6_copy_84 : xdec cX6_copy 84 = some (.if_icmp .eq 6, 87, 90, 0) := by decide +kernel
theorem xX6_copy_87 : xdec cX6_copy 87 = some (.bipush (-12), 89, 0, (-12)) := by decide +kernel
theorem xX6_copy_89 : xdec cX6_copy 89 = some (.ireturn, 90, 0, 0) := by decide +kernel
theorem xX6_copy_90 : xdec cX6_copy 90 = some (.iload 5, 92, 5, 0) := by decide +kernel
theorem xX6_copy_92 : xdec cX6_copy 92 = some (.ifCond .lt 39, 95, 131, 0) := by decide +kernel
theorem xX6_copy_95 : xdec cX6_copy 95 = some (.iload_n 2, 96, 2, 0) := by decide +kernel
theorem xX6_copy_96 : xdec cX6_copy 96 = some (.ifCond .lt 35, 99, 131, 0) := by decide +kernel
theorem xX6_copy_99 : xdec cX6_copy 99 = some (.iload 4, 101, 4, 0) := by decide +kernel
theorem xX6_copy_101 : xdec cX6_copy 101 = some (.ifCond .lt 30, 104, 131, 0) := by decide +kernel
theorem xX6_copy_104 : xdec cX6_copy 104 = some (.iload_n 2, 105, 2, 0) := by decide +kernel
theorem xX6_copy_105 : xdec cX6_copy 105 = some (.aload_n 0, 106, 0, 0) := by decide +kernel
theorem xX6_copy_106 : xdec cX6_copy 106 = some (.getfield 40, 109, 40, 0) := by decide +kernel
theorem xX6_copy_109 : xdec cX6_copy 109 = some (.iload_n 1, 110, 1, 0) := by decide +kernel
theorem xX6_copy_110 : xdec cX6_copy 110 = some (.iaload, 111, 0, 0) := by decide +kernel
theorem xX6_copy_111 : xdec cX6_copy 111 = some (.iload 5, 113, 5, 0) := by decide +kernel
theorem xX6_copy_113 : xdec cX6_copy 113 = some (.isub, 114, 0, 0) := by decide +kernel
theorem xX6_copy_114 : xdec cX6_copy 114 = some (.if_icmp .gt 17, 117, 131, 0) := by decide +kernel
theorem xX6_copy_117 : xdec cX6_copy 117 = some (.iload 4, 119, 4, 0) := by decide +kernel
theorem xX6_copy_119 : xdec cX6_copy 119 = some (.aload_n 0, 120, 0, 0) := by decide +kernel
theorem xX6_copy_120 : xdec cX6_copy 120 = some (.getfield 40, 123, 40, 0) := by decide +kernel
theorem xX6_copy_123 : xdec cX6_copy 123 = some (.iload_n 3, 124, 3, 0) := by decide +kernel
theorem xX6_copy_124 : xdec cX6_copy 124 = some (.iaload, 125, 0, 0) := by decide +kernel
theorem xX6_copy_125 : xdec cX6_copy 125 = some (.iload 5, 127, 5, 0) := by decide +kernel
theorem xX6_copy_127 : xdec cX6_copy 127 = some (.isub, 128, 0, 0) := by decide +kernel
theorem xX6_copy_128 : xdec cX6_copy 128 = some (.if_icmp .le 6, 131, 134, 0) := by decide +kernel
theorem xX6_copy_131 : xdec cX6_copy 131 = some (.bipush (-13), 133, 0, (-13)) := by decide +kernel
theorem xX6_copy_133 : xdec cX6_copy 133 = some (.ireturn, 134, 0, 0) := by decide +kernel
theorem xX6_copy_134 : xdec cX6_copy 134 = some (.iconst 0, 135, 0, 0) := by decide +kernel
theorem xX6_copy_135 : xdec cX6_copy 135 = some (.istore 6, 137, 6, 0) := by decide +kernel
theorem xX6_copy_137 : xdec cX6_copy 137 = some (.iload 6, 139, 6, 0) := by decide +kernel
theorem xX6_copy_139 : xdec cX6_copy 139 = some (.iload 5, 141, 5, 0) := by decide +kernel
theorem xX6_copy_141 : xdec cX6_copy 141 = some (.if_icmp .ge 30, 144, 171, 0) := by decide +kernel
theorem xX6_copy_144 : xdec cX6_copy 144 = some (.aload_n 0, 145, 0, 0) := by decide +kernel
theorem xX6_copy_145 : xdec cX6_copy 145 = some (.getfield 72, 148, 72, 0) := by decide +kernel
theorem xX6_copy_148 : xdec cX6_copy 148 = some (.iload 6, 150, 6, 0) := by decide +kernel
theorem xX6_copy_150 : xdec cX6_copy 150 = some (.aload_n 0, 151, 0, 0) := by decide +kernel
theorem xX6_copy_151 : xdec cX6_copy 151 = some (.getfield 43, 154, 43, 0) := by decide +kernel
theorem xX6_copy_154 : xdec cX6_copy 154 = some (.bipush 100, 156, 0, 100) := by decide +kernel
theorem xX6_copy_156 : xdec cX6_copy 156 = some (.iload_n 1, 157, 1, 0) := by decide +kernel
theorem xX6_copy_157 : xdec cX6_copy 157 = some (.imul, 158, 0, 0) := by decide +kernel
theorem xX6_copy_158 : xdec cX6_copy 158 = some (.iload_n 2, 159, 2, 0) := by decide +kernel
theorem xX6_copy_159 : xdec cX6_copy 159 = some (.iadd, 160, 0, 0) := by decide +kernel
theorem xX6_copy_160 : xdec cX6_copy 160 = some (.iload 6, 162, 6, 0) := by decide +kernel
theorem xX6_copy_162 : xdec cX6_copy 162 = some (.iadd, 163, 0, 0) := by decide +kernel
theorem xX6_copy_163 : xdec cX6_copy 163 = some (.laload, 164, 0, 0) := by decide +kernel
theorem xX6_copy_164 : xdec cX6_copy 164 = some (.lastore, 165, 0, 0) := by decide +kernel
theorem xX6_copy_165 : xdec cX6_copy 165 = some (.iinc 6 1, 168, 6, 1) := by decide +kernel
theorem xX6_copy_168 : xdec cX6_copy 168 = some (.goto (-31), 171, 137, 0) := by decide +kernel
theorem xX6_copy_171 : xdec cX6_copy 171 = some (.iconst 0, 172, 0, 0) := by decide +kernel
theorem xX6_copy_172 : xdec cX6_copy 172 = some (.istore 6, 174, 6, 0) := by decide +kernel
theorem xX6_copy_174 : xdec cX6_copy 174 = some (.iload 6, 176, 6, 0) := by decide +kernel
theorem xX6_copy_176 : xdec cX6_copy 176 = some (.iload 5, 178, 5, 0) := by decide +kernel
theorem xX6_copy_178 : xdec cX6_copy 178 = some (.if_icmp .ge 31, 181, 209, 0) := by decide +kernel
theorem xX6_copy_181 : xdec cX6_copy 181 = some (.aload_n 0, 182, 0, 0) := by decide +kernel
theorem xX6_copy_182 : xdec cX6_copy 182 = some (.getfield 43, 185, 43, 0) := by decide +kernel
theorem xX6_copy_185 : xdec cX6_copy 185 = some (.bipush 100, 187, 0, 100) := by decide +kernel
theorem xX6_copy_187 : xdec cX6_copy 187 = some (.iload_n 3, 188, 3, 0) := by decide +kernel
theorem xX6_copy_188 : xdec cX6_copy 188 = some (.imul, 189, 0, 0) := by decide +kernel
theorem xX6_copy_189 : xdec cX6_copy 189 = some (.iload 4, 191, 4, 0) := by decide +kernel
theorem xX6_copy_191 : xdec cX6_copy 191 = some (.iadd, 192, 0, 0) := by decide +kernel
theorem xX6_copy_192 : xdec cX6_copy 192 = some (.iload 6, 194, 6, 0) := by decide +kernel
theorem xX6_copy_194 : xdec cX6_copy 194 = some (.iadd, 195, 0, 0) := by decide +kernel
theorem xX6_copy_195 : xdec cX6_copy 195 = some (.aload_n 0, 196, 0, 0) := by decide +kernel
theorem xX6_copy_196 : xdec cX6_copy 196 = some (.getfield 72, 199, 72, 0) := by decide +kernel
theorem xX6_copy_199 : xdec cX6_copy 199 = some (.iload 6, 201, 6, 0) := by decide +kernel
theorem xX6_copy_201 : xdec cX6_copy 201 = some (.laload, 202, 0, 0) := by decide +kernel
theorem xX6_copy_202 : xdec cX6_copy 202 = some (.lastore, 203, 0, 0) := by decide +kernel
theorem xX6_copy_203 : xdec cX6_copy 203 = some (.iinc 6 1, 206, 6, 1) := by decide +kernel
theorem xX6_copy_206 : xdec cX6_copy 206 = some (.goto (-32), 209, 174, 0) := by decide +kernel
theorem xX6_copy_209 : xdec cX6_copy 209 = some (.iload 5, 211, 5, 0) := by decide +kernel
theorem xX6_copy_211 : xdec cX6_copy 211 = some (.ireturn, 212, 0, 0) := by decide +kernel
theorem xX6_costOf_0 : xdec cX6_costOf 0 = some (.iload_n 0, 1, 0, 0) := by decide +kernel
theorem xX6_costOf_1 : xdec cX6_costOf 1 = some (.tableswitch 74 0 7 #[47, 49, 51, 55, 74, 58, 74, 64], 48, 0, 0) := by decide +kernel
theorem xX6_costOf_48 : xdec cX6_costOf 48 = some (.iconst 3, 49, 0, 3) := by decide +kernel
theorem xX6_costOf_49 : xdec cX6_costOf 49 = some (.ireturn, 50, 0, 0) := by decide +kernel
theorem xX6_costOf_50 : xdec cX6_costOf 50 = some (.iconst 1, 51, 0, 1) := by decide +kernel
theorem xX6_costOf_51 : xdec cX6_costOf 51 = some (.ireturn, 52, 0, 0) := by decide +kernel
theorem xX6_costOf_52 : xdec cX6_costOf 52 = some (.iconst 3, 53, 0, 3) := by decide +kernel
theorem xX6_costOf_53 : xdec cX6_costOf 53 = some (.iload_n 1, 54, 1, 0) := by decide +kernel
theorem xX6_costOf_54 : xdec cX6_costOf 54 = some (.iadd, 55, 0, 0) := by decide +kernel
theorem xX6_costOf_55 : xdec cX6_costOf 55 = some (.ireturn, 56, 0, 0) := by decide +kernel
theorem xX6_costOf_56 : xdec cX6_costOf 56 = some (.bipush 6, 58, 0, 6) := by decide +kernel
theorem xX6_costOf_58 : xdec cX6_costOf 58 = some (.ireturn, 59, 0, 0) := by decide +kernel
theorem xX6_costOf_59 : xdec cX6_costOf 59 = some (.iconst 3, 60, 0, 3) := by decide +kernel
theorem xX6_costOf_60 : xdec cX6_costOf 60 = some (.iload_n 1, 61, 1, 0) := by decide +kernel
theorem xX6_costOf_61 : xdec cX6_costOf 61 = some (.iadd, 62, 0, 0) := by decide +kernel
theorem xX6_costOf_62 : xdec cX6_costOf 62 = some (.iconst 2, 63, 0, 2) := by decide +kernel
theorem xX6_costOf_63 : xdec cX6_costOf 63 = some (.idiv, 64, 0, 0) := by decide +kernel
theorem xX6_costOf_64 : xdec cX6_costOf 64 = some (.ireturn, 65, 0, 0) := by decide +kernel
theorem xX6_costOf_65 : xdec cX6_costOf 65 = some (.bipush 6, 67, 0, 6) := by decide +kernel
theorem xX6_costOf_67 : xdec cX6_costOf 67 = some (.iload_n 1, 68, 1, 0) := by decide +kernel
theorem xX6_costOf_68 : xdec cX6_costOf 68 = some (.isub, 69, 0, 0) := by decide +kernel
theorem xX6_costOf_69 : xdec cX6_costOf 69 = some (.bipush 6, 71, 0, 6) := by decide +kernel
theorem xX6_costOf_71 : xdec cX6_costOf 71 = some (.invokestatic 88, 74, 0, 0) := by decide +kernel
theorem xX6_costOf_74 : xdec cX6_costOf 74 = some (.ireturn, 75, 0, 0) := by decide +kernel
theorem xX6_costOf_75 : xdec cX6_costOf 75 = some (.iconst 0, 76, 0, 0) := by decide +kernel
theorem xX6_costOf_76 : xdec cX6_costOf 76 = some (.ireturn, 77, 0, 0) := by decide +kernel
theorem xX6_cost_0 : xdec cX6_cost 0 = some (.aload_n 0, 1, 0, 0) := by decide +kernel
theorem xX6_cost_1 : xdec cX6_cost 1 = some (.iconst 0, 2, 0, 0) := by decide +kernel
theorem xX6_cost_2 : xdec cX6_cost 2 = some (.putfield 75, 5, 75, 0) := by decide +kernel
theorem xX6_cost_5 : xdec cX6_cost 5 = some (.aload_n 0, 6, 0, 0) := by decide +kernel
theorem xX6_cost_6 : xdec cX6_cost 6 = some (.iload_n 1, 7, 1, 0) := by decide +kernel
theorem xX6_cost_7 : xdec cX6_cost 7 = some (.invokevirtual 223, 10, 0, 0) := by decide +kernel
theorem xX6_cost_10 : xdec cX6_cost 10 = some (.ifCond .ge 11, 13, 21, 0) := by decide +kernel
theorem xX6_cost_13 : xdec cX6_cost 13 = some (.aload_n 0, 14, 0, 0) := by decide +kernel
theorem xX6_cost_14 : xdec cX6_cost 14 = some (.iload_n 1, 15, 1, 0) := by decide +kernel
theorem xX6_cost_15 : xdec cX6_cost 15 = some (.invokevirtual 223, 18, 0, 0) := by decide +kernel
theorem xX6_cost_18 : xdec cX6_cost 18 = some (.goto 18, 21, 36, 0) := by decide +kernel
theorem xX6_cost_21 : xdec cX6_cost 21 = some (.aload_n 0, 22, 0, 0) := by decide +kernel
theorem xX6_cost_22 : xdec cX6_cost 22 = some (.getfield 31, 25, 31, 0) := by decide +kernel
theorem xX6_cost_25 : xdec cX6_cost 25 = some (.iload_n 1, 26, 1, 0) := by decide +kernel
theorem xX6_cost_26 : xdec cX6_cost 26 = some (.iaload, 27, 0, 0) := by decide +kernel
theorem xX6_cost_27 : xdec cX6_cost 27 = some (.aload_n 0, 28, 0, 0) := by decide +kernel
theorem xX6_cost_28 : xdec cX6_cost 28 = some (.getfield 34, 31, 34, 0) := by decide +kernel
theorem xX6_cost_31 : xdec cX6_cost 31 = some (.iload_n 1, 32, 1, 0) := by decide +kernel
theorem xX6_cost_32 : xdec cX6_cost 32 = some (.iaload, 33, 0, 0) := by decide +kernel
theorem xX6_cost_33 : xdec cX6_cost 33 = some (.invokestatic 318, 36, 0, 0) := by decide +kernel
theorem xX6_cost_36 : xdec cX6_cost 36 = some (.ireturn, 37, 0, 0) := by decide +kernel
theorem xX6_toss_0 : xdec cX6_toss 0 = some (.aload_n 0, 1, 0, 0) := by decide +kernel
theorem xX6_toss_1 : xdec cX6_toss 1 = some (.iconst 0, 2, 0, 0) := by decide +kernel
theorem xX6_toss_2 : xdec cX6_toss 2 = some (.putfield 75, 5, 75, 0) := by decide +kernel
theorem xX6_toss_5 : xdec cX6_toss 5 = some (.aload_n 0, 6, 0, 0) := by decide +kernel
theorem xX6_toss_6 : xdec cX6_toss 6 = some (.iload_n 1, 7, 1, 0) := by decide +kernel
theorem xX6_toss_7 : xdec cX6_toss 7 = some (.invokevirtual 223, 10, 0, 0) := by decide +kernel
theorem xX6_toss_10 : xdec cX6_toss 10 = some (.ifCond .ge 9, 13, 19, 0) := by decide +kernel
theorem xX6_toss_13 : xdec cX6_toss 13 = some (.aload_n 0, 14, 0, 0) := by decide +kernel
theorem xX6_toss_14 : xdec cX6_toss 14 = some (.iload_n 1, 15, 1, 0) := by decide +kernel
theorem xX6_toss_15 : xdec cX6_toss 15 = some (.invokevirtual 223, 18, 0, 0) := by decide +kernel
theorem xX6_toss_18 : xdec cX6_toss 18 = some (.ireturn, 19, 0, 0) := by decide +kernel
theorem xX6_toss_19 : xdec cX6_toss 19 = some (.aload_n 0, 20, 0, 0) := by decide +kernel
theorem xX6_toss_20 : xdec cX6_toss 20 = some (.getfield 31, 23, 31, 0) := by decide +kernel
theorem xX6_toss_23 : xdec cX6_toss 23 = some (.iload_n 1, 24, 1, 0) := by decide +kernel
theorem xX6_toss_24 : xdec cX6_toss 24 = some (.iaload, 25, 0, 0) := by decide +kernel
theorem xX6_toss_25 : xdec cX6_toss 25 = some (.istore_n 2, 26, 2, 0) := by decide +kernel
theorem xX6_toss_26 : xdec cX6_toss 26 = some (.aload_n 0, 27, 0, 0) := by decide +kernel
theorem xX6_toss_27 : xdec cX6_toss 27 = some (.getfield 34, 30, 34, 0) := by decide +kernel
theorem xX6_toss_30 : xdec cX6_toss 30 = some (.iload_n 1, 31, 1, 0) := by decide +kernel
theorem xX6_toss_31 : xdec cX6_toss 31 = some (.iaload, 32, 0, 0) := by decide +kernel
theorem xX6_toss_32 : xdec cX6_toss 32 = some (.istore_n 3, 33, 3, 0) := by decide +kernel
theorem xX6_toss_33 : xdec cX6_toss 33 = some (.iload_n 2, 34, 2, 0) := by decide +kernel
theorem xX6_toss_34 : xdec cX6_toss 34 = some (.iconst 1, 35, 0, 1) := by decide +kernel
theorem xX6_toss_35 : xdec cX6_toss 35 = some (.if_icmp .eq 18, 38, 53, 0) := by decide +kernel
theorem xX6_toss_38 : xdec cX6_toss 38 = some (.iload_n 2, 39, 2, 0) := by decide +kernel
theorem xX6_toss_39 : xdec cX6_toss 39 = some (.iconst 4, 40, 0, 4) := by decide +kernel
theorem xX6_toss_40 : xdec cX6_toss 40 = some (.if_icmp .eq 13, 43, 53, 0) := by decide +kernel
theorem xX6_toss_43 : xdec cX6_toss 43 = some (.iload_n 2, 44, 2, 0) := by decide +kernel
theorem xX6_toss_44 : xdec cX6_toss 44 = some (.bipush 6, 46, 0, 6) := by decide +kernel
theorem xX6_toss_46 : xdec cX6_toss 46 = some (.if_icmp .eq 7, 49, 53, 0) := by decide +kernel
theorem xX6_toss_49 : xdec cX6_toss 49 = some (.iload_n 3, 50, 3, 0) := by decide +kernel
theorem xX6_toss_50 : xdec cX6_toss 50 = some (.ifCond .ne 6, 53, 56, 0) := by decide +kernel
theorem xX6_toss_53 : xdec cX6_toss 53 = some (.bipush (-15), 55, 0, (-15)) := by decide +kernel
theorem xX6_toss_55 : xdec cX6_toss 55 = some (.ireturn, 56, 0, 0) := by decide +kernel
theorem xX6_toss_56 : xdec cX6_toss 56 = some (.iload_n 2, 57, 2, 0) := by decide +kernel
theorem xX6_toss_57 : xdec cX6_toss 57 = some (.iconst 2, 58, 0, 2) := by decide +kernel
theorem xX6_toss_58 : xdec cX6_toss 58 = some (.if_icmp .eq 8, 61, 66, 0) := by decide +kernel
theorem xX6_toss_61 : xdec cX6_toss 61 = some (.iload_n 2, 62, 2, 0) := by decide +kernel
theorem xX6_toss_62 : xdec cX6_toss 62 = some (.iconst 5, 63, 0, 5) := by decide +kernel
theorem xX6_toss_63 : xdec cX6_toss 63 = some (.if_icmp .ne 10, 66, 73, 0) := by decide +kernel
theorem xX6_toss_66 : xdec cX6_toss 66 = some (.bipush 100, 68, 0, 100) := by decide +kernel
theorem xX6_toss_68 : xdec cX6_toss 68 = some (.iload_n 3, 69, 3, 0) := by decide +kernel
theorem xX6_toss_69 : xdec cX6_toss 69 = some (.iadd, 70, 0, 0) := by decide +kernel
theorem xX6_toss_70 : xdec cX6_toss 70 = some (.goto 22, 73, 92, 0) := by decide +kernel
theorem xX6_toss_73 : xdec cX6_toss 73 = some (.iload_n 2, 74, 2, 0) := by decide +kernel
theorem xX6_toss_74 : xdec cX6_toss 74 = some (.bipush 7, 76, 0, 7) := by decide +kernel
theorem xX6_toss_76 : xdec cX6_toss 76 = some (.if_icmp .ne 15, 79, 91, 0) := by decide +kernel
theorem xX6_toss_79 : xdec cX6_toss 79 = some (.sipush 200, 82, 0, 200) := by decide +kernel
theorem xX6_toss_82 : xdec cX6_toss 82 = some (.iload_n 2, 83, 2, 0) := by decide +kernel
theorem xX6_toss_83 : xdec cX6_toss 83 = some (.iload_n 3, 84, 3, 0) := by decide +kernel
theorem xX6_toss_84 : xdec cX6_toss 84 = some (.invokestatic 318, 87, 0, 0) := by decide +kernel
theorem xX6_toss_87 : xdec cX6_toss 87 = some (.iadd, 88, 0, 0) := by decide +kernel
theorem xX6_toss_88 : xdec cX6_toss 88 = some (.goto 4, 91, 92, 0) := by decide +kernel
theorem xX6_toss_91 : xdec cX6_toss 91 = some (.iload_n 3, 92, 3, 0) := by decide +kernel
theorem xX6_toss_92 : xdec cX6_toss 92 = some (.ireturn, 93, 0, 0) := by decide +kernel
