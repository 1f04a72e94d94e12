theorem xX3_init_0 : xdec cX3_init 0 = some (.aload_n 0, 1, 0, 0) := by decide +kernel
theorem xX3_init_1 : xdec cX3_init 1 = some (.invokespecial 3, 4, 0, 0) := by decide +kernel
theorem xX3_init_4 : xdec cX3_init 4 = some (.aload_n 0, 5, 0, 0) := by decide +kernel
theorem xX3_init_5 : xdec cX3_init 5 = some (.iconst 0, 6, 0, 0) := by decide +kernel
theorem xX3_init_6 : xdec cX3_init 6 = some (.putfield 11, 9, 11, 0) := by decide +kernel
theorem xX3_init_9 : xdec cX3_init 9 = some (.aload_n 0, 10, 0, 0) := by decide +kernel
theorem xX3_init_10 : xdec cX3_init 10 = some (.bipush 100, 12, 0, 100) := by decide +kernel
theorem xX3_init_12 : xdec cX3_init 12 = some (.newarray .int, 14, 0, 0) := by decide +kernel
theorem xX3_init_14 : xdec cX3_init 14 = some (.putfield 15, 17, 15, 0) := by decide +kernel
theorem xX3_init_17 : xdec cX3_init 17 = some (.return_, 18, 0, 0) := by decide +kernel
theorem xX3_isSort_0 : xdec cX3_isSort 0 = some (.iload_n 0, 1, 0, 0) := by decide +kernel
theorem xX3_isSort_1 : xdec cX3_isSort 1 = some (.iconst 0, 2, 0, 0) := by decide +kernel
theorem xX3_isSort_2 : xdec cX3_isSort 2 = some (.iconst 2, 3, 0, 2) := by decide +kernel
theorem xX3_isSort_3 : xdec cX3_isSort 3 = some (.invokestatic 19, 6, 0, 0) := by decide +kernel
theorem xX3_isSort_6 : xdec cX3_isSort 6 = some (.ireturn, 7, 0, 0) := by decide +kernel
theorem xX3_lowestBits_0 : xdec cX3_lowestBits 0 = some (.iload_n 0, 1, 0, 0) := by decide +kernel
theorem xX3_lowestBits_1 : xdec cX3_lowestBits 1 = some (.ifCond .ne 6, 4, 7, 0) := by decide +kernel
theorem xX3_lowestBits_4 : xdec cX3_lowestBits 4 = some (.iload_n 1, 5, 1, 0) := by decide +kernel
theorem xX3_lowestBits_5 : xdec cX3_lowestBits 5 = some (.i2b, 6, 0, 0) := by decide +kernel
theorem xX3_lowestBits_6 : xdec cX3_lowestBits 6 = some (.ireturn, 7, 0, 0) := by decide +kernel
theorem xX3_lowestBits_7 : xdec cX3_lowestBits 7 = some (.iload_n 0, 8, 0, 0) := by decide +kernel
theorem xX3_lowestBits_8 : xdec cX3_lowestBits 8 = some (.iconst 1, 9, 0, 1) := by decide +kernel
theorem xX3_lowestBits_9 : xdec cX3_lowestBits 9 = some (.if_icmp .ne 8, 12, 17, 0) := by decide +kernel
theorem xX3_lowestBits_12 : xdec cX3_lowestBits 12 = some (.iload_n 1, 13, 1, 0) := by decide +kernel
theorem xX3_lowestBits_13 : xdec cX3_lowestBits 13 = some (.i2s, 14, 0, 0) := by decide +kernel
theorem xX3_lowestBits_14 : xdec cX3_lowestBits 14 = some (.goto 4, 17, 18, 0) := by decide +kernel
theorem xX3_lowestBits_17 : xdec cX3_lowestBits 17 = some (.iload_n 1, 18, 1, 0) := by decide +kernel
theorem xX3_lowestBits_18 : xdec cX3_lowestBits 18 = some (.ireturn, 19, 0, 0) := by decide +kernel
theorem xX3_holdNothing_0 : xdec cX3_holdNothing 0 = some (.aload_n 0, 1, 0, 0) := by decide +kernel
theorem xX3_holdNothing_1 : xdec cX3_holdNothing 1 = some (.iconst 0, 2, 0, 0) := by decide +kernel
theorem xX3_holdNothing_2 : xdec cX3_holdNothing 2 = some (.putfield 11, 5, 11, 0) := by decide +kernel
theorem xX3_holdNothing_5 : xdec cX3_holdNothing 5 = some (.return_, 6, 0, 0) := by decide +kernel
theorem xX3_holdKind_0 : xdec cX3_holdKind 0 = some (.aload_n 0, 1, 0, 0) := by decide +kernel
theorem xX3_holdKind_1 : xdec cX3_holdKind 1 = some (.iconst 1, 2, 0, 1) := by decide +kernel
theorem xX3_holdKind_2 : xdec cX3_holdKind 2 = some (.putfield 11, 5, 11, 0) := by decide +kernel
theorem xX3_holdKind_5 : xdec cX3_holdKind 5 = some (.aload_n 0, 6, 0, 0) := by decide +kernel
theorem xX3_holdKind_6 : xdec cX3_holdKind 6 = some (.iload_n 1, 7, 1, 0) := by decide +kernel
theorem xX3_holdKind_7 : xdec cX3_holdKind 7 = some (.putfield 23, 10, 23, 0) := by decide +kernel
theorem xX3_holdKind_10 : xdec cX3_holdKind 10 = some (.aload_n 0, 11, 0, 0) := by decide +kernel
theorem xX3_holdKind_11 : xdec cX3_holdKind 11 = some (.iload_n 2, 12, 2, 0) := by decide +kernel
theorem xX3_holdKind_12 : xdec cX3_holdKind 12 = some (.putfield 26, 15, 26, 0) := by decide +kernel
theorem xX3_holdKind_15 : xdec cX3_holdKind 15 = some (.return_, 16, 0, 0) := by decide +kernel
theorem xX3_holdRow_0 : xdec cX3_holdRow 0 = some (.aload_n 0, 1, 0, 0) := by decide +kernel
theorem xX3_holdRow_1 : xdec cX3_holdRow 1 = some (.iconst 2, 2, 0, 2) := by decide +kernel
theorem xX3_holdRow_2 : xdec cX3_holdRow 2 = some (.putfield 11, 5, 11, 0) := by decide +kernel
theorem xX3_holdRow_5 : xdec cX3_holdRow 5 = some (.aload_n 0, 6, 0, 0) := by decide +kernel
theorem xX3_holdRow_6 : xdec cX3_holdRow 6 = some (.iload_n 1, 7, 1, 0) := by decide +kernel
theorem xX3_holdRow_7 : xdec cX3_holdRow 7 = some (.putfield 29, 10, 29, 0) := by decide +kernel
theorem xX3_holdRow_10 : xdec cX3_holdRow 10 = some (.aload_n 0, 11, 0, 0) := by decide +kernel
theorem xX3_holdRow_11 : xdec cX3_holdRow 11 = some (.iload_n 2, 12, 2, 0) := by decide +kernel
theorem xX3_holdRow_12 : xdec cX3_holdRow 12 = some (.putfield 32, 15, 32, 0) := by decide +kernel
theorem xX3_holdRow_15 : xdec cX3_holdRow 15 = some (.iconst 0, 16, 0, 0) := by decide +kernel
theorem xX3_holdRow_16 : xdec cX3_holdRow 16 = some (.istore_n 3, 17, 3, 0) := by decide +kernel
theorem xX3_holdRow_17 : xdec cX3_holdRow 17 = some (.iload_n 3, 18, 3, 0) := by decide +kernel
theorem xX3_holdRow_18 : xdec cX3_holdRow 18 = some (.iload_n 2, 19, 2, 0) := by decide +kernel
theorem xX3_holdRow_19 : xdec cX3_holdRow 19 = some (.if_icmp .ge 22, 22, 41, 0) := by decide +kernel
theorem xX3_holdRow_22 : xdec cX3_holdRow 22 = some (.iload_n 3, 23, 3, 0) := by decide +kernel
theorem xX3_holdRow_23 : xdec cX3_holdRow 23 = some (.bipush 100, 25, 0, 100) := by decide +kernel
theorem xX3_holdRow_25 : xdec cX3_holdRow 25 = some (.if_icmp .ge 16, 28, 41, 0) := by decide +kernel
theorem xX3_holdRow_28 : xdec cX3_holdRow 28 = some (.aload_n 0, 29, 0, 0) := by decide +kernel
theorem xX3_holdRow_29 : xdec cX3_holdRow 29 = some (.getfield 15, 32, 15, 0) := by decide +kernel
theorem xX3_holdRow_32 : xdec cX3_holdRow 32 = some (.iload_n 3, 33, 3, 0) := by decide +kernel
theorem xX3_holdRow_33 : xdec cX3_holdRow 33 = some (.iconst 0, 34, 0, 0) := by decide +kernel
theorem xX3_holdRow_34 : xdec cX3_holdRow 34 = some (.iastore, 35, 0, 0) := by decide +kernel
theorem xX3_holdRow_35 : xdec cX3_holdRow 35 = some (.iinc 3 1, 38, 3, 1) := by decide +kernel
theorem xX3_holdRow_38 : xdec cX3_holdRow 38 = some (.goto (-21), 41, 17, 0) := by decide +kernel
theorem xX3_holdRow_41 : xdec cX3_holdRow 41 = some (.return_, 42, 0, 0) := by decide +kernel
theorem xX3_hasCell_0 : xdec cX3_hasCell 0 = some (.iload_n 1, 1, 1, 0) := by decide +kernel
theorem xX3_hasCell_1 : xdec cX3_hasCell 1 = some (.iconst 0, 2, 0, 0) := by decide +kernel
theorem xX3_hasCell_2 : xdec cX3_hasCell 2 = some (.aload_n 0, 3, 0, 0) := by decide +kernel
theorem xX3_hasCell_3 : xdec cX3_hasCell 3 = some (.getfield 32, 6, 32, 0) := by decide +kernel
theorem xX3_hasCell_6 : xdec cX3_hasCell 6 = some (.iconst 1, 7, 0, 1) := by decide +kernel
theorem xX3_hasCell_7 : xdec cX3_hasCell 7 = some (.isub, 8, 0, 0) := by decide +kernel
theorem xX3_hasCell_8 : xdec cX3_hasCell 8 = some (.invokestatic 19, 11, 0, 0) := by decide +kernel
theorem xX3_hasCell_11 : xdec cX3_hasCell 11 = some (.ireturn, 12, 0, 0) := by decide +kernel
theorem xX3_hasCells_0 : xdec cX3_hasCells 0 = some (.iload_n 1, 1, 1, 0) := by decide +kernel
theorem xX3_hasCells_1 : xdec cX3_hasCells 1 = some (.ifCond .lt 29, 4, 30, 0) := by decide +kernel
theorem xX3_hasCells_4 : xdec cX3_hasCells 4 = some (.iload_n 2, 5, 2, 0) := by decide +kernel
theorem xX3_hasCells_5 : xdec cX3_hasCells 5 = some (.ifCond .lt 25, 8, 30, 0) := by decide +kernel
theorem xX3_hasCells_8 : xdec cX3_hasCells 8 = some (.iload_n 1, 9, 1, 0) := by decide +kernel
theorem xX3_hasCells_9 : xdec cX3_hasCells 9 = some (.aload_n 0, 10, 0, 0) := by decide +kernel
theorem xX3_hasCells_10 : xdec cX3_hasCells 10 = some (.getfield 32, 13, 32, 0) := by decide +kernel
theorem xX3_hasCells_13 : xdec cX3_hasCells 13 = some (.if_icmp .gt 17, 16, 30, 0) := by decide +kernel
theorem xX3_hasCells_16 : xdec cX3_hasCells 16 = some (.iload_n 2, 17, 2, 0) := by decide +kernel
theorem xX3_hasCells_17 : xdec cX3_hasCells 17 = some (.aload_n 0, 18, 0, 0) := by decide +kernel
theorem xX3_hasCells_18 : xdec cX3_hasCells 18 = some (.getfield 32, 21, 32, 0) := by decide +kernel
theorem xX3_hasCells_21 : xdec cX3_hasCells 21 = some (.iload_n 1, 22, 1, 0) := by decide +kernel
theorem xX3_hasCells_22 : xdec cX3_hasCells 22 = some (.isub, 23, 0, 0) := by decide +kernel
theorem xX3_hasCells_23 : xdec cX3_hasCells 23 = some (.if_icmp .gt 7, 26, 30, 0) := by decide +kernel
theorem xX3_hasCells_26 : xdec cX3_hasCells 26 = some (.iconst 1, 27, 0, 1) := by decide +kernel
theorem xX3_hasCells_27 : xdec cX3_hasCells 27 = some (.goto 4, 30, 31, 0) := by decide +kernel
theorem xX3_hasCells_30 : xdec cX3_hasCells 30 = some (.iconst 0, 31, 0, 0) := by decide +kernel
theorem xX3_hasCells_31 : xdec cX3_hasCells 31 = some (.ireturn, 32, 0, 0) := by decide +kernel
theorem xX3_isSo_0 : xdec cX3_isSo 0 = some (.aload_n 0, 1, 0, 0) := by decide +kernel
theorem xX3_isSo_1 : xdec cX3_isSo 1 = some (.getfield 15, 4, 15, 0) := by decide +kernel
theorem xX3_isSo_4 : xdec cX3_isSo 4 = some (.iload_n 1, 5, 1, 0) := by decide +kernel
theorem xX3_isSo_5 : xdec cX3_isSo 5 = some (.iaload, 6, 0, 0) := by decide +kernel
theorem xX3_isSo_6 : xdec cX3_isSo 6 = some (.iload_n 2, 7, 2, 0) := by decide +kernel
theorem xX3_isSo_7 : xdec cX3_isSo 7 = some (.if_icmp .eq 16, 10, 23, 0) := by decide +kernel
theorem xX3_isSo_10 : xdec cX3_isSo 10 = some (.aload_n 0, 11, 0, 0) := by decide +kernel
theorem xX3_isSo_11 : xdec cX3_isSo 11 = some (.getfield 15, 14, 15, 0) := by decide +kernel
theorem xX3_isSo_14 : xdec cX3_isSo 14 = some (.iload_n 1, 15, 1, 0) := by decide +kernel
theorem xX3_isSo_15 : xdec cX3_isSo 15 = some (.iaload, 16, 0, 0) := by decide +kernel
theorem xX3_isSo_16 : xdec cX3_isSo 16 = some (.aload_n 0, 17, 0, 0) := by decide +kernel
theorem xX3_isSo_17 : xdec cX3_isSo 17 = some (.invokevirtual 35, 20, 0, 0) := by decide +kernel
theorem xX3_isSo_20 : xdec cX3_isSo 20 = some (.if_icmp .ne 7, 23, 27, 0) := by decide +kernel
theorem xX3_isSo_23 : xdec cX3_isSo 23 = some (.iconst 1, 24, 0, 1) := by decide +kernel
theorem xX3_isSo_24 : xdec cX3_isSo 24 = some (.goto 4, 27, 28, 0) := by decide +kernel
theorem xX3_isSo_27 : xdec cX3_isSo 27 = some (.iconst 0, 28, 0, 0) := by decide +kernel
theorem xX3_isSo_28 : xdec cX3_isSo 28 = some (.ireturn, 29, 0, 0) := by decide +kernel
theorem xX3_leastNumber_0 : xdec cX3_leastNumber 0 = some (.aload_n 0, 1, 0, 0) := by decide +kernel
theorem xX3_leastNumber_1 : xdec cX3_leastNumber 1 = some (.getfield 29, 4, 29, 0) := by decide +kernel
theorem xX3_leastNumber_4 : xdec cX3_leastNumber 4 = some (.ifCond .ne 6, 7, 10, 0) := by decide +kernel
theorem xX3_leastNumber_7 : xdec cX3_leastNumber 7 = some (.bipush (-128), 9, 0, (-128)) := by decide +kernel
theorem xX3_leastNumber_9 : xdec cX3_leastNumber 9 = some (.ireturn, 10, 0, 0) := by decide +kernel
theorem xX3_leastNumber_10 : xdec cX3_leastNumber 10 = some (.aload_n 0, 11, 0, 0) := by decide +kernel
theorem xX3_leastNumber_11 : xdec cX3_leastNumber 11 = some (.getfield 29, 14, 29, 0) := by decide +kernel
theorem xX3_leastNumber_14 : xdec cX3_leastNumber 14 = some (.iconst 1, 15, 0, 1) := by decide +kernel
theorem xX3_leastNumber_15 : xdec cX3_leastNumber 15 = some (.if_icmp .ne 9, 18, 24, 0) := by decide +kernel
theorem xX3_leastNumber_18 : xdec cX3_leastNumber 18 = some (.sipush (-32768), 21, 0, (-32768)) := by decide +kernel
theorem xX3_leastNumber_21 : xdec cX3_leastNumber 21 = some (.goto 5, 24, 26, 0) := by decide +kernel
theorem xX3_leastNumber_24 : xdec cX3_leastNumber 24 = some (.ldc 39, 26, 39, 0) := by decide +kernel
theorem xX3_leastNumber_26 : xdec cX3_leastNumber 26 = some (.ireturn, 27, 0, 0) := by decide +kernel
