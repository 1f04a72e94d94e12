theorem dX3_init_0 : decode cX3_init 0 = .ok (.aload_n 0, 1) := by decide +kernel
theorem dX3_init_1 : decode cX3_init 1 = .ok (.invokespecial 3, 3) := by decide +kernel
theorem dX3_init_4 : decode cX3_init 4 = .ok (.aload_n 0, 1) := by decide +kernel
theorem dX3_init_5 : decode cX3_init 5 = .ok (.iconst 0, 1) := by decide +kernel
theorem dX3_init_6 : decode cX3_init 6 = .ok (.putfield 11, 3) := by decide +kernel
theorem dX3_init_9 : decode cX3_init 9 = .ok (.aload_n 0, 1) := by decide +kernel
theorem dX3_init_10 : decode cX3_init 10 = .ok (.bipush 100, 2) := by decide +kernel
theorem dX3_init_12 : decode cX3_init 12 = .ok (.newarray .int, 2) := by decide +kernel
theorem dX3_init_14 : decode cX3_init 14 = .ok (.putfield 15, 3) := by decide +kernel
theorem dX3_init_17 : decode cX3_init 17 = .ok (.return_, 1) := by decide +kernel
theorem dX3_isSort_0 : decode cX3_isSort 0 = .ok (.iload_n 0, 1) := by decide +kernel
theorem dX3_isSort_1 : decode cX3_isSort 1 = .ok (.iconst 0, 1) := by decide +kernel
theorem dX3_isSort_2 : decode cX3_isSort 2 = .ok (.iconst 2, 1) := by decide +kernel
theorem dX3_isSort_3 : decode cX3_isSort 3 = .ok (.invokestatic 19, 3) := by decide +kernel
theorem dX3_isSort_6 : decode cX3_isSort 6 = .ok (.ireturn, 1) := by decide +kernel
theorem dX3_lowestBits_0 : decode cX3_lowestBits 0 = .ok (.iload_n 0, 1) := by decide +kernel
theorem dX3_lowestBits_1 : decode cX3_lowestBits 1 = .ok (.ifCond .ne 6, 3) := by decide +kernel
theorem dX3_lowestBits_4 : decode cX3_lowestBits 4 = .ok (.iload_n 1, 1) := by decide +kernel
theorem dX3_lowestBits_5 : decode cX3_lowestBits 5 = .ok (.i2b, 1) := by decide +kernel
theorem dX3_lowestBits_6 : decode cX3_lowestBits 6 = .ok (.ireturn, 1) := by decide +kernel
theorem dX3_lowestBits_7 : decode cX3_lowestBits 7 = .ok (.iload_n 0, 1) := by decide +kernel
theorem dX3_lowestBits_8 : decode cX3_lowestBits 8 = .ok (.iconst 1, 1) := by decide +kernel
theorem dX3_lowestBits_9 : decode cX3_lowestBits 9 = .ok (.if_icmp .ne 8, 3) := by decide +kernel
theorem dX3_lowestBits_12 : decode cX3_lowestBits 12 = .ok (.iload_n 1, 1) := by decide +kernel
theorem dX3_lowestBits_13 : decode cX3_lowestBits 13 = .ok (.i2s, 1) := by decide +kernel
theorem dX3_lowestBits_14 : decode cX3_lowestBits 14 = .ok (.goto 4, 3) := by decide +kernel
theorem dX3_lowestBits_17 : decode cX3_lowestBits 17 = .ok (.iload_n 1, 1) := by decide +kernel
theorem dX3_lowestBits_18 : decode cX3_lowestBits 18 = .ok (.ireturn, 1) := by decide +kernel
theorem dX3_holdNothing_0 : decode cX3_holdNothing 0 = .ok (.aload_n 0, 1) := by decide +kernel
theorem dX3_holdNothing_1 : decode cX3_holdNothing 1 = .ok (.iconst 0, 1) := by decide +kernel
theorem dX3_holdNothing_2 : decode cX3_holdNothing 2 = .ok (.putfield 11, 3) := by decide +kernel
theorem dX3_holdNothing_5 : decode cX3_holdNothing 5 = .ok (.return_, 1) := by decide +kernel
theorem dX3_holdKind_0 : decode cX3_holdKind 0 = .ok (.aload_n 0, 1) := by decide +kernel
theorem dX3_holdKind_1 : decode cX3_holdKind 1 = .ok (.iconst 1, 1) := by decide +kernel
theorem dX3_holdKind_2 : decode cX3_holdKind 2 = .ok (.putfield 11, 3) := by decide +kernel
theorem dX3_holdKind_5 : decode cX3_holdKind 5 = .ok (.aload_n 0, 1) := by decide +kernel
theorem dX3_holdKind_6 : decode cX3_holdKind 6 = .ok (.iload_n 1, 1) := by decide +kernel
theorem dX3_holdKind_7 : decode cX3_holdKind 7 = .ok (.putfield 23, 3) := by decide +kernel
theorem dX3_holdKind_10 : decode cX3_holdKind 10 = .ok (.aload_n 0, 1) := by decide +kernel
theorem dX3_holdKind_11 : decode cX3_holdKind 11 = .ok (.iload_n 2, 1) := by decide +kernel
theorem dX3_holdKind_12 : decode cX3_holdKind 12 = .ok (.putfield 26, 3) := by decide +kernel
theorem dX3_holdKind_15 : decode cX3_holdKind 15 = .ok (.return_, 1) := by decide +kernel
theorem dX3_holdRow_0 : decode cX3_holdRow 0 = .ok (.aload_n 0, 1) := by decide +kernel
theorem dX3_holdRow_1 : decode cX3_holdRow 1 = .ok (.iconst 2, 1) := by decide +kernel
theorem dX3_holdRow_2 : decode cX3_holdRow 2 = .ok (.putfield 11, 3) := by decide +kernel
theorem dX3_holdRow_5 : decode cX3_holdRow 5 = .ok (.aload_n 0, 1) := by decide +kernel
theorem dX3_holdRow_6 : decode cX3_holdRow 6 = .ok (.iload_n 1, 1) := by decide +kernel
theorem dX3_holdRow_7 : decode cX3_holdRow 7 = .ok (.putfield 29, 3) := by decide +kernel
theorem dX3_holdRow_10 : decode cX3_holdRow 10 = .ok (.aload_n 0, 1) := by decide +kernel
theorem dX3_holdRow_11 : decode cX3_holdRow 11 = .ok (.iload_n 2, 1) := by decide +kernel
theorem dX3_holdRow_12 : decode cX3_holdRow 12 = .ok (.putfield 32, 3) := by decide +kernel
theorem dX3_holdRow_15 : decode cX3_holdRow 15 = .ok (.iconst 0, 1) := by decide +kernel
theorem dX3_holdRow_16 : decode cX3_holdRow 16 = .ok (.istore_n 3, 1) := by decide +kernel
theorem dX3_holdRow_17 : decode cX3_holdRow 17 = .ok (.iload_n 3, 1) := by decide +kernel
theorem dX3_holdRow_18 : decode cX3_holdRow 18 = .ok (.iload_n 2, 1) := by decide +kernel
theorem dX3_holdRow_19 : decode cX3_holdRow 19 = .ok (.if_icmp .ge 22, 3) := by decide +kernel
theorem dX3_holdRow_22 : decode cX3_holdRow 22 = .ok (.iload_n 3, 1) := by decide +kernel
theorem dX3_holdRow_23 : decode cX3_holdRow 23 = .ok (.bipush 100, 2) := by decide +kernel
theorem dX3_holdRow_25 : decode cX3_holdRow 25 = .ok (.if_icmp .ge 16, 3) := by decide +kernel
theorem dX3_holdRow_28 : decode cX3_holdRow 28 = .ok (.aload_n 0, 1) := by decide +kernel
theorem dX3_holdRow_29 : decode cX3_holdRow 29 = .ok (.getfield 15, 3) := by decide +kernel
theorem dX3_holdRow_32 : decode cX3_holdRow 32 = .ok (.iload_n 3, 1) := by decide +kernel
theorem dX3_holdRow_33 : decode cX3_holdRow 33 = .ok (.iconst 0, 1) := by decide +kernel
theorem dX3_holdRow_34 : decode cX3_holdRow 34 = .ok (.iastore, 1) := by decide +kernel
theorem dX3_holdRow_35 : decode cX3_holdRow 35 = .ok (.iinc 3 1, 3) := by decide +kernel
theorem dX3_holdRow_38 : decode cX3_holdRow 38 = .ok (.goto (-21), 3) := by decide +kernel
theorem dX3_holdRow_41 : decode cX3_holdRow 41 = .ok (.return_, 1) := by decide +kernel
theorem dX3_hasCell_0 : decode cX3_hasCell 0 = .ok (.iload_n 1, 1) := by decide +kernel
theorem dX3_hasCell_1 : decode cX3_hasCell 1 = .ok (.iconst 0, 1) := by decide +kernel
theorem dX3_hasCell_2 : decode cX3_hasCell 2 = .ok (.aload_n 0, 1) := by decide +kernel
theorem dX3_hasCell_3 : decode cX3_hasCell 3 = .ok (.getfield 32, 3) := by decide +kernel
theorem dX3_hasCell_6 : decode cX3_hasCell 6 = .ok (.iconst 1, 1) := by decide +kernel
theorem dX3_hasCell_7 : decode cX3_hasCell 7 = .ok (.isub, 1) := by decide +kernel
theorem dX3_hasCell_8 : decode cX3_hasCell 8 = .ok (.invokestatic 19, 3) := by decide +kernel
theorem dX3_hasCell_11 : decode cX3_hasCell 11 = .ok (.ireturn, 1) := by decide +kernel
theorem dX3_hasCells_0 : decode cX3_hasCells 0 = .ok (.iload_n 1, 1) := by decide +kernel
theorem dX3_hasCells_1 : decode cX3_hasCells 1 = .ok (.ifCond .lt 29, 3) := by decide +kernel
theorem dX3_hasCells_4 : decode cX3_hasCells 4 = .ok (.iload_n 2, 1) := by decide +kernel
theorem dX3_hasCells_5 : decode cX3_hasCells 5 = .ok (.ifCond .lt 25, 3) := by decide +kernel
theorem dX3_hasCells_8 : decode cX3_hasCells 8 = .ok (.iload_n 1, 1) := by decide +kernel
theorem dX3_hasCells_9 : decode cX3_hasCells 9 = .ok (.aload_n 0, 1) := by decide +kernel
theorem dX3_hasCells_10 : decode cX3_hasCells 10 = .ok (.getfield 32, 3) := by decide +kernel
theorem dX3_hasCells_13 : decode cX3_hasCells 13 = .ok (.if_icmp .gt 17, 3) := by decide +kernel
theorem dX3_hasCells_16 : decode cX3_hasCells 16 = .ok (.iload_n 2, 1) := by decide +kernel
theorem dX3_hasCells_17 : decode cX3_hasCells 17 = .ok (.aload_n 0, 1) := by decide +kernel
theorem dX3_hasCells_18 : decode cX3_hasCells 18 = .ok (.getfield 32, 3) := by decide +kernel
theorem dX3_hasCells_21 : decode cX3_hasCells 21 = .ok (.iload_n 1, 1) := by decide +kernel
theorem dX3_hasCells_22 : decode cX3_hasCells 22 = .ok (.isub, 1) := by decide +kernel
theorem dX3_hasCells_23 : decode cX3_hasCells 23 = .ok (.if_icmp .gt 7, 3) := by decide +kernel
theorem dX3_hasCells_26 : decode cX3_hasCells 26 = .ok (.iconst 1, 1) := by decide +kernel
theorem dX3_hasCells_27 : decode cX3_hasCells 27 = .ok (.goto 4, 3) := by decide +kernel
theorem dX3_hasCells_30 : decode cX3_hasCells 30 = .ok (.iconst 0, 1) := by decide +kernel
theorem dX3_hasCells_31 : decode cX3_hasCells 31 = .ok (.ireturn, 1) := by decide +kernel
theorem dX3_isSo_0 : decode cX3_isSo 0 = .ok (.aload_n 0, 1) := by decide +kernel
theorem dX3_isSo_1 : decode cX3_isSo 1 = .ok (.getfield 15, 3) := by decide +kernel
theorem dX3_isSo_4 : decode cX3_isSo 4 = .ok (.iload_n 1, 1) := by decide +kernel
theorem dX3_isSo_5 : decode cX3_isSo 5 = .ok (.iaload, 1) := by decide +kernel
theorem dX3_isSo_6 : decode cX3_isSo 6 = .ok (.iload_n 2, 1) := by decide +kernel
theorem dX3_isSo_7 : decode cX3_isSo 7 = .ok (.if_icmp .eq 16, 3) := by decide +kernel
theorem dX3_isSo_10 : decode cX3_isSo 10 = .ok (.aload_n 0, 1) := by decide +kernel
theorem dX3_isSo_11 : decode cX3_isSo 11 = .ok (.getfield 15, 3) := by decide +kernel
theorem dX3_isSo_14 : decode cX3_isSo 14 = .ok (.iload_n 1, 1) := by decide +kernel
theorem dX3_isSo_15 : decode cX3_isSo 15 = .ok (.iaload, 1) := by decide +kernel
theorem dX3_isSo_16 : decode cX3_isSo 16 = .ok (.aload_n 0, 1) := by decide +kernel
theorem dX3_isSo_17 : decode cX3_isSo 17 = .ok (.invokevirtual 35, 3) := by decide +kernel
theorem dX3_isSo_20 : decode cX3_isSo 20 = .ok (.if_icmp .ne 7, 3) := by decide +kernel
theorem dX3_isSo_23 : decode cX3_isSo 23 = .ok (.iconst 1, 1) := by decide +kernel
theorem dX3_isSo_24 : decode cX3_isSo 24 = .ok (.goto 4, 3) := by decide +kernel
theorem dX3_isSo_27 : decode cX3_isSo 27 = .ok (.iconst 0, 1) := by decide +kernel
theorem dX3_isSo_28 : decode cX3_isSo 28 = .ok (.ireturn, 1) := by decide +kernel
theorem dX3_leastNumber_0 : decode cX3_leastNumber 0 = .ok (.aload_n 0, 1) := by decide +kernel
theorem dX3_leastNumber_1 : decode cX3_leastNumber 1 = .ok (.getfield 29, 3) := by decide +kernel
theorem dX3_leastNumber_4 : decode cX3_leastNumber 4 = .ok (.ifCond .ne 6, 3) := by decide +kernel
theorem dX3_leastNumber_7 : decode cX3_leastNumber 7 = .ok (.bipush (-128), 2) := by decide +kernel
theorem dX3_leastNumber_9 : decode cX3_leastNumber 9 = .ok (.ireturn, 1) := by decide +kernel
theorem dX3_leastNumber_10 : decode cX3_leastNumber 10 = .ok (.aload_n 0, 1) := by decide +kernel
theorem dX3_leastNumber_11 : decode cX3_leastNumber 11 = .ok (.getfield 29, 3) := by decide +kernel
theorem dX3_leastNumber_14 : decode cX3_leastNumber 14 = .ok (.iconst 1, 1) := by decide +kernel
theorem dX3_leastNumber_15 : decode cX3_leastNumber 15 = .ok (.if_icmp .ne 9, 3) := by decide +kernel
theorem dX3_leastNumber_18 : decode cX3_leastNumber 18 = .ok (.sipush (-32768), 3) := by decide +kernel
theorem dX3_leastNumber_21 : decode cX3_leastNumber 21 = .ok (.goto 5, 3) := by decide +kernel
theorem dX3_leastNumber_24 : decode cX3_leastNumber 24 = .ok (.ldc 39, 2) := by decide +kernel
theorem dX3_leastNumber_26 : decode cX3_leastNumber 26 = .ok (.ireturn, 1) := by decide +kernel
