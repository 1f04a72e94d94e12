theorem xX2_init_0 : xdec cX2_init 0 = some (.aload_n 0, 1, 0, 0) := by decide +kernel
theorem xX2_init_1 : xdec cX2_init 1 = some (.invokespecial 3, 4, 0, 0) := by decide +kernel
theorem xX2_init_4 : xdec cX2_init 4 = some (.aload_n 0, 5, 0, 0) := by decide +kernel
theorem xX2_init_5 : xdec cX2_init 5 = some (.bipush 7, 7, 0, 7) := by decide +kernel
theorem xX2_init_7 : xdec cX2_init 7 = some (.newarray .int, 9, 0, 0) := by decide +kernel
theorem xX2_init_9 : xdec cX2_init 9 = some (.putfield 9, 12, 9, 0) := by decide +kernel
theorem xX2_init_12 : xdec cX2_init 12 = some (.aload_n 0, 13, 0, 0) := by decide +kernel
theorem xX2_init_13 : xdec cX2_init 13 = some (.bipush 7, 15, 0, 7) := by decide +kernel
theorem xX2_init_15 : xdec cX2_init 15 = some (.newarray .int, 17, 0, 0) := by decide +kernel
theorem xX2_init_17 : xdec cX2_init 17 = some (.putfield 15, 20, 15, 0) := by decide +kernel
theorem xX2_init_20 : xdec cX2_init 20 = some (.return_, 21, 0, 0) := by decide +kernel
theorem xX2_seat_0 : xdec cX2_seat 0 = some (.iload_n 2, 1, 2, 0) := by decide +kernel
theorem xX2_seat_1 : xdec cX2_seat 1 = some (.aload_n 1, 2, 1, 0) := by decide +kernel
theorem xX2_seat_2 : xdec cX2_seat 2 = some (.getfield 18, 5, 18, 0) := by decide +kernel
theorem xX2_seat_5 : xdec cX2_seat 5 = some (.invokestatic 24, 8, 0, 0) := by decide +kernel
theorem xX2_seat_8 : xdec cX2_seat 8 = some (.if_icmp .lt 6, 11, 14, 0) := by decide +kernel
theorem xX2_seat_11 : xdec cX2_seat 11 = some (.bipush (-4), 13, 0, (-4)) := by decide +kernel
theorem xX2_seat_13 : xdec cX2_seat 13 = some (.ireturn, 14, 0, 0) := by decide +kernel
theorem xX2_seat_14 : xdec cX2_seat 14 = some (.iconst 0, 15, 0, 0) := by decide +kernel
theorem xX2_seat_15 : xdec cX2_seat 15 = some (.istore_n 3, 16, 3, 0) := by decide +kernel
theorem xX2_seat_16 : xdec cX2_seat 16 = some (.iload_n 3, 17, 3, 0) := by decide +kernel
theorem xX2_seat_17 : xdec cX2_seat 17 = some (.aload_n 1, 18, 1, 0) := by decide +kernel
theorem xX2_seat_18 : xdec cX2_seat 18 = some (.getfield 30, 21, 30, 0) := by decide +kernel
theorem xX2_seat_21 : xdec cX2_seat 21 = some (.if_icmp .ge 20, 24, 41, 0) := by decide +kernel
theorem xX2_seat_24 : xdec cX2_seat 24 = some (.aload_n 0, 25, 0, 0) := by decide +kernel
theorem xX2_seat_25 : xdec cX2_seat 25 = some (.getfield 9, 28, 9, 0) := by decide +kernel
theorem xX2_seat_28 : xdec cX2_seat 28 = some (.iload_n 3, 29, 3, 0) := by decide +kernel
theorem xX2_seat_29 : xdec cX2_seat 29 = some (.aload_n 1, 30, 1, 0) := by decide +kernel
theorem xX2_seat_30 : xdec cX2_seat 30 = some (.iload_n 3, 31, 3, 0) := by decide +kernel
theorem xX2_seat_31 : xdec cX2_seat 31 = some (.invokevirtual 33, 34, 0, 0) := by decide +kernel
theorem xX2_seat_34 : xdec cX2_seat 34 = some (.iastore, 35, 0, 0) := by decide +kernel
theorem xX2_seat_35 : xdec cX2_seat 35 = some (.iinc 3 1, 38, 3, 1) := by decide +kernel
theorem xX2_seat_38 : xdec cX2_seat 38 = some (.goto (-22), 41, 16, 0) := by decide +kernel
theorem xX2_seat_41 : xdec cX2_seat 41 = some (.aload_n 0, 42, 0, 0) := by decide +kernel
theorem xX2_seat_42 : xdec cX2_seat 42 = some (.iconst 0, 43, 0, 0) := by decide +kernel
theorem xX2_seat_43 : xdec cX2_seat 43 = some (.aload_n 1, 44, 1, 0) := by decide +kernel
theorem xX2_seat_44 : xdec cX2_seat 44 = some (.getfield 18, 47, 18, 0) := by decide +kernel
theorem xX2_seat_47 : xdec cX2_seat 47 = some (.invokevirtual 36, 50, 0, 0) := by decide +kernel
theorem xX2_seat_50 : xdec cX2_seat 50 = some (.ifCond .eq 12, 53, 62, 0) := by decide +kernel
theorem xX2_seat_53 : xdec cX2_seat 53 = some (.aload_n 0, 54, 0, 0) := by decide +kernel
theorem xX2_seat_54 : xdec cX2_seat 54 = some (.getfield 15, 57, 15, 0) := by decide +kernel
theorem xX2_seat_57 : xdec cX2_seat 57 = some (.iload_n 2, 58, 2, 0) := by decide +kernel
theorem xX2_seat_58 : xdec cX2_seat 58 = some (.iaload, 59, 0, 0) := by decide +kernel
theorem xX2_seat_59 : xdec cX2_seat 59 = some (.goto 5, 62, 64, 0) := by decide +kernel
theorem xX2_seat_62 : xdec cX2_seat 62 = some (.bipush (-4), 64, 0, (-4)) := by decide +kernel
theorem xX2_seat_64 : xdec cX2_seat 64 = some (.ireturn, 65, 0, 0) := by decide +kernel
theorem xX2_seatRest_0 : xdec cX2_seatRest 0 = some (.iload_n 2, 1, 2, 0) := by decide +kernel
theorem xX2_seatRest_1 : xdec cX2_seatRest 1 = some (.ifCond .eq 9, 4, 10, 0) := by decide +kernel
theorem xX2_seatRest_4 : xdec cX2_seatRest 4 = some (.iload_n 1, 5, 1, 0) := by decide +kernel
theorem xX2_seatRest_5 : xdec cX2_seatRest 5 = some (.bipush 7, 7, 0, 7) := by decide +kernel
theorem xX2_seatRest_7 : xdec cX2_seatRest 7 = some (.if_icmp .lt 13, 10, 20, 0) := by decide +kernel
theorem xX2_seatRest_10 : xdec cX2_seatRest 10 = some (.iload_n 2, 11, 2, 0) := by decide +kernel
theorem xX2_seatRest_11 : xdec cX2_seatRest 11 = some (.ifCond .ne 7, 14, 18, 0) := by decide +kernel
theorem xX2_seatRest_14 : xdec cX2_seatRest 14 = some (.iconst 1, 15, 0, 1) := by decide +kernel
theorem xX2_seatRest_15 : xdec cX2_seatRest 15 = some (.goto 4, 18, 19, 0) := by decide +kernel
theorem xX2_seatRest_18 : xdec cX2_seatRest 18 = some (.iconst 0, 19, 0, 0) := by decide +kernel
theorem xX2_seatRest_19 : xdec cX2_seatRest 19 = some (.ireturn, 20, 0, 0) := by decide +kernel
theorem xX2_seatRest_20 : xdec cX2_seatRest 20 = some (.iconst 0, 21, 0, 0) := by decide +kernel
theorem xX2_seatRest_21 : xdec cX2_seatRest 21 = some (.istore_n 3, 22, 3, 0) := by decide +kernel
theorem xX2_seatRest_22 : xdec cX2_seatRest 22 = some (.iload_n 3, 23, 3, 0) := by decide +kernel
theorem xX2_seatRest_23 : xdec cX2_seatRest 23 = some (.bipush 7, 25, 0, 7) := by decide +kernel
theorem xX2_seatRest_25 : xdec cX2_seatRest 25 = some (.if_icmp .ge 52, 28, 77, 0) := by decide +kernel
theorem xX2_seatRest_28 : xdec cX2_seatRest 28 = some (.iload_n 2, 29, 2, 0) := by decide +kernel
theorem xX2_seatRest_29 : xdec cX2_seatRest 29 = some (.iload_n 3, 30, 3, 0) := by decide +kernel
theorem xX2_seatRest_30 : xdec cX2_seatRest 30 = some (.ishr, 31, 0, 0) := by decide +kernel
theorem xX2_seatRest_31 : xdec cX2_seatRest 31 = some (.iconst 1, 32, 0, 1) := by decide +kernel
theorem xX2_seatRest_32 : xdec cX2_seatRest 32 = some (.iand, 33, 0, 0) := by decide +kernel
theorem xX2_seatRest_33 : xdec cX2_seatRest 33 = some (.ifCond .eq 38, 36, 71, 0) := by decide +kernel
theorem xX2_seatRest_36 : xdec cX2_seatRest 36 = some (.aload_n 0, 37, 0, 0) := by decide +kernel
theorem xX2_seatRest_37 : xdec cX2_seatRest 37 = some (.iload_n 1, 38, 1, 0) := by decide +kernel
theorem xX2_seatRest_38 : xdec cX2_seatRest 38 = some (.iload_n 3, 39, 3, 0) := by decide +kernel
theorem xX2_seatRest_39 : xdec cX2_seatRest 39 = some (.invokevirtual 40, 42, 0, 0) := by decide +kernel
theorem xX2_seatRest_42 : xdec cX2_seatRest 42 = some (.ifCond .eq 29, 45, 71, 0) := by decide +kernel
theorem xX2_seatRest_45 : xdec cX2_seatRest 45 = some (.aload_n 0, 46, 0, 0) := by decide +kernel
theorem xX2_seatRest_46 : xdec cX2_seatRest 46 = some (.getfield 15, 49, 15, 0) := by decide +kernel
theorem xX2_seatRest_49 : xdec cX2_seatRest 49 = some (.iload_n 1, 50, 1, 0) := by decide +kernel
theorem xX2_seatRest_50 : xdec cX2_seatRest 50 = some (.iload_n 3, 51, 3, 0) := by decide +kernel
theorem xX2_seatRest_51 : xdec cX2_seatRest 51 = some (.iastore, 52, 0, 0) := by decide +kernel
theorem xX2_seatRest_52 : xdec cX2_seatRest 52 = some (.aload_n 0, 53, 0, 0) := by decide +kernel
theorem xX2_seatRest_53 : xdec cX2_seatRest 53 = some (.iload_n 1, 54, 1, 0) := by decide +kernel
theorem xX2_seatRest_54 : xdec cX2_seatRest 54 = some (.iconst 1, 55, 0, 1) := by decide +kernel
theorem xX2_seatRest_55 : xdec cX2_seatRest 55 = some (.iadd, 56, 0, 0) := by decide +kernel
theorem xX2_seatRest_56 : xdec cX2_seatRest 56 = some (.iload_n 2, 57, 2, 0) := by decide +kernel
theorem xX2_seatRest_57 : xdec cX2_seatRest 57 = some (.iconst 1, 58, 0, 1) := by decide +kernel
theorem xX2_seatRest_58 : xdec cX2_seatRest 58 = some (.iload_n 3, 59, 3, 0) := by decide +kernel
theorem xX2_seatRest_59 : xdec cX2_seatRest 59 = some (.ishl, 60, 0, 0) := by decide +kernel
theorem xX2_seatRest_60 : xdec cX2_seatRest 60 = some (.iconst (-1), 61, 0, (-1)) := by decide +kernel
theorem xX2_seatRest_61 : xdec cX2_seatRest 61 = some (.ixor, 62, 0, 0) := by decide +kernel
theorem xX2_seatRest_62 : xdec cX2_seatRest 62 = some (.iand, 63, 0, 0) := by decide +kernel
theorem xX2_seatRest_63 : xdec cX2_seatRest 63 = some (.invokevirtual 36, 66, 0, 0) := by decide +kernel
theorem xX2_seatRest_66 : xdec cX2_seatRest 66 = some (.ifCond .eq 5, 69, 71, 0) := by decide +kernel
theorem xX2_seatRest_69 : xdec cX2_seatRest 69 = some (.iconst 1, 70, 0, 1) := by decide +kernel
theorem xX2_seatRest_70 : xdec cX2_seatRest 70 = some (.ireturn, 71, 0, 0) := by decide +kernel
theorem xX2_seatRest_71 : xdec cX2_seatRest 71 = some (.iinc 3 1, 74, 3, 1) := by decide +kernel
theorem xX2_seatRest_74 : xdec cX2_seatRest 74 = some (.goto (-52), 77, 22, 0) := by decide +kernel
theorem xX2_seatRest_77 : xdec cX2_seatRest 77 = some (.iconst 0, 78, 0, 0) := by decide +kernel
theorem xX2_seatRest_78 : xdec cX2_seatRest 78 = some (.ireturn, 79, 0, 0) := by decide +kernel
theorem xX2_fits_0 : xdec cX2_fits 0 = some (.iload_n 1, 1, 1, 0) := by decide +kernel
theorem xX2_fits_1 : xdec cX2_fits 1 = some (.ifCond .eq 36, 4, 37, 0) := by decide +kernel
theorem xX2_fits_4 : xdec cX2_fits 4 = some (.aload_n 0, 5, 0, 0) := by decide +kernel
theorem xX2_fits_5 : xdec cX2_fits 5 = some (.getfield 9, 8, 9, 0) := by decide +kernel
theorem xX2_fits_8 : xdec cX2_fits 8 = some (.iload_n 2, 9, 2, 0) := by decide +kernel
theorem xX2_fits_9 : xdec cX2_fits 9 = some (.iaload, 10, 0, 0) := by decide +kernel
theorem xX2_fits_10 : xdec cX2_fits 10 = some (.bipush (-4), 12, 0, (-4)) := by decide +kernel
theorem xX2_fits_12 : xdec cX2_fits 12 = some (.if_icmp .eq 25, 15, 37, 0) := by decide +kernel
theorem xX2_fits_15 : xdec cX2_fits 15 = some (.aload_n 0, 16, 0, 0) := by decide +kernel
theorem xX2_fits_16 : xdec cX2_fits 16 = some (.getfield 9, 19, 9, 0) := by decide +kernel
theorem xX2_fits_19 : xdec cX2_fits 19 = some (.iload_n 2, 20, 2, 0) := by decide +kernel
theorem xX2_fits_20 : xdec cX2_fits 20 = some (.iaload, 21, 0, 0) := by decide +kernel
theorem xX2_fits_21 : xdec cX2_fits 21 = some (.aload_n 0, 22, 0, 0) := by decide +kernel
theorem xX2_fits_22 : xdec cX2_fits 22 = some (.getfield 9, 25, 9, 0) := by decide +kernel
theorem xX2_fits_25 : xdec cX2_fits 25 = some (.aload_n 0, 26, 0, 0) := by decide +kernel
theorem xX2_fits_26 : xdec cX2_fits 26 = some (.getfield 15, 29, 15, 0) := by decide +kernel
theorem xX2_fits_29 : xdec cX2_fits 29 = some (.iload_n 1, 30, 1, 0) := by decide +kernel
theorem xX2_fits_30 : xdec cX2_fits 30 = some (.iconst 1, 31, 0, 1) := by decide +kernel
theorem xX2_fits_31 : xdec cX2_fits 31 = some (.isub, 32, 0, 0) := by decide +kernel
theorem xX2_fits_32 : xdec cX2_fits 32 = some (.iaload, 33, 0, 0) := by decide +kernel
theorem xX2_fits_33 : xdec cX2_fits 33 = some (.iaload, 34, 0, 0) := by decide +kernel
theorem xX2_fits_34 : xdec cX2_fits 34 = some (.if_icmp .eq 7, 37, 41, 0) := by decide +kernel
theorem xX2_fits_37 : xdec cX2_fits 37 = some (.iconst 1, 38, 0, 1) := by decide +kernel
theorem xX2_fits_38 : xdec cX2_fits 38 = some (.goto 4, 41, 42, 0) := by decide +kernel
theorem xX2_fits_41 : xdec cX2_fits 41 = some (.iconst 0, 42, 0, 0) := by decide +kernel
theorem xX2_fits_42 : xdec cX2_fits 42 = some (.ireturn, 43, 0, 0) := by decide +kernel
