theorem dX2_init_0 : decode cX2_init 0 = .ok (.aload_n 0, 1) := by decide +kernel
theorem dX2_init_1 : decode cX2_init 1 = .ok (.invokespecial 3, 3) := by decide +kernel
theorem dX2_init_4 : decode cX2_init 4 = .ok (.aload_n 0, 1) := by decide +kernel
theorem dX2_init_5 : decode cX2_init 5 = .ok (.bipush 7, 2) := by decide +kernel
theorem dX2_init_7 : decode cX2_init 7 = .ok (.newarray .int, 2) := by decide +kernel
theorem dX2_init_9 : decode cX2_init 9 = .ok (.putfield 9, 3) := by decide +kernel
theorem dX2_init_12 : decode cX2_init 12 = .ok (.aload_n 0, 1) := by decide +kernel
theorem dX2_init_13 : decode cX2_init 13 = .ok (.bipush 7, 2) := by decide +kernel
theorem dX2_init_15 : decode cX2_init 15 = .ok (.newarray .int, 2) := by decide +kernel
theorem dX2_init_17 : decode cX2_init 17 = .ok (.putfield 15, 3) := by decide +kernel
theorem dX2_init_20 : decode cX2_init 20 = .ok (.return_, 1) := by decide +kernel
theorem dX2_seat_0 : decode cX2_seat 0 = .ok (.iload_n 2, 1) := by decide +kernel
theorem dX2_seat_1 : decode cX2_seat 1 = .ok (.aload_n 1, 1) := by decide +kernel
theorem dX2_seat_2 : decode cX2_seat 2 = .ok (.getfield 18, 3) := by decide +kernel
theorem dX2_seat_5 : decode cX2_seat 5 = .ok (.invokestatic 24, 3) := by decide +kernel
theorem dX2_seat_8 : decode cX2_seat 8 = .ok (.if_icmp .lt 6, 3) := by decide +kernel
theorem dX2_seat_11 : decode cX2_seat 11 = .ok (.bipush (-4), 2) := by decide +kernel
theorem dX2_seat_13 : decode cX2_seat 13 = .ok (.ireturn, 1) := by decide +kernel
theorem dX2_seat_14 : decode cX2_seat 14 = .ok (.iconst 0, 1) := by decide +kernel
theorem dX2_seat_15 : decode cX2_seat 15 = .ok (.istore_n 3, 1) := by decide +kernel
theorem dX2_seat_16 : decode cX2_seat 16 = .ok (.iload_n 3, 1) := by decide +kernel
theorem dX2_seat_17 : decode cX2_seat 17 = .ok (.aload_n 1, 1) := by decide +kernel
theorem dX2_seat_18 : decode cX2_seat 18 = .ok (.getfield 30, 3) := by decide +kernel
theorem dX2_seat_21 : decode cX2_seat 21 = .ok (.if_icmp .ge 20, 3) := by decide +kernel
theorem dX2_seat_24 : decode cX2_seat 24 = .ok (.aload_n 0, 1) := by decide +kernel
theorem dX2_seat_25 : decode cX2_seat 25 = .ok (.getfield 9, 3) := by decide +kernel
theorem dX2_seat_28 : decode cX2_seat 28 = .ok (.iload_n 3, 1) := by decide +kernel
theorem dX2_seat_29 : decode cX2_seat 29 = .ok (.aload_n 1, 1) := by decide +kernel
theorem dX2_seat_30 : decode cX2_seat 30 = .ok (.iload_n 3, 1) := by decide +kernel
theorem dX2_seat_31 : decode cX2_seat 31 = .ok (.invokevirtual 33, 3) := by decide +kernel
theorem dX2_seat_34 : decode cX2_seat 34 = .ok (.iastore, 1) := by decide +kernel
theorem dX2_seat_35 : decode cX2_seat 35 = .ok (.iinc 3 1, 3) := by decide +kernel
theorem dX2_seat_38 : decode cX2_seat 38 = .ok (.goto (-22), 3) := by decide +kernel
theorem dX2_seat_41 : decode cX2_seat 41 = .ok (.aload_n 0, 1) := by decide +kernel
theorem dX2_seat_42 : decode cX2_seat 42 = .ok (.iconst 0, 1) := by decide +kernel
theorem dX2_seat_43 : decode cX2_seat 43 = .ok (.aload_n 1, 1) := by decide +kernel
theorem dX2_seat_44 : decode cX2_seat 44 = .ok (.getfield 18, 3) := by decide +kernel
theorem dX2_seat_47 : decode cX2_seat 47 = .ok (.invokevirtual 36, 3) := by decide +kernel
theorem dX2_seat_50 : decode cX2_seat 50 = .ok (.ifCond .eq 12, 3) := by decide +kernel
theorem dX2_seat_53 : decode cX2_seat 53 = .ok (.aload_n 0, 1) := by decide +kernel
theorem dX2_seat_54 : decode cX2_seat 54 = .ok (.getfield 15, 3) := by decide +kernel
theorem dX2_seat_57 : decode cX2_seat 57 = .ok (.iload_n 2, 1) := by decide +kernel
theorem dX2_seat_58 : decode cX2_seat 58 = .ok (.iaload, 1) := by decide +kernel
theorem dX2_seat_59 : decode cX2_seat 59 = .ok (.goto 5, 3) := by decide +kernel
theorem dX2_seat_62 : decode cX2_seat 62 = .ok (.bipush (-4), 2) := by decide +kernel
theorem dX2_seat_64 : decode cX2_seat 64 = .ok (.ireturn, 1) := by decide +kernel
theorem dX2_seatRest_0 : decode cX2_seatRest 0 = .ok (.iload_n 2, 1) := by decide +kernel
theorem dX2_seatRest_1 : decode cX2_seatRest 1 = .ok (.ifCond .eq 9, 3) := by decide +kernel
theorem dX2_seatRest_4 : decode cX2_seatRest 4 = .ok (.iload_n 1, 1) := by decide +kernel
theorem dX2_seatRest_5 : decode cX2_seatRest 5 = .ok (.bipush 7, 2) := by decide +kernel
theorem dX2_seatRest_7 : decode cX2_seatRest 7 = .ok (.if_icmp .lt 13, 3) := by decide +kernel
theorem dX2_seatRest_10 : decode cX2_seatRest 10 = .ok (.iload_n 2, 1) := by decide +kernel
theorem dX2_seatRest_11 : decode cX2_seatRest 11 = .ok (.ifCond .ne 7, 3) := by decide +kernel
theorem dX2_seatRest_14 : decode cX2_seatRest 14 = .ok (.iconst 1, 1) := by decide +kernel
theorem dX2_seatRest_15 : decode cX2_seatRest 15 = .ok (.goto 4, 3) := by decide +kernel
theorem dX2_seatRest_18 : decode cX2_seatRest 18 = .ok (.iconst 0, 1) := by decide +kernel
theorem dX2_seatRest_19 : decode cX2_seatRest 19 = .ok (.ireturn, 1) := by decide +kernel
theorem dX2_seatRest_20 : decode cX2_seatRest 20 = .ok (.iconst 0, 1) := by decide +kernel
theorem dX2_seatRest_21 : decode cX2_seatRest 21 = .ok (.istore_n 3, 1) := by decide +kernel
theorem dX2_seatRest_22 : decode cX2_seatRest 22 = .ok (.iload_n 3, 1) := by decide +kernel
theorem dX2_seatRest_23 : decode cX2_seatRest 23 = .ok (.bipush 7, 2) := by decide +kernel
theorem dX2_seatRest_25 : decode cX2_seatRest 25 = .ok (.if_icmp .ge 52, 3) := by decide +kernel
theorem dX2_seatRest_28 : decode cX2_seatRest 28 = .ok (.iload_n 2, 1) := by decide +kernel
theorem dX2_seatRest_29 : decode cX2_seatRest 29 = .ok (.iload_n 3, 1) := by decide +kernel
theorem dX2_seatRest_30 : decode cX2_seatRest 30 = .ok (.ishr, 1) := by decide +kernel
theorem dX2_seatRest_31 : decode cX2_seatRest 31 = .ok (.iconst 1, 1) := by decide +kernel
theorem dX2_seatRest_32 : decode cX2_seatRest 32 = .ok (.iand, 1) := by decide +kernel
theorem dX2_seatRest_33 : decode cX2_seatRest 33 = .ok (.ifCond .eq 38, 3) := by decide +kernel
theorem dX2_seatRest_36 : decode cX2_seatRest 36 = .ok (.aload_n 0, 1) := by decide +kernel
theorem dX2_seatRest_37 : decode cX2_seatRest 37 = .ok (.iload_n 1, 1) := by decide +kernel
theorem dX2_seatRest_38 : decode cX2_seatRest 38 = .ok (.iload_n 3, 1) := by decide +kernel
theorem dX2_seatRest_39 : decode cX2_seatRest 39 = .ok (.invokevirtual 40, 3) := by decide +kernel
theorem dX2_seatRest_42 : decode cX2_seatRest 42 = .ok (.ifCond .eq 29, 3) := by decide +kernel
theorem dX2_seatRest_45 : decode cX2_seatRest 45 = .ok (.aload_n 0, 1) := by decide +kernel
theorem dX2_seatRest_46 : decode cX2_seatRest 46 = .ok (.getfield 15, 3) := by decide +kernel
theorem dX2_seatRest_49 : decode cX2_seatRest 49 = .ok (.iload_n 1, 1) := by decide +kernel
theorem dX2_seatRest_50 : decode cX2_seatRest 50 = .ok (.iload_n 3, 1) := by decide +kernel
theorem dX2_seatRest_51 : decode cX2_seatRest 51 = .ok (.iastore, 1) := by decide +kernel
theorem dX2_seatRest_52 : decode cX2_seatRest 52 = .ok (.aload_n 0, 1) := by decide +kernel
theorem dX2_seatRest_53 : decode cX2_seatRest 53 = .ok (.iload_n 1, 1) := by decide +kernel
theorem dX2_seatRest_54 : decode cX2_seatRest 54 = .ok (.iconst 1, 1) := by decide +kernel
theorem dX2_seatRest_55 : decode cX2_seatRest 55 = .ok (.iadd, 1) := by decide +kernel
theorem dX2_seatRest_56 : decode cX2_seatRest 56 = .ok (.iload_n 2, 1) := by decide +kernel
theorem dX2_seatRest_57 : decode cX2_seatRest 57 = .ok (.iconst 1, 1) := by decide +kernel
theorem dX2_seatRest_58 : decode cX2_seatRest 58 = .ok (.iload_n 3, 1) := by decide +kernel
theorem dX2_seatRest_59 : decode cX2_seatRest 59 = .ok (.ishl, 1) := by decide +kernel
theorem dX2_seatRest_60 : decode cX2_seatRest 60 = .ok (.iconst (-1), 1) := by decide +kernel
theorem dX2_seatRest_61 : decode cX2_seatRest 61 = .ok (.ixor, 1) := by decide +kernel
theorem dX2_seatRest_62 : decode cX2_seatRest 62 = .ok (.iand, 1) := by decide +kernel
theorem dX2_seatRest_63 : decode cX2_seatRest 63 = .ok (.invokevirtual 36, 3) := by decide +kernel
theorem dX2_seatRest_66 : decode cX2_seatRest 66 = .ok (.ifCond .eq 5, 3) := by decide +kernel
theorem dX2_seatRest_69 : decode cX2_seatRest 69 = .ok (.iconst 1, 1) := by decide +kernel
theorem dX2_seatRest_70 : decode cX2_seatRest 70 = .ok (.ireturn, 1) := by decide +kernel
theorem dX2_seatRest_71 : decode cX2_seatRest 71 = .ok (.iinc 3 1, 3) := by decide +kernel
theorem dX2_seatRest_74 : decode cX2_seatRest 74 = .ok (.goto (-52), 3) := by decide +kernel
theorem dX2_seatRest_77 : decode cX2_seatRest 77 = .ok (.iconst 0, 1) := by decide +kernel
theorem dX2_seatRest_78 : decode cX2_seatRest 78 = .ok (.ireturn, 1) := by decide +kernel
theorem dX2_fits_0 : decode cX2_fits 0 = .ok (.iload_n 1, 1) := by decide +kernel
theorem dX2_fits_1 : decode cX2_fits 1 = .ok (.ifCond .eq 36, 3) := by decide +kernel
theorem dX2_fits_4 : decode cX2_fits 4 = .ok (.aload_n 0, 1) := by decide +kernel
theorem dX2_fits_5 : decode cX2_fits 5 = .ok (.getfield 9, 3) := by decide +kernel
theorem dX2_fits_8 : decode cX2_fits 8 = .ok (.iload_n 2, 1) := by decide +kernel
theorem dX2_fits_9 : decode cX2_fits 9 = .ok (.iaload, 1) := by decide +kernel
theorem dX2_fits_10 : decode cX2_fits 10 = .ok (.bipush (-4), 2) := by decide +kernel
theorem dX2_fits_12 : decode cX2_fits 12 = .ok (.if_icmp .eq 25, 3) := by decide +kernel
theorem dX2_fits_15 : decode cX2_fits 15 = .ok (.aload_n 0, 1) := by decide +kernel
theorem dX2_fits_16 : decode cX2_fits 16 = .ok (.getfield 9, 3) := by decide +kernel
theorem dX2_fits_19 : decode cX2_fits 19 = .ok (.iload_n 2, 1) := by decide +kernel
theorem dX2_fits_20 : decode cX2_fits 20 = .ok (.iaload, 1) := by decide +kernel
theorem dX2_fits_21 : decode cX2_fits 21 = .ok (.aload_n 0, 1) := by decide +kernel
theorem dX2_fits_22 : decode cX2_fits 22 = .ok (.getfield 9, 3) := by decide +kernel
theorem dX2_fits_25 : decode cX2_fits 25 = .ok (.aload_n 0, 1) := by decide +kernel
theorem dX2_fits_26 : decode cX2_fits 26 = .ok (.getfield 15, 3) := by decide +kernel
theorem dX2_fits_29 : decode cX2_fits 29 = .ok (.iload_n 1, 1) := by decide +kernel
theorem dX2_fits_30 : decode cX2_fits 30 = .ok (.iconst 1, 1) := by decide +kernel
theorem dX2_fits_31 : decode cX2_fits 31 = .ok (.isub, 1) := by decide +kernel
theorem dX2_fits_32 : decode cX2_fits 32 = .ok (.iaload, 1) := by decide +kernel
theorem dX2_fits_33 : decode cX2_fits 33 = .ok (.iaload, 1) := by decide +kernel
theorem dX2_fits_34 : decode cX2_fits 34 = .ok (.if_icmp .eq 7, 3) := by decide +kernel
theorem dX2_fits_37 : decode cX2_fits 37 = .ok (.iconst 1, 1) := by decide +kernel
theorem dX2_fits_38 : decode cX2_fits 38 = .ok (.goto 4, 3) := by decide +kernel
theorem dX2_fits_41 : decode cX2_fits 41 = .ok (.iconst 0, 1) := by decide +kernel
theorem dX2_fits_42 : decode cX2_fits 42 = .ok (.ireturn, 1) := by decide +kernel
