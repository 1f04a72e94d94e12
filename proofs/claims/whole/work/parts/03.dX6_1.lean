theorem dX6_comes_53 : decode cX6_comes 53 = .ok (.invokevirtual 223, 3) := by decide +kernel
theorem dX6_comes_56 : decode cX6_comes 56 = .ok (.goto 5, 3) := by decide +kernel
theorem dX6_comes_59 : decode cX6_comes 59 = .ok (.bipush (-2), 2) := by decide +kernel
theorem dX6_comes_61 : decode cX6_comes 61 = .ok (.ireturn, 1) := by decide +kernel
theorem dX6_comes_62 : decode cX6_comes 62 = .ok (.aload_n 0, 1) := by decide +kernel
theorem dX6_comes_63 : decode cX6_comes 63 = .ok (.aload_n 0, 1) := by decide +kernel
theorem dX6_comes_64 : decode cX6_comes 64 = .ok (.getfield 31, 3) := by decide +kernel
theorem dX6_comes_67 : decode cX6_comes 67 = .ok (.iload_n 1, 1) := by decide +kernel
theorem dX6_comes_68 : decode cX6_comes 68 = .ok (.iaload, 1) := by decide +kernel
theorem dX6_comes_69 : decode cX6_comes 69 = .ok (.aload_n 0, 1) := by decide +kernel
theorem dX6_comes_70 : decode cX6_comes 70 = .ok (.getfield 34, 3) := by decide +kernel
theorem dX6_comes_73 : decode cX6_comes 73 = .ok (.iload_n 1, 1) := by decide +kernel
theorem dX6_comes_74 : decode cX6_comes 74 = .ok (.iaload, 1) := by decide +kernel
theorem dX6_comes_75 : decode cX6_comes 75 = .ok (.iload_n 2, 1) := by decide +kernel
theorem dX6_comes_76 : decode cX6_comes 76 = .ok (.invokevirtual 174, 3) := by decide +kernel
theorem dX6_comes_79 : decode cX6_comes 79 = .ok (.pop, 1) := by decide +kernel
theorem dX6_comes_80 : decode cX6_comes 80 = .ok (.aload_n 0, 1) := by decide +kernel
theorem dX6_comes_81 : decode cX6_comes 81 = .ok (.getfield 85, 3) := by decide +kernel
theorem dX6_comes_84 : decode cX6_comes 84 = .ok (.iconst 1, 1) := by decide +kernel
theorem dX6_comes_85 : decode cX6_comes 85 = .ok (.isub, 1) := by decide +kernel
theorem dX6_comes_86 : decode cX6_comes 86 = .ok (.ireturn, 1) := by decide +kernel
theorem dX6_wishes_0 : decode cX6_wishes 0 = .ok (.aload_n 0, 1) := by decide +kernel
theorem dX6_wishes_1 : decode cX6_wishes 1 = .ok (.iconst 0, 1) := by decide +kernel
theorem dX6_wishes_2 : decode cX6_wishes 2 = .ok (.putfield 75, 3) := by decide +kernel
theorem dX6_wishes_5 : decode cX6_wishes 5 = .ok (.aload_n 0, 1) := by decide +kernel
theorem dX6_wishes_6 : decode cX6_wishes 6 = .ok (.iload_n 1, 1) := by decide +kernel
theorem dX6_wishes_7 : decode cX6_wishes 7 = .ok (.invokevirtual 171, 3) := by decide +kernel
theorem dX6_wishes_10 : decode cX6_wishes 10 = .ok (.ifCond .eq 10, 3) := by decide +kernel
theorem dX6_wishes_13 : decode cX6_wishes 13 = .ok (.iload_n 2, 1) := by decide +kernel
theorem dX6_wishes_14 : decode cX6_wishes 14 = .ok (.invokestatic 220, 3) := by decide +kernel
theorem dX6_wishes_17 : decode cX6_wishes 17 = .ok (.ifCond .ne 5, 3) := by decide +kernel
theorem dX6_wishes_20 : decode cX6_wishes 20 = .ok (.iconst (-1), 1) := by decide +kernel
theorem dX6_wishes_21 : decode cX6_wishes 21 = .ok (.ireturn, 1) := by decide +kernel
theorem dX6_wishes_22 : decode cX6_wishes 22 = .ok (.aload_n 0, 1) := by decide +kernel
theorem dX6_wishes_23 : decode cX6_wishes 23 = .ok (.getfield 19, 3) := by decide +kernel
theorem dX6_wishes_26 : decode cX6_wishes 26 = .ok (.iload_n 1, 1) := by decide +kernel
theorem dX6_wishes_27 : decode cX6_wishes 27 = .ok (.iaload, 1) := by decide +kernel
theorem dX6_wishes_28 : decode cX6_wishes 28 = .ok (.istore_n 3, 1) := by decide +kernel
theorem dX6_wishes_29 : decode cX6_wishes 29 = .ok (.aload_n 0, 1) := by decide +kernel
theorem dX6_wishes_30 : decode cX6_wishes 30 = .ok (.getfield 19, 3) := by decide +kernel
theorem dX6_wishes_33 : decode cX6_wishes 33 = .ok (.iload_n 1, 1) := by decide +kernel
theorem dX6_wishes_34 : decode cX6_wishes 34 = .ok (.iload_n 2, 1) := by decide +kernel
theorem dX6_wishes_35 : decode cX6_wishes 35 = .ok (.iastore, 1) := by decide +kernel
theorem dX6_wishes_36 : decode cX6_wishes 36 = .ok (.iload_n 3, 1) := by decide +kernel
theorem dX6_wishes_37 : decode cX6_wishes 37 = .ok (.ireturn, 1) := by decide +kernel
theorem dX6_heals_0 : decode cX6_heals 0 = .ok (.aload_n 0, 1) := by decide +kernel
theorem dX6_heals_1 : decode cX6_heals 1 = .ok (.iconst 0, 1) := by decide +kernel
theorem dX6_heals_2 : decode cX6_heals 2 = .ok (.putfield 75, 3) := by decide +kernel
theorem dX6_heals_5 : decode cX6_heals 5 = .ok (.aload_n 0, 1) := by decide +kernel
theorem dX6_heals_6 : decode cX6_heals 6 = .ok (.iload_n 1, 1) := by decide +kernel
theorem dX6_heals_7 : decode cX6_heals 7 = .ok (.invokevirtual 171, 3) := by decide +kernel
theorem dX6_heals_10 : decode cX6_heals 10 = .ok (.ifCond .eq 15, 3) := by decide +kernel
theorem dX6_heals_13 : decode cX6_heals 13 = .ok (.iload_n 2, 1) := by decide +kernel
theorem dX6_heals_14 : decode cX6_heals 14 = .ok (.i2l, 1) := by decide +kernel
theorem dX6_heals_15 : decode cX6_heals 15 = .ok (.lconst 1, 1) := by decide +kernel
theorem dX6_heals_16 : decode cX6_heals 16 = .ok (.ldc2_w 226, 3) := by decide +kernel
theorem dX6_heals_19 : decode cX6_heals 19 = .ok (.invokestatic 81, 3) := by decide +kernel
theorem dX6_heals_22 : decode cX6_heals 22 = .ok (.ifCond .ne 5, 3) := by decide +kernel
theorem dX6_heals_25 : decode cX6_heals 25 = .ok (.iconst (-1), 1) := by decide +kernel
theorem dX6_heals_26 : decode cX6_heals 26 = .ok (.ireturn, 1) := by decide +kernel
theorem dX6_heals_27 : decode cX6_heals 27 = .ok (.aload_n 0, 1) := by decide +kernel
theorem dX6_heals_28 : decode cX6_heals 28 = .ok (.getfield 125, 3) := by decide +kernel
theorem dX6_heals_31 : decode cX6_heals 31 = .ok (.iload_n 1, 1) := by decide +kernel
theorem dX6_heals_32 : decode cX6_heals 32 = .ok (.invokestatic 105, 3) := by decide +kernel
theorem dX6_heals_35 : decode cX6_heals 35 = .ok (.ifCond .ne 6, 3) := by decide +kernel
theorem dX6_heals_38 : decode cX6_heals 38 = .ok (.bipush (-3), 2) := by decide +kernel
theorem dX6_heals_40 : decode cX6_heals 40 = .ok (.ireturn, 1) := by decide +kernel
theorem dX6_heals_41 : decode cX6_heals 41 = .ok (.aload_n 0, 1) := by decide +kernel
theorem dX6_heals_42 : decode cX6_heals 42 = .ok (.getfield 25, 3) := by decide +kernel
theorem dX6_heals_45 : decode cX6_heals 45 = .ok (.iload_n 1, 1) := by decide +kernel
theorem dX6_heals_46 : decode cX6_heals 46 = .ok (.iaload, 1) := by decide +kernel
theorem dX6_heals_47 : decode cX6_heals 47 = .ok (.istore_n 3, 1) := by decide +kernel
theorem dX6_heals_48 : decode cX6_heals 48 = .ok (.aload_n 0, 1) := by decide +kernel
theorem dX6_heals_49 : decode cX6_heals 49 = .ok (.getfield 25, 3) := by decide +kernel
theorem dX6_heals_52 : decode cX6_heals 52 = .ok (.iload_n 1, 1) := by decide +kernel
theorem dX6_heals_53 : decode cX6_heals 53 = .ok (.iload_n 2, 1) := by decide +kernel
theorem dX6_heals_54 : decode cX6_heals 54 = .ok (.iastore, 1) := by decide +kernel
theorem dX6_heals_55 : decode cX6_heals 55 = .ok (.iload_n 3, 1) := by decide +kernel
theorem dX6_heals_56 : decode cX6_heals 56 = .ok (.ireturn, 1) := by decide +kernel
theorem dX6_fills_0 : decode cX6_fills 0 = .ok (.aload_n 0, 1) := by decide +kernel
theorem dX6_fills_1 : decode cX6_fills 1 = .ok (.iconst 0, 1) := by decide +kernel
theorem dX6_fills_2 : decode cX6_fills 2 = .ok (.putfield 75, 3) := by decide +kernel
theorem dX6_fills_5 : decode cX6_fills 5 = .ok (.iload_n 1, 1) := by decide +kernel
theorem dX6_fills_6 : decode cX6_fills 6 = .ok (.invokestatic 220, 3) := by decide +kernel
theorem dX6_fills_9 : decode cX6_fills 9 = .ok (.ifCond .eq 15, 3) := by decide +kernel
theorem dX6_fills_12 : decode cX6_fills 12 = .ok (.iload_n 2, 1) := by decide +kernel
theorem dX6_fills_13 : decode cX6_fills 13 = .ok (.i2l, 1) := by decide +kernel
theorem dX6_fills_14 : decode cX6_fills 14 = .ok (.lconst 0, 1) := by decide +kernel
theorem dX6_fills_15 : decode cX6_fills 15 = .ok (.ldc2_w 226, 3) := by decide +kernel
theorem dX6_fills_18 : decode cX6_fills 18 = .ok (.invokestatic 81, 3) := by decide +kernel
theorem dX6_fills_21 : decode cX6_fills 21 = .ok (.ifCond .ne 5, 3) := by decide +kernel
theorem dX6_fills_24 : decode cX6_fills 24 = .ok (.iconst (-1), 1) := by decide +kernel
theorem dX6_fills_25 : decode cX6_fills 25 = .ok (.ireturn, 1) := by decide +kernel
theorem dX6_fills_26 : decode cX6_fills 26 = .ok (.aload_n 0, 1) := by decide +kernel
theorem dX6_fills_27 : decode cX6_fills 27 = .ok (.getfield 7, 3) := by decide +kernel
theorem dX6_fills_30 : decode cX6_fills 30 = .ok (.iload_n 1, 1) := by decide +kernel
theorem dX6_fills_31 : decode cX6_fills 31 = .ok (.iaload, 1) := by decide +kernel
theorem dX6_fills_32 : decode cX6_fills 32 = .ok (.istore_n 3, 1) := by decide +kernel
theorem dX6_fills_33 : decode cX6_fills 33 = .ok (.aload_n 0, 1) := by decide +kernel
theorem dX6_fills_34 : decode cX6_fills 34 = .ok (.getfield 7, 3) := by decide +kernel
theorem dX6_fills_37 : decode cX6_fills 37 = .ok (.iload_n 1, 1) := by decide +kernel
theorem dX6_fills_38 : decode cX6_fills 38 = .ok (.iload_n 2, 1) := by decide +kernel
theorem dX6_fills_39 : decode cX6_fills 39 = .ok (.iastore, 1) := by decide +kernel
theorem dX6_fills_40 : decode cX6_fills 40 = .ok (.iload_n 3, 1) := by decide +kernel
theorem dX6_fills_41 : decode cX6_fills 41 = .ok (.ireturn, 1) := by decide +kernel
theorem dX6_nights_0 : decode cX6_nights 0 = .ok (.aload_n 0, 1) := by decide +kernel
theorem dX6_nights_1 : decode cX6_nights 1 = .ok (.iconst 0, 1) := by decide +kernel
theorem dX6_nights_2 : decode cX6_nights 2 = .ok (.putfield 75, 3) := by decide +kernel
theorem dX6_nights_5 : decode cX6_nights 5 = .ok (.iload_n 1, 1) := by decide +kernel
theorem dX6_nights_6 : decode cX6_nights 6 = .ok (.i2l, 1) := by decide +kernel
theorem dX6_nights_7 : decode cX6_nights 7 = .ok (.lconst 1, 1) := by decide +kernel
theorem dX6_nights_8 : decode cX6_nights 8 = .ok (.ldc2_w 166, 3) := by decide +kernel
theorem dX6_nights_11 : decode cX6_nights 11 = .ok (.invokestatic 81, 3) := by decide +kernel
theorem dX6_nights_14 : decode cX6_nights 14 = .ok (.ifCond .ne 5, 3) := by decide +kernel
theorem dX6_nights_17 : decode cX6_nights 17 = .ok (.iconst (-1), 1) := by decide +kernel
theorem dX6_nights_18 : decode cX6_nights 18 = .ok (.ireturn, 1) := by decide +kernel
theorem dX6_nights_19 : decode cX6_nights 19 = .ok (.aload_n 0, 1) := by decide +kernel
theorem dX6_nights_20 : decode cX6_nights 20 = .ok (.getfield 92, 3) := by decide +kernel
theorem dX6_nights_23 : decode cX6_nights 23 = .ok (.iload_n 1, 1) := by decide +kernel
theorem dX6_nights_24 : decode cX6_nights 24 = .ok (.iadd, 1) := by decide +kernel
theorem dX6_nights_25 : decode cX6_nights 25 = .ok (.sipush 999, 3) := by decide +kernel
theorem dX6_nights_28 : decode cX6_nights 28 = .ok (.if_icmp .le 6, 3) := by decide +kernel
theorem dX6_nights_31 : decode cX6_nights 31 = .ok (.bipush (-3), 2) := by decide +kernel
theorem dX6_nights_33 : decode cX6_nights 33 = .ok (.ireturn, 1) := by decide +kernel
theorem dX6_nights_34 : decode cX6_nights 34 = .ok (.aload_n 0, 1) := by decide +kernel
theorem dX6_nights_35 : decode cX6_nights 35 = .ok (.iload_n 1, 1) := by decide +kernel
theorem dX6_nights_36 : decode cX6_nights 36 = .ok (.invokevirtual 168, 3) := by decide +kernel
theorem dX6_nights_39 : decode cX6_nights 39 = .ok (.aload_n 0, 1) := by decide +kernel
theorem dX6_nights_40 : decode cX6_nights 40 = .ok (.getfield 125, 3) := by decide +kernel
theorem dX6_nights_43 : decode cX6_nights 43 = .ok (.invokestatic 228, 3) := by decide +kernel
theorem dX6_nights_46 : decode cX6_nights 46 = .ok (.ireturn, 1) := by decide +kernel
theorem dX6_guestThen_0 : decode cX6_guestThen 0 = .ok (.aload_n 0, 1) := by decide +kernel
theorem dX6_guestThen_1 : decode cX6_guestThen 1 = .ok (.iconst 0, 1) := by decide +kernel
theorem dX6_guestThen_2 : decode cX6_guestThen 2 = .ok (.putfield 75, 3) := by decide +kernel
theorem dX6_guestThen_5 : decode cX6_guestThen 5 = .ok (.aload_n 0, 1) := by decide +kernel
theorem dX6_guestThen_6 : decode cX6_guestThen 6 = .ok (.iload_n 1, 1) := by decide +kernel
theorem dX6_guestThen_7 : decode cX6_guestThen 7 = .ok (.invokevirtual 171, 3) := by decide +kernel
theorem dX6_guestThen_10 : decode cX6_guestThen 10 = .ok (.ifCond .eq 25, 3) := by decide +kernel
theorem dX6_guestThen_13 : decode cX6_guestThen 13 = .ok (.iload_n 2, 1) := by decide +kernel
theorem dX6_guestThen_14 : decode cX6_guestThen 14 = .ok (.i2l, 1) := by decide +kernel
theorem dX6_guestThen_15 : decode cX6_guestThen 15 = .ok (.lconst 0, 1) := by decide +kernel
theorem dX6_guestThen_16 : decode cX6_guestThen 16 = .ok (.ldc2_w 166, 3) := by decide +kernel
theorem dX6_guestThen_19 : decode cX6_guestThen 19 = .ok (.invokestatic 81, 3) := by decide +kernel
theorem dX6_guestThen_22 : decode cX6_guestThen 22 = .ok (.ifCond .eq 13, 3) := by decide +kernel
theorem dX6_guestThen_25 : decode cX6_guestThen 25 = .ok (.iload_n 3, 1) := by decide +kernel
theorem dX6_guestThen_26 : decode cX6_guestThen 26 = .ok (.i2l, 1) := by decide +kernel
theorem dX6_guestThen_27 : decode cX6_guestThen 27 = .ok (.lconst 0, 1) := by decide +kernel
theorem dX6_guestThen_28 : decode cX6_guestThen 28 = .ok (.lconst 1, 1) := by decide +kernel
theorem dX6_guestThen_29 : decode cX6_guestThen 29 = .ok (.invokestatic 81, 3) := by decide +kernel
theorem dX6_guestThen_32 : decode cX6_guestThen 32 = .ok (.ifCond .ne 5, 3) := by decide +kernel
theorem dX6_guestThen_35 : decode cX6_guestThen 35 = .ok (.iconst (-1), 1) := by decide +kernel
theorem dX6_guestThen_36 : decode cX6_guestThen 36 = .ok (.ireturn, 1) := by decide +kernel
theorem dX6_guestThen_37 : decode cX6_guestThen 37 = .ok (.aload_n 0, 1) := by decide +kernel
theorem dX6_guestThen_38 : decode cX6_guestThen 38 = .ok (.invokevirtual 190, 3) := by decide +kernel
theorem dX6_guestThen_41 : decode cX6_guestThen 41 = .ok (.aload_n 0, 1) := by decide +kernel
theorem dX6_guestThen_42 : decode cX6_guestThen 42 = .ok (.iload_n 2, 1) := by decide +kernel
theorem dX6_guestThen_43 : decode cX6_guestThen 43 = .ok (.invokevirtual 168, 3) := by decide +kernel
theorem dX6_guestThen_46 : decode cX6_guestThen 46 = .ok (.iload_n 3, 1) := by decide +kernel
theorem dX6_guestThen_47 : decode cX6_guestThen 47 = .ok (.ifCond .ne 12, 3) := by decide +kernel
theorem dX6_guestThen_50 : decode cX6_guestThen 50 = .ok (.aload_n 0, 1) := by decide +kernel
theorem dX6_guestThen_51 : decode cX6_guestThen 51 = .ok (.getfield 25, 3) := by decide +kernel
theorem dX6_guestThen_54 : decode cX6_guestThen 54 = .ok (.iload_n 1, 1) := by decide +kernel
theorem dX6_guestThen_55 : decode cX6_guestThen 55 = .ok (.iaload, 1) := by decide +kernel
theorem dX6_guestThen_56 : decode cX6_guestThen 56 = .ok (.goto 9, 3) := by decide +kernel
theorem dX6_guestThen_59 : decode cX6_guestThen 59 = .ok (.aload_n 0, 1) := by decide +kernel
theorem dX6_guestThen_60 : decode cX6_guestThen 60 = .ok (.getfield 22, 3) := by decide +kernel
theorem dX6_guestThen_63 : decode cX6_guestThen 63 = .ok (.iload_n 1, 1) := by decide +kernel
theorem dX6_guestThen_64 : decode cX6_guestThen 64 = .ok (.iaload, 1) := by decide +kernel
theorem dX6_guestThen_65 : decode cX6_guestThen 65 = .ok (.istore 4, 2) := by decide +kernel
theorem dX6_guestThen_67 : decode cX6_guestThen 67 = .ok (.aload_n 0, 1) := by decide +kernel
theorem dX6_guestThen_68 : decode cX6_guestThen 68 = .ok (.invokevirtual 196, 3) := by decide +kernel
theorem dX6_guestThen_71 : decode cX6_guestThen 71 = .ok (.iload 4, 2) := by decide +kernel
theorem dX6_guestThen_73 : decode cX6_guestThen 73 = .ok (.ireturn, 1) := by decide +kernel
theorem dX6_larderThen_0 : decode cX6_larderThen 0 = .ok (.aload_n 0, 1) := by decide +kernel
theorem dX6_larderThen_1 : decode cX6_larderThen 1 = .ok (.iconst 0, 1) := by decide +kernel
theorem dX6_larderThen_2 : decode cX6_larderThen 2 = .ok (.putfield 75, 3) := by decide +kernel
theorem dX6_larderThen_5 : decode cX6_larderThen 5 = .ok (.iload_n 1, 1) := by decide +kernel
theorem dX6_larderThen_6 : decode cX6_larderThen 6 = .ok (.invokestatic 220, 3) := by decide +kernel
theorem dX6_larderThen_9 : decode cX6_larderThen 9 = .ok (.ifCond .eq 15, 3) := by decide +kernel
theorem dX6_larderThen_12 : decode cX6_larderThen 12 = .ok (.iload_n 2, 1) := by decide +kernel
theorem dX6_larderThen_13 : decode cX6_larderThen 13 = .ok (.i2l, 1) := by decide +kernel
theorem dX6_larderThen_14 : decode cX6_larderThen 14 = .ok (.lconst 0, 1) := by decide +kernel
theorem dX6_larderThen_15 : decode cX6_larderThen 15 = .ok (.ldc2_w 166, 3) := by decide +kernel
theorem dX6_larderThen_18 : decode cX6_larderThen 18 = .ok (.invokestatic 81, 3) := by decide +kernel
theorem dX6_larderThen_21 : decode cX6_larderThen 21 = .ok (.ifCond .ne 5, 3) := by decide +kernel
theorem dX6_larderThen_24 : decode cX6_larderThen 24 = .ok (.iconst (-1), 1) := by decide +kernel
theorem dX6_larderThen_25 : decode cX6_larderThen 25 = .ok (.ireturn, 1) := by decide +kernel
theorem dX6_larderThen_26 : decode cX6_larderThen 26 = .ok (.aload_n 0, 1) := by decide +kernel
theorem dX6_larderThen_27 : decode cX6_larderThen 27 = .ok (.invokevirtual 190, 3) := by decide +kernel
theorem dX6_larderThen_30 : decode cX6_larderThen 30 = .ok (.aload_n 0, 1) := by decide +kernel
theorem dX6_larderThen_31 : decode cX6_larderThen 31 = .ok (.iload_n 2, 1) := by decide +kernel
theorem dX6_larderThen_32 : decode cX6_larderThen 32 = .ok (.invokevirtual 168, 3) := by decide +kernel
theorem dX6_larderThen_35 : decode cX6_larderThen 35 = .ok (.aload_n 0, 1) := by decide +kernel
theorem dX6_larderThen_36 : decode cX6_larderThen 36 = .ok (.getfield 7, 3) := by decide +kernel
theorem dX6_larderThen_39 : decode cX6_larderThen 39 = .ok (.iload_n 1, 1) := by decide +kernel
theorem dX6_larderThen_40 : decode cX6_larderThen 40 = .ok (.iaload, 1) := by decide +kernel
theorem dX6_larderThen_41 : decode cX6_larderThen 41 = .ok (.istore_n 3, 1) := by decide +kernel
theorem dX6_larderThen_42 : decode cX6_larderThen 42 = .ok (.aload_n 0, 1) := by decide +kernel
theorem dX6_larderThen_43 : decode cX6_larderThen 43 = .ok (.invokevirtual 196, 3) := by decide +kernel
theorem dX6_larderThen_46 : decode cX6_larderThen 46 = .ok (.iload_n 3, 1) := by decide +kernel
theorem dX6_larderThen_47 : decode cX6_larderThen 47 = .ok (.ireturn, 1) := by decide +kernel
theorem dX6_then_0 : decode cX6_then 0 = .ok (.aload_n 0, 1) := by decide +kernel
theorem dX6_then_1 : decode cX6_then 1 = .ok (.iconst 0, 1) := by decide +kernel
theorem dX6_then_2 : decode cX6_then 2 = .ok (.putfield 75, 3) := by decide +kernel
theorem dX6_then_5 : decode cX6_then 5 = .ok (.iload_n 1, 1) := by decide +kernel
theorem dX6_then_6 : decode cX6_then 6 = .ok (.i2l, 1) := by decide +kernel
theorem dX6_then_7 : decode cX6_then 7 = .ok (.lconst 0, 1) := by decide +kernel
theorem dX6_then_8 : decode cX6_then 8 = .ok (.ldc2_w 166, 3) := by decide +kernel
theorem dX6_then_11 : decode cX6_then 11 = .ok (.invokestatic 81, 3) := by decide +kernel
theorem dX6_then_14 : decode cX6_then 14 = .ok (.ifCond .eq 15, 3) := by decide +kernel
theorem dX6_then_17 : decode cX6_then 17 = .ok (.iload_n 2, 1) := by decide +kernel
theorem dX6_then_18 : decode cX6_then 18 = .ok (.i2l, 1) := by decide +kernel
theorem dX6_then_19 : decode cX6_then 19 = .ok (.lconst 0, 1) := by decide +kernel
theorem dX6_then_20 : decode cX6_then 20 = .ok (.ldc2_w 231, 3) := by decide +kernel
theorem dX6_then_23 : decode cX6_then 23 = .ok (.invokestatic 81, 3) := by decide +kernel
theorem dX6_then_26 : decode cX6_then 26 = .ok (.ifCond .ne 5, 3) := by decide +kernel
theorem dX6_then_29 : decode cX6_then 29 = .ok (.iconst (-1), 1) := by decide +kernel
theorem dX6_then_30 : decode cX6_then 30 = .ok (.ireturn, 1) := by decide +kernel
theorem dX6_then_31 : decode cX6_then 31 = .ok (.aload_n 0, 1) := by decide +kernel
theorem dX6_then_32 : decode cX6_then 32 = .ok (.invokevirtual 190, 3) := by decide +kernel
theorem dX6_then_35 : decode cX6_then 35 = .ok (.aload_n 0, 1) := by decide +kernel
theorem dX6_then_36 : decode cX6_then 36 = .ok (.iload_n 1, 1) := by decide +kernel
theorem dX6_then_37 : decode cX6_then 37 = .ok (.invokevirtual 168, 3) := by decide +kernel
theorem dX6_then_40 : decode cX6_then 40 = .ok (.iload_n 2, 1) := by decide +kernel
theorem dX6_then_41 : decode cX6_then 41 = .ok (.ifCond .ne 10, 3) := by decide +kernel
theorem dX6_then_44 : decode cX6_then 44 = .ok (.aload_n 0, 1) := by decide +kernel
theorem dX6_then_45 : decode cX6_then 45 = .ok (.getfield 125, 3) := by decide +kernel
theorem dX6_then_48 : decode cX6_then 48 = .ok (.goto 19, 3) := by decide +kernel
theorem dX6_then_51 : decode cX6_then 51 = .ok (.iload_n 2, 1) := by decide +kernel
theorem dX6_then_52 : decode cX6_then 52 = .ok (.iconst 1, 1) := by decide +kernel
theorem dX6_then_53 : decode cX6_then 53 = .ok (.if_icmp .ne 10, 3) := by decide +kernel
theorem dX6_then_56 : decode cX6_then 56 = .ok (.aload_n 0, 1) := by decide +kernel
theorem dX6_then_57 : decode cX6_then 57 = .ok (.getfield 116, 3) := by decide +kernel
theorem dX6_then_60 : decode cX6_then 60 = .ok (.goto 7, 3) := by decide +kernel
theorem dX6_then_63 : decode cX6_then 63 = .ok (.aload_n 0, 1) := by decide +kernel
theorem dX6_then_64 : decode cX6_then 64 = .ok (.getfield 122, 3) := by decide +kernel
theorem dX6_then_67 : decode cX6_then 67 = .ok (.istore_n 3, 1) := by decide +kernel
theorem dX6_then_68 : decode cX6_then 68 = .ok (.aload_n 0, 1) := by decide +kernel
theorem dX6_then_69 : decode cX6_then 69 = .ok (.invokevirtual 196, 3) := by decide +kernel
theorem dX6_then_72 : decode cX6_then 72 = .ok (.iload_n 3, 1) := by decide +kernel
theorem dX6_then_73 : decode cX6_then 73 = .ok (.ireturn, 1) := by decide +kernel
theorem dX6_leavesIn_0 : decode cX6_leavesIn 0 = .ok (.bipush 61, 2) := by decide +kernel
theorem dX6_leavesIn_2 : decode cX6_leavesIn 2 = .ok (.istore_n 2, 1) := by decide +kernel
theorem dX6_leavesIn_3 : decode cX6_leavesIn 3 = .ok (.aload_n 0, 1) := by decide +kernel
theorem dX6_leavesIn_4 : decode cX6_leavesIn 4 = .ok (.invokevirtual 190, 3) := by decide +kernel
theorem dX6_leavesIn_7 : decode cX6_leavesIn 7 = .ok (.iconst 0, 1) := by decide +kernel
theorem dX6_leavesIn_8 : decode cX6_leavesIn 8 = .ok (.istore_n 3, 1) := by decide +kernel
theorem dX6_leavesIn_9 : decode cX6_leavesIn 9 = .ok (.iload_n 3, 1) := by decide +kernel
theorem dX6_leavesIn_10 : decode cX6_leavesIn 10 = .ok (.bipush 60, 2) := by decide +kernel
theorem dX6_leavesIn_12 : decode cX6_leavesIn 12 = .ok (.if_icmp .gt 37, 3) := by decide +kernel
theorem dX6_leavesIn_15 : decode cX6_leavesIn 15 = .ok (.iload_n 2, 1) := by decide +kernel
theorem dX6_leavesIn_16 : decode cX6_leavesIn 16 = .ok (.bipush 61, 2) := by decide +kernel
theorem dX6_leavesIn_18 : decode cX6_leavesIn 18 = .ok (.if_icmp .ne 31, 3) := by decide +kernel
theorem dX6_leavesIn_21 : decode cX6_leavesIn 21 = .ok (.aload_n 0, 1) := by decide +kernel
theorem dX6_leavesIn_22 : decode cX6_leavesIn 22 = .ok (.getfield 125, 3) := by decide +kernel
theorem dX6_leavesIn_25 : decode cX6_leavesIn 25 = .ok (.iload_n 1, 1) := by decide +kernel
theorem dX6_leavesIn_26 : decode cX6_leavesIn 26 = .ok (.invokestatic 105, 3) := by decide +kernel
theorem dX6_leavesIn_29 : decode cX6_leavesIn 29 = .ok (.ifCond .eq 8, 3) := by decide +kernel
theorem dX6_leavesIn_32 : decode cX6_leavesIn 32 = .ok (.bipush 61, 2) := by decide +kernel
theorem dX6_leavesIn_34 : decode cX6_leavesIn 34 = .ok (.goto 4, 3) := by decide +kernel
theorem dX6_leavesIn_37 : decode cX6_leavesIn 37 = .ok (.iload_n 3, 1) := by decide +kernel
theorem dX6_leavesIn_38 : decode cX6_leavesIn 38 = .ok (.istore_n 2, 1) := by decide +kernel
theorem dX6_leavesIn_39 : decode cX6_leavesIn 39 = .ok (.aload_n 0, 1) := by decide +kernel
theorem dX6_leavesIn_40 : decode cX6_leavesIn 40 = .ok (.invokevirtual 132, 3) := by decide +kernel
theorem dX6_leavesIn_43 : decode cX6_leavesIn 43 = .ok (.iinc 3 1, 3) := by decide +kernel
theorem dX6_leavesIn_46 : decode cX6_leavesIn 46 = .ok (.goto (-37), 3) := by decide +kernel
theorem dX6_leavesIn_49 : decode cX6_leavesIn 49 = .ok (.aload_n 0, 1) := by decide +kernel
theorem dX6_leavesIn_50 : decode cX6_leavesIn 50 = .ok (.invokevirtual 196, 3) := by decide +kernel
theorem dX6_leavesIn_53 : decode cX6_leavesIn 53 = .ok (.iload_n 2, 1) := by decide +kernel
theorem dX6_leavesIn_54 : decode cX6_leavesIn 54 = .ok (.ireturn, 1) := by decide +kernel
theorem dX6_leaves_0 : decode cX6_leaves 0 = .ok (.aload_n 0, 1) := by decide +kernel
theorem dX6_leaves_1 : decode cX6_leaves 1 = .ok (.iconst 0, 1) := by decide +kernel
theorem dX6_leaves_2 : decode cX6_leaves 2 = .ok (.putfield 75, 3) := by decide +kernel
theorem dX6_leaves_5 : decode cX6_leaves 5 = .ok (.iload_n 1, 1) := by decide +kernel
theorem dX6_leaves_6 : decode cX6_leaves 6 = .ok (.i2l, 1) := by decide +kernel
theorem dX6_leaves_7 : decode cX6_leaves 7 = .ok (.ldc2_w 233, 3) := by decide +kernel
theorem dX6_leaves_10 : decode cX6_leaves 10 = .ok (.aload_n 0, 1) := by decide +kernel
theorem dX6_leaves_11 : decode cX6_leaves 11 = .ok (.getfield 85, 3) := by decide +kernel
theorem dX6_leaves_14 : decode cX6_leaves 14 = .ok (.iconst 1, 1) := by decide +kernel
theorem dX6_leaves_15 : decode cX6_leaves 15 = .ok (.isub, 1) := by decide +kernel
theorem dX6_leaves_16 : decode cX6_leaves 16 = .ok (.i2l, 1) := by decide +kernel
theorem dX6_leaves_17 : decode cX6_leaves 17 = .ok (.invokestatic 81, 3) := by decide +kernel
theorem dX6_leaves_20 : decode cX6_leaves 20 = .ok (.ifCond .ne 5, 3) := by decide +kernel
theorem dX6_leaves_23 : decode cX6_leaves 23 = .ok (.iconst (-1), 1) := by decide +kernel
theorem dX6_leaves_24 : decode cX6_leaves 24 = .ok (.ireturn, 1) := by decide +kernel
theorem dX6_leaves_25 : decode cX6_leaves 25 = .ok (.iload_n 1, 1) := by decide +kernel
theorem dX6_leaves_26 : decode cX6_leaves 26 = .ok (.ifCond .lt 22, 3) := by decide +kernel
theorem dX6_leaves_29 : decode cX6_leaves 29 = .ok (.aload_n 0, 1) := by decide +kernel
theorem dX6_leaves_30 : decode cX6_leaves 30 = .ok (.iload_n 1, 1) := by decide +kernel
theorem dX6_leaves_31 : decode cX6_leaves 31 = .ok (.invokevirtual 235, 3) := by decide +kernel
theorem dX6_leaves_34 : decode cX6_leaves 34 = .ok (.istore_n 2, 1) := by decide +kernel
theorem dX6_leaves_35 : decode cX6_leaves 35 = .ok (.iload_n 2, 1) := by decide +kernel
theorem dX6_leaves_36 : decode cX6_leaves 36 = .ok (.bipush 61, 2) := by decide +kernel
theorem dX6_leaves_38 : decode cX6_leaves 38 = .ok (.if_icmp .ne 8, 3) := by decide +kernel
theorem dX6_leaves_41 : decode cX6_leaves 41 = .ok (.bipush (-4), 2) := by decide +kernel
theorem dX6_leaves_43 : decode cX6_leaves 43 = .ok (.goto 4, 3) := by decide +kernel
theorem dX6_leaves_46 : decode cX6_leaves 46 = .ok (.iload_n 2, 1) := by decide +kernel
theorem dX6_leaves_47 : decode cX6_leaves 47 = .ok (.ireturn, 1) := by decide +kernel
theorem dX6_leaves_48 : decode cX6_leaves 48 = .ok (.bipush (-4), 2) := by decide +kernel
theorem dX6_leaves_50 : decode cX6_leaves 50 = .ok (.istore_n 2, 1) := by decide +kernel
theorem dX6_leaves_51 : decode cX6_leaves 51 = .ok (.bipush 61, 2) := by decide +kernel
theorem dX6_leaves_53 : decode cX6_leaves 53 = .ok (.istore_n 3, 1) := by decide +kernel
theorem dX6_leaves_54 : decode cX6_leaves 54 = .ok (.iconst 0, 1) := by decide +kernel
theorem dX6_leaves_55 : decode cX6_leaves 55 = .ok (.istore 4, 2) := by decide +kernel
theorem dX6_leaves_57 : decode cX6_leaves 57 = .ok (.iload 4, 2) := by decide +kernel
theorem dX6_leaves_59 : decode cX6_leaves 59 = .ok (.aload_n 0, 1) := by decide +kernel
theorem dX6_leaves_60 : decode cX6_leaves 60 = .ok (.getfield 85, 3) := by decide +kernel
theorem dX6_leaves_63 : decode cX6_leaves 63 = .ok (.if_icmp .ge 60, 3) := by decide +kernel
theorem dX6_leaves_66 : decode cX6_leaves 66 = .ok (.aload_n 0, 1) := by decide +kernel
theorem dX6_leaves_67 : decode cX6_leaves 67 = .ok (.getfield 125, 3) := by decide +kernel
theorem dX6_leaves_70 : decode cX6_leaves 70 = .ok (.iload 4, 2) := by decide +kernel
theorem dX6_leaves_72 : decode cX6_leaves 72 = .ok (.invokestatic 105, 3) := by decide +kernel
theorem dX6_leaves_75 : decode cX6_leaves 75 = .ok (.ifCond .eq 12, 3) := by decide +kernel
theorem dX6_leaves_78 : decode cX6_leaves 78 = .ok (.aload_n 0, 1) := by decide +kernel
theorem dX6_leaves_79 : decode cX6_leaves 79 = .ok (.iload 4, 2) := by decide +kernel
theorem dX6_leaves_81 : decode cX6_leaves 81 = .ok (.invokevirtual 235, 3) := by decide +kernel
theorem dX6_leaves_84 : decode cX6_leaves 84 = .ok (.goto 5, 3) := by decide +kernel
theorem dX6_leaves_87 : decode cX6_leaves 87 = .ok (.bipush 61, 2) := by decide +kernel
theorem dX6_leaves_89 : decode cX6_leaves 89 = .ok (.istore 5, 2) := by decide +kernel
theorem dX6_leaves_91 : decode cX6_leaves 91 = .ok (.iload 5, 2) := by decide +kernel
theorem dX6_leaves_93 : decode cX6_leaves 93 = .ok (.iload_n 3, 1) := by decide +kernel
theorem dX6_leaves_94 : decode cX6_leaves 94 = .ok (.if_icmp .ge 8, 3) := by decide +kernel
theorem dX6_leaves_97 : decode cX6_leaves 97 = .ok (.iload 4, 2) := by decide +kernel
theorem dX6_leaves_99 : decode cX6_leaves 99 = .ok (.goto 4, 3) := by decide +kernel
theorem dX6_leaves_102 : decode cX6_leaves 102 = .ok (.iload_n 2, 1) := by decide +kernel
theorem dX6_leaves_103 : decode cX6_leaves 103 = .ok (.istore_n 2, 1) := by decide +kernel
theorem dX6_leaves_104 : decode cX6_leaves 104 = .ok (.iload 5, 2) := by decide +kernel
theorem dX6_leaves_106 : decode cX6_leaves 106 = .ok (.iload_n 3, 1) := by decide +kernel
theorem dX6_leaves_107 : decode cX6_leaves 107 = .ok (.if_icmp .ge 8, 3) := by decide +kernel
theorem dX6_leaves_110 : decode cX6_leaves 110 = .ok (.iload 5, 2) := by decide +kernel
theorem dX6_leaves_112 : decode cX6_leaves 112 = .ok (.goto 4, 3) := by decide +kernel
theorem dX6_leaves_115 : decode cX6_leaves 115 = .ok (.iload_n 3, 1) := by decide +kernel
theorem dX6_leaves_116 : decode cX6_leaves 116 = .ok (.istore_n 3, 1) := by decide +kernel
theorem dX6_leaves_117 : decode cX6_leaves 117 = .ok (.iinc 4 1, 3) := by decide +kernel
theorem dX6_leaves_120 : decode cX6_leaves 120 = .ok (.goto (-63), 3) := by decide +kernel
theorem dX6_leaves_123 : decode cX6_leaves 123 = .ok (.iload_n 2, 1) := by decide +kernel
theorem dX6_leaves_124 : decode cX6_leaves 124 = .ok (.ireturn, 1) := by decide +kernel
theorem dX6_out_0 : decode cX6_out 0 = .ok (.aload_n 0, 1) := by decide +kernel
theorem dX6_out_1 : decode cX6_out 1 = .ok (.iconst 0, 1) := by decide +kernel
theorem dX6_out_2 : decode cX6_out 2 = .ok (.putfield 75, 3) := by decide +kernel
theorem dX6_out_5 : decode cX6_out 5 = .ok (.iload_n 1, 1) := by decide +kernel
theorem dX6_out_6 : decode cX6_out 6 = .ok (.invokestatic 220, 3) := by decide +kernel
theorem dX6_out_9 : decode cX6_out 9 = .ok (.ifCond .ne 5, 3) := by decide +kernel
theorem dX6_out_12 : decode cX6_out 12 = .ok (.iconst (-1), 1) := by decide +kernel
theorem dX6_out_13 : decode cX6_out 13 = .ok (.ireturn, 1) := by decide +kernel
theorem dX6_out_14 : decode cX6_out 14 = .ok (.bipush (-4), 2) := by decide +kernel
theorem dX6_out_16 : decode cX6_out 16 = .ok (.istore_n 2, 1) := by decide +kernel
theorem dX6_out_17 : decode cX6_out 17 = .ok (.aload_n 0, 1) := by decide +kernel
theorem dX6_out_18 : decode cX6_out 18 = .ok (.invokevirtual 190, 3) := by decide +kernel
theorem dX6_out_21 : decode cX6_out 21 = .ok (.iconst 0, 1) := by decide +kernel
theorem dX6_out_22 : decode cX6_out 22 = .ok (.istore_n 3, 1) := by decide +kernel
theorem dX6_out_23 : decode cX6_out 23 = .ok (.iload_n 3, 1) := by decide +kernel
theorem dX6_out_24 : decode cX6_out 24 = .ok (.bipush 60, 2) := by decide +kernel
theorem dX6_out_26 : decode cX6_out 26 = .ok (.if_icmp .gt 33, 3) := by decide +kernel
theorem dX6_out_29 : decode cX6_out 29 = .ok (.iload_n 2, 1) := by decide +kernel
theorem dX6_out_30 : decode cX6_out 30 = .ok (.ifCond .ge 29, 3) := by decide +kernel
theorem dX6_out_33 : decode cX6_out 33 = .ok (.aload_n 0, 1) := by decide +kernel
theorem dX6_out_34 : decode cX6_out 34 = .ok (.getfield 7, 3) := by decide +kernel
theorem dX6_out_37 : decode cX6_out 37 = .ok (.iload_n 1, 1) := by decide +kernel
theorem dX6_out_38 : decode cX6_out 38 = .ok (.iaload, 1) := by decide +kernel
theorem dX6_out_39 : decode cX6_out 39 = .ok (.ifCond .ne 7, 3) := by decide +kernel
theorem dX6_out_42 : decode cX6_out 42 = .ok (.iload_n 3, 1) := by decide +kernel
theorem dX6_out_43 : decode cX6_out 43 = .ok (.goto 5, 3) := by decide +kernel
theorem dX6_out_46 : decode cX6_out 46 = .ok (.bipush (-4), 2) := by decide +kernel
theorem dX6_out_48 : decode cX6_out 48 = .ok (.istore_n 2, 1) := by decide +kernel
theorem dX6_out_49 : decode cX6_out 49 = .ok (.aload_n 0, 1) := by decide +kernel
theorem dX6_out_50 : decode cX6_out 50 = .ok (.invokevirtual 132, 3) := by decide +kernel
theorem dX6_out_53 : decode cX6_out 53 = .ok (.iinc 3 1, 3) := by decide +kernel
theorem dX6_out_56 : decode cX6_out 56 = .ok (.goto (-33), 3) := by decide +kernel
theorem dX6_out_59 : decode cX6_out 59 = .ok (.aload_n 0, 1) := by decide +kernel
theorem dX6_out_60 : decode cX6_out 60 = .ok (.invokevirtual 196, 3) := by decide +kernel
theorem dX6_out_63 : decode cX6_out 63 = .ok (.iload_n 2, 1) := by decide +kernel
theorem dX6_out_64 : decode cX6_out 64 = .ok (.ireturn, 1) := by decide +kernel
theorem dX6_dreamsNext_0 : decode cX6_dreamsNext 0 = .ok (.aload_n 0, 1) := by decide +kernel
theorem dX6_dreamsNext_1 : decode cX6_dreamsNext 1 = .ok (.getfield 125, 3) := by decide +kernel
theorem dX6_dreamsNext_4 : decode cX6_dreamsNext 4 = .ok (.iload_n 1, 1) := by decide +kernel
theorem dX6_dreamsNext_5 : decode cX6_dreamsNext 5 = .ok (.invokestatic 105, 3) := by decide +kernel
theorem dX6_dreamsNext_8 : decode cX6_dreamsNext 8 = .ok (.ifCond .eq 17, 3) := by decide +kernel
theorem dX6_dreamsNext_11 : decode cX6_dreamsNext 11 = .ok (.aload_n 0, 1) := by decide +kernel
theorem dX6_dreamsNext_12 : decode cX6_dreamsNext 12 = .ok (.iload_n 1, 1) := by decide +kernel
theorem dX6_dreamsNext_13 : decode cX6_dreamsNext 13 = .ok (.aload_n 0, 1) := by decide +kernel
theorem dX6_dreamsNext_14 : decode cX6_dreamsNext 14 = .ok (.getfield 92, 3) := by decide +kernel
theorem dX6_dreamsNext_17 : decode cX6_dreamsNext 17 = .ok (.iconst 1, 1) := by decide +kernel
theorem dX6_dreamsNext_18 : decode cX6_dreamsNext 18 = .ok (.iadd, 1) := by decide +kernel
theorem dX6_dreamsNext_19 : decode cX6_dreamsNext 19 = .ok (.invokevirtual 95, 3) := by decide +kernel
theorem dX6_dreamsNext_22 : decode cX6_dreamsNext 22 = .ok (.goto 5, 3) := by decide +kernel
theorem dX6_dreamsNext_25 : decode cX6_dreamsNext 25 = .ok (.bipush (-4), 2) := by decide +kernel
theorem dX6_dreamsNext_27 : decode cX6_dreamsNext 27 = .ok (.ireturn, 1) := by decide +kernel
theorem dX6_table_0 : decode cX6_table 0 = .ok (.aload_n 0, 1) := by decide +kernel
theorem dX6_table_1 : decode cX6_table 1 = .ok (.iconst 0, 1) := by decide +kernel
theorem dX6_table_2 : decode cX6_table 2 = .ok (.putfield 75, 3) := by decide +kernel
theorem dX6_table_5 : decode cX6_table 5 = .ok (.aload_n 0, 1) := by decide +kernel
theorem dX6_table_6 : decode cX6_table 6 = .ok (.iload_n 1, 1) := by decide +kernel
theorem dX6_table_7 : decode cX6_table 7 = .ok (.invokevirtual 171, 3) := by decide +kernel
theorem dX6_table_10 : decode cX6_table 10 = .ok (.ifCond .eq 13, 3) := by decide +kernel
theorem dX6_table_13 : decode cX6_table 13 = .ok (.iload_n 2, 1) := by decide +kernel
theorem dX6_table_14 : decode cX6_table 14 = .ok (.i2l, 1) := by decide +kernel
theorem dX6_table_15 : decode cX6_table 15 = .ok (.lconst 0, 1) := by decide +kernel
theorem dX6_table_16 : decode cX6_table 16 = .ok (.lconst 1, 1) := by decide +kernel
theorem dX6_table_17 : decode cX6_table 17 = .ok (.invokestatic 81, 3) := by decide +kernel
theorem dX6_table_20 : decode cX6_table 20 = .ok (.ifCond .ne 5, 3) := by decide +kernel
theorem dX6_table_23 : decode cX6_table 23 = .ok (.iconst (-1), 1) := by decide +kernel
theorem dX6_table_24 : decode cX6_table 24 = .ok (.ireturn, 1) := by decide +kernel
theorem dX6_table_25 : decode cX6_table 25 = .ok (.iload_n 2, 1) := by decide +kernel
theorem dX6_table_26 : decode cX6_table 26 = .ok (.ifCond .ne 9, 3) := by decide +kernel
theorem dX6_table_29 : decode cX6_table 29 = .ok (.aload_n 0, 1) := by decide +kernel
theorem dX6_table_30 : decode cX6_table 30 = .ok (.iload_n 1, 1) := by decide +kernel
theorem dX6_table_31 : decode cX6_table 31 = .ok (.invokevirtual 238, 3) := by decide +kernel
theorem dX6_table_34 : decode cX6_table 34 = .ok (.ireturn, 1) := by decide +kernel
theorem dX6_table_35 : decode cX6_table 35 = .ok (.aload_n 0, 1) := by decide +kernel
theorem dX6_table_36 : decode cX6_table 36 = .ok (.invokevirtual 190, 3) := by decide +kernel
theorem dX6_table_39 : decode cX6_table 39 = .ok (.aload_n 0, 1) := by decide +kernel
theorem dX6_table_40 : decode cX6_table 40 = .ok (.invokevirtual 132, 3) := by decide +kernel
theorem dX6_table_43 : decode cX6_table 43 = .ok (.aload_n 0, 1) := by decide +kernel
theorem dX6_table_44 : decode cX6_table 44 = .ok (.getfield 119, 3) := by decide +kernel
theorem dX6_table_47 : decode cX6_table 47 = .ok (.iload_n 1, 1) := by decide +kernel
theorem dX6_table_48 : decode cX6_table 48 = .ok (.invokestatic 105, 3) := by decide +kernel
theorem dX6_table_51 : decode cX6_table 51 = .ok (.ifCond .eq 7, 3) := by decide +kernel
theorem dX6_table_54 : decode cX6_table 54 = .ok (.iconst 1, 1) := by decide +kernel
theorem dX6_table_55 : decode cX6_table 55 = .ok (.goto 4, 3) := by decide +kernel
theorem dX6_table_58 : decode cX6_table 58 = .ok (.iconst 0, 1) := by decide +kernel
theorem dX6_table_59 : decode cX6_table 59 = .ok (.istore_n 3, 1) := by decide +kernel
theorem dX6_table_60 : decode cX6_table 60 = .ok (.aload_n 0, 1) := by decide +kernel
theorem dX6_table_61 : decode cX6_table 61 = .ok (.invokevirtual 196, 3) := by decide +kernel
theorem dX6_table_64 : decode cX6_table 64 = .ok (.iload_n 3, 1) := by decide +kernel
theorem dX6_table_65 : decode cX6_table 65 = .ok (.ireturn, 1) := by decide +kernel
theorem dX6_bestWish_0 : decode cX6_bestWish 0 = .ok (.aload_n 0, 1) := by decide +kernel
theorem dX6_bestWish_1 : decode cX6_bestWish 1 = .ok (.iconst 0, 1) := by decide +kernel
theorem dX6_bestWish_2 : decode cX6_bestWish 2 = .ok (.putfield 75, 3) := by decide +kernel
theorem dX6_bestWish_5 : decode cX6_bestWish 5 = .ok (.aload_n 0, 1) := by decide +kernel
theorem dX6_bestWish_6 : decode cX6_bestWish 6 = .ok (.iload_n 1, 1) := by decide +kernel
theorem dX6_bestWish_7 : decode cX6_bestWish 7 = .ok (.invokevirtual 171, 3) := by decide +kernel
theorem dX6_bestWish_10 : decode cX6_bestWish 10 = .ok (.ifCond .eq 25, 3) := by decide +kernel
theorem dX6_bestWish_13 : decode cX6_bestWish 13 = .ok (.iload_n 2, 1) := by decide +kernel
theorem dX6_bestWish_14 : decode cX6_bestWish 14 = .ok (.i2l, 1) := by decide +kernel
theorem dX6_bestWish_15 : decode cX6_bestWish 15 = .ok (.lconst 0, 1) := by decide +kernel
theorem dX6_bestWish_16 : decode cX6_bestWish 16 = .ok (.ldc2_w 166, 3) := by decide +kernel
theorem dX6_bestWish_19 : decode cX6_bestWish 19 = .ok (.invokestatic 81, 3) := by decide +kernel
theorem dX6_bestWish_22 : decode cX6_bestWish 22 = .ok (.ifCond .eq 13, 3) := by decide +kernel
theorem dX6_bestWish_25 : decode cX6_bestWish 25 = .ok (.iload_n 3, 1) := by decide +kernel
theorem dX6_bestWish_26 : decode cX6_bestWish 26 = .ok (.i2l, 1) := by decide +kernel
theorem dX6_bestWish_27 : decode cX6_bestWish 27 = .ok (.lconst 0, 1) := by decide +kernel
theorem dX6_bestWish_28 : decode cX6_bestWish 28 = .ok (.lconst 1, 1) := by decide +kernel
theorem dX6_bestWish_29 : decode cX6_bestWish 29 = .ok (.invokestatic 81, 3) := by decide +kernel
theorem dX6_bestWish_32 : decode cX6_bestWish 32 = .ok (.ifCond .ne 5, 3) := by decide +kernel
theorem dX6_bestWish_35 : decode cX6_bestWish 35 = .ok (.iconst (-1), 1) := by decide +kernel
theorem dX6_bestWish_36 : decode cX6_bestWish 36 = .ok (.ireturn, 1) := by decide +kernel
theorem dX6_bestWish_37 : decode cX6_bestWish 37 = .ok (.iconst 0, 1) := by decide +kernel
theorem dX6_bestWish_38 : decode cX6_bestWish 38 = .ok (.istore 4, 2) := by decide +kernel
theorem dX6_bestWish_40 : decode cX6_bestWish 40 = .ok (.iconst (-1), 1) := by decide +kernel
theorem dX6_bestWish_41 : decode cX6_bestWish 41 = .ok (.istore 5, 2) := by decide +kernel
theorem dX6_bestWish_43 : decode cX6_bestWish 43 = .ok (.aload_n 0, 1) := by decide +kernel
theorem dX6_bestWish_44 : decode cX6_bestWish 44 = .ok (.invokevirtual 190, 3) := by decide +kernel
theorem dX6_bestWish_47 : decode cX6_bestWish 47 = .ok (.iconst 0, 1) := by decide +kernel
theorem dX6_bestWish_48 : decode cX6_bestWish 48 = .ok (.istore 6, 2) := by decide +kernel
theorem dX6_bestWish_50 : decode cX6_bestWish 50 = .ok (.iload 6, 2) := by decide +kernel
theorem dX6_bestWish_52 : decode cX6_bestWish 52 = .ok (.bipush 10, 2) := by decide +kernel
theorem dX6_bestWish_54 : decode cX6_bestWish 54 = .ok (.if_icmp .ge 66, 3) := by decide +kernel
theorem dX6_bestWish_57 : decode cX6_bestWish 57 = .ok (.aload_n 0, 1) := by decide +kernel
theorem dX6_bestWish_58 : decode cX6_bestWish 58 = .ok (.getfield 19, 3) := by decide +kernel
theorem dX6_bestWish_61 : decode cX6_bestWish 61 = .ok (.iload_n 1, 1) := by decide +kernel
theorem dX6_bestWish_62 : decode cX6_bestWish 62 = .ok (.iload 6, 2) := by decide +kernel
theorem dX6_bestWish_64 : decode cX6_bestWish 64 = .ok (.iastore, 1) := by decide +kernel
theorem dX6_bestWish_65 : decode cX6_bestWish 65 = .ok (.aload_n 0, 1) := by decide +kernel
theorem dX6_bestWish_66 : decode cX6_bestWish 66 = .ok (.iload_n 2, 1) := by decide +kernel
theorem dX6_bestWish_67 : decode cX6_bestWish 67 = .ok (.invokevirtual 168, 3) := by decide +kernel
theorem dX6_bestWish_70 : decode cX6_bestWish 70 = .ok (.aload_n 0, 1) := by decide +kernel
theorem dX6_bestWish_71 : decode cX6_bestWish 71 = .ok (.getfield 25, 3) := by decide +kernel
theorem dX6_bestWish_74 : decode cX6_bestWish 74 = .ok (.iload_n 1, 1) := by decide +kernel
theorem dX6_bestWish_75 : decode cX6_bestWish 75 = .ok (.iaload, 1) := by decide +kernel
theorem dX6_bestWish_76 : decode cX6_bestWish 76 = .ok (.istore 7, 2) := by decide +kernel
theorem dX6_bestWish_78 : decode cX6_bestWish 78 = .ok (.aload_n 0, 1) := by decide +kernel
theorem dX6_bestWish_79 : decode cX6_bestWish 79 = .ok (.invokevirtual 196, 3) := by decide +kernel
theorem dX6_bestWish_82 : decode cX6_bestWish 82 = .ok (.iload 7, 2) := by decide +kernel
theorem dX6_bestWish_84 : decode cX6_bestWish 84 = .ok (.iload 5, 2) := by decide +kernel
theorem dX6_bestWish_86 : decode cX6_bestWish 86 = .ok (.if_icmp .le 8, 3) := by decide +kernel
theorem dX6_bestWish_89 : decode cX6_bestWish 89 = .ok (.iload 6, 2) := by decide +kernel
theorem dX6_bestWish_91 : decode cX6_bestWish 91 = .ok (.goto 5, 3) := by decide +kernel
theorem dX6_bestWish_94 : decode cX6_bestWish 94 = .ok (.iload 4, 2) := by decide +kernel
theorem dX6_bestWish_96 : decode cX6_bestWish 96 = .ok (.istore 4, 2) := by decide +kernel
theorem dX6_bestWish_98 : decode cX6_bestWish 98 = .ok (.iload 7, 2) := by decide +kernel
theorem dX6_bestWish_100 : decode cX6_bestWish 100 = .ok (.iload 5, 2) := by decide +kernel
theorem dX6_bestWish_102 : decode cX6_bestWish 102 = .ok (.if_icmp .le 8, 3) := by decide +kernel
theorem dX6_bestWish_105 : decode cX6_bestWish 105 = .ok (.iload 7, 2) := by decide +kernel
theorem dX6_bestWish_107 : decode cX6_bestWish 107 = .ok (.goto 5, 3) := by decide +kernel
theorem dX6_bestWish_110 : decode cX6_bestWish 110 = .ok (.iload 5, 2) := by decide +kernel
theorem dX6_bestWish_112 : decode cX6_bestWish 112 = .ok (.istore 5, 2) := by decide +kernel
theorem dX6_bestWish_114 : decode cX6_bestWish 114 = .ok (.iinc 6 1, 3) := by decide +kernel
theorem dX6_bestWish_117 : decode cX6_bestWish 117 = .ok (.goto (-67), 3) := by decide +kernel
theorem dX6_bestWish_120 : decode cX6_bestWish 120 = .ok (.iload_n 3, 1) := by decide +kernel
theorem dX6_bestWish_121 : decode cX6_bestWish 121 = .ok (.ifCond .ne 8, 3) := by decide +kernel
theorem dX6_bestWish_124 : decode cX6_bestWish 124 = .ok (.iload 4, 2) := by decide +kernel
theorem dX6_bestWish_126 : decode cX6_bestWish 126 = .ok (.goto 5, 3) := by decide +kernel
theorem dX6_bestWish_129 : decode cX6_bestWish 129 = .ok (.iload 5, 2) := by decide +kernel
theorem dX6_bestWish_131 : decode cX6_bestWish 131 = .ok (.ireturn, 1) := by decide +kernel
theorem dX6_lackingThen_0 : decode cX6_lackingThen 0 = .ok (.aload_n 0, 1) := by decide +kernel
theorem dX6_lackingThen_1 : decode cX6_lackingThen 1 = .ok (.iload_n 1, 1) := by decide +kernel
theorem dX6_lackingThen_2 : decode cX6_lackingThen 2 = .ok (.invokevirtual 168, 3) := by decide +kernel
theorem dX6_lackingThen_5 : decode cX6_lackingThen 5 = .ok (.aload_n 0, 1) := by decide +kernel
theorem dX6_lackingThen_6 : decode cX6_lackingThen 6 = .ok (.getfield 122, 3) := by decide +kernel
theorem dX6_lackingThen_9 : decode cX6_lackingThen 9 = .ok (.istore_n 2, 1) := by decide +kernel
theorem dX6_lackingThen_10 : decode cX6_lackingThen 10 = .ok (.aload_n 0, 1) := by decide +kernel
theorem dX6_lackingThen_11 : decode cX6_lackingThen 11 = .ok (.invokevirtual 196, 3) := by decide +kernel
theorem dX6_lackingThen_14 : decode cX6_lackingThen 14 = .ok (.iload_n 2, 1) := by decide +kernel
theorem dX6_lackingThen_15 : decode cX6_lackingThen 15 = .ok (.ireturn, 1) := by decide +kernel
theorem dX6_buy_0 : decode cX6_buy 0 = .ok (.aload_n 0, 1) := by decide +kernel
theorem dX6_buy_1 : decode cX6_buy 1 = .ok (.iconst 0, 1) := by decide +kernel
theorem dX6_buy_2 : decode cX6_buy 2 = .ok (.putfield 75, 3) := by decide +kernel
theorem dX6_buy_5 : decode cX6_buy 5 = .ok (.iload_n 1, 1) := by decide +kernel
theorem dX6_buy_6 : decode cX6_buy 6 = .ok (.i2l, 1) := by decide +kernel
theorem dX6_buy_7 : decode cX6_buy 7 = .ok (.lconst 0, 1) := by decide +kernel
theorem dX6_buy_8 : decode cX6_buy 8 = .ok (.ldc2_w 166, 3) := by decide +kernel
theorem dX6_buy_11 : decode cX6_buy 11 = .ok (.invokestatic 81, 3) := by decide +kernel
theorem dX6_buy_14 : decode cX6_buy 14 = .ok (.ifCond .ne 5, 3) := by decide +kernel
theorem dX6_buy_17 : decode cX6_buy 17 = .ok (.iconst (-1), 1) := by decide +kernel
theorem dX6_buy_18 : decode cX6_buy 18 = .ok (.ireturn, 1) := by decide +kernel
theorem dX6_buy_19 : decode cX6_buy 19 = .ok (.bipush (-4), 2) := by decide +kernel
theorem dX6_buy_21 : decode cX6_buy 21 = .ok (.istore_n 2, 1) := by decide +kernel
theorem dX6_buy_22 : decode cX6_buy 22 = .ok (.aload_n 0, 1) := by decide +kernel
theorem dX6_buy_23 : decode cX6_buy 23 = .ok (.invokevirtual 190, 3) := by decide +kernel
theorem dX6_buy_26 : decode cX6_buy 26 = .ok (.aload_n 0, 1) := by decide +kernel
theorem dX6_buy_27 : decode cX6_buy 27 = .ok (.iload_n 1, 1) := by decide +kernel
theorem dX6_buy_28 : decode cX6_buy 28 = .ok (.invokevirtual 241, 3) := by decide +kernel
theorem dX6_buy_31 : decode cX6_buy 31 = .ok (.istore_n 3, 1) := by decide +kernel
theorem dX6_buy_32 : decode cX6_buy 32 = .ok (.iconst 0, 1) := by decide +kernel
theorem dX6_buy_33 : decode cX6_buy 33 = .ok (.istore 4, 2) := by decide +kernel
theorem dX6_buy_35 : decode cX6_buy 35 = .ok (.iload 4, 2) := by decide +kernel
theorem dX6_buy_37 : decode cX6_buy 37 = .ok (.bipush 10, 2) := by decide +kernel
theorem dX6_buy_39 : decode cX6_buy 39 = .ok (.if_icmp .ge 63, 3) := by decide +kernel
theorem dX6_buy_42 : decode cX6_buy 42 = .ok (.aload_n 0, 1) := by decide +kernel
theorem dX6_buy_43 : decode cX6_buy 43 = .ok (.getfield 7, 3) := by decide +kernel
theorem dX6_buy_46 : decode cX6_buy 46 = .ok (.iload 4, 2) := by decide +kernel
theorem dX6_buy_48 : decode cX6_buy 48 = .ok (.aload_n 0, 1) := by decide +kernel
theorem dX6_buy_49 : decode cX6_buy 49 = .ok (.getfield 7, 3) := by decide +kernel
theorem dX6_buy_52 : decode cX6_buy 52 = .ok (.iload 4, 2) := by decide +kernel
theorem dX6_buy_54 : decode cX6_buy 54 = .ok (.iaload, 1) := by decide +kernel
theorem dX6_buy_55 : decode cX6_buy 55 = .ok (.iconst 5, 1) := by decide +kernel
theorem dX6_buy_56 : decode cX6_buy 56 = .ok (.iadd, 1) := by decide +kernel
theorem dX6_buy_57 : decode cX6_buy 57 = .ok (.bipush 99, 2) := by decide +kernel
theorem dX6_buy_59 : decode cX6_buy 59 = .ok (.invokestatic 88, 3) := by decide +kernel
theorem dX6_buy_62 : decode cX6_buy 62 = .ok (.iastore, 1) := by decide +kernel
theorem dX6_buy_63 : decode cX6_buy 63 = .ok (.aload_n 0, 1) := by decide +kernel
theorem dX6_buy_64 : decode cX6_buy 64 = .ok (.iload_n 1, 1) := by decide +kernel
theorem dX6_buy_65 : decode cX6_buy 65 = .ok (.invokevirtual 241, 3) := by decide +kernel
theorem dX6_buy_68 : decode cX6_buy 68 = .ok (.istore 5, 2) := by decide +kernel
theorem dX6_buy_70 : decode cX6_buy 70 = .ok (.iload 5, 2) := by decide +kernel
theorem dX6_buy_72 : decode cX6_buy 72 = .ok (.iload_n 3, 1) := by decide +kernel
theorem dX6_buy_73 : decode cX6_buy 73 = .ok (.if_icmp .ge 8, 3) := by decide +kernel
theorem dX6_buy_76 : decode cX6_buy 76 = .ok (.iload 4, 2) := by decide +kernel
theorem dX6_buy_78 : decode cX6_buy 78 = .ok (.goto 4, 3) := by decide +kernel
theorem dX6_buy_81 : decode cX6_buy 81 = .ok (.iload_n 2, 1) := by decide +kernel
theorem dX6_buy_82 : decode cX6_buy 82 = .ok (.istore_n 2, 1) := by decide +kernel
theorem dX6_buy_83 : decode cX6_buy 83 = .ok (.iload 5, 2) := by decide +kernel
theorem dX6_buy_85 : decode cX6_buy 85 = .ok (.iload_n 3, 1) := by decide +kernel
theorem dX6_buy_86 : decode cX6_buy 86 = .ok (.if_icmp .ge 8, 3) := by decide +kernel
theorem dX6_buy_89 : decode cX6_buy 89 = .ok (.iload 5, 2) := by decide +kernel
theorem dX6_buy_91 : decode cX6_buy 91 = .ok (.goto 4, 3) := by decide +kernel
theorem dX6_buy_94 : decode cX6_buy 94 = .ok (.iload_n 3, 1) := by decide +kernel
theorem dX6_buy_95 : decode cX6_buy 95 = .ok (.istore_n 3, 1) := by decide +kernel
theorem dX6_buy_96 : decode cX6_buy 96 = .ok (.iinc 4 1, 3) := by decide +kernel
theorem dX6_buy_99 : decode cX6_buy 99 = .ok (.goto (-64), 3) := by decide +kernel
theorem dX6_buy_102 : decode cX6_buy 102 = .ok (.iload_n 2, 1) := by decide +kernel
theorem dX6_buy_103 : decode cX6_buy 103 = .ok (.ireturn, 1) := by decide +kernel
theorem dX6_least_0 : decode cX6_least 0 = .ok (.aload_n 0, 1) := by decide +kernel
theorem dX6_least_1 : decode cX6_least 1 = .ok (.iconst 0, 1) := by decide +kernel
theorem dX6_least_2 : decode cX6_least 2 = .ok (.putfield 75, 3) := by decide +kernel
theorem dX6_least_5 : decode cX6_least 5 = .ok (.iload_n 1, 1) := by decide +kernel
theorem dX6_least_6 : decode cX6_least 6 = .ok (.invokestatic 220, 3) := by decide +kernel
theorem dX6_least_9 : decode cX6_least 9 = .ok (.ifCond .eq 15, 3) := by decide +kernel
theorem dX6_least_12 : decode cX6_least 12 = .ok (.iload_n 2, 1) := by decide +kernel
theorem dX6_least_13 : decode cX6_least 13 = .ok (.i2l, 1) := by decide +kernel
theorem dX6_least_14 : decode cX6_least 14 = .ok (.lconst 1, 1) := by decide +kernel
theorem dX6_least_15 : decode cX6_least 15 = .ok (.ldc2_w 244, 3) := by decide +kernel
theorem dX6_least_18 : decode cX6_least 18 = .ok (.invokestatic 81, 3) := by decide +kernel
theorem dX6_least_21 : decode cX6_least 21 = .ok (.ifCond .ne 5, 3) := by decide +kernel
theorem dX6_least_24 : decode cX6_least 24 = .ok (.iconst (-1), 1) := by decide +kernel
theorem dX6_least_25 : decode cX6_least 25 = .ok (.ireturn, 1) := by decide +kernel
theorem dX6_least_26 : decode cX6_least 26 = .ok (.bipush (-4), 2) := by decide +kernel
theorem dX6_least_28 : decode cX6_least 28 = .ok (.istore_n 3, 1) := by decide +kernel
theorem dX6_least_29 : decode cX6_least 29 = .ok (.aload_n 0, 1) := by decide +kernel
theorem dX6_least_30 : decode cX6_least 30 = .ok (.getfield 122, 3) := by decide +kernel
theorem dX6_least_33 : decode cX6_least 33 = .ok (.istore 4, 2) := by decide +kernel
theorem dX6_least_35 : decode cX6_least 35 = .ok (.aload_n 0, 1) := by decide +kernel
theorem dX6_least_36 : decode cX6_least 36 = .ok (.invokevirtual 190, 3) := by decide +kernel
theorem dX6_least_39 : decode cX6_least 39 = .ok (.iconst 0, 1) := by decide +kernel
theorem dX6_least_40 : decode cX6_least 40 = .ok (.istore 5, 2) := by decide +kernel
theorem dX6_least_42 : decode cX6_least 42 = .ok (.iload 5, 2) := by decide +kernel
theorem dX6_least_44 : decode cX6_least 44 = .ok (.bipush 100, 2) := by decide +kernel
theorem dX6_least_46 : decode cX6_least 46 = .ok (.if_icmp .ge 39, 3) := by decide +kernel
theorem dX6_least_49 : decode cX6_least 49 = .ok (.iload_n 3, 1) := by decide +kernel
theorem dX6_least_50 : decode cX6_least 50 = .ok (.ifCond .ge 35, 3) := by decide +kernel
theorem dX6_least_53 : decode cX6_least 53 = .ok (.aload_n 0, 1) := by decide +kernel
theorem dX6_least_54 : decode cX6_least 54 = .ok (.getfield 7, 3) := by decide +kernel
theorem dX6_least_57 : decode cX6_least 57 = .ok (.iload_n 1, 1) := by decide +kernel
theorem dX6_least_58 : decode cX6_least 58 = .ok (.iload 5, 2) := by decide +kernel
theorem dX6_least_60 : decode cX6_least 60 = .ok (.iastore, 1) := by decide +kernel
theorem dX6_least_61 : decode cX6_least 61 = .ok (.aload_n 0, 1) := by decide +kernel
theorem dX6_least_62 : decode cX6_least 62 = .ok (.iload_n 2, 1) := by decide +kernel
theorem dX6_least_63 : decode cX6_least 63 = .ok (.invokevirtual 241, 3) := by decide +kernel
theorem dX6_least_66 : decode cX6_least 66 = .ok (.iload 4, 2) := by decide +kernel
theorem dX6_least_68 : decode cX6_least 68 = .ok (.if_icmp .ne 8, 3) := by decide +kernel
theorem dX6_least_71 : decode cX6_least 71 = .ok (.iload 5, 2) := by decide +kernel
theorem dX6_least_73 : decode cX6_least 73 = .ok (.goto 5, 3) := by decide +kernel
theorem dX6_least_76 : decode cX6_least 76 = .ok (.bipush (-4), 2) := by decide +kernel
theorem dX6_least_78 : decode cX6_least 78 = .ok (.istore_n 3, 1) := by decide +kernel
theorem dX6_least_79 : decode cX6_least 79 = .ok (.iinc 5 1, 3) := by decide +kernel
theorem dX6_least_82 : decode cX6_least 82 = .ok (.goto (-40), 3) := by decide +kernel
theorem dX6_least_85 : decode cX6_least 85 = .ok (.iload_n 3, 1) := by decide +kernel
theorem dX6_least_86 : decode cX6_least 86 = .ok (.ireturn, 1) := by decide +kernel
theorem dX6_healthBut_0 : decode cX6_healthBut 0 = .ok (.aload_n 0, 1) := by decide +kernel
theorem dX6_healthBut_1 : decode cX6_healthBut 1 = .ok (.getfield 125, 3) := by decide +kernel
theorem dX6_healthBut_4 : decode cX6_healthBut 4 = .ok (.istore_n 3, 1) := by decide +kernel
theorem dX6_healthBut_5 : decode cX6_healthBut 5 = .ok (.aload_n 0, 1) := by decide +kernel
theorem dX6_healthBut_6 : decode cX6_healthBut 6 = .ok (.iload_n 2, 1) := by decide +kernel
theorem dX6_healthBut_7 : decode cX6_healthBut 7 = .ok (.invokevirtual 168, 3) := by decide +kernel
theorem dX6_healthBut_10 : decode cX6_healthBut 10 = .ok (.iconst 0, 1) := by decide +kernel
theorem dX6_healthBut_11 : decode cX6_healthBut 11 = .ok (.istore 4, 2) := by decide +kernel
theorem dX6_healthBut_13 : decode cX6_healthBut 13 = .ok (.iconst 0, 1) := by decide +kernel
theorem dX6_healthBut_14 : decode cX6_healthBut 14 = .ok (.istore 5, 2) := by decide +kernel
theorem dX6_healthBut_16 : decode cX6_healthBut 16 = .ok (.iload 5, 2) := by decide +kernel
theorem dX6_healthBut_18 : decode cX6_healthBut 18 = .ok (.aload_n 0, 1) := by decide +kernel
theorem dX6_healthBut_19 : decode cX6_healthBut 19 = .ok (.getfield 85, 3) := by decide +kernel
theorem dX6_healthBut_22 : decode cX6_healthBut 22 = .ok (.if_icmp .ge 45, 3) := by decide +kernel
theorem dX6_healthBut_25 : decode cX6_healthBut 25 = .ok (.iload 4, 2) := by decide +kernel
theorem dX6_healthBut_27 : decode cX6_healthBut 27 = .ok (.iload 5, 2) := by decide +kernel
theorem dX6_healthBut_29 : decode cX6_healthBut 29 = .ok (.iload_n 1, 1) := by decide +kernel
theorem dX6_healthBut_30 : decode cX6_healthBut 30 = .ok (.if_icmp .eq 27, 3) := by decide +kernel
theorem dX6_healthBut_33 : decode cX6_healthBut 33 = .ok (.iload_n 3, 1) := by decide +kernel
theorem dX6_healthBut_34 : decode cX6_healthBut 34 = .ok (.aload_n 0, 1) := by decide +kernel
theorem dX6_healthBut_35 : decode cX6_healthBut 35 = .ok (.getfield 125, 3) := by decide +kernel
theorem dX6_healthBut_38 : decode cX6_healthBut 38 = .ok (.iand, 1) := by decide +kernel
theorem dX6_healthBut_39 : decode cX6_healthBut 39 = .ok (.iload 5, 2) := by decide +kernel
theorem dX6_healthBut_41 : decode cX6_healthBut 41 = .ok (.invokestatic 105, 3) := by decide +kernel
theorem dX6_healthBut_44 : decode cX6_healthBut 44 = .ok (.ifCond .eq 13, 3) := by decide +kernel
theorem dX6_healthBut_47 : decode cX6_healthBut 47 = .ok (.aload_n 0, 1) := by decide +kernel
theorem dX6_healthBut_48 : decode cX6_healthBut 48 = .ok (.getfield 25, 3) := by decide +kernel
theorem dX6_healthBut_51 : decode cX6_healthBut 51 = .ok (.iload 5, 2) := by decide +kernel
theorem dX6_healthBut_53 : decode cX6_healthBut 53 = .ok (.iaload, 1) := by decide +kernel
theorem dX6_healthBut_54 : decode cX6_healthBut 54 = .ok (.goto 4, 3) := by decide +kernel
theorem dX6_healthBut_57 : decode cX6_healthBut 57 = .ok (.iconst 0, 1) := by decide +kernel
theorem dX6_healthBut_58 : decode cX6_healthBut 58 = .ok (.iadd, 1) := by decide +kernel
theorem dX6_healthBut_59 : decode cX6_healthBut 59 = .ok (.istore 4, 2) := by decide +kernel
theorem dX6_healthBut_61 : decode cX6_healthBut 61 = .ok (.iinc 5 1, 3) := by decide +kernel
theorem dX6_healthBut_64 : decode cX6_healthBut 64 = .ok (.goto (-48), 3) := by decide +kernel
theorem dX6_healthBut_67 : decode cX6_healthBut 67 = .ok (.aload_n 0, 1) := by decide +kernel
theorem dX6_healthBut_68 : decode cX6_healthBut 68 = .ok (.invokevirtual 196, 3) := by decide +kernel
theorem dX6_healthBut_71 : decode cX6_healthBut 71 = .ok (.iload 4, 2) := by decide +kernel
theorem dX6_healthBut_73 : decode cX6_healthBut 73 = .ok (.ireturn, 1) := by decide +kernel
theorem dX6_send_0 : decode cX6_send 0 = .ok (.aload_n 0, 1) := by decide +kernel
theorem dX6_send_1 : decode cX6_send 1 = .ok (.iconst 0, 1) := by decide +kernel
theorem dX6_send_2 : decode cX6_send 2 = .ok (.putfield 75, 3) := by decide +kernel
theorem dX6_send_5 : decode cX6_send 5 = .ok (.iload_n 1, 1) := by decide +kernel
theorem dX6_send_6 : decode cX6_send 6 = .ok (.i2l, 1) := by decide +kernel
theorem dX6_send_7 : decode cX6_send 7 = .ok (.lconst 0, 1) := by decide +kernel
theorem dX6_send_8 : decode cX6_send 8 = .ok (.ldc2_w 166, 3) := by decide +kernel
theorem dX6_send_11 : decode cX6_send 11 = .ok (.invokestatic 81, 3) := by decide +kernel
theorem dX6_send_14 : decode cX6_send 14 = .ok (.ifCond .ne 5, 3) := by decide +kernel
theorem dX6_send_17 : decode cX6_send 17 = .ok (.iconst (-1), 1) := by decide +kernel
theorem dX6_send_18 : decode cX6_send 18 = .ok (.ireturn, 1) := by decide +kernel
theorem dX6_send_19 : decode cX6_send 19 = .ok (.bipush (-4), 2) := by decide +kernel
theorem dX6_send_21 : decode cX6_send 21 = .ok (.istore_n 2, 1) := by decide +kernel
theorem dX6_send_22 : decode cX6_send 22 = .ok (.iconst (-1), 1) := by decide +kernel
theorem dX6_send_23 : decode cX6_send 23 = .ok (.istore_n 3, 1) := by decide +kernel
theorem dX6_send_24 : decode cX6_send 24 = .ok (.aload_n 0, 1) := by decide +kernel
theorem dX6_send_25 : decode cX6_send 25 = .ok (.invokevirtual 190, 3) := by decide +kernel
theorem dX6_send_28 : decode cX6_send 28 = .ok (.iconst 0, 1) := by decide +kernel
theorem dX6_send_29 : decode cX6_send 29 = .ok (.istore 4, 2) := by decide +kernel
theorem dX6_send_31 : decode cX6_send 31 = .ok (.iload 4, 2) := by decide +kernel
theorem dX6_send_33 : decode cX6_send 33 = .ok (.aload_n 0, 1) := by decide +kernel
theorem dX6_send_34 : decode cX6_send 34 = .ok (.getfield 85, 3) := by decide +kernel
theorem dX6_send_37 : decode cX6_send 37 = .ok (.if_icmp .ge 94, 3) := by decide +kernel
theorem dX6_send_40 : decode cX6_send 40 = .ok (.aload_n 0, 1) := by decide +kernel
theorem dX6_send_41 : decode cX6_send 41 = .ok (.getfield 125, 3) := by decide +kernel
theorem dX6_send_44 : decode cX6_send 44 = .ok (.iload 4, 2) := by decide +kernel
theorem dX6_send_46 : decode cX6_send 46 = .ok (.invokestatic 105, 3) := by decide +kernel
theorem dX6_send_49 : decode cX6_send 49 = .ok (.ifCond .eq 76, 3) := by decide +kernel
theorem dX6_send_52 : decode cX6_send 52 = .ok (.aload_n 0, 1) := by decide +kernel
theorem dX6_send_53 : decode cX6_send 53 = .ok (.iload 4, 2) := by decide +kernel
theorem dX6_send_55 : decode cX6_send 55 = .ok (.iload_n 1, 1) := by decide +kernel
theorem dX6_send_56 : decode cX6_send 56 = .ok (.invokevirtual 246, 3) := by decide +kernel
theorem dX6_send_59 : decode cX6_send 59 = .ok (.istore 5, 2) := by decide +kernel
theorem dX6_send_61 : decode cX6_send 61 = .ok (.aload_n 0, 1) := by decide +kernel
theorem dX6_send_62 : decode cX6_send 62 = .ok (.dup, 1) := by decide +kernel
theorem dX6_send_63 : decode cX6_send 63 = .ok (.getfield 125, 3) := by decide +kernel
theorem dX6_send_66 : decode cX6_send 66 = .ok (.iconst 1, 1) := by decide +kernel
theorem dX6_send_67 : decode cX6_send 67 = .ok (.iload 4, 2) := by decide +kernel
theorem dX6_send_69 : decode cX6_send 69 = .ok (.ishl, 1) := by decide +kernel
theorem dX6_send_70 : decode cX6_send 70 = .ok (.iconst (-1), 1) := by decide +kernel
theorem dX6_send_71 : decode cX6_send 71 = .ok (.ixor, 1) := by decide +kernel
theorem dX6_send_72 : decode cX6_send 72 = .ok (.iand, 1) := by decide +kernel
theorem dX6_send_73 : decode cX6_send 73 = .ok (.putfield 125, 3) := by decide +kernel
theorem dX6_send_76 : decode cX6_send 76 = .ok (.aload_n 0, 1) := by decide +kernel
theorem dX6_send_77 : decode cX6_send 77 = .ok (.iload 4, 2) := by decide +kernel
theorem dX6_send_79 : decode cX6_send 79 = .ok (.iload_n 1, 1) := by decide +kernel
theorem dX6_send_80 : decode cX6_send 80 = .ok (.invokevirtual 246, 3) := by decide +kernel
theorem dX6_send_83 : decode cX6_send 83 = .ok (.istore 6, 2) := by decide +kernel
theorem dX6_send_85 : decode cX6_send 85 = .ok (.iload 6, 2) := by decide +kernel
theorem dX6_send_87 : decode cX6_send 87 = .ok (.iload 5, 2) := by decide +kernel
theorem dX6_send_89 : decode cX6_send 89 = .ok (.if_icmp .le 14, 3) := by decide +kernel
theorem dX6_send_92 : decode cX6_send 92 = .ok (.iload 6, 2) := by decide +kernel
theorem dX6_send_94 : decode cX6_send 94 = .ok (.iload_n 3, 1) := by decide +kernel
theorem dX6_send_95 : decode cX6_send 95 = .ok (.if_icmp .le 8, 3) := by decide +kernel
theorem dX6_send_98 : decode cX6_send 98 = .ok (.iload 4, 2) := by decide +kernel
theorem dX6_send_100 : decode cX6_send 100 = .ok (.goto 4, 3) := by decide +kernel
theorem dX6_send_103 : decode cX6_send 103 = .ok (.iload_n 2, 1) := by decide +kernel
theorem dX6_send_104 : decode cX6_send 104 = .ok (.istore_n 2, 1) := by decide +kernel
theorem dX6_send_105 : decode cX6_send 105 = .ok (.iload 6, 2) := by decide +kernel
theorem dX6_send_107 : decode cX6_send 107 = .ok (.iload 5, 2) := by decide +kernel
theorem dX6_send_109 : decode cX6_send 109 = .ok (.if_icmp .le 14, 3) := by decide +kernel
theorem dX6_send_112 : decode cX6_send 112 = .ok (.iload 6, 2) := by decide +kernel
theorem dX6_send_114 : decode cX6_send 114 = .ok (.iload_n 3, 1) := by decide +kernel
theorem dX6_send_115 : decode cX6_send 115 = .ok (.if_icmp .le 8, 3) := by decide +kernel
theorem dX6_send_118 : decode cX6_send 118 = .ok (.iload 6, 2) := by decide +kernel
theorem dX6_send_120 : decode cX6_send 120 = .ok (.goto 4, 3) := by decide +kernel
theorem dX6_send_123 : decode cX6_send 123 = .ok (.iload_n 3, 1) := by decide +kernel
theorem dX6_send_124 : decode cX6_send 124 = .ok (.istore_n 3, 1) := by decide +kernel
theorem dX6_send_125 : decode cX6_send 125 = .ok (.iinc 4 1, 3) := by decide +kernel
theorem dX6_send_128 : decode cX6_send 128 = .ok (.goto (-97), 3) := by decide +kernel
theorem dX6_send_131 : decode cX6_send 131 = .ok (.iload_n 2, 1) := by decide +kernel
theorem dX6_send_132 : decode cX6_send 132 = .ok (.ireturn, 1) := by decide +kernel
theorem dX6_isUnlike_0 : decode cX6_isUnlike 0 = .ok (.aload_n 0, 1) := by decide +kernel
theorem dX6_isUnlike_1 : decode cX6_isUnlike 1 = .ok (.getfield 62, 3) := by decide +kernel
theorem dX6_isUnlike_4 : decode cX6_isUnlike 4 = .ok (.iload_n 1, 1) := by decide +kernel
theorem dX6_isUnlike_5 : decode cX6_isUnlike 5 = .ok (.iaload, 1) := by decide +kernel
theorem dX6_isUnlike_6 : decode cX6_isUnlike 6 = .ok (.ifCond .lt 18, 3) := by decide +kernel
theorem dX6_isUnlike_9 : decode cX6_isUnlike 9 = .ok (.aload_n 0, 1) := by decide +kernel
theorem dX6_isUnlike_10 : decode cX6_isUnlike 10 = .ok (.getfield 62, 3) := by decide +kernel
theorem dX6_isUnlike_13 : decode cX6_isUnlike 13 = .ok (.iload_n 1, 1) := by decide +kernel
theorem dX6_isUnlike_14 : decode cX6_isUnlike 14 = .ok (.iaload, 1) := by decide +kernel
theorem dX6_isUnlike_15 : decode cX6_isUnlike 15 = .ok (.aload_n 0, 1) := by decide +kernel
theorem dX6_isUnlike_16 : decode cX6_isUnlike 16 = .ok (.getfield 62, 3) := by decide +kernel
theorem dX6_isUnlike_19 : decode cX6_isUnlike 19 = .ok (.iload_n 2, 1) := by decide +kernel
theorem dX6_isUnlike_20 : decode cX6_isUnlike 20 = .ok (.iaload, 1) := by decide +kernel
theorem dX6_isUnlike_21 : decode cX6_isUnlike 21 = .ok (.if_icmp .eq 7, 3) := by decide +kernel
theorem dX6_isUnlike_24 : decode cX6_isUnlike 24 = .ok (.iconst 1, 1) := by decide +kernel
theorem dX6_isUnlike_25 : decode cX6_isUnlike 25 = .ok (.goto 4, 3) := by decide +kernel
theorem dX6_isUnlike_28 : decode cX6_isUnlike 28 = .ok (.iconst 0, 1) := by decide +kernel
theorem dX6_isUnlike_29 : decode cX6_isUnlike 29 = .ok (.ireturn, 1) := by decide +kernel
theorem dX6_laySeats_0 : decode cX6_laySeats 0 = .ok (.iconst 0, 1) := by decide +kernel
theorem dX6_laySeats_1 : decode cX6_laySeats 1 = .ok (.istore_n 1, 1) := by decide +kernel
theorem dX6_laySeats_2 : decode cX6_laySeats 2 = .ok (.iload_n 1, 1) := by decide +kernel
theorem dX6_laySeats_3 : decode cX6_laySeats 3 = .ok (.aload_n 0, 1) := by decide +kernel
theorem dX6_laySeats_4 : decode cX6_laySeats 4 = .ok (.getfield 85, 3) := by decide +kernel
theorem dX6_laySeats_7 : decode cX6_laySeats 7 = .ok (.if_icmp .ge 20, 3) := by decide +kernel
theorem dX6_laySeats_10 : decode cX6_laySeats 10 = .ok (.aload_n 0, 1) := by decide +kernel
theorem dX6_laySeats_11 : decode cX6_laySeats 11 = .ok (.getfield 62, 3) := by decide +kernel
theorem dX6_laySeats_14 : decode cX6_laySeats 14 = .ok (.iload_n 1, 1) := by decide +kernel
theorem dX6_laySeats_15 : decode cX6_laySeats 15 = .ok (.aload_n 0, 1) := by decide +kernel
theorem dX6_laySeats_16 : decode cX6_laySeats 16 = .ok (.iload_n 1, 1) := by decide +kernel
theorem dX6_laySeats_17 : decode cX6_laySeats 17 = .ok (.invokevirtual 238, 3) := by decide +kernel
theorem dX6_laySeats_20 : decode cX6_laySeats 20 = .ok (.iastore, 1) := by decide +kernel
theorem dX6_laySeats_21 : decode cX6_laySeats 21 = .ok (.iinc 1 1, 3) := by decide +kernel
theorem dX6_laySeats_24 : decode cX6_laySeats 24 = .ok (.goto (-22), 3) := by decide +kernel
theorem dX6_laySeats_27 : decode cX6_laySeats 27 = .ok (.sipush 1023, 3) := by decide +kernel
theorem dX6_laySeats_30 : decode cX6_laySeats 30 = .ok (.istore_n 1, 1) := by decide +kernel
theorem dX6_laySeats_31 : decode cX6_laySeats 31 = .ok (.iload_n 1, 1) := by decide +kernel
theorem dX6_laySeats_32 : decode cX6_laySeats 32 = .ok (.ifCond .lt 136, 3) := by decide +kernel
theorem dX6_laySeats_35 : decode cX6_laySeats 35 = .ok (.iload_n 1, 1) := by decide +kernel
theorem dX6_laySeats_36 : decode cX6_laySeats 36 = .ok (.bipush 8, 2) := by decide +kernel
theorem dX6_laySeats_38 : decode cX6_laySeats 38 = .ok (.idiv, 1) := by decide +kernel
theorem dX6_laySeats_39 : decode cX6_laySeats 39 = .ok (.istore_n 2, 1) := by decide +kernel
theorem dX6_laySeats_40 : decode cX6_laySeats 40 = .ok (.iload_n 1, 1) := by decide +kernel
theorem dX6_laySeats_41 : decode cX6_laySeats 41 = .ok (.bipush 8, 2) := by decide +kernel
theorem dX6_laySeats_43 : decode cX6_laySeats 43 = .ok (.irem, 1) := by decide +kernel
theorem dX6_laySeats_44 : decode cX6_laySeats 44 = .ok (.istore_n 3, 1) := by decide +kernel
theorem dX6_laySeats_45 : decode cX6_laySeats 45 = .ok (.iload_n 2, 1) := by decide +kernel
theorem dX6_laySeats_46 : decode cX6_laySeats 46 = .ok (.aload_n 0, 1) := by decide +kernel
theorem dX6_laySeats_47 : decode cX6_laySeats 47 = .ok (.getfield 125, 3) := by decide +kernel
theorem dX6_laySeats_50 : decode cX6_laySeats 50 = .ok (.if_icmp .ne 7, 3) := by decide +kernel
theorem dX6_laySeats_53 : decode cX6_laySeats 53 = .ok (.iconst 1, 1) := by decide +kernel
theorem dX6_laySeats_54 : decode cX6_laySeats 54 = .ok (.goto 4, 3) := by decide +kernel
theorem dX6_laySeats_57 : decode cX6_laySeats 57 = .ok (.iconst 0, 1) := by decide +kernel
theorem dX6_laySeats_58 : decode cX6_laySeats 58 = .ok (.istore 4, 2) := by decide +kernel
theorem dX6_laySeats_60 : decode cX6_laySeats 60 = .ok (.iconst 0, 1) := by decide +kernel
theorem dX6_laySeats_61 : decode cX6_laySeats 61 = .ok (.istore 5, 2) := by decide +kernel
theorem dX6_laySeats_63 : decode cX6_laySeats 63 = .ok (.iload 5, 2) := by decide +kernel
theorem dX6_laySeats_65 : decode cX6_laySeats 65 = .ok (.aload_n 0, 1) := by decide +kernel
theorem dX6_laySeats_66 : decode cX6_laySeats 66 = .ok (.getfield 85, 3) := by decide +kernel
theorem dX6_laySeats_69 : decode cX6_laySeats 69 = .ok (.if_icmp .ge 85, 3) := by decide +kernel
theorem dX6_laySeats_72 : decode cX6_laySeats 72 = .ok (.iload 4, 2) := by decide +kernel
theorem dX6_laySeats_74 : decode cX6_laySeats 74 = .ok (.ifCond .ne 80, 3) := by decide +kernel
theorem dX6_laySeats_77 : decode cX6_laySeats 77 = .ok (.iload_n 3, 1) := by decide +kernel
theorem dX6_laySeats_78 : decode cX6_laySeats 78 = .ok (.bipush 7, 2) := by decide +kernel
theorem dX6_laySeats_80 : decode cX6_laySeats 80 = .ok (.if_icmp .ge 74, 3) := by decide +kernel
theorem dX6_laySeats_83 : decode cX6_laySeats 83 = .ok (.aload_n 0, 1) := by decide +kernel
theorem dX6_laySeats_84 : decode cX6_laySeats 84 = .ok (.getfield 125, 3) := by decide +kernel
theorem dX6_laySeats_87 : decode cX6_laySeats 87 = .ok (.iload_n 2, 1) := by decide +kernel
theorem dX6_laySeats_88 : decode cX6_laySeats 88 = .ok (.iconst (-1), 1) := by decide +kernel
theorem dX6_laySeats_89 : decode cX6_laySeats 89 = .ok (.ixor, 1) := by decide +kernel
theorem dX6_laySeats_90 : decode cX6_laySeats 90 = .ok (.iand, 1) := by decide +kernel
theorem dX6_laySeats_91 : decode cX6_laySeats 91 = .ok (.iload 5, 2) := by decide +kernel
theorem dX6_laySeats_93 : decode cX6_laySeats 93 = .ok (.invokestatic 105, 3) := by decide +kernel
theorem dX6_laySeats_96 : decode cX6_laySeats 96 = .ok (.ifCond .eq 17, 3) := by decide +kernel
theorem dX6_laySeats_99 : decode cX6_laySeats 99 = .ok (.aload_n 0, 1) := by decide +kernel
theorem dX6_laySeats_100 : decode cX6_laySeats 100 = .ok (.iload_n 3, 1) := by decide +kernel
theorem dX6_laySeats_101 : decode cX6_laySeats 101 = .ok (.iload 5, 2) := by decide +kernel
theorem dX6_laySeats_103 : decode cX6_laySeats 103 = .ok (.invokevirtual 249, 3) := by decide +kernel
theorem dX6_laySeats_106 : decode cX6_laySeats 106 = .ok (.ifCond .eq 7, 3) := by decide +kernel
theorem dX6_laySeats_109 : decode cX6_laySeats 109 = .ok (.iconst 1, 1) := by decide +kernel
theorem dX6_laySeats_110 : decode cX6_laySeats 110 = .ok (.goto 4, 3) := by decide +kernel
theorem dX6_laySeats_113 : decode cX6_laySeats 113 = .ok (.iconst 0, 1) := by decide +kernel
theorem dX6_laySeats_114 : decode cX6_laySeats 114 = .ok (.istore 6, 2) := by decide +kernel
theorem dX6_laySeats_116 : decode cX6_laySeats 116 = .ok (.iload 6, 2) := by decide +kernel
theorem dX6_laySeats_118 : decode cX6_laySeats 118 = .ok (.ifCond .eq 27, 3) := by decide +kernel
theorem dX6_laySeats_121 : decode cX6_laySeats 121 = .ok (.aload_n 0, 1) := by decide +kernel
theorem dX6_laySeats_122 : decode cX6_laySeats 122 = .ok (.getfield 65, 3) := by decide +kernel
theorem dX6_laySeats_125 : decode cX6_laySeats 125 = .ok (.bipush 8, 2) := by decide +kernel
theorem dX6_laySeats_127 : decode cX6_laySeats 127 = .ok (.iload_n 2, 1) := by decide +kernel
theorem dX6_laySeats_128 : decode cX6_laySeats 128 = .ok (.iconst 1, 1) := by decide +kernel
theorem dX6_laySeats_129 : decode cX6_laySeats 129 = .ok (.iload 5, 2) := by decide +kernel
theorem dX6_laySeats_131 : decode cX6_laySeats 131 = .ok (.ishl, 1) := by decide +kernel
theorem dX6_laySeats_132 : decode cX6_laySeats 132 = .ok (.ior, 1) := by decide +kernel
theorem dX6_laySeats_133 : decode cX6_laySeats 133 = .ok (.imul, 1) := by decide +kernel
theorem dX6_laySeats_134 : decode cX6_laySeats 134 = .ok (.iload 5, 2) := by decide +kernel
theorem dX6_laySeats_136 : decode cX6_laySeats 136 = .ok (.iadd, 1) := by decide +kernel
theorem dX6_laySeats_137 : decode cX6_laySeats 137 = .ok (.baload, 1) := by decide +kernel
theorem dX6_laySeats_138 : decode cX6_laySeats 138 = .ok (.ifCond .eq 7, 3) := by decide +kernel
theorem dX6_laySeats_141 : decode cX6_laySeats 141 = .ok (.iconst 1, 1) := by decide +kernel
theorem dX6_laySeats_142 : decode cX6_laySeats 142 = .ok (.goto 4, 3) := by decide +kernel
theorem dX6_laySeats_145 : decode cX6_laySeats 145 = .ok (.iconst 0, 1) := by decide +kernel
theorem dX6_laySeats_146 : decode cX6_laySeats 146 = .ok (.istore 4, 2) := by decide +kernel
theorem dX6_laySeats_148 : decode cX6_laySeats 148 = .ok (.iinc 5 1, 3) := by decide +kernel
theorem dX6_laySeats_151 : decode cX6_laySeats 151 = .ok (.goto (-88), 3) := by decide +kernel
theorem dX6_laySeats_154 : decode cX6_laySeats 154 = .ok (.aload_n 0, 1) := by decide +kernel
theorem dX6_laySeats_155 : decode cX6_laySeats 155 = .ok (.getfield 65, 3) := by decide +kernel
theorem dX6_laySeats_158 : decode cX6_laySeats 158 = .ok (.iload_n 1, 1) := by decide +kernel
theorem dX6_laySeats_159 : decode cX6_laySeats 159 = .ok (.iload 4, 2) := by decide +kernel
theorem dX6_laySeats_161 : decode cX6_laySeats 161 = .ok (.bastore, 1) := by decide +kernel
theorem dX6_laySeats_162 : decode cX6_laySeats 162 = .ok (.iinc 1 (-1), 3) := by decide +kernel
theorem dX6_laySeats_165 : decode cX6_laySeats 165 = .ok (.goto (-134), 3) := by decide +kernel
theorem dX6_laySeats_168 : decode cX6_laySeats 168 = .ok (.return_, 1) := by decide +kernel
theorem dX6_seats_0 : decode cX6_seats 0 = .ok (.aload_n 0, 1) := by decide +kernel
theorem dX6_seats_1 : decode cX6_seats 1 = .ok (.iconst 0, 1) := by decide +kernel
theorem dX6_seats_2 : decode cX6_seats 2 = .ok (.putfield 75, 3) := by decide +kernel
theorem dX6_seats_5 : decode cX6_seats 5 = .ok (.iload_n 1, 1) := by decide +kernel
theorem dX6_seats_6 : decode cX6_seats 6 = .ok (.ifCond .ge 5, 3) := by decide +kernel
theorem dX6_seats_9 : decode cX6_seats 9 = .ok (.iconst (-1), 1) := by decide +kernel
theorem dX6_seats_10 : decode cX6_seats 10 = .ok (.ireturn, 1) := by decide +kernel
theorem dX6_seats_11 : decode cX6_seats 11 = .ok (.aload_n 0, 1) := by decide +kernel
theorem dX6_seats_12 : decode cX6_seats 12 = .ok (.invokevirtual 252, 3) := by decide +kernel
theorem dX6_seats_15 : decode cX6_seats 15 = .ok (.iconst 0, 1) := by decide +kernel
theorem dX6_seats_16 : decode cX6_seats 16 = .ok (.istore_n 2, 1) := by decide +kernel
theorem dX6_seats_17 : decode cX6_seats 17 = .ok (.bipush 7, 2) := by decide +kernel
theorem dX6_seats_19 : decode cX6_seats 19 = .ok (.istore_n 3, 1) := by decide +kernel
theorem dX6_seats_20 : decode cX6_seats 20 = .ok (.iconst 0, 1) := by decide +kernel
theorem dX6_seats_21 : decode cX6_seats 21 = .ok (.istore 4, 2) := by decide +kernel
theorem dX6_seats_23 : decode cX6_seats 23 = .ok (.iload 4, 2) := by decide +kernel
theorem dX6_seats_25 : decode cX6_seats 25 = .ok (.iload_n 1, 1) := by decide +kernel
theorem dX6_seats_26 : decode cX6_seats 26 = .ok (.if_icmp .gt 130, 3) := by decide +kernel
theorem dX6_seats_29 : decode cX6_seats 29 = .ok (.iload 4, 2) := by decide +kernel
theorem dX6_seats_31 : decode cX6_seats 31 = .ok (.bipush 7, 2) := by decide +kernel
theorem dX6_seats_33 : decode cX6_seats 33 = .ok (.if_icmp .ge 123, 3) := by decide +kernel
theorem dX6_seats_36 : decode cX6_seats 36 = .ok (.bipush (-4), 2) := by decide +kernel
theorem dX6_seats_38 : decode cX6_seats 38 = .ok (.istore 5, 2) := by decide +kernel
theorem dX6_seats_40 : decode cX6_seats 40 = .ok (.aload_n 0, 1) := by decide +kernel
theorem dX6_seats_41 : decode cX6_seats 41 = .ok (.getfield 85, 3) := by decide +kernel
theorem dX6_seats_44 : decode cX6_seats 44 = .ok (.iconst 1, 1) := by decide +kernel
theorem dX6_seats_45 : decode cX6_seats 45 = .ok (.isub, 1) := by decide +kernel
theorem dX6_seats_46 : decode cX6_seats 46 = .ok (.istore 6, 2) := by decide +kernel
theorem dX6_seats_48 : decode cX6_seats 48 = .ok (.iload 6, 2) := by decide +kernel
theorem dX6_seats_50 : decode cX6_seats 50 = .ok (.ifCond .lt 82, 3) := by decide +kernel
theorem dX6_seats_53 : decode cX6_seats 53 = .ok (.aload_n 0, 1) := by decide +kernel
theorem dX6_seats_54 : decode cX6_seats 54 = .ok (.getfield 125, 3) := by decide +kernel
theorem dX6_seats_57 : decode cX6_seats 57 = .ok (.iload_n 2, 1) := by decide +kernel
theorem dX6_seats_58 : decode cX6_seats 58 = .ok (.iconst (-1), 1) := by decide +kernel
theorem dX6_seats_59 : decode cX6_seats 59 = .ok (.ixor, 1) := by decide +kernel
theorem dX6_seats_60 : decode cX6_seats 60 = .ok (.iand, 1) := by decide +kernel
theorem dX6_seats_61 : decode cX6_seats 61 = .ok (.iload 6, 2) := by decide +kernel
theorem dX6_seats_63 : decode cX6_seats 63 = .ok (.invokestatic 105, 3) := by decide +kernel
theorem dX6_seats_66 : decode cX6_seats 66 = .ok (.ifCond .eq 23, 3) := by decide +kernel
theorem dX6_seats_69 : decode cX6_seats 69 = .ok (.iload_n 3, 1) := by decide +kernel
theorem dX6_seats_70 : decode cX6_seats 70 = .ok (.bipush 7, 2) := by decide +kernel
theorem dX6_seats_72 : decode cX6_seats 72 = .ok (.if_icmp .eq 13, 3) := by decide +kernel
theorem dX6_seats_75 : decode cX6_seats 75 = .ok (.aload_n 0, 1) := by decide +kernel
theorem dX6_seats_76 : decode cX6_seats 76 = .ok (.iload_n 3, 1) := by decide +kernel
theorem dX6_seats_77 : decode cX6_seats 77 = .ok (.iload 6, 2) := by decide +kernel
theorem dX6_seats_79 : decode cX6_seats 79 = .ok (.invokevirtual 249, 3) := by decide +kernel
theorem dX6_seats_82 : decode cX6_seats 82 = .ok (.ifCond .eq 7, 3) := by decide +kernel
theorem dX6_seats_85 : decode cX6_seats 85 = .ok (.iconst 1, 1) := by decide +kernel
theorem dX6_seats_86 : decode cX6_seats 86 = .ok (.goto 4, 3) := by decide +kernel
theorem dX6_seats_89 : decode cX6_seats 89 = .ok (.iconst 0, 1) := by decide +kernel
theorem dX6_seats_90 : decode cX6_seats 90 = .ok (.istore 7, 2) := by decide +kernel
theorem dX6_seats_92 : decode cX6_seats 92 = .ok (.iload 7, 2) := by decide +kernel
theorem dX6_seats_94 : decode cX6_seats 94 = .ok (.ifCond .eq 28, 3) := by decide +kernel
theorem dX6_seats_97 : decode cX6_seats 97 = .ok (.aload_n 0, 1) := by decide +kernel
theorem dX6_seats_98 : decode cX6_seats 98 = .ok (.getfield 65, 3) := by decide +kernel
theorem dX6_seats_101 : decode cX6_seats 101 = .ok (.bipush 8, 2) := by decide +kernel
theorem dX6_seats_103 : decode cX6_seats 103 = .ok (.iload_n 2, 1) := by decide +kernel
theorem dX6_seats_104 : decode cX6_seats 104 = .ok (.iconst 1, 1) := by decide +kernel
theorem dX6_seats_105 : decode cX6_seats 105 = .ok (.iload 6, 2) := by decide +kernel
theorem dX6_seats_107 : decode cX6_seats 107 = .ok (.ishl, 1) := by decide +kernel
theorem dX6_seats_108 : decode cX6_seats 108 = .ok (.ior, 1) := by decide +kernel
theorem dX6_seats_109 : decode cX6_seats 109 = .ok (.imul, 1) := by decide +kernel
theorem dX6_seats_110 : decode cX6_seats 110 = .ok (.iload 6, 2) := by decide +kernel
theorem dX6_seats_112 : decode cX6_seats 112 = .ok (.iadd, 1) := by decide +kernel
theorem dX6_seats_113 : decode cX6_seats 113 = .ok (.baload, 1) := by decide +kernel
theorem dX6_seats_114 : decode cX6_seats 114 = .ok (.ifCond .eq 8, 3) := by decide +kernel
theorem dX6_seats_117 : decode cX6_seats 117 = .ok (.iload 6, 2) := by decide +kernel
theorem dX6_seats_119 : decode cX6_seats 119 = .ok (.goto 5, 3) := by decide +kernel
theorem dX6_seats_122 : decode cX6_seats 122 = .ok (.iload 5, 2) := by decide +kernel
theorem dX6_seats_124 : decode cX6_seats 124 = .ok (.istore 5, 2) := by decide +kernel
theorem dX6_seats_126 : decode cX6_seats 126 = .ok (.iinc 6 (-1), 3) := by decide +kernel
theorem dX6_seats_129 : decode cX6_seats 129 = .ok (.goto (-81), 3) := by decide +kernel
theorem dX6_seats_132 : decode cX6_seats 132 = .ok (.iload 5, 2) := by decide +kernel
theorem dX6_seats_134 : decode cX6_seats 134 = .ok (.ifCond .ge 6, 3) := by decide +kernel
theorem dX6_seats_137 : decode cX6_seats 137 = .ok (.bipush (-4), 2) := by decide +kernel
theorem dX6_seats_139 : decode cX6_seats 139 = .ok (.ireturn, 1) := by decide +kernel
theorem dX6_seats_140 : decode cX6_seats 140 = .ok (.iload_n 2, 1) := by decide +kernel
theorem dX6_seats_141 : decode cX6_seats 141 = .ok (.iconst 1, 1) := by decide +kernel
theorem dX6_seats_142 : decode cX6_seats 142 = .ok (.iload 5, 2) := by decide +kernel
theorem dX6_seats_144 : decode cX6_seats 144 = .ok (.ishl, 1) := by decide +kernel
theorem dX6_seats_145 : decode cX6_seats 145 = .ok (.ior, 1) := by decide +kernel
theorem dX6_seats_146 : decode cX6_seats 146 = .ok (.istore_n 2, 1) := by decide +kernel
theorem dX6_seats_147 : decode cX6_seats 147 = .ok (.iload 5, 2) := by decide +kernel
theorem dX6_seats_149 : decode cX6_seats 149 = .ok (.istore_n 3, 1) := by decide +kernel
theorem dX6_seats_150 : decode cX6_seats 150 = .ok (.iinc 4 1, 3) := by decide +kernel
theorem dX6_seats_153 : decode cX6_seats 153 = .ok (.goto (-130), 3) := by decide +kernel
theorem dX6_seats_156 : decode cX6_seats 156 = .ok (.iload_n 1, 1) := by decide +kernel
theorem dX6_seats_157 : decode cX6_seats 157 = .ok (.bipush 7, 2) := by decide +kernel
theorem dX6_seats_159 : decode cX6_seats 159 = .ok (.if_icmp .ge 7, 3) := by decide +kernel
theorem dX6_seats_162 : decode cX6_seats 162 = .ok (.iload_n 3, 1) := by decide +kernel
theorem dX6_seats_163 : decode cX6_seats 163 = .ok (.goto 5, 3) := by decide +kernel
theorem dX6_seats_166 : decode cX6_seats 166 = .ok (.bipush (-4), 2) := by decide +kernel
theorem dX6_seats_168 : decode cX6_seats 168 = .ok (.ireturn, 1) := by decide +kernel
theorem dX6_sameTwos_0 : decode cX6_sameTwos 0 = .ok (.iconst 0, 1) := by decide +kernel
theorem dX6_sameTwos_1 : decode cX6_sameTwos 1 = .ok (.istore_n 1, 1) := by decide +kernel
theorem dX6_sameTwos_2 : decode cX6_sameTwos 2 = .ok (.iconst 0, 1) := by decide +kernel
theorem dX6_sameTwos_3 : decode cX6_sameTwos 3 = .ok (.istore_n 2, 1) := by decide +kernel
theorem dX6_sameTwos_4 : decode cX6_sameTwos 4 = .ok (.iload_n 2, 1) := by decide +kernel
theorem dX6_sameTwos_5 : decode cX6_sameTwos 5 = .ok (.aload_n 0, 1) := by decide +kernel
theorem dX6_sameTwos_6 : decode cX6_sameTwos 6 = .ok (.getfield 85, 3) := by decide +kernel
theorem dX6_sameTwos_9 : decode cX6_sameTwos 9 = .ok (.if_icmp .ge 56, 3) := by decide +kernel
theorem dX6_sameTwos_12 : decode cX6_sameTwos 12 = .ok (.iload_n 2, 1) := by decide +kernel
theorem dX6_sameTwos_13 : decode cX6_sameTwos 13 = .ok (.iconst 1, 1) := by decide +kernel
theorem dX6_sameTwos_14 : decode cX6_sameTwos 14 = .ok (.iadd, 1) := by decide +kernel
theorem dX6_sameTwos_15 : decode cX6_sameTwos 15 = .ok (.istore_n 3, 1) := by decide +kernel
theorem dX6_sameTwos_16 : decode cX6_sameTwos 16 = .ok (.iload_n 3, 1) := by decide +kernel
theorem dX6_sameTwos_17 : decode cX6_sameTwos 17 = .ok (.aload_n 0, 1) := by decide +kernel
theorem dX6_sameTwos_18 : decode cX6_sameTwos 18 = .ok (.getfield 85, 3) := by decide +kernel
theorem dX6_sameTwos_21 : decode cX6_sameTwos 21 = .ok (.if_icmp .ge 38, 3) := by decide +kernel
theorem dX6_sameTwos_24 : decode cX6_sameTwos 24 = .ok (.iload_n 1, 1) := by decide +kernel
theorem dX6_sameTwos_25 : decode cX6_sameTwos 25 = .ok (.aload_n 0, 1) := by decide +kernel
theorem dX6_sameTwos_26 : decode cX6_sameTwos 26 = .ok (.iload_n 2, 1) := by decide +kernel
theorem dX6_sameTwos_27 : decode cX6_sameTwos 27 = .ok (.invokevirtual 238, 3) := by decide +kernel
theorem dX6_sameTwos_30 : decode cX6_sameTwos 30 = .ok (.ifCond .lt 20, 3) := by decide +kernel
theorem dX6_sameTwos_33 : decode cX6_sameTwos 33 = .ok (.aload_n 0, 1) := by decide +kernel
theorem dX6_sameTwos_34 : decode cX6_sameTwos 34 = .ok (.iload_n 2, 1) := by decide +kernel
theorem dX6_sameTwos_35 : decode cX6_sameTwos 35 = .ok (.invokevirtual 238, 3) := by decide +kernel
theorem dX6_sameTwos_38 : decode cX6_sameTwos 38 = .ok (.aload_n 0, 1) := by decide +kernel
theorem dX6_sameTwos_39 : decode cX6_sameTwos 39 = .ok (.iload_n 3, 1) := by decide +kernel
theorem dX6_sameTwos_40 : decode cX6_sameTwos 40 = .ok (.invokevirtual 238, 3) := by decide +kernel
theorem dX6_sameTwos_43 : decode cX6_sameTwos 43 = .ok (.if_icmp .ne 7, 3) := by decide +kernel
theorem dX6_sameTwos_46 : decode cX6_sameTwos 46 = .ok (.iconst 1, 1) := by decide +kernel
theorem dX6_sameTwos_47 : decode cX6_sameTwos 47 = .ok (.goto 4, 3) := by decide +kernel
theorem dX6_sameTwos_50 : decode cX6_sameTwos 50 = .ok (.iconst 0, 1) := by decide +kernel
theorem dX6_sameTwos_51 : decode cX6_sameTwos 51 = .ok (.iadd, 1) := by decide +kernel
theorem dX6_sameTwos_52 : decode cX6_sameTwos 52 = .ok (.istore_n 1, 1) := by decide +kernel
theorem dX6_sameTwos_53 : decode cX6_sameTwos 53 = .ok (.iinc 3 1, 3) := by decide +kernel
theorem dX6_sameTwos_56 : decode cX6_sameTwos 56 = .ok (.goto (-40), 3) := by decide +kernel
theorem dX6_sameTwos_59 : decode cX6_sameTwos 59 = .ok (.iinc 2 1, 3) := by decide +kernel
theorem dX6_sameTwos_62 : decode cX6_sameTwos 62 = .ok (.goto (-58), 3) := by decide +kernel
theorem dX6_sameTwos_65 : decode cX6_sameTwos 65 = .ok (.iload_n 1, 1) := by decide +kernel
theorem dX6_sameTwos_66 : decode cX6_sameTwos 66 = .ok (.ireturn, 1) := by decide +kernel
theorem dX6_wellest_0 : decode cX6_wellest 0 = .ok (.bipush (-4), 2) := by decide +kernel
theorem dX6_wellest_2 : decode cX6_wellest 2 = .ok (.istore_n 1, 1) := by decide +kernel
theorem dX6_wellest_3 : decode cX6_wellest 3 = .ok (.iconst 0, 1) := by decide +kernel
theorem dX6_wellest_4 : decode cX6_wellest 4 = .ok (.istore_n 2, 1) := by decide +kernel
theorem dX6_wellest_5 : decode cX6_wellest 5 = .ok (.iload_n 2, 1) := by decide +kernel
theorem dX6_wellest_6 : decode cX6_wellest 6 = .ok (.aload_n 0, 1) := by decide +kernel
theorem dX6_wellest_7 : decode cX6_wellest 7 = .ok (.getfield 85, 3) := by decide +kernel
theorem dX6_wellest_10 : decode cX6_wellest 10 = .ok (.if_icmp .ge 45, 3) := by decide +kernel
theorem dX6_wellest_13 : decode cX6_wellest 13 = .ok (.aload_n 0, 1) := by decide +kernel
theorem dX6_wellest_14 : decode cX6_wellest 14 = .ok (.getfield 125, 3) := by decide +kernel
theorem dX6_wellest_17 : decode cX6_wellest 17 = .ok (.iload_n 2, 1) := by decide +kernel
theorem dX6_wellest_18 : decode cX6_wellest 18 = .ok (.invokestatic 105, 3) := by decide +kernel
theorem dX6_wellest_21 : decode cX6_wellest 21 = .ok (.ifCond .eq 26, 3) := by decide +kernel
theorem dX6_wellest_24 : decode cX6_wellest 24 = .ok (.iload_n 1, 1) := by decide +kernel
theorem dX6_wellest_25 : decode cX6_wellest 25 = .ok (.ifCond .lt 18, 3) := by decide +kernel
theorem dX6_wellest_28 : decode cX6_wellest 28 = .ok (.aload_n 0, 1) := by decide +kernel
theorem dX6_wellest_29 : decode cX6_wellest 29 = .ok (.getfield 25, 3) := by decide +kernel
theorem dX6_wellest_32 : decode cX6_wellest 32 = .ok (.iload_n 2, 1) := by decide +kernel
theorem dX6_wellest_33 : decode cX6_wellest 33 = .ok (.iaload, 1) := by decide +kernel
theorem dX6_wellest_34 : decode cX6_wellest 34 = .ok (.aload_n 0, 1) := by decide +kernel
theorem dX6_wellest_35 : decode cX6_wellest 35 = .ok (.getfield 25, 3) := by decide +kernel
theorem dX6_wellest_38 : decode cX6_wellest 38 = .ok (.iload_n 1, 1) := by decide +kernel
theorem dX6_wellest_39 : decode cX6_wellest 39 = .ok (.iaload, 1) := by decide +kernel
theorem dX6_wellest_40 : decode cX6_wellest 40 = .ok (.if_icmp .le 7, 3) := by decide +kernel
theorem dX6_wellest_43 : decode cX6_wellest 43 = .ok (.iload_n 2, 1) := by decide +kernel
theorem dX6_wellest_44 : decode cX6_wellest 44 = .ok (.goto 4, 3) := by decide +kernel
theorem dX6_wellest_47 : decode cX6_wellest 47 = .ok (.iload_n 1, 1) := by decide +kernel
theorem dX6_wellest_48 : decode cX6_wellest 48 = .ok (.istore_n 1, 1) := by decide +kernel
theorem dX6_wellest_49 : decode cX6_wellest 49 = .ok (.iinc 2 1, 3) := by decide +kernel
theorem dX6_wellest_52 : decode cX6_wellest 52 = .ok (.goto (-47), 3) := by decide +kernel
theorem dX6_wellest_55 : decode cX6_wellest 55 = .ok (.iload_n 1, 1) := by decide +kernel
theorem dX6_wellest_56 : decode cX6_wellest 56 = .ok (.ireturn, 1) := by decide +kernel
theorem dX6_fullestPlate_0 : decode cX6_fullestPlate 0 = .ok (.iconst 0, 1) := by decide +kernel
theorem dX6_fullestPlate_1 : decode cX6_fullestPlate 1 = .ok (.istore_n 1, 1) := by decide +kernel
theorem dX6_fullestPlate_2 : decode cX6_fullestPlate 2 = .ok (.iconst 1, 1) := by decide +kernel
theorem dX6_fullestPlate_3 : decode cX6_fullestPlate 3 = .ok (.istore_n 2, 1) := by decide +kernel
theorem dX6_fullestPlate_4 : decode cX6_fullestPlate 4 = .ok (.iload_n 2, 1) := by decide +kernel
theorem dX6_fullestPlate_5 : decode cX6_fullestPlate 5 = .ok (.bipush 10, 2) := by decide +kernel
theorem dX6_fullestPlate_7 : decode cX6_fullestPlate 7 = .ok (.if_icmp .ge 30, 3) := by decide +kernel
theorem dX6_fullestPlate_10 : decode cX6_fullestPlate 10 = .ok (.aload_n 0, 1) := by decide +kernel
theorem dX6_fullestPlate_11 : decode cX6_fullestPlate 11 = .ok (.getfield 7, 3) := by decide +kernel
theorem dX6_fullestPlate_14 : decode cX6_fullestPlate 14 = .ok (.iload_n 2, 1) := by decide +kernel
theorem dX6_fullestPlate_15 : decode cX6_fullestPlate 15 = .ok (.iaload, 1) := by decide +kernel
theorem dX6_fullestPlate_16 : decode cX6_fullestPlate 16 = .ok (.aload_n 0, 1) := by decide +kernel
theorem dX6_fullestPlate_17 : decode cX6_fullestPlate 17 = .ok (.getfield 7, 3) := by decide +kernel
theorem dX6_fullestPlate_20 : decode cX6_fullestPlate 20 = .ok (.iload_n 1, 1) := by decide +kernel
theorem dX6_fullestPlate_21 : decode cX6_fullestPlate 21 = .ok (.iaload, 1) := by decide +kernel
theorem dX6_fullestPlate_22 : decode cX6_fullestPlate 22 = .ok (.if_icmp .le 7, 3) := by decide +kernel
theorem dX6_fullestPlate_25 : decode cX6_fullestPlate 25 = .ok (.iload_n 2, 1) := by decide +kernel
theorem dX6_fullestPlate_26 : decode cX6_fullestPlate 26 = .ok (.goto 4, 3) := by decide +kernel
theorem dX6_fullestPlate_29 : decode cX6_fullestPlate 29 = .ok (.iload_n 1, 1) := by decide +kernel
theorem dX6_fullestPlate_30 : decode cX6_fullestPlate 30 = .ok (.istore_n 1, 1) := by decide +kernel
theorem dX6_fullestPlate_31 : decode cX6_fullestPlate 31 = .ok (.iinc 2 1, 3) := by decide +kernel
theorem dX6_fullestPlate_34 : decode cX6_fullestPlate 34 = .ok (.goto (-30), 3) := by decide +kernel
theorem dX6_fullestPlate_37 : decode cX6_fullestPlate 37 = .ok (.iload_n 1, 1) := by decide +kernel
theorem dX6_fullestPlate_38 : decode cX6_fullestPlate 38 = .ok (.ireturn, 1) := by decide +kernel
theorem dX6_emptyPlates_0 : decode cX6_emptyPlates 0 = .ok (.iconst 0, 1) := by decide +kernel
theorem dX6_emptyPlates_1 : decode cX6_emptyPlates 1 = .ok (.istore_n 1, 1) := by decide +kernel
theorem dX6_emptyPlates_2 : decode cX6_emptyPlates 2 = .ok (.iconst 0, 1) := by decide +kernel
theorem dX6_emptyPlates_3 : decode cX6_emptyPlates 3 = .ok (.istore_n 2, 1) := by decide +kernel
theorem dX6_emptyPlates_4 : decode cX6_emptyPlates 4 = .ok (.iload_n 2, 1) := by decide +kernel
theorem dX6_emptyPlates_5 : decode cX6_emptyPlates 5 = .ok (.bipush 10, 2) := by decide +kernel
theorem dX6_emptyPlates_7 : decode cX6_emptyPlates 7 = .ok (.if_icmp .ge 28, 3) := by decide +kernel
theorem dX6_emptyPlates_10 : decode cX6_emptyPlates 10 = .ok (.iload_n 1, 1) := by decide +kernel
theorem dX6_emptyPlates_11 : decode cX6_emptyPlates 11 = .ok (.aload_n 0, 1) := by decide +kernel
theorem dX6_emptyPlates_12 : decode cX6_emptyPlates 12 = .ok (.getfield 7, 3) := by decide +kernel
theorem dX6_emptyPlates_15 : decode cX6_emptyPlates 15 = .ok (.iload_n 2, 1) := by decide +kernel
theorem dX6_emptyPlates_16 : decode cX6_emptyPlates 16 = .ok (.iaload, 1) := by decide +kernel
theorem dX6_emptyPlates_17 : decode cX6_emptyPlates 17 = .ok (.ifCond .ne 9, 3) := by decide +kernel
theorem dX6_emptyPlates_20 : decode cX6_emptyPlates 20 = .ok (.iconst 1, 1) := by decide +kernel
theorem dX6_emptyPlates_21 : decode cX6_emptyPlates 21 = .ok (.iload_n 2, 1) := by decide +kernel
theorem dX6_emptyPlates_22 : decode cX6_emptyPlates 22 = .ok (.ishl, 1) := by decide +kernel
theorem dX6_emptyPlates_23 : decode cX6_emptyPlates 23 = .ok (.goto 4, 3) := by decide +kernel
theorem dX6_emptyPlates_26 : decode cX6_emptyPlates 26 = .ok (.iconst 0, 1) := by decide +kernel
theorem dX6_emptyPlates_27 : decode cX6_emptyPlates 27 = .ok (.ior, 1) := by decide +kernel
theorem dX6_emptyPlates_28 : decode cX6_emptyPlates 28 = .ok (.istore_n 1, 1) := by decide +kernel
theorem dX6_emptyPlates_29 : decode cX6_emptyPlates 29 = .ok (.iinc 2 1, 3) := by decide +kernel
theorem dX6_emptyPlates_32 : decode cX6_emptyPlates 32 = .ok (.goto (-28), 3) := by decide +kernel
theorem dX6_emptyPlates_35 : decode cX6_emptyPlates 35 = .ok (.iload_n 1, 1) := by decide +kernel
theorem dX6_emptyPlates_36 : decode cX6_emptyPlates 36 = .ok (.ireturn, 1) := by decide +kernel
theorem dX6_platesOf_0 : decode cX6_platesOf 0 = .ok (.iconst 0, 1) := by decide +kernel
theorem dX6_platesOf_1 : decode cX6_platesOf 1 = .ok (.istore_n 2, 1) := by decide +kernel
theorem dX6_platesOf_2 : decode cX6_platesOf 2 = .ok (.iconst 0, 1) := by decide +kernel
theorem dX6_platesOf_3 : decode cX6_platesOf 3 = .ok (.istore_n 3, 1) := by decide +kernel
theorem dX6_platesOf_4 : decode cX6_platesOf 4 = .ok (.iload_n 3, 1) := by decide +kernel
theorem dX6_platesOf_5 : decode cX6_platesOf 5 = .ok (.aload_n 0, 1) := by decide +kernel
theorem dX6_platesOf_6 : decode cX6_platesOf 6 = .ok (.getfield 85, 3) := by decide +kernel
theorem dX6_platesOf_9 : decode cX6_platesOf 9 = .ok (.if_icmp .ge 48, 3) := by decide +kernel
theorem dX6_platesOf_12 : decode cX6_platesOf 12 = .ok (.iload_n 2, 1) := by decide +kernel
theorem dX6_platesOf_13 : decode cX6_platesOf 13 = .ok (.aload_n 0, 1) := by decide +kernel
theorem dX6_platesOf_14 : decode cX6_platesOf 14 = .ok (.getfield 125, 3) := by decide +kernel
theorem dX6_platesOf_17 : decode cX6_platesOf 17 = .ok (.iload_n 3, 1) := by decide +kernel
theorem dX6_platesOf_18 : decode cX6_platesOf 18 = .ok (.invokestatic 105, 3) := by decide +kernel
theorem dX6_platesOf_21 : decode cX6_platesOf 21 = .ok (.ifCond .eq 27, 3) := by decide +kernel
theorem dX6_platesOf_24 : decode cX6_platesOf 24 = .ok (.iconst 1, 1) := by decide +kernel
theorem dX6_platesOf_25 : decode cX6_platesOf 25 = .ok (.iload_n 1, 1) := by decide +kernel
theorem dX6_platesOf_26 : decode cX6_platesOf 26 = .ok (.ifCond .eq 12, 3) := by decide +kernel
theorem dX6_platesOf_29 : decode cX6_platesOf 29 = .ok (.aload_n 0, 1) := by decide +kernel
theorem dX6_platesOf_30 : decode cX6_platesOf 30 = .ok (.getfield 19, 3) := by decide +kernel
theorem dX6_platesOf_33 : decode cX6_platesOf 33 = .ok (.iload_n 3, 1) := by decide +kernel
theorem dX6_platesOf_34 : decode cX6_platesOf 34 = .ok (.iaload, 1) := by decide +kernel
theorem dX6_platesOf_35 : decode cX6_platesOf 35 = .ok (.goto 9, 3) := by decide +kernel
theorem dX6_platesOf_38 : decode cX6_platesOf 38 = .ok (.aload_n 0, 1) := by decide +kernel
theorem dX6_platesOf_39 : decode cX6_platesOf 39 = .ok (.getfield 22, 3) := by decide +kernel
theorem dX6_platesOf_42 : decode cX6_platesOf 42 = .ok (.iload_n 3, 1) := by decide +kernel
theorem dX6_platesOf_43 : decode cX6_platesOf 43 = .ok (.iaload, 1) := by decide +kernel
theorem dX6_platesOf_44 : decode cX6_platesOf 44 = .ok (.ishl, 1) := by decide +kernel
theorem dX6_platesOf_45 : decode cX6_platesOf 45 = .ok (.goto 4, 3) := by decide +kernel
theorem dX6_platesOf_48 : decode cX6_platesOf 48 = .ok (.iconst 0, 1) := by decide +kernel
theorem dX6_platesOf_49 : decode cX6_platesOf 49 = .ok (.ior, 1) := by decide +kernel
theorem dX6_platesOf_50 : decode cX6_platesOf 50 = .ok (.istore_n 2, 1) := by decide +kernel
theorem dX6_platesOf_51 : decode cX6_platesOf 51 = .ok (.iinc 3 1, 3) := by decide +kernel
theorem dX6_platesOf_54 : decode cX6_platesOf 54 = .ok (.goto (-50), 3) := by decide +kernel
theorem dX6_platesOf_57 : decode cX6_platesOf 57 = .ok (.iload_n 2, 1) := by decide +kernel
theorem dX6_platesOf_58 : decode cX6_platesOf 58 = .ok (.ireturn, 1) := by decide +kernel
theorem dX6_same_0 : decode cX6_same 0 = .ok (.aload_n 0, 1) := by decide +kernel
theorem dX6_same_1 : decode cX6_same 1 = .ok (.iconst 0, 1) := by decide +kernel
theorem dX6_same_2 : decode cX6_same 2 = .ok (.putfield 75, 3) := by decide +kernel
theorem dX6_same_5 : decode cX6_same 5 = .ok (.iload_n 1, 1) := by decide +kernel
theorem dX6_same_6 : decode cX6_same 6 = .ok (.tableswitch 79 0 6 #[42, 47, 52, 57, 62, 67, 73], 42) := by decide +kernel
theorem dX6_same_48 : decode cX6_same 48 = .ok (.aload_n 0, 1) := by decide +kernel
theorem dX6_same_49 : decode cX6_same 49 = .ok (.invokevirtual 255, 3) := by decide +kernel
theorem dX6_same_52 : decode cX6_same 52 = .ok (.ireturn, 1) := by decide +kernel
theorem dX6_same_53 : decode cX6_same 53 = .ok (.aload_n 0, 1) := by decide +kernel
theorem dX6_same_54 : decode cX6_same 54 = .ok (.invokevirtual 258, 3) := by decide +kernel
theorem dX6_same_57 : decode cX6_same 57 = .ok (.ireturn, 1) := by decide +kernel
theorem dX6_same_58 : decode cX6_same 58 = .ok (.aload_n 0, 1) := by decide +kernel
theorem dX6_same_59 : decode cX6_same 59 = .ok (.invokevirtual 261, 3) := by decide +kernel
theorem dX6_same_62 : decode cX6_same 62 = .ok (.ireturn, 1) := by decide +kernel
theorem dX6_same_63 : decode cX6_same 63 = .ok (.aload_n 0, 1) := by decide +kernel
theorem dX6_same_64 : decode cX6_same 64 = .ok (.invokevirtual 264, 3) := by decide +kernel
theorem dX6_same_67 : decode cX6_same 67 = .ok (.ireturn, 1) := by decide +kernel
theorem dX6_same_68 : decode cX6_same 68 = .ok (.aload_n 0, 1) := by decide +kernel
theorem dX6_same_69 : decode cX6_same 69 = .ok (.invokevirtual 267, 3) := by decide +kernel
theorem dX6_same_72 : decode cX6_same 72 = .ok (.ireturn, 1) := by decide +kernel
theorem dX6_same_73 : decode cX6_same 73 = .ok (.aload_n 0, 1) := by decide +kernel
theorem dX6_same_74 : decode cX6_same 74 = .ok (.iconst 1, 1) := by decide +kernel
theorem dX6_same_75 : decode cX6_same 75 = .ok (.invokevirtual 270, 3) := by decide +kernel
theorem dX6_same_78 : decode cX6_same 78 = .ok (.ireturn, 1) := by decide +kernel
theorem dX6_same_79 : decode cX6_same 79 = .ok (.aload_n 0, 1) := by decide +kernel
theorem dX6_same_80 : decode cX6_same 80 = .ok (.iconst 0, 1) := by decide +kernel
theorem dX6_same_81 : decode cX6_same 81 = .ok (.invokevirtual 270, 3) := by decide +kernel
theorem dX6_same_84 : decode cX6_same 84 = .ok (.ireturn, 1) := by decide +kernel
theorem dX6_same_85 : decode cX6_same 85 = .ok (.iconst (-1), 1) := by decide +kernel
theorem dX6_same_86 : decode cX6_same 86 = .ok (.ireturn, 1) := by decide +kernel
theorem dX6_leastOf_0 : decode cX6_leastOf 0 = .ok (.iload_n 0, 1) := by decide +kernel
theorem dX6_leastOf_1 : decode cX6_leastOf 1 = .ok (.ifCond .ne 9, 3) := by decide +kernel
theorem dX6_leastOf_4 : decode cX6_leastOf 4 = .ok (.ldc2_w 274, 3) := by decide +kernel
theorem dX6_leastOf_7 : decode cX6_leastOf 7 = .ok (.goto 17, 3) := by decide +kernel
theorem dX6_leastOf_10 : decode cX6_leastOf 10 = .ok (.iload_n 0, 1) := by decide +kernel
theorem dX6_leastOf_11 : decode cX6_leastOf 11 = .ok (.iconst 1, 1) := by decide +kernel
theorem dX6_leastOf_12 : decode cX6_leastOf 12 = .ok (.if_icmp .ne 9, 3) := by decide +kernel
theorem dX6_leastOf_15 : decode cX6_leastOf 15 = .ok (.ldc2_w 276, 3) := by decide +kernel
theorem dX6_leastOf_18 : decode cX6_leastOf 18 = .ok (.goto 6, 3) := by decide +kernel
theorem dX6_leastOf_21 : decode cX6_leastOf 21 = .ok (.ldc2_w 278, 3) := by decide +kernel
theorem dX6_leastOf_24 : decode cX6_leastOf 24 = .ok (.lreturn, 1) := by decide +kernel
theorem dX6_isSkipped_0 : decode cX6_isSkipped 0 = .ok (.aload_n 0, 1) := by decide +kernel
theorem dX6_isSkipped_1 : decode cX6_isSkipped 1 = .ok (.getfield 43, 3) := by decide +kernel
theorem dX6_isSkipped_4 : decode cX6_isSkipped 4 = .ok (.bipush 100, 2) := by decide +kernel
theorem dX6_isSkipped_6 : decode cX6_isSkipped 6 = .ok (.iload_n 1, 1) := by decide +kernel
theorem dX6_isSkipped_7 : decode cX6_isSkipped 7 = .ok (.imul, 1) := by decide +kernel
theorem dX6_isSkipped_8 : decode cX6_isSkipped 8 = .ok (.iload_n 2, 1) := by decide +kernel
theorem dX6_isSkipped_9 : decode cX6_isSkipped 9 = .ok (.iadd, 1) := by decide +kernel
theorem dX6_isSkipped_10 : decode cX6_isSkipped 10 = .ok (.laload, 1) := by decide +kernel
theorem dX6_isSkipped_11 : decode cX6_isSkipped 11 = .ok (.aload_n 0, 1) := by decide +kernel
theorem dX6_isSkipped_12 : decode cX6_isSkipped 12 = .ok (.getfield 37, 3) := by decide +kernel
theorem dX6_isSkipped_15 : decode cX6_isSkipped 15 = .ok (.iload_n 1, 1) := by decide +kernel
theorem dX6_isSkipped_16 : decode cX6_isSkipped 16 = .ok (.iaload, 1) := by decide +kernel
theorem dX6_isSkipped_17 : decode cX6_isSkipped 17 = .ok (.invokestatic 280, 3) := by decide +kernel
theorem dX6_isSkipped_20 : decode cX6_isSkipped 20 = .ok (.lcmp, 1) := by decide +kernel
theorem dX6_isSkipped_21 : decode cX6_isSkipped 21 = .ok (.ifCond .ne 7, 3) := by decide +kernel
theorem dX6_isSkipped_24 : decode cX6_isSkipped 24 = .ok (.iconst 1, 1) := by decide +kernel
theorem dX6_isSkipped_25 : decode cX6_isSkipped 25 = .ok (.goto 4, 3) := by decide +kernel
theorem dX6_isSkipped_28 : decode cX6_isSkipped 28 = .ok (.iconst 0, 1) := by decide +kernel
theorem dX6_isSkipped_29 : decode cX6_isSkipped 29 = .ok (.ireturn, 1) := by decide +kernel
theorem dX6_isHealthRow_0 : decode cX6_isHealthRow 0 = .ok (.iconst 1, 1) := by decide +kernel
theorem dX6_isHealthRow_1 : decode cX6_isHealthRow 1 = .ok (.istore_n 3, 1) := by decide +kernel
theorem dX6_isHealthRow_2 : decode cX6_isHealthRow 2 = .ok (.iconst 0, 1) := by decide +kernel
theorem dX6_isHealthRow_3 : decode cX6_isHealthRow 3 = .ok (.istore 4, 2) := by decide +kernel
theorem dX6_isHealthRow_5 : decode cX6_isHealthRow 5 = .ok (.iload 4, 2) := by decide +kernel
theorem dX6_isHealthRow_7 : decode cX6_isHealthRow 7 = .ok (.aload_n 0, 1) := by decide +kernel
theorem dX6_isHealthRow_8 : decode cX6_isHealthRow 8 = .ok (.getfield 40, 3) := by decide +kernel
theorem dX6_isHealthRow_11 : decode cX6_isHealthRow 11 = .ok (.iload_n 1, 1) := by decide +kernel
theorem dX6_isHealthRow_12 : decode cX6_isHealthRow 12 = .ok (.iaload, 1) := by decide +kernel
theorem dX6_isHealthRow_13 : decode cX6_isHealthRow 13 = .ok (.if_icmp .ge 56, 3) := by decide +kernel
theorem dX6_isHealthRow_16 : decode cX6_isHealthRow 16 = .ok (.iload_n 3, 1) := by decide +kernel
theorem dX6_isHealthRow_17 : decode cX6_isHealthRow 17 = .ok (.ifCond .eq 52, 3) := by decide +kernel
theorem dX6_isHealthRow_20 : decode cX6_isHealthRow 20 = .ok (.aload_n 0, 1) := by decide +kernel
theorem dX6_isHealthRow_21 : decode cX6_isHealthRow 21 = .ok (.iload_n 1, 1) := by decide +kernel
theorem dX6_isHealthRow_22 : decode cX6_isHealthRow 22 = .ok (.iload 4, 2) := by decide +kernel
theorem dX6_isHealthRow_24 : decode cX6_isHealthRow 24 = .ok (.invokevirtual 284, 3) := by decide +kernel
theorem dX6_isHealthRow_27 : decode cX6_isHealthRow 27 = .ok (.ifCond .ne 26, 3) := by decide +kernel
theorem dX6_isHealthRow_30 : decode cX6_isHealthRow 30 = .ok (.aload_n 0, 1) := by decide +kernel
theorem dX6_isHealthRow_31 : decode cX6_isHealthRow 31 = .ok (.getfield 43, 3) := by decide +kernel
theorem dX6_isHealthRow_34 : decode cX6_isHealthRow 34 = .ok (.bipush 100, 2) := by decide +kernel
theorem dX6_isHealthRow_36 : decode cX6_isHealthRow 36 = .ok (.iload_n 1, 1) := by decide +kernel
theorem dX6_isHealthRow_37 : decode cX6_isHealthRow 37 = .ok (.imul, 1) := by decide +kernel
theorem dX6_isHealthRow_38 : decode cX6_isHealthRow 38 = .ok (.iload 4, 2) := by decide +kernel
theorem dX6_isHealthRow_40 : decode cX6_isHealthRow 40 = .ok (.iadd, 1) := by decide +kernel
theorem dX6_isHealthRow_41 : decode cX6_isHealthRow 41 = .ok (.laload, 1) := by decide +kernel
theorem dX6_isHealthRow_42 : decode cX6_isHealthRow 42 = .ok (.aload_n 0, 1) := by decide +kernel
theorem dX6_isHealthRow_43 : decode cX6_isHealthRow 43 = .ok (.getfield 25, 3) := by decide +kernel
theorem dX6_isHealthRow_46 : decode cX6_isHealthRow 46 = .ok (.iload_n 2, 1) := by decide +kernel
theorem dX6_isHealthRow_47 : decode cX6_isHealthRow 47 = .ok (.iaload, 1) := by decide +kernel
theorem dX6_isHealthRow_48 : decode cX6_isHealthRow 48 = .ok (.i2l, 1) := by decide +kernel
theorem dX6_isHealthRow_49 : decode cX6_isHealthRow 49 = .ok (.lcmp, 1) := by decide +kernel
theorem dX6_isHealthRow_50 : decode cX6_isHealthRow 50 = .ok (.ifCond .ne 7, 3) := by decide +kernel
theorem dX6_isHealthRow_53 : decode cX6_isHealthRow 53 = .ok (.iconst 1, 1) := by decide +kernel
theorem dX6_isHealthRow_54 : decode cX6_isHealthRow 54 = .ok (.goto 4, 3) := by decide +kernel
theorem dX6_isHealthRow_57 : decode cX6_isHealthRow 57 = .ok (.iconst 0, 1) := by decide +kernel
theorem dX6_isHealthRow_58 : decode cX6_isHealthRow 58 = .ok (.istore_n 3, 1) := by decide +kernel
theorem dX6_isHealthRow_59 : decode cX6_isHealthRow 59 = .ok (.aload_n 0, 1) := by decide +kernel
theorem dX6_isHealthRow_60 : decode cX6_isHealthRow 60 = .ok (.invokevirtual 132, 3) := by decide +kernel
theorem dX6_isHealthRow_63 : decode cX6_isHealthRow 63 = .ok (.iinc 4 1, 3) := by decide +kernel
theorem dX6_isHealthRow_66 : decode cX6_isHealthRow 66 = .ok (.goto (-61), 3) := by decide +kernel
theorem dX6_isHealthRow_69 : decode cX6_isHealthRow 69 = .ok (.aload_n 0, 1) := by decide +kernel
theorem dX6_isHealthRow_70 : decode cX6_isHealthRow 70 = .ok (.invokevirtual 196, 3) := by decide +kernel
theorem dX6_isHealthRow_73 : decode cX6_isHealthRow 73 = .ok (.iload_n 3, 1) := by decide +kernel
theorem dX6_isHealthRow_74 : decode cX6_isHealthRow 74 = .ok (.ireturn, 1) := by decide +kernel
theorem dX6_isPlateRow_0 : decode cX6_isPlateRow 0 = .ok (.iconst 1, 1) := by decide +kernel
theorem dX6_isPlateRow_1 : decode cX6_isPlateRow 1 = .ok (.istore_n 3, 1) := by decide +kernel
theorem dX6_isPlateRow_2 : decode cX6_isPlateRow 2 = .ok (.iconst 0, 1) := by decide +kernel
theorem dX6_isPlateRow_3 : decode cX6_isPlateRow 3 = .ok (.istore 4, 2) := by decide +kernel
theorem dX6_isPlateRow_5 : decode cX6_isPlateRow 5 = .ok (.iload 4, 2) := by decide +kernel
theorem dX6_isPlateRow_7 : decode cX6_isPlateRow 7 = .ok (.aload_n 0, 1) := by decide +kernel
theorem dX6_isPlateRow_8 : decode cX6_isPlateRow 8 = .ok (.getfield 40, 3) := by decide +kernel
theorem dX6_isPlateRow_11 : decode cX6_isPlateRow 11 = .ok (.iload_n 1, 1) := by decide +kernel
theorem dX6_isPlateRow_12 : decode cX6_isPlateRow 12 = .ok (.iaload, 1) := by decide +kernel
theorem dX6_isPlateRow_13 : decode cX6_isPlateRow 13 = .ok (.if_icmp .ge 56, 3) := by decide +kernel
theorem dX6_isPlateRow_16 : decode cX6_isPlateRow 16 = .ok (.iload_n 3, 1) := by decide +kernel
theorem dX6_isPlateRow_17 : decode cX6_isPlateRow 17 = .ok (.ifCond .eq 52, 3) := by decide +kernel
theorem dX6_isPlateRow_20 : decode cX6_isPlateRow 20 = .ok (.aload_n 0, 1) := by decide +kernel
theorem dX6_isPlateRow_21 : decode cX6_isPlateRow 21 = .ok (.invokevirtual 132, 3) := by decide +kernel
theorem dX6_isPlateRow_24 : decode cX6_isPlateRow 24 = .ok (.aload_n 0, 1) := by decide +kernel
theorem dX6_isPlateRow_25 : decode cX6_isPlateRow 25 = .ok (.iload_n 1, 1) := by decide +kernel
theorem dX6_isPlateRow_26 : decode cX6_isPlateRow 26 = .ok (.iload 4, 2) := by decide +kernel
theorem dX6_isPlateRow_28 : decode cX6_isPlateRow 28 = .ok (.invokevirtual 284, 3) := by decide +kernel
theorem dX6_isPlateRow_31 : decode cX6_isPlateRow 31 = .ok (.ifCond .ne 26, 3) := by decide +kernel
theorem dX6_isPlateRow_34 : decode cX6_isPlateRow 34 = .ok (.aload_n 0, 1) := by decide +kernel
theorem dX6_isPlateRow_35 : decode cX6_isPlateRow 35 = .ok (.getfield 43, 3) := by decide +kernel
theorem dX6_isPlateRow_38 : decode cX6_isPlateRow 38 = .ok (.bipush 100, 2) := by decide +kernel
theorem dX6_isPlateRow_40 : decode cX6_isPlateRow 40 = .ok (.iload_n 1, 1) := by decide +kernel
theorem dX6_isPlateRow_41 : decode cX6_isPlateRow 41 = .ok (.imul, 1) := by decide +kernel
theorem dX6_isPlateRow_42 : decode cX6_isPlateRow 42 = .ok (.iload 4, 2) := by decide +kernel
theorem dX6_isPlateRow_44 : decode cX6_isPlateRow 44 = .ok (.iadd, 1) := by decide +kernel
theorem dX6_isPlateRow_45 : decode cX6_isPlateRow 45 = .ok (.laload, 1) := by decide +kernel
theorem dX6_isPlateRow_46 : decode cX6_isPlateRow 46 = .ok (.aload_n 0, 1) := by decide +kernel
theorem dX6_isPlateRow_47 : decode cX6_isPlateRow 47 = .ok (.getfield 22, 3) := by decide +kernel
theorem dX6_isPlateRow_50 : decode cX6_isPlateRow 50 = .ok (.iload_n 2, 1) := by decide +kernel
theorem dX6_isPlateRow_51 : decode cX6_isPlateRow 51 = .ok (.iaload, 1) := by decide +kernel
theorem dX6_isPlateRow_52 : decode cX6_isPlateRow 52 = .ok (.i2l, 1) := by decide +kernel
theorem dX6_isPlateRow_53 : decode cX6_isPlateRow 53 = .ok (.lcmp, 1) := by decide +kernel
theorem dX6_isPlateRow_54 : decode cX6_isPlateRow 54 = .ok (.ifCond .ne 7, 3) := by decide +kernel
theorem dX6_isPlateRow_57 : decode cX6_isPlateRow 57 = .ok (.iconst 1, 1) := by decide +kernel
theorem dX6_isPlateRow_58 : decode cX6_isPlateRow 58 = .ok (.goto 4, 3) := by decide +kernel
theorem dX6_isPlateRow_61 : decode cX6_isPlateRow 61 = .ok (.iconst 0, 1) := by decide +kernel
theorem dX6_isPlateRow_62 : decode cX6_isPlateRow 62 = .ok (.istore_n 3, 1) := by decide +kernel
theorem dX6_isPlateRow_63 : decode cX6_isPlateRow 63 = .ok (.iinc 4 1, 3) := by decide +kernel
theorem dX6_isPlateRow_66 : decode cX6_isPlateRow 66 = .ok (.goto (-61), 3) := by decide +kernel
theorem dX6_isPlateRow_69 : decode cX6_isPlateRow 69 = .ok (.aload_n 0, 1) := by decide +kernel
theorem dX6_isPlateRow_70 : decode cX6_isPlateRow 70 = .ok (.invokevirtual 196, 3) := by decide +kernel
theorem dX6_isPlateRow_73 : decode cX6_isPlateRow 73 = .ok (.iload_n 3, 1) := by decide +kernel
theorem dX6_isPlateRow_74 : decode cX6_isPlateRow 74 = .ok (.ireturn, 1) := by decide +kernel
theorem dX6_whatIs_0 : decode cX6_whatIs 0 = .ok (.aload_n 0, 1) := by decide +kernel
theorem dX6_whatIs_1 : decode cX6_whatIs 1 = .ok (.iconst 0, 1) := by decide +kernel
theorem dX6_whatIs_2 : decode cX6_whatIs 2 = .ok (.putfield 75, 3) := by decide +kernel
theorem dX6_whatIs_5 : decode cX6_whatIs 5 = .ok (.aload_n 0, 1) := by decide +kernel
theorem dX6_whatIs_6 : decode cX6_whatIs 6 = .ok (.iload_n 2, 1) := by decide +kernel
theorem dX6_whatIs_7 : decode cX6_whatIs 7 = .ok (.invokevirtual 171, 3) := by decide +kernel
theorem dX6_whatIs_10 : decode cX6_whatIs 10 = .ok (.ifCond .eq 21, 3) := by decide +kernel
theorem dX6_whatIs_13 : decode cX6_whatIs 13 = .ok (.iload_n 3, 1) := by decide +kernel
theorem dX6_whatIs_14 : decode cX6_whatIs 14 = .ok (.i2l, 1) := by decide +kernel
theorem dX6_whatIs_15 : decode cX6_whatIs 15 = .ok (.lconst 0, 1) := by decide +kernel
theorem dX6_whatIs_16 : decode cX6_whatIs 16 = .ok (.lconst 1, 1) := by decide +kernel
theorem dX6_whatIs_17 : decode cX6_whatIs 17 = .ok (.invokestatic 81, 3) := by decide +kernel
theorem dX6_whatIs_20 : decode cX6_whatIs 20 = .ok (.ifCond .eq 11, 3) := by decide +kernel
theorem dX6_whatIs_23 : decode cX6_whatIs 23 = .ok (.aload_n 0, 1) := by decide +kernel
theorem dX6_whatIs_24 : decode cX6_whatIs 24 = .ok (.iload_n 1, 1) := by decide +kernel
theorem dX6_whatIs_25 : decode cX6_whatIs 25 = .ok (.invokevirtual 184, 3) := by decide +kernel
theorem dX6_whatIs_28 : decode cX6_whatIs 28 = .ok (.goto 4, 3) := by decide +kernel
theorem dX6_whatIs_31 : decode cX6_whatIs 31 = .ok (.iconst (-1), 1) := by decide +kernel
theorem dX6_whatIs_32 : decode cX6_whatIs 32 = .ok (.istore 4, 2) := by decide +kernel
theorem dX6_whatIs_34 : decode cX6_whatIs 34 = .ok (.iload 4, 2) := by decide +kernel
theorem dX6_whatIs_36 : decode cX6_whatIs 36 = .ok (.ifCond .ge 6, 3) := by decide +kernel
theorem dX6_whatIs_39 : decode cX6_whatIs 39 = .ok (.iload 4, 2) := by decide +kernel
theorem dX6_whatIs_41 : decode cX6_whatIs 41 = .ok (.ireturn, 1) := by decide +kernel
theorem dX6_whatIs_42 : decode cX6_whatIs 42 = .ok (.iconst 0, 1) := by decide +kernel
theorem dX6_whatIs_43 : decode cX6_whatIs 43 = .ok (.istore 5, 2) := by decide +kernel
theorem dX6_whatIs_45 : decode cX6_whatIs 45 = .ok (.aload_n 0, 1) := by decide +kernel
theorem dX6_whatIs_46 : decode cX6_whatIs 46 = .ok (.invokevirtual 190, 3) := by decide +kernel
theorem dX6_whatIs_49 : decode cX6_whatIs 49 = .ok (.iconst 0, 1) := by decide +kernel
theorem dX6_whatIs_50 : decode cX6_whatIs 50 = .ok (.istore 6, 2) := by decide +kernel
theorem dX6_whatIs_52 : decode cX6_whatIs 52 = .ok (.iload 6, 2) := by decide +kernel
theorem dX6_whatIs_54 : decode cX6_whatIs 54 = .ok (.iload_n 3, 1) := by decide +kernel
theorem dX6_whatIs_55 : decode cX6_whatIs 55 = .ok (.ifCond .ne 8, 3) := by decide +kernel
theorem dX6_whatIs_58 : decode cX6_whatIs 58 = .ok (.bipush 8, 2) := by decide +kernel
theorem dX6_whatIs_60 : decode cX6_whatIs 60 = .ok (.goto 5, 3) := by decide +kernel
theorem dX6_whatIs_63 : decode cX6_whatIs 63 = .ok (.bipush 10, 2) := by decide +kernel
theorem dX6_whatIs_65 : decode cX6_whatIs 65 = .ok (.if_icmp .ge 74, 3) := by decide +kernel
theorem dX6_whatIs_68 : decode cX6_whatIs 68 = .ok (.aload_n 0, 1) := by decide +kernel
theorem dX6_whatIs_69 : decode cX6_whatIs 69 = .ok (.getfield 13, 3) := by decide +kernel
theorem dX6_whatIs_72 : decode cX6_whatIs 72 = .ok (.iload_n 2, 1) := by decide +kernel
theorem dX6_whatIs_73 : decode cX6_whatIs 73 = .ok (.iload_n 3, 1) := by decide +kernel
theorem dX6_whatIs_74 : decode cX6_whatIs 74 = .ok (.ifCond .ne 8, 3) := by decide +kernel
theorem dX6_whatIs_77 : decode cX6_whatIs 77 = .ok (.iload 6, 2) := by decide +kernel
theorem dX6_whatIs_79 : decode cX6_whatIs 79 = .ok (.goto 9, 3) := by decide +kernel
theorem dX6_whatIs_82 : decode cX6_whatIs 82 = .ok (.aload_n 0, 1) := by decide +kernel
theorem dX6_whatIs_83 : decode cX6_whatIs 83 = .ok (.getfield 13, 3) := by decide +kernel
theorem dX6_whatIs_86 : decode cX6_whatIs 86 = .ok (.iload_n 2, 1) := by decide +kernel
theorem dX6_whatIs_87 : decode cX6_whatIs 87 = .ok (.iaload, 1) := by decide +kernel
theorem dX6_whatIs_88 : decode cX6_whatIs 88 = .ok (.iastore, 1) := by decide +kernel
theorem dX6_whatIs_89 : decode cX6_whatIs 89 = .ok (.aload_n 0, 1) := by decide +kernel
theorem dX6_whatIs_90 : decode cX6_whatIs 90 = .ok (.getfield 16, 3) := by decide +kernel
theorem dX6_whatIs_93 : decode cX6_whatIs 93 = .ok (.iload_n 2, 1) := by decide +kernel
theorem dX6_whatIs_94 : decode cX6_whatIs 94 = .ok (.iload_n 3, 1) := by decide +kernel
theorem dX6_whatIs_95 : decode cX6_whatIs 95 = .ok (.iconst 1, 1) := by decide +kernel
theorem dX6_whatIs_96 : decode cX6_whatIs 96 = .ok (.if_icmp .ne 8, 3) := by decide +kernel
theorem dX6_whatIs_99 : decode cX6_whatIs 99 = .ok (.iload 6, 2) := by decide +kernel
theorem dX6_whatIs_101 : decode cX6_whatIs 101 = .ok (.goto 9, 3) := by decide +kernel
theorem dX6_whatIs_104 : decode cX6_whatIs 104 = .ok (.aload_n 0, 1) := by decide +kernel
theorem dX6_whatIs_105 : decode cX6_whatIs 105 = .ok (.getfield 16, 3) := by decide +kernel
theorem dX6_whatIs_108 : decode cX6_whatIs 108 = .ok (.iload_n 2, 1) := by decide +kernel
theorem dX6_whatIs_109 : decode cX6_whatIs 109 = .ok (.iaload, 1) := by decide +kernel
theorem dX6_whatIs_110 : decode cX6_whatIs 110 = .ok (.iastore, 1) := by decide +kernel
theorem dX6_whatIs_111 : decode cX6_whatIs 111 = .ok (.iload 5, 2) := by decide +kernel
theorem dX6_whatIs_113 : decode cX6_whatIs 113 = .ok (.aload_n 0, 1) := by decide +kernel
theorem dX6_whatIs_114 : decode cX6_whatIs 114 = .ok (.iload_n 1, 1) := by decide +kernel
theorem dX6_whatIs_115 : decode cX6_whatIs 115 = .ok (.iload_n 2, 1) := by decide +kernel
theorem dX6_whatIs_116 : decode cX6_whatIs 116 = .ok (.invokevirtual 287, 3) := by decide +kernel
theorem dX6_whatIs_119 : decode cX6_whatIs 119 = .ok (.ifCond .eq 10, 3) := by decide +kernel
theorem dX6_whatIs_122 : decode cX6_whatIs 122 = .ok (.iconst 1, 1) := by decide +kernel
theorem dX6_whatIs_123 : decode cX6_whatIs 123 = .ok (.iload 6, 2) := by decide +kernel
theorem dX6_whatIs_125 : decode cX6_whatIs 125 = .ok (.ishl, 1) := by decide +kernel
theorem dX6_whatIs_126 : decode cX6_whatIs 126 = .ok (.goto 4, 3) := by decide +kernel
theorem dX6_whatIs_129 : decode cX6_whatIs 129 = .ok (.iconst 0, 1) := by decide +kernel
theorem dX6_whatIs_130 : decode cX6_whatIs 130 = .ok (.ior, 1) := by decide +kernel
theorem dX6_whatIs_131 : decode cX6_whatIs 131 = .ok (.istore 5, 2) := by decide +kernel
