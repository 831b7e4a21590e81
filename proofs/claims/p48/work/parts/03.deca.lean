theorem dJ9_max_7cf53_0 : decode cJ9_max_7cf53 0 = .ok (.iload_n 0, 1) := by decide +kernel
theorem dJ9_max_7cf53_1 : decode cJ9_max_7cf53 1 = .ok (.iload_n 1, 1) := by decide +kernel
theorem dJ9_max_7cf53_2 : decode cJ9_max_7cf53 2 = .ok (.if_icmp .lt 7, 3) := by decide +kernel
theorem dJ9_max_7cf53_5 : decode cJ9_max_7cf53 5 = .ok (.iload_n 0, 1) := by decide +kernel
theorem dJ9_max_7cf53_6 : decode cJ9_max_7cf53 6 = .ok (.goto 4, 3) := by decide +kernel
theorem dJ9_max_7cf53_9 : decode cJ9_max_7cf53 9 = .ok (.iload_n 1, 1) := by decide +kernel
theorem dJ9_max_7cf53_10 : decode cJ9_max_7cf53 10 = .ok (.ireturn, 1) := by decide +kernel
theorem dJ9_min_7cf53_0 : decode cJ9_min_7cf53 0 = .ok (.iload_n 0, 1) := by decide +kernel
theorem dJ9_min_7cf53_1 : decode cJ9_min_7cf53 1 = .ok (.iload_n 1, 1) := by decide +kernel
theorem dJ9_min_7cf53_2 : decode cJ9_min_7cf53 2 = .ok (.if_icmp .gt 7, 3) := by decide +kernel
theorem dJ9_min_7cf53_5 : decode cJ9_min_7cf53 5 = .ok (.iload_n 0, 1) := by decide +kernel
theorem dJ9_min_7cf53_6 : decode cJ9_min_7cf53 6 = .ok (.goto 4, 3) := by decide +kernel
theorem dJ9_min_7cf53_9 : decode cJ9_min_7cf53 9 = .ok (.iload_n 1, 1) := by decide +kernel
theorem dJ9_min_7cf53_10 : decode cJ9_min_7cf53 10 = .ok (.ireturn, 1) := by decide +kernel
theorem dJ7_fill_53178_0 : decode cJ7_fill_53178 0 = .ok (.iconst 0, 1) := by decide +kernel
theorem dJ7_fill_53178_1 : decode cJ7_fill_53178 1 = .ok (.istore_n 2, 1) := by decide +kernel
theorem dJ7_fill_53178_2 : decode cJ7_fill_53178 2 = .ok (.aload_n 0, 1) := by decide +kernel
theorem dJ7_fill_53178_3 : decode cJ7_fill_53178 3 = .ok (.arraylength, 1) := by decide +kernel
theorem dJ7_fill_53178_4 : decode cJ7_fill_53178 4 = .ok (.istore_n 3, 1) := by decide +kernel
theorem dJ7_fill_53178_5 : decode cJ7_fill_53178 5 = .ok (.iload_n 2, 1) := by decide +kernel
theorem dJ7_fill_53178_6 : decode cJ7_fill_53178 6 = .ok (.iload_n 3, 1) := by decide +kernel
theorem dJ7_fill_53178_7 : decode cJ7_fill_53178 7 = .ok (.if_icmp .ge 13, 3) := by decide +kernel
theorem dJ7_fill_53178_10 : decode cJ7_fill_53178 10 = .ok (.aload_n 0, 1) := by decide +kernel
theorem dJ7_fill_53178_11 : decode cJ7_fill_53178 11 = .ok (.iload_n 2, 1) := by decide +kernel
theorem dJ7_fill_53178_12 : decode cJ7_fill_53178 12 = .ok (.iload_n 1, 1) := by decide +kernel
theorem dJ7_fill_53178_13 : decode cJ7_fill_53178 13 = .ok (.iastore, 1) := by decide +kernel
theorem dJ7_fill_53178_14 : decode cJ7_fill_53178 14 = .ok (.iinc 2 1, 3) := by decide +kernel
theorem dJ7_fill_53178_17 : decode cJ7_fill_53178 17 = .ok (.goto (-12), 3) := by decide +kernel
theorem dJ7_fill_53178_20 : decode cJ7_fill_53178 20 = .ok (.return_, 1) := by decide +kernel
theorem dX0_init_0 : decode cX0_init 0 = .ok (.aload_n 0, 1) := by decide +kernel
theorem dX0_init_1 : decode cX0_init 1 = .ok (.invokespecial 3, 3) := by decide +kernel
theorem dX0_init_4 : decode cX0_init 4 = .ok (.aload_n 0, 1) := by decide +kernel
theorem dX0_init_5 : decode cX0_init 5 = .ok (.new 9, 3) := by decide +kernel
theorem dX0_init_8 : decode cX0_init 8 = .ok (.dup, 1) := by decide +kernel
theorem dX0_init_9 : decode cX0_init 9 = .ok (.invokespecial 11, 3) := by decide +kernel
theorem dX0_init_12 : decode cX0_init 12 = .ok (.putfield 12, 3) := by decide +kernel
theorem dX0_init_15 : decode cX0_init 15 = .ok (.aload_n 0, 1) := by decide +kernel
theorem dX0_init_16 : decode cX0_init 16 = .ok (.new 9, 3) := by decide +kernel
theorem dX0_init_19 : decode cX0_init 19 = .ok (.dup, 1) := by decide +kernel
theorem dX0_init_20 : decode cX0_init 20 = .ok (.invokespecial 11, 3) := by decide +kernel
theorem dX0_init_23 : decode cX0_init 23 = .ok (.putfield 18, 3) := by decide +kernel
theorem dX0_init_26 : decode cX0_init 26 = .ok (.aload_n 0, 1) := by decide +kernel
theorem dX0_init_27 : decode cX0_init 27 = .ok (.new 21, 3) := by decide +kernel
theorem dX0_init_30 : decode cX0_init 30 = .ok (.dup, 1) := by decide +kernel
theorem dX0_init_31 : decode cX0_init 31 = .ok (.invokespecial 23, 3) := by decide +kernel
theorem dX0_init_34 : decode cX0_init 34 = .ok (.putfield 24, 3) := by decide +kernel
theorem dX0_init_37 : decode cX0_init 37 = .ok (.return_, 1) := by decide +kernel
theorem dX0_takes_0 : decode cX0_takes 0 = .ok (.aload_n 0, 1) := by decide +kernel
theorem dX0_takes_1 : decode cX0_takes 1 = .ok (.getfield 12, 3) := by decide +kernel
theorem dX0_takes_4 : decode cX0_takes 4 = .ok (.aload_n 1, 1) := by decide +kernel
theorem dX0_takes_5 : decode cX0_takes 5 = .ok (.invokevirtual 28, 3) := by decide +kernel
theorem dX0_takes_8 : decode cX0_takes 8 = .ok (.aload_n 0, 1) := by decide +kernel
theorem dX0_takes_9 : decode cX0_takes 9 = .ok (.getfield 12, 3) := by decide +kernel
theorem dX0_takes_12 : decode cX0_takes 12 = .ok (.iload_n 2, 1) := by decide +kernel
theorem dX0_takes_13 : decode cX0_takes 13 = .ok (.iload_n 3, 1) := by decide +kernel
theorem dX0_takes_14 : decode cX0_takes 14 = .ok (.invokevirtual 32, 3) := by decide +kernel
theorem dX0_takes_17 : decode cX0_takes 17 = .ok (.ireturn, 1) := by decide +kernel
theorem dX0_isWinning_0 : decode cX0_isWinning 0 = .ok (.aload_n 0, 1) := by decide +kernel
theorem dX0_isWinning_1 : decode cX0_isWinning 1 = .ok (.getfield 18, 3) := by decide +kernel
theorem dX0_isWinning_4 : decode cX0_isWinning 4 = .ok (.aload_n 1, 1) := by decide +kernel
theorem dX0_isWinning_5 : decode cX0_isWinning 5 = .ok (.invokevirtual 28, 3) := by decide +kernel
theorem dX0_isWinning_8 : decode cX0_isWinning 8 = .ok (.aload_n 0, 1) := by decide +kernel
theorem dX0_isWinning_9 : decode cX0_isWinning 9 = .ok (.getfield 18, 3) := by decide +kernel
theorem dX0_isWinning_12 : decode cX0_isWinning 12 = .ok (.iload_n 2, 1) := by decide +kernel
theorem dX0_isWinning_13 : decode cX0_isWinning 13 = .ok (.iload_n 3, 1) := by decide +kernel
theorem dX0_isWinning_14 : decode cX0_isWinning 14 = .ok (.invokevirtual 32, 3) := by decide +kernel
theorem dX0_isWinning_17 : decode cX0_isWinning 17 = .ok (.pop, 1) := by decide +kernel
theorem dX0_isWinning_18 : decode cX0_isWinning 18 = .ok (.aload_n 0, 1) := by decide +kernel
theorem dX0_isWinning_19 : decode cX0_isWinning 19 = .ok (.getfield 18, 3) := by decide +kernel
theorem dX0_isWinning_22 : decode cX0_isWinning 22 = .ok (.iload_n 3, 1) := by decide +kernel
theorem dX0_isWinning_23 : decode cX0_isWinning 23 = .ok (.aload_n 1, 1) := by decide +kernel
theorem dX0_isWinning_24 : decode cX0_isWinning 24 = .ok (.getfield 36, 3) := by decide +kernel
theorem dX0_isWinning_27 : decode cX0_isWinning 27 = .ok (.ifCond .lt 7, 3) := by decide +kernel
theorem dX0_isWinning_30 : decode cX0_isWinning 30 = .ok (.iconst 1, 1) := by decide +kernel
theorem dX0_isWinning_31 : decode cX0_isWinning 31 = .ok (.goto 4, 3) := by decide +kernel
theorem dX0_isWinning_34 : decode cX0_isWinning 34 = .ok (.iconst 0, 1) := by decide +kernel
theorem dX0_isWinning_35 : decode cX0_isWinning 35 = .ok (.invokevirtual 40, 3) := by decide +kernel
theorem dX0_isWinning_38 : decode cX0_isWinning 38 = .ok (.ireturn, 1) := by decide +kernel
theorem dX0_countWinning_0 : decode cX0_countWinning 0 = .ok (.aload_n 1, 1) := by decide +kernel
theorem dX0_countWinning_1 : decode cX0_countWinning 1 = .ok (.iload_n 2, 1) := by decide +kernel
theorem dX0_countWinning_2 : decode cX0_countWinning 2 = .ok (.aload_n 0, 1) := by decide +kernel
theorem dX0_countWinning_3 : decode cX0_countWinning 3 = .ok (.getfield 24, 3) := by decide +kernel
theorem dX0_countWinning_6 : decode cX0_countWinning 6 = .ok (.invokevirtual 44, 3) := by decide +kernel
theorem dX0_countWinning_9 : decode cX0_countWinning 9 = .ok (.iconst 0, 1) := by decide +kernel
theorem dX0_countWinning_10 : decode cX0_countWinning 10 = .ok (.istore_n 3, 1) := by decide +kernel
theorem dX0_countWinning_11 : decode cX0_countWinning 11 = .ok (.iconst 0, 1) := by decide +kernel
theorem dX0_countWinning_12 : decode cX0_countWinning 12 = .ok (.istore 4, 2) := by decide +kernel
theorem dX0_countWinning_14 : decode cX0_countWinning 14 = .ok (.iload 4, 2) := by decide +kernel
theorem dX0_countWinning_16 : decode cX0_countWinning 16 = .ok (.aload_n 0, 1) := by decide +kernel
theorem dX0_countWinning_17 : decode cX0_countWinning 17 = .ok (.getfield 24, 3) := by decide +kernel
theorem dX0_countWinning_20 : decode cX0_countWinning 20 = .ok (.getfield 48, 3) := by decide +kernel
theorem dX0_countWinning_23 : decode cX0_countWinning 23 = .ok (.if_icmp .ge 41, 3) := by decide +kernel
theorem dX0_countWinning_26 : decode cX0_countWinning 26 = .ok (.aload_n 0, 1) := by decide +kernel
theorem dX0_countWinning_27 : decode cX0_countWinning 27 = .ok (.getfield 24, 3) := by decide +kernel
theorem dX0_countWinning_30 : decode cX0_countWinning 30 = .ok (.iload 4, 2) := by decide +kernel
theorem dX0_countWinning_32 : decode cX0_countWinning 32 = .ok (.invokevirtual 51, 3) := by decide +kernel
theorem dX0_countWinning_35 : decode cX0_countWinning 35 = .ok (.istore 5, 2) := by decide +kernel
theorem dX0_countWinning_37 : decode cX0_countWinning 37 = .ok (.aload_n 0, 1) := by decide +kernel
theorem dX0_countWinning_38 : decode cX0_countWinning 38 = .ok (.aload_n 1, 1) := by decide +kernel
theorem dX0_countWinning_39 : decode cX0_countWinning 39 = .ok (.iload 5, 2) := by decide +kernel
theorem dX0_countWinning_41 : decode cX0_countWinning 41 = .ok (.bipush 49, 2) := by decide +kernel
theorem dX0_countWinning_43 : decode cX0_countWinning 43 = .ok (.idiv, 1) := by decide +kernel
theorem dX0_countWinning_44 : decode cX0_countWinning 44 = .ok (.iload 5, 2) := by decide +kernel
theorem dX0_countWinning_46 : decode cX0_countWinning 46 = .ok (.bipush 49, 2) := by decide +kernel
theorem dX0_countWinning_48 : decode cX0_countWinning 48 = .ok (.irem, 1) := by decide +kernel
theorem dX0_countWinning_49 : decode cX0_countWinning 49 = .ok (.invokevirtual 55, 3) := by decide +kernel
theorem dX0_countWinning_52 : decode cX0_countWinning 52 = .ok (.ifCond .eq 6, 3) := by decide +kernel
theorem dX0_countWinning_55 : decode cX0_countWinning 55 = .ok (.iinc 3 1, 3) := by decide +kernel
theorem dX0_countWinning_58 : decode cX0_countWinning 58 = .ok (.iinc 4 1, 3) := by decide +kernel
theorem dX0_countWinning_61 : decode cX0_countWinning 61 = .ok (.goto (-47), 3) := by decide +kernel
theorem dX0_countWinning_64 : decode cX0_countWinning 64 = .ok (.iload_n 3, 1) := by decide +kernel
theorem dX0_countWinning_65 : decode cX0_countWinning 65 = .ok (.ireturn, 1) := by decide +kernel
theorem dX0_worth_0 : decode cX0_worth 0 = .ok (.aload_n 1, 1) := by decide +kernel
theorem dX0_worth_1 : decode cX0_worth 1 = .ok (.iload_n 2, 1) := by decide +kernel
theorem dX0_worth_2 : decode cX0_worth 2 = .ok (.invokevirtual 59, 3) := by decide +kernel
theorem dX0_worth_5 : decode cX0_worth 5 = .ok (.invokestatic 62, 3) := by decide +kernel
theorem dX0_worth_8 : decode cX0_worth 8 = .ok (.istore 4, 2) := by decide +kernel
theorem dX0_worth_10 : decode cX0_worth 10 = .ok (.aload_n 0, 1) := by decide +kernel
theorem dX0_worth_11 : decode cX0_worth 11 = .ok (.aload_n 1, 1) := by decide +kernel
theorem dX0_worth_12 : decode cX0_worth 12 = .ok (.iload_n 2, 1) := by decide +kernel
theorem dX0_worth_13 : decode cX0_worth 13 = .ok (.iload_n 3, 1) := by decide +kernel
theorem dX0_worth_14 : decode cX0_worth 14 = .ok (.invokevirtual 65, 3) := by decide +kernel
theorem dX0_worth_17 : decode cX0_worth 17 = .ok (.istore 5, 2) := by decide +kernel
theorem dX0_worth_19 : decode cX0_worth 19 = .ok (.aload_n 0, 1) := by decide +kernel
theorem dX0_worth_20 : decode cX0_worth 20 = .ok (.getfield 12, 3) := by decide +kernel
theorem dX0_worth_23 : decode cX0_worth 23 = .ok (.iload_n 3, 1) := by decide +kernel
theorem dX0_worth_24 : decode cX0_worth 24 = .ok (.aload_n 1, 1) := by decide +kernel
theorem dX0_worth_25 : decode cX0_worth 25 = .ok (.getfield 36, 3) := by decide +kernel
theorem dX0_worth_28 : decode cX0_worth 28 = .ok (.ifCond .lt 7, 3) := by decide +kernel
theorem dX0_worth_31 : decode cX0_worth 31 = .ok (.iconst 1, 1) := by decide +kernel
theorem dX0_worth_32 : decode cX0_worth 32 = .ok (.goto 4, 3) := by decide +kernel
theorem dX0_worth_35 : decode cX0_worth 35 = .ok (.iconst 0, 1) := by decide +kernel
theorem dX0_worth_36 : decode cX0_worth 36 = .ok (.invokevirtual 40, 3) := by decide +kernel
theorem dX0_worth_39 : decode cX0_worth 39 = .ok (.ifCond .eq 7, 3) := by decide +kernel
theorem dX0_worth_42 : decode cX0_worth 42 = .ok (.sipush 1000, 3) := by decide +kernel
theorem dX0_worth_45 : decode cX0_worth 45 = .ok (.ireturn, 1) := by decide +kernel
theorem dX0_worth_46 : decode cX0_worth 46 = .ok (.bipush 20, 2) := by decide +kernel
theorem dX0_worth_48 : decode cX0_worth 48 = .ok (.iload 5, 2) := by decide +kernel
theorem dX0_worth_50 : decode cX0_worth 50 = .ok (.imul, 1) := by decide +kernel
theorem dX0_worth_51 : decode cX0_worth 51 = .ok (.bipush 100, 2) := by decide +kernel
theorem dX0_worth_53 : decode cX0_worth 53 = .ok (.aload_n 0, 1) := by decide +kernel
theorem dX0_worth_54 : decode cX0_worth 54 = .ok (.aload_n 0, 1) := by decide +kernel
theorem dX0_worth_55 : decode cX0_worth 55 = .ok (.getfield 12, 3) := by decide +kernel
theorem dX0_worth_58 : decode cX0_worth 58 = .ok (.iconst 1, 1) := by decide +kernel
theorem dX0_worth_59 : decode cX0_worth 59 = .ok (.iload 4, 2) := by decide +kernel
theorem dX0_worth_61 : decode cX0_worth 61 = .ok (.isub, 1) := by decide +kernel
theorem dX0_worth_62 : decode cX0_worth 62 = .ok (.invokevirtual 69, 3) := by decide +kernel
theorem dX0_worth_65 : decode cX0_worth 65 = .ok (.imul, 1) := by decide +kernel
theorem dX0_worth_66 : decode cX0_worth 66 = .ok (.isub, 1) := by decide +kernel
theorem dX0_worth_67 : decode cX0_worth 67 = .ok (.ireturn, 1) := by decide +kernel
theorem dX2_init_0 : decode cX2_init 0 = .ok (.aload_n 0, 1) := by decide +kernel
theorem dX2_init_1 : decode cX2_init 1 = .ok (.invokespecial 3, 3) := by decide +kernel
theorem dX2_init_4 : decode cX2_init 4 = .ok (.aload_n 0, 1) := by decide +kernel
theorem dX2_init_5 : decode cX2_init 5 = .ok (.bipush 49, 2) := by decide +kernel
theorem dX2_init_7 : decode cX2_init 7 = .ok (.newarray .int, 2) := by decide +kernel
theorem dX2_init_9 : decode cX2_init 9 = .ok (.putfield 9, 3) := by decide +kernel
theorem dX2_init_12 : decode cX2_init 12 = .ok (.aload_n 0, 1) := by decide +kernel
theorem dX2_init_13 : decode cX2_init 13 = .ok (.bipush 49, 2) := by decide +kernel
theorem dX2_init_15 : decode cX2_init 15 = .ok (.newarray .int, 2) := by decide +kernel
theorem dX2_init_17 : decode cX2_init 17 = .ok (.putfield 15, 3) := by decide +kernel
theorem dX2_init_20 : decode cX2_init 20 = .ok (.return_, 1) := by decide +kernel
theorem dX2_byRounds_0 : decode cX2_byRounds 0 = .ok (.aload_n 0, 1) := by decide +kernel
theorem dX2_byRounds_1 : decode cX2_byRounds 1 = .ok (.aload_n 1, 1) := by decide +kernel
theorem dX2_byRounds_2 : decode cX2_byRounds 2 = .ok (.aload_n 1, 1) := by decide +kernel
theorem dX2_byRounds_3 : decode cX2_byRounds 3 = .ok (.getfield 18, 3) := by decide +kernel
theorem dX2_byRounds_6 : decode cX2_byRounds 6 = .ok (.invokevirtual 24, 3) := by decide +kernel
theorem dX2_byRounds_9 : decode cX2_byRounds 9 = .ok (.iconst (-1), 1) := by decide +kernel
theorem dX2_byRounds_10 : decode cX2_byRounds 10 = .ok (.istore_n 2, 1) := by decide +kernel
theorem dX2_byRounds_11 : decode cX2_byRounds 11 = .ok (.getstatic 28, 3) := by decide +kernel
theorem dX2_byRounds_14 : decode cX2_byRounds 14 = .ok (.astore_n 3, 1) := by decide +kernel
theorem dX2_byRounds_15 : decode cX2_byRounds 15 = .ok (.aload_n 3, 1) := by decide +kernel
theorem dX2_byRounds_16 : decode cX2_byRounds 16 = .ok (.arraylength, 1) := by decide +kernel
theorem dX2_byRounds_17 : decode cX2_byRounds 17 = .ok (.istore 4, 2) := by decide +kernel
theorem dX2_byRounds_19 : decode cX2_byRounds 19 = .ok (.iconst 0, 1) := by decide +kernel
theorem dX2_byRounds_20 : decode cX2_byRounds 20 = .ok (.istore 5, 2) := by decide +kernel
theorem dX2_byRounds_22 : decode cX2_byRounds 22 = .ok (.iload 5, 2) := by decide +kernel
theorem dX2_byRounds_24 : decode cX2_byRounds 24 = .ok (.iload 4, 2) := by decide +kernel
theorem dX2_byRounds_26 : decode cX2_byRounds 26 = .ok (.if_icmp .ge 26, 3) := by decide +kernel
theorem dX2_byRounds_29 : decode cX2_byRounds 29 = .ok (.aload_n 3, 1) := by decide +kernel
theorem dX2_byRounds_30 : decode cX2_byRounds 30 = .ok (.iload 5, 2) := by decide +kernel
theorem dX2_byRounds_32 : decode cX2_byRounds 32 = .ok (.iaload, 1) := by decide +kernel
theorem dX2_byRounds_33 : decode cX2_byRounds 33 = .ok (.istore 6, 2) := by decide +kernel
theorem dX2_byRounds_35 : decode cX2_byRounds 35 = .ok (.iload_n 2, 1) := by decide +kernel
theorem dX2_byRounds_36 : decode cX2_byRounds 36 = .ok (.aload_n 0, 1) := by decide +kernel
theorem dX2_byRounds_37 : decode cX2_byRounds 37 = .ok (.iload 6, 2) := by decide +kernel
theorem dX2_byRounds_39 : decode cX2_byRounds 39 = .ok (.invokevirtual 31, 3) := by decide +kernel
theorem dX2_byRounds_42 : decode cX2_byRounds 42 = .ok (.invokestatic 35, 3) := by decide +kernel
theorem dX2_byRounds_45 : decode cX2_byRounds 45 = .ok (.istore_n 2, 1) := by decide +kernel
theorem dX2_byRounds_46 : decode cX2_byRounds 46 = .ok (.iinc 5 1, 3) := by decide +kernel
theorem dX2_byRounds_49 : decode cX2_byRounds 49 = .ok (.goto (-27), 3) := by decide +kernel
theorem dX2_byRounds_52 : decode cX2_byRounds 52 = .ok (.iload_n 2, 1) := by decide +kernel
theorem dX2_byRounds_53 : decode cX2_byRounds 53 = .ok (.ireturn, 1) := by decide +kernel
theorem dX2_byCorners_0 : decode cX2_byCorners 0 = .ok (.aload_n 1, 1) := by decide +kernel
theorem dX2_byCorners_1 : decode cX2_byCorners 1 = .ok (.getfield 18, 3) := by decide +kernel
theorem dX2_byCorners_4 : decode cX2_byCorners 4 = .ok (.ifCond .ge 5, 3) := by decide +kernel
theorem dX2_byCorners_7 : decode cX2_byCorners 7 = .ok (.iconst (-1), 1) := by decide +kernel
theorem dX2_byCorners_8 : decode cX2_byCorners 8 = .ok (.ireturn, 1) := by decide +kernel
theorem dX2_byCorners_9 : decode cX2_byCorners 9 = .ok (.iconst (-1), 1) := by decide +kernel
theorem dX2_byCorners_10 : decode cX2_byCorners 10 = .ok (.istore_n 2, 1) := by decide +kernel
theorem dX2_byCorners_11 : decode cX2_byCorners 11 = .ok (.getstatic 28, 3) := by decide +kernel
theorem dX2_byCorners_14 : decode cX2_byCorners 14 = .ok (.astore_n 3, 1) := by decide +kernel
theorem dX2_byCorners_15 : decode cX2_byCorners 15 = .ok (.aload_n 3, 1) := by decide +kernel
theorem dX2_byCorners_16 : decode cX2_byCorners 16 = .ok (.arraylength, 1) := by decide +kernel
theorem dX2_byCorners_17 : decode cX2_byCorners 17 = .ok (.istore 4, 2) := by decide +kernel
theorem dX2_byCorners_19 : decode cX2_byCorners 19 = .ok (.iconst 0, 1) := by decide +kernel
theorem dX2_byCorners_20 : decode cX2_byCorners 20 = .ok (.istore 5, 2) := by decide +kernel
theorem dX2_byCorners_22 : decode cX2_byCorners 22 = .ok (.iload 5, 2) := by decide +kernel
theorem dX2_byCorners_24 : decode cX2_byCorners 24 = .ok (.iload 4, 2) := by decide +kernel
theorem dX2_byCorners_26 : decode cX2_byCorners 26 = .ok (.if_icmp .ge 35, 3) := by decide +kernel
theorem dX2_byCorners_29 : decode cX2_byCorners 29 = .ok (.aload_n 3, 1) := by decide +kernel
theorem dX2_byCorners_30 : decode cX2_byCorners 30 = .ok (.iload 5, 2) := by decide +kernel
theorem dX2_byCorners_32 : decode cX2_byCorners 32 = .ok (.iaload, 1) := by decide +kernel
theorem dX2_byCorners_33 : decode cX2_byCorners 33 = .ok (.istore 6, 2) := by decide +kernel
theorem dX2_byCorners_35 : decode cX2_byCorners 35 = .ok (.aload_n 0, 1) := by decide +kernel
theorem dX2_byCorners_36 : decode cX2_byCorners 36 = .ok (.aload_n 1, 1) := by decide +kernel
theorem dX2_byCorners_37 : decode cX2_byCorners 37 = .ok (.iload 6, 2) := by decide +kernel
theorem dX2_byCorners_39 : decode cX2_byCorners 39 = .ok (.invokevirtual 24, 3) := by decide +kernel
theorem dX2_byCorners_42 : decode cX2_byCorners 42 = .ok (.iload_n 2, 1) := by decide +kernel
theorem dX2_byCorners_43 : decode cX2_byCorners 43 = .ok (.aload_n 0, 1) := by decide +kernel
theorem dX2_byCorners_44 : decode cX2_byCorners 44 = .ok (.aload_n 1, 1) := by decide +kernel
theorem dX2_byCorners_45 : decode cX2_byCorners 45 = .ok (.getfield 18, 3) := by decide +kernel
theorem dX2_byCorners_48 : decode cX2_byCorners 48 = .ok (.invokevirtual 31, 3) := by decide +kernel
theorem dX2_byCorners_51 : decode cX2_byCorners 51 = .ok (.invokestatic 35, 3) := by decide +kernel
theorem dX2_byCorners_54 : decode cX2_byCorners 54 = .ok (.istore_n 2, 1) := by decide +kernel
theorem dX2_byCorners_55 : decode cX2_byCorners 55 = .ok (.iinc 5 1, 3) := by decide +kernel
theorem dX2_byCorners_58 : decode cX2_byCorners 58 = .ok (.goto (-36), 3) := by decide +kernel
theorem dX2_byCorners_61 : decode cX2_byCorners 61 = .ok (.iload_n 2, 1) := by decide +kernel
theorem dX2_byCorners_62 : decode cX2_byCorners 62 = .ok (.ireturn, 1) := by decide +kernel
theorem dX2_countReached_0 : decode cX2_countReached 0 = .ok (.aload_n 0, 1) := by decide +kernel
theorem dX2_countReached_1 : decode cX2_countReached 1 = .ok (.aload_n 1, 1) := by decide +kernel
theorem dX2_countReached_2 : decode cX2_countReached 2 = .ok (.aload_n 1, 1) := by decide +kernel
theorem dX2_countReached_3 : decode cX2_countReached 3 = .ok (.getfield 18, 3) := by decide +kernel
theorem dX2_countReached_6 : decode cX2_countReached 6 = .ok (.invokevirtual 24, 3) := by decide +kernel
theorem dX2_countReached_9 : decode cX2_countReached 9 = .ok (.iconst 0, 1) := by decide +kernel
theorem dX2_countReached_10 : decode cX2_countReached 10 = .ok (.aload_n 0, 1) := by decide +kernel
theorem dX2_countReached_11 : decode cX2_countReached 11 = .ok (.getfield 39, 3) := by decide +kernel
theorem dX2_countReached_14 : decode cX2_countReached 14 = .ok (.iconst 1, 1) := by decide +kernel
theorem dX2_countReached_15 : decode cX2_countReached 15 = .ok (.isub, 1) := by decide +kernel
theorem dX2_countReached_16 : decode cX2_countReached 16 = .ok (.invokestatic 42, 3) := by decide +kernel
theorem dX2_countReached_19 : decode cX2_countReached 19 = .ok (.ireturn, 1) := by decide +kernel
theorem dX2_lesser_0 : decode cX2_lesser 0 = .ok (.iload_n 1, 1) := by decide +kernel
theorem dX2_lesser_1 : decode cX2_lesser 1 = .ok (.ifCond .ge 5, 3) := by decide +kernel
theorem dX2_lesser_4 : decode cX2_lesser 4 = .ok (.iload_n 0, 1) := by decide +kernel
theorem dX2_lesser_5 : decode cX2_lesser 5 = .ok (.ireturn, 1) := by decide +kernel
theorem dX2_lesser_6 : decode cX2_lesser 6 = .ok (.iload_n 0, 1) := by decide +kernel
theorem dX2_lesser_7 : decode cX2_lesser 7 = .ok (.ifCond .ge 7, 3) := by decide +kernel
theorem dX2_lesser_10 : decode cX2_lesser 10 = .ok (.iload_n 1, 1) := by decide +kernel
theorem dX2_lesser_11 : decode cX2_lesser 11 = .ok (.goto 8, 3) := by decide +kernel
theorem dX2_lesser_14 : decode cX2_lesser 14 = .ok (.iload_n 0, 1) := by decide +kernel
theorem dX2_lesser_15 : decode cX2_lesser 15 = .ok (.iload_n 1, 1) := by decide +kernel
theorem dX2_lesser_16 : decode cX2_lesser 16 = .ok (.invokestatic 47, 3) := by decide +kernel
theorem dX2_lesser_19 : decode cX2_lesser 19 = .ok (.ireturn, 1) := by decide +kernel
theorem dX2_spread_0 : decode cX2_spread 0 = .ok (.aload_n 0, 1) := by decide +kernel
theorem dX2_spread_1 : decode cX2_spread 1 = .ok (.getfield 9, 3) := by decide +kernel
theorem dX2_spread_4 : decode cX2_spread 4 = .ok (.iconst (-1), 1) := by decide +kernel
theorem dX2_spread_5 : decode cX2_spread 5 = .ok (.invokestatic 50, 3) := by decide +kernel
theorem dX2_spread_8 : decode cX2_spread 8 = .ok (.aload_n 0, 1) := by decide +kernel
theorem dX2_spread_9 : decode cX2_spread 9 = .ok (.iconst 0, 1) := by decide +kernel
theorem dX2_spread_10 : decode cX2_spread 10 = .ok (.putfield 39, 3) := by decide +kernel
theorem dX2_spread_13 : decode cX2_spread 13 = .ok (.iload_n 2, 1) := by decide +kernel
theorem dX2_spread_14 : decode cX2_spread 14 = .ok (.ifCond .ge 4, 3) := by decide +kernel
theorem dX2_spread_17 : decode cX2_spread 17 = .ok (.return_, 1) := by decide +kernel
theorem dX2_spread_18 : decode cX2_spread 18 = .ok (.aload_n 0, 1) := by decide +kernel
theorem dX2_spread_19 : decode cX2_spread 19 = .ok (.iload_n 2, 1) := by decide +kernel
theorem dX2_spread_20 : decode cX2_spread 20 = .ok (.iconst 0, 1) := by decide +kernel
theorem dX2_spread_21 : decode cX2_spread 21 = .ok (.invokevirtual 56, 3) := by decide +kernel
theorem dX2_spread_24 : decode cX2_spread 24 = .ok (.iconst 0, 1) := by decide +kernel
theorem dX2_spread_25 : decode cX2_spread 25 = .ok (.istore_n 3, 1) := by decide +kernel
theorem dX2_spread_26 : decode cX2_spread 26 = .ok (.iload_n 3, 1) := by decide +kernel
theorem dX2_spread_27 : decode cX2_spread 27 = .ok (.bipush 49, 2) := by decide +kernel
theorem dX2_spread_29 : decode cX2_spread 29 = .ok (.if_icmp .ge 45, 3) := by decide +kernel
theorem dX2_spread_32 : decode cX2_spread 32 = .ok (.iload_n 3, 1) := by decide +kernel
theorem dX2_spread_33 : decode cX2_spread 33 = .ok (.aload_n 0, 1) := by decide +kernel
theorem dX2_spread_34 : decode cX2_spread 34 = .ok (.getfield 39, 3) := by decide +kernel
theorem dX2_spread_37 : decode cX2_spread 37 = .ok (.if_icmp .ge 37, 3) := by decide +kernel
theorem dX2_spread_40 : decode cX2_spread 40 = .ok (.iconst 0, 1) := by decide +kernel
theorem dX2_spread_41 : decode cX2_spread 41 = .ok (.istore 4, 2) := by decide +kernel
theorem dX2_spread_43 : decode cX2_spread 43 = .ok (.iload 4, 2) := by decide +kernel
theorem dX2_spread_45 : decode cX2_spread 45 = .ok (.iconst 4, 1) := by decide +kernel
theorem dX2_spread_46 : decode cX2_spread 46 = .ok (.if_icmp .ge 22, 3) := by decide +kernel
theorem dX2_spread_49 : decode cX2_spread 49 = .ok (.aload_n 0, 1) := by decide +kernel
theorem dX2_spread_50 : decode cX2_spread 50 = .ok (.aload_n 1, 1) := by decide +kernel
theorem dX2_spread_51 : decode cX2_spread 51 = .ok (.aload_n 0, 1) := by decide +kernel
theorem dX2_spread_52 : decode cX2_spread 52 = .ok (.getfield 15, 3) := by decide +kernel
theorem dX2_spread_55 : decode cX2_spread 55 = .ok (.iload_n 3, 1) := by decide +kernel
theorem dX2_spread_56 : decode cX2_spread 56 = .ok (.iaload, 1) := by decide +kernel
theorem dX2_spread_57 : decode cX2_spread 57 = .ok (.iload 4, 2) := by decide +kernel
theorem dX2_spread_59 : decode cX2_spread 59 = .ok (.invokevirtual 60, 3) := by decide +kernel
theorem dX2_spread_62 : decode cX2_spread 62 = .ok (.iinc 4 1, 3) := by decide +kernel
theorem dX2_spread_65 : decode cX2_spread 65 = .ok (.goto (-22), 3) := by decide +kernel
theorem dX2_spread_68 : decode cX2_spread 68 = .ok (.iinc 3 1, 3) := by decide +kernel
theorem dX2_spread_71 : decode cX2_spread 71 = .ok (.goto (-45), 3) := by decide +kernel
theorem dX2_spread_74 : decode cX2_spread 74 = .ok (.return_, 1) := by decide +kernel
theorem dX2_spreadFrom_0 : decode cX2_spreadFrom 0 = .ok (.aload_n 0, 1) := by decide +kernel
theorem dX2_spreadFrom_1 : decode cX2_spreadFrom 1 = .ok (.iload_n 2, 1) := by decide +kernel
theorem dX2_spreadFrom_2 : decode cX2_spreadFrom 2 = .ok (.invokevirtual 31, 3) := by decide +kernel
theorem dX2_spreadFrom_5 : decode cX2_spreadFrom 5 = .ok (.iconst 1, 1) := by decide +kernel
theorem dX2_spreadFrom_6 : decode cX2_spreadFrom 6 = .ok (.iadd, 1) := by decide +kernel
theorem dX2_spreadFrom_7 : decode cX2_spreadFrom 7 = .ok (.istore 4, 2) := by decide +kernel
theorem dX2_spreadFrom_9 : decode cX2_spreadFrom 9 = .ok (.iload_n 2, 1) := by decide +kernel
theorem dX2_spreadFrom_10 : decode cX2_spreadFrom 10 = .ok (.iload_n 3, 1) := by decide +kernel
theorem dX2_spreadFrom_11 : decode cX2_spreadFrom 11 = .ok (.invokestatic 64, 3) := by decide +kernel
theorem dX2_spreadFrom_14 : decode cX2_spreadFrom 14 = .ok (.istore 5, 2) := by decide +kernel
theorem dX2_spreadFrom_16 : decode cX2_spreadFrom 16 = .ok (.iconst 1, 1) := by decide +kernel
theorem dX2_spreadFrom_17 : decode cX2_spreadFrom 17 = .ok (.istore 6, 2) := by decide +kernel
theorem dX2_spreadFrom_19 : decode cX2_spreadFrom 19 = .ok (.iload 6, 2) := by decide +kernel
theorem dX2_spreadFrom_21 : decode cX2_spreadFrom 21 = .ok (.bipush 7, 2) := by decide +kernel
theorem dX2_spreadFrom_23 : decode cX2_spreadFrom 23 = .ok (.if_icmp .ge 43, 3) := by decide +kernel
theorem dX2_spreadFrom_26 : decode cX2_spreadFrom 26 = .ok (.aload_n 1, 1) := by decide +kernel
theorem dX2_spreadFrom_27 : decode cX2_spreadFrom 27 = .ok (.iload 5, 2) := by decide +kernel
theorem dX2_spreadFrom_29 : decode cX2_spreadFrom 29 = .ok (.invokestatic 67, 3) := by decide +kernel
theorem dX2_spreadFrom_32 : decode cX2_spreadFrom 32 = .ok (.ifCond .eq 34, 3) := by decide +kernel
theorem dX2_spreadFrom_35 : decode cX2_spreadFrom 35 = .ok (.aload_n 0, 1) := by decide +kernel
theorem dX2_spreadFrom_36 : decode cX2_spreadFrom 36 = .ok (.iload 5, 2) := by decide +kernel
theorem dX2_spreadFrom_38 : decode cX2_spreadFrom 38 = .ok (.invokevirtual 31, 3) := by decide +kernel
theorem dX2_spreadFrom_41 : decode cX2_spreadFrom 41 = .ok (.ifCond .ge 11, 3) := by decide +kernel
theorem dX2_spreadFrom_44 : decode cX2_spreadFrom 44 = .ok (.aload_n 0, 1) := by decide +kernel
theorem dX2_spreadFrom_45 : decode cX2_spreadFrom 45 = .ok (.iload 5, 2) := by decide +kernel
theorem dX2_spreadFrom_47 : decode cX2_spreadFrom 47 = .ok (.iload 4, 2) := by decide +kernel
theorem dX2_spreadFrom_49 : decode cX2_spreadFrom 49 = .ok (.invokevirtual 56, 3) := by decide +kernel
theorem dX2_spreadFrom_52 : decode cX2_spreadFrom 52 = .ok (.iload 5, 2) := by decide +kernel
theorem dX2_spreadFrom_54 : decode cX2_spreadFrom 54 = .ok (.iload_n 3, 1) := by decide +kernel
theorem dX2_spreadFrom_55 : decode cX2_spreadFrom 55 = .ok (.invokestatic 64, 3) := by decide +kernel
theorem dX2_spreadFrom_58 : decode cX2_spreadFrom 58 = .ok (.istore 5, 2) := by decide +kernel
theorem dX2_spreadFrom_60 : decode cX2_spreadFrom 60 = .ok (.iinc 6 1, 3) := by decide +kernel
theorem dX2_spreadFrom_63 : decode cX2_spreadFrom 63 = .ok (.goto (-44), 3) := by decide +kernel
theorem dX2_spreadFrom_66 : decode cX2_spreadFrom 66 = .ok (.return_, 1) := by decide +kernel
theorem dX2_isFree_0 : decode cX2_isFree 0 = .ok (.iload_n 1, 1) := by decide +kernel
theorem dX2_isFree_1 : decode cX2_isFree 1 = .ok (.ifCond .lt 23, 3) := by decide +kernel
theorem dX2_isFree_4 : decode cX2_isFree 4 = .ok (.iload_n 1, 1) := by decide +kernel
theorem dX2_isFree_5 : decode cX2_isFree 5 = .ok (.aload_n 0, 1) := by decide +kernel
theorem dX2_isFree_6 : decode cX2_isFree 6 = .ok (.getfield 18, 3) := by decide +kernel
theorem dX2_isFree_9 : decode cX2_isFree 9 = .ok (.if_icmp .eq 11, 3) := by decide +kernel
theorem dX2_isFree_12 : decode cX2_isFree 12 = .ok (.aload_n 0, 1) := by decide +kernel
theorem dX2_isFree_13 : decode cX2_isFree 13 = .ok (.iload_n 1, 1) := by decide +kernel
theorem dX2_isFree_14 : decode cX2_isFree 14 = .ok (.invokevirtual 71, 3) := by decide +kernel
theorem dX2_isFree_17 : decode cX2_isFree 17 = .ok (.ifCond .ne 7, 3) := by decide +kernel
theorem dX2_isFree_20 : decode cX2_isFree 20 = .ok (.iconst 1, 1) := by decide +kernel
theorem dX2_isFree_21 : decode cX2_isFree 21 = .ok (.goto 4, 3) := by decide +kernel
theorem dX2_isFree_24 : decode cX2_isFree 24 = .ok (.iconst 0, 1) := by decide +kernel
theorem dX2_isFree_25 : decode cX2_isFree 25 = .ok (.ireturn, 1) := by decide +kernel
theorem dX2_roundOf_0 : decode cX2_roundOf 0 = .ok (.iload_n 1, 1) := by decide +kernel
theorem dX2_roundOf_1 : decode cX2_roundOf 1 = .ok (.ifCond .lt 9, 3) := by decide +kernel
theorem dX2_roundOf_4 : decode cX2_roundOf 4 = .ok (.iload_n 1, 1) := by decide +kernel
theorem dX2_roundOf_5 : decode cX2_roundOf 5 = .ok (.bipush 49, 2) := by decide +kernel
theorem dX2_roundOf_7 : decode cX2_roundOf 7 = .ok (.if_icmp .lt 7, 3) := by decide +kernel
theorem dX2_roundOf_10 : decode cX2_roundOf 10 = .ok (.iconst (-1), 1) := by decide +kernel
theorem dX2_roundOf_11 : decode cX2_roundOf 11 = .ok (.goto 9, 3) := by decide +kernel
theorem dX2_roundOf_14 : decode cX2_roundOf 14 = .ok (.aload_n 0, 1) := by decide +kernel
theorem dX2_roundOf_15 : decode cX2_roundOf 15 = .ok (.getfield 9, 3) := by decide +kernel
theorem dX2_roundOf_18 : decode cX2_roundOf 18 = .ok (.iload_n 1, 1) := by decide +kernel
theorem dX2_roundOf_19 : decode cX2_roundOf 19 = .ok (.iaload, 1) := by decide +kernel
theorem dX2_roundOf_20 : decode cX2_roundOf 20 = .ok (.ireturn, 1) := by decide +kernel
theorem dX2_note_0 : decode cX2_note 0 = .ok (.iload_n 1, 1) := by decide +kernel
theorem dX2_note_1 : decode cX2_note 1 = .ok (.ifCond .lt 45, 3) := by decide +kernel
theorem dX2_note_4 : decode cX2_note 4 = .ok (.iload_n 1, 1) := by decide +kernel
theorem dX2_note_5 : decode cX2_note 5 = .ok (.bipush 49, 2) := by decide +kernel
theorem dX2_note_7 : decode cX2_note 7 = .ok (.if_icmp .ge 39, 3) := by decide +kernel
theorem dX2_note_10 : decode cX2_note 10 = .ok (.aload_n 0, 1) := by decide +kernel
theorem dX2_note_11 : decode cX2_note 11 = .ok (.getfield 39, 3) := by decide +kernel
theorem dX2_note_14 : decode cX2_note 14 = .ok (.bipush 49, 2) := by decide +kernel
theorem dX2_note_16 : decode cX2_note 16 = .ok (.if_icmp .ge 30, 3) := by decide +kernel
theorem dX2_note_19 : decode cX2_note 19 = .ok (.aload_n 0, 1) := by decide +kernel
theorem dX2_note_20 : decode cX2_note 20 = .ok (.getfield 9, 3) := by decide +kernel
theorem dX2_note_23 : decode cX2_note 23 = .ok (.iload_n 1, 1) := by decide +kernel
theorem dX2_note_24 : decode cX2_note 24 = .ok (.iload_n 2, 1) := by decide +kernel
theorem dX2_note_25 : decode cX2_note 25 = .ok (.iastore, 1) := by decide +kernel
theorem dX2_note_26 : decode cX2_note 26 = .ok (.aload_n 0, 1) := by decide +kernel
theorem dX2_note_27 : decode cX2_note 27 = .ok (.getfield 15, 3) := by decide +kernel
theorem dX2_note_30 : decode cX2_note 30 = .ok (.aload_n 0, 1) := by decide +kernel
theorem dX2_note_31 : decode cX2_note 31 = .ok (.getfield 39, 3) := by decide +kernel
theorem dX2_note_34 : decode cX2_note 34 = .ok (.iload_n 1, 1) := by decide +kernel
theorem dX2_note_35 : decode cX2_note 35 = .ok (.iastore, 1) := by decide +kernel
theorem dX2_note_36 : decode cX2_note 36 = .ok (.aload_n 0, 1) := by decide +kernel
theorem dX2_note_37 : decode cX2_note 37 = .ok (.dup, 1) := by decide +kernel
theorem dX2_note_38 : decode cX2_note 38 = .ok (.getfield 39, 3) := by decide +kernel
theorem dX2_note_41 : decode cX2_note 41 = .ok (.iconst 1, 1) := by decide +kernel
theorem dX2_note_42 : decode cX2_note 42 = .ok (.iadd, 1) := by decide +kernel
theorem dX2_note_43 : decode cX2_note 43 = .ok (.putfield 39, 3) := by decide +kernel
theorem dX2_note_46 : decode cX2_note 46 = .ok (.return_, 1) := by decide +kernel
theorem dX3_init_0 : decode cX3_init 0 = .ok (.aload_n 0, 1) := by decide +kernel
theorem dX3_init_1 : decode cX3_init 1 = .ok (.invokespecial 3, 3) := by decide +kernel
theorem dX3_init_4 : decode cX3_init 4 = .ok (.aload_n 0, 1) := by decide +kernel
theorem dX3_init_5 : decode cX3_init 5 = .ok (.sipush 588, 3) := by decide +kernel
theorem dX3_init_8 : decode cX3_init 8 = .ok (.newarray .int, 2) := by decide +kernel
theorem dX3_init_10 : decode cX3_init 10 = .ok (.putfield 11, 3) := by decide +kernel
theorem dX3_init_13 : decode cX3_init 13 = .ok (.return_, 1) := by decide +kernel
theorem dX3_empty_0 : decode cX3_empty 0 = .ok (.aload_n 0, 1) := by decide +kernel
theorem dX3_empty_1 : decode cX3_empty 1 = .ok (.iconst 0, 1) := by decide +kernel
theorem dX3_empty_2 : decode cX3_empty 2 = .ok (.putfield 15, 3) := by decide +kernel
theorem dX3_empty_5 : decode cX3_empty 5 = .ok (.return_, 1) := by decide +kernel
theorem dX3_add_0 : decode cX3_add 0 = .ok (.aload_n 0, 1) := by decide +kernel
theorem dX3_add_1 : decode cX3_add 1 = .ok (.getfield 15, 3) := by decide +kernel
theorem dX3_add_4 : decode cX3_add 4 = .ok (.sipush 588, 3) := by decide +kernel
theorem dX3_add_7 : decode cX3_add 7 = .ok (.if_icmp .ge 28, 3) := by decide +kernel
theorem dX3_add_10 : decode cX3_add 10 = .ok (.aload_n 0, 1) := by decide +kernel
theorem dX3_add_11 : decode cX3_add 11 = .ok (.getfield 11, 3) := by decide +kernel
theorem dX3_add_14 : decode cX3_add 14 = .ok (.aload_n 0, 1) := by decide +kernel
theorem dX3_add_15 : decode cX3_add 15 = .ok (.getfield 15, 3) := by decide +kernel
theorem dX3_add_18 : decode cX3_add 18 = .ok (.bipush 49, 2) := by decide +kernel
theorem dX3_add_20 : decode cX3_add 20 = .ok (.iload_n 1, 1) := by decide +kernel
theorem dX3_add_21 : decode cX3_add 21 = .ok (.imul, 1) := by decide +kernel
theorem dX3_add_22 : decode cX3_add 22 = .ok (.iload_n 2, 1) := by decide +kernel
theorem dX3_add_23 : decode cX3_add 23 = .ok (.iadd, 1) := by decide +kernel
theorem dX3_add_24 : decode cX3_add 24 = .ok (.iastore, 1) := by decide +kernel
theorem dX3_add_25 : decode cX3_add 25 = .ok (.aload_n 0, 1) := by decide +kernel
theorem dX3_add_26 : decode cX3_add 26 = .ok (.dup, 1) := by decide +kernel
theorem dX3_add_27 : decode cX3_add 27 = .ok (.getfield 15, 3) := by decide +kernel
theorem dX3_add_30 : decode cX3_add 30 = .ok (.iconst 1, 1) := by decide +kernel
theorem dX3_add_31 : decode cX3_add 31 = .ok (.iadd, 1) := by decide +kernel
theorem dX3_add_32 : decode cX3_add 32 = .ok (.putfield 15, 3) := by decide +kernel
theorem dX3_add_35 : decode cX3_add 35 = .ok (.return_, 1) := by decide +kernel
theorem dX3_codeAt_0 : decode cX3_codeAt 0 = .ok (.iload_n 1, 1) := by decide +kernel
theorem dX3_codeAt_1 : decode cX3_codeAt 1 = .ok (.ifCond .lt 11, 3) := by decide +kernel
theorem dX3_codeAt_4 : decode cX3_codeAt 4 = .ok (.iload_n 1, 1) := by decide +kernel
theorem dX3_codeAt_5 : decode cX3_codeAt 5 = .ok (.aload_n 0, 1) := by decide +kernel
theorem dX3_codeAt_6 : decode cX3_codeAt 6 = .ok (.getfield 15, 3) := by decide +kernel
theorem dX3_codeAt_9 : decode cX3_codeAt 9 = .ok (.if_icmp .lt 7, 3) := by decide +kernel
theorem dX3_codeAt_12 : decode cX3_codeAt 12 = .ok (.iconst (-1), 1) := by decide +kernel
theorem dX3_codeAt_13 : decode cX3_codeAt 13 = .ok (.goto 9, 3) := by decide +kernel
theorem dX3_codeAt_16 : decode cX3_codeAt 16 = .ok (.aload_n 0, 1) := by decide +kernel
theorem dX3_codeAt_17 : decode cX3_codeAt 17 = .ok (.getfield 11, 3) := by decide +kernel
theorem dX3_codeAt_20 : decode cX3_codeAt 20 = .ok (.iload_n 1, 1) := by decide +kernel
theorem dX3_codeAt_21 : decode cX3_codeAt 21 = .ok (.iaload, 1) := by decide +kernel
theorem dX3_codeAt_22 : decode cX3_codeAt 22 = .ok (.ireturn, 1) := by decide +kernel
theorem dX4_init_0 : decode cX4_init 0 = .ok (.aload_n 0, 1) := by decide +kernel
theorem dX4_init_1 : decode cX4_init 1 = .ok (.invokespecial 3, 3) := by decide +kernel
theorem dX4_init_4 : decode cX4_init 4 = .ok (.aload_n 0, 1) := by decide +kernel
theorem dX4_init_5 : decode cX4_init 5 = .ok (.bipush 60, 2) := by decide +kernel
theorem dX4_init_7 : decode cX4_init 7 = .ok (.newarray .int, 2) := by decide +kernel
theorem dX4_init_9 : decode cX4_init 9 = .ok (.putfield 11, 3) := by decide +kernel
theorem dX4_init_12 : decode cX4_init 12 = .ok (.return_, 1) := by decide +kernel
theorem dX4_isFull_0 : decode cX4_isFull 0 = .ok (.aload_n 0, 1) := by decide +kernel
theorem dX4_isFull_1 : decode cX4_isFull 1 = .ok (.getfield 15, 3) := by decide +kernel
theorem dX4_isFull_4 : decode cX4_isFull 4 = .ok (.bipush 60, 2) := by decide +kernel
theorem dX4_isFull_6 : decode cX4_isFull 6 = .ok (.if_icmp .lt 7, 3) := by decide +kernel
theorem dX4_isFull_9 : decode cX4_isFull 9 = .ok (.iconst 1, 1) := by decide +kernel
theorem dX4_isFull_10 : decode cX4_isFull 10 = .ok (.goto 4, 3) := by decide +kernel
theorem dX4_isFull_13 : decode cX4_isFull 13 = .ok (.iconst 0, 1) := by decide +kernel
theorem dX4_isFull_14 : decode cX4_isFull 14 = .ok (.ireturn, 1) := by decide +kernel
theorem dX4_add_0 : decode cX4_add 0 = .ok (.aload_n 0, 1) := by decide +kernel
theorem dX4_add_1 : decode cX4_add 1 = .ok (.invokevirtual 19, 3) := by decide +kernel
theorem dX4_add_4 : decode cX4_add 4 = .ok (.ifCond .ne 23, 3) := by decide +kernel
theorem dX4_add_7 : decode cX4_add 7 = .ok (.aload_n 0, 1) := by decide +kernel
theorem dX4_add_8 : decode cX4_add 8 = .ok (.getfield 11, 3) := by decide +kernel
theorem dX4_add_11 : decode cX4_add 11 = .ok (.aload_n 0, 1) := by decide +kernel
theorem dX4_add_12 : decode cX4_add 12 = .ok (.getfield 15, 3) := by decide +kernel
theorem dX4_add_15 : decode cX4_add 15 = .ok (.iload_n 1, 1) := by decide +kernel
theorem dX4_add_16 : decode cX4_add 16 = .ok (.iastore, 1) := by decide +kernel
theorem dX4_add_17 : decode cX4_add 17 = .ok (.aload_n 0, 1) := by decide +kernel
theorem dX4_add_18 : decode cX4_add 18 = .ok (.dup, 1) := by decide +kernel
theorem dX4_add_19 : decode cX4_add 19 = .ok (.getfield 15, 3) := by decide +kernel
theorem dX4_add_22 : decode cX4_add 22 = .ok (.iconst 1, 1) := by decide +kernel
theorem dX4_add_23 : decode cX4_add 23 = .ok (.iadd, 1) := by decide +kernel
theorem dX4_add_24 : decode cX4_add 24 = .ok (.putfield 15, 3) := by decide +kernel
theorem dX4_add_27 : decode cX4_add 27 = .ok (.return_, 1) := by decide +kernel
theorem dX4_empty_0 : decode cX4_empty 0 = .ok (.aload_n 0, 1) := by decide +kernel
theorem dX4_empty_1 : decode cX4_empty 1 = .ok (.iconst 0, 1) := by decide +kernel
theorem dX4_empty_2 : decode cX4_empty 2 = .ok (.putfield 15, 3) := by decide +kernel
theorem dX4_empty_5 : decode cX4_empty 5 = .ok (.return_, 1) := by decide +kernel
theorem dX4_codeAt_0 : decode cX4_codeAt 0 = .ok (.iload_n 1, 1) := by decide +kernel
theorem dX4_codeAt_1 : decode cX4_codeAt 1 = .ok (.ifCond .lt 11, 3) := by decide +kernel
theorem dX4_codeAt_4 : decode cX4_codeAt 4 = .ok (.iload_n 1, 1) := by decide +kernel
theorem dX4_codeAt_5 : decode cX4_codeAt 5 = .ok (.aload_n 0, 1) := by decide +kernel
theorem dX4_codeAt_6 : decode cX4_codeAt 6 = .ok (.getfield 15, 3) := by decide +kernel
theorem dX4_codeAt_9 : decode cX4_codeAt 9 = .ok (.if_icmp .lt 7, 3) := by decide +kernel
theorem dX4_codeAt_12 : decode cX4_codeAt 12 = .ok (.iconst 0, 1) := by decide +kernel
theorem dX4_codeAt_13 : decode cX4_codeAt 13 = .ok (.goto 9, 3) := by decide +kernel
theorem dX4_codeAt_16 : decode cX4_codeAt 16 = .ok (.aload_n 0, 1) := by decide +kernel
theorem dX4_codeAt_17 : decode cX4_codeAt 17 = .ok (.getfield 11, 3) := by decide +kernel
theorem dX4_codeAt_20 : decode cX4_codeAt 20 = .ok (.iload_n 1, 1) := by decide +kernel
theorem dX4_codeAt_21 : decode cX4_codeAt 21 = .ok (.iaload, 1) := by decide +kernel
theorem dX4_codeAt_22 : decode cX4_codeAt 22 = .ok (.ireturn, 1) := by decide +kernel
theorem dX4_errorIndex_0 : decode cX4_errorIndex 0 = .ok (.iconst 0, 1) := by decide +kernel
theorem dX4_errorIndex_1 : decode cX4_errorIndex 1 = .ok (.istore_n 1, 1) := by decide +kernel
theorem dX4_errorIndex_2 : decode cX4_errorIndex 2 = .ok (.iload_n 1, 1) := by decide +kernel
theorem dX4_errorIndex_3 : decode cX4_errorIndex 3 = .ok (.aload_n 0, 1) := by decide +kernel
theorem dX4_errorIndex_4 : decode cX4_errorIndex 4 = .ok (.getfield 15, 3) := by decide +kernel
theorem dX4_errorIndex_7 : decode cX4_errorIndex 7 = .ok (.if_icmp .ge 25, 3) := by decide +kernel
theorem dX4_errorIndex_10 : decode cX4_errorIndex 10 = .ok (.aload_n 0, 1) := by decide +kernel
theorem dX4_errorIndex_11 : decode cX4_errorIndex 11 = .ok (.iload_n 1, 1) := by decide +kernel
theorem dX4_errorIndex_12 : decode cX4_errorIndex 12 = .ok (.invokevirtual 23, 3) := by decide +kernel
theorem dX4_errorIndex_15 : decode cX4_errorIndex 15 = .ok (.iload_n 1, 1) := by decide +kernel
theorem dX4_errorIndex_16 : decode cX4_errorIndex 16 = .ok (.iconst 5, 1) := by decide +kernel
theorem dX4_errorIndex_17 : decode cX4_errorIndex 17 = .ok (.irem, 1) := by decide +kernel
theorem dX4_errorIndex_18 : decode cX4_errorIndex 18 = .ok (.invokestatic 27, 3) := by decide +kernel
theorem dX4_errorIndex_21 : decode cX4_errorIndex 21 = .ok (.ifCond .ne 5, 3) := by decide +kernel
theorem dX4_errorIndex_24 : decode cX4_errorIndex 24 = .ok (.iload_n 1, 1) := by decide +kernel
theorem dX4_errorIndex_25 : decode cX4_errorIndex 25 = .ok (.ireturn, 1) := by decide +kernel
theorem dX4_errorIndex_26 : decode cX4_errorIndex 26 = .ok (.iinc 1 1, 3) := by decide +kernel
theorem dX4_errorIndex_29 : decode cX4_errorIndex 29 = .ok (.goto (-27), 3) := by decide +kernel
theorem dX4_errorIndex_32 : decode cX4_errorIndex 32 = .ok (.aload_n 0, 1) := by decide +kernel
theorem dX4_errorIndex_33 : decode cX4_errorIndex 33 = .ok (.getfield 15, 3) := by decide +kernel
theorem dX4_errorIndex_36 : decode cX4_errorIndex 36 = .ok (.ireturn, 1) := by decide +kernel
theorem dX4_fits_0 : decode cX4_fits 0 = .ok (.iload_n 1, 1) := by decide +kernel
theorem dX4_fits_1 : decode cX4_fits 1 = .ok (.tableswitch 67 0 3 #[31, 49, 31, 49], 31) := by decide +kernel
theorem dX4_fits_32 : decode cX4_fits 32 = .ok (.iload_n 0, 1) := by decide +kernel
theorem dX4_fits_33 : decode cX4_fits 33 = .ok (.bipush 97, 2) := by decide +kernel
theorem dX4_fits_35 : decode cX4_fits 35 = .ok (.if_icmp .lt 13, 3) := by decide +kernel
theorem dX4_fits_38 : decode cX4_fits 38 = .ok (.iload_n 0, 1) := by decide +kernel
theorem dX4_fits_39 : decode cX4_fits 39 = .ok (.bipush 103, 2) := by decide +kernel
theorem dX4_fits_41 : decode cX4_fits 41 = .ok (.if_icmp .gt 7, 3) := by decide +kernel
theorem dX4_fits_44 : decode cX4_fits 44 = .ok (.iconst 1, 1) := by decide +kernel
theorem dX4_fits_45 : decode cX4_fits 45 = .ok (.goto 4, 3) := by decide +kernel
theorem dX4_fits_48 : decode cX4_fits 48 = .ok (.iconst 0, 1) := by decide +kernel
theorem dX4_fits_49 : decode cX4_fits 49 = .ok (.ireturn, 1) := by decide +kernel
theorem dX4_fits_50 : decode cX4_fits 50 = .ok (.iload_n 0, 1) := by decide +kernel
theorem dX4_fits_51 : decode cX4_fits 51 = .ok (.bipush 49, 2) := by decide +kernel
theorem dX4_fits_53 : decode cX4_fits 53 = .ok (.if_icmp .lt 13, 3) := by decide +kernel
theorem dX4_fits_56 : decode cX4_fits 56 = .ok (.iload_n 0, 1) := by decide +kernel
theorem dX4_fits_57 : decode cX4_fits 57 = .ok (.bipush 55, 2) := by decide +kernel
theorem dX4_fits_59 : decode cX4_fits 59 = .ok (.if_icmp .gt 7, 3) := by decide +kernel
theorem dX4_fits_62 : decode cX4_fits 62 = .ok (.iconst 1, 1) := by decide +kernel
theorem dX4_fits_63 : decode cX4_fits 63 = .ok (.goto 4, 3) := by decide +kernel
theorem dX4_fits_66 : decode cX4_fits 66 = .ok (.iconst 0, 1) := by decide +kernel
theorem dX4_fits_67 : decode cX4_fits 67 = .ok (.ireturn, 1) := by decide +kernel
theorem dX4_fits_68 : decode cX4_fits 68 = .ok (.iload_n 0, 1) := by decide +kernel
theorem dX4_fits_69 : decode cX4_fits 69 = .ok (.bipush 59, 2) := by decide +kernel
theorem dX4_fits_71 : decode cX4_fits 71 = .ok (.if_icmp .ne 7, 3) := by decide +kernel
theorem dX4_fits_74 : decode cX4_fits 74 = .ok (.iconst 1, 1) := by decide +kernel
theorem dX4_fits_75 : decode cX4_fits 75 = .ok (.goto 4, 3) := by decide +kernel
theorem dX4_fits_78 : decode cX4_fits 78 = .ok (.iconst 0, 1) := by decide +kernel
theorem dX4_fits_79 : decode cX4_fits 79 = .ok (.ireturn, 1) := by decide +kernel
theorem dX4_tellsMoves_0 : decode cX4_tellsMoves 0 = .ok (.aload_n 0, 1) := by decide +kernel
theorem dX4_tellsMoves_1 : decode cX4_tellsMoves 1 = .ok (.getfield 15, 3) := by decide +kernel
theorem dX4_tellsMoves_4 : decode cX4_tellsMoves 4 = .ok (.iconst 5, 1) := by decide +kernel
theorem dX4_tellsMoves_5 : decode cX4_tellsMoves 5 = .ok (.irem, 1) := by decide +kernel
theorem dX4_tellsMoves_6 : decode cX4_tellsMoves 6 = .ok (.iconst 4, 1) := by decide +kernel
theorem dX4_tellsMoves_7 : decode cX4_tellsMoves 7 = .ok (.if_icmp .ne 18, 3) := by decide +kernel
theorem dX4_tellsMoves_10 : decode cX4_tellsMoves 10 = .ok (.aload_n 0, 1) := by decide +kernel
theorem dX4_tellsMoves_11 : decode cX4_tellsMoves 11 = .ok (.invokevirtual 31, 3) := by decide +kernel
theorem dX4_tellsMoves_14 : decode cX4_tellsMoves 14 = .ok (.aload_n 0, 1) := by decide +kernel
theorem dX4_tellsMoves_15 : decode cX4_tellsMoves 15 = .ok (.getfield 15, 3) := by decide +kernel
theorem dX4_tellsMoves_18 : decode cX4_tellsMoves 18 = .ok (.if_icmp .ne 7, 3) := by decide +kernel
theorem dX4_tellsMoves_21 : decode cX4_tellsMoves 21 = .ok (.iconst 1, 1) := by decide +kernel
theorem dX4_tellsMoves_22 : decode cX4_tellsMoves 22 = .ok (.goto 4, 3) := by decide +kernel
theorem dX4_tellsMoves_25 : decode cX4_tellsMoves 25 = .ok (.iconst 0, 1) := by decide +kernel
theorem dX4_tellsMoves_26 : decode cX4_tellsMoves 26 = .ok (.ireturn, 1) := by decide +kernel
theorem dX4_parts_0 : decode cX4_parts 0 = .ok (.aload_n 0, 1) := by decide +kernel
theorem dX4_parts_1 : decode cX4_parts 1 = .ok (.getfield 15, 3) := by decide +kernel
theorem dX4_parts_4 : decode cX4_parts 4 = .ok (.iconst 1, 1) := by decide +kernel
theorem dX4_parts_5 : decode cX4_parts 5 = .ok (.iadd, 1) := by decide +kernel
theorem dX4_parts_6 : decode cX4_parts 6 = .ok (.iconst 5, 1) := by decide +kernel
theorem dX4_parts_7 : decode cX4_parts 7 = .ok (.idiv, 1) := by decide +kernel
theorem dX4_parts_8 : decode cX4_parts 8 = .ok (.ireturn, 1) := by decide +kernel
theorem dX4_squareAt_0 : decode cX4_squareAt 0 = .ok (.bipush 7, 2) := by decide +kernel
theorem dX4_squareAt_2 : decode cX4_squareAt 2 = .ok (.aload_n 0, 1) := by decide +kernel
theorem dX4_squareAt_3 : decode cX4_squareAt 3 = .ok (.iload_n 1, 1) := by decide +kernel
theorem dX4_squareAt_4 : decode cX4_squareAt 4 = .ok (.iconst 1, 1) := by decide +kernel
theorem dX4_squareAt_5 : decode cX4_squareAt 5 = .ok (.iadd, 1) := by decide +kernel
theorem dX4_squareAt_6 : decode cX4_squareAt 6 = .ok (.invokevirtual 23, 3) := by decide +kernel
theorem dX4_squareAt_9 : decode cX4_squareAt 9 = .ok (.bipush 49, 2) := by decide +kernel
theorem dX4_squareAt_11 : decode cX4_squareAt 11 = .ok (.isub, 1) := by decide +kernel
theorem dX4_squareAt_12 : decode cX4_squareAt 12 = .ok (.imul, 1) := by decide +kernel
theorem dX4_squareAt_13 : decode cX4_squareAt 13 = .ok (.aload_n 0, 1) := by decide +kernel
theorem dX4_squareAt_14 : decode cX4_squareAt 14 = .ok (.iload_n 1, 1) := by decide +kernel
theorem dX4_squareAt_15 : decode cX4_squareAt 15 = .ok (.invokevirtual 23, 3) := by decide +kernel
theorem dX4_squareAt_18 : decode cX4_squareAt 18 = .ok (.iadd, 1) := by decide +kernel
theorem dX4_squareAt_19 : decode cX4_squareAt 19 = .ok (.bipush 97, 2) := by decide +kernel
theorem dX4_squareAt_21 : decode cX4_squareAt 21 = .ok (.isub, 1) := by decide +kernel
theorem dX4_squareAt_22 : decode cX4_squareAt 22 = .ok (.ireturn, 1) := by decide +kernel
theorem dX5_init_0 : decode cX5_init 0 = .ok (.aload_n 0, 1) := by decide +kernel
theorem dX5_init_1 : decode cX5_init 1 = .ok (.invokespecial 3, 3) := by decide +kernel
theorem dX5_init_4 : decode cX5_init 4 = .ok (.aload_n 0, 1) := by decide +kernel
theorem dX5_init_5 : decode cX5_init 5 = .ok (.aload_n 1, 1) := by decide +kernel
theorem dX5_init_6 : decode cX5_init 6 = .ok (.iconst 0, 1) := by decide +kernel
theorem dX5_init_7 : decode cX5_init 7 = .ok (.bipush 25, 2) := by decide +kernel
theorem dX5_init_9 : decode cX5_init 9 = .ok (.invokestatic 11, 3) := by decide +kernel
theorem dX5_init_12 : decode cX5_init 12 = .ok (.putfield 15, 3) := by decide +kernel
theorem dX5_init_15 : decode cX5_init 15 = .ok (.aload_n 0, 1) := by decide +kernel
theorem dX5_init_16 : decode cX5_init 16 = .ok (.aload_n 1, 1) := by decide +kernel
theorem dX5_init_17 : decode cX5_init 17 = .ok (.bipush 25, 2) := by decide +kernel
theorem dX5_init_19 : decode cX5_init 19 = .ok (.bipush 49, 2) := by decide +kernel
theorem dX5_init_21 : decode cX5_init 21 = .ok (.invokestatic 11, 3) := by decide +kernel
theorem dX5_init_24 : decode cX5_init 24 = .ok (.putfield 19, 3) := by decide +kernel
theorem dX5_init_27 : decode cX5_init 27 = .ok (.aload_n 0, 1) := by decide +kernel
theorem dX5_init_28 : decode cX5_init 28 = .ok (.iload_n 2, 1) := by decide +kernel
theorem dX5_init_29 : decode cX5_init 29 = .ok (.putfield 22, 3) := by decide +kernel
theorem dX5_init_32 : decode cX5_init 32 = .ok (.aload_n 0, 1) := by decide +kernel
theorem dX5_init_33 : decode cX5_init 33 = .ok (.aload_n 3, 1) := by decide +kernel
theorem dX5_init_34 : decode cX5_init 34 = .ok (.ifnull 17, 3) := by decide +kernel
theorem dX5_init_37 : decode cX5_init 37 = .ok (.aload_n 3, 1) := by decide +kernel
theorem dX5_init_38 : decode cX5_init 38 = .ok (.getfield 26, 3) := by decide +kernel
theorem dX5_init_41 : decode cX5_init 41 = .ok (.sipush 1000, 3) := by decide +kernel
theorem dX5_init_44 : decode cX5_init 44 = .ok (.if_icmp .ge 7, 3) := by decide +kernel
theorem dX5_init_47 : decode cX5_init 47 = .ok (.aload_n 3, 1) := by decide +kernel
theorem dX5_init_48 : decode cX5_init 48 = .ok (.goto 4, 3) := by decide +kernel
theorem dX5_init_51 : decode cX5_init 51 = .ok (.aconst_null, 1) := by decide +kernel
theorem dX5_init_52 : decode cX5_init 52 = .ok (.putfield 29, 3) := by decide +kernel
theorem dX5_init_55 : decode cX5_init 55 = .ok (.aload_n 0, 1) := by decide +kernel
theorem dX5_init_56 : decode cX5_init 56 = .ok (.aload_n 0, 1) := by decide +kernel
theorem dX5_init_57 : decode cX5_init 57 = .ok (.getfield 29, 3) := by decide +kernel
theorem dX5_init_60 : decode cX5_init 60 = .ok (.ifnonnull 7, 3) := by decide +kernel
theorem dX5_init_63 : decode cX5_init 63 = .ok (.iconst 1, 1) := by decide +kernel
theorem dX5_init_64 : decode cX5_init 64 = .ok (.goto 12, 3) := by decide +kernel
theorem dX5_init_67 : decode cX5_init 67 = .ok (.aload_n 0, 1) := by decide +kernel
theorem dX5_init_68 : decode cX5_init 68 = .ok (.getfield 29, 3) := by decide +kernel
theorem dX5_init_71 : decode cX5_init 71 = .ok (.getfield 26, 3) := by decide +kernel
theorem dX5_init_74 : decode cX5_init 74 = .ok (.iconst 1, 1) := by decide +kernel
theorem dX5_init_75 : decode cX5_init 75 = .ok (.iadd, 1) := by decide +kernel
theorem dX5_init_76 : decode cX5_init 76 = .ok (.putfield 26, 3) := by decide +kernel
theorem dX5_init_79 : decode cX5_init 79 = .ok (.aload_n 0, 1) := by decide +kernel
theorem dX5_init_80 : decode cX5_init 80 = .ok (.iconst 1, 1) := by decide +kernel
theorem dX5_init_81 : decode cX5_init 81 = .ok (.aload_n 0, 1) := by decide +kernel
theorem dX5_init_82 : decode cX5_init 82 = .ok (.getfield 29, 3) := by decide +kernel
theorem dX5_init_85 : decode cX5_init 85 = .ok (.aload_n 0, 1) := by decide +kernel
theorem dX5_init_86 : decode cX5_init 86 = .ok (.getfield 15, 3) := by decide +kernel
theorem dX5_init_89 : decode cX5_init 89 = .ok (.aload_n 0, 1) := by decide +kernel
theorem dX5_init_90 : decode cX5_init 90 = .ok (.getfield 19, 3) := by decide +kernel
theorem dX5_init_93 : decode cX5_init 93 = .ok (.iload_n 2, 1) := by decide +kernel
theorem dX5_init_94 : decode cX5_init 94 = .ok (.invokestatic 33, 3) := by decide +kernel
theorem dX5_init_97 : decode cX5_init 97 = .ok (.iadd, 1) := by decide +kernel
theorem dX5_init_98 : decode cX5_init 98 = .ok (.putfield 37, 3) := by decide +kernel
theorem dX5_init_101 : decode cX5_init 101 = .ok (.return_, 1) := by decide +kernel
theorem dX5_pack_0 : decode cX5_pack 0 = .ok (.lconst 0, 1) := by decide +kernel
theorem dX5_pack_1 : decode cX5_pack 1 = .ok (.lstore_n 3, 1) := by decide +kernel
theorem dX5_pack_2 : decode cX5_pack 2 = .ok (.iload_n 1, 1) := by decide +kernel
theorem dX5_pack_3 : decode cX5_pack 3 = .ok (.istore 5, 2) := by decide +kernel
theorem dX5_pack_5 : decode cX5_pack 5 = .ok (.iload 5, 2) := by decide +kernel
theorem dX5_pack_7 : decode cX5_pack 7 = .ok (.iload_n 2, 1) := by decide +kernel
theorem dX5_pack_8 : decode cX5_pack 8 = .ok (.if_icmp .ge 21, 3) := by decide +kernel
theorem dX5_pack_11 : decode cX5_pack 11 = .ok (.lload_n 3, 1) := by decide +kernel
theorem dX5_pack_12 : decode cX5_pack 12 = .ok (.iconst 2, 1) := by decide +kernel
theorem dX5_pack_13 : decode cX5_pack 13 = .ok (.lshl, 1) := by decide +kernel
theorem dX5_pack_14 : decode cX5_pack 14 = .ok (.aload_n 0, 1) := by decide +kernel
theorem dX5_pack_15 : decode cX5_pack 15 = .ok (.iload 5, 2) := by decide +kernel
theorem dX5_pack_17 : decode cX5_pack 17 = .ok (.invokevirtual 40, 3) := by decide +kernel
theorem dX5_pack_20 : decode cX5_pack 20 = .ok (.i2l, 1) := by decide +kernel
theorem dX5_pack_21 : decode cX5_pack 21 = .ok (.lor, 1) := by decide +kernel
theorem dX5_pack_22 : decode cX5_pack 22 = .ok (.lstore_n 3, 1) := by decide +kernel
theorem dX5_pack_23 : decode cX5_pack 23 = .ok (.iinc 5 1, 3) := by decide +kernel
theorem dX5_pack_26 : decode cX5_pack 26 = .ok (.goto (-21), 3) := by decide +kernel
theorem dX5_pack_29 : decode cX5_pack 29 = .ok (.lload_n 3, 1) := by decide +kernel
theorem dX5_pack_30 : decode cX5_pack 30 = .ok (.lreturn, 1) := by decide +kernel
theorem dX5_timesIn_0 : decode cX5_timesIn 0 = .ok (.aload_n 0, 1) := by decide +kernel
theorem dX5_timesIn_1 : decode cX5_timesIn 1 = .ok (.astore 6, 2) := by decide +kernel
theorem dX5_timesIn_3 : decode cX5_timesIn 3 = .ok (.iconst 0, 1) := by decide +kernel
theorem dX5_timesIn_4 : decode cX5_timesIn 4 = .ok (.istore 7, 2) := by decide +kernel
theorem dX5_timesIn_6 : decode cX5_timesIn 6 = .ok (.iload 7, 2) := by decide +kernel
theorem dX5_timesIn_8 : decode cX5_timesIn 8 = .ok (.sipush 1000, 3) := by decide +kernel
theorem dX5_timesIn_11 : decode cX5_timesIn 11 = .ok (.if_icmp .ge 57, 3) := by decide +kernel
theorem dX5_timesIn_14 : decode cX5_timesIn 14 = .ok (.aload 6, 2) := by decide +kernel
theorem dX5_timesIn_16 : decode cX5_timesIn 16 = .ok (.ifnull 52, 3) := by decide +kernel
theorem dX5_timesIn_19 : decode cX5_timesIn 19 = .ok (.aload 6, 2) := by decide +kernel
theorem dX5_timesIn_21 : decode cX5_timesIn 21 = .ok (.getfield 15, 3) := by decide +kernel
theorem dX5_timesIn_24 : decode cX5_timesIn 24 = .ok (.lload_n 1, 1) := by decide +kernel
theorem dX5_timesIn_25 : decode cX5_timesIn 25 = .ok (.lcmp, 1) := by decide +kernel
theorem dX5_timesIn_26 : decode cX5_timesIn 26 = .ok (.ifCond .ne 29, 3) := by decide +kernel
theorem dX5_timesIn_29 : decode cX5_timesIn 29 = .ok (.aload 6, 2) := by decide +kernel
theorem dX5_timesIn_31 : decode cX5_timesIn 31 = .ok (.getfield 19, 3) := by decide +kernel
theorem dX5_timesIn_34 : decode cX5_timesIn 34 = .ok (.lload_n 3, 1) := by decide +kernel
theorem dX5_timesIn_35 : decode cX5_timesIn 35 = .ok (.lcmp, 1) := by decide +kernel
theorem dX5_timesIn_36 : decode cX5_timesIn 36 = .ok (.ifCond .ne 19, 3) := by decide +kernel
theorem dX5_timesIn_39 : decode cX5_timesIn 39 = .ok (.aload 6, 2) := by decide +kernel
theorem dX5_timesIn_41 : decode cX5_timesIn 41 = .ok (.getfield 22, 3) := by decide +kernel
theorem dX5_timesIn_44 : decode cX5_timesIn 44 = .ok (.iload 5, 2) := by decide +kernel
theorem dX5_timesIn_46 : decode cX5_timesIn 46 = .ok (.if_icmp .ne 9, 3) := by decide +kernel
theorem dX5_timesIn_49 : decode cX5_timesIn 49 = .ok (.aload 6, 2) := by decide +kernel
theorem dX5_timesIn_51 : decode cX5_timesIn 51 = .ok (.getfield 37, 3) := by decide +kernel
theorem dX5_timesIn_54 : decode cX5_timesIn 54 = .ok (.ireturn, 1) := by decide +kernel
theorem dX5_timesIn_55 : decode cX5_timesIn 55 = .ok (.aload 6, 2) := by decide +kernel
theorem dX5_timesIn_57 : decode cX5_timesIn 57 = .ok (.getfield 29, 3) := by decide +kernel
theorem dX5_timesIn_60 : decode cX5_timesIn 60 = .ok (.astore 6, 2) := by decide +kernel
theorem dX5_timesIn_62 : decode cX5_timesIn 62 = .ok (.iinc 7 1, 3) := by decide +kernel
theorem dX5_timesIn_65 : decode cX5_timesIn 65 = .ok (.goto (-59), 3) := by decide +kernel
theorem dX5_timesIn_68 : decode cX5_timesIn 68 = .ok (.iconst 0, 1) := by decide +kernel
theorem dX5_timesIn_69 : decode cX5_timesIn 69 = .ok (.ireturn, 1) := by decide +kernel
theorem dX6_init_0 : decode cX6_init 0 = .ok (.aload_n 0, 1) := by decide +kernel
theorem dX6_init_1 : decode cX6_init 1 = .ok (.invokespecial 1, 3) := by decide +kernel
theorem dX6_init_4 : decode cX6_init 4 = .ok (.aload_n 0, 1) := by decide +kernel
theorem dX6_init_5 : decode cX6_init 5 = .ok (.bipush 6, 2) := by decide +kernel
theorem dX6_init_7 : decode cX6_init 7 = .ok (.anewarray 9, 3) := by decide +kernel
theorem dX6_init_10 : decode cX6_init 10 = .ok (.putfield 11, 3) := by decide +kernel
theorem dX6_init_13 : decode cX6_init 13 = .ok (.iconst 0, 1) := by decide +kernel
theorem dX6_init_14 : decode cX6_init 14 = .ok (.istore_n 1, 1) := by decide +kernel
theorem dX6_init_15 : decode cX6_init 15 = .ok (.iload_n 1, 1) := by decide +kernel
theorem dX6_init_16 : decode cX6_init 16 = .ok (.bipush 6, 2) := by decide +kernel
theorem dX6_init_18 : decode cX6_init 18 = .ok (.if_icmp .ge 22, 3) := by decide +kernel
theorem dX6_init_21 : decode cX6_init 21 = .ok (.aload_n 0, 1) := by decide +kernel
theorem dX6_init_22 : decode cX6_init 22 = .ok (.getfield 11, 3) := by decide +kernel
theorem dX6_init_25 : decode cX6_init 25 = .ok (.iload_n 1, 1) := by decide +kernel
theorem dX6_init_26 : decode cX6_init 26 = .ok (.new 9, 3) := by decide +kernel
theorem dX6_init_29 : decode cX6_init 29 = .ok (.dup, 1) := by decide +kernel
theorem dX6_init_30 : decode cX6_init 30 = .ok (.invokespecial 15, 3) := by decide +kernel
theorem dX6_init_33 : decode cX6_init 33 = .ok (.aastore, 1) := by decide +kernel
theorem dX6_init_34 : decode cX6_init 34 = .ok (.iinc 1 1, 3) := by decide +kernel
theorem dX6_init_37 : decode cX6_init 37 = .ok (.goto (-22), 3) := by decide +kernel
theorem dX6_init_40 : decode cX6_init 40 = .ok (.return_, 1) := by decide +kernel
theorem dX6_push_0 : decode cX6_push 0 = .ok (.aload_n 0, 1) := by decide +kernel
theorem dX6_push_1 : decode cX6_push 1 = .ok (.getfield 16, 3) := by decide +kernel
theorem dX6_push_4 : decode cX6_push 4 = .ok (.bipush 6, 2) := by decide +kernel
theorem dX6_push_6 : decode cX6_push 6 = .ok (.if_icmp .ne 26, 3) := by decide +kernel
theorem dX6_push_9 : decode cX6_push 9 = .ok (.aload_n 0, 1) := by decide +kernel
theorem dX6_push_10 : decode cX6_push 10 = .ok (.aload_n 0, 1) := by decide +kernel
theorem dX6_push_11 : decode cX6_push 11 = .ok (.getfield 20, 3) := by decide +kernel
theorem dX6_push_14 : decode cX6_push 14 = .ok (.iconst 1, 1) := by decide +kernel
theorem dX6_push_15 : decode cX6_push 15 = .ok (.iadd, 1) := by decide +kernel
theorem dX6_push_16 : decode cX6_push 16 = .ok (.bipush 6, 2) := by decide +kernel
theorem dX6_push_18 : decode cX6_push 18 = .ok (.irem, 1) := by decide +kernel
theorem dX6_push_19 : decode cX6_push 19 = .ok (.putfield 20, 3) := by decide +kernel
theorem dX6_push_22 : decode cX6_push 22 = .ok (.aload_n 0, 1) := by decide +kernel
theorem dX6_push_23 : decode cX6_push 23 = .ok (.dup, 1) := by decide +kernel
theorem dX6_push_24 : decode cX6_push 24 = .ok (.getfield 16, 3) := by decide +kernel
theorem dX6_push_27 : decode cX6_push 27 = .ok (.iconst 1, 1) := by decide +kernel
theorem dX6_push_28 : decode cX6_push 28 = .ok (.isub, 1) := by decide +kernel
theorem dX6_push_29 : decode cX6_push 29 = .ok (.putfield 16, 3) := by decide +kernel
theorem dX6_push_32 : decode cX6_push 32 = .ok (.aload_n 0, 1) := by decide +kernel
theorem dX6_push_33 : decode cX6_push 33 = .ok (.getfield 11, 3) := by decide +kernel
theorem dX6_push_36 : decode cX6_push 36 = .ok (.aload_n 0, 1) := by decide +kernel
theorem dX6_push_37 : decode cX6_push 37 = .ok (.getfield 20, 3) := by decide +kernel
theorem dX6_push_40 : decode cX6_push 40 = .ok (.aload_n 0, 1) := by decide +kernel
theorem dX6_push_41 : decode cX6_push 41 = .ok (.getfield 16, 3) := by decide +kernel
theorem dX6_push_44 : decode cX6_push 44 = .ok (.iadd, 1) := by decide +kernel
theorem dX6_push_45 : decode cX6_push 45 = .ok (.bipush 6, 2) := by decide +kernel
theorem dX6_push_47 : decode cX6_push 47 = .ok (.irem, 1) := by decide +kernel
theorem dX6_push_48 : decode cX6_push 48 = .ok (.aaload, 1) := by decide +kernel
theorem dX6_push_49 : decode cX6_push 49 = .ok (.aload_n 1, 1) := by decide +kernel
theorem dX6_push_50 : decode cX6_push 50 = .ok (.invokevirtual 23, 3) := by decide +kernel
theorem dX6_push_53 : decode cX6_push 53 = .ok (.aload_n 0, 1) := by decide +kernel
theorem dX6_push_54 : decode cX6_push 54 = .ok (.dup, 1) := by decide +kernel
theorem dX6_push_55 : decode cX6_push 55 = .ok (.getfield 16, 3) := by decide +kernel
theorem dX6_push_58 : decode cX6_push 58 = .ok (.iconst 1, 1) := by decide +kernel
theorem dX6_push_59 : decode cX6_push 59 = .ok (.iadd, 1) := by decide +kernel
theorem dX6_push_60 : decode cX6_push 60 = .ok (.putfield 16, 3) := by decide +kernel
theorem dX6_push_63 : decode cX6_push 63 = .ok (.return_, 1) := by decide +kernel
theorem dX6_popInto_0 : decode cX6_popInto 0 = .ok (.aload_n 0, 1) := by decide +kernel
theorem dX6_popInto_1 : decode cX6_popInto 1 = .ok (.getfield 16, 3) := by decide +kernel
theorem dX6_popInto_4 : decode cX6_popInto 4 = .ok (.ifCond .le 34, 3) := by decide +kernel
theorem dX6_popInto_7 : decode cX6_popInto 7 = .ok (.aload_n 0, 1) := by decide +kernel
theorem dX6_popInto_8 : decode cX6_popInto 8 = .ok (.dup, 1) := by decide +kernel
theorem dX6_popInto_9 : decode cX6_popInto 9 = .ok (.getfield 16, 3) := by decide +kernel
theorem dX6_popInto_12 : decode cX6_popInto 12 = .ok (.iconst 1, 1) := by decide +kernel
theorem dX6_popInto_13 : decode cX6_popInto 13 = .ok (.isub, 1) := by decide +kernel
theorem dX6_popInto_14 : decode cX6_popInto 14 = .ok (.putfield 16, 3) := by decide +kernel
theorem dX6_popInto_17 : decode cX6_popInto 17 = .ok (.aload_n 1, 1) := by decide +kernel
theorem dX6_popInto_18 : decode cX6_popInto 18 = .ok (.aload_n 0, 1) := by decide +kernel
theorem dX6_popInto_19 : decode cX6_popInto 19 = .ok (.getfield 11, 3) := by decide +kernel
theorem dX6_popInto_22 : decode cX6_popInto 22 = .ok (.aload_n 0, 1) := by decide +kernel
theorem dX6_popInto_23 : decode cX6_popInto 23 = .ok (.getfield 20, 3) := by decide +kernel
theorem dX6_popInto_26 : decode cX6_popInto 26 = .ok (.aload_n 0, 1) := by decide +kernel
theorem dX6_popInto_27 : decode cX6_popInto 27 = .ok (.getfield 16, 3) := by decide +kernel
theorem dX6_popInto_30 : decode cX6_popInto 30 = .ok (.iadd, 1) := by decide +kernel
theorem dX6_popInto_31 : decode cX6_popInto 31 = .ok (.bipush 6, 2) := by decide +kernel
theorem dX6_popInto_33 : decode cX6_popInto 33 = .ok (.irem, 1) := by decide +kernel
theorem dX6_popInto_34 : decode cX6_popInto 34 = .ok (.aaload, 1) := by decide +kernel
theorem dX6_popInto_35 : decode cX6_popInto 35 = .ok (.invokevirtual 23, 3) := by decide +kernel
theorem dX6_popInto_38 : decode cX6_popInto 38 = .ok (.return_, 1) := by decide +kernel
theorem dX7_init_0 : decode cX7_init 0 = .ok (.aload_n 0, 1) := by decide +kernel
theorem dX7_init_1 : decode cX7_init 1 = .ok (.invokespecial 3, 3) := by decide +kernel
theorem dX7_init_4 : decode cX7_init 4 = .ok (.aload_n 0, 1) := by decide +kernel
theorem dX7_init_5 : decode cX7_init 5 = .ok (.new 9, 3) := by decide +kernel
theorem dX7_init_8 : decode cX7_init 8 = .ok (.dup, 1) := by decide +kernel
theorem dX7_init_9 : decode cX7_init 9 = .ok (.invokespecial 11, 3) := by decide +kernel
theorem dX7_init_12 : decode cX7_init 12 = .ok (.putfield 12, 3) := by decide +kernel
theorem dX7_init_15 : decode cX7_init 15 = .ok (.return_, 1) := by decide +kernel
theorem dX7_copyFrom_0 : decode cX7_copyFrom 0 = .ok (.aload_n 0, 1) := by decide +kernel
theorem dX7_copyFrom_1 : decode cX7_copyFrom 1 = .ok (.getfield 12, 3) := by decide +kernel
theorem dX7_copyFrom_4 : decode cX7_copyFrom 4 = .ok (.aload_n 1, 1) := by decide +kernel
theorem dX7_copyFrom_5 : decode cX7_copyFrom 5 = .ok (.getfield 12, 3) := by decide +kernel
theorem dX7_copyFrom_8 : decode cX7_copyFrom 8 = .ok (.invokevirtual 18, 3) := by decide +kernel
theorem dX7_copyFrom_11 : decode cX7_copyFrom 11 = .ok (.aload_n 0, 1) := by decide +kernel
theorem dX7_copyFrom_12 : decode cX7_copyFrom 12 = .ok (.aload_n 1, 1) := by decide +kernel
theorem dX7_copyFrom_13 : decode cX7_copyFrom 13 = .ok (.getfield 22, 3) := by decide +kernel
theorem dX7_copyFrom_16 : decode cX7_copyFrom 16 = .ok (.putfield 22, 3) := by decide +kernel
theorem dX7_copyFrom_19 : decode cX7_copyFrom 19 = .ok (.aload_n 0, 1) := by decide +kernel
theorem dX7_copyFrom_20 : decode cX7_copyFrom 20 = .ok (.aload_n 1, 1) := by decide +kernel
theorem dX7_copyFrom_21 : decode cX7_copyFrom 21 = .ok (.getfield 26, 3) := by decide +kernel
theorem dX7_copyFrom_24 : decode cX7_copyFrom 24 = .ok (.putfield 26, 3) := by decide +kernel
theorem dX7_copyFrom_27 : decode cX7_copyFrom 27 = .ok (.aload_n 0, 1) := by decide +kernel
theorem dX7_copyFrom_28 : decode cX7_copyFrom 28 = .ok (.aload_n 1, 1) := by decide +kernel
theorem dX7_copyFrom_29 : decode cX7_copyFrom 29 = .ok (.getfield 29, 3) := by decide +kernel
theorem dX7_copyFrom_32 : decode cX7_copyFrom 32 = .ok (.putfield 29, 3) := by decide +kernel
theorem dX7_copyFrom_35 : decode cX7_copyFrom 35 = .ok (.aload_n 0, 1) := by decide +kernel
theorem dX7_copyFrom_36 : decode cX7_copyFrom 36 = .ok (.aload_n 1, 1) := by decide +kernel
theorem dX7_copyFrom_37 : decode cX7_copyFrom 37 = .ok (.getfield 32, 3) := by decide +kernel
theorem dX7_copyFrom_40 : decode cX7_copyFrom 40 = .ok (.putfield 32, 3) := by decide +kernel
theorem dX7_copyFrom_43 : decode cX7_copyFrom 43 = .ok (.aload_n 0, 1) := by decide +kernel
theorem dX7_copyFrom_44 : decode cX7_copyFrom 44 = .ok (.aload_n 1, 1) := by decide +kernel
theorem dX7_copyFrom_45 : decode cX7_copyFrom 45 = .ok (.getfield 36, 3) := by decide +kernel
theorem dX7_copyFrom_48 : decode cX7_copyFrom 48 = .ok (.putfield 36, 3) := by decide +kernel
theorem dX7_copyFrom_51 : decode cX7_copyFrom 51 = .ok (.aload_n 0, 1) := by decide +kernel
theorem dX7_copyFrom_52 : decode cX7_copyFrom 52 = .ok (.aload_n 1, 1) := by decide +kernel
theorem dX7_copyFrom_53 : decode cX7_copyFrom 53 = .ok (.getfield 39, 3) := by decide +kernel
theorem dX7_copyFrom_56 : decode cX7_copyFrom 56 = .ok (.putfield 39, 3) := by decide +kernel
theorem dX7_copyFrom_59 : decode cX7_copyFrom 59 = .ok (.aload_n 0, 1) := by decide +kernel
theorem dX7_copyFrom_60 : decode cX7_copyFrom 60 = .ok (.aload_n 1, 1) := by decide +kernel
theorem dX7_copyFrom_61 : decode cX7_copyFrom 61 = .ok (.getfield 42, 3) := by decide +kernel
theorem dX7_copyFrom_64 : decode cX7_copyFrom 64 = .ok (.putfield 42, 3) := by decide +kernel
theorem dX7_copyFrom_67 : decode cX7_copyFrom 67 = .ok (.aload_n 0, 1) := by decide +kernel
theorem dX7_copyFrom_68 : decode cX7_copyFrom 68 = .ok (.aload_n 1, 1) := by decide +kernel
theorem dX7_copyFrom_69 : decode cX7_copyFrom 69 = .ok (.getfield 45, 3) := by decide +kernel
theorem dX7_copyFrom_72 : decode cX7_copyFrom 72 = .ok (.putfield 45, 3) := by decide +kernel
theorem dX7_copyFrom_75 : decode cX7_copyFrom 75 = .ok (.aload_n 0, 1) := by decide +kernel
theorem dX7_copyFrom_76 : decode cX7_copyFrom 76 = .ok (.aload_n 1, 1) := by decide +kernel
theorem dX7_copyFrom_77 : decode cX7_copyFrom 77 = .ok (.getfield 48, 3) := by decide +kernel
theorem dX7_copyFrom_80 : decode cX7_copyFrom 80 = .ok (.putfield 48, 3) := by decide +kernel
theorem dX7_copyFrom_83 : decode cX7_copyFrom 83 = .ok (.aload_n 0, 1) := by decide +kernel
theorem dX7_copyFrom_84 : decode cX7_copyFrom 84 = .ok (.aload_n 1, 1) := by decide +kernel
theorem dX7_copyFrom_85 : decode cX7_copyFrom 85 = .ok (.getfield 51, 3) := by decide +kernel
theorem dX7_copyFrom_88 : decode cX7_copyFrom 88 = .ok (.putfield 51, 3) := by decide +kernel
theorem dX7_copyFrom_91 : decode cX7_copyFrom 91 = .ok (.return_, 1) := by decide +kernel
theorem dX7_beginSetUp_0 : decode cX7_beginSetUp 0 = .ok (.aload_n 0, 1) := by decide +kernel
theorem dX7_beginSetUp_1 : decode cX7_beginSetUp 1 = .ok (.getfield 12, 3) := by decide +kernel
theorem dX7_beginSetUp_4 : decode cX7_beginSetUp 4 = .ok (.invokevirtual 54, 3) := by decide +kernel
theorem dX7_beginSetUp_7 : decode cX7_beginSetUp 7 = .ok (.aload_n 0, 1) := by decide +kernel
theorem dX7_beginSetUp_8 : decode cX7_beginSetUp 8 = .ok (.iconst 0, 1) := by decide +kernel
theorem dX7_beginSetUp_9 : decode cX7_beginSetUp 9 = .ok (.invokevirtual 57, 3) := by decide +kernel
theorem dX7_beginSetUp_12 : decode cX7_beginSetUp 12 = .ok (.return_, 1) := by decide +kernel
theorem dX7_endAndClear_0 : decode cX7_endAndClear 0 = .ok (.aload_n 0, 1) := by decide +kernel
theorem dX7_endAndClear_1 : decode cX7_endAndClear 1 = .ok (.getfield 12, 3) := by decide +kernel
theorem dX7_endAndClear_4 : decode cX7_endAndClear 4 = .ok (.invokevirtual 61, 3) := by decide +kernel
theorem dX7_endAndClear_7 : decode cX7_endAndClear 7 = .ok (.aload_n 0, 1) := by decide +kernel
theorem dX7_endAndClear_8 : decode cX7_endAndClear 8 = .ok (.iconst 0, 1) := by decide +kernel
theorem dX7_endAndClear_9 : decode cX7_endAndClear 9 = .ok (.putfield 22, 3) := by decide +kernel
theorem dX7_endAndClear_12 : decode cX7_endAndClear 12 = .ok (.aload_n 0, 1) := by decide +kernel
theorem dX7_endAndClear_13 : decode cX7_endAndClear 13 = .ok (.iconst 0, 1) := by decide +kernel
theorem dX7_endAndClear_14 : decode cX7_endAndClear 14 = .ok (.putfield 26, 3) := by decide +kernel
theorem dX7_endAndClear_17 : decode cX7_endAndClear 17 = .ok (.aload_n 0, 1) := by decide +kernel
theorem dX7_endAndClear_18 : decode cX7_endAndClear 18 = .ok (.iconst 0, 1) := by decide +kernel
theorem dX7_endAndClear_19 : decode cX7_endAndClear 19 = .ok (.putfield 29, 3) := by decide +kernel
theorem dX7_endAndClear_22 : decode cX7_endAndClear 22 = .ok (.aload_n 0, 1) := by decide +kernel
theorem dX7_endAndClear_23 : decode cX7_endAndClear 23 = .ok (.aconst_null, 1) := by decide +kernel
theorem dX7_endAndClear_24 : decode cX7_endAndClear 24 = .ok (.putfield 32, 3) := by decide +kernel
theorem dX7_endAndClear_27 : decode cX7_endAndClear 27 = .ok (.return_, 1) := by decide +kernel
theorem dX7_begin_0 : decode cX7_begin 0 = .ok (.aload_n 0, 1) := by decide +kernel
theorem dX7_begin_1 : decode cX7_begin 1 = .ok (.iconst 1, 1) := by decide +kernel
theorem dX7_begin_2 : decode cX7_begin 2 = .ok (.putfield 22, 3) := by decide +kernel
theorem dX7_begin_5 : decode cX7_begin 5 = .ok (.aload_n 0, 1) := by decide +kernel
theorem dX7_begin_6 : decode cX7_begin 6 = .ok (.iload_n 1, 1) := by decide +kernel
theorem dX7_begin_7 : decode cX7_begin 7 = .ok (.putfield 26, 3) := by decide +kernel
theorem dX7_begin_10 : decode cX7_begin 10 = .ok (.aload_n 0, 1) := by decide +kernel
theorem dX7_begin_11 : decode cX7_begin 11 = .ok (.iconst 0, 1) := by decide +kernel
theorem dX7_begin_12 : decode cX7_begin 12 = .ok (.putfield 29, 3) := by decide +kernel
theorem dX7_begin_15 : decode cX7_begin 15 = .ok (.aload_n 0, 1) := by decide +kernel
theorem dX7_begin_16 : decode cX7_begin 16 = .ok (.new 64, 3) := by decide +kernel
theorem dX7_begin_19 : decode cX7_begin 19 = .ok (.dup, 1) := by decide +kernel
theorem dX7_begin_20 : decode cX7_begin 20 = .ok (.aload_n 0, 1) := by decide +kernel
theorem dX7_begin_21 : decode cX7_begin 21 = .ok (.getfield 12, 3) := by decide +kernel
theorem dX7_begin_24 : decode cX7_begin 24 = .ok (.iload_n 1, 1) := by decide +kernel
theorem dX7_begin_25 : decode cX7_begin 25 = .ok (.aconst_null, 1) := by decide +kernel
theorem dX7_begin_26 : decode cX7_begin 26 = .ok (.invokespecial 66, 3) := by decide +kernel
theorem dX7_begin_29 : decode cX7_begin 29 = .ok (.putfield 32, 3) := by decide +kernel
theorem dX7_begin_32 : decode cX7_begin 32 = .ok (.return_, 1) := by decide +kernel
theorem dX7_timesThere_0 : decode cX7_timesThere 0 = .ok (.aload_n 0, 1) := by decide +kernel
theorem dX7_timesThere_1 : decode cX7_timesThere 1 = .ok (.getfield 32, 3) := by decide +kernel
theorem dX7_timesThere_4 : decode cX7_timesThere 4 = .ok (.ifnonnull 7, 3) := by decide +kernel
theorem dX7_timesThere_7 : decode cX7_timesThere 7 = .ok (.iconst 0, 1) := by decide +kernel
theorem dX7_timesThere_8 : decode cX7_timesThere 8 = .ok (.goto 10, 3) := by decide +kernel
theorem dX7_timesThere_11 : decode cX7_timesThere 11 = .ok (.aload_n 0, 1) := by decide +kernel
theorem dX7_timesThere_12 : decode cX7_timesThere 12 = .ok (.getfield 32, 3) := by decide +kernel
theorem dX7_timesThere_15 : decode cX7_timesThere 15 = .ok (.getfield 69, 3) := by decide +kernel
theorem dX7_timesThere_18 : decode cX7_timesThere 18 = .ok (.ireturn, 1) := by decide +kernel
theorem dX7_allowsMove_0 : decode cX7_allowsMove 0 = .ok (.aload_n 0, 1) := by decide +kernel
theorem dX7_allowsMove_1 : decode cX7_allowsMove 1 = .ok (.getfield 22, 3) := by decide +kernel
theorem dX7_allowsMove_4 : decode cX7_allowsMove 4 = .ok (.iconst 1, 1) := by decide +kernel
theorem dX7_allowsMove_5 : decode cX7_allowsMove 5 = .ok (.if_icmp .ne 37, 3) := by decide +kernel
theorem dX7_allowsMove_8 : decode cX7_allowsMove 8 = .ok (.aload_n 0, 1) := by decide +kernel
theorem dX7_allowsMove_9 : decode cX7_allowsMove 9 = .ok (.getfield 12, 3) := by decide +kernel
theorem dX7_allowsMove_12 : decode cX7_allowsMove 12 = .ok (.iload_n 1, 1) := by decide +kernel
theorem dX7_allowsMove_13 : decode cX7_allowsMove 13 = .ok (.invokevirtual 72, 3) := by decide +kernel
theorem dX7_allowsMove_16 : decode cX7_allowsMove 16 = .ok (.invokestatic 76, 3) := by decide +kernel
theorem dX7_allowsMove_19 : decode cX7_allowsMove 19 = .ok (.aload_n 0, 1) := by decide +kernel
theorem dX7_allowsMove_20 : decode cX7_allowsMove 20 = .ok (.getfield 26, 3) := by decide +kernel
theorem dX7_allowsMove_23 : decode cX7_allowsMove 23 = .ok (.if_icmp .ne 19, 3) := by decide +kernel
theorem dX7_allowsMove_26 : decode cX7_allowsMove 26 = .ok (.aload_n 0, 1) := by decide +kernel
theorem dX7_allowsMove_27 : decode cX7_allowsMove 27 = .ok (.getfield 12, 3) := by decide +kernel
theorem dX7_allowsMove_30 : decode cX7_allowsMove 30 = .ok (.iload_n 1, 1) := by decide +kernel
theorem dX7_allowsMove_31 : decode cX7_allowsMove 31 = .ok (.iload_n 2, 1) := by decide +kernel
theorem dX7_allowsMove_32 : decode cX7_allowsMove 32 = .ok (.invokevirtual 79, 3) := by decide +kernel
theorem dX7_allowsMove_35 : decode cX7_allowsMove 35 = .ok (.ifCond .ne 7, 3) := by decide +kernel
theorem dX7_allowsMove_38 : decode cX7_allowsMove 38 = .ok (.iconst 1, 1) := by decide +kernel
theorem dX7_allowsMove_39 : decode cX7_allowsMove 39 = .ok (.goto 4, 3) := by decide +kernel
theorem dX7_allowsMove_42 : decode cX7_allowsMove 42 = .ok (.iconst 0, 1) := by decide +kernel
theorem dX7_allowsMove_43 : decode cX7_allowsMove 43 = .ok (.ireturn, 1) := by decide +kernel
theorem dX7_makeMove_0 : decode cX7_makeMove 0 = .ok (.aload_n 0, 1) := by decide +kernel
theorem dX7_makeMove_1 : decode cX7_makeMove 1 = .ok (.getfield 12, 3) := by decide +kernel
theorem dX7_makeMove_4 : decode cX7_makeMove 4 = .ok (.iload_n 1, 1) := by decide +kernel
theorem dX7_makeMove_5 : decode cX7_makeMove 5 = .ok (.iload_n 2, 1) := by decide +kernel
theorem dX7_makeMove_6 : decode cX7_makeMove 6 = .ok (.invokevirtual 83, 3) := by decide +kernel
theorem dX7_makeMove_9 : decode cX7_makeMove 9 = .ok (.istore_n 3, 1) := by decide +kernel
theorem dX7_makeMove_10 : decode cX7_makeMove 10 = .ok (.aload_n 0, 1) := by decide +kernel
theorem dX7_makeMove_11 : decode cX7_makeMove 11 = .ok (.getfield 26, 3) := by decide +kernel
theorem dX7_makeMove_14 : decode cX7_makeMove 14 = .ok (.ifCond .ne 16, 3) := by decide +kernel
theorem dX7_makeMove_17 : decode cX7_makeMove 17 = .ok (.aload_n 0, 1) := by decide +kernel
theorem dX7_makeMove_18 : decode cX7_makeMove 18 = .ok (.dup, 1) := by decide +kernel
theorem dX7_makeMove_19 : decode cX7_makeMove 19 = .ok (.getfield 48, 3) := by decide +kernel
theorem dX7_makeMove_22 : decode cX7_makeMove 22 = .ok (.iload_n 3, 1) := by decide +kernel
theorem dX7_makeMove_23 : decode cX7_makeMove 23 = .ok (.iadd, 1) := by decide +kernel
theorem dX7_makeMove_24 : decode cX7_makeMove 24 = .ok (.putfield 48, 3) := by decide +kernel
theorem dX7_makeMove_27 : decode cX7_makeMove 27 = .ok (.goto 13, 3) := by decide +kernel
theorem dX7_makeMove_30 : decode cX7_makeMove 30 = .ok (.aload_n 0, 1) := by decide +kernel
theorem dX7_makeMove_31 : decode cX7_makeMove 31 = .ok (.dup, 1) := by decide +kernel
theorem dX7_makeMove_32 : decode cX7_makeMove 32 = .ok (.getfield 45, 3) := by decide +kernel
theorem dX7_makeMove_35 : decode cX7_makeMove 35 = .ok (.iload_n 3, 1) := by decide +kernel
theorem dX7_makeMove_36 : decode cX7_makeMove 36 = .ok (.iadd, 1) := by decide +kernel
theorem dX7_makeMove_37 : decode cX7_makeMove 37 = .ok (.putfield 45, 3) := by decide +kernel
theorem dX7_makeMove_40 : decode cX7_makeMove 40 = .ok (.aload_n 0, 1) := by decide +kernel
theorem dX7_makeMove_41 : decode cX7_makeMove 41 = .ok (.dup, 1) := by decide +kernel
theorem dX7_makeMove_42 : decode cX7_makeMove 42 = .ok (.getfield 29, 3) := by decide +kernel
theorem dX7_makeMove_45 : decode cX7_makeMove 45 = .ok (.iconst 1, 1) := by decide +kernel
theorem dX7_makeMove_46 : decode cX7_makeMove 46 = .ok (.iadd, 1) := by decide +kernel
theorem dX7_makeMove_47 : decode cX7_makeMove 47 = .ok (.putfield 29, 3) := by decide +kernel
theorem dX7_makeMove_50 : decode cX7_makeMove 50 = .ok (.aload_n 0, 1) := by decide +kernel
theorem dX7_makeMove_51 : decode cX7_makeMove 51 = .ok (.dup, 1) := by decide +kernel
theorem dX7_makeMove_52 : decode cX7_makeMove 52 = .ok (.getfield 51, 3) := by decide +kernel
theorem dX7_makeMove_55 : decode cX7_makeMove 55 = .ok (.iconst 1, 1) := by decide +kernel
theorem dX7_makeMove_56 : decode cX7_makeMove 56 = .ok (.iadd, 1) := by decide +kernel
theorem dX7_makeMove_57 : decode cX7_makeMove 57 = .ok (.putfield 51, 3) := by decide +kernel
theorem dX7_makeMove_60 : decode cX7_makeMove 60 = .ok (.aload_n 0, 1) := by decide +kernel
theorem dX7_makeMove_61 : decode cX7_makeMove 61 = .ok (.iconst 1, 1) := by decide +kernel
theorem dX7_makeMove_62 : decode cX7_makeMove 62 = .ok (.aload_n 0, 1) := by decide +kernel
theorem dX7_makeMove_63 : decode cX7_makeMove 63 = .ok (.getfield 26, 3) := by decide +kernel
theorem dX7_makeMove_66 : decode cX7_makeMove 66 = .ok (.isub, 1) := by decide +kernel
theorem dX7_makeMove_67 : decode cX7_makeMove 67 = .ok (.putfield 26, 3) := by decide +kernel
theorem dX7_makeMove_70 : decode cX7_makeMove 70 = .ok (.aload_n 0, 1) := by decide +kernel
theorem dX7_makeMove_71 : decode cX7_makeMove 71 = .ok (.new 64, 3) := by decide +kernel
theorem dX7_makeMove_74 : decode cX7_makeMove 74 = .ok (.dup, 1) := by decide +kernel
theorem dX7_makeMove_75 : decode cX7_makeMove 75 = .ok (.aload_n 0, 1) := by decide +kernel
theorem dX7_makeMove_76 : decode cX7_makeMove 76 = .ok (.getfield 12, 3) := by decide +kernel
theorem dX7_makeMove_79 : decode cX7_makeMove 79 = .ok (.aload_n 0, 1) := by decide +kernel
theorem dX7_makeMove_80 : decode cX7_makeMove 80 = .ok (.getfield 26, 3) := by decide +kernel
theorem dX7_makeMove_83 : decode cX7_makeMove 83 = .ok (.aload_n 0, 1) := by decide +kernel
theorem dX7_makeMove_84 : decode cX7_makeMove 84 = .ok (.getfield 32, 3) := by decide +kernel
theorem dX7_makeMove_87 : decode cX7_makeMove 87 = .ok (.invokespecial 66, 3) := by decide +kernel
theorem dX7_makeMove_90 : decode cX7_makeMove 90 = .ok (.putfield 32, 3) := by decide +kernel
theorem dX7_makeMove_93 : decode cX7_makeMove 93 = .ok (.aload_n 0, 1) := by decide +kernel
theorem dX7_makeMove_94 : decode cX7_makeMove 94 = .ok (.iload_n 2, 1) := by decide +kernel
theorem dX7_makeMove_95 : decode cX7_makeMove 95 = .ok (.invokevirtual 86, 3) := by decide +kernel
theorem dX7_makeMove_98 : decode cX7_makeMove 98 = .ok (.iload_n 3, 1) := by decide +kernel
theorem dX7_makeMove_99 : decode cX7_makeMove 99 = .ok (.ireturn, 1) := by decide +kernel
theorem dX7_judge_0 : decode cX7_judge 0 = .ok (.aload_n 0, 1) := by decide +kernel
theorem dX7_judge_1 : decode cX7_judge 1 = .ok (.getfield 12, 3) := by decide +kernel
theorem dX7_judge_4 : decode cX7_judge 4 = .ok (.iload_n 1, 1) := by decide +kernel
theorem dX7_judge_5 : decode cX7_judge 5 = .ok (.iconst 1, 1) := by decide +kernel
theorem dX7_judge_6 : decode cX7_judge 6 = .ok (.invokevirtual 89, 3) := by decide +kernel
theorem dX7_judge_9 : decode cX7_judge 9 = .ok (.ifCond .eq 47, 3) := by decide +kernel
theorem dX7_judge_12 : decode cX7_judge 12 = .ok (.iconst 1, 1) := by decide +kernel
theorem dX7_judge_13 : decode cX7_judge 13 = .ok (.aload_n 0, 1) := by decide +kernel
theorem dX7_judge_14 : decode cX7_judge 14 = .ok (.getfield 26, 3) := by decide +kernel
theorem dX7_judge_17 : decode cX7_judge 17 = .ok (.isub, 1) := by decide +kernel
theorem dX7_judge_18 : decode cX7_judge 18 = .ok (.istore_n 2, 1) := by decide +kernel
theorem dX7_judge_19 : decode cX7_judge 19 = .ok (.aload_n 0, 1) := by decide +kernel
theorem dX7_judge_20 : decode cX7_judge 20 = .ok (.iconst 2, 1) := by decide +kernel
theorem dX7_judge_21 : decode cX7_judge 21 = .ok (.iload_n 2, 1) := by decide +kernel
theorem dX7_judge_22 : decode cX7_judge 22 = .ok (.iadd, 1) := by decide +kernel
theorem dX7_judge_23 : decode cX7_judge 23 = .ok (.putfield 22, 3) := by decide +kernel
theorem dX7_judge_26 : decode cX7_judge 26 = .ok (.iload_n 2, 1) := by decide +kernel
theorem dX7_judge_27 : decode cX7_judge 27 = .ok (.ifCond .ne 16, 3) := by decide +kernel
theorem dX7_judge_30 : decode cX7_judge 30 = .ok (.aload_n 0, 1) := by decide +kernel
theorem dX7_judge_31 : decode cX7_judge 31 = .ok (.dup, 1) := by decide +kernel
theorem dX7_judge_32 : decode cX7_judge 32 = .ok (.getfield 36, 3) := by decide +kernel
theorem dX7_judge_35 : decode cX7_judge 35 = .ok (.iconst 1, 1) := by decide +kernel
theorem dX7_judge_36 : decode cX7_judge 36 = .ok (.iadd, 1) := by decide +kernel
theorem dX7_judge_37 : decode cX7_judge 37 = .ok (.putfield 36, 3) := by decide +kernel
theorem dX7_judge_40 : decode cX7_judge 40 = .ok (.goto 13, 3) := by decide +kernel
theorem dX7_judge_43 : decode cX7_judge 43 = .ok (.aload_n 0, 1) := by decide +kernel
theorem dX7_judge_44 : decode cX7_judge 44 = .ok (.dup, 1) := by decide +kernel
theorem dX7_judge_45 : decode cX7_judge 45 = .ok (.getfield 39, 3) := by decide +kernel
theorem dX7_judge_48 : decode cX7_judge 48 = .ok (.iconst 1, 1) := by decide +kernel
theorem dX7_judge_49 : decode cX7_judge 49 = .ok (.iadd, 1) := by decide +kernel
theorem dX7_judge_50 : decode cX7_judge 50 = .ok (.putfield 39, 3) := by decide +kernel
theorem dX7_judge_53 : decode cX7_judge 53 = .ok (.goto 26, 3) := by decide +kernel
theorem dX7_judge_56 : decode cX7_judge 56 = .ok (.aload_n 0, 1) := by decide +kernel
theorem dX7_judge_57 : decode cX7_judge 57 = .ok (.invokevirtual 93, 3) := by decide +kernel
theorem dX7_judge_60 : decode cX7_judge 60 = .ok (.iconst 3, 1) := by decide +kernel
theorem dX7_judge_61 : decode cX7_judge 61 = .ok (.if_icmp .lt 18, 3) := by decide +kernel
theorem dX7_judge_64 : decode cX7_judge 64 = .ok (.aload_n 0, 1) := by decide +kernel
theorem dX7_judge_65 : decode cX7_judge 65 = .ok (.iconst 4, 1) := by decide +kernel
theorem dX7_judge_66 : decode cX7_judge 66 = .ok (.putfield 22, 3) := by decide +kernel
theorem dX7_judge_69 : decode cX7_judge 69 = .ok (.aload_n 0, 1) := by decide +kernel
theorem dX7_judge_70 : decode cX7_judge 70 = .ok (.dup, 1) := by decide +kernel
theorem dX7_judge_71 : decode cX7_judge 71 = .ok (.getfield 42, 3) := by decide +kernel
theorem dX7_judge_74 : decode cX7_judge 74 = .ok (.iconst 1, 1) := by decide +kernel
theorem dX7_judge_75 : decode cX7_judge 75 = .ok (.iadd, 1) := by decide +kernel
theorem dX7_judge_76 : decode cX7_judge 76 = .ok (.putfield 42, 3) := by decide +kernel
theorem dX7_judge_79 : decode cX7_judge 79 = .ok (.return_, 1) := by decide +kernel
