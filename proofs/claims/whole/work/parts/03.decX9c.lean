theorem dX9_ends_52 : decode cX9_ends 52 = .ok (.if_icmp .eq 15, 3) := by decide +kernel
theorem dX9_ends_55 : decode cX9_ends 55 = .ok (.aload_n 1, 1) := by decide +kernel
theorem dX9_ends_56 : decode cX9_ends 56 = .ok (.invokestatic 98, 3) := by decide +kernel
theorem dX9_ends_59 : decode cX9_ends 59 = .ok (.iconst (-1), 1) := by decide +kernel
theorem dX9_ends_60 : decode cX9_ends 60 = .ok (.if_icmp .ne 7, 3) := by decide +kernel
theorem dX9_ends_63 : decode cX9_ends 63 = .ok (.iconst 1, 1) := by decide +kernel
theorem dX9_ends_64 : decode cX9_ends 64 = .ok (.goto 4, 3) := by decide +kernel
theorem dX9_ends_67 : decode cX9_ends 67 = .ok (.iconst 0, 1) := by decide +kernel
theorem dX9_ends_68 : decode cX9_ends 68 = .ok (.istore 7, 2) := by decide +kernel
theorem dX9_ends_70 : decode cX9_ends 70 = .ok (.iload 6, 2) := by decide +kernel
theorem dX9_ends_72 : decode cX9_ends 72 = .ok (.ifCond .ne 19, 3) := by decide +kernel
theorem dX9_ends_75 : decode cX9_ends 75 = .ok (.iload 7, 2) := by decide +kernel
theorem dX9_ends_77 : decode cX9_ends 77 = .ok (.ifCond .ne 14, 3) := by decide +kernel
theorem dX9_ends_80 : decode cX9_ends 80 = .ok (.aload_n 1, 1) := by decide +kernel
theorem dX9_ends_81 : decode cX9_ends 81 = .ok (.iconst 1, 1) := by decide +kernel
theorem dX9_ends_82 : decode cX9_ends 82 = .ok (.iload 4, 2) := by decide +kernel
theorem dX9_ends_84 : decode cX9_ends 84 = .ok (.isub, 1) := by decide +kernel
theorem dX9_ends_85 : decode cX9_ends 85 = .ok (.invokestatic 101, 3) := by decide +kernel
theorem dX9_ends_88 : decode cX9_ends 88 = .ok (.ifCond .ne 7, 3) := by decide +kernel
theorem dX9_ends_91 : decode cX9_ends 91 = .ok (.iconst 1, 1) := by decide +kernel
theorem dX9_ends_92 : decode cX9_ends 92 = .ok (.goto 4, 3) := by decide +kernel
theorem dX9_ends_95 : decode cX9_ends 95 = .ok (.iconst 0, 1) := by decide +kernel
theorem dX9_ends_96 : decode cX9_ends 96 = .ok (.ireturn, 1) := by decide +kernel
theorem dX9_wouldWin_0 : decode cX9_wouldWin 0 = .ok (.aload_n 0, 1) := by decide +kernel
theorem dX9_wouldWin_1 : decode cX9_wouldWin 1 = .ok (.iload_n 1, 1) := by decide +kernel
theorem dX9_wouldWin_2 : decode cX9_wouldWin 2 = .ok (.iload_n 2, 1) := by decide +kernel
theorem dX9_wouldWin_3 : decode cX9_wouldWin 3 = .ok (.invokevirtual 221, 3) := by decide +kernel
theorem dX9_wouldWin_6 : decode cX9_wouldWin 6 = .ok (.ifCond .ne 23, 3) := by decide +kernel
theorem dX9_wouldWin_9 : decode cX9_wouldWin 9 = .ok (.aload_n 0, 1) := by decide +kernel
theorem dX9_wouldWin_10 : decode cX9_wouldWin 10 = .ok (.getfield 7, 3) := by decide +kernel
theorem dX9_wouldWin_13 : decode cX9_wouldWin 13 = .ok (.aload_n 0, 1) := by decide +kernel
theorem dX9_wouldWin_14 : decode cX9_wouldWin 14 = .ok (.getfield 13, 3) := by decide +kernel
theorem dX9_wouldWin_17 : decode cX9_wouldWin 17 = .ok (.iload_n 1, 1) := by decide +kernel
theorem dX9_wouldWin_18 : decode cX9_wouldWin 18 = .ok (.iload_n 2, 1) := by decide +kernel
theorem dX9_wouldWin_19 : decode cX9_wouldWin 19 = .ok (.invokestatic 227, 3) := by decide +kernel
theorem dX9_wouldWin_22 : decode cX9_wouldWin 22 = .ok (.ifCond .eq 7, 3) := by decide +kernel
theorem dX9_wouldWin_25 : decode cX9_wouldWin 25 = .ok (.iconst 1, 1) := by decide +kernel
theorem dX9_wouldWin_26 : decode cX9_wouldWin 26 = .ok (.goto 4, 3) := by decide +kernel
theorem dX9_wouldWin_29 : decode cX9_wouldWin 29 = .ok (.iconst 0, 1) := by decide +kernel
theorem dX9_wouldWin_30 : decode cX9_wouldWin 30 = .ok (.ireturn, 1) := by decide +kernel
theorem dX9_winning_0 : decode cX9_winning 0 = .ok (.iconst 0, 1) := by decide +kernel
theorem dX9_winning_1 : decode cX9_winning 1 = .ok (.istore_n 3, 1) := by decide +kernel
theorem dX9_winning_2 : decode cX9_winning 2 = .ok (.iconst 0, 1) := by decide +kernel
theorem dX9_winning_3 : decode cX9_winning 3 = .ok (.istore 4, 2) := by decide +kernel
theorem dX9_winning_5 : decode cX9_winning 5 = .ok (.iload 4, 2) := by decide +kernel
theorem dX9_winning_7 : decode cX9_winning 7 = .ok (.bipush 49, 2) := by decide +kernel
theorem dX9_winning_9 : decode cX9_winning 9 = .ok (.if_icmp .ge 67, 3) := by decide +kernel
theorem dX9_winning_12 : decode cX9_winning 12 = .ok (.iconst 0, 1) := by decide +kernel
theorem dX9_winning_13 : decode cX9_winning 13 = .ok (.istore 5, 2) := by decide +kernel
theorem dX9_winning_15 : decode cX9_winning 15 = .ok (.iload 5, 2) := by decide +kernel
theorem dX9_winning_17 : decode cX9_winning 17 = .ok (.bipush 49, 2) := by decide +kernel
theorem dX9_winning_19 : decode cX9_winning 19 = .ok (.if_icmp .ge 51, 3) := by decide +kernel
theorem dX9_winning_22 : decode cX9_winning 22 = .ok (.aload_n 0, 1) := by decide +kernel
theorem dX9_winning_23 : decode cX9_winning 23 = .ok (.iload 4, 2) := by decide +kernel
theorem dX9_winning_25 : decode cX9_winning 25 = .ok (.iaload, 1) := by decide +kernel
theorem dX9_winning_26 : decode cX9_winning 26 = .ok (.invokestatic 72, 3) := by decide +kernel
theorem dX9_winning_29 : decode cX9_winning 29 = .ok (.iload_n 2, 1) := by decide +kernel
theorem dX9_winning_30 : decode cX9_winning 30 = .ok (.if_icmp .ne 40, 3) := by decide +kernel
theorem dX9_winning_33 : decode cX9_winning 33 = .ok (.iload_n 3, 1) := by decide +kernel
theorem dX9_winning_34 : decode cX9_winning 34 = .ok (.aload_n 0, 1) := by decide +kernel
theorem dX9_winning_35 : decode cX9_winning 35 = .ok (.iload 4, 2) := by decide +kernel
theorem dX9_winning_37 : decode cX9_winning 37 = .ok (.iload 5, 2) := by decide +kernel
theorem dX9_winning_39 : decode cX9_winning 39 = .ok (.invokestatic 132, 3) := by decide +kernel
theorem dX9_winning_42 : decode cX9_winning 42 = .ok (.ifCond .ne 19, 3) := by decide +kernel
theorem dX9_winning_45 : decode cX9_winning 45 = .ok (.aload_n 0, 1) := by decide +kernel
theorem dX9_winning_46 : decode cX9_winning 46 = .ok (.aload_n 1, 1) := by decide +kernel
theorem dX9_winning_47 : decode cX9_winning 47 = .ok (.iload 4, 2) := by decide +kernel
theorem dX9_winning_49 : decode cX9_winning 49 = .ok (.iload 5, 2) := by decide +kernel
theorem dX9_winning_51 : decode cX9_winning 51 = .ok (.invokestatic 227, 3) := by decide +kernel
theorem dX9_winning_54 : decode cX9_winning 54 = .ok (.ifCond .eq 7, 3) := by decide +kernel
theorem dX9_winning_57 : decode cX9_winning 57 = .ok (.iconst 1, 1) := by decide +kernel
theorem dX9_winning_58 : decode cX9_winning 58 = .ok (.goto 4, 3) := by decide +kernel
theorem dX9_winning_61 : decode cX9_winning 61 = .ok (.iconst 0, 1) := by decide +kernel
theorem dX9_winning_62 : decode cX9_winning 62 = .ok (.iadd, 1) := by decide +kernel
theorem dX9_winning_63 : decode cX9_winning 63 = .ok (.istore_n 3, 1) := by decide +kernel
theorem dX9_winning_64 : decode cX9_winning 64 = .ok (.iinc 5 1, 3) := by decide +kernel
theorem dX9_winning_67 : decode cX9_winning 67 = .ok (.goto (-52), 3) := by decide +kernel
theorem dX9_winning_70 : decode cX9_winning 70 = .ok (.iinc 4 1, 3) := by decide +kernel
theorem dX9_winning_73 : decode cX9_winning 73 = .ok (.goto (-68), 3) := by decide +kernel
theorem dX9_winning_76 : decode cX9_winning 76 = .ok (.iload_n 3, 1) := by decide +kernel
theorem dX9_winning_77 : decode cX9_winning 77 = .ok (.ireturn, 1) := by decide +kernel
theorem dX9_winningMoves_0 : decode cX9_winningMoves 0 = .ok (.aload_n 0, 1) := by decide +kernel
theorem dX9_winningMoves_1 : decode cX9_winningMoves 1 = .ok (.iload_n 1, 1) := by decide +kernel
theorem dX9_winningMoves_2 : decode cX9_winningMoves 2 = .ok (.invokevirtual 209, 3) := by decide +kernel
theorem dX9_winningMoves_5 : decode cX9_winningMoves 5 = .ok (.ifCond .eq 7, 3) := by decide +kernel
theorem dX9_winningMoves_8 : decode cX9_winningMoves 8 = .ok (.iconst 0, 1) := by decide +kernel
theorem dX9_winningMoves_9 : decode cX9_winningMoves 9 = .ok (.goto 15, 3) := by decide +kernel
theorem dX9_winningMoves_12 : decode cX9_winningMoves 12 = .ok (.aload_n 0, 1) := by decide +kernel
theorem dX9_winningMoves_13 : decode cX9_winningMoves 13 = .ok (.getfield 7, 3) := by decide +kernel
theorem dX9_winningMoves_16 : decode cX9_winningMoves 16 = .ok (.aload_n 0, 1) := by decide +kernel
theorem dX9_winningMoves_17 : decode cX9_winningMoves 17 = .ok (.getfield 13, 3) := by decide +kernel
theorem dX9_winningMoves_20 : decode cX9_winningMoves 20 = .ok (.iload_n 1, 1) := by decide +kernel
theorem dX9_winningMoves_21 : decode cX9_winningMoves 21 = .ok (.invokestatic 231, 3) := by decide +kernel
theorem dX9_winningMoves_24 : decode cX9_winningMoves 24 = .ok (.ireturn, 1) := by decide +kernel
theorem dX9_oneMove_0 : decode cX9_oneMove 0 = .ok (.iconst 0, 1) := by decide +kernel
theorem dX9_oneMove_1 : decode cX9_oneMove 1 = .ok (.istore_n 3, 1) := by decide +kernel
theorem dX9_oneMove_2 : decode cX9_oneMove 2 = .ok (.iconst 0, 1) := by decide +kernel
theorem dX9_oneMove_3 : decode cX9_oneMove 3 = .ok (.istore 4, 2) := by decide +kernel
theorem dX9_oneMove_5 : decode cX9_oneMove 5 = .ok (.iload 4, 2) := by decide +kernel
theorem dX9_oneMove_7 : decode cX9_oneMove 7 = .ok (.bipush 49, 2) := by decide +kernel
theorem dX9_oneMove_9 : decode cX9_oneMove 9 = .ok (.if_icmp .ge 70, 3) := by decide +kernel
theorem dX9_oneMove_12 : decode cX9_oneMove 12 = .ok (.iconst 0, 1) := by decide +kernel
theorem dX9_oneMove_13 : decode cX9_oneMove 13 = .ok (.istore 5, 2) := by decide +kernel
theorem dX9_oneMove_15 : decode cX9_oneMove 15 = .ok (.iload 5, 2) := by decide +kernel
theorem dX9_oneMove_17 : decode cX9_oneMove 17 = .ok (.bipush 49, 2) := by decide +kernel
theorem dX9_oneMove_19 : decode cX9_oneMove 19 = .ok (.if_icmp .ge 54, 3) := by decide +kernel
theorem dX9_oneMove_22 : decode cX9_oneMove 22 = .ok (.aload_n 0, 1) := by decide +kernel
theorem dX9_oneMove_23 : decode cX9_oneMove 23 = .ok (.getfield 7, 3) := by decide +kernel
theorem dX9_oneMove_26 : decode cX9_oneMove 26 = .ok (.iload 4, 2) := by decide +kernel
theorem dX9_oneMove_28 : decode cX9_oneMove 28 = .ok (.iaload, 1) := by decide +kernel
theorem dX9_oneMove_29 : decode cX9_oneMove 29 = .ok (.invokestatic 72, 3) := by decide +kernel
theorem dX9_oneMove_32 : decode cX9_oneMove 32 = .ok (.iload_n 1, 1) := by decide +kernel
theorem dX9_oneMove_33 : decode cX9_oneMove 33 = .ok (.if_icmp .ne 40, 3) := by decide +kernel
theorem dX9_oneMove_36 : decode cX9_oneMove 36 = .ok (.aload_n 0, 1) := by decide +kernel
theorem dX9_oneMove_37 : decode cX9_oneMove 37 = .ok (.getfield 7, 3) := by decide +kernel
theorem dX9_oneMove_40 : decode cX9_oneMove 40 = .ok (.iload 4, 2) := by decide +kernel
theorem dX9_oneMove_42 : decode cX9_oneMove 42 = .ok (.iload 5, 2) := by decide +kernel
theorem dX9_oneMove_44 : decode cX9_oneMove 44 = .ok (.invokestatic 132, 3) := by decide +kernel
theorem dX9_oneMove_47 : decode cX9_oneMove 47 = .ok (.ifCond .ne 20, 3) := by decide +kernel
theorem dX9_oneMove_50 : decode cX9_oneMove 50 = .ok (.iload_n 3, 1) := by decide +kernel
theorem dX9_oneMove_51 : decode cX9_oneMove 51 = .ok (.iload_n 2, 1) := by decide +kernel
theorem dX9_oneMove_52 : decode cX9_oneMove 52 = .ok (.if_icmp .ne 12, 3) := by decide +kernel
theorem dX9_oneMove_55 : decode cX9_oneMove 55 = .ok (.bipush 49, 2) := by decide +kernel
theorem dX9_oneMove_57 : decode cX9_oneMove 57 = .ok (.iload 4, 2) := by decide +kernel
theorem dX9_oneMove_59 : decode cX9_oneMove 59 = .ok (.imul, 1) := by decide +kernel
theorem dX9_oneMove_60 : decode cX9_oneMove 60 = .ok (.iload 5, 2) := by decide +kernel
theorem dX9_oneMove_62 : decode cX9_oneMove 62 = .ok (.iadd, 1) := by decide +kernel
theorem dX9_oneMove_63 : decode cX9_oneMove 63 = .ok (.ireturn, 1) := by decide +kernel
theorem dX9_oneMove_64 : decode cX9_oneMove 64 = .ok (.iinc 3 1, 3) := by decide +kernel
theorem dX9_oneMove_67 : decode cX9_oneMove 67 = .ok (.iinc 5 1, 3) := by decide +kernel
theorem dX9_oneMove_70 : decode cX9_oneMove 70 = .ok (.goto (-55), 3) := by decide +kernel
theorem dX9_oneMove_73 : decode cX9_oneMove 73 = .ok (.iinc 4 1, 3) := by decide +kernel
theorem dX9_oneMove_76 : decode cX9_oneMove 76 = .ok (.goto (-71), 3) := by decide +kernel
theorem dX9_oneMove_79 : decode cX9_oneMove 79 = .ok (.iconst (-1), 1) := by decide +kernel
theorem dX9_oneMove_80 : decode cX9_oneMove 80 = .ok (.ireturn, 1) := by decide +kernel
theorem dX9_moveAt_0 : decode cX9_moveAt 0 = .ok (.iload_n 1, 1) := by decide +kernel
theorem dX9_moveAt_1 : decode cX9_moveAt 1 = .ok (.invokestatic 156, 3) := by decide +kernel
theorem dX9_moveAt_4 : decode cX9_moveAt 4 = .ok (.ifCond .eq 27, 3) := by decide +kernel
theorem dX9_moveAt_7 : decode cX9_moveAt 7 = .ok (.iload_n 2, 1) := by decide +kernel
theorem dX9_moveAt_8 : decode cX9_moveAt 8 = .ok (.i2l, 1) := by decide +kernel
theorem dX9_moveAt_9 : decode cX9_moveAt 9 = .ok (.lconst 0, 1) := by decide +kernel
theorem dX9_moveAt_10 : decode cX9_moveAt 10 = .ok (.aload_n 0, 1) := by decide +kernel
theorem dX9_moveAt_11 : decode cX9_moveAt 11 = .ok (.getfield 7, 3) := by decide +kernel
theorem dX9_moveAt_14 : decode cX9_moveAt 14 = .ok (.iload_n 1, 1) := by decide +kernel
theorem dX9_moveAt_15 : decode cX9_moveAt 15 = .ok (.invokestatic 101, 3) := by decide +kernel
theorem dX9_moveAt_18 : decode cX9_moveAt 18 = .ok (.iconst 1, 1) := by decide +kernel
theorem dX9_moveAt_19 : decode cX9_moveAt 19 = .ok (.isub, 1) := by decide +kernel
theorem dX9_moveAt_20 : decode cX9_moveAt 20 = .ok (.i2l, 1) := by decide +kernel
theorem dX9_moveAt_21 : decode cX9_moveAt 21 = .ok (.invokestatic 58, 3) := by decide +kernel
theorem dX9_moveAt_24 : decode cX9_moveAt 24 = .ok (.ifCond .eq 7, 3) := by decide +kernel
theorem dX9_moveAt_27 : decode cX9_moveAt 27 = .ok (.iconst 1, 1) := by decide +kernel
theorem dX9_moveAt_28 : decode cX9_moveAt 28 = .ok (.goto 4, 3) := by decide +kernel
theorem dX9_moveAt_31 : decode cX9_moveAt 31 = .ok (.iconst 0, 1) := by decide +kernel
theorem dX9_moveAt_32 : decode cX9_moveAt 32 = .ok (.istore_n 3, 1) := by decide +kernel
theorem dX9_moveAt_33 : decode cX9_moveAt 33 = .ok (.aload_n 0, 1) := by decide +kernel
theorem dX9_moveAt_34 : decode cX9_moveAt 34 = .ok (.iload_n 3, 1) := by decide +kernel
theorem dX9_moveAt_35 : decode cX9_moveAt 35 = .ok (.ifCond .eq 7, 3) := by decide +kernel
theorem dX9_moveAt_38 : decode cX9_moveAt 38 = .ok (.iconst 0, 1) := by decide +kernel
theorem dX9_moveAt_39 : decode cX9_moveAt 39 = .ok (.goto 4, 3) := by decide +kernel
theorem dX9_moveAt_42 : decode cX9_moveAt 42 = .ok (.iconst 1, 1) := by decide +kernel
theorem dX9_moveAt_43 : decode cX9_moveAt 43 = .ok (.invokevirtual 153, 3) := by decide +kernel
theorem dX9_moveAt_46 : decode cX9_moveAt 46 = .ok (.ifCond .eq 7, 3) := by decide +kernel
theorem dX9_moveAt_49 : decode cX9_moveAt 49 = .ok (.iconst 0, 1) := by decide +kernel
theorem dX9_moveAt_50 : decode cX9_moveAt 50 = .ok (.goto 9, 3) := by decide +kernel
theorem dX9_moveAt_53 : decode cX9_moveAt 53 = .ok (.aload_n 0, 1) := by decide +kernel
theorem dX9_moveAt_54 : decode cX9_moveAt 54 = .ok (.iload_n 1, 1) := by decide +kernel
theorem dX9_moveAt_55 : decode cX9_moveAt 55 = .ok (.iload_n 2, 1) := by decide +kernel
theorem dX9_moveAt_56 : decode cX9_moveAt 56 = .ok (.invokevirtual 235, 3) := by decide +kernel
theorem dX9_moveAt_59 : decode cX9_moveAt 59 = .ok (.ireturn, 1) := by decide +kernel
theorem dX9_measure_0 : decode cX9_measure 0 = .ok (.aload_n 0, 1) := by decide +kernel
theorem dX9_measure_1 : decode cX9_measure 1 = .ok (.getfield 7, 3) := by decide +kernel
theorem dX9_measure_4 : decode cX9_measure 4 = .ok (.invokestatic 98, 3) := by decide +kernel
theorem dX9_measure_7 : decode cX9_measure 7 = .ok (.istore_n 1, 1) := by decide +kernel
theorem dX9_measure_8 : decode cX9_measure 8 = .ok (.iconst 0, 1) := by decide +kernel
theorem dX9_measure_9 : decode cX9_measure 9 = .ok (.istore_n 2, 1) := by decide +kernel
theorem dX9_measure_10 : decode cX9_measure 10 = .ok (.iload_n 2, 1) := by decide +kernel
theorem dX9_measure_11 : decode cX9_measure 11 = .ok (.bipush 49, 2) := by decide +kernel
theorem dX9_measure_13 : decode cX9_measure 13 = .ok (.if_icmp .ge 25, 3) := by decide +kernel
theorem dX9_measure_16 : decode cX9_measure 16 = .ok (.aload_n 0, 1) := by decide +kernel
theorem dX9_measure_17 : decode cX9_measure 17 = .ok (.getfield 19, 3) := by decide +kernel
theorem dX9_measure_20 : decode cX9_measure 20 = .ok (.iload_n 2, 1) := by decide +kernel
theorem dX9_measure_21 : decode cX9_measure 21 = .ok (.iload_n 2, 1) := by decide +kernel
theorem dX9_measure_22 : decode cX9_measure 22 = .ok (.iload_n 1, 1) := by decide +kernel
theorem dX9_measure_23 : decode cX9_measure 23 = .ok (.if_icmp .ne 7, 3) := by decide +kernel
theorem dX9_measure_26 : decode cX9_measure 26 = .ok (.iconst 0, 1) := by decide +kernel
theorem dX9_measure_27 : decode cX9_measure 27 = .ok (.goto 4, 3) := by decide +kernel
theorem dX9_measure_30 : decode cX9_measure 30 = .ok (.iconst (-1), 1) := by decide +kernel
theorem dX9_measure_31 : decode cX9_measure 31 = .ok (.iastore, 1) := by decide +kernel
theorem dX9_measure_32 : decode cX9_measure 32 = .ok (.iinc 2 1, 3) := by decide +kernel
theorem dX9_measure_35 : decode cX9_measure 35 = .ok (.goto (-25), 3) := by decide +kernel
theorem dX9_measure_38 : decode cX9_measure 38 = .ok (.iconst 0, 1) := by decide +kernel
theorem dX9_measure_39 : decode cX9_measure 39 = .ok (.istore_n 2, 1) := by decide +kernel
theorem dX9_measure_40 : decode cX9_measure 40 = .ok (.iload_n 2, 1) := by decide +kernel
theorem dX9_measure_41 : decode cX9_measure 41 = .ok (.bipush 49, 2) := by decide +kernel
theorem dX9_measure_43 : decode cX9_measure 43 = .ok (.if_icmp .ge 121, 3) := by decide +kernel
theorem dX9_measure_46 : decode cX9_measure 46 = .ok (.iconst 0, 1) := by decide +kernel
theorem dX9_measure_47 : decode cX9_measure 47 = .ok (.istore_n 3, 1) := by decide +kernel
theorem dX9_measure_48 : decode cX9_measure 48 = .ok (.iload_n 3, 1) := by decide +kernel
theorem dX9_measure_49 : decode cX9_measure 49 = .ok (.bipush 49, 2) := by decide +kernel
theorem dX9_measure_51 : decode cX9_measure 51 = .ok (.if_icmp .ge 107, 3) := by decide +kernel
theorem dX9_measure_54 : decode cX9_measure 54 = .ok (.iconst 0, 1) := by decide +kernel
theorem dX9_measure_55 : decode cX9_measure 55 = .ok (.istore 4, 2) := by decide +kernel
theorem dX9_measure_57 : decode cX9_measure 57 = .ok (.iload 4, 2) := by decide +kernel
theorem dX9_measure_59 : decode cX9_measure 59 = .ok (.iconst 4, 1) := by decide +kernel
theorem dX9_measure_60 : decode cX9_measure 60 = .ok (.if_icmp .ge 92, 3) := by decide +kernel
theorem dX9_measure_63 : decode cX9_measure 63 = .ok (.aload_n 0, 1) := by decide +kernel
theorem dX9_measure_64 : decode cX9_measure 64 = .ok (.getfield 19, 3) := by decide +kernel
theorem dX9_measure_67 : decode cX9_measure 67 = .ok (.iload_n 3, 1) := by decide +kernel
theorem dX9_measure_68 : decode cX9_measure 68 = .ok (.iaload, 1) := by decide +kernel
theorem dX9_measure_69 : decode cX9_measure 69 = .ok (.iload_n 2, 1) := by decide +kernel
theorem dX9_measure_70 : decode cX9_measure 70 = .ok (.if_icmp .ne 82, 3) := by decide +kernel
theorem dX9_measure_73 : decode cX9_measure 73 = .ok (.iload_n 3, 1) := by decide +kernel
theorem dX9_measure_74 : decode cX9_measure 74 = .ok (.iload 4, 2) := by decide +kernel
theorem dX9_measure_76 : decode cX9_measure 76 = .ok (.invokestatic 76, 3) := by decide +kernel
theorem dX9_measure_79 : decode cX9_measure 79 = .ok (.istore 5, 2) := by decide +kernel
theorem dX9_measure_81 : decode cX9_measure 81 = .ok (.iload 5, 2) := by decide +kernel
theorem dX9_measure_83 : decode cX9_measure 83 = .ok (.iconst (-1), 1) := by decide +kernel
theorem dX9_measure_84 : decode cX9_measure 84 = .ok (.if_icmp .eq 62, 3) := by decide +kernel
theorem dX9_measure_87 : decode cX9_measure 87 = .ok (.aload_n 0, 1) := by decide +kernel
theorem dX9_measure_88 : decode cX9_measure 88 = .ok (.getfield 7, 3) := by decide +kernel
theorem dX9_measure_91 : decode cX9_measure 91 = .ok (.iload 5, 2) := by decide +kernel
theorem dX9_measure_93 : decode cX9_measure 93 = .ok (.iaload, 1) := by decide +kernel
theorem dX9_measure_94 : decode cX9_measure 94 = .ok (.ifCond .eq 9, 3) := by decide +kernel
theorem dX9_measure_97 : decode cX9_measure 97 = .ok (.iload 5, 2) := by decide +kernel
theorem dX9_measure_99 : decode cX9_measure 99 = .ok (.iload_n 1, 1) := by decide +kernel
theorem dX9_measure_100 : decode cX9_measure 100 = .ok (.if_icmp .ne 46, 3) := by decide +kernel
theorem dX9_measure_103 : decode cX9_measure 103 = .ok (.aload_n 0, 1) := by decide +kernel
theorem dX9_measure_104 : decode cX9_measure 104 = .ok (.getfield 19, 3) := by decide +kernel
theorem dX9_measure_107 : decode cX9_measure 107 = .ok (.iload 5, 2) := by decide +kernel
theorem dX9_measure_109 : decode cX9_measure 109 = .ok (.aload_n 0, 1) := by decide +kernel
theorem dX9_measure_110 : decode cX9_measure 110 = .ok (.getfield 19, 3) := by decide +kernel
theorem dX9_measure_113 : decode cX9_measure 113 = .ok (.iload 5, 2) := by decide +kernel
theorem dX9_measure_115 : decode cX9_measure 115 = .ok (.iaload, 1) := by decide +kernel
theorem dX9_measure_116 : decode cX9_measure 116 = .ok (.iconst (-1), 1) := by decide +kernel
theorem dX9_measure_117 : decode cX9_measure 117 = .ok (.if_icmp .ne 9, 3) := by decide +kernel
theorem dX9_measure_120 : decode cX9_measure 120 = .ok (.iload_n 2, 1) := by decide +kernel
theorem dX9_measure_121 : decode cX9_measure 121 = .ok (.iconst 1, 1) := by decide +kernel
theorem dX9_measure_122 : decode cX9_measure 122 = .ok (.iadd, 1) := by decide +kernel
theorem dX9_measure_123 : decode cX9_measure 123 = .ok (.goto 10, 3) := by decide +kernel
theorem dX9_measure_126 : decode cX9_measure 126 = .ok (.aload_n 0, 1) := by decide +kernel
theorem dX9_measure_127 : decode cX9_measure 127 = .ok (.getfield 19, 3) := by decide +kernel
theorem dX9_measure_130 : decode cX9_measure 130 = .ok (.iload 5, 2) := by decide +kernel
theorem dX9_measure_132 : decode cX9_measure 132 = .ok (.iaload, 1) := by decide +kernel
theorem dX9_measure_133 : decode cX9_measure 133 = .ok (.iastore, 1) := by decide +kernel
theorem dX9_measure_134 : decode cX9_measure 134 = .ok (.iload 5, 2) := by decide +kernel
theorem dX9_measure_136 : decode cX9_measure 136 = .ok (.iload 4, 2) := by decide +kernel
theorem dX9_measure_138 : decode cX9_measure 138 = .ok (.invokestatic 76, 3) := by decide +kernel
theorem dX9_measure_141 : decode cX9_measure 141 = .ok (.istore 5, 2) := by decide +kernel
theorem dX9_measure_143 : decode cX9_measure 143 = .ok (.goto (-62), 3) := by decide +kernel
theorem dX9_measure_146 : decode cX9_measure 146 = .ok (.iinc 4 1, 3) := by decide +kernel
theorem dX9_measure_149 : decode cX9_measure 149 = .ok (.goto (-92), 3) := by decide +kernel
theorem dX9_measure_152 : decode cX9_measure 152 = .ok (.iinc 3 1, 3) := by decide +kernel
theorem dX9_measure_155 : decode cX9_measure 155 = .ok (.goto (-107), 3) := by decide +kernel
theorem dX9_measure_158 : decode cX9_measure 158 = .ok (.iinc 2 1, 3) := by decide +kernel
theorem dX9_measure_161 : decode cX9_measure 161 = .ok (.goto (-121), 3) := by decide +kernel
theorem dX9_measure_164 : decode cX9_measure 164 = .ok (.return_, 1) := by decide +kernel
theorem dX9_kingMoves_0 : decode cX9_kingMoves 0 = .ok (.iconst (-1), 1) := by decide +kernel
theorem dX9_kingMoves_1 : decode cX9_kingMoves 1 = .ok (.istore_n 1, 1) := by decide +kernel
theorem dX9_kingMoves_2 : decode cX9_kingMoves 2 = .ok (.aload_n 0, 1) := by decide +kernel
theorem dX9_kingMoves_3 : decode cX9_kingMoves 3 = .ok (.invokevirtual 238, 3) := by decide +kernel
theorem dX9_kingMoves_6 : decode cX9_kingMoves 6 = .ok (.iconst 0, 1) := by decide +kernel
theorem dX9_kingMoves_7 : decode cX9_kingMoves 7 = .ok (.istore_n 2, 1) := by decide +kernel
theorem dX9_kingMoves_8 : decode cX9_kingMoves 8 = .ok (.iload_n 2, 1) := by decide +kernel
theorem dX9_kingMoves_9 : decode cX9_kingMoves 9 = .ok (.bipush 49, 2) := by decide +kernel
theorem dX9_kingMoves_11 : decode cX9_kingMoves 11 = .ok (.if_icmp .ge 62, 3) := by decide +kernel
theorem dX9_kingMoves_14 : decode cX9_kingMoves 14 = .ok (.iload_n 2, 1) := by decide +kernel
theorem dX9_kingMoves_15 : decode cX9_kingMoves 15 = .ok (.invokestatic 68, 3) := by decide +kernel
theorem dX9_kingMoves_18 : decode cX9_kingMoves 18 = .ok (.ifCond .eq 17, 3) := by decide +kernel
theorem dX9_kingMoves_21 : decode cX9_kingMoves 21 = .ok (.aload_n 0, 1) := by decide +kernel
theorem dX9_kingMoves_22 : decode cX9_kingMoves 22 = .ok (.getfield 19, 3) := by decide +kernel
theorem dX9_kingMoves_25 : decode cX9_kingMoves 25 = .ok (.iload_n 2, 1) := by decide +kernel
theorem dX9_kingMoves_26 : decode cX9_kingMoves 26 = .ok (.iaload, 1) := by decide +kernel
theorem dX9_kingMoves_27 : decode cX9_kingMoves 27 = .ok (.iconst (-1), 1) := by decide +kernel
theorem dX9_kingMoves_28 : decode cX9_kingMoves 28 = .ok (.if_icmp .eq 7, 3) := by decide +kernel
theorem dX9_kingMoves_31 : decode cX9_kingMoves 31 = .ok (.iconst 1, 1) := by decide +kernel
theorem dX9_kingMoves_32 : decode cX9_kingMoves 32 = .ok (.goto 4, 3) := by decide +kernel
theorem dX9_kingMoves_35 : decode cX9_kingMoves 35 = .ok (.iconst 0, 1) := by decide +kernel
theorem dX9_kingMoves_36 : decode cX9_kingMoves 36 = .ok (.istore_n 3, 1) := by decide +kernel
theorem dX9_kingMoves_37 : decode cX9_kingMoves 37 = .ok (.iload_n 3, 1) := by decide +kernel
theorem dX9_kingMoves_38 : decode cX9_kingMoves 38 = .ok (.ifCond .eq 27, 3) := by decide +kernel
theorem dX9_kingMoves_41 : decode cX9_kingMoves 41 = .ok (.iload_n 1, 1) := by decide +kernel
theorem dX9_kingMoves_42 : decode cX9_kingMoves 42 = .ok (.iconst (-1), 1) := by decide +kernel
theorem dX9_kingMoves_43 : decode cX9_kingMoves 43 = .ok (.if_icmp .eq 13, 3) := by decide +kernel
theorem dX9_kingMoves_46 : decode cX9_kingMoves 46 = .ok (.aload_n 0, 1) := by decide +kernel
theorem dX9_kingMoves_47 : decode cX9_kingMoves 47 = .ok (.getfield 19, 3) := by decide +kernel
theorem dX9_kingMoves_50 : decode cX9_kingMoves 50 = .ok (.iload_n 2, 1) := by decide +kernel
theorem dX9_kingMoves_51 : decode cX9_kingMoves 51 = .ok (.iaload, 1) := by decide +kernel
theorem dX9_kingMoves_52 : decode cX9_kingMoves 52 = .ok (.iload_n 1, 1) := by decide +kernel
theorem dX9_kingMoves_53 : decode cX9_kingMoves 53 = .ok (.if_icmp .ge 12, 3) := by decide +kernel
theorem dX9_kingMoves_56 : decode cX9_kingMoves 56 = .ok (.aload_n 0, 1) := by decide +kernel
theorem dX9_kingMoves_57 : decode cX9_kingMoves 57 = .ok (.getfield 19, 3) := by decide +kernel
theorem dX9_kingMoves_60 : decode cX9_kingMoves 60 = .ok (.iload_n 2, 1) := by decide +kernel
theorem dX9_kingMoves_61 : decode cX9_kingMoves 61 = .ok (.iaload, 1) := by decide +kernel
theorem dX9_kingMoves_62 : decode cX9_kingMoves 62 = .ok (.goto 4, 3) := by decide +kernel
theorem dX9_kingMoves_65 : decode cX9_kingMoves 65 = .ok (.iload_n 1, 1) := by decide +kernel
theorem dX9_kingMoves_66 : decode cX9_kingMoves 66 = .ok (.istore_n 1, 1) := by decide +kernel
theorem dX9_kingMoves_67 : decode cX9_kingMoves 67 = .ok (.iinc 2 1, 3) := by decide +kernel
theorem dX9_kingMoves_70 : decode cX9_kingMoves 70 = .ok (.goto (-62), 3) := by decide +kernel
theorem dX9_kingMoves_73 : decode cX9_kingMoves 73 = .ok (.iload_n 1, 1) := by decide +kernel
theorem dX9_kingMoves_74 : decode cX9_kingMoves 74 = .ok (.ireturn, 1) := by decide +kernel
theorem dX9_kingMovesByRounds_0 : decode cX9_kingMovesByRounds 0 = .ok (.aload_n 0, 1) := by decide +kernel
theorem dX9_kingMovesByRounds_1 : decode cX9_kingMovesByRounds 1 = .ok (.aload_n 0, 1) := by decide +kernel
theorem dX9_kingMovesByRounds_2 : decode cX9_kingMovesByRounds 2 = .ok (.invokevirtual 241, 3) := by decide +kernel
theorem dX9_kingMovesByRounds_5 : decode cX9_kingMovesByRounds 5 = .ok (.iconst (-1), 1) := by decide +kernel
theorem dX9_kingMovesByRounds_6 : decode cX9_kingMovesByRounds 6 = .ok (.if_icmp .ne 7, 3) := by decide +kernel
theorem dX9_kingMovesByRounds_9 : decode cX9_kingMovesByRounds 9 = .ok (.iconst 1, 1) := by decide +kernel
theorem dX9_kingMovesByRounds_10 : decode cX9_kingMovesByRounds 10 = .ok (.goto 4, 3) := by decide +kernel
theorem dX9_kingMovesByRounds_13 : decode cX9_kingMovesByRounds 13 = .ok (.iconst 0, 1) := by decide +kernel
theorem dX9_kingMovesByRounds_14 : decode cX9_kingMovesByRounds 14 = .ok (.invokevirtual 153, 3) := by decide +kernel
theorem dX9_kingMovesByRounds_17 : decode cX9_kingMovesByRounds 17 = .ok (.ifCond .eq 7, 3) := by decide +kernel
theorem dX9_kingMovesByRounds_20 : decode cX9_kingMovesByRounds 20 = .ok (.iconst 0, 1) := by decide +kernel
theorem dX9_kingMovesByRounds_21 : decode cX9_kingMovesByRounds 21 = .ok (.goto 7, 3) := by decide +kernel
theorem dX9_kingMovesByRounds_24 : decode cX9_kingMovesByRounds 24 = .ok (.aload_n 0, 1) := by decide +kernel
theorem dX9_kingMovesByRounds_25 : decode cX9_kingMovesByRounds 25 = .ok (.invokevirtual 241, 3) := by decide +kernel
theorem dX9_kingMovesByRounds_28 : decode cX9_kingMovesByRounds 28 = .ok (.ireturn, 1) := by decide +kernel
theorem dX9_kingMovesByCorners_0 : decode cX9_kingMovesByCorners 0 = .ok (.aload_n 0, 1) := by decide +kernel
theorem dX9_kingMovesByCorners_1 : decode cX9_kingMovesByCorners 1 = .ok (.aload_n 0, 1) := by decide +kernel
theorem dX9_kingMovesByCorners_2 : decode cX9_kingMovesByCorners 2 = .ok (.invokevirtual 241, 3) := by decide +kernel
theorem dX9_kingMovesByCorners_5 : decode cX9_kingMovesByCorners 5 = .ok (.iconst (-1), 1) := by decide +kernel
theorem dX9_kingMovesByCorners_6 : decode cX9_kingMovesByCorners 6 = .ok (.if_icmp .ne 7, 3) := by decide +kernel
theorem dX9_kingMovesByCorners_9 : decode cX9_kingMovesByCorners 9 = .ok (.iconst 1, 1) := by decide +kernel
theorem dX9_kingMovesByCorners_10 : decode cX9_kingMovesByCorners 10 = .ok (.goto 4, 3) := by decide +kernel
theorem dX9_kingMovesByCorners_13 : decode cX9_kingMovesByCorners 13 = .ok (.iconst 0, 1) := by decide +kernel
theorem dX9_kingMovesByCorners_14 : decode cX9_kingMovesByCorners 14 = .ok (.invokevirtual 153, 3) := by decide +kernel
theorem dX9_kingMovesByCorners_17 : decode cX9_kingMovesByCorners 17 = .ok (.ifCond .eq 7, 3) := by decide +kernel
theorem dX9_kingMovesByCorners_20 : decode cX9_kingMovesByCorners 20 = .ok (.iconst 0, 1) := by decide +kernel
theorem dX9_kingMovesByCorners_21 : decode cX9_kingMovesByCorners 21 = .ok (.goto 7, 3) := by decide +kernel
theorem dX9_kingMovesByCorners_24 : decode cX9_kingMovesByCorners 24 = .ok (.aload_n 0, 1) := by decide +kernel
theorem dX9_kingMovesByCorners_25 : decode cX9_kingMovesByCorners 25 = .ok (.invokevirtual 241, 3) := by decide +kernel
theorem dX9_kingMovesByCorners_28 : decode cX9_kingMovesByCorners 28 = .ok (.ireturn, 1) := by decide +kernel
theorem dX9_corners_0 : decode cX9_corners 0 = .ok (.iconst 0, 1) := by decide +kernel
theorem dX9_corners_1 : decode cX9_corners 1 = .ok (.istore_n 1, 1) := by decide +kernel
theorem dX9_corners_2 : decode cX9_corners 2 = .ok (.aload_n 0, 1) := by decide +kernel
theorem dX9_corners_3 : decode cX9_corners 3 = .ok (.invokevirtual 238, 3) := by decide +kernel
theorem dX9_corners_6 : decode cX9_corners 6 = .ok (.iconst 0, 1) := by decide +kernel
theorem dX9_corners_7 : decode cX9_corners 7 = .ok (.istore_n 2, 1) := by decide +kernel
theorem dX9_corners_8 : decode cX9_corners 8 = .ok (.iload_n 2, 1) := by decide +kernel
theorem dX9_corners_9 : decode cX9_corners 9 = .ok (.bipush 49, 2) := by decide +kernel
theorem dX9_corners_11 : decode cX9_corners 11 = .ok (.if_icmp .ge 34, 3) := by decide +kernel
theorem dX9_corners_14 : decode cX9_corners 14 = .ok (.iload_n 1, 1) := by decide +kernel
theorem dX9_corners_15 : decode cX9_corners 15 = .ok (.iload_n 2, 1) := by decide +kernel
theorem dX9_corners_16 : decode cX9_corners 16 = .ok (.invokestatic 68, 3) := by decide +kernel
theorem dX9_corners_19 : decode cX9_corners 19 = .ok (.ifCond .eq 17, 3) := by decide +kernel
theorem dX9_corners_22 : decode cX9_corners 22 = .ok (.aload_n 0, 1) := by decide +kernel
theorem dX9_corners_23 : decode cX9_corners 23 = .ok (.getfield 19, 3) := by decide +kernel
theorem dX9_corners_26 : decode cX9_corners 26 = .ok (.iload_n 2, 1) := by decide +kernel
theorem dX9_corners_27 : decode cX9_corners 27 = .ok (.iaload, 1) := by decide +kernel
theorem dX9_corners_28 : decode cX9_corners 28 = .ok (.iconst 1, 1) := by decide +kernel
theorem dX9_corners_29 : decode cX9_corners 29 = .ok (.if_icmp .ne 7, 3) := by decide +kernel
theorem dX9_corners_32 : decode cX9_corners 32 = .ok (.iconst 1, 1) := by decide +kernel
theorem dX9_corners_33 : decode cX9_corners 33 = .ok (.goto 4, 3) := by decide +kernel
theorem dX9_corners_36 : decode cX9_corners 36 = .ok (.iconst 0, 1) := by decide +kernel
theorem dX9_corners_37 : decode cX9_corners 37 = .ok (.iadd, 1) := by decide +kernel
theorem dX9_corners_38 : decode cX9_corners 38 = .ok (.istore_n 1, 1) := by decide +kernel
theorem dX9_corners_39 : decode cX9_corners 39 = .ok (.iinc 2 1, 3) := by decide +kernel
theorem dX9_corners_42 : decode cX9_corners 42 = .ok (.goto (-34), 3) := by decide +kernel
theorem dX9_corners_45 : decode cX9_corners 45 = .ok (.iload_n 1, 1) := by decide +kernel
theorem dX9_corners_46 : decode cX9_corners 46 = .ok (.ireturn, 1) := by decide +kernel
theorem dX9_openCorners_0 : decode cX9_openCorners 0 = .ok (.aload_n 0, 1) := by decide +kernel
theorem dX9_openCorners_1 : decode cX9_openCorners 1 = .ok (.iconst 0, 1) := by decide +kernel
theorem dX9_openCorners_2 : decode cX9_openCorners 2 = .ok (.putfield 52, 3) := by decide +kernel
theorem dX9_openCorners_5 : decode cX9_openCorners 5 = .ok (.aload_n 0, 1) := by decide +kernel
theorem dX9_openCorners_6 : decode cX9_openCorners 6 = .ok (.invokevirtual 244, 3) := by decide +kernel
theorem dX9_openCorners_9 : decode cX9_openCorners 9 = .ok (.ireturn, 1) := by decide +kernel
theorem dX9_reach_0 : decode cX9_reach 0 = .ok (.iconst 0, 1) := by decide +kernel
theorem dX9_reach_1 : decode cX9_reach 1 = .ok (.istore_n 1, 1) := by decide +kernel
theorem dX9_reach_2 : decode cX9_reach 2 = .ok (.aload_n 0, 1) := by decide +kernel
theorem dX9_reach_3 : decode cX9_reach 3 = .ok (.invokevirtual 238, 3) := by decide +kernel
theorem dX9_reach_6 : decode cX9_reach 6 = .ok (.iconst 0, 1) := by decide +kernel
theorem dX9_reach_7 : decode cX9_reach 7 = .ok (.istore_n 2, 1) := by decide +kernel
theorem dX9_reach_8 : decode cX9_reach 8 = .ok (.iload_n 2, 1) := by decide +kernel
theorem dX9_reach_9 : decode cX9_reach 9 = .ok (.bipush 49, 2) := by decide +kernel
theorem dX9_reach_11 : decode cX9_reach 11 = .ok (.if_icmp .ge 26, 3) := by decide +kernel
theorem dX9_reach_14 : decode cX9_reach 14 = .ok (.iload_n 1, 1) := by decide +kernel
theorem dX9_reach_15 : decode cX9_reach 15 = .ok (.aload_n 0, 1) := by decide +kernel
theorem dX9_reach_16 : decode cX9_reach 16 = .ok (.getfield 19, 3) := by decide +kernel
theorem dX9_reach_19 : decode cX9_reach 19 = .ok (.iload_n 2, 1) := by decide +kernel
theorem dX9_reach_20 : decode cX9_reach 20 = .ok (.iaload, 1) := by decide +kernel
theorem dX9_reach_21 : decode cX9_reach 21 = .ok (.ifCond .le 7, 3) := by decide +kernel
theorem dX9_reach_24 : decode cX9_reach 24 = .ok (.iconst 1, 1) := by decide +kernel
theorem dX9_reach_25 : decode cX9_reach 25 = .ok (.goto 4, 3) := by decide +kernel
theorem dX9_reach_28 : decode cX9_reach 28 = .ok (.iconst 0, 1) := by decide +kernel
theorem dX9_reach_29 : decode cX9_reach 29 = .ok (.iadd, 1) := by decide +kernel
theorem dX9_reach_30 : decode cX9_reach 30 = .ok (.istore_n 1, 1) := by decide +kernel
theorem dX9_reach_31 : decode cX9_reach 31 = .ok (.iinc 2 1, 3) := by decide +kernel
theorem dX9_reach_34 : decode cX9_reach 34 = .ok (.goto (-26), 3) := by decide +kernel
theorem dX9_reach_37 : decode cX9_reach 37 = .ok (.iload_n 1, 1) := by decide +kernel
theorem dX9_reach_38 : decode cX9_reach 38 = .ok (.ireturn, 1) := by decide +kernel
theorem dX9_kingReach_0 : decode cX9_kingReach 0 = .ok (.aload_n 0, 1) := by decide +kernel
theorem dX9_kingReach_1 : decode cX9_kingReach 1 = .ok (.iconst 0, 1) := by decide +kernel
theorem dX9_kingReach_2 : decode cX9_kingReach 2 = .ok (.putfield 52, 3) := by decide +kernel
theorem dX9_kingReach_5 : decode cX9_kingReach 5 = .ok (.aload_n 0, 1) := by decide +kernel
theorem dX9_kingReach_6 : decode cX9_kingReach 6 = .ok (.invokevirtual 247, 3) := by decide +kernel
theorem dX9_kingReach_9 : decode cX9_kingReach 9 = .ok (.ireturn, 1) := by decide +kernel
theorem dX9_pressure_0 : decode cX9_pressure 0 = .ok (.iconst 0, 1) := by decide +kernel
theorem dX9_pressure_1 : decode cX9_pressure 1 = .ok (.istore_n 1, 1) := by decide +kernel
theorem dX9_pressure_2 : decode cX9_pressure 2 = .ok (.aload_n 0, 1) := by decide +kernel
theorem dX9_pressure_3 : decode cX9_pressure 3 = .ok (.getfield 7, 3) := by decide +kernel
theorem dX9_pressure_6 : decode cX9_pressure 6 = .ok (.invokestatic 98, 3) := by decide +kernel
theorem dX9_pressure_9 : decode cX9_pressure 9 = .ok (.istore_n 2, 1) := by decide +kernel
theorem dX9_pressure_10 : decode cX9_pressure 10 = .ok (.iconst 0, 1) := by decide +kernel
theorem dX9_pressure_11 : decode cX9_pressure 11 = .ok (.istore_n 3, 1) := by decide +kernel
theorem dX9_pressure_12 : decode cX9_pressure 12 = .ok (.iload_n 3, 1) := by decide +kernel
theorem dX9_pressure_13 : decode cX9_pressure 13 = .ok (.iconst 4, 1) := by decide +kernel
theorem dX9_pressure_14 : decode cX9_pressure 14 = .ok (.if_icmp .ge 43, 3) := by decide +kernel
theorem dX9_pressure_17 : decode cX9_pressure 17 = .ok (.iload_n 2, 1) := by decide +kernel
theorem dX9_pressure_18 : decode cX9_pressure 18 = .ok (.iload_n 3, 1) := by decide +kernel
theorem dX9_pressure_19 : decode cX9_pressure 19 = .ok (.invokestatic 76, 3) := by decide +kernel
theorem dX9_pressure_22 : decode cX9_pressure 22 = .ok (.istore 4, 2) := by decide +kernel
theorem dX9_pressure_24 : decode cX9_pressure 24 = .ok (.iload_n 1, 1) := by decide +kernel
theorem dX9_pressure_25 : decode cX9_pressure 25 = .ok (.iload 4, 2) := by decide +kernel
theorem dX9_pressure_27 : decode cX9_pressure 27 = .ok (.iconst (-1), 1) := by decide +kernel
theorem dX9_pressure_28 : decode cX9_pressure 28 = .ok (.if_icmp .eq 20, 3) := by decide +kernel
theorem dX9_pressure_31 : decode cX9_pressure 31 = .ok (.aload_n 0, 1) := by decide +kernel
theorem dX9_pressure_32 : decode cX9_pressure 32 = .ok (.getfield 7, 3) := by decide +kernel
theorem dX9_pressure_35 : decode cX9_pressure 35 = .ok (.iload 4, 2) := by decide +kernel
theorem dX9_pressure_37 : decode cX9_pressure 37 = .ok (.iconst 1, 1) := by decide +kernel
theorem dX9_pressure_38 : decode cX9_pressure 38 = .ok (.invokestatic 87, 3) := by decide +kernel
theorem dX9_pressure_41 : decode cX9_pressure 41 = .ok (.ifCond .eq 7, 3) := by decide +kernel
theorem dX9_pressure_44 : decode cX9_pressure 44 = .ok (.iconst 1, 1) := by decide +kernel
theorem dX9_pressure_45 : decode cX9_pressure 45 = .ok (.goto 4, 3) := by decide +kernel
theorem dX9_pressure_48 : decode cX9_pressure 48 = .ok (.iconst 0, 1) := by decide +kernel
theorem dX9_pressure_49 : decode cX9_pressure 49 = .ok (.iadd, 1) := by decide +kernel
theorem dX9_pressure_50 : decode cX9_pressure 50 = .ok (.istore_n 1, 1) := by decide +kernel
theorem dX9_pressure_51 : decode cX9_pressure 51 = .ok (.iinc 3 1, 3) := by decide +kernel
theorem dX9_pressure_54 : decode cX9_pressure 54 = .ok (.goto (-42), 3) := by decide +kernel
theorem dX9_pressure_57 : decode cX9_pressure 57 = .ok (.iload_n 1, 1) := by decide +kernel
theorem dX9_pressure_58 : decode cX9_pressure 58 = .ok (.ireturn, 1) := by decide +kernel
theorem dX9_kingPressure_0 : decode cX9_kingPressure 0 = .ok (.aload_n 0, 1) := by decide +kernel
theorem dX9_kingPressure_1 : decode cX9_kingPressure 1 = .ok (.aload_n 0, 1) := by decide +kernel
theorem dX9_kingPressure_2 : decode cX9_kingPressure 2 = .ok (.getfield 7, 3) := by decide +kernel
theorem dX9_kingPressure_5 : decode cX9_kingPressure 5 = .ok (.invokestatic 98, 3) := by decide +kernel
theorem dX9_kingPressure_8 : decode cX9_kingPressure 8 = .ok (.iconst (-1), 1) := by decide +kernel
theorem dX9_kingPressure_9 : decode cX9_kingPressure 9 = .ok (.if_icmp .ne 7, 3) := by decide +kernel
theorem dX9_kingPressure_12 : decode cX9_kingPressure 12 = .ok (.iconst 1, 1) := by decide +kernel
theorem dX9_kingPressure_13 : decode cX9_kingPressure 13 = .ok (.goto 4, 3) := by decide +kernel
theorem dX9_kingPressure_16 : decode cX9_kingPressure 16 = .ok (.iconst 0, 1) := by decide +kernel
theorem dX9_kingPressure_17 : decode cX9_kingPressure 17 = .ok (.invokevirtual 153, 3) := by decide +kernel
theorem dX9_kingPressure_20 : decode cX9_kingPressure 20 = .ok (.ifCond .eq 7, 3) := by decide +kernel
theorem dX9_kingPressure_23 : decode cX9_kingPressure 23 = .ok (.iconst 0, 1) := by decide +kernel
theorem dX9_kingPressure_24 : decode cX9_kingPressure 24 = .ok (.goto 7, 3) := by decide +kernel
theorem dX9_kingPressure_27 : decode cX9_kingPressure 27 = .ok (.aload_n 0, 1) := by decide +kernel
theorem dX9_kingPressure_28 : decode cX9_kingPressure 28 = .ok (.invokevirtual 250, 3) := by decide +kernel
theorem dX9_kingPressure_31 : decode cX9_kingPressure 31 = .ok (.ireturn, 1) := by decide +kernel
theorem dX9_worth_0 : decode cX9_worth 0 = .ok (.aload_n 0, 1) := by decide +kernel
theorem dX9_worth_1 : decode cX9_worth 1 = .ok (.getfield 7, 3) := by decide +kernel
theorem dX9_worth_4 : decode cX9_worth 4 = .ok (.aload_n 0, 1) := by decide +kernel
theorem dX9_worth_5 : decode cX9_worth 5 = .ok (.getfield 13, 3) := by decide +kernel
theorem dX9_worth_8 : decode cX9_worth 8 = .ok (.iload_n 1, 1) := by decide +kernel
theorem dX9_worth_9 : decode cX9_worth 9 = .ok (.iload_n 2, 1) := by decide +kernel
theorem dX9_worth_10 : decode cX9_worth 10 = .ok (.invokestatic 227, 3) := by decide +kernel
theorem dX9_worth_13 : decode cX9_worth 13 = .ok (.ifCond .eq 7, 3) := by decide +kernel
theorem dX9_worth_16 : decode cX9_worth 16 = .ok (.sipush 1000, 3) := by decide +kernel
theorem dX9_worth_19 : decode cX9_worth 19 = .ok (.ireturn, 1) := by decide +kernel
theorem dX9_worth_20 : decode cX9_worth 20 = .ok (.aload_n 0, 1) := by decide +kernel
theorem dX9_worth_21 : decode cX9_worth 21 = .ok (.iload_n 1, 1) := by decide +kernel
theorem dX9_worth_22 : decode cX9_worth 22 = .ok (.iload_n 2, 1) := by decide +kernel
theorem dX9_worth_23 : decode cX9_worth 23 = .ok (.invokevirtual 224, 3) := by decide +kernel
theorem dX9_worth_26 : decode cX9_worth 26 = .ok (.istore_n 3, 1) := by decide +kernel
theorem dX9_worth_27 : decode cX9_worth 27 = .ok (.bipush 20, 2) := by decide +kernel
theorem dX9_worth_29 : decode cX9_worth 29 = .ok (.iload_n 3, 1) := by decide +kernel
theorem dX9_worth_30 : decode cX9_worth 30 = .ok (.imul, 1) := by decide +kernel
theorem dX9_worth_31 : decode cX9_worth 31 = .ok (.bipush 100, 2) := by decide +kernel
theorem dX9_worth_33 : decode cX9_worth 33 = .ok (.aload_n 0, 1) := by decide +kernel
theorem dX9_worth_34 : decode cX9_worth 34 = .ok (.getfield 13, 3) := by decide +kernel
theorem dX9_worth_37 : decode cX9_worth 37 = .ok (.aload_n 0, 1) := by decide +kernel
theorem dX9_worth_38 : decode cX9_worth 38 = .ok (.getfield 16, 3) := by decide +kernel
theorem dX9_worth_41 : decode cX9_worth 41 = .ok (.iconst 1, 1) := by decide +kernel
theorem dX9_worth_42 : decode cX9_worth 42 = .ok (.aload_n 0, 1) := by decide +kernel
theorem dX9_worth_43 : decode cX9_worth 43 = .ok (.getfield 7, 3) := by decide +kernel
theorem dX9_worth_46 : decode cX9_worth 46 = .ok (.iload_n 1, 1) := by decide +kernel
theorem dX9_worth_47 : decode cX9_worth 47 = .ok (.iaload, 1) := by decide +kernel
theorem dX9_worth_48 : decode cX9_worth 48 = .ok (.invokestatic 72, 3) := by decide +kernel
theorem dX9_worth_51 : decode cX9_worth 51 = .ok (.isub, 1) := by decide +kernel
theorem dX9_worth_52 : decode cX9_worth 52 = .ok (.invokestatic 231, 3) := by decide +kernel
theorem dX9_worth_55 : decode cX9_worth 55 = .ok (.imul, 1) := by decide +kernel
theorem dX9_worth_56 : decode cX9_worth 56 = .ok (.isub, 1) := by decide +kernel
theorem dX9_worth_57 : decode cX9_worth 57 = .ok (.ireturn, 1) := by decide +kernel
theorem dX9_worthOf_0 : decode cX9_worthOf 0 = .ok (.aload_n 0, 1) := by decide +kernel
theorem dX9_worthOf_1 : decode cX9_worthOf 1 = .ok (.iload_n 1, 1) := by decide +kernel
theorem dX9_worthOf_2 : decode cX9_worthOf 2 = .ok (.iload_n 2, 1) := by decide +kernel
theorem dX9_worthOf_3 : decode cX9_worthOf 3 = .ok (.invokevirtual 221, 3) := by decide +kernel
theorem dX9_worthOf_6 : decode cX9_worthOf 6 = .ok (.ifCond .eq 7, 3) := by decide +kernel
theorem dX9_worthOf_9 : decode cX9_worthOf 9 = .ok (.iconst 0, 1) := by decide +kernel
theorem dX9_worthOf_10 : decode cX9_worthOf 10 = .ok (.goto 9, 3) := by decide +kernel
theorem dX9_worthOf_13 : decode cX9_worthOf 13 = .ok (.aload_n 0, 1) := by decide +kernel
theorem dX9_worthOf_14 : decode cX9_worthOf 14 = .ok (.iload_n 1, 1) := by decide +kernel
theorem dX9_worthOf_15 : decode cX9_worthOf 15 = .ok (.iload_n 2, 1) := by decide +kernel
theorem dX9_worthOf_16 : decode cX9_worthOf 16 = .ok (.invokevirtual 253, 3) := by decide +kernel
theorem dX9_worthOf_19 : decode cX9_worthOf 19 = .ok (.ireturn, 1) := by decide +kernel
theorem dX9_best_0 : decode cX9_best 0 = .ok (.iconst (-1), 1) := by decide +kernel
theorem dX9_best_1 : decode cX9_best 1 = .ok (.istore_n 2, 1) := by decide +kernel
theorem dX9_best_2 : decode cX9_best 2 = .ok (.iconst 0, 1) := by decide +kernel
theorem dX9_best_3 : decode cX9_best 3 = .ok (.istore_n 3, 1) := by decide +kernel
theorem dX9_best_4 : decode cX9_best 4 = .ok (.iconst 0, 1) := by decide +kernel
theorem dX9_best_5 : decode cX9_best 5 = .ok (.istore 4, 2) := by decide +kernel
theorem dX9_best_7 : decode cX9_best 7 = .ok (.iload 4, 2) := by decide +kernel
theorem dX9_best_9 : decode cX9_best 9 = .ok (.bipush 49, 2) := by decide +kernel
theorem dX9_best_11 : decode cX9_best 11 = .ok (.if_icmp .ge 100, 3) := by decide +kernel
theorem dX9_best_14 : decode cX9_best 14 = .ok (.iconst 0, 1) := by decide +kernel
theorem dX9_best_15 : decode cX9_best 15 = .ok (.istore 5, 2) := by decide +kernel
theorem dX9_best_17 : decode cX9_best 17 = .ok (.iload 5, 2) := by decide +kernel
theorem dX9_best_19 : decode cX9_best 19 = .ok (.bipush 49, 2) := by decide +kernel
theorem dX9_best_21 : decode cX9_best 21 = .ok (.if_icmp .ge 84, 3) := by decide +kernel
theorem dX9_best_24 : decode cX9_best 24 = .ok (.aload_n 0, 1) := by decide +kernel
theorem dX9_best_25 : decode cX9_best 25 = .ok (.getfield 7, 3) := by decide +kernel
theorem dX9_best_28 : decode cX9_best 28 = .ok (.iload 4, 2) := by decide +kernel
theorem dX9_best_30 : decode cX9_best 30 = .ok (.iaload, 1) := by decide +kernel
theorem dX9_best_31 : decode cX9_best 31 = .ok (.invokestatic 72, 3) := by decide +kernel
theorem dX9_best_34 : decode cX9_best 34 = .ok (.iload_n 1, 1) := by decide +kernel
theorem dX9_best_35 : decode cX9_best 35 = .ok (.if_icmp .ne 70, 3) := by decide +kernel
theorem dX9_best_38 : decode cX9_best 38 = .ok (.aload_n 0, 1) := by decide +kernel
theorem dX9_best_39 : decode cX9_best 39 = .ok (.getfield 7, 3) := by decide +kernel
theorem dX9_best_42 : decode cX9_best 42 = .ok (.iload 4, 2) := by decide +kernel
theorem dX9_best_44 : decode cX9_best 44 = .ok (.iload 5, 2) := by decide +kernel
theorem dX9_best_46 : decode cX9_best 46 = .ok (.invokestatic 132, 3) := by decide +kernel
theorem dX9_best_49 : decode cX9_best 49 = .ok (.ifCond .ne 14, 3) := by decide +kernel
theorem dX9_best_52 : decode cX9_best 52 = .ok (.aload_n 0, 1) := by decide +kernel
theorem dX9_best_53 : decode cX9_best 53 = .ok (.iload 4, 2) := by decide +kernel
theorem dX9_best_55 : decode cX9_best 55 = .ok (.iload 5, 2) := by decide +kernel
theorem dX9_best_57 : decode cX9_best 57 = .ok (.invokevirtual 253, 3) := by decide +kernel
theorem dX9_best_60 : decode cX9_best 60 = .ok (.goto 6, 3) := by decide +kernel
theorem dX9_best_63 : decode cX9_best 63 = .ok (.ldc_w 256, 3) := by decide +kernel
theorem dX9_best_66 : decode cX9_best 66 = .ok (.istore 6, 2) := by decide +kernel
theorem dX9_best_68 : decode cX9_best 68 = .ok (.iload 6, 2) := by decide +kernel
theorem dX9_best_70 : decode cX9_best 70 = .ok (.ldc_w 256, 3) := by decide +kernel
theorem dX9_best_73 : decode cX9_best 73 = .ok (.if_icmp .le 26, 3) := by decide +kernel
theorem dX9_best_76 : decode cX9_best 76 = .ok (.iload_n 2, 1) := by decide +kernel
theorem dX9_best_77 : decode cX9_best 77 = .ok (.iconst (-1), 1) := by decide +kernel
theorem dX9_best_78 : decode cX9_best 78 = .ok (.if_icmp .eq 9, 3) := by decide +kernel
theorem dX9_best_81 : decode cX9_best 81 = .ok (.iload 6, 2) := by decide +kernel
theorem dX9_best_83 : decode cX9_best 83 = .ok (.iload_n 3, 1) := by decide +kernel
theorem dX9_best_84 : decode cX9_best 84 = .ok (.if_icmp .le 15, 3) := by decide +kernel
theorem dX9_best_87 : decode cX9_best 87 = .ok (.bipush 49, 2) := by decide +kernel
theorem dX9_best_89 : decode cX9_best 89 = .ok (.iload 4, 2) := by decide +kernel
theorem dX9_best_91 : decode cX9_best 91 = .ok (.imul, 1) := by decide +kernel
theorem dX9_best_92 : decode cX9_best 92 = .ok (.iload 5, 2) := by decide +kernel
theorem dX9_best_94 : decode cX9_best 94 = .ok (.iadd, 1) := by decide +kernel
theorem dX9_best_95 : decode cX9_best 95 = .ok (.istore_n 2, 1) := by decide +kernel
theorem dX9_best_96 : decode cX9_best 96 = .ok (.iload 6, 2) := by decide +kernel
theorem dX9_best_98 : decode cX9_best 98 = .ok (.istore_n 3, 1) := by decide +kernel
theorem dX9_best_99 : decode cX9_best 99 = .ok (.iinc 5 1, 3) := by decide +kernel
theorem dX9_best_102 : decode cX9_best 102 = .ok (.goto (-85), 3) := by decide +kernel
theorem dX9_best_105 : decode cX9_best 105 = .ok (.iinc 4 1, 3) := by decide +kernel
theorem dX9_best_108 : decode cX9_best 108 = .ok (.goto (-101), 3) := by decide +kernel
theorem dX9_best_111 : decode cX9_best 111 = .ok (.iload_n 2, 1) := by decide +kernel
theorem dX9_best_112 : decode cX9_best 112 = .ok (.ireturn, 1) := by decide +kernel
theorem dX9_bestMove_0 : decode cX9_bestMove 0 = .ok (.aload_n 0, 1) := by decide +kernel
theorem dX9_bestMove_1 : decode cX9_bestMove 1 = .ok (.iload_n 1, 1) := by decide +kernel
theorem dX9_bestMove_2 : decode cX9_bestMove 2 = .ok (.invokestatic 156, 3) := by decide +kernel
theorem dX9_bestMove_5 : decode cX9_bestMove 5 = .ok (.ifCond .ne 7, 3) := by decide +kernel
theorem dX9_bestMove_8 : decode cX9_bestMove 8 = .ok (.iconst 1, 1) := by decide +kernel
theorem dX9_bestMove_9 : decode cX9_bestMove 9 = .ok (.goto 19, 3) := by decide +kernel
theorem dX9_bestMove_12 : decode cX9_bestMove 12 = .ok (.aload_n 0, 1) := by decide +kernel
theorem dX9_bestMove_13 : decode cX9_bestMove 13 = .ok (.getfield 7, 3) := by decide +kernel
theorem dX9_bestMove_16 : decode cX9_bestMove 16 = .ok (.iload_n 1, 1) := by decide +kernel
theorem dX9_bestMove_17 : decode cX9_bestMove 17 = .ok (.invokestatic 101, 3) := by decide +kernel
theorem dX9_bestMove_20 : decode cX9_bestMove 20 = .ok (.ifCond .ne 7, 3) := by decide +kernel
theorem dX9_bestMove_23 : decode cX9_bestMove 23 = .ok (.iconst 2, 1) := by decide +kernel
theorem dX9_bestMove_24 : decode cX9_bestMove 24 = .ok (.goto 4, 3) := by decide +kernel
theorem dX9_bestMove_27 : decode cX9_bestMove 27 = .ok (.iconst 0, 1) := by decide +kernel
theorem dX9_bestMove_28 : decode cX9_bestMove 28 = .ok (.invokevirtual 153, 3) := by decide +kernel
theorem dX9_bestMove_31 : decode cX9_bestMove 31 = .ok (.ifCond .eq 7, 3) := by decide +kernel
theorem dX9_bestMove_34 : decode cX9_bestMove 34 = .ok (.iconst 0, 1) := by decide +kernel
theorem dX9_bestMove_35 : decode cX9_bestMove 35 = .ok (.goto 8, 3) := by decide +kernel
theorem dX9_bestMove_38 : decode cX9_bestMove 38 = .ok (.aload_n 0, 1) := by decide +kernel
theorem dX9_bestMove_39 : decode cX9_bestMove 39 = .ok (.iload_n 1, 1) := by decide +kernel
theorem dX9_bestMove_40 : decode cX9_bestMove 40 = .ok (.invokevirtual 257, 3) := by decide +kernel
theorem dX9_bestMove_43 : decode cX9_bestMove 43 = .ok (.ireturn, 1) := by decide +kernel
theorem dX9_wins_0 : decode cX9_wins 0 = .ok (.aload_n 0, 1) := by decide +kernel
theorem dX9_wins_1 : decode cX9_wins 1 = .ok (.iload_n 1, 1) := by decide +kernel
theorem dX9_wins_2 : decode cX9_wins 2 = .ok (.invokevirtual 209, 3) := by decide +kernel
theorem dX9_wins_5 : decode cX9_wins 5 = .ok (.ifCond .eq 7, 3) := by decide +kernel
theorem dX9_wins_8 : decode cX9_wins 8 = .ok (.iconst 0, 1) := by decide +kernel
theorem dX9_wins_9 : decode cX9_wins 9 = .ok (.goto 12, 3) := by decide +kernel
theorem dX9_wins_12 : decode cX9_wins 12 = .ok (.aload_n 0, 1) := by decide +kernel
theorem dX9_wins_13 : decode cX9_wins 13 = .ok (.getfield 7, 3) := by decide +kernel
theorem dX9_wins_16 : decode cX9_wins 16 = .ok (.bipush 55, 2) := by decide +kernel
theorem dX9_wins_18 : decode cX9_wins 18 = .ok (.iload_n 1, 1) := by decide +kernel
theorem dX9_wins_19 : decode cX9_wins 19 = .ok (.iadd, 1) := by decide +kernel
theorem dX9_wins_20 : decode cX9_wins 20 = .ok (.iaload, 1) := by decide +kernel
theorem dX9_wins_21 : decode cX9_wins 21 = .ok (.ireturn, 1) := by decide +kernel
theorem dX9_draws_0 : decode cX9_draws 0 = .ok (.aload_n 0, 1) := by decide +kernel
theorem dX9_draws_1 : decode cX9_draws 1 = .ok (.bipush 57, 2) := by decide +kernel
theorem dX9_draws_3 : decode cX9_draws 3 = .ok (.invokevirtual 215, 3) := by decide +kernel
theorem dX9_draws_6 : decode cX9_draws 6 = .ok (.ireturn, 1) := by decide +kernel
theorem dX9_takenOf_0 : decode cX9_takenOf 0 = .ok (.aload_n 0, 1) := by decide +kernel
theorem dX9_takenOf_1 : decode cX9_takenOf 1 = .ok (.iload_n 1, 1) := by decide +kernel
theorem dX9_takenOf_2 : decode cX9_takenOf 2 = .ok (.invokevirtual 209, 3) := by decide +kernel
theorem dX9_takenOf_5 : decode cX9_takenOf 5 = .ok (.ifCond .eq 7, 3) := by decide +kernel
theorem dX9_takenOf_8 : decode cX9_takenOf 8 = .ok (.iconst 0, 1) := by decide +kernel
theorem dX9_takenOf_9 : decode cX9_takenOf 9 = .ok (.goto 12, 3) := by decide +kernel
theorem dX9_takenOf_12 : decode cX9_takenOf 12 = .ok (.aload_n 0, 1) := by decide +kernel
theorem dX9_takenOf_13 : decode cX9_takenOf 13 = .ok (.getfield 7, 3) := by decide +kernel
theorem dX9_takenOf_16 : decode cX9_takenOf 16 = .ok (.bipush 58, 2) := by decide +kernel
theorem dX9_takenOf_18 : decode cX9_takenOf 18 = .ok (.iload_n 1, 1) := by decide +kernel
theorem dX9_takenOf_19 : decode cX9_takenOf 19 = .ok (.iadd, 1) := by decide +kernel
theorem dX9_takenOf_20 : decode cX9_takenOf 20 = .ok (.iaload, 1) := by decide +kernel
theorem dX9_takenOf_21 : decode cX9_takenOf 21 = .ok (.ireturn, 1) := by decide +kernel
theorem dX9_allMoves_0 : decode cX9_allMoves 0 = .ok (.aload_n 0, 1) := by decide +kernel
theorem dX9_allMoves_1 : decode cX9_allMoves 1 = .ok (.bipush 54, 2) := by decide +kernel
theorem dX9_allMoves_3 : decode cX9_allMoves 3 = .ok (.invokevirtual 215, 3) := by decide +kernel
theorem dX9_allMoves_6 : decode cX9_allMoves 6 = .ok (.ireturn, 1) := by decide +kernel
theorem dX9_mean_0 : decode cX9_mean 0 = .ok (.aload_n 0, 1) := by decide +kernel
theorem dX9_mean_1 : decode cX9_mean 1 = .ok (.getfield 7, 3) := by decide +kernel
theorem dX9_mean_4 : decode cX9_mean 4 = .ok (.iconst 0, 1) := by decide +kernel
theorem dX9_mean_5 : decode cX9_mean 5 = .ok (.invokestatic 101, 3) := by decide +kernel
theorem dX9_mean_8 : decode cX9_mean 8 = .ok (.aload_n 0, 1) := by decide +kernel
theorem dX9_mean_9 : decode cX9_mean 9 = .ok (.getfield 7, 3) := by decide +kernel
theorem dX9_mean_12 : decode cX9_mean 12 = .ok (.iconst 1, 1) := by decide +kernel
theorem dX9_mean_13 : decode cX9_mean 13 = .ok (.invokestatic 101, 3) := by decide +kernel
theorem dX9_mean_16 : decode cX9_mean 16 = .ok (.iadd, 1) := by decide +kernel
theorem dX9_mean_17 : decode cX9_mean 17 = .ok (.i2d, 1) := by decide +kernel
theorem dX9_mean_18 : decode cX9_mean 18 = .ok (.ldc2_w 260, 3) := by decide +kernel
theorem dX9_mean_21 : decode cX9_mean 21 = .ok (.ddiv, 1) := by decide +kernel
theorem dX9_mean_22 : decode cX9_mean 22 = .ok (.dreturn, 1) := by decide +kernel
theorem dX9_meanMoves_0 : decode cX9_meanMoves 0 = .ok (.aload_n 0, 1) := by decide +kernel
theorem dX9_meanMoves_1 : decode cX9_meanMoves 1 = .ok (.iconst 0, 1) := by decide +kernel
theorem dX9_meanMoves_2 : decode cX9_meanMoves 2 = .ok (.putfield 52, 3) := by decide +kernel
theorem dX9_meanMoves_5 : decode cX9_meanMoves 5 = .ok (.aload_n 0, 1) := by decide +kernel
theorem dX9_meanMoves_6 : decode cX9_meanMoves 6 = .ok (.invokevirtual 262, 3) := by decide +kernel
theorem dX9_meanMoves_9 : decode cX9_meanMoves 9 = .ok (.dreturn, 1) := by decide +kernel
theorem dX9_mix_0 : decode cX9_mix 0 = .ok (.ldc2_w 266, 3) := by decide +kernel
theorem dX9_mix_3 : decode cX9_mix 3 = .ok (.lload_n 0, 1) := by decide +kernel
theorem dX9_mix_4 : decode cX9_mix 4 = .ok (.lmul, 1) := by decide +kernel
theorem dX9_mix_5 : decode cX9_mix 5 = .ok (.lload_n 2, 1) := by decide +kernel
theorem dX9_mix_6 : decode cX9_mix 6 = .ok (.ladd, 1) := by decide +kernel
theorem dX9_mix_7 : decode cX9_mix 7 = .ok (.lreturn, 1) := by decide +kernel
theorem dX9_sideHash_0 : decode cX9_sideHash 0 = .ok (.aload_n 0, 1) := by decide +kernel
theorem dX9_sideHash_1 : decode cX9_sideHash 1 = .ok (.getfield 7, 3) := by decide +kernel
theorem dX9_sideHash_4 : decode cX9_sideHash 4 = .ok (.iload_n 3, 1) := by decide +kernel
theorem dX9_sideHash_5 : decode cX9_sideHash 5 = .ok (.invokestatic 101, 3) := by decide +kernel
theorem dX9_sideHash_8 : decode cX9_sideHash 8 = .ok (.istore 4, 2) := by decide +kernel
theorem dX9_sideHash_10 : decode cX9_sideHash 10 = .ok (.lload_n 1, 1) := by decide +kernel
theorem dX9_sideHash_11 : decode cX9_sideHash 11 = .ok (.iload 4, 2) := by decide +kernel
theorem dX9_sideHash_13 : decode cX9_sideHash 13 = .ok (.i2l, 1) := by decide +kernel
theorem dX9_sideHash_14 : decode cX9_sideHash 14 = .ok (.invokestatic 268, 3) := by decide +kernel
theorem dX9_sideHash_17 : decode cX9_sideHash 17 = .ok (.iload 4, 2) := by decide +kernel
theorem dX9_sideHash_19 : decode cX9_sideHash 19 = .ok (.i2l, 1) := by decide +kernel
theorem dX9_sideHash_20 : decode cX9_sideHash 20 = .ok (.invokestatic 268, 3) := by decide +kernel
theorem dX9_sideHash_23 : decode cX9_sideHash 23 = .ok (.aload_n 0, 1) := by decide +kernel
theorem dX9_sideHash_24 : decode cX9_sideHash 24 = .ok (.getfield 7, 3) := by decide +kernel
theorem dX9_sideHash_27 : decode cX9_sideHash 27 = .ok (.aload_n 0, 1) := by decide +kernel
theorem dX9_sideHash_28 : decode cX9_sideHash 28 = .ok (.getfield 13, 3) := by decide +kernel
theorem dX9_sideHash_31 : decode cX9_sideHash 31 = .ok (.iload_n 3, 1) := by decide +kernel
theorem dX9_sideHash_32 : decode cX9_sideHash 32 = .ok (.invokestatic 231, 3) := by decide +kernel
theorem dX9_sideHash_35 : decode cX9_sideHash 35 = .ok (.i2l, 1) := by decide +kernel
theorem dX9_sideHash_36 : decode cX9_sideHash 36 = .ok (.invokestatic 268, 3) := by decide +kernel
theorem dX9_sideHash_39 : decode cX9_sideHash 39 = .ok (.lstore 5, 2) := by decide +kernel
theorem dX9_sideHash_41 : decode cX9_sideHash 41 = .ok (.lload 5, 2) := by decide +kernel
theorem dX9_sideHash_43 : decode cX9_sideHash 43 = .ok (.iload 4, 2) := by decide +kernel
theorem dX9_sideHash_45 : decode cX9_sideHash 45 = .ok (.ifCond .ne 7, 3) := by decide +kernel
theorem dX9_sideHash_48 : decode cX9_sideHash 48 = .ok (.lconst 0, 1) := by decide +kernel
theorem dX9_sideHash_49 : decode cX9_sideHash 49 = .ok (.goto 12, 3) := by decide +kernel
theorem dX9_sideHash_52 : decode cX9_sideHash 52 = .ok (.aload_n 0, 1) := by decide +kernel
theorem dX9_sideHash_53 : decode cX9_sideHash 53 = .ok (.iload_n 3, 1) := by decide +kernel
theorem dX9_sideHash_54 : decode cX9_sideHash 54 = .ok (.iconst 0, 1) := by decide +kernel
theorem dX9_sideHash_55 : decode cX9_sideHash 55 = .ok (.invokevirtual 235, 3) := by decide +kernel
theorem dX9_sideHash_58 : decode cX9_sideHash 58 = .ok (.iconst 1, 1) := by decide +kernel
theorem dX9_sideHash_59 : decode cX9_sideHash 59 = .ok (.iadd, 1) := by decide +kernel
theorem dX9_sideHash_60 : decode cX9_sideHash 60 = .ok (.i2l, 1) := by decide +kernel
theorem dX9_sideHash_61 : decode cX9_sideHash 61 = .ok (.invokestatic 268, 3) := by decide +kernel
theorem dX9_sideHash_64 : decode cX9_sideHash 64 = .ok (.lstore 5, 2) := by decide +kernel
theorem dX9_sideHash_66 : decode cX9_sideHash 66 = .ok (.lload 5, 2) := by decide +kernel
theorem dX9_sideHash_68 : decode cX9_sideHash 68 = .ok (.iload 4, 2) := by decide +kernel
theorem dX9_sideHash_70 : decode cX9_sideHash 70 = .ok (.ifCond .ne 7, 3) := by decide +kernel
theorem dX9_sideHash_73 : decode cX9_sideHash 73 = .ok (.lconst 0, 1) := by decide +kernel
theorem dX9_sideHash_74 : decode cX9_sideHash 74 = .ok (.goto 15, 3) := by decide +kernel
theorem dX9_sideHash_77 : decode cX9_sideHash 77 = .ok (.aload_n 0, 1) := by decide +kernel
theorem dX9_sideHash_78 : decode cX9_sideHash 78 = .ok (.iload_n 3, 1) := by decide +kernel
theorem dX9_sideHash_79 : decode cX9_sideHash 79 = .ok (.iload 4, 2) := by decide +kernel
theorem dX9_sideHash_81 : decode cX9_sideHash 81 = .ok (.iconst 1, 1) := by decide +kernel
theorem dX9_sideHash_82 : decode cX9_sideHash 82 = .ok (.isub, 1) := by decide +kernel
theorem dX9_sideHash_83 : decode cX9_sideHash 83 = .ok (.invokevirtual 235, 3) := by decide +kernel
theorem dX9_sideHash_86 : decode cX9_sideHash 86 = .ok (.iconst 1, 1) := by decide +kernel
theorem dX9_sideHash_87 : decode cX9_sideHash 87 = .ok (.iadd, 1) := by decide +kernel
theorem dX9_sideHash_88 : decode cX9_sideHash 88 = .ok (.i2l, 1) := by decide +kernel
theorem dX9_sideHash_89 : decode cX9_sideHash 89 = .ok (.invokestatic 268, 3) := by decide +kernel
theorem dX9_sideHash_92 : decode cX9_sideHash 92 = .ok (.lreturn, 1) := by decide +kernel
theorem dX9_digest_0 : decode cX9_digest 0 = .ok (.aload_n 0, 1) := by decide +kernel
theorem dX9_digest_1 : decode cX9_digest 1 = .ok (.iconst 0, 1) := by decide +kernel
theorem dX9_digest_2 : decode cX9_digest 2 = .ok (.putfield 52, 3) := by decide +kernel
theorem dX9_digest_5 : decode cX9_digest 5 = .ok (.ldc2_w 272, 3) := by decide +kernel
theorem dX9_digest_8 : decode cX9_digest 8 = .ok (.lstore_n 1, 1) := by decide +kernel
theorem dX9_digest_9 : decode cX9_digest 9 = .ok (.iconst 0, 1) := by decide +kernel
theorem dX9_digest_10 : decode cX9_digest 10 = .ok (.istore_n 3, 1) := by decide +kernel
theorem dX9_digest_11 : decode cX9_digest 11 = .ok (.iload_n 3, 1) := by decide +kernel
theorem dX9_digest_12 : decode cX9_digest 12 = .ok (.bipush 49, 2) := by decide +kernel
theorem dX9_digest_14 : decode cX9_digest 14 = .ok (.if_icmp .ge 75, 3) := by decide +kernel
theorem dX9_digest_17 : decode cX9_digest 17 = .ok (.lload_n 1, 1) := by decide +kernel
theorem dX9_digest_18 : decode cX9_digest 18 = .ok (.aload_n 0, 1) := by decide +kernel
theorem dX9_digest_19 : decode cX9_digest 19 = .ok (.getfield 7, 3) := by decide +kernel
theorem dX9_digest_22 : decode cX9_digest 22 = .ok (.iload_n 3, 1) := by decide +kernel
theorem dX9_digest_23 : decode cX9_digest 23 = .ok (.iaload, 1) := by decide +kernel
theorem dX9_digest_24 : decode cX9_digest 24 = .ok (.i2l, 1) := by decide +kernel
theorem dX9_digest_25 : decode cX9_digest 25 = .ok (.invokestatic 268, 3) := by decide +kernel
theorem dX9_digest_28 : decode cX9_digest 28 = .ok (.aload_n 0, 1) := by decide +kernel
theorem dX9_digest_29 : decode cX9_digest 29 = .ok (.getfield 7, 3) := by decide +kernel
theorem dX9_digest_32 : decode cX9_digest 32 = .ok (.iload_n 3, 1) := by decide +kernel
theorem dX9_digest_33 : decode cX9_digest 33 = .ok (.iconst 0, 1) := by decide +kernel
theorem dX9_digest_34 : decode cX9_digest 34 = .ok (.invokestatic 87, 3) := by decide +kernel
theorem dX9_digest_37 : decode cX9_digest 37 = .ok (.ifCond .eq 7, 3) := by decide +kernel
theorem dX9_digest_40 : decode cX9_digest 40 = .ok (.lconst 1, 1) := by decide +kernel
theorem dX9_digest_41 : decode cX9_digest 41 = .ok (.goto 4, 3) := by decide +kernel
theorem dX9_digest_44 : decode cX9_digest 44 = .ok (.lconst 0, 1) := by decide +kernel
theorem dX9_digest_45 : decode cX9_digest 45 = .ok (.invokestatic 268, 3) := by decide +kernel
theorem dX9_digest_48 : decode cX9_digest 48 = .ok (.lstore_n 1, 1) := by decide +kernel
theorem dX9_digest_49 : decode cX9_digest 49 = .ok (.lload_n 1, 1) := by decide +kernel
theorem dX9_digest_50 : decode cX9_digest 50 = .ok (.aload_n 0, 1) := by decide +kernel
theorem dX9_digest_51 : decode cX9_digest 51 = .ok (.getfield 7, 3) := by decide +kernel
theorem dX9_digest_54 : decode cX9_digest 54 = .ok (.iload_n 3, 1) := by decide +kernel
theorem dX9_digest_55 : decode cX9_digest 55 = .ok (.iconst 1, 1) := by decide +kernel
theorem dX9_digest_56 : decode cX9_digest 56 = .ok (.invokestatic 87, 3) := by decide +kernel
theorem dX9_digest_59 : decode cX9_digest 59 = .ok (.ifCond .eq 7, 3) := by decide +kernel
theorem dX9_digest_62 : decode cX9_digest 62 = .ok (.lconst 1, 1) := by decide +kernel
theorem dX9_digest_63 : decode cX9_digest 63 = .ok (.goto 4, 3) := by decide +kernel
theorem dX9_digest_66 : decode cX9_digest 66 = .ok (.lconst 0, 1) := by decide +kernel
theorem dX9_digest_67 : decode cX9_digest 67 = .ok (.invokestatic 268, 3) := by decide +kernel
theorem dX9_digest_70 : decode cX9_digest 70 = .ok (.aload_n 0, 1) := by decide +kernel
theorem dX9_digest_71 : decode cX9_digest 71 = .ok (.getfield 7, 3) := by decide +kernel
theorem dX9_digest_74 : decode cX9_digest 74 = .ok (.iload_n 3, 1) := by decide +kernel
theorem dX9_digest_75 : decode cX9_digest 75 = .ok (.invokestatic 83, 3) := by decide +kernel
theorem dX9_digest_78 : decode cX9_digest 78 = .ok (.i2l, 1) := by decide +kernel
theorem dX9_digest_79 : decode cX9_digest 79 = .ok (.invokestatic 268, 3) := by decide +kernel
theorem dX9_digest_82 : decode cX9_digest 82 = .ok (.lstore_n 1, 1) := by decide +kernel
theorem dX9_digest_83 : decode cX9_digest 83 = .ok (.iinc 3 1, 3) := by decide +kernel
theorem dX9_digest_86 : decode cX9_digest 86 = .ok (.goto (-75), 3) := by decide +kernel
theorem dX9_digest_89 : decode cX9_digest 89 = .ok (.aload_n 0, 1) := by decide +kernel
theorem dX9_digest_90 : decode cX9_digest 90 = .ok (.getfield 7, 3) := by decide +kernel
theorem dX9_digest_93 : decode cX9_digest 93 = .ok (.invokestatic 98, 3) := by decide +kernel
theorem dX9_digest_96 : decode cX9_digest 96 = .ok (.istore_n 3, 1) := by decide +kernel
theorem dX9_digest_97 : decode cX9_digest 97 = .ok (.aload_n 0, 1) := by decide +kernel
theorem dX9_digest_98 : decode cX9_digest 98 = .ok (.invokevirtual 241, 3) := by decide +kernel
theorem dX9_digest_101 : decode cX9_digest 101 = .ok (.istore 4, 2) := by decide +kernel
theorem dX9_digest_103 : decode cX9_digest 103 = .ok (.lload_n 1, 1) := by decide +kernel
theorem dX9_digest_104 : decode cX9_digest 104 = .ok (.aload_n 0, 1) := by decide +kernel
theorem dX9_digest_105 : decode cX9_digest 105 = .ok (.getfield 7, 3) := by decide +kernel
theorem dX9_digest_108 : decode cX9_digest 108 = .ok (.iconst 0, 1) := by decide +kernel
theorem dX9_digest_109 : decode cX9_digest 109 = .ok (.invokestatic 212, 3) := by decide +kernel
theorem dX9_digest_112 : decode cX9_digest 112 = .ok (.i2l, 1) := by decide +kernel
theorem dX9_digest_113 : decode cX9_digest 113 = .ok (.invokestatic 268, 3) := by decide +kernel
theorem dX9_digest_116 : decode cX9_digest 116 = .ok (.aload_n 0, 1) := by decide +kernel
theorem dX9_digest_117 : decode cX9_digest 117 = .ok (.getfield 7, 3) := by decide +kernel
theorem dX9_digest_120 : decode cX9_digest 120 = .ok (.iconst 1, 1) := by decide +kernel
theorem dX9_digest_121 : decode cX9_digest 121 = .ok (.invokestatic 212, 3) := by decide +kernel
theorem dX9_digest_124 : decode cX9_digest 124 = .ok (.i2l, 1) := by decide +kernel
theorem dX9_digest_125 : decode cX9_digest 125 = .ok (.invokestatic 268, 3) := by decide +kernel
theorem dX9_digest_128 : decode cX9_digest 128 = .ok (.iload_n 3, 1) := by decide +kernel
theorem dX9_digest_129 : decode cX9_digest 129 = .ok (.iconst 1, 1) := by decide +kernel
theorem dX9_digest_130 : decode cX9_digest 130 = .ok (.iadd, 1) := by decide +kernel
theorem dX9_digest_131 : decode cX9_digest 131 = .ok (.i2l, 1) := by decide +kernel
theorem dX9_digest_132 : decode cX9_digest 132 = .ok (.invokestatic 268, 3) := by decide +kernel
theorem dX9_digest_135 : decode cX9_digest 135 = .ok (.lstore_n 1, 1) := by decide +kernel
theorem dX9_digest_136 : decode cX9_digest 136 = .ok (.lload_n 1, 1) := by decide +kernel
theorem dX9_digest_137 : decode cX9_digest 137 = .ok (.aload_n 0, 1) := by decide +kernel
theorem dX9_digest_138 : decode cX9_digest 138 = .ok (.getfield 7, 3) := by decide +kernel
theorem dX9_digest_141 : decode cX9_digest 141 = .ok (.bipush 52, 2) := by decide +kernel
theorem dX9_digest_143 : decode cX9_digest 143 = .ok (.iaload, 1) := by decide +kernel
theorem dX9_digest_144 : decode cX9_digest 144 = .ok (.i2l, 1) := by decide +kernel
theorem dX9_digest_145 : decode cX9_digest 145 = .ok (.invokestatic 268, 3) := by decide +kernel
theorem dX9_digest_148 : decode cX9_digest 148 = .ok (.aload_n 0, 1) := by decide +kernel
theorem dX9_digest_149 : decode cX9_digest 149 = .ok (.getfield 7, 3) := by decide +kernel
theorem dX9_digest_152 : decode cX9_digest 152 = .ok (.bipush 50, 2) := by decide +kernel
theorem dX9_digest_154 : decode cX9_digest 154 = .ok (.iaload, 1) := by decide +kernel
theorem dX9_digest_155 : decode cX9_digest 155 = .ok (.i2l, 1) := by decide +kernel
theorem dX9_digest_156 : decode cX9_digest 156 = .ok (.invokestatic 268, 3) := by decide +kernel
theorem dX9_digest_159 : decode cX9_digest 159 = .ok (.lstore_n 1, 1) := by decide +kernel
theorem dX9_digest_160 : decode cX9_digest 160 = .ok (.lload_n 1, 1) := by decide +kernel
theorem dX9_digest_161 : decode cX9_digest 161 = .ok (.aload_n 0, 1) := by decide +kernel
theorem dX9_digest_162 : decode cX9_digest 162 = .ok (.getfield 7, 3) := by decide +kernel
theorem dX9_digest_165 : decode cX9_digest 165 = .ok (.bipush 50, 2) := by decide +kernel
theorem dX9_digest_167 : decode cX9_digest 167 = .ok (.iaload, 1) := by decide +kernel
theorem dX9_digest_168 : decode cX9_digest 168 = .ok (.iconst 1, 1) := by decide +kernel
theorem dX9_digest_169 : decode cX9_digest 169 = .ok (.if_icmp .ne 16, 3) := by decide +kernel
theorem dX9_digest_172 : decode cX9_digest 172 = .ok (.aload_n 0, 1) := by decide +kernel
theorem dX9_digest_173 : decode cX9_digest 173 = .ok (.getfield 7, 3) := by decide +kernel
theorem dX9_digest_176 : decode cX9_digest 176 = .ok (.bipush 49, 2) := by decide +kernel
theorem dX9_digest_178 : decode cX9_digest 178 = .ok (.iaload, 1) := by decide +kernel
theorem dX9_digest_179 : decode cX9_digest 179 = .ok (.iconst 1, 1) := by decide +kernel
theorem dX9_digest_180 : decode cX9_digest 180 = .ok (.iadd, 1) := by decide +kernel
theorem dX9_digest_181 : decode cX9_digest 181 = .ok (.i2l, 1) := by decide +kernel
theorem dX9_digest_182 : decode cX9_digest 182 = .ok (.goto 4, 3) := by decide +kernel
theorem dX9_digest_185 : decode cX9_digest 185 = .ok (.lconst 0, 1) := by decide +kernel
theorem dX9_digest_186 : decode cX9_digest 186 = .ok (.invokestatic 268, 3) := by decide +kernel
theorem dX9_digest_189 : decode cX9_digest 189 = .ok (.aload_n 0, 1) := by decide +kernel
theorem dX9_digest_190 : decode cX9_digest 190 = .ok (.getfield 7, 3) := by decide +kernel
theorem dX9_digest_193 : decode cX9_digest 193 = .ok (.bipush 53, 2) := by decide +kernel
theorem dX9_digest_195 : decode cX9_digest 195 = .ok (.iaload, 1) := by decide +kernel
theorem dX9_digest_196 : decode cX9_digest 196 = .ok (.i2l, 1) := by decide +kernel
theorem dX9_digest_197 : decode cX9_digest 197 = .ok (.invokestatic 268, 3) := by decide +kernel
theorem dX9_digest_200 : decode cX9_digest 200 = .ok (.lstore_n 1, 1) := by decide +kernel
theorem dX9_digest_201 : decode cX9_digest 201 = .ok (.lload_n 1, 1) := by decide +kernel
theorem dX9_digest_202 : decode cX9_digest 202 = .ok (.aload_n 0, 1) := by decide +kernel
theorem dX9_digest_203 : decode cX9_digest 203 = .ok (.getfield 7, 3) := by decide +kernel
theorem dX9_digest_206 : decode cX9_digest 206 = .ok (.bipush 50, 2) := by decide +kernel
theorem dX9_digest_208 : decode cX9_digest 208 = .ok (.iaload, 1) := by decide +kernel
theorem dX9_digest_209 : decode cX9_digest 209 = .ok (.ifCond .ne 7, 3) := by decide +kernel
theorem dX9_digest_212 : decode cX9_digest 212 = .ok (.lconst 0, 1) := by decide +kernel
theorem dX9_digest_213 : decode cX9_digest 213 = .ok (.goto 12, 3) := by decide +kernel
theorem dX9_digest_216 : decode cX9_digest 216 = .ok (.aload_n 0, 1) := by decide +kernel
theorem dX9_digest_217 : decode cX9_digest 217 = .ok (.aload_n 0, 1) := by decide +kernel
theorem dX9_digest_218 : decode cX9_digest 218 = .ok (.getfield 7, 3) := by decide +kernel
theorem dX9_digest_221 : decode cX9_digest 221 = .ok (.invokevirtual 142, 3) := by decide +kernel
theorem dX9_digest_224 : decode cX9_digest 224 = .ok (.i2l, 1) := by decide +kernel
theorem dX9_digest_225 : decode cX9_digest 225 = .ok (.invokestatic 268, 3) := by decide +kernel
theorem dX9_digest_228 : decode cX9_digest 228 = .ok (.lstore_n 1, 1) := by decide +kernel
theorem dX9_digest_229 : decode cX9_digest 229 = .ok (.aload_n 0, 1) := by decide +kernel
theorem dX9_digest_230 : decode cX9_digest 230 = .ok (.aload_n 0, 1) := by decide +kernel
theorem dX9_digest_231 : decode cX9_digest 231 = .ok (.lload_n 1, 1) := by decide +kernel
theorem dX9_digest_232 : decode cX9_digest 232 = .ok (.iconst 0, 1) := by decide +kernel
theorem dX9_digest_233 : decode cX9_digest 233 = .ok (.invokevirtual 274, 3) := by decide +kernel
theorem dX9_digest_236 : decode cX9_digest 236 = .ok (.iconst 1, 1) := by decide +kernel
theorem dX9_digest_237 : decode cX9_digest 237 = .ok (.invokevirtual 274, 3) := by decide +kernel
theorem dX9_digest_240 : decode cX9_digest 240 = .ok (.lstore_n 1, 1) := by decide +kernel
theorem dX9_digest_241 : decode cX9_digest 241 = .ok (.lload_n 1, 1) := by decide +kernel
theorem dX9_digest_242 : decode cX9_digest 242 = .ok (.iload 4, 2) := by decide +kernel
theorem dX9_digest_244 : decode cX9_digest 244 = .ok (.iconst (-1), 1) := by decide +kernel
theorem dX9_digest_245 : decode cX9_digest 245 = .ok (.if_icmp .ne 7, 3) := by decide +kernel
theorem dX9_digest_248 : decode cX9_digest 248 = .ok (.lconst 0, 1) := by decide +kernel
theorem dX9_digest_249 : decode cX9_digest 249 = .ok (.goto 6, 3) := by decide +kernel
theorem dX9_digest_252 : decode cX9_digest 252 = .ok (.iload 4, 2) := by decide +kernel
theorem dX9_digest_254 : decode cX9_digest 254 = .ok (.i2l, 1) := by decide +kernel
theorem dX9_digest_255 : decode cX9_digest 255 = .ok (.invokestatic 268, 3) := by decide +kernel
theorem dX9_digest_258 : decode cX9_digest 258 = .ok (.iload 4, 2) := by decide +kernel
theorem dX9_digest_260 : decode cX9_digest 260 = .ok (.iconst (-1), 1) := by decide +kernel
theorem dX9_digest_261 : decode cX9_digest 261 = .ok (.if_icmp .ne 7, 3) := by decide +kernel
theorem dX9_digest_264 : decode cX9_digest 264 = .ok (.lconst 0, 1) := by decide +kernel
theorem dX9_digest_265 : decode cX9_digest 265 = .ok (.goto 6, 3) := by decide +kernel
theorem dX9_digest_268 : decode cX9_digest 268 = .ok (.iload 4, 2) := by decide +kernel
theorem dX9_digest_270 : decode cX9_digest 270 = .ok (.i2l, 1) := by decide +kernel
theorem dX9_digest_271 : decode cX9_digest 271 = .ok (.invokestatic 268, 3) := by decide +kernel
theorem dX9_digest_274 : decode cX9_digest 274 = .ok (.lstore_n 1, 1) := by decide +kernel
theorem dX9_digest_275 : decode cX9_digest 275 = .ok (.lload_n 1, 1) := by decide +kernel
theorem dX9_digest_276 : decode cX9_digest 276 = .ok (.aload_n 0, 1) := by decide +kernel
theorem dX9_digest_277 : decode cX9_digest 277 = .ok (.invokevirtual 244, 3) := by decide +kernel
theorem dX9_digest_280 : decode cX9_digest 280 = .ok (.i2l, 1) := by decide +kernel
theorem dX9_digest_281 : decode cX9_digest 281 = .ok (.invokestatic 268, 3) := by decide +kernel
theorem dX9_digest_284 : decode cX9_digest 284 = .ok (.aload_n 0, 1) := by decide +kernel
theorem dX9_digest_285 : decode cX9_digest 285 = .ok (.invokevirtual 247, 3) := by decide +kernel
theorem dX9_digest_288 : decode cX9_digest 288 = .ok (.i2l, 1) := by decide +kernel
theorem dX9_digest_289 : decode cX9_digest 289 = .ok (.invokestatic 268, 3) := by decide +kernel
theorem dX9_digest_292 : decode cX9_digest 292 = .ok (.lstore_n 1, 1) := by decide +kernel
theorem dX9_digest_293 : decode cX9_digest 293 = .ok (.lload_n 1, 1) := by decide +kernel
theorem dX9_digest_294 : decode cX9_digest 294 = .ok (.iload_n 3, 1) := by decide +kernel
theorem dX9_digest_295 : decode cX9_digest 295 = .ok (.iconst (-1), 1) := by decide +kernel
theorem dX9_digest_296 : decode cX9_digest 296 = .ok (.if_icmp .ne 7, 3) := by decide +kernel
theorem dX9_digest_299 : decode cX9_digest 299 = .ok (.lconst 0, 1) := by decide +kernel
theorem dX9_digest_300 : decode cX9_digest 300 = .ok (.goto 10, 3) := by decide +kernel
theorem dX9_digest_303 : decode cX9_digest 303 = .ok (.aload_n 0, 1) := by decide +kernel
theorem dX9_digest_304 : decode cX9_digest 304 = .ok (.invokevirtual 250, 3) := by decide +kernel
theorem dX9_digest_307 : decode cX9_digest 307 = .ok (.iconst 1, 1) := by decide +kernel
theorem dX9_digest_308 : decode cX9_digest 308 = .ok (.iadd, 1) := by decide +kernel
theorem dX9_digest_309 : decode cX9_digest 309 = .ok (.i2l, 1) := by decide +kernel
theorem dX9_digest_310 : decode cX9_digest 310 = .ok (.invokestatic 268, 3) := by decide +kernel
theorem dX9_digest_313 : decode cX9_digest 313 = .ok (.lstore_n 1, 1) := by decide +kernel
theorem dX9_digest_314 : decode cX9_digest 314 = .ok (.lload_n 1, 1) := by decide +kernel
theorem dX9_digest_315 : decode cX9_digest 315 = .ok (.aload_n 0, 1) := by decide +kernel
theorem dX9_digest_316 : decode cX9_digest 316 = .ok (.getfield 7, 3) := by decide +kernel
theorem dX9_digest_319 : decode cX9_digest 319 = .ok (.bipush 55, 2) := by decide +kernel
theorem dX9_digest_321 : decode cX9_digest 321 = .ok (.iaload, 1) := by decide +kernel
theorem dX9_digest_322 : decode cX9_digest 322 = .ok (.i2l, 1) := by decide +kernel
theorem dX9_digest_323 : decode cX9_digest 323 = .ok (.invokestatic 268, 3) := by decide +kernel
theorem dX9_digest_326 : decode cX9_digest 326 = .ok (.aload_n 0, 1) := by decide +kernel
theorem dX9_digest_327 : decode cX9_digest 327 = .ok (.getfield 7, 3) := by decide +kernel
theorem dX9_digest_330 : decode cX9_digest 330 = .ok (.bipush 56, 2) := by decide +kernel
theorem dX9_digest_332 : decode cX9_digest 332 = .ok (.iaload, 1) := by decide +kernel
theorem dX9_digest_333 : decode cX9_digest 333 = .ok (.i2l, 1) := by decide +kernel
theorem dX9_digest_334 : decode cX9_digest 334 = .ok (.invokestatic 268, 3) := by decide +kernel
theorem dX9_digest_337 : decode cX9_digest 337 = .ok (.aload_n 0, 1) := by decide +kernel
theorem dX9_digest_338 : decode cX9_digest 338 = .ok (.getfield 7, 3) := by decide +kernel
theorem dX9_digest_341 : decode cX9_digest 341 = .ok (.bipush 57, 2) := by decide +kernel
theorem dX9_digest_343 : decode cX9_digest 343 = .ok (.iaload, 1) := by decide +kernel
theorem dX9_digest_344 : decode cX9_digest 344 = .ok (.i2l, 1) := by decide +kernel
theorem dX9_digest_345 : decode cX9_digest 345 = .ok (.invokestatic 268, 3) := by decide +kernel
theorem dX9_digest_348 : decode cX9_digest 348 = .ok (.lstore_n 1, 1) := by decide +kernel
theorem dX9_digest_349 : decode cX9_digest 349 = .ok (.lload_n 1, 1) := by decide +kernel
theorem dX9_digest_350 : decode cX9_digest 350 = .ok (.aload_n 0, 1) := by decide +kernel
theorem dX9_digest_351 : decode cX9_digest 351 = .ok (.getfield 7, 3) := by decide +kernel
theorem dX9_digest_354 : decode cX9_digest 354 = .ok (.bipush 58, 2) := by decide +kernel
theorem dX9_digest_356 : decode cX9_digest 356 = .ok (.iaload, 1) := by decide +kernel
theorem dX9_digest_357 : decode cX9_digest 357 = .ok (.i2l, 1) := by decide +kernel
theorem dX9_digest_358 : decode cX9_digest 358 = .ok (.invokestatic 268, 3) := by decide +kernel
theorem dX9_digest_361 : decode cX9_digest 361 = .ok (.aload_n 0, 1) := by decide +kernel
theorem dX9_digest_362 : decode cX9_digest 362 = .ok (.getfield 7, 3) := by decide +kernel
theorem dX9_digest_365 : decode cX9_digest 365 = .ok (.bipush 59, 2) := by decide +kernel
theorem dX9_digest_367 : decode cX9_digest 367 = .ok (.iaload, 1) := by decide +kernel
theorem dX9_digest_368 : decode cX9_digest 368 = .ok (.i2l, 1) := by decide +kernel
theorem dX9_digest_369 : decode cX9_digest 369 = .ok (.invokestatic 268, 3) := by decide +kernel
theorem dX9_digest_372 : decode cX9_digest 372 = .ok (.aload_n 0, 1) := by decide +kernel
theorem dX9_digest_373 : decode cX9_digest 373 = .ok (.getfield 7, 3) := by decide +kernel
theorem dX9_digest_376 : decode cX9_digest 376 = .ok (.bipush 54, 2) := by decide +kernel
theorem dX9_digest_378 : decode cX9_digest 378 = .ok (.iaload, 1) := by decide +kernel
theorem dX9_digest_379 : decode cX9_digest 379 = .ok (.i2l, 1) := by decide +kernel
theorem dX9_digest_380 : decode cX9_digest 380 = .ok (.invokestatic 268, 3) := by decide +kernel
theorem dX9_digest_383 : decode cX9_digest 383 = .ok (.lstore_n 1, 1) := by decide +kernel
theorem dX9_digest_384 : decode cX9_digest 384 = .ok (.lload_n 1, 1) := by decide +kernel
theorem dX9_digest_385 : decode cX9_digest 385 = .ok (.aload_n 0, 1) := by decide +kernel
theorem dX9_digest_386 : decode cX9_digest 386 = .ok (.getfield 111, 3) := by decide +kernel
theorem dX9_digest_389 : decode cX9_digest 389 = .ok (.i2l, 1) := by decide +kernel
theorem dX9_digest_390 : decode cX9_digest 390 = .ok (.invokestatic 268, 3) := by decide +kernel
theorem dX9_digest_393 : decode cX9_digest 393 = .ok (.aload_n 0, 1) := by decide +kernel
theorem dX9_digest_394 : decode cX9_digest 394 = .ok (.invokevirtual 262, 3) := by decide +kernel
theorem dX9_digest_397 : decode cX9_digest 397 = .ok (.invokestatic 278, 3) := by decide +kernel
theorem dX9_digest_400 : decode cX9_digest 400 = .ok (.invokestatic 268, 3) := by decide +kernel
theorem dX9_digest_403 : decode cX9_digest 403 = .ok (.lstore_n 1, 1) := by decide +kernel
theorem dX9_digest_404 : decode cX9_digest 404 = .ok (.lload_n 1, 1) := by decide +kernel
theorem dX9_digest_405 : decode cX9_digest 405 = .ok (.aload_n 0, 1) := by decide +kernel
theorem dX9_digest_406 : decode cX9_digest 406 = .ok (.getfield 28, 3) := by decide +kernel
theorem dX9_digest_409 : decode cX9_digest 409 = .ok (.iconst 0, 1) := by decide +kernel
theorem dX9_digest_410 : decode cX9_digest 410 = .ok (.baload, 1) := by decide +kernel
theorem dX9_digest_411 : decode cX9_digest 411 = .ok (.ifCond .eq 7, 3) := by decide +kernel
theorem dX9_digest_414 : decode cX9_digest 414 = .ok (.lconst 1, 1) := by decide +kernel
theorem dX9_digest_415 : decode cX9_digest 415 = .ok (.goto 4, 3) := by decide +kernel
theorem dX9_digest_418 : decode cX9_digest 418 = .ok (.lconst 0, 1) := by decide +kernel
theorem dX9_digest_419 : decode cX9_digest 419 = .ok (.invokestatic 268, 3) := by decide +kernel
theorem dX9_digest_422 : decode cX9_digest 422 = .ok (.aload_n 0, 1) := by decide +kernel
theorem dX9_digest_423 : decode cX9_digest 423 = .ok (.getfield 28, 3) := by decide +kernel
theorem dX9_digest_426 : decode cX9_digest 426 = .ok (.iconst 1, 1) := by decide +kernel
theorem dX9_digest_427 : decode cX9_digest 427 = .ok (.baload, 1) := by decide +kernel
theorem dX9_digest_428 : decode cX9_digest 428 = .ok (.ifCond .eq 7, 3) := by decide +kernel
theorem dX9_digest_431 : decode cX9_digest 431 = .ok (.lconst 1, 1) := by decide +kernel
theorem dX9_digest_432 : decode cX9_digest 432 = .ok (.goto 4, 3) := by decide +kernel
theorem dX9_digest_435 : decode cX9_digest 435 = .ok (.lconst 0, 1) := by decide +kernel
theorem dX9_digest_436 : decode cX9_digest 436 = .ok (.invokestatic 268, 3) := by decide +kernel
theorem dX9_digest_439 : decode cX9_digest 439 = .ok (.lstore_n 1, 1) := by decide +kernel
theorem dX9_digest_440 : decode cX9_digest 440 = .ok (.lload_n 1, 1) := by decide +kernel
theorem dX9_digest_441 : decode cX9_digest 441 = .ok (.aload_n 0, 1) := by decide +kernel
theorem dX9_digest_442 : decode cX9_digest 442 = .ok (.getfield 172, 3) := by decide +kernel
theorem dX9_digest_445 : decode cX9_digest 445 = .ok (.i2l, 1) := by decide +kernel
theorem dX9_digest_446 : decode cX9_digest 446 = .ok (.invokestatic 268, 3) := by decide +kernel
theorem dX9_digest_449 : decode cX9_digest 449 = .ok (.lstore_n 1, 1) := by decide +kernel
theorem dX9_digest_450 : decode cX9_digest 450 = .ok (.iconst 0, 1) := by decide +kernel
theorem dX9_digest_451 : decode cX9_digest 451 = .ok (.istore 5, 2) := by decide +kernel
theorem dX9_digest_453 : decode cX9_digest 453 = .ok (.iload 5, 2) := by decide +kernel
theorem dX9_digest_455 : decode cX9_digest 455 = .ok (.aload_n 0, 1) := by decide +kernel
theorem dX9_digest_456 : decode cX9_digest 456 = .ok (.getfield 172, 3) := by decide +kernel
theorem dX9_digest_459 : decode cX9_digest 459 = .ok (.if_icmp .ge 22, 3) := by decide +kernel
theorem dX9_digest_462 : decode cX9_digest 462 = .ok (.lload_n 1, 1) := by decide +kernel
theorem dX9_digest_463 : decode cX9_digest 463 = .ok (.aload_n 0, 1) := by decide +kernel
theorem dX9_digest_464 : decode cX9_digest 464 = .ok (.getfield 45, 3) := by decide +kernel
theorem dX9_digest_467 : decode cX9_digest 467 = .ok (.iload 5, 2) := by decide +kernel
theorem dX9_digest_469 : decode cX9_digest 469 = .ok (.iaload, 1) := by decide +kernel
theorem dX9_digest_470 : decode cX9_digest 470 = .ok (.i2l, 1) := by decide +kernel
theorem dX9_digest_471 : decode cX9_digest 471 = .ok (.invokestatic 268, 3) := by decide +kernel
theorem dX9_digest_474 : decode cX9_digest 474 = .ok (.lstore_n 1, 1) := by decide +kernel
theorem dX9_digest_475 : decode cX9_digest 475 = .ok (.iinc 5 1, 3) := by decide +kernel
theorem dX9_digest_478 : decode cX9_digest 478 = .ok (.goto (-25), 3) := by decide +kernel
theorem dX9_digest_481 : decode cX9_digest 481 = .ok (.lload_n 1, 1) := by decide +kernel
theorem dX9_digest_482 : decode cX9_digest 482 = .ok (.lreturn, 1) := by decide +kernel
