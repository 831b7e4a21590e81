theorem dX8_mixBuffer_27 : decode cX8_mixBuffer 27 = .ok (.invokestatic 329, 3) := by decide +kernel
theorem dX8_mixBuffer_30 : decode cX8_mixBuffer 30 = .ok (.lstore_n 3, 1) := by decide +kernel
theorem dX8_mixBuffer_31 : decode cX8_mixBuffer 31 = .ok (.iinc 5 1, 3) := by decide +kernel
theorem dX8_mixBuffer_34 : decode cX8_mixBuffer 34 = .ok (.goto (-29), 3) := by decide +kernel
theorem dX8_mixBuffer_37 : decode cX8_mixBuffer 37 = .ok (.lload_n 3, 1) := by decide +kernel
theorem dX8_mixBuffer_38 : decode cX8_mixBuffer 38 = .ok (.aload_n 0, 1) := by decide +kernel
theorem dX8_mixBuffer_39 : decode cX8_mixBuffer 39 = .ok (.getfield 37, 3) := by decide +kernel
theorem dX8_mixBuffer_42 : decode cX8_mixBuffer 42 = .ok (.getfield 159, 3) := by decide +kernel
theorem dX8_mixBuffer_45 : decode cX8_mixBuffer 45 = .ok (.i2l, 1) := by decide +kernel
theorem dX8_mixBuffer_46 : decode cX8_mixBuffer 46 = .ok (.invokestatic 329, 3) := by decide +kernel
theorem dX8_mixBuffer_49 : decode cX8_mixBuffer 49 = .ok (.lstore_n 3, 1) := by decide +kernel
theorem dX8_mixBuffer_50 : decode cX8_mixBuffer 50 = .ok (.iconst 0, 1) := by decide +kernel
theorem dX8_mixBuffer_51 : decode cX8_mixBuffer 51 = .ok (.istore 5, 2) := by decide +kernel
theorem dX8_mixBuffer_53 : decode cX8_mixBuffer 53 = .ok (.iload 5, 2) := by decide +kernel
theorem dX8_mixBuffer_55 : decode cX8_mixBuffer 55 = .ok (.aload_n 0, 1) := by decide +kernel
theorem dX8_mixBuffer_56 : decode cX8_mixBuffer 56 = .ok (.getfield 37, 3) := by decide +kernel
theorem dX8_mixBuffer_59 : decode cX8_mixBuffer 59 = .ok (.getfield 159, 3) := by decide +kernel
theorem dX8_mixBuffer_62 : decode cX8_mixBuffer 62 = .ok (.if_icmp .ge 24, 3) := by decide +kernel
theorem dX8_mixBuffer_65 : decode cX8_mixBuffer 65 = .ok (.lload_n 3, 1) := by decide +kernel
theorem dX8_mixBuffer_66 : decode cX8_mixBuffer 66 = .ok (.aload_n 0, 1) := by decide +kernel
theorem dX8_mixBuffer_67 : decode cX8_mixBuffer 67 = .ok (.getfield 37, 3) := by decide +kernel
theorem dX8_mixBuffer_70 : decode cX8_mixBuffer 70 = .ok (.iload 5, 2) := by decide +kernel
theorem dX8_mixBuffer_72 : decode cX8_mixBuffer 72 = .ok (.invokevirtual 342, 3) := by decide +kernel
theorem dX8_mixBuffer_75 : decode cX8_mixBuffer 75 = .ok (.i2l, 1) := by decide +kernel
theorem dX8_mixBuffer_76 : decode cX8_mixBuffer 76 = .ok (.invokestatic 329, 3) := by decide +kernel
theorem dX8_mixBuffer_79 : decode cX8_mixBuffer 79 = .ok (.lstore_n 3, 1) := by decide +kernel
theorem dX8_mixBuffer_80 : decode cX8_mixBuffer 80 = .ok (.iinc 5 1, 3) := by decide +kernel
theorem dX8_mixBuffer_83 : decode cX8_mixBuffer 83 = .ok (.goto (-30), 3) := by decide +kernel
theorem dX8_mixBuffer_86 : decode cX8_mixBuffer 86 = .ok (.lload_n 3, 1) := by decide +kernel
theorem dX8_mixBuffer_87 : decode cX8_mixBuffer 87 = .ok (.lreturn, 1) := by decide +kernel
theorem dX8_movesOfBoth_0 : decode cX8_movesOfBoth 0 = .ok (.aload_n 0, 1) := by decide +kernel
theorem dX8_movesOfBoth_1 : decode cX8_movesOfBoth 1 = .ok (.getfield 12, 3) := by decide +kernel
theorem dX8_movesOfBoth_4 : decode cX8_movesOfBoth 4 = .ok (.getfield 69, 3) := by decide +kernel
theorem dX8_movesOfBoth_7 : decode cX8_movesOfBoth 7 = .ok (.iconst 0, 1) := by decide +kernel
theorem dX8_movesOfBoth_8 : decode cX8_movesOfBoth 8 = .ok (.invokevirtual 129, 3) := by decide +kernel
theorem dX8_movesOfBoth_11 : decode cX8_movesOfBoth 11 = .ok (.aload_n 0, 1) := by decide +kernel
theorem dX8_movesOfBoth_12 : decode cX8_movesOfBoth 12 = .ok (.getfield 12, 3) := by decide +kernel
theorem dX8_movesOfBoth_15 : decode cX8_movesOfBoth 15 = .ok (.getfield 69, 3) := by decide +kernel
theorem dX8_movesOfBoth_18 : decode cX8_movesOfBoth 18 = .ok (.iconst 1, 1) := by decide +kernel
theorem dX8_movesOfBoth_19 : decode cX8_movesOfBoth 19 = .ok (.invokevirtual 129, 3) := by decide +kernel
theorem dX8_movesOfBoth_22 : decode cX8_movesOfBoth 22 = .ok (.iadd, 1) := by decide +kernel
theorem dX8_movesOfBoth_23 : decode cX8_movesOfBoth 23 = .ok (.ireturn, 1) := by decide +kernel
theorem dX8_bitsOfHalf_0 : decode cX8_bitsOfHalf 0 = .ok (.iload_n 0, 1) := by decide +kernel
theorem dX8_bitsOfHalf_1 : decode cX8_bitsOfHalf 1 = .ok (.ifCond .gt 5, 3) := by decide +kernel
theorem dX8_bitsOfHalf_4 : decode cX8_bitsOfHalf 4 = .ok (.lconst 0, 1) := by decide +kernel
theorem dX8_bitsOfHalf_5 : decode cX8_bitsOfHalf 5 = .ok (.lreturn, 1) := by decide +kernel
theorem dX8_bitsOfHalf_6 : decode cX8_bitsOfHalf 6 = .ok (.iconst 0, 1) := by decide +kernel
theorem dX8_bitsOfHalf_7 : decode cX8_bitsOfHalf 7 = .ok (.istore_n 1, 1) := by decide +kernel
theorem dX8_bitsOfHalf_8 : decode cX8_bitsOfHalf 8 = .ok (.iconst 1, 1) := by decide +kernel
theorem dX8_bitsOfHalf_9 : decode cX8_bitsOfHalf 9 = .ok (.istore_n 2, 1) := by decide +kernel
theorem dX8_bitsOfHalf_10 : decode cX8_bitsOfHalf 10 = .ok (.iload_n 2, 1) := by decide +kernel
theorem dX8_bitsOfHalf_11 : decode cX8_bitsOfHalf 11 = .ok (.bipush 31, 2) := by decide +kernel
theorem dX8_bitsOfHalf_13 : decode cX8_bitsOfHalf 13 = .ok (.if_icmp .ge 17, 3) := by decide +kernel
theorem dX8_bitsOfHalf_16 : decode cX8_bitsOfHalf 16 = .ok (.iload_n 0, 1) := by decide +kernel
theorem dX8_bitsOfHalf_17 : decode cX8_bitsOfHalf 17 = .ok (.iload_n 2, 1) := by decide +kernel
theorem dX8_bitsOfHalf_18 : decode cX8_bitsOfHalf 18 = .ok (.ishr, 1) := by decide +kernel
theorem dX8_bitsOfHalf_19 : decode cX8_bitsOfHalf 19 = .ok (.ifCond .eq 5, 3) := by decide +kernel
theorem dX8_bitsOfHalf_22 : decode cX8_bitsOfHalf 22 = .ok (.iload_n 2, 1) := by decide +kernel
theorem dX8_bitsOfHalf_23 : decode cX8_bitsOfHalf 23 = .ok (.istore_n 1, 1) := by decide +kernel
theorem dX8_bitsOfHalf_24 : decode cX8_bitsOfHalf 24 = .ok (.iinc 2 1, 3) := by decide +kernel
theorem dX8_bitsOfHalf_27 : decode cX8_bitsOfHalf 27 = .ok (.goto (-17), 3) := by decide +kernel
theorem dX8_bitsOfHalf_30 : decode cX8_bitsOfHalf 30 = .ok (.iload_n 0, 1) := by decide +kernel
theorem dX8_bitsOfHalf_31 : decode cX8_bitsOfHalf 31 = .ok (.i2l, 1) := by decide +kernel
theorem dX8_bitsOfHalf_32 : decode cX8_bitsOfHalf 32 = .ok (.bipush 52, 2) := by decide +kernel
theorem dX8_bitsOfHalf_34 : decode cX8_bitsOfHalf 34 = .ok (.iload_n 1, 1) := by decide +kernel
theorem dX8_bitsOfHalf_35 : decode cX8_bitsOfHalf 35 = .ok (.isub, 1) := by decide +kernel
theorem dX8_bitsOfHalf_36 : decode cX8_bitsOfHalf 36 = .ok (.lshl, 1) := by decide +kernel
theorem dX8_bitsOfHalf_37 : decode cX8_bitsOfHalf 37 = .ok (.ldc2_w 343, 3) := by decide +kernel
theorem dX8_bitsOfHalf_40 : decode cX8_bitsOfHalf 40 = .ok (.land, 1) := by decide +kernel
theorem dX8_bitsOfHalf_41 : decode cX8_bitsOfHalf 41 = .ok (.lstore_n 2, 1) := by decide +kernel
theorem dX8_bitsOfHalf_42 : decode cX8_bitsOfHalf 42 = .ok (.sipush 1022, 3) := by decide +kernel
theorem dX8_bitsOfHalf_45 : decode cX8_bitsOfHalf 45 = .ok (.iload_n 1, 1) := by decide +kernel
theorem dX8_bitsOfHalf_46 : decode cX8_bitsOfHalf 46 = .ok (.iadd, 1) := by decide +kernel
theorem dX8_bitsOfHalf_47 : decode cX8_bitsOfHalf 47 = .ok (.i2l, 1) := by decide +kernel
theorem dX8_bitsOfHalf_48 : decode cX8_bitsOfHalf 48 = .ok (.bipush 52, 2) := by decide +kernel
theorem dX8_bitsOfHalf_50 : decode cX8_bitsOfHalf 50 = .ok (.lshl, 1) := by decide +kernel
theorem dX8_bitsOfHalf_51 : decode cX8_bitsOfHalf 51 = .ok (.lload_n 2, 1) := by decide +kernel
theorem dX8_bitsOfHalf_52 : decode cX8_bitsOfHalf 52 = .ok (.lor, 1) := by decide +kernel
theorem dX8_bitsOfHalf_53 : decode cX8_bitsOfHalf 53 = .ok (.lreturn, 1) := by decide +kernel
theorem dX8_needSquare_0 : decode cX8_needSquare 0 = .ok (.iload_n 0, 1) := by decide +kernel
theorem dX8_needSquare_1 : decode cX8_needSquare 1 = .ok (.ifCond .lt 19, 3) := by decide +kernel
theorem dX8_needSquare_4 : decode cX8_needSquare 4 = .ok (.iload_n 0, 1) := by decide +kernel
theorem dX8_needSquare_5 : decode cX8_needSquare 5 = .ok (.bipush 7, 2) := by decide +kernel
theorem dX8_needSquare_7 : decode cX8_needSquare 7 = .ok (.if_icmp .ge 13, 3) := by decide +kernel
theorem dX8_needSquare_10 : decode cX8_needSquare 10 = .ok (.iload_n 1, 1) := by decide +kernel
theorem dX8_needSquare_11 : decode cX8_needSquare 11 = .ok (.ifCond .lt 9, 3) := by decide +kernel
theorem dX8_needSquare_14 : decode cX8_needSquare 14 = .ok (.iload_n 1, 1) := by decide +kernel
theorem dX8_needSquare_15 : decode cX8_needSquare 15 = .ok (.bipush 7, 2) := by decide +kernel
theorem dX8_needSquare_17 : decode cX8_needSquare 17 = .ok (.if_icmp .lt 14, 3) := by decide +kernel
theorem dX8_needSquare_20 : decode cX8_needSquare 20 = .ok (.new 251, 3) := by decide +kernel
theorem dX8_needSquare_23 : decode cX8_needSquare 23 = .ok (.dup, 1) := by decide +kernel
theorem dX8_needSquare_24 : decode cX8_needSquare 24 = .ok (.ldc_w 345, 3) := by decide +kernel
theorem dX8_needSquare_27 : decode cX8_needSquare 27 = .ok (.invokespecial 255, 3) := by decide +kernel
theorem dX8_needSquare_30 : decode cX8_needSquare 30 = .ok (.athrow, 1) := by decide +kernel
theorem dX8_needSquare_31 : decode cX8_needSquare 31 = .ok (.return_, 1) := by decide +kernel
theorem dX8_needSquares_0 : decode cX8_needSquares 0 = .ok (.iload_n 0, 1) := by decide +kernel
theorem dX8_needSquares_1 : decode cX8_needSquares 1 = .ok (.ifCond .lt 19, 3) := by decide +kernel
theorem dX8_needSquares_4 : decode cX8_needSquares 4 = .ok (.iload_n 0, 1) := by decide +kernel
theorem dX8_needSquares_5 : decode cX8_needSquares 5 = .ok (.bipush 49, 2) := by decide +kernel
theorem dX8_needSquares_7 : decode cX8_needSquares 7 = .ok (.if_icmp .ge 13, 3) := by decide +kernel
theorem dX8_needSquares_10 : decode cX8_needSquares 10 = .ok (.iload_n 1, 1) := by decide +kernel
theorem dX8_needSquares_11 : decode cX8_needSquares 11 = .ok (.ifCond .lt 9, 3) := by decide +kernel
theorem dX8_needSquares_14 : decode cX8_needSquares 14 = .ok (.iload_n 1, 1) := by decide +kernel
theorem dX8_needSquares_15 : decode cX8_needSquares 15 = .ok (.bipush 49, 2) := by decide +kernel
theorem dX8_needSquares_17 : decode cX8_needSquares 17 = .ok (.if_icmp .lt 14, 3) := by decide +kernel
theorem dX8_needSquares_20 : decode cX8_needSquares 20 = .ok (.new 251, 3) := by decide +kernel
theorem dX8_needSquares_23 : decode cX8_needSquares 23 = .ok (.dup, 1) := by decide +kernel
theorem dX8_needSquares_24 : decode cX8_needSquares 24 = .ok (.ldc_w 345, 3) := by decide +kernel
theorem dX8_needSquares_27 : decode cX8_needSquares 27 = .ok (.invokespecial 255, 3) := by decide +kernel
theorem dX8_needSquares_30 : decode cX8_needSquares 30 = .ok (.athrow, 1) := by decide +kernel
theorem dX8_needSquares_31 : decode cX8_needSquares 31 = .ok (.return_, 1) := by decide +kernel
theorem dX8_needSide_0 : decode cX8_needSide 0 = .ok (.iload_n 0, 1) := by decide +kernel
theorem dX8_needSide_1 : decode cX8_needSide 1 = .ok (.ifCond .lt 8, 3) := by decide +kernel
theorem dX8_needSide_4 : decode cX8_needSide 4 = .ok (.iload_n 0, 1) := by decide +kernel
theorem dX8_needSide_5 : decode cX8_needSide 5 = .ok (.iconst 1, 1) := by decide +kernel
theorem dX8_needSide_6 : decode cX8_needSide 6 = .ok (.if_icmp .le 14, 3) := by decide +kernel
theorem dX8_needSide_9 : decode cX8_needSide 9 = .ok (.new 251, 3) := by decide +kernel
theorem dX8_needSide_12 : decode cX8_needSide 12 = .ok (.dup, 1) := by decide +kernel
theorem dX8_needSide_13 : decode cX8_needSide 13 = .ok (.ldc_w 347, 3) := by decide +kernel
theorem dX8_needSide_16 : decode cX8_needSide 16 = .ok (.invokespecial 255, 3) := by decide +kernel
theorem dX8_needSide_19 : decode cX8_needSide 19 = .ok (.athrow, 1) := by decide +kernel
theorem dX8_needSide_20 : decode cX8_needSide 20 = .ok (.return_, 1) := by decide +kernel
theorem dX8_needSlot_0 : decode cX8_needSlot 0 = .ok (.iload_n 0, 1) := by decide +kernel
theorem dX8_needSlot_1 : decode cX8_needSlot 1 = .ok (.ifCond .lt 8, 3) := by decide +kernel
theorem dX8_needSlot_4 : decode cX8_needSlot 4 = .ok (.iload_n 0, 1) := by decide +kernel
theorem dX8_needSlot_5 : decode cX8_needSlot 5 = .ok (.iconst 2, 1) := by decide +kernel
theorem dX8_needSlot_6 : decode cX8_needSlot 6 = .ok (.if_icmp .lt 14, 3) := by decide +kernel
theorem dX8_needSlot_9 : decode cX8_needSlot 9 = .ok (.new 86, 3) := by decide +kernel
theorem dX8_needSlot_12 : decode cX8_needSlot 12 = .ok (.dup, 1) := by decide +kernel
theorem dX8_needSlot_13 : decode cX8_needSlot 13 = .ok (.ldc_w 349, 3) := by decide +kernel
theorem dX8_needSlot_16 : decode cX8_needSlot 16 = .ok (.invokespecial 90, 3) := by decide +kernel
theorem dX8_needSlot_19 : decode cX8_needSlot 19 = .ok (.athrow, 1) := by decide +kernel
theorem dX8_needSlot_20 : decode cX8_needSlot 20 = .ok (.return_, 1) := by decide +kernel
theorem dX8_needKing_0 : decode cX8_needKing 0 = .ok (.aload_n 0, 1) := by decide +kernel
theorem dX8_needKing_1 : decode cX8_needKing 1 = .ok (.getfield 12, 3) := by decide +kernel
theorem dX8_needKing_4 : decode cX8_needKing 4 = .ok (.getfield 69, 3) := by decide +kernel
theorem dX8_needKing_7 : decode cX8_needKing 7 = .ok (.getfield 117, 3) := by decide +kernel
theorem dX8_needKing_10 : decode cX8_needKing 10 = .ok (.ifCond .ge 14, 3) := by decide +kernel
theorem dX8_needKing_13 : decode cX8_needKing 13 = .ok (.new 101, 3) := by decide +kernel
theorem dX8_needKing_16 : decode cX8_needKing 16 = .ok (.dup, 1) := by decide +kernel
theorem dX8_needKing_17 : decode cX8_needKing 17 = .ok (.ldc_w 351, 3) := by decide +kernel
theorem dX8_needKing_20 : decode cX8_needKing 20 = .ok (.invokespecial 105, 3) := by decide +kernel
theorem dX8_needKing_23 : decode cX8_needKing 23 = .ok (.athrow, 1) := by decide +kernel
theorem dX8_needKing_24 : decode cX8_needKing 24 = .ok (.return_, 1) := by decide +kernel
theorem dX8_needPossible_0 : decode cX8_needPossible 0 = .ok (.iload_n 1, 1) := by decide +kernel
theorem dX8_needPossible_1 : decode cX8_needPossible 1 = .ok (.iload_n 2, 1) := by decide +kernel
theorem dX8_needPossible_2 : decode cX8_needPossible 2 = .ok (.invokestatic 136, 3) := by decide +kernel
theorem dX8_needPossible_5 : decode cX8_needPossible 5 = .ok (.aload_n 0, 1) := by decide +kernel
theorem dX8_needPossible_6 : decode cX8_needPossible 6 = .ok (.getfield 12, 3) := by decide +kernel
theorem dX8_needPossible_9 : decode cX8_needPossible 9 = .ok (.getfield 69, 3) := by decide +kernel
theorem dX8_needPossible_12 : decode cX8_needPossible 12 = .ok (.iload_n 1, 1) := by decide +kernel
theorem dX8_needPossible_13 : decode cX8_needPossible 13 = .ok (.iload_n 2, 1) := by decide +kernel
theorem dX8_needPossible_14 : decode cX8_needPossible 14 = .ok (.invokevirtual 222, 3) := by decide +kernel
theorem dX8_needPossible_17 : decode cX8_needPossible 17 = .ok (.ifCond .eq 14, 3) := by decide +kernel
theorem dX8_needPossible_20 : decode cX8_needPossible 20 = .ok (.new 101, 3) := by decide +kernel
theorem dX8_needPossible_23 : decode cX8_needPossible 23 = .ok (.dup, 1) := by decide +kernel
theorem dX8_needPossible_24 : decode cX8_needPossible 24 = .ok (.ldc_w 353, 3) := by decide +kernel
theorem dX8_needPossible_27 : decode cX8_needPossible 27 = .ok (.invokespecial 105, 3) := by decide +kernel
theorem dX8_needPossible_30 : decode cX8_needPossible 30 = .ok (.athrow, 1) := by decide +kernel
theorem dX8_needPossible_31 : decode cX8_needPossible 31 = .ok (.return_, 1) := by decide +kernel
theorem dX8_isCorner_0 : decode cX8_isCorner 0 = .ok (.ldc2_w 355, 3) := by decide +kernel
theorem dX8_isCorner_3 : decode cX8_isCorner 3 = .ok (.iload_n 0, 1) := by decide +kernel
theorem dX8_isCorner_4 : decode cX8_isCorner 4 = .ok (.lushr, 1) := by decide +kernel
theorem dX8_isCorner_5 : decode cX8_isCorner 5 = .ok (.lconst 1, 1) := by decide +kernel
theorem dX8_isCorner_6 : decode cX8_isCorner 6 = .ok (.land, 1) := by decide +kernel
theorem dX8_isCorner_7 : decode cX8_isCorner 7 = .ok (.lconst 0, 1) := by decide +kernel
theorem dX8_isCorner_8 : decode cX8_isCorner 8 = .ok (.lcmp, 1) := by decide +kernel
theorem dX8_isCorner_9 : decode cX8_isCorner 9 = .ok (.ifCond .eq 7, 3) := by decide +kernel
theorem dX8_isCorner_12 : decode cX8_isCorner 12 = .ok (.iconst 1, 1) := by decide +kernel
theorem dX8_isCorner_13 : decode cX8_isCorner 13 = .ok (.goto 4, 3) := by decide +kernel
theorem dX8_isCorner_16 : decode cX8_isCorner 16 = .ok (.iconst 0, 1) := by decide +kernel
theorem dX8_isCorner_17 : decode cX8_isCorner 17 = .ok (.ireturn, 1) := by decide +kernel
theorem dX8_beside_0 : decode cX8_beside 0 = .ok (.iload_n 0, 1) := by decide +kernel
theorem dX8_beside_1 : decode cX8_beside 1 = .ok (.ifCond .ge 5, 3) := by decide +kernel
theorem dX8_beside_4 : decode cX8_beside 4 = .ok (.iconst (-1), 1) := by decide +kernel
theorem dX8_beside_5 : decode cX8_beside 5 = .ok (.ireturn, 1) := by decide +kernel
theorem dX8_beside_6 : decode cX8_beside 6 = .ok (.iload_n 1, 1) := by decide +kernel
theorem dX8_beside_7 : decode cX8_beside 7 = .ok (.tableswitch 72 0 2 #[25, 40, 55], 25) := by decide +kernel
theorem dX8_beside_32 : decode cX8_beside 32 = .ok (.iload_n 0, 1) := by decide +kernel
theorem dX8_beside_33 : decode cX8_beside 33 = .ok (.bipush 7, 2) := by decide +kernel
theorem dX8_beside_35 : decode cX8_beside 35 = .ok (.if_icmp .lt 10, 3) := by decide +kernel
theorem dX8_beside_38 : decode cX8_beside 38 = .ok (.iload_n 0, 1) := by decide +kernel
theorem dX8_beside_39 : decode cX8_beside 39 = .ok (.bipush 7, 2) := by decide +kernel
theorem dX8_beside_41 : decode cX8_beside 41 = .ok (.isub, 1) := by decide +kernel
theorem dX8_beside_42 : decode cX8_beside 42 = .ok (.goto 4, 3) := by decide +kernel
theorem dX8_beside_45 : decode cX8_beside 45 = .ok (.iconst (-1), 1) := by decide +kernel
theorem dX8_beside_46 : decode cX8_beside 46 = .ok (.ireturn, 1) := by decide +kernel
theorem dX8_beside_47 : decode cX8_beside 47 = .ok (.iload_n 0, 1) := by decide +kernel
theorem dX8_beside_48 : decode cX8_beside 48 = .ok (.bipush 7, 2) := by decide +kernel
theorem dX8_beside_50 : decode cX8_beside 50 = .ok (.irem, 1) := by decide +kernel
theorem dX8_beside_51 : decode cX8_beside 51 = .ok (.ifCond .le 9, 3) := by decide +kernel
theorem dX8_beside_54 : decode cX8_beside 54 = .ok (.iload_n 0, 1) := by decide +kernel
theorem dX8_beside_55 : decode cX8_beside 55 = .ok (.iconst 1, 1) := by decide +kernel
theorem dX8_beside_56 : decode cX8_beside 56 = .ok (.isub, 1) := by decide +kernel
theorem dX8_beside_57 : decode cX8_beside 57 = .ok (.goto 4, 3) := by decide +kernel
theorem dX8_beside_60 : decode cX8_beside 60 = .ok (.iconst (-1), 1) := by decide +kernel
theorem dX8_beside_61 : decode cX8_beside 61 = .ok (.ireturn, 1) := by decide +kernel
theorem dX8_beside_62 : decode cX8_beside 62 = .ok (.iload_n 0, 1) := by decide +kernel
theorem dX8_beside_63 : decode cX8_beside 63 = .ok (.bipush 7, 2) := by decide +kernel
theorem dX8_beside_65 : decode cX8_beside 65 = .ok (.irem, 1) := by decide +kernel
theorem dX8_beside_66 : decode cX8_beside 66 = .ok (.bipush 6, 2) := by decide +kernel
theorem dX8_beside_68 : decode cX8_beside 68 = .ok (.if_icmp .ge 9, 3) := by decide +kernel
theorem dX8_beside_71 : decode cX8_beside 71 = .ok (.iload_n 0, 1) := by decide +kernel
theorem dX8_beside_72 : decode cX8_beside 72 = .ok (.iconst 1, 1) := by decide +kernel
theorem dX8_beside_73 : decode cX8_beside 73 = .ok (.iadd, 1) := by decide +kernel
theorem dX8_beside_74 : decode cX8_beside 74 = .ok (.goto 4, 3) := by decide +kernel
theorem dX8_beside_77 : decode cX8_beside 77 = .ok (.iconst (-1), 1) := by decide +kernel
theorem dX8_beside_78 : decode cX8_beside 78 = .ok (.ireturn, 1) := by decide +kernel
theorem dX8_beside_79 : decode cX8_beside 79 = .ok (.iload_n 0, 1) := by decide +kernel
theorem dX8_beside_80 : decode cX8_beside 80 = .ok (.bipush 42, 2) := by decide +kernel
theorem dX8_beside_82 : decode cX8_beside 82 = .ok (.if_icmp .ge 10, 3) := by decide +kernel
theorem dX8_beside_85 : decode cX8_beside 85 = .ok (.iload_n 0, 1) := by decide +kernel
theorem dX8_beside_86 : decode cX8_beside 86 = .ok (.bipush 7, 2) := by decide +kernel
theorem dX8_beside_88 : decode cX8_beside 88 = .ok (.iadd, 1) := by decide +kernel
theorem dX8_beside_89 : decode cX8_beside 89 = .ok (.goto 4, 3) := by decide +kernel
theorem dX8_beside_92 : decode cX8_beside 92 = .ok (.iconst (-1), 1) := by decide +kernel
theorem dX8_beside_93 : decode cX8_beside 93 = .ok (.ireturn, 1) := by decide +kernel
theorem dX8_opposite_0 : decode cX8_opposite 0 = .ok (.iconst 3, 1) := by decide +kernel
theorem dX8_opposite_1 : decode cX8_opposite 1 = .ok (.iload_n 0, 1) := by decide +kernel
theorem dX8_opposite_2 : decode cX8_opposite 2 = .ok (.isub, 1) := by decide +kernel
theorem dX8_opposite_3 : decode cX8_opposite 3 = .ok (.ireturn, 1) := by decide +kernel
theorem dX8_directionOf_0 : decode cX8_directionOf 0 = .ok (.iload_n 0, 1) := by decide +kernel
theorem dX8_directionOf_1 : decode cX8_directionOf 1 = .ok (.iload_n 1, 1) := by decide +kernel
theorem dX8_directionOf_2 : decode cX8_directionOf 2 = .ok (.if_icmp .ne 5, 3) := by decide +kernel
theorem dX8_directionOf_5 : decode cX8_directionOf 5 = .ok (.iconst (-1), 1) := by decide +kernel
theorem dX8_directionOf_6 : decode cX8_directionOf 6 = .ok (.ireturn, 1) := by decide +kernel
theorem dX8_directionOf_7 : decode cX8_directionOf 7 = .ok (.iload_n 0, 1) := by decide +kernel
theorem dX8_directionOf_8 : decode cX8_directionOf 8 = .ok (.bipush 7, 2) := by decide +kernel
theorem dX8_directionOf_10 : decode cX8_directionOf 10 = .ok (.idiv, 1) := by decide +kernel
theorem dX8_directionOf_11 : decode cX8_directionOf 11 = .ok (.iload_n 1, 1) := by decide +kernel
theorem dX8_directionOf_12 : decode cX8_directionOf 12 = .ok (.bipush 7, 2) := by decide +kernel
theorem dX8_directionOf_14 : decode cX8_directionOf 14 = .ok (.idiv, 1) := by decide +kernel
theorem dX8_directionOf_15 : decode cX8_directionOf 15 = .ok (.if_icmp .ne 14, 3) := by decide +kernel
theorem dX8_directionOf_18 : decode cX8_directionOf 18 = .ok (.iload_n 1, 1) := by decide +kernel
theorem dX8_directionOf_19 : decode cX8_directionOf 19 = .ok (.iload_n 0, 1) := by decide +kernel
theorem dX8_directionOf_20 : decode cX8_directionOf 20 = .ok (.if_icmp .ge 7, 3) := by decide +kernel
theorem dX8_directionOf_23 : decode cX8_directionOf 23 = .ok (.iconst 1, 1) := by decide +kernel
theorem dX8_directionOf_24 : decode cX8_directionOf 24 = .ok (.goto 4, 3) := by decide +kernel
theorem dX8_directionOf_27 : decode cX8_directionOf 27 = .ok (.iconst 2, 1) := by decide +kernel
theorem dX8_directionOf_28 : decode cX8_directionOf 28 = .ok (.ireturn, 1) := by decide +kernel
theorem dX8_directionOf_29 : decode cX8_directionOf 29 = .ok (.iload_n 0, 1) := by decide +kernel
theorem dX8_directionOf_30 : decode cX8_directionOf 30 = .ok (.bipush 7, 2) := by decide +kernel
theorem dX8_directionOf_32 : decode cX8_directionOf 32 = .ok (.irem, 1) := by decide +kernel
theorem dX8_directionOf_33 : decode cX8_directionOf 33 = .ok (.iload_n 1, 1) := by decide +kernel
theorem dX8_directionOf_34 : decode cX8_directionOf 34 = .ok (.bipush 7, 2) := by decide +kernel
theorem dX8_directionOf_36 : decode cX8_directionOf 36 = .ok (.irem, 1) := by decide +kernel
theorem dX8_directionOf_37 : decode cX8_directionOf 37 = .ok (.if_icmp .ne 14, 3) := by decide +kernel
theorem dX8_directionOf_40 : decode cX8_directionOf 40 = .ok (.iload_n 1, 1) := by decide +kernel
theorem dX8_directionOf_41 : decode cX8_directionOf 41 = .ok (.iload_n 0, 1) := by decide +kernel
theorem dX8_directionOf_42 : decode cX8_directionOf 42 = .ok (.if_icmp .ge 7, 3) := by decide +kernel
theorem dX8_directionOf_45 : decode cX8_directionOf 45 = .ok (.iconst 0, 1) := by decide +kernel
theorem dX8_directionOf_46 : decode cX8_directionOf 46 = .ok (.goto 4, 3) := by decide +kernel
theorem dX8_directionOf_49 : decode cX8_directionOf 49 = .ok (.iconst 3, 1) := by decide +kernel
theorem dX8_directionOf_50 : decode cX8_directionOf 50 = .ok (.ireturn, 1) := by decide +kernel
theorem dX8_directionOf_51 : decode cX8_directionOf 51 = .ok (.iconst (-1), 1) := by decide +kernel
theorem dX8_directionOf_52 : decode cX8_directionOf 52 = .ok (.ireturn, 1) := by decide +kernel
theorem dX8_sideOf_0 : decode cX8_sideOf 0 = .ok (.iload_n 0, 1) := by decide +kernel
theorem dX8_sideOf_1 : decode cX8_sideOf 1 = .ok (.ifCond .ne 5, 3) := by decide +kernel
theorem dX8_sideOf_4 : decode cX8_sideOf 4 = .ok (.iconst (-1), 1) := by decide +kernel
theorem dX8_sideOf_5 : decode cX8_sideOf 5 = .ok (.ireturn, 1) := by decide +kernel
theorem dX8_sideOf_6 : decode cX8_sideOf 6 = .ok (.iload_n 0, 1) := by decide +kernel
theorem dX8_sideOf_7 : decode cX8_sideOf 7 = .ok (.iconst 1, 1) := by decide +kernel
theorem dX8_sideOf_8 : decode cX8_sideOf 8 = .ok (.if_icmp .ne 7, 3) := by decide +kernel
theorem dX8_sideOf_11 : decode cX8_sideOf 11 = .ok (.iconst 0, 1) := by decide +kernel
theorem dX8_sideOf_12 : decode cX8_sideOf 12 = .ok (.goto 4, 3) := by decide +kernel
theorem dX8_sideOf_15 : decode cX8_sideOf 15 = .ok (.iconst 1, 1) := by decide +kernel
theorem dX8_sideOf_16 : decode cX8_sideOf 16 = .ok (.ireturn, 1) := by decide +kernel
theorem dX8_mayStop_0 : decode cX8_mayStop 0 = .ok (.iload_n 0, 1) := by decide +kernel
theorem dX8_mayStop_1 : decode cX8_mayStop 1 = .ok (.iconst 3, 1) := by decide +kernel
theorem dX8_mayStop_2 : decode cX8_mayStop 2 = .ok (.if_icmp .eq 15, 3) := by decide +kernel
theorem dX8_mayStop_5 : decode cX8_mayStop 5 = .ok (.ldc2_w 357, 3) := by decide +kernel
theorem dX8_mayStop_8 : decode cX8_mayStop 8 = .ok (.iload_n 1, 1) := by decide +kernel
theorem dX8_mayStop_9 : decode cX8_mayStop 9 = .ok (.lushr, 1) := by decide +kernel
theorem dX8_mayStop_10 : decode cX8_mayStop 10 = .ok (.lconst 1, 1) := by decide +kernel
theorem dX8_mayStop_11 : decode cX8_mayStop 11 = .ok (.land, 1) := by decide +kernel
theorem dX8_mayStop_12 : decode cX8_mayStop 12 = .ok (.lconst 0, 1) := by decide +kernel
theorem dX8_mayStop_13 : decode cX8_mayStop 13 = .ok (.lcmp, 1) := by decide +kernel
theorem dX8_mayStop_14 : decode cX8_mayStop 14 = .ok (.ifCond .ne 7, 3) := by decide +kernel
theorem dX8_mayStop_17 : decode cX8_mayStop 17 = .ok (.iconst 1, 1) := by decide +kernel
theorem dX8_mayStop_18 : decode cX8_mayStop 18 = .ok (.goto 4, 3) := by decide +kernel
theorem dX8_mayStop_21 : decode cX8_mayStop 21 = .ok (.iconst 0, 1) := by decide +kernel
theorem dX8_mayStop_22 : decode cX8_mayStop 22 = .ok (.ireturn, 1) := by decide +kernel
