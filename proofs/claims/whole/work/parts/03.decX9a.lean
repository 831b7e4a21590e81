theorem dX9_init_0 : decode cX9_init 0 = .ok (.aload_n 0, 1) := by decide +kernel
theorem dX9_init_1 : decode cX9_init 1 = .ok (.invokespecial 1, 3) := by decide +kernel
theorem dX9_init_4 : decode cX9_init 4 = .ok (.aload_n 0, 1) := by decide +kernel
theorem dX9_init_5 : decode cX9_init 5 = .ok (.bipush 61, 2) := by decide +kernel
theorem dX9_init_7 : decode cX9_init 7 = .ok (.newarray .int, 2) := by decide +kernel
theorem dX9_init_9 : decode cX9_init 9 = .ok (.putfield 7, 3) := by decide +kernel
theorem dX9_init_12 : decode cX9_init 12 = .ok (.aload_n 0, 1) := by decide +kernel
theorem dX9_init_13 : decode cX9_init 13 = .ok (.bipush 61, 2) := by decide +kernel
theorem dX9_init_15 : decode cX9_init 15 = .ok (.newarray .int, 2) := by decide +kernel
theorem dX9_init_17 : decode cX9_init 17 = .ok (.putfield 13, 3) := by decide +kernel
theorem dX9_init_20 : decode cX9_init 20 = .ok (.aload_n 0, 1) := by decide +kernel
theorem dX9_init_21 : decode cX9_init 21 = .ok (.bipush 61, 2) := by decide +kernel
theorem dX9_init_23 : decode cX9_init 23 = .ok (.newarray .int, 2) := by decide +kernel
theorem dX9_init_25 : decode cX9_init 25 = .ok (.putfield 16, 3) := by decide +kernel
theorem dX9_init_28 : decode cX9_init 28 = .ok (.aload_n 0, 1) := by decide +kernel
theorem dX9_init_29 : decode cX9_init 29 = .ok (.bipush 49, 2) := by decide +kernel
theorem dX9_init_31 : decode cX9_init 31 = .ok (.newarray .int, 2) := by decide +kernel
theorem dX9_init_33 : decode cX9_init 33 = .ok (.putfield 19, 3) := by decide +kernel
theorem dX9_init_36 : decode cX9_init 36 = .ok (.aload_n 0, 1) := by decide +kernel
theorem dX9_init_37 : decode cX9_init 37 = .ok (.sipush 366, 3) := by decide +kernel
theorem dX9_init_40 : decode cX9_init 40 = .ok (.newarray .int, 2) := by decide +kernel
theorem dX9_init_42 : decode cX9_init 42 = .ok (.putfield 22, 3) := by decide +kernel
theorem dX9_init_45 : decode cX9_init 45 = .ok (.aload_n 0, 1) := by decide +kernel
theorem dX9_init_46 : decode cX9_init 46 = .ok (.bipush 122, 2) := by decide +kernel
theorem dX9_init_48 : decode cX9_init 48 = .ok (.newarray .int, 2) := by decide +kernel
theorem dX9_init_50 : decode cX9_init 50 = .ok (.putfield 25, 3) := by decide +kernel
theorem dX9_init_53 : decode cX9_init 53 = .ok (.aload_n 0, 1) := by decide +kernel
theorem dX9_init_54 : decode cX9_init 54 = .ok (.iconst 2, 1) := by decide +kernel
theorem dX9_init_55 : decode cX9_init 55 = .ok (.newarray .boolean, 2) := by decide +kernel
theorem dX9_init_57 : decode cX9_init 57 = .ok (.putfield 28, 3) := by decide +kernel
theorem dX9_init_60 : decode cX9_init 60 = .ok (.aload_n 0, 1) := by decide +kernel
theorem dX9_init_61 : decode cX9_init 61 = .ok (.sipush 4096, 3) := by decide +kernel
theorem dX9_init_64 : decode cX9_init 64 = .ok (.newarray .long, 2) := by decide +kernel
theorem dX9_init_66 : decode cX9_init 66 = .ok (.putfield 32, 3) := by decide +kernel
theorem dX9_init_69 : decode cX9_init 69 = .ok (.aload_n 0, 1) := by decide +kernel
theorem dX9_init_70 : decode cX9_init 70 = .ok (.sipush 4096, 3) := by decide +kernel
theorem dX9_init_73 : decode cX9_init 73 = .ok (.newarray .long, 2) := by decide +kernel
theorem dX9_init_75 : decode cX9_init 75 = .ok (.putfield 36, 3) := by decide +kernel
theorem dX9_init_78 : decode cX9_init 78 = .ok (.aload_n 0, 1) := by decide +kernel
theorem dX9_init_79 : decode cX9_init 79 = .ok (.sipush 4096, 3) := by decide +kernel
theorem dX9_init_82 : decode cX9_init 82 = .ok (.newarray .int, 2) := by decide +kernel
theorem dX9_init_84 : decode cX9_init 84 = .ok (.putfield 39, 3) := by decide +kernel
theorem dX9_init_87 : decode cX9_init 87 = .ok (.aload_n 0, 1) := by decide +kernel
theorem dX9_init_88 : decode cX9_init 88 = .ok (.sipush 4096, 3) := by decide +kernel
theorem dX9_init_91 : decode cX9_init 91 = .ok (.newarray .int, 2) := by decide +kernel
theorem dX9_init_93 : decode cX9_init 93 = .ok (.putfield 42, 3) := by decide +kernel
theorem dX9_init_96 : decode cX9_init 96 = .ok (.aload_n 0, 1) := by decide +kernel
theorem dX9_init_97 : decode cX9_init 97 = .ok (.bipush 60, 2) := by decide +kernel
theorem dX9_init_99 : decode cX9_init 99 = .ok (.newarray .int, 2) := by decide +kernel
theorem dX9_init_101 : decode cX9_init 101 = .ok (.putfield 45, 3) := by decide +kernel
theorem dX9_init_104 : decode cX9_init 104 = .ok (.aload_n 0, 1) := by decide +kernel
theorem dX9_init_105 : decode cX9_init 105 = .ok (.aload_n 0, 1) := by decide +kernel
theorem dX9_init_106 : decode cX9_init 106 = .ok (.getfield 7, 3) := by decide +kernel
theorem dX9_init_109 : decode cX9_init 109 = .ok (.invokevirtual 48, 3) := by decide +kernel
theorem dX9_init_112 : decode cX9_init 112 = .ok (.istore_n 1, 1) := by decide +kernel
theorem dX9_init_113 : decode cX9_init 113 = .ok (.return_, 1) := by decide +kernel
theorem dX9_thrown_0 : decode cX9_thrown 0 = .ok (.aload_n 0, 1) := by decide +kernel
theorem dX9_thrown_1 : decode cX9_thrown 1 = .ok (.getfield 52, 3) := by decide +kernel
theorem dX9_thrown_4 : decode cX9_thrown 4 = .ok (.ireturn, 1) := by decide +kernel
theorem dX9_refused_0 : decode cX9_refused 0 = .ok (.aload_n 0, 1) := by decide +kernel
theorem dX9_refused_1 : decode cX9_refused 1 = .ok (.iload_n 1, 1) := by decide +kernel
theorem dX9_refused_2 : decode cX9_refused 2 = .ok (.putfield 52, 3) := by decide +kernel
theorem dX9_refused_5 : decode cX9_refused 5 = .ok (.iload_n 1, 1) := by decide +kernel
theorem dX9_refused_6 : decode cX9_refused 6 = .ok (.ifCond .eq 7, 3) := by decide +kernel
theorem dX9_refused_9 : decode cX9_refused 9 = .ok (.iconst 1, 1) := by decide +kernel
theorem dX9_refused_10 : decode cX9_refused 10 = .ok (.goto 4, 3) := by decide +kernel
theorem dX9_refused_13 : decode cX9_refused 13 = .ok (.iconst 0, 1) := by decide +kernel
theorem dX9_refused_14 : decode cX9_refused 14 = .ok (.ireturn, 1) := by decide +kernel
theorem dX9_in_0 : decode cX9_in 0 = .ok (.lload_n 0, 1) := by decide +kernel
theorem dX9_in_1 : decode cX9_in 1 = .ok (.lload_n 2, 1) := by decide +kernel
theorem dX9_in_2 : decode cX9_in 2 = .ok (.lcmp, 1) := by decide +kernel
theorem dX9_in_3 : decode cX9_in 3 = .ok (.ifCond .lt 14, 3) := by decide +kernel
theorem dX9_in_6 : decode cX9_in 6 = .ok (.lload_n 0, 1) := by decide +kernel
theorem dX9_in_7 : decode cX9_in 7 = .ok (.lload 4, 2) := by decide +kernel
theorem dX9_in_9 : decode cX9_in 9 = .ok (.lcmp, 1) := by decide +kernel
theorem dX9_in_10 : decode cX9_in 10 = .ok (.ifCond .gt 7, 3) := by decide +kernel
theorem dX9_in_13 : decode cX9_in 13 = .ok (.iconst 1, 1) := by decide +kernel
theorem dX9_in_14 : decode cX9_in 14 = .ok (.goto 4, 3) := by decide +kernel
theorem dX9_in_17 : decode cX9_in 17 = .ok (.iconst 0, 1) := by decide +kernel
theorem dX9_in_18 : decode cX9_in 18 = .ok (.ireturn, 1) := by decide +kernel
theorem dX9_copy_0 : decode cX9_copy 0 = .ok (.iconst 0, 1) := by decide +kernel
theorem dX9_copy_1 : decode cX9_copy 1 = .ok (.istore_n 2, 1) := by decide +kernel
theorem dX9_copy_2 : decode cX9_copy 2 = .ok (.iload_n 2, 1) := by decide +kernel
theorem dX9_copy_3 : decode cX9_copy 3 = .ok (.bipush 61, 2) := by decide +kernel
theorem dX9_copy_5 : decode cX9_copy 5 = .ok (.if_icmp .ge 15, 3) := by decide +kernel
theorem dX9_copy_8 : decode cX9_copy 8 = .ok (.aload_n 1, 1) := by decide +kernel
theorem dX9_copy_9 : decode cX9_copy 9 = .ok (.iload_n 2, 1) := by decide +kernel
theorem dX9_copy_10 : decode cX9_copy 10 = .ok (.aload_n 0, 1) := by decide +kernel
theorem dX9_copy_11 : decode cX9_copy 11 = .ok (.iload_n 2, 1) := by decide +kernel
theorem dX9_copy_12 : decode cX9_copy 12 = .ok (.iaload, 1) := by decide +kernel
theorem dX9_copy_13 : decode cX9_copy 13 = .ok (.iastore, 1) := by decide +kernel
theorem dX9_copy_14 : decode cX9_copy 14 = .ok (.iinc 2 1, 3) := by decide +kernel
theorem dX9_copy_17 : decode cX9_copy 17 = .ok (.goto (-15), 3) := by decide +kernel
theorem dX9_copy_20 : decode cX9_copy 20 = .ok (.return_, 1) := by decide +kernel
theorem dX9_isSquare_0 : decode cX9_isSquare 0 = .ok (.iload_n 0, 1) := by decide +kernel
theorem dX9_isSquare_1 : decode cX9_isSquare 1 = .ok (.i2l, 1) := by decide +kernel
theorem dX9_isSquare_2 : decode cX9_isSquare 2 = .ok (.lconst 0, 1) := by decide +kernel
theorem dX9_isSquare_3 : decode cX9_isSquare 3 = .ok (.ldc2_w 56, 3) := by decide +kernel
theorem dX9_isSquare_6 : decode cX9_isSquare 6 = .ok (.invokestatic 58, 3) := by decide +kernel
theorem dX9_isSquare_9 : decode cX9_isSquare 9 = .ok (.ireturn, 1) := by decide +kernel
theorem dX9_isCell_0 : decode cX9_isCell 0 = .ok (.iload_n 0, 1) := by decide +kernel
theorem dX9_isCell_1 : decode cX9_isCell 1 = .ok (.i2l, 1) := by decide +kernel
theorem dX9_isCell_2 : decode cX9_isCell 2 = .ok (.lconst 0, 1) := by decide +kernel
theorem dX9_isCell_3 : decode cX9_isCell 3 = .ok (.ldc2_w 62, 3) := by decide +kernel
theorem dX9_isCell_6 : decode cX9_isCell 6 = .ok (.invokestatic 58, 3) := by decide +kernel
theorem dX9_isCell_9 : decode cX9_isCell 9 = .ok (.ifCond .eq 19, 3) := by decide +kernel
theorem dX9_isCell_12 : decode cX9_isCell 12 = .ok (.iload_n 1, 1) := by decide +kernel
theorem dX9_isCell_13 : decode cX9_isCell 13 = .ok (.i2l, 1) := by decide +kernel
theorem dX9_isCell_14 : decode cX9_isCell 14 = .ok (.lconst 0, 1) := by decide +kernel
theorem dX9_isCell_15 : decode cX9_isCell 15 = .ok (.ldc2_w 62, 3) := by decide +kernel
theorem dX9_isCell_18 : decode cX9_isCell 18 = .ok (.invokestatic 58, 3) := by decide +kernel
theorem dX9_isCell_21 : decode cX9_isCell 21 = .ok (.ifCond .eq 7, 3) := by decide +kernel
theorem dX9_isCell_24 : decode cX9_isCell 24 = .ok (.iconst 1, 1) := by decide +kernel
theorem dX9_isCell_25 : decode cX9_isCell 25 = .ok (.goto 4, 3) := by decide +kernel
theorem dX9_isCell_28 : decode cX9_isCell 28 = .ok (.iconst 0, 1) := by decide +kernel
theorem dX9_isCell_29 : decode cX9_isCell 29 = .ok (.ireturn, 1) := by decide +kernel
theorem dX9_isSide_0 : decode cX9_isSide 0 = .ok (.iload_n 0, 1) := by decide +kernel
theorem dX9_isSide_1 : decode cX9_isSide 1 = .ok (.i2l, 1) := by decide +kernel
theorem dX9_isSide_2 : decode cX9_isSide 2 = .ok (.lconst 0, 1) := by decide +kernel
theorem dX9_isSide_3 : decode cX9_isSide 3 = .ok (.lconst 1, 1) := by decide +kernel
theorem dX9_isSide_4 : decode cX9_isSide 4 = .ok (.invokestatic 58, 3) := by decide +kernel
theorem dX9_isSide_7 : decode cX9_isSide 7 = .ok (.ireturn, 1) := by decide +kernel
theorem dX9_isCorner_0 : decode cX9_isCorner 0 = .ok (.iload_n 0, 1) := by decide +kernel
theorem dX9_isCorner_1 : decode cX9_isCorner 1 = .ok (.ifCond .eq 21, 3) := by decide +kernel
theorem dX9_isCorner_4 : decode cX9_isCorner 4 = .ok (.iload_n 0, 1) := by decide +kernel
theorem dX9_isCorner_5 : decode cX9_isCorner 5 = .ok (.bipush 6, 2) := by decide +kernel
theorem dX9_isCorner_7 : decode cX9_isCorner 7 = .ok (.if_icmp .eq 15, 3) := by decide +kernel
theorem dX9_isCorner_10 : decode cX9_isCorner 10 = .ok (.iload_n 0, 1) := by decide +kernel
theorem dX9_isCorner_11 : decode cX9_isCorner 11 = .ok (.bipush 42, 2) := by decide +kernel
theorem dX9_isCorner_13 : decode cX9_isCorner 13 = .ok (.if_icmp .eq 9, 3) := by decide +kernel
theorem dX9_isCorner_16 : decode cX9_isCorner 16 = .ok (.iload_n 0, 1) := by decide +kernel
theorem dX9_isCorner_17 : decode cX9_isCorner 17 = .ok (.bipush 48, 2) := by decide +kernel
theorem dX9_isCorner_19 : decode cX9_isCorner 19 = .ok (.if_icmp .ne 7, 3) := by decide +kernel
theorem dX9_isCorner_22 : decode cX9_isCorner 22 = .ok (.iconst 1, 1) := by decide +kernel
theorem dX9_isCorner_23 : decode cX9_isCorner 23 = .ok (.goto 4, 3) := by decide +kernel
theorem dX9_isCorner_26 : decode cX9_isCorner 26 = .ok (.iconst 0, 1) := by decide +kernel
theorem dX9_isCorner_27 : decode cX9_isCorner 27 = .ok (.ireturn, 1) := by decide +kernel
theorem dX9_next_0 : decode cX9_next 0 = .ok (.iload_n 0, 1) := by decide +kernel
theorem dX9_next_1 : decode cX9_next 1 = .ok (.bipush 7, 2) := by decide +kernel
theorem dX9_next_3 : decode cX9_next 3 = .ok (.idiv, 1) := by decide +kernel
theorem dX9_next_4 : decode cX9_next 4 = .ok (.iload_n 1, 1) := by decide +kernel
theorem dX9_next_5 : decode cX9_next 5 = .ok (.ifCond .ne 7, 3) := by decide +kernel
theorem dX9_next_8 : decode cX9_next 8 = .ok (.iconst (-1), 1) := by decide +kernel
theorem dX9_next_9 : decode cX9_next 9 = .ok (.goto 13, 3) := by decide +kernel
theorem dX9_next_12 : decode cX9_next 12 = .ok (.iload_n 1, 1) := by decide +kernel
theorem dX9_next_13 : decode cX9_next 13 = .ok (.iconst 2, 1) := by decide +kernel
theorem dX9_next_14 : decode cX9_next 14 = .ok (.if_icmp .ne 7, 3) := by decide +kernel
theorem dX9_next_17 : decode cX9_next 17 = .ok (.iconst 1, 1) := by decide +kernel
theorem dX9_next_18 : decode cX9_next 18 = .ok (.goto 4, 3) := by decide +kernel
theorem dX9_next_21 : decode cX9_next 21 = .ok (.iconst 0, 1) := by decide +kernel
theorem dX9_next_22 : decode cX9_next 22 = .ok (.iadd, 1) := by decide +kernel
theorem dX9_next_23 : decode cX9_next 23 = .ok (.istore_n 2, 1) := by decide +kernel
theorem dX9_next_24 : decode cX9_next 24 = .ok (.iload_n 0, 1) := by decide +kernel
theorem dX9_next_25 : decode cX9_next 25 = .ok (.bipush 7, 2) := by decide +kernel
theorem dX9_next_27 : decode cX9_next 27 = .ok (.irem, 1) := by decide +kernel
theorem dX9_next_28 : decode cX9_next 28 = .ok (.iload_n 1, 1) := by decide +kernel
theorem dX9_next_29 : decode cX9_next 29 = .ok (.iconst 1, 1) := by decide +kernel
theorem dX9_next_30 : decode cX9_next 30 = .ok (.if_icmp .ne 7, 3) := by decide +kernel
theorem dX9_next_33 : decode cX9_next 33 = .ok (.iconst 1, 1) := by decide +kernel
theorem dX9_next_34 : decode cX9_next 34 = .ok (.goto 13, 3) := by decide +kernel
theorem dX9_next_37 : decode cX9_next 37 = .ok (.iload_n 1, 1) := by decide +kernel
theorem dX9_next_38 : decode cX9_next 38 = .ok (.iconst 3, 1) := by decide +kernel
theorem dX9_next_39 : decode cX9_next 39 = .ok (.if_icmp .ne 7, 3) := by decide +kernel
theorem dX9_next_42 : decode cX9_next 42 = .ok (.iconst (-1), 1) := by decide +kernel
theorem dX9_next_43 : decode cX9_next 43 = .ok (.goto 4, 3) := by decide +kernel
theorem dX9_next_46 : decode cX9_next 46 = .ok (.iconst 0, 1) := by decide +kernel
theorem dX9_next_47 : decode cX9_next 47 = .ok (.iadd, 1) := by decide +kernel
theorem dX9_next_48 : decode cX9_next 48 = .ok (.istore_n 3, 1) := by decide +kernel
theorem dX9_next_49 : decode cX9_next 49 = .ok (.iload_n 0, 1) := by decide +kernel
theorem dX9_next_50 : decode cX9_next 50 = .ok (.iconst (-1), 1) := by decide +kernel
theorem dX9_next_51 : decode cX9_next 51 = .ok (.if_icmp .eq 11, 3) := by decide +kernel
theorem dX9_next_54 : decode cX9_next 54 = .ok (.iload_n 2, 1) := by decide +kernel
theorem dX9_next_55 : decode cX9_next 55 = .ok (.iload_n 3, 1) := by decide +kernel
theorem dX9_next_56 : decode cX9_next 56 = .ok (.invokestatic 64, 3) := by decide +kernel
theorem dX9_next_59 : decode cX9_next 59 = .ok (.ifCond .ne 7, 3) := by decide +kernel
theorem dX9_next_62 : decode cX9_next 62 = .ok (.iconst (-1), 1) := by decide +kernel
theorem dX9_next_63 : decode cX9_next 63 = .ok (.goto 9, 3) := by decide +kernel
theorem dX9_next_66 : decode cX9_next 66 = .ok (.bipush 7, 2) := by decide +kernel
theorem dX9_next_68 : decode cX9_next 68 = .ok (.iload_n 2, 1) := by decide +kernel
theorem dX9_next_69 : decode cX9_next 69 = .ok (.imul, 1) := by decide +kernel
theorem dX9_next_70 : decode cX9_next 70 = .ok (.iload_n 3, 1) := by decide +kernel
theorem dX9_next_71 : decode cX9_next 71 = .ok (.iadd, 1) := by decide +kernel
theorem dX9_next_72 : decode cX9_next 72 = .ok (.ireturn, 1) := by decide +kernel
theorem dX9_side_0 : decode cX9_side 0 = .ok (.iload_n 0, 1) := by decide +kernel
theorem dX9_side_1 : decode cX9_side 1 = .ok (.ifCond .ne 7, 3) := by decide +kernel
theorem dX9_side_4 : decode cX9_side 4 = .ok (.iconst (-1), 1) := by decide +kernel
theorem dX9_side_5 : decode cX9_side 5 = .ok (.goto 13, 3) := by decide +kernel
theorem dX9_side_8 : decode cX9_side 8 = .ok (.iload_n 0, 1) := by decide +kernel
theorem dX9_side_9 : decode cX9_side 9 = .ok (.iconst 1, 1) := by decide +kernel
theorem dX9_side_10 : decode cX9_side 10 = .ok (.if_icmp .ne 7, 3) := by decide +kernel
theorem dX9_side_13 : decode cX9_side 13 = .ok (.iconst 0, 1) := by decide +kernel
theorem dX9_side_14 : decode cX9_side 14 = .ok (.goto 4, 3) := by decide +kernel
theorem dX9_side_17 : decode cX9_side 17 = .ok (.iconst 1, 1) := by decide +kernel
theorem dX9_side_18 : decode cX9_side 18 = .ok (.ireturn, 1) := by decide +kernel
theorem dX9_hostile_0 : decode cX9_hostile 0 = .ok (.iload_n 1, 1) := by decide +kernel
theorem dX9_hostile_1 : decode cX9_hostile 1 = .ok (.bipush 24, 2) := by decide +kernel
theorem dX9_hostile_3 : decode cX9_hostile 3 = .ok (.if_icmp .ne 13, 3) := by decide +kernel
theorem dX9_hostile_6 : decode cX9_hostile 6 = .ok (.aload_n 0, 1) := by decide +kernel
theorem dX9_hostile_7 : decode cX9_hostile 7 = .ok (.iload_n 1, 1) := by decide +kernel
theorem dX9_hostile_8 : decode cX9_hostile 8 = .ok (.iaload, 1) := by decide +kernel
theorem dX9_hostile_9 : decode cX9_hostile 9 = .ok (.ifCond .ne 7, 3) := by decide +kernel
theorem dX9_hostile_12 : decode cX9_hostile 12 = .ok (.iconst 1, 1) := by decide +kernel
theorem dX9_hostile_13 : decode cX9_hostile 13 = .ok (.goto 4, 3) := by decide +kernel
theorem dX9_hostile_16 : decode cX9_hostile 16 = .ok (.iconst 0, 1) := by decide +kernel
theorem dX9_hostile_17 : decode cX9_hostile 17 = .ok (.istore_n 3, 1) := by decide +kernel
theorem dX9_hostile_18 : decode cX9_hostile 18 = .ok (.iload_n 1, 1) := by decide +kernel
theorem dX9_hostile_19 : decode cX9_hostile 19 = .ok (.invokestatic 68, 3) := by decide +kernel
theorem dX9_hostile_22 : decode cX9_hostile 22 = .ok (.ifCond .ne 23, 3) := by decide +kernel
theorem dX9_hostile_25 : decode cX9_hostile 25 = .ok (.iload_n 3, 1) := by decide +kernel
theorem dX9_hostile_26 : decode cX9_hostile 26 = .ok (.ifCond .ne 19, 3) := by decide +kernel
theorem dX9_hostile_29 : decode cX9_hostile 29 = .ok (.aload_n 0, 1) := by decide +kernel
theorem dX9_hostile_30 : decode cX9_hostile 30 = .ok (.iload_n 1, 1) := by decide +kernel
theorem dX9_hostile_31 : decode cX9_hostile 31 = .ok (.iaload, 1) := by decide +kernel
theorem dX9_hostile_32 : decode cX9_hostile 32 = .ok (.ifCond .le 17, 3) := by decide +kernel
theorem dX9_hostile_35 : decode cX9_hostile 35 = .ok (.aload_n 0, 1) := by decide +kernel
theorem dX9_hostile_36 : decode cX9_hostile 36 = .ok (.iload_n 1, 1) := by decide +kernel
theorem dX9_hostile_37 : decode cX9_hostile 37 = .ok (.iaload, 1) := by decide +kernel
theorem dX9_hostile_38 : decode cX9_hostile 38 = .ok (.invokestatic 72, 3) := by decide +kernel
theorem dX9_hostile_41 : decode cX9_hostile 41 = .ok (.iload_n 2, 1) := by decide +kernel
theorem dX9_hostile_42 : decode cX9_hostile 42 = .ok (.if_icmp .eq 7, 3) := by decide +kernel
theorem dX9_hostile_45 : decode cX9_hostile 45 = .ok (.iconst 1, 1) := by decide +kernel
theorem dX9_hostile_46 : decode cX9_hostile 46 = .ok (.goto 4, 3) := by decide +kernel
theorem dX9_hostile_49 : decode cX9_hostile 49 = .ok (.iconst 0, 1) := by decide +kernel
theorem dX9_hostile_50 : decode cX9_hostile 50 = .ok (.ireturn, 1) := by decide +kernel
theorem dX9_king_0 : decode cX9_king 0 = .ok (.iconst 0, 1) := by decide +kernel
theorem dX9_king_1 : decode cX9_king 1 = .ok (.istore_n 1, 1) := by decide +kernel
theorem dX9_king_2 : decode cX9_king 2 = .ok (.iload_n 1, 1) := by decide +kernel
theorem dX9_king_3 : decode cX9_king 3 = .ok (.bipush 49, 2) := by decide +kernel
theorem dX9_king_5 : decode cX9_king 5 = .ok (.if_icmp .ge 18, 3) := by decide +kernel
theorem dX9_king_8 : decode cX9_king 8 = .ok (.aload_n 0, 1) := by decide +kernel
theorem dX9_king_9 : decode cX9_king 9 = .ok (.iload_n 1, 1) := by decide +kernel
theorem dX9_king_10 : decode cX9_king 10 = .ok (.iaload, 1) := by decide +kernel
theorem dX9_king_11 : decode cX9_king 11 = .ok (.iconst 3, 1) := by decide +kernel
theorem dX9_king_12 : decode cX9_king 12 = .ok (.if_icmp .ne 5, 3) := by decide +kernel
theorem dX9_king_15 : decode cX9_king 15 = .ok (.iload_n 1, 1) := by decide +kernel
theorem dX9_king_16 : decode cX9_king 16 = .ok (.ireturn, 1) := by decide +kernel
theorem dX9_king_17 : decode cX9_king 17 = .ok (.iinc 1 1, 3) := by decide +kernel
theorem dX9_king_20 : decode cX9_king 20 = .ok (.goto (-18), 3) := by decide +kernel
theorem dX9_king_23 : decode cX9_king 23 = .ok (.iconst (-1), 1) := by decide +kernel
theorem dX9_king_24 : decode cX9_king 24 = .ok (.ireturn, 1) := by decide +kernel
theorem dX9_rests_0 : decode cX9_rests 0 = .ok (.iload_n 0, 1) := by decide +kernel
theorem dX9_rests_1 : decode cX9_rests 1 = .ok (.iconst 3, 1) := by decide +kernel
theorem dX9_rests_2 : decode cX9_rests 2 = .ok (.if_icmp .eq 16, 3) := by decide +kernel
theorem dX9_rests_5 : decode cX9_rests 5 = .ok (.iload_n 1, 1) := by decide +kernel
theorem dX9_rests_6 : decode cX9_rests 6 = .ok (.bipush 24, 2) := by decide +kernel
theorem dX9_rests_8 : decode cX9_rests 8 = .ok (.if_icmp .eq 14, 3) := by decide +kernel
theorem dX9_rests_11 : decode cX9_rests 11 = .ok (.iload_n 1, 1) := by decide +kernel
theorem dX9_rests_12 : decode cX9_rests 12 = .ok (.invokestatic 68, 3) := by decide +kernel
theorem dX9_rests_15 : decode cX9_rests 15 = .ok (.ifCond .ne 7, 3) := by decide +kernel
theorem dX9_rests_18 : decode cX9_rests 18 = .ok (.iconst 1, 1) := by decide +kernel
theorem dX9_rests_19 : decode cX9_rests 19 = .ok (.goto 4, 3) := by decide +kernel
theorem dX9_rests_22 : decode cX9_rests 22 = .ok (.iconst 0, 1) := by decide +kernel
theorem dX9_rests_23 : decode cX9_rests 23 = .ok (.ireturn, 1) := by decide +kernel
theorem dX9_against_0 : decode cX9_against 0 = .ok (.aload_n 0, 1) := by decide +kernel
theorem dX9_against_1 : decode cX9_against 1 = .ok (.iload_n 1, 1) := by decide +kernel
theorem dX9_against_2 : decode cX9_against 2 = .ok (.iaload, 1) := by decide +kernel
theorem dX9_against_3 : decode cX9_against 3 = .ok (.ifCond .ne 5, 3) := by decide +kernel
theorem dX9_against_6 : decode cX9_against 6 = .ok (.iconst 1, 1) := by decide +kernel
theorem dX9_against_7 : decode cX9_against 7 = .ok (.ireturn, 1) := by decide +kernel
theorem dX9_against_8 : decode cX9_against 8 = .ok (.iload_n 1, 1) := by decide +kernel
theorem dX9_against_9 : decode cX9_against 9 = .ok (.bipush 7, 2) := by decide +kernel
theorem dX9_against_11 : decode cX9_against 11 = .ok (.idiv, 1) := by decide +kernel
theorem dX9_against_12 : decode cX9_against 12 = .ok (.iload_n 2, 1) := by decide +kernel
theorem dX9_against_13 : decode cX9_against 13 = .ok (.bipush 7, 2) := by decide +kernel
theorem dX9_against_15 : decode cX9_against 15 = .ok (.idiv, 1) := by decide +kernel
theorem dX9_against_16 : decode cX9_against 16 = .ok (.if_icmp .ne 7, 3) := by decide +kernel
theorem dX9_against_19 : decode cX9_against 19 = .ok (.iconst 1, 1) := by decide +kernel
theorem dX9_against_20 : decode cX9_against 20 = .ok (.goto 4, 3) := by decide +kernel
theorem dX9_against_23 : decode cX9_against 23 = .ok (.iconst 0, 1) := by decide +kernel
theorem dX9_against_24 : decode cX9_against 24 = .ok (.istore_n 3, 1) := by decide +kernel
theorem dX9_against_25 : decode cX9_against 25 = .ok (.iload_n 1, 1) := by decide +kernel
theorem dX9_against_26 : decode cX9_against 26 = .ok (.iload_n 2, 1) := by decide +kernel
theorem dX9_against_27 : decode cX9_against 27 = .ok (.if_icmp .eq 18, 3) := by decide +kernel
theorem dX9_against_30 : decode cX9_against 30 = .ok (.iload_n 3, 1) := by decide +kernel
theorem dX9_against_31 : decode cX9_against 31 = .ok (.ifCond .ne 16, 3) := by decide +kernel
theorem dX9_against_34 : decode cX9_against 34 = .ok (.iload_n 1, 1) := by decide +kernel
theorem dX9_against_35 : decode cX9_against 35 = .ok (.bipush 7, 2) := by decide +kernel
theorem dX9_against_37 : decode cX9_against 37 = .ok (.irem, 1) := by decide +kernel
theorem dX9_against_38 : decode cX9_against 38 = .ok (.iload_n 2, 1) := by decide +kernel
theorem dX9_against_39 : decode cX9_against 39 = .ok (.bipush 7, 2) := by decide +kernel
theorem dX9_against_41 : decode cX9_against 41 = .ok (.irem, 1) := by decide +kernel
theorem dX9_against_42 : decode cX9_against 42 = .ok (.if_icmp .eq 5, 3) := by decide +kernel
theorem dX9_against_45 : decode cX9_against 45 = .ok (.iconst 2, 1) := by decide +kernel
theorem dX9_against_46 : decode cX9_against 46 = .ok (.ireturn, 1) := by decide +kernel
theorem dX9_against_47 : decode cX9_against 47 = .ok (.iload_n 3, 1) := by decide +kernel
theorem dX9_against_48 : decode cX9_against 48 = .ok (.ifCond .eq 16, 3) := by decide +kernel
theorem dX9_against_51 : decode cX9_against 51 = .ok (.iload_n 2, 1) := by decide +kernel
theorem dX9_against_52 : decode cX9_against 52 = .ok (.iload_n 1, 1) := by decide +kernel
theorem dX9_against_53 : decode cX9_against 53 = .ok (.if_icmp .le 7, 3) := by decide +kernel
theorem dX9_against_56 : decode cX9_against 56 = .ok (.iconst 1, 1) := by decide +kernel
theorem dX9_against_57 : decode cX9_against 57 = .ok (.goto 17, 3) := by decide +kernel
theorem dX9_against_60 : decode cX9_against 60 = .ok (.iconst 3, 1) := by decide +kernel
theorem dX9_against_61 : decode cX9_against 61 = .ok (.goto 13, 3) := by decide +kernel
theorem dX9_against_64 : decode cX9_against 64 = .ok (.iload_n 2, 1) := by decide +kernel
theorem dX9_against_65 : decode cX9_against 65 = .ok (.iload_n 1, 1) := by decide +kernel
theorem dX9_against_66 : decode cX9_against 66 = .ok (.if_icmp .le 7, 3) := by decide +kernel
theorem dX9_against_69 : decode cX9_against 69 = .ok (.iconst 2, 1) := by decide +kernel
theorem dX9_against_70 : decode cX9_against 70 = .ok (.goto 4, 3) := by decide +kernel
theorem dX9_against_73 : decode cX9_against 73 = .ok (.iconst 0, 1) := by decide +kernel
theorem dX9_against_74 : decode cX9_against 74 = .ok (.istore 4, 2) := by decide +kernel
theorem dX9_against_76 : decode cX9_against 76 = .ok (.iload_n 1, 1) := by decide +kernel
theorem dX9_against_77 : decode cX9_against 77 = .ok (.iload 4, 2) := by decide +kernel
theorem dX9_against_79 : decode cX9_against 79 = .ok (.invokestatic 76, 3) := by decide +kernel
theorem dX9_against_82 : decode cX9_against 82 = .ok (.istore 5, 2) := by decide +kernel
theorem dX9_against_84 : decode cX9_against 84 = .ok (.iload 5, 2) := by decide +kernel
theorem dX9_against_86 : decode cX9_against 86 = .ok (.iload_n 2, 1) := by decide +kernel
theorem dX9_against_87 : decode cX9_against 87 = .ok (.iload 4, 2) := by decide +kernel
theorem dX9_against_89 : decode cX9_against 89 = .ok (.invokestatic 76, 3) := by decide +kernel
theorem dX9_against_92 : decode cX9_against 92 = .ok (.if_icmp .eq 24, 3) := by decide +kernel
theorem dX9_against_95 : decode cX9_against 95 = .ok (.aload_n 0, 1) := by decide +kernel
theorem dX9_against_96 : decode cX9_against 96 = .ok (.iload 5, 2) := by decide +kernel
theorem dX9_against_98 : decode cX9_against 98 = .ok (.iaload, 1) := by decide +kernel
theorem dX9_against_99 : decode cX9_against 99 = .ok (.ifCond .le 5, 3) := by decide +kernel
theorem dX9_against_102 : decode cX9_against 102 = .ok (.iconst 3, 1) := by decide +kernel
theorem dX9_against_103 : decode cX9_against 103 = .ok (.ireturn, 1) := by decide +kernel
theorem dX9_against_104 : decode cX9_against 104 = .ok (.iload 5, 2) := by decide +kernel
theorem dX9_against_106 : decode cX9_against 106 = .ok (.iload 4, 2) := by decide +kernel
theorem dX9_against_108 : decode cX9_against 108 = .ok (.invokestatic 76, 3) := by decide +kernel
theorem dX9_against_111 : decode cX9_against 111 = .ok (.istore 5, 2) := by decide +kernel
theorem dX9_against_113 : decode cX9_against 113 = .ok (.goto (-29), 3) := by decide +kernel
theorem dX9_against_116 : decode cX9_against 116 = .ok (.aload_n 0, 1) := by decide +kernel
theorem dX9_against_117 : decode cX9_against 117 = .ok (.iload_n 1, 1) := by decide +kernel
theorem dX9_against_118 : decode cX9_against 118 = .ok (.iaload, 1) := by decide +kernel
theorem dX9_against_119 : decode cX9_against 119 = .ok (.iload_n 2, 1) := by decide +kernel
theorem dX9_against_120 : decode cX9_against 120 = .ok (.invokestatic 80, 3) := by decide +kernel
theorem dX9_against_123 : decode cX9_against 123 = .ok (.ifCond .eq 7, 3) := by decide +kernel
theorem dX9_against_126 : decode cX9_against 126 = .ok (.iconst 0, 1) := by decide +kernel
theorem dX9_against_127 : decode cX9_against 127 = .ok (.goto 4, 3) := by decide +kernel
theorem dX9_against_130 : decode cX9_against 130 = .ok (.iconst 4, 1) := by decide +kernel
theorem dX9_against_131 : decode cX9_against 131 = .ok (.ireturn, 1) := by decide +kernel
theorem dX9_goals_0 : decode cX9_goals 0 = .ok (.iconst 0, 1) := by decide +kernel
theorem dX9_goals_1 : decode cX9_goals 1 = .ok (.istore_n 2, 1) := by decide +kernel
theorem dX9_goals_2 : decode cX9_goals 2 = .ok (.iconst 0, 1) := by decide +kernel
theorem dX9_goals_3 : decode cX9_goals 3 = .ok (.istore_n 3, 1) := by decide +kernel
theorem dX9_goals_4 : decode cX9_goals 4 = .ok (.iload_n 3, 1) := by decide +kernel
theorem dX9_goals_5 : decode cX9_goals 5 = .ok (.iconst 4, 1) := by decide +kernel
theorem dX9_goals_6 : decode cX9_goals 6 = .ok (.if_icmp .ge 65, 3) := by decide +kernel
theorem dX9_goals_9 : decode cX9_goals 9 = .ok (.aload_n 0, 1) := by decide +kernel
theorem dX9_goals_10 : decode cX9_goals 10 = .ok (.iload_n 1, 1) := by decide +kernel
theorem dX9_goals_11 : decode cX9_goals 11 = .ok (.iaload, 1) := by decide +kernel
theorem dX9_goals_12 : decode cX9_goals 12 = .ok (.ifCond .le 59, 3) := by decide +kernel
theorem dX9_goals_15 : decode cX9_goals 15 = .ok (.iload_n 1, 1) := by decide +kernel
theorem dX9_goals_16 : decode cX9_goals 16 = .ok (.iload_n 3, 1) := by decide +kernel
theorem dX9_goals_17 : decode cX9_goals 17 = .ok (.invokestatic 76, 3) := by decide +kernel
theorem dX9_goals_20 : decode cX9_goals 20 = .ok (.istore 4, 2) := by decide +kernel
theorem dX9_goals_22 : decode cX9_goals 22 = .ok (.iload 4, 2) := by decide +kernel
theorem dX9_goals_24 : decode cX9_goals 24 = .ok (.iconst (-1), 1) := by decide +kernel
theorem dX9_goals_25 : decode cX9_goals 25 = .ok (.if_icmp .eq 40, 3) := by decide +kernel
theorem dX9_goals_28 : decode cX9_goals 28 = .ok (.aload_n 0, 1) := by decide +kernel
theorem dX9_goals_29 : decode cX9_goals 29 = .ok (.iload 4, 2) := by decide +kernel
theorem dX9_goals_31 : decode cX9_goals 31 = .ok (.iaload, 1) := by decide +kernel
theorem dX9_goals_32 : decode cX9_goals 32 = .ok (.ifCond .ne 33, 3) := by decide +kernel
theorem dX9_goals_35 : decode cX9_goals 35 = .ok (.iload_n 2, 1) := by decide +kernel
theorem dX9_goals_36 : decode cX9_goals 36 = .ok (.aload_n 0, 1) := by decide +kernel
theorem dX9_goals_37 : decode cX9_goals 37 = .ok (.iload_n 1, 1) := by decide +kernel
theorem dX9_goals_38 : decode cX9_goals 38 = .ok (.iaload, 1) := by decide +kernel
theorem dX9_goals_39 : decode cX9_goals 39 = .ok (.iload 4, 2) := by decide +kernel
theorem dX9_goals_41 : decode cX9_goals 41 = .ok (.invokestatic 80, 3) := by decide +kernel
theorem dX9_goals_44 : decode cX9_goals 44 = .ok (.ifCond .eq 7, 3) := by decide +kernel
theorem dX9_goals_47 : decode cX9_goals 47 = .ok (.iconst 1, 1) := by decide +kernel
theorem dX9_goals_48 : decode cX9_goals 48 = .ok (.goto 4, 3) := by decide +kernel
theorem dX9_goals_51 : decode cX9_goals 51 = .ok (.iconst 0, 1) := by decide +kernel
theorem dX9_goals_52 : decode cX9_goals 52 = .ok (.iadd, 1) := by decide +kernel
theorem dX9_goals_53 : decode cX9_goals 53 = .ok (.istore_n 2, 1) := by decide +kernel
theorem dX9_goals_54 : decode cX9_goals 54 = .ok (.iload 4, 2) := by decide +kernel
theorem dX9_goals_56 : decode cX9_goals 56 = .ok (.iload_n 3, 1) := by decide +kernel
theorem dX9_goals_57 : decode cX9_goals 57 = .ok (.invokestatic 76, 3) := by decide +kernel
theorem dX9_goals_60 : decode cX9_goals 60 = .ok (.istore 4, 2) := by decide +kernel
theorem dX9_goals_62 : decode cX9_goals 62 = .ok (.goto (-40), 3) := by decide +kernel
theorem dX9_goals_65 : decode cX9_goals 65 = .ok (.iinc 3 1, 3) := by decide +kernel
theorem dX9_goals_68 : decode cX9_goals 68 = .ok (.goto (-64), 3) := by decide +kernel
theorem dX9_goals_71 : decode cX9_goals 71 = .ok (.iload_n 2, 1) := by decide +kernel
theorem dX9_goals_72 : decode cX9_goals 72 = .ok (.ireturn, 1) := by decide +kernel
theorem dX9_moveCount_0 : decode cX9_moveCount 0 = .ok (.iconst 0, 1) := by decide +kernel
theorem dX9_moveCount_1 : decode cX9_moveCount 1 = .ok (.istore_n 2, 1) := by decide +kernel
theorem dX9_moveCount_2 : decode cX9_moveCount 2 = .ok (.iconst 0, 1) := by decide +kernel
theorem dX9_moveCount_3 : decode cX9_moveCount 3 = .ok (.istore_n 3, 1) := by decide +kernel
theorem dX9_moveCount_4 : decode cX9_moveCount 4 = .ok (.iload_n 3, 1) := by decide +kernel
theorem dX9_moveCount_5 : decode cX9_moveCount 5 = .ok (.bipush 49, 2) := by decide +kernel
theorem dX9_moveCount_7 : decode cX9_moveCount 7 = .ok (.if_icmp .ge 31, 3) := by decide +kernel
theorem dX9_moveCount_10 : decode cX9_moveCount 10 = .ok (.iload_n 2, 1) := by decide +kernel
theorem dX9_moveCount_11 : decode cX9_moveCount 11 = .ok (.aload_n 0, 1) := by decide +kernel
theorem dX9_moveCount_12 : decode cX9_moveCount 12 = .ok (.iload_n 3, 1) := by decide +kernel
theorem dX9_moveCount_13 : decode cX9_moveCount 13 = .ok (.iaload, 1) := by decide +kernel
theorem dX9_moveCount_14 : decode cX9_moveCount 14 = .ok (.invokestatic 72, 3) := by decide +kernel
theorem dX9_moveCount_17 : decode cX9_moveCount 17 = .ok (.iload_n 1, 1) := by decide +kernel
theorem dX9_moveCount_18 : decode cX9_moveCount 18 = .ok (.if_icmp .ne 11, 3) := by decide +kernel
theorem dX9_moveCount_21 : decode cX9_moveCount 21 = .ok (.aload_n 0, 1) := by decide +kernel
theorem dX9_moveCount_22 : decode cX9_moveCount 22 = .ok (.iload_n 3, 1) := by decide +kernel
theorem dX9_moveCount_23 : decode cX9_moveCount 23 = .ok (.invokestatic 83, 3) := by decide +kernel
theorem dX9_moveCount_26 : decode cX9_moveCount 26 = .ok (.goto 4, 3) := by decide +kernel
theorem dX9_moveCount_29 : decode cX9_moveCount 29 = .ok (.iconst 0, 1) := by decide +kernel
theorem dX9_moveCount_30 : decode cX9_moveCount 30 = .ok (.iadd, 1) := by decide +kernel
theorem dX9_moveCount_31 : decode cX9_moveCount 31 = .ok (.istore_n 2, 1) := by decide +kernel
theorem dX9_moveCount_32 : decode cX9_moveCount 32 = .ok (.iinc 3 1, 3) := by decide +kernel
theorem dX9_moveCount_35 : decode cX9_moveCount 35 = .ok (.goto (-31), 3) := by decide +kernel
theorem dX9_moveCount_38 : decode cX9_moveCount 38 = .ok (.iload_n 2, 1) := by decide +kernel
theorem dX9_moveCount_39 : decode cX9_moveCount 39 = .ok (.ireturn, 1) := by decide +kernel
theorem dX9_isShut_0 : decode cX9_isShut 0 = .ok (.iconst 1, 1) := by decide +kernel
theorem dX9_isShut_1 : decode cX9_isShut 1 = .ok (.istore_n 2, 1) := by decide +kernel
theorem dX9_isShut_2 : decode cX9_isShut 2 = .ok (.iconst 0, 1) := by decide +kernel
theorem dX9_isShut_3 : decode cX9_isShut 3 = .ok (.istore_n 3, 1) := by decide +kernel
theorem dX9_isShut_4 : decode cX9_isShut 4 = .ok (.iload_n 3, 1) := by decide +kernel
theorem dX9_isShut_5 : decode cX9_isShut 5 = .ok (.iconst 4, 1) := by decide +kernel
theorem dX9_isShut_6 : decode cX9_isShut 6 = .ok (.if_icmp .ge 42, 3) := by decide +kernel
theorem dX9_isShut_9 : decode cX9_isShut 9 = .ok (.iload_n 1, 1) := by decide +kernel
theorem dX9_isShut_10 : decode cX9_isShut 10 = .ok (.iload_n 3, 1) := by decide +kernel
theorem dX9_isShut_11 : decode cX9_isShut 11 = .ok (.invokestatic 76, 3) := by decide +kernel
theorem dX9_isShut_14 : decode cX9_isShut 14 = .ok (.istore 4, 2) := by decide +kernel
theorem dX9_isShut_16 : decode cX9_isShut 16 = .ok (.iload_n 2, 1) := by decide +kernel
theorem dX9_isShut_17 : decode cX9_isShut 17 = .ok (.ifCond .eq 23, 3) := by decide +kernel
theorem dX9_isShut_20 : decode cX9_isShut 20 = .ok (.iload 4, 2) := by decide +kernel
theorem dX9_isShut_22 : decode cX9_isShut 22 = .ok (.iconst (-1), 1) := by decide +kernel
theorem dX9_isShut_23 : decode cX9_isShut 23 = .ok (.if_icmp .eq 17, 3) := by decide +kernel
theorem dX9_isShut_26 : decode cX9_isShut 26 = .ok (.aload_n 0, 1) := by decide +kernel
theorem dX9_isShut_27 : decode cX9_isShut 27 = .ok (.iload 4, 2) := by decide +kernel
theorem dX9_isShut_29 : decode cX9_isShut 29 = .ok (.iconst 1, 1) := by decide +kernel
theorem dX9_isShut_30 : decode cX9_isShut 30 = .ok (.invokestatic 87, 3) := by decide +kernel
theorem dX9_isShut_33 : decode cX9_isShut 33 = .ok (.ifCond .eq 7, 3) := by decide +kernel
theorem dX9_isShut_36 : decode cX9_isShut 36 = .ok (.iconst 1, 1) := by decide +kernel
theorem dX9_isShut_37 : decode cX9_isShut 37 = .ok (.goto 4, 3) := by decide +kernel
theorem dX9_isShut_40 : decode cX9_isShut 40 = .ok (.iconst 0, 1) := by decide +kernel
theorem dX9_isShut_41 : decode cX9_isShut 41 = .ok (.istore_n 2, 1) := by decide +kernel
theorem dX9_isShut_42 : decode cX9_isShut 42 = .ok (.iinc 3 1, 3) := by decide +kernel
theorem dX9_isShut_45 : decode cX9_isShut 45 = .ok (.goto (-41), 3) := by decide +kernel
theorem dX9_isShut_48 : decode cX9_isShut 48 = .ok (.iload_n 2, 1) := by decide +kernel
theorem dX9_isShut_49 : decode cX9_isShut 49 = .ok (.ireturn, 1) := by decide +kernel
theorem dX9_isStrongAt_0 : decode cX9_isStrongAt 0 = .ok (.iload_n 1, 1) := by decide +kernel
theorem dX9_isStrongAt_1 : decode cX9_isStrongAt 1 = .ok (.bipush 24, 2) := by decide +kernel
theorem dX9_isStrongAt_3 : decode cX9_isStrongAt 3 = .ok (.if_icmp .ne 7, 3) := by decide +kernel
theorem dX9_isStrongAt_6 : decode cX9_isStrongAt 6 = .ok (.iconst 1, 1) := by decide +kernel
theorem dX9_isStrongAt_7 : decode cX9_isStrongAt 7 = .ok (.goto 4, 3) := by decide +kernel
theorem dX9_isStrongAt_10 : decode cX9_isStrongAt 10 = .ok (.iconst 0, 1) := by decide +kernel
theorem dX9_isStrongAt_11 : decode cX9_isStrongAt 11 = .ok (.istore_n 2, 1) := by decide +kernel
theorem dX9_isStrongAt_12 : decode cX9_isStrongAt 12 = .ok (.iconst 0, 1) := by decide +kernel
theorem dX9_isStrongAt_13 : decode cX9_isStrongAt 13 = .ok (.istore_n 3, 1) := by decide +kernel
theorem dX9_isStrongAt_14 : decode cX9_isStrongAt 14 = .ok (.iload_n 3, 1) := by decide +kernel
theorem dX9_isStrongAt_15 : decode cX9_isStrongAt 15 = .ok (.iconst 4, 1) := by decide +kernel
theorem dX9_isStrongAt_16 : decode cX9_isStrongAt 16 = .ok (.if_icmp .ge 29, 3) := by decide +kernel
theorem dX9_isStrongAt_19 : decode cX9_isStrongAt 19 = .ok (.iload_n 2, 1) := by decide +kernel
theorem dX9_isStrongAt_20 : decode cX9_isStrongAt 20 = .ok (.ifCond .ne 13, 3) := by decide +kernel
theorem dX9_isStrongAt_23 : decode cX9_isStrongAt 23 = .ok (.iload_n 1, 1) := by decide +kernel
theorem dX9_isStrongAt_24 : decode cX9_isStrongAt 24 = .ok (.iload_n 3, 1) := by decide +kernel
theorem dX9_isStrongAt_25 : decode cX9_isStrongAt 25 = .ok (.invokestatic 76, 3) := by decide +kernel
theorem dX9_isStrongAt_28 : decode cX9_isStrongAt 28 = .ok (.bipush 24, 2) := by decide +kernel
theorem dX9_isStrongAt_30 : decode cX9_isStrongAt 30 = .ok (.if_icmp .ne 7, 3) := by decide +kernel
theorem dX9_isStrongAt_33 : decode cX9_isStrongAt 33 = .ok (.iconst 1, 1) := by decide +kernel
theorem dX9_isStrongAt_34 : decode cX9_isStrongAt 34 = .ok (.goto 4, 3) := by decide +kernel
theorem dX9_isStrongAt_37 : decode cX9_isStrongAt 37 = .ok (.iconst 0, 1) := by decide +kernel
theorem dX9_isStrongAt_38 : decode cX9_isStrongAt 38 = .ok (.istore_n 2, 1) := by decide +kernel
theorem dX9_isStrongAt_39 : decode cX9_isStrongAt 39 = .ok (.iinc 3 1, 3) := by decide +kernel
theorem dX9_isStrongAt_42 : decode cX9_isStrongAt 42 = .ok (.goto (-28), 3) := by decide +kernel
theorem dX9_isStrongAt_45 : decode cX9_isStrongAt 45 = .ok (.iload_n 2, 1) := by decide +kernel
theorem dX9_isStrongAt_46 : decode cX9_isStrongAt 46 = .ok (.ifCond .ne 11, 3) := by decide +kernel
theorem dX9_isStrongAt_49 : decode cX9_isStrongAt 49 = .ok (.aload_n 0, 1) := by decide +kernel
theorem dX9_isStrongAt_50 : decode cX9_isStrongAt 50 = .ok (.bipush 52, 2) := by decide +kernel
theorem dX9_isStrongAt_52 : decode cX9_isStrongAt 52 = .ok (.iaload, 1) := by decide +kernel
theorem dX9_isStrongAt_53 : decode cX9_isStrongAt 53 = .ok (.iconst 1, 1) := by decide +kernel
theorem dX9_isStrongAt_54 : decode cX9_isStrongAt 54 = .ok (.if_icmp .ne 7, 3) := by decide +kernel
theorem dX9_isStrongAt_57 : decode cX9_isStrongAt 57 = .ok (.iconst 1, 1) := by decide +kernel
theorem dX9_isStrongAt_58 : decode cX9_isStrongAt 58 = .ok (.goto 4, 3) := by decide +kernel
theorem dX9_isStrongAt_61 : decode cX9_isStrongAt 61 = .ok (.iconst 0, 1) := by decide +kernel
theorem dX9_isStrongAt_62 : decode cX9_isStrongAt 62 = .ok (.ireturn, 1) := by decide +kernel
theorem dX9_step_0 : decode cX9_step 0 = .ok (.aload_n 0, 1) := by decide +kernel
theorem dX9_step_1 : decode cX9_step 1 = .ok (.iload_n 2, 1) := by decide +kernel
theorem dX9_step_2 : decode cX9_step 2 = .ok (.aload_n 0, 1) := by decide +kernel
theorem dX9_step_3 : decode cX9_step 3 = .ok (.iload_n 1, 1) := by decide +kernel
theorem dX9_step_4 : decode cX9_step 4 = .ok (.iaload, 1) := by decide +kernel
theorem dX9_step_5 : decode cX9_step 5 = .ok (.iastore, 1) := by decide +kernel
theorem dX9_step_6 : decode cX9_step 6 = .ok (.aload_n 0, 1) := by decide +kernel
theorem dX9_step_7 : decode cX9_step 7 = .ok (.iload_n 1, 1) := by decide +kernel
theorem dX9_step_8 : decode cX9_step 8 = .ok (.iconst 0, 1) := by decide +kernel
theorem dX9_step_9 : decode cX9_step 9 = .ok (.iastore, 1) := by decide +kernel
theorem dX9_step_10 : decode cX9_step 10 = .ok (.aload_n 0, 1) := by decide +kernel
theorem dX9_step_11 : decode cX9_step 11 = .ok (.iload_n 2, 1) := by decide +kernel
theorem dX9_step_12 : decode cX9_step 12 = .ok (.iaload, 1) := by decide +kernel
theorem dX9_step_13 : decode cX9_step 13 = .ok (.invokestatic 72, 3) := by decide +kernel
theorem dX9_step_16 : decode cX9_step 16 = .ok (.istore_n 3, 1) := by decide +kernel
theorem dX9_step_17 : decode cX9_step 17 = .ok (.lconst 0, 1) := by decide +kernel
theorem dX9_step_18 : decode cX9_step 18 = .ok (.lstore 4, 2) := by decide +kernel
theorem dX9_step_20 : decode cX9_step 20 = .ok (.iconst 0, 1) := by decide +kernel
theorem dX9_step_21 : decode cX9_step 21 = .ok (.istore 6, 2) := by decide +kernel
theorem dX9_step_23 : decode cX9_step 23 = .ok (.iconst 0, 1) := by decide +kernel
theorem dX9_step_24 : decode cX9_step 24 = .ok (.istore 7, 2) := by decide +kernel
theorem dX9_step_26 : decode cX9_step 26 = .ok (.iload 7, 2) := by decide +kernel
theorem dX9_step_28 : decode cX9_step 28 = .ok (.iconst 4, 1) := by decide +kernel
theorem dX9_step_29 : decode cX9_step 29 = .ok (.if_icmp .ge 129, 3) := by decide +kernel
theorem dX9_step_32 : decode cX9_step 32 = .ok (.iload_n 2, 1) := by decide +kernel
theorem dX9_step_33 : decode cX9_step 33 = .ok (.iload 7, 2) := by decide +kernel
theorem dX9_step_35 : decode cX9_step 35 = .ok (.invokestatic 76, 3) := by decide +kernel
theorem dX9_step_38 : decode cX9_step 38 = .ok (.istore 8, 2) := by decide +kernel
theorem dX9_step_40 : decode cX9_step 40 = .ok (.iload 8, 2) := by decide +kernel
theorem dX9_step_42 : decode cX9_step 42 = .ok (.iconst (-1), 1) := by decide +kernel
theorem dX9_step_43 : decode cX9_step 43 = .ok (.if_icmp .ne 7, 3) := by decide +kernel
theorem dX9_step_46 : decode cX9_step 46 = .ok (.iconst 0, 1) := by decide +kernel
theorem dX9_step_47 : decode cX9_step 47 = .ok (.goto 7, 3) := by decide +kernel
theorem dX9_step_50 : decode cX9_step 50 = .ok (.aload_n 0, 1) := by decide +kernel
theorem dX9_step_51 : decode cX9_step 51 = .ok (.iload 8, 2) := by decide +kernel
theorem dX9_step_53 : decode cX9_step 53 = .ok (.iaload, 1) := by decide +kernel
theorem dX9_step_54 : decode cX9_step 54 = .ok (.istore 9, 2) := by decide +kernel
theorem dX9_step_56 : decode cX9_step 56 = .ok (.iload 9, 2) := by decide +kernel
theorem dX9_step_58 : decode cX9_step 58 = .ok (.ifCond .le 94, 3) := by decide +kernel
theorem dX9_step_61 : decode cX9_step 61 = .ok (.iload 9, 2) := by decide +kernel
theorem dX9_step_63 : decode cX9_step 63 = .ok (.invokestatic 72, 3) := by decide +kernel
theorem dX9_step_66 : decode cX9_step 66 = .ok (.iload_n 3, 1) := by decide +kernel
theorem dX9_step_67 : decode cX9_step 67 = .ok (.if_icmp .eq 85, 3) := by decide +kernel
theorem dX9_step_70 : decode cX9_step 70 = .ok (.iload 8, 2) := by decide +kernel
theorem dX9_step_72 : decode cX9_step 72 = .ok (.iload 7, 2) := by decide +kernel
theorem dX9_step_74 : decode cX9_step 74 = .ok (.invokestatic 76, 3) := by decide +kernel
theorem dX9_step_77 : decode cX9_step 77 = .ok (.istore 10, 2) := by decide +kernel
theorem dX9_step_79 : decode cX9_step 79 = .ok (.iload 10, 2) := by decide +kernel
theorem dX9_step_81 : decode cX9_step 81 = .ok (.iconst (-1), 1) := by decide +kernel
theorem dX9_step_82 : decode cX9_step 82 = .ok (.if_icmp .eq 21, 3) := by decide +kernel
theorem dX9_step_85 : decode cX9_step 85 = .ok (.aload_n 0, 1) := by decide +kernel
theorem dX9_step_86 : decode cX9_step 86 = .ok (.iload 10, 2) := by decide +kernel
theorem dX9_step_88 : decode cX9_step 88 = .ok (.iload 9, 2) := by decide +kernel
theorem dX9_step_90 : decode cX9_step 90 = .ok (.invokestatic 72, 3) := by decide +kernel
theorem dX9_step_93 : decode cX9_step 93 = .ok (.invokestatic 87, 3) := by decide +kernel
theorem dX9_step_96 : decode cX9_step 96 = .ok (.ifCond .eq 7, 3) := by decide +kernel
theorem dX9_step_99 : decode cX9_step 99 = .ok (.iconst 1, 1) := by decide +kernel
theorem dX9_step_100 : decode cX9_step 100 = .ok (.goto 4, 3) := by decide +kernel
theorem dX9_step_103 : decode cX9_step 103 = .ok (.iconst 0, 1) := by decide +kernel
theorem dX9_step_104 : decode cX9_step 104 = .ok (.istore 11, 2) := by decide +kernel
theorem dX9_step_106 : decode cX9_step 106 = .ok (.iload 9, 2) := by decide +kernel
theorem dX9_step_108 : decode cX9_step 108 = .ok (.iconst 3, 1) := by decide +kernel
theorem dX9_step_109 : decode cX9_step 109 = .ok (.if_icmp .ne 21, 3) := by decide +kernel
theorem dX9_step_112 : decode cX9_step 112 = .ok (.aload_n 0, 1) := by decide +kernel
theorem dX9_step_113 : decode cX9_step 113 = .ok (.iload 8, 2) := by decide +kernel
theorem dX9_step_115 : decode cX9_step 115 = .ok (.invokestatic 91, 3) := by decide +kernel
theorem dX9_step_118 : decode cX9_step 118 = .ok (.ifCond .eq 12, 3) := by decide +kernel
theorem dX9_step_121 : decode cX9_step 121 = .ok (.aload_n 0, 1) := by decide +kernel
theorem dX9_step_122 : decode cX9_step 122 = .ok (.iload 8, 2) := by decide +kernel
theorem dX9_step_124 : decode cX9_step 124 = .ok (.invokestatic 95, 3) := by decide +kernel
theorem dX9_step_127 : decode cX9_step 127 = .ok (.goto 5, 3) := by decide +kernel
theorem dX9_step_130 : decode cX9_step 130 = .ok (.iload 11, 2) := by decide +kernel
theorem dX9_step_132 : decode cX9_step 132 = .ok (.istore 12, 2) := by decide +kernel
theorem dX9_step_134 : decode cX9_step 134 = .ok (.lload 4, 2) := by decide +kernel
theorem dX9_step_136 : decode cX9_step 136 = .ok (.iload 12, 2) := by decide +kernel
theorem dX9_step_138 : decode cX9_step 138 = .ok (.ifCond .eq 10, 3) := by decide +kernel
theorem dX9_step_141 : decode cX9_step 141 = .ok (.lconst 1, 1) := by decide +kernel
theorem dX9_step_142 : decode cX9_step 142 = .ok (.iload 8, 2) := by decide +kernel
theorem dX9_step_144 : decode cX9_step 144 = .ok (.lshl, 1) := by decide +kernel
theorem dX9_step_145 : decode cX9_step 145 = .ok (.goto 4, 3) := by decide +kernel
theorem dX9_step_148 : decode cX9_step 148 = .ok (.lconst 0, 1) := by decide +kernel
theorem dX9_step_149 : decode cX9_step 149 = .ok (.lor, 1) := by decide +kernel
theorem dX9_step_150 : decode cX9_step 150 = .ok (.lstore 4, 2) := by decide +kernel
theorem dX9_step_152 : decode cX9_step 152 = .ok (.iinc 7 1, 3) := by decide +kernel
theorem dX9_step_155 : decode cX9_step 155 = .ok (.goto (-129), 3) := by decide +kernel
theorem dX9_step_158 : decode cX9_step 158 = .ok (.iconst 0, 1) := by decide +kernel
theorem dX9_step_159 : decode cX9_step 159 = .ok (.istore 7, 2) := by decide +kernel
theorem dX9_step_161 : decode cX9_step 161 = .ok (.iload 7, 2) := by decide +kernel
theorem dX9_step_163 : decode cX9_step 163 = .ok (.bipush 49, 2) := by decide +kernel
theorem dX9_step_165 : decode cX9_step 165 = .ok (.if_icmp .ge 45, 3) := by decide +kernel
theorem dX9_step_168 : decode cX9_step 168 = .ok (.lload 4, 2) := by decide +kernel
theorem dX9_step_170 : decode cX9_step 170 = .ok (.iload 7, 2) := by decide +kernel
theorem dX9_step_172 : decode cX9_step 172 = .ok (.lshr, 1) := by decide +kernel
theorem dX9_step_173 : decode cX9_step 173 = .ok (.lconst 1, 1) := by decide +kernel
theorem dX9_step_174 : decode cX9_step 174 = .ok (.land, 1) := by decide +kernel
theorem dX9_step_175 : decode cX9_step 175 = .ok (.lconst 1, 1) := by decide +kernel
theorem dX9_step_176 : decode cX9_step 176 = .ok (.lcmp, 1) := by decide +kernel
theorem dX9_step_177 : decode cX9_step 177 = .ok (.ifCond .ne 27, 3) := by decide +kernel
theorem dX9_step_180 : decode cX9_step 180 = .ok (.aload_n 0, 1) := by decide +kernel
theorem dX9_step_181 : decode cX9_step 181 = .ok (.bipush 58, 2) := by decide +kernel
theorem dX9_step_183 : decode cX9_step 183 = .ok (.aload_n 0, 1) := by decide +kernel
theorem dX9_step_184 : decode cX9_step 184 = .ok (.iload 7, 2) := by decide +kernel
theorem dX9_step_186 : decode cX9_step 186 = .ok (.iaload, 1) := by decide +kernel
theorem dX9_step_187 : decode cX9_step 187 = .ok (.invokestatic 72, 3) := by decide +kernel
theorem dX9_step_190 : decode cX9_step 190 = .ok (.iadd, 1) := by decide +kernel
theorem dX9_step_191 : decode cX9_step 191 = .ok (.dup2, 1) := by decide +kernel
theorem dX9_step_192 : decode cX9_step 192 = .ok (.iaload, 1) := by decide +kernel
theorem dX9_step_193 : decode cX9_step 193 = .ok (.iconst 1, 1) := by decide +kernel
theorem dX9_step_194 : decode cX9_step 194 = .ok (.iadd, 1) := by decide +kernel
theorem dX9_step_195 : decode cX9_step 195 = .ok (.iastore, 1) := by decide +kernel
theorem dX9_step_196 : decode cX9_step 196 = .ok (.aload_n 0, 1) := by decide +kernel
theorem dX9_step_197 : decode cX9_step 197 = .ok (.iload 7, 2) := by decide +kernel
theorem dX9_step_199 : decode cX9_step 199 = .ok (.iconst 0, 1) := by decide +kernel
theorem dX9_step_200 : decode cX9_step 200 = .ok (.iastore, 1) := by decide +kernel
theorem dX9_step_201 : decode cX9_step 201 = .ok (.iinc 6 1, 3) := by decide +kernel
theorem dX9_step_204 : decode cX9_step 204 = .ok (.iinc 7 1, 3) := by decide +kernel
theorem dX9_step_207 : decode cX9_step 207 = .ok (.goto (-46), 3) := by decide +kernel
theorem dX9_step_210 : decode cX9_step 210 = .ok (.iload 6, 2) := by decide +kernel
theorem dX9_step_212 : decode cX9_step 212 = .ok (.ireturn, 1) := by decide +kernel
theorem dX9_wonBy_0 : decode cX9_wonBy 0 = .ok (.aload_n 0, 1) := by decide +kernel
theorem dX9_wonBy_1 : decode cX9_wonBy 1 = .ok (.invokestatic 98, 3) := by decide +kernel
theorem dX9_wonBy_4 : decode cX9_wonBy 4 = .ok (.istore_n 2, 1) := by decide +kernel
theorem dX9_wonBy_5 : decode cX9_wonBy 5 = .ok (.iload_n 2, 1) := by decide +kernel
theorem dX9_wonBy_6 : decode cX9_wonBy 6 = .ok (.iconst (-1), 1) := by decide +kernel
theorem dX9_wonBy_7 : decode cX9_wonBy 7 = .ok (.if_icmp .ne 5, 3) := by decide +kernel
theorem dX9_wonBy_10 : decode cX9_wonBy 10 = .ok (.iconst 0, 1) := by decide +kernel
theorem dX9_wonBy_11 : decode cX9_wonBy 11 = .ok (.ireturn, 1) := by decide +kernel
theorem dX9_wonBy_12 : decode cX9_wonBy 12 = .ok (.iload_n 2, 1) := by decide +kernel
theorem dX9_wonBy_13 : decode cX9_wonBy 13 = .ok (.invokestatic 68, 3) := by decide +kernel
theorem dX9_wonBy_16 : decode cX9_wonBy 16 = .ok (.ifCond .eq 7, 3) := by decide +kernel
theorem dX9_wonBy_19 : decode cX9_wonBy 19 = .ok (.iconst 1, 1) := by decide +kernel
theorem dX9_wonBy_20 : decode cX9_wonBy 20 = .ok (.goto 18, 3) := by decide +kernel
theorem dX9_wonBy_23 : decode cX9_wonBy 23 = .ok (.aload_n 0, 1) := by decide +kernel
theorem dX9_wonBy_24 : decode cX9_wonBy 24 = .ok (.iconst 1, 1) := by decide +kernel
theorem dX9_wonBy_25 : decode cX9_wonBy 25 = .ok (.iload_n 1, 1) := by decide +kernel
theorem dX9_wonBy_26 : decode cX9_wonBy 26 = .ok (.isub, 1) := by decide +kernel
theorem dX9_wonBy_27 : decode cX9_wonBy 27 = .ok (.invokestatic 101, 3) := by decide +kernel
theorem dX9_wonBy_30 : decode cX9_wonBy 30 = .ok (.ifCond .ne 7, 3) := by decide +kernel
theorem dX9_wonBy_33 : decode cX9_wonBy 33 = .ok (.iload_n 1, 1) := by decide +kernel
theorem dX9_wonBy_34 : decode cX9_wonBy 34 = .ok (.goto 4, 3) := by decide +kernel
theorem dX9_wonBy_37 : decode cX9_wonBy 37 = .ok (.iconst (-1), 1) := by decide +kernel
theorem dX9_wonBy_38 : decode cX9_wonBy 38 = .ok (.ireturn, 1) := by decide +kernel
theorem dX9_code_0 : decode cX9_code 0 = .ok (.lconst 0, 1) := by decide +kernel
theorem dX9_code_1 : decode cX9_code 1 = .ok (.lstore_n 3, 1) := by decide +kernel
theorem dX9_code_2 : decode cX9_code 2 = .ok (.iload_n 1, 1) := by decide +kernel
theorem dX9_code_3 : decode cX9_code 3 = .ok (.istore 5, 2) := by decide +kernel
theorem dX9_code_5 : decode cX9_code 5 = .ok (.iload 5, 2) := by decide +kernel
theorem dX9_code_7 : decode cX9_code 7 = .ok (.iload_n 2, 1) := by decide +kernel
theorem dX9_code_8 : decode cX9_code 8 = .ok (.if_icmp .ge 19, 3) := by decide +kernel
theorem dX9_code_11 : decode cX9_code 11 = .ok (.lload_n 3, 1) := by decide +kernel
theorem dX9_code_12 : decode cX9_code 12 = .ok (.iconst 2, 1) := by decide +kernel
theorem dX9_code_13 : decode cX9_code 13 = .ok (.lshl, 1) := by decide +kernel
theorem dX9_code_14 : decode cX9_code 14 = .ok (.aload_n 0, 1) := by decide +kernel
theorem dX9_code_15 : decode cX9_code 15 = .ok (.iload 5, 2) := by decide +kernel
theorem dX9_code_17 : decode cX9_code 17 = .ok (.iaload, 1) := by decide +kernel
theorem dX9_code_18 : decode cX9_code 18 = .ok (.i2l, 1) := by decide +kernel
theorem dX9_code_19 : decode cX9_code 19 = .ok (.lor, 1) := by decide +kernel
theorem dX9_code_20 : decode cX9_code 20 = .ok (.lstore_n 3, 1) := by decide +kernel
theorem dX9_code_21 : decode cX9_code 21 = .ok (.iinc 5 1, 3) := by decide +kernel
theorem dX9_code_24 : decode cX9_code 24 = .ok (.goto (-19), 3) := by decide +kernel
theorem dX9_code_27 : decode cX9_code 27 = .ok (.lload_n 3, 1) := by decide +kernel
theorem dX9_code_28 : decode cX9_code 28 = .ok (.lreturn, 1) := by decide +kernel
theorem dX9_mark_0 : decode cX9_mark 0 = .ok (.iload_n 1, 1) := by decide +kernel
theorem dX9_mark_1 : decode cX9_mark 1 = .ok (.istore_n 2, 1) := by decide +kernel
theorem dX9_mark_2 : decode cX9_mark 2 = .ok (.iload_n 2, 1) := by decide +kernel
theorem dX9_mark_3 : decode cX9_mark 3 = .ok (.iconst (-1), 1) := by decide +kernel
theorem dX9_mark_4 : decode cX9_mark 4 = .ok (.if_icmp .eq 30, 3) := by decide +kernel
theorem dX9_mark_7 : decode cX9_mark 7 = .ok (.aload_n 0, 1) := by decide +kernel
theorem dX9_mark_8 : decode cX9_mark 8 = .ok (.getfield 42, 3) := by decide +kernel
theorem dX9_mark_11 : decode cX9_mark 11 = .ok (.iload_n 2, 1) := by decide +kernel
theorem dX9_mark_12 : decode cX9_mark 12 = .ok (.iaload, 1) := by decide +kernel
theorem dX9_mark_13 : decode cX9_mark 13 = .ok (.iconst (-1), 1) := by decide +kernel
theorem dX9_mark_14 : decode cX9_mark 14 = .ok (.if_icmp .ne 20, 3) := by decide +kernel
theorem dX9_mark_17 : decode cX9_mark 17 = .ok (.aload_n 0, 1) := by decide +kernel
theorem dX9_mark_18 : decode cX9_mark 18 = .ok (.getfield 42, 3) := by decide +kernel
theorem dX9_mark_21 : decode cX9_mark 21 = .ok (.iload_n 2, 1) := by decide +kernel
theorem dX9_mark_22 : decode cX9_mark 22 = .ok (.iconst 0, 1) := by decide +kernel
theorem dX9_mark_23 : decode cX9_mark 23 = .ok (.iastore, 1) := by decide +kernel
theorem dX9_mark_24 : decode cX9_mark 24 = .ok (.aload_n 0, 1) := by decide +kernel
theorem dX9_mark_25 : decode cX9_mark 25 = .ok (.getfield 39, 3) := by decide +kernel
theorem dX9_mark_28 : decode cX9_mark 28 = .ok (.iload_n 2, 1) := by decide +kernel
theorem dX9_mark_29 : decode cX9_mark 29 = .ok (.iaload, 1) := by decide +kernel
theorem dX9_mark_30 : decode cX9_mark 30 = .ok (.istore_n 2, 1) := by decide +kernel
theorem dX9_mark_31 : decode cX9_mark 31 = .ok (.goto (-29), 3) := by decide +kernel
theorem dX9_mark_34 : decode cX9_mark 34 = .ok (.return_, 1) := by decide +kernel
theorem dX9_tidy_0 : decode cX9_tidy 0 = .ok (.iconst 0, 1) := by decide +kernel
theorem dX9_tidy_1 : decode cX9_tidy 1 = .ok (.istore_n 2, 1) := by decide +kernel
theorem dX9_tidy_2 : decode cX9_tidy 2 = .ok (.iload_n 2, 1) := by decide +kernel
theorem dX9_tidy_3 : decode cX9_tidy 3 = .ok (.aload_n 0, 1) := by decide +kernel
theorem dX9_tidy_4 : decode cX9_tidy 4 = .ok (.getfield 104, 3) := by decide +kernel
theorem dX9_tidy_7 : decode cX9_tidy 7 = .ok (.if_icmp .ge 16, 3) := by decide +kernel
theorem dX9_tidy_10 : decode cX9_tidy 10 = .ok (.aload_n 0, 1) := by decide +kernel
theorem dX9_tidy_11 : decode cX9_tidy 11 = .ok (.getfield 42, 3) := by decide +kernel
theorem dX9_tidy_14 : decode cX9_tidy 14 = .ok (.iload_n 2, 1) := by decide +kernel
theorem dX9_tidy_15 : decode cX9_tidy 15 = .ok (.iconst (-1), 1) := by decide +kernel
theorem dX9_tidy_16 : decode cX9_tidy 16 = .ok (.iastore, 1) := by decide +kernel
theorem dX9_tidy_17 : decode cX9_tidy 17 = .ok (.iinc 2 1, 3) := by decide +kernel
theorem dX9_tidy_20 : decode cX9_tidy 20 = .ok (.goto (-18), 3) := by decide +kernel
theorem dX9_tidy_23 : decode cX9_tidy 23 = .ok (.aload_n 0, 1) := by decide +kernel
theorem dX9_tidy_24 : decode cX9_tidy 24 = .ok (.aload_n 1, 1) := by decide +kernel
theorem dX9_tidy_25 : decode cX9_tidy 25 = .ok (.bipush 60, 2) := by decide +kernel
theorem dX9_tidy_27 : decode cX9_tidy 27 = .ok (.iaload, 1) := by decide +kernel
theorem dX9_tidy_28 : decode cX9_tidy 28 = .ok (.invokevirtual 107, 3) := by decide +kernel
theorem dX9_tidy_31 : decode cX9_tidy 31 = .ok (.aload_n 0, 1) := by decide +kernel
theorem dX9_tidy_32 : decode cX9_tidy 32 = .ok (.aload_n 0, 1) := by decide +kernel
theorem dX9_tidy_33 : decode cX9_tidy 33 = .ok (.getfield 7, 3) := by decide +kernel
theorem dX9_tidy_36 : decode cX9_tidy 36 = .ok (.bipush 60, 2) := by decide +kernel
theorem dX9_tidy_38 : decode cX9_tidy 38 = .ok (.iaload, 1) := by decide +kernel
theorem dX9_tidy_39 : decode cX9_tidy 39 = .ok (.invokevirtual 107, 3) := by decide +kernel
theorem dX9_tidy_42 : decode cX9_tidy 42 = .ok (.iconst 0, 1) := by decide +kernel
theorem dX9_tidy_43 : decode cX9_tidy 43 = .ok (.istore_n 2, 1) := by decide +kernel
theorem dX9_tidy_44 : decode cX9_tidy 44 = .ok (.iload_n 2, 1) := by decide +kernel
theorem dX9_tidy_45 : decode cX9_tidy 45 = .ok (.aload_n 0, 1) := by decide +kernel
theorem dX9_tidy_46 : decode cX9_tidy 46 = .ok (.getfield 111, 3) := by decide +kernel
theorem dX9_tidy_49 : decode cX9_tidy 49 = .ok (.if_icmp .ge 25, 3) := by decide +kernel
theorem dX9_tidy_52 : decode cX9_tidy 52 = .ok (.aload_n 0, 1) := by decide +kernel
theorem dX9_tidy_53 : decode cX9_tidy 53 = .ok (.aload_n 0, 1) := by decide +kernel
theorem dX9_tidy_54 : decode cX9_tidy 54 = .ok (.getfield 22, 3) := by decide +kernel
theorem dX9_tidy_57 : decode cX9_tidy 57 = .ok (.bipush 61, 2) := by decide +kernel
theorem dX9_tidy_59 : decode cX9_tidy 59 = .ok (.iload_n 2, 1) := by decide +kernel
theorem dX9_tidy_60 : decode cX9_tidy 60 = .ok (.imul, 1) := by decide +kernel
theorem dX9_tidy_61 : decode cX9_tidy 61 = .ok (.bipush 60, 2) := by decide +kernel
theorem dX9_tidy_63 : decode cX9_tidy 63 = .ok (.iadd, 1) := by decide +kernel
theorem dX9_tidy_64 : decode cX9_tidy 64 = .ok (.iaload, 1) := by decide +kernel
theorem dX9_tidy_65 : decode cX9_tidy 65 = .ok (.invokevirtual 107, 3) := by decide +kernel
theorem dX9_tidy_68 : decode cX9_tidy 68 = .ok (.iinc 2 1, 3) := by decide +kernel
theorem dX9_tidy_71 : decode cX9_tidy 71 = .ok (.goto (-27), 3) := by decide +kernel
theorem dX9_tidy_74 : decode cX9_tidy 74 = .ok (.iconst 0, 1) := by decide +kernel
theorem dX9_tidy_75 : decode cX9_tidy 75 = .ok (.istore_n 2, 1) := by decide +kernel
theorem dX9_tidy_76 : decode cX9_tidy 76 = .ok (.iload_n 2, 1) := by decide +kernel
theorem dX9_tidy_77 : decode cX9_tidy 77 = .ok (.iconst 2, 1) := by decide +kernel
theorem dX9_tidy_78 : decode cX9_tidy 78 = .ok (.if_icmp .ge 38, 3) := by decide +kernel
theorem dX9_tidy_81 : decode cX9_tidy 81 = .ok (.aload_n 0, 1) := by decide +kernel
theorem dX9_tidy_82 : decode cX9_tidy 82 = .ok (.aload_n 0, 1) := by decide +kernel
theorem dX9_tidy_83 : decode cX9_tidy 83 = .ok (.getfield 28, 3) := by decide +kernel
theorem dX9_tidy_86 : decode cX9_tidy 86 = .ok (.iload_n 2, 1) := by decide +kernel
theorem dX9_tidy_87 : decode cX9_tidy 87 = .ok (.baload, 1) := by decide +kernel
theorem dX9_tidy_88 : decode cX9_tidy 88 = .ok (.ifCond .eq 18, 3) := by decide +kernel
theorem dX9_tidy_91 : decode cX9_tidy 91 = .ok (.aload_n 0, 1) := by decide +kernel
theorem dX9_tidy_92 : decode cX9_tidy 92 = .ok (.getfield 25, 3) := by decide +kernel
theorem dX9_tidy_95 : decode cX9_tidy 95 = .ok (.bipush 61, 2) := by decide +kernel
theorem dX9_tidy_97 : decode cX9_tidy 97 = .ok (.iload_n 2, 1) := by decide +kernel
theorem dX9_tidy_98 : decode cX9_tidy 98 = .ok (.imul, 1) := by decide +kernel
theorem dX9_tidy_99 : decode cX9_tidy 99 = .ok (.bipush 60, 2) := by decide +kernel
theorem dX9_tidy_101 : decode cX9_tidy 101 = .ok (.iadd, 1) := by decide +kernel
theorem dX9_tidy_102 : decode cX9_tidy 102 = .ok (.iaload, 1) := by decide +kernel
theorem dX9_tidy_103 : decode cX9_tidy 103 = .ok (.goto 4, 3) := by decide +kernel
theorem dX9_tidy_106 : decode cX9_tidy 106 = .ok (.iconst (-1), 1) := by decide +kernel
theorem dX9_tidy_107 : decode cX9_tidy 107 = .ok (.invokevirtual 107, 3) := by decide +kernel
theorem dX9_tidy_110 : decode cX9_tidy 110 = .ok (.iinc 2 1, 3) := by decide +kernel
theorem dX9_tidy_113 : decode cX9_tidy 113 = .ok (.goto (-37), 3) := by decide +kernel
theorem dX9_tidy_116 : decode cX9_tidy 116 = .ok (.iconst 0, 1) := by decide +kernel
theorem dX9_tidy_117 : decode cX9_tidy 117 = .ok (.istore_n 2, 1) := by decide +kernel
theorem dX9_tidy_118 : decode cX9_tidy 118 = .ok (.iconst 0, 1) := by decide +kernel
theorem dX9_tidy_119 : decode cX9_tidy 119 = .ok (.istore_n 3, 1) := by decide +kernel
theorem dX9_tidy_120 : decode cX9_tidy 120 = .ok (.iload_n 3, 1) := by decide +kernel
theorem dX9_tidy_121 : decode cX9_tidy 121 = .ok (.aload_n 0, 1) := by decide +kernel
theorem dX9_tidy_122 : decode cX9_tidy 122 = .ok (.getfield 104, 3) := by decide +kernel
theorem dX9_tidy_125 : decode cX9_tidy 125 = .ok (.if_icmp .ge 83, 3) := by decide +kernel
theorem dX9_tidy_128 : decode cX9_tidy 128 = .ok (.aload_n 0, 1) := by decide +kernel
theorem dX9_tidy_129 : decode cX9_tidy 129 = .ok (.getfield 42, 3) := by decide +kernel
theorem dX9_tidy_132 : decode cX9_tidy 132 = .ok (.iload_n 3, 1) := by decide +kernel
theorem dX9_tidy_133 : decode cX9_tidy 133 = .ok (.iaload, 1) := by decide +kernel
theorem dX9_tidy_134 : decode cX9_tidy 134 = .ok (.ifCond .ne 68, 3) := by decide +kernel
theorem dX9_tidy_137 : decode cX9_tidy 137 = .ok (.aload_n 0, 1) := by decide +kernel
theorem dX9_tidy_138 : decode cX9_tidy 138 = .ok (.getfield 42, 3) := by decide +kernel
theorem dX9_tidy_141 : decode cX9_tidy 141 = .ok (.iload_n 3, 1) := by decide +kernel
theorem dX9_tidy_142 : decode cX9_tidy 142 = .ok (.iload_n 2, 1) := by decide +kernel
theorem dX9_tidy_143 : decode cX9_tidy 143 = .ok (.iastore, 1) := by decide +kernel
theorem dX9_tidy_144 : decode cX9_tidy 144 = .ok (.aload_n 0, 1) := by decide +kernel
theorem dX9_tidy_145 : decode cX9_tidy 145 = .ok (.getfield 32, 3) := by decide +kernel
theorem dX9_tidy_148 : decode cX9_tidy 148 = .ok (.iload_n 2, 1) := by decide +kernel
theorem dX9_tidy_149 : decode cX9_tidy 149 = .ok (.aload_n 0, 1) := by decide +kernel
theorem dX9_tidy_150 : decode cX9_tidy 150 = .ok (.getfield 32, 3) := by decide +kernel
theorem dX9_tidy_153 : decode cX9_tidy 153 = .ok (.iload_n 3, 1) := by decide +kernel
theorem dX9_tidy_154 : decode cX9_tidy 154 = .ok (.laload, 1) := by decide +kernel
theorem dX9_tidy_155 : decode cX9_tidy 155 = .ok (.lastore, 1) := by decide +kernel
theorem dX9_tidy_156 : decode cX9_tidy 156 = .ok (.aload_n 0, 1) := by decide +kernel
theorem dX9_tidy_157 : decode cX9_tidy 157 = .ok (.getfield 36, 3) := by decide +kernel
theorem dX9_tidy_160 : decode cX9_tidy 160 = .ok (.iload_n 2, 1) := by decide +kernel
theorem dX9_tidy_161 : decode cX9_tidy 161 = .ok (.aload_n 0, 1) := by decide +kernel
theorem dX9_tidy_162 : decode cX9_tidy 162 = .ok (.getfield 36, 3) := by decide +kernel
theorem dX9_tidy_165 : decode cX9_tidy 165 = .ok (.iload_n 3, 1) := by decide +kernel
theorem dX9_tidy_166 : decode cX9_tidy 166 = .ok (.laload, 1) := by decide +kernel
theorem dX9_tidy_167 : decode cX9_tidy 167 = .ok (.lastore, 1) := by decide +kernel
theorem dX9_tidy_168 : decode cX9_tidy 168 = .ok (.aload_n 0, 1) := by decide +kernel
theorem dX9_tidy_169 : decode cX9_tidy 169 = .ok (.getfield 39, 3) := by decide +kernel
theorem dX9_tidy_172 : decode cX9_tidy 172 = .ok (.iload_n 2, 1) := by decide +kernel
theorem dX9_tidy_173 : decode cX9_tidy 173 = .ok (.aload_n 0, 1) := by decide +kernel
theorem dX9_tidy_174 : decode cX9_tidy 174 = .ok (.getfield 39, 3) := by decide +kernel
theorem dX9_tidy_177 : decode cX9_tidy 177 = .ok (.iload_n 3, 1) := by decide +kernel
theorem dX9_tidy_178 : decode cX9_tidy 178 = .ok (.iaload, 1) := by decide +kernel
theorem dX9_tidy_179 : decode cX9_tidy 179 = .ok (.iconst (-1), 1) := by decide +kernel
theorem dX9_tidy_180 : decode cX9_tidy 180 = .ok (.if_icmp .ne 7, 3) := by decide +kernel
theorem dX9_tidy_183 : decode cX9_tidy 183 = .ok (.iconst (-1), 1) := by decide +kernel
theorem dX9_tidy_184 : decode cX9_tidy 184 = .ok (.goto 14, 3) := by decide +kernel
theorem dX9_tidy_187 : decode cX9_tidy 187 = .ok (.aload_n 0, 1) := by decide +kernel
theorem dX9_tidy_188 : decode cX9_tidy 188 = .ok (.getfield 42, 3) := by decide +kernel
theorem dX9_tidy_191 : decode cX9_tidy 191 = .ok (.aload_n 0, 1) := by decide +kernel
theorem dX9_tidy_192 : decode cX9_tidy 192 = .ok (.getfield 39, 3) := by decide +kernel
theorem dX9_tidy_195 : decode cX9_tidy 195 = .ok (.iload_n 3, 1) := by decide +kernel
theorem dX9_tidy_196 : decode cX9_tidy 196 = .ok (.iaload, 1) := by decide +kernel
theorem dX9_tidy_197 : decode cX9_tidy 197 = .ok (.iaload, 1) := by decide +kernel
theorem dX9_tidy_198 : decode cX9_tidy 198 = .ok (.iastore, 1) := by decide +kernel
theorem dX9_tidy_199 : decode cX9_tidy 199 = .ok (.iinc 2 1, 3) := by decide +kernel
theorem dX9_tidy_202 : decode cX9_tidy 202 = .ok (.iinc 3 1, 3) := by decide +kernel
theorem dX9_tidy_205 : decode cX9_tidy 205 = .ok (.goto (-85), 3) := by decide +kernel
theorem dX9_tidy_208 : decode cX9_tidy 208 = .ok (.aload_n 0, 1) := by decide +kernel
theorem dX9_tidy_209 : decode cX9_tidy 209 = .ok (.iload_n 2, 1) := by decide +kernel
theorem dX9_tidy_210 : decode cX9_tidy 210 = .ok (.putfield 104, 3) := by decide +kernel
theorem dX9_tidy_213 : decode cX9_tidy 213 = .ok (.aload_n 1, 1) := by decide +kernel
theorem dX9_tidy_214 : decode cX9_tidy 214 = .ok (.bipush 60, 2) := by decide +kernel
theorem dX9_tidy_216 : decode cX9_tidy 216 = .ok (.iaload, 1) := by decide +kernel
theorem dX9_tidy_217 : decode cX9_tidy 217 = .ok (.iconst (-1), 1) := by decide +kernel
theorem dX9_tidy_218 : decode cX9_tidy 218 = .ok (.if_icmp .ne 7, 3) := by decide +kernel
theorem dX9_tidy_221 : decode cX9_tidy 221 = .ok (.iconst (-1), 1) := by decide +kernel
theorem dX9_tidy_222 : decode cX9_tidy 222 = .ok (.goto 12, 3) := by decide +kernel
theorem dX9_tidy_225 : decode cX9_tidy 225 = .ok (.aload_n 0, 1) := by decide +kernel
theorem dX9_tidy_226 : decode cX9_tidy 226 = .ok (.getfield 42, 3) := by decide +kernel
theorem dX9_tidy_229 : decode cX9_tidy 229 = .ok (.aload_n 1, 1) := by decide +kernel
theorem dX9_tidy_230 : decode cX9_tidy 230 = .ok (.bipush 60, 2) := by decide +kernel
theorem dX9_tidy_232 : decode cX9_tidy 232 = .ok (.iaload, 1) := by decide +kernel
theorem dX9_tidy_233 : decode cX9_tidy 233 = .ok (.iaload, 1) := by decide +kernel
theorem dX9_tidy_234 : decode cX9_tidy 234 = .ok (.istore_n 3, 1) := by decide +kernel
theorem dX9_tidy_235 : decode cX9_tidy 235 = .ok (.aload_n 0, 1) := by decide +kernel
theorem dX9_tidy_236 : decode cX9_tidy 236 = .ok (.getfield 7, 3) := by decide +kernel
theorem dX9_tidy_239 : decode cX9_tidy 239 = .ok (.bipush 60, 2) := by decide +kernel
theorem dX9_tidy_241 : decode cX9_tidy 241 = .ok (.aload_n 0, 1) := by decide +kernel
theorem dX9_tidy_242 : decode cX9_tidy 242 = .ok (.getfield 7, 3) := by decide +kernel
theorem dX9_tidy_245 : decode cX9_tidy 245 = .ok (.bipush 60, 2) := by decide +kernel
theorem dX9_tidy_247 : decode cX9_tidy 247 = .ok (.iaload, 1) := by decide +kernel
theorem dX9_tidy_248 : decode cX9_tidy 248 = .ok (.iconst (-1), 1) := by decide +kernel
theorem dX9_tidy_249 : decode cX9_tidy 249 = .ok (.if_icmp .ne 7, 3) := by decide +kernel
theorem dX9_tidy_252 : decode cX9_tidy 252 = .ok (.iconst (-1), 1) := by decide +kernel
theorem dX9_tidy_253 : decode cX9_tidy 253 = .ok (.goto 15, 3) := by decide +kernel
theorem dX9_tidy_256 : decode cX9_tidy 256 = .ok (.aload_n 0, 1) := by decide +kernel
theorem dX9_tidy_257 : decode cX9_tidy 257 = .ok (.getfield 42, 3) := by decide +kernel
theorem dX9_tidy_260 : decode cX9_tidy 260 = .ok (.aload_n 0, 1) := by decide +kernel
theorem dX9_tidy_261 : decode cX9_tidy 261 = .ok (.getfield 7, 3) := by decide +kernel
theorem dX9_tidy_264 : decode cX9_tidy 264 = .ok (.bipush 60, 2) := by decide +kernel
theorem dX9_tidy_266 : decode cX9_tidy 266 = .ok (.iaload, 1) := by decide +kernel
theorem dX9_tidy_267 : decode cX9_tidy 267 = .ok (.iaload, 1) := by decide +kernel
theorem dX9_tidy_268 : decode cX9_tidy 268 = .ok (.iastore, 1) := by decide +kernel
theorem dX9_tidy_269 : decode cX9_tidy 269 = .ok (.aload_n 1, 1) := by decide +kernel
theorem dX9_tidy_270 : decode cX9_tidy 270 = .ok (.bipush 60, 2) := by decide +kernel
theorem dX9_tidy_272 : decode cX9_tidy 272 = .ok (.iload_n 3, 1) := by decide +kernel
theorem dX9_tidy_273 : decode cX9_tidy 273 = .ok (.iastore, 1) := by decide +kernel
theorem dX9_tidy_274 : decode cX9_tidy 274 = .ok (.iconst 0, 1) := by decide +kernel
theorem dX9_tidy_275 : decode cX9_tidy 275 = .ok (.istore 4, 2) := by decide +kernel
theorem dX9_tidy_277 : decode cX9_tidy 277 = .ok (.iload 4, 2) := by decide +kernel
theorem dX9_tidy_279 : decode cX9_tidy 279 = .ok (.aload_n 0, 1) := by decide +kernel
theorem dX9_tidy_280 : decode cX9_tidy 280 = .ok (.getfield 111, 3) := by decide +kernel
theorem dX9_tidy_283 : decode cX9_tidy 283 = .ok (.if_icmp .ge 54, 3) := by decide +kernel
theorem dX9_tidy_286 : decode cX9_tidy 286 = .ok (.aload_n 0, 1) := by decide +kernel
theorem dX9_tidy_287 : decode cX9_tidy 287 = .ok (.getfield 22, 3) := by decide +kernel
theorem dX9_tidy_290 : decode cX9_tidy 290 = .ok (.bipush 61, 2) := by decide +kernel
theorem dX9_tidy_292 : decode cX9_tidy 292 = .ok (.iload 4, 2) := by decide +kernel
theorem dX9_tidy_294 : decode cX9_tidy 294 = .ok (.imul, 1) := by decide +kernel
theorem dX9_tidy_295 : decode cX9_tidy 295 = .ok (.bipush 60, 2) := by decide +kernel
theorem dX9_tidy_297 : decode cX9_tidy 297 = .ok (.iadd, 1) := by decide +kernel
theorem dX9_tidy_298 : decode cX9_tidy 298 = .ok (.iaload, 1) := by decide +kernel
theorem dX9_tidy_299 : decode cX9_tidy 299 = .ok (.istore 5, 2) := by decide +kernel
theorem dX9_tidy_301 : decode cX9_tidy 301 = .ok (.aload_n 0, 1) := by decide +kernel
theorem dX9_tidy_302 : decode cX9_tidy 302 = .ok (.getfield 22, 3) := by decide +kernel
theorem dX9_tidy_305 : decode cX9_tidy 305 = .ok (.bipush 61, 2) := by decide +kernel
theorem dX9_tidy_307 : decode cX9_tidy 307 = .ok (.iload 4, 2) := by decide +kernel
theorem dX9_tidy_309 : decode cX9_tidy 309 = .ok (.imul, 1) := by decide +kernel
theorem dX9_tidy_310 : decode cX9_tidy 310 = .ok (.bipush 60, 2) := by decide +kernel
theorem dX9_tidy_312 : decode cX9_tidy 312 = .ok (.iadd, 1) := by decide +kernel
theorem dX9_tidy_313 : decode cX9_tidy 313 = .ok (.iload 5, 2) := by decide +kernel
theorem dX9_tidy_315 : decode cX9_tidy 315 = .ok (.iconst (-1), 1) := by decide +kernel
theorem dX9_tidy_316 : decode cX9_tidy 316 = .ok (.if_icmp .ne 7, 3) := by decide +kernel
theorem dX9_tidy_319 : decode cX9_tidy 319 = .ok (.iconst (-1), 1) := by decide +kernel
theorem dX9_tidy_320 : decode cX9_tidy 320 = .ok (.goto 10, 3) := by decide +kernel
theorem dX9_tidy_323 : decode cX9_tidy 323 = .ok (.aload_n 0, 1) := by decide +kernel
theorem dX9_tidy_324 : decode cX9_tidy 324 = .ok (.getfield 42, 3) := by decide +kernel
theorem dX9_tidy_327 : decode cX9_tidy 327 = .ok (.iload 5, 2) := by decide +kernel
theorem dX9_tidy_329 : decode cX9_tidy 329 = .ok (.iaload, 1) := by decide +kernel
theorem dX9_tidy_330 : decode cX9_tidy 330 = .ok (.iastore, 1) := by decide +kernel
theorem dX9_tidy_331 : decode cX9_tidy 331 = .ok (.iinc 4 1, 3) := by decide +kernel
theorem dX9_tidy_334 : decode cX9_tidy 334 = .ok (.goto (-57), 3) := by decide +kernel
theorem dX9_tidy_337 : decode cX9_tidy 337 = .ok (.iconst 0, 1) := by decide +kernel
theorem dX9_tidy_338 : decode cX9_tidy 338 = .ok (.istore 4, 2) := by decide +kernel
theorem dX9_tidy_340 : decode cX9_tidy 340 = .ok (.iload 4, 2) := by decide +kernel
theorem dX9_tidy_342 : decode cX9_tidy 342 = .ok (.iconst 2, 1) := by decide +kernel
theorem dX9_tidy_343 : decode cX9_tidy 343 = .ok (.if_icmp .ge 64, 3) := by decide +kernel
theorem dX9_tidy_346 : decode cX9_tidy 346 = .ok (.aload_n 0, 1) := by decide +kernel
theorem dX9_tidy_347 : decode cX9_tidy 347 = .ok (.getfield 25, 3) := by decide +kernel
theorem dX9_tidy_350 : decode cX9_tidy 350 = .ok (.bipush 61, 2) := by decide +kernel
theorem dX9_tidy_352 : decode cX9_tidy 352 = .ok (.iload 4, 2) := by decide +kernel
theorem dX9_tidy_354 : decode cX9_tidy 354 = .ok (.imul, 1) := by decide +kernel
theorem dX9_tidy_355 : decode cX9_tidy 355 = .ok (.bipush 60, 2) := by decide +kernel
theorem dX9_tidy_357 : decode cX9_tidy 357 = .ok (.iadd, 1) := by decide +kernel
theorem dX9_tidy_358 : decode cX9_tidy 358 = .ok (.iaload, 1) := by decide +kernel
theorem dX9_tidy_359 : decode cX9_tidy 359 = .ok (.istore 5, 2) := by decide +kernel
theorem dX9_tidy_361 : decode cX9_tidy 361 = .ok (.aload_n 0, 1) := by decide +kernel
theorem dX9_tidy_362 : decode cX9_tidy 362 = .ok (.getfield 25, 3) := by decide +kernel
theorem dX9_tidy_365 : decode cX9_tidy 365 = .ok (.bipush 61, 2) := by decide +kernel
theorem dX9_tidy_367 : decode cX9_tidy 367 = .ok (.iload 4, 2) := by decide +kernel
theorem dX9_tidy_369 : decode cX9_tidy 369 = .ok (.imul, 1) := by decide +kernel
theorem dX9_tidy_370 : decode cX9_tidy 370 = .ok (.bipush 60, 2) := by decide +kernel
theorem dX9_tidy_372 : decode cX9_tidy 372 = .ok (.iadd, 1) := by decide +kernel
theorem dX9_tidy_373 : decode cX9_tidy 373 = .ok (.aload_n 0, 1) := by decide +kernel
theorem dX9_tidy_374 : decode cX9_tidy 374 = .ok (.getfield 28, 3) := by decide +kernel
theorem dX9_tidy_377 : decode cX9_tidy 377 = .ok (.iload 4, 2) := by decide +kernel
theorem dX9_tidy_379 : decode cX9_tidy 379 = .ok (.baload, 1) := by decide +kernel
theorem dX9_tidy_380 : decode cX9_tidy 380 = .ok (.ifCond .eq 9, 3) := by decide +kernel
theorem dX9_tidy_383 : decode cX9_tidy 383 = .ok (.iload 5, 2) := by decide +kernel
theorem dX9_tidy_385 : decode cX9_tidy 385 = .ok (.iconst (-1), 1) := by decide +kernel
theorem dX9_tidy_386 : decode cX9_tidy 386 = .ok (.if_icmp .ne 7, 3) := by decide +kernel
theorem dX9_tidy_389 : decode cX9_tidy 389 = .ok (.iconst (-1), 1) := by decide +kernel
theorem dX9_tidy_390 : decode cX9_tidy 390 = .ok (.goto 10, 3) := by decide +kernel
theorem dX9_tidy_393 : decode cX9_tidy 393 = .ok (.aload_n 0, 1) := by decide +kernel
theorem dX9_tidy_394 : decode cX9_tidy 394 = .ok (.getfield 42, 3) := by decide +kernel
theorem dX9_tidy_397 : decode cX9_tidy 397 = .ok (.iload 5, 2) := by decide +kernel
theorem dX9_tidy_399 : decode cX9_tidy 399 = .ok (.iaload, 1) := by decide +kernel
theorem dX9_tidy_400 : decode cX9_tidy 400 = .ok (.iastore, 1) := by decide +kernel
theorem dX9_tidy_401 : decode cX9_tidy 401 = .ok (.iinc 4 1, 3) := by decide +kernel
theorem dX9_tidy_404 : decode cX9_tidy 404 = .ok (.goto (-64), 3) := by decide +kernel
theorem dX9_tidy_407 : decode cX9_tidy 407 = .ok (.return_, 1) := by decide +kernel
theorem dX9_note_0 : decode cX9_note 0 = .ok (.aload_n 1, 1) := by decide +kernel
theorem dX9_note_1 : decode cX9_note 1 = .ok (.bipush 60, 2) := by decide +kernel
theorem dX9_note_3 : decode cX9_note 3 = .ok (.iload_n 2, 1) := by decide +kernel
theorem dX9_note_4 : decode cX9_note 4 = .ok (.iastore, 1) := by decide +kernel
theorem dX9_note_5 : decode cX9_note 5 = .ok (.aload_n 0, 1) := by decide +kernel
theorem dX9_note_6 : decode cX9_note 6 = .ok (.getfield 104, 3) := by decide +kernel
theorem dX9_note_9 : decode cX9_note 9 = .ok (.sipush 4096, 3) := by decide +kernel
theorem dX9_note_12 : decode cX9_note 12 = .ok (.if_icmp .ne 8, 3) := by decide +kernel
theorem dX9_note_15 : decode cX9_note 15 = .ok (.aload_n 0, 1) := by decide +kernel
theorem dX9_note_16 : decode cX9_note 16 = .ok (.aload_n 1, 1) := by decide +kernel
theorem dX9_note_17 : decode cX9_note 17 = .ok (.invokevirtual 114, 3) := by decide +kernel
theorem dX9_note_20 : decode cX9_note 20 = .ok (.aload_n 0, 1) := by decide +kernel
theorem dX9_note_21 : decode cX9_note 21 = .ok (.getfield 32, 3) := by decide +kernel
theorem dX9_note_24 : decode cX9_note 24 = .ok (.aload_n 0, 1) := by decide +kernel
theorem dX9_note_25 : decode cX9_note 25 = .ok (.getfield 104, 3) := by decide +kernel
theorem dX9_note_28 : decode cX9_note 28 = .ok (.aload_n 1, 1) := by decide +kernel
theorem dX9_note_29 : decode cX9_note 29 = .ok (.iconst 0, 1) := by decide +kernel
theorem dX9_note_30 : decode cX9_note 30 = .ok (.bipush 31, 2) := by decide +kernel
theorem dX9_note_32 : decode cX9_note 32 = .ok (.invokestatic 118, 3) := by decide +kernel
theorem dX9_note_35 : decode cX9_note 35 = .ok (.lastore, 1) := by decide +kernel
theorem dX9_note_36 : decode cX9_note 36 = .ok (.aload_n 0, 1) := by decide +kernel
theorem dX9_note_37 : decode cX9_note 37 = .ok (.getfield 36, 3) := by decide +kernel
theorem dX9_note_40 : decode cX9_note 40 = .ok (.aload_n 0, 1) := by decide +kernel
theorem dX9_note_41 : decode cX9_note 41 = .ok (.getfield 104, 3) := by decide +kernel
theorem dX9_note_44 : decode cX9_note 44 = .ok (.aload_n 1, 1) := by decide +kernel
theorem dX9_note_45 : decode cX9_note 45 = .ok (.bipush 31, 2) := by decide +kernel
theorem dX9_note_47 : decode cX9_note 47 = .ok (.bipush 49, 2) := by decide +kernel
theorem dX9_note_49 : decode cX9_note 49 = .ok (.invokestatic 118, 3) := by decide +kernel
theorem dX9_note_52 : decode cX9_note 52 = .ok (.iconst 1, 1) := by decide +kernel
theorem dX9_note_53 : decode cX9_note 53 = .ok (.lshl, 1) := by decide +kernel
theorem dX9_note_54 : decode cX9_note 54 = .ok (.aload_n 1, 1) := by decide +kernel
theorem dX9_note_55 : decode cX9_note 55 = .ok (.bipush 49, 2) := by decide +kernel
theorem dX9_note_57 : decode cX9_note 57 = .ok (.iaload, 1) := by decide +kernel
theorem dX9_note_58 : decode cX9_note 58 = .ok (.i2l, 1) := by decide +kernel
theorem dX9_note_59 : decode cX9_note 59 = .ok (.lor, 1) := by decide +kernel
theorem dX9_note_60 : decode cX9_note 60 = .ok (.lastore, 1) := by decide +kernel
theorem dX9_note_61 : decode cX9_note 61 = .ok (.aload_n 0, 1) := by decide +kernel
theorem dX9_note_62 : decode cX9_note 62 = .ok (.getfield 39, 3) := by decide +kernel
theorem dX9_note_65 : decode cX9_note 65 = .ok (.aload_n 0, 1) := by decide +kernel
theorem dX9_note_66 : decode cX9_note 66 = .ok (.getfield 104, 3) := by decide +kernel
theorem dX9_note_69 : decode cX9_note 69 = .ok (.aload_n 1, 1) := by decide +kernel
theorem dX9_note_70 : decode cX9_note 70 = .ok (.bipush 60, 2) := by decide +kernel
theorem dX9_note_72 : decode cX9_note 72 = .ok (.iaload, 1) := by decide +kernel
theorem dX9_note_73 : decode cX9_note 73 = .ok (.iastore, 1) := by decide +kernel
theorem dX9_note_74 : decode cX9_note 74 = .ok (.aload_n 1, 1) := by decide +kernel
theorem dX9_note_75 : decode cX9_note 75 = .ok (.bipush 60, 2) := by decide +kernel
theorem dX9_note_77 : decode cX9_note 77 = .ok (.aload_n 0, 1) := by decide +kernel
theorem dX9_note_78 : decode cX9_note 78 = .ok (.getfield 104, 3) := by decide +kernel
theorem dX9_note_81 : decode cX9_note 81 = .ok (.iastore, 1) := by decide +kernel
theorem dX9_note_82 : decode cX9_note 82 = .ok (.aload_n 0, 1) := by decide +kernel
theorem dX9_note_83 : decode cX9_note 83 = .ok (.dup, 1) := by decide +kernel
theorem dX9_note_84 : decode cX9_note 84 = .ok (.getfield 104, 3) := by decide +kernel
theorem dX9_note_87 : decode cX9_note 87 = .ok (.iconst 1, 1) := by decide +kernel
theorem dX9_note_88 : decode cX9_note 88 = .ok (.iadd, 1) := by decide +kernel
theorem dX9_note_89 : decode cX9_note 89 = .ok (.putfield 104, 3) := by decide +kernel
theorem dX9_note_92 : decode cX9_note 92 = .ok (.return_, 1) := by decide +kernel
theorem dX9_seen_0 : decode cX9_seen 0 = .ok (.iconst 0, 1) := by decide +kernel
theorem dX9_seen_1 : decode cX9_seen 1 = .ok (.istore_n 2, 1) := by decide +kernel
theorem dX9_seen_2 : decode cX9_seen 2 = .ok (.aload_n 1, 1) := by decide +kernel
theorem dX9_seen_3 : decode cX9_seen 3 = .ok (.bipush 60, 2) := by decide +kernel
theorem dX9_seen_5 : decode cX9_seen 5 = .ok (.iaload, 1) := by decide +kernel
theorem dX9_seen_6 : decode cX9_seen 6 = .ok (.istore_n 3, 1) := by decide +kernel
theorem dX9_seen_7 : decode cX9_seen 7 = .ok (.iload_n 3, 1) := by decide +kernel
theorem dX9_seen_8 : decode cX9_seen 8 = .ok (.istore 4, 2) := by decide +kernel
theorem dX9_seen_10 : decode cX9_seen 10 = .ok (.iload 4, 2) := by decide +kernel
theorem dX9_seen_12 : decode cX9_seen 12 = .ok (.iconst (-1), 1) := by decide +kernel
theorem dX9_seen_13 : decode cX9_seen 13 = .ok (.if_icmp .eq 57, 3) := by decide +kernel
theorem dX9_seen_16 : decode cX9_seen 16 = .ok (.iload_n 2, 1) := by decide +kernel
theorem dX9_seen_17 : decode cX9_seen 17 = .ok (.aload_n 0, 1) := by decide +kernel
theorem dX9_seen_18 : decode cX9_seen 18 = .ok (.getfield 32, 3) := by decide +kernel
theorem dX9_seen_21 : decode cX9_seen 21 = .ok (.iload 4, 2) := by decide +kernel
theorem dX9_seen_23 : decode cX9_seen 23 = .ok (.laload, 1) := by decide +kernel
theorem dX9_seen_24 : decode cX9_seen 24 = .ok (.aload_n 0, 1) := by decide +kernel
theorem dX9_seen_25 : decode cX9_seen 25 = .ok (.getfield 32, 3) := by decide +kernel
theorem dX9_seen_28 : decode cX9_seen 28 = .ok (.iload_n 3, 1) := by decide +kernel
theorem dX9_seen_29 : decode cX9_seen 29 = .ok (.laload, 1) := by decide +kernel
theorem dX9_seen_30 : decode cX9_seen 30 = .ok (.lcmp, 1) := by decide +kernel
theorem dX9_seen_31 : decode cX9_seen 31 = .ok (.ifCond .ne 24, 3) := by decide +kernel
theorem dX9_seen_34 : decode cX9_seen 34 = .ok (.aload_n 0, 1) := by decide +kernel
theorem dX9_seen_35 : decode cX9_seen 35 = .ok (.getfield 36, 3) := by decide +kernel
theorem dX9_seen_38 : decode cX9_seen 38 = .ok (.iload 4, 2) := by decide +kernel
theorem dX9_seen_40 : decode cX9_seen 40 = .ok (.laload, 1) := by decide +kernel
theorem dX9_seen_41 : decode cX9_seen 41 = .ok (.aload_n 0, 1) := by decide +kernel
theorem dX9_seen_42 : decode cX9_seen 42 = .ok (.getfield 36, 3) := by decide +kernel
theorem dX9_seen_45 : decode cX9_seen 45 = .ok (.iload_n 3, 1) := by decide +kernel
theorem dX9_seen_46 : decode cX9_seen 46 = .ok (.laload, 1) := by decide +kernel
theorem dX9_seen_47 : decode cX9_seen 47 = .ok (.lcmp, 1) := by decide +kernel
theorem dX9_seen_48 : decode cX9_seen 48 = .ok (.ifCond .ne 7, 3) := by decide +kernel
theorem dX9_seen_51 : decode cX9_seen 51 = .ok (.iconst 1, 1) := by decide +kernel
theorem dX9_seen_52 : decode cX9_seen 52 = .ok (.goto 4, 3) := by decide +kernel
theorem dX9_seen_55 : decode cX9_seen 55 = .ok (.iconst 0, 1) := by decide +kernel
theorem dX9_seen_56 : decode cX9_seen 56 = .ok (.iadd, 1) := by decide +kernel
theorem dX9_seen_57 : decode cX9_seen 57 = .ok (.istore_n 2, 1) := by decide +kernel
theorem dX9_seen_58 : decode cX9_seen 58 = .ok (.aload_n 0, 1) := by decide +kernel
theorem dX9_seen_59 : decode cX9_seen 59 = .ok (.getfield 39, 3) := by decide +kernel
theorem dX9_seen_62 : decode cX9_seen 62 = .ok (.iload 4, 2) := by decide +kernel
theorem dX9_seen_64 : decode cX9_seen 64 = .ok (.iaload, 1) := by decide +kernel
theorem dX9_seen_65 : decode cX9_seen 65 = .ok (.istore 4, 2) := by decide +kernel
theorem dX9_seen_67 : decode cX9_seen 67 = .ok (.goto (-57), 3) := by decide +kernel
theorem dX9_seen_70 : decode cX9_seen 70 = .ok (.iload_n 2, 1) := by decide +kernel
theorem dX9_seen_71 : decode cX9_seen 71 = .ok (.ireturn, 1) := by decide +kernel
theorem dX9_goStart_0 : decode cX9_goStart 0 = .ok (.aload_n 1, 1) := by decide +kernel
theorem dX9_goStart_1 : decode cX9_goStart 1 = .ok (.bipush 49, 2) := by decide +kernel
theorem dX9_goStart_3 : decode cX9_goStart 3 = .ok (.iload_n 2, 1) := by decide +kernel
theorem dX9_goStart_4 : decode cX9_goStart 4 = .ok (.iastore, 1) := by decide +kernel
theorem dX9_goStart_5 : decode cX9_goStart 5 = .ok (.aload_n 1, 1) := by decide +kernel
theorem dX9_goStart_6 : decode cX9_goStart 6 = .ok (.bipush 50, 2) := by decide +kernel
theorem dX9_goStart_8 : decode cX9_goStart 8 = .ok (.iconst 1, 1) := by decide +kernel
theorem dX9_goStart_9 : decode cX9_goStart 9 = .ok (.iastore, 1) := by decide +kernel
theorem dX9_goStart_10 : decode cX9_goStart 10 = .ok (.aload_n 1, 1) := by decide +kernel
theorem dX9_goStart_11 : decode cX9_goStart 11 = .ok (.bipush 51, 2) := by decide +kernel
theorem dX9_goStart_13 : decode cX9_goStart 13 = .ok (.iconst 1, 1) := by decide +kernel
theorem dX9_goStart_14 : decode cX9_goStart 14 = .ok (.iastore, 1) := by decide +kernel
theorem dX9_goStart_15 : decode cX9_goStart 15 = .ok (.aload_n 1, 1) := by decide +kernel
theorem dX9_goStart_16 : decode cX9_goStart 16 = .ok (.bipush 53, 2) := by decide +kernel
theorem dX9_goStart_18 : decode cX9_goStart 18 = .ok (.iconst 0, 1) := by decide +kernel
theorem dX9_goStart_19 : decode cX9_goStart 19 = .ok (.iastore, 1) := by decide +kernel
theorem dX9_goStart_20 : decode cX9_goStart 20 = .ok (.aload_n 0, 1) := by decide +kernel
theorem dX9_goStart_21 : decode cX9_goStart 21 = .ok (.aload_n 1, 1) := by decide +kernel
theorem dX9_goStart_22 : decode cX9_goStart 22 = .ok (.iconst (-1), 1) := by decide +kernel
theorem dX9_goStart_23 : decode cX9_goStart 23 = .ok (.invokevirtual 122, 3) := by decide +kernel
theorem dX9_goStart_26 : decode cX9_goStart 26 = .ok (.aload_n 1, 1) := by decide +kernel
theorem dX9_goStart_27 : decode cX9_goStart 27 = .ok (.iload_n 2, 1) := by decide +kernel
theorem dX9_goStart_28 : decode cX9_goStart 28 = .ok (.invokestatic 101, 3) := by decide +kernel
theorem dX9_goStart_31 : decode cX9_goStart 31 = .ok (.ireturn, 1) := by decide +kernel
theorem dX9_piecesIn_0 : decode cX9_piecesIn 0 = .ok (.iconst 0, 1) := by decide +kernel
theorem dX9_piecesIn_1 : decode cX9_piecesIn 1 = .ok (.istore_n 1, 1) := by decide +kernel
theorem dX9_piecesIn_2 : decode cX9_piecesIn 2 = .ok (.iconst 0, 1) := by decide +kernel
theorem dX9_piecesIn_3 : decode cX9_piecesIn 3 = .ok (.istore_n 2, 1) := by decide +kernel
theorem dX9_piecesIn_4 : decode cX9_piecesIn 4 = .ok (.iload_n 2, 1) := by decide +kernel
theorem dX9_piecesIn_5 : decode cX9_piecesIn 5 = .ok (.bipush 49, 2) := by decide +kernel
theorem dX9_piecesIn_7 : decode cX9_piecesIn 7 = .ok (.if_icmp .ge 23, 3) := by decide +kernel
theorem dX9_piecesIn_10 : decode cX9_piecesIn 10 = .ok (.iload_n 1, 1) := by decide +kernel
theorem dX9_piecesIn_11 : decode cX9_piecesIn 11 = .ok (.aload_n 0, 1) := by decide +kernel
theorem dX9_piecesIn_12 : decode cX9_piecesIn 12 = .ok (.iload_n 2, 1) := by decide +kernel
theorem dX9_piecesIn_13 : decode cX9_piecesIn 13 = .ok (.iaload, 1) := by decide +kernel
theorem dX9_piecesIn_14 : decode cX9_piecesIn 14 = .ok (.ifCond .le 7, 3) := by decide +kernel
theorem dX9_piecesIn_17 : decode cX9_piecesIn 17 = .ok (.iconst 1, 1) := by decide +kernel
theorem dX9_piecesIn_18 : decode cX9_piecesIn 18 = .ok (.goto 4, 3) := by decide +kernel
theorem dX9_piecesIn_21 : decode cX9_piecesIn 21 = .ok (.iconst 0, 1) := by decide +kernel
theorem dX9_piecesIn_22 : decode cX9_piecesIn 22 = .ok (.iadd, 1) := by decide +kernel
theorem dX9_piecesIn_23 : decode cX9_piecesIn 23 = .ok (.istore_n 1, 1) := by decide +kernel
theorem dX9_piecesIn_24 : decode cX9_piecesIn 24 = .ok (.iinc 2 1, 3) := by decide +kernel
theorem dX9_piecesIn_27 : decode cX9_piecesIn 27 = .ok (.goto (-23), 3) := by decide +kernel
theorem dX9_piecesIn_30 : decode cX9_piecesIn 30 = .ok (.iload_n 1, 1) := by decide +kernel
theorem dX9_piecesIn_31 : decode cX9_piecesIn 31 = .ok (.ireturn, 1) := by decide +kernel
theorem dX9_goSetUp_0 : decode cX9_goSetUp 0 = .ok (.iconst 0, 1) := by decide +kernel
theorem dX9_goSetUp_1 : decode cX9_goSetUp 1 = .ok (.istore_n 2, 1) := by decide +kernel
theorem dX9_goSetUp_2 : decode cX9_goSetUp 2 = .ok (.iload_n 2, 1) := by decide +kernel
theorem dX9_goSetUp_3 : decode cX9_goSetUp 3 = .ok (.bipush 49, 2) := by decide +kernel
theorem dX9_goSetUp_5 : decode cX9_goSetUp 5 = .ok (.if_icmp .ge 13, 3) := by decide +kernel
theorem dX9_goSetUp_8 : decode cX9_goSetUp 8 = .ok (.aload_n 1, 1) := by decide +kernel
theorem dX9_goSetUp_9 : decode cX9_goSetUp 9 = .ok (.iload_n 2, 1) := by decide +kernel
theorem dX9_goSetUp_10 : decode cX9_goSetUp 10 = .ok (.iconst 0, 1) := by decide +kernel
theorem dX9_goSetUp_11 : decode cX9_goSetUp 11 = .ok (.iastore, 1) := by decide +kernel
theorem dX9_goSetUp_12 : decode cX9_goSetUp 12 = .ok (.iinc 2 1, 3) := by decide +kernel
theorem dX9_goSetUp_15 : decode cX9_goSetUp 15 = .ok (.goto (-13), 3) := by decide +kernel
theorem dX9_goSetUp_18 : decode cX9_goSetUp 18 = .ok (.aload_n 1, 1) := by decide +kernel
theorem dX9_goSetUp_19 : decode cX9_goSetUp 19 = .ok (.bipush 24, 2) := by decide +kernel
theorem dX9_goSetUp_21 : decode cX9_goSetUp 21 = .ok (.iconst 3, 1) := by decide +kernel
theorem dX9_goSetUp_22 : decode cX9_goSetUp 22 = .ok (.iastore, 1) := by decide +kernel
theorem dX9_goSetUp_23 : decode cX9_goSetUp 23 = .ok (.iconst 0, 1) := by decide +kernel
theorem dX9_goSetUp_24 : decode cX9_goSetUp 24 = .ok (.istore_n 2, 1) := by decide +kernel
theorem dX9_goSetUp_25 : decode cX9_goSetUp 25 = .ok (.iload_n 2, 1) := by decide +kernel
theorem dX9_goSetUp_26 : decode cX9_goSetUp 26 = .ok (.iconst 4, 1) := by decide +kernel
theorem dX9_goSetUp_27 : decode cX9_goSetUp 27 = .ok (.if_icmp .ge 41, 3) := by decide +kernel
theorem dX9_goSetUp_30 : decode cX9_goSetUp 30 = .ok (.bipush 24, 2) := by decide +kernel
theorem dX9_goSetUp_32 : decode cX9_goSetUp 32 = .ok (.iload_n 2, 1) := by decide +kernel
theorem dX9_goSetUp_33 : decode cX9_goSetUp 33 = .ok (.invokestatic 76, 3) := by decide +kernel
theorem dX9_goSetUp_36 : decode cX9_goSetUp 36 = .ok (.istore_n 3, 1) := by decide +kernel
theorem dX9_goSetUp_37 : decode cX9_goSetUp 37 = .ok (.iload_n 3, 1) := by decide +kernel
theorem dX9_goSetUp_38 : decode cX9_goSetUp 38 = .ok (.iload_n 2, 1) := by decide +kernel
theorem dX9_goSetUp_39 : decode cX9_goSetUp 39 = .ok (.invokestatic 76, 3) := by decide +kernel
theorem dX9_goSetUp_42 : decode cX9_goSetUp 42 = .ok (.istore 4, 2) := by decide +kernel
theorem dX9_goSetUp_44 : decode cX9_goSetUp 44 = .ok (.aload_n 1, 1) := by decide +kernel
theorem dX9_goSetUp_45 : decode cX9_goSetUp 45 = .ok (.iload_n 3, 1) := by decide +kernel
theorem dX9_goSetUp_46 : decode cX9_goSetUp 46 = .ok (.iconst 2, 1) := by decide +kernel
theorem dX9_goSetUp_47 : decode cX9_goSetUp 47 = .ok (.iastore, 1) := by decide +kernel
theorem dX9_goSetUp_48 : decode cX9_goSetUp 48 = .ok (.aload_n 1, 1) := by decide +kernel
theorem dX9_goSetUp_49 : decode cX9_goSetUp 49 = .ok (.iload 4, 2) := by decide +kernel
theorem dX9_goSetUp_51 : decode cX9_goSetUp 51 = .ok (.iconst 1, 1) := by decide +kernel
theorem dX9_goSetUp_52 : decode cX9_goSetUp 52 = .ok (.iastore, 1) := by decide +kernel
theorem dX9_goSetUp_53 : decode cX9_goSetUp 53 = .ok (.aload_n 1, 1) := by decide +kernel
theorem dX9_goSetUp_54 : decode cX9_goSetUp 54 = .ok (.iload 4, 2) := by decide +kernel
theorem dX9_goSetUp_56 : decode cX9_goSetUp 56 = .ok (.iload_n 2, 1) := by decide +kernel
theorem dX9_goSetUp_57 : decode cX9_goSetUp 57 = .ok (.invokestatic 76, 3) := by decide +kernel
theorem dX9_goSetUp_60 : decode cX9_goSetUp 60 = .ok (.iconst 1, 1) := by decide +kernel
theorem dX9_goSetUp_61 : decode cX9_goSetUp 61 = .ok (.iastore, 1) := by decide +kernel
theorem dX9_goSetUp_62 : decode cX9_goSetUp 62 = .ok (.iinc 2 1, 3) := by decide +kernel
theorem dX9_goSetUp_65 : decode cX9_goSetUp 65 = .ok (.goto (-40), 3) := by decide +kernel
theorem dX9_goSetUp_68 : decode cX9_goSetUp 68 = .ok (.aload_n 0, 1) := by decide +kernel
theorem dX9_goSetUp_69 : decode cX9_goSetUp 69 = .ok (.aload_n 1, 1) := by decide +kernel
theorem dX9_goSetUp_70 : decode cX9_goSetUp 70 = .ok (.iconst 0, 1) := by decide +kernel
theorem dX9_goSetUp_71 : decode cX9_goSetUp 71 = .ok (.invokevirtual 126, 3) := by decide +kernel
theorem dX9_goSetUp_74 : decode cX9_goSetUp 74 = .ok (.istore_n 2, 1) := by decide +kernel
theorem dX9_goSetUp_75 : decode cX9_goSetUp 75 = .ok (.aload_n 1, 1) := by decide +kernel
theorem dX9_goSetUp_76 : decode cX9_goSetUp 76 = .ok (.invokestatic 129, 3) := by decide +kernel
theorem dX9_goSetUp_79 : decode cX9_goSetUp 79 = .ok (.ireturn, 1) := by decide +kernel
theorem dX9_mayMove_0 : decode cX9_mayMove 0 = .ok (.aload_n 0, 1) := by decide +kernel
theorem dX9_mayMove_1 : decode cX9_mayMove 1 = .ok (.bipush 50, 2) := by decide +kernel
theorem dX9_mayMove_3 : decode cX9_mayMove 3 = .ok (.iaload, 1) := by decide +kernel
theorem dX9_mayMove_4 : decode cX9_mayMove 4 = .ok (.iconst 1, 1) := by decide +kernel
theorem dX9_mayMove_5 : decode cX9_mayMove 5 = .ok (.if_icmp .ne 29, 3) := by decide +kernel
theorem dX9_mayMove_8 : decode cX9_mayMove 8 = .ok (.aload_n 0, 1) := by decide +kernel
theorem dX9_mayMove_9 : decode cX9_mayMove 9 = .ok (.iload_n 1, 1) := by decide +kernel
theorem dX9_mayMove_10 : decode cX9_mayMove 10 = .ok (.iaload, 1) := by decide +kernel
theorem dX9_mayMove_11 : decode cX9_mayMove 11 = .ok (.invokestatic 72, 3) := by decide +kernel
theorem dX9_mayMove_14 : decode cX9_mayMove 14 = .ok (.aload_n 0, 1) := by decide +kernel
theorem dX9_mayMove_15 : decode cX9_mayMove 15 = .ok (.bipush 49, 2) := by decide +kernel
theorem dX9_mayMove_17 : decode cX9_mayMove 17 = .ok (.iaload, 1) := by decide +kernel
theorem dX9_mayMove_18 : decode cX9_mayMove 18 = .ok (.if_icmp .ne 16, 3) := by decide +kernel
theorem dX9_mayMove_21 : decode cX9_mayMove 21 = .ok (.aload_n 0, 1) := by decide +kernel
theorem dX9_mayMove_22 : decode cX9_mayMove 22 = .ok (.iload_n 1, 1) := by decide +kernel
theorem dX9_mayMove_23 : decode cX9_mayMove 23 = .ok (.iload_n 2, 1) := by decide +kernel
theorem dX9_mayMove_24 : decode cX9_mayMove 24 = .ok (.invokestatic 132, 3) := by decide +kernel
theorem dX9_mayMove_27 : decode cX9_mayMove 27 = .ok (.ifCond .ne 7, 3) := by decide +kernel
theorem dX9_mayMove_30 : decode cX9_mayMove 30 = .ok (.iconst 1, 1) := by decide +kernel
