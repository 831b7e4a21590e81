theorem dX8_init_0 : decode cX8_init 0 = .ok (.aload_n 0, 1) := by decide +kernel
theorem dX8_init_1 : decode cX8_init 1 = .ok (.invokespecial 3, 3) := by decide +kernel
theorem dX8_init_4 : decode cX8_init 4 = .ok (.aload_n 0, 1) := by decide +kernel
theorem dX8_init_5 : decode cX8_init 5 = .ok (.new 9, 3) := by decide +kernel
theorem dX8_init_8 : decode cX8_init 8 = .ok (.dup, 1) := by decide +kernel
theorem dX8_init_9 : decode cX8_init 9 = .ok (.invokespecial 11, 3) := by decide +kernel
theorem dX8_init_12 : decode cX8_init 12 = .ok (.putfield 12, 3) := by decide +kernel
theorem dX8_init_15 : decode cX8_init 15 = .ok (.aload_n 0, 1) := by decide +kernel
theorem dX8_init_16 : decode cX8_init 16 = .ok (.new 9, 3) := by decide +kernel
theorem dX8_init_19 : decode cX8_init 19 = .ok (.dup, 1) := by decide +kernel
theorem dX8_init_20 : decode cX8_init 20 = .ok (.invokespecial 11, 3) := by decide +kernel
theorem dX8_init_23 : decode cX8_init 23 = .ok (.putfield 16, 3) := by decide +kernel
theorem dX8_init_26 : decode cX8_init 26 = .ok (.aload_n 0, 1) := by decide +kernel
theorem dX8_init_27 : decode cX8_init 27 = .ok (.iconst 2, 1) := by decide +kernel
theorem dX8_init_28 : decode cX8_init 28 = .ok (.anewarray 9, 3) := by decide +kernel
theorem dX8_init_31 : decode cX8_init 31 = .ok (.putfield 19, 3) := by decide +kernel
theorem dX8_init_34 : decode cX8_init 34 = .ok (.iconst 0, 1) := by decide +kernel
theorem dX8_init_35 : decode cX8_init 35 = .ok (.istore_n 1, 1) := by decide +kernel
theorem dX8_init_36 : decode cX8_init 36 = .ok (.iload_n 1, 1) := by decide +kernel
theorem dX8_init_37 : decode cX8_init 37 = .ok (.iconst 2, 1) := by decide +kernel
theorem dX8_init_38 : decode cX8_init 38 = .ok (.if_icmp .ge 22, 3) := by decide +kernel
theorem dX8_init_41 : decode cX8_init 41 = .ok (.aload_n 0, 1) := by decide +kernel
theorem dX8_init_42 : decode cX8_init 42 = .ok (.getfield 19, 3) := by decide +kernel
theorem dX8_init_45 : decode cX8_init 45 = .ok (.iload_n 1, 1) := by decide +kernel
theorem dX8_init_46 : decode cX8_init 46 = .ok (.new 9, 3) := by decide +kernel
theorem dX8_init_49 : decode cX8_init 49 = .ok (.dup, 1) := by decide +kernel
theorem dX8_init_50 : decode cX8_init 50 = .ok (.invokespecial 11, 3) := by decide +kernel
theorem dX8_init_53 : decode cX8_init 53 = .ok (.aastore, 1) := by decide +kernel
theorem dX8_init_54 : decode cX8_init 54 = .ok (.iinc 1 1, 3) := by decide +kernel
theorem dX8_init_57 : decode cX8_init 57 = .ok (.goto (-21), 3) := by decide +kernel
theorem dX8_init_60 : decode cX8_init 60 = .ok (.aload_n 0, 1) := by decide +kernel
theorem dX8_init_61 : decode cX8_init 61 = .ok (.iconst 2, 1) := by decide +kernel
theorem dX8_init_62 : decode cX8_init 62 = .ok (.newarray .boolean, 2) := by decide +kernel
theorem dX8_init_64 : decode cX8_init 64 = .ok (.putfield 23, 3) := by decide +kernel
theorem dX8_init_67 : decode cX8_init 67 = .ok (.aload_n 0, 1) := by decide +kernel
theorem dX8_init_68 : decode cX8_init 68 = .ok (.new 27, 3) := by decide +kernel
theorem dX8_init_71 : decode cX8_init 71 = .ok (.dup, 1) := by decide +kernel
theorem dX8_init_72 : decode cX8_init 72 = .ok (.invokespecial 29, 3) := by decide +kernel
theorem dX8_init_75 : decode cX8_init 75 = .ok (.putfield 30, 3) := by decide +kernel
theorem dX8_init_78 : decode cX8_init 78 = .ok (.aload_n 0, 1) := by decide +kernel
theorem dX8_init_79 : decode cX8_init 79 = .ok (.new 34, 3) := by decide +kernel
theorem dX8_init_82 : decode cX8_init 82 = .ok (.dup, 1) := by decide +kernel
theorem dX8_init_83 : decode cX8_init 83 = .ok (.invokespecial 36, 3) := by decide +kernel
theorem dX8_init_86 : decode cX8_init 86 = .ok (.putfield 37, 3) := by decide +kernel
theorem dX8_init_89 : decode cX8_init 89 = .ok (.aload_n 0, 1) := by decide +kernel
theorem dX8_init_90 : decode cX8_init 90 = .ok (.new 41, 3) := by decide +kernel
theorem dX8_init_93 : decode cX8_init 93 = .ok (.dup, 1) := by decide +kernel
theorem dX8_init_94 : decode cX8_init 94 = .ok (.invokespecial 43, 3) := by decide +kernel
theorem dX8_init_97 : decode cX8_init 97 = .ok (.putfield 44, 3) := by decide +kernel
theorem dX8_init_100 : decode cX8_init 100 = .ok (.aload_n 0, 1) := by decide +kernel
theorem dX8_init_101 : decode cX8_init 101 = .ok (.new 48, 3) := by decide +kernel
theorem dX8_init_104 : decode cX8_init 104 = .ok (.dup, 1) := by decide +kernel
theorem dX8_init_105 : decode cX8_init 105 = .ok (.invokespecial 50, 3) := by decide +kernel
theorem dX8_init_108 : decode cX8_init 108 = .ok (.putfield 51, 3) := by decide +kernel
theorem dX8_init_111 : decode cX8_init 111 = .ok (.aload_n 0, 1) := by decide +kernel
theorem dX8_init_112 : decode cX8_init 112 = .ok (.new 55, 3) := by decide +kernel
theorem dX8_init_115 : decode cX8_init 115 = .ok (.dup, 1) := by decide +kernel
theorem dX8_init_116 : decode cX8_init 116 = .ok (.invokespecial 57, 3) := by decide +kernel
theorem dX8_init_119 : decode cX8_init 119 = .ok (.putfield 58, 3) := by decide +kernel
theorem dX8_init_122 : decode cX8_init 122 = .ok (.aload_n 0, 1) := by decide +kernel
theorem dX8_init_123 : decode cX8_init 123 = .ok (.getfield 12, 3) := by decide +kernel
theorem dX8_init_126 : decode cX8_init 126 = .ok (.invokevirtual 62, 3) := by decide +kernel
theorem dX8_init_129 : decode cX8_init 129 = .ok (.return_, 1) := by decide +kernel
theorem dX8_setUp_0 : decode cX8_setUp 0 = .ok (.aload_n 0, 1) := by decide +kernel
theorem dX8_setUp_1 : decode cX8_setUp 1 = .ok (.getfield 30, 3) := by decide +kernel
theorem dX8_setUp_4 : decode cX8_setUp 4 = .ok (.aload_n 0, 1) := by decide +kernel
theorem dX8_setUp_5 : decode cX8_setUp 5 = .ok (.getfield 12, 3) := by decide +kernel
theorem dX8_setUp_8 : decode cX8_setUp 8 = .ok (.invokevirtual 65, 3) := by decide +kernel
theorem dX8_setUp_11 : decode cX8_setUp 11 = .ok (.aload_n 0, 1) := by decide +kernel
theorem dX8_setUp_12 : decode cX8_setUp 12 = .ok (.getfield 12, 3) := by decide +kernel
theorem dX8_setUp_15 : decode cX8_setUp 15 = .ok (.invokevirtual 62, 3) := by decide +kernel
theorem dX8_setUp_18 : decode cX8_setUp 18 = .ok (.aload_n 0, 1) := by decide +kernel
theorem dX8_setUp_19 : decode cX8_setUp 19 = .ok (.getfield 12, 3) := by decide +kernel
theorem dX8_setUp_22 : decode cX8_setUp 22 = .ok (.getfield 69, 3) := by decide +kernel
theorem dX8_setUp_25 : decode cX8_setUp 25 = .ok (.invokevirtual 73, 3) := by decide +kernel
theorem dX8_setUp_28 : decode cX8_setUp 28 = .ok (.ireturn, 1) := by decide +kernel
theorem dX8_clearBoard_0 : decode cX8_clearBoard 0 = .ok (.aload_n 0, 1) := by decide +kernel
theorem dX8_clearBoard_1 : decode cX8_clearBoard 1 = .ok (.getfield 30, 3) := by decide +kernel
theorem dX8_clearBoard_4 : decode cX8_clearBoard 4 = .ok (.aload_n 0, 1) := by decide +kernel
theorem dX8_clearBoard_5 : decode cX8_clearBoard 5 = .ok (.getfield 12, 3) := by decide +kernel
theorem dX8_clearBoard_8 : decode cX8_clearBoard 8 = .ok (.invokevirtual 65, 3) := by decide +kernel
theorem dX8_clearBoard_11 : decode cX8_clearBoard 11 = .ok (.aload_n 0, 1) := by decide +kernel
theorem dX8_clearBoard_12 : decode cX8_clearBoard 12 = .ok (.getfield 12, 3) := by decide +kernel
theorem dX8_clearBoard_15 : decode cX8_clearBoard 15 = .ok (.getfield 69, 3) := by decide +kernel
theorem dX8_clearBoard_18 : decode cX8_clearBoard 18 = .ok (.invokevirtual 73, 3) := by decide +kernel
theorem dX8_clearBoard_21 : decode cX8_clearBoard 21 = .ok (.istore_n 1, 1) := by decide +kernel
theorem dX8_clearBoard_22 : decode cX8_clearBoard 22 = .ok (.aload_n 0, 1) := by decide +kernel
theorem dX8_clearBoard_23 : decode cX8_clearBoard 23 = .ok (.getfield 12, 3) := by decide +kernel
theorem dX8_clearBoard_26 : decode cX8_clearBoard 26 = .ok (.invokevirtual 79, 3) := by decide +kernel
theorem dX8_clearBoard_29 : decode cX8_clearBoard 29 = .ok (.iload_n 1, 1) := by decide +kernel
theorem dX8_clearBoard_30 : decode cX8_clearBoard 30 = .ok (.ireturn, 1) := by decide +kernel
theorem dX8_put_0 : decode cX8_put 0 = .ok (.iload_n 1, 1) := by decide +kernel
theorem dX8_put_1 : decode cX8_put 1 = .ok (.iload_n 2, 1) := by decide +kernel
theorem dX8_put_2 : decode cX8_put 2 = .ok (.invokestatic 82, 3) := by decide +kernel
theorem dX8_put_5 : decode cX8_put 5 = .ok (.iload_n 3, 1) := by decide +kernel
theorem dX8_put_6 : decode cX8_put 6 = .ok (.ifCond .lt 8, 3) := by decide +kernel
theorem dX8_put_9 : decode cX8_put 9 = .ok (.iload_n 3, 1) := by decide +kernel
theorem dX8_put_10 : decode cX8_put 10 = .ok (.iconst 3, 1) := by decide +kernel
theorem dX8_put_11 : decode cX8_put 11 = .ok (.if_icmp .le 13, 3) := by decide +kernel
theorem dX8_put_14 : decode cX8_put 14 = .ok (.new 86, 3) := by decide +kernel
theorem dX8_put_17 : decode cX8_put 17 = .ok (.dup, 1) := by decide +kernel
theorem dX8_put_18 : decode cX8_put 18 = .ok (.ldc 88, 2) := by decide +kernel
theorem dX8_put_20 : decode cX8_put 20 = .ok (.invokespecial 90, 3) := by decide +kernel
theorem dX8_put_23 : decode cX8_put 23 = .ok (.athrow, 1) := by decide +kernel
theorem dX8_put_24 : decode cX8_put 24 = .ok (.bipush 7, 2) := by decide +kernel
theorem dX8_put_26 : decode cX8_put 26 = .ok (.iload_n 1, 1) := by decide +kernel
theorem dX8_put_27 : decode cX8_put 27 = .ok (.imul, 1) := by decide +kernel
theorem dX8_put_28 : decode cX8_put 28 = .ok (.iload_n 2, 1) := by decide +kernel
theorem dX8_put_29 : decode cX8_put 29 = .ok (.iadd, 1) := by decide +kernel
theorem dX8_put_30 : decode cX8_put 30 = .ok (.istore 4, 2) := by decide +kernel
theorem dX8_put_32 : decode cX8_put 32 = .ok (.aload_n 0, 1) := by decide +kernel
theorem dX8_put_33 : decode cX8_put 33 = .ok (.getfield 12, 3) := by decide +kernel
theorem dX8_put_36 : decode cX8_put 36 = .ok (.getfield 93, 3) := by decide +kernel
theorem dX8_put_39 : decode cX8_put 39 = .ok (.ifCond .ne 19, 3) := by decide +kernel
theorem dX8_put_42 : decode cX8_put 42 = .ok (.aload_n 0, 1) := by decide +kernel
theorem dX8_put_43 : decode cX8_put 43 = .ok (.getfield 12, 3) := by decide +kernel
theorem dX8_put_46 : decode cX8_put 46 = .ok (.getfield 69, 3) := by decide +kernel
theorem dX8_put_49 : decode cX8_put 49 = .ok (.iload 4, 2) := by decide +kernel
theorem dX8_put_51 : decode cX8_put 51 = .ok (.iload_n 3, 1) := by decide +kernel
theorem dX8_put_52 : decode cX8_put 52 = .ok (.invokevirtual 97, 3) := by decide +kernel
theorem dX8_put_55 : decode cX8_put 55 = .ok (.ifCond .ne 13, 3) := by decide +kernel
theorem dX8_put_58 : decode cX8_put 58 = .ok (.new 101, 3) := by decide +kernel
theorem dX8_put_61 : decode cX8_put 61 = .ok (.dup, 1) := by decide +kernel
theorem dX8_put_62 : decode cX8_put 62 = .ok (.ldc 103, 2) := by decide +kernel
theorem dX8_put_64 : decode cX8_put 64 = .ok (.invokespecial 105, 3) := by decide +kernel
theorem dX8_put_67 : decode cX8_put 67 = .ok (.athrow, 1) := by decide +kernel
theorem dX8_put_68 : decode cX8_put 68 = .ok (.aload_n 0, 1) := by decide +kernel
theorem dX8_put_69 : decode cX8_put 69 = .ok (.getfield 30, 3) := by decide +kernel
theorem dX8_put_72 : decode cX8_put 72 = .ok (.aload_n 0, 1) := by decide +kernel
theorem dX8_put_73 : decode cX8_put 73 = .ok (.getfield 12, 3) := by decide +kernel
theorem dX8_put_76 : decode cX8_put 76 = .ok (.invokevirtual 65, 3) := by decide +kernel
theorem dX8_put_79 : decode cX8_put 79 = .ok (.aload_n 0, 1) := by decide +kernel
theorem dX8_put_80 : decode cX8_put 80 = .ok (.getfield 12, 3) := by decide +kernel
theorem dX8_put_83 : decode cX8_put 83 = .ok (.getfield 69, 3) := by decide +kernel
theorem dX8_put_86 : decode cX8_put 86 = .ok (.iload 4, 2) := by decide +kernel
theorem dX8_put_88 : decode cX8_put 88 = .ok (.invokevirtual 106, 3) := by decide +kernel
theorem dX8_put_91 : decode cX8_put 91 = .ok (.istore 5, 2) := by decide +kernel
theorem dX8_put_93 : decode cX8_put 93 = .ok (.aload_n 0, 1) := by decide +kernel
theorem dX8_put_94 : decode cX8_put 94 = .ok (.getfield 12, 3) := by decide +kernel
theorem dX8_put_97 : decode cX8_put 97 = .ok (.getfield 69, 3) := by decide +kernel
theorem dX8_put_100 : decode cX8_put 100 = .ok (.iload 4, 2) := by decide +kernel
theorem dX8_put_102 : decode cX8_put 102 = .ok (.iload_n 3, 1) := by decide +kernel
theorem dX8_put_103 : decode cX8_put 103 = .ok (.invokevirtual 110, 3) := by decide +kernel
theorem dX8_put_106 : decode cX8_put 106 = .ok (.iload 5, 2) := by decide +kernel
theorem dX8_put_108 : decode cX8_put 108 = .ok (.ireturn, 1) := by decide +kernel
theorem dX8_start_0 : decode cX8_start 0 = .ok (.iload_n 1, 1) := by decide +kernel
theorem dX8_start_1 : decode cX8_start 1 = .ok (.invokestatic 113, 3) := by decide +kernel
theorem dX8_start_4 : decode cX8_start 4 = .ok (.aload_n 0, 1) := by decide +kernel
theorem dX8_start_5 : decode cX8_start 5 = .ok (.getfield 12, 3) := by decide +kernel
theorem dX8_start_8 : decode cX8_start 8 = .ok (.getfield 69, 3) := by decide +kernel
theorem dX8_start_11 : decode cX8_start 11 = .ok (.getfield 117, 3) := by decide +kernel
theorem dX8_start_14 : decode cX8_start 14 = .ok (.istore_n 2, 1) := by decide +kernel
theorem dX8_start_15 : decode cX8_start 15 = .ok (.aload_n 0, 1) := by decide +kernel
theorem dX8_start_16 : decode cX8_start 16 = .ok (.getfield 12, 3) := by decide +kernel
theorem dX8_start_19 : decode cX8_start 19 = .ok (.getfield 93, 3) := by decide +kernel
theorem dX8_start_22 : decode cX8_start 22 = .ok (.ifCond .ne 14, 3) := by decide +kernel
theorem dX8_start_25 : decode cX8_start 25 = .ok (.iload_n 2, 1) := by decide +kernel
theorem dX8_start_26 : decode cX8_start 26 = .ok (.ifCond .lt 10, 3) := by decide +kernel
theorem dX8_start_29 : decode cX8_start 29 = .ok (.iload_n 2, 1) := by decide +kernel
theorem dX8_start_30 : decode cX8_start 30 = .ok (.invokestatic 120, 3) := by decide +kernel
theorem dX8_start_33 : decode cX8_start 33 = .ok (.ifCond .eq 13, 3) := by decide +kernel
theorem dX8_start_36 : decode cX8_start 36 = .ok (.new 101, 3) := by decide +kernel
theorem dX8_start_39 : decode cX8_start 39 = .ok (.dup, 1) := by decide +kernel
theorem dX8_start_40 : decode cX8_start 40 = .ok (.ldc 124, 2) := by decide +kernel
theorem dX8_start_42 : decode cX8_start 42 = .ok (.invokespecial 105, 3) := by decide +kernel
theorem dX8_start_45 : decode cX8_start 45 = .ok (.athrow, 1) := by decide +kernel
theorem dX8_start_46 : decode cX8_start 46 = .ok (.aload_n 0, 1) := by decide +kernel
theorem dX8_start_47 : decode cX8_start 47 = .ok (.getfield 30, 3) := by decide +kernel
theorem dX8_start_50 : decode cX8_start 50 = .ok (.aload_n 0, 1) := by decide +kernel
theorem dX8_start_51 : decode cX8_start 51 = .ok (.getfield 12, 3) := by decide +kernel
theorem dX8_start_54 : decode cX8_start 54 = .ok (.invokevirtual 65, 3) := by decide +kernel
theorem dX8_start_57 : decode cX8_start 57 = .ok (.aload_n 0, 1) := by decide +kernel
theorem dX8_start_58 : decode cX8_start 58 = .ok (.getfield 12, 3) := by decide +kernel
theorem dX8_start_61 : decode cX8_start 61 = .ok (.iload_n 1, 1) := by decide +kernel
theorem dX8_start_62 : decode cX8_start 62 = .ok (.invokevirtual 126, 3) := by decide +kernel
theorem dX8_start_65 : decode cX8_start 65 = .ok (.aload_n 0, 1) := by decide +kernel
theorem dX8_start_66 : decode cX8_start 66 = .ok (.getfield 12, 3) := by decide +kernel
theorem dX8_start_69 : decode cX8_start 69 = .ok (.getfield 69, 3) := by decide +kernel
theorem dX8_start_72 : decode cX8_start 72 = .ok (.iload_n 1, 1) := by decide +kernel
theorem dX8_start_73 : decode cX8_start 73 = .ok (.invokevirtual 129, 3) := by decide +kernel
theorem dX8_start_76 : decode cX8_start 76 = .ok (.ireturn, 1) := by decide +kernel
theorem dX8_turnStrong_0 : decode cX8_turnStrong 0 = .ok (.aload_n 0, 1) := by decide +kernel
theorem dX8_turnStrong_1 : decode cX8_turnStrong 1 = .ok (.getfield 30, 3) := by decide +kernel
theorem dX8_turnStrong_4 : decode cX8_turnStrong 4 = .ok (.aload_n 0, 1) := by decide +kernel
theorem dX8_turnStrong_5 : decode cX8_turnStrong 5 = .ok (.getfield 12, 3) := by decide +kernel
theorem dX8_turnStrong_8 : decode cX8_turnStrong 8 = .ok (.invokevirtual 65, 3) := by decide +kernel
theorem dX8_turnStrong_11 : decode cX8_turnStrong 11 = .ok (.aload_n 0, 1) := by decide +kernel
theorem dX8_turnStrong_12 : decode cX8_turnStrong 12 = .ok (.getfield 12, 3) := by decide +kernel
theorem dX8_turnStrong_15 : decode cX8_turnStrong 15 = .ok (.getfield 69, 3) := by decide +kernel
theorem dX8_turnStrong_18 : decode cX8_turnStrong 18 = .ok (.aload_n 0, 1) := by decide +kernel
theorem dX8_turnStrong_19 : decode cX8_turnStrong 19 = .ok (.getfield 12, 3) := by decide +kernel
theorem dX8_turnStrong_22 : decode cX8_turnStrong 22 = .ok (.getfield 69, 3) := by decide +kernel
theorem dX8_turnStrong_25 : decode cX8_turnStrong 25 = .ok (.getfield 132, 3) := by decide +kernel
theorem dX8_turnStrong_28 : decode cX8_turnStrong 28 = .ok (.ifCond .ne 7, 3) := by decide +kernel
theorem dX8_turnStrong_31 : decode cX8_turnStrong 31 = .ok (.iconst 1, 1) := by decide +kernel
theorem dX8_turnStrong_32 : decode cX8_turnStrong 32 = .ok (.goto 4, 3) := by decide +kernel
theorem dX8_turnStrong_35 : decode cX8_turnStrong 35 = .ok (.iconst 0, 1) := by decide +kernel
theorem dX8_turnStrong_36 : decode cX8_turnStrong 36 = .ok (.putfield 132, 3) := by decide +kernel
theorem dX8_turnStrong_39 : decode cX8_turnStrong 39 = .ok (.aload_n 0, 1) := by decide +kernel
theorem dX8_turnStrong_40 : decode cX8_turnStrong 40 = .ok (.getfield 12, 3) := by decide +kernel
theorem dX8_turnStrong_43 : decode cX8_turnStrong 43 = .ok (.getfield 69, 3) := by decide +kernel
theorem dX8_turnStrong_46 : decode cX8_turnStrong 46 = .ok (.getfield 132, 3) := by decide +kernel
theorem dX8_turnStrong_49 : decode cX8_turnStrong 49 = .ok (.ireturn, 1) := by decide +kernel
theorem dX8_move_0 : decode cX8_move 0 = .ok (.iload_n 1, 1) := by decide +kernel
theorem dX8_move_1 : decode cX8_move 1 = .ok (.iload_n 2, 1) := by decide +kernel
theorem dX8_move_2 : decode cX8_move 2 = .ok (.invokestatic 136, 3) := by decide +kernel
theorem dX8_move_5 : decode cX8_move 5 = .ok (.aload_n 0, 1) := by decide +kernel
theorem dX8_move_6 : decode cX8_move 6 = .ok (.getfield 12, 3) := by decide +kernel
theorem dX8_move_9 : decode cX8_move 9 = .ok (.iload_n 1, 1) := by decide +kernel
theorem dX8_move_10 : decode cX8_move 10 = .ok (.iload_n 2, 1) := by decide +kernel
theorem dX8_move_11 : decode cX8_move 11 = .ok (.invokevirtual 139, 3) := by decide +kernel
theorem dX8_move_14 : decode cX8_move 14 = .ok (.ifCond .ne 13, 3) := by decide +kernel
theorem dX8_move_17 : decode cX8_move 17 = .ok (.new 101, 3) := by decide +kernel
theorem dX8_move_20 : decode cX8_move 20 = .ok (.dup, 1) := by decide +kernel
theorem dX8_move_21 : decode cX8_move 21 = .ok (.ldc 142, 2) := by decide +kernel
theorem dX8_move_23 : decode cX8_move 23 = .ok (.invokespecial 105, 3) := by decide +kernel
theorem dX8_move_26 : decode cX8_move 26 = .ok (.athrow, 1) := by decide +kernel
theorem dX8_move_27 : decode cX8_move 27 = .ok (.aload_n 0, 1) := by decide +kernel
theorem dX8_move_28 : decode cX8_move 28 = .ok (.getfield 30, 3) := by decide +kernel
theorem dX8_move_31 : decode cX8_move 31 = .ok (.aload_n 0, 1) := by decide +kernel
theorem dX8_move_32 : decode cX8_move 32 = .ok (.getfield 12, 3) := by decide +kernel
theorem dX8_move_35 : decode cX8_move 35 = .ok (.invokevirtual 65, 3) := by decide +kernel
theorem dX8_move_38 : decode cX8_move 38 = .ok (.aload_n 0, 1) := by decide +kernel
theorem dX8_move_39 : decode cX8_move 39 = .ok (.getfield 12, 3) := by decide +kernel
theorem dX8_move_42 : decode cX8_move 42 = .ok (.iload_n 1, 1) := by decide +kernel
theorem dX8_move_43 : decode cX8_move 43 = .ok (.iload_n 2, 1) := by decide +kernel
theorem dX8_move_44 : decode cX8_move 44 = .ok (.invokevirtual 144, 3) := by decide +kernel
theorem dX8_move_47 : decode cX8_move 47 = .ok (.ireturn, 1) := by decide +kernel
theorem dX8_append_0 : decode cX8_append 0 = .ok (.iload_n 1, 1) := by decide +kernel
theorem dX8_append_1 : decode cX8_append 1 = .ok (.bipush 33, 2) := by decide +kernel
theorem dX8_append_3 : decode cX8_append 3 = .ok (.if_icmp .lt 9, 3) := by decide +kernel
theorem dX8_append_6 : decode cX8_append 6 = .ok (.iload_n 1, 1) := by decide +kernel
theorem dX8_append_7 : decode cX8_append 7 = .ok (.bipush 126, 2) := by decide +kernel
theorem dX8_append_9 : decode cX8_append 9 = .ok (.if_icmp .le 13, 3) := by decide +kernel
theorem dX8_append_12 : decode cX8_append 12 = .ok (.new 86, 3) := by decide +kernel
theorem dX8_append_15 : decode cX8_append 15 = .ok (.dup, 1) := by decide +kernel
theorem dX8_append_16 : decode cX8_append 16 = .ok (.ldc 148, 2) := by decide +kernel
theorem dX8_append_18 : decode cX8_append 18 = .ok (.invokespecial 90, 3) := by decide +kernel
theorem dX8_append_21 : decode cX8_append 21 = .ok (.athrow, 1) := by decide +kernel
theorem dX8_append_22 : decode cX8_append 22 = .ok (.aload_n 0, 1) := by decide +kernel
theorem dX8_append_23 : decode cX8_append 23 = .ok (.getfield 37, 3) := by decide +kernel
theorem dX8_append_26 : decode cX8_append 26 = .ok (.invokevirtual 150, 3) := by decide +kernel
theorem dX8_append_29 : decode cX8_append 29 = .ok (.ifCond .eq 13, 3) := by decide +kernel
theorem dX8_append_32 : decode cX8_append 32 = .ok (.new 101, 3) := by decide +kernel
theorem dX8_append_35 : decode cX8_append 35 = .ok (.dup, 1) := by decide +kernel
theorem dX8_append_36 : decode cX8_append 36 = .ok (.ldc 154, 2) := by decide +kernel
theorem dX8_append_38 : decode cX8_append 38 = .ok (.invokespecial 105, 3) := by decide +kernel
theorem dX8_append_41 : decode cX8_append 41 = .ok (.athrow, 1) := by decide +kernel
theorem dX8_append_42 : decode cX8_append 42 = .ok (.aload_n 0, 1) := by decide +kernel
theorem dX8_append_43 : decode cX8_append 43 = .ok (.getfield 37, 3) := by decide +kernel
theorem dX8_append_46 : decode cX8_append 46 = .ok (.iload_n 1, 1) := by decide +kernel
theorem dX8_append_47 : decode cX8_append 47 = .ok (.invokevirtual 156, 3) := by decide +kernel
theorem dX8_append_50 : decode cX8_append 50 = .ok (.aload_n 0, 1) := by decide +kernel
theorem dX8_append_51 : decode cX8_append 51 = .ok (.getfield 37, 3) := by decide +kernel
theorem dX8_append_54 : decode cX8_append 54 = .ok (.getfield 159, 3) := by decide +kernel
theorem dX8_append_57 : decode cX8_append 57 = .ok (.ireturn, 1) := by decide +kernel
theorem dX8_clearBuffer_0 : decode cX8_clearBuffer 0 = .ok (.aload_n 0, 1) := by decide +kernel
theorem dX8_clearBuffer_1 : decode cX8_clearBuffer 1 = .ok (.getfield 37, 3) := by decide +kernel
theorem dX8_clearBuffer_4 : decode cX8_clearBuffer 4 = .ok (.getfield 159, 3) := by decide +kernel
theorem dX8_clearBuffer_7 : decode cX8_clearBuffer 7 = .ok (.istore_n 1, 1) := by decide +kernel
theorem dX8_clearBuffer_8 : decode cX8_clearBuffer 8 = .ok (.aload_n 0, 1) := by decide +kernel
theorem dX8_clearBuffer_9 : decode cX8_clearBuffer 9 = .ok (.getfield 37, 3) := by decide +kernel
theorem dX8_clearBuffer_12 : decode cX8_clearBuffer 12 = .ok (.invokevirtual 162, 3) := by decide +kernel
theorem dX8_clearBuffer_15 : decode cX8_clearBuffer 15 = .ok (.iload_n 1, 1) := by decide +kernel
theorem dX8_clearBuffer_16 : decode cX8_clearBuffer 16 = .ok (.ireturn, 1) := by decide +kernel
theorem dX8_firstError_0 : decode cX8_firstError 0 = .ok (.aload_n 0, 1) := by decide +kernel
theorem dX8_firstError_1 : decode cX8_firstError 1 = .ok (.getfield 37, 3) := by decide +kernel
theorem dX8_firstError_4 : decode cX8_firstError 4 = .ok (.invokevirtual 165, 3) := by decide +kernel
theorem dX8_firstError_7 : decode cX8_firstError 7 = .ok (.ireturn, 1) := by decide +kernel
theorem dX8_play_0 : decode cX8_play 0 = .ok (.aload_n 0, 1) := by decide +kernel
theorem dX8_play_1 : decode cX8_play 1 = .ok (.getfield 37, 3) := by decide +kernel
theorem dX8_play_4 : decode cX8_play 4 = .ok (.invokevirtual 168, 3) := by decide +kernel
theorem dX8_play_7 : decode cX8_play 7 = .ok (.ifCond .ne 13, 3) := by decide +kernel
theorem dX8_play_10 : decode cX8_play 10 = .ok (.new 86, 3) := by decide +kernel
theorem dX8_play_13 : decode cX8_play 13 = .ok (.dup, 1) := by decide +kernel
theorem dX8_play_14 : decode cX8_play 14 = .ok (.ldc 171, 2) := by decide +kernel
theorem dX8_play_16 : decode cX8_play 16 = .ok (.invokespecial 90, 3) := by decide +kernel
theorem dX8_play_19 : decode cX8_play 19 = .ok (.athrow, 1) := by decide +kernel
theorem dX8_play_20 : decode cX8_play 20 = .ok (.aload_n 0, 1) := by decide +kernel
theorem dX8_play_21 : decode cX8_play 21 = .ok (.getfield 16, 3) := by decide +kernel
theorem dX8_play_24 : decode cX8_play 24 = .ok (.aload_n 0, 1) := by decide +kernel
theorem dX8_play_25 : decode cX8_play 25 = .ok (.getfield 12, 3) := by decide +kernel
theorem dX8_play_28 : decode cX8_play 28 = .ok (.invokevirtual 173, 3) := by decide +kernel
theorem dX8_play_31 : decode cX8_play 31 = .ok (.aload_n 0, 1) := by decide +kernel
theorem dX8_play_32 : decode cX8_play 32 = .ok (.invokevirtual 176, 3) := by decide +kernel
theorem dX8_play_35 : decode cX8_play 35 = .ok (.istore_n 1, 1) := by decide +kernel
theorem dX8_play_36 : decode cX8_play 36 = .ok (.iload_n 1, 1) := by decide +kernel
theorem dX8_play_37 : decode cX8_play 37 = .ok (.ifCond .ge 13, 3) := by decide +kernel
theorem dX8_play_40 : decode cX8_play 40 = .ok (.new 101, 3) := by decide +kernel
theorem dX8_play_43 : decode cX8_play 43 = .ok (.dup, 1) := by decide +kernel
theorem dX8_play_44 : decode cX8_play 44 = .ok (.ldc 179, 2) := by decide +kernel
theorem dX8_play_46 : decode cX8_play 46 = .ok (.invokespecial 105, 3) := by decide +kernel
theorem dX8_play_49 : decode cX8_play 49 = .ok (.athrow, 1) := by decide +kernel
theorem dX8_play_50 : decode cX8_play 50 = .ok (.aload_n 0, 1) := by decide +kernel
theorem dX8_play_51 : decode cX8_play 51 = .ok (.getfield 30, 3) := by decide +kernel
theorem dX8_play_54 : decode cX8_play 54 = .ok (.aload_n 0, 1) := by decide +kernel
theorem dX8_play_55 : decode cX8_play 55 = .ok (.getfield 12, 3) := by decide +kernel
theorem dX8_play_58 : decode cX8_play 58 = .ok (.invokevirtual 65, 3) := by decide +kernel
theorem dX8_play_61 : decode cX8_play 61 = .ok (.aload_n 0, 1) := by decide +kernel
theorem dX8_play_62 : decode cX8_play 62 = .ok (.getfield 12, 3) := by decide +kernel
theorem dX8_play_65 : decode cX8_play 65 = .ok (.aload_n 0, 1) := by decide +kernel
theorem dX8_play_66 : decode cX8_play 66 = .ok (.getfield 16, 3) := by decide +kernel
theorem dX8_play_69 : decode cX8_play 69 = .ok (.invokevirtual 173, 3) := by decide +kernel
theorem dX8_play_72 : decode cX8_play 72 = .ok (.aload_n 0, 1) := by decide +kernel
theorem dX8_play_73 : decode cX8_play 73 = .ok (.getfield 37, 3) := by decide +kernel
theorem dX8_play_76 : decode cX8_play 76 = .ok (.invokevirtual 162, 3) := by decide +kernel
theorem dX8_play_79 : decode cX8_play 79 = .ok (.iload_n 1, 1) := by decide +kernel
theorem dX8_play_80 : decode cX8_play 80 = .ok (.ireturn, 1) := by decide +kernel
theorem dX8_playOnTrial_0 : decode cX8_playOnTrial 0 = .ok (.iconst 0, 1) := by decide +kernel
theorem dX8_playOnTrial_1 : decode cX8_playOnTrial 1 = .ok (.istore_n 1, 1) := by decide +kernel
theorem dX8_playOnTrial_2 : decode cX8_playOnTrial 2 = .ok (.iconst 0, 1) := by decide +kernel
theorem dX8_playOnTrial_3 : decode cX8_playOnTrial 3 = .ok (.istore_n 2, 1) := by decide +kernel
theorem dX8_playOnTrial_4 : decode cX8_playOnTrial 4 = .ok (.iload_n 2, 1) := by decide +kernel
theorem dX8_playOnTrial_5 : decode cX8_playOnTrial 5 = .ok (.aload_n 0, 1) := by decide +kernel
theorem dX8_playOnTrial_6 : decode cX8_playOnTrial 6 = .ok (.getfield 37, 3) := by decide +kernel
theorem dX8_playOnTrial_9 : decode cX8_playOnTrial 9 = .ok (.invokevirtual 181, 3) := by decide +kernel
theorem dX8_playOnTrial_12 : decode cX8_playOnTrial 12 = .ok (.if_icmp .ge 62, 3) := by decide +kernel
theorem dX8_playOnTrial_15 : decode cX8_playOnTrial 15 = .ok (.aload_n 0, 1) := by decide +kernel
theorem dX8_playOnTrial_16 : decode cX8_playOnTrial 16 = .ok (.getfield 37, 3) := by decide +kernel
theorem dX8_playOnTrial_19 : decode cX8_playOnTrial 19 = .ok (.iconst 5, 1) := by decide +kernel
theorem dX8_playOnTrial_20 : decode cX8_playOnTrial 20 = .ok (.iload_n 2, 1) := by decide +kernel
theorem dX8_playOnTrial_21 : decode cX8_playOnTrial 21 = .ok (.imul, 1) := by decide +kernel
theorem dX8_playOnTrial_22 : decode cX8_playOnTrial 22 = .ok (.invokevirtual 184, 3) := by decide +kernel
theorem dX8_playOnTrial_25 : decode cX8_playOnTrial 25 = .ok (.istore_n 3, 1) := by decide +kernel
theorem dX8_playOnTrial_26 : decode cX8_playOnTrial 26 = .ok (.aload_n 0, 1) := by decide +kernel
theorem dX8_playOnTrial_27 : decode cX8_playOnTrial 27 = .ok (.getfield 37, 3) := by decide +kernel
theorem dX8_playOnTrial_30 : decode cX8_playOnTrial 30 = .ok (.iconst 5, 1) := by decide +kernel
theorem dX8_playOnTrial_31 : decode cX8_playOnTrial 31 = .ok (.iload_n 2, 1) := by decide +kernel
theorem dX8_playOnTrial_32 : decode cX8_playOnTrial 32 = .ok (.imul, 1) := by decide +kernel
theorem dX8_playOnTrial_33 : decode cX8_playOnTrial 33 = .ok (.iconst 2, 1) := by decide +kernel
theorem dX8_playOnTrial_34 : decode cX8_playOnTrial 34 = .ok (.iadd, 1) := by decide +kernel
theorem dX8_playOnTrial_35 : decode cX8_playOnTrial 35 = .ok (.invokevirtual 184, 3) := by decide +kernel
theorem dX8_playOnTrial_38 : decode cX8_playOnTrial 38 = .ok (.istore 4, 2) := by decide +kernel
theorem dX8_playOnTrial_40 : decode cX8_playOnTrial 40 = .ok (.aload_n 0, 1) := by decide +kernel
theorem dX8_playOnTrial_41 : decode cX8_playOnTrial 41 = .ok (.getfield 16, 3) := by decide +kernel
theorem dX8_playOnTrial_44 : decode cX8_playOnTrial 44 = .ok (.iload_n 3, 1) := by decide +kernel
theorem dX8_playOnTrial_45 : decode cX8_playOnTrial 45 = .ok (.iload 4, 2) := by decide +kernel
theorem dX8_playOnTrial_47 : decode cX8_playOnTrial 47 = .ok (.invokevirtual 139, 3) := by decide +kernel
theorem dX8_playOnTrial_50 : decode cX8_playOnTrial 50 = .ok (.ifCond .ne 5, 3) := by decide +kernel
theorem dX8_playOnTrial_53 : decode cX8_playOnTrial 53 = .ok (.iconst (-1), 1) := by decide +kernel
theorem dX8_playOnTrial_54 : decode cX8_playOnTrial 54 = .ok (.ireturn, 1) := by decide +kernel
theorem dX8_playOnTrial_55 : decode cX8_playOnTrial 55 = .ok (.iload_n 1, 1) := by decide +kernel
theorem dX8_playOnTrial_56 : decode cX8_playOnTrial 56 = .ok (.aload_n 0, 1) := by decide +kernel
theorem dX8_playOnTrial_57 : decode cX8_playOnTrial 57 = .ok (.getfield 16, 3) := by decide +kernel
theorem dX8_playOnTrial_60 : decode cX8_playOnTrial 60 = .ok (.iload_n 3, 1) := by decide +kernel
theorem dX8_playOnTrial_61 : decode cX8_playOnTrial 61 = .ok (.iload 4, 2) := by decide +kernel
theorem dX8_playOnTrial_63 : decode cX8_playOnTrial 63 = .ok (.invokevirtual 144, 3) := by decide +kernel
theorem dX8_playOnTrial_66 : decode cX8_playOnTrial 66 = .ok (.iadd, 1) := by decide +kernel
theorem dX8_playOnTrial_67 : decode cX8_playOnTrial 67 = .ok (.istore_n 1, 1) := by decide +kernel
theorem dX8_playOnTrial_68 : decode cX8_playOnTrial 68 = .ok (.iinc 2 1, 3) := by decide +kernel
theorem dX8_playOnTrial_71 : decode cX8_playOnTrial 71 = .ok (.goto (-67), 3) := by decide +kernel
theorem dX8_playOnTrial_74 : decode cX8_playOnTrial 74 = .ok (.iload_n 1, 1) := by decide +kernel
theorem dX8_playOnTrial_75 : decode cX8_playOnTrial 75 = .ok (.ireturn, 1) := by decide +kernel
theorem dX8_keep_0 : decode cX8_keep 0 = .ok (.iload_n 1, 1) := by decide +kernel
theorem dX8_keep_1 : decode cX8_keep 1 = .ok (.invokestatic 187, 3) := by decide +kernel
theorem dX8_keep_4 : decode cX8_keep 4 = .ok (.aload_n 0, 1) := by decide +kernel
theorem dX8_keep_5 : decode cX8_keep 5 = .ok (.getfield 19, 3) := by decide +kernel
theorem dX8_keep_8 : decode cX8_keep 8 = .ok (.iload_n 1, 1) := by decide +kernel
theorem dX8_keep_9 : decode cX8_keep 9 = .ok (.aaload, 1) := by decide +kernel
theorem dX8_keep_10 : decode cX8_keep 10 = .ok (.aload_n 0, 1) := by decide +kernel
theorem dX8_keep_11 : decode cX8_keep 11 = .ok (.getfield 12, 3) := by decide +kernel
theorem dX8_keep_14 : decode cX8_keep 14 = .ok (.invokevirtual 173, 3) := by decide +kernel
theorem dX8_keep_17 : decode cX8_keep 17 = .ok (.aload_n 0, 1) := by decide +kernel
theorem dX8_keep_18 : decode cX8_keep 18 = .ok (.getfield 23, 3) := by decide +kernel
theorem dX8_keep_21 : decode cX8_keep 21 = .ok (.iload_n 1, 1) := by decide +kernel
theorem dX8_keep_22 : decode cX8_keep 22 = .ok (.iconst 1, 1) := by decide +kernel
theorem dX8_keep_23 : decode cX8_keep 23 = .ok (.bastore, 1) := by decide +kernel
theorem dX8_keep_24 : decode cX8_keep 24 = .ok (.return_, 1) := by decide +kernel
theorem dX8_goBack_0 : decode cX8_goBack 0 = .ok (.iload_n 1, 1) := by decide +kernel
theorem dX8_goBack_1 : decode cX8_goBack 1 = .ok (.invokestatic 187, 3) := by decide +kernel
theorem dX8_goBack_4 : decode cX8_goBack 4 = .ok (.aload_n 0, 1) := by decide +kernel
theorem dX8_goBack_5 : decode cX8_goBack 5 = .ok (.getfield 23, 3) := by decide +kernel
theorem dX8_goBack_8 : decode cX8_goBack 8 = .ok (.iload_n 1, 1) := by decide +kernel
theorem dX8_goBack_9 : decode cX8_goBack 9 = .ok (.baload, 1) := by decide +kernel
theorem dX8_goBack_10 : decode cX8_goBack 10 = .ok (.ifCond .ne 13, 3) := by decide +kernel
theorem dX8_goBack_13 : decode cX8_goBack 13 = .ok (.new 101, 3) := by decide +kernel
theorem dX8_goBack_16 : decode cX8_goBack 16 = .ok (.dup, 1) := by decide +kernel
theorem dX8_goBack_17 : decode cX8_goBack 17 = .ok (.ldc 190, 2) := by decide +kernel
theorem dX8_goBack_19 : decode cX8_goBack 19 = .ok (.invokespecial 105, 3) := by decide +kernel
theorem dX8_goBack_22 : decode cX8_goBack 22 = .ok (.athrow, 1) := by decide +kernel
theorem dX8_goBack_23 : decode cX8_goBack 23 = .ok (.aload_n 0, 1) := by decide +kernel
theorem dX8_goBack_24 : decode cX8_goBack 24 = .ok (.getfield 30, 3) := by decide +kernel
theorem dX8_goBack_27 : decode cX8_goBack 27 = .ok (.aload_n 0, 1) := by decide +kernel
theorem dX8_goBack_28 : decode cX8_goBack 28 = .ok (.getfield 12, 3) := by decide +kernel
theorem dX8_goBack_31 : decode cX8_goBack 31 = .ok (.invokevirtual 65, 3) := by decide +kernel
theorem dX8_goBack_34 : decode cX8_goBack 34 = .ok (.aload_n 0, 1) := by decide +kernel
theorem dX8_goBack_35 : decode cX8_goBack 35 = .ok (.getfield 12, 3) := by decide +kernel
theorem dX8_goBack_38 : decode cX8_goBack 38 = .ok (.aload_n 0, 1) := by decide +kernel
theorem dX8_goBack_39 : decode cX8_goBack 39 = .ok (.getfield 19, 3) := by decide +kernel
theorem dX8_goBack_42 : decode cX8_goBack 42 = .ok (.iload_n 1, 1) := by decide +kernel
theorem dX8_goBack_43 : decode cX8_goBack 43 = .ok (.aaload, 1) := by decide +kernel
theorem dX8_goBack_44 : decode cX8_goBack 44 = .ok (.invokevirtual 173, 3) := by decide +kernel
theorem dX8_goBack_47 : decode cX8_goBack 47 = .ok (.return_, 1) := by decide +kernel
theorem dX8_undo_0 : decode cX8_undo 0 = .ok (.aload_n 0, 1) := by decide +kernel
theorem dX8_undo_1 : decode cX8_undo 1 = .ok (.getfield 30, 3) := by decide +kernel
theorem dX8_undo_4 : decode cX8_undo 4 = .ok (.getfield 192, 3) := by decide +kernel
theorem dX8_undo_7 : decode cX8_undo 7 = .ok (.ifCond .ne 13, 3) := by decide +kernel
theorem dX8_undo_10 : decode cX8_undo 10 = .ok (.new 101, 3) := by decide +kernel
theorem dX8_undo_13 : decode cX8_undo 13 = .ok (.dup, 1) := by decide +kernel
theorem dX8_undo_14 : decode cX8_undo 14 = .ok (.ldc 195, 2) := by decide +kernel
theorem dX8_undo_16 : decode cX8_undo 16 = .ok (.invokespecial 105, 3) := by decide +kernel
theorem dX8_undo_19 : decode cX8_undo 19 = .ok (.athrow, 1) := by decide +kernel
theorem dX8_undo_20 : decode cX8_undo 20 = .ok (.aload_n 0, 1) := by decide +kernel
theorem dX8_undo_21 : decode cX8_undo 21 = .ok (.getfield 30, 3) := by decide +kernel
theorem dX8_undo_24 : decode cX8_undo 24 = .ok (.aload_n 0, 1) := by decide +kernel
theorem dX8_undo_25 : decode cX8_undo 25 = .ok (.getfield 12, 3) := by decide +kernel
theorem dX8_undo_28 : decode cX8_undo 28 = .ok (.invokevirtual 197, 3) := by decide +kernel
theorem dX8_undo_31 : decode cX8_undo 31 = .ok (.return_, 1) := by decide +kernel
theorem dX8_savedStates_0 : decode cX8_savedStates 0 = .ok (.aload_n 0, 1) := by decide +kernel
theorem dX8_savedStates_1 : decode cX8_savedStates 1 = .ok (.getfield 30, 3) := by decide +kernel
theorem dX8_savedStates_4 : decode cX8_savedStates 4 = .ok (.getfield 192, 3) := by decide +kernel
theorem dX8_savedStates_7 : decode cX8_savedStates 7 = .ok (.ireturn, 1) := by decide +kernel
theorem dX8_pieceAt_0 : decode cX8_pieceAt 0 = .ok (.iload_n 1, 1) := by decide +kernel
theorem dX8_pieceAt_1 : decode cX8_pieceAt 1 = .ok (.iload_n 2, 1) := by decide +kernel
theorem dX8_pieceAt_2 : decode cX8_pieceAt 2 = .ok (.invokestatic 82, 3) := by decide +kernel
theorem dX8_pieceAt_5 : decode cX8_pieceAt 5 = .ok (.aload_n 0, 1) := by decide +kernel
theorem dX8_pieceAt_6 : decode cX8_pieceAt 6 = .ok (.getfield 12, 3) := by decide +kernel
theorem dX8_pieceAt_9 : decode cX8_pieceAt 9 = .ok (.getfield 69, 3) := by decide +kernel
theorem dX8_pieceAt_12 : decode cX8_pieceAt 12 = .ok (.bipush 7, 2) := by decide +kernel
theorem dX8_pieceAt_14 : decode cX8_pieceAt 14 = .ok (.iload_n 1, 1) := by decide +kernel
theorem dX8_pieceAt_15 : decode cX8_pieceAt 15 = .ok (.imul, 1) := by decide +kernel
theorem dX8_pieceAt_16 : decode cX8_pieceAt 16 = .ok (.iload_n 2, 1) := by decide +kernel
theorem dX8_pieceAt_17 : decode cX8_pieceAt 17 = .ok (.iadd, 1) := by decide +kernel
theorem dX8_pieceAt_18 : decode cX8_pieceAt 18 = .ok (.invokevirtual 106, 3) := by decide +kernel
theorem dX8_pieceAt_21 : decode cX8_pieceAt 21 = .ok (.ireturn, 1) := by decide +kernel
theorem dX8_piecesOf_0 : decode cX8_piecesOf 0 = .ok (.iload_n 1, 1) := by decide +kernel
theorem dX8_piecesOf_1 : decode cX8_piecesOf 1 = .ok (.invokestatic 113, 3) := by decide +kernel
theorem dX8_piecesOf_4 : decode cX8_piecesOf 4 = .ok (.aload_n 0, 1) := by decide +kernel
theorem dX8_piecesOf_5 : decode cX8_piecesOf 5 = .ok (.getfield 12, 3) := by decide +kernel
theorem dX8_piecesOf_8 : decode cX8_piecesOf 8 = .ok (.getfield 69, 3) := by decide +kernel
theorem dX8_piecesOf_11 : decode cX8_piecesOf 11 = .ok (.iload_n 1, 1) := by decide +kernel
theorem dX8_piecesOf_12 : decode cX8_piecesOf 12 = .ok (.invokevirtual 200, 3) := by decide +kernel
theorem dX8_piecesOf_15 : decode cX8_piecesOf 15 = .ok (.ireturn, 1) := by decide +kernel
theorem dX8_kingAt_0 : decode cX8_kingAt 0 = .ok (.aload_n 0, 1) := by decide +kernel
theorem dX8_kingAt_1 : decode cX8_kingAt 1 = .ok (.invokevirtual 203, 3) := by decide +kernel
theorem dX8_kingAt_4 : decode cX8_kingAt 4 = .ok (.aload_n 0, 1) := by decide +kernel
theorem dX8_kingAt_5 : decode cX8_kingAt 5 = .ok (.getfield 12, 3) := by decide +kernel
theorem dX8_kingAt_8 : decode cX8_kingAt 8 = .ok (.getfield 69, 3) := by decide +kernel
theorem dX8_kingAt_11 : decode cX8_kingAt 11 = .ok (.getfield 117, 3) := by decide +kernel
theorem dX8_kingAt_14 : decode cX8_kingAt 14 = .ok (.ireturn, 1) := by decide +kernel
theorem dX8_isHostile_0 : decode cX8_isHostile 0 = .ok (.iload_n 1, 1) := by decide +kernel
theorem dX8_isHostile_1 : decode cX8_isHostile 1 = .ok (.iload_n 2, 1) := by decide +kernel
theorem dX8_isHostile_2 : decode cX8_isHostile 2 = .ok (.invokestatic 82, 3) := by decide +kernel
theorem dX8_isHostile_5 : decode cX8_isHostile 5 = .ok (.iload_n 3, 1) := by decide +kernel
theorem dX8_isHostile_6 : decode cX8_isHostile 6 = .ok (.invokestatic 113, 3) := by decide +kernel
theorem dX8_isHostile_9 : decode cX8_isHostile 9 = .ok (.aload_n 0, 1) := by decide +kernel
theorem dX8_isHostile_10 : decode cX8_isHostile 10 = .ok (.getfield 12, 3) := by decide +kernel
theorem dX8_isHostile_13 : decode cX8_isHostile 13 = .ok (.getfield 69, 3) := by decide +kernel
theorem dX8_isHostile_16 : decode cX8_isHostile 16 = .ok (.iload_n 3, 1) := by decide +kernel
theorem dX8_isHostile_17 : decode cX8_isHostile 17 = .ok (.bipush 7, 2) := by decide +kernel
theorem dX8_isHostile_19 : decode cX8_isHostile 19 = .ok (.iload_n 1, 1) := by decide +kernel
theorem dX8_isHostile_20 : decode cX8_isHostile 20 = .ok (.imul, 1) := by decide +kernel
theorem dX8_isHostile_21 : decode cX8_isHostile 21 = .ok (.iload_n 2, 1) := by decide +kernel
theorem dX8_isHostile_22 : decode cX8_isHostile 22 = .ok (.iadd, 1) := by decide +kernel
theorem dX8_isHostile_23 : decode cX8_isHostile 23 = .ok (.invokevirtual 206, 3) := by decide +kernel
theorem dX8_isHostile_26 : decode cX8_isHostile 26 = .ok (.ireturn, 1) := by decide +kernel
theorem dX8_isStrong_0 : decode cX8_isStrong 0 = .ok (.aload_n 0, 1) := by decide +kernel
theorem dX8_isStrong_1 : decode cX8_isStrong 1 = .ok (.getfield 12, 3) := by decide +kernel
theorem dX8_isStrong_4 : decode cX8_isStrong 4 = .ok (.getfield 69, 3) := by decide +kernel
theorem dX8_isStrong_7 : decode cX8_isStrong 7 = .ok (.getfield 132, 3) := by decide +kernel
theorem dX8_isStrong_10 : decode cX8_isStrong 10 = .ok (.ireturn, 1) := by decide +kernel
theorem dX8_standing_0 : decode cX8_standing 0 = .ok (.aload_n 0, 1) := by decide +kernel
theorem dX8_standing_1 : decode cX8_standing 1 = .ok (.getfield 12, 3) := by decide +kernel
theorem dX8_standing_4 : decode cX8_standing 4 = .ok (.getfield 93, 3) := by decide +kernel
theorem dX8_standing_7 : decode cX8_standing 7 = .ok (.ireturn, 1) := by decide +kernel
theorem dX8_turn_0 : decode cX8_turn 0 = .ok (.aload_n 0, 1) := by decide +kernel
theorem dX8_turn_1 : decode cX8_turn 1 = .ok (.getfield 12, 3) := by decide +kernel
theorem dX8_turn_4 : decode cX8_turn 4 = .ok (.getfield 93, 3) := by decide +kernel
theorem dX8_turn_7 : decode cX8_turn 7 = .ok (.iconst 1, 1) := by decide +kernel
theorem dX8_turn_8 : decode cX8_turn 8 = .ok (.if_icmp .eq 13, 3) := by decide +kernel
theorem dX8_turn_11 : decode cX8_turn 11 = .ok (.new 101, 3) := by decide +kernel
theorem dX8_turn_14 : decode cX8_turn 14 = .ok (.dup, 1) := by decide +kernel
theorem dX8_turn_15 : decode cX8_turn 15 = .ok (.ldc 209, 2) := by decide +kernel
theorem dX8_turn_17 : decode cX8_turn 17 = .ok (.invokespecial 105, 3) := by decide +kernel
theorem dX8_turn_20 : decode cX8_turn 20 = .ok (.athrow, 1) := by decide +kernel
theorem dX8_turn_21 : decode cX8_turn 21 = .ok (.aload_n 0, 1) := by decide +kernel
theorem dX8_turn_22 : decode cX8_turn 22 = .ok (.getfield 12, 3) := by decide +kernel
theorem dX8_turn_25 : decode cX8_turn 25 = .ok (.getfield 211, 3) := by decide +kernel
theorem dX8_turn_28 : decode cX8_turn 28 = .ok (.ireturn, 1) := by decide +kernel
theorem dX8_moves_0 : decode cX8_moves 0 = .ok (.aload_n 0, 1) := by decide +kernel
theorem dX8_moves_1 : decode cX8_moves 1 = .ok (.getfield 12, 3) := by decide +kernel
theorem dX8_moves_4 : decode cX8_moves 4 = .ok (.getfield 214, 3) := by decide +kernel
theorem dX8_moves_7 : decode cX8_moves 7 = .ok (.ireturn, 1) := by decide +kernel
theorem dX8_timesSeen_0 : decode cX8_timesSeen 0 = .ok (.aload_n 0, 1) := by decide +kernel
theorem dX8_timesSeen_1 : decode cX8_timesSeen 1 = .ok (.getfield 12, 3) := by decide +kernel
theorem dX8_timesSeen_4 : decode cX8_timesSeen 4 = .ok (.getfield 93, 3) := by decide +kernel
theorem dX8_timesSeen_7 : decode cX8_timesSeen 7 = .ok (.ifCond .ne 13, 3) := by decide +kernel
theorem dX8_timesSeen_10 : decode cX8_timesSeen 10 = .ok (.new 101, 3) := by decide +kernel
theorem dX8_timesSeen_13 : decode cX8_timesSeen 13 = .ok (.dup, 1) := by decide +kernel
theorem dX8_timesSeen_14 : decode cX8_timesSeen 14 = .ok (.ldc 217, 2) := by decide +kernel
theorem dX8_timesSeen_16 : decode cX8_timesSeen 16 = .ok (.invokespecial 105, 3) := by decide +kernel
theorem dX8_timesSeen_19 : decode cX8_timesSeen 19 = .ok (.athrow, 1) := by decide +kernel
theorem dX8_timesSeen_20 : decode cX8_timesSeen 20 = .ok (.aload_n 0, 1) := by decide +kernel
theorem dX8_timesSeen_21 : decode cX8_timesSeen 21 = .ok (.getfield 12, 3) := by decide +kernel
theorem dX8_timesSeen_24 : decode cX8_timesSeen 24 = .ok (.invokevirtual 219, 3) := by decide +kernel
theorem dX8_timesSeen_27 : decode cX8_timesSeen 27 = .ok (.ireturn, 1) := by decide +kernel
theorem dX8_canMove_0 : decode cX8_canMove 0 = .ok (.iload_n 1, 1) := by decide +kernel
theorem dX8_canMove_1 : decode cX8_canMove 1 = .ok (.iload_n 2, 1) := by decide +kernel
theorem dX8_canMove_2 : decode cX8_canMove 2 = .ok (.invokestatic 136, 3) := by decide +kernel
theorem dX8_canMove_5 : decode cX8_canMove 5 = .ok (.aload_n 0, 1) := by decide +kernel
theorem dX8_canMove_6 : decode cX8_canMove 6 = .ok (.getfield 12, 3) := by decide +kernel
theorem dX8_canMove_9 : decode cX8_canMove 9 = .ok (.getfield 69, 3) := by decide +kernel
theorem dX8_canMove_12 : decode cX8_canMove 12 = .ok (.iload_n 1, 1) := by decide +kernel
theorem dX8_canMove_13 : decode cX8_canMove 13 = .ok (.iload_n 2, 1) := by decide +kernel
theorem dX8_canMove_14 : decode cX8_canMove 14 = .ok (.invokevirtual 222, 3) := by decide +kernel
theorem dX8_canMove_17 : decode cX8_canMove 17 = .ok (.ifCond .ne 7, 3) := by decide +kernel
theorem dX8_canMove_20 : decode cX8_canMove 20 = .ok (.iconst 1, 1) := by decide +kernel
theorem dX8_canMove_21 : decode cX8_canMove 21 = .ok (.goto 4, 3) := by decide +kernel
theorem dX8_canMove_24 : decode cX8_canMove 24 = .ok (.iconst 0, 1) := by decide +kernel
theorem dX8_canMove_25 : decode cX8_canMove 25 = .ok (.ireturn, 1) := by decide +kernel
theorem dX8_reasonAgainst_0 : decode cX8_reasonAgainst 0 = .ok (.iload_n 1, 1) := by decide +kernel
theorem dX8_reasonAgainst_1 : decode cX8_reasonAgainst 1 = .ok (.iload_n 2, 1) := by decide +kernel
theorem dX8_reasonAgainst_2 : decode cX8_reasonAgainst 2 = .ok (.invokestatic 136, 3) := by decide +kernel
theorem dX8_reasonAgainst_5 : decode cX8_reasonAgainst 5 = .ok (.aload_n 0, 1) := by decide +kernel
theorem dX8_reasonAgainst_6 : decode cX8_reasonAgainst 6 = .ok (.getfield 12, 3) := by decide +kernel
theorem dX8_reasonAgainst_9 : decode cX8_reasonAgainst 9 = .ok (.getfield 69, 3) := by decide +kernel
theorem dX8_reasonAgainst_12 : decode cX8_reasonAgainst 12 = .ok (.iload_n 1, 1) := by decide +kernel
theorem dX8_reasonAgainst_13 : decode cX8_reasonAgainst 13 = .ok (.iload_n 2, 1) := by decide +kernel
theorem dX8_reasonAgainst_14 : decode cX8_reasonAgainst 14 = .ok (.invokevirtual 222, 3) := by decide +kernel
theorem dX8_reasonAgainst_17 : decode cX8_reasonAgainst 17 = .ok (.ireturn, 1) := by decide +kernel
theorem dX8_movesFrom_0 : decode cX8_movesFrom 0 = .ok (.iload_n 1, 1) := by decide +kernel
theorem dX8_movesFrom_1 : decode cX8_movesFrom 1 = .ok (.iload_n 2, 1) := by decide +kernel
theorem dX8_movesFrom_2 : decode cX8_movesFrom 2 = .ok (.invokestatic 82, 3) := by decide +kernel
theorem dX8_movesFrom_5 : decode cX8_movesFrom 5 = .ok (.aload_n 0, 1) := by decide +kernel
theorem dX8_movesFrom_6 : decode cX8_movesFrom 6 = .ok (.getfield 12, 3) := by decide +kernel
theorem dX8_movesFrom_9 : decode cX8_movesFrom 9 = .ok (.getfield 69, 3) := by decide +kernel
theorem dX8_movesFrom_12 : decode cX8_movesFrom 12 = .ok (.bipush 7, 2) := by decide +kernel
theorem dX8_movesFrom_14 : decode cX8_movesFrom 14 = .ok (.iload_n 1, 1) := by decide +kernel
theorem dX8_movesFrom_15 : decode cX8_movesFrom 15 = .ok (.imul, 1) := by decide +kernel
theorem dX8_movesFrom_16 : decode cX8_movesFrom 16 = .ok (.iload_n 2, 1) := by decide +kernel
theorem dX8_movesFrom_17 : decode cX8_movesFrom 17 = .ok (.iadd, 1) := by decide +kernel
theorem dX8_movesFrom_18 : decode cX8_movesFrom 18 = .ok (.invokevirtual 225, 3) := by decide +kernel
theorem dX8_movesFrom_21 : decode cX8_movesFrom 21 = .ok (.ireturn, 1) := by decide +kernel
theorem dX8_movesByPieces_0 : decode cX8_movesByPieces 0 = .ok (.iload_n 1, 1) := by decide +kernel
theorem dX8_movesByPieces_1 : decode cX8_movesByPieces 1 = .ok (.invokestatic 113, 3) := by decide +kernel
theorem dX8_movesByPieces_4 : decode cX8_movesByPieces 4 = .ok (.aload_n 0, 1) := by decide +kernel
theorem dX8_movesByPieces_5 : decode cX8_movesByPieces 5 = .ok (.getfield 12, 3) := by decide +kernel
theorem dX8_movesByPieces_8 : decode cX8_movesByPieces 8 = .ok (.getfield 69, 3) := by decide +kernel
theorem dX8_movesByPieces_11 : decode cX8_movesByPieces 11 = .ok (.iload_n 1, 1) := by decide +kernel
theorem dX8_movesByPieces_12 : decode cX8_movesByPieces 12 = .ok (.invokevirtual 129, 3) := by decide +kernel
theorem dX8_movesByPieces_15 : decode cX8_movesByPieces 15 = .ok (.ireturn, 1) := by decide +kernel
theorem dX8_movesBySquares_0 : decode cX8_movesBySquares 0 = .ok (.iload_n 1, 1) := by decide +kernel
theorem dX8_movesBySquares_1 : decode cX8_movesBySquares 1 = .ok (.invokestatic 113, 3) := by decide +kernel
theorem dX8_movesBySquares_4 : decode cX8_movesBySquares 4 = .ok (.aload_n 0, 1) := by decide +kernel
theorem dX8_movesBySquares_5 : decode cX8_movesBySquares 5 = .ok (.getfield 12, 3) := by decide +kernel
theorem dX8_movesBySquares_8 : decode cX8_movesBySquares 8 = .ok (.getfield 69, 3) := by decide +kernel
theorem dX8_movesBySquares_11 : decode cX8_movesBySquares 11 = .ok (.iload_n 1, 1) := by decide +kernel
theorem dX8_movesBySquares_12 : decode cX8_movesBySquares 12 = .ok (.invokevirtual 228, 3) := by decide +kernel
theorem dX8_movesBySquares_15 : decode cX8_movesBySquares 15 = .ok (.ireturn, 1) := by decide +kernel
theorem dX8_wouldTake_0 : decode cX8_wouldTake 0 = .ok (.aload_n 0, 1) := by decide +kernel
theorem dX8_wouldTake_1 : decode cX8_wouldTake 1 = .ok (.iload_n 1, 1) := by decide +kernel
theorem dX8_wouldTake_2 : decode cX8_wouldTake 2 = .ok (.iload_n 2, 1) := by decide +kernel
theorem dX8_wouldTake_3 : decode cX8_wouldTake 3 = .ok (.invokevirtual 231, 3) := by decide +kernel
theorem dX8_wouldTake_6 : decode cX8_wouldTake 6 = .ok (.aload_n 0, 1) := by decide +kernel
theorem dX8_wouldTake_7 : decode cX8_wouldTake 7 = .ok (.getfield 51, 3) := by decide +kernel
theorem dX8_wouldTake_10 : decode cX8_wouldTake 10 = .ok (.aload_n 0, 1) := by decide +kernel
theorem dX8_wouldTake_11 : decode cX8_wouldTake 11 = .ok (.getfield 12, 3) := by decide +kernel
theorem dX8_wouldTake_14 : decode cX8_wouldTake 14 = .ok (.getfield 69, 3) := by decide +kernel
theorem dX8_wouldTake_17 : decode cX8_wouldTake 17 = .ok (.iload_n 1, 1) := by decide +kernel
theorem dX8_wouldTake_18 : decode cX8_wouldTake 18 = .ok (.iload_n 2, 1) := by decide +kernel
theorem dX8_wouldTake_19 : decode cX8_wouldTake 19 = .ok (.invokevirtual 234, 3) := by decide +kernel
theorem dX8_wouldTake_22 : decode cX8_wouldTake 22 = .ok (.ireturn, 1) := by decide +kernel
theorem dX8_wouldWin_0 : decode cX8_wouldWin 0 = .ok (.aload_n 0, 1) := by decide +kernel
theorem dX8_wouldWin_1 : decode cX8_wouldWin 1 = .ok (.iload_n 1, 1) := by decide +kernel
theorem dX8_wouldWin_2 : decode cX8_wouldWin 2 = .ok (.iload_n 2, 1) := by decide +kernel
theorem dX8_wouldWin_3 : decode cX8_wouldWin 3 = .ok (.invokevirtual 231, 3) := by decide +kernel
theorem dX8_wouldWin_6 : decode cX8_wouldWin 6 = .ok (.aload_n 0, 1) := by decide +kernel
theorem dX8_wouldWin_7 : decode cX8_wouldWin 7 = .ok (.getfield 51, 3) := by decide +kernel
theorem dX8_wouldWin_10 : decode cX8_wouldWin 10 = .ok (.aload_n 0, 1) := by decide +kernel
theorem dX8_wouldWin_11 : decode cX8_wouldWin 11 = .ok (.getfield 12, 3) := by decide +kernel
theorem dX8_wouldWin_14 : decode cX8_wouldWin 14 = .ok (.getfield 69, 3) := by decide +kernel
theorem dX8_wouldWin_17 : decode cX8_wouldWin 17 = .ok (.iload_n 1, 1) := by decide +kernel
theorem dX8_wouldWin_18 : decode cX8_wouldWin 18 = .ok (.iload_n 2, 1) := by decide +kernel
theorem dX8_wouldWin_19 : decode cX8_wouldWin 19 = .ok (.invokevirtual 238, 3) := by decide +kernel
theorem dX8_wouldWin_22 : decode cX8_wouldWin 22 = .ok (.ireturn, 1) := by decide +kernel
theorem dX8_winningMoves_0 : decode cX8_winningMoves 0 = .ok (.iload_n 1, 1) := by decide +kernel
theorem dX8_winningMoves_1 : decode cX8_winningMoves 1 = .ok (.invokestatic 113, 3) := by decide +kernel
theorem dX8_winningMoves_4 : decode cX8_winningMoves 4 = .ok (.aload_n 0, 1) := by decide +kernel
theorem dX8_winningMoves_5 : decode cX8_winningMoves 5 = .ok (.getfield 51, 3) := by decide +kernel
theorem dX8_winningMoves_8 : decode cX8_winningMoves 8 = .ok (.aload_n 0, 1) := by decide +kernel
theorem dX8_winningMoves_9 : decode cX8_winningMoves 9 = .ok (.getfield 12, 3) := by decide +kernel
theorem dX8_winningMoves_12 : decode cX8_winningMoves 12 = .ok (.getfield 69, 3) := by decide +kernel
theorem dX8_winningMoves_15 : decode cX8_winningMoves 15 = .ok (.iload_n 1, 1) := by decide +kernel
theorem dX8_winningMoves_16 : decode cX8_winningMoves 16 = .ok (.invokevirtual 242, 3) := by decide +kernel
theorem dX8_winningMoves_19 : decode cX8_winningMoves 19 = .ok (.ireturn, 1) := by decide +kernel
theorem dX8_moveAt_0 : decode cX8_moveAt 0 = .ok (.iload_n 1, 1) := by decide +kernel
theorem dX8_moveAt_1 : decode cX8_moveAt 1 = .ok (.invokestatic 113, 3) := by decide +kernel
theorem dX8_moveAt_4 : decode cX8_moveAt 4 = .ok (.aload_n 0, 1) := by decide +kernel
theorem dX8_moveAt_5 : decode cX8_moveAt 5 = .ok (.getfield 12, 3) := by decide +kernel
theorem dX8_moveAt_8 : decode cX8_moveAt 8 = .ok (.getfield 69, 3) := by decide +kernel
theorem dX8_moveAt_11 : decode cX8_moveAt 11 = .ok (.iload_n 1, 1) := by decide +kernel
theorem dX8_moveAt_12 : decode cX8_moveAt 12 = .ok (.aload_n 0, 1) := by decide +kernel
theorem dX8_moveAt_13 : decode cX8_moveAt 13 = .ok (.getfield 44, 3) := by decide +kernel
theorem dX8_moveAt_16 : decode cX8_moveAt 16 = .ok (.invokevirtual 246, 3) := by decide +kernel
theorem dX8_moveAt_19 : decode cX8_moveAt 19 = .ok (.iload_n 2, 1) := by decide +kernel
theorem dX8_moveAt_20 : decode cX8_moveAt 20 = .ok (.ifCond .lt 14, 3) := by decide +kernel
theorem dX8_moveAt_23 : decode cX8_moveAt 23 = .ok (.iload_n 2, 1) := by decide +kernel
theorem dX8_moveAt_24 : decode cX8_moveAt 24 = .ok (.aload_n 0, 1) := by decide +kernel
theorem dX8_moveAt_25 : decode cX8_moveAt 25 = .ok (.getfield 44, 3) := by decide +kernel
theorem dX8_moveAt_28 : decode cX8_moveAt 28 = .ok (.getfield 250, 3) := by decide +kernel
theorem dX8_moveAt_31 : decode cX8_moveAt 31 = .ok (.if_icmp .lt 13, 3) := by decide +kernel
theorem dX8_moveAt_34 : decode cX8_moveAt 34 = .ok (.new 251, 3) := by decide +kernel
theorem dX8_moveAt_37 : decode cX8_moveAt 37 = .ok (.dup, 1) := by decide +kernel
theorem dX8_moveAt_38 : decode cX8_moveAt 38 = .ok (.ldc 253, 2) := by decide +kernel
theorem dX8_moveAt_40 : decode cX8_moveAt 40 = .ok (.invokespecial 255, 3) := by decide +kernel
theorem dX8_moveAt_43 : decode cX8_moveAt 43 = .ok (.athrow, 1) := by decide +kernel
theorem dX8_moveAt_44 : decode cX8_moveAt 44 = .ok (.aload_n 0, 1) := by decide +kernel
theorem dX8_moveAt_45 : decode cX8_moveAt 45 = .ok (.getfield 44, 3) := by decide +kernel
theorem dX8_moveAt_48 : decode cX8_moveAt 48 = .ok (.iload_n 2, 1) := by decide +kernel
theorem dX8_moveAt_49 : decode cX8_moveAt 49 = .ok (.invokevirtual 256, 3) := by decide +kernel
theorem dX8_moveAt_52 : decode cX8_moveAt 52 = .ok (.ireturn, 1) := by decide +kernel
theorem dX8_kingMovesByRounds_0 : decode cX8_kingMovesByRounds 0 = .ok (.aload_n 0, 1) := by decide +kernel
theorem dX8_kingMovesByRounds_1 : decode cX8_kingMovesByRounds 1 = .ok (.getfield 58, 3) := by decide +kernel
theorem dX8_kingMovesByRounds_4 : decode cX8_kingMovesByRounds 4 = .ok (.aload_n 0, 1) := by decide +kernel
theorem dX8_kingMovesByRounds_5 : decode cX8_kingMovesByRounds 5 = .ok (.getfield 12, 3) := by decide +kernel
theorem dX8_kingMovesByRounds_8 : decode cX8_kingMovesByRounds 8 = .ok (.getfield 69, 3) := by decide +kernel
theorem dX8_kingMovesByRounds_11 : decode cX8_kingMovesByRounds 11 = .ok (.invokevirtual 259, 3) := by decide +kernel
theorem dX8_kingMovesByRounds_14 : decode cX8_kingMovesByRounds 14 = .ok (.istore_n 1, 1) := by decide +kernel
theorem dX8_kingMovesByRounds_15 : decode cX8_kingMovesByRounds 15 = .ok (.iload_n 1, 1) := by decide +kernel
theorem dX8_kingMovesByRounds_16 : decode cX8_kingMovesByRounds 16 = .ok (.ifCond .ge 14, 3) := by decide +kernel
theorem dX8_kingMovesByRounds_19 : decode cX8_kingMovesByRounds 19 = .ok (.new 101, 3) := by decide +kernel
theorem dX8_kingMovesByRounds_22 : decode cX8_kingMovesByRounds 22 = .ok (.dup, 1) := by decide +kernel
theorem dX8_kingMovesByRounds_23 : decode cX8_kingMovesByRounds 23 = .ok (.ldc_w 263, 3) := by decide +kernel
theorem dX8_kingMovesByRounds_26 : decode cX8_kingMovesByRounds 26 = .ok (.invokespecial 105, 3) := by decide +kernel
theorem dX8_kingMovesByRounds_29 : decode cX8_kingMovesByRounds 29 = .ok (.athrow, 1) := by decide +kernel
theorem dX8_kingMovesByRounds_30 : decode cX8_kingMovesByRounds 30 = .ok (.iload_n 1, 1) := by decide +kernel
theorem dX8_kingMovesByRounds_31 : decode cX8_kingMovesByRounds 31 = .ok (.ireturn, 1) := by decide +kernel
theorem dX8_kingMovesByCorners_0 : decode cX8_kingMovesByCorners 0 = .ok (.aload_n 0, 1) := by decide +kernel
theorem dX8_kingMovesByCorners_1 : decode cX8_kingMovesByCorners 1 = .ok (.getfield 58, 3) := by decide +kernel
theorem dX8_kingMovesByCorners_4 : decode cX8_kingMovesByCorners 4 = .ok (.aload_n 0, 1) := by decide +kernel
theorem dX8_kingMovesByCorners_5 : decode cX8_kingMovesByCorners 5 = .ok (.getfield 12, 3) := by decide +kernel
theorem dX8_kingMovesByCorners_8 : decode cX8_kingMovesByCorners 8 = .ok (.getfield 69, 3) := by decide +kernel
theorem dX8_kingMovesByCorners_11 : decode cX8_kingMovesByCorners 11 = .ok (.invokevirtual 265, 3) := by decide +kernel
theorem dX8_kingMovesByCorners_14 : decode cX8_kingMovesByCorners 14 = .ok (.istore_n 1, 1) := by decide +kernel
theorem dX8_kingMovesByCorners_15 : decode cX8_kingMovesByCorners 15 = .ok (.iload_n 1, 1) := by decide +kernel
theorem dX8_kingMovesByCorners_16 : decode cX8_kingMovesByCorners 16 = .ok (.ifCond .ge 14, 3) := by decide +kernel
theorem dX8_kingMovesByCorners_19 : decode cX8_kingMovesByCorners 19 = .ok (.new 101, 3) := by decide +kernel
theorem dX8_kingMovesByCorners_22 : decode cX8_kingMovesByCorners 22 = .ok (.dup, 1) := by decide +kernel
theorem dX8_kingMovesByCorners_23 : decode cX8_kingMovesByCorners 23 = .ok (.ldc_w 263, 3) := by decide +kernel
theorem dX8_kingMovesByCorners_26 : decode cX8_kingMovesByCorners 26 = .ok (.invokespecial 105, 3) := by decide +kernel
theorem dX8_kingMovesByCorners_29 : decode cX8_kingMovesByCorners 29 = .ok (.athrow, 1) := by decide +kernel
theorem dX8_kingMovesByCorners_30 : decode cX8_kingMovesByCorners 30 = .ok (.iload_n 1, 1) := by decide +kernel
theorem dX8_kingMovesByCorners_31 : decode cX8_kingMovesByCorners 31 = .ok (.ireturn, 1) := by decide +kernel
theorem dX8_openCorners_0 : decode cX8_openCorners 0 = .ok (.aload_n 0, 1) := by decide +kernel
theorem dX8_openCorners_1 : decode cX8_openCorners 1 = .ok (.getfield 12, 3) := by decide +kernel
theorem dX8_openCorners_4 : decode cX8_openCorners 4 = .ok (.getfield 69, 3) := by decide +kernel
theorem dX8_openCorners_7 : decode cX8_openCorners 7 = .ok (.invokevirtual 268, 3) := by decide +kernel
theorem dX8_openCorners_10 : decode cX8_openCorners 10 = .ok (.ireturn, 1) := by decide +kernel
theorem dX8_kingReach_0 : decode cX8_kingReach 0 = .ok (.aload_n 0, 1) := by decide +kernel
theorem dX8_kingReach_1 : decode cX8_kingReach 1 = .ok (.getfield 58, 3) := by decide +kernel
theorem dX8_kingReach_4 : decode cX8_kingReach 4 = .ok (.aload_n 0, 1) := by decide +kernel
theorem dX8_kingReach_5 : decode cX8_kingReach 5 = .ok (.getfield 12, 3) := by decide +kernel
theorem dX8_kingReach_8 : decode cX8_kingReach 8 = .ok (.getfield 69, 3) := by decide +kernel
theorem dX8_kingReach_11 : decode cX8_kingReach 11 = .ok (.invokevirtual 271, 3) := by decide +kernel
theorem dX8_kingReach_14 : decode cX8_kingReach 14 = .ok (.ireturn, 1) := by decide +kernel
theorem dX8_kingPressure_0 : decode cX8_kingPressure 0 = .ok (.aload_n 0, 1) := by decide +kernel
theorem dX8_kingPressure_1 : decode cX8_kingPressure 1 = .ok (.invokevirtual 203, 3) := by decide +kernel
theorem dX8_kingPressure_4 : decode cX8_kingPressure 4 = .ok (.aload_n 0, 1) := by decide +kernel
theorem dX8_kingPressure_5 : decode cX8_kingPressure 5 = .ok (.getfield 12, 3) := by decide +kernel
theorem dX8_kingPressure_8 : decode cX8_kingPressure 8 = .ok (.getfield 69, 3) := by decide +kernel
theorem dX8_kingPressure_11 : decode cX8_kingPressure 11 = .ok (.invokevirtual 274, 3) := by decide +kernel
theorem dX8_kingPressure_14 : decode cX8_kingPressure 14 = .ok (.ireturn, 1) := by decide +kernel
theorem dX8_worthOf_0 : decode cX8_worthOf 0 = .ok (.aload_n 0, 1) := by decide +kernel
theorem dX8_worthOf_1 : decode cX8_worthOf 1 = .ok (.iload_n 1, 1) := by decide +kernel
theorem dX8_worthOf_2 : decode cX8_worthOf 2 = .ok (.iload_n 2, 1) := by decide +kernel
theorem dX8_worthOf_3 : decode cX8_worthOf 3 = .ok (.invokevirtual 231, 3) := by decide +kernel
theorem dX8_worthOf_6 : decode cX8_worthOf 6 = .ok (.aload_n 0, 1) := by decide +kernel
theorem dX8_worthOf_7 : decode cX8_worthOf 7 = .ok (.getfield 51, 3) := by decide +kernel
theorem dX8_worthOf_10 : decode cX8_worthOf 10 = .ok (.aload_n 0, 1) := by decide +kernel
theorem dX8_worthOf_11 : decode cX8_worthOf 11 = .ok (.getfield 12, 3) := by decide +kernel
theorem dX8_worthOf_14 : decode cX8_worthOf 14 = .ok (.getfield 69, 3) := by decide +kernel
theorem dX8_worthOf_17 : decode cX8_worthOf 17 = .ok (.iload_n 1, 1) := by decide +kernel
theorem dX8_worthOf_18 : decode cX8_worthOf 18 = .ok (.iload_n 2, 1) := by decide +kernel
theorem dX8_worthOf_19 : decode cX8_worthOf 19 = .ok (.invokevirtual 277, 3) := by decide +kernel
theorem dX8_worthOf_22 : decode cX8_worthOf 22 = .ok (.ireturn, 1) := by decide +kernel
theorem dX8_bestMove_0 : decode cX8_bestMove 0 = .ok (.iload_n 1, 1) := by decide +kernel
theorem dX8_bestMove_1 : decode cX8_bestMove 1 = .ok (.invokestatic 113, 3) := by decide +kernel
theorem dX8_bestMove_4 : decode cX8_bestMove 4 = .ok (.aload_n 0, 1) := by decide +kernel
theorem dX8_bestMove_5 : decode cX8_bestMove 5 = .ok (.getfield 12, 3) := by decide +kernel
theorem dX8_bestMove_8 : decode cX8_bestMove 8 = .ok (.getfield 69, 3) := by decide +kernel
theorem dX8_bestMove_11 : decode cX8_bestMove 11 = .ok (.iload_n 1, 1) := by decide +kernel
theorem dX8_bestMove_12 : decode cX8_bestMove 12 = .ok (.aload_n 0, 1) := by decide +kernel
theorem dX8_bestMove_13 : decode cX8_bestMove 13 = .ok (.getfield 44, 3) := by decide +kernel
theorem dX8_bestMove_16 : decode cX8_bestMove 16 = .ok (.invokevirtual 246, 3) := by decide +kernel
theorem dX8_bestMove_19 : decode cX8_bestMove 19 = .ok (.aload_n 0, 1) := by decide +kernel
theorem dX8_bestMove_20 : decode cX8_bestMove 20 = .ok (.getfield 44, 3) := by decide +kernel
theorem dX8_bestMove_23 : decode cX8_bestMove 23 = .ok (.getfield 250, 3) := by decide +kernel
theorem dX8_bestMove_26 : decode cX8_bestMove 26 = .ok (.ifCond .ne 14, 3) := by decide +kernel
theorem dX8_bestMove_29 : decode cX8_bestMove 29 = .ok (.new 101, 3) := by decide +kernel
theorem dX8_bestMove_32 : decode cX8_bestMove 32 = .ok (.dup, 1) := by decide +kernel
theorem dX8_bestMove_33 : decode cX8_bestMove 33 = .ok (.ldc_w 280, 3) := by decide +kernel
theorem dX8_bestMove_36 : decode cX8_bestMove 36 = .ok (.invokespecial 105, 3) := by decide +kernel
theorem dX8_bestMove_39 : decode cX8_bestMove 39 = .ok (.athrow, 1) := by decide +kernel
theorem dX8_bestMove_40 : decode cX8_bestMove 40 = .ok (.iconst (-1), 1) := by decide +kernel
theorem dX8_bestMove_41 : decode cX8_bestMove 41 = .ok (.istore_n 2, 1) := by decide +kernel
theorem dX8_bestMove_42 : decode cX8_bestMove 42 = .ok (.iconst 0, 1) := by decide +kernel
theorem dX8_bestMove_43 : decode cX8_bestMove 43 = .ok (.istore_n 3, 1) := by decide +kernel
theorem dX8_bestMove_44 : decode cX8_bestMove 44 = .ok (.iconst 0, 1) := by decide +kernel
theorem dX8_bestMove_45 : decode cX8_bestMove 45 = .ok (.istore 4, 2) := by decide +kernel
theorem dX8_bestMove_47 : decode cX8_bestMove 47 = .ok (.iload 4, 2) := by decide +kernel
theorem dX8_bestMove_49 : decode cX8_bestMove 49 = .ok (.aload_n 0, 1) := by decide +kernel
theorem dX8_bestMove_50 : decode cX8_bestMove 50 = .ok (.getfield 44, 3) := by decide +kernel
theorem dX8_bestMove_53 : decode cX8_bestMove 53 = .ok (.getfield 250, 3) := by decide +kernel
theorem dX8_bestMove_56 : decode cX8_bestMove 56 = .ok (.if_icmp .ge 62, 3) := by decide +kernel
theorem dX8_bestMove_59 : decode cX8_bestMove 59 = .ok (.aload_n 0, 1) := by decide +kernel
theorem dX8_bestMove_60 : decode cX8_bestMove 60 = .ok (.getfield 44, 3) := by decide +kernel
theorem dX8_bestMove_63 : decode cX8_bestMove 63 = .ok (.iload 4, 2) := by decide +kernel
theorem dX8_bestMove_65 : decode cX8_bestMove 65 = .ok (.invokevirtual 256, 3) := by decide +kernel
theorem dX8_bestMove_68 : decode cX8_bestMove 68 = .ok (.istore 5, 2) := by decide +kernel
theorem dX8_bestMove_70 : decode cX8_bestMove 70 = .ok (.aload_n 0, 1) := by decide +kernel
theorem dX8_bestMove_71 : decode cX8_bestMove 71 = .ok (.getfield 51, 3) := by decide +kernel
theorem dX8_bestMove_74 : decode cX8_bestMove 74 = .ok (.aload_n 0, 1) := by decide +kernel
theorem dX8_bestMove_75 : decode cX8_bestMove 75 = .ok (.getfield 12, 3) := by decide +kernel
theorem dX8_bestMove_78 : decode cX8_bestMove 78 = .ok (.getfield 69, 3) := by decide +kernel
theorem dX8_bestMove_81 : decode cX8_bestMove 81 = .ok (.iload 5, 2) := by decide +kernel
theorem dX8_bestMove_83 : decode cX8_bestMove 83 = .ok (.bipush 49, 2) := by decide +kernel
theorem dX8_bestMove_85 : decode cX8_bestMove 85 = .ok (.idiv, 1) := by decide +kernel
theorem dX8_bestMove_86 : decode cX8_bestMove 86 = .ok (.iload 5, 2) := by decide +kernel
theorem dX8_bestMove_88 : decode cX8_bestMove 88 = .ok (.bipush 49, 2) := by decide +kernel
theorem dX8_bestMove_90 : decode cX8_bestMove 90 = .ok (.irem, 1) := by decide +kernel
theorem dX8_bestMove_91 : decode cX8_bestMove 91 = .ok (.invokevirtual 277, 3) := by decide +kernel
theorem dX8_bestMove_94 : decode cX8_bestMove 94 = .ok (.istore 6, 2) := by decide +kernel
theorem dX8_bestMove_96 : decode cX8_bestMove 96 = .ok (.iload_n 2, 1) := by decide +kernel
theorem dX8_bestMove_97 : decode cX8_bestMove 97 = .ok (.ifCond .lt 9, 3) := by decide +kernel
theorem dX8_bestMove_100 : decode cX8_bestMove 100 = .ok (.iload 6, 2) := by decide +kernel
theorem dX8_bestMove_102 : decode cX8_bestMove 102 = .ok (.iload_n 3, 1) := by decide +kernel
theorem dX8_bestMove_103 : decode cX8_bestMove 103 = .ok (.if_icmp .le 9, 3) := by decide +kernel
theorem dX8_bestMove_106 : decode cX8_bestMove 106 = .ok (.iload 5, 2) := by decide +kernel
theorem dX8_bestMove_108 : decode cX8_bestMove 108 = .ok (.istore_n 2, 1) := by decide +kernel
theorem dX8_bestMove_109 : decode cX8_bestMove 109 = .ok (.iload 6, 2) := by decide +kernel
theorem dX8_bestMove_111 : decode cX8_bestMove 111 = .ok (.istore_n 3, 1) := by decide +kernel
theorem dX8_bestMove_112 : decode cX8_bestMove 112 = .ok (.iinc 4 1, 3) := by decide +kernel
theorem dX8_bestMove_115 : decode cX8_bestMove 115 = .ok (.goto (-68), 3) := by decide +kernel
theorem dX8_bestMove_118 : decode cX8_bestMove 118 = .ok (.iload_n 2, 1) := by decide +kernel
theorem dX8_bestMove_119 : decode cX8_bestMove 119 = .ok (.ireturn, 1) := by decide +kernel
theorem dX8_wins_0 : decode cX8_wins 0 = .ok (.iload_n 1, 1) := by decide +kernel
theorem dX8_wins_1 : decode cX8_wins 1 = .ok (.invokestatic 113, 3) := by decide +kernel
theorem dX8_wins_4 : decode cX8_wins 4 = .ok (.iload_n 1, 1) := by decide +kernel
theorem dX8_wins_5 : decode cX8_wins 5 = .ok (.ifCond .ne 13, 3) := by decide +kernel
theorem dX8_wins_8 : decode cX8_wins 8 = .ok (.aload_n 0, 1) := by decide +kernel
theorem dX8_wins_9 : decode cX8_wins 9 = .ok (.getfield 12, 3) := by decide +kernel
theorem dX8_wins_12 : decode cX8_wins 12 = .ok (.getfield 282, 3) := by decide +kernel
theorem dX8_wins_15 : decode cX8_wins 15 = .ok (.goto 10, 3) := by decide +kernel
theorem dX8_wins_18 : decode cX8_wins 18 = .ok (.aload_n 0, 1) := by decide +kernel
theorem dX8_wins_19 : decode cX8_wins 19 = .ok (.getfield 12, 3) := by decide +kernel
theorem dX8_wins_22 : decode cX8_wins 22 = .ok (.getfield 285, 3) := by decide +kernel
theorem dX8_wins_25 : decode cX8_wins 25 = .ok (.ireturn, 1) := by decide +kernel
theorem dX8_takenOf_0 : decode cX8_takenOf 0 = .ok (.iload_n 1, 1) := by decide +kernel
theorem dX8_takenOf_1 : decode cX8_takenOf 1 = .ok (.invokestatic 113, 3) := by decide +kernel
theorem dX8_takenOf_4 : decode cX8_takenOf 4 = .ok (.iload_n 1, 1) := by decide +kernel
theorem dX8_takenOf_5 : decode cX8_takenOf 5 = .ok (.ifCond .ne 13, 3) := by decide +kernel
theorem dX8_takenOf_8 : decode cX8_takenOf 8 = .ok (.aload_n 0, 1) := by decide +kernel
theorem dX8_takenOf_9 : decode cX8_takenOf 9 = .ok (.getfield 12, 3) := by decide +kernel
theorem dX8_takenOf_12 : decode cX8_takenOf 12 = .ok (.getfield 291, 3) := by decide +kernel
theorem dX8_takenOf_15 : decode cX8_takenOf 15 = .ok (.goto 10, 3) := by decide +kernel
theorem dX8_takenOf_18 : decode cX8_takenOf 18 = .ok (.aload_n 0, 1) := by decide +kernel
theorem dX8_takenOf_19 : decode cX8_takenOf 19 = .ok (.getfield 12, 3) := by decide +kernel
theorem dX8_takenOf_22 : decode cX8_takenOf 22 = .ok (.getfield 294, 3) := by decide +kernel
theorem dX8_takenOf_25 : decode cX8_takenOf 25 = .ok (.ireturn, 1) := by decide +kernel
theorem dX8_allMoves_0 : decode cX8_allMoves 0 = .ok (.aload_n 0, 1) := by decide +kernel
theorem dX8_allMoves_1 : decode cX8_allMoves 1 = .ok (.getfield 12, 3) := by decide +kernel
theorem dX8_allMoves_4 : decode cX8_allMoves 4 = .ok (.getfield 297, 3) := by decide +kernel
theorem dX8_allMoves_7 : decode cX8_allMoves 7 = .ok (.ireturn, 1) := by decide +kernel
theorem dX8_digest_0 : decode cX8_digest 0 = .ok (.aload_n 0, 1) := by decide +kernel
theorem dX8_digest_1 : decode cX8_digest 1 = .ok (.ldc2_w 305, 3) := by decide +kernel
theorem dX8_digest_4 : decode cX8_digest 4 = .ok (.invokevirtual 307, 3) := by decide +kernel
theorem dX8_digest_7 : decode cX8_digest 7 = .ok (.lstore_n 1, 1) := by decide +kernel
theorem dX8_digest_8 : decode cX8_digest 8 = .ok (.aload_n 0, 1) := by decide +kernel
theorem dX8_digest_9 : decode cX8_digest 9 = .ok (.lload_n 1, 1) := by decide +kernel
theorem dX8_digest_10 : decode cX8_digest 10 = .ok (.invokevirtual 311, 3) := by decide +kernel
theorem dX8_digest_13 : decode cX8_digest 13 = .ok (.lstore_n 1, 1) := by decide +kernel
theorem dX8_digest_14 : decode cX8_digest 14 = .ok (.aload_n 0, 1) := by decide +kernel
theorem dX8_digest_15 : decode cX8_digest 15 = .ok (.lload_n 1, 1) := by decide +kernel
theorem dX8_digest_16 : decode cX8_digest 16 = .ok (.iconst 0, 1) := by decide +kernel
theorem dX8_digest_17 : decode cX8_digest 17 = .ok (.invokevirtual 314, 3) := by decide +kernel
theorem dX8_digest_20 : decode cX8_digest 20 = .ok (.lstore_n 1, 1) := by decide +kernel
theorem dX8_digest_21 : decode cX8_digest 21 = .ok (.aload_n 0, 1) := by decide +kernel
theorem dX8_digest_22 : decode cX8_digest 22 = .ok (.lload_n 1, 1) := by decide +kernel
theorem dX8_digest_23 : decode cX8_digest 23 = .ok (.iconst 1, 1) := by decide +kernel
theorem dX8_digest_24 : decode cX8_digest 24 = .ok (.invokevirtual 314, 3) := by decide +kernel
theorem dX8_digest_27 : decode cX8_digest 27 = .ok (.lstore_n 1, 1) := by decide +kernel
theorem dX8_digest_28 : decode cX8_digest 28 = .ok (.aload_n 0, 1) := by decide +kernel
theorem dX8_digest_29 : decode cX8_digest 29 = .ok (.lload_n 1, 1) := by decide +kernel
theorem dX8_digest_30 : decode cX8_digest 30 = .ok (.invokevirtual 318, 3) := by decide +kernel
theorem dX8_digest_33 : decode cX8_digest 33 = .ok (.lstore_n 1, 1) := by decide +kernel
theorem dX8_digest_34 : decode cX8_digest 34 = .ok (.aload_n 0, 1) := by decide +kernel
theorem dX8_digest_35 : decode cX8_digest 35 = .ok (.lload_n 1, 1) := by decide +kernel
theorem dX8_digest_36 : decode cX8_digest 36 = .ok (.invokevirtual 321, 3) := by decide +kernel
theorem dX8_digest_39 : decode cX8_digest 39 = .ok (.lstore_n 1, 1) := by decide +kernel
theorem dX8_digest_40 : decode cX8_digest 40 = .ok (.aload_n 0, 1) := by decide +kernel
theorem dX8_digest_41 : decode cX8_digest 41 = .ok (.lload_n 1, 1) := by decide +kernel
theorem dX8_digest_42 : decode cX8_digest 42 = .ok (.invokevirtual 324, 3) := by decide +kernel
theorem dX8_digest_45 : decode cX8_digest 45 = .ok (.lreturn, 1) := by decide +kernel
theorem dX8_mix_0 : decode cX8_mix 0 = .ok (.ldc2_w 327, 3) := by decide +kernel
theorem dX8_mix_3 : decode cX8_mix 3 = .ok (.lload_n 0, 1) := by decide +kernel
theorem dX8_mix_4 : decode cX8_mix 4 = .ok (.lmul, 1) := by decide +kernel
theorem dX8_mix_5 : decode cX8_mix 5 = .ok (.lload_n 2, 1) := by decide +kernel
theorem dX8_mix_6 : decode cX8_mix 6 = .ok (.ladd, 1) := by decide +kernel
theorem dX8_mix_7 : decode cX8_mix 7 = .ok (.lreturn, 1) := by decide +kernel
theorem dX8_mixSquares_0 : decode cX8_mixSquares 0 = .ok (.lload_n 1, 1) := by decide +kernel
theorem dX8_mixSquares_1 : decode cX8_mixSquares 1 = .ok (.lstore_n 3, 1) := by decide +kernel
theorem dX8_mixSquares_2 : decode cX8_mixSquares 2 = .ok (.aload_n 0, 1) := by decide +kernel
theorem dX8_mixSquares_3 : decode cX8_mixSquares 3 = .ok (.getfield 12, 3) := by decide +kernel
theorem dX8_mixSquares_6 : decode cX8_mixSquares 6 = .ok (.getfield 69, 3) := by decide +kernel
theorem dX8_mixSquares_9 : decode cX8_mixSquares 9 = .ok (.astore 5, 2) := by decide +kernel
theorem dX8_mixSquares_11 : decode cX8_mixSquares 11 = .ok (.iconst 0, 1) := by decide +kernel
theorem dX8_mixSquares_12 : decode cX8_mixSquares 12 = .ok (.istore 6, 2) := by decide +kernel
theorem dX8_mixSquares_14 : decode cX8_mixSquares 14 = .ok (.iload 6, 2) := by decide +kernel
theorem dX8_mixSquares_16 : decode cX8_mixSquares 16 = .ok (.bipush 49, 2) := by decide +kernel
theorem dX8_mixSquares_18 : decode cX8_mixSquares 18 = .ok (.if_icmp .ge 77, 3) := by decide +kernel
theorem dX8_mixSquares_21 : decode cX8_mixSquares 21 = .ok (.lload_n 3, 1) := by decide +kernel
theorem dX8_mixSquares_22 : decode cX8_mixSquares 22 = .ok (.aload 5, 2) := by decide +kernel
theorem dX8_mixSquares_24 : decode cX8_mixSquares 24 = .ok (.iload 6, 2) := by decide +kernel
theorem dX8_mixSquares_26 : decode cX8_mixSquares 26 = .ok (.invokevirtual 106, 3) := by decide +kernel
theorem dX8_mixSquares_29 : decode cX8_mixSquares 29 = .ok (.i2l, 1) := by decide +kernel
theorem dX8_mixSquares_30 : decode cX8_mixSquares 30 = .ok (.invokestatic 329, 3) := by decide +kernel
theorem dX8_mixSquares_33 : decode cX8_mixSquares 33 = .ok (.lstore_n 3, 1) := by decide +kernel
theorem dX8_mixSquares_34 : decode cX8_mixSquares 34 = .ok (.lload_n 3, 1) := by decide +kernel
theorem dX8_mixSquares_35 : decode cX8_mixSquares 35 = .ok (.aload 5, 2) := by decide +kernel
theorem dX8_mixSquares_37 : decode cX8_mixSquares 37 = .ok (.iconst 0, 1) := by decide +kernel
theorem dX8_mixSquares_38 : decode cX8_mixSquares 38 = .ok (.iload 6, 2) := by decide +kernel
theorem dX8_mixSquares_40 : decode cX8_mixSquares 40 = .ok (.invokevirtual 206, 3) := by decide +kernel
theorem dX8_mixSquares_43 : decode cX8_mixSquares 43 = .ok (.ifCond .eq 7, 3) := by decide +kernel
theorem dX8_mixSquares_46 : decode cX8_mixSquares 46 = .ok (.lconst 1, 1) := by decide +kernel
theorem dX8_mixSquares_47 : decode cX8_mixSquares 47 = .ok (.goto 4, 3) := by decide +kernel
theorem dX8_mixSquares_50 : decode cX8_mixSquares 50 = .ok (.lconst 0, 1) := by decide +kernel
theorem dX8_mixSquares_51 : decode cX8_mixSquares 51 = .ok (.invokestatic 329, 3) := by decide +kernel
theorem dX8_mixSquares_54 : decode cX8_mixSquares 54 = .ok (.lstore_n 3, 1) := by decide +kernel
theorem dX8_mixSquares_55 : decode cX8_mixSquares 55 = .ok (.lload_n 3, 1) := by decide +kernel
theorem dX8_mixSquares_56 : decode cX8_mixSquares 56 = .ok (.aload 5, 2) := by decide +kernel
theorem dX8_mixSquares_58 : decode cX8_mixSquares 58 = .ok (.iconst 1, 1) := by decide +kernel
theorem dX8_mixSquares_59 : decode cX8_mixSquares 59 = .ok (.iload 6, 2) := by decide +kernel
theorem dX8_mixSquares_61 : decode cX8_mixSquares 61 = .ok (.invokevirtual 206, 3) := by decide +kernel
theorem dX8_mixSquares_64 : decode cX8_mixSquares 64 = .ok (.ifCond .eq 7, 3) := by decide +kernel
theorem dX8_mixSquares_67 : decode cX8_mixSquares 67 = .ok (.lconst 1, 1) := by decide +kernel
theorem dX8_mixSquares_68 : decode cX8_mixSquares 68 = .ok (.goto 4, 3) := by decide +kernel
theorem dX8_mixSquares_71 : decode cX8_mixSquares 71 = .ok (.lconst 0, 1) := by decide +kernel
theorem dX8_mixSquares_72 : decode cX8_mixSquares 72 = .ok (.invokestatic 329, 3) := by decide +kernel
theorem dX8_mixSquares_75 : decode cX8_mixSquares 75 = .ok (.lstore_n 3, 1) := by decide +kernel
theorem dX8_mixSquares_76 : decode cX8_mixSquares 76 = .ok (.lload_n 3, 1) := by decide +kernel
theorem dX8_mixSquares_77 : decode cX8_mixSquares 77 = .ok (.aload 5, 2) := by decide +kernel
theorem dX8_mixSquares_79 : decode cX8_mixSquares 79 = .ok (.iload 6, 2) := by decide +kernel
theorem dX8_mixSquares_81 : decode cX8_mixSquares 81 = .ok (.invokevirtual 225, 3) := by decide +kernel
theorem dX8_mixSquares_84 : decode cX8_mixSquares 84 = .ok (.i2l, 1) := by decide +kernel
theorem dX8_mixSquares_85 : decode cX8_mixSquares 85 = .ok (.invokestatic 329, 3) := by decide +kernel
theorem dX8_mixSquares_88 : decode cX8_mixSquares 88 = .ok (.lstore_n 3, 1) := by decide +kernel
theorem dX8_mixSquares_89 : decode cX8_mixSquares 89 = .ok (.iinc 6 1, 3) := by decide +kernel
theorem dX8_mixSquares_92 : decode cX8_mixSquares 92 = .ok (.goto (-78), 3) := by decide +kernel
theorem dX8_mixSquares_95 : decode cX8_mixSquares 95 = .ok (.lload_n 3, 1) := by decide +kernel
theorem dX8_mixSquares_96 : decode cX8_mixSquares 96 = .ok (.lreturn, 1) := by decide +kernel
theorem dX8_mixGame_0 : decode cX8_mixGame 0 = .ok (.aload_n 0, 1) := by decide +kernel
theorem dX8_mixGame_1 : decode cX8_mixGame 1 = .ok (.getfield 12, 3) := by decide +kernel
theorem dX8_mixGame_4 : decode cX8_mixGame 4 = .ok (.getfield 69, 3) := by decide +kernel
theorem dX8_mixGame_7 : decode cX8_mixGame 7 = .ok (.astore_n 3, 1) := by decide +kernel
theorem dX8_mixGame_8 : decode cX8_mixGame 8 = .ok (.lload_n 1, 1) := by decide +kernel
theorem dX8_mixGame_9 : decode cX8_mixGame 9 = .ok (.aload_n 3, 1) := by decide +kernel
theorem dX8_mixGame_10 : decode cX8_mixGame 10 = .ok (.iconst 0, 1) := by decide +kernel
theorem dX8_mixGame_11 : decode cX8_mixGame 11 = .ok (.invokevirtual 200, 3) := by decide +kernel
theorem dX8_mixGame_14 : decode cX8_mixGame 14 = .ok (.i2l, 1) := by decide +kernel
theorem dX8_mixGame_15 : decode cX8_mixGame 15 = .ok (.invokestatic 329, 3) := by decide +kernel
theorem dX8_mixGame_18 : decode cX8_mixGame 18 = .ok (.lstore 4, 2) := by decide +kernel
theorem dX8_mixGame_20 : decode cX8_mixGame 20 = .ok (.lload 4, 2) := by decide +kernel
theorem dX8_mixGame_22 : decode cX8_mixGame 22 = .ok (.aload_n 3, 1) := by decide +kernel
theorem dX8_mixGame_23 : decode cX8_mixGame 23 = .ok (.iconst 1, 1) := by decide +kernel
theorem dX8_mixGame_24 : decode cX8_mixGame 24 = .ok (.invokevirtual 200, 3) := by decide +kernel
theorem dX8_mixGame_27 : decode cX8_mixGame 27 = .ok (.i2l, 1) := by decide +kernel
theorem dX8_mixGame_28 : decode cX8_mixGame 28 = .ok (.invokestatic 329, 3) := by decide +kernel
theorem dX8_mixGame_31 : decode cX8_mixGame 31 = .ok (.lstore 4, 2) := by decide +kernel
theorem dX8_mixGame_33 : decode cX8_mixGame 33 = .ok (.lload 4, 2) := by decide +kernel
theorem dX8_mixGame_35 : decode cX8_mixGame 35 = .ok (.aload_n 3, 1) := by decide +kernel
theorem dX8_mixGame_36 : decode cX8_mixGame 36 = .ok (.getfield 117, 3) := by decide +kernel
theorem dX8_mixGame_39 : decode cX8_mixGame 39 = .ok (.iconst 1, 1) := by decide +kernel
theorem dX8_mixGame_40 : decode cX8_mixGame 40 = .ok (.iadd, 1) := by decide +kernel
theorem dX8_mixGame_41 : decode cX8_mixGame 41 = .ok (.i2l, 1) := by decide +kernel
theorem dX8_mixGame_42 : decode cX8_mixGame 42 = .ok (.invokestatic 329, 3) := by decide +kernel
theorem dX8_mixGame_45 : decode cX8_mixGame 45 = .ok (.lstore 4, 2) := by decide +kernel
theorem dX8_mixGame_47 : decode cX8_mixGame 47 = .ok (.lload 4, 2) := by decide +kernel
theorem dX8_mixGame_49 : decode cX8_mixGame 49 = .ok (.aload_n 3, 1) := by decide +kernel
theorem dX8_mixGame_50 : decode cX8_mixGame 50 = .ok (.getfield 132, 3) := by decide +kernel
theorem dX8_mixGame_53 : decode cX8_mixGame 53 = .ok (.ifCond .eq 7, 3) := by decide +kernel
theorem dX8_mixGame_56 : decode cX8_mixGame 56 = .ok (.lconst 1, 1) := by decide +kernel
theorem dX8_mixGame_57 : decode cX8_mixGame 57 = .ok (.goto 4, 3) := by decide +kernel
theorem dX8_mixGame_60 : decode cX8_mixGame 60 = .ok (.lconst 0, 1) := by decide +kernel
theorem dX8_mixGame_61 : decode cX8_mixGame 61 = .ok (.invokestatic 329, 3) := by decide +kernel
theorem dX8_mixGame_64 : decode cX8_mixGame 64 = .ok (.lstore 4, 2) := by decide +kernel
theorem dX8_mixGame_66 : decode cX8_mixGame 66 = .ok (.lload 4, 2) := by decide +kernel
theorem dX8_mixGame_68 : decode cX8_mixGame 68 = .ok (.aload_n 0, 1) := by decide +kernel
theorem dX8_mixGame_69 : decode cX8_mixGame 69 = .ok (.getfield 12, 3) := by decide +kernel
theorem dX8_mixGame_72 : decode cX8_mixGame 72 = .ok (.getfield 93, 3) := by decide +kernel
theorem dX8_mixGame_75 : decode cX8_mixGame 75 = .ok (.i2l, 1) := by decide +kernel
theorem dX8_mixGame_76 : decode cX8_mixGame 76 = .ok (.invokestatic 329, 3) := by decide +kernel
theorem dX8_mixGame_79 : decode cX8_mixGame 79 = .ok (.lstore 4, 2) := by decide +kernel
theorem dX8_mixGame_81 : decode cX8_mixGame 81 = .ok (.lload 4, 2) := by decide +kernel
theorem dX8_mixGame_83 : decode cX8_mixGame 83 = .ok (.aload_n 0, 1) := by decide +kernel
theorem dX8_mixGame_84 : decode cX8_mixGame 84 = .ok (.getfield 12, 3) := by decide +kernel
theorem dX8_mixGame_87 : decode cX8_mixGame 87 = .ok (.getfield 93, 3) := by decide +kernel
theorem dX8_mixGame_90 : decode cX8_mixGame 90 = .ok (.iconst 1, 1) := by decide +kernel
theorem dX8_mixGame_91 : decode cX8_mixGame 91 = .ok (.if_icmp .ne 16, 3) := by decide +kernel
theorem dX8_mixGame_94 : decode cX8_mixGame 94 = .ok (.aload_n 0, 1) := by decide +kernel
theorem dX8_mixGame_95 : decode cX8_mixGame 95 = .ok (.getfield 12, 3) := by decide +kernel
theorem dX8_mixGame_98 : decode cX8_mixGame 98 = .ok (.getfield 211, 3) := by decide +kernel
theorem dX8_mixGame_101 : decode cX8_mixGame 101 = .ok (.iconst 1, 1) := by decide +kernel
theorem dX8_mixGame_102 : decode cX8_mixGame 102 = .ok (.iadd, 1) := by decide +kernel
theorem dX8_mixGame_103 : decode cX8_mixGame 103 = .ok (.i2l, 1) := by decide +kernel
theorem dX8_mixGame_104 : decode cX8_mixGame 104 = .ok (.goto 4, 3) := by decide +kernel
theorem dX8_mixGame_107 : decode cX8_mixGame 107 = .ok (.lconst 0, 1) := by decide +kernel
theorem dX8_mixGame_108 : decode cX8_mixGame 108 = .ok (.invokestatic 329, 3) := by decide +kernel
theorem dX8_mixGame_111 : decode cX8_mixGame 111 = .ok (.lstore 4, 2) := by decide +kernel
theorem dX8_mixGame_113 : decode cX8_mixGame 113 = .ok (.lload 4, 2) := by decide +kernel
theorem dX8_mixGame_115 : decode cX8_mixGame 115 = .ok (.aload_n 0, 1) := by decide +kernel
theorem dX8_mixGame_116 : decode cX8_mixGame 116 = .ok (.getfield 12, 3) := by decide +kernel
theorem dX8_mixGame_119 : decode cX8_mixGame 119 = .ok (.getfield 214, 3) := by decide +kernel
theorem dX8_mixGame_122 : decode cX8_mixGame 122 = .ok (.i2l, 1) := by decide +kernel
theorem dX8_mixGame_123 : decode cX8_mixGame 123 = .ok (.invokestatic 329, 3) := by decide +kernel
theorem dX8_mixGame_126 : decode cX8_mixGame 126 = .ok (.lstore 4, 2) := by decide +kernel
theorem dX8_mixGame_128 : decode cX8_mixGame 128 = .ok (.lload 4, 2) := by decide +kernel
theorem dX8_mixGame_130 : decode cX8_mixGame 130 = .ok (.aload_n 0, 1) := by decide +kernel
theorem dX8_mixGame_131 : decode cX8_mixGame 131 = .ok (.getfield 12, 3) := by decide +kernel
theorem dX8_mixGame_134 : decode cX8_mixGame 134 = .ok (.invokevirtual 219, 3) := by decide +kernel
theorem dX8_mixGame_137 : decode cX8_mixGame 137 = .ok (.i2l, 1) := by decide +kernel
theorem dX8_mixGame_138 : decode cX8_mixGame 138 = .ok (.invokestatic 329, 3) := by decide +kernel
theorem dX8_mixGame_141 : decode cX8_mixGame 141 = .ok (.lreturn, 1) := by decide +kernel
theorem dX8_mixMoves_0 : decode cX8_mixMoves 0 = .ok (.aload_n 0, 1) := by decide +kernel
theorem dX8_mixMoves_1 : decode cX8_mixMoves 1 = .ok (.getfield 12, 3) := by decide +kernel
theorem dX8_mixMoves_4 : decode cX8_mixMoves 4 = .ok (.getfield 69, 3) := by decide +kernel
theorem dX8_mixMoves_7 : decode cX8_mixMoves 7 = .ok (.astore 4, 2) := by decide +kernel
theorem dX8_mixMoves_9 : decode cX8_mixMoves 9 = .ok (.lload_n 1, 1) := by decide +kernel
theorem dX8_mixMoves_10 : decode cX8_mixMoves 10 = .ok (.aload 4, 2) := by decide +kernel
theorem dX8_mixMoves_12 : decode cX8_mixMoves 12 = .ok (.iload_n 3, 1) := by decide +kernel
theorem dX8_mixMoves_13 : decode cX8_mixMoves 13 = .ok (.invokevirtual 129, 3) := by decide +kernel
theorem dX8_mixMoves_16 : decode cX8_mixMoves 16 = .ok (.i2l, 1) := by decide +kernel
theorem dX8_mixMoves_17 : decode cX8_mixMoves 17 = .ok (.invokestatic 329, 3) := by decide +kernel
theorem dX8_mixMoves_20 : decode cX8_mixMoves 20 = .ok (.lstore 5, 2) := by decide +kernel
theorem dX8_mixMoves_22 : decode cX8_mixMoves 22 = .ok (.lload 5, 2) := by decide +kernel
theorem dX8_mixMoves_24 : decode cX8_mixMoves 24 = .ok (.aload 4, 2) := by decide +kernel
theorem dX8_mixMoves_26 : decode cX8_mixMoves 26 = .ok (.iload_n 3, 1) := by decide +kernel
theorem dX8_mixMoves_27 : decode cX8_mixMoves 27 = .ok (.invokevirtual 228, 3) := by decide +kernel
theorem dX8_mixMoves_30 : decode cX8_mixMoves 30 = .ok (.i2l, 1) := by decide +kernel
theorem dX8_mixMoves_31 : decode cX8_mixMoves 31 = .ok (.invokestatic 329, 3) := by decide +kernel
theorem dX8_mixMoves_34 : decode cX8_mixMoves 34 = .ok (.lstore 5, 2) := by decide +kernel
theorem dX8_mixMoves_36 : decode cX8_mixMoves 36 = .ok (.lload 5, 2) := by decide +kernel
theorem dX8_mixMoves_38 : decode cX8_mixMoves 38 = .ok (.aload_n 0, 1) := by decide +kernel
theorem dX8_mixMoves_39 : decode cX8_mixMoves 39 = .ok (.getfield 51, 3) := by decide +kernel
theorem dX8_mixMoves_42 : decode cX8_mixMoves 42 = .ok (.aload 4, 2) := by decide +kernel
theorem dX8_mixMoves_44 : decode cX8_mixMoves 44 = .ok (.iload_n 3, 1) := by decide +kernel
theorem dX8_mixMoves_45 : decode cX8_mixMoves 45 = .ok (.invokevirtual 242, 3) := by decide +kernel
theorem dX8_mixMoves_48 : decode cX8_mixMoves 48 = .ok (.i2l, 1) := by decide +kernel
theorem dX8_mixMoves_49 : decode cX8_mixMoves 49 = .ok (.invokestatic 329, 3) := by decide +kernel
theorem dX8_mixMoves_52 : decode cX8_mixMoves 52 = .ok (.lstore 5, 2) := by decide +kernel
theorem dX8_mixMoves_54 : decode cX8_mixMoves 54 = .ok (.aload 4, 2) := by decide +kernel
theorem dX8_mixMoves_56 : decode cX8_mixMoves 56 = .ok (.iload_n 3, 1) := by decide +kernel
theorem dX8_mixMoves_57 : decode cX8_mixMoves 57 = .ok (.aload_n 0, 1) := by decide +kernel
theorem dX8_mixMoves_58 : decode cX8_mixMoves 58 = .ok (.getfield 44, 3) := by decide +kernel
theorem dX8_mixMoves_61 : decode cX8_mixMoves 61 = .ok (.invokevirtual 246, 3) := by decide +kernel
theorem dX8_mixMoves_64 : decode cX8_mixMoves 64 = .ok (.lload 5, 2) := by decide +kernel
theorem dX8_mixMoves_66 : decode cX8_mixMoves 66 = .ok (.aload_n 0, 1) := by decide +kernel
theorem dX8_mixMoves_67 : decode cX8_mixMoves 67 = .ok (.getfield 44, 3) := by decide +kernel
theorem dX8_mixMoves_70 : decode cX8_mixMoves 70 = .ok (.iconst 0, 1) := by decide +kernel
theorem dX8_mixMoves_71 : decode cX8_mixMoves 71 = .ok (.invokevirtual 256, 3) := by decide +kernel
theorem dX8_mixMoves_74 : decode cX8_mixMoves 74 = .ok (.iconst 1, 1) := by decide +kernel
theorem dX8_mixMoves_75 : decode cX8_mixMoves 75 = .ok (.iadd, 1) := by decide +kernel
theorem dX8_mixMoves_76 : decode cX8_mixMoves 76 = .ok (.i2l, 1) := by decide +kernel
theorem dX8_mixMoves_77 : decode cX8_mixMoves 77 = .ok (.invokestatic 329, 3) := by decide +kernel
theorem dX8_mixMoves_80 : decode cX8_mixMoves 80 = .ok (.lstore 5, 2) := by decide +kernel
theorem dX8_mixMoves_82 : decode cX8_mixMoves 82 = .ok (.lload 5, 2) := by decide +kernel
theorem dX8_mixMoves_84 : decode cX8_mixMoves 84 = .ok (.aload_n 0, 1) := by decide +kernel
theorem dX8_mixMoves_85 : decode cX8_mixMoves 85 = .ok (.getfield 44, 3) := by decide +kernel
theorem dX8_mixMoves_88 : decode cX8_mixMoves 88 = .ok (.aload_n 0, 1) := by decide +kernel
theorem dX8_mixMoves_89 : decode cX8_mixMoves 89 = .ok (.getfield 44, 3) := by decide +kernel
theorem dX8_mixMoves_92 : decode cX8_mixMoves 92 = .ok (.getfield 250, 3) := by decide +kernel
theorem dX8_mixMoves_95 : decode cX8_mixMoves 95 = .ok (.iconst 1, 1) := by decide +kernel
theorem dX8_mixMoves_96 : decode cX8_mixMoves 96 = .ok (.isub, 1) := by decide +kernel
theorem dX8_mixMoves_97 : decode cX8_mixMoves 97 = .ok (.invokevirtual 256, 3) := by decide +kernel
theorem dX8_mixMoves_100 : decode cX8_mixMoves 100 = .ok (.iconst 1, 1) := by decide +kernel
theorem dX8_mixMoves_101 : decode cX8_mixMoves 101 = .ok (.iadd, 1) := by decide +kernel
theorem dX8_mixMoves_102 : decode cX8_mixMoves 102 = .ok (.i2l, 1) := by decide +kernel
theorem dX8_mixMoves_103 : decode cX8_mixMoves 103 = .ok (.invokestatic 329, 3) := by decide +kernel
theorem dX8_mixMoves_106 : decode cX8_mixMoves 106 = .ok (.lreturn, 1) := by decide +kernel
theorem dX8_mixKing_0 : decode cX8_mixKing 0 = .ok (.aload_n 0, 1) := by decide +kernel
theorem dX8_mixKing_1 : decode cX8_mixKing 1 = .ok (.getfield 12, 3) := by decide +kernel
theorem dX8_mixKing_4 : decode cX8_mixKing 4 = .ok (.getfield 69, 3) := by decide +kernel
theorem dX8_mixKing_7 : decode cX8_mixKing 7 = .ok (.astore_n 3, 1) := by decide +kernel
theorem dX8_mixKing_8 : decode cX8_mixKing 8 = .ok (.lload_n 1, 1) := by decide +kernel
theorem dX8_mixKing_9 : decode cX8_mixKing 9 = .ok (.iconst 0, 1) := by decide +kernel
theorem dX8_mixKing_10 : decode cX8_mixKing 10 = .ok (.aload_n 0, 1) := by decide +kernel
theorem dX8_mixKing_11 : decode cX8_mixKing 11 = .ok (.getfield 58, 3) := by decide +kernel
theorem dX8_mixKing_14 : decode cX8_mixKing 14 = .ok (.aload_n 3, 1) := by decide +kernel
theorem dX8_mixKing_15 : decode cX8_mixKing 15 = .ok (.invokevirtual 259, 3) := by decide +kernel
theorem dX8_mixKing_18 : decode cX8_mixKing 18 = .ok (.invokestatic 333, 3) := by decide +kernel
theorem dX8_mixKing_21 : decode cX8_mixKing 21 = .ok (.i2l, 1) := by decide +kernel
theorem dX8_mixKing_22 : decode cX8_mixKing 22 = .ok (.invokestatic 329, 3) := by decide +kernel
theorem dX8_mixKing_25 : decode cX8_mixKing 25 = .ok (.lstore 4, 2) := by decide +kernel
theorem dX8_mixKing_27 : decode cX8_mixKing 27 = .ok (.lload 4, 2) := by decide +kernel
theorem dX8_mixKing_29 : decode cX8_mixKing 29 = .ok (.iconst 0, 1) := by decide +kernel
theorem dX8_mixKing_30 : decode cX8_mixKing 30 = .ok (.aload_n 0, 1) := by decide +kernel
theorem dX8_mixKing_31 : decode cX8_mixKing 31 = .ok (.getfield 58, 3) := by decide +kernel
theorem dX8_mixKing_34 : decode cX8_mixKing 34 = .ok (.aload_n 3, 1) := by decide +kernel
theorem dX8_mixKing_35 : decode cX8_mixKing 35 = .ok (.invokevirtual 265, 3) := by decide +kernel
theorem dX8_mixKing_38 : decode cX8_mixKing 38 = .ok (.invokestatic 333, 3) := by decide +kernel
theorem dX8_mixKing_41 : decode cX8_mixKing 41 = .ok (.i2l, 1) := by decide +kernel
theorem dX8_mixKing_42 : decode cX8_mixKing 42 = .ok (.invokestatic 329, 3) := by decide +kernel
theorem dX8_mixKing_45 : decode cX8_mixKing 45 = .ok (.lstore 4, 2) := by decide +kernel
theorem dX8_mixKing_47 : decode cX8_mixKing 47 = .ok (.lload 4, 2) := by decide +kernel
theorem dX8_mixKing_49 : decode cX8_mixKing 49 = .ok (.aload_n 3, 1) := by decide +kernel
theorem dX8_mixKing_50 : decode cX8_mixKing 50 = .ok (.invokevirtual 268, 3) := by decide +kernel
theorem dX8_mixKing_53 : decode cX8_mixKing 53 = .ok (.i2l, 1) := by decide +kernel
theorem dX8_mixKing_54 : decode cX8_mixKing 54 = .ok (.invokestatic 329, 3) := by decide +kernel
theorem dX8_mixKing_57 : decode cX8_mixKing 57 = .ok (.lstore 4, 2) := by decide +kernel
theorem dX8_mixKing_59 : decode cX8_mixKing 59 = .ok (.lload 4, 2) := by decide +kernel
theorem dX8_mixKing_61 : decode cX8_mixKing 61 = .ok (.aload_n 0, 1) := by decide +kernel
theorem dX8_mixKing_62 : decode cX8_mixKing 62 = .ok (.getfield 58, 3) := by decide +kernel
theorem dX8_mixKing_65 : decode cX8_mixKing 65 = .ok (.aload_n 3, 1) := by decide +kernel
theorem dX8_mixKing_66 : decode cX8_mixKing 66 = .ok (.invokevirtual 271, 3) := by decide +kernel
theorem dX8_mixKing_69 : decode cX8_mixKing 69 = .ok (.i2l, 1) := by decide +kernel
theorem dX8_mixKing_70 : decode cX8_mixKing 70 = .ok (.invokestatic 329, 3) := by decide +kernel
theorem dX8_mixKing_73 : decode cX8_mixKing 73 = .ok (.lstore 4, 2) := by decide +kernel
theorem dX8_mixKing_75 : decode cX8_mixKing 75 = .ok (.lload 4, 2) := by decide +kernel
theorem dX8_mixKing_77 : decode cX8_mixKing 77 = .ok (.aload_n 3, 1) := by decide +kernel
theorem dX8_mixKing_78 : decode cX8_mixKing 78 = .ok (.getfield 117, 3) := by decide +kernel
theorem dX8_mixKing_81 : decode cX8_mixKing 81 = .ok (.ifCond .ge 7, 3) := by decide +kernel
theorem dX8_mixKing_84 : decode cX8_mixKing 84 = .ok (.lconst 0, 1) := by decide +kernel
theorem dX8_mixKing_85 : decode cX8_mixKing 85 = .ok (.goto 10, 3) := by decide +kernel
theorem dX8_mixKing_88 : decode cX8_mixKing 88 = .ok (.aload_n 3, 1) := by decide +kernel
theorem dX8_mixKing_89 : decode cX8_mixKing 89 = .ok (.invokevirtual 274, 3) := by decide +kernel
theorem dX8_mixKing_92 : decode cX8_mixKing 92 = .ok (.iconst 1, 1) := by decide +kernel
theorem dX8_mixKing_93 : decode cX8_mixKing 93 = .ok (.iadd, 1) := by decide +kernel
theorem dX8_mixKing_94 : decode cX8_mixKing 94 = .ok (.i2l, 1) := by decide +kernel
theorem dX8_mixKing_95 : decode cX8_mixKing 95 = .ok (.invokestatic 329, 3) := by decide +kernel
theorem dX8_mixKing_98 : decode cX8_mixKing 98 = .ok (.lreturn, 1) := by decide +kernel
theorem dX8_mixAccounts_0 : decode cX8_mixAccounts 0 = .ok (.lload_n 1, 1) := by decide +kernel
theorem dX8_mixAccounts_1 : decode cX8_mixAccounts 1 = .ok (.aload_n 0, 1) := by decide +kernel
theorem dX8_mixAccounts_2 : decode cX8_mixAccounts 2 = .ok (.getfield 12, 3) := by decide +kernel
theorem dX8_mixAccounts_5 : decode cX8_mixAccounts 5 = .ok (.getfield 282, 3) := by decide +kernel
theorem dX8_mixAccounts_8 : decode cX8_mixAccounts 8 = .ok (.i2l, 1) := by decide +kernel
theorem dX8_mixAccounts_9 : decode cX8_mixAccounts 9 = .ok (.invokestatic 329, 3) := by decide +kernel
theorem dX8_mixAccounts_12 : decode cX8_mixAccounts 12 = .ok (.lstore_n 3, 1) := by decide +kernel
theorem dX8_mixAccounts_13 : decode cX8_mixAccounts 13 = .ok (.lload_n 3, 1) := by decide +kernel
theorem dX8_mixAccounts_14 : decode cX8_mixAccounts 14 = .ok (.aload_n 0, 1) := by decide +kernel
theorem dX8_mixAccounts_15 : decode cX8_mixAccounts 15 = .ok (.getfield 12, 3) := by decide +kernel
theorem dX8_mixAccounts_18 : decode cX8_mixAccounts 18 = .ok (.getfield 285, 3) := by decide +kernel
theorem dX8_mixAccounts_21 : decode cX8_mixAccounts 21 = .ok (.i2l, 1) := by decide +kernel
theorem dX8_mixAccounts_22 : decode cX8_mixAccounts 22 = .ok (.invokestatic 329, 3) := by decide +kernel
theorem dX8_mixAccounts_25 : decode cX8_mixAccounts 25 = .ok (.lstore_n 3, 1) := by decide +kernel
theorem dX8_mixAccounts_26 : decode cX8_mixAccounts 26 = .ok (.lload_n 3, 1) := by decide +kernel
theorem dX8_mixAccounts_27 : decode cX8_mixAccounts 27 = .ok (.aload_n 0, 1) := by decide +kernel
theorem dX8_mixAccounts_28 : decode cX8_mixAccounts 28 = .ok (.getfield 12, 3) := by decide +kernel
theorem dX8_mixAccounts_31 : decode cX8_mixAccounts 31 = .ok (.getfield 288, 3) := by decide +kernel
theorem dX8_mixAccounts_34 : decode cX8_mixAccounts 34 = .ok (.i2l, 1) := by decide +kernel
theorem dX8_mixAccounts_35 : decode cX8_mixAccounts 35 = .ok (.invokestatic 329, 3) := by decide +kernel
theorem dX8_mixAccounts_38 : decode cX8_mixAccounts 38 = .ok (.lstore_n 3, 1) := by decide +kernel
theorem dX8_mixAccounts_39 : decode cX8_mixAccounts 39 = .ok (.lload_n 3, 1) := by decide +kernel
theorem dX8_mixAccounts_40 : decode cX8_mixAccounts 40 = .ok (.aload_n 0, 1) := by decide +kernel
theorem dX8_mixAccounts_41 : decode cX8_mixAccounts 41 = .ok (.getfield 12, 3) := by decide +kernel
theorem dX8_mixAccounts_44 : decode cX8_mixAccounts 44 = .ok (.getfield 291, 3) := by decide +kernel
theorem dX8_mixAccounts_47 : decode cX8_mixAccounts 47 = .ok (.i2l, 1) := by decide +kernel
theorem dX8_mixAccounts_48 : decode cX8_mixAccounts 48 = .ok (.invokestatic 329, 3) := by decide +kernel
theorem dX8_mixAccounts_51 : decode cX8_mixAccounts 51 = .ok (.lstore_n 3, 1) := by decide +kernel
theorem dX8_mixAccounts_52 : decode cX8_mixAccounts 52 = .ok (.lload_n 3, 1) := by decide +kernel
theorem dX8_mixAccounts_53 : decode cX8_mixAccounts 53 = .ok (.aload_n 0, 1) := by decide +kernel
theorem dX8_mixAccounts_54 : decode cX8_mixAccounts 54 = .ok (.getfield 12, 3) := by decide +kernel
theorem dX8_mixAccounts_57 : decode cX8_mixAccounts 57 = .ok (.getfield 294, 3) := by decide +kernel
theorem dX8_mixAccounts_60 : decode cX8_mixAccounts 60 = .ok (.i2l, 1) := by decide +kernel
theorem dX8_mixAccounts_61 : decode cX8_mixAccounts 61 = .ok (.invokestatic 329, 3) := by decide +kernel
theorem dX8_mixAccounts_64 : decode cX8_mixAccounts 64 = .ok (.lstore_n 3, 1) := by decide +kernel
theorem dX8_mixAccounts_65 : decode cX8_mixAccounts 65 = .ok (.lload_n 3, 1) := by decide +kernel
theorem dX8_mixAccounts_66 : decode cX8_mixAccounts 66 = .ok (.aload_n 0, 1) := by decide +kernel
theorem dX8_mixAccounts_67 : decode cX8_mixAccounts 67 = .ok (.getfield 12, 3) := by decide +kernel
theorem dX8_mixAccounts_70 : decode cX8_mixAccounts 70 = .ok (.getfield 297, 3) := by decide +kernel
theorem dX8_mixAccounts_73 : decode cX8_mixAccounts 73 = .ok (.i2l, 1) := by decide +kernel
theorem dX8_mixAccounts_74 : decode cX8_mixAccounts 74 = .ok (.invokestatic 329, 3) := by decide +kernel
theorem dX8_mixAccounts_77 : decode cX8_mixAccounts 77 = .ok (.lstore_n 3, 1) := by decide +kernel
theorem dX8_mixAccounts_78 : decode cX8_mixAccounts 78 = .ok (.lload_n 3, 1) := by decide +kernel
theorem dX8_mixAccounts_79 : decode cX8_mixAccounts 79 = .ok (.aload_n 0, 1) := by decide +kernel
theorem dX8_mixAccounts_80 : decode cX8_mixAccounts 80 = .ok (.getfield 30, 3) := by decide +kernel
theorem dX8_mixAccounts_83 : decode cX8_mixAccounts 83 = .ok (.getfield 192, 3) := by decide +kernel
theorem dX8_mixAccounts_86 : decode cX8_mixAccounts 86 = .ok (.i2l, 1) := by decide +kernel
theorem dX8_mixAccounts_87 : decode cX8_mixAccounts 87 = .ok (.invokestatic 329, 3) := by decide +kernel
theorem dX8_mixAccounts_90 : decode cX8_mixAccounts 90 = .ok (.lstore_n 3, 1) := by decide +kernel
theorem dX8_mixAccounts_91 : decode cX8_mixAccounts 91 = .ok (.lload_n 3, 1) := by decide +kernel
theorem dX8_mixAccounts_92 : decode cX8_mixAccounts 92 = .ok (.aload_n 0, 1) := by decide +kernel
theorem dX8_mixAccounts_93 : decode cX8_mixAccounts 93 = .ok (.invokevirtual 300, 3) := by decide +kernel
theorem dX8_mixAccounts_96 : decode cX8_mixAccounts 96 = .ok (.invokestatic 338, 3) := by decide +kernel
theorem dX8_mixAccounts_99 : decode cX8_mixAccounts 99 = .ok (.invokestatic 329, 3) := by decide +kernel
theorem dX8_mixAccounts_102 : decode cX8_mixAccounts 102 = .ok (.lreturn, 1) := by decide +kernel
theorem dX8_mixBuffer_0 : decode cX8_mixBuffer 0 = .ok (.lload_n 1, 1) := by decide +kernel
theorem dX8_mixBuffer_1 : decode cX8_mixBuffer 1 = .ok (.lstore_n 3, 1) := by decide +kernel
theorem dX8_mixBuffer_2 : decode cX8_mixBuffer 2 = .ok (.iconst 0, 1) := by decide +kernel
theorem dX8_mixBuffer_3 : decode cX8_mixBuffer 3 = .ok (.istore 5, 2) := by decide +kernel
theorem dX8_mixBuffer_5 : decode cX8_mixBuffer 5 = .ok (.iload 5, 2) := by decide +kernel
theorem dX8_mixBuffer_7 : decode cX8_mixBuffer 7 = .ok (.iconst 2, 1) := by decide +kernel
theorem dX8_mixBuffer_8 : decode cX8_mixBuffer 8 = .ok (.if_icmp .ge 29, 3) := by decide +kernel
theorem dX8_mixBuffer_11 : decode cX8_mixBuffer 11 = .ok (.lload_n 3, 1) := by decide +kernel
theorem dX8_mixBuffer_12 : decode cX8_mixBuffer 12 = .ok (.aload_n 0, 1) := by decide +kernel
theorem dX8_mixBuffer_13 : decode cX8_mixBuffer 13 = .ok (.getfield 23, 3) := by decide +kernel
theorem dX8_mixBuffer_16 : decode cX8_mixBuffer 16 = .ok (.iload 5, 2) := by decide +kernel
theorem dX8_mixBuffer_18 : decode cX8_mixBuffer 18 = .ok (.baload, 1) := by decide +kernel
theorem dX8_mixBuffer_19 : decode cX8_mixBuffer 19 = .ok (.ifCond .eq 7, 3) := by decide +kernel
theorem dX8_mixBuffer_22 : decode cX8_mixBuffer 22 = .ok (.lconst 1, 1) := by decide +kernel
theorem dX8_mixBuffer_23 : decode cX8_mixBuffer 23 = .ok (.goto 4, 3) := by decide +kernel
theorem dX8_mixBuffer_26 : decode cX8_mixBuffer 26 = .ok (.lconst 0, 1) := by decide +kernel
