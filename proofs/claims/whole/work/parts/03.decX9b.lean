theorem dX9_mayMove_31 : decode cX9_mayMove 31 = .ok (.goto 4, 3) := by decide +kernel
theorem dX9_mayMove_34 : decode cX9_mayMove 34 = .ok (.iconst 0, 1) := by decide +kernel
theorem dX9_mayMove_35 : decode cX9_mayMove 35 = .ok (.ireturn, 1) := by decide +kernel
theorem dX9_goMove_0 : decode cX9_goMove 0 = .ok (.aload_n 1, 1) := by decide +kernel
theorem dX9_goMove_1 : decode cX9_goMove 1 = .ok (.bipush 49, 2) := by decide +kernel
theorem dX9_goMove_3 : decode cX9_goMove 3 = .ok (.iaload, 1) := by decide +kernel
theorem dX9_goMove_4 : decode cX9_goMove 4 = .ok (.istore 4, 2) := by decide +kernel
theorem dX9_goMove_6 : decode cX9_goMove 6 = .ok (.aload_n 1, 1) := by decide +kernel
theorem dX9_goMove_7 : decode cX9_goMove 7 = .ok (.iload_n 2, 1) := by decide +kernel
theorem dX9_goMove_8 : decode cX9_goMove 8 = .ok (.iload_n 3, 1) := by decide +kernel
theorem dX9_goMove_9 : decode cX9_goMove 9 = .ok (.invokestatic 136, 3) := by decide +kernel
theorem dX9_goMove_12 : decode cX9_goMove 12 = .ok (.istore 5, 2) := by decide +kernel
theorem dX9_goMove_14 : decode cX9_goMove 14 = .ok (.aload_n 1, 1) := by decide +kernel
theorem dX9_goMove_15 : decode cX9_goMove 15 = .ok (.iload 4, 2) := by decide +kernel
theorem dX9_goMove_17 : decode cX9_goMove 17 = .ok (.invokestatic 139, 3) := by decide +kernel
theorem dX9_goMove_20 : decode cX9_goMove 20 = .ok (.istore 6, 2) := by decide +kernel
theorem dX9_goMove_22 : decode cX9_goMove 22 = .ok (.aload_n 1, 1) := by decide +kernel
theorem dX9_goMove_23 : decode cX9_goMove 23 = .ok (.bipush 53, 2) := by decide +kernel
theorem dX9_goMove_25 : decode cX9_goMove 25 = .ok (.dup2, 1) := by decide +kernel
theorem dX9_goMove_26 : decode cX9_goMove 26 = .ok (.iaload, 1) := by decide +kernel
theorem dX9_goMove_27 : decode cX9_goMove 27 = .ok (.iconst 1, 1) := by decide +kernel
theorem dX9_goMove_28 : decode cX9_goMove 28 = .ok (.iadd, 1) := by decide +kernel
theorem dX9_goMove_29 : decode cX9_goMove 29 = .ok (.iastore, 1) := by decide +kernel
theorem dX9_goMove_30 : decode cX9_goMove 30 = .ok (.aload_n 1, 1) := by decide +kernel
theorem dX9_goMove_31 : decode cX9_goMove 31 = .ok (.bipush 54, 2) := by decide +kernel
theorem dX9_goMove_33 : decode cX9_goMove 33 = .ok (.dup2, 1) := by decide +kernel
theorem dX9_goMove_34 : decode cX9_goMove 34 = .ok (.iaload, 1) := by decide +kernel
theorem dX9_goMove_35 : decode cX9_goMove 35 = .ok (.iconst 1, 1) := by decide +kernel
theorem dX9_goMove_36 : decode cX9_goMove 36 = .ok (.iadd, 1) := by decide +kernel
theorem dX9_goMove_37 : decode cX9_goMove 37 = .ok (.iastore, 1) := by decide +kernel
theorem dX9_goMove_38 : decode cX9_goMove 38 = .ok (.aload_n 1, 1) := by decide +kernel
theorem dX9_goMove_39 : decode cX9_goMove 39 = .ok (.bipush 49, 2) := by decide +kernel
theorem dX9_goMove_41 : decode cX9_goMove 41 = .ok (.iconst 1, 1) := by decide +kernel
theorem dX9_goMove_42 : decode cX9_goMove 42 = .ok (.iload 4, 2) := by decide +kernel
theorem dX9_goMove_44 : decode cX9_goMove 44 = .ok (.isub, 1) := by decide +kernel
theorem dX9_goMove_45 : decode cX9_goMove 45 = .ok (.iastore, 1) := by decide +kernel
theorem dX9_goMove_46 : decode cX9_goMove 46 = .ok (.aload_n 0, 1) := by decide +kernel
theorem dX9_goMove_47 : decode cX9_goMove 47 = .ok (.aload_n 1, 1) := by decide +kernel
theorem dX9_goMove_48 : decode cX9_goMove 48 = .ok (.aload_n 1, 1) := by decide +kernel
theorem dX9_goMove_49 : decode cX9_goMove 49 = .ok (.bipush 60, 2) := by decide +kernel
theorem dX9_goMove_51 : decode cX9_goMove 51 = .ok (.iaload, 1) := by decide +kernel
theorem dX9_goMove_52 : decode cX9_goMove 52 = .ok (.invokevirtual 122, 3) := by decide +kernel
theorem dX9_goMove_55 : decode cX9_goMove 55 = .ok (.iload 6, 2) := by decide +kernel
theorem dX9_goMove_57 : decode cX9_goMove 57 = .ok (.iconst (-1), 1) := by decide +kernel
theorem dX9_goMove_58 : decode cX9_goMove 58 = .ok (.if_icmp .eq 25, 3) := by decide +kernel
theorem dX9_goMove_61 : decode cX9_goMove 61 = .ok (.aload_n 1, 1) := by decide +kernel
theorem dX9_goMove_62 : decode cX9_goMove 62 = .ok (.bipush 50, 2) := by decide +kernel
theorem dX9_goMove_64 : decode cX9_goMove 64 = .ok (.iconst 2, 1) := by decide +kernel
theorem dX9_goMove_65 : decode cX9_goMove 65 = .ok (.iload 6, 2) := by decide +kernel
theorem dX9_goMove_67 : decode cX9_goMove 67 = .ok (.iadd, 1) := by decide +kernel
theorem dX9_goMove_68 : decode cX9_goMove 68 = .ok (.iastore, 1) := by decide +kernel
theorem dX9_goMove_69 : decode cX9_goMove 69 = .ok (.aload_n 1, 1) := by decide +kernel
theorem dX9_goMove_70 : decode cX9_goMove 70 = .ok (.bipush 55, 2) := by decide +kernel
theorem dX9_goMove_72 : decode cX9_goMove 72 = .ok (.iload 6, 2) := by decide +kernel
theorem dX9_goMove_74 : decode cX9_goMove 74 = .ok (.iadd, 1) := by decide +kernel
theorem dX9_goMove_75 : decode cX9_goMove 75 = .ok (.dup2, 1) := by decide +kernel
theorem dX9_goMove_76 : decode cX9_goMove 76 = .ok (.iaload, 1) := by decide +kernel
theorem dX9_goMove_77 : decode cX9_goMove 77 = .ok (.iconst 1, 1) := by decide +kernel
theorem dX9_goMove_78 : decode cX9_goMove 78 = .ok (.iadd, 1) := by decide +kernel
theorem dX9_goMove_79 : decode cX9_goMove 79 = .ok (.iastore, 1) := by decide +kernel
theorem dX9_goMove_80 : decode cX9_goMove 80 = .ok (.goto 25, 3) := by decide +kernel
theorem dX9_goMove_83 : decode cX9_goMove 83 = .ok (.aload_n 0, 1) := by decide +kernel
theorem dX9_goMove_84 : decode cX9_goMove 84 = .ok (.aload_n 1, 1) := by decide +kernel
theorem dX9_goMove_85 : decode cX9_goMove 85 = .ok (.invokevirtual 142, 3) := by decide +kernel
theorem dX9_goMove_88 : decode cX9_goMove 88 = .ok (.iconst 3, 1) := by decide +kernel
theorem dX9_goMove_89 : decode cX9_goMove 89 = .ok (.if_icmp .ne 16, 3) := by decide +kernel
theorem dX9_goMove_92 : decode cX9_goMove 92 = .ok (.aload_n 1, 1) := by decide +kernel
theorem dX9_goMove_93 : decode cX9_goMove 93 = .ok (.bipush 50, 2) := by decide +kernel
theorem dX9_goMove_95 : decode cX9_goMove 95 = .ok (.iconst 4, 1) := by decide +kernel
theorem dX9_goMove_96 : decode cX9_goMove 96 = .ok (.iastore, 1) := by decide +kernel
theorem dX9_goMove_97 : decode cX9_goMove 97 = .ok (.aload_n 1, 1) := by decide +kernel
theorem dX9_goMove_98 : decode cX9_goMove 98 = .ok (.bipush 57, 2) := by decide +kernel
theorem dX9_goMove_100 : decode cX9_goMove 100 = .ok (.dup2, 1) := by decide +kernel
theorem dX9_goMove_101 : decode cX9_goMove 101 = .ok (.iaload, 1) := by decide +kernel
theorem dX9_goMove_102 : decode cX9_goMove 102 = .ok (.iconst 1, 1) := by decide +kernel
theorem dX9_goMove_103 : decode cX9_goMove 103 = .ok (.iadd, 1) := by decide +kernel
theorem dX9_goMove_104 : decode cX9_goMove 104 = .ok (.iastore, 1) := by decide +kernel
theorem dX9_goMove_105 : decode cX9_goMove 105 = .ok (.iload 5, 2) := by decide +kernel
theorem dX9_goMove_107 : decode cX9_goMove 107 = .ok (.ireturn, 1) := by decide +kernel
theorem dX9_save_0 : decode cX9_save 0 = .ok (.aload_n 0, 1) := by decide +kernel
theorem dX9_save_1 : decode cX9_save 1 = .ok (.getfield 111, 3) := by decide +kernel
theorem dX9_save_4 : decode cX9_save 4 = .ok (.bipush 6, 2) := by decide +kernel
theorem dX9_save_6 : decode cX9_save 6 = .ok (.if_icmp .ne 43, 3) := by decide +kernel
theorem dX9_save_9 : decode cX9_save 9 = .ok (.iconst 0, 1) := by decide +kernel
theorem dX9_save_10 : decode cX9_save 10 = .ok (.istore_n 1, 1) := by decide +kernel
theorem dX9_save_11 : decode cX9_save 11 = .ok (.iload_n 1, 1) := by decide +kernel
theorem dX9_save_12 : decode cX9_save 12 = .ok (.sipush 305, 3) := by decide +kernel
theorem dX9_save_15 : decode cX9_save 15 = .ok (.if_icmp .ge 24, 3) := by decide +kernel
theorem dX9_save_18 : decode cX9_save 18 = .ok (.aload_n 0, 1) := by decide +kernel
theorem dX9_save_19 : decode cX9_save 19 = .ok (.getfield 22, 3) := by decide +kernel
theorem dX9_save_22 : decode cX9_save 22 = .ok (.iload_n 1, 1) := by decide +kernel
theorem dX9_save_23 : decode cX9_save 23 = .ok (.aload_n 0, 1) := by decide +kernel
theorem dX9_save_24 : decode cX9_save 24 = .ok (.getfield 22, 3) := by decide +kernel
theorem dX9_save_27 : decode cX9_save 27 = .ok (.bipush 61, 2) := by decide +kernel
theorem dX9_save_29 : decode cX9_save 29 = .ok (.iload_n 1, 1) := by decide +kernel
theorem dX9_save_30 : decode cX9_save 30 = .ok (.iadd, 1) := by decide +kernel
theorem dX9_save_31 : decode cX9_save 31 = .ok (.iaload, 1) := by decide +kernel
theorem dX9_save_32 : decode cX9_save 32 = .ok (.iastore, 1) := by decide +kernel
theorem dX9_save_33 : decode cX9_save 33 = .ok (.iinc 1 1, 3) := by decide +kernel
theorem dX9_save_36 : decode cX9_save 36 = .ok (.goto (-25), 3) := by decide +kernel
theorem dX9_save_39 : decode cX9_save 39 = .ok (.aload_n 0, 1) := by decide +kernel
theorem dX9_save_40 : decode cX9_save 40 = .ok (.dup, 1) := by decide +kernel
theorem dX9_save_41 : decode cX9_save 41 = .ok (.getfield 111, 3) := by decide +kernel
theorem dX9_save_44 : decode cX9_save 44 = .ok (.iconst 1, 1) := by decide +kernel
theorem dX9_save_45 : decode cX9_save 45 = .ok (.isub, 1) := by decide +kernel
theorem dX9_save_46 : decode cX9_save 46 = .ok (.putfield 111, 3) := by decide +kernel
theorem dX9_save_49 : decode cX9_save 49 = .ok (.iconst 0, 1) := by decide +kernel
theorem dX9_save_50 : decode cX9_save 50 = .ok (.istore_n 1, 1) := by decide +kernel
theorem dX9_save_51 : decode cX9_save 51 = .ok (.iload_n 1, 1) := by decide +kernel
theorem dX9_save_52 : decode cX9_save 52 = .ok (.bipush 61, 2) := by decide +kernel
theorem dX9_save_54 : decode cX9_save 54 = .ok (.if_icmp .ge 29, 3) := by decide +kernel
theorem dX9_save_57 : decode cX9_save 57 = .ok (.aload_n 0, 1) := by decide +kernel
theorem dX9_save_58 : decode cX9_save 58 = .ok (.getfield 22, 3) := by decide +kernel
theorem dX9_save_61 : decode cX9_save 61 = .ok (.bipush 61, 2) := by decide +kernel
theorem dX9_save_63 : decode cX9_save 63 = .ok (.aload_n 0, 1) := by decide +kernel
theorem dX9_save_64 : decode cX9_save 64 = .ok (.getfield 111, 3) := by decide +kernel
theorem dX9_save_67 : decode cX9_save 67 = .ok (.imul, 1) := by decide +kernel
theorem dX9_save_68 : decode cX9_save 68 = .ok (.iload_n 1, 1) := by decide +kernel
theorem dX9_save_69 : decode cX9_save 69 = .ok (.iadd, 1) := by decide +kernel
theorem dX9_save_70 : decode cX9_save 70 = .ok (.aload_n 0, 1) := by decide +kernel
theorem dX9_save_71 : decode cX9_save 71 = .ok (.getfield 7, 3) := by decide +kernel
theorem dX9_save_74 : decode cX9_save 74 = .ok (.iload_n 1, 1) := by decide +kernel
theorem dX9_save_75 : decode cX9_save 75 = .ok (.iaload, 1) := by decide +kernel
theorem dX9_save_76 : decode cX9_save 76 = .ok (.iastore, 1) := by decide +kernel
theorem dX9_save_77 : decode cX9_save 77 = .ok (.iinc 1 1, 3) := by decide +kernel
theorem dX9_save_80 : decode cX9_save 80 = .ok (.goto (-29), 3) := by decide +kernel
theorem dX9_save_83 : decode cX9_save 83 = .ok (.aload_n 0, 1) := by decide +kernel
theorem dX9_save_84 : decode cX9_save 84 = .ok (.dup, 1) := by decide +kernel
theorem dX9_save_85 : decode cX9_save 85 = .ok (.getfield 111, 3) := by decide +kernel
theorem dX9_save_88 : decode cX9_save 88 = .ok (.iconst 1, 1) := by decide +kernel
theorem dX9_save_89 : decode cX9_save 89 = .ok (.iadd, 1) := by decide +kernel
theorem dX9_save_90 : decode cX9_save 90 = .ok (.putfield 111, 3) := by decide +kernel
theorem dX9_save_93 : decode cX9_save 93 = .ok (.return_, 1) := by decide +kernel
theorem dX9_setUp_0 : decode cX9_setUp 0 = .ok (.aload_n 0, 1) := by decide +kernel
theorem dX9_setUp_1 : decode cX9_setUp 1 = .ok (.iconst 0, 1) := by decide +kernel
theorem dX9_setUp_2 : decode cX9_setUp 2 = .ok (.putfield 52, 3) := by decide +kernel
theorem dX9_setUp_5 : decode cX9_setUp 5 = .ok (.aload_n 0, 1) := by decide +kernel
theorem dX9_setUp_6 : decode cX9_setUp 6 = .ok (.invokevirtual 145, 3) := by decide +kernel
theorem dX9_setUp_9 : decode cX9_setUp 9 = .ok (.aload_n 0, 1) := by decide +kernel
theorem dX9_setUp_10 : decode cX9_setUp 10 = .ok (.aload_n 0, 1) := by decide +kernel
theorem dX9_setUp_11 : decode cX9_setUp 11 = .ok (.getfield 7, 3) := by decide +kernel
theorem dX9_setUp_14 : decode cX9_setUp 14 = .ok (.invokevirtual 48, 3) := by decide +kernel
theorem dX9_setUp_17 : decode cX9_setUp 17 = .ok (.ireturn, 1) := by decide +kernel
theorem dX9_clearBoard_0 : decode cX9_clearBoard 0 = .ok (.aload_n 0, 1) := by decide +kernel
theorem dX9_clearBoard_1 : decode cX9_clearBoard 1 = .ok (.iconst 0, 1) := by decide +kernel
theorem dX9_clearBoard_2 : decode cX9_clearBoard 2 = .ok (.putfield 52, 3) := by decide +kernel
theorem dX9_clearBoard_5 : decode cX9_clearBoard 5 = .ok (.aload_n 0, 1) := by decide +kernel
theorem dX9_clearBoard_6 : decode cX9_clearBoard 6 = .ok (.invokevirtual 145, 3) := by decide +kernel
theorem dX9_clearBoard_9 : decode cX9_clearBoard 9 = .ok (.aload_n 0, 1) := by decide +kernel
theorem dX9_clearBoard_10 : decode cX9_clearBoard 10 = .ok (.getfield 7, 3) := by decide +kernel
theorem dX9_clearBoard_13 : decode cX9_clearBoard 13 = .ok (.invokestatic 129, 3) := by decide +kernel
theorem dX9_clearBoard_16 : decode cX9_clearBoard 16 = .ok (.istore_n 1, 1) := by decide +kernel
theorem dX9_clearBoard_17 : decode cX9_clearBoard 17 = .ok (.iconst 0, 1) := by decide +kernel
theorem dX9_clearBoard_18 : decode cX9_clearBoard 18 = .ok (.istore_n 2, 1) := by decide +kernel
theorem dX9_clearBoard_19 : decode cX9_clearBoard 19 = .ok (.iload_n 2, 1) := by decide +kernel
theorem dX9_clearBoard_20 : decode cX9_clearBoard 20 = .ok (.bipush 49, 2) := by decide +kernel
theorem dX9_clearBoard_22 : decode cX9_clearBoard 22 = .ok (.if_icmp .ge 16, 3) := by decide +kernel
theorem dX9_clearBoard_25 : decode cX9_clearBoard 25 = .ok (.aload_n 0, 1) := by decide +kernel
theorem dX9_clearBoard_26 : decode cX9_clearBoard 26 = .ok (.getfield 7, 3) := by decide +kernel
theorem dX9_clearBoard_29 : decode cX9_clearBoard 29 = .ok (.iload_n 2, 1) := by decide +kernel
theorem dX9_clearBoard_30 : decode cX9_clearBoard 30 = .ok (.iconst 0, 1) := by decide +kernel
theorem dX9_clearBoard_31 : decode cX9_clearBoard 31 = .ok (.iastore, 1) := by decide +kernel
theorem dX9_clearBoard_32 : decode cX9_clearBoard 32 = .ok (.iinc 2 1, 3) := by decide +kernel
theorem dX9_clearBoard_35 : decode cX9_clearBoard 35 = .ok (.goto (-16), 3) := by decide +kernel
theorem dX9_clearBoard_38 : decode cX9_clearBoard 38 = .ok (.aload_n 0, 1) := by decide +kernel
theorem dX9_clearBoard_39 : decode cX9_clearBoard 39 = .ok (.getfield 7, 3) := by decide +kernel
theorem dX9_clearBoard_42 : decode cX9_clearBoard 42 = .ok (.bipush 50, 2) := by decide +kernel
theorem dX9_clearBoard_44 : decode cX9_clearBoard 44 = .ok (.iconst 0, 1) := by decide +kernel
theorem dX9_clearBoard_45 : decode cX9_clearBoard 45 = .ok (.iastore, 1) := by decide +kernel
theorem dX9_clearBoard_46 : decode cX9_clearBoard 46 = .ok (.aload_n 0, 1) := by decide +kernel
theorem dX9_clearBoard_47 : decode cX9_clearBoard 47 = .ok (.getfield 7, 3) := by decide +kernel
theorem dX9_clearBoard_50 : decode cX9_clearBoard 50 = .ok (.bipush 51, 2) := by decide +kernel
theorem dX9_clearBoard_52 : decode cX9_clearBoard 52 = .ok (.iconst 0, 1) := by decide +kernel
theorem dX9_clearBoard_53 : decode cX9_clearBoard 53 = .ok (.iastore, 1) := by decide +kernel
theorem dX9_clearBoard_54 : decode cX9_clearBoard 54 = .ok (.aload_n 0, 1) := by decide +kernel
theorem dX9_clearBoard_55 : decode cX9_clearBoard 55 = .ok (.getfield 7, 3) := by decide +kernel
theorem dX9_clearBoard_58 : decode cX9_clearBoard 58 = .ok (.bipush 53, 2) := by decide +kernel
theorem dX9_clearBoard_60 : decode cX9_clearBoard 60 = .ok (.iconst 0, 1) := by decide +kernel
theorem dX9_clearBoard_61 : decode cX9_clearBoard 61 = .ok (.iastore, 1) := by decide +kernel
theorem dX9_clearBoard_62 : decode cX9_clearBoard 62 = .ok (.aload_n 0, 1) := by decide +kernel
theorem dX9_clearBoard_63 : decode cX9_clearBoard 63 = .ok (.getfield 7, 3) := by decide +kernel
theorem dX9_clearBoard_66 : decode cX9_clearBoard 66 = .ok (.bipush 49, 2) := by decide +kernel
theorem dX9_clearBoard_68 : decode cX9_clearBoard 68 = .ok (.iconst 0, 1) := by decide +kernel
theorem dX9_clearBoard_69 : decode cX9_clearBoard 69 = .ok (.iastore, 1) := by decide +kernel
theorem dX9_clearBoard_70 : decode cX9_clearBoard 70 = .ok (.aload_n 0, 1) := by decide +kernel
theorem dX9_clearBoard_71 : decode cX9_clearBoard 71 = .ok (.getfield 7, 3) := by decide +kernel
theorem dX9_clearBoard_74 : decode cX9_clearBoard 74 = .ok (.bipush 60, 2) := by decide +kernel
theorem dX9_clearBoard_76 : decode cX9_clearBoard 76 = .ok (.iconst (-1), 1) := by decide +kernel
theorem dX9_clearBoard_77 : decode cX9_clearBoard 77 = .ok (.iastore, 1) := by decide +kernel
theorem dX9_clearBoard_78 : decode cX9_clearBoard 78 = .ok (.iload_n 1, 1) := by decide +kernel
theorem dX9_clearBoard_79 : decode cX9_clearBoard 79 = .ok (.ireturn, 1) := by decide +kernel
theorem dX9_mayPut_0 : decode cX9_mayPut 0 = .ok (.iload_n 2, 1) := by decide +kernel
theorem dX9_mayPut_1 : decode cX9_mayPut 1 = .ok (.iconst 3, 1) := by decide +kernel
theorem dX9_mayPut_2 : decode cX9_mayPut 2 = .ok (.if_icmp .ne 29, 3) := by decide +kernel
theorem dX9_mayPut_5 : decode cX9_mayPut 5 = .ok (.aload_n 0, 1) := by decide +kernel
theorem dX9_mayPut_6 : decode cX9_mayPut 6 = .ok (.getfield 7, 3) := by decide +kernel
theorem dX9_mayPut_9 : decode cX9_mayPut 9 = .ok (.invokestatic 98, 3) := by decide +kernel
theorem dX9_mayPut_12 : decode cX9_mayPut 12 = .ok (.iconst (-1), 1) := by decide +kernel
theorem dX9_mayPut_13 : decode cX9_mayPut 13 = .ok (.if_icmp .eq 18, 3) := by decide +kernel
theorem dX9_mayPut_16 : decode cX9_mayPut 16 = .ok (.aload_n 0, 1) := by decide +kernel
theorem dX9_mayPut_17 : decode cX9_mayPut 17 = .ok (.getfield 7, 3) := by decide +kernel
theorem dX9_mayPut_20 : decode cX9_mayPut 20 = .ok (.invokestatic 98, 3) := by decide +kernel
theorem dX9_mayPut_23 : decode cX9_mayPut 23 = .ok (.iload_n 1, 1) := by decide +kernel
theorem dX9_mayPut_24 : decode cX9_mayPut 24 = .ok (.if_icmp .eq 7, 3) := by decide +kernel
theorem dX9_mayPut_27 : decode cX9_mayPut 27 = .ok (.iconst 1, 1) := by decide +kernel
theorem dX9_mayPut_28 : decode cX9_mayPut 28 = .ok (.goto 4, 3) := by decide +kernel
theorem dX9_mayPut_31 : decode cX9_mayPut 31 = .ok (.iconst 0, 1) := by decide +kernel
theorem dX9_mayPut_32 : decode cX9_mayPut 32 = .ok (.istore_n 3, 1) := by decide +kernel
theorem dX9_mayPut_33 : decode cX9_mayPut 33 = .ok (.aload_n 0, 1) := by decide +kernel
theorem dX9_mayPut_34 : decode cX9_mayPut 34 = .ok (.getfield 7, 3) := by decide +kernel
theorem dX9_mayPut_37 : decode cX9_mayPut 37 = .ok (.bipush 51, 2) := by decide +kernel
theorem dX9_mayPut_39 : decode cX9_mayPut 39 = .ok (.iaload, 1) := by decide +kernel
theorem dX9_mayPut_40 : decode cX9_mayPut 40 = .ok (.ifCond .ne 23, 3) := by decide +kernel
theorem dX9_mayPut_43 : decode cX9_mayPut 43 = .ok (.iload_n 3, 1) := by decide +kernel
theorem dX9_mayPut_44 : decode cX9_mayPut 44 = .ok (.ifCond .ne 19, 3) := by decide +kernel
theorem dX9_mayPut_47 : decode cX9_mayPut 47 = .ok (.iload_n 2, 1) := by decide +kernel
theorem dX9_mayPut_48 : decode cX9_mayPut 48 = .ok (.ifCond .eq 11, 3) := by decide +kernel
theorem dX9_mayPut_51 : decode cX9_mayPut 51 = .ok (.iload_n 2, 1) := by decide +kernel
theorem dX9_mayPut_52 : decode cX9_mayPut 52 = .ok (.iload_n 1, 1) := by decide +kernel
theorem dX9_mayPut_53 : decode cX9_mayPut 53 = .ok (.invokestatic 80, 3) := by decide +kernel
theorem dX9_mayPut_56 : decode cX9_mayPut 56 = .ok (.ifCond .eq 7, 3) := by decide +kernel
theorem dX9_mayPut_59 : decode cX9_mayPut 59 = .ok (.iconst 1, 1) := by decide +kernel
theorem dX9_mayPut_60 : decode cX9_mayPut 60 = .ok (.goto 4, 3) := by decide +kernel
theorem dX9_mayPut_63 : decode cX9_mayPut 63 = .ok (.iconst 0, 1) := by decide +kernel
theorem dX9_mayPut_64 : decode cX9_mayPut 64 = .ok (.ireturn, 1) := by decide +kernel
theorem dX9_put_0 : decode cX9_put 0 = .ok (.bipush 7, 2) := by decide +kernel
theorem dX9_put_2 : decode cX9_put 2 = .ok (.iload_n 1, 1) := by decide +kernel
theorem dX9_put_3 : decode cX9_put 3 = .ok (.iload_n 2, 1) := by decide +kernel
theorem dX9_put_4 : decode cX9_put 4 = .ok (.invokestatic 64, 3) := by decide +kernel
theorem dX9_put_7 : decode cX9_put 7 = .ok (.ifCond .eq 7, 3) := by decide +kernel
theorem dX9_put_10 : decode cX9_put 10 = .ok (.iload_n 1, 1) := by decide +kernel
theorem dX9_put_11 : decode cX9_put 11 = .ok (.goto 4, 3) := by decide +kernel
theorem dX9_put_14 : decode cX9_put 14 = .ok (.iconst 0, 1) := by decide +kernel
theorem dX9_put_15 : decode cX9_put 15 = .ok (.imul, 1) := by decide +kernel
theorem dX9_put_16 : decode cX9_put 16 = .ok (.iload_n 1, 1) := by decide +kernel
theorem dX9_put_17 : decode cX9_put 17 = .ok (.iload_n 2, 1) := by decide +kernel
theorem dX9_put_18 : decode cX9_put 18 = .ok (.invokestatic 64, 3) := by decide +kernel
theorem dX9_put_21 : decode cX9_put 21 = .ok (.ifCond .eq 7, 3) := by decide +kernel
theorem dX9_put_24 : decode cX9_put 24 = .ok (.iload_n 2, 1) := by decide +kernel
theorem dX9_put_25 : decode cX9_put 25 = .ok (.goto 4, 3) := by decide +kernel
theorem dX9_put_28 : decode cX9_put 28 = .ok (.iconst 0, 1) := by decide +kernel
theorem dX9_put_29 : decode cX9_put 29 = .ok (.iadd, 1) := by decide +kernel
theorem dX9_put_30 : decode cX9_put 30 = .ok (.istore 4, 2) := by decide +kernel
theorem dX9_put_32 : decode cX9_put 32 = .ok (.aload_n 0, 1) := by decide +kernel
theorem dX9_put_33 : decode cX9_put 33 = .ok (.iload_n 1, 1) := by decide +kernel
theorem dX9_put_34 : decode cX9_put 34 = .ok (.iload_n 2, 1) := by decide +kernel
theorem dX9_put_35 : decode cX9_put 35 = .ok (.invokestatic 64, 3) := by decide +kernel
theorem dX9_put_38 : decode cX9_put 38 = .ok (.ifCond .ne 7, 3) := by decide +kernel
theorem dX9_put_41 : decode cX9_put 41 = .ok (.iconst 1, 1) := by decide +kernel
theorem dX9_put_42 : decode cX9_put 42 = .ok (.goto 34, 3) := by decide +kernel
theorem dX9_put_45 : decode cX9_put 45 = .ok (.iload_n 3, 1) := by decide +kernel
theorem dX9_put_46 : decode cX9_put 46 = .ok (.i2l, 1) := by decide +kernel
theorem dX9_put_47 : decode cX9_put 47 = .ok (.lconst 0, 1) := by decide +kernel
theorem dX9_put_48 : decode cX9_put 48 = .ok (.ldc2_w 148, 3) := by decide +kernel
theorem dX9_put_51 : decode cX9_put 51 = .ok (.invokestatic 58, 3) := by decide +kernel
theorem dX9_put_54 : decode cX9_put 54 = .ok (.ifCond .ne 7, 3) := by decide +kernel
theorem dX9_put_57 : decode cX9_put 57 = .ok (.iconst 2, 1) := by decide +kernel
theorem dX9_put_58 : decode cX9_put 58 = .ok (.goto 18, 3) := by decide +kernel
theorem dX9_put_61 : decode cX9_put 61 = .ok (.aload_n 0, 1) := by decide +kernel
theorem dX9_put_62 : decode cX9_put 62 = .ok (.iload 4, 2) := by decide +kernel
theorem dX9_put_64 : decode cX9_put 64 = .ok (.iload_n 3, 1) := by decide +kernel
theorem dX9_put_65 : decode cX9_put 65 = .ok (.invokevirtual 150, 3) := by decide +kernel
theorem dX9_put_68 : decode cX9_put 68 = .ok (.ifCond .ne 7, 3) := by decide +kernel
theorem dX9_put_71 : decode cX9_put 71 = .ok (.iconst 3, 1) := by decide +kernel
theorem dX9_put_72 : decode cX9_put 72 = .ok (.goto 4, 3) := by decide +kernel
theorem dX9_put_75 : decode cX9_put 75 = .ok (.iconst 0, 1) := by decide +kernel
theorem dX9_put_76 : decode cX9_put 76 = .ok (.invokevirtual 153, 3) := by decide +kernel
theorem dX9_put_79 : decode cX9_put 79 = .ok (.ifCond .eq 5, 3) := by decide +kernel
theorem dX9_put_82 : decode cX9_put 82 = .ok (.iconst 0, 1) := by decide +kernel
theorem dX9_put_83 : decode cX9_put 83 = .ok (.ireturn, 1) := by decide +kernel
theorem dX9_put_84 : decode cX9_put 84 = .ok (.aload_n 0, 1) := by decide +kernel
theorem dX9_put_85 : decode cX9_put 85 = .ok (.invokevirtual 145, 3) := by decide +kernel
theorem dX9_put_88 : decode cX9_put 88 = .ok (.aload_n 0, 1) := by decide +kernel
theorem dX9_put_89 : decode cX9_put 89 = .ok (.getfield 7, 3) := by decide +kernel
theorem dX9_put_92 : decode cX9_put 92 = .ok (.iload 4, 2) := by decide +kernel
theorem dX9_put_94 : decode cX9_put 94 = .ok (.iaload, 1) := by decide +kernel
theorem dX9_put_95 : decode cX9_put 95 = .ok (.istore 5, 2) := by decide +kernel
theorem dX9_put_97 : decode cX9_put 97 = .ok (.aload_n 0, 1) := by decide +kernel
theorem dX9_put_98 : decode cX9_put 98 = .ok (.getfield 7, 3) := by decide +kernel
theorem dX9_put_101 : decode cX9_put 101 = .ok (.iload 4, 2) := by decide +kernel
theorem dX9_put_103 : decode cX9_put 103 = .ok (.iload_n 3, 1) := by decide +kernel
theorem dX9_put_104 : decode cX9_put 104 = .ok (.iastore, 1) := by decide +kernel
theorem dX9_put_105 : decode cX9_put 105 = .ok (.iload 5, 2) := by decide +kernel
theorem dX9_put_107 : decode cX9_put 107 = .ok (.ireturn, 1) := by decide +kernel
theorem dX9_start_0 : decode cX9_start 0 = .ok (.aload_n 0, 1) := by decide +kernel
theorem dX9_start_1 : decode cX9_start 1 = .ok (.getfield 7, 3) := by decide +kernel
theorem dX9_start_4 : decode cX9_start 4 = .ok (.invokestatic 98, 3) := by decide +kernel
theorem dX9_start_7 : decode cX9_start 7 = .ok (.istore_n 2, 1) := by decide +kernel
theorem dX9_start_8 : decode cX9_start 8 = .ok (.aload_n 0, 1) := by decide +kernel
theorem dX9_start_9 : decode cX9_start 9 = .ok (.getfield 7, 3) := by decide +kernel
theorem dX9_start_12 : decode cX9_start 12 = .ok (.bipush 51, 2) := by decide +kernel
theorem dX9_start_14 : decode cX9_start 14 = .ok (.iaload, 1) := by decide +kernel
theorem dX9_start_15 : decode cX9_start 15 = .ok (.ifCond .ne 19, 3) := by decide +kernel
theorem dX9_start_18 : decode cX9_start 18 = .ok (.iload_n 2, 1) := by decide +kernel
theorem dX9_start_19 : decode cX9_start 19 = .ok (.iconst (-1), 1) := by decide +kernel
theorem dX9_start_20 : decode cX9_start 20 = .ok (.if_icmp .eq 14, 3) := by decide +kernel
theorem dX9_start_23 : decode cX9_start 23 = .ok (.iload_n 2, 1) := by decide +kernel
theorem dX9_start_24 : decode cX9_start 24 = .ok (.invokestatic 68, 3) := by decide +kernel
theorem dX9_start_27 : decode cX9_start 27 = .ok (.ifCond .ne 7, 3) := by decide +kernel
theorem dX9_start_30 : decode cX9_start 30 = .ok (.iconst 1, 1) := by decide +kernel
theorem dX9_start_31 : decode cX9_start 31 = .ok (.goto 4, 3) := by decide +kernel
theorem dX9_start_34 : decode cX9_start 34 = .ok (.iconst 0, 1) := by decide +kernel
theorem dX9_start_35 : decode cX9_start 35 = .ok (.istore_n 3, 1) := by decide +kernel
theorem dX9_start_36 : decode cX9_start 36 = .ok (.aload_n 0, 1) := by decide +kernel
theorem dX9_start_37 : decode cX9_start 37 = .ok (.iload_n 1, 1) := by decide +kernel
theorem dX9_start_38 : decode cX9_start 38 = .ok (.invokestatic 156, 3) := by decide +kernel
theorem dX9_start_41 : decode cX9_start 41 = .ok (.ifCond .ne 7, 3) := by decide +kernel
theorem dX9_start_44 : decode cX9_start 44 = .ok (.iconst 1, 1) := by decide +kernel
theorem dX9_start_45 : decode cX9_start 45 = .ok (.goto 12, 3) := by decide +kernel
theorem dX9_start_48 : decode cX9_start 48 = .ok (.iload_n 3, 1) := by decide +kernel
theorem dX9_start_49 : decode cX9_start 49 = .ok (.ifCond .ne 7, 3) := by decide +kernel
theorem dX9_start_52 : decode cX9_start 52 = .ok (.iconst 2, 1) := by decide +kernel
theorem dX9_start_53 : decode cX9_start 53 = .ok (.goto 4, 3) := by decide +kernel
theorem dX9_start_56 : decode cX9_start 56 = .ok (.iconst 0, 1) := by decide +kernel
theorem dX9_start_57 : decode cX9_start 57 = .ok (.invokevirtual 153, 3) := by decide +kernel
theorem dX9_start_60 : decode cX9_start 60 = .ok (.ifCond .eq 5, 3) := by decide +kernel
theorem dX9_start_63 : decode cX9_start 63 = .ok (.iconst 0, 1) := by decide +kernel
theorem dX9_start_64 : decode cX9_start 64 = .ok (.ireturn, 1) := by decide +kernel
theorem dX9_start_65 : decode cX9_start 65 = .ok (.aload_n 0, 1) := by decide +kernel
theorem dX9_start_66 : decode cX9_start 66 = .ok (.invokevirtual 145, 3) := by decide +kernel
theorem dX9_start_69 : decode cX9_start 69 = .ok (.aload_n 0, 1) := by decide +kernel
theorem dX9_start_70 : decode cX9_start 70 = .ok (.aload_n 0, 1) := by decide +kernel
theorem dX9_start_71 : decode cX9_start 71 = .ok (.getfield 7, 3) := by decide +kernel
theorem dX9_start_74 : decode cX9_start 74 = .ok (.iload_n 1, 1) := by decide +kernel
theorem dX9_start_75 : decode cX9_start 75 = .ok (.invokevirtual 126, 3) := by decide +kernel
theorem dX9_start_78 : decode cX9_start 78 = .ok (.ireturn, 1) := by decide +kernel
theorem dX9_turnStrong_0 : decode cX9_turnStrong 0 = .ok (.aload_n 0, 1) := by decide +kernel
theorem dX9_turnStrong_1 : decode cX9_turnStrong 1 = .ok (.iconst 0, 1) := by decide +kernel
theorem dX9_turnStrong_2 : decode cX9_turnStrong 2 = .ok (.putfield 52, 3) := by decide +kernel
theorem dX9_turnStrong_5 : decode cX9_turnStrong 5 = .ok (.aload_n 0, 1) := by decide +kernel
theorem dX9_turnStrong_6 : decode cX9_turnStrong 6 = .ok (.invokevirtual 145, 3) := by decide +kernel
theorem dX9_turnStrong_9 : decode cX9_turnStrong 9 = .ok (.aload_n 0, 1) := by decide +kernel
theorem dX9_turnStrong_10 : decode cX9_turnStrong 10 = .ok (.getfield 7, 3) := by decide +kernel
theorem dX9_turnStrong_13 : decode cX9_turnStrong 13 = .ok (.bipush 52, 2) := by decide +kernel
theorem dX9_turnStrong_15 : decode cX9_turnStrong 15 = .ok (.iconst 1, 1) := by decide +kernel
theorem dX9_turnStrong_16 : decode cX9_turnStrong 16 = .ok (.aload_n 0, 1) := by decide +kernel
theorem dX9_turnStrong_17 : decode cX9_turnStrong 17 = .ok (.getfield 7, 3) := by decide +kernel
theorem dX9_turnStrong_20 : decode cX9_turnStrong 20 = .ok (.bipush 52, 2) := by decide +kernel
theorem dX9_turnStrong_22 : decode cX9_turnStrong 22 = .ok (.iaload, 1) := by decide +kernel
theorem dX9_turnStrong_23 : decode cX9_turnStrong 23 = .ok (.isub, 1) := by decide +kernel
theorem dX9_turnStrong_24 : decode cX9_turnStrong 24 = .ok (.iastore, 1) := by decide +kernel
theorem dX9_turnStrong_25 : decode cX9_turnStrong 25 = .ok (.aload_n 0, 1) := by decide +kernel
theorem dX9_turnStrong_26 : decode cX9_turnStrong 26 = .ok (.getfield 7, 3) := by decide +kernel
theorem dX9_turnStrong_29 : decode cX9_turnStrong 29 = .ok (.bipush 52, 2) := by decide +kernel
theorem dX9_turnStrong_31 : decode cX9_turnStrong 31 = .ok (.iaload, 1) := by decide +kernel
theorem dX9_turnStrong_32 : decode cX9_turnStrong 32 = .ok (.iconst 1, 1) := by decide +kernel
theorem dX9_turnStrong_33 : decode cX9_turnStrong 33 = .ok (.if_icmp .ne 7, 3) := by decide +kernel
theorem dX9_turnStrong_36 : decode cX9_turnStrong 36 = .ok (.iconst 1, 1) := by decide +kernel
theorem dX9_turnStrong_37 : decode cX9_turnStrong 37 = .ok (.goto 4, 3) := by decide +kernel
theorem dX9_turnStrong_40 : decode cX9_turnStrong 40 = .ok (.iconst 0, 1) := by decide +kernel
theorem dX9_turnStrong_41 : decode cX9_turnStrong 41 = .ok (.ireturn, 1) := by decide +kernel
theorem dX9_move_0 : decode cX9_move 0 = .ok (.iload_n 1, 1) := by decide +kernel
theorem dX9_move_1 : decode cX9_move 1 = .ok (.invokestatic 159, 3) := by decide +kernel
theorem dX9_move_4 : decode cX9_move 4 = .ok (.ifCond .eq 14, 3) := by decide +kernel
theorem dX9_move_7 : decode cX9_move 7 = .ok (.iload_n 2, 1) := by decide +kernel
theorem dX9_move_8 : decode cX9_move 8 = .ok (.invokestatic 159, 3) := by decide +kernel
theorem dX9_move_11 : decode cX9_move 11 = .ok (.ifCond .eq 7, 3) := by decide +kernel
theorem dX9_move_14 : decode cX9_move 14 = .ok (.iconst 1, 1) := by decide +kernel
theorem dX9_move_15 : decode cX9_move 15 = .ok (.goto 4, 3) := by decide +kernel
theorem dX9_move_18 : decode cX9_move 18 = .ok (.iconst 0, 1) := by decide +kernel
theorem dX9_move_19 : decode cX9_move 19 = .ok (.istore_n 3, 1) := by decide +kernel
theorem dX9_move_20 : decode cX9_move 20 = .ok (.aload_n 0, 1) := by decide +kernel
theorem dX9_move_21 : decode cX9_move 21 = .ok (.iload_n 3, 1) := by decide +kernel
theorem dX9_move_22 : decode cX9_move 22 = .ok (.ifCond .ne 7, 3) := by decide +kernel
theorem dX9_move_25 : decode cX9_move 25 = .ok (.iconst 1, 1) := by decide +kernel
theorem dX9_move_26 : decode cX9_move 26 = .ok (.goto 20, 3) := by decide +kernel
theorem dX9_move_29 : decode cX9_move 29 = .ok (.aload_n 0, 1) := by decide +kernel
theorem dX9_move_30 : decode cX9_move 30 = .ok (.getfield 7, 3) := by decide +kernel
theorem dX9_move_33 : decode cX9_move 33 = .ok (.iload_n 1, 1) := by decide +kernel
theorem dX9_move_34 : decode cX9_move 34 = .ok (.iload_n 2, 1) := by decide +kernel
theorem dX9_move_35 : decode cX9_move 35 = .ok (.invokestatic 162, 3) := by decide +kernel
theorem dX9_move_38 : decode cX9_move 38 = .ok (.ifCond .ne 7, 3) := by decide +kernel
theorem dX9_move_41 : decode cX9_move 41 = .ok (.iconst 2, 1) := by decide +kernel
theorem dX9_move_42 : decode cX9_move 42 = .ok (.goto 4, 3) := by decide +kernel
theorem dX9_move_45 : decode cX9_move 45 = .ok (.iconst 0, 1) := by decide +kernel
theorem dX9_move_46 : decode cX9_move 46 = .ok (.invokevirtual 153, 3) := by decide +kernel
theorem dX9_move_49 : decode cX9_move 49 = .ok (.ifCond .eq 5, 3) := by decide +kernel
theorem dX9_move_52 : decode cX9_move 52 = .ok (.iconst 0, 1) := by decide +kernel
theorem dX9_move_53 : decode cX9_move 53 = .ok (.ireturn, 1) := by decide +kernel
theorem dX9_move_54 : decode cX9_move 54 = .ok (.aload_n 0, 1) := by decide +kernel
theorem dX9_move_55 : decode cX9_move 55 = .ok (.invokevirtual 145, 3) := by decide +kernel
theorem dX9_move_58 : decode cX9_move 58 = .ok (.aload_n 0, 1) := by decide +kernel
theorem dX9_move_59 : decode cX9_move 59 = .ok (.aload_n 0, 1) := by decide +kernel
theorem dX9_move_60 : decode cX9_move 60 = .ok (.getfield 7, 3) := by decide +kernel
theorem dX9_move_63 : decode cX9_move 63 = .ok (.iload_n 1, 1) := by decide +kernel
theorem dX9_move_64 : decode cX9_move 64 = .ok (.iload_n 2, 1) := by decide +kernel
theorem dX9_move_65 : decode cX9_move 65 = .ok (.invokevirtual 165, 3) := by decide +kernel
theorem dX9_move_68 : decode cX9_move 68 = .ok (.ireturn, 1) := by decide +kernel
theorem dX9_append_0 : decode cX9_append 0 = .ok (.aload_n 0, 1) := by decide +kernel
theorem dX9_append_1 : decode cX9_append 1 = .ok (.iload_n 1, 1) := by decide +kernel
theorem dX9_append_2 : decode cX9_append 2 = .ok (.i2l, 1) := by decide +kernel
theorem dX9_append_3 : decode cX9_append 3 = .ok (.ldc2_w 168, 3) := by decide +kernel
theorem dX9_append_6 : decode cX9_append 6 = .ok (.ldc2_w 170, 3) := by decide +kernel
theorem dX9_append_9 : decode cX9_append 9 = .ok (.invokestatic 58, 3) := by decide +kernel
theorem dX9_append_12 : decode cX9_append 12 = .ok (.ifCond .ne 7, 3) := by decide +kernel
theorem dX9_append_15 : decode cX9_append 15 = .ok (.iconst 1, 1) := by decide +kernel
theorem dX9_append_16 : decode cX9_append 16 = .ok (.goto 17, 3) := by decide +kernel
theorem dX9_append_19 : decode cX9_append 19 = .ok (.aload_n 0, 1) := by decide +kernel
theorem dX9_append_20 : decode cX9_append 20 = .ok (.getfield 172, 3) := by decide +kernel
theorem dX9_append_23 : decode cX9_append 23 = .ok (.bipush 60, 2) := by decide +kernel
theorem dX9_append_25 : decode cX9_append 25 = .ok (.if_icmp .ne 7, 3) := by decide +kernel
theorem dX9_append_28 : decode cX9_append 28 = .ok (.iconst 2, 1) := by decide +kernel
theorem dX9_append_29 : decode cX9_append 29 = .ok (.goto 4, 3) := by decide +kernel
theorem dX9_append_32 : decode cX9_append 32 = .ok (.iconst 0, 1) := by decide +kernel
theorem dX9_append_33 : decode cX9_append 33 = .ok (.invokevirtual 153, 3) := by decide +kernel
theorem dX9_append_36 : decode cX9_append 36 = .ok (.ifCond .eq 5, 3) := by decide +kernel
theorem dX9_append_39 : decode cX9_append 39 = .ok (.iconst 0, 1) := by decide +kernel
theorem dX9_append_40 : decode cX9_append 40 = .ok (.ireturn, 1) := by decide +kernel
theorem dX9_append_41 : decode cX9_append 41 = .ok (.aload_n 0, 1) := by decide +kernel
theorem dX9_append_42 : decode cX9_append 42 = .ok (.getfield 45, 3) := by decide +kernel
theorem dX9_append_45 : decode cX9_append 45 = .ok (.aload_n 0, 1) := by decide +kernel
theorem dX9_append_46 : decode cX9_append 46 = .ok (.getfield 172, 3) := by decide +kernel
theorem dX9_append_49 : decode cX9_append 49 = .ok (.iload_n 1, 1) := by decide +kernel
theorem dX9_append_50 : decode cX9_append 50 = .ok (.iastore, 1) := by decide +kernel
theorem dX9_append_51 : decode cX9_append 51 = .ok (.aload_n 0, 1) := by decide +kernel
theorem dX9_append_52 : decode cX9_append 52 = .ok (.dup, 1) := by decide +kernel
theorem dX9_append_53 : decode cX9_append 53 = .ok (.getfield 172, 3) := by decide +kernel
theorem dX9_append_56 : decode cX9_append 56 = .ok (.iconst 1, 1) := by decide +kernel
theorem dX9_append_57 : decode cX9_append 57 = .ok (.iadd, 1) := by decide +kernel
theorem dX9_append_58 : decode cX9_append 58 = .ok (.putfield 172, 3) := by decide +kernel
theorem dX9_append_61 : decode cX9_append 61 = .ok (.aload_n 0, 1) := by decide +kernel
theorem dX9_append_62 : decode cX9_append 62 = .ok (.getfield 172, 3) := by decide +kernel
theorem dX9_append_65 : decode cX9_append 65 = .ok (.ireturn, 1) := by decide +kernel
theorem dX9_clearBuffer_0 : decode cX9_clearBuffer 0 = .ok (.aload_n 0, 1) := by decide +kernel
theorem dX9_clearBuffer_1 : decode cX9_clearBuffer 1 = .ok (.iconst 0, 1) := by decide +kernel
theorem dX9_clearBuffer_2 : decode cX9_clearBuffer 2 = .ok (.putfield 52, 3) := by decide +kernel
theorem dX9_clearBuffer_5 : decode cX9_clearBuffer 5 = .ok (.aload_n 0, 1) := by decide +kernel
theorem dX9_clearBuffer_6 : decode cX9_clearBuffer 6 = .ok (.getfield 172, 3) := by decide +kernel
theorem dX9_clearBuffer_9 : decode cX9_clearBuffer 9 = .ok (.istore_n 1, 1) := by decide +kernel
theorem dX9_clearBuffer_10 : decode cX9_clearBuffer 10 = .ok (.aload_n 0, 1) := by decide +kernel
theorem dX9_clearBuffer_11 : decode cX9_clearBuffer 11 = .ok (.iconst 0, 1) := by decide +kernel
theorem dX9_clearBuffer_12 : decode cX9_clearBuffer 12 = .ok (.putfield 172, 3) := by decide +kernel
theorem dX9_clearBuffer_15 : decode cX9_clearBuffer 15 = .ok (.iload_n 1, 1) := by decide +kernel
theorem dX9_clearBuffer_16 : decode cX9_clearBuffer 16 = .ok (.ireturn, 1) := by decide +kernel
theorem dX9_here_0 : decode cX9_here 0 = .ok (.aload_n 0, 1) := by decide +kernel
theorem dX9_here_1 : decode cX9_here 1 = .ok (.getfield 175, 3) := by decide +kernel
theorem dX9_here_4 : decode cX9_here 4 = .ok (.aload_n 0, 1) := by decide +kernel
theorem dX9_here_5 : decode cX9_here 5 = .ok (.getfield 172, 3) := by decide +kernel
theorem dX9_here_8 : decode cX9_here 8 = .ok (.if_icmp .ge 15, 3) := by decide +kernel
theorem dX9_here_11 : decode cX9_here 11 = .ok (.aload_n 0, 1) := by decide +kernel
theorem dX9_here_12 : decode cX9_here 12 = .ok (.getfield 45, 3) := by decide +kernel
theorem dX9_here_15 : decode cX9_here 15 = .ok (.aload_n 0, 1) := by decide +kernel
theorem dX9_here_16 : decode cX9_here 16 = .ok (.getfield 175, 3) := by decide +kernel
theorem dX9_here_19 : decode cX9_here 19 = .ok (.iaload, 1) := by decide +kernel
theorem dX9_here_20 : decode cX9_here 20 = .ok (.goto 4, 3) := by decide +kernel
theorem dX9_here_23 : decode cX9_here 23 = .ok (.iconst (-1), 1) := by decide +kernel
theorem dX9_here_24 : decode cX9_here 24 = .ok (.ireturn, 1) := by decide +kernel
theorem dX9_take_0 : decode cX9_take 0 = .ok (.aload_n 0, 1) := by decide +kernel
theorem dX9_take_1 : decode cX9_take 1 = .ok (.invokevirtual 178, 3) := by decide +kernel
theorem dX9_take_4 : decode cX9_take 4 = .ok (.istore_n 3, 1) := by decide +kernel
theorem dX9_take_5 : decode cX9_take 5 = .ok (.aload_n 0, 1) := by decide +kernel
theorem dX9_take_6 : decode cX9_take 6 = .ok (.aload_n 0, 1) := by decide +kernel
theorem dX9_take_7 : decode cX9_take 7 = .ok (.getfield 182, 3) := by decide +kernel
theorem dX9_take_10 : decode cX9_take 10 = .ok (.ifCond .eq 19, 3) := by decide +kernel
theorem dX9_take_13 : decode cX9_take 13 = .ok (.iload_n 3, 1) := by decide +kernel
theorem dX9_take_14 : decode cX9_take 14 = .ok (.i2l, 1) := by decide +kernel
theorem dX9_take_15 : decode cX9_take 15 = .ok (.iload_n 1, 1) := by decide +kernel
theorem dX9_take_16 : decode cX9_take 16 = .ok (.i2l, 1) := by decide +kernel
theorem dX9_take_17 : decode cX9_take 17 = .ok (.iload_n 2, 1) := by decide +kernel
theorem dX9_take_18 : decode cX9_take 18 = .ok (.i2l, 1) := by decide +kernel
theorem dX9_take_19 : decode cX9_take 19 = .ok (.invokestatic 58, 3) := by decide +kernel
theorem dX9_take_22 : decode cX9_take 22 = .ok (.ifCond .eq 7, 3) := by decide +kernel
theorem dX9_take_25 : decode cX9_take 25 = .ok (.iconst 1, 1) := by decide +kernel
theorem dX9_take_26 : decode cX9_take 26 = .ok (.goto 4, 3) := by decide +kernel
theorem dX9_take_29 : decode cX9_take 29 = .ok (.iconst 0, 1) := by decide +kernel
theorem dX9_take_30 : decode cX9_take 30 = .ok (.putfield 182, 3) := by decide +kernel
theorem dX9_take_33 : decode cX9_take 33 = .ok (.aload_n 0, 1) := by decide +kernel
theorem dX9_take_34 : decode cX9_take 34 = .ok (.dup, 1) := by decide +kernel
theorem dX9_take_35 : decode cX9_take 35 = .ok (.getfield 175, 3) := by decide +kernel
theorem dX9_take_38 : decode cX9_take 38 = .ok (.aload_n 0, 1) := by decide +kernel
theorem dX9_take_39 : decode cX9_take 39 = .ok (.getfield 182, 3) := by decide +kernel
theorem dX9_take_42 : decode cX9_take 42 = .ok (.ifCond .eq 7, 3) := by decide +kernel
theorem dX9_take_45 : decode cX9_take 45 = .ok (.iconst 1, 1) := by decide +kernel
theorem dX9_take_46 : decode cX9_take 46 = .ok (.goto 4, 3) := by decide +kernel
theorem dX9_take_49 : decode cX9_take 49 = .ok (.iconst 0, 1) := by decide +kernel
theorem dX9_take_50 : decode cX9_take 50 = .ok (.iadd, 1) := by decide +kernel
theorem dX9_take_51 : decode cX9_take 51 = .ok (.putfield 175, 3) := by decide +kernel
theorem dX9_take_54 : decode cX9_take 54 = .ok (.aload_n 0, 1) := by decide +kernel
theorem dX9_take_55 : decode cX9_take 55 = .ok (.getfield 182, 3) := by decide +kernel
theorem dX9_take_58 : decode cX9_take 58 = .ok (.ifCond .eq 9, 3) := by decide +kernel
theorem dX9_take_61 : decode cX9_take 61 = .ok (.iload_n 3, 1) := by decide +kernel
theorem dX9_take_62 : decode cX9_take 62 = .ok (.iload_n 1, 1) := by decide +kernel
theorem dX9_take_63 : decode cX9_take 63 = .ok (.isub, 1) := by decide +kernel
theorem dX9_take_64 : decode cX9_take 64 = .ok (.goto 4, 3) := by decide +kernel
theorem dX9_take_67 : decode cX9_take 67 = .ok (.iconst 0, 1) := by decide +kernel
theorem dX9_take_68 : decode cX9_take 68 = .ok (.ireturn, 1) := by decide +kernel
theorem dX9_readPart_0 : decode cX9_readPart 0 = .ok (.aload_n 0, 1) := by decide +kernel
theorem dX9_readPart_1 : decode cX9_readPart 1 = .ok (.bipush 97, 2) := by decide +kernel
theorem dX9_readPart_3 : decode cX9_readPart 3 = .ok (.bipush 103, 2) := by decide +kernel
theorem dX9_readPart_5 : decode cX9_readPart 5 = .ok (.invokevirtual 186, 3) := by decide +kernel
theorem dX9_readPart_8 : decode cX9_readPart 8 = .ok (.istore_n 1, 1) := by decide +kernel
theorem dX9_readPart_9 : decode cX9_readPart 9 = .ok (.bipush 7, 2) := by decide +kernel
theorem dX9_readPart_11 : decode cX9_readPart 11 = .ok (.aload_n 0, 1) := by decide +kernel
theorem dX9_readPart_12 : decode cX9_readPart 12 = .ok (.bipush 49, 2) := by decide +kernel
theorem dX9_readPart_14 : decode cX9_readPart 14 = .ok (.bipush 55, 2) := by decide +kernel
theorem dX9_readPart_16 : decode cX9_readPart 16 = .ok (.invokevirtual 186, 3) := by decide +kernel
theorem dX9_readPart_19 : decode cX9_readPart 19 = .ok (.imul, 1) := by decide +kernel
theorem dX9_readPart_20 : decode cX9_readPart 20 = .ok (.iload_n 1, 1) := by decide +kernel
theorem dX9_readPart_21 : decode cX9_readPart 21 = .ok (.iadd, 1) := by decide +kernel
theorem dX9_readPart_22 : decode cX9_readPart 22 = .ok (.istore_n 2, 1) := by decide +kernel
theorem dX9_readPart_23 : decode cX9_readPart 23 = .ok (.aload_n 0, 1) := by decide +kernel
theorem dX9_readPart_24 : decode cX9_readPart 24 = .ok (.bipush 97, 2) := by decide +kernel
theorem dX9_readPart_26 : decode cX9_readPart 26 = .ok (.bipush 103, 2) := by decide +kernel
theorem dX9_readPart_28 : decode cX9_readPart 28 = .ok (.invokevirtual 186, 3) := by decide +kernel
theorem dX9_readPart_31 : decode cX9_readPart 31 = .ok (.istore_n 1, 1) := by decide +kernel
theorem dX9_readPart_32 : decode cX9_readPart 32 = .ok (.bipush 7, 2) := by decide +kernel
theorem dX9_readPart_34 : decode cX9_readPart 34 = .ok (.aload_n 0, 1) := by decide +kernel
theorem dX9_readPart_35 : decode cX9_readPart 35 = .ok (.bipush 49, 2) := by decide +kernel
theorem dX9_readPart_37 : decode cX9_readPart 37 = .ok (.bipush 55, 2) := by decide +kernel
theorem dX9_readPart_39 : decode cX9_readPart 39 = .ok (.invokevirtual 186, 3) := by decide +kernel
theorem dX9_readPart_42 : decode cX9_readPart 42 = .ok (.imul, 1) := by decide +kernel
theorem dX9_readPart_43 : decode cX9_readPart 43 = .ok (.iload_n 1, 1) := by decide +kernel
theorem dX9_readPart_44 : decode cX9_readPart 44 = .ok (.iadd, 1) := by decide +kernel
theorem dX9_readPart_45 : decode cX9_readPart 45 = .ok (.istore_n 3, 1) := by decide +kernel
theorem dX9_readPart_46 : decode cX9_readPart 46 = .ok (.aload_n 0, 1) := by decide +kernel
theorem dX9_readPart_47 : decode cX9_readPart 47 = .ok (.getfield 182, 3) := by decide +kernel
theorem dX9_readPart_50 : decode cX9_readPart 50 = .ok (.ifCond .eq 53, 3) := by decide +kernel
theorem dX9_readPart_53 : decode cX9_readPart 53 = .ok (.aload_n 0, 1) := by decide +kernel
theorem dX9_readPart_54 : decode cX9_readPart 54 = .ok (.getfield 189, 3) := by decide +kernel
theorem dX9_readPart_57 : decode cX9_readPart 57 = .ok (.ifCond .eq 46, 3) := by decide +kernel
theorem dX9_readPart_60 : decode cX9_readPart 60 = .ok (.aload_n 0, 1) := by decide +kernel
theorem dX9_readPart_61 : decode cX9_readPart 61 = .ok (.aload_n 0, 1) := by decide +kernel
theorem dX9_readPart_62 : decode cX9_readPart 62 = .ok (.getfield 13, 3) := by decide +kernel
theorem dX9_readPart_65 : decode cX9_readPart 65 = .ok (.iload_n 2, 1) := by decide +kernel
theorem dX9_readPart_66 : decode cX9_readPart 66 = .ok (.iload_n 3, 1) := by decide +kernel
theorem dX9_readPart_67 : decode cX9_readPart 67 = .ok (.invokestatic 162, 3) := by decide +kernel
theorem dX9_readPart_70 : decode cX9_readPart 70 = .ok (.putfield 189, 3) := by decide +kernel
theorem dX9_readPart_73 : decode cX9_readPart 73 = .ok (.aload_n 0, 1) := by decide +kernel
theorem dX9_readPart_74 : decode cX9_readPart 74 = .ok (.dup, 1) := by decide +kernel
theorem dX9_readPart_75 : decode cX9_readPart 75 = .ok (.getfield 192, 3) := by decide +kernel
theorem dX9_readPart_78 : decode cX9_readPart 78 = .ok (.aload_n 0, 1) := by decide +kernel
theorem dX9_readPart_79 : decode cX9_readPart 79 = .ok (.getfield 189, 3) := by decide +kernel
theorem dX9_readPart_82 : decode cX9_readPart 82 = .ok (.ifCond .eq 16, 3) := by decide +kernel
theorem dX9_readPart_85 : decode cX9_readPart 85 = .ok (.aload_n 0, 1) := by decide +kernel
theorem dX9_readPart_86 : decode cX9_readPart 86 = .ok (.aload_n 0, 1) := by decide +kernel
theorem dX9_readPart_87 : decode cX9_readPart 87 = .ok (.getfield 13, 3) := by decide +kernel
theorem dX9_readPart_90 : decode cX9_readPart 90 = .ok (.iload_n 2, 1) := by decide +kernel
theorem dX9_readPart_91 : decode cX9_readPart 91 = .ok (.iload_n 3, 1) := by decide +kernel
theorem dX9_readPart_92 : decode cX9_readPart 92 = .ok (.invokevirtual 165, 3) := by decide +kernel
theorem dX9_readPart_95 : decode cX9_readPart 95 = .ok (.goto 4, 3) := by decide +kernel
theorem dX9_readPart_98 : decode cX9_readPart 98 = .ok (.iconst 0, 1) := by decide +kernel
theorem dX9_readPart_99 : decode cX9_readPart 99 = .ok (.iadd, 1) := by decide +kernel
theorem dX9_readPart_100 : decode cX9_readPart 100 = .ok (.putfield 192, 3) := by decide +kernel
theorem dX9_readPart_103 : decode cX9_readPart 103 = .ok (.return_, 1) := by decide +kernel
theorem dX9_readAll_0 : decode cX9_readAll 0 = .ok (.aload_n 0, 1) := by decide +kernel
theorem dX9_readAll_1 : decode cX9_readAll 1 = .ok (.iconst 0, 1) := by decide +kernel
theorem dX9_readAll_2 : decode cX9_readAll 2 = .ok (.putfield 175, 3) := by decide +kernel
theorem dX9_readAll_5 : decode cX9_readAll 5 = .ok (.aload_n 0, 1) := by decide +kernel
theorem dX9_readAll_6 : decode cX9_readAll 6 = .ok (.iconst 1, 1) := by decide +kernel
theorem dX9_readAll_7 : decode cX9_readAll 7 = .ok (.putfield 182, 3) := by decide +kernel
theorem dX9_readAll_10 : decode cX9_readAll 10 = .ok (.aload_n 0, 1) := by decide +kernel
theorem dX9_readAll_11 : decode cX9_readAll 11 = .ok (.iload_n 1, 1) := by decide +kernel
theorem dX9_readAll_12 : decode cX9_readAll 12 = .ok (.putfield 189, 3) := by decide +kernel
theorem dX9_readAll_15 : decode cX9_readAll 15 = .ok (.aload_n 0, 1) := by decide +kernel
theorem dX9_readAll_16 : decode cX9_readAll 16 = .ok (.iconst 0, 1) := by decide +kernel
theorem dX9_readAll_17 : decode cX9_readAll 17 = .ok (.putfield 192, 3) := by decide +kernel
theorem dX9_readAll_20 : decode cX9_readAll 20 = .ok (.aload_n 0, 1) := by decide +kernel
theorem dX9_readAll_21 : decode cX9_readAll 21 = .ok (.getfield 7, 3) := by decide +kernel
theorem dX9_readAll_24 : decode cX9_readAll 24 = .ok (.aload_n 0, 1) := by decide +kernel
theorem dX9_readAll_25 : decode cX9_readAll 25 = .ok (.getfield 13, 3) := by decide +kernel
theorem dX9_readAll_28 : decode cX9_readAll 28 = .ok (.invokestatic 195, 3) := by decide +kernel
theorem dX9_readAll_31 : decode cX9_readAll 31 = .ok (.aload_n 0, 1) := by decide +kernel
theorem dX9_readAll_32 : decode cX9_readAll 32 = .ok (.invokevirtual 199, 3) := by decide +kernel
theorem dX9_readAll_35 : decode cX9_readAll 35 = .ok (.aload_n 0, 1) := by decide +kernel
theorem dX9_readAll_36 : decode cX9_readAll 36 = .ok (.getfield 182, 3) := by decide +kernel
theorem dX9_readAll_39 : decode cX9_readAll 39 = .ok (.ifCond .eq 37, 3) := by decide +kernel
theorem dX9_readAll_42 : decode cX9_readAll 42 = .ok (.aload_n 0, 1) := by decide +kernel
theorem dX9_readAll_43 : decode cX9_readAll 43 = .ok (.getfield 175, 3) := by decide +kernel
theorem dX9_readAll_46 : decode cX9_readAll 46 = .ok (.aload_n 0, 1) := by decide +kernel
theorem dX9_readAll_47 : decode cX9_readAll 47 = .ok (.getfield 172, 3) := by decide +kernel
theorem dX9_readAll_50 : decode cX9_readAll 50 = .ok (.if_icmp .ge 26, 3) := by decide +kernel
theorem dX9_readAll_53 : decode cX9_readAll 53 = .ok (.aload_n 0, 1) := by decide +kernel
theorem dX9_readAll_54 : decode cX9_readAll 54 = .ok (.bipush 59, 2) := by decide +kernel
theorem dX9_readAll_56 : decode cX9_readAll 56 = .ok (.bipush 59, 2) := by decide +kernel
theorem dX9_readAll_58 : decode cX9_readAll 58 = .ok (.invokevirtual 186, 3) := by decide +kernel
theorem dX9_readAll_61 : decode cX9_readAll 61 = .ok (.istore_n 2, 1) := by decide +kernel
theorem dX9_readAll_62 : decode cX9_readAll 62 = .ok (.aload_n 0, 1) := by decide +kernel
theorem dX9_readAll_63 : decode cX9_readAll 63 = .ok (.getfield 182, 3) := by decide +kernel
theorem dX9_readAll_66 : decode cX9_readAll 66 = .ok (.ifCond .eq 7, 3) := by decide +kernel
theorem dX9_readAll_69 : decode cX9_readAll 69 = .ok (.aload_n 0, 1) := by decide +kernel
theorem dX9_readAll_70 : decode cX9_readAll 70 = .ok (.invokevirtual 199, 3) := by decide +kernel
theorem dX9_readAll_73 : decode cX9_readAll 73 = .ok (.goto (-38), 3) := by decide +kernel
theorem dX9_readAll_76 : decode cX9_readAll 76 = .ok (.return_, 1) := by decide +kernel
theorem dX9_firstError_0 : decode cX9_firstError 0 = .ok (.aload_n 0, 1) := by decide +kernel
theorem dX9_firstError_1 : decode cX9_firstError 1 = .ok (.iconst 0, 1) := by decide +kernel
theorem dX9_firstError_2 : decode cX9_firstError 2 = .ok (.putfield 52, 3) := by decide +kernel
theorem dX9_firstError_5 : decode cX9_firstError 5 = .ok (.aload_n 0, 1) := by decide +kernel
theorem dX9_firstError_6 : decode cX9_firstError 6 = .ok (.iconst 0, 1) := by decide +kernel
theorem dX9_firstError_7 : decode cX9_firstError 7 = .ok (.invokevirtual 202, 3) := by decide +kernel
theorem dX9_firstError_10 : decode cX9_firstError 10 = .ok (.aload_n 0, 1) := by decide +kernel
theorem dX9_firstError_11 : decode cX9_firstError 11 = .ok (.getfield 182, 3) := by decide +kernel
theorem dX9_firstError_14 : decode cX9_firstError 14 = .ok (.ifCond .eq 10, 3) := by decide +kernel
theorem dX9_firstError_17 : decode cX9_firstError 17 = .ok (.aload_n 0, 1) := by decide +kernel
theorem dX9_firstError_18 : decode cX9_firstError 18 = .ok (.getfield 172, 3) := by decide +kernel
theorem dX9_firstError_21 : decode cX9_firstError 21 = .ok (.goto 7, 3) := by decide +kernel
theorem dX9_firstError_24 : decode cX9_firstError 24 = .ok (.aload_n 0, 1) := by decide +kernel
theorem dX9_firstError_25 : decode cX9_firstError 25 = .ok (.getfield 175, 3) := by decide +kernel
theorem dX9_firstError_28 : decode cX9_firstError 28 = .ok (.ireturn, 1) := by decide +kernel
theorem dX9_play_0 : decode cX9_play 0 = .ok (.aload_n 0, 1) := by decide +kernel
theorem dX9_play_1 : decode cX9_play 1 = .ok (.iconst 0, 1) := by decide +kernel
theorem dX9_play_2 : decode cX9_play 2 = .ok (.invokevirtual 202, 3) := by decide +kernel
theorem dX9_play_5 : decode cX9_play 5 = .ok (.aload_n 0, 1) := by decide +kernel
theorem dX9_play_6 : decode cX9_play 6 = .ok (.aload_n 0, 1) := by decide +kernel
theorem dX9_play_7 : decode cX9_play 7 = .ok (.getfield 182, 3) := by decide +kernel
theorem dX9_play_10 : decode cX9_play 10 = .ok (.ifCond .eq 7, 3) := by decide +kernel
theorem dX9_play_13 : decode cX9_play 13 = .ok (.iconst 0, 1) := by decide +kernel
theorem dX9_play_14 : decode cX9_play 14 = .ok (.goto 4, 3) := by decide +kernel
theorem dX9_play_17 : decode cX9_play 17 = .ok (.iconst 1, 1) := by decide +kernel
theorem dX9_play_18 : decode cX9_play 18 = .ok (.invokevirtual 153, 3) := by decide +kernel
theorem dX9_play_21 : decode cX9_play 21 = .ok (.ifCond .eq 5, 3) := by decide +kernel
theorem dX9_play_24 : decode cX9_play 24 = .ok (.iconst 0, 1) := by decide +kernel
theorem dX9_play_25 : decode cX9_play 25 = .ok (.ireturn, 1) := by decide +kernel
theorem dX9_play_26 : decode cX9_play 26 = .ok (.aload_n 0, 1) := by decide +kernel
theorem dX9_play_27 : decode cX9_play 27 = .ok (.iconst 1, 1) := by decide +kernel
theorem dX9_play_28 : decode cX9_play 28 = .ok (.invokevirtual 202, 3) := by decide +kernel
theorem dX9_play_31 : decode cX9_play 31 = .ok (.aload_n 0, 1) := by decide +kernel
theorem dX9_play_32 : decode cX9_play 32 = .ok (.aload_n 0, 1) := by decide +kernel
theorem dX9_play_33 : decode cX9_play 33 = .ok (.getfield 189, 3) := by decide +kernel
theorem dX9_play_36 : decode cX9_play 36 = .ok (.ifCond .eq 7, 3) := by decide +kernel
theorem dX9_play_39 : decode cX9_play 39 = .ok (.iconst 0, 1) := by decide +kernel
theorem dX9_play_40 : decode cX9_play 40 = .ok (.goto 4, 3) := by decide +kernel
theorem dX9_play_43 : decode cX9_play 43 = .ok (.iconst 2, 1) := by decide +kernel
theorem dX9_play_44 : decode cX9_play 44 = .ok (.invokevirtual 153, 3) := by decide +kernel
theorem dX9_play_47 : decode cX9_play 47 = .ok (.ifCond .eq 5, 3) := by decide +kernel
theorem dX9_play_50 : decode cX9_play 50 = .ok (.iconst 0, 1) := by decide +kernel
theorem dX9_play_51 : decode cX9_play 51 = .ok (.ireturn, 1) := by decide +kernel
theorem dX9_play_52 : decode cX9_play 52 = .ok (.aload_n 0, 1) := by decide +kernel
theorem dX9_play_53 : decode cX9_play 53 = .ok (.invokevirtual 145, 3) := by decide +kernel
theorem dX9_play_56 : decode cX9_play 56 = .ok (.aload_n 0, 1) := by decide +kernel
theorem dX9_play_57 : decode cX9_play 57 = .ok (.getfield 13, 3) := by decide +kernel
theorem dX9_play_60 : decode cX9_play 60 = .ok (.aload_n 0, 1) := by decide +kernel
theorem dX9_play_61 : decode cX9_play 61 = .ok (.getfield 7, 3) := by decide +kernel
theorem dX9_play_64 : decode cX9_play 64 = .ok (.invokestatic 195, 3) := by decide +kernel
theorem dX9_play_67 : decode cX9_play 67 = .ok (.aload_n 0, 1) := by decide +kernel
theorem dX9_play_68 : decode cX9_play 68 = .ok (.iconst 0, 1) := by decide +kernel
theorem dX9_play_69 : decode cX9_play 69 = .ok (.putfield 172, 3) := by decide +kernel
theorem dX9_play_72 : decode cX9_play 72 = .ok (.aload_n 0, 1) := by decide +kernel
theorem dX9_play_73 : decode cX9_play 73 = .ok (.getfield 192, 3) := by decide +kernel
theorem dX9_play_76 : decode cX9_play 76 = .ok (.ireturn, 1) := by decide +kernel
theorem dX9_isSlot_0 : decode cX9_isSlot 0 = .ok (.iload_n 0, 1) := by decide +kernel
theorem dX9_isSlot_1 : decode cX9_isSlot 1 = .ok (.i2l, 1) := by decide +kernel
theorem dX9_isSlot_2 : decode cX9_isSlot 2 = .ok (.lconst 0, 1) := by decide +kernel
theorem dX9_isSlot_3 : decode cX9_isSlot 3 = .ok (.lconst 1, 1) := by decide +kernel
theorem dX9_isSlot_4 : decode cX9_isSlot 4 = .ok (.invokestatic 58, 3) := by decide +kernel
theorem dX9_isSlot_7 : decode cX9_isSlot 7 = .ok (.ireturn, 1) := by decide +kernel
theorem dX9_keep_0 : decode cX9_keep 0 = .ok (.aload_n 0, 1) := by decide +kernel
theorem dX9_keep_1 : decode cX9_keep 1 = .ok (.iload_n 1, 1) := by decide +kernel
theorem dX9_keep_2 : decode cX9_keep 2 = .ok (.invokestatic 206, 3) := by decide +kernel
theorem dX9_keep_5 : decode cX9_keep 5 = .ok (.ifCond .eq 7, 3) := by decide +kernel
theorem dX9_keep_8 : decode cX9_keep 8 = .ok (.iconst 0, 1) := by decide +kernel
theorem dX9_keep_9 : decode cX9_keep 9 = .ok (.goto 4, 3) := by decide +kernel
theorem dX9_keep_12 : decode cX9_keep 12 = .ok (.iconst 1, 1) := by decide +kernel
theorem dX9_keep_13 : decode cX9_keep 13 = .ok (.invokevirtual 153, 3) := by decide +kernel
theorem dX9_keep_16 : decode cX9_keep 16 = .ok (.ifCond .eq 4, 3) := by decide +kernel
theorem dX9_keep_19 : decode cX9_keep 19 = .ok (.return_, 1) := by decide +kernel
theorem dX9_keep_20 : decode cX9_keep 20 = .ok (.iconst 0, 1) := by decide +kernel
theorem dX9_keep_21 : decode cX9_keep 21 = .ok (.istore_n 2, 1) := by decide +kernel
theorem dX9_keep_22 : decode cX9_keep 22 = .ok (.iload_n 2, 1) := by decide +kernel
theorem dX9_keep_23 : decode cX9_keep 23 = .ok (.bipush 61, 2) := by decide +kernel
theorem dX9_keep_25 : decode cX9_keep 25 = .ok (.if_icmp .ge 26, 3) := by decide +kernel
theorem dX9_keep_28 : decode cX9_keep 28 = .ok (.aload_n 0, 1) := by decide +kernel
theorem dX9_keep_29 : decode cX9_keep 29 = .ok (.getfield 25, 3) := by decide +kernel
theorem dX9_keep_32 : decode cX9_keep 32 = .ok (.bipush 61, 2) := by decide +kernel
theorem dX9_keep_34 : decode cX9_keep 34 = .ok (.iload_n 1, 1) := by decide +kernel
theorem dX9_keep_35 : decode cX9_keep 35 = .ok (.imul, 1) := by decide +kernel
theorem dX9_keep_36 : decode cX9_keep 36 = .ok (.iload_n 2, 1) := by decide +kernel
theorem dX9_keep_37 : decode cX9_keep 37 = .ok (.iadd, 1) := by decide +kernel
theorem dX9_keep_38 : decode cX9_keep 38 = .ok (.aload_n 0, 1) := by decide +kernel
theorem dX9_keep_39 : decode cX9_keep 39 = .ok (.getfield 7, 3) := by decide +kernel
theorem dX9_keep_42 : decode cX9_keep 42 = .ok (.iload_n 2, 1) := by decide +kernel
theorem dX9_keep_43 : decode cX9_keep 43 = .ok (.iaload, 1) := by decide +kernel
theorem dX9_keep_44 : decode cX9_keep 44 = .ok (.iastore, 1) := by decide +kernel
theorem dX9_keep_45 : decode cX9_keep 45 = .ok (.iinc 2 1, 3) := by decide +kernel
theorem dX9_keep_48 : decode cX9_keep 48 = .ok (.goto (-26), 3) := by decide +kernel
theorem dX9_keep_51 : decode cX9_keep 51 = .ok (.aload_n 0, 1) := by decide +kernel
theorem dX9_keep_52 : decode cX9_keep 52 = .ok (.getfield 28, 3) := by decide +kernel
theorem dX9_keep_55 : decode cX9_keep 55 = .ok (.iload_n 1, 1) := by decide +kernel
theorem dX9_keep_56 : decode cX9_keep 56 = .ok (.iconst 1, 1) := by decide +kernel
theorem dX9_keep_57 : decode cX9_keep 57 = .ok (.bastore, 1) := by decide +kernel
theorem dX9_keep_58 : decode cX9_keep 58 = .ok (.return_, 1) := by decide +kernel
theorem dX9_goBack_0 : decode cX9_goBack 0 = .ok (.aload_n 0, 1) := by decide +kernel
theorem dX9_goBack_1 : decode cX9_goBack 1 = .ok (.iload_n 1, 1) := by decide +kernel
theorem dX9_goBack_2 : decode cX9_goBack 2 = .ok (.invokestatic 206, 3) := by decide +kernel
theorem dX9_goBack_5 : decode cX9_goBack 5 = .ok (.ifCond .ne 7, 3) := by decide +kernel
theorem dX9_goBack_8 : decode cX9_goBack 8 = .ok (.iconst 1, 1) := by decide +kernel
theorem dX9_goBack_9 : decode cX9_goBack 9 = .ok (.goto 17, 3) := by decide +kernel
theorem dX9_goBack_12 : decode cX9_goBack 12 = .ok (.aload_n 0, 1) := by decide +kernel
theorem dX9_goBack_13 : decode cX9_goBack 13 = .ok (.getfield 28, 3) := by decide +kernel
theorem dX9_goBack_16 : decode cX9_goBack 16 = .ok (.iload_n 1, 1) := by decide +kernel
theorem dX9_goBack_17 : decode cX9_goBack 17 = .ok (.baload, 1) := by decide +kernel
theorem dX9_goBack_18 : decode cX9_goBack 18 = .ok (.ifCond .ne 7, 3) := by decide +kernel
theorem dX9_goBack_21 : decode cX9_goBack 21 = .ok (.iconst 2, 1) := by decide +kernel
theorem dX9_goBack_22 : decode cX9_goBack 22 = .ok (.goto 4, 3) := by decide +kernel
theorem dX9_goBack_25 : decode cX9_goBack 25 = .ok (.iconst 0, 1) := by decide +kernel
theorem dX9_goBack_26 : decode cX9_goBack 26 = .ok (.invokevirtual 153, 3) := by decide +kernel
theorem dX9_goBack_29 : decode cX9_goBack 29 = .ok (.ifCond .eq 4, 3) := by decide +kernel
theorem dX9_goBack_32 : decode cX9_goBack 32 = .ok (.return_, 1) := by decide +kernel
theorem dX9_goBack_33 : decode cX9_goBack 33 = .ok (.aload_n 0, 1) := by decide +kernel
theorem dX9_goBack_34 : decode cX9_goBack 34 = .ok (.invokevirtual 145, 3) := by decide +kernel
theorem dX9_goBack_37 : decode cX9_goBack 37 = .ok (.iconst 0, 1) := by decide +kernel
theorem dX9_goBack_38 : decode cX9_goBack 38 = .ok (.istore_n 2, 1) := by decide +kernel
theorem dX9_goBack_39 : decode cX9_goBack 39 = .ok (.iload_n 2, 1) := by decide +kernel
theorem dX9_goBack_40 : decode cX9_goBack 40 = .ok (.bipush 61, 2) := by decide +kernel
theorem dX9_goBack_42 : decode cX9_goBack 42 = .ok (.if_icmp .ge 26, 3) := by decide +kernel
theorem dX9_goBack_45 : decode cX9_goBack 45 = .ok (.aload_n 0, 1) := by decide +kernel
theorem dX9_goBack_46 : decode cX9_goBack 46 = .ok (.getfield 7, 3) := by decide +kernel
theorem dX9_goBack_49 : decode cX9_goBack 49 = .ok (.iload_n 2, 1) := by decide +kernel
theorem dX9_goBack_50 : decode cX9_goBack 50 = .ok (.aload_n 0, 1) := by decide +kernel
theorem dX9_goBack_51 : decode cX9_goBack 51 = .ok (.getfield 25, 3) := by decide +kernel
theorem dX9_goBack_54 : decode cX9_goBack 54 = .ok (.bipush 61, 2) := by decide +kernel
theorem dX9_goBack_56 : decode cX9_goBack 56 = .ok (.iload_n 1, 1) := by decide +kernel
theorem dX9_goBack_57 : decode cX9_goBack 57 = .ok (.imul, 1) := by decide +kernel
theorem dX9_goBack_58 : decode cX9_goBack 58 = .ok (.iload_n 2, 1) := by decide +kernel
theorem dX9_goBack_59 : decode cX9_goBack 59 = .ok (.iadd, 1) := by decide +kernel
theorem dX9_goBack_60 : decode cX9_goBack 60 = .ok (.iaload, 1) := by decide +kernel
theorem dX9_goBack_61 : decode cX9_goBack 61 = .ok (.iastore, 1) := by decide +kernel
theorem dX9_goBack_62 : decode cX9_goBack 62 = .ok (.iinc 2 1, 3) := by decide +kernel
theorem dX9_goBack_65 : decode cX9_goBack 65 = .ok (.goto (-26), 3) := by decide +kernel
theorem dX9_goBack_68 : decode cX9_goBack 68 = .ok (.return_, 1) := by decide +kernel
theorem dX9_undo_0 : decode cX9_undo 0 = .ok (.aload_n 0, 1) := by decide +kernel
theorem dX9_undo_1 : decode cX9_undo 1 = .ok (.aload_n 0, 1) := by decide +kernel
theorem dX9_undo_2 : decode cX9_undo 2 = .ok (.getfield 111, 3) := by decide +kernel
theorem dX9_undo_5 : decode cX9_undo 5 = .ok (.ifCond .ne 7, 3) := by decide +kernel
theorem dX9_undo_8 : decode cX9_undo 8 = .ok (.iconst 1, 1) := by decide +kernel
theorem dX9_undo_9 : decode cX9_undo 9 = .ok (.goto 4, 3) := by decide +kernel
theorem dX9_undo_12 : decode cX9_undo 12 = .ok (.iconst 0, 1) := by decide +kernel
theorem dX9_undo_13 : decode cX9_undo 13 = .ok (.invokevirtual 153, 3) := by decide +kernel
theorem dX9_undo_16 : decode cX9_undo 16 = .ok (.ifCond .eq 4, 3) := by decide +kernel
theorem dX9_undo_19 : decode cX9_undo 19 = .ok (.return_, 1) := by decide +kernel
theorem dX9_undo_20 : decode cX9_undo 20 = .ok (.aload_n 0, 1) := by decide +kernel
theorem dX9_undo_21 : decode cX9_undo 21 = .ok (.dup, 1) := by decide +kernel
theorem dX9_undo_22 : decode cX9_undo 22 = .ok (.getfield 111, 3) := by decide +kernel
theorem dX9_undo_25 : decode cX9_undo 25 = .ok (.iconst 1, 1) := by decide +kernel
theorem dX9_undo_26 : decode cX9_undo 26 = .ok (.isub, 1) := by decide +kernel
theorem dX9_undo_27 : decode cX9_undo 27 = .ok (.putfield 111, 3) := by decide +kernel
theorem dX9_undo_30 : decode cX9_undo 30 = .ok (.iconst 0, 1) := by decide +kernel
theorem dX9_undo_31 : decode cX9_undo 31 = .ok (.istore_n 1, 1) := by decide +kernel
theorem dX9_undo_32 : decode cX9_undo 32 = .ok (.iload_n 1, 1) := by decide +kernel
theorem dX9_undo_33 : decode cX9_undo 33 = .ok (.bipush 61, 2) := by decide +kernel
theorem dX9_undo_35 : decode cX9_undo 35 = .ok (.if_icmp .ge 29, 3) := by decide +kernel
theorem dX9_undo_38 : decode cX9_undo 38 = .ok (.aload_n 0, 1) := by decide +kernel
theorem dX9_undo_39 : decode cX9_undo 39 = .ok (.getfield 7, 3) := by decide +kernel
theorem dX9_undo_42 : decode cX9_undo 42 = .ok (.iload_n 1, 1) := by decide +kernel
theorem dX9_undo_43 : decode cX9_undo 43 = .ok (.aload_n 0, 1) := by decide +kernel
theorem dX9_undo_44 : decode cX9_undo 44 = .ok (.getfield 22, 3) := by decide +kernel
theorem dX9_undo_47 : decode cX9_undo 47 = .ok (.bipush 61, 2) := by decide +kernel
theorem dX9_undo_49 : decode cX9_undo 49 = .ok (.aload_n 0, 1) := by decide +kernel
theorem dX9_undo_50 : decode cX9_undo 50 = .ok (.getfield 111, 3) := by decide +kernel
theorem dX9_undo_53 : decode cX9_undo 53 = .ok (.imul, 1) := by decide +kernel
theorem dX9_undo_54 : decode cX9_undo 54 = .ok (.iload_n 1, 1) := by decide +kernel
theorem dX9_undo_55 : decode cX9_undo 55 = .ok (.iadd, 1) := by decide +kernel
theorem dX9_undo_56 : decode cX9_undo 56 = .ok (.iaload, 1) := by decide +kernel
theorem dX9_undo_57 : decode cX9_undo 57 = .ok (.iastore, 1) := by decide +kernel
theorem dX9_undo_58 : decode cX9_undo 58 = .ok (.iinc 1 1, 3) := by decide +kernel
theorem dX9_undo_61 : decode cX9_undo 61 = .ok (.goto (-29), 3) := by decide +kernel
theorem dX9_undo_64 : decode cX9_undo 64 = .ok (.return_, 1) := by decide +kernel
theorem dX9_savedStates_0 : decode cX9_savedStates 0 = .ok (.aload_n 0, 1) := by decide +kernel
theorem dX9_savedStates_1 : decode cX9_savedStates 1 = .ok (.iconst 0, 1) := by decide +kernel
theorem dX9_savedStates_2 : decode cX9_savedStates 2 = .ok (.putfield 52, 3) := by decide +kernel
theorem dX9_savedStates_5 : decode cX9_savedStates 5 = .ok (.aload_n 0, 1) := by decide +kernel
theorem dX9_savedStates_6 : decode cX9_savedStates 6 = .ok (.getfield 111, 3) := by decide +kernel
theorem dX9_savedStates_9 : decode cX9_savedStates 9 = .ok (.ireturn, 1) := by decide +kernel
theorem dX9_pieceAt_0 : decode cX9_pieceAt 0 = .ok (.aload_n 0, 1) := by decide +kernel
theorem dX9_pieceAt_1 : decode cX9_pieceAt 1 = .ok (.iload_n 1, 1) := by decide +kernel
theorem dX9_pieceAt_2 : decode cX9_pieceAt 2 = .ok (.iload_n 2, 1) := by decide +kernel
theorem dX9_pieceAt_3 : decode cX9_pieceAt 3 = .ok (.invokestatic 64, 3) := by decide +kernel
theorem dX9_pieceAt_6 : decode cX9_pieceAt 6 = .ok (.ifCond .eq 7, 3) := by decide +kernel
theorem dX9_pieceAt_9 : decode cX9_pieceAt 9 = .ok (.iconst 0, 1) := by decide +kernel
theorem dX9_pieceAt_10 : decode cX9_pieceAt 10 = .ok (.goto 4, 3) := by decide +kernel
theorem dX9_pieceAt_13 : decode cX9_pieceAt 13 = .ok (.iconst 1, 1) := by decide +kernel
theorem dX9_pieceAt_14 : decode cX9_pieceAt 14 = .ok (.invokevirtual 153, 3) := by decide +kernel
theorem dX9_pieceAt_17 : decode cX9_pieceAt 17 = .ok (.ifCond .eq 7, 3) := by decide +kernel
theorem dX9_pieceAt_20 : decode cX9_pieceAt 20 = .ok (.iconst 0, 1) := by decide +kernel
theorem dX9_pieceAt_21 : decode cX9_pieceAt 21 = .ok (.goto 14, 3) := by decide +kernel
theorem dX9_pieceAt_24 : decode cX9_pieceAt 24 = .ok (.aload_n 0, 1) := by decide +kernel
theorem dX9_pieceAt_25 : decode cX9_pieceAt 25 = .ok (.getfield 7, 3) := by decide +kernel
theorem dX9_pieceAt_28 : decode cX9_pieceAt 28 = .ok (.bipush 7, 2) := by decide +kernel
theorem dX9_pieceAt_30 : decode cX9_pieceAt 30 = .ok (.iload_n 1, 1) := by decide +kernel
theorem dX9_pieceAt_31 : decode cX9_pieceAt 31 = .ok (.imul, 1) := by decide +kernel
theorem dX9_pieceAt_32 : decode cX9_pieceAt 32 = .ok (.iload_n 2, 1) := by decide +kernel
theorem dX9_pieceAt_33 : decode cX9_pieceAt 33 = .ok (.iadd, 1) := by decide +kernel
theorem dX9_pieceAt_34 : decode cX9_pieceAt 34 = .ok (.iaload, 1) := by decide +kernel
theorem dX9_pieceAt_35 : decode cX9_pieceAt 35 = .ok (.ireturn, 1) := by decide +kernel
theorem dX9_noSide_0 : decode cX9_noSide 0 = .ok (.aload_n 0, 1) := by decide +kernel
theorem dX9_noSide_1 : decode cX9_noSide 1 = .ok (.iload_n 1, 1) := by decide +kernel
theorem dX9_noSide_2 : decode cX9_noSide 2 = .ok (.invokestatic 156, 3) := by decide +kernel
theorem dX9_noSide_5 : decode cX9_noSide 5 = .ok (.ifCond .eq 7, 3) := by decide +kernel
theorem dX9_noSide_8 : decode cX9_noSide 8 = .ok (.iconst 0, 1) := by decide +kernel
theorem dX9_noSide_9 : decode cX9_noSide 9 = .ok (.goto 4, 3) := by decide +kernel
theorem dX9_noSide_12 : decode cX9_noSide 12 = .ok (.iconst 1, 1) := by decide +kernel
theorem dX9_noSide_13 : decode cX9_noSide 13 = .ok (.invokevirtual 153, 3) := by decide +kernel
theorem dX9_noSide_16 : decode cX9_noSide 16 = .ok (.ireturn, 1) := by decide +kernel
theorem dX9_count_0 : decode cX9_count 0 = .ok (.iconst 0, 1) := by decide +kernel
theorem dX9_count_1 : decode cX9_count 1 = .ok (.istore_n 2, 1) := by decide +kernel
theorem dX9_count_2 : decode cX9_count 2 = .ok (.iconst 0, 1) := by decide +kernel
theorem dX9_count_3 : decode cX9_count 3 = .ok (.istore_n 3, 1) := by decide +kernel
theorem dX9_count_4 : decode cX9_count 4 = .ok (.iload_n 3, 1) := by decide +kernel
theorem dX9_count_5 : decode cX9_count 5 = .ok (.bipush 49, 2) := by decide +kernel
theorem dX9_count_7 : decode cX9_count 7 = .ok (.if_icmp .ge 27, 3) := by decide +kernel
theorem dX9_count_10 : decode cX9_count 10 = .ok (.iload_n 2, 1) := by decide +kernel
theorem dX9_count_11 : decode cX9_count 11 = .ok (.aload_n 0, 1) := by decide +kernel
theorem dX9_count_12 : decode cX9_count 12 = .ok (.iload_n 3, 1) := by decide +kernel
theorem dX9_count_13 : decode cX9_count 13 = .ok (.iaload, 1) := by decide +kernel
theorem dX9_count_14 : decode cX9_count 14 = .ok (.invokestatic 72, 3) := by decide +kernel
theorem dX9_count_17 : decode cX9_count 17 = .ok (.iload_n 1, 1) := by decide +kernel
theorem dX9_count_18 : decode cX9_count 18 = .ok (.if_icmp .ne 7, 3) := by decide +kernel
theorem dX9_count_21 : decode cX9_count 21 = .ok (.iconst 1, 1) := by decide +kernel
theorem dX9_count_22 : decode cX9_count 22 = .ok (.goto 4, 3) := by decide +kernel
theorem dX9_count_25 : decode cX9_count 25 = .ok (.iconst 0, 1) := by decide +kernel
theorem dX9_count_26 : decode cX9_count 26 = .ok (.iadd, 1) := by decide +kernel
theorem dX9_count_27 : decode cX9_count 27 = .ok (.istore_n 2, 1) := by decide +kernel
theorem dX9_count_28 : decode cX9_count 28 = .ok (.iinc 3 1, 3) := by decide +kernel
theorem dX9_count_31 : decode cX9_count 31 = .ok (.goto (-27), 3) := by decide +kernel
theorem dX9_count_34 : decode cX9_count 34 = .ok (.iload_n 2, 1) := by decide +kernel
theorem dX9_count_35 : decode cX9_count 35 = .ok (.ireturn, 1) := by decide +kernel
theorem dX9_piecesOf_0 : decode cX9_piecesOf 0 = .ok (.aload_n 0, 1) := by decide +kernel
theorem dX9_piecesOf_1 : decode cX9_piecesOf 1 = .ok (.iload_n 1, 1) := by decide +kernel
theorem dX9_piecesOf_2 : decode cX9_piecesOf 2 = .ok (.invokevirtual 209, 3) := by decide +kernel
theorem dX9_piecesOf_5 : decode cX9_piecesOf 5 = .ok (.ifCond .eq 7, 3) := by decide +kernel
theorem dX9_piecesOf_8 : decode cX9_piecesOf 8 = .ok (.iconst 0, 1) := by decide +kernel
theorem dX9_piecesOf_9 : decode cX9_piecesOf 9 = .ok (.goto 11, 3) := by decide +kernel
theorem dX9_piecesOf_12 : decode cX9_piecesOf 12 = .ok (.aload_n 0, 1) := by decide +kernel
theorem dX9_piecesOf_13 : decode cX9_piecesOf 13 = .ok (.getfield 7, 3) := by decide +kernel
theorem dX9_piecesOf_16 : decode cX9_piecesOf 16 = .ok (.iload_n 1, 1) := by decide +kernel
theorem dX9_piecesOf_17 : decode cX9_piecesOf 17 = .ok (.invokestatic 212, 3) := by decide +kernel
theorem dX9_piecesOf_20 : decode cX9_piecesOf 20 = .ok (.ireturn, 1) := by decide +kernel
theorem dX9_kingAt_0 : decode cX9_kingAt 0 = .ok (.aload_n 0, 1) := by decide +kernel
theorem dX9_kingAt_1 : decode cX9_kingAt 1 = .ok (.aload_n 0, 1) := by decide +kernel
theorem dX9_kingAt_2 : decode cX9_kingAt 2 = .ok (.getfield 7, 3) := by decide +kernel
theorem dX9_kingAt_5 : decode cX9_kingAt 5 = .ok (.invokestatic 98, 3) := by decide +kernel
theorem dX9_kingAt_8 : decode cX9_kingAt 8 = .ok (.iconst (-1), 1) := by decide +kernel
theorem dX9_kingAt_9 : decode cX9_kingAt 9 = .ok (.if_icmp .ne 7, 3) := by decide +kernel
theorem dX9_kingAt_12 : decode cX9_kingAt 12 = .ok (.iconst 1, 1) := by decide +kernel
theorem dX9_kingAt_13 : decode cX9_kingAt 13 = .ok (.goto 4, 3) := by decide +kernel
theorem dX9_kingAt_16 : decode cX9_kingAt 16 = .ok (.iconst 0, 1) := by decide +kernel
theorem dX9_kingAt_17 : decode cX9_kingAt 17 = .ok (.invokevirtual 153, 3) := by decide +kernel
theorem dX9_kingAt_20 : decode cX9_kingAt 20 = .ok (.ifCond .eq 7, 3) := by decide +kernel
theorem dX9_kingAt_23 : decode cX9_kingAt 23 = .ok (.iconst 0, 1) := by decide +kernel
theorem dX9_kingAt_24 : decode cX9_kingAt 24 = .ok (.goto 10, 3) := by decide +kernel
theorem dX9_kingAt_27 : decode cX9_kingAt 27 = .ok (.aload_n 0, 1) := by decide +kernel
theorem dX9_kingAt_28 : decode cX9_kingAt 28 = .ok (.getfield 7, 3) := by decide +kernel
theorem dX9_kingAt_31 : decode cX9_kingAt 31 = .ok (.invokestatic 98, 3) := by decide +kernel
theorem dX9_kingAt_34 : decode cX9_kingAt 34 = .ok (.ireturn, 1) := by decide +kernel
theorem dX9_isHostile_0 : decode cX9_isHostile 0 = .ok (.iload_n 1, 1) := by decide +kernel
theorem dX9_isHostile_1 : decode cX9_isHostile 1 = .ok (.iload_n 2, 1) := by decide +kernel
theorem dX9_isHostile_2 : decode cX9_isHostile 2 = .ok (.invokestatic 64, 3) := by decide +kernel
theorem dX9_isHostile_5 : decode cX9_isHostile 5 = .ok (.ifCond .eq 14, 3) := by decide +kernel
theorem dX9_isHostile_8 : decode cX9_isHostile 8 = .ok (.iload_n 3, 1) := by decide +kernel
theorem dX9_isHostile_9 : decode cX9_isHostile 9 = .ok (.invokestatic 156, 3) := by decide +kernel
theorem dX9_isHostile_12 : decode cX9_isHostile 12 = .ok (.ifCond .eq 7, 3) := by decide +kernel
theorem dX9_isHostile_15 : decode cX9_isHostile 15 = .ok (.iconst 1, 1) := by decide +kernel
theorem dX9_isHostile_16 : decode cX9_isHostile 16 = .ok (.goto 4, 3) := by decide +kernel
theorem dX9_isHostile_19 : decode cX9_isHostile 19 = .ok (.iconst 0, 1) := by decide +kernel
theorem dX9_isHostile_20 : decode cX9_isHostile 20 = .ok (.istore 4, 2) := by decide +kernel
theorem dX9_isHostile_22 : decode cX9_isHostile 22 = .ok (.aload_n 0, 1) := by decide +kernel
theorem dX9_isHostile_23 : decode cX9_isHostile 23 = .ok (.iload 4, 2) := by decide +kernel
theorem dX9_isHostile_25 : decode cX9_isHostile 25 = .ok (.ifCond .eq 7, 3) := by decide +kernel
theorem dX9_isHostile_28 : decode cX9_isHostile 28 = .ok (.iconst 0, 1) := by decide +kernel
theorem dX9_isHostile_29 : decode cX9_isHostile 29 = .ok (.goto 4, 3) := by decide +kernel
theorem dX9_isHostile_32 : decode cX9_isHostile 32 = .ok (.iconst 1, 1) := by decide +kernel
theorem dX9_isHostile_33 : decode cX9_isHostile 33 = .ok (.invokevirtual 153, 3) := by decide +kernel
theorem dX9_isHostile_36 : decode cX9_isHostile 36 = .ok (.ifCond .ne 24, 3) := by decide +kernel
theorem dX9_isHostile_39 : decode cX9_isHostile 39 = .ok (.aload_n 0, 1) := by decide +kernel
theorem dX9_isHostile_40 : decode cX9_isHostile 40 = .ok (.getfield 7, 3) := by decide +kernel
theorem dX9_isHostile_43 : decode cX9_isHostile 43 = .ok (.bipush 7, 2) := by decide +kernel
theorem dX9_isHostile_45 : decode cX9_isHostile 45 = .ok (.iload_n 1, 1) := by decide +kernel
theorem dX9_isHostile_46 : decode cX9_isHostile 46 = .ok (.imul, 1) := by decide +kernel
theorem dX9_isHostile_47 : decode cX9_isHostile 47 = .ok (.iload_n 2, 1) := by decide +kernel
theorem dX9_isHostile_48 : decode cX9_isHostile 48 = .ok (.iadd, 1) := by decide +kernel
theorem dX9_isHostile_49 : decode cX9_isHostile 49 = .ok (.iload_n 3, 1) := by decide +kernel
theorem dX9_isHostile_50 : decode cX9_isHostile 50 = .ok (.invokestatic 87, 3) := by decide +kernel
theorem dX9_isHostile_53 : decode cX9_isHostile 53 = .ok (.ifCond .eq 7, 3) := by decide +kernel
theorem dX9_isHostile_56 : decode cX9_isHostile 56 = .ok (.iconst 1, 1) := by decide +kernel
theorem dX9_isHostile_57 : decode cX9_isHostile 57 = .ok (.goto 4, 3) := by decide +kernel
theorem dX9_isHostile_60 : decode cX9_isHostile 60 = .ok (.iconst 0, 1) := by decide +kernel
theorem dX9_isHostile_61 : decode cX9_isHostile 61 = .ok (.ireturn, 1) := by decide +kernel
theorem dX9_tell_0 : decode cX9_tell 0 = .ok (.aload_n 0, 1) := by decide +kernel
theorem dX9_tell_1 : decode cX9_tell 1 = .ok (.iconst 0, 1) := by decide +kernel
theorem dX9_tell_2 : decode cX9_tell 2 = .ok (.putfield 52, 3) := by decide +kernel
theorem dX9_tell_5 : decode cX9_tell 5 = .ok (.aload_n 0, 1) := by decide +kernel
theorem dX9_tell_6 : decode cX9_tell 6 = .ok (.getfield 7, 3) := by decide +kernel
theorem dX9_tell_9 : decode cX9_tell 9 = .ok (.iload_n 1, 1) := by decide +kernel
theorem dX9_tell_10 : decode cX9_tell 10 = .ok (.iaload, 1) := by decide +kernel
theorem dX9_tell_11 : decode cX9_tell 11 = .ok (.ireturn, 1) := by decide +kernel
theorem dX9_isStrong_0 : decode cX9_isStrong 0 = .ok (.aload_n 0, 1) := by decide +kernel
theorem dX9_isStrong_1 : decode cX9_isStrong 1 = .ok (.bipush 52, 2) := by decide +kernel
theorem dX9_isStrong_3 : decode cX9_isStrong 3 = .ok (.invokevirtual 215, 3) := by decide +kernel
theorem dX9_isStrong_6 : decode cX9_isStrong 6 = .ok (.iconst 1, 1) := by decide +kernel
theorem dX9_isStrong_7 : decode cX9_isStrong 7 = .ok (.if_icmp .ne 7, 3) := by decide +kernel
theorem dX9_isStrong_10 : decode cX9_isStrong 10 = .ok (.iconst 1, 1) := by decide +kernel
theorem dX9_isStrong_11 : decode cX9_isStrong 11 = .ok (.goto 4, 3) := by decide +kernel
theorem dX9_isStrong_14 : decode cX9_isStrong 14 = .ok (.iconst 0, 1) := by decide +kernel
theorem dX9_isStrong_15 : decode cX9_isStrong 15 = .ok (.ireturn, 1) := by decide +kernel
theorem dX9_standing_0 : decode cX9_standing 0 = .ok (.aload_n 0, 1) := by decide +kernel
theorem dX9_standing_1 : decode cX9_standing 1 = .ok (.bipush 50, 2) := by decide +kernel
theorem dX9_standing_3 : decode cX9_standing 3 = .ok (.invokevirtual 215, 3) := by decide +kernel
theorem dX9_standing_6 : decode cX9_standing 6 = .ok (.ireturn, 1) := by decide +kernel
theorem dX9_turn_0 : decode cX9_turn 0 = .ok (.aload_n 0, 1) := by decide +kernel
theorem dX9_turn_1 : decode cX9_turn 1 = .ok (.aload_n 0, 1) := by decide +kernel
theorem dX9_turn_2 : decode cX9_turn 2 = .ok (.getfield 7, 3) := by decide +kernel
theorem dX9_turn_5 : decode cX9_turn 5 = .ok (.bipush 50, 2) := by decide +kernel
theorem dX9_turn_7 : decode cX9_turn 7 = .ok (.iaload, 1) := by decide +kernel
theorem dX9_turn_8 : decode cX9_turn 8 = .ok (.iconst 1, 1) := by decide +kernel
theorem dX9_turn_9 : decode cX9_turn 9 = .ok (.if_icmp .ne 7, 3) := by decide +kernel
theorem dX9_turn_12 : decode cX9_turn 12 = .ok (.iconst 0, 1) := by decide +kernel
theorem dX9_turn_13 : decode cX9_turn 13 = .ok (.goto 4, 3) := by decide +kernel
theorem dX9_turn_16 : decode cX9_turn 16 = .ok (.iconst 1, 1) := by decide +kernel
theorem dX9_turn_17 : decode cX9_turn 17 = .ok (.invokevirtual 153, 3) := by decide +kernel
theorem dX9_turn_20 : decode cX9_turn 20 = .ok (.ifCond .eq 7, 3) := by decide +kernel
theorem dX9_turn_23 : decode cX9_turn 23 = .ok (.iconst 0, 1) := by decide +kernel
theorem dX9_turn_24 : decode cX9_turn 24 = .ok (.goto 10, 3) := by decide +kernel
theorem dX9_turn_27 : decode cX9_turn 27 = .ok (.aload_n 0, 1) := by decide +kernel
theorem dX9_turn_28 : decode cX9_turn 28 = .ok (.getfield 7, 3) := by decide +kernel
theorem dX9_turn_31 : decode cX9_turn 31 = .ok (.bipush 49, 2) := by decide +kernel
theorem dX9_turn_33 : decode cX9_turn 33 = .ok (.iaload, 1) := by decide +kernel
theorem dX9_turn_34 : decode cX9_turn 34 = .ok (.ireturn, 1) := by decide +kernel
theorem dX9_moves_0 : decode cX9_moves 0 = .ok (.aload_n 0, 1) := by decide +kernel
theorem dX9_moves_1 : decode cX9_moves 1 = .ok (.bipush 53, 2) := by decide +kernel
theorem dX9_moves_3 : decode cX9_moves 3 = .ok (.invokevirtual 215, 3) := by decide +kernel
theorem dX9_moves_6 : decode cX9_moves 6 = .ok (.ireturn, 1) := by decide +kernel
theorem dX9_timesSeen_0 : decode cX9_timesSeen 0 = .ok (.aload_n 0, 1) := by decide +kernel
theorem dX9_timesSeen_1 : decode cX9_timesSeen 1 = .ok (.aload_n 0, 1) := by decide +kernel
theorem dX9_timesSeen_2 : decode cX9_timesSeen 2 = .ok (.getfield 7, 3) := by decide +kernel
theorem dX9_timesSeen_5 : decode cX9_timesSeen 5 = .ok (.bipush 50, 2) := by decide +kernel
theorem dX9_timesSeen_7 : decode cX9_timesSeen 7 = .ok (.iaload, 1) := by decide +kernel
theorem dX9_timesSeen_8 : decode cX9_timesSeen 8 = .ok (.ifCond .ne 7, 3) := by decide +kernel
theorem dX9_timesSeen_11 : decode cX9_timesSeen 11 = .ok (.iconst 1, 1) := by decide +kernel
theorem dX9_timesSeen_12 : decode cX9_timesSeen 12 = .ok (.goto 4, 3) := by decide +kernel
theorem dX9_timesSeen_15 : decode cX9_timesSeen 15 = .ok (.iconst 0, 1) := by decide +kernel
theorem dX9_timesSeen_16 : decode cX9_timesSeen 16 = .ok (.invokevirtual 153, 3) := by decide +kernel
theorem dX9_timesSeen_19 : decode cX9_timesSeen 19 = .ok (.ifCond .eq 7, 3) := by decide +kernel
theorem dX9_timesSeen_22 : decode cX9_timesSeen 22 = .ok (.iconst 0, 1) := by decide +kernel
theorem dX9_timesSeen_23 : decode cX9_timesSeen 23 = .ok (.goto 11, 3) := by decide +kernel
theorem dX9_timesSeen_26 : decode cX9_timesSeen 26 = .ok (.aload_n 0, 1) := by decide +kernel
theorem dX9_timesSeen_27 : decode cX9_timesSeen 27 = .ok (.aload_n 0, 1) := by decide +kernel
theorem dX9_timesSeen_28 : decode cX9_timesSeen 28 = .ok (.getfield 7, 3) := by decide +kernel
theorem dX9_timesSeen_31 : decode cX9_timesSeen 31 = .ok (.invokevirtual 142, 3) := by decide +kernel
theorem dX9_timesSeen_34 : decode cX9_timesSeen 34 = .ok (.ireturn, 1) := by decide +kernel
theorem dX9_noSquares_0 : decode cX9_noSquares 0 = .ok (.aload_n 0, 1) := by decide +kernel
theorem dX9_noSquares_1 : decode cX9_noSquares 1 = .ok (.iload_n 1, 1) := by decide +kernel
theorem dX9_noSquares_2 : decode cX9_noSquares 2 = .ok (.invokestatic 159, 3) := by decide +kernel
theorem dX9_noSquares_5 : decode cX9_noSquares 5 = .ok (.ifCond .eq 14, 3) := by decide +kernel
theorem dX9_noSquares_8 : decode cX9_noSquares 8 = .ok (.iload_n 2, 1) := by decide +kernel
theorem dX9_noSquares_9 : decode cX9_noSquares 9 = .ok (.invokestatic 159, 3) := by decide +kernel
theorem dX9_noSquares_12 : decode cX9_noSquares 12 = .ok (.ifCond .eq 7, 3) := by decide +kernel
theorem dX9_noSquares_15 : decode cX9_noSquares 15 = .ok (.iconst 0, 1) := by decide +kernel
theorem dX9_noSquares_16 : decode cX9_noSquares 16 = .ok (.goto 4, 3) := by decide +kernel
theorem dX9_noSquares_19 : decode cX9_noSquares 19 = .ok (.iconst 1, 1) := by decide +kernel
theorem dX9_noSquares_20 : decode cX9_noSquares 20 = .ok (.invokevirtual 153, 3) := by decide +kernel
theorem dX9_noSquares_23 : decode cX9_noSquares 23 = .ok (.ireturn, 1) := by decide +kernel
theorem dX9_canMove_0 : decode cX9_canMove 0 = .ok (.aload_n 0, 1) := by decide +kernel
theorem dX9_canMove_1 : decode cX9_canMove 1 = .ok (.iload_n 1, 1) := by decide +kernel
theorem dX9_canMove_2 : decode cX9_canMove 2 = .ok (.iload_n 2, 1) := by decide +kernel
theorem dX9_canMove_3 : decode cX9_canMove 3 = .ok (.invokevirtual 218, 3) := by decide +kernel
theorem dX9_canMove_6 : decode cX9_canMove 6 = .ok (.ifCond .ne 19, 3) := by decide +kernel
theorem dX9_canMove_9 : decode cX9_canMove 9 = .ok (.aload_n 0, 1) := by decide +kernel
theorem dX9_canMove_10 : decode cX9_canMove 10 = .ok (.getfield 7, 3) := by decide +kernel
theorem dX9_canMove_13 : decode cX9_canMove 13 = .ok (.iload_n 1, 1) := by decide +kernel
theorem dX9_canMove_14 : decode cX9_canMove 14 = .ok (.iload_n 2, 1) := by decide +kernel
theorem dX9_canMove_15 : decode cX9_canMove 15 = .ok (.invokestatic 132, 3) := by decide +kernel
theorem dX9_canMove_18 : decode cX9_canMove 18 = .ok (.ifCond .ne 7, 3) := by decide +kernel
theorem dX9_canMove_21 : decode cX9_canMove 21 = .ok (.iconst 1, 1) := by decide +kernel
theorem dX9_canMove_22 : decode cX9_canMove 22 = .ok (.goto 4, 3) := by decide +kernel
theorem dX9_canMove_25 : decode cX9_canMove 25 = .ok (.iconst 0, 1) := by decide +kernel
theorem dX9_canMove_26 : decode cX9_canMove 26 = .ok (.ireturn, 1) := by decide +kernel
theorem dX9_reasonAgainst_0 : decode cX9_reasonAgainst 0 = .ok (.aload_n 0, 1) := by decide +kernel
theorem dX9_reasonAgainst_1 : decode cX9_reasonAgainst 1 = .ok (.iload_n 1, 1) := by decide +kernel
theorem dX9_reasonAgainst_2 : decode cX9_reasonAgainst 2 = .ok (.iload_n 2, 1) := by decide +kernel
theorem dX9_reasonAgainst_3 : decode cX9_reasonAgainst 3 = .ok (.invokevirtual 218, 3) := by decide +kernel
theorem dX9_reasonAgainst_6 : decode cX9_reasonAgainst 6 = .ok (.ifCond .eq 7, 3) := by decide +kernel
theorem dX9_reasonAgainst_9 : decode cX9_reasonAgainst 9 = .ok (.iconst 0, 1) := by decide +kernel
theorem dX9_reasonAgainst_10 : decode cX9_reasonAgainst 10 = .ok (.goto 12, 3) := by decide +kernel
theorem dX9_reasonAgainst_13 : decode cX9_reasonAgainst 13 = .ok (.aload_n 0, 1) := by decide +kernel
theorem dX9_reasonAgainst_14 : decode cX9_reasonAgainst 14 = .ok (.getfield 7, 3) := by decide +kernel
theorem dX9_reasonAgainst_17 : decode cX9_reasonAgainst 17 = .ok (.iload_n 1, 1) := by decide +kernel
theorem dX9_reasonAgainst_18 : decode cX9_reasonAgainst 18 = .ok (.iload_n 2, 1) := by decide +kernel
theorem dX9_reasonAgainst_19 : decode cX9_reasonAgainst 19 = .ok (.invokestatic 132, 3) := by decide +kernel
theorem dX9_reasonAgainst_22 : decode cX9_reasonAgainst 22 = .ok (.ireturn, 1) := by decide +kernel
theorem dX9_movesFrom_0 : decode cX9_movesFrom 0 = .ok (.aload_n 0, 1) := by decide +kernel
theorem dX9_movesFrom_1 : decode cX9_movesFrom 1 = .ok (.iload_n 1, 1) := by decide +kernel
theorem dX9_movesFrom_2 : decode cX9_movesFrom 2 = .ok (.iload_n 2, 1) := by decide +kernel
theorem dX9_movesFrom_3 : decode cX9_movesFrom 3 = .ok (.invokestatic 64, 3) := by decide +kernel
theorem dX9_movesFrom_6 : decode cX9_movesFrom 6 = .ok (.ifCond .eq 7, 3) := by decide +kernel
theorem dX9_movesFrom_9 : decode cX9_movesFrom 9 = .ok (.iconst 0, 1) := by decide +kernel
theorem dX9_movesFrom_10 : decode cX9_movesFrom 10 = .ok (.goto 4, 3) := by decide +kernel
theorem dX9_movesFrom_13 : decode cX9_movesFrom 13 = .ok (.iconst 1, 1) := by decide +kernel
theorem dX9_movesFrom_14 : decode cX9_movesFrom 14 = .ok (.invokevirtual 153, 3) := by decide +kernel
theorem dX9_movesFrom_17 : decode cX9_movesFrom 17 = .ok (.ifCond .eq 7, 3) := by decide +kernel
theorem dX9_movesFrom_20 : decode cX9_movesFrom 20 = .ok (.iconst 0, 1) := by decide +kernel
theorem dX9_movesFrom_21 : decode cX9_movesFrom 21 = .ok (.goto 16, 3) := by decide +kernel
theorem dX9_movesFrom_24 : decode cX9_movesFrom 24 = .ok (.aload_n 0, 1) := by decide +kernel
theorem dX9_movesFrom_25 : decode cX9_movesFrom 25 = .ok (.getfield 7, 3) := by decide +kernel
theorem dX9_movesFrom_28 : decode cX9_movesFrom 28 = .ok (.bipush 7, 2) := by decide +kernel
theorem dX9_movesFrom_30 : decode cX9_movesFrom 30 = .ok (.iload_n 1, 1) := by decide +kernel
theorem dX9_movesFrom_31 : decode cX9_movesFrom 31 = .ok (.imul, 1) := by decide +kernel
theorem dX9_movesFrom_32 : decode cX9_movesFrom 32 = .ok (.iload_n 2, 1) := by decide +kernel
theorem dX9_movesFrom_33 : decode cX9_movesFrom 33 = .ok (.iadd, 1) := by decide +kernel
theorem dX9_movesFrom_34 : decode cX9_movesFrom 34 = .ok (.invokestatic 83, 3) := by decide +kernel
theorem dX9_movesFrom_37 : decode cX9_movesFrom 37 = .ok (.ireturn, 1) := by decide +kernel
theorem dX9_movesByPieces_0 : decode cX9_movesByPieces 0 = .ok (.aload_n 0, 1) := by decide +kernel
theorem dX9_movesByPieces_1 : decode cX9_movesByPieces 1 = .ok (.iload_n 1, 1) := by decide +kernel
theorem dX9_movesByPieces_2 : decode cX9_movesByPieces 2 = .ok (.invokevirtual 209, 3) := by decide +kernel
theorem dX9_movesByPieces_5 : decode cX9_movesByPieces 5 = .ok (.ifCond .eq 7, 3) := by decide +kernel
theorem dX9_movesByPieces_8 : decode cX9_movesByPieces 8 = .ok (.iconst 0, 1) := by decide +kernel
theorem dX9_movesByPieces_9 : decode cX9_movesByPieces 9 = .ok (.goto 11, 3) := by decide +kernel
theorem dX9_movesByPieces_12 : decode cX9_movesByPieces 12 = .ok (.aload_n 0, 1) := by decide +kernel
theorem dX9_movesByPieces_13 : decode cX9_movesByPieces 13 = .ok (.getfield 7, 3) := by decide +kernel
theorem dX9_movesByPieces_16 : decode cX9_movesByPieces 16 = .ok (.iload_n 1, 1) := by decide +kernel
theorem dX9_movesByPieces_17 : decode cX9_movesByPieces 17 = .ok (.invokestatic 101, 3) := by decide +kernel
theorem dX9_movesByPieces_20 : decode cX9_movesByPieces 20 = .ok (.ireturn, 1) := by decide +kernel
theorem dX9_movesBySquares_0 : decode cX9_movesBySquares 0 = .ok (.aload_n 0, 1) := by decide +kernel
theorem dX9_movesBySquares_1 : decode cX9_movesBySquares 1 = .ok (.iload_n 1, 1) := by decide +kernel
theorem dX9_movesBySquares_2 : decode cX9_movesBySquares 2 = .ok (.invokevirtual 209, 3) := by decide +kernel
theorem dX9_movesBySquares_5 : decode cX9_movesBySquares 5 = .ok (.ifCond .eq 7, 3) := by decide +kernel
theorem dX9_movesBySquares_8 : decode cX9_movesBySquares 8 = .ok (.iconst 0, 1) := by decide +kernel
theorem dX9_movesBySquares_9 : decode cX9_movesBySquares 9 = .ok (.goto 11, 3) := by decide +kernel
theorem dX9_movesBySquares_12 : decode cX9_movesBySquares 12 = .ok (.aload_n 0, 1) := by decide +kernel
theorem dX9_movesBySquares_13 : decode cX9_movesBySquares 13 = .ok (.getfield 7, 3) := by decide +kernel
theorem dX9_movesBySquares_16 : decode cX9_movesBySquares 16 = .ok (.iload_n 1, 1) := by decide +kernel
theorem dX9_movesBySquares_17 : decode cX9_movesBySquares 17 = .ok (.invokestatic 101, 3) := by decide +kernel
theorem dX9_movesBySquares_20 : decode cX9_movesBySquares 20 = .ok (.ireturn, 1) := by decide +kernel
theorem dX9_noWay_0 : decode cX9_noWay 0 = .ok (.iload_n 1, 1) := by decide +kernel
theorem dX9_noWay_1 : decode cX9_noWay 1 = .ok (.invokestatic 159, 3) := by decide +kernel
theorem dX9_noWay_4 : decode cX9_noWay 4 = .ok (.ifCond .eq 14, 3) := by decide +kernel
theorem dX9_noWay_7 : decode cX9_noWay 7 = .ok (.iload_n 2, 1) := by decide +kernel
theorem dX9_noWay_8 : decode cX9_noWay 8 = .ok (.invokestatic 159, 3) := by decide +kernel
theorem dX9_noWay_11 : decode cX9_noWay 11 = .ok (.ifCond .eq 7, 3) := by decide +kernel
theorem dX9_noWay_14 : decode cX9_noWay 14 = .ok (.iconst 1, 1) := by decide +kernel
theorem dX9_noWay_15 : decode cX9_noWay 15 = .ok (.goto 4, 3) := by decide +kernel
theorem dX9_noWay_18 : decode cX9_noWay 18 = .ok (.iconst 0, 1) := by decide +kernel
theorem dX9_noWay_19 : decode cX9_noWay 19 = .ok (.istore_n 3, 1) := by decide +kernel
theorem dX9_noWay_20 : decode cX9_noWay 20 = .ok (.aload_n 0, 1) := by decide +kernel
theorem dX9_noWay_21 : decode cX9_noWay 21 = .ok (.iload_n 3, 1) := by decide +kernel
theorem dX9_noWay_22 : decode cX9_noWay 22 = .ok (.ifCond .ne 7, 3) := by decide +kernel
theorem dX9_noWay_25 : decode cX9_noWay 25 = .ok (.iconst 1, 1) := by decide +kernel
theorem dX9_noWay_26 : decode cX9_noWay 26 = .ok (.goto 20, 3) := by decide +kernel
theorem dX9_noWay_29 : decode cX9_noWay 29 = .ok (.aload_n 0, 1) := by decide +kernel
theorem dX9_noWay_30 : decode cX9_noWay 30 = .ok (.getfield 7, 3) := by decide +kernel
theorem dX9_noWay_33 : decode cX9_noWay 33 = .ok (.iload_n 1, 1) := by decide +kernel
theorem dX9_noWay_34 : decode cX9_noWay 34 = .ok (.iload_n 2, 1) := by decide +kernel
theorem dX9_noWay_35 : decode cX9_noWay 35 = .ok (.invokestatic 132, 3) := by decide +kernel
theorem dX9_noWay_38 : decode cX9_noWay 38 = .ok (.ifCond .le 7, 3) := by decide +kernel
theorem dX9_noWay_41 : decode cX9_noWay 41 = .ok (.iconst 2, 1) := by decide +kernel
theorem dX9_noWay_42 : decode cX9_noWay 42 = .ok (.goto 4, 3) := by decide +kernel
theorem dX9_noWay_45 : decode cX9_noWay 45 = .ok (.iconst 0, 1) := by decide +kernel
theorem dX9_noWay_46 : decode cX9_noWay 46 = .ok (.invokevirtual 153, 3) := by decide +kernel
theorem dX9_noWay_49 : decode cX9_noWay 49 = .ok (.ireturn, 1) := by decide +kernel
theorem dX9_tried_0 : decode cX9_tried 0 = .ok (.aload_n 0, 1) := by decide +kernel
theorem dX9_tried_1 : decode cX9_tried 1 = .ok (.getfield 7, 3) := by decide +kernel
theorem dX9_tried_4 : decode cX9_tried 4 = .ok (.aload_n 0, 1) := by decide +kernel
theorem dX9_tried_5 : decode cX9_tried 5 = .ok (.getfield 13, 3) := by decide +kernel
theorem dX9_tried_8 : decode cX9_tried 8 = .ok (.invokestatic 195, 3) := by decide +kernel
theorem dX9_tried_11 : decode cX9_tried 11 = .ok (.aload_n 0, 1) := by decide +kernel
theorem dX9_tried_12 : decode cX9_tried 12 = .ok (.getfield 13, 3) := by decide +kernel
theorem dX9_tried_15 : decode cX9_tried 15 = .ok (.iload_n 1, 1) := by decide +kernel
theorem dX9_tried_16 : decode cX9_tried 16 = .ok (.iload_n 2, 1) := by decide +kernel
theorem dX9_tried_17 : decode cX9_tried 17 = .ok (.invokestatic 136, 3) := by decide +kernel
theorem dX9_tried_20 : decode cX9_tried 20 = .ok (.ireturn, 1) := by decide +kernel
theorem dX9_wouldTake_0 : decode cX9_wouldTake 0 = .ok (.aload_n 0, 1) := by decide +kernel
theorem dX9_wouldTake_1 : decode cX9_wouldTake 1 = .ok (.iload_n 1, 1) := by decide +kernel
theorem dX9_wouldTake_2 : decode cX9_wouldTake 2 = .ok (.iload_n 2, 1) := by decide +kernel
theorem dX9_wouldTake_3 : decode cX9_wouldTake 3 = .ok (.invokevirtual 221, 3) := by decide +kernel
theorem dX9_wouldTake_6 : decode cX9_wouldTake 6 = .ok (.ifCond .eq 7, 3) := by decide +kernel
theorem dX9_wouldTake_9 : decode cX9_wouldTake 9 = .ok (.iconst 0, 1) := by decide +kernel
theorem dX9_wouldTake_10 : decode cX9_wouldTake 10 = .ok (.goto 9, 3) := by decide +kernel
theorem dX9_wouldTake_13 : decode cX9_wouldTake 13 = .ok (.aload_n 0, 1) := by decide +kernel
theorem dX9_wouldTake_14 : decode cX9_wouldTake 14 = .ok (.iload_n 1, 1) := by decide +kernel
theorem dX9_wouldTake_15 : decode cX9_wouldTake 15 = .ok (.iload_n 2, 1) := by decide +kernel
theorem dX9_wouldTake_16 : decode cX9_wouldTake 16 = .ok (.invokevirtual 224, 3) := by decide +kernel
theorem dX9_wouldTake_19 : decode cX9_wouldTake 19 = .ok (.ireturn, 1) := by decide +kernel
theorem dX9_ends_0 : decode cX9_ends 0 = .ok (.aload_n 0, 1) := by decide +kernel
theorem dX9_ends_1 : decode cX9_ends 1 = .ok (.iload_n 2, 1) := by decide +kernel
theorem dX9_ends_2 : decode cX9_ends 2 = .ok (.iaload, 1) := by decide +kernel
theorem dX9_ends_3 : decode cX9_ends 3 = .ok (.invokestatic 72, 3) := by decide +kernel
theorem dX9_ends_6 : decode cX9_ends 6 = .ok (.istore 4, 2) := by decide +kernel
theorem dX9_ends_8 : decode cX9_ends 8 = .ok (.aload_n 0, 1) := by decide +kernel
theorem dX9_ends_9 : decode cX9_ends 9 = .ok (.aload_n 1, 1) := by decide +kernel
theorem dX9_ends_10 : decode cX9_ends 10 = .ok (.invokestatic 195, 3) := by decide +kernel
theorem dX9_ends_13 : decode cX9_ends 13 = .ok (.aload_n 1, 1) := by decide +kernel
theorem dX9_ends_14 : decode cX9_ends 14 = .ok (.iload_n 2, 1) := by decide +kernel
theorem dX9_ends_15 : decode cX9_ends 15 = .ok (.iload_n 3, 1) := by decide +kernel
theorem dX9_ends_16 : decode cX9_ends 16 = .ok (.invokestatic 136, 3) := by decide +kernel
theorem dX9_ends_19 : decode cX9_ends 19 = .ok (.istore 5, 2) := by decide +kernel
theorem dX9_ends_21 : decode cX9_ends 21 = .ok (.aload_n 0, 1) := by decide +kernel
theorem dX9_ends_22 : decode cX9_ends 22 = .ok (.iload_n 2, 1) := by decide +kernel
theorem dX9_ends_23 : decode cX9_ends 23 = .ok (.iaload, 1) := by decide +kernel
theorem dX9_ends_24 : decode cX9_ends 24 = .ok (.iconst 3, 1) := by decide +kernel
theorem dX9_ends_25 : decode cX9_ends 25 = .ok (.if_icmp .ne 14, 3) := by decide +kernel
theorem dX9_ends_28 : decode cX9_ends 28 = .ok (.iload_n 3, 1) := by decide +kernel
theorem dX9_ends_29 : decode cX9_ends 29 = .ok (.invokestatic 68, 3) := by decide +kernel
theorem dX9_ends_32 : decode cX9_ends 32 = .ok (.ifCond .eq 7, 3) := by decide +kernel
theorem dX9_ends_35 : decode cX9_ends 35 = .ok (.iconst 1, 1) := by decide +kernel
theorem dX9_ends_36 : decode cX9_ends 36 = .ok (.goto 4, 3) := by decide +kernel
theorem dX9_ends_39 : decode cX9_ends 39 = .ok (.iconst 0, 1) := by decide +kernel
theorem dX9_ends_40 : decode cX9_ends 40 = .ok (.istore 6, 2) := by decide +kernel
theorem dX9_ends_42 : decode cX9_ends 42 = .ok (.iload 4, 2) := by decide +kernel
theorem dX9_ends_44 : decode cX9_ends 44 = .ok (.ifCond .ne 23, 3) := by decide +kernel
theorem dX9_ends_47 : decode cX9_ends 47 = .ok (.aload_n 0, 1) := by decide +kernel
theorem dX9_ends_48 : decode cX9_ends 48 = .ok (.invokestatic 98, 3) := by decide +kernel
theorem dX9_ends_51 : decode cX9_ends 51 = .ok (.iconst (-1), 1) := by decide +kernel
