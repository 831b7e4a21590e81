theorem dX1_init_0 : decode cX1_init 0 = .ok (.aload_n 0, 1) := by decide +kernel
theorem dX1_init_1 : decode cX1_init 1 = .ok (.invokespecial 3, 3) := by decide +kernel
theorem dX1_init_4 : decode cX1_init 4 = .ok (.aload_n 0, 1) := by decide +kernel
theorem dX1_init_5 : decode cX1_init 5 = .ok (.bipush 49, 2) := by decide +kernel
theorem dX1_init_7 : decode cX1_init 7 = .ok (.newarray .int, 2) := by decide +kernel
theorem dX1_init_9 : decode cX1_init 9 = .ok (.putfield 9, 3) := by decide +kernel
theorem dX1_init_12 : decode cX1_init 12 = .ok (.aload_n 0, 1) := by decide +kernel
theorem dX1_init_13 : decode cX1_init 13 = .ok (.iconst (-1), 1) := by decide +kernel
theorem dX1_init_14 : decode cX1_init 14 = .ok (.putfield 15, 3) := by decide +kernel
theorem dX1_init_17 : decode cX1_init 17 = .ok (.return_, 1) := by decide +kernel
theorem dX1_copyFrom_0 : decode cX1_copyFrom 0 = .ok (.aload_n 1, 1) := by decide +kernel
theorem dX1_copyFrom_1 : decode cX1_copyFrom 1 = .ok (.getfield 9, 3) := by decide +kernel
theorem dX1_copyFrom_4 : decode cX1_copyFrom 4 = .ok (.iconst 0, 1) := by decide +kernel
theorem dX1_copyFrom_5 : decode cX1_copyFrom 5 = .ok (.aload_n 0, 1) := by decide +kernel
theorem dX1_copyFrom_6 : decode cX1_copyFrom 6 = .ok (.getfield 9, 3) := by decide +kernel
theorem dX1_copyFrom_9 : decode cX1_copyFrom 9 = .ok (.iconst 0, 1) := by decide +kernel
theorem dX1_copyFrom_10 : decode cX1_copyFrom 10 = .ok (.bipush 49, 2) := by decide +kernel
theorem dX1_copyFrom_12 : decode cX1_copyFrom 12 = .ok (.invokestatic 19, 3) := by decide +kernel
theorem dX1_copyFrom_15 : decode cX1_copyFrom 15 = .ok (.aload_n 0, 1) := by decide +kernel
theorem dX1_copyFrom_16 : decode cX1_copyFrom 16 = .ok (.aload_n 1, 1) := by decide +kernel
theorem dX1_copyFrom_17 : decode cX1_copyFrom 17 = .ok (.getfield 15, 3) := by decide +kernel
theorem dX1_copyFrom_20 : decode cX1_copyFrom 20 = .ok (.putfield 15, 3) := by decide +kernel
theorem dX1_copyFrom_23 : decode cX1_copyFrom 23 = .ok (.aload_n 0, 1) := by decide +kernel
theorem dX1_copyFrom_24 : decode cX1_copyFrom 24 = .ok (.aload_n 1, 1) := by decide +kernel
theorem dX1_copyFrom_25 : decode cX1_copyFrom 25 = .ok (.getfield 25, 3) := by decide +kernel
theorem dX1_copyFrom_28 : decode cX1_copyFrom 28 = .ok (.putfield 25, 3) := by decide +kernel
theorem dX1_copyFrom_31 : decode cX1_copyFrom 31 = .ok (.return_, 1) := by decide +kernel
theorem dX1_removeAll_0 : decode cX1_removeAll 0 = .ok (.aload_n 0, 1) := by decide +kernel
theorem dX1_removeAll_1 : decode cX1_removeAll 1 = .ok (.getfield 9, 3) := by decide +kernel
theorem dX1_removeAll_4 : decode cX1_removeAll 4 = .ok (.iconst 0, 1) := by decide +kernel
theorem dX1_removeAll_5 : decode cX1_removeAll 5 = .ok (.invokestatic 29, 3) := by decide +kernel
theorem dX1_removeAll_8 : decode cX1_removeAll 8 = .ok (.aload_n 0, 1) := by decide +kernel
theorem dX1_removeAll_9 : decode cX1_removeAll 9 = .ok (.iconst (-1), 1) := by decide +kernel
theorem dX1_removeAll_10 : decode cX1_removeAll 10 = .ok (.putfield 15, 3) := by decide +kernel
theorem dX1_removeAll_13 : decode cX1_removeAll 13 = .ok (.return_, 1) := by decide +kernel
theorem dX1_placeAll_0 : decode cX1_placeAll 0 = .ok (.getstatic 35, 3) := by decide +kernel
theorem dX1_placeAll_3 : decode cX1_placeAll 3 = .ok (.iconst 0, 1) := by decide +kernel
theorem dX1_placeAll_4 : decode cX1_placeAll 4 = .ok (.aload_n 0, 1) := by decide +kernel
theorem dX1_placeAll_5 : decode cX1_placeAll 5 = .ok (.getfield 9, 3) := by decide +kernel
theorem dX1_placeAll_8 : decode cX1_placeAll 8 = .ok (.iconst 0, 1) := by decide +kernel
theorem dX1_placeAll_9 : decode cX1_placeAll 9 = .ok (.bipush 49, 2) := by decide +kernel
theorem dX1_placeAll_11 : decode cX1_placeAll 11 = .ok (.invokestatic 19, 3) := by decide +kernel
theorem dX1_placeAll_14 : decode cX1_placeAll 14 = .ok (.aload_n 0, 1) := by decide +kernel
theorem dX1_placeAll_15 : decode cX1_placeAll 15 = .ok (.bipush 24, 2) := by decide +kernel
theorem dX1_placeAll_17 : decode cX1_placeAll 17 = .ok (.putfield 15, 3) := by decide +kernel
theorem dX1_placeAll_20 : decode cX1_placeAll 20 = .ok (.return_, 1) := by decide +kernel
theorem dX1_at_0 : decode cX1_at 0 = .ok (.iload_n 1, 1) := by decide +kernel
theorem dX1_at_1 : decode cX1_at 1 = .ok (.ifCond .lt 9, 3) := by decide +kernel
theorem dX1_at_4 : decode cX1_at 4 = .ok (.iload_n 1, 1) := by decide +kernel
theorem dX1_at_5 : decode cX1_at 5 = .ok (.bipush 49, 2) := by decide +kernel
theorem dX1_at_7 : decode cX1_at 7 = .ok (.if_icmp .lt 7, 3) := by decide +kernel
theorem dX1_at_10 : decode cX1_at 10 = .ok (.iconst 0, 1) := by decide +kernel
theorem dX1_at_11 : decode cX1_at 11 = .ok (.goto 9, 3) := by decide +kernel
theorem dX1_at_14 : decode cX1_at 14 = .ok (.aload_n 0, 1) := by decide +kernel
theorem dX1_at_15 : decode cX1_at 15 = .ok (.getfield 9, 3) := by decide +kernel
theorem dX1_at_18 : decode cX1_at 18 = .ok (.iload_n 1, 1) := by decide +kernel
theorem dX1_at_19 : decode cX1_at 19 = .ok (.iaload, 1) := by decide +kernel
theorem dX1_at_20 : decode cX1_at 20 = .ok (.ireturn, 1) := by decide +kernel
theorem dX1_set_0 : decode cX1_set 0 = .ok (.iload_n 1, 1) := by decide +kernel
theorem dX1_set_1 : decode cX1_set 1 = .ok (.ifCond .lt 9, 3) := by decide +kernel
theorem dX1_set_4 : decode cX1_set 4 = .ok (.iload_n 1, 1) := by decide +kernel
theorem dX1_set_5 : decode cX1_set 5 = .ok (.bipush 49, 2) := by decide +kernel
theorem dX1_set_7 : decode cX1_set 7 = .ok (.if_icmp .lt 4, 3) := by decide +kernel
theorem dX1_set_10 : decode cX1_set 10 = .ok (.return_, 1) := by decide +kernel
theorem dX1_set_11 : decode cX1_set 11 = .ok (.aload_n 0, 1) := by decide +kernel
theorem dX1_set_12 : decode cX1_set 12 = .ok (.getfield 15, 3) := by decide +kernel
theorem dX1_set_15 : decode cX1_set 15 = .ok (.iload_n 1, 1) := by decide +kernel
theorem dX1_set_16 : decode cX1_set 16 = .ok (.if_icmp .ne 8, 3) := by decide +kernel
theorem dX1_set_19 : decode cX1_set 19 = .ok (.aload_n 0, 1) := by decide +kernel
theorem dX1_set_20 : decode cX1_set 20 = .ok (.iconst (-1), 1) := by decide +kernel
theorem dX1_set_21 : decode cX1_set 21 = .ok (.putfield 15, 3) := by decide +kernel
theorem dX1_set_24 : decode cX1_set 24 = .ok (.iload_n 2, 1) := by decide +kernel
theorem dX1_set_25 : decode cX1_set 25 = .ok (.iconst 3, 1) := by decide +kernel
theorem dX1_set_26 : decode cX1_set 26 = .ok (.if_icmp .ne 8, 3) := by decide +kernel
theorem dX1_set_29 : decode cX1_set 29 = .ok (.aload_n 0, 1) := by decide +kernel
theorem dX1_set_30 : decode cX1_set 30 = .ok (.iload_n 1, 1) := by decide +kernel
theorem dX1_set_31 : decode cX1_set 31 = .ok (.putfield 15, 3) := by decide +kernel
theorem dX1_set_34 : decode cX1_set 34 = .ok (.aload_n 0, 1) := by decide +kernel
theorem dX1_set_35 : decode cX1_set 35 = .ok (.getfield 9, 3) := by decide +kernel
theorem dX1_set_38 : decode cX1_set 38 = .ok (.iload_n 1, 1) := by decide +kernel
theorem dX1_set_39 : decode cX1_set 39 = .ok (.iload_n 2, 1) := by decide +kernel
theorem dX1_set_40 : decode cX1_set 40 = .ok (.iastore, 1) := by decide +kernel
theorem dX1_set_41 : decode cX1_set 41 = .ok (.return_, 1) := by decide +kernel
theorem dX1_allowsPiece_0 : decode cX1_allowsPiece 0 = .ok (.iload_n 2, 1) := by decide +kernel
theorem dX1_allowsPiece_1 : decode cX1_allowsPiece 1 = .ok (.iconst 3, 1) := by decide +kernel
theorem dX1_allowsPiece_2 : decode cX1_allowsPiece 2 = .ok (.if_icmp .ne 24, 3) := by decide +kernel
theorem dX1_allowsPiece_5 : decode cX1_allowsPiece 5 = .ok (.aload_n 0, 1) := by decide +kernel
theorem dX1_allowsPiece_6 : decode cX1_allowsPiece 6 = .ok (.getfield 15, 3) := by decide +kernel
theorem dX1_allowsPiece_9 : decode cX1_allowsPiece 9 = .ok (.ifCond .lt 11, 3) := by decide +kernel
theorem dX1_allowsPiece_12 : decode cX1_allowsPiece 12 = .ok (.aload_n 0, 1) := by decide +kernel
theorem dX1_allowsPiece_13 : decode cX1_allowsPiece 13 = .ok (.getfield 15, 3) := by decide +kernel
theorem dX1_allowsPiece_16 : decode cX1_allowsPiece 16 = .ok (.iload_n 1, 1) := by decide +kernel
theorem dX1_allowsPiece_17 : decode cX1_allowsPiece 17 = .ok (.if_icmp .ne 7, 3) := by decide +kernel
theorem dX1_allowsPiece_20 : decode cX1_allowsPiece 20 = .ok (.iconst 1, 1) := by decide +kernel
theorem dX1_allowsPiece_21 : decode cX1_allowsPiece 21 = .ok (.goto 4, 3) := by decide +kernel
theorem dX1_allowsPiece_24 : decode cX1_allowsPiece 24 = .ok (.iconst 0, 1) := by decide +kernel
theorem dX1_allowsPiece_25 : decode cX1_allowsPiece 25 = .ok (.ireturn, 1) := by decide +kernel
theorem dX1_allowsPiece_26 : decode cX1_allowsPiece 26 = .ok (.iload_n 2, 1) := by decide +kernel
theorem dX1_allowsPiece_27 : decode cX1_allowsPiece 27 = .ok (.ifCond .eq 11, 3) := by decide +kernel
theorem dX1_allowsPiece_30 : decode cX1_allowsPiece 30 = .ok (.iload_n 2, 1) := by decide +kernel
theorem dX1_allowsPiece_31 : decode cX1_allowsPiece 31 = .ok (.iload_n 1, 1) := by decide +kernel
theorem dX1_allowsPiece_32 : decode cX1_allowsPiece 32 = .ok (.invokestatic 38, 3) := by decide +kernel
theorem dX1_allowsPiece_35 : decode cX1_allowsPiece 35 = .ok (.ifCond .eq 7, 3) := by decide +kernel
theorem dX1_allowsPiece_38 : decode cX1_allowsPiece 38 = .ok (.iconst 1, 1) := by decide +kernel
theorem dX1_allowsPiece_39 : decode cX1_allowsPiece 39 = .ok (.goto 4, 3) := by decide +kernel
theorem dX1_allowsPiece_42 : decode cX1_allowsPiece 42 = .ok (.iconst 0, 1) := by decide +kernel
theorem dX1_allowsPiece_43 : decode cX1_allowsPiece 43 = .ok (.ireturn, 1) := by decide +kernel
theorem dX1_countPieces_0 : decode cX1_countPieces 0 = .ok (.iconst 0, 1) := by decide +kernel
theorem dX1_countPieces_1 : decode cX1_countPieces 1 = .ok (.istore_n 2, 1) := by decide +kernel
theorem dX1_countPieces_2 : decode cX1_countPieces 2 = .ok (.iconst 0, 1) := by decide +kernel
theorem dX1_countPieces_3 : decode cX1_countPieces 3 = .ok (.istore_n 3, 1) := by decide +kernel
theorem dX1_countPieces_4 : decode cX1_countPieces 4 = .ok (.iload_n 3, 1) := by decide +kernel
theorem dX1_countPieces_5 : decode cX1_countPieces 5 = .ok (.bipush 49, 2) := by decide +kernel
theorem dX1_countPieces_7 : decode cX1_countPieces 7 = .ok (.if_icmp .ge 25, 3) := by decide +kernel
theorem dX1_countPieces_10 : decode cX1_countPieces 10 = .ok (.aload_n 0, 1) := by decide +kernel
theorem dX1_countPieces_11 : decode cX1_countPieces 11 = .ok (.getfield 9, 3) := by decide +kernel
theorem dX1_countPieces_14 : decode cX1_countPieces 14 = .ok (.iload_n 3, 1) := by decide +kernel
theorem dX1_countPieces_15 : decode cX1_countPieces 15 = .ok (.iaload, 1) := by decide +kernel
theorem dX1_countPieces_16 : decode cX1_countPieces 16 = .ok (.invokestatic 42, 3) := by decide +kernel
theorem dX1_countPieces_19 : decode cX1_countPieces 19 = .ok (.iload_n 1, 1) := by decide +kernel
theorem dX1_countPieces_20 : decode cX1_countPieces 20 = .ok (.if_icmp .ne 6, 3) := by decide +kernel
theorem dX1_countPieces_23 : decode cX1_countPieces 23 = .ok (.iinc 2 1, 3) := by decide +kernel
theorem dX1_countPieces_26 : decode cX1_countPieces 26 = .ok (.iinc 3 1, 3) := by decide +kernel
theorem dX1_countPieces_29 : decode cX1_countPieces 29 = .ok (.goto (-25), 3) := by decide +kernel
theorem dX1_countPieces_32 : decode cX1_countPieces 32 = .ok (.iload_n 2, 1) := by decide +kernel
theorem dX1_countPieces_33 : decode cX1_countPieces 33 = .ok (.ireturn, 1) := by decide +kernel
theorem dX1_countAll_0 : decode cX1_countAll 0 = .ok (.aload_n 0, 1) := by decide +kernel
theorem dX1_countAll_1 : decode cX1_countAll 1 = .ok (.iconst 0, 1) := by decide +kernel
theorem dX1_countAll_2 : decode cX1_countAll 2 = .ok (.invokevirtual 46, 3) := by decide +kernel
theorem dX1_countAll_5 : decode cX1_countAll 5 = .ok (.aload_n 0, 1) := by decide +kernel
theorem dX1_countAll_6 : decode cX1_countAll 6 = .ok (.iconst 1, 1) := by decide +kernel
theorem dX1_countAll_7 : decode cX1_countAll 7 = .ok (.invokevirtual 46, 3) := by decide +kernel
theorem dX1_countAll_10 : decode cX1_countAll 10 = .ok (.iadd, 1) := by decide +kernel
theorem dX1_countAll_11 : decode cX1_countAll 11 = .ok (.ireturn, 1) := by decide +kernel
theorem dX1_hostileTo_0 : decode cX1_hostileTo 0 = .ok (.iload_n 2, 1) := by decide +kernel
theorem dX1_hostileTo_1 : decode cX1_hostileTo 1 = .ok (.ifCond .lt 9, 3) := by decide +kernel
theorem dX1_hostileTo_4 : decode cX1_hostileTo 4 = .ok (.iload_n 2, 1) := by decide +kernel
theorem dX1_hostileTo_5 : decode cX1_hostileTo 5 = .ok (.bipush 49, 2) := by decide +kernel
theorem dX1_hostileTo_7 : decode cX1_hostileTo 7 = .ok (.if_icmp .lt 5, 3) := by decide +kernel
theorem dX1_hostileTo_10 : decode cX1_hostileTo 10 = .ok (.iconst 0, 1) := by decide +kernel
theorem dX1_hostileTo_11 : decode cX1_hostileTo 11 = .ok (.ireturn, 1) := by decide +kernel
theorem dX1_hostileTo_12 : decode cX1_hostileTo 12 = .ok (.aload_n 0, 1) := by decide +kernel
theorem dX1_hostileTo_13 : decode cX1_hostileTo 13 = .ok (.getfield 9, 3) := by decide +kernel
theorem dX1_hostileTo_16 : decode cX1_hostileTo 16 = .ok (.iload_n 2, 1) := by decide +kernel
theorem dX1_hostileTo_17 : decode cX1_hostileTo 17 = .ok (.iaload, 1) := by decide +kernel
theorem dX1_hostileTo_18 : decode cX1_hostileTo 18 = .ok (.istore_n 3, 1) := by decide +kernel
theorem dX1_hostileTo_19 : decode cX1_hostileTo 19 = .ok (.iload_n 3, 1) := by decide +kernel
theorem dX1_hostileTo_20 : decode cX1_hostileTo 20 = .ok (.ifCond .ne 21, 3) := by decide +kernel
theorem dX1_hostileTo_23 : decode cX1_hostileTo 23 = .ok (.ldc2_w 49, 3) := by decide +kernel
theorem dX1_hostileTo_26 : decode cX1_hostileTo 26 = .ok (.iload_n 2, 1) := by decide +kernel
theorem dX1_hostileTo_27 : decode cX1_hostileTo 27 = .ok (.lushr, 1) := by decide +kernel
theorem dX1_hostileTo_28 : decode cX1_hostileTo 28 = .ok (.lconst 1, 1) := by decide +kernel
theorem dX1_hostileTo_29 : decode cX1_hostileTo 29 = .ok (.land, 1) := by decide +kernel
theorem dX1_hostileTo_30 : decode cX1_hostileTo 30 = .ok (.lconst 0, 1) := by decide +kernel
theorem dX1_hostileTo_31 : decode cX1_hostileTo 31 = .ok (.lcmp, 1) := by decide +kernel
theorem dX1_hostileTo_32 : decode cX1_hostileTo 32 = .ok (.ifCond .eq 7, 3) := by decide +kernel
theorem dX1_hostileTo_35 : decode cX1_hostileTo 35 = .ok (.iconst 1, 1) := by decide +kernel
theorem dX1_hostileTo_36 : decode cX1_hostileTo 36 = .ok (.goto 4, 3) := by decide +kernel
theorem dX1_hostileTo_39 : decode cX1_hostileTo 39 = .ok (.iconst 0, 1) := by decide +kernel
theorem dX1_hostileTo_40 : decode cX1_hostileTo 40 = .ok (.ireturn, 1) := by decide +kernel
theorem dX1_hostileTo_41 : decode cX1_hostileTo 41 = .ok (.ldc2_w 51, 3) := by decide +kernel
theorem dX1_hostileTo_44 : decode cX1_hostileTo 44 = .ok (.iload_n 2, 1) := by decide +kernel
theorem dX1_hostileTo_45 : decode cX1_hostileTo 45 = .ok (.lushr, 1) := by decide +kernel
theorem dX1_hostileTo_46 : decode cX1_hostileTo 46 = .ok (.lconst 1, 1) := by decide +kernel
theorem dX1_hostileTo_47 : decode cX1_hostileTo 47 = .ok (.land, 1) := by decide +kernel
theorem dX1_hostileTo_48 : decode cX1_hostileTo 48 = .ok (.lconst 0, 1) := by decide +kernel
theorem dX1_hostileTo_49 : decode cX1_hostileTo 49 = .ok (.lcmp, 1) := by decide +kernel
theorem dX1_hostileTo_50 : decode cX1_hostileTo 50 = .ok (.ifCond .ne 26, 3) := by decide +kernel
theorem dX1_hostileTo_53 : decode cX1_hostileTo 53 = .ok (.iload_n 3, 1) := by decide +kernel
theorem dX1_hostileTo_54 : decode cX1_hostileTo 54 = .ok (.iconst 1, 1) := by decide +kernel
theorem dX1_hostileTo_55 : decode cX1_hostileTo 55 = .ok (.if_icmp .ne 7, 3) := by decide +kernel
theorem dX1_hostileTo_58 : decode cX1_hostileTo 58 = .ok (.iconst 1, 1) := by decide +kernel
theorem dX1_hostileTo_59 : decode cX1_hostileTo 59 = .ok (.goto 4, 3) := by decide +kernel
theorem dX1_hostileTo_62 : decode cX1_hostileTo 62 = .ok (.iconst 0, 1) := by decide +kernel
theorem dX1_hostileTo_63 : decode cX1_hostileTo 63 = .ok (.iload_n 1, 1) := by decide +kernel
theorem dX1_hostileTo_64 : decode cX1_hostileTo 64 = .ok (.iconst 1, 1) := by decide +kernel
theorem dX1_hostileTo_65 : decode cX1_hostileTo 65 = .ok (.if_icmp .ne 7, 3) := by decide +kernel
theorem dX1_hostileTo_68 : decode cX1_hostileTo 68 = .ok (.iconst 1, 1) := by decide +kernel
theorem dX1_hostileTo_69 : decode cX1_hostileTo 69 = .ok (.goto 4, 3) := by decide +kernel
theorem dX1_hostileTo_72 : decode cX1_hostileTo 72 = .ok (.iconst 0, 1) := by decide +kernel
theorem dX1_hostileTo_73 : decode cX1_hostileTo 73 = .ok (.if_icmp .ne 7, 3) := by decide +kernel
theorem dX1_hostileTo_76 : decode cX1_hostileTo 76 = .ok (.iconst 1, 1) := by decide +kernel
theorem dX1_hostileTo_77 : decode cX1_hostileTo 77 = .ok (.goto 4, 3) := by decide +kernel
theorem dX1_hostileTo_80 : decode cX1_hostileTo 80 = .ok (.iconst 0, 1) := by decide +kernel
theorem dX1_hostileTo_81 : decode cX1_hostileTo 81 = .ok (.ireturn, 1) := by decide +kernel
theorem dX1_countHostileBesideKing_0 : decode cX1_countHostileBesideKing 0 = .ok (.iconst 0, 1) := by decide +kernel
theorem dX1_countHostileBesideKing_1 : decode cX1_countHostileBesideKing 1 = .ok (.istore_n 1, 1) := by decide +kernel
theorem dX1_countHostileBesideKing_2 : decode cX1_countHostileBesideKing 2 = .ok (.iconst 0, 1) := by decide +kernel
theorem dX1_countHostileBesideKing_3 : decode cX1_countHostileBesideKing 3 = .ok (.istore_n 2, 1) := by decide +kernel
theorem dX1_countHostileBesideKing_4 : decode cX1_countHostileBesideKing 4 = .ok (.iload_n 2, 1) := by decide +kernel
theorem dX1_countHostileBesideKing_5 : decode cX1_countHostileBesideKing 5 = .ok (.iconst 4, 1) := by decide +kernel
theorem dX1_countHostileBesideKing_6 : decode cX1_countHostileBesideKing 6 = .ok (.if_icmp .ge 28, 3) := by decide +kernel
theorem dX1_countHostileBesideKing_9 : decode cX1_countHostileBesideKing 9 = .ok (.aload_n 0, 1) := by decide +kernel
theorem dX1_countHostileBesideKing_10 : decode cX1_countHostileBesideKing 10 = .ok (.iconst 1, 1) := by decide +kernel
theorem dX1_countHostileBesideKing_11 : decode cX1_countHostileBesideKing 11 = .ok (.aload_n 0, 1) := by decide +kernel
theorem dX1_countHostileBesideKing_12 : decode cX1_countHostileBesideKing 12 = .ok (.getfield 15, 3) := by decide +kernel
theorem dX1_countHostileBesideKing_15 : decode cX1_countHostileBesideKing 15 = .ok (.iload_n 2, 1) := by decide +kernel
theorem dX1_countHostileBesideKing_16 : decode cX1_countHostileBesideKing 16 = .ok (.invokestatic 53, 3) := by decide +kernel
theorem dX1_countHostileBesideKing_19 : decode cX1_countHostileBesideKing 19 = .ok (.invokevirtual 57, 3) := by decide +kernel
theorem dX1_countHostileBesideKing_22 : decode cX1_countHostileBesideKing 22 = .ok (.ifCond .eq 6, 3) := by decide +kernel
theorem dX1_countHostileBesideKing_25 : decode cX1_countHostileBesideKing 25 = .ok (.iinc 1 1, 3) := by decide +kernel
theorem dX1_countHostileBesideKing_28 : decode cX1_countHostileBesideKing 28 = .ok (.iinc 2 1, 3) := by decide +kernel
theorem dX1_countHostileBesideKing_31 : decode cX1_countHostileBesideKing 31 = .ok (.goto (-27), 3) := by decide +kernel
theorem dX1_countHostileBesideKing_34 : decode cX1_countHostileBesideKing 34 = .ok (.iload_n 1, 1) := by decide +kernel
theorem dX1_countHostileBesideKing_35 : decode cX1_countHostileBesideKing 35 = .ok (.ireturn, 1) := by decide +kernel
theorem dX1_obstacle_0 : decode cX1_obstacle 0 = .ok (.aload_n 0, 1) := by decide +kernel
theorem dX1_obstacle_1 : decode cX1_obstacle 1 = .ok (.iload_n 1, 1) := by decide +kernel
theorem dX1_obstacle_2 : decode cX1_obstacle 2 = .ok (.invokevirtual 60, 3) := by decide +kernel
theorem dX1_obstacle_5 : decode cX1_obstacle 5 = .ok (.istore_n 3, 1) := by decide +kernel
theorem dX1_obstacle_6 : decode cX1_obstacle 6 = .ok (.iload_n 3, 1) := by decide +kernel
theorem dX1_obstacle_7 : decode cX1_obstacle 7 = .ok (.ifCond .ne 5, 3) := by decide +kernel
theorem dX1_obstacle_10 : decode cX1_obstacle 10 = .ok (.iconst 1, 1) := by decide +kernel
theorem dX1_obstacle_11 : decode cX1_obstacle 11 = .ok (.ireturn, 1) := by decide +kernel
theorem dX1_obstacle_12 : decode cX1_obstacle 12 = .ok (.iload_n 1, 1) := by decide +kernel
theorem dX1_obstacle_13 : decode cX1_obstacle 13 = .ok (.iload_n 2, 1) := by decide +kernel
theorem dX1_obstacle_14 : decode cX1_obstacle 14 = .ok (.invokestatic 63, 3) := by decide +kernel
theorem dX1_obstacle_17 : decode cX1_obstacle 17 = .ok (.istore 4, 2) := by decide +kernel
theorem dX1_obstacle_19 : decode cX1_obstacle 19 = .ok (.iload 4, 2) := by decide +kernel
theorem dX1_obstacle_21 : decode cX1_obstacle 21 = .ok (.ifCond .ge 5, 3) := by decide +kernel
theorem dX1_obstacle_24 : decode cX1_obstacle 24 = .ok (.iconst 2, 1) := by decide +kernel
theorem dX1_obstacle_25 : decode cX1_obstacle 25 = .ok (.ireturn, 1) := by decide +kernel
theorem dX1_obstacle_26 : decode cX1_obstacle 26 = .ok (.aload_n 0, 1) := by decide +kernel
theorem dX1_obstacle_27 : decode cX1_obstacle 27 = .ok (.iload_n 1, 1) := by decide +kernel
theorem dX1_obstacle_28 : decode cX1_obstacle 28 = .ok (.iload_n 2, 1) := by decide +kernel
theorem dX1_obstacle_29 : decode cX1_obstacle 29 = .ok (.iload 4, 2) := by decide +kernel
theorem dX1_obstacle_31 : decode cX1_obstacle 31 = .ok (.invokevirtual 66, 3) := by decide +kernel
theorem dX1_obstacle_34 : decode cX1_obstacle 34 = .ok (.ifCond .ne 5, 3) := by decide +kernel
theorem dX1_obstacle_37 : decode cX1_obstacle 37 = .ok (.iconst 3, 1) := by decide +kernel
theorem dX1_obstacle_38 : decode cX1_obstacle 38 = .ok (.ireturn, 1) := by decide +kernel
theorem dX1_obstacle_39 : decode cX1_obstacle 39 = .ok (.iload_n 3, 1) := by decide +kernel
theorem dX1_obstacle_40 : decode cX1_obstacle 40 = .ok (.iload_n 2, 1) := by decide +kernel
theorem dX1_obstacle_41 : decode cX1_obstacle 41 = .ok (.invokestatic 38, 3) := by decide +kernel
theorem dX1_obstacle_44 : decode cX1_obstacle 44 = .ok (.ifCond .eq 7, 3) := by decide +kernel
theorem dX1_obstacle_47 : decode cX1_obstacle 47 = .ok (.iconst 0, 1) := by decide +kernel
theorem dX1_obstacle_48 : decode cX1_obstacle 48 = .ok (.goto 4, 3) := by decide +kernel
theorem dX1_obstacle_51 : decode cX1_obstacle 51 = .ok (.iconst 4, 1) := by decide +kernel
theorem dX1_obstacle_52 : decode cX1_obstacle 52 = .ok (.ireturn, 1) := by decide +kernel
theorem dX1_isFreeTo_0 : decode cX1_isFreeTo 0 = .ok (.iload_n 1, 1) := by decide +kernel
theorem dX1_isFreeTo_1 : decode cX1_isFreeTo 1 = .ok (.istore 4, 2) := by decide +kernel
theorem dX1_isFreeTo_3 : decode cX1_isFreeTo 3 = .ok (.iconst 1, 1) := by decide +kernel
theorem dX1_isFreeTo_4 : decode cX1_isFreeTo 4 = .ok (.istore 5, 2) := by decide +kernel
theorem dX1_isFreeTo_6 : decode cX1_isFreeTo 6 = .ok (.iload 5, 2) := by decide +kernel
theorem dX1_isFreeTo_8 : decode cX1_isFreeTo 8 = .ok (.bipush 7, 2) := by decide +kernel
theorem dX1_isFreeTo_10 : decode cX1_isFreeTo 10 = .ok (.if_icmp .ge 41, 3) := by decide +kernel
theorem dX1_isFreeTo_13 : decode cX1_isFreeTo 13 = .ok (.iload 4, 2) := by decide +kernel
theorem dX1_isFreeTo_15 : decode cX1_isFreeTo 15 = .ok (.iload_n 3, 1) := by decide +kernel
theorem dX1_isFreeTo_16 : decode cX1_isFreeTo 16 = .ok (.invokestatic 53, 3) := by decide +kernel
theorem dX1_isFreeTo_19 : decode cX1_isFreeTo 19 = .ok (.istore 4, 2) := by decide +kernel
theorem dX1_isFreeTo_21 : decode cX1_isFreeTo 21 = .ok (.iload 4, 2) := by decide +kernel
theorem dX1_isFreeTo_23 : decode cX1_isFreeTo 23 = .ok (.ifCond .lt 12, 3) := by decide +kernel
theorem dX1_isFreeTo_26 : decode cX1_isFreeTo 26 = .ok (.aload_n 0, 1) := by decide +kernel
theorem dX1_isFreeTo_27 : decode cX1_isFreeTo 27 = .ok (.iload 4, 2) := by decide +kernel
theorem dX1_isFreeTo_29 : decode cX1_isFreeTo 29 = .ok (.invokevirtual 60, 3) := by decide +kernel
theorem dX1_isFreeTo_32 : decode cX1_isFreeTo 32 = .ok (.ifCond .eq 5, 3) := by decide +kernel
theorem dX1_isFreeTo_35 : decode cX1_isFreeTo 35 = .ok (.iconst 0, 1) := by decide +kernel
theorem dX1_isFreeTo_36 : decode cX1_isFreeTo 36 = .ok (.ireturn, 1) := by decide +kernel
theorem dX1_isFreeTo_37 : decode cX1_isFreeTo 37 = .ok (.iload 4, 2) := by decide +kernel
theorem dX1_isFreeTo_39 : decode cX1_isFreeTo 39 = .ok (.iload_n 2, 1) := by decide +kernel
theorem dX1_isFreeTo_40 : decode cX1_isFreeTo 40 = .ok (.if_icmp .ne 5, 3) := by decide +kernel
theorem dX1_isFreeTo_43 : decode cX1_isFreeTo 43 = .ok (.iconst 1, 1) := by decide +kernel
theorem dX1_isFreeTo_44 : decode cX1_isFreeTo 44 = .ok (.ireturn, 1) := by decide +kernel
theorem dX1_isFreeTo_45 : decode cX1_isFreeTo 45 = .ok (.iinc 5 1, 3) := by decide +kernel
theorem dX1_isFreeTo_48 : decode cX1_isFreeTo 48 = .ok (.goto (-42), 3) := by decide +kernel
theorem dX1_isFreeTo_51 : decode cX1_isFreeTo 51 = .ok (.iconst 0, 1) := by decide +kernel
theorem dX1_isFreeTo_52 : decode cX1_isFreeTo 52 = .ok (.ireturn, 1) := by decide +kernel
theorem dX1_countFrom_0 : decode cX1_countFrom 0 = .ok (.aload_n 0, 1) := by decide +kernel
theorem dX1_countFrom_1 : decode cX1_countFrom 1 = .ok (.iload_n 1, 1) := by decide +kernel
theorem dX1_countFrom_2 : decode cX1_countFrom 2 = .ok (.invokevirtual 60, 3) := by decide +kernel
theorem dX1_countFrom_5 : decode cX1_countFrom 5 = .ok (.istore_n 2, 1) := by decide +kernel
theorem dX1_countFrom_6 : decode cX1_countFrom 6 = .ok (.iload_n 2, 1) := by decide +kernel
theorem dX1_countFrom_7 : decode cX1_countFrom 7 = .ok (.ifCond .ne 5, 3) := by decide +kernel
theorem dX1_countFrom_10 : decode cX1_countFrom 10 = .ok (.iconst 0, 1) := by decide +kernel
theorem dX1_countFrom_11 : decode cX1_countFrom 11 = .ok (.ireturn, 1) := by decide +kernel
theorem dX1_countFrom_12 : decode cX1_countFrom 12 = .ok (.iconst 0, 1) := by decide +kernel
theorem dX1_countFrom_13 : decode cX1_countFrom 13 = .ok (.istore_n 3, 1) := by decide +kernel
theorem dX1_countFrom_14 : decode cX1_countFrom 14 = .ok (.iconst 0, 1) := by decide +kernel
theorem dX1_countFrom_15 : decode cX1_countFrom 15 = .ok (.istore 4, 2) := by decide +kernel
theorem dX1_countFrom_17 : decode cX1_countFrom 17 = .ok (.iload 4, 2) := by decide +kernel
theorem dX1_countFrom_19 : decode cX1_countFrom 19 = .ok (.iconst 4, 1) := by decide +kernel
theorem dX1_countFrom_20 : decode cX1_countFrom 20 = .ok (.if_icmp .ge 68, 3) := by decide +kernel
theorem dX1_countFrom_23 : decode cX1_countFrom 23 = .ok (.iload_n 1, 1) := by decide +kernel
theorem dX1_countFrom_24 : decode cX1_countFrom 24 = .ok (.iload 4, 2) := by decide +kernel
theorem dX1_countFrom_26 : decode cX1_countFrom 26 = .ok (.invokestatic 53, 3) := by decide +kernel
theorem dX1_countFrom_29 : decode cX1_countFrom 29 = .ok (.istore 5, 2) := by decide +kernel
theorem dX1_countFrom_31 : decode cX1_countFrom 31 = .ok (.iconst 1, 1) := by decide +kernel
theorem dX1_countFrom_32 : decode cX1_countFrom 32 = .ok (.istore 6, 2) := by decide +kernel
theorem dX1_countFrom_34 : decode cX1_countFrom 34 = .ok (.iload 6, 2) := by decide +kernel
theorem dX1_countFrom_36 : decode cX1_countFrom 36 = .ok (.bipush 7, 2) := by decide +kernel
theorem dX1_countFrom_38 : decode cX1_countFrom 38 = .ok (.if_icmp .ge 44, 3) := by decide +kernel
theorem dX1_countFrom_41 : decode cX1_countFrom 41 = .ok (.iload 5, 2) := by decide +kernel
theorem dX1_countFrom_43 : decode cX1_countFrom 43 = .ok (.ifCond .lt 39, 3) := by decide +kernel
theorem dX1_countFrom_46 : decode cX1_countFrom 46 = .ok (.aload_n 0, 1) := by decide +kernel
theorem dX1_countFrom_47 : decode cX1_countFrom 47 = .ok (.iload 5, 2) := by decide +kernel
theorem dX1_countFrom_49 : decode cX1_countFrom 49 = .ok (.invokevirtual 60, 3) := by decide +kernel
theorem dX1_countFrom_52 : decode cX1_countFrom 52 = .ok (.ifCond .ne 30, 3) := by decide +kernel
theorem dX1_countFrom_55 : decode cX1_countFrom 55 = .ok (.iload_n 2, 1) := by decide +kernel
theorem dX1_countFrom_56 : decode cX1_countFrom 56 = .ok (.iload 5, 2) := by decide +kernel
theorem dX1_countFrom_58 : decode cX1_countFrom 58 = .ok (.invokestatic 38, 3) := by decide +kernel
theorem dX1_countFrom_61 : decode cX1_countFrom 61 = .ok (.ifCond .eq 6, 3) := by decide +kernel
theorem dX1_countFrom_64 : decode cX1_countFrom 64 = .ok (.iinc 3 1, 3) := by decide +kernel
theorem dX1_countFrom_67 : decode cX1_countFrom 67 = .ok (.iload 5, 2) := by decide +kernel
theorem dX1_countFrom_69 : decode cX1_countFrom 69 = .ok (.iload 4, 2) := by decide +kernel
theorem dX1_countFrom_71 : decode cX1_countFrom 71 = .ok (.invokestatic 53, 3) := by decide +kernel
theorem dX1_countFrom_74 : decode cX1_countFrom 74 = .ok (.istore 5, 2) := by decide +kernel
theorem dX1_countFrom_76 : decode cX1_countFrom 76 = .ok (.iinc 6 1, 3) := by decide +kernel
theorem dX1_countFrom_79 : decode cX1_countFrom 79 = .ok (.goto (-45), 3) := by decide +kernel
theorem dX1_countFrom_82 : decode cX1_countFrom 82 = .ok (.iinc 4 1, 3) := by decide +kernel
theorem dX1_countFrom_85 : decode cX1_countFrom 85 = .ok (.goto (-68), 3) := by decide +kernel
theorem dX1_countFrom_88 : decode cX1_countFrom 88 = .ok (.iload_n 3, 1) := by decide +kernel
theorem dX1_countFrom_89 : decode cX1_countFrom 89 = .ok (.ireturn, 1) := by decide +kernel
theorem dX1_countMoves_0 : decode cX1_countMoves 0 = .ok (.iconst 0, 1) := by decide +kernel
theorem dX1_countMoves_1 : decode cX1_countMoves 1 = .ok (.istore_n 2, 1) := by decide +kernel
theorem dX1_countMoves_2 : decode cX1_countMoves 2 = .ok (.iconst 0, 1) := by decide +kernel
theorem dX1_countMoves_3 : decode cX1_countMoves 3 = .ok (.istore_n 3, 1) := by decide +kernel
theorem dX1_countMoves_4 : decode cX1_countMoves 4 = .ok (.iload_n 3, 1) := by decide +kernel
theorem dX1_countMoves_5 : decode cX1_countMoves 5 = .ok (.bipush 49, 2) := by decide +kernel
theorem dX1_countMoves_7 : decode cX1_countMoves 7 = .ok (.if_icmp .ge 30, 3) := by decide +kernel
theorem dX1_countMoves_10 : decode cX1_countMoves 10 = .ok (.aload_n 0, 1) := by decide +kernel
theorem dX1_countMoves_11 : decode cX1_countMoves 11 = .ok (.getfield 9, 3) := by decide +kernel
theorem dX1_countMoves_14 : decode cX1_countMoves 14 = .ok (.iload_n 3, 1) := by decide +kernel
theorem dX1_countMoves_15 : decode cX1_countMoves 15 = .ok (.iaload, 1) := by decide +kernel
theorem dX1_countMoves_16 : decode cX1_countMoves 16 = .ok (.invokestatic 42, 3) := by decide +kernel
theorem dX1_countMoves_19 : decode cX1_countMoves 19 = .ok (.iload_n 1, 1) := by decide +kernel
theorem dX1_countMoves_20 : decode cX1_countMoves 20 = .ok (.if_icmp .ne 11, 3) := by decide +kernel
theorem dX1_countMoves_23 : decode cX1_countMoves 23 = .ok (.iload_n 2, 1) := by decide +kernel
theorem dX1_countMoves_24 : decode cX1_countMoves 24 = .ok (.aload_n 0, 1) := by decide +kernel
theorem dX1_countMoves_25 : decode cX1_countMoves 25 = .ok (.iload_n 3, 1) := by decide +kernel
theorem dX1_countMoves_26 : decode cX1_countMoves 26 = .ok (.invokevirtual 70, 3) := by decide +kernel
theorem dX1_countMoves_29 : decode cX1_countMoves 29 = .ok (.iadd, 1) := by decide +kernel
theorem dX1_countMoves_30 : decode cX1_countMoves 30 = .ok (.istore_n 2, 1) := by decide +kernel
theorem dX1_countMoves_31 : decode cX1_countMoves 31 = .ok (.iinc 3 1, 3) := by decide +kernel
theorem dX1_countMoves_34 : decode cX1_countMoves 34 = .ok (.goto (-30), 3) := by decide +kernel
theorem dX1_countMoves_37 : decode cX1_countMoves 37 = .ok (.iload_n 2, 1) := by decide +kernel
theorem dX1_countMoves_38 : decode cX1_countMoves 38 = .ok (.ireturn, 1) := by decide +kernel
theorem dX1_countArrivals_0 : decode cX1_countArrivals 0 = .ok (.iconst 0, 1) := by decide +kernel
theorem dX1_countArrivals_1 : decode cX1_countArrivals 1 = .ok (.istore_n 2, 1) := by decide +kernel
theorem dX1_countArrivals_2 : decode cX1_countArrivals 2 = .ok (.iconst 0, 1) := by decide +kernel
theorem dX1_countArrivals_3 : decode cX1_countArrivals 3 = .ok (.istore_n 3, 1) := by decide +kernel
theorem dX1_countArrivals_4 : decode cX1_countArrivals 4 = .ok (.iload_n 3, 1) := by decide +kernel
theorem dX1_countArrivals_5 : decode cX1_countArrivals 5 = .ok (.bipush 49, 2) := by decide +kernel
theorem dX1_countArrivals_7 : decode cX1_countArrivals 7 = .ok (.if_icmp .ge 27, 3) := by decide +kernel
theorem dX1_countArrivals_10 : decode cX1_countArrivals 10 = .ok (.aload_n 0, 1) := by decide +kernel
theorem dX1_countArrivals_11 : decode cX1_countArrivals 11 = .ok (.getfield 9, 3) := by decide +kernel
theorem dX1_countArrivals_14 : decode cX1_countArrivals 14 = .ok (.iload_n 3, 1) := by decide +kernel
theorem dX1_countArrivals_15 : decode cX1_countArrivals 15 = .ok (.iaload, 1) := by decide +kernel
theorem dX1_countArrivals_16 : decode cX1_countArrivals 16 = .ok (.ifCond .ne 12, 3) := by decide +kernel
theorem dX1_countArrivals_19 : decode cX1_countArrivals 19 = .ok (.iload_n 2, 1) := by decide +kernel
theorem dX1_countArrivals_20 : decode cX1_countArrivals 20 = .ok (.aload_n 0, 1) := by decide +kernel
theorem dX1_countArrivals_21 : decode cX1_countArrivals 21 = .ok (.iload_n 1, 1) := by decide +kernel
theorem dX1_countArrivals_22 : decode cX1_countArrivals 22 = .ok (.iload_n 3, 1) := by decide +kernel
theorem dX1_countArrivals_23 : decode cX1_countArrivals 23 = .ok (.invokevirtual 73, 3) := by decide +kernel
theorem dX1_countArrivals_26 : decode cX1_countArrivals 26 = .ok (.iadd, 1) := by decide +kernel
theorem dX1_countArrivals_27 : decode cX1_countArrivals 27 = .ok (.istore_n 2, 1) := by decide +kernel
theorem dX1_countArrivals_28 : decode cX1_countArrivals 28 = .ok (.iinc 3 1, 3) := by decide +kernel
theorem dX1_countArrivals_31 : decode cX1_countArrivals 31 = .ok (.goto (-27), 3) := by decide +kernel
theorem dX1_countArrivals_34 : decode cX1_countArrivals 34 = .ok (.iload_n 2, 1) := by decide +kernel
theorem dX1_countArrivals_35 : decode cX1_countArrivals 35 = .ok (.ireturn, 1) := by decide +kernel
theorem dX1_countComing_0 : decode cX1_countComing 0 = .ok (.iconst 0, 1) := by decide +kernel
theorem dX1_countComing_1 : decode cX1_countComing 1 = .ok (.istore_n 3, 1) := by decide +kernel
theorem dX1_countComing_2 : decode cX1_countComing 2 = .ok (.iconst 0, 1) := by decide +kernel
theorem dX1_countComing_3 : decode cX1_countComing 3 = .ok (.istore 4, 2) := by decide +kernel
theorem dX1_countComing_5 : decode cX1_countComing 5 = .ok (.iload 4, 2) := by decide +kernel
theorem dX1_countComing_7 : decode cX1_countComing 7 = .ok (.iconst 4, 1) := by decide +kernel
theorem dX1_countComing_8 : decode cX1_countComing 8 = .ok (.if_icmp .ge 85, 3) := by decide +kernel
theorem dX1_countComing_11 : decode cX1_countComing 11 = .ok (.iload_n 2, 1) := by decide +kernel
theorem dX1_countComing_12 : decode cX1_countComing 12 = .ok (.iload 4, 2) := by decide +kernel
theorem dX1_countComing_14 : decode cX1_countComing 14 = .ok (.invokestatic 53, 3) := by decide +kernel
theorem dX1_countComing_17 : decode cX1_countComing 17 = .ok (.istore 5, 2) := by decide +kernel
theorem dX1_countComing_19 : decode cX1_countComing 19 = .ok (.iconst 1, 1) := by decide +kernel
theorem dX1_countComing_20 : decode cX1_countComing 20 = .ok (.istore 6, 2) := by decide +kernel
theorem dX1_countComing_22 : decode cX1_countComing 22 = .ok (.iload 6, 2) := by decide +kernel
theorem dX1_countComing_24 : decode cX1_countComing 24 = .ok (.bipush 7, 2) := by decide +kernel
theorem dX1_countComing_26 : decode cX1_countComing 26 = .ok (.if_icmp .ge 32, 3) := by decide +kernel
theorem dX1_countComing_29 : decode cX1_countComing 29 = .ok (.iload 5, 2) := by decide +kernel
theorem dX1_countComing_31 : decode cX1_countComing 31 = .ok (.ifCond .lt 27, 3) := by decide +kernel
theorem dX1_countComing_34 : decode cX1_countComing 34 = .ok (.aload_n 0, 1) := by decide +kernel
theorem dX1_countComing_35 : decode cX1_countComing 35 = .ok (.iload 5, 2) := by decide +kernel
theorem dX1_countComing_37 : decode cX1_countComing 37 = .ok (.invokevirtual 60, 3) := by decide +kernel
theorem dX1_countComing_40 : decode cX1_countComing 40 = .ok (.ifCond .ne 18, 3) := by decide +kernel
theorem dX1_countComing_43 : decode cX1_countComing 43 = .ok (.iload 5, 2) := by decide +kernel
theorem dX1_countComing_45 : decode cX1_countComing 45 = .ok (.iload 4, 2) := by decide +kernel
theorem dX1_countComing_47 : decode cX1_countComing 47 = .ok (.invokestatic 53, 3) := by decide +kernel
theorem dX1_countComing_50 : decode cX1_countComing 50 = .ok (.istore 5, 2) := by decide +kernel
theorem dX1_countComing_52 : decode cX1_countComing 52 = .ok (.iinc 6 1, 3) := by decide +kernel
theorem dX1_countComing_55 : decode cX1_countComing 55 = .ok (.goto (-33), 3) := by decide +kernel
theorem dX1_countComing_58 : decode cX1_countComing 58 = .ok (.aload_n 0, 1) := by decide +kernel
theorem dX1_countComing_59 : decode cX1_countComing 59 = .ok (.iload 5, 2) := by decide +kernel
theorem dX1_countComing_61 : decode cX1_countComing 61 = .ok (.invokevirtual 60, 3) := by decide +kernel
theorem dX1_countComing_64 : decode cX1_countComing 64 = .ok (.istore 6, 2) := by decide +kernel
theorem dX1_countComing_66 : decode cX1_countComing 66 = .ok (.iload 6, 2) := by decide +kernel
theorem dX1_countComing_68 : decode cX1_countComing 68 = .ok (.invokestatic 42, 3) := by decide +kernel
theorem dX1_countComing_71 : decode cX1_countComing 71 = .ok (.iload_n 1, 1) := by decide +kernel
theorem dX1_countComing_72 : decode cX1_countComing 72 = .ok (.if_icmp .ne 15, 3) := by decide +kernel
theorem dX1_countComing_75 : decode cX1_countComing 75 = .ok (.iload 6, 2) := by decide +kernel
theorem dX1_countComing_77 : decode cX1_countComing 77 = .ok (.iload_n 2, 1) := by decide +kernel
theorem dX1_countComing_78 : decode cX1_countComing 78 = .ok (.invokestatic 38, 3) := by decide +kernel
theorem dX1_countComing_81 : decode cX1_countComing 81 = .ok (.ifCond .eq 6, 3) := by decide +kernel
theorem dX1_countComing_84 : decode cX1_countComing 84 = .ok (.iinc 3 1, 3) := by decide +kernel
theorem dX1_countComing_87 : decode cX1_countComing 87 = .ok (.iinc 4 1, 3) := by decide +kernel
theorem dX1_countComing_90 : decode cX1_countComing 90 = .ok (.goto (-85), 3) := by decide +kernel
theorem dX1_countComing_93 : decode cX1_countComing 93 = .ok (.iload_n 3, 1) := by decide +kernel
theorem dX1_countComing_94 : decode cX1_countComing 94 = .ok (.ireturn, 1) := by decide +kernel
theorem dX1_hasMove_0 : decode cX1_hasMove 0 = .ok (.iconst 0, 1) := by decide +kernel
theorem dX1_hasMove_1 : decode cX1_hasMove 1 = .ok (.istore_n 2, 1) := by decide +kernel
theorem dX1_hasMove_2 : decode cX1_hasMove 2 = .ok (.iload_n 2, 1) := by decide +kernel
theorem dX1_hasMove_3 : decode cX1_hasMove 3 = .ok (.bipush 49, 2) := by decide +kernel
theorem dX1_hasMove_5 : decode cX1_hasMove 5 = .ok (.if_icmp .ge 32, 3) := by decide +kernel
theorem dX1_hasMove_8 : decode cX1_hasMove 8 = .ok (.aload_n 0, 1) := by decide +kernel
theorem dX1_hasMove_9 : decode cX1_hasMove 9 = .ok (.getfield 9, 3) := by decide +kernel
theorem dX1_hasMove_12 : decode cX1_hasMove 12 = .ok (.iload_n 2, 1) := by decide +kernel
theorem dX1_hasMove_13 : decode cX1_hasMove 13 = .ok (.iaload, 1) := by decide +kernel
theorem dX1_hasMove_14 : decode cX1_hasMove 14 = .ok (.invokestatic 42, 3) := by decide +kernel
theorem dX1_hasMove_17 : decode cX1_hasMove 17 = .ok (.iload_n 1, 1) := by decide +kernel
theorem dX1_hasMove_18 : decode cX1_hasMove 18 = .ok (.if_icmp .ne 13, 3) := by decide +kernel
theorem dX1_hasMove_21 : decode cX1_hasMove 21 = .ok (.aload_n 0, 1) := by decide +kernel
theorem dX1_hasMove_22 : decode cX1_hasMove 22 = .ok (.iload_n 2, 1) := by decide +kernel
theorem dX1_hasMove_23 : decode cX1_hasMove 23 = .ok (.invokevirtual 70, 3) := by decide +kernel
theorem dX1_hasMove_26 : decode cX1_hasMove 26 = .ok (.ifCond .le 5, 3) := by decide +kernel
theorem dX1_hasMove_29 : decode cX1_hasMove 29 = .ok (.iconst 1, 1) := by decide +kernel
theorem dX1_hasMove_30 : decode cX1_hasMove 30 = .ok (.ireturn, 1) := by decide +kernel
theorem dX1_hasMove_31 : decode cX1_hasMove 31 = .ok (.iinc 2 1, 3) := by decide +kernel
theorem dX1_hasMove_34 : decode cX1_hasMove 34 = .ok (.goto (-32), 3) := by decide +kernel
theorem dX1_hasMove_37 : decode cX1_hasMove 37 = .ok (.iconst 0, 1) := by decide +kernel
theorem dX1_hasMove_38 : decode cX1_hasMove 38 = .ok (.ireturn, 1) := by decide +kernel
theorem dX1_listMoves_0 : decode cX1_listMoves 0 = .ok (.aload_n 2, 1) := by decide +kernel
theorem dX1_listMoves_1 : decode cX1_listMoves 1 = .ok (.invokevirtual 76, 3) := by decide +kernel
theorem dX1_listMoves_4 : decode cX1_listMoves 4 = .ok (.iconst 0, 1) := by decide +kernel
theorem dX1_listMoves_5 : decode cX1_listMoves 5 = .ok (.istore_n 3, 1) := by decide +kernel
theorem dX1_listMoves_6 : decode cX1_listMoves 6 = .ok (.iload_n 3, 1) := by decide +kernel
theorem dX1_listMoves_7 : decode cX1_listMoves 7 = .ok (.bipush 49, 2) := by decide +kernel
theorem dX1_listMoves_9 : decode cX1_listMoves 9 = .ok (.if_icmp .ge 50, 3) := by decide +kernel
theorem dX1_listMoves_12 : decode cX1_listMoves 12 = .ok (.aload_n 0, 1) := by decide +kernel
theorem dX1_listMoves_13 : decode cX1_listMoves 13 = .ok (.getfield 9, 3) := by decide +kernel
theorem dX1_listMoves_16 : decode cX1_listMoves 16 = .ok (.iload_n 3, 1) := by decide +kernel
theorem dX1_listMoves_17 : decode cX1_listMoves 17 = .ok (.iaload, 1) := by decide +kernel
theorem dX1_listMoves_18 : decode cX1_listMoves 18 = .ok (.invokestatic 42, 3) := by decide +kernel
theorem dX1_listMoves_21 : decode cX1_listMoves 21 = .ok (.iload_n 1, 1) := by decide +kernel
theorem dX1_listMoves_22 : decode cX1_listMoves 22 = .ok (.if_icmp .ne 31, 3) := by decide +kernel
theorem dX1_listMoves_25 : decode cX1_listMoves 25 = .ok (.aload_n 0, 1) := by decide +kernel
theorem dX1_listMoves_26 : decode cX1_listMoves 26 = .ok (.iload_n 3, 1) := by decide +kernel
theorem dX1_listMoves_27 : decode cX1_listMoves 27 = .ok (.iconst 0, 1) := by decide +kernel
theorem dX1_listMoves_28 : decode cX1_listMoves 28 = .ok (.aload_n 2, 1) := by decide +kernel
theorem dX1_listMoves_29 : decode cX1_listMoves 29 = .ok (.invokevirtual 81, 3) := by decide +kernel
theorem dX1_listMoves_32 : decode cX1_listMoves 32 = .ok (.aload_n 0, 1) := by decide +kernel
theorem dX1_listMoves_33 : decode cX1_listMoves 33 = .ok (.iload_n 3, 1) := by decide +kernel
theorem dX1_listMoves_34 : decode cX1_listMoves 34 = .ok (.iconst 1, 1) := by decide +kernel
theorem dX1_listMoves_35 : decode cX1_listMoves 35 = .ok (.aload_n 2, 1) := by decide +kernel
theorem dX1_listMoves_36 : decode cX1_listMoves 36 = .ok (.invokevirtual 81, 3) := by decide +kernel
theorem dX1_listMoves_39 : decode cX1_listMoves 39 = .ok (.aload_n 0, 1) := by decide +kernel
theorem dX1_listMoves_40 : decode cX1_listMoves 40 = .ok (.iload_n 3, 1) := by decide +kernel
theorem dX1_listMoves_41 : decode cX1_listMoves 41 = .ok (.iconst 2, 1) := by decide +kernel
theorem dX1_listMoves_42 : decode cX1_listMoves 42 = .ok (.aload_n 2, 1) := by decide +kernel
theorem dX1_listMoves_43 : decode cX1_listMoves 43 = .ok (.invokevirtual 85, 3) := by decide +kernel
theorem dX1_listMoves_46 : decode cX1_listMoves 46 = .ok (.aload_n 0, 1) := by decide +kernel
theorem dX1_listMoves_47 : decode cX1_listMoves 47 = .ok (.iload_n 3, 1) := by decide +kernel
theorem dX1_listMoves_48 : decode cX1_listMoves 48 = .ok (.iconst 3, 1) := by decide +kernel
theorem dX1_listMoves_49 : decode cX1_listMoves 49 = .ok (.aload_n 2, 1) := by decide +kernel
theorem dX1_listMoves_50 : decode cX1_listMoves 50 = .ok (.invokevirtual 85, 3) := by decide +kernel
theorem dX1_listMoves_53 : decode cX1_listMoves 53 = .ok (.iinc 3 1, 3) := by decide +kernel
theorem dX1_listMoves_56 : decode cX1_listMoves 56 = .ok (.goto (-50), 3) := by decide +kernel
theorem dX1_listMoves_59 : decode cX1_listMoves 59 = .ok (.return_, 1) := by decide +kernel
theorem dX1_listForward_0 : decode cX1_listForward 0 = .ok (.aload_n 0, 1) := by decide +kernel
theorem dX1_listForward_1 : decode cX1_listForward 1 = .ok (.iload_n 1, 1) := by decide +kernel
theorem dX1_listForward_2 : decode cX1_listForward 2 = .ok (.invokevirtual 60, 3) := by decide +kernel
theorem dX1_listForward_5 : decode cX1_listForward 5 = .ok (.istore 4, 2) := by decide +kernel
theorem dX1_listForward_7 : decode cX1_listForward 7 = .ok (.iload_n 1, 1) := by decide +kernel
theorem dX1_listForward_8 : decode cX1_listForward 8 = .ok (.iload_n 2, 1) := by decide +kernel
theorem dX1_listForward_9 : decode cX1_listForward 9 = .ok (.invokestatic 53, 3) := by decide +kernel
theorem dX1_listForward_12 : decode cX1_listForward 12 = .ok (.istore 5, 2) := by decide +kernel
theorem dX1_listForward_14 : decode cX1_listForward 14 = .ok (.iconst 1, 1) := by decide +kernel
theorem dX1_listForward_15 : decode cX1_listForward 15 = .ok (.istore 6, 2) := by decide +kernel
theorem dX1_listForward_17 : decode cX1_listForward 17 = .ok (.iload 6, 2) := by decide +kernel
theorem dX1_listForward_19 : decode cX1_listForward 19 = .ok (.bipush 7, 2) := by decide +kernel
theorem dX1_listForward_21 : decode cX1_listForward 21 = .ok (.if_icmp .ge 48, 3) := by decide +kernel
theorem dX1_listForward_24 : decode cX1_listForward 24 = .ok (.iload 5, 2) := by decide +kernel
theorem dX1_listForward_26 : decode cX1_listForward 26 = .ok (.ifCond .lt 43, 3) := by decide +kernel
theorem dX1_listForward_29 : decode cX1_listForward 29 = .ok (.aload_n 0, 1) := by decide +kernel
theorem dX1_listForward_30 : decode cX1_listForward 30 = .ok (.iload 5, 2) := by decide +kernel
theorem dX1_listForward_32 : decode cX1_listForward 32 = .ok (.invokevirtual 60, 3) := by decide +kernel
theorem dX1_listForward_35 : decode cX1_listForward 35 = .ok (.ifCond .ne 34, 3) := by decide +kernel
theorem dX1_listForward_38 : decode cX1_listForward 38 = .ok (.iload 4, 2) := by decide +kernel
theorem dX1_listForward_40 : decode cX1_listForward 40 = .ok (.iload 5, 2) := by decide +kernel
theorem dX1_listForward_42 : decode cX1_listForward 42 = .ok (.invokestatic 38, 3) := by decide +kernel
theorem dX1_listForward_45 : decode cX1_listForward 45 = .ok (.ifCond .eq 10, 3) := by decide +kernel
theorem dX1_listForward_48 : decode cX1_listForward 48 = .ok (.aload_n 3, 1) := by decide +kernel
theorem dX1_listForward_49 : decode cX1_listForward 49 = .ok (.iload_n 1, 1) := by decide +kernel
theorem dX1_listForward_50 : decode cX1_listForward 50 = .ok (.iload 5, 2) := by decide +kernel
theorem dX1_listForward_52 : decode cX1_listForward 52 = .ok (.invokevirtual 88, 3) := by decide +kernel
theorem dX1_listForward_55 : decode cX1_listForward 55 = .ok (.iload 5, 2) := by decide +kernel
theorem dX1_listForward_57 : decode cX1_listForward 57 = .ok (.iload_n 2, 1) := by decide +kernel
theorem dX1_listForward_58 : decode cX1_listForward 58 = .ok (.invokestatic 53, 3) := by decide +kernel
theorem dX1_listForward_61 : decode cX1_listForward 61 = .ok (.istore 5, 2) := by decide +kernel
theorem dX1_listForward_63 : decode cX1_listForward 63 = .ok (.iinc 6 1, 3) := by decide +kernel
theorem dX1_listForward_66 : decode cX1_listForward 66 = .ok (.goto (-49), 3) := by decide +kernel
theorem dX1_listForward_69 : decode cX1_listForward 69 = .ok (.return_, 1) := by decide +kernel
theorem dX1_listBackward_0 : decode cX1_listBackward 0 = .ok (.aload_n 0, 1) := by decide +kernel
theorem dX1_listBackward_1 : decode cX1_listBackward 1 = .ok (.iload_n 1, 1) := by decide +kernel
theorem dX1_listBackward_2 : decode cX1_listBackward 2 = .ok (.invokevirtual 60, 3) := by decide +kernel
theorem dX1_listBackward_5 : decode cX1_listBackward 5 = .ok (.istore 4, 2) := by decide +kernel
theorem dX1_listBackward_7 : decode cX1_listBackward 7 = .ok (.iload_n 1, 1) := by decide +kernel
theorem dX1_listBackward_8 : decode cX1_listBackward 8 = .ok (.istore 5, 2) := by decide +kernel
theorem dX1_listBackward_10 : decode cX1_listBackward 10 = .ok (.iconst 0, 1) := by decide +kernel
theorem dX1_listBackward_11 : decode cX1_listBackward 11 = .ok (.istore 6, 2) := by decide +kernel
theorem dX1_listBackward_13 : decode cX1_listBackward 13 = .ok (.iload_n 1, 1) := by decide +kernel
theorem dX1_listBackward_14 : decode cX1_listBackward 14 = .ok (.iload_n 2, 1) := by decide +kernel
theorem dX1_listBackward_15 : decode cX1_listBackward 15 = .ok (.invokestatic 53, 3) := by decide +kernel
theorem dX1_listBackward_18 : decode cX1_listBackward 18 = .ok (.istore 7, 2) := by decide +kernel
theorem dX1_listBackward_20 : decode cX1_listBackward 20 = .ok (.iconst 1, 1) := by decide +kernel
theorem dX1_listBackward_21 : decode cX1_listBackward 21 = .ok (.istore 8, 2) := by decide +kernel
theorem dX1_listBackward_23 : decode cX1_listBackward 23 = .ok (.iload 8, 2) := by decide +kernel
theorem dX1_listBackward_25 : decode cX1_listBackward 25 = .ok (.bipush 7, 2) := by decide +kernel
theorem dX1_listBackward_27 : decode cX1_listBackward 27 = .ok (.if_icmp .ge 38, 3) := by decide +kernel
theorem dX1_listBackward_30 : decode cX1_listBackward 30 = .ok (.iload 7, 2) := by decide +kernel
theorem dX1_listBackward_32 : decode cX1_listBackward 32 = .ok (.ifCond .lt 33, 3) := by decide +kernel
theorem dX1_listBackward_35 : decode cX1_listBackward 35 = .ok (.aload_n 0, 1) := by decide +kernel
theorem dX1_listBackward_36 : decode cX1_listBackward 36 = .ok (.iload 7, 2) := by decide +kernel
theorem dX1_listBackward_38 : decode cX1_listBackward 38 = .ok (.invokevirtual 60, 3) := by decide +kernel
theorem dX1_listBackward_41 : decode cX1_listBackward 41 = .ok (.ifCond .ne 24, 3) := by decide +kernel
theorem dX1_listBackward_44 : decode cX1_listBackward 44 = .ok (.iload 7, 2) := by decide +kernel
theorem dX1_listBackward_46 : decode cX1_listBackward 46 = .ok (.istore 5, 2) := by decide +kernel
theorem dX1_listBackward_48 : decode cX1_listBackward 48 = .ok (.iinc 6 1, 3) := by decide +kernel
theorem dX1_listBackward_51 : decode cX1_listBackward 51 = .ok (.iload 5, 2) := by decide +kernel
theorem dX1_listBackward_53 : decode cX1_listBackward 53 = .ok (.iload_n 2, 1) := by decide +kernel
theorem dX1_listBackward_54 : decode cX1_listBackward 54 = .ok (.invokestatic 53, 3) := by decide +kernel
theorem dX1_listBackward_57 : decode cX1_listBackward 57 = .ok (.istore 7, 2) := by decide +kernel
theorem dX1_listBackward_59 : decode cX1_listBackward 59 = .ok (.iinc 8 1, 3) := by decide +kernel
theorem dX1_listBackward_62 : decode cX1_listBackward 62 = .ok (.goto (-39), 3) := by decide +kernel
theorem dX1_listBackward_65 : decode cX1_listBackward 65 = .ok (.iload 6, 2) := by decide +kernel
theorem dX1_listBackward_67 : decode cX1_listBackward 67 = .ok (.istore 8, 2) := by decide +kernel
theorem dX1_listBackward_69 : decode cX1_listBackward 69 = .ok (.iload 8, 2) := by decide +kernel
theorem dX1_listBackward_71 : decode cX1_listBackward 71 = .ok (.ifCond .le 37, 3) := by decide +kernel
theorem dX1_listBackward_74 : decode cX1_listBackward 74 = .ok (.iload 4, 2) := by decide +kernel
theorem dX1_listBackward_76 : decode cX1_listBackward 76 = .ok (.iload 5, 2) := by decide +kernel
theorem dX1_listBackward_78 : decode cX1_listBackward 78 = .ok (.invokestatic 38, 3) := by decide +kernel
theorem dX1_listBackward_81 : decode cX1_listBackward 81 = .ok (.ifCond .eq 10, 3) := by decide +kernel
theorem dX1_listBackward_84 : decode cX1_listBackward 84 = .ok (.aload_n 3, 1) := by decide +kernel
theorem dX1_listBackward_85 : decode cX1_listBackward 85 = .ok (.iload_n 1, 1) := by decide +kernel
theorem dX1_listBackward_86 : decode cX1_listBackward 86 = .ok (.iload 5, 2) := by decide +kernel
theorem dX1_listBackward_88 : decode cX1_listBackward 88 = .ok (.invokevirtual 88, 3) := by decide +kernel
theorem dX1_listBackward_91 : decode cX1_listBackward 91 = .ok (.iload 5, 2) := by decide +kernel
theorem dX1_listBackward_93 : decode cX1_listBackward 93 = .ok (.iload_n 2, 1) := by decide +kernel
theorem dX1_listBackward_94 : decode cX1_listBackward 94 = .ok (.invokestatic 92, 3) := by decide +kernel
theorem dX1_listBackward_97 : decode cX1_listBackward 97 = .ok (.invokestatic 53, 3) := by decide +kernel
theorem dX1_listBackward_100 : decode cX1_listBackward 100 = .ok (.istore 5, 2) := by decide +kernel
theorem dX1_listBackward_102 : decode cX1_listBackward 102 = .ok (.iinc 8 (-1), 3) := by decide +kernel
theorem dX1_listBackward_105 : decode cX1_listBackward 105 = .ok (.goto (-36), 3) := by decide +kernel
theorem dX1_listBackward_108 : decode cX1_listBackward 108 = .ok (.return_, 1) := by decide +kernel
theorem dX1_carryOut_0 : decode cX1_carryOut 0 = .ok (.aload_n 0, 1) := by decide +kernel
theorem dX1_carryOut_1 : decode cX1_carryOut 1 = .ok (.iload_n 1, 1) := by decide +kernel
theorem dX1_carryOut_2 : decode cX1_carryOut 2 = .ok (.invokevirtual 60, 3) := by decide +kernel
theorem dX1_carryOut_5 : decode cX1_carryOut 5 = .ok (.istore_n 3, 1) := by decide +kernel
theorem dX1_carryOut_6 : decode cX1_carryOut 6 = .ok (.iload_n 3, 1) := by decide +kernel
theorem dX1_carryOut_7 : decode cX1_carryOut 7 = .ok (.invokestatic 42, 3) := by decide +kernel
theorem dX1_carryOut_10 : decode cX1_carryOut 10 = .ok (.istore 4, 2) := by decide +kernel
theorem dX1_carryOut_12 : decode cX1_carryOut 12 = .ok (.aload_n 0, 1) := by decide +kernel
theorem dX1_carryOut_13 : decode cX1_carryOut 13 = .ok (.iload_n 1, 1) := by decide +kernel
theorem dX1_carryOut_14 : decode cX1_carryOut 14 = .ok (.iconst 0, 1) := by decide +kernel
theorem dX1_carryOut_15 : decode cX1_carryOut 15 = .ok (.invokevirtual 95, 3) := by decide +kernel
theorem dX1_carryOut_18 : decode cX1_carryOut 18 = .ok (.aload_n 0, 1) := by decide +kernel
theorem dX1_carryOut_19 : decode cX1_carryOut 19 = .ok (.iload_n 2, 1) := by decide +kernel
theorem dX1_carryOut_20 : decode cX1_carryOut 20 = .ok (.iload_n 3, 1) := by decide +kernel
theorem dX1_carryOut_21 : decode cX1_carryOut 21 = .ok (.invokevirtual 95, 3) := by decide +kernel
theorem dX1_carryOut_24 : decode cX1_carryOut 24 = .ok (.iconst 0, 1) := by decide +kernel
theorem dX1_carryOut_25 : decode cX1_carryOut 25 = .ok (.istore 5, 2) := by decide +kernel
theorem dX1_carryOut_27 : decode cX1_carryOut 27 = .ok (.iconst 0, 1) := by decide +kernel
theorem dX1_carryOut_28 : decode cX1_carryOut 28 = .ok (.istore 6, 2) := by decide +kernel
theorem dX1_carryOut_30 : decode cX1_carryOut 30 = .ok (.iload 6, 2) := by decide +kernel
theorem dX1_carryOut_32 : decode cX1_carryOut 32 = .ok (.iconst 4, 1) := by decide +kernel
theorem dX1_carryOut_33 : decode cX1_carryOut 33 = .ok (.if_icmp .ge 32, 3) := by decide +kernel
theorem dX1_carryOut_36 : decode cX1_carryOut 36 = .ok (.aload_n 0, 1) := by decide +kernel
theorem dX1_carryOut_37 : decode cX1_carryOut 37 = .ok (.iload_n 2, 1) := by decide +kernel
theorem dX1_carryOut_38 : decode cX1_carryOut 38 = .ok (.iload 6, 2) := by decide +kernel
theorem dX1_carryOut_40 : decode cX1_carryOut 40 = .ok (.iconst 1, 1) := by decide +kernel
theorem dX1_carryOut_41 : decode cX1_carryOut 41 = .ok (.iload 4, 2) := by decide +kernel
theorem dX1_carryOut_43 : decode cX1_carryOut 43 = .ok (.isub, 1) := by decide +kernel
theorem dX1_carryOut_44 : decode cX1_carryOut 44 = .ok (.invokevirtual 98, 3) := by decide +kernel
theorem dX1_carryOut_47 : decode cX1_carryOut 47 = .ok (.ifCond .eq 12, 3) := by decide +kernel
theorem dX1_carryOut_50 : decode cX1_carryOut 50 = .ok (.iload 5, 2) := by decide +kernel
theorem dX1_carryOut_52 : decode cX1_carryOut 52 = .ok (.iconst 1, 1) := by decide +kernel
theorem dX1_carryOut_53 : decode cX1_carryOut 53 = .ok (.iload 6, 2) := by decide +kernel
theorem dX1_carryOut_55 : decode cX1_carryOut 55 = .ok (.ishl, 1) := by decide +kernel
theorem dX1_carryOut_56 : decode cX1_carryOut 56 = .ok (.ior, 1) := by decide +kernel
theorem dX1_carryOut_57 : decode cX1_carryOut 57 = .ok (.istore 5, 2) := by decide +kernel
theorem dX1_carryOut_59 : decode cX1_carryOut 59 = .ok (.iinc 6 1, 3) := by decide +kernel
theorem dX1_carryOut_62 : decode cX1_carryOut 62 = .ok (.goto (-32), 3) := by decide +kernel
theorem dX1_carryOut_65 : decode cX1_carryOut 65 = .ok (.iconst 0, 1) := by decide +kernel
theorem dX1_carryOut_66 : decode cX1_carryOut 66 = .ok (.istore 6, 2) := by decide +kernel
theorem dX1_carryOut_68 : decode cX1_carryOut 68 = .ok (.iconst 0, 1) := by decide +kernel
theorem dX1_carryOut_69 : decode cX1_carryOut 69 = .ok (.istore 7, 2) := by decide +kernel
theorem dX1_carryOut_71 : decode cX1_carryOut 71 = .ok (.iload 7, 2) := by decide +kernel
theorem dX1_carryOut_73 : decode cX1_carryOut 73 = .ok (.iconst 4, 1) := by decide +kernel
theorem dX1_carryOut_74 : decode cX1_carryOut 74 = .ok (.if_icmp .ge 33, 3) := by decide +kernel
theorem dX1_carryOut_77 : decode cX1_carryOut 77 = .ok (.iload 5, 2) := by decide +kernel
theorem dX1_carryOut_79 : decode cX1_carryOut 79 = .ok (.iload 7, 2) := by decide +kernel
theorem dX1_carryOut_81 : decode cX1_carryOut 81 = .ok (.ishr, 1) := by decide +kernel
theorem dX1_carryOut_82 : decode cX1_carryOut 82 = .ok (.iconst 1, 1) := by decide +kernel
theorem dX1_carryOut_83 : decode cX1_carryOut 83 = .ok (.iand, 1) := by decide +kernel
theorem dX1_carryOut_84 : decode cX1_carryOut 84 = .ok (.ifCond .eq 17, 3) := by decide +kernel
theorem dX1_carryOut_87 : decode cX1_carryOut 87 = .ok (.aload_n 0, 1) := by decide +kernel
theorem dX1_carryOut_88 : decode cX1_carryOut 88 = .ok (.iload_n 2, 1) := by decide +kernel
theorem dX1_carryOut_89 : decode cX1_carryOut 89 = .ok (.iload 7, 2) := by decide +kernel
theorem dX1_carryOut_91 : decode cX1_carryOut 91 = .ok (.invokestatic 53, 3) := by decide +kernel
theorem dX1_carryOut_94 : decode cX1_carryOut 94 = .ok (.iconst 0, 1) := by decide +kernel
theorem dX1_carryOut_95 : decode cX1_carryOut 95 = .ok (.invokevirtual 95, 3) := by decide +kernel
theorem dX1_carryOut_98 : decode cX1_carryOut 98 = .ok (.iinc 6 1, 3) := by decide +kernel
theorem dX1_carryOut_101 : decode cX1_carryOut 101 = .ok (.iinc 7 1, 3) := by decide +kernel
theorem dX1_carryOut_104 : decode cX1_carryOut 104 = .ok (.goto (-33), 3) := by decide +kernel
theorem dX1_carryOut_107 : decode cX1_carryOut 107 = .ok (.iload 6, 2) := by decide +kernel
theorem dX1_carryOut_109 : decode cX1_carryOut 109 = .ok (.ireturn, 1) := by decide +kernel
theorem dX1_isCaught_0 : decode cX1_isCaught 0 = .ok (.iload_n 1, 1) := by decide +kernel
theorem dX1_isCaught_1 : decode cX1_isCaught 1 = .ok (.iload_n 2, 1) := by decide +kernel
theorem dX1_isCaught_2 : decode cX1_isCaught 2 = .ok (.invokestatic 53, 3) := by decide +kernel
theorem dX1_isCaught_5 : decode cX1_isCaught 5 = .ok (.istore 4, 2) := by decide +kernel
theorem dX1_isCaught_7 : decode cX1_isCaught 7 = .ok (.aload_n 0, 1) := by decide +kernel
theorem dX1_isCaught_8 : decode cX1_isCaught 8 = .ok (.iload 4, 2) := by decide +kernel
theorem dX1_isCaught_10 : decode cX1_isCaught 10 = .ok (.invokevirtual 60, 3) := by decide +kernel
theorem dX1_isCaught_13 : decode cX1_isCaught 13 = .ok (.istore 5, 2) := by decide +kernel
theorem dX1_isCaught_15 : decode cX1_isCaught 15 = .ok (.iload 5, 2) := by decide +kernel
theorem dX1_isCaught_17 : decode cX1_isCaught 17 = .ok (.invokestatic 42, 3) := by decide +kernel
theorem dX1_isCaught_20 : decode cX1_isCaught 20 = .ok (.iload_n 3, 1) := by decide +kernel
theorem dX1_isCaught_21 : decode cX1_isCaught 21 = .ok (.if_icmp .eq 5, 3) := by decide +kernel
theorem dX1_isCaught_24 : decode cX1_isCaught 24 = .ok (.iconst 0, 1) := by decide +kernel
theorem dX1_isCaught_25 : decode cX1_isCaught 25 = .ok (.ireturn, 1) := by decide +kernel
theorem dX1_isCaught_26 : decode cX1_isCaught 26 = .ok (.iload 5, 2) := by decide +kernel
theorem dX1_isCaught_28 : decode cX1_isCaught 28 = .ok (.iconst 3, 1) := by decide +kernel
theorem dX1_isCaught_29 : decode cX1_isCaught 29 = .ok (.if_icmp .ne 24, 3) := by decide +kernel
theorem dX1_isCaught_32 : decode cX1_isCaught 32 = .ok (.aload_n 0, 1) := by decide +kernel
theorem dX1_isCaught_33 : decode cX1_isCaught 33 = .ok (.invokevirtual 101, 3) := by decide +kernel
theorem dX1_isCaught_36 : decode cX1_isCaught 36 = .ok (.ifCond .eq 17, 3) := by decide +kernel
theorem dX1_isCaught_39 : decode cX1_isCaught 39 = .ok (.aload_n 0, 1) := by decide +kernel
theorem dX1_isCaught_40 : decode cX1_isCaught 40 = .ok (.invokevirtual 105, 3) := by decide +kernel
theorem dX1_isCaught_43 : decode cX1_isCaught 43 = .ok (.iconst 4, 1) := by decide +kernel
theorem dX1_isCaught_44 : decode cX1_isCaught 44 = .ok (.if_icmp .ne 7, 3) := by decide +kernel
theorem dX1_isCaught_47 : decode cX1_isCaught 47 = .ok (.iconst 1, 1) := by decide +kernel
theorem dX1_isCaught_48 : decode cX1_isCaught 48 = .ok (.goto 4, 3) := by decide +kernel
theorem dX1_isCaught_51 : decode cX1_isCaught 51 = .ok (.iconst 0, 1) := by decide +kernel
theorem dX1_isCaught_52 : decode cX1_isCaught 52 = .ok (.ireturn, 1) := by decide +kernel
theorem dX1_isCaught_53 : decode cX1_isCaught 53 = .ok (.aload_n 0, 1) := by decide +kernel
theorem dX1_isCaught_54 : decode cX1_isCaught 54 = .ok (.iload_n 3, 1) := by decide +kernel
theorem dX1_isCaught_55 : decode cX1_isCaught 55 = .ok (.iload 4, 2) := by decide +kernel
theorem dX1_isCaught_57 : decode cX1_isCaught 57 = .ok (.iload_n 2, 1) := by decide +kernel
theorem dX1_isCaught_58 : decode cX1_isCaught 58 = .ok (.invokestatic 53, 3) := by decide +kernel
theorem dX1_isCaught_61 : decode cX1_isCaught 61 = .ok (.invokevirtual 57, 3) := by decide +kernel
theorem dX1_isCaught_64 : decode cX1_isCaught 64 = .ok (.ireturn, 1) := by decide +kernel
theorem dX1_needsFour_0 : decode cX1_needsFour 0 = .ok (.aload_n 0, 1) := by decide +kernel
theorem dX1_needsFour_1 : decode cX1_needsFour 1 = .ok (.getfield 15, 3) := by decide +kernel
theorem dX1_needsFour_4 : decode cX1_needsFour 4 = .ok (.bipush 17, 2) := by decide +kernel
theorem dX1_needsFour_6 : decode cX1_needsFour 6 = .ok (.if_icmp .eq 30, 3) := by decide +kernel
theorem dX1_needsFour_9 : decode cX1_needsFour 9 = .ok (.aload_n 0, 1) := by decide +kernel
theorem dX1_needsFour_10 : decode cX1_needsFour 10 = .ok (.getfield 15, 3) := by decide +kernel
theorem dX1_needsFour_13 : decode cX1_needsFour 13 = .ok (.bipush 23, 2) := by decide +kernel
theorem dX1_needsFour_15 : decode cX1_needsFour 15 = .ok (.if_icmp .eq 21, 3) := by decide +kernel
theorem dX1_needsFour_18 : decode cX1_needsFour 18 = .ok (.aload_n 0, 1) := by decide +kernel
theorem dX1_needsFour_19 : decode cX1_needsFour 19 = .ok (.getfield 15, 3) := by decide +kernel
theorem dX1_needsFour_22 : decode cX1_needsFour 22 = .ok (.bipush 25, 2) := by decide +kernel
theorem dX1_needsFour_24 : decode cX1_needsFour 24 = .ok (.if_icmp .eq 12, 3) := by decide +kernel
theorem dX1_needsFour_27 : decode cX1_needsFour 27 = .ok (.aload_n 0, 1) := by decide +kernel
theorem dX1_needsFour_28 : decode cX1_needsFour 28 = .ok (.getfield 15, 3) := by decide +kernel
theorem dX1_needsFour_31 : decode cX1_needsFour 31 = .ok (.bipush 31, 2) := by decide +kernel
theorem dX1_needsFour_33 : decode cX1_needsFour 33 = .ok (.if_icmp .ne 7, 3) := by decide +kernel
theorem dX1_needsFour_36 : decode cX1_needsFour 36 = .ok (.iconst 1, 1) := by decide +kernel
theorem dX1_needsFour_37 : decode cX1_needsFour 37 = .ok (.goto 4, 3) := by decide +kernel
theorem dX1_needsFour_40 : decode cX1_needsFour 40 = .ok (.iconst 0, 1) := by decide +kernel
theorem dX1_needsFour_41 : decode cX1_needsFour 41 = .ok (.istore_n 1, 1) := by decide +kernel
theorem dX1_needsFour_42 : decode cX1_needsFour 42 = .ok (.aload_n 0, 1) := by decide +kernel
theorem dX1_needsFour_43 : decode cX1_needsFour 43 = .ok (.getfield 25, 3) := by decide +kernel
theorem dX1_needsFour_46 : decode cX1_needsFour 46 = .ok (.ifCond .ne 16, 3) := by decide +kernel
theorem dX1_needsFour_49 : decode cX1_needsFour 49 = .ok (.aload_n 0, 1) := by decide +kernel
theorem dX1_needsFour_50 : decode cX1_needsFour 50 = .ok (.getfield 15, 3) := by decide +kernel
theorem dX1_needsFour_53 : decode cX1_needsFour 53 = .ok (.bipush 24, 2) := by decide +kernel
theorem dX1_needsFour_55 : decode cX1_needsFour 55 = .ok (.if_icmp .eq 7, 3) := by decide +kernel
theorem dX1_needsFour_58 : decode cX1_needsFour 58 = .ok (.iload_n 1, 1) := by decide +kernel
theorem dX1_needsFour_59 : decode cX1_needsFour 59 = .ok (.ifCond .eq 7, 3) := by decide +kernel
theorem dX1_needsFour_62 : decode cX1_needsFour 62 = .ok (.iconst 1, 1) := by decide +kernel
theorem dX1_needsFour_63 : decode cX1_needsFour 63 = .ok (.goto 4, 3) := by decide +kernel
theorem dX1_needsFour_66 : decode cX1_needsFour 66 = .ok (.iconst 0, 1) := by decide +kernel
theorem dX1_needsFour_67 : decode cX1_needsFour 67 = .ok (.ireturn, 1) := by decide +kernel
theorem dX1_isWonBy_0 : decode cX1_isWonBy 0 = .ok (.aload_n 0, 1) := by decide +kernel
theorem dX1_isWonBy_1 : decode cX1_isWonBy 1 = .ok (.iload_n 1, 1) := by decide +kernel
theorem dX1_isWonBy_2 : decode cX1_isWonBy 2 = .ok (.invokevirtual 60, 3) := by decide +kernel
theorem dX1_isWonBy_5 : decode cX1_isWonBy 5 = .ok (.istore_n 3, 1) := by decide +kernel
theorem dX1_isWonBy_6 : decode cX1_isWonBy 6 = .ok (.iload_n 2, 1) := by decide +kernel
theorem dX1_isWonBy_7 : decode cX1_isWonBy 7 = .ok (.ifCond .eq 12, 3) := by decide +kernel
theorem dX1_isWonBy_10 : decode cX1_isWonBy 10 = .ok (.aload_n 0, 1) := by decide +kernel
theorem dX1_isWonBy_11 : decode cX1_isWonBy 11 = .ok (.getfield 15, 3) := by decide +kernel
theorem dX1_isWonBy_14 : decode cX1_isWonBy 14 = .ok (.ifCond .ge 5, 3) := by decide +kernel
theorem dX1_isWonBy_17 : decode cX1_isWonBy 17 = .ok (.iconst 1, 1) := by decide +kernel
theorem dX1_isWonBy_18 : decode cX1_isWonBy 18 = .ok (.ireturn, 1) := by decide +kernel
theorem dX1_isWonBy_19 : decode cX1_isWonBy 19 = .ok (.iload_n 3, 1) := by decide +kernel
theorem dX1_isWonBy_20 : decode cX1_isWonBy 20 = .ok (.iconst 3, 1) := by decide +kernel
theorem dX1_isWonBy_21 : decode cX1_isWonBy 21 = .ok (.if_icmp .ne 12, 3) := by decide +kernel
theorem dX1_isWonBy_24 : decode cX1_isWonBy 24 = .ok (.iload_n 1, 1) := by decide +kernel
theorem dX1_isWonBy_25 : decode cX1_isWonBy 25 = .ok (.invokestatic 109, 3) := by decide +kernel
theorem dX1_isWonBy_28 : decode cX1_isWonBy 28 = .ok (.ifCond .eq 5, 3) := by decide +kernel
theorem dX1_isWonBy_31 : decode cX1_isWonBy 31 = .ok (.iconst 1, 1) := by decide +kernel
theorem dX1_isWonBy_32 : decode cX1_isWonBy 32 = .ok (.ireturn, 1) := by decide +kernel
theorem dX1_isWonBy_33 : decode cX1_isWonBy 33 = .ok (.aload_n 0, 1) := by decide +kernel
theorem dX1_isWonBy_34 : decode cX1_isWonBy 34 = .ok (.iconst 1, 1) := by decide +kernel
theorem dX1_isWonBy_35 : decode cX1_isWonBy 35 = .ok (.iload_n 3, 1) := by decide +kernel
theorem dX1_isWonBy_36 : decode cX1_isWonBy 36 = .ok (.invokestatic 42, 3) := by decide +kernel
theorem dX1_isWonBy_39 : decode cX1_isWonBy 39 = .ok (.isub, 1) := by decide +kernel
theorem dX1_isWonBy_40 : decode cX1_isWonBy 40 = .ok (.invokevirtual 113, 3) := by decide +kernel
theorem dX1_isWonBy_43 : decode cX1_isWonBy 43 = .ok (.ifCond .ne 7, 3) := by decide +kernel
theorem dX1_isWonBy_46 : decode cX1_isWonBy 46 = .ok (.iconst 1, 1) := by decide +kernel
theorem dX1_isWonBy_47 : decode cX1_isWonBy 47 = .ok (.goto 4, 3) := by decide +kernel
theorem dX1_isWonBy_50 : decode cX1_isWonBy 50 = .ok (.iconst 0, 1) := by decide +kernel
theorem dX1_isWonBy_51 : decode cX1_isWonBy 51 = .ok (.ireturn, 1) := by decide +kernel
theorem dX1_countOpenCorners_0 : decode cX1_countOpenCorners 0 = .ok (.iconst 0, 1) := by decide +kernel
theorem dX1_countOpenCorners_1 : decode cX1_countOpenCorners 1 = .ok (.istore_n 1, 1) := by decide +kernel
theorem dX1_countOpenCorners_2 : decode cX1_countOpenCorners 2 = .ok (.getstatic 116, 3) := by decide +kernel
theorem dX1_countOpenCorners_5 : decode cX1_countOpenCorners 5 = .ok (.astore_n 2, 1) := by decide +kernel
theorem dX1_countOpenCorners_6 : decode cX1_countOpenCorners 6 = .ok (.aload_n 2, 1) := by decide +kernel
theorem dX1_countOpenCorners_7 : decode cX1_countOpenCorners 7 = .ok (.arraylength, 1) := by decide +kernel
theorem dX1_countOpenCorners_8 : decode cX1_countOpenCorners 8 = .ok (.istore_n 3, 1) := by decide +kernel
theorem dX1_countOpenCorners_9 : decode cX1_countOpenCorners 9 = .ok (.iconst 0, 1) := by decide +kernel
theorem dX1_countOpenCorners_10 : decode cX1_countOpenCorners 10 = .ok (.istore 4, 2) := by decide +kernel
theorem dX1_countOpenCorners_12 : decode cX1_countOpenCorners 12 = .ok (.iload 4, 2) := by decide +kernel
theorem dX1_countOpenCorners_14 : decode cX1_countOpenCorners 14 = .ok (.iload_n 3, 1) := by decide +kernel
theorem dX1_countOpenCorners_15 : decode cX1_countOpenCorners 15 = .ok (.if_icmp .ge 38, 3) := by decide +kernel
theorem dX1_countOpenCorners_18 : decode cX1_countOpenCorners 18 = .ok (.aload_n 2, 1) := by decide +kernel
theorem dX1_countOpenCorners_19 : decode cX1_countOpenCorners 19 = .ok (.iload 4, 2) := by decide +kernel
theorem dX1_countOpenCorners_21 : decode cX1_countOpenCorners 21 = .ok (.iaload, 1) := by decide +kernel
theorem dX1_countOpenCorners_22 : decode cX1_countOpenCorners 22 = .ok (.istore 5, 2) := by decide +kernel
theorem dX1_countOpenCorners_24 : decode cX1_countOpenCorners 24 = .ok (.aload_n 0, 1) := by decide +kernel
theorem dX1_countOpenCorners_25 : decode cX1_countOpenCorners 25 = .ok (.getfield 15, 3) := by decide +kernel
theorem dX1_countOpenCorners_28 : decode cX1_countOpenCorners 28 = .ok (.ifCond .lt 19, 3) := by decide +kernel
theorem dX1_countOpenCorners_31 : decode cX1_countOpenCorners 31 = .ok (.aload_n 0, 1) := by decide +kernel
theorem dX1_countOpenCorners_32 : decode cX1_countOpenCorners 32 = .ok (.aload_n 0, 1) := by decide +kernel
theorem dX1_countOpenCorners_33 : decode cX1_countOpenCorners 33 = .ok (.getfield 15, 3) := by decide +kernel
theorem dX1_countOpenCorners_36 : decode cX1_countOpenCorners 36 = .ok (.iload 5, 2) := by decide +kernel
theorem dX1_countOpenCorners_38 : decode cX1_countOpenCorners 38 = .ok (.invokevirtual 119, 3) := by decide +kernel
theorem dX1_countOpenCorners_41 : decode cX1_countOpenCorners 41 = .ok (.ifCond .ne 6, 3) := by decide +kernel
theorem dX1_countOpenCorners_44 : decode cX1_countOpenCorners 44 = .ok (.iinc 1 1, 3) := by decide +kernel
theorem dX1_countOpenCorners_47 : decode cX1_countOpenCorners 47 = .ok (.iinc 4 1, 3) := by decide +kernel
theorem dX1_countOpenCorners_50 : decode cX1_countOpenCorners 50 = .ok (.goto (-38), 3) := by decide +kernel
theorem dX1_countOpenCorners_53 : decode cX1_countOpenCorners 53 = .ok (.iload_n 1, 1) := by decide +kernel
theorem dX1_countOpenCorners_54 : decode cX1_countOpenCorners 54 = .ok (.ireturn, 1) := by decide +kernel
