theorem dL_draw_0 : decode cL_draw 0 = .ok (.iload_n 1, 1) := by decide +kernel
theorem dL_draw_1 : decode cL_draw 1 = .ok (.aload_n 0, 1) := by decide +kernel
theorem dL_draw_2 : decode cL_draw 2 = .ok (.arraylength, 1) := by decide +kernel
theorem dL_draw_3 : decode cL_draw 3 = .ok (.if_icmp .ge 9, 3) := by decide +kernel
theorem dL_draw_6 : decode cL_draw 6 = .ok (.aload_n 0, 1) := by decide +kernel
theorem dL_draw_7 : decode cL_draw 7 = .ok (.iload_n 1, 1) := by decide +kernel
theorem dL_draw_8 : decode cL_draw 8 = .ok (.iaload, 1) := by decide +kernel
theorem dL_draw_9 : decode cL_draw 9 = .ok (.goto 11, 3) := by decide +kernel
theorem dL_draw_12 : decode cL_draw 12 = .ok (.ldc 7, 2) := by decide +kernel
theorem dL_draw_14 : decode cL_draw 14 = .ok (.iload_n 1, 1) := by decide +kernel
theorem dL_draw_15 : decode cL_draw 15 = .ok (.imul, 1) := by decide +kernel
theorem dL_draw_16 : decode cL_draw 16 = .ok (.sipush 11273, 3) := by decide +kernel
theorem dL_draw_19 : decode cL_draw 19 = .ok (.iadd, 1) := by decide +kernel
theorem dL_draw_20 : decode cL_draw 20 = .ok (.ldc 8, 2) := by decide +kernel
theorem dL_draw_22 : decode cL_draw 22 = .ok (.iand, 1) := by decide +kernel
theorem dL_draw_23 : decode cL_draw 23 = .ok (.ireturn, 1) := by decide +kernel
theorem dL_in_0 : decode cL_in 0 = .ok (.lload_n 0, 1) := by decide +kernel
theorem dL_in_1 : decode cL_in 1 = .ok (.lload_n 2, 1) := by decide +kernel
theorem dL_in_2 : decode cL_in 2 = .ok (.lcmp, 1) := by decide +kernel
theorem dL_in_3 : decode cL_in 3 = .ok (.ifCond .lt 14, 3) := by decide +kernel
theorem dL_in_6 : decode cL_in 6 = .ok (.lload_n 0, 1) := by decide +kernel
theorem dL_in_7 : decode cL_in 7 = .ok (.lload 4, 2) := by decide +kernel
theorem dL_in_9 : decode cL_in 9 = .ok (.lcmp, 1) := by decide +kernel
theorem dL_in_10 : decode cL_in 10 = .ok (.ifCond .gt 7, 3) := by decide +kernel
theorem dL_in_13 : decode cL_in 13 = .ok (.iconst 1, 1) := by decide +kernel
theorem dL_in_14 : decode cL_in 14 = .ok (.goto 4, 3) := by decide +kernel
theorem dL_in_17 : decode cL_in 17 = .ok (.iconst 0, 1) := by decide +kernel
theorem dL_in_18 : decode cL_in 18 = .ok (.ireturn, 1) := by decide +kernel
theorem dL_put_0 : decode cL_put 0 = .ok (.aload_n 0, 1) := by decide +kernel
theorem dL_put_1 : decode cL_put 1 = .ok (.iload_n 1, 1) := by decide +kernel
theorem dL_put_2 : decode cL_put 2 = .ok (.iload_n 2, 1) := by decide +kernel
theorem dL_put_3 : decode cL_put 3 = .ok (.iload_n 3, 1) := by decide +kernel
theorem dL_put_4 : decode cL_put 4 = .ok (.invokevirtual 9, 3) := by decide +kernel
theorem dL_put_7 : decode cL_put 7 = .ok (.i2l, 1) := by decide +kernel
theorem dL_put_8 : decode cL_put 8 = .ok (.lreturn, 1) := by decide +kernel
theorem dL_put_9 : decode cL_put 9 = .ok (.astore 4, 2) := by decide +kernel
theorem dL_put_11 : decode cL_put 11 = .ok (.ldc2_w 17, 3) := by decide +kernel
theorem dL_put_14 : decode cL_put 14 = .ok (.lreturn, 1) := by decide +kernel
theorem dL_put_15 : decode cL_put 15 = .ok (.astore 4, 2) := by decide +kernel
theorem dL_put_17 : decode cL_put 17 = .ok (.ldc2_w 21, 3) := by decide +kernel
theorem dL_put_20 : decode cL_put 20 = .ok (.lreturn, 1) := by decide +kernel
theorem dL_put_21 : decode cL_put 21 = .ok (.astore 4, 2) := by decide +kernel
theorem dL_put_23 : decode cL_put 23 = .ok (.ldc2_w 25, 3) := by decide +kernel
theorem dL_put_26 : decode cL_put 26 = .ok (.lreturn, 1) := by decide +kernel
theorem dL_start_0 : decode cL_start 0 = .ok (.aload_n 0, 1) := by decide +kernel
theorem dL_start_1 : decode cL_start 1 = .ok (.iload_n 1, 1) := by decide +kernel
theorem dL_start_2 : decode cL_start 2 = .ok (.invokevirtual 27, 3) := by decide +kernel
theorem dL_start_5 : decode cL_start 5 = .ok (.i2l, 1) := by decide +kernel
theorem dL_start_6 : decode cL_start 6 = .ok (.lreturn, 1) := by decide +kernel
theorem dL_start_7 : decode cL_start 7 = .ok (.astore_n 2, 1) := by decide +kernel
theorem dL_start_8 : decode cL_start 8 = .ok (.ldc2_w 17, 3) := by decide +kernel
theorem dL_start_11 : decode cL_start 11 = .ok (.lreturn, 1) := by decide +kernel
theorem dL_start_12 : decode cL_start 12 = .ok (.astore_n 2, 1) := by decide +kernel
theorem dL_start_13 : decode cL_start 13 = .ok (.ldc2_w 25, 3) := by decide +kernel
theorem dL_start_16 : decode cL_start 16 = .ok (.lreturn, 1) := by decide +kernel
theorem dL_move_0 : decode cL_move 0 = .ok (.aload_n 0, 1) := by decide +kernel
theorem dL_move_1 : decode cL_move 1 = .ok (.iload_n 1, 1) := by decide +kernel
theorem dL_move_2 : decode cL_move 2 = .ok (.iload_n 2, 1) := by decide +kernel
theorem dL_move_3 : decode cL_move 3 = .ok (.invokevirtual 31, 3) := by decide +kernel
theorem dL_move_6 : decode cL_move 6 = .ok (.i2l, 1) := by decide +kernel
theorem dL_move_7 : decode cL_move 7 = .ok (.lreturn, 1) := by decide +kernel
theorem dL_move_8 : decode cL_move 8 = .ok (.astore_n 3, 1) := by decide +kernel
theorem dL_move_9 : decode cL_move 9 = .ok (.ldc2_w 17, 3) := by decide +kernel
theorem dL_move_12 : decode cL_move 12 = .ok (.lreturn, 1) := by decide +kernel
theorem dL_move_13 : decode cL_move 13 = .ok (.astore_n 3, 1) := by decide +kernel
theorem dL_move_14 : decode cL_move 14 = .ok (.ldc2_w 25, 3) := by decide +kernel
theorem dL_move_17 : decode cL_move 17 = .ok (.lreturn, 1) := by decide +kernel
theorem dL_append_0 : decode cL_append 0 = .ok (.aload_n 0, 1) := by decide +kernel
theorem dL_append_1 : decode cL_append 1 = .ok (.iload_n 1, 1) := by decide +kernel
theorem dL_append_2 : decode cL_append 2 = .ok (.invokevirtual 35, 3) := by decide +kernel
theorem dL_append_5 : decode cL_append 5 = .ok (.i2l, 1) := by decide +kernel
theorem dL_append_6 : decode cL_append 6 = .ok (.lreturn, 1) := by decide +kernel
theorem dL_append_7 : decode cL_append 7 = .ok (.astore_n 2, 1) := by decide +kernel
theorem dL_append_8 : decode cL_append 8 = .ok (.ldc2_w 21, 3) := by decide +kernel
theorem dL_append_11 : decode cL_append 11 = .ok (.lreturn, 1) := by decide +kernel
theorem dL_append_12 : decode cL_append 12 = .ok (.astore_n 2, 1) := by decide +kernel
theorem dL_append_13 : decode cL_append 13 = .ok (.ldc2_w 25, 3) := by decide +kernel
theorem dL_append_16 : decode cL_append 16 = .ok (.lreturn, 1) := by decide +kernel
theorem dL_play_0 : decode cL_play 0 = .ok (.aload_n 0, 1) := by decide +kernel
theorem dL_play_1 : decode cL_play 1 = .ok (.invokevirtual 38, 3) := by decide +kernel
theorem dL_play_4 : decode cL_play 4 = .ok (.i2l, 1) := by decide +kernel
theorem dL_play_5 : decode cL_play 5 = .ok (.lreturn, 1) := by decide +kernel
theorem dL_play_6 : decode cL_play 6 = .ok (.astore_n 1, 1) := by decide +kernel
theorem dL_play_7 : decode cL_play 7 = .ok (.ldc2_w 21, 3) := by decide +kernel
theorem dL_play_10 : decode cL_play 10 = .ok (.lreturn, 1) := by decide +kernel
theorem dL_play_11 : decode cL_play 11 = .ok (.astore_n 1, 1) := by decide +kernel
theorem dL_play_12 : decode cL_play 12 = .ok (.ldc2_w 25, 3) := by decide +kernel
theorem dL_play_15 : decode cL_play 15 = .ok (.lreturn, 1) := by decide +kernel
theorem dL_pieceAt_0 : decode cL_pieceAt 0 = .ok (.aload_n 0, 1) := by decide +kernel
theorem dL_pieceAt_1 : decode cL_pieceAt 1 = .ok (.iload_n 1, 1) := by decide +kernel
theorem dL_pieceAt_2 : decode cL_pieceAt 2 = .ok (.iload_n 2, 1) := by decide +kernel
theorem dL_pieceAt_3 : decode cL_pieceAt 3 = .ok (.invokevirtual 42, 3) := by decide +kernel
theorem dL_pieceAt_6 : decode cL_pieceAt 6 = .ok (.i2l, 1) := by decide +kernel
theorem dL_pieceAt_7 : decode cL_pieceAt 7 = .ok (.lreturn, 1) := by decide +kernel
theorem dL_pieceAt_8 : decode cL_pieceAt 8 = .ok (.astore_n 3, 1) := by decide +kernel
theorem dL_pieceAt_9 : decode cL_pieceAt 9 = .ok (.ldc2_w 17, 3) := by decide +kernel
theorem dL_pieceAt_12 : decode cL_pieceAt 12 = .ok (.lreturn, 1) := by decide +kernel
theorem dL_piecesOf_0 : decode cL_piecesOf 0 = .ok (.aload_n 0, 1) := by decide +kernel
theorem dL_piecesOf_1 : decode cL_piecesOf 1 = .ok (.iload_n 1, 1) := by decide +kernel
theorem dL_piecesOf_2 : decode cL_piecesOf 2 = .ok (.invokevirtual 45, 3) := by decide +kernel
theorem dL_piecesOf_5 : decode cL_piecesOf 5 = .ok (.i2l, 1) := by decide +kernel
theorem dL_piecesOf_6 : decode cL_piecesOf 6 = .ok (.lreturn, 1) := by decide +kernel
theorem dL_piecesOf_7 : decode cL_piecesOf 7 = .ok (.astore_n 2, 1) := by decide +kernel
theorem dL_piecesOf_8 : decode cL_piecesOf 8 = .ok (.ldc2_w 17, 3) := by decide +kernel
theorem dL_piecesOf_11 : decode cL_piecesOf 11 = .ok (.lreturn, 1) := by decide +kernel
theorem dL_kingAt_0 : decode cL_kingAt 0 = .ok (.aload_n 0, 1) := by decide +kernel
theorem dL_kingAt_1 : decode cL_kingAt 1 = .ok (.invokevirtual 48, 3) := by decide +kernel
theorem dL_kingAt_4 : decode cL_kingAt 4 = .ok (.i2l, 1) := by decide +kernel
theorem dL_kingAt_5 : decode cL_kingAt 5 = .ok (.lreturn, 1) := by decide +kernel
theorem dL_kingAt_6 : decode cL_kingAt 6 = .ok (.astore_n 1, 1) := by decide +kernel
theorem dL_kingAt_7 : decode cL_kingAt 7 = .ok (.ldc2_w 25, 3) := by decide +kernel
theorem dL_kingAt_10 : decode cL_kingAt 10 = .ok (.lreturn, 1) := by decide +kernel
theorem dL_hostile_0 : decode cL_hostile 0 = .ok (.aload_n 0, 1) := by decide +kernel
theorem dL_hostile_1 : decode cL_hostile 1 = .ok (.iload_n 1, 1) := by decide +kernel
theorem dL_hostile_2 : decode cL_hostile 2 = .ok (.iload_n 2, 1) := by decide +kernel
theorem dL_hostile_3 : decode cL_hostile 3 = .ok (.iload_n 3, 1) := by decide +kernel
theorem dL_hostile_4 : decode cL_hostile 4 = .ok (.invokevirtual 51, 3) := by decide +kernel
theorem dL_hostile_7 : decode cL_hostile 7 = .ok (.ifCond .eq 7, 3) := by decide +kernel
theorem dL_hostile_10 : decode cL_hostile 10 = .ok (.lconst 1, 1) := by decide +kernel
theorem dL_hostile_11 : decode cL_hostile 11 = .ok (.goto 4, 3) := by decide +kernel
theorem dL_hostile_14 : decode cL_hostile 14 = .ok (.lconst 0, 1) := by decide +kernel
theorem dL_hostile_15 : decode cL_hostile 15 = .ok (.lreturn, 1) := by decide +kernel
theorem dL_hostile_16 : decode cL_hostile 16 = .ok (.astore 4, 2) := by decide +kernel
theorem dL_hostile_18 : decode cL_hostile 18 = .ok (.ldc2_w 17, 3) := by decide +kernel
theorem dL_hostile_21 : decode cL_hostile 21 = .ok (.lreturn, 1) := by decide +kernel
theorem dL_turn_0 : decode cL_turn 0 = .ok (.aload_n 0, 1) := by decide +kernel
theorem dL_turn_1 : decode cL_turn 1 = .ok (.invokevirtual 55, 3) := by decide +kernel
theorem dL_turn_4 : decode cL_turn 4 = .ok (.i2l, 1) := by decide +kernel
theorem dL_turn_5 : decode cL_turn 5 = .ok (.lreturn, 1) := by decide +kernel
theorem dL_turn_6 : decode cL_turn 6 = .ok (.astore_n 1, 1) := by decide +kernel
theorem dL_turn_7 : decode cL_turn 7 = .ok (.ldc2_w 25, 3) := by decide +kernel
theorem dL_turn_10 : decode cL_turn 10 = .ok (.lreturn, 1) := by decide +kernel
theorem dL_timesSeen_0 : decode cL_timesSeen 0 = .ok (.aload_n 0, 1) := by decide +kernel
theorem dL_timesSeen_1 : decode cL_timesSeen 1 = .ok (.invokevirtual 58, 3) := by decide +kernel
theorem dL_timesSeen_4 : decode cL_timesSeen 4 = .ok (.i2l, 1) := by decide +kernel
theorem dL_timesSeen_5 : decode cL_timesSeen 5 = .ok (.lreturn, 1) := by decide +kernel
theorem dL_timesSeen_6 : decode cL_timesSeen 6 = .ok (.astore_n 1, 1) := by decide +kernel
theorem dL_timesSeen_7 : decode cL_timesSeen 7 = .ok (.ldc2_w 25, 3) := by decide +kernel
theorem dL_timesSeen_10 : decode cL_timesSeen 10 = .ok (.lreturn, 1) := by decide +kernel
theorem dL_canMove_0 : decode cL_canMove 0 = .ok (.aload_n 0, 1) := by decide +kernel
theorem dL_canMove_1 : decode cL_canMove 1 = .ok (.iload_n 1, 1) := by decide +kernel
theorem dL_canMove_2 : decode cL_canMove 2 = .ok (.iload_n 2, 1) := by decide +kernel
theorem dL_canMove_3 : decode cL_canMove 3 = .ok (.invokevirtual 61, 3) := by decide +kernel
theorem dL_canMove_6 : decode cL_canMove 6 = .ok (.ifCond .eq 7, 3) := by decide +kernel
theorem dL_canMove_9 : decode cL_canMove 9 = .ok (.lconst 1, 1) := by decide +kernel
theorem dL_canMove_10 : decode cL_canMove 10 = .ok (.goto 4, 3) := by decide +kernel
theorem dL_canMove_13 : decode cL_canMove 13 = .ok (.lconst 0, 1) := by decide +kernel
theorem dL_canMove_14 : decode cL_canMove 14 = .ok (.lreturn, 1) := by decide +kernel
theorem dL_canMove_15 : decode cL_canMove 15 = .ok (.astore_n 3, 1) := by decide +kernel
theorem dL_canMove_16 : decode cL_canMove 16 = .ok (.ldc2_w 17, 3) := by decide +kernel
theorem dL_canMove_19 : decode cL_canMove 19 = .ok (.lreturn, 1) := by decide +kernel
theorem dL_against_0 : decode cL_against 0 = .ok (.aload_n 0, 1) := by decide +kernel
theorem dL_against_1 : decode cL_against 1 = .ok (.iload_n 1, 1) := by decide +kernel
theorem dL_against_2 : decode cL_against 2 = .ok (.iload_n 2, 1) := by decide +kernel
theorem dL_against_3 : decode cL_against 3 = .ok (.invokevirtual 65, 3) := by decide +kernel
theorem dL_against_6 : decode cL_against 6 = .ok (.i2l, 1) := by decide +kernel
theorem dL_against_7 : decode cL_against 7 = .ok (.lreturn, 1) := by decide +kernel
theorem dL_against_8 : decode cL_against 8 = .ok (.astore_n 3, 1) := by decide +kernel
theorem dL_against_9 : decode cL_against 9 = .ok (.ldc2_w 17, 3) := by decide +kernel
theorem dL_against_12 : decode cL_against 12 = .ok (.lreturn, 1) := by decide +kernel
theorem dL_movesFrom_0 : decode cL_movesFrom 0 = .ok (.aload_n 0, 1) := by decide +kernel
theorem dL_movesFrom_1 : decode cL_movesFrom 1 = .ok (.iload_n 1, 1) := by decide +kernel
theorem dL_movesFrom_2 : decode cL_movesFrom 2 = .ok (.iload_n 2, 1) := by decide +kernel
theorem dL_movesFrom_3 : decode cL_movesFrom 3 = .ok (.invokevirtual 68, 3) := by decide +kernel
theorem dL_movesFrom_6 : decode cL_movesFrom 6 = .ok (.i2l, 1) := by decide +kernel
theorem dL_movesFrom_7 : decode cL_movesFrom 7 = .ok (.lreturn, 1) := by decide +kernel
theorem dL_movesFrom_8 : decode cL_movesFrom 8 = .ok (.astore_n 3, 1) := by decide +kernel
theorem dL_movesFrom_9 : decode cL_movesFrom 9 = .ok (.ldc2_w 17, 3) := by decide +kernel
theorem dL_movesFrom_12 : decode cL_movesFrom 12 = .ok (.lreturn, 1) := by decide +kernel
theorem dL_byPieces_0 : decode cL_byPieces 0 = .ok (.aload_n 0, 1) := by decide +kernel
theorem dL_byPieces_1 : decode cL_byPieces 1 = .ok (.iload_n 1, 1) := by decide +kernel
theorem dL_byPieces_2 : decode cL_byPieces 2 = .ok (.invokevirtual 71, 3) := by decide +kernel
theorem dL_byPieces_5 : decode cL_byPieces 5 = .ok (.i2l, 1) := by decide +kernel
theorem dL_byPieces_6 : decode cL_byPieces 6 = .ok (.lreturn, 1) := by decide +kernel
theorem dL_byPieces_7 : decode cL_byPieces 7 = .ok (.astore_n 2, 1) := by decide +kernel
theorem dL_byPieces_8 : decode cL_byPieces 8 = .ok (.ldc2_w 17, 3) := by decide +kernel
theorem dL_byPieces_11 : decode cL_byPieces 11 = .ok (.lreturn, 1) := by decide +kernel
theorem dL_bySquares_0 : decode cL_bySquares 0 = .ok (.aload_n 0, 1) := by decide +kernel
theorem dL_bySquares_1 : decode cL_bySquares 1 = .ok (.iload_n 1, 1) := by decide +kernel
theorem dL_bySquares_2 : decode cL_bySquares 2 = .ok (.invokevirtual 74, 3) := by decide +kernel
theorem dL_bySquares_5 : decode cL_bySquares 5 = .ok (.i2l, 1) := by decide +kernel
theorem dL_bySquares_6 : decode cL_bySquares 6 = .ok (.lreturn, 1) := by decide +kernel
theorem dL_bySquares_7 : decode cL_bySquares 7 = .ok (.astore_n 2, 1) := by decide +kernel
theorem dL_bySquares_8 : decode cL_bySquares 8 = .ok (.ldc2_w 17, 3) := by decide +kernel
theorem dL_bySquares_11 : decode cL_bySquares 11 = .ok (.lreturn, 1) := by decide +kernel
theorem dL_wouldTake_0 : decode cL_wouldTake 0 = .ok (.aload_n 0, 1) := by decide +kernel
theorem dL_wouldTake_1 : decode cL_wouldTake 1 = .ok (.iload_n 1, 1) := by decide +kernel
theorem dL_wouldTake_2 : decode cL_wouldTake 2 = .ok (.iload_n 2, 1) := by decide +kernel
theorem dL_wouldTake_3 : decode cL_wouldTake 3 = .ok (.invokevirtual 77, 3) := by decide +kernel
theorem dL_wouldTake_6 : decode cL_wouldTake 6 = .ok (.i2l, 1) := by decide +kernel
theorem dL_wouldTake_7 : decode cL_wouldTake 7 = .ok (.lreturn, 1) := by decide +kernel
theorem dL_wouldTake_8 : decode cL_wouldTake 8 = .ok (.astore_n 3, 1) := by decide +kernel
theorem dL_wouldTake_9 : decode cL_wouldTake 9 = .ok (.ldc2_w 17, 3) := by decide +kernel
theorem dL_wouldTake_12 : decode cL_wouldTake 12 = .ok (.lreturn, 1) := by decide +kernel
theorem dL_wouldTake_13 : decode cL_wouldTake 13 = .ok (.astore_n 3, 1) := by decide +kernel
theorem dL_wouldTake_14 : decode cL_wouldTake 14 = .ok (.ldc2_w 25, 3) := by decide +kernel
theorem dL_wouldTake_17 : decode cL_wouldTake 17 = .ok (.lreturn, 1) := by decide +kernel
theorem dL_wouldWin_0 : decode cL_wouldWin 0 = .ok (.aload_n 0, 1) := by decide +kernel
theorem dL_wouldWin_1 : decode cL_wouldWin 1 = .ok (.iload_n 1, 1) := by decide +kernel
theorem dL_wouldWin_2 : decode cL_wouldWin 2 = .ok (.iload_n 2, 1) := by decide +kernel
theorem dL_wouldWin_3 : decode cL_wouldWin 3 = .ok (.invokevirtual 80, 3) := by decide +kernel
theorem dL_wouldWin_6 : decode cL_wouldWin 6 = .ok (.ifCond .eq 7, 3) := by decide +kernel
theorem dL_wouldWin_9 : decode cL_wouldWin 9 = .ok (.lconst 1, 1) := by decide +kernel
theorem dL_wouldWin_10 : decode cL_wouldWin 10 = .ok (.goto 4, 3) := by decide +kernel
theorem dL_wouldWin_13 : decode cL_wouldWin 13 = .ok (.lconst 0, 1) := by decide +kernel
theorem dL_wouldWin_14 : decode cL_wouldWin 14 = .ok (.lreturn, 1) := by decide +kernel
theorem dL_wouldWin_15 : decode cL_wouldWin 15 = .ok (.astore_n 3, 1) := by decide +kernel
theorem dL_wouldWin_16 : decode cL_wouldWin 16 = .ok (.ldc2_w 17, 3) := by decide +kernel
theorem dL_wouldWin_19 : decode cL_wouldWin 19 = .ok (.lreturn, 1) := by decide +kernel
theorem dL_wouldWin_20 : decode cL_wouldWin 20 = .ok (.astore_n 3, 1) := by decide +kernel
theorem dL_wouldWin_21 : decode cL_wouldWin 21 = .ok (.ldc2_w 25, 3) := by decide +kernel
theorem dL_wouldWin_24 : decode cL_wouldWin 24 = .ok (.lreturn, 1) := by decide +kernel
theorem dL_winning_0 : decode cL_winning 0 = .ok (.aload_n 0, 1) := by decide +kernel
theorem dL_winning_1 : decode cL_winning 1 = .ok (.iload_n 1, 1) := by decide +kernel
theorem dL_winning_2 : decode cL_winning 2 = .ok (.invokevirtual 83, 3) := by decide +kernel
theorem dL_winning_5 : decode cL_winning 5 = .ok (.i2l, 1) := by decide +kernel
theorem dL_winning_6 : decode cL_winning 6 = .ok (.lreturn, 1) := by decide +kernel
theorem dL_winning_7 : decode cL_winning 7 = .ok (.astore_n 2, 1) := by decide +kernel
theorem dL_winning_8 : decode cL_winning 8 = .ok (.ldc2_w 17, 3) := by decide +kernel
theorem dL_winning_11 : decode cL_winning 11 = .ok (.lreturn, 1) := by decide +kernel
theorem dL_moveAt_0 : decode cL_moveAt 0 = .ok (.aload_n 0, 1) := by decide +kernel
theorem dL_moveAt_1 : decode cL_moveAt 1 = .ok (.iload_n 1, 1) := by decide +kernel
theorem dL_moveAt_2 : decode cL_moveAt 2 = .ok (.iload_n 2, 1) := by decide +kernel
theorem dL_moveAt_3 : decode cL_moveAt 3 = .ok (.invokevirtual 86, 3) := by decide +kernel
theorem dL_moveAt_6 : decode cL_moveAt 6 = .ok (.i2l, 1) := by decide +kernel
theorem dL_moveAt_7 : decode cL_moveAt 7 = .ok (.lreturn, 1) := by decide +kernel
theorem dL_moveAt_8 : decode cL_moveAt 8 = .ok (.astore_n 3, 1) := by decide +kernel
theorem dL_moveAt_9 : decode cL_moveAt 9 = .ok (.ldc2_w 17, 3) := by decide +kernel
theorem dL_moveAt_12 : decode cL_moveAt 12 = .ok (.lreturn, 1) := by decide +kernel
theorem dL_byRounds_0 : decode cL_byRounds 0 = .ok (.aload_n 0, 1) := by decide +kernel
theorem dL_byRounds_1 : decode cL_byRounds 1 = .ok (.invokevirtual 89, 3) := by decide +kernel
theorem dL_byRounds_4 : decode cL_byRounds 4 = .ok (.i2l, 1) := by decide +kernel
theorem dL_byRounds_5 : decode cL_byRounds 5 = .ok (.lreturn, 1) := by decide +kernel
theorem dL_byRounds_6 : decode cL_byRounds 6 = .ok (.astore_n 1, 1) := by decide +kernel
theorem dL_byRounds_7 : decode cL_byRounds 7 = .ok (.ldc2_w 25, 3) := by decide +kernel
theorem dL_byRounds_10 : decode cL_byRounds 10 = .ok (.lreturn, 1) := by decide +kernel
theorem dL_byCorners_0 : decode cL_byCorners 0 = .ok (.aload_n 0, 1) := by decide +kernel
theorem dL_byCorners_1 : decode cL_byCorners 1 = .ok (.invokevirtual 92, 3) := by decide +kernel
theorem dL_byCorners_4 : decode cL_byCorners 4 = .ok (.i2l, 1) := by decide +kernel
theorem dL_byCorners_5 : decode cL_byCorners 5 = .ok (.lreturn, 1) := by decide +kernel
theorem dL_byCorners_6 : decode cL_byCorners 6 = .ok (.astore_n 1, 1) := by decide +kernel
theorem dL_byCorners_7 : decode cL_byCorners 7 = .ok (.ldc2_w 25, 3) := by decide +kernel
theorem dL_byCorners_10 : decode cL_byCorners 10 = .ok (.lreturn, 1) := by decide +kernel
theorem dL_pressure_0 : decode cL_pressure 0 = .ok (.aload_n 0, 1) := by decide +kernel
theorem dL_pressure_1 : decode cL_pressure 1 = .ok (.invokevirtual 95, 3) := by decide +kernel
theorem dL_pressure_4 : decode cL_pressure 4 = .ok (.i2l, 1) := by decide +kernel
theorem dL_pressure_5 : decode cL_pressure 5 = .ok (.lreturn, 1) := by decide +kernel
theorem dL_pressure_6 : decode cL_pressure 6 = .ok (.astore_n 1, 1) := by decide +kernel
theorem dL_pressure_7 : decode cL_pressure 7 = .ok (.ldc2_w 25, 3) := by decide +kernel
theorem dL_pressure_10 : decode cL_pressure 10 = .ok (.lreturn, 1) := by decide +kernel
theorem dL_worthOf_0 : decode cL_worthOf 0 = .ok (.aload_n 0, 1) := by decide +kernel
theorem dL_worthOf_1 : decode cL_worthOf 1 = .ok (.iload_n 1, 1) := by decide +kernel
theorem dL_worthOf_2 : decode cL_worthOf 2 = .ok (.iload_n 2, 1) := by decide +kernel
theorem dL_worthOf_3 : decode cL_worthOf 3 = .ok (.invokevirtual 98, 3) := by decide +kernel
theorem dL_worthOf_6 : decode cL_worthOf 6 = .ok (.i2l, 1) := by decide +kernel
theorem dL_worthOf_7 : decode cL_worthOf 7 = .ok (.lreturn, 1) := by decide +kernel
theorem dL_worthOf_8 : decode cL_worthOf 8 = .ok (.astore_n 3, 1) := by decide +kernel
theorem dL_worthOf_9 : decode cL_worthOf 9 = .ok (.ldc2_w 17, 3) := by decide +kernel
theorem dL_worthOf_12 : decode cL_worthOf 12 = .ok (.lreturn, 1) := by decide +kernel
theorem dL_worthOf_13 : decode cL_worthOf 13 = .ok (.astore_n 3, 1) := by decide +kernel
theorem dL_worthOf_14 : decode cL_worthOf 14 = .ok (.ldc2_w 25, 3) := by decide +kernel
theorem dL_worthOf_17 : decode cL_worthOf 17 = .ok (.lreturn, 1) := by decide +kernel
theorem dL_bestMove_0 : decode cL_bestMove 0 = .ok (.aload_n 0, 1) := by decide +kernel
theorem dL_bestMove_1 : decode cL_bestMove 1 = .ok (.iload_n 1, 1) := by decide +kernel
theorem dL_bestMove_2 : decode cL_bestMove 2 = .ok (.invokevirtual 101, 3) := by decide +kernel
theorem dL_bestMove_5 : decode cL_bestMove 5 = .ok (.i2l, 1) := by decide +kernel
theorem dL_bestMove_6 : decode cL_bestMove 6 = .ok (.lreturn, 1) := by decide +kernel
theorem dL_bestMove_7 : decode cL_bestMove 7 = .ok (.astore_n 2, 1) := by decide +kernel
theorem dL_bestMove_8 : decode cL_bestMove 8 = .ok (.ldc2_w 17, 3) := by decide +kernel
theorem dL_bestMove_11 : decode cL_bestMove 11 = .ok (.lreturn, 1) := by decide +kernel
theorem dL_bestMove_12 : decode cL_bestMove 12 = .ok (.astore_n 2, 1) := by decide +kernel
theorem dL_bestMove_13 : decode cL_bestMove 13 = .ok (.ldc2_w 25, 3) := by decide +kernel
theorem dL_bestMove_16 : decode cL_bestMove 16 = .ok (.lreturn, 1) := by decide +kernel
theorem dL_wins_0 : decode cL_wins 0 = .ok (.aload_n 0, 1) := by decide +kernel
theorem dL_wins_1 : decode cL_wins 1 = .ok (.iload_n 1, 1) := by decide +kernel
theorem dL_wins_2 : decode cL_wins 2 = .ok (.invokevirtual 104, 3) := by decide +kernel
theorem dL_wins_5 : decode cL_wins 5 = .ok (.i2l, 1) := by decide +kernel
theorem dL_wins_6 : decode cL_wins 6 = .ok (.lreturn, 1) := by decide +kernel
theorem dL_wins_7 : decode cL_wins 7 = .ok (.astore_n 2, 1) := by decide +kernel
theorem dL_wins_8 : decode cL_wins 8 = .ok (.ldc2_w 17, 3) := by decide +kernel
theorem dL_wins_11 : decode cL_wins 11 = .ok (.lreturn, 1) := by decide +kernel
theorem dL_takenOf_0 : decode cL_takenOf 0 = .ok (.aload_n 0, 1) := by decide +kernel
theorem dL_takenOf_1 : decode cL_takenOf 1 = .ok (.iload_n 1, 1) := by decide +kernel
theorem dL_takenOf_2 : decode cL_takenOf 2 = .ok (.invokevirtual 107, 3) := by decide +kernel
theorem dL_takenOf_5 : decode cL_takenOf 5 = .ok (.i2l, 1) := by decide +kernel
theorem dL_takenOf_6 : decode cL_takenOf 6 = .ok (.lreturn, 1) := by decide +kernel
theorem dL_takenOf_7 : decode cL_takenOf 7 = .ok (.astore_n 2, 1) := by decide +kernel
theorem dL_takenOf_8 : decode cL_takenOf 8 = .ok (.ldc2_w 17, 3) := by decide +kernel
theorem dL_takenOf_11 : decode cL_takenOf 11 = .ok (.lreturn, 1) := by decide +kernel
theorem dL_keep_0 : decode cL_keep 0 = .ok (.aload_n 0, 1) := by decide +kernel
theorem dL_keep_1 : decode cL_keep 1 = .ok (.iload_n 1, 1) := by decide +kernel
theorem dL_keep_2 : decode cL_keep 2 = .ok (.invokevirtual 110, 3) := by decide +kernel
theorem dL_keep_5 : decode cL_keep 5 = .ok (.lconst 0, 1) := by decide +kernel
theorem dL_keep_6 : decode cL_keep 6 = .ok (.lreturn, 1) := by decide +kernel
theorem dL_keep_7 : decode cL_keep 7 = .ok (.astore_n 2, 1) := by decide +kernel
theorem dL_keep_8 : decode cL_keep 8 = .ok (.ldc2_w 21, 3) := by decide +kernel
theorem dL_keep_11 : decode cL_keep 11 = .ok (.lreturn, 1) := by decide +kernel
theorem dL_goBack_0 : decode cL_goBack 0 = .ok (.aload_n 0, 1) := by decide +kernel
theorem dL_goBack_1 : decode cL_goBack 1 = .ok (.iload_n 1, 1) := by decide +kernel
theorem dL_goBack_2 : decode cL_goBack 2 = .ok (.invokevirtual 114, 3) := by decide +kernel
theorem dL_goBack_5 : decode cL_goBack 5 = .ok (.lconst 0, 1) := by decide +kernel
theorem dL_goBack_6 : decode cL_goBack 6 = .ok (.lreturn, 1) := by decide +kernel
theorem dL_goBack_7 : decode cL_goBack 7 = .ok (.astore_n 2, 1) := by decide +kernel
theorem dL_goBack_8 : decode cL_goBack 8 = .ok (.ldc2_w 21, 3) := by decide +kernel
theorem dL_goBack_11 : decode cL_goBack 11 = .ok (.lreturn, 1) := by decide +kernel
theorem dL_goBack_12 : decode cL_goBack 12 = .ok (.astore_n 2, 1) := by decide +kernel
theorem dL_goBack_13 : decode cL_goBack 13 = .ok (.ldc2_w 25, 3) := by decide +kernel
theorem dL_goBack_16 : decode cL_goBack 16 = .ok (.lreturn, 1) := by decide +kernel
theorem dL_undo_0 : decode cL_undo 0 = .ok (.aload_n 0, 1) := by decide +kernel
theorem dL_undo_1 : decode cL_undo 1 = .ok (.invokevirtual 117, 3) := by decide +kernel
theorem dL_undo_4 : decode cL_undo 4 = .ok (.lconst 0, 1) := by decide +kernel
theorem dL_undo_5 : decode cL_undo 5 = .ok (.lreturn, 1) := by decide +kernel
theorem dL_undo_6 : decode cL_undo 6 = .ok (.astore_n 1, 1) := by decide +kernel
theorem dL_undo_7 : decode cL_undo 7 = .ok (.ldc2_w 25, 3) := by decide +kernel
theorem dL_undo_10 : decode cL_undo 10 = .ok (.lreturn, 1) := by decide +kernel
theorem dL_errors_0 : decode cL_errors 0 = .ok (.aload_n 0, 1) := by decide +kernel
theorem dL_errors_1 : decode cL_errors 1 = .ok (.invokevirtual 120, 3) := by decide +kernel
theorem dL_errors_4 : decode cL_errors 4 = .ok (.lstore_n 1, 1) := by decide +kernel
theorem dL_errors_5 : decode cL_errors 5 = .ok (.aload_n 0, 1) := by decide +kernel
theorem dL_errors_6 : decode cL_errors 6 = .ok (.invokevirtual 124, 3) := by decide +kernel
theorem dL_errors_9 : decode cL_errors 9 = .ok (.iconst 1, 1) := by decide +kernel
theorem dL_errors_10 : decode cL_errors 10 = .ok (.if_icmp .ne 7, 3) := by decide +kernel
theorem dL_errors_13 : decode cL_errors 13 = .ok (.iconst 1, 1) := by decide +kernel
theorem dL_errors_14 : decode cL_errors 14 = .ok (.goto 4, 3) := by decide +kernel
theorem dL_errors_17 : decode cL_errors 17 = .ok (.iconst 0, 1) := by decide +kernel
theorem dL_errors_18 : decode cL_errors 18 = .ok (.istore_n 3, 1) := by decide +kernel
theorem dL_errors_19 : decode cL_errors 19 = .ok (.aload_n 0, 1) := by decide +kernel
theorem dL_errors_20 : decode cL_errors 20 = .ok (.bipush 7, 2) := by decide +kernel
theorem dL_errors_22 : decode cL_errors 22 = .ok (.iconst 0, 1) := by decide +kernel
theorem dL_errors_23 : decode cL_errors 23 = .ok (.iconst 0, 1) := by decide +kernel
theorem dL_errors_24 : decode cL_errors 24 = .ok (.invokestatic 127, 3) := by decide +kernel
theorem dL_errors_27 : decode cL_errors 27 = .ok (.ldc2_w 17, 3) := by decide +kernel
theorem dL_errors_30 : decode cL_errors 30 = .ok (.lcmp, 1) := by decide +kernel
theorem dL_errors_31 : decode cL_errors 31 = .ok (.ifCond .ne 500, 3) := by decide +kernel
theorem dL_errors_34 : decode cL_errors 34 = .ok (.aload_n 0, 1) := by decide +kernel
theorem dL_errors_35 : decode cL_errors 35 = .ok (.iconst 0, 1) := by decide +kernel
theorem dL_errors_36 : decode cL_errors 36 = .ok (.iconst (-1), 1) := by decide +kernel
theorem dL_errors_37 : decode cL_errors 37 = .ok (.bipush 9, 2) := by decide +kernel
theorem dL_errors_39 : decode cL_errors 39 = .ok (.invokestatic 127, 3) := by decide +kernel
theorem dL_errors_42 : decode cL_errors 42 = .ok (.ldc2_w 17, 3) := by decide +kernel
theorem dL_errors_45 : decode cL_errors 45 = .ok (.lcmp, 1) := by decide +kernel
theorem dL_errors_46 : decode cL_errors 46 = .ok (.ifCond .ne 485, 3) := by decide +kernel
theorem dL_errors_49 : decode cL_errors 49 = .ok (.aload_n 0, 1) := by decide +kernel
theorem dL_errors_50 : decode cL_errors 50 = .ok (.iconst 0, 1) := by decide +kernel
theorem dL_errors_51 : decode cL_errors 51 = .ok (.iconst 0, 1) := by decide +kernel
theorem dL_errors_52 : decode cL_errors 52 = .ok (.iconst 4, 1) := by decide +kernel
theorem dL_errors_53 : decode cL_errors 53 = .ok (.invokestatic 127, 3) := by decide +kernel
theorem dL_errors_56 : decode cL_errors 56 = .ok (.ldc2_w 21, 3) := by decide +kernel
theorem dL_errors_59 : decode cL_errors 59 = .ok (.lcmp, 1) := by decide +kernel
theorem dL_errors_60 : decode cL_errors 60 = .ok (.ifCond .ne 471, 3) := by decide +kernel
theorem dL_errors_63 : decode cL_errors 63 = .ok (.aload_n 0, 1) := by decide +kernel
theorem dL_errors_64 : decode cL_errors 64 = .ok (.iconst 2, 1) := by decide +kernel
theorem dL_errors_65 : decode cL_errors 65 = .ok (.invokestatic 132, 3) := by decide +kernel
theorem dL_errors_68 : decode cL_errors 68 = .ok (.ldc2_w 17, 3) := by decide +kernel
theorem dL_errors_71 : decode cL_errors 71 = .ok (.lcmp, 1) := by decide +kernel
theorem dL_errors_72 : decode cL_errors 72 = .ok (.ifCond .ne 459, 3) := by decide +kernel
theorem dL_errors_75 : decode cL_errors 75 = .ok (.aload_n 0, 1) := by decide +kernel
theorem dL_errors_76 : decode cL_errors 76 = .ok (.bipush 49, 2) := by decide +kernel
theorem dL_errors_78 : decode cL_errors 78 = .ok (.iconst 0, 1) := by decide +kernel
theorem dL_errors_79 : decode cL_errors 79 = .ok (.invokestatic 135, 3) := by decide +kernel
theorem dL_errors_82 : decode cL_errors 82 = .ok (.ldc2_w 17, 3) := by decide +kernel
theorem dL_errors_85 : decode cL_errors 85 = .ok (.lcmp, 1) := by decide +kernel
theorem dL_errors_86 : decode cL_errors 86 = .ok (.ifCond .ne 445, 3) := by decide +kernel
theorem dL_errors_89 : decode cL_errors 89 = .ok (.aload_n 0, 1) := by decide +kernel
theorem dL_errors_90 : decode cL_errors 90 = .ok (.iconst 0, 1) := by decide +kernel
theorem dL_errors_91 : decode cL_errors 91 = .ok (.iconst (-1), 1) := by decide +kernel
theorem dL_errors_92 : decode cL_errors 92 = .ok (.invokestatic 135, 3) := by decide +kernel
theorem dL_errors_95 : decode cL_errors 95 = .ok (.ldc2_w 17, 3) := by decide +kernel
theorem dL_errors_98 : decode cL_errors 98 = .ok (.lcmp, 1) := by decide +kernel
theorem dL_errors_99 : decode cL_errors 99 = .ok (.ifCond .ne 432, 3) := by decide +kernel
theorem dL_errors_102 : decode cL_errors 102 = .ok (.aload_n 0, 1) := by decide +kernel
theorem dL_errors_103 : decode cL_errors 103 = .ok (.bipush 9, 2) := by decide +kernel
theorem dL_errors_105 : decode cL_errors 105 = .ok (.bipush 9, 2) := by decide +kernel
theorem dL_errors_107 : decode cL_errors 107 = .ok (.invokestatic 135, 3) := by decide +kernel
theorem dL_errors_110 : decode cL_errors 110 = .ok (.ldc2_w 25, 3) := by decide +kernel
theorem dL_errors_113 : decode cL_errors 113 = .ok (.lcmp, 1) := by decide +kernel
theorem dL_errors_114 : decode cL_errors 114 = .ok (.ifCond .ne 417, 3) := by decide +kernel
theorem dL_errors_117 : decode cL_errors 117 = .ok (.aload_n 0, 1) := by decide +kernel
theorem dL_errors_118 : decode cL_errors 118 = .ok (.bipush 127, 2) := by decide +kernel
theorem dL_errors_120 : decode cL_errors 120 = .ok (.invokestatic 138, 3) := by decide +kernel
theorem dL_errors_123 : decode cL_errors 123 = .ok (.ldc2_w 21, 3) := by decide +kernel
theorem dL_errors_126 : decode cL_errors 126 = .ok (.lcmp, 1) := by decide +kernel
theorem dL_errors_127 : decode cL_errors 127 = .ok (.ifCond .ne 404, 3) := by decide +kernel
theorem dL_errors_130 : decode cL_errors 130 = .ok (.aload_n 0, 1) := by decide +kernel
theorem dL_errors_131 : decode cL_errors 131 = .ok (.iconst 2, 1) := by decide +kernel
theorem dL_errors_132 : decode cL_errors 132 = .ok (.invokestatic 140, 3) := by decide +kernel
theorem dL_errors_135 : decode cL_errors 135 = .ok (.ldc2_w 21, 3) := by decide +kernel
theorem dL_errors_138 : decode cL_errors 138 = .ok (.lcmp, 1) := by decide +kernel
theorem dL_errors_139 : decode cL_errors 139 = .ok (.ifCond .ne 392, 3) := by decide +kernel
theorem dL_errors_142 : decode cL_errors 142 = .ok (.aload_n 0, 1) := by decide +kernel
theorem dL_errors_143 : decode cL_errors 143 = .ok (.iconst (-1), 1) := by decide +kernel
theorem dL_errors_144 : decode cL_errors 144 = .ok (.invokestatic 142, 3) := by decide +kernel
theorem dL_errors_147 : decode cL_errors 147 = .ok (.ldc2_w 21, 3) := by decide +kernel
theorem dL_errors_150 : decode cL_errors 150 = .ok (.lcmp, 1) := by decide +kernel
theorem dL_errors_151 : decode cL_errors 151 = .ok (.ifCond .ne 380, 3) := by decide +kernel
theorem dL_errors_154 : decode cL_errors 154 = .ok (.aload_n 0, 1) := by decide +kernel
theorem dL_errors_155 : decode cL_errors 155 = .ok (.iconst (-1), 1) := by decide +kernel
theorem dL_errors_156 : decode cL_errors 156 = .ok (.iconst 0, 1) := by decide +kernel
theorem dL_errors_157 : decode cL_errors 157 = .ok (.invokestatic 144, 3) := by decide +kernel
theorem dL_errors_160 : decode cL_errors 160 = .ok (.ldc2_w 17, 3) := by decide +kernel
theorem dL_errors_163 : decode cL_errors 163 = .ok (.lcmp, 1) := by decide +kernel
theorem dL_errors_164 : decode cL_errors 164 = .ok (.ifCond .ne 367, 3) := by decide +kernel
theorem dL_errors_167 : decode cL_errors 167 = .ok (.aload_n 0, 1) := by decide +kernel
theorem dL_errors_168 : decode cL_errors 168 = .ok (.iconst 2, 1) := by decide +kernel
theorem dL_errors_169 : decode cL_errors 169 = .ok (.invokestatic 146, 3) := by decide +kernel
theorem dL_errors_172 : decode cL_errors 172 = .ok (.ldc2_w 17, 3) := by decide +kernel
theorem dL_errors_175 : decode cL_errors 175 = .ok (.lcmp, 1) := by decide +kernel
theorem dL_errors_176 : decode cL_errors 176 = .ok (.ifCond .ne 355, 3) := by decide +kernel
theorem dL_errors_179 : decode cL_errors 179 = .ok (.aload_n 0, 1) := by decide +kernel
theorem dL_errors_180 : decode cL_errors 180 = .ok (.iconst 0, 1) := by decide +kernel
theorem dL_errors_181 : decode cL_errors 181 = .ok (.bipush 7, 2) := by decide +kernel
theorem dL_errors_183 : decode cL_errors 183 = .ok (.iconst 0, 1) := by decide +kernel
theorem dL_errors_184 : decode cL_errors 184 = .ok (.invokestatic 148, 3) := by decide +kernel
theorem dL_errors_187 : decode cL_errors 187 = .ok (.ldc2_w 17, 3) := by decide +kernel
theorem dL_errors_190 : decode cL_errors 190 = .ok (.lcmp, 1) := by decide +kernel
theorem dL_errors_191 : decode cL_errors 191 = .ok (.ifCond .ne 340, 3) := by decide +kernel
theorem dL_errors_194 : decode cL_errors 194 = .ok (.aload_n 0, 1) := by decide +kernel
theorem dL_errors_195 : decode cL_errors 195 = .ok (.iconst 0, 1) := by decide +kernel
theorem dL_errors_196 : decode cL_errors 196 = .ok (.iconst 0, 1) := by decide +kernel
theorem dL_errors_197 : decode cL_errors 197 = .ok (.iconst (-1), 1) := by decide +kernel
theorem dL_errors_198 : decode cL_errors 198 = .ok (.invokestatic 148, 3) := by decide +kernel
theorem dL_errors_201 : decode cL_errors 201 = .ok (.ldc2_w 17, 3) := by decide +kernel
theorem dL_errors_204 : decode cL_errors 204 = .ok (.lcmp, 1) := by decide +kernel
theorem dL_errors_205 : decode cL_errors 205 = .ok (.ifCond .ne 326, 3) := by decide +kernel
theorem dL_errors_208 : decode cL_errors 208 = .ok (.aload_n 0, 1) := by decide +kernel
theorem dL_errors_209 : decode cL_errors 209 = .ok (.bipush 49, 2) := by decide +kernel
theorem dL_errors_211 : decode cL_errors 211 = .ok (.iconst 0, 1) := by decide +kernel
theorem dL_errors_212 : decode cL_errors 212 = .ok (.invokestatic 151, 3) := by decide +kernel
theorem dL_errors_215 : decode cL_errors 215 = .ok (.ldc2_w 17, 3) := by decide +kernel
theorem dL_errors_218 : decode cL_errors 218 = .ok (.lcmp, 1) := by decide +kernel
theorem dL_errors_219 : decode cL_errors 219 = .ok (.ifCond .ne 312, 3) := by decide +kernel
theorem dL_errors_222 : decode cL_errors 222 = .ok (.aload_n 0, 1) := by decide +kernel
theorem dL_errors_223 : decode cL_errors 223 = .ok (.iconst 0, 1) := by decide +kernel
theorem dL_errors_224 : decode cL_errors 224 = .ok (.bipush 49, 2) := by decide +kernel
theorem dL_errors_226 : decode cL_errors 226 = .ok (.invokestatic 153, 3) := by decide +kernel
theorem dL_errors_229 : decode cL_errors 229 = .ok (.ldc2_w 17, 3) := by decide +kernel
theorem dL_errors_232 : decode cL_errors 232 = .ok (.lcmp, 1) := by decide +kernel
theorem dL_errors_233 : decode cL_errors 233 = .ok (.ifCond .ne 298, 3) := by decide +kernel
theorem dL_errors_236 : decode cL_errors 236 = .ok (.aload_n 0, 1) := by decide +kernel
theorem dL_errors_237 : decode cL_errors 237 = .ok (.bipush 7, 2) := by decide +kernel
theorem dL_errors_239 : decode cL_errors 239 = .ok (.bipush 7, 2) := by decide +kernel
theorem dL_errors_241 : decode cL_errors 241 = .ok (.invokestatic 156, 3) := by decide +kernel
theorem dL_errors_244 : decode cL_errors 244 = .ok (.ldc2_w 17, 3) := by decide +kernel
theorem dL_errors_247 : decode cL_errors 247 = .ok (.lcmp, 1) := by decide +kernel
theorem dL_errors_248 : decode cL_errors 248 = .ok (.ifCond .ne 283, 3) := by decide +kernel
theorem dL_errors_251 : decode cL_errors 251 = .ok (.aload_n 0, 1) := by decide +kernel
theorem dL_errors_252 : decode cL_errors 252 = .ok (.iconst (-1), 1) := by decide +kernel
theorem dL_errors_253 : decode cL_errors 253 = .ok (.invokestatic 158, 3) := by decide +kernel
theorem dL_errors_256 : decode cL_errors 256 = .ok (.ldc2_w 17, 3) := by decide +kernel
theorem dL_errors_259 : decode cL_errors 259 = .ok (.lcmp, 1) := by decide +kernel
theorem dL_errors_260 : decode cL_errors 260 = .ok (.ifCond .ne 271, 3) := by decide +kernel
theorem dL_errors_263 : decode cL_errors 263 = .ok (.aload_n 0, 1) := by decide +kernel
theorem dL_errors_264 : decode cL_errors 264 = .ok (.iconst 2, 1) := by decide +kernel
theorem dL_errors_265 : decode cL_errors 265 = .ok (.invokestatic 161, 3) := by decide +kernel
theorem dL_errors_268 : decode cL_errors 268 = .ok (.ldc2_w 17, 3) := by decide +kernel
theorem dL_errors_271 : decode cL_errors 271 = .ok (.lcmp, 1) := by decide +kernel
theorem dL_errors_272 : decode cL_errors 272 = .ok (.ifCond .ne 259, 3) := by decide +kernel
theorem dL_errors_275 : decode cL_errors 275 = .ok (.aload_n 0, 1) := by decide +kernel
theorem dL_errors_276 : decode cL_errors 276 = .ok (.iconst (-1), 1) := by decide +kernel
theorem dL_errors_277 : decode cL_errors 277 = .ok (.iconst 0, 1) := by decide +kernel
theorem dL_errors_278 : decode cL_errors 278 = .ok (.invokestatic 164, 3) := by decide +kernel
theorem dL_errors_281 : decode cL_errors 281 = .ok (.ldc2_w 17, 3) := by decide +kernel
theorem dL_errors_284 : decode cL_errors 284 = .ok (.lcmp, 1) := by decide +kernel
theorem dL_errors_285 : decode cL_errors 285 = .ok (.ifCond .ne 246, 3) := by decide +kernel
theorem dL_errors_288 : decode cL_errors 288 = .ok (.aload_n 0, 1) := by decide +kernel
theorem dL_errors_289 : decode cL_errors 289 = .ok (.iconst 3, 1) := by decide +kernel
theorem dL_errors_290 : decode cL_errors 290 = .ok (.iconst 3, 1) := by decide +kernel
theorem dL_errors_291 : decode cL_errors 291 = .ok (.invokestatic 164, 3) := by decide +kernel
theorem dL_errors_294 : decode cL_errors 294 = .ok (.ldc2_w 25, 3) := by decide +kernel
theorem dL_errors_297 : decode cL_errors 297 = .ok (.lcmp, 1) := by decide +kernel
theorem dL_errors_298 : decode cL_errors 298 = .ok (.ifCond .ne 233, 3) := by decide +kernel
theorem dL_errors_301 : decode cL_errors 301 = .ok (.aload_n 0, 1) := by decide +kernel
theorem dL_errors_302 : decode cL_errors 302 = .ok (.iconst 5, 1) := by decide +kernel
theorem dL_errors_303 : decode cL_errors 303 = .ok (.iconst 5, 1) := by decide +kernel
theorem dL_errors_304 : decode cL_errors 304 = .ok (.invokestatic 166, 3) := by decide +kernel
theorem dL_errors_307 : decode cL_errors 307 = .ok (.ldc2_w 25, 3) := by decide +kernel
theorem dL_errors_310 : decode cL_errors 310 = .ok (.lcmp, 1) := by decide +kernel
theorem dL_errors_311 : decode cL_errors 311 = .ok (.ifCond .ne 220, 3) := by decide +kernel
theorem dL_errors_314 : decode cL_errors 314 = .ok (.aload_n 0, 1) := by decide +kernel
theorem dL_errors_315 : decode cL_errors 315 = .ok (.bipush 24, 2) := by decide +kernel
theorem dL_errors_317 : decode cL_errors 317 = .ok (.bipush 24, 2) := by decide +kernel
theorem dL_errors_319 : decode cL_errors 319 = .ok (.invokestatic 168, 3) := by decide +kernel
theorem dL_errors_322 : decode cL_errors 322 = .ok (.ldc2_w 25, 3) := by decide +kernel
theorem dL_errors_325 : decode cL_errors 325 = .ok (.lcmp, 1) := by decide +kernel
theorem dL_errors_326 : decode cL_errors 326 = .ok (.ifCond .ne 205, 3) := by decide +kernel
theorem dL_errors_329 : decode cL_errors 329 = .ok (.aload_n 0, 1) := by decide +kernel
theorem dL_errors_330 : decode cL_errors 330 = .ok (.iconst 2, 1) := by decide +kernel
theorem dL_errors_331 : decode cL_errors 331 = .ok (.invokestatic 170, 3) := by decide +kernel
theorem dL_errors_334 : decode cL_errors 334 = .ok (.ldc2_w 17, 3) := by decide +kernel
theorem dL_errors_337 : decode cL_errors 337 = .ok (.lcmp, 1) := by decide +kernel
theorem dL_errors_338 : decode cL_errors 338 = .ok (.ifCond .ne 193, 3) := by decide +kernel
theorem dL_errors_341 : decode cL_errors 341 = .ok (.aload_n 0, 1) := by decide +kernel
theorem dL_errors_342 : decode cL_errors 342 = .ok (.iconst 0, 1) := by decide +kernel
theorem dL_errors_343 : decode cL_errors 343 = .ok (.aload_n 0, 1) := by decide +kernel
theorem dL_errors_344 : decode cL_errors 344 = .ok (.iconst 0, 1) := by decide +kernel
theorem dL_errors_345 : decode cL_errors 345 = .ok (.invokestatic 158, 3) := by decide +kernel
theorem dL_errors_348 : decode cL_errors 348 = .ok (.l2i, 1) := by decide +kernel
theorem dL_errors_349 : decode cL_errors 349 = .ok (.invokestatic 173, 3) := by decide +kernel
theorem dL_errors_352 : decode cL_errors 352 = .ok (.ldc2_w 17, 3) := by decide +kernel
theorem dL_errors_355 : decode cL_errors 355 = .ok (.lcmp, 1) := by decide +kernel
theorem dL_errors_356 : decode cL_errors 356 = .ok (.ifCond .ne 175, 3) := by decide +kernel
theorem dL_errors_359 : decode cL_errors 359 = .ok (.aload_n 0, 1) := by decide +kernel
theorem dL_errors_360 : decode cL_errors 360 = .ok (.iconst 2, 1) := by decide +kernel
theorem dL_errors_361 : decode cL_errors 361 = .ok (.iconst 0, 1) := by decide +kernel
theorem dL_errors_362 : decode cL_errors 362 = .ok (.invokestatic 173, 3) := by decide +kernel
theorem dL_errors_365 : decode cL_errors 365 = .ok (.ldc2_w 17, 3) := by decide +kernel
theorem dL_errors_368 : decode cL_errors 368 = .ok (.lcmp, 1) := by decide +kernel
theorem dL_errors_369 : decode cL_errors 369 = .ok (.ifCond .ne 162, 3) := by decide +kernel
theorem dL_errors_372 : decode cL_errors 372 = .ok (.aload_n 0, 1) := by decide +kernel
theorem dL_errors_373 : decode cL_errors 373 = .ok (.iconst (-1), 1) := by decide +kernel
theorem dL_errors_374 : decode cL_errors 374 = .ok (.invokestatic 175, 3) := by decide +kernel
theorem dL_errors_377 : decode cL_errors 377 = .ok (.ldc2_w 17, 3) := by decide +kernel
theorem dL_errors_380 : decode cL_errors 380 = .ok (.lcmp, 1) := by decide +kernel
theorem dL_errors_381 : decode cL_errors 381 = .ok (.ifCond .ne 150, 3) := by decide +kernel
theorem dL_errors_384 : decode cL_errors 384 = .ok (.aload_n 0, 1) := by decide +kernel
theorem dL_errors_385 : decode cL_errors 385 = .ok (.iconst 2, 1) := by decide +kernel
theorem dL_errors_386 : decode cL_errors 386 = .ok (.invokestatic 177, 3) := by decide +kernel
theorem dL_errors_389 : decode cL_errors 389 = .ok (.ldc2_w 17, 3) := by decide +kernel
theorem dL_errors_392 : decode cL_errors 392 = .ok (.lcmp, 1) := by decide +kernel
theorem dL_errors_393 : decode cL_errors 393 = .ok (.ifCond .ne 138, 3) := by decide +kernel
theorem dL_errors_396 : decode cL_errors 396 = .ok (.aload_n 0, 1) := by decide +kernel
theorem dL_errors_397 : decode cL_errors 397 = .ok (.iconst (-1), 1) := by decide +kernel
theorem dL_errors_398 : decode cL_errors 398 = .ok (.invokestatic 179, 3) := by decide +kernel
theorem dL_errors_401 : decode cL_errors 401 = .ok (.ldc2_w 17, 3) := by decide +kernel
theorem dL_errors_404 : decode cL_errors 404 = .ok (.lcmp, 1) := by decide +kernel
theorem dL_errors_405 : decode cL_errors 405 = .ok (.ifCond .ne 126, 3) := by decide +kernel
theorem dL_errors_408 : decode cL_errors 408 = .ok (.iload_n 3, 1) := by decide +kernel
theorem dL_errors_409 : decode cL_errors 409 = .ok (.ifCond .ne 27, 3) := by decide +kernel
theorem dL_errors_412 : decode cL_errors 412 = .ok (.aload_n 0, 1) := by decide +kernel
theorem dL_errors_413 : decode cL_errors 413 = .ok (.invokestatic 181, 3) := by decide +kernel
theorem dL_errors_416 : decode cL_errors 416 = .ok (.ldc2_w 25, 3) := by decide +kernel
theorem dL_errors_419 : decode cL_errors 419 = .ok (.lcmp, 1) := by decide +kernel
theorem dL_errors_420 : decode cL_errors 420 = .ok (.ifCond .ne 111, 3) := by decide +kernel
theorem dL_errors_423 : decode cL_errors 423 = .ok (.aload_n 0, 1) := by decide +kernel
theorem dL_errors_424 : decode cL_errors 424 = .ok (.iconst 3, 1) := by decide +kernel
theorem dL_errors_425 : decode cL_errors 425 = .ok (.iconst 4, 1) := by decide +kernel
theorem dL_errors_426 : decode cL_errors 426 = .ok (.invokestatic 135, 3) := by decide +kernel
theorem dL_errors_429 : decode cL_errors 429 = .ok (.ldc2_w 25, 3) := by decide +kernel
theorem dL_errors_432 : decode cL_errors 432 = .ok (.lcmp, 1) := by decide +kernel
theorem dL_errors_433 : decode cL_errors 433 = .ok (.ifCond .ne 98, 3) := by decide +kernel
theorem dL_errors_436 : decode cL_errors 436 = .ok (.aload_n 0, 1) := by decide +kernel
theorem dL_errors_437 : decode cL_errors 437 = .ok (.invokevirtual 124, 3) := by decide +kernel
theorem dL_errors_440 : decode cL_errors 440 = .ok (.ifCond .ne 17, 3) := by decide +kernel
theorem dL_errors_443 : decode cL_errors 443 = .ok (.aload_n 0, 1) := by decide +kernel
theorem dL_errors_444 : decode cL_errors 444 = .ok (.invokestatic 184, 3) := by decide +kernel
theorem dL_errors_447 : decode cL_errors 447 = .ok (.ldc2_w 25, 3) := by decide +kernel
theorem dL_errors_450 : decode cL_errors 450 = .ok (.lcmp, 1) := by decide +kernel
theorem dL_errors_451 : decode cL_errors 451 = .ok (.ifCond .ne 80, 3) := by decide +kernel
theorem dL_errors_454 : decode cL_errors 454 = .ok (.goto 29, 3) := by decide +kernel
theorem dL_errors_457 : decode cL_errors 457 = .ok (.aload_n 0, 1) := by decide +kernel
theorem dL_errors_458 : decode cL_errors 458 = .ok (.iconst 3, 1) := by decide +kernel
theorem dL_errors_459 : decode cL_errors 459 = .ok (.iconst 1, 1) := by decide +kernel
theorem dL_errors_460 : decode cL_errors 460 = .ok (.iconst 1, 1) := by decide +kernel
theorem dL_errors_461 : decode cL_errors 461 = .ok (.invokestatic 127, 3) := by decide +kernel
theorem dL_errors_464 : decode cL_errors 464 = .ok (.ldc2_w 25, 3) := by decide +kernel
theorem dL_errors_467 : decode cL_errors 467 = .ok (.lcmp, 1) := by decide +kernel
theorem dL_errors_468 : decode cL_errors 468 = .ok (.ifCond .ne 63, 3) := by decide +kernel
theorem dL_errors_471 : decode cL_errors 471 = .ok (.aload_n 0, 1) := by decide +kernel
theorem dL_errors_472 : decode cL_errors 472 = .ok (.iconst 0, 1) := by decide +kernel
theorem dL_errors_473 : decode cL_errors 473 = .ok (.invokestatic 132, 3) := by decide +kernel
theorem dL_errors_476 : decode cL_errors 476 = .ok (.ldc2_w 25, 3) := by decide +kernel
theorem dL_errors_479 : decode cL_errors 479 = .ok (.lcmp, 1) := by decide +kernel
theorem dL_errors_480 : decode cL_errors 480 = .ok (.ifCond .ne 51, 3) := by decide +kernel
theorem dL_errors_483 : decode cL_errors 483 = .ok (.aload_n 0, 1) := by decide +kernel
theorem dL_errors_484 : decode cL_errors 484 = .ok (.invokestatic 186, 3) := by decide +kernel
theorem dL_errors_487 : decode cL_errors 487 = .ok (.ldc2_w 25, 3) := by decide +kernel
theorem dL_errors_490 : decode cL_errors 490 = .ok (.lcmp, 1) := by decide +kernel
theorem dL_errors_491 : decode cL_errors 491 = .ok (.ifCond .ne 36, 3) := by decide +kernel
theorem dL_errors_494 : decode cL_errors 494 = .ok (.aload_n 0, 1) := by decide +kernel
theorem dL_errors_495 : decode cL_errors 495 = .ok (.invokestatic 188, 3) := by decide +kernel
theorem dL_errors_498 : decode cL_errors 498 = .ok (.ldc2_w 25, 3) := by decide +kernel
theorem dL_errors_501 : decode cL_errors 501 = .ok (.lcmp, 1) := by decide +kernel
theorem dL_errors_502 : decode cL_errors 502 = .ok (.ifCond .ne 29, 3) := by decide +kernel
theorem dL_errors_505 : decode cL_errors 505 = .ok (.aload_n 0, 1) := by decide +kernel
theorem dL_errors_506 : decode cL_errors 506 = .ok (.invokestatic 191, 3) := by decide +kernel
theorem dL_errors_509 : decode cL_errors 509 = .ok (.ldc2_w 25, 3) := by decide +kernel
theorem dL_errors_512 : decode cL_errors 512 = .ok (.lcmp, 1) := by decide +kernel
theorem dL_errors_513 : decode cL_errors 513 = .ok (.ifCond .ne 18, 3) := by decide +kernel
theorem dL_errors_516 : decode cL_errors 516 = .ok (.aload_n 0, 1) := by decide +kernel
theorem dL_errors_517 : decode cL_errors 517 = .ok (.invokestatic 194, 3) := by decide +kernel
theorem dL_errors_520 : decode cL_errors 520 = .ok (.ldc2_w 25, 3) := by decide +kernel
theorem dL_errors_523 : decode cL_errors 523 = .ok (.lcmp, 1) := by decide +kernel
theorem dL_errors_524 : decode cL_errors 524 = .ok (.ifCond .ne 7, 3) := by decide +kernel
theorem dL_errors_527 : decode cL_errors 527 = .ok (.iconst 1, 1) := by decide +kernel
theorem dL_errors_528 : decode cL_errors 528 = .ok (.goto 4, 3) := by decide +kernel
theorem dL_errors_531 : decode cL_errors 531 = .ok (.iconst 0, 1) := by decide +kernel
theorem dL_errors_532 : decode cL_errors 532 = .ok (.istore 4, 2) := by decide +kernel
theorem dL_errors_534 : decode cL_errors 534 = .ok (.iconst 0, 1) := by decide +kernel
theorem dL_errors_535 : decode cL_errors 535 = .ok (.istore 5, 2) := by decide +kernel
theorem dL_errors_537 : decode cL_errors 537 = .ok (.iload 5, 2) := by decide +kernel
theorem dL_errors_539 : decode cL_errors 539 = .ok (.bipush 49, 2) := by decide +kernel
theorem dL_errors_541 : decode cL_errors 541 = .ok (.if_icmp .ge 64, 3) := by decide +kernel
theorem dL_errors_544 : decode cL_errors 544 = .ok (.iload 4, 2) := by decide +kernel
theorem dL_errors_546 : decode cL_errors 546 = .ok (.ifCond .eq 59, 3) := by decide +kernel
theorem dL_errors_549 : decode cL_errors 549 = .ok (.aload_n 0, 1) := by decide +kernel
theorem dL_errors_550 : decode cL_errors 550 = .ok (.iload 5, 2) := by decide +kernel
theorem dL_errors_552 : decode cL_errors 552 = .ok (.bipush 30, 2) := by decide +kernel
theorem dL_errors_554 : decode cL_errors 554 = .ok (.invokestatic 153, 3) := by decide +kernel
theorem dL_errors_557 : decode cL_errors 557 = .ok (.lconst 0, 1) := by decide +kernel
theorem dL_errors_558 : decode cL_errors 558 = .ok (.lcmp, 1) := by decide +kernel
theorem dL_errors_559 : decode cL_errors 559 = .ok (.ifCond .eq 33, 3) := by decide +kernel
theorem dL_errors_562 : decode cL_errors 562 = .ok (.aload_n 0, 1) := by decide +kernel
theorem dL_errors_563 : decode cL_errors 563 = .ok (.iload 5, 2) := by decide +kernel
theorem dL_errors_565 : decode cL_errors 565 = .ok (.bipush 30, 2) := by decide +kernel
theorem dL_errors_567 : decode cL_errors 567 = .ok (.invokestatic 135, 3) := by decide +kernel
theorem dL_errors_570 : decode cL_errors 570 = .ok (.ldc2_w 25, 3) := by decide +kernel
theorem dL_errors_573 : decode cL_errors 573 = .ok (.lcmp, 1) := by decide +kernel
theorem dL_errors_574 : decode cL_errors 574 = .ok (.ifCond .ne 22, 3) := by decide +kernel
theorem dL_errors_577 : decode cL_errors 577 = .ok (.aload_n 0, 1) := by decide +kernel
theorem dL_errors_578 : decode cL_errors 578 = .ok (.iload 5, 2) := by decide +kernel
theorem dL_errors_580 : decode cL_errors 580 = .ok (.bipush 30, 2) := by decide +kernel
theorem dL_errors_582 : decode cL_errors 582 = .ok (.invokestatic 164, 3) := by decide +kernel
theorem dL_errors_585 : decode cL_errors 585 = .ok (.ldc2_w 25, 3) := by decide +kernel
theorem dL_errors_588 : decode cL_errors 588 = .ok (.lcmp, 1) := by decide +kernel
theorem dL_errors_589 : decode cL_errors 589 = .ok (.ifCond .ne 7, 3) := by decide +kernel
theorem dL_errors_592 : decode cL_errors 592 = .ok (.iconst 1, 1) := by decide +kernel
theorem dL_errors_593 : decode cL_errors 593 = .ok (.goto 4, 3) := by decide +kernel
theorem dL_errors_596 : decode cL_errors 596 = .ok (.iconst 0, 1) := by decide +kernel
theorem dL_errors_597 : decode cL_errors 597 = .ok (.istore 4, 2) := by decide +kernel
theorem dL_errors_599 : decode cL_errors 599 = .ok (.iinc 5 1, 3) := by decide +kernel
theorem dL_errors_602 : decode cL_errors 602 = .ok (.goto (-65), 3) := by decide +kernel
theorem dL_errors_605 : decode cL_errors 605 = .ok (.iload 4, 2) := by decide +kernel
theorem dL_errors_607 : decode cL_errors 607 = .ok (.ifCond .eq 16, 3) := by decide +kernel
theorem dL_errors_610 : decode cL_errors 610 = .ok (.aload_n 0, 1) := by decide +kernel
theorem dL_errors_611 : decode cL_errors 611 = .ok (.invokevirtual 120, 3) := by decide +kernel
theorem dL_errors_614 : decode cL_errors 614 = .ok (.lload_n 1, 1) := by decide +kernel
theorem dL_errors_615 : decode cL_errors 615 = .ok (.lcmp, 1) := by decide +kernel
theorem dL_errors_616 : decode cL_errors 616 = .ok (.ifCond .ne 7, 3) := by decide +kernel
theorem dL_errors_619 : decode cL_errors 619 = .ok (.iconst 1, 1) := by decide +kernel
theorem dL_errors_620 : decode cL_errors 620 = .ok (.goto 4, 3) := by decide +kernel
theorem dL_errors_623 : decode cL_errors 623 = .ok (.iconst 0, 1) := by decide +kernel
theorem dL_errors_624 : decode cL_errors 624 = .ok (.ireturn, 1) := by decide +kernel
theorem dL_kept_0 : decode cL_kept 0 = .ok (.aload_n 0, 1) := by decide +kernel
theorem dL_kept_1 : decode cL_kept 1 = .ok (.invokevirtual 124, 3) := by decide +kernel
theorem dL_kept_4 : decode cL_kept 4 = .ok (.istore_n 2, 1) := by decide +kernel
theorem dL_kept_5 : decode cL_kept 5 = .ok (.aload_n 0, 1) := by decide +kernel
theorem dL_kept_6 : decode cL_kept 6 = .ok (.invokestatic 186, 3) := by decide +kernel
theorem dL_kept_9 : decode cL_kept 9 = .ok (.lstore_n 3, 1) := by decide +kernel
theorem dL_kept_10 : decode cL_kept 10 = .ok (.aload_n 0, 1) := by decide +kernel
theorem dL_kept_11 : decode cL_kept 11 = .ok (.invokestatic 191, 3) := by decide +kernel
theorem dL_kept_14 : decode cL_kept 14 = .ok (.aload_n 0, 1) := by decide +kernel
theorem dL_kept_15 : decode cL_kept 15 = .ok (.invokestatic 194, 3) := by decide +kernel
theorem dL_kept_18 : decode cL_kept 18 = .ok (.lcmp, 1) := by decide +kernel
theorem dL_kept_19 : decode cL_kept 19 = .ok (.ifCond .ne 207, 3) := by decide +kernel
theorem dL_kept_22 : decode cL_kept 22 = .ok (.iload_n 2, 1) := by decide +kernel
theorem dL_kept_23 : decode cL_kept 23 = .ok (.i2l, 1) := by decide +kernel
theorem dL_kept_24 : decode cL_kept 24 = .ok (.lconst 0, 1) := by decide +kernel
theorem dL_kept_25 : decode cL_kept 25 = .ok (.ldc2_w 197, 3) := by decide +kernel
theorem dL_kept_28 : decode cL_kept 28 = .ok (.invokestatic 199, 3) := by decide +kernel
theorem dL_kept_31 : decode cL_kept 31 = .ok (.ifCond .eq 195, 3) := by decide +kernel
theorem dL_kept_34 : decode cL_kept 34 = .ok (.aload_n 0, 1) := by decide +kernel
theorem dL_kept_35 : decode cL_kept 35 = .ok (.invokevirtual 203, 3) := by decide +kernel
theorem dL_kept_38 : decode cL_kept 38 = .ok (.i2l, 1) := by decide +kernel
theorem dL_kept_39 : decode cL_kept 39 = .ok (.lconst 0, 1) := by decide +kernel
theorem dL_kept_40 : decode cL_kept 40 = .ok (.ldc2_w 197, 3) := by decide +kernel
theorem dL_kept_43 : decode cL_kept 43 = .ok (.invokestatic 199, 3) := by decide +kernel
theorem dL_kept_46 : decode cL_kept 46 = .ok (.ifCond .eq 180, 3) := by decide +kernel
theorem dL_kept_49 : decode cL_kept 49 = .ok (.aload_n 0, 1) := by decide +kernel
theorem dL_kept_50 : decode cL_kept 50 = .ok (.invokevirtual 206, 3) := by decide +kernel
theorem dL_kept_53 : decode cL_kept 53 = .ok (.i2l, 1) := by decide +kernel
theorem dL_kept_54 : decode cL_kept 54 = .ok (.lconst 0, 1) := by decide +kernel
theorem dL_kept_55 : decode cL_kept 55 = .ok (.ldc2_w 209, 3) := by decide +kernel
theorem dL_kept_58 : decode cL_kept 58 = .ok (.invokestatic 199, 3) := by decide +kernel
theorem dL_kept_61 : decode cL_kept 61 = .ok (.ifCond .eq 165, 3) := by decide +kernel
theorem dL_kept_64 : decode cL_kept 64 = .ok (.aload_n 0, 1) := by decide +kernel
theorem dL_kept_65 : decode cL_kept 65 = .ok (.invokevirtual 211, 3) := by decide +kernel
theorem dL_kept_68 : decode cL_kept 68 = .ok (.aload_n 0, 1) := by decide +kernel
theorem dL_kept_69 : decode cL_kept 69 = .ok (.invokevirtual 214, 3) := by decide +kernel
theorem dL_kept_72 : decode cL_kept 72 = .ok (.if_icmp .gt 154, 3) := by decide +kernel
theorem dL_kept_75 : decode cL_kept 75 = .ok (.iload_n 2, 1) := by decide +kernel
theorem dL_kept_76 : decode cL_kept 76 = .ok (.ifCond .eq 23, 3) := by decide +kernel
theorem dL_kept_79 : decode cL_kept 79 = .ok (.aload_n 0, 1) := by decide +kernel
theorem dL_kept_80 : decode cL_kept 80 = .ok (.invokestatic 184, 3) := by decide +kernel
theorem dL_kept_83 : decode cL_kept 83 = .ok (.lconst 1, 1) := by decide +kernel
theorem dL_kept_84 : decode cL_kept 84 = .ok (.lcmp, 1) := by decide +kernel
theorem dL_kept_85 : decode cL_kept 85 = .ok (.ifCond .lt 141, 3) := by decide +kernel
theorem dL_kept_88 : decode cL_kept 88 = .ok (.aload_n 0, 1) := by decide +kernel
theorem dL_kept_89 : decode cL_kept 89 = .ok (.invokestatic 184, 3) := by decide +kernel
theorem dL_kept_92 : decode cL_kept 92 = .ok (.ldc2_w 217, 3) := by decide +kernel
theorem dL_kept_95 : decode cL_kept 95 = .ok (.lcmp, 1) := by decide +kernel
theorem dL_kept_96 : decode cL_kept 96 = .ok (.ifCond .gt 130, 3) := by decide +kernel
theorem dL_kept_99 : decode cL_kept 99 = .ok (.iload_n 2, 1) := by decide +kernel
theorem dL_kept_100 : decode cL_kept 100 = .ok (.iconst 4, 1) := by decide +kernel
theorem dL_kept_101 : decode cL_kept 101 = .ok (.if_icmp .ne 14, 3) := by decide +kernel
theorem dL_kept_104 : decode cL_kept 104 = .ok (.aload_n 0, 1) := by decide +kernel
theorem dL_kept_105 : decode cL_kept 105 = .ok (.invokestatic 184, 3) := by decide +kernel
theorem dL_kept_108 : decode cL_kept 108 = .ok (.ldc2_w 217, 3) := by decide +kernel
theorem dL_kept_111 : decode cL_kept 111 = .ok (.lcmp, 1) := by decide +kernel
theorem dL_kept_112 : decode cL_kept 112 = .ok (.ifCond .ne 114, 3) := by decide +kernel
theorem dL_kept_115 : decode cL_kept 115 = .ok (.iload_n 2, 1) := by decide +kernel
theorem dL_kept_116 : decode cL_kept 116 = .ok (.iconst 1, 1) := by decide +kernel
theorem dL_kept_117 : decode cL_kept 117 = .ok (.if_icmp .ne 30, 3) := by decide +kernel
theorem dL_kept_120 : decode cL_kept 120 = .ok (.lload_n 3, 1) := by decide +kernel
theorem dL_kept_121 : decode cL_kept 121 = .ok (.ldc2_w 25, 3) := by decide +kernel
theorem dL_kept_124 : decode cL_kept 124 = .ok (.lcmp, 1) := by decide +kernel
theorem dL_kept_125 : decode cL_kept 125 = .ok (.ifCond .eq 101, 3) := by decide +kernel
theorem dL_kept_128 : decode cL_kept 128 = .ok (.lload_n 3, 1) := by decide +kernel
theorem dL_kept_129 : decode cL_kept 129 = .ok (.l2i, 1) := by decide +kernel
theorem dL_kept_130 : decode cL_kept 130 = .ok (.invokestatic 219, 3) := by decide +kernel
theorem dL_kept_133 : decode cL_kept 133 = .ok (.ifCond .ne 93, 3) := by decide +kernel
theorem dL_kept_136 : decode cL_kept 136 = .ok (.aload_n 0, 1) := by decide +kernel
theorem dL_kept_137 : decode cL_kept 137 = .ok (.invokestatic 184, 3) := by decide +kernel
theorem dL_kept_140 : decode cL_kept 140 = .ok (.ldc2_w 217, 3) := by decide +kernel
theorem dL_kept_143 : decode cL_kept 143 = .ok (.lcmp, 1) := by decide +kernel
theorem dL_kept_144 : decode cL_kept 144 = .ok (.ifCond .ge 82, 3) := by decide +kernel
theorem dL_kept_147 : decode cL_kept 147 = .ok (.lload_n 3, 1) := by decide +kernel
theorem dL_kept_148 : decode cL_kept 148 = .ok (.ldc2_w 25, 3) := by decide +kernel
theorem dL_kept_151 : decode cL_kept 151 = .ok (.lcmp, 1) := by decide +kernel
theorem dL_kept_152 : decode cL_kept 152 = .ok (.ifCond .ne 20, 3) := by decide +kernel
theorem dL_kept_155 : decode cL_kept 155 = .ok (.aload_n 0, 1) := by decide +kernel
theorem dL_kept_156 : decode cL_kept 156 = .ok (.invokevirtual 206, 3) := by decide +kernel
theorem dL_kept_159 : decode cL_kept 159 = .ok (.ifCond .ne 67, 3) := by decide +kernel
theorem dL_kept_162 : decode cL_kept 162 = .ok (.aload_n 0, 1) := by decide +kernel
theorem dL_kept_163 : decode cL_kept 163 = .ok (.invokevirtual 203, 3) := by decide +kernel
theorem dL_kept_166 : decode cL_kept 166 = .ok (.ifCond .ne 60, 3) := by decide +kernel
theorem dL_kept_169 : decode cL_kept 169 = .ok (.goto 38, 3) := by decide +kernel
theorem dL_kept_172 : decode cL_kept 172 = .ok (.aload_n 0, 1) := by decide +kernel
theorem dL_kept_173 : decode cL_kept 173 = .ok (.lload_n 3, 1) := by decide +kernel
theorem dL_kept_174 : decode cL_kept 174 = .ok (.l2i, 1) := by decide +kernel
theorem dL_kept_175 : decode cL_kept 175 = .ok (.bipush 7, 2) := by decide +kernel
theorem dL_kept_177 : decode cL_kept 177 = .ok (.idiv, 1) := by decide +kernel
theorem dL_kept_178 : decode cL_kept 178 = .ok (.lload_n 3, 1) := by decide +kernel
theorem dL_kept_179 : decode cL_kept 179 = .ok (.l2i, 1) := by decide +kernel
theorem dL_kept_180 : decode cL_kept 180 = .ok (.bipush 7, 2) := by decide +kernel
theorem dL_kept_182 : decode cL_kept 182 = .ok (.irem, 1) := by decide +kernel
theorem dL_kept_183 : decode cL_kept 183 = .ok (.invokestatic 144, 3) := by decide +kernel
theorem dL_kept_186 : decode cL_kept 186 = .ok (.ldc2_w 217, 3) := by decide +kernel
theorem dL_kept_189 : decode cL_kept 189 = .ok (.lcmp, 1) := by decide +kernel
theorem dL_kept_190 : decode cL_kept 190 = .ok (.ifCond .ne 36, 3) := by decide +kernel
theorem dL_kept_193 : decode cL_kept 193 = .ok (.aload_n 0, 1) := by decide +kernel
theorem dL_kept_194 : decode cL_kept 194 = .ok (.invokestatic 188, 3) := by decide +kernel
theorem dL_kept_197 : decode cL_kept 197 = .ok (.lconst 0, 1) := by decide +kernel
theorem dL_kept_198 : decode cL_kept 198 = .ok (.ldc2_w 197, 3) := by decide +kernel
theorem dL_kept_201 : decode cL_kept 201 = .ok (.invokestatic 199, 3) := by decide +kernel
theorem dL_kept_204 : decode cL_kept 204 = .ok (.ifCond .eq 22, 3) := by decide +kernel
theorem dL_kept_207 : decode cL_kept 207 = .ok (.aload_n 0, 1) := by decide +kernel
theorem dL_kept_208 : decode cL_kept 208 = .ok (.invokevirtual 223, 3) := by decide +kernel
theorem dL_kept_211 : decode cL_kept 211 = .ok (.i2l, 1) := by decide +kernel
theorem dL_kept_212 : decode cL_kept 212 = .ok (.lconst 0, 1) := by decide +kernel
theorem dL_kept_213 : decode cL_kept 213 = .ok (.ldc2_w 226, 3) := by decide +kernel
theorem dL_kept_216 : decode cL_kept 216 = .ok (.invokestatic 199, 3) := by decide +kernel
theorem dL_kept_219 : decode cL_kept 219 = .ok (.ifCond .eq 7, 3) := by decide +kernel
theorem dL_kept_222 : decode cL_kept 222 = .ok (.iconst 1, 1) := by decide +kernel
theorem dL_kept_223 : decode cL_kept 223 = .ok (.goto 4, 3) := by decide +kernel
theorem dL_kept_226 : decode cL_kept 226 = .ok (.iconst 0, 1) := by decide +kernel
theorem dL_kept_227 : decode cL_kept 227 = .ok (.istore 5, 2) := by decide +kernel
theorem dL_kept_229 : decode cL_kept 229 = .ok (.lconst 0, 1) := by decide +kernel
theorem dL_kept_230 : decode cL_kept 230 = .ok (.lstore 6, 2) := by decide +kernel
theorem dL_kept_232 : decode cL_kept 232 = .ok (.lconst 0, 1) := by decide +kernel
theorem dL_kept_233 : decode cL_kept 233 = .ok (.lstore 8, 2) := by decide +kernel
theorem dL_kept_235 : decode cL_kept 235 = .ok (.iconst 2, 1) := by decide +kernel
theorem dL_kept_236 : decode cL_kept 236 = .ok (.newarray .int, 2) := by decide +kernel
theorem dL_kept_238 : decode cL_kept 238 = .ok (.astore 10, 2) := by decide +kernel
theorem dL_kept_240 : decode cL_kept 240 = .ok (.iconst 0, 1) := by decide +kernel
theorem dL_kept_241 : decode cL_kept 241 = .ok (.istore 11, 2) := by decide +kernel
theorem dL_kept_243 : decode cL_kept 243 = .ok (.iload 11, 2) := by decide +kernel
theorem dL_kept_245 : decode cL_kept 245 = .ok (.bipush 49, 2) := by decide +kernel
theorem dL_kept_247 : decode cL_kept 247 = .ok (.if_icmp .ge 371, 3) := by decide +kernel
theorem dL_kept_250 : decode cL_kept 250 = .ok (.iload 5, 2) := by decide +kernel
theorem dL_kept_252 : decode cL_kept 252 = .ok (.ifCond .eq 366, 3) := by decide +kernel
theorem dL_kept_255 : decode cL_kept 255 = .ok (.aload_n 0, 1) := by decide +kernel
theorem dL_kept_256 : decode cL_kept 256 = .ok (.iload 11, 2) := by decide +kernel
theorem dL_kept_258 : decode cL_kept 258 = .ok (.bipush 7, 2) := by decide +kernel
theorem dL_kept_260 : decode cL_kept 260 = .ok (.idiv, 1) := by decide +kernel
theorem dL_kept_261 : decode cL_kept 261 = .ok (.iload 11, 2) := by decide +kernel
theorem dL_kept_263 : decode cL_kept 263 = .ok (.bipush 7, 2) := by decide +kernel
theorem dL_kept_265 : decode cL_kept 265 = .ok (.irem, 1) := by decide +kernel
theorem dL_kept_266 : decode cL_kept 266 = .ok (.invokestatic 144, 3) := by decide +kernel
theorem dL_kept_269 : decode cL_kept 269 = .ok (.lstore 12, 2) := by decide +kernel
theorem dL_kept_271 : decode cL_kept 271 = .ok (.aload_n 0, 1) := by decide +kernel
theorem dL_kept_272 : decode cL_kept 272 = .ok (.iload 11, 2) := by decide +kernel
theorem dL_kept_274 : decode cL_kept 274 = .ok (.bipush 7, 2) := by decide +kernel
theorem dL_kept_276 : decode cL_kept 276 = .ok (.idiv, 1) := by decide +kernel
theorem dL_kept_277 : decode cL_kept 277 = .ok (.iload 11, 2) := by decide +kernel
theorem dL_kept_279 : decode cL_kept 279 = .ok (.bipush 7, 2) := by decide +kernel
theorem dL_kept_281 : decode cL_kept 281 = .ok (.irem, 1) := by decide +kernel
theorem dL_kept_282 : decode cL_kept 282 = .ok (.invokestatic 156, 3) := by decide +kernel
theorem dL_kept_285 : decode cL_kept 285 = .ok (.lstore 14, 2) := by decide +kernel
theorem dL_kept_287 : decode cL_kept 287 = .ok (.iload 11, 2) := by decide +kernel
theorem dL_kept_289 : decode cL_kept 289 = .ok (.bipush 24, 2) := by decide +kernel
theorem dL_kept_291 : decode cL_kept 291 = .ok (.if_icmp .eq 11, 3) := by decide +kernel
theorem dL_kept_294 : decode cL_kept 294 = .ok (.iload 11, 2) := by decide +kernel
theorem dL_kept_296 : decode cL_kept 296 = .ok (.invokestatic 219, 3) := by decide +kernel
theorem dL_kept_299 : decode cL_kept 299 = .ok (.ifCond .eq 7, 3) := by decide +kernel
theorem dL_kept_302 : decode cL_kept 302 = .ok (.iconst 1, 1) := by decide +kernel
theorem dL_kept_303 : decode cL_kept 303 = .ok (.goto 4, 3) := by decide +kernel
theorem dL_kept_306 : decode cL_kept 306 = .ok (.iconst 0, 1) := by decide +kernel
theorem dL_kept_307 : decode cL_kept 307 = .ok (.istore 16, 2) := by decide +kernel
theorem dL_kept_309 : decode cL_kept 309 = .ok (.lload 6, 2) := by decide +kernel
theorem dL_kept_311 : decode cL_kept 311 = .ok (.lload 14, 2) := by decide +kernel
theorem dL_kept_313 : decode cL_kept 313 = .ok (.ladd, 1) := by decide +kernel
theorem dL_kept_314 : decode cL_kept 314 = .ok (.lstore 6, 2) := by decide +kernel
theorem dL_kept_316 : decode cL_kept 316 = .ok (.lload 8, 2) := by decide +kernel
theorem dL_kept_318 : decode cL_kept 318 = .ok (.lload 12, 2) := by decide +kernel
theorem dL_kept_320 : decode cL_kept 320 = .ok (.lconst 0, 1) := by decide +kernel
theorem dL_kept_321 : decode cL_kept 321 = .ok (.lcmp, 1) := by decide +kernel
theorem dL_kept_322 : decode cL_kept 322 = .ok (.ifCond .le 7, 3) := by decide +kernel
theorem dL_kept_325 : decode cL_kept 325 = .ok (.lconst 1, 1) := by decide +kernel
theorem dL_kept_326 : decode cL_kept 326 = .ok (.goto 4, 3) := by decide +kernel
theorem dL_kept_329 : decode cL_kept 329 = .ok (.lconst 0, 1) := by decide +kernel
theorem dL_kept_330 : decode cL_kept 330 = .ok (.ladd, 1) := by decide +kernel
theorem dL_kept_331 : decode cL_kept 331 = .ok (.lstore 8, 2) := by decide +kernel
theorem dL_kept_333 : decode cL_kept 333 = .ok (.lload 12, 2) := by decide +kernel
theorem dL_kept_335 : decode cL_kept 335 = .ok (.lconst 0, 1) := by decide +kernel
theorem dL_kept_336 : decode cL_kept 336 = .ok (.ldc2_w 217, 3) := by decide +kernel
theorem dL_kept_339 : decode cL_kept 339 = .ok (.invokestatic 199, 3) := by decide +kernel
theorem dL_kept_342 : decode cL_kept 342 = .ok (.ifCond .eq 169, 3) := by decide +kernel
theorem dL_kept_345 : decode cL_kept 345 = .ok (.iload 16, 2) := by decide +kernel
theorem dL_kept_347 : decode cL_kept 347 = .ok (.ifCond .eq 19, 3) := by decide +kernel
theorem dL_kept_350 : decode cL_kept 350 = .ok (.lload 12, 2) := by decide +kernel
theorem dL_kept_352 : decode cL_kept 352 = .ok (.lconst 0, 1) := by decide +kernel
theorem dL_kept_353 : decode cL_kept 353 = .ok (.lcmp, 1) := by decide +kernel
theorem dL_kept_354 : decode cL_kept 354 = .ok (.ifCond .eq 12, 3) := by decide +kernel
theorem dL_kept_357 : decode cL_kept 357 = .ok (.lload 12, 2) := by decide +kernel
theorem dL_kept_359 : decode cL_kept 359 = .ok (.ldc2_w 217, 3) := by decide +kernel
theorem dL_kept_362 : decode cL_kept 362 = .ok (.lcmp, 1) := by decide +kernel
theorem dL_kept_363 : decode cL_kept 363 = .ok (.ifCond .ne 148, 3) := by decide +kernel
theorem dL_kept_366 : decode cL_kept 366 = .ok (.lload 14, 2) := by decide +kernel
theorem dL_kept_368 : decode cL_kept 368 = .ok (.lconst 0, 1) := by decide +kernel
theorem dL_kept_369 : decode cL_kept 369 = .ok (.ldc2_w 228, 3) := by decide +kernel
theorem dL_kept_372 : decode cL_kept 372 = .ok (.invokestatic 199, 3) := by decide +kernel
theorem dL_kept_375 : decode cL_kept 375 = .ok (.ifCond .eq 136, 3) := by decide +kernel
theorem dL_kept_378 : decode cL_kept 378 = .ok (.lload 12, 2) := by decide +kernel
theorem dL_kept_380 : decode cL_kept 380 = .ok (.lconst 0, 1) := by decide +kernel
theorem dL_kept_381 : decode cL_kept 381 = .ok (.lcmp, 1) := by decide +kernel
theorem dL_kept_382 : decode cL_kept 382 = .ok (.ifCond .gt 10, 3) := by decide +kernel
theorem dL_kept_385 : decode cL_kept 385 = .ok (.lload 14, 2) := by decide +kernel
theorem dL_kept_387 : decode cL_kept 387 = .ok (.lconst 0, 1) := by decide +kernel
theorem dL_kept_388 : decode cL_kept 388 = .ok (.lcmp, 1) := by decide +kernel
theorem dL_kept_389 : decode cL_kept 389 = .ok (.ifCond .ne 122, 3) := by decide +kernel
theorem dL_kept_392 : decode cL_kept 392 = .ok (.iload 11, 2) := by decide +kernel
theorem dL_kept_394 : decode cL_kept 394 = .ok (.invokestatic 219, 3) := by decide +kernel
theorem dL_kept_397 : decode cL_kept 397 = .ok (.ifCond .eq 43, 3) := by decide +kernel
theorem dL_kept_400 : decode cL_kept 400 = .ok (.aload_n 0, 1) := by decide +kernel
theorem dL_kept_401 : decode cL_kept 401 = .ok (.iload 11, 2) := by decide +kernel
theorem dL_kept_403 : decode cL_kept 403 = .ok (.bipush 7, 2) := by decide +kernel
theorem dL_kept_405 : decode cL_kept 405 = .ok (.idiv, 1) := by decide +kernel
theorem dL_kept_406 : decode cL_kept 406 = .ok (.iload 11, 2) := by decide +kernel
theorem dL_kept_408 : decode cL_kept 408 = .ok (.bipush 7, 2) := by decide +kernel
theorem dL_kept_410 : decode cL_kept 410 = .ok (.irem, 1) := by decide +kernel
theorem dL_kept_411 : decode cL_kept 411 = .ok (.iconst 0, 1) := by decide +kernel
theorem dL_kept_412 : decode cL_kept 412 = .ok (.invokestatic 148, 3) := by decide +kernel
theorem dL_kept_415 : decode cL_kept 415 = .ok (.lconst 1, 1) := by decide +kernel
theorem dL_kept_416 : decode cL_kept 416 = .ok (.lcmp, 1) := by decide +kernel
theorem dL_kept_417 : decode cL_kept 417 = .ok (.ifCond .ne 94, 3) := by decide +kernel
theorem dL_kept_420 : decode cL_kept 420 = .ok (.aload_n 0, 1) := by decide +kernel
theorem dL_kept_421 : decode cL_kept 421 = .ok (.iload 11, 2) := by decide +kernel
theorem dL_kept_423 : decode cL_kept 423 = .ok (.bipush 7, 2) := by decide +kernel
theorem dL_kept_425 : decode cL_kept 425 = .ok (.idiv, 1) := by decide +kernel
theorem dL_kept_426 : decode cL_kept 426 = .ok (.iload 11, 2) := by decide +kernel
theorem dL_kept_428 : decode cL_kept 428 = .ok (.bipush 7, 2) := by decide +kernel
theorem dL_kept_430 : decode cL_kept 430 = .ok (.irem, 1) := by decide +kernel
theorem dL_kept_431 : decode cL_kept 431 = .ok (.iconst 1, 1) := by decide +kernel
theorem dL_kept_432 : decode cL_kept 432 = .ok (.invokestatic 148, 3) := by decide +kernel
theorem dL_kept_435 : decode cL_kept 435 = .ok (.lconst 1, 1) := by decide +kernel
theorem dL_kept_436 : decode cL_kept 436 = .ok (.lcmp, 1) := by decide +kernel
theorem dL_kept_437 : decode cL_kept 437 = .ok (.ifCond .ne 74, 3) := by decide +kernel
theorem dL_kept_440 : decode cL_kept 440 = .ok (.iload 16, 2) := by decide +kernel
theorem dL_kept_442 : decode cL_kept 442 = .ok (.ifCond .ne 65, 3) := by decide +kernel
theorem dL_kept_445 : decode cL_kept 445 = .ok (.aload_n 0, 1) := by decide +kernel
theorem dL_kept_446 : decode cL_kept 446 = .ok (.iload 11, 2) := by decide +kernel
theorem dL_kept_448 : decode cL_kept 448 = .ok (.bipush 7, 2) := by decide +kernel
theorem dL_kept_450 : decode cL_kept 450 = .ok (.idiv, 1) := by decide +kernel
theorem dL_kept_451 : decode cL_kept 451 = .ok (.iload 11, 2) := by decide +kernel
theorem dL_kept_453 : decode cL_kept 453 = .ok (.bipush 7, 2) := by decide +kernel
theorem dL_kept_455 : decode cL_kept 455 = .ok (.irem, 1) := by decide +kernel
theorem dL_kept_456 : decode cL_kept 456 = .ok (.iconst 0, 1) := by decide +kernel
theorem dL_kept_457 : decode cL_kept 457 = .ok (.invokestatic 148, 3) := by decide +kernel
theorem dL_kept_460 : decode cL_kept 460 = .ok (.lload 12, 2) := by decide +kernel
theorem dL_kept_462 : decode cL_kept 462 = .ok (.lconst 1, 1) := by decide +kernel
theorem dL_kept_463 : decode cL_kept 463 = .ok (.lcmp, 1) := by decide +kernel
theorem dL_kept_464 : decode cL_kept 464 = .ok (.ifCond .le 7, 3) := by decide +kernel
theorem dL_kept_467 : decode cL_kept 467 = .ok (.lconst 1, 1) := by decide +kernel
theorem dL_kept_468 : decode cL_kept 468 = .ok (.goto 4, 3) := by decide +kernel
theorem dL_kept_471 : decode cL_kept 471 = .ok (.lconst 0, 1) := by decide +kernel
theorem dL_kept_472 : decode cL_kept 472 = .ok (.lcmp, 1) := by decide +kernel
theorem dL_kept_473 : decode cL_kept 473 = .ok (.ifCond .ne 38, 3) := by decide +kernel
theorem dL_kept_476 : decode cL_kept 476 = .ok (.aload_n 0, 1) := by decide +kernel
theorem dL_kept_477 : decode cL_kept 477 = .ok (.iload 11, 2) := by decide +kernel
theorem dL_kept_479 : decode cL_kept 479 = .ok (.bipush 7, 2) := by decide +kernel
theorem dL_kept_481 : decode cL_kept 481 = .ok (.idiv, 1) := by decide +kernel
theorem dL_kept_482 : decode cL_kept 482 = .ok (.iload 11, 2) := by decide +kernel
theorem dL_kept_484 : decode cL_kept 484 = .ok (.bipush 7, 2) := by decide +kernel
theorem dL_kept_486 : decode cL_kept 486 = .ok (.irem, 1) := by decide +kernel
theorem dL_kept_487 : decode cL_kept 487 = .ok (.iconst 1, 1) := by decide +kernel
theorem dL_kept_488 : decode cL_kept 488 = .ok (.invokestatic 148, 3) := by decide +kernel
theorem dL_kept_491 : decode cL_kept 491 = .ok (.lload 12, 2) := by decide +kernel
theorem dL_kept_493 : decode cL_kept 493 = .ok (.lconst 1, 1) := by decide +kernel
theorem dL_kept_494 : decode cL_kept 494 = .ok (.lcmp, 1) := by decide +kernel
theorem dL_kept_495 : decode cL_kept 495 = .ok (.ifCond .ne 7, 3) := by decide +kernel
theorem dL_kept_498 : decode cL_kept 498 = .ok (.lconst 1, 1) := by decide +kernel
theorem dL_kept_499 : decode cL_kept 499 = .ok (.goto 4, 3) := by decide +kernel
theorem dL_kept_502 : decode cL_kept 502 = .ok (.lconst 0, 1) := by decide +kernel
theorem dL_kept_503 : decode cL_kept 503 = .ok (.lcmp, 1) := by decide +kernel
theorem dL_kept_504 : decode cL_kept 504 = .ok (.ifCond .ne 7, 3) := by decide +kernel
theorem dL_kept_507 : decode cL_kept 507 = .ok (.iconst 1, 1) := by decide +kernel
theorem dL_kept_508 : decode cL_kept 508 = .ok (.goto 4, 3) := by decide +kernel
theorem dL_kept_511 : decode cL_kept 511 = .ok (.iconst 0, 1) := by decide +kernel
theorem dL_kept_512 : decode cL_kept 512 = .ok (.istore 5, 2) := by decide +kernel
theorem dL_kept_514 : decode cL_kept 514 = .ok (.iload_n 1, 1) := by decide +kernel
theorem dL_kept_515 : decode cL_kept 515 = .ok (.bipush 49, 2) := by decide +kernel
theorem dL_kept_517 : decode cL_kept 517 = .ok (.irem, 1) := by decide +kernel
theorem dL_kept_518 : decode cL_kept 518 = .ok (.iconst 3, 1) := by decide +kernel
theorem dL_kept_519 : decode cL_kept 519 = .ok (.iload 11, 2) := by decide +kernel
theorem dL_kept_521 : decode cL_kept 521 = .ok (.imul, 1) := by decide +kernel
theorem dL_kept_522 : decode cL_kept 522 = .ok (.iadd, 1) := by decide +kernel
theorem dL_kept_523 : decode cL_kept 523 = .ok (.bipush 49, 2) := by decide +kernel
theorem dL_kept_525 : decode cL_kept 525 = .ok (.irem, 1) := by decide +kernel
theorem dL_kept_526 : decode cL_kept 526 = .ok (.istore 17, 2) := by decide +kernel
theorem dL_kept_528 : decode cL_kept 528 = .ok (.iload 5, 2) := by decide +kernel
theorem dL_kept_530 : decode cL_kept 530 = .ok (.ifCond .eq 79, 3) := by decide +kernel
theorem dL_kept_533 : decode cL_kept 533 = .ok (.aload_n 0, 1) := by decide +kernel
theorem dL_kept_534 : decode cL_kept 534 = .ok (.iload 11, 2) := by decide +kernel
theorem dL_kept_536 : decode cL_kept 536 = .ok (.iload 17, 2) := by decide +kernel
theorem dL_kept_538 : decode cL_kept 538 = .ok (.invokestatic 153, 3) := by decide +kernel
theorem dL_kept_541 : decode cL_kept 541 = .ok (.lconst 0, 1) := by decide +kernel
theorem dL_kept_542 : decode cL_kept 542 = .ok (.lcmp, 1) := by decide +kernel
theorem dL_kept_543 : decode cL_kept 543 = .ok (.ifCond .ne 7, 3) := by decide +kernel
theorem dL_kept_546 : decode cL_kept 546 = .ok (.iconst 1, 1) := by decide +kernel
theorem dL_kept_547 : decode cL_kept 547 = .ok (.goto 4, 3) := by decide +kernel
theorem dL_kept_550 : decode cL_kept 550 = .ok (.iconst 0, 1) := by decide +kernel
theorem dL_kept_551 : decode cL_kept 551 = .ok (.aload_n 0, 1) := by decide +kernel
theorem dL_kept_552 : decode cL_kept 552 = .ok (.iload 11, 2) := by decide +kernel
theorem dL_kept_554 : decode cL_kept 554 = .ok (.iload 17, 2) := by decide +kernel
theorem dL_kept_556 : decode cL_kept 556 = .ok (.invokestatic 151, 3) := by decide +kernel
theorem dL_kept_559 : decode cL_kept 559 = .ok (.lconst 1, 1) := by decide +kernel
theorem dL_kept_560 : decode cL_kept 560 = .ok (.lcmp, 1) := by decide +kernel
theorem dL_kept_561 : decode cL_kept 561 = .ok (.ifCond .ne 7, 3) := by decide +kernel
theorem dL_kept_564 : decode cL_kept 564 = .ok (.iconst 1, 1) := by decide +kernel
theorem dL_kept_565 : decode cL_kept 565 = .ok (.goto 4, 3) := by decide +kernel
theorem dL_kept_568 : decode cL_kept 568 = .ok (.iconst 0, 1) := by decide +kernel
theorem dL_kept_569 : decode cL_kept 569 = .ok (.if_icmp .ne 40, 3) := by decide +kernel
theorem dL_kept_572 : decode cL_kept 572 = .ok (.aload_n 0, 1) := by decide +kernel
theorem dL_kept_573 : decode cL_kept 573 = .ok (.iload 11, 2) := by decide +kernel
theorem dL_kept_575 : decode cL_kept 575 = .ok (.iload 17, 2) := by decide +kernel
theorem dL_kept_577 : decode cL_kept 577 = .ok (.invokestatic 153, 3) := by decide +kernel
theorem dL_kept_580 : decode cL_kept 580 = .ok (.lconst 1, 1) := by decide +kernel
theorem dL_kept_581 : decode cL_kept 581 = .ok (.lcmp, 1) := by decide +kernel
theorem dL_kept_582 : decode cL_kept 582 = .ok (.ifCond .ne 7, 3) := by decide +kernel
theorem dL_kept_585 : decode cL_kept 585 = .ok (.iconst 1, 1) := by decide +kernel
theorem dL_kept_586 : decode cL_kept 586 = .ok (.goto 4, 3) := by decide +kernel
theorem dL_kept_589 : decode cL_kept 589 = .ok (.iconst 0, 1) := by decide +kernel
theorem dL_kept_590 : decode cL_kept 590 = .ok (.lload 12, 2) := by decide +kernel
theorem dL_kept_592 : decode cL_kept 592 = .ok (.lconst 0, 1) := by decide +kernel
theorem dL_kept_593 : decode cL_kept 593 = .ok (.lcmp, 1) := by decide +kernel
theorem dL_kept_594 : decode cL_kept 594 = .ok (.ifCond .ne 7, 3) := by decide +kernel
theorem dL_kept_597 : decode cL_kept 597 = .ok (.iconst 1, 1) := by decide +kernel
theorem dL_kept_598 : decode cL_kept 598 = .ok (.goto 4, 3) := by decide +kernel
theorem dL_kept_601 : decode cL_kept 601 = .ok (.iconst 0, 1) := by decide +kernel
theorem dL_kept_602 : decode cL_kept 602 = .ok (.if_icmp .ne 7, 3) := by decide +kernel
theorem dL_kept_605 : decode cL_kept 605 = .ok (.iconst 1, 1) := by decide +kernel
theorem dL_kept_606 : decode cL_kept 606 = .ok (.goto 4, 3) := by decide +kernel
theorem dL_kept_609 : decode cL_kept 609 = .ok (.iconst 0, 1) := by decide +kernel
theorem dL_kept_610 : decode cL_kept 610 = .ok (.istore 5, 2) := by decide +kernel
theorem dL_kept_612 : decode cL_kept 612 = .ok (.iinc 11 1, 3) := by decide +kernel
theorem dL_kept_615 : decode cL_kept 615 = .ok (.goto (-372), 3) := by decide +kernel
theorem dL_kept_618 : decode cL_kept 618 = .ok (.iconst 0, 1) := by decide +kernel
theorem dL_kept_619 : decode cL_kept 619 = .ok (.istore 11, 2) := by decide +kernel
theorem dL_kept_621 : decode cL_kept 621 = .ok (.iload 11, 2) := by decide +kernel
theorem dL_kept_623 : decode cL_kept 623 = .ok (.iconst 2, 1) := by decide +kernel
theorem dL_kept_624 : decode cL_kept 624 = .ok (.if_icmp .ge 212, 3) := by decide +kernel
theorem dL_kept_627 : decode cL_kept 627 = .ok (.iload 5, 2) := by decide +kernel
theorem dL_kept_629 : decode cL_kept 629 = .ok (.ifCond .eq 207, 3) := by decide +kernel
theorem dL_kept_632 : decode cL_kept 632 = .ok (.aload_n 0, 1) := by decide +kernel
theorem dL_kept_633 : decode cL_kept 633 = .ok (.iload 11, 2) := by decide +kernel
theorem dL_kept_635 : decode cL_kept 635 = .ok (.invokestatic 158, 3) := by decide +kernel
theorem dL_kept_638 : decode cL_kept 638 = .ok (.l2i, 1) := by decide +kernel
theorem dL_kept_639 : decode cL_kept 639 = .ok (.istore 12, 2) := by decide +kernel
theorem dL_kept_641 : decode cL_kept 641 = .ok (.ldc2_w 230, 3) := by decide +kernel
theorem dL_kept_644 : decode cL_kept 644 = .ok (.lstore 13, 2) := by decide +kernel
theorem dL_kept_646 : decode cL_kept 646 = .ok (.aload_n 0, 1) := by decide +kernel
theorem dL_kept_647 : decode cL_kept 647 = .ok (.iload 11, 2) := by decide +kernel
theorem dL_kept_649 : decode cL_kept 649 = .ok (.invokestatic 161, 3) := by decide +kernel
theorem dL_kept_652 : decode cL_kept 652 = .ok (.iload 12, 2) := by decide +kernel
theorem dL_kept_654 : decode cL_kept 654 = .ok (.i2l, 1) := by decide +kernel
theorem dL_kept_655 : decode cL_kept 655 = .ok (.lcmp, 1) := by decide +kernel
theorem dL_kept_656 : decode cL_kept 656 = .ok (.ifCond .ne 41, 3) := by decide +kernel
theorem dL_kept_659 : decode cL_kept 659 = .ok (.aload_n 0, 1) := by decide +kernel
theorem dL_kept_660 : decode cL_kept 660 = .ok (.iload 11, 2) := by decide +kernel
theorem dL_kept_662 : decode cL_kept 662 = .ok (.invokestatic 170, 3) := by decide +kernel
theorem dL_kept_665 : decode cL_kept 665 = .ok (.lconst 0, 1) := by decide +kernel
theorem dL_kept_666 : decode cL_kept 666 = .ok (.iload 12, 2) := by decide +kernel
theorem dL_kept_668 : decode cL_kept 668 = .ok (.i2l, 1) := by decide +kernel
theorem dL_kept_669 : decode cL_kept 669 = .ok (.invokestatic 199, 3) := by decide +kernel
theorem dL_kept_672 : decode cL_kept 672 = .ok (.ifCond .eq 25, 3) := by decide +kernel
theorem dL_kept_675 : decode cL_kept 675 = .ok (.iload 12, 2) := by decide +kernel
theorem dL_kept_677 : decode cL_kept 677 = .ok (.ifCond .gt 16, 3) := by decide +kernel
theorem dL_kept_680 : decode cL_kept 680 = .ok (.aload_n 0, 1) := by decide +kernel
theorem dL_kept_681 : decode cL_kept 681 = .ok (.iload 11, 2) := by decide +kernel
theorem dL_kept_683 : decode cL_kept 683 = .ok (.invokestatic 175, 3) := by decide +kernel
theorem dL_kept_686 : decode cL_kept 686 = .ok (.ldc2_w 25, 3) := by decide +kernel
theorem dL_kept_689 : decode cL_kept 689 = .ok (.lcmp, 1) := by decide +kernel
theorem dL_kept_690 : decode cL_kept 690 = .ok (.ifCond .ne 7, 3) := by decide +kernel
theorem dL_kept_693 : decode cL_kept 693 = .ok (.iconst 1, 1) := by decide +kernel
theorem dL_kept_694 : decode cL_kept 694 = .ok (.goto 4, 3) := by decide +kernel
theorem dL_kept_697 : decode cL_kept 697 = .ok (.iconst 0, 1) := by decide +kernel
theorem dL_kept_698 : decode cL_kept 698 = .ok (.istore 5, 2) := by decide +kernel
theorem dL_kept_700 : decode cL_kept 700 = .ok (.iconst 0, 1) := by decide +kernel
theorem dL_kept_701 : decode cL_kept 701 = .ok (.istore 15, 2) := by decide +kernel
theorem dL_kept_703 : decode cL_kept 703 = .ok (.iload 15, 2) := by decide +kernel
theorem dL_kept_705 : decode cL_kept 705 = .ok (.iload 12, 2) := by decide +kernel
theorem dL_kept_707 : decode cL_kept 707 = .ok (.if_icmp .ge 116, 3) := by decide +kernel
theorem dL_kept_710 : decode cL_kept 710 = .ok (.iload 5, 2) := by decide +kernel
theorem dL_kept_712 : decode cL_kept 712 = .ok (.ifCond .eq 111, 3) := by decide +kernel
theorem dL_kept_715 : decode cL_kept 715 = .ok (.aload_n 0, 1) := by decide +kernel
theorem dL_kept_716 : decode cL_kept 716 = .ok (.iload 11, 2) := by decide +kernel
theorem dL_kept_718 : decode cL_kept 718 = .ok (.iload 15, 2) := by decide +kernel
theorem dL_kept_720 : decode cL_kept 720 = .ok (.invokestatic 173, 3) := by decide +kernel
theorem dL_kept_723 : decode cL_kept 723 = .ok (.lstore 16, 2) := by decide +kernel
theorem dL_kept_725 : decode cL_kept 725 = .ok (.lload 16, 2) := by decide +kernel
theorem dL_kept_727 : decode cL_kept 727 = .ok (.lload 13, 2) := by decide +kernel
theorem dL_kept_729 : decode cL_kept 729 = .ok (.lcmp, 1) := by decide +kernel
theorem dL_kept_730 : decode cL_kept 730 = .ok (.ifCond .le 71, 3) := by decide +kernel
theorem dL_kept_733 : decode cL_kept 733 = .ok (.aload_n 0, 1) := by decide +kernel
theorem dL_kept_734 : decode cL_kept 734 = .ok (.lload 16, 2) := by decide +kernel
theorem dL_kept_736 : decode cL_kept 736 = .ok (.l2i, 1) := by decide +kernel
theorem dL_kept_737 : decode cL_kept 737 = .ok (.bipush 49, 2) := by decide +kernel
theorem dL_kept_739 : decode cL_kept 739 = .ok (.idiv, 1) := by decide +kernel
theorem dL_kept_740 : decode cL_kept 740 = .ok (.lload 16, 2) := by decide +kernel
theorem dL_kept_742 : decode cL_kept 742 = .ok (.l2i, 1) := by decide +kernel
theorem dL_kept_743 : decode cL_kept 743 = .ok (.bipush 49, 2) := by decide +kernel
theorem dL_kept_745 : decode cL_kept 745 = .ok (.irem, 1) := by decide +kernel
theorem dL_kept_746 : decode cL_kept 746 = .ok (.invokestatic 151, 3) := by decide +kernel
theorem dL_kept_749 : decode cL_kept 749 = .ok (.lconst 1, 1) := by decide +kernel
theorem dL_kept_750 : decode cL_kept 750 = .ok (.lcmp, 1) := by decide +kernel
theorem dL_kept_751 : decode cL_kept 751 = .ok (.ifCond .ne 50, 3) := by decide +kernel
theorem dL_kept_754 : decode cL_kept 754 = .ok (.aload_n 0, 1) := by decide +kernel
theorem dL_kept_755 : decode cL_kept 755 = .ok (.lload 16, 2) := by decide +kernel
theorem dL_kept_757 : decode cL_kept 757 = .ok (.l2i, 1) := by decide +kernel
theorem dL_kept_758 : decode cL_kept 758 = .ok (.sipush 343, 3) := by decide +kernel
theorem dL_kept_761 : decode cL_kept 761 = .ok (.idiv, 1) := by decide +kernel
theorem dL_kept_762 : decode cL_kept 762 = .ok (.lload 16, 2) := by decide +kernel
theorem dL_kept_764 : decode cL_kept 764 = .ok (.l2i, 1) := by decide +kernel
theorem dL_kept_765 : decode cL_kept 765 = .ok (.bipush 49, 2) := by decide +kernel
theorem dL_kept_767 : decode cL_kept 767 = .ok (.idiv, 1) := by decide +kernel
theorem dL_kept_768 : decode cL_kept 768 = .ok (.bipush 7, 2) := by decide +kernel
theorem dL_kept_770 : decode cL_kept 770 = .ok (.irem, 1) := by decide +kernel
theorem dL_kept_771 : decode cL_kept 771 = .ok (.invokestatic 144, 3) := by decide +kernel
theorem dL_kept_774 : decode cL_kept 774 = .ok (.lconst 1, 1) := by decide +kernel
theorem dL_kept_775 : decode cL_kept 775 = .ok (.lcmp, 1) := by decide +kernel
theorem dL_kept_776 : decode cL_kept 776 = .ok (.ifCond .ne 7, 3) := by decide +kernel
theorem dL_kept_779 : decode cL_kept 779 = .ok (.iconst 1, 1) := by decide +kernel
theorem dL_kept_780 : decode cL_kept 780 = .ok (.goto 4, 3) := by decide +kernel
theorem dL_kept_783 : decode cL_kept 783 = .ok (.iconst 0, 1) := by decide +kernel
theorem dL_kept_784 : decode cL_kept 784 = .ok (.iload 11, 2) := by decide +kernel
theorem dL_kept_786 : decode cL_kept 786 = .ok (.ifCond .ne 7, 3) := by decide +kernel
theorem dL_kept_789 : decode cL_kept 789 = .ok (.iconst 1, 1) := by decide +kernel
theorem dL_kept_790 : decode cL_kept 790 = .ok (.goto 4, 3) := by decide +kernel
theorem dL_kept_793 : decode cL_kept 793 = .ok (.iconst 0, 1) := by decide +kernel
theorem dL_kept_794 : decode cL_kept 794 = .ok (.if_icmp .ne 7, 3) := by decide +kernel
theorem dL_kept_797 : decode cL_kept 797 = .ok (.iconst 1, 1) := by decide +kernel
theorem dL_kept_798 : decode cL_kept 798 = .ok (.goto 4, 3) := by decide +kernel
theorem dL_kept_801 : decode cL_kept 801 = .ok (.iconst 0, 1) := by decide +kernel
theorem dL_kept_802 : decode cL_kept 802 = .ok (.istore 5, 2) := by decide +kernel
theorem dL_kept_804 : decode cL_kept 804 = .ok (.lload 16, 2) := by decide +kernel
theorem dL_kept_806 : decode cL_kept 806 = .ok (.lstore 13, 2) := by decide +kernel
theorem dL_kept_808 : decode cL_kept 808 = .ok (.iload 15, 2) := by decide +kernel
theorem dL_kept_810 : decode cL_kept 810 = .ok (.iconst 1, 1) := by decide +kernel
theorem dL_kept_811 : decode cL_kept 811 = .ok (.iload 12, 2) := by decide +kernel
theorem dL_kept_813 : decode cL_kept 813 = .ok (.bipush 8, 2) := by decide +kernel
theorem dL_kept_815 : decode cL_kept 815 = .ok (.idiv, 1) := by decide +kernel
theorem dL_kept_816 : decode cL_kept 816 = .ok (.iadd, 1) := by decide +kernel
theorem dL_kept_817 : decode cL_kept 817 = .ok (.iadd, 1) := by decide +kernel
theorem dL_kept_818 : decode cL_kept 818 = .ok (.istore 15, 2) := by decide +kernel
theorem dL_kept_820 : decode cL_kept 820 = .ok (.goto (-117), 3) := by decide +kernel
theorem dL_kept_823 : decode cL_kept 823 = .ok (.aload 10, 2) := by decide +kernel
theorem dL_kept_825 : decode cL_kept 825 = .ok (.iload 11, 2) := by decide +kernel
theorem dL_kept_827 : decode cL_kept 827 = .ok (.iload 12, 2) := by decide +kernel
theorem dL_kept_829 : decode cL_kept 829 = .ok (.iastore, 1) := by decide +kernel
theorem dL_kept_830 : decode cL_kept 830 = .ok (.iinc 11 1, 3) := by decide +kernel
theorem dL_kept_833 : decode cL_kept 833 = .ok (.goto (-212), 3) := by decide +kernel
theorem dL_kept_836 : decode cL_kept 836 = .ok (.iload 5, 2) := by decide +kernel
theorem dL_kept_838 : decode cL_kept 838 = .ok (.ifCond .eq 40, 3) := by decide +kernel
theorem dL_kept_841 : decode cL_kept 841 = .ok (.lload 6, 2) := by decide +kernel
theorem dL_kept_843 : decode cL_kept 843 = .ok (.aload 10, 2) := by decide +kernel
theorem dL_kept_845 : decode cL_kept 845 = .ok (.iconst 0, 1) := by decide +kernel
theorem dL_kept_846 : decode cL_kept 846 = .ok (.iaload, 1) := by decide +kernel
theorem dL_kept_847 : decode cL_kept 847 = .ok (.aload 10, 2) := by decide +kernel
theorem dL_kept_849 : decode cL_kept 849 = .ok (.iconst 1, 1) := by decide +kernel
theorem dL_kept_850 : decode cL_kept 850 = .ok (.iaload, 1) := by decide +kernel
theorem dL_kept_851 : decode cL_kept 851 = .ok (.iadd, 1) := by decide +kernel
theorem dL_kept_852 : decode cL_kept 852 = .ok (.i2l, 1) := by decide +kernel
theorem dL_kept_853 : decode cL_kept 853 = .ok (.lcmp, 1) := by decide +kernel
theorem dL_kept_854 : decode cL_kept 854 = .ok (.ifCond .ne 24, 3) := by decide +kernel
theorem dL_kept_857 : decode cL_kept 857 = .ok (.lload 8, 2) := by decide +kernel
theorem dL_kept_859 : decode cL_kept 859 = .ok (.aload_n 0, 1) := by decide +kernel
theorem dL_kept_860 : decode cL_kept 860 = .ok (.iconst 0, 1) := by decide +kernel
theorem dL_kept_861 : decode cL_kept 861 = .ok (.invokestatic 146, 3) := by decide +kernel
theorem dL_kept_864 : decode cL_kept 864 = .ok (.aload_n 0, 1) := by decide +kernel
theorem dL_kept_865 : decode cL_kept 865 = .ok (.iconst 1, 1) := by decide +kernel
theorem dL_kept_866 : decode cL_kept 866 = .ok (.invokestatic 146, 3) := by decide +kernel
theorem dL_kept_869 : decode cL_kept 869 = .ok (.ladd, 1) := by decide +kernel
theorem dL_kept_870 : decode cL_kept 870 = .ok (.lcmp, 1) := by decide +kernel
theorem dL_kept_871 : decode cL_kept 871 = .ok (.ifCond .ne 7, 3) := by decide +kernel
theorem dL_kept_874 : decode cL_kept 874 = .ok (.iconst 1, 1) := by decide +kernel
theorem dL_kept_875 : decode cL_kept 875 = .ok (.goto 4, 3) := by decide +kernel
theorem dL_kept_878 : decode cL_kept 878 = .ok (.iconst 0, 1) := by decide +kernel
theorem dL_kept_879 : decode cL_kept 879 = .ok (.ireturn, 1) := by decide +kernel
theorem dL_isCorner_0 : decode cL_isCorner 0 = .ok (.iload_n 0, 1) := by decide +kernel
theorem dL_isCorner_1 : decode cL_isCorner 1 = .ok (.ifCond .eq 21, 3) := by decide +kernel
