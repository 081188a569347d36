theorem dL_newBoard_0 : decode cL_newBoard 0 = .ok (.aload_n 3, 1) := by decide +kernel
theorem dL_newBoard_1 : decode cL_newBoard 1 = .ok (.iconst 0, 1) := by decide +kernel
theorem dL_newBoard_2 : decode cL_newBoard 2 = .ok (.aload_n 0, 1) := by decide +kernel
theorem dL_newBoard_3 : decode cL_newBoard 3 = .ok (.iload_n 1, 1) := by decide +kernel
theorem dL_newBoard_4 : decode cL_newBoard 4 = .ok (.iload_n 2, 1) := by decide +kernel
theorem dL_newBoard_5 : decode cL_newBoard 5 = .ok (.invokevirtual 7, 3) := by decide +kernel
theorem dL_newBoard_8 : decode cL_newBoard 8 = .ok (.i2l, 1) := by decide +kernel
theorem dL_newBoard_9 : decode cL_newBoard 9 = .ok (.lastore, 1) := by decide +kernel
theorem dL_newBoard_10 : decode cL_newBoard 10 = .ok (.goto 7, 3) := by decide +kernel
theorem dL_newBoard_13 : decode cL_newBoard 13 = .ok (.astore 4, 2) := by decide +kernel
theorem dL_newBoard_15 : decode cL_newBoard 15 = .ok (.iconst 1, 1) := by decide +kernel
theorem dL_newBoard_16 : decode cL_newBoard 16 = .ok (.ireturn, 1) := by decide +kernel
theorem dL_newBoard_17 : decode cL_newBoard 17 = .ok (.iconst 0, 1) := by decide +kernel
theorem dL_newBoard_18 : decode cL_newBoard 18 = .ok (.ireturn, 1) := by decide +kernel
theorem dL_put_0 : decode cL_put 0 = .ok (.aload_n 3, 1) := by decide +kernel
theorem dL_put_1 : decode cL_put 1 = .ok (.iconst 0, 1) := by decide +kernel
theorem dL_put_2 : decode cL_put 2 = .ok (.aload_n 0, 1) := by decide +kernel
theorem dL_put_3 : decode cL_put 3 = .ok (.iload_n 1, 1) := by decide +kernel
theorem dL_put_4 : decode cL_put 4 = .ok (.iload_n 2, 1) := by decide +kernel
theorem dL_put_5 : decode cL_put 5 = .ok (.invokevirtual 15, 3) := by decide +kernel
theorem dL_put_8 : decode cL_put 8 = .ok (.i2l, 1) := by decide +kernel
theorem dL_put_9 : decode cL_put 9 = .ok (.lastore, 1) := by decide +kernel
theorem dL_put_10 : decode cL_put 10 = .ok (.goto 15, 3) := by decide +kernel
theorem dL_put_13 : decode cL_put 13 = .ok (.astore 4, 2) := by decide +kernel
theorem dL_put_15 : decode cL_put 15 = .ok (.iconst 1, 1) := by decide +kernel
theorem dL_put_16 : decode cL_put 16 = .ok (.ireturn, 1) := by decide +kernel
theorem dL_put_17 : decode cL_put 17 = .ok (.astore 4, 2) := by decide +kernel
theorem dL_put_19 : decode cL_put 19 = .ok (.iconst 2, 1) := by decide +kernel
theorem dL_put_20 : decode cL_put 20 = .ok (.ireturn, 1) := by decide +kernel
theorem dL_put_21 : decode cL_put 21 = .ok (.astore 4, 2) := by decide +kernel
theorem dL_put_23 : decode cL_put 23 = .ok (.iconst 3, 1) := by decide +kernel
theorem dL_put_24 : decode cL_put 24 = .ok (.ireturn, 1) := by decide +kernel
theorem dL_put_25 : decode cL_put 25 = .ok (.iconst 0, 1) := by decide +kernel
theorem dL_put_26 : decode cL_put 26 = .ok (.ireturn, 1) := by decide +kernel
theorem dL_setSide_0 : decode cL_setSide 0 = .ok (.aload_n 3, 1) := by decide +kernel
theorem dL_setSide_1 : decode cL_setSide 1 = .ok (.iconst 0, 1) := by decide +kernel
theorem dL_setSide_2 : decode cL_setSide 2 = .ok (.aload_n 0, 1) := by decide +kernel
theorem dL_setSide_3 : decode cL_setSide 3 = .ok (.iload_n 1, 1) := by decide +kernel
theorem dL_setSide_4 : decode cL_setSide 4 = .ok (.iload_n 2, 1) := by decide +kernel
theorem dL_setSide_5 : decode cL_setSide 5 = .ok (.invokevirtual 22, 3) := by decide +kernel
theorem dL_setSide_8 : decode cL_setSide 8 = .ok (.i2l, 1) := by decide +kernel
theorem dL_setSide_9 : decode cL_setSide 9 = .ok (.lastore, 1) := by decide +kernel
theorem dL_setSide_10 : decode cL_setSide 10 = .ok (.goto 11, 3) := by decide +kernel
theorem dL_setSide_13 : decode cL_setSide 13 = .ok (.astore 4, 2) := by decide +kernel
theorem dL_setSide_15 : decode cL_setSide 15 = .ok (.iconst 1, 1) := by decide +kernel
theorem dL_setSide_16 : decode cL_setSide 16 = .ok (.ireturn, 1) := by decide +kernel
theorem dL_setSide_17 : decode cL_setSide 17 = .ok (.astore 4, 2) := by decide +kernel
theorem dL_setSide_19 : decode cL_setSide 19 = .ok (.iconst 2, 1) := by decide +kernel
theorem dL_setSide_20 : decode cL_setSide 20 = .ok (.ireturn, 1) := by decide +kernel
theorem dL_setSide_21 : decode cL_setSide 21 = .ok (.iconst 0, 1) := by decide +kernel
theorem dL_setSide_22 : decode cL_setSide 22 = .ok (.ireturn, 1) := by decide +kernel
theorem dL_readPaper_0 : decode cL_readPaper 0 = .ok (.aload_n 1, 1) := by decide +kernel
theorem dL_readPaper_1 : decode cL_readPaper 1 = .ok (.iconst 0, 1) := by decide +kernel
theorem dL_readPaper_2 : decode cL_readPaper 2 = .ok (.aload_n 0, 1) := by decide +kernel
theorem dL_readPaper_3 : decode cL_readPaper 3 = .ok (.invokevirtual 26, 3) := by decide +kernel
theorem dL_readPaper_6 : decode cL_readPaper 6 = .ok (.i2l, 1) := by decide +kernel
theorem dL_readPaper_7 : decode cL_readPaper 7 = .ok (.lastore, 1) := by decide +kernel
theorem dL_readPaper_8 : decode cL_readPaper 8 = .ok (.goto 9, 3) := by decide +kernel
theorem dL_readPaper_11 : decode cL_readPaper 11 = .ok (.astore_n 2, 1) := by decide +kernel
theorem dL_readPaper_12 : decode cL_readPaper 12 = .ok (.iconst 1, 1) := by decide +kernel
theorem dL_readPaper_13 : decode cL_readPaper 13 = .ok (.ireturn, 1) := by decide +kernel
theorem dL_readPaper_14 : decode cL_readPaper 14 = .ok (.astore_n 2, 1) := by decide +kernel
theorem dL_readPaper_15 : decode cL_readPaper 15 = .ok (.iconst 2, 1) := by decide +kernel
theorem dL_readPaper_16 : decode cL_readPaper 16 = .ok (.ireturn, 1) := by decide +kernel
theorem dL_readPaper_17 : decode cL_readPaper 17 = .ok (.iconst 0, 1) := by decide +kernel
theorem dL_readPaper_18 : decode cL_readPaper 18 = .ok (.ireturn, 1) := by decide +kernel
theorem dL_pieceAt_0 : decode cL_pieceAt 0 = .ok (.aload_n 2, 1) := by decide +kernel
theorem dL_pieceAt_1 : decode cL_pieceAt 1 = .ok (.iconst 0, 1) := by decide +kernel
theorem dL_pieceAt_2 : decode cL_pieceAt 2 = .ok (.aload_n 0, 1) := by decide +kernel
theorem dL_pieceAt_3 : decode cL_pieceAt 3 = .ok (.iload_n 1, 1) := by decide +kernel
theorem dL_pieceAt_4 : decode cL_pieceAt 4 = .ok (.invokevirtual 30, 3) := by decide +kernel
theorem dL_pieceAt_7 : decode cL_pieceAt 7 = .ok (.i2l, 1) := by decide +kernel
theorem dL_pieceAt_8 : decode cL_pieceAt 8 = .ok (.lastore, 1) := by decide +kernel
theorem dL_pieceAt_9 : decode cL_pieceAt 9 = .ok (.goto 6, 3) := by decide +kernel
theorem dL_pieceAt_12 : decode cL_pieceAt 12 = .ok (.astore_n 3, 1) := by decide +kernel
theorem dL_pieceAt_13 : decode cL_pieceAt 13 = .ok (.iconst 1, 1) := by decide +kernel
theorem dL_pieceAt_14 : decode cL_pieceAt 14 = .ok (.ireturn, 1) := by decide +kernel
theorem dL_pieceAt_15 : decode cL_pieceAt 15 = .ok (.iconst 0, 1) := by decide +kernel
theorem dL_pieceAt_16 : decode cL_pieceAt 16 = .ok (.ireturn, 1) := by decide +kernel
theorem dL_isAttacked_0 : decode cL_isAttacked 0 = .ok (.aload_n 3, 1) := by decide +kernel
theorem dL_isAttacked_1 : decode cL_isAttacked 1 = .ok (.iconst 0, 1) := by decide +kernel
theorem dL_isAttacked_2 : decode cL_isAttacked 2 = .ok (.aload_n 0, 1) := by decide +kernel
theorem dL_isAttacked_3 : decode cL_isAttacked 3 = .ok (.iload_n 1, 1) := by decide +kernel
theorem dL_isAttacked_4 : decode cL_isAttacked 4 = .ok (.iload_n 2, 1) := by decide +kernel
theorem dL_isAttacked_5 : decode cL_isAttacked 5 = .ok (.invokevirtual 34, 3) := by decide +kernel
theorem dL_isAttacked_8 : decode cL_isAttacked 8 = .ok (.ifCond .eq 7, 3) := by decide +kernel
theorem dL_isAttacked_11 : decode cL_isAttacked 11 = .ok (.lconst 1, 1) := by decide +kernel
theorem dL_isAttacked_12 : decode cL_isAttacked 12 = .ok (.goto 4, 3) := by decide +kernel
theorem dL_isAttacked_15 : decode cL_isAttacked 15 = .ok (.lconst 0, 1) := by decide +kernel
theorem dL_isAttacked_16 : decode cL_isAttacked 16 = .ok (.lastore, 1) := by decide +kernel
theorem dL_isAttacked_17 : decode cL_isAttacked 17 = .ok (.goto 7, 3) := by decide +kernel
theorem dL_isAttacked_20 : decode cL_isAttacked 20 = .ok (.astore 4, 2) := by decide +kernel
theorem dL_isAttacked_22 : decode cL_isAttacked 22 = .ok (.iconst 1, 1) := by decide +kernel
theorem dL_isAttacked_23 : decode cL_isAttacked 23 = .ok (.ireturn, 1) := by decide +kernel
theorem dL_isAttacked_24 : decode cL_isAttacked 24 = .ok (.iconst 0, 1) := by decide +kernel
theorem dL_isAttacked_25 : decode cL_isAttacked 25 = .ok (.ireturn, 1) := by decide +kernel
theorem dL_checkers_0 : decode cL_checkers 0 = .ok (.aload_n 1, 1) := by decide +kernel
theorem dL_checkers_1 : decode cL_checkers 1 = .ok (.iconst 0, 1) := by decide +kernel
theorem dL_checkers_2 : decode cL_checkers 2 = .ok (.aload_n 0, 1) := by decide +kernel
theorem dL_checkers_3 : decode cL_checkers 3 = .ok (.invokevirtual 38, 3) := by decide +kernel
theorem dL_checkers_6 : decode cL_checkers 6 = .ok (.i2l, 1) := by decide +kernel
theorem dL_checkers_7 : decode cL_checkers 7 = .ok (.lastore, 1) := by decide +kernel
theorem dL_checkers_8 : decode cL_checkers 8 = .ok (.goto 6, 3) := by decide +kernel
theorem dL_checkers_11 : decode cL_checkers 11 = .ok (.astore_n 2, 1) := by decide +kernel
theorem dL_checkers_12 : decode cL_checkers 12 = .ok (.iconst 1, 1) := by decide +kernel
theorem dL_checkers_13 : decode cL_checkers 13 = .ok (.ireturn, 1) := by decide +kernel
theorem dL_checkers_14 : decode cL_checkers 14 = .ok (.iconst 0, 1) := by decide +kernel
theorem dL_checkers_15 : decode cL_checkers 15 = .ok (.ireturn, 1) := by decide +kernel
theorem dL_isPinned_0 : decode cL_isPinned 0 = .ok (.aload_n 2, 1) := by decide +kernel
theorem dL_isPinned_1 : decode cL_isPinned 1 = .ok (.iconst 0, 1) := by decide +kernel
theorem dL_isPinned_2 : decode cL_isPinned 2 = .ok (.aload_n 0, 1) := by decide +kernel
theorem dL_isPinned_3 : decode cL_isPinned 3 = .ok (.iload_n 1, 1) := by decide +kernel
theorem dL_isPinned_4 : decode cL_isPinned 4 = .ok (.invokevirtual 41, 3) := by decide +kernel
theorem dL_isPinned_7 : decode cL_isPinned 7 = .ok (.ifCond .eq 7, 3) := by decide +kernel
theorem dL_isPinned_10 : decode cL_isPinned 10 = .ok (.lconst 1, 1) := by decide +kernel
theorem dL_isPinned_11 : decode cL_isPinned 11 = .ok (.goto 4, 3) := by decide +kernel
theorem dL_isPinned_14 : decode cL_isPinned 14 = .ok (.lconst 0, 1) := by decide +kernel
theorem dL_isPinned_15 : decode cL_isPinned 15 = .ok (.lastore, 1) := by decide +kernel
theorem dL_isPinned_16 : decode cL_isPinned 16 = .ok (.goto 9, 3) := by decide +kernel
theorem dL_isPinned_19 : decode cL_isPinned 19 = .ok (.astore_n 3, 1) := by decide +kernel
theorem dL_isPinned_20 : decode cL_isPinned 20 = .ok (.iconst 1, 1) := by decide +kernel
theorem dL_isPinned_21 : decode cL_isPinned 21 = .ok (.ireturn, 1) := by decide +kernel
theorem dL_isPinned_22 : decode cL_isPinned 22 = .ok (.astore_n 3, 1) := by decide +kernel
theorem dL_isPinned_23 : decode cL_isPinned 23 = .ok (.iconst 2, 1) := by decide +kernel
theorem dL_isPinned_24 : decode cL_isPinned 24 = .ok (.ireturn, 1) := by decide +kernel
theorem dL_isPinned_25 : decode cL_isPinned 25 = .ok (.iconst 0, 1) := by decide +kernel
theorem dL_isPinned_26 : decode cL_isPinned 26 = .ok (.ireturn, 1) := by decide +kernel
theorem dL_outputByte_0 : decode cL_outputByte 0 = .ok (.aload_n 2, 1) := by decide +kernel
theorem dL_outputByte_1 : decode cL_outputByte 1 = .ok (.iconst 0, 1) := by decide +kernel
theorem dL_outputByte_2 : decode cL_outputByte 2 = .ok (.aload_n 0, 1) := by decide +kernel
theorem dL_outputByte_3 : decode cL_outputByte 3 = .ok (.iload_n 1, 1) := by decide +kernel
theorem dL_outputByte_4 : decode cL_outputByte 4 = .ok (.invokevirtual 45, 3) := by decide +kernel
theorem dL_outputByte_7 : decode cL_outputByte 7 = .ok (.i2l, 1) := by decide +kernel
theorem dL_outputByte_8 : decode cL_outputByte 8 = .ok (.lastore, 1) := by decide +kernel
theorem dL_outputByte_9 : decode cL_outputByte 9 = .ok (.goto 6, 3) := by decide +kernel
theorem dL_outputByte_12 : decode cL_outputByte 12 = .ok (.astore_n 3, 1) := by decide +kernel
theorem dL_outputByte_13 : decode cL_outputByte 13 = .ok (.iconst 1, 1) := by decide +kernel
theorem dL_outputByte_14 : decode cL_outputByte 14 = .ok (.ireturn, 1) := by decide +kernel
theorem dL_outputByte_15 : decode cL_outputByte 15 = .ok (.iconst 0, 1) := by decide +kernel
theorem dL_outputByte_16 : decode cL_outputByte 16 = .ok (.ireturn, 1) := by decide +kernel
theorem dL_isOpenFile_0 : decode cL_isOpenFile 0 = .ok (.aload_n 2, 1) := by decide +kernel
theorem dL_isOpenFile_1 : decode cL_isOpenFile 1 = .ok (.iconst 0, 1) := by decide +kernel
theorem dL_isOpenFile_2 : decode cL_isOpenFile 2 = .ok (.aload_n 0, 1) := by decide +kernel
theorem dL_isOpenFile_3 : decode cL_isOpenFile 3 = .ok (.iload_n 1, 1) := by decide +kernel
theorem dL_isOpenFile_4 : decode cL_isOpenFile 4 = .ok (.invokevirtual 48, 3) := by decide +kernel
theorem dL_isOpenFile_7 : decode cL_isOpenFile 7 = .ok (.ifCond .eq 7, 3) := by decide +kernel
theorem dL_isOpenFile_10 : decode cL_isOpenFile 10 = .ok (.lconst 1, 1) := by decide +kernel
theorem dL_isOpenFile_11 : decode cL_isOpenFile 11 = .ok (.goto 4, 3) := by decide +kernel
theorem dL_isOpenFile_14 : decode cL_isOpenFile 14 = .ok (.lconst 0, 1) := by decide +kernel
theorem dL_isOpenFile_15 : decode cL_isOpenFile 15 = .ok (.lastore, 1) := by decide +kernel
theorem dL_isOpenFile_16 : decode cL_isOpenFile 16 = .ok (.goto 6, 3) := by decide +kernel
theorem dL_isOpenFile_19 : decode cL_isOpenFile 19 = .ok (.astore_n 3, 1) := by decide +kernel
theorem dL_isOpenFile_20 : decode cL_isOpenFile 20 = .ok (.iconst 1, 1) := by decide +kernel
theorem dL_isOpenFile_21 : decode cL_isOpenFile 21 = .ok (.ireturn, 1) := by decide +kernel
theorem dL_isOpenFile_22 : decode cL_isOpenFile 22 = .ok (.iconst 0, 1) := by decide +kernel
theorem dL_isOpenFile_23 : decode cL_isOpenFile 23 = .ok (.ireturn, 1) := by decide +kernel
theorem dL_moveCount_0 : decode cL_moveCount 0 = .ok (.aload_n 1, 1) := by decide +kernel
theorem dL_moveCount_1 : decode cL_moveCount 1 = .ok (.iconst 0, 1) := by decide +kernel
theorem dL_moveCount_2 : decode cL_moveCount 2 = .ok (.aload_n 0, 1) := by decide +kernel
theorem dL_moveCount_3 : decode cL_moveCount 3 = .ok (.invokevirtual 51, 3) := by decide +kernel
theorem dL_moveCount_6 : decode cL_moveCount 6 = .ok (.i2l, 1) := by decide +kernel
theorem dL_moveCount_7 : decode cL_moveCount 7 = .ok (.lastore, 1) := by decide +kernel
theorem dL_moveCount_8 : decode cL_moveCount 8 = .ok (.goto 6, 3) := by decide +kernel
theorem dL_moveCount_11 : decode cL_moveCount 11 = .ok (.astore_n 2, 1) := by decide +kernel
theorem dL_moveCount_12 : decode cL_moveCount 12 = .ok (.iconst 1, 1) := by decide +kernel
theorem dL_moveCount_13 : decode cL_moveCount 13 = .ok (.ireturn, 1) := by decide +kernel
theorem dL_moveCount_14 : decode cL_moveCount 14 = .ok (.iconst 0, 1) := by decide +kernel
theorem dL_moveCount_15 : decode cL_moveCount 15 = .ok (.ireturn, 1) := by decide +kernel
theorem dL_moveFrom_0 : decode cL_moveFrom 0 = .ok (.aload_n 2, 1) := by decide +kernel
theorem dL_moveFrom_1 : decode cL_moveFrom 1 = .ok (.iconst 0, 1) := by decide +kernel
theorem dL_moveFrom_2 : decode cL_moveFrom 2 = .ok (.aload_n 0, 1) := by decide +kernel
theorem dL_moveFrom_3 : decode cL_moveFrom 3 = .ok (.iload_n 1, 1) := by decide +kernel
theorem dL_moveFrom_4 : decode cL_moveFrom 4 = .ok (.invokevirtual 54, 3) := by decide +kernel
theorem dL_moveFrom_7 : decode cL_moveFrom 7 = .ok (.i2l, 1) := by decide +kernel
theorem dL_moveFrom_8 : decode cL_moveFrom 8 = .ok (.lastore, 1) := by decide +kernel
theorem dL_moveFrom_9 : decode cL_moveFrom 9 = .ok (.goto 9, 3) := by decide +kernel
theorem dL_moveFrom_12 : decode cL_moveFrom 12 = .ok (.astore_n 3, 1) := by decide +kernel
theorem dL_moveFrom_13 : decode cL_moveFrom 13 = .ok (.iconst 1, 1) := by decide +kernel
theorem dL_moveFrom_14 : decode cL_moveFrom 14 = .ok (.ireturn, 1) := by decide +kernel
theorem dL_moveFrom_15 : decode cL_moveFrom 15 = .ok (.astore_n 3, 1) := by decide +kernel
theorem dL_moveFrom_16 : decode cL_moveFrom 16 = .ok (.iconst 2, 1) := by decide +kernel
theorem dL_moveFrom_17 : decode cL_moveFrom 17 = .ok (.ireturn, 1) := by decide +kernel
theorem dL_moveFrom_18 : decode cL_moveFrom 18 = .ok (.iconst 0, 1) := by decide +kernel
theorem dL_moveFrom_19 : decode cL_moveFrom 19 = .ok (.ireturn, 1) := by decide +kernel
theorem dL_moveTo_0 : decode cL_moveTo 0 = .ok (.aload_n 2, 1) := by decide +kernel
theorem dL_moveTo_1 : decode cL_moveTo 1 = .ok (.iconst 0, 1) := by decide +kernel
theorem dL_moveTo_2 : decode cL_moveTo 2 = .ok (.aload_n 0, 1) := by decide +kernel
theorem dL_moveTo_3 : decode cL_moveTo 3 = .ok (.iload_n 1, 1) := by decide +kernel
theorem dL_moveTo_4 : decode cL_moveTo 4 = .ok (.invokevirtual 57, 3) := by decide +kernel
theorem dL_moveTo_7 : decode cL_moveTo 7 = .ok (.i2l, 1) := by decide +kernel
theorem dL_moveTo_8 : decode cL_moveTo 8 = .ok (.lastore, 1) := by decide +kernel
theorem dL_moveTo_9 : decode cL_moveTo 9 = .ok (.goto 9, 3) := by decide +kernel
theorem dL_moveTo_12 : decode cL_moveTo 12 = .ok (.astore_n 3, 1) := by decide +kernel
theorem dL_moveTo_13 : decode cL_moveTo 13 = .ok (.iconst 1, 1) := by decide +kernel
theorem dL_moveTo_14 : decode cL_moveTo 14 = .ok (.ireturn, 1) := by decide +kernel
theorem dL_moveTo_15 : decode cL_moveTo 15 = .ok (.astore_n 3, 1) := by decide +kernel
theorem dL_moveTo_16 : decode cL_moveTo 16 = .ok (.iconst 2, 1) := by decide +kernel
theorem dL_moveTo_17 : decode cL_moveTo 17 = .ok (.ireturn, 1) := by decide +kernel
theorem dL_moveTo_18 : decode cL_moveTo 18 = .ok (.iconst 0, 1) := by decide +kernel
theorem dL_moveTo_19 : decode cL_moveTo 19 = .ok (.ireturn, 1) := by decide +kernel
theorem dL_moveBecomes_0 : decode cL_moveBecomes 0 = .ok (.aload_n 2, 1) := by decide +kernel
theorem dL_moveBecomes_1 : decode cL_moveBecomes 1 = .ok (.iconst 0, 1) := by decide +kernel
theorem dL_moveBecomes_2 : decode cL_moveBecomes 2 = .ok (.aload_n 0, 1) := by decide +kernel
theorem dL_moveBecomes_3 : decode cL_moveBecomes 3 = .ok (.iload_n 1, 1) := by decide +kernel
theorem dL_moveBecomes_4 : decode cL_moveBecomes 4 = .ok (.invokevirtual 60, 3) := by decide +kernel
theorem dL_moveBecomes_7 : decode cL_moveBecomes 7 = .ok (.i2l, 1) := by decide +kernel
theorem dL_moveBecomes_8 : decode cL_moveBecomes 8 = .ok (.lastore, 1) := by decide +kernel
theorem dL_moveBecomes_9 : decode cL_moveBecomes 9 = .ok (.goto 9, 3) := by decide +kernel
theorem dL_moveBecomes_12 : decode cL_moveBecomes 12 = .ok (.astore_n 3, 1) := by decide +kernel
theorem dL_moveBecomes_13 : decode cL_moveBecomes 13 = .ok (.iconst 1, 1) := by decide +kernel
theorem dL_moveBecomes_14 : decode cL_moveBecomes 14 = .ok (.ireturn, 1) := by decide +kernel
theorem dL_moveBecomes_15 : decode cL_moveBecomes 15 = .ok (.astore_n 3, 1) := by decide +kernel
theorem dL_moveBecomes_16 : decode cL_moveBecomes 16 = .ok (.iconst 2, 1) := by decide +kernel
theorem dL_moveBecomes_17 : decode cL_moveBecomes 17 = .ok (.ireturn, 1) := by decide +kernel
theorem dL_moveBecomes_18 : decode cL_moveBecomes 18 = .ok (.iconst 0, 1) := by decide +kernel
theorem dL_moveBecomes_19 : decode cL_moveBecomes 19 = .ok (.ireturn, 1) := by decide +kernel
theorem dL_writeMove_0 : decode cL_writeMove 0 = .ok (.aload_n 2, 1) := by decide +kernel
theorem dL_writeMove_1 : decode cL_writeMove 1 = .ok (.iconst 0, 1) := by decide +kernel
theorem dL_writeMove_2 : decode cL_writeMove 2 = .ok (.aload_n 0, 1) := by decide +kernel
theorem dL_writeMove_3 : decode cL_writeMove 3 = .ok (.iload_n 1, 1) := by decide +kernel
theorem dL_writeMove_4 : decode cL_writeMove 4 = .ok (.invokevirtual 63, 3) := by decide +kernel
theorem dL_writeMove_7 : decode cL_writeMove 7 = .ok (.i2l, 1) := by decide +kernel
theorem dL_writeMove_8 : decode cL_writeMove 8 = .ok (.lastore, 1) := by decide +kernel
theorem dL_writeMove_9 : decode cL_writeMove 9 = .ok (.goto 9, 3) := by decide +kernel
theorem dL_writeMove_12 : decode cL_writeMove 12 = .ok (.astore_n 3, 1) := by decide +kernel
theorem dL_writeMove_13 : decode cL_writeMove 13 = .ok (.iconst 1, 1) := by decide +kernel
theorem dL_writeMove_14 : decode cL_writeMove 14 = .ok (.ireturn, 1) := by decide +kernel
theorem dL_writeMove_15 : decode cL_writeMove 15 = .ok (.astore_n 3, 1) := by decide +kernel
theorem dL_writeMove_16 : decode cL_writeMove 16 = .ok (.iconst 2, 1) := by decide +kernel
theorem dL_writeMove_17 : decode cL_writeMove 17 = .ok (.ireturn, 1) := by decide +kernel
theorem dL_writeMove_18 : decode cL_writeMove 18 = .ok (.iconst 0, 1) := by decide +kernel
theorem dL_writeMove_19 : decode cL_writeMove 19 = .ok (.ireturn, 1) := by decide +kernel
theorem dL_play_0 : decode cL_play 0 = .ok (.aload_n 2, 1) := by decide +kernel
theorem dL_play_1 : decode cL_play 1 = .ok (.iconst 0, 1) := by decide +kernel
theorem dL_play_2 : decode cL_play 2 = .ok (.aload_n 0, 1) := by decide +kernel
theorem dL_play_3 : decode cL_play 3 = .ok (.iload_n 1, 1) := by decide +kernel
theorem dL_play_4 : decode cL_play 4 = .ok (.invokevirtual 66, 3) := by decide +kernel
theorem dL_play_7 : decode cL_play 7 = .ok (.i2l, 1) := by decide +kernel
theorem dL_play_8 : decode cL_play 8 = .ok (.lastore, 1) := by decide +kernel
theorem dL_play_9 : decode cL_play 9 = .ok (.goto 9, 3) := by decide +kernel
theorem dL_play_12 : decode cL_play 12 = .ok (.astore_n 3, 1) := by decide +kernel
theorem dL_play_13 : decode cL_play 13 = .ok (.iconst 1, 1) := by decide +kernel
theorem dL_play_14 : decode cL_play 14 = .ok (.ireturn, 1) := by decide +kernel
theorem dL_play_15 : decode cL_play 15 = .ok (.astore_n 3, 1) := by decide +kernel
theorem dL_play_16 : decode cL_play 16 = .ok (.iconst 2, 1) := by decide +kernel
theorem dL_play_17 : decode cL_play 17 = .ok (.ireturn, 1) := by decide +kernel
theorem dL_play_18 : decode cL_play 18 = .ok (.iconst 0, 1) := by decide +kernel
theorem dL_play_19 : decode cL_play 19 = .ok (.ireturn, 1) := by decide +kernel
theorem dL_takeBack_0 : decode cL_takeBack 0 = .ok (.aload_n 1, 1) := by decide +kernel
theorem dL_takeBack_1 : decode cL_takeBack 1 = .ok (.iconst 0, 1) := by decide +kernel
theorem dL_takeBack_2 : decode cL_takeBack 2 = .ok (.aload_n 0, 1) := by decide +kernel
theorem dL_takeBack_3 : decode cL_takeBack 3 = .ok (.invokevirtual 69, 3) := by decide +kernel
theorem dL_takeBack_6 : decode cL_takeBack 6 = .ok (.i2l, 1) := by decide +kernel
theorem dL_takeBack_7 : decode cL_takeBack 7 = .ok (.lastore, 1) := by decide +kernel
theorem dL_takeBack_8 : decode cL_takeBack 8 = .ok (.goto 6, 3) := by decide +kernel
theorem dL_takeBack_11 : decode cL_takeBack 11 = .ok (.astore_n 2, 1) := by decide +kernel
theorem dL_takeBack_12 : decode cL_takeBack 12 = .ok (.iconst 1, 1) := by decide +kernel
theorem dL_takeBack_13 : decode cL_takeBack 13 = .ok (.ireturn, 1) := by decide +kernel
theorem dL_takeBack_14 : decode cL_takeBack 14 = .ok (.iconst 0, 1) := by decide +kernel
theorem dL_takeBack_15 : decode cL_takeBack 15 = .ok (.ireturn, 1) := by decide +kernel
theorem dL_state_0 : decode cL_state 0 = .ok (.aload_n 1, 1) := by decide +kernel
theorem dL_state_1 : decode cL_state 1 = .ok (.iconst 0, 1) := by decide +kernel
theorem dL_state_2 : decode cL_state 2 = .ok (.aload_n 0, 1) := by decide +kernel
theorem dL_state_3 : decode cL_state 3 = .ok (.invokevirtual 72, 3) := by decide +kernel
theorem dL_state_6 : decode cL_state 6 = .ok (.i2l, 1) := by decide +kernel
theorem dL_state_7 : decode cL_state 7 = .ok (.lastore, 1) := by decide +kernel
theorem dL_state_8 : decode cL_state 8 = .ok (.goto 6, 3) := by decide +kernel
theorem dL_state_11 : decode cL_state 11 = .ok (.astore_n 2, 1) := by decide +kernel
theorem dL_state_12 : decode cL_state 12 = .ok (.iconst 1, 1) := by decide +kernel
theorem dL_state_13 : decode cL_state 13 = .ok (.ireturn, 1) := by decide +kernel
theorem dL_state_14 : decode cL_state 14 = .ok (.iconst 0, 1) := by decide +kernel
theorem dL_state_15 : decode cL_state 15 = .ok (.ireturn, 1) := by decide +kernel
theorem dL_countMoves_0 : decode cL_countMoves 0 = .ok (.aload_n 3, 1) := by decide +kernel
theorem dL_countMoves_1 : decode cL_countMoves 1 = .ok (.iconst 0, 1) := by decide +kernel
theorem dL_countMoves_2 : decode cL_countMoves 2 = .ok (.aload_n 0, 1) := by decide +kernel
theorem dL_countMoves_3 : decode cL_countMoves 3 = .ok (.iload_n 1, 1) := by decide +kernel
theorem dL_countMoves_4 : decode cL_countMoves 4 = .ok (.iload_n 2, 1) := by decide +kernel
theorem dL_countMoves_5 : decode cL_countMoves 5 = .ok (.invokevirtual 75, 3) := by decide +kernel
theorem dL_countMoves_8 : decode cL_countMoves 8 = .ok (.i2l, 1) := by decide +kernel
theorem dL_countMoves_9 : decode cL_countMoves 9 = .ok (.lastore, 1) := by decide +kernel
theorem dL_countMoves_10 : decode cL_countMoves 10 = .ok (.goto 11, 3) := by decide +kernel
theorem dL_countMoves_13 : decode cL_countMoves 13 = .ok (.astore 4, 2) := by decide +kernel
theorem dL_countMoves_15 : decode cL_countMoves 15 = .ok (.iconst 1, 1) := by decide +kernel
theorem dL_countMoves_16 : decode cL_countMoves 16 = .ok (.ireturn, 1) := by decide +kernel
theorem dL_countMoves_17 : decode cL_countMoves 17 = .ok (.astore 4, 2) := by decide +kernel
theorem dL_countMoves_19 : decode cL_countMoves 19 = .ok (.iconst 2, 1) := by decide +kernel
theorem dL_countMoves_20 : decode cL_countMoves 20 = .ok (.ireturn, 1) := by decide +kernel
theorem dL_countMoves_21 : decode cL_countMoves 21 = .ok (.iconst 0, 1) := by decide +kernel
theorem dL_countMoves_22 : decode cL_countMoves 22 = .ok (.ireturn, 1) := by decide +kernel
theorem dL_type_0 : decode cL_type 0 = .ok (.aload_n 3, 1) := by decide +kernel
theorem dL_type_1 : decode cL_type 1 = .ok (.iconst 0, 1) := by decide +kernel
theorem dL_type_2 : decode cL_type 2 = .ok (.aload_n 0, 1) := by decide +kernel
theorem dL_type_3 : decode cL_type 3 = .ok (.lload_n 1, 1) := by decide +kernel
theorem dL_type_4 : decode cL_type 4 = .ok (.invokevirtual 79, 3) := by decide +kernel
theorem dL_type_7 : decode cL_type 7 = .ok (.i2l, 1) := by decide +kernel
theorem dL_type_8 : decode cL_type 8 = .ok (.lastore, 1) := by decide +kernel
theorem dL_type_9 : decode cL_type 9 = .ok (.goto 11, 3) := by decide +kernel
theorem dL_type_12 : decode cL_type 12 = .ok (.astore 4, 2) := by decide +kernel
theorem dL_type_14 : decode cL_type 14 = .ok (.iconst 1, 1) := by decide +kernel
theorem dL_type_15 : decode cL_type 15 = .ok (.ireturn, 1) := by decide +kernel
theorem dL_type_16 : decode cL_type 16 = .ok (.astore 4, 2) := by decide +kernel
theorem dL_type_18 : decode cL_type 18 = .ok (.iconst 2, 1) := by decide +kernel
theorem dL_type_19 : decode cL_type 19 = .ok (.ireturn, 1) := by decide +kernel
theorem dL_type_20 : decode cL_type 20 = .ok (.iconst 0, 1) := by decide +kernel
theorem dL_type_21 : decode cL_type 21 = .ok (.ireturn, 1) := by decide +kernel
theorem dL_fault_0 : decode cL_fault 0 = .ok (.aload_n 1, 1) := by decide +kernel
theorem dL_fault_1 : decode cL_fault 1 = .ok (.iconst 0, 1) := by decide +kernel
theorem dL_fault_2 : decode cL_fault 2 = .ok (.aload_n 0, 1) := by decide +kernel
theorem dL_fault_3 : decode cL_fault 3 = .ok (.invokevirtual 83, 3) := by decide +kernel
theorem dL_fault_6 : decode cL_fault 6 = .ok (.i2l, 1) := by decide +kernel
theorem dL_fault_7 : decode cL_fault 7 = .ok (.lastore, 1) := by decide +kernel
theorem dL_fault_8 : decode cL_fault 8 = .ok (.goto 6, 3) := by decide +kernel
theorem dL_fault_11 : decode cL_fault 11 = .ok (.astore_n 2, 1) := by decide +kernel
theorem dL_fault_12 : decode cL_fault 12 = .ok (.iconst 1, 1) := by decide +kernel
theorem dL_fault_13 : decode cL_fault 13 = .ok (.ireturn, 1) := by decide +kernel
theorem dL_fault_14 : decode cL_fault 14 = .ok (.iconst 0, 1) := by decide +kernel
theorem dL_fault_15 : decode cL_fault 15 = .ok (.ireturn, 1) := by decide +kernel
theorem dL_readMoves_0 : decode cL_readMoves 0 = .ok (.aload_n 1, 1) := by decide +kernel
theorem dL_readMoves_1 : decode cL_readMoves 1 = .ok (.iconst 0, 1) := by decide +kernel
theorem dL_readMoves_2 : decode cL_readMoves 2 = .ok (.aload_n 0, 1) := by decide +kernel
theorem dL_readMoves_3 : decode cL_readMoves 3 = .ok (.invokevirtual 86, 3) := by decide +kernel
theorem dL_readMoves_6 : decode cL_readMoves 6 = .ok (.i2l, 1) := by decide +kernel
theorem dL_readMoves_7 : decode cL_readMoves 7 = .ok (.lastore, 1) := by decide +kernel
theorem dL_readMoves_8 : decode cL_readMoves 8 = .ok (.goto 9, 3) := by decide +kernel
theorem dL_readMoves_11 : decode cL_readMoves 11 = .ok (.astore_n 2, 1) := by decide +kernel
theorem dL_readMoves_12 : decode cL_readMoves 12 = .ok (.iconst 1, 1) := by decide +kernel
theorem dL_readMoves_13 : decode cL_readMoves 13 = .ok (.ireturn, 1) := by decide +kernel
theorem dL_readMoves_14 : decode cL_readMoves 14 = .ok (.astore_n 2, 1) := by decide +kernel
theorem dL_readMoves_15 : decode cL_readMoves 15 = .ok (.iconst 2, 1) := by decide +kernel
theorem dL_readMoves_16 : decode cL_readMoves 16 = .ok (.ireturn, 1) := by decide +kernel
theorem dL_readMoves_17 : decode cL_readMoves 17 = .ok (.iconst 0, 1) := by decide +kernel
theorem dL_readMoves_18 : decode cL_readMoves 18 = .ok (.ireturn, 1) := by decide +kernel
theorem dL_addGame_0 : decode cL_addGame 0 = .ok (.aload 5, 2) := by decide +kernel
theorem dL_addGame_2 : decode cL_addGame 2 = .ok (.iconst 0, 1) := by decide +kernel
theorem dL_addGame_3 : decode cL_addGame 3 = .ok (.aload_n 0, 1) := by decide +kernel
theorem dL_addGame_4 : decode cL_addGame 4 = .ok (.iload_n 1, 1) := by decide +kernel
theorem dL_addGame_5 : decode cL_addGame 5 = .ok (.iload_n 2, 1) := by decide +kernel
theorem dL_addGame_6 : decode cL_addGame 6 = .ok (.iload_n 3, 1) := by decide +kernel
theorem dL_addGame_7 : decode cL_addGame 7 = .ok (.iload 4, 2) := by decide +kernel
theorem dL_addGame_9 : decode cL_addGame 9 = .ok (.invokevirtual 89, 3) := by decide +kernel
theorem dL_addGame_12 : decode cL_addGame 12 = .ok (.i2l, 1) := by decide +kernel
theorem dL_addGame_13 : decode cL_addGame 13 = .ok (.lastore, 1) := by decide +kernel
theorem dL_addGame_14 : decode cL_addGame 14 = .ok (.goto 15, 3) := by decide +kernel
theorem dL_addGame_17 : decode cL_addGame 17 = .ok (.astore 6, 2) := by decide +kernel
theorem dL_addGame_19 : decode cL_addGame 19 = .ok (.iconst 1, 1) := by decide +kernel
theorem dL_addGame_20 : decode cL_addGame 20 = .ok (.ireturn, 1) := by decide +kernel
theorem dL_addGame_21 : decode cL_addGame 21 = .ok (.astore 6, 2) := by decide +kernel
theorem dL_addGame_23 : decode cL_addGame 23 = .ok (.iconst 2, 1) := by decide +kernel
theorem dL_addGame_24 : decode cL_addGame 24 = .ok (.ireturn, 1) := by decide +kernel
theorem dL_addGame_25 : decode cL_addGame 25 = .ok (.astore 6, 2) := by decide +kernel
theorem dL_addGame_27 : decode cL_addGame 27 = .ok (.iconst 3, 1) := by decide +kernel
theorem dL_addGame_28 : decode cL_addGame 28 = .ok (.ireturn, 1) := by decide +kernel
theorem dL_addGame_29 : decode cL_addGame 29 = .ok (.iconst 0, 1) := by decide +kernel
theorem dL_addGame_30 : decode cL_addGame 30 = .ok (.ireturn, 1) := by decide +kernel
theorem dL_gameCount_0 : decode cL_gameCount 0 = .ok (.aload_n 2, 1) := by decide +kernel
theorem dL_gameCount_1 : decode cL_gameCount 1 = .ok (.iconst 0, 1) := by decide +kernel
theorem dL_gameCount_2 : decode cL_gameCount 2 = .ok (.aload_n 0, 1) := by decide +kernel
theorem dL_gameCount_3 : decode cL_gameCount 3 = .ok (.iload_n 1, 1) := by decide +kernel
theorem dL_gameCount_4 : decode cL_gameCount 4 = .ok (.invokevirtual 93, 3) := by decide +kernel
theorem dL_gameCount_7 : decode cL_gameCount 7 = .ok (.i2l, 1) := by decide +kernel
theorem dL_gameCount_8 : decode cL_gameCount 8 = .ok (.lastore, 1) := by decide +kernel
theorem dL_gameCount_9 : decode cL_gameCount 9 = .ok (.goto 6, 3) := by decide +kernel
theorem dL_gameCount_12 : decode cL_gameCount 12 = .ok (.astore_n 3, 1) := by decide +kernel
theorem dL_gameCount_13 : decode cL_gameCount 13 = .ok (.iconst 1, 1) := by decide +kernel
theorem dL_gameCount_14 : decode cL_gameCount 14 = .ok (.ireturn, 1) := by decide +kernel
theorem dL_gameCount_15 : decode cL_gameCount 15 = .ok (.iconst 0, 1) := by decide +kernel
theorem dL_gameCount_16 : decode cL_gameCount 16 = .ok (.ireturn, 1) := by decide +kernel
theorem dL_gameLength_0 : decode cL_gameLength 0 = .ok (.aload_n 3, 1) := by decide +kernel
theorem dL_gameLength_1 : decode cL_gameLength 1 = .ok (.iconst 0, 1) := by decide +kernel
theorem dL_gameLength_2 : decode cL_gameLength 2 = .ok (.aload_n 0, 1) := by decide +kernel
theorem dL_gameLength_3 : decode cL_gameLength 3 = .ok (.iload_n 1, 1) := by decide +kernel
theorem dL_gameLength_4 : decode cL_gameLength 4 = .ok (.iload_n 2, 1) := by decide +kernel
theorem dL_gameLength_5 : decode cL_gameLength 5 = .ok (.invokevirtual 96, 3) := by decide +kernel
theorem dL_gameLength_8 : decode cL_gameLength 8 = .ok (.i2l, 1) := by decide +kernel
theorem dL_gameLength_9 : decode cL_gameLength 9 = .ok (.lastore, 1) := by decide +kernel
theorem dL_gameLength_10 : decode cL_gameLength 10 = .ok (.goto 7, 3) := by decide +kernel
theorem dL_gameLength_13 : decode cL_gameLength 13 = .ok (.astore 4, 2) := by decide +kernel
theorem dL_gameLength_15 : decode cL_gameLength 15 = .ok (.iconst 1, 1) := by decide +kernel
theorem dL_gameLength_16 : decode cL_gameLength 16 = .ok (.ireturn, 1) := by decide +kernel
theorem dL_gameLength_17 : decode cL_gameLength 17 = .ok (.iconst 0, 1) := by decide +kernel
theorem dL_gameLength_18 : decode cL_gameLength 18 = .ok (.ireturn, 1) := by decide +kernel
theorem dL_positionCount_0 : decode cL_positionCount 0 = .ok (.aload_n 2, 1) := by decide +kernel
theorem dL_positionCount_1 : decode cL_positionCount 1 = .ok (.iconst 0, 1) := by decide +kernel
theorem dL_positionCount_2 : decode cL_positionCount 2 = .ok (.aload_n 0, 1) := by decide +kernel
theorem dL_positionCount_3 : decode cL_positionCount 3 = .ok (.iload_n 1, 1) := by decide +kernel
theorem dL_positionCount_4 : decode cL_positionCount 4 = .ok (.invokevirtual 99, 3) := by decide +kernel
theorem dL_positionCount_7 : decode cL_positionCount 7 = .ok (.i2l, 1) := by decide +kernel
theorem dL_positionCount_8 : decode cL_positionCount 8 = .ok (.lastore, 1) := by decide +kernel
theorem dL_positionCount_9 : decode cL_positionCount 9 = .ok (.goto 6, 3) := by decide +kernel
theorem dL_positionCount_12 : decode cL_positionCount 12 = .ok (.astore_n 3, 1) := by decide +kernel
theorem dL_positionCount_13 : decode cL_positionCount 13 = .ok (.iconst 1, 1) := by decide +kernel
theorem dL_positionCount_14 : decode cL_positionCount 14 = .ok (.ireturn, 1) := by decide +kernel
theorem dL_positionCount_15 : decode cL_positionCount 15 = .ok (.iconst 0, 1) := by decide +kernel
theorem dL_positionCount_16 : decode cL_positionCount 16 = .ok (.ireturn, 1) := by decide +kernel
theorem dL_count_0 : decode cL_count 0 = .ok (.aload_n 2, 1) := by decide +kernel
theorem dL_count_1 : decode cL_count 1 = .ok (.iconst 0, 1) := by decide +kernel
theorem dL_count_2 : decode cL_count 2 = .ok (.aload_n 0, 1) := by decide +kernel
theorem dL_count_3 : decode cL_count 3 = .ok (.iload_n 1, 1) := by decide +kernel
theorem dL_count_4 : decode cL_count 4 = .ok (.invokevirtual 102, 3) := by decide +kernel
theorem dL_count_7 : decode cL_count 7 = .ok (.i2l, 1) := by decide +kernel
theorem dL_count_8 : decode cL_count 8 = .ok (.lastore, 1) := by decide +kernel
theorem dL_count_9 : decode cL_count 9 = .ok (.goto 6, 3) := by decide +kernel
theorem dL_count_12 : decode cL_count 12 = .ok (.astore_n 3, 1) := by decide +kernel
theorem dL_count_13 : decode cL_count 13 = .ok (.iconst 1, 1) := by decide +kernel
theorem dL_count_14 : decode cL_count 14 = .ok (.ireturn, 1) := by decide +kernel
theorem dL_count_15 : decode cL_count 15 = .ok (.iconst 0, 1) := by decide +kernel
theorem dL_count_16 : decode cL_count 16 = .ok (.ireturn, 1) := by decide +kernel
theorem dL_countWith_0 : decode cL_countWith 0 = .ok (.aload_n 3, 1) := by decide +kernel
theorem dL_countWith_1 : decode cL_countWith 1 = .ok (.iconst 0, 1) := by decide +kernel
theorem dL_countWith_2 : decode cL_countWith 2 = .ok (.aload_n 0, 1) := by decide +kernel
theorem dL_countWith_3 : decode cL_countWith 3 = .ok (.iload_n 1, 1) := by decide +kernel
theorem dL_countWith_4 : decode cL_countWith 4 = .ok (.iload_n 2, 1) := by decide +kernel
theorem dL_countWith_5 : decode cL_countWith 5 = .ok (.invokevirtual 105, 3) := by decide +kernel
theorem dL_countWith_8 : decode cL_countWith 8 = .ok (.i2l, 1) := by decide +kernel
theorem dL_countWith_9 : decode cL_countWith 9 = .ok (.lastore, 1) := by decide +kernel
theorem dL_countWith_10 : decode cL_countWith 10 = .ok (.goto 11, 3) := by decide +kernel
theorem dL_countWith_13 : decode cL_countWith 13 = .ok (.astore 4, 2) := by decide +kernel
theorem dL_countWith_15 : decode cL_countWith 15 = .ok (.iconst 1, 1) := by decide +kernel
theorem dL_countWith_16 : decode cL_countWith 16 = .ok (.ireturn, 1) := by decide +kernel
theorem dL_countWith_17 : decode cL_countWith 17 = .ok (.astore 4, 2) := by decide +kernel
theorem dL_countWith_19 : decode cL_countWith 19 = .ok (.iconst 2, 1) := by decide +kernel
theorem dL_countWith_20 : decode cL_countWith 20 = .ok (.ireturn, 1) := by decide +kernel
theorem dL_countWith_21 : decode cL_countWith 21 = .ok (.iconst 0, 1) := by decide +kernel
theorem dL_countWith_22 : decode cL_countWith 22 = .ok (.ireturn, 1) := by decide +kernel
theorem dL_countYears_0 : decode cL_countYears 0 = .ok (.aload 4, 2) := by decide +kernel
theorem dL_countYears_2 : decode cL_countYears 2 = .ok (.iconst 0, 1) := by decide +kernel
theorem dL_countYears_3 : decode cL_countYears 3 = .ok (.aload_n 0, 1) := by decide +kernel
theorem dL_countYears_4 : decode cL_countYears 4 = .ok (.iload_n 1, 1) := by decide +kernel
theorem dL_countYears_5 : decode cL_countYears 5 = .ok (.iload_n 2, 1) := by decide +kernel
theorem dL_countYears_6 : decode cL_countYears 6 = .ok (.iload_n 3, 1) := by decide +kernel
theorem dL_countYears_7 : decode cL_countYears 7 = .ok (.invokevirtual 108, 3) := by decide +kernel
theorem dL_countYears_10 : decode cL_countYears 10 = .ok (.i2l, 1) := by decide +kernel
theorem dL_countYears_11 : decode cL_countYears 11 = .ok (.lastore, 1) := by decide +kernel
theorem dL_countYears_12 : decode cL_countYears 12 = .ok (.goto 11, 3) := by decide +kernel
theorem dL_countYears_15 : decode cL_countYears 15 = .ok (.astore 5, 2) := by decide +kernel
theorem dL_countYears_17 : decode cL_countYears 17 = .ok (.iconst 1, 1) := by decide +kernel
theorem dL_countYears_18 : decode cL_countYears 18 = .ok (.ireturn, 1) := by decide +kernel
theorem dL_countYears_19 : decode cL_countYears 19 = .ok (.astore 5, 2) := by decide +kernel
theorem dL_countYears_21 : decode cL_countYears 21 = .ok (.iconst 2, 1) := by decide +kernel
theorem dL_countYears_22 : decode cL_countYears 22 = .ok (.ireturn, 1) := by decide +kernel
theorem dL_countYears_23 : decode cL_countYears 23 = .ok (.iconst 0, 1) := by decide +kernel
theorem dL_countYears_24 : decode cL_countYears 24 = .ok (.ireturn, 1) := by decide +kernel
theorem dL_meanStrength_0 : decode cL_meanStrength 0 = .ok (.aload_n 3, 1) := by decide +kernel
theorem dL_meanStrength_1 : decode cL_meanStrength 1 = .ok (.iconst 0, 1) := by decide +kernel
theorem dL_meanStrength_2 : decode cL_meanStrength 2 = .ok (.aload_n 0, 1) := by decide +kernel
theorem dL_meanStrength_3 : decode cL_meanStrength 3 = .ok (.iload_n 1, 1) := by decide +kernel
theorem dL_meanStrength_4 : decode cL_meanStrength 4 = .ok (.iload_n 2, 1) := by decide +kernel
theorem dL_meanStrength_5 : decode cL_meanStrength 5 = .ok (.invokevirtual 112, 3) := by decide +kernel
theorem dL_meanStrength_8 : decode cL_meanStrength 8 = .ok (.i2l, 1) := by decide +kernel
theorem dL_meanStrength_9 : decode cL_meanStrength 9 = .ok (.lastore, 1) := by decide +kernel
theorem dL_meanStrength_10 : decode cL_meanStrength 10 = .ok (.goto 11, 3) := by decide +kernel
theorem dL_meanStrength_13 : decode cL_meanStrength 13 = .ok (.astore 4, 2) := by decide +kernel
theorem dL_meanStrength_15 : decode cL_meanStrength 15 = .ok (.iconst 1, 1) := by decide +kernel
theorem dL_meanStrength_16 : decode cL_meanStrength 16 = .ok (.ireturn, 1) := by decide +kernel
theorem dL_meanStrength_17 : decode cL_meanStrength 17 = .ok (.astore 4, 2) := by decide +kernel
theorem dL_meanStrength_19 : decode cL_meanStrength 19 = .ok (.iconst 2, 1) := by decide +kernel
theorem dL_meanStrength_20 : decode cL_meanStrength 20 = .ok (.ireturn, 1) := by decide +kernel
theorem dL_meanStrength_21 : decode cL_meanStrength 21 = .ok (.iconst 0, 1) := by decide +kernel
theorem dL_meanStrength_22 : decode cL_meanStrength 22 = .ok (.ireturn, 1) := by decide +kernel
theorem dL_continuations_0 : decode cL_continuations 0 = .ok (.aload_n 2, 1) := by decide +kernel
theorem dL_continuations_1 : decode cL_continuations 1 = .ok (.iconst 0, 1) := by decide +kernel
theorem dL_continuations_2 : decode cL_continuations 2 = .ok (.aload_n 0, 1) := by decide +kernel
theorem dL_continuations_3 : decode cL_continuations 3 = .ok (.iload_n 1, 1) := by decide +kernel
theorem dL_continuations_4 : decode cL_continuations 4 = .ok (.invokevirtual 117, 3) := by decide +kernel
theorem dL_continuations_7 : decode cL_continuations 7 = .ok (.i2l, 1) := by decide +kernel
theorem dL_continuations_8 : decode cL_continuations 8 = .ok (.lastore, 1) := by decide +kernel
theorem dL_continuations_9 : decode cL_continuations 9 = .ok (.goto 9, 3) := by decide +kernel
theorem dL_continuations_12 : decode cL_continuations 12 = .ok (.astore_n 3, 1) := by decide +kernel
theorem dL_continuations_13 : decode cL_continuations 13 = .ok (.iconst 1, 1) := by decide +kernel
theorem dL_continuations_14 : decode cL_continuations 14 = .ok (.ireturn, 1) := by decide +kernel
theorem dL_continuations_15 : decode cL_continuations 15 = .ok (.astore_n 3, 1) := by decide +kernel
theorem dL_continuations_16 : decode cL_continuations 16 = .ok (.iconst 2, 1) := by decide +kernel
theorem dL_continuations_17 : decode cL_continuations 17 = .ok (.ireturn, 1) := by decide +kernel
theorem dL_continuations_18 : decode cL_continuations 18 = .ok (.iconst 0, 1) := by decide +kernel
theorem dL_continuations_19 : decode cL_continuations 19 = .ok (.ireturn, 1) := by decide +kernel
theorem dL_continuationAt_0 : decode cL_continuationAt 0 = .ok (.aload_n 3, 1) := by decide +kernel
theorem dL_continuationAt_1 : decode cL_continuationAt 1 = .ok (.iconst 0, 1) := by decide +kernel
theorem dL_continuationAt_2 : decode cL_continuationAt 2 = .ok (.aload_n 0, 1) := by decide +kernel
theorem dL_continuationAt_3 : decode cL_continuationAt 3 = .ok (.iload_n 1, 1) := by decide +kernel
theorem dL_continuationAt_4 : decode cL_continuationAt 4 = .ok (.iload_n 2, 1) := by decide +kernel
theorem dL_continuationAt_5 : decode cL_continuationAt 5 = .ok (.invokevirtual 120, 3) := by decide +kernel
theorem dL_continuationAt_8 : decode cL_continuationAt 8 = .ok (.i2l, 1) := by decide +kernel
theorem dL_continuationAt_9 : decode cL_continuationAt 9 = .ok (.lastore, 1) := by decide +kernel
theorem dL_continuationAt_10 : decode cL_continuationAt 10 = .ok (.goto 11, 3) := by decide +kernel
theorem dL_continuationAt_13 : decode cL_continuationAt 13 = .ok (.astore 4, 2) := by decide +kernel
theorem dL_continuationAt_15 : decode cL_continuationAt 15 = .ok (.iconst 1, 1) := by decide +kernel
theorem dL_continuationAt_16 : decode cL_continuationAt 16 = .ok (.ireturn, 1) := by decide +kernel
theorem dL_continuationAt_17 : decode cL_continuationAt 17 = .ok (.astore 4, 2) := by decide +kernel
theorem dL_continuationAt_19 : decode cL_continuationAt 19 = .ok (.iconst 2, 1) := by decide +kernel
theorem dL_continuationAt_20 : decode cL_continuationAt 20 = .ok (.ireturn, 1) := by decide +kernel
theorem dL_continuationAt_21 : decode cL_continuationAt 21 = .ok (.iconst 0, 1) := by decide +kernel
theorem dL_continuationAt_22 : decode cL_continuationAt 22 = .ok (.ireturn, 1) := by decide +kernel
theorem dL_gamesOf_0 : decode cL_gamesOf 0 = .ok (.aload_n 3, 1) := by decide +kernel
theorem dL_gamesOf_1 : decode cL_gamesOf 1 = .ok (.iconst 0, 1) := by decide +kernel
theorem dL_gamesOf_2 : decode cL_gamesOf 2 = .ok (.aload_n 0, 1) := by decide +kernel
theorem dL_gamesOf_3 : decode cL_gamesOf 3 = .ok (.iload_n 1, 1) := by decide +kernel
theorem dL_gamesOf_4 : decode cL_gamesOf 4 = .ok (.iload_n 2, 1) := by decide +kernel
theorem dL_gamesOf_5 : decode cL_gamesOf 5 = .ok (.invokevirtual 123, 3) := by decide +kernel
theorem dL_gamesOf_8 : decode cL_gamesOf 8 = .ok (.i2l, 1) := by decide +kernel
theorem dL_gamesOf_9 : decode cL_gamesOf 9 = .ok (.lastore, 1) := by decide +kernel
theorem dL_gamesOf_10 : decode cL_gamesOf 10 = .ok (.goto 11, 3) := by decide +kernel
theorem dL_gamesOf_13 : decode cL_gamesOf 13 = .ok (.astore 4, 2) := by decide +kernel
theorem dL_gamesOf_15 : decode cL_gamesOf 15 = .ok (.iconst 1, 1) := by decide +kernel
theorem dL_gamesOf_16 : decode cL_gamesOf 16 = .ok (.ireturn, 1) := by decide +kernel
theorem dL_gamesOf_17 : decode cL_gamesOf 17 = .ok (.astore 4, 2) := by decide +kernel
theorem dL_gamesOf_19 : decode cL_gamesOf 19 = .ok (.iconst 2, 1) := by decide +kernel
theorem dL_gamesOf_20 : decode cL_gamesOf 20 = .ok (.ireturn, 1) := by decide +kernel
theorem dL_gamesOf_21 : decode cL_gamesOf 21 = .ok (.iconst 0, 1) := by decide +kernel
theorem dL_gamesOf_22 : decode cL_gamesOf 22 = .ok (.ireturn, 1) := by decide +kernel
theorem dL_playMain_0 : decode cL_playMain 0 = .ok (.aload_n 3, 1) := by decide +kernel
theorem dL_playMain_1 : decode cL_playMain 1 = .ok (.iconst 0, 1) := by decide +kernel
theorem dL_playMain_2 : decode cL_playMain 2 = .ok (.aload_n 0, 1) := by decide +kernel
theorem dL_playMain_3 : decode cL_playMain 3 = .ok (.iload_n 1, 1) := by decide +kernel
theorem dL_playMain_4 : decode cL_playMain 4 = .ok (.iload_n 2, 1) := by decide +kernel
theorem dL_playMain_5 : decode cL_playMain 5 = .ok (.invokevirtual 126, 3) := by decide +kernel
theorem dL_playMain_8 : decode cL_playMain 8 = .ok (.i2l, 1) := by decide +kernel
theorem dL_playMain_9 : decode cL_playMain 9 = .ok (.lastore, 1) := by decide +kernel
theorem dL_playMain_10 : decode cL_playMain 10 = .ok (.goto 15, 3) := by decide +kernel
theorem dL_playMain_13 : decode cL_playMain 13 = .ok (.astore 4, 2) := by decide +kernel
theorem dL_playMain_15 : decode cL_playMain 15 = .ok (.iconst 1, 1) := by decide +kernel
theorem dL_playMain_16 : decode cL_playMain 16 = .ok (.ireturn, 1) := by decide +kernel
theorem dL_playMain_17 : decode cL_playMain 17 = .ok (.astore 4, 2) := by decide +kernel
theorem dL_playMain_19 : decode cL_playMain 19 = .ok (.iconst 2, 1) := by decide +kernel
theorem dL_playMain_20 : decode cL_playMain 20 = .ok (.ireturn, 1) := by decide +kernel
theorem dL_playMain_21 : decode cL_playMain 21 = .ok (.astore 4, 2) := by decide +kernel
theorem dL_playMain_23 : decode cL_playMain 23 = .ok (.iconst 3, 1) := by decide +kernel
theorem dL_playMain_24 : decode cL_playMain 24 = .ok (.ireturn, 1) := by decide +kernel
theorem dL_playMain_25 : decode cL_playMain 25 = .ok (.iconst 0, 1) := by decide +kernel
theorem dL_playMain_26 : decode cL_playMain 26 = .ok (.ireturn, 1) := by decide +kernel
theorem dL_firstNew_0 : decode cL_firstNew 0 = .ok (.aload_n 3, 1) := by decide +kernel
theorem dL_firstNew_1 : decode cL_firstNew 1 = .ok (.iconst 0, 1) := by decide +kernel
theorem dL_firstNew_2 : decode cL_firstNew 2 = .ok (.aload_n 0, 1) := by decide +kernel
theorem dL_firstNew_3 : decode cL_firstNew 3 = .ok (.iload_n 1, 1) := by decide +kernel
theorem dL_firstNew_4 : decode cL_firstNew 4 = .ok (.iload_n 2, 1) := by decide +kernel
theorem dL_firstNew_5 : decode cL_firstNew 5 = .ok (.invokevirtual 129, 3) := by decide +kernel
theorem dL_firstNew_8 : decode cL_firstNew 8 = .ok (.i2l, 1) := by decide +kernel
theorem dL_firstNew_9 : decode cL_firstNew 9 = .ok (.lastore, 1) := by decide +kernel
theorem dL_firstNew_10 : decode cL_firstNew 10 = .ok (.goto 7, 3) := by decide +kernel
theorem dL_firstNew_13 : decode cL_firstNew 13 = .ok (.astore 4, 2) := by decide +kernel
theorem dL_firstNew_15 : decode cL_firstNew 15 = .ok (.iconst 1, 1) := by decide +kernel
theorem dL_firstNew_16 : decode cL_firstNew 16 = .ok (.ireturn, 1) := by decide +kernel
theorem dL_firstNew_17 : decode cL_firstNew 17 = .ok (.iconst 0, 1) := by decide +kernel
theorem dL_firstNew_18 : decode cL_firstNew 18 = .ok (.ireturn, 1) := by decide +kernel
theorem dL_ask_0 : decode cL_ask 0 = .ok (.aload_n 3, 1) := by decide +kernel
theorem dL_ask_1 : decode cL_ask 1 = .ok (.iconst 0, 1) := by decide +kernel
theorem dL_ask_2 : decode cL_ask 2 = .ok (.aload_n 0, 1) := by decide +kernel
theorem dL_ask_3 : decode cL_ask 3 = .ok (.iload_n 1, 1) := by decide +kernel
theorem dL_ask_4 : decode cL_ask 4 = .ok (.iload_n 2, 1) := by decide +kernel
theorem dL_ask_5 : decode cL_ask 5 = .ok (.invokevirtual 132, 3) := by decide +kernel
theorem dL_ask_8 : decode cL_ask 8 = .ok (.i2l, 1) := by decide +kernel
theorem dL_ask_9 : decode cL_ask 9 = .ok (.lastore, 1) := by decide +kernel
theorem dL_ask_10 : decode cL_ask 10 = .ok (.goto 11, 3) := by decide +kernel
theorem dL_ask_13 : decode cL_ask 13 = .ok (.astore 4, 2) := by decide +kernel
theorem dL_ask_15 : decode cL_ask 15 = .ok (.iconst 1, 1) := by decide +kernel
theorem dL_ask_16 : decode cL_ask 16 = .ok (.ireturn, 1) := by decide +kernel
theorem dL_ask_17 : decode cL_ask 17 = .ok (.astore 4, 2) := by decide +kernel
theorem dL_ask_19 : decode cL_ask 19 = .ok (.iconst 2, 1) := by decide +kernel
theorem dL_ask_20 : decode cL_ask 20 = .ok (.ireturn, 1) := by decide +kernel
theorem dL_ask_21 : decode cL_ask 21 = .ok (.iconst 0, 1) := by decide +kernel
theorem dL_ask_22 : decode cL_ask 22 = .ok (.ireturn, 1) := by decide +kernel
theorem dL_patternCount_0 : decode cL_patternCount 0 = .ok (.aload_n 2, 1) := by decide +kernel
theorem dL_patternCount_1 : decode cL_patternCount 1 = .ok (.iconst 0, 1) := by decide +kernel
theorem dL_patternCount_2 : decode cL_patternCount 2 = .ok (.aload_n 0, 1) := by decide +kernel
theorem dL_patternCount_3 : decode cL_patternCount 3 = .ok (.iload_n 1, 1) := by decide +kernel
theorem dL_patternCount_4 : decode cL_patternCount 4 = .ok (.invokevirtual 135, 3) := by decide +kernel
theorem dL_patternCount_7 : decode cL_patternCount 7 = .ok (.i2l, 1) := by decide +kernel
theorem dL_patternCount_8 : decode cL_patternCount 8 = .ok (.lastore, 1) := by decide +kernel
theorem dL_patternCount_9 : decode cL_patternCount 9 = .ok (.goto 6, 3) := by decide +kernel
theorem dL_patternCount_12 : decode cL_patternCount 12 = .ok (.astore_n 3, 1) := by decide +kernel
theorem dL_patternCount_13 : decode cL_patternCount 13 = .ok (.iconst 1, 1) := by decide +kernel
theorem dL_patternCount_14 : decode cL_patternCount 14 = .ok (.ireturn, 1) := by decide +kernel
theorem dL_patternCount_15 : decode cL_patternCount 15 = .ok (.iconst 0, 1) := by decide +kernel
theorem dL_patternCount_16 : decode cL_patternCount 16 = .ok (.ireturn, 1) := by decide +kernel
def wp_L_newBoard_0 (D : wD) (post : Int32 → wS → Prop)  (S : wS) (a0 : Nat) (x1 : Int32) (x2 : Int32) (a3 : Nat) : Prop :=
wp_X11_newBoard D (fun r_1 S_2 => 
a3 ∈ sL S_2 ∧ vp_in (0 : Int32) (sN S_2 a3) ∧
∀ S_4 : wS, S_4 = uJ S_2 a3 ((0 : Int32)).toNatClampNeg (Int32.toInt64 r_1) →
post (0 : Int32) S_4) (fun E_9 S9 => (E_9 = "java/lang/IllegalArgumentException" ∧ post (1 : Int32) S9)) S a0 x1 x2
abbrev r_L_newBoard : Room := { frames := 7, cells := 1, slots := 6, locals := 142 }
def wp_L_newBoard (D : wD) (post : Int32 → wS → Prop) (S : wS) (a0 : Nat) (x1 : Int32) (x2 : Int32) (a3 : Nat) : Prop := wp_L_newBoard_0 D post S a0 x1 x2 a3
set_option maxHeartbeats 4000000 in
set_option maxRecDepth 100000 in
theorem t_L_newBoard_0 {p : Program} {l : Launch} {e : Env} {s : State} {m : MethodId} {args : Array Value} {below : List Frame} {meth : Method} {c : Code} {D : wD} {cy : Nat → ClassId} {X : va_W} {A : Nat → Prop} {S0 : wS} {post : Int32 → wS → Prop} (F : CallFix p m c cL_newBoard 5 s args wz_L_newBoard RL) (hr : meth.sig.returnType = (some .int)) (hlocks : meth.locks = false) (hK : wK D cy A s) (hl0 : l.stackTraces = false) (htab : c.exceptionTable.toList.map xhF = [(0, 10, 13, 13)]) : ∀ {S : wS} {H : Heap} {locs : List Loc} {ls : Array Slot} {a0 : Nat} {x1 : Int32} {x2 : Int32} {a3 : Nat}, wp_L_newBoard_0 D post S a0 x1 x2 a3 → wO D cy X A s.heap S H locs → wX D S0 S → lv_has ls 5 [(0, .ref a0), (1, .int x1), (2, .int x2), (3, .ref a3)] → wM D S a0 → sK S a0 = 16 → wM D S a3 → sK S a3 = 22 → W p l e r_L_newBoard s m args below meth c H locs 0 0 (vx_MQ below (va_Qi (fun r S9 => wX D S0 S9 ∧ post r S9) (wB D cy X A) A) (wEx D cy X A (fun _ _ => False)) args s 1 6 A) (F0 m 0 ls []) := by
  obtain ⟨hx, hb, hml, hown, hts⟩ := id F
  have hwg : ∀ w ∈ WG, w.before args s = true := fun w h => hts w (List.mem_cons_of_mem _ h)
  intro S H locs ls a0 x1 x2 a3 hp hW hE hl hL_a0 hK_a0 hL_a3 hK_a3
  unfold wp_L_newBoard_0 at hp
  refine lv_aload_n hx hb dL_newBoard_0 rfl (lv_at hl 3 rfl) ?_
  refine lv_iconst (v := 0) hx hb dL_newBoard_1 (by decide) ?_
  refine lv_aload_n hx hb dL_newBoard_2 rfl (lv_at hl 0 rfl) ?_
  refine lv_iload_n hx hb dL_newBoard_3 rfl (lv_at hl 1 rfl) ?_
  refine lv_iload_n hx hb dL_newBoard_4 rfl (lv_at hl 2 rfl) ?_
  refine x_callI (vx_runV (As := [.int x1, .int x2]) (rest := [.int (0 : Int32), .ref a3]) F (c_X11_newBoard l hl0 hL_a0 hK_a0 hp H.size) (cwV (C := RX11) 2 hts (wg_V wm_RL_7 wy_X11_newBoard) rfl rfl rfl (by decide +kernel) ⟨Nat.le_of_ble_eq_true rfl, Nat.le_of_ble_eq_true rfl⟩) (w_preV hK hW hL_a0 hK_a0 (by decide) rfl) rfl rfl hl.1 rfl (lv_room (Nat.le_of_ble_eq_true rfl)) dL_newBoard_5 ⟨Nat.le_of_ble_eq_true rfl, Nat.le_of_ble_eq_true rfl⟩) hW (fun E ce q9 S9 H locs hp hW h1 h2 h3 => ?_) (fun r_1 S_2 H locs hp hW => ?_)
  · obtain ⟨hX_9, hp⟩ := hp
    have hE := hE.trans hX_9
    obtain ⟨z0, htl, ez0⟩ := x_tab1 htab
    rcases hp with ⟨hEe, hp⟩
    · subst hEe
      refine x_catch (nm := "java/lang/IllegalArgumentException") F hK [] z0 [] (by rw [htl]; rfl) ez0 (by decide) (by decide) (fun z hz => nomatch hz) (hwg _ wc_RL_13) (by decide +kernel) h1 h2 h3 ?_
      refine W.widen (k := 1) (n := 6) (by decide) (by decide) ?_
      refine lv_astore (lv' := [(4, .ref q9), (0, .ref a0), (1, .int x1), (2, .int x2), (3, .ref a3)]) hx hb dL_newBoard_13 hl (by decide) rfl (fun ls hl => ?_)
      refine lv_iconst (v := 1) hx hb dL_newBoard_15 (by decide) ?_
      refine vx_ret ?_
      exact w_iret hx hb hr hlocks hW ⟨hE, hp⟩ dL_newBoard_16
  · obtain ⟨hX_S_2, hp⟩ := hp
    refine W.widen (k := 1) (n := 6) (by decide) (by decide) ?_
    have hE := hE.trans hX_S_2
    have hK_a0 : sK S_2 a0 = 16 := (hX_S_2.2 a0 hL_a0).1.trans hK_a0
    have hL_a0 : wM D S_2 a0 := hX_S_2.M hL_a0
    have hK_a3 : sK S_2 a3 = 22 := (hX_S_2.2 a3 hL_a3).1.trans hK_a3
    have hL_a3 : wM D S_2 a3 := hX_S_2.M hL_a3
    refine lv_i2l (v := (Int32.toInt64 r_1)) hx hb dL_newBoard_8 rfl ?_
    obtain ⟨h_3m, h_3, hp⟩ := hp
    refine w_lst F hK hW h_3m hK_a3 h_3 dL_newBoard_9 (fun H locs hW => ?_)
    obtain ⟨S_4, eS_4⟩ : ∃ z : wS, z = uJ S_2 a3 ((0 : Int32)).toNatClampNeg (Int32.toInt64 r_1) := ⟨_, rfl⟩
    rw [← eS_4] at hW
    replace hp := hp S_4 eS_4
    have hX_S_4 : wX D S_2 S_4 := by rw [eS_4]; exact wX_uJ
    have hE := hE.trans hX_S_4
    have hK_a0 : sK S_4 a0 = 16 := (hX_S_4.2 a0 hL_a0).1.trans hK_a0
    have hL_a0 : wM D S_4 a0 := hX_S_4.M hL_a0
    have hK_a3 : sK S_4 a3 = 22 := (hX_S_4.2 a3 hL_a3).1.trans hK_a3
    have hL_a3 : wM D S_4 a3 := hX_S_4.M hL_a3
    refine lv_goto (tgt := 17) hx hb dL_newBoard_10 (by decide) ?_
    refine lv_iconst (v := 0) hx hb dL_newBoard_17 (by decide) ?_
    refine vx_ret ?_
    exact w_iret hx hb hr hlocks hW ⟨hE, hp⟩ dL_newBoard_18
set_option maxHeartbeats 4000000 in
set_option maxRecDepth 100000 in
theorem c_L_newBoard (l : Launch) {D : wD} {cy : Nat → ClassId} {X : va_W} {S0 : wS} {post : Int32 → wS → Prop} (hl0 : l.stackTraces = false) {a0 : Nat} {x1 : Int32} {x2 : Int32} {a3 : Nat} (hL_a0 : wM D S0 a0) (hK_a0 : sK S0 a0 = 16) (hL_a3 : wM D S0 a3) (hK_a3 : sK S0 a3 = 22) (hp : wp_L_newBoard D post S0 a0 x1 x2 a3) : xI D cy X l yL_newBoard wz_L_newBoard r_L_newBoard [.ref a0, .int x1, .int x2, .ref a3] S0 (fun r S9 => wX D S0 S9 ∧ post r S9) (fun _ _ => False) := by
  intro sz
  refine vx_ofWH (hh := [(0, 10, 13, 13)]) (cc := cL_newBoard) (maxL := 5) (ret := (some .int)) (by decide) rfl ?_
  intro p e s m args below meth c s₁ B hml hv
  obtain ⟨rfl, hsz, hP, hK, hD0, hRO⟩ := hv
  have hts := atoms_spec (ws := wz_L_newBoard) B.pre
  have hown : s.vm.findClass RL = some m.cls := findClass_of_methodNamed B.named
  subst hsz
  have hD := hD0.self (sz := s.heap.size)
  have F : CallFix p m c cL_newBoard 5 s _ wz_L_newBoard RL := ⟨B.exec, B.bytes, hml, hown, hts⟩
  have htab : c.exceptionTable.toList.map xhF = [(0, 10, 13, 13)] := by
    obtain ⟨m9, meth9, c9, g0, g1, g2, -, -, g3, -⟩ := Cond.codeWith_spec (hts _ List.mem_cons_self)
    cases Option.some.inj (g0.symm.trans B.named)
    cases Option.some.inj (g1.symm.trans B.method)
    cases Option.some.inj (g2.symm.trans (Stand.of_body B).code)
    exact g3
  have hr := B.returns
  have hlocks := B.notSynchronized
  generalize hAe : va_A (wL cy X S0) s.heap.size = A at hD hK ⊢
  have hA : ∀ q, s.heap.size ≤ q → A q := fun q h => by rw [← hAe]; exact Or.inr h
  have hW : wO D cy X A s.heap S0 s.heap [] := ⟨hP, hD, va_S.rf, hA, hRO⟩
  have hl := lv_entry ([.ref a0, .int x1, .int x2, .ref a3]) (n := 5) (Nat.le_of_ble_eq_true rfl)
  rw [lg_entry_eq]
  generalize (lg_sl ([.ref a0, .int x1, .int x2, .ref a3]) ++ List.replicate (5 - (lg_sl ([.ref a0, .int x1, .int x2, .ref a3])).length) Slot.unset).toArray = ls at hl ⊢
  have hl : lv_has ls 5 [(0, .ref a0), (1, .int x1), (2, .int x2), (3, .ref a3)] := hl
  unfold wp_L_newBoard at hp
  exact t_L_newBoard_0 F hr hlocks hK hl0 htab hp hW wX.rf (lv_sub hl [0, 1, 2, 3] rfl) hL_a0 hK_a0 hL_a3 hK_a3
def wp_L_put_0 (D : wD) (post : Int32 → wS → Prop)  (S : wS) (a0 : Nat) (x1 : Int32) (x2 : Int32) (a3 : Nat) : Prop :=
wp_X11_put D (fun r_1 S_2 => 
a3 ∈ sL S_2 ∧ vp_in (0 : Int32) (sN S_2 a3) ∧
∀ S_4 : wS, S_4 = uJ S_2 a3 ((0 : Int32)).toNatClampNeg (Int32.toInt64 r_1) →
post (0 : Int32) S_4) (fun E_9 S9 => (E_9 = "java/lang/IndexOutOfBoundsException" ∧ post (1 : Int32) S9) ∨ (E_9 = "java/lang/IllegalArgumentException" ∧ post (2 : Int32) S9) ∨ (E_9 = "java/lang/IllegalStateException" ∧ post (3 : Int32) S9)) S a0 x1 x2
abbrev r_L_put : Room := { frames := 8, cells := 2, slots := 12, locals := 164 }
def wp_L_put (D : wD) (post : Int32 → wS → Prop) (S : wS) (a0 : Nat) (x1 : Int32) (x2 : Int32) (a3 : Nat) : Prop := wp_L_put_0 D post S a0 x1 x2 a3
set_option maxHeartbeats 4000000 in
set_option maxRecDepth 100000 in
theorem t_L_put_0 {p : Program} {l : Launch} {e : Env} {s : State} {m : MethodId} {args : Array Value} {below : List Frame} {meth : Method} {c : Code} {D : wD} {cy : Nat → ClassId} {X : va_W} {A : Nat → Prop} {S0 : wS} {post : Int32 → wS → Prop} (F : CallFix p m c cL_put 5 s args wz_L_put RL) (hr : meth.sig.returnType = (some .int)) (hlocks : meth.locks = false) (hK : wK D cy A s) (hl0 : l.stackTraces = false) (htab : c.exceptionTable.toList.map xhF = [(0, 10, 13, 18), (0, 10, 17, 13), (0, 10, 21, 20)]) : ∀ {S : wS} {H : Heap} {locs : List Loc} {ls : Array Slot} {a0 : Nat} {x1 : Int32} {x2 : Int32} {a3 : Nat}, wp_L_put_0 D post S a0 x1 x2 a3 → wO D cy X A s.heap S H locs → wX D S0 S → lv_has ls 5 [(0, .ref a0), (1, .int x1), (2, .int x2), (3, .ref a3)] → wM D S a0 → sK S a0 = 16 → wM D S a3 → sK S a3 = 22 → W p l e r_L_put s m args below meth c H locs 0 0 (vx_MQ below (va_Qi (fun r S9 => wX D S0 S9 ∧ post r S9) (wB D cy X A) A) (wEx D cy X A (fun _ _ => False)) args s 2 12 A) (F0 m 0 ls []) := by
  obtain ⟨hx, hb, hml, hown, hts⟩ := id F
  have hwg : ∀ w ∈ WG, w.before args s = true := fun w h => hts w (List.mem_cons_of_mem _ h)
  intro S H locs ls a0 x1 x2 a3 hp hW hE hl hL_a0 hK_a0 hL_a3 hK_a3
  unfold wp_L_put_0 at hp
  refine lv_aload_n hx hb dL_put_0 rfl (lv_at hl 3 rfl) ?_
  refine lv_iconst (v := 0) hx hb dL_put_1 (by decide) ?_
  refine lv_aload_n hx hb dL_put_2 rfl (lv_at hl 0 rfl) ?_
  refine lv_iload_n hx hb dL_put_3 rfl (lv_at hl 1 rfl) ?_
  refine lv_iload_n hx hb dL_put_4 rfl (lv_at hl 2 rfl) ?_
  refine x_callI (vx_runV (As := [.int x1, .int x2]) (rest := [.int (0 : Int32), .ref a3]) F (c_X11_put l hl0 hL_a0 hK_a0 hp H.size) (cwV (C := RX11) 2 hts (wg_V wm_RL_15 wy_X11_put) rfl rfl rfl (by decide +kernel) ⟨Nat.le_of_ble_eq_true rfl, Nat.le_of_ble_eq_true rfl⟩) (w_preV hK hW hL_a0 hK_a0 (by decide) rfl) rfl rfl hl.1 rfl (lv_room (Nat.le_of_ble_eq_true rfl)) dL_put_5 ⟨Nat.le_of_ble_eq_true rfl, Nat.le_of_ble_eq_true rfl⟩) hW (fun E ce q9 S9 H locs hp hW h1 h2 h3 => ?_) (fun r_1 S_2 H locs hp hW => ?_)
  · obtain ⟨hX_9, hp⟩ := hp
    have hE := hE.trans hX_9
    obtain ⟨z0, z1, z2, htl, ez0, ez1, ez2⟩ := x_tab3 htab
    rcases hp with ⟨hEe, hp⟩ | ⟨hEe, hp⟩ | ⟨hEe, hp⟩
    · subst hEe
      refine x_catch (nm := "java/lang/IndexOutOfBoundsException") F hK [] z0 [z1, z2] (by rw [htl]; rfl) ez0 (by decide) (by decide) (fun z hz => nomatch hz) (hwg _ wc_RL_18) (by decide +kernel) h1 h2 h3 ?_
      refine W.widen (k := 2) (n := 12) (by decide) (by decide) ?_
      refine lv_astore (lv' := [(4, .ref q9), (0, .ref a0), (1, .int x1), (2, .int x2), (3, .ref a3)]) hx hb dL_put_13 hl (by decide) rfl (fun ls hl => ?_)
      refine lv_iconst (v := 1) hx hb dL_put_15 (by decide) ?_
      refine vx_ret ?_
      exact w_iret hx hb hr hlocks hW ⟨hE, hp⟩ dL_put_16
    · subst hEe
      refine x_catch (nm := "java/lang/IllegalArgumentException") F hK [z0] z1 [z2] (by rw [htl]; rfl) ez1 (by decide) (by decide) (fun z hz => by
          simp only [List.mem_cons, List.not_mem_nil, or_false] at hz
          rcases hz with hz
          · rw [hz]; exact ⟨by rw [show z0.catchType = 18 from congrArg (fun q => q.2.2.2) ez0]; decide, "java/lang/IndexOutOfBoundsException", by rw [show z0.catchType = 18 from congrArg (fun q => q.2.2.2) ez0]; exact hwg _ wc_RL_18, by decide +kernel⟩) (hwg _ wc_RL_13) (by decide +kernel) h1 h2 h3 ?_
      refine W.widen (k := 2) (n := 12) (by decide) (by decide) ?_
      refine lv_astore (lv' := [(4, .ref q9), (0, .ref a0), (1, .int x1), (2, .int x2), (3, .ref a3)]) hx hb dL_put_17 hl (by decide) rfl (fun ls hl => ?_)
      refine lv_iconst (v := 2) hx hb dL_put_19 (by decide) ?_
      refine vx_ret ?_
      exact w_iret hx hb hr hlocks hW ⟨hE, hp⟩ dL_put_20
    · subst hEe
      refine x_catch (nm := "java/lang/IllegalStateException") F hK [z0, z1] z2 [] (by rw [htl]; rfl) ez2 (by decide) (by decide) (fun z hz => by
          simp only [List.mem_cons, List.not_mem_nil, or_false] at hz
          rcases hz with hz | hz
          · rw [hz]; exact ⟨by rw [show z0.catchType = 18 from congrArg (fun q => q.2.2.2) ez0]; decide, "java/lang/IndexOutOfBoundsException", by rw [show z0.catchType = 18 from congrArg (fun q => q.2.2.2) ez0]; exact hwg _ wc_RL_18, by decide +kernel⟩
          · rw [hz]; exact ⟨by rw [show z1.catchType = 13 from congrArg (fun q => q.2.2.2) ez1]; decide, "java/lang/IllegalArgumentException", by rw [show z1.catchType = 13 from congrArg (fun q => q.2.2.2) ez1]; exact hwg _ wc_RL_13, by decide +kernel⟩) (hwg _ wc_RL_20) (by decide +kernel) h1 h2 h3 ?_
      refine W.widen (k := 2) (n := 12) (by decide) (by decide) ?_
      refine lv_astore (lv' := [(4, .ref q9), (0, .ref a0), (1, .int x1), (2, .int x2), (3, .ref a3)]) hx hb dL_put_21 hl (by decide) rfl (fun ls hl => ?_)
      refine lv_iconst (v := 3) hx hb dL_put_23 (by decide) ?_
      refine vx_ret ?_
      exact w_iret hx hb hr hlocks hW ⟨hE, hp⟩ dL_put_24
  · obtain ⟨hX_S_2, hp⟩ := hp
    refine W.widen (k := 2) (n := 12) (by decide) (by decide) ?_
    have hE := hE.trans hX_S_2
    have hK_a0 : sK S_2 a0 = 16 := (hX_S_2.2 a0 hL_a0).1.trans hK_a0
    have hL_a0 : wM D S_2 a0 := hX_S_2.M hL_a0
    have hK_a3 : sK S_2 a3 = 22 := (hX_S_2.2 a3 hL_a3).1.trans hK_a3
    have hL_a3 : wM D S_2 a3 := hX_S_2.M hL_a3
    refine lv_i2l (v := (Int32.toInt64 r_1)) hx hb dL_put_8 rfl ?_
    obtain ⟨h_3m, h_3, hp⟩ := hp
    refine w_lst F hK hW h_3m hK_a3 h_3 dL_put_9 (fun H locs hW => ?_)
    obtain ⟨S_4, eS_4⟩ : ∃ z : wS, z = uJ S_2 a3 ((0 : Int32)).toNatClampNeg (Int32.toInt64 r_1) := ⟨_, rfl⟩
    rw [← eS_4] at hW
    replace hp := hp S_4 eS_4
    have hX_S_4 : wX D S_2 S_4 := by rw [eS_4]; exact wX_uJ
    have hE := hE.trans hX_S_4
    have hK_a0 : sK S_4 a0 = 16 := (hX_S_4.2 a0 hL_a0).1.trans hK_a0
    have hL_a0 : wM D S_4 a0 := hX_S_4.M hL_a0
    have hK_a3 : sK S_4 a3 = 22 := (hX_S_4.2 a3 hL_a3).1.trans hK_a3
    have hL_a3 : wM D S_4 a3 := hX_S_4.M hL_a3
    refine lv_goto (tgt := 25) hx hb dL_put_10 (by decide) ?_
    refine lv_iconst (v := 0) hx hb dL_put_25 (by decide) ?_
    refine vx_ret ?_
    exact w_iret hx hb hr hlocks hW ⟨hE, hp⟩ dL_put_26
set_option maxHeartbeats 4000000 in
set_option maxRecDepth 100000 in
theorem c_L_put (l : Launch) {D : wD} {cy : Nat → ClassId} {X : va_W} {S0 : wS} {post : Int32 → wS → Prop} (hl0 : l.stackTraces = false) {a0 : Nat} {x1 : Int32} {x2 : Int32} {a3 : Nat} (hL_a0 : wM D S0 a0) (hK_a0 : sK S0 a0 = 16) (hL_a3 : wM D S0 a3) (hK_a3 : sK S0 a3 = 22) (hp : wp_L_put D post S0 a0 x1 x2 a3) : xI D cy X l yL_put wz_L_put r_L_put [.ref a0, .int x1, .int x2, .ref a3] S0 (fun r S9 => wX D S0 S9 ∧ post r S9) (fun _ _ => False) := by
  intro sz
  refine vx_ofWH (hh := [(0, 10, 13, 18), (0, 10, 17, 13), (0, 10, 21, 20)]) (cc := cL_put) (maxL := 5) (ret := (some .int)) (by decide) rfl ?_
  intro p e s m args below meth c s₁ B hml hv
  obtain ⟨rfl, hsz, hP, hK, hD0, hRO⟩ := hv
  have hts := atoms_spec (ws := wz_L_put) B.pre
  have hown : s.vm.findClass RL = some m.cls := findClass_of_methodNamed B.named
  subst hsz
  have hD := hD0.self (sz := s.heap.size)
  have F : CallFix p m c cL_put 5 s _ wz_L_put RL := ⟨B.exec, B.bytes, hml, hown, hts⟩
  have htab : c.exceptionTable.toList.map xhF = [(0, 10, 13, 18), (0, 10, 17, 13), (0, 10, 21, 20)] := by
    obtain ⟨m9, meth9, c9, g0, g1, g2, -, -, g3, -⟩ := Cond.codeWith_spec (hts _ List.mem_cons_self)
    cases Option.some.inj (g0.symm.trans B.named)
    cases Option.some.inj (g1.symm.trans B.method)
    cases Option.some.inj (g2.symm.trans (Stand.of_body B).code)
    exact g3
  have hr := B.returns
  have hlocks := B.notSynchronized
  generalize hAe : va_A (wL cy X S0) s.heap.size = A at hD hK ⊢
  have hA : ∀ q, s.heap.size ≤ q → A q := fun q h => by rw [← hAe]; exact Or.inr h
  have hW : wO D cy X A s.heap S0 s.heap [] := ⟨hP, hD, va_S.rf, hA, hRO⟩
  have hl := lv_entry ([.ref a0, .int x1, .int x2, .ref a3]) (n := 5) (Nat.le_of_ble_eq_true rfl)
  rw [lg_entry_eq]
  generalize (lg_sl ([.ref a0, .int x1, .int x2, .ref a3]) ++ List.replicate (5 - (lg_sl ([.ref a0, .int x1, .int x2, .ref a3])).length) Slot.unset).toArray = ls at hl ⊢
  have hl : lv_has ls 5 [(0, .ref a0), (1, .int x1), (2, .int x2), (3, .ref a3)] := hl
  unfold wp_L_put at hp
  exact t_L_put_0 F hr hlocks hK hl0 htab hp hW wX.rf (lv_sub hl [0, 1, 2, 3] rfl) hL_a0 hK_a0 hL_a3 hK_a3
def wp_L_setSide_0 (D : wD) (post : Int32 → wS → Prop)  (S : wS) (a0 : Nat) (x1 : Int32) (x2 : Int32) (a3 : Nat) : Prop :=
wp_X11_setSide D (fun r_1 S_2 => 
a3 ∈ sL S_2 ∧ vp_in (0 : Int32) (sN S_2 a3) ∧
∀ S_4 : wS, S_4 = uJ S_2 a3 ((0 : Int32)).toNatClampNeg (Int32.toInt64 r_1) →
post (0 : Int32) S_4) (fun E_9 S9 => (E_9 = "java/lang/IllegalArgumentException" ∧ post (1 : Int32) S9) ∨ (E_9 = "java/lang/IllegalStateException" ∧ post (2 : Int32) S9)) S a0 x1 x2
abbrev r_L_setSide : Room := { frames := 8, cells := 1, slots := 6, locals := 163 }
def wp_L_setSide (D : wD) (post : Int32 → wS → Prop) (S : wS) (a0 : Nat) (x1 : Int32) (x2 : Int32) (a3 : Nat) : Prop := wp_L_setSide_0 D post S a0 x1 x2 a3
set_option maxHeartbeats 4000000 in
set_option maxRecDepth 100000 in
theorem t_L_setSide_0 {p : Program} {l : Launch} {e : Env} {s : State} {m : MethodId} {args : Array Value} {below : List Frame} {meth : Method} {c : Code} {D : wD} {cy : Nat → ClassId} {X : va_W} {A : Nat → Prop} {S0 : wS} {post : Int32 → wS → Prop} (F : CallFix p m c cL_setSide 5 s args wz_L_setSide RL) (hr : meth.sig.returnType = (some .int)) (hlocks : meth.locks = false) (hK : wK D cy A s) (hl0 : l.stackTraces = false) (htab : c.exceptionTable.toList.map xhF = [(0, 10, 13, 13), (0, 10, 17, 20)]) : ∀ {S : wS} {H : Heap} {locs : List Loc} {ls : Array Slot} {a0 : Nat} {x1 : Int32} {x2 : Int32} {a3 : Nat}, wp_L_setSide_0 D post S a0 x1 x2 a3 → wO D cy X A s.heap S H locs → wX D S0 S → lv_has ls 5 [(0, .ref a0), (1, .int x1), (2, .int x2), (3, .ref a3)] → wM D S a0 → sK S a0 = 16 → wM D S a3 → sK S a3 = 22 → W p l e r_L_setSide s m args below meth c H locs 0 0 (vx_MQ below (va_Qi (fun r S9 => wX D S0 S9 ∧ post r S9) (wB D cy X A) A) (wEx D cy X A (fun _ _ => False)) args s 1 6 A) (F0 m 0 ls []) := by
  obtain ⟨hx, hb, hml, hown, hts⟩ := id F
  have hwg : ∀ w ∈ WG, w.before args s = true := fun w h => hts w (List.mem_cons_of_mem _ h)
  intro S H locs ls a0 x1 x2 a3 hp hW hE hl hL_a0 hK_a0 hL_a3 hK_a3
  unfold wp_L_setSide_0 at hp
  refine lv_aload_n hx hb dL_setSide_0 rfl (lv_at hl 3 rfl) ?_
  refine lv_iconst (v := 0) hx hb dL_setSide_1 (by decide) ?_
  refine lv_aload_n hx hb dL_setSide_2 rfl (lv_at hl 0 rfl) ?_
  refine lv_iload_n hx hb dL_setSide_3 rfl (lv_at hl 1 rfl) ?_
  refine lv_iload_n hx hb dL_setSide_4 rfl (lv_at hl 2 rfl) ?_
  refine x_callI (vx_runV (As := [.int x1, .int x2]) (rest := [.int (0 : Int32), .ref a3]) F (c_X11_setSide l hl0 hL_a0 hK_a0 hp H.size) (cwV (C := RX11) 2 hts (wg_V wm_RL_22 wy_X11_setSide) rfl rfl rfl (by decide +kernel) ⟨Nat.le_of_ble_eq_true rfl, Nat.le_of_ble_eq_true rfl⟩) (w_preV hK hW hL_a0 hK_a0 (by decide) rfl) rfl rfl hl.1 rfl (lv_room (Nat.le_of_ble_eq_true rfl)) dL_setSide_5 ⟨Nat.le_of_ble_eq_true rfl, Nat.le_of_ble_eq_true rfl⟩) hW (fun E ce q9 S9 H locs hp hW h1 h2 h3 => ?_) (fun r_1 S_2 H locs hp hW => ?_)
  · obtain ⟨hX_9, hp⟩ := hp
    have hE := hE.trans hX_9
    obtain ⟨z0, z1, htl, ez0, ez1⟩ := x_tab2 htab
    rcases hp with ⟨hEe, hp⟩ | ⟨hEe, hp⟩
    · subst hEe
      refine x_catch (nm := "java/lang/IllegalArgumentException") F hK [] z0 [z1] (by rw [htl]; rfl) ez0 (by decide) (by decide) (fun z hz => nomatch hz) (hwg _ wc_RL_13) (by decide +kernel) h1 h2 h3 ?_
      refine W.widen (k := 1) (n := 6) (by decide) (by decide) ?_
      refine lv_astore (lv' := [(4, .ref q9), (0, .ref a0), (1, .int x1), (2, .int x2), (3, .ref a3)]) hx hb dL_setSide_13 hl (by decide) rfl (fun ls hl => ?_)
      refine lv_iconst (v := 1) hx hb dL_setSide_15 (by decide) ?_
      refine vx_ret ?_
      exact w_iret hx hb hr hlocks hW ⟨hE, hp⟩ dL_setSide_16
    · subst hEe
      refine x_catch (nm := "java/lang/IllegalStateException") F hK [z0] z1 [] (by rw [htl]; rfl) ez1 (by decide) (by decide) (fun z hz => by
          simp only [List.mem_cons, List.not_mem_nil, or_false] at hz
          rcases hz with hz
          · rw [hz]; exact ⟨by rw [show z0.catchType = 13 from congrArg (fun q => q.2.2.2) ez0]; decide, "java/lang/IllegalArgumentException", by rw [show z0.catchType = 13 from congrArg (fun q => q.2.2.2) ez0]; exact hwg _ wc_RL_13, by decide +kernel⟩) (hwg _ wc_RL_20) (by decide +kernel) h1 h2 h3 ?_
      refine W.widen (k := 1) (n := 6) (by decide) (by decide) ?_
      refine lv_astore (lv' := [(4, .ref q9), (0, .ref a0), (1, .int x1), (2, .int x2), (3, .ref a3)]) hx hb dL_setSide_17 hl (by decide) rfl (fun ls hl => ?_)
      refine lv_iconst (v := 2) hx hb dL_setSide_19 (by decide) ?_
      refine vx_ret ?_
      exact w_iret hx hb hr hlocks hW ⟨hE, hp⟩ dL_setSide_20
  · obtain ⟨hX_S_2, hp⟩ := hp
    refine W.widen (k := 1) (n := 6) (by decide) (by decide) ?_
    have hE := hE.trans hX_S_2
    have hK_a0 : sK S_2 a0 = 16 := (hX_S_2.2 a0 hL_a0).1.trans hK_a0
    have hL_a0 : wM D S_2 a0 := hX_S_2.M hL_a0
    have hK_a3 : sK S_2 a3 = 22 := (hX_S_2.2 a3 hL_a3).1.trans hK_a3
    have hL_a3 : wM D S_2 a3 := hX_S_2.M hL_a3
    refine lv_i2l (v := (Int32.toInt64 r_1)) hx hb dL_setSide_8 rfl ?_
    obtain ⟨h_3m, h_3, hp⟩ := hp
    refine w_lst F hK hW h_3m hK_a3 h_3 dL_setSide_9 (fun H locs hW => ?_)
    obtain ⟨S_4, eS_4⟩ : ∃ z : wS, z = uJ S_2 a3 ((0 : Int32)).toNatClampNeg (Int32.toInt64 r_1) := ⟨_, rfl⟩
    rw [← eS_4] at hW
    replace hp := hp S_4 eS_4
    have hX_S_4 : wX D S_2 S_4 := by rw [eS_4]; exact wX_uJ
    have hE := hE.trans hX_S_4
    have hK_a0 : sK S_4 a0 = 16 := (hX_S_4.2 a0 hL_a0).1.trans hK_a0
    have hL_a0 : wM D S_4 a0 := hX_S_4.M hL_a0
    have hK_a3 : sK S_4 a3 = 22 := (hX_S_4.2 a3 hL_a3).1.trans hK_a3
    have hL_a3 : wM D S_4 a3 := hX_S_4.M hL_a3
    refine lv_goto (tgt := 21) hx hb dL_setSide_10 (by decide) ?_
    refine lv_iconst (v := 0) hx hb dL_setSide_21 (by decide) ?_
    refine vx_ret ?_
    exact w_iret hx hb hr hlocks hW ⟨hE, hp⟩ dL_setSide_22
set_option maxHeartbeats 4000000 in
set_option maxRecDepth 100000 in
theorem c_L_setSide (l : Launch) {D : wD} {cy : Nat → ClassId} {X : va_W} {S0 : wS} {post : Int32 → wS → Prop} (hl0 : l.stackTraces = false) {a0 : Nat} {x1 : Int32} {x2 : Int32} {a3 : Nat} (hL_a0 : wM D S0 a0) (hK_a0 : sK S0 a0 = 16) (hL_a3 : wM D S0 a3) (hK_a3 : sK S0 a3 = 22) (hp : wp_L_setSide D post S0 a0 x1 x2 a3) : xI D cy X l yL_setSide wz_L_setSide r_L_setSide [.ref a0, .int x1, .int x2, .ref a3] S0 (fun r S9 => wX D S0 S9 ∧ post r S9) (fun _ _ => False) := by
  intro sz
  refine vx_ofWH (hh := [(0, 10, 13, 13), (0, 10, 17, 20)]) (cc := cL_setSide) (maxL := 5) (ret := (some .int)) (by decide) rfl ?_
  intro p e s m args below meth c s₁ B hml hv
  obtain ⟨rfl, hsz, hP, hK, hD0, hRO⟩ := hv
  have hts := atoms_spec (ws := wz_L_setSide) B.pre
  have hown : s.vm.findClass RL = some m.cls := findClass_of_methodNamed B.named
  subst hsz
  have hD := hD0.self (sz := s.heap.size)
  have F : CallFix p m c cL_setSide 5 s _ wz_L_setSide RL := ⟨B.exec, B.bytes, hml, hown, hts⟩
  have htab : c.exceptionTable.toList.map xhF = [(0, 10, 13, 13), (0, 10, 17, 20)] := by
    obtain ⟨m9, meth9, c9, g0, g1, g2, -, -, g3, -⟩ := Cond.codeWith_spec (hts _ List.mem_cons_self)
    cases Option.some.inj (g0.symm.trans B.named)
    cases Option.some.inj (g1.symm.trans B.method)
    cases Option.some.inj (g2.symm.trans (Stand.of_body B).code)
    exact g3
  have hr := B.returns
  have hlocks := B.notSynchronized
  generalize hAe : va_A (wL cy X S0) s.heap.size = A at hD hK ⊢
  have hA : ∀ q, s.heap.size ≤ q → A q := fun q h => by rw [← hAe]; exact Or.inr h
  have hW : wO D cy X A s.heap S0 s.heap [] := ⟨hP, hD, va_S.rf, hA, hRO⟩
  have hl := lv_entry ([.ref a0, .int x1, .int x2, .ref a3]) (n := 5) (Nat.le_of_ble_eq_true rfl)
  rw [lg_entry_eq]
  generalize (lg_sl ([.ref a0, .int x1, .int x2, .ref a3]) ++ List.replicate (5 - (lg_sl ([.ref a0, .int x1, .int x2, .ref a3])).length) Slot.unset).toArray = ls at hl ⊢
  have hl : lv_has ls 5 [(0, .ref a0), (1, .int x1), (2, .int x2), (3, .ref a3)] := hl
  unfold wp_L_setSide at hp
  exact t_L_setSide_0 F hr hlocks hK hl0 htab hp hW wX.rf (lv_sub hl [0, 1, 2, 3] rfl) hL_a0 hK_a0 hL_a3 hK_a3
def wp_L_readPaper_0 (D : wD) (post : Int32 → wS → Prop)  (bc bs : Nat) (S : wS) (a0 : Nat) (a1 : Nat) : Prop :=
∃ m_3 z_4 : Nat, m_3 ≤ bc ∧ z_4 ≤ bs ∧
wp_X11_readPaper D (fun r_1 S_2 => 
a1 ∈ sL S_2 ∧ vp_in (0 : Int32) (sN S_2 a1) ∧
∀ S_6 : wS, S_6 = uJ S_2 a1 ((0 : Int32)).toNatClampNeg (Int32.toInt64 r_1) →
post (0 : Int32) S_6) (fun E_9 S9 => (E_9 = "java/lang/IllegalArgumentException" ∧ post (1 : Int32) S9) ∨ (E_9 = "java/lang/IllegalStateException" ∧ post (2 : Int32) S9)) m_3 z_4 S a0
abbrev r_L_readPaper (rC rS : Nat) : Room := { frames := 19, cells := rC, slots := rS, locals := 420 }
def wp_L_readPaper (D : wD) (post : Int32 → wS → Prop) (bc bs : Nat) (S : wS) (a0 : Nat) (a1 : Nat) : Prop := wp_L_readPaper_0 D post bc bs S a0 a1
set_option maxHeartbeats 4000000 in
set_option maxRecDepth 100000 in
theorem t_L_readPaper_0 {p : Program} {l : Launch} {e : Env} {s : State} {m : MethodId} {args : Array Value} {below : List Frame} {meth : Method} {c : Code} {D : wD} {cy : Nat → ClassId} {X : va_W} {A : Nat → Prop} {S0 : wS} {rC rS : Nat} {post : Int32 → wS → Prop} (F : CallFix p m c cL_readPaper 3 s args wz_L_readPaper RL) (hr : meth.sig.returnType = (some .int)) (hlocks : meth.locks = false) (hK : wK D cy A s) (hl0 : l.stackTraces = false) (htab : c.exceptionTable.toList.map xhF = [(0, 8, 11, 13), (0, 8, 14, 20)]) : ∀ {bc bs cells slots : Nat} (hbc : cells + bc ≤ rC) (hbs : slots + bs ≤ rS) {S : wS} {H : Heap} {locs : List Loc} {ls : Array Slot} {a0 : Nat} {a1 : Nat}, wp_L_readPaper_0 D post bc bs S a0 a1 → wO D cy X A s.heap S H locs → wX D S0 S → lv_has ls 3 [(0, .ref a0), (1, .ref a1)] → wM D S a0 → sK S a0 = 16 → wM D S a1 → sK S a1 = 22 → W p l e (r_L_readPaper rC rS) s m args below meth c H locs cells slots (vx_MQ below (va_Qi (fun r S9 => wX D S0 S9 ∧ post r S9) (wB D cy X A) A) (wEx D cy X A (fun _ _ => False)) args s rC rS A) (F0 m 0 ls []) := by
  obtain ⟨hx, hb, hml, hown, hts⟩ := id F
  have hwg : ∀ w ∈ WG, w.before args s = true := fun w h => hts w (List.mem_cons_of_mem _ h)
  intro bc bs cells slots hbc hbs S H locs ls a0 a1 hp hW hE hl hL_a0 hK_a0 hL_a1 hK_a1
  unfold wp_L_readPaper_0 at hp
  refine lv_aload_n hx hb dL_readPaper_0 rfl (lv_at hl 1 rfl) ?_
  refine lv_iconst (v := 0) hx hb dL_readPaper_1 (by decide) ?_
  refine lv_aload_n hx hb dL_readPaper_2 rfl (lv_at hl 0 rfl) ?_
  obtain ⟨m_3, z_4, hm_3, hz_4, hp⟩ := hp
  refine x_callI (vx_runV (As := []) (rest := [.int (0 : Int32), .ref a1]) F (c_X11_readPaper l hl0 hL_a0 hK_a0 hp H.size) (cwV (C := RX11) 0 hts (wg_V wm_RL_26 wy_X11_readPaper) rfl rfl rfl (by decide +kernel) ⟨Nat.le_of_ble_eq_true rfl, Nat.le_of_ble_eq_true rfl⟩) (w_preV hK hW hL_a0 hK_a0 (by decide) rfl) rfl rfl hl.1 rfl (lv_room (Nat.le_of_ble_eq_true rfl)) dL_readPaper_3 ⟨by show _ + m_3 ≤ rC; omega, by show _ + z_4 ≤ rS; omega⟩) hW (fun E ce q9 S9 H locs hp hW h1 h2 h3 => ?_) (fun r_1 S_2 H locs hp hW => ?_)
  · obtain ⟨hX_9, hp⟩ := hp
    have hE := hE.trans hX_9
    obtain ⟨z0, z1, htl, ez0, ez1⟩ := x_tab2 htab
    rcases hp with ⟨hEe, hp⟩ | ⟨hEe, hp⟩
    · subst hEe
      refine x_catch (nm := "java/lang/IllegalArgumentException") F hK [] z0 [z1] (by rw [htl]; rfl) ez0 (by decide) (by decide) (fun z hz => nomatch hz) (hwg _ wc_RL_13) (by decide +kernel) h1 h2 h3 ?_
      refine W.widen (k := rC) (n := rS) (by show _ + m_3 ≤ rC; omega) (by show _ + z_4 ≤ rS; omega) ?_
      refine lv_astore_n (lv' := [(2, .ref q9), (0, .ref a0), (1, .ref a1)]) hx hb dL_readPaper_11 rfl hl (by decide) rfl (fun ls hl => ?_)
      refine lv_iconst (v := 1) hx hb dL_readPaper_12 (by decide) ?_
      refine vx_ret ?_
      exact w_iret hx hb hr hlocks hW ⟨hE, hp⟩ dL_readPaper_13
    · subst hEe
      refine x_catch (nm := "java/lang/IllegalStateException") F hK [z0] z1 [] (by rw [htl]; rfl) ez1 (by decide) (by decide) (fun z hz => by
          simp only [List.mem_cons, List.not_mem_nil, or_false] at hz
          rcases hz with hz
          · rw [hz]; exact ⟨by rw [show z0.catchType = 13 from congrArg (fun q => q.2.2.2) ez0]; decide, "java/lang/IllegalArgumentException", by rw [show z0.catchType = 13 from congrArg (fun q => q.2.2.2) ez0]; exact hwg _ wc_RL_13, by decide +kernel⟩) (hwg _ wc_RL_20) (by decide +kernel) h1 h2 h3 ?_
      refine W.widen (k := rC) (n := rS) (by show _ + m_3 ≤ rC; omega) (by show _ + z_4 ≤ rS; omega) ?_
      refine lv_astore_n (lv' := [(2, .ref q9), (0, .ref a0), (1, .ref a1)]) hx hb dL_readPaper_14 rfl hl (by decide) rfl (fun ls hl => ?_)
      refine lv_iconst (v := 2) hx hb dL_readPaper_15 (by decide) ?_
      refine vx_ret ?_
      exact w_iret hx hb hr hlocks hW ⟨hE, hp⟩ dL_readPaper_16
  · obtain ⟨hX_S_2, hp⟩ := hp
    refine W.widen (k := _ + m_3) (n := _ + z_4) (Nat.le_refl _) (Nat.le_refl _) ?_
    replace hbc := w_spend hbc (show m_3 ≤ bc by omega)
    replace hbs := w_spend hbs (show z_4 ≤ bs by omega)
    have hE := hE.trans hX_S_2
    have hK_a0 : sK S_2 a0 = 16 := (hX_S_2.2 a0 hL_a0).1.trans hK_a0
    have hL_a0 : wM D S_2 a0 := hX_S_2.M hL_a0
    have hK_a1 : sK S_2 a1 = 22 := (hX_S_2.2 a1 hL_a1).1.trans hK_a1
    have hL_a1 : wM D S_2 a1 := hX_S_2.M hL_a1
    refine lv_i2l (v := (Int32.toInt64 r_1)) hx hb dL_readPaper_6 rfl ?_
    obtain ⟨h_5m, h_5, hp⟩ := hp
    refine w_lst F hK hW h_5m hK_a1 h_5 dL_readPaper_7 (fun H locs hW => ?_)
    obtain ⟨S_6, eS_6⟩ : ∃ z : wS, z = uJ S_2 a1 ((0 : Int32)).toNatClampNeg (Int32.toInt64 r_1) := ⟨_, rfl⟩
    rw [← eS_6] at hW
    replace hp := hp S_6 eS_6
    have hX_S_6 : wX D S_2 S_6 := by rw [eS_6]; exact wX_uJ
    have hE := hE.trans hX_S_6
    have hK_a0 : sK S_6 a0 = 16 := (hX_S_6.2 a0 hL_a0).1.trans hK_a0
    have hL_a0 : wM D S_6 a0 := hX_S_6.M hL_a0
    have hK_a1 : sK S_6 a1 = 22 := (hX_S_6.2 a1 hL_a1).1.trans hK_a1
    have hL_a1 : wM D S_6 a1 := hX_S_6.M hL_a1
    refine lv_goto (tgt := 17) hx hb dL_readPaper_8 (by decide) ?_
    refine lv_iconst (v := 0) hx hb dL_readPaper_17 (by decide) ?_
    refine W.widen (k := rC) (n := rS) (Nat.le_trans (Nat.le_add_right _ _) hbc) (Nat.le_trans (Nat.le_add_right _ _) hbs) ?_
    refine vx_ret ?_
    exact w_iret hx hb hr hlocks hW ⟨hE, hp⟩ dL_readPaper_18
set_option maxHeartbeats 4000000 in
set_option maxRecDepth 100000 in
theorem c_L_readPaper (l : Launch) {rC rS : Nat} {D : wD} {cy : Nat → ClassId} {X : va_W} {S0 : wS} {post : Int32 → wS → Prop} (hl0 : l.stackTraces = false) {a0 : Nat} {a1 : Nat} (hL_a0 : wM D S0 a0) (hK_a0 : sK S0 a0 = 16) (hL_a1 : wM D S0 a1) (hK_a1 : sK S0 a1 = 22) (hp : wp_L_readPaper D post rC rS S0 a0 a1) : xI D cy X l yL_readPaper wz_L_readPaper (r_L_readPaper rC rS) [.ref a0, .ref a1] S0 (fun r S9 => wX D S0 S9 ∧ post r S9) (fun _ _ => False) := by
  intro sz
  refine vx_ofWH (hh := [(0, 8, 11, 13), (0, 8, 14, 20)]) (cc := cL_readPaper) (maxL := 3) (ret := (some .int)) (by decide) rfl ?_
  intro p e s m args below meth c s₁ B hml hv
  obtain ⟨rfl, hsz, hP, hK, hD0, hRO⟩ := hv
  have hts := atoms_spec (ws := wz_L_readPaper) B.pre
  have hown : s.vm.findClass RL = some m.cls := findClass_of_methodNamed B.named
  subst hsz
  have hD := hD0.self (sz := s.heap.size)
  have F : CallFix p m c cL_readPaper 3 s _ wz_L_readPaper RL := ⟨B.exec, B.bytes, hml, hown, hts⟩
  have htab : c.exceptionTable.toList.map xhF = [(0, 8, 11, 13), (0, 8, 14, 20)] := by
    obtain ⟨m9, meth9, c9, g0, g1, g2, -, -, g3, -⟩ := Cond.codeWith_spec (hts _ List.mem_cons_self)
    cases Option.some.inj (g0.symm.trans B.named)
    cases Option.some.inj (g1.symm.trans B.method)
    cases Option.some.inj (g2.symm.trans (Stand.of_body B).code)
    exact g3
  have hr := B.returns
  have hlocks := B.notSynchronized
  generalize hAe : va_A (wL cy X S0) s.heap.size = A at hD hK ⊢
  have hA : ∀ q, s.heap.size ≤ q → A q := fun q h => by rw [← hAe]; exact Or.inr h
  have hW : wO D cy X A s.heap S0 s.heap [] := ⟨hP, hD, va_S.rf, hA, hRO⟩
  have hl := lv_entry ([.ref a0, .ref a1]) (n := 3) (Nat.le_of_ble_eq_true rfl)
  rw [lg_entry_eq]
  generalize (lg_sl ([.ref a0, .ref a1]) ++ List.replicate (3 - (lg_sl ([.ref a0, .ref a1])).length) Slot.unset).toArray = ls at hl ⊢
  have hl : lv_has ls 3 [(0, .ref a0), (1, .ref a1)] := hl
  unfold wp_L_readPaper at hp
  exact t_L_readPaper_0 F hr hlocks hK hl0 htab (Nat.le_of_eq (Nat.zero_add _)) (Nat.le_of_eq (Nat.zero_add _)) hp hW wX.rf (lv_sub hl [0, 1] rfl) hL_a0 hK_a0 hL_a1 hK_a1
def wp_L_pieceAt_0 (D : wD) (post : Int32 → wS → Prop)  (S : wS) (a0 : Nat) (x1 : Int32) (a2 : Nat) : Prop :=
wp_X11_pieceAt D (fun r_1 S_2 => 
a2 ∈ sL S_2 ∧ vp_in (0 : Int32) (sN S_2 a2) ∧
∀ S_4 : wS, S_4 = uJ S_2 a2 ((0 : Int32)).toNatClampNeg (Int32.toInt64 r_1) →
post (0 : Int32) S_4) (fun E_9 S9 => (E_9 = "java/lang/IndexOutOfBoundsException" ∧ post (1 : Int32) S9)) S a0 x1
abbrev r_L_pieceAt : Room := { frames := 8, cells := 1, slots := 6, locals := 162 }
def wp_L_pieceAt (D : wD) (post : Int32 → wS → Prop) (S : wS) (a0 : Nat) (x1 : Int32) (a2 : Nat) : Prop := wp_L_pieceAt_0 D post S a0 x1 a2
set_option maxHeartbeats 4000000 in
set_option maxRecDepth 100000 in
theorem t_L_pieceAt_0 {p : Program} {l : Launch} {e : Env} {s : State} {m : MethodId} {args : Array Value} {below : List Frame} {meth : Method} {c : Code} {D : wD} {cy : Nat → ClassId} {X : va_W} {A : Nat → Prop} {S0 : wS} {post : Int32 → wS → Prop} (F : CallFix p m c cL_pieceAt 4 s args wz_L_pieceAt RL) (hr : meth.sig.returnType = (some .int)) (hlocks : meth.locks = false) (hK : wK D cy A s) (hl0 : l.stackTraces = false) (htab : c.exceptionTable.toList.map xhF = [(0, 9, 12, 18)]) : ∀ {S : wS} {H : Heap} {locs : List Loc} {ls : Array Slot} {a0 : Nat} {x1 : Int32} {a2 : Nat}, wp_L_pieceAt_0 D post S a0 x1 a2 → wO D cy X A s.heap S H locs → wX D S0 S → lv_has ls 4 [(0, .ref a0), (1, .int x1), (2, .ref a2)] → wM D S a0 → sK S a0 = 16 → wM D S a2 → sK S a2 = 22 → W p l e r_L_pieceAt s m args below meth c H locs 0 0 (vx_MQ below (va_Qi (fun r S9 => wX D S0 S9 ∧ post r S9) (wB D cy X A) A) (wEx D cy X A (fun _ _ => False)) args s 1 6 A) (F0 m 0 ls []) := by
  obtain ⟨hx, hb, hml, hown, hts⟩ := id F
  have hwg : ∀ w ∈ WG, w.before args s = true := fun w h => hts w (List.mem_cons_of_mem _ h)
  intro S H locs ls a0 x1 a2 hp hW hE hl hL_a0 hK_a0 hL_a2 hK_a2
  unfold wp_L_pieceAt_0 at hp
  refine lv_aload_n hx hb dL_pieceAt_0 rfl (lv_at hl 2 rfl) ?_
  refine lv_iconst (v := 0) hx hb dL_pieceAt_1 (by decide) ?_
  refine lv_aload_n hx hb dL_pieceAt_2 rfl (lv_at hl 0 rfl) ?_
  refine lv_iload_n hx hb dL_pieceAt_3 rfl (lv_at hl 1 rfl) ?_
  refine x_callI (vx_runV (As := [.int x1]) (rest := [.int (0 : Int32), .ref a2]) F (c_X11_pieceAt l hl0 hL_a0 hK_a0 hp H.size) (cwV (C := RX11) 1 hts (wg_V wm_RL_30 wy_X11_pieceAt) rfl rfl rfl (by decide +kernel) ⟨Nat.le_of_ble_eq_true rfl, Nat.le_of_ble_eq_true rfl⟩) (w_preV hK hW hL_a0 hK_a0 (by decide) rfl) rfl rfl hl.1 rfl (lv_room (Nat.le_of_ble_eq_true rfl)) dL_pieceAt_4 ⟨Nat.le_of_ble_eq_true rfl, Nat.le_of_ble_eq_true rfl⟩) hW (fun E ce q9 S9 H locs hp hW h1 h2 h3 => ?_) (fun r_1 S_2 H locs hp hW => ?_)
  · obtain ⟨hX_9, hp⟩ := hp
    have hE := hE.trans hX_9
    obtain ⟨z0, htl, ez0⟩ := x_tab1 htab
    rcases hp with ⟨hEe, hp⟩
    · subst hEe
      refine x_catch (nm := "java/lang/IndexOutOfBoundsException") F hK [] z0 [] (by rw [htl]; rfl) ez0 (by decide) (by decide) (fun z hz => nomatch hz) (hwg _ wc_RL_18) (by decide +kernel) h1 h2 h3 ?_
      refine W.widen (k := 1) (n := 6) (by decide) (by decide) ?_
      refine lv_astore_n (lv' := [(3, .ref q9), (0, .ref a0), (1, .int x1), (2, .ref a2)]) hx hb dL_pieceAt_12 rfl hl (by decide) rfl (fun ls hl => ?_)
      refine lv_iconst (v := 1) hx hb dL_pieceAt_13 (by decide) ?_
      refine vx_ret ?_
      exact w_iret hx hb hr hlocks hW ⟨hE, hp⟩ dL_pieceAt_14
  · obtain ⟨hX_S_2, hp⟩ := hp
    refine W.widen (k := 1) (n := 6) (by decide) (by decide) ?_
    have hE := hE.trans hX_S_2
    have hK_a0 : sK S_2 a0 = 16 := (hX_S_2.2 a0 hL_a0).1.trans hK_a0
    have hL_a0 : wM D S_2 a0 := hX_S_2.M hL_a0
    have hK_a2 : sK S_2 a2 = 22 := (hX_S_2.2 a2 hL_a2).1.trans hK_a2
    have hL_a2 : wM D S_2 a2 := hX_S_2.M hL_a2
    refine lv_i2l (v := (Int32.toInt64 r_1)) hx hb dL_pieceAt_7 rfl ?_
    obtain ⟨h_3m, h_3, hp⟩ := hp
    refine w_lst F hK hW h_3m hK_a2 h_3 dL_pieceAt_8 (fun H locs hW => ?_)
    obtain ⟨S_4, eS_4⟩ : ∃ z : wS, z = uJ S_2 a2 ((0 : Int32)).toNatClampNeg (Int32.toInt64 r_1) := ⟨_, rfl⟩
    rw [← eS_4] at hW
    replace hp := hp S_4 eS_4
    have hX_S_4 : wX D S_2 S_4 := by rw [eS_4]; exact wX_uJ
    have hE := hE.trans hX_S_4
    have hK_a0 : sK S_4 a0 = 16 := (hX_S_4.2 a0 hL_a0).1.trans hK_a0
    have hL_a0 : wM D S_4 a0 := hX_S_4.M hL_a0
    have hK_a2 : sK S_4 a2 = 22 := (hX_S_4.2 a2 hL_a2).1.trans hK_a2
    have hL_a2 : wM D S_4 a2 := hX_S_4.M hL_a2
    refine lv_goto (tgt := 15) hx hb dL_pieceAt_9 (by decide) ?_
    refine lv_iconst (v := 0) hx hb dL_pieceAt_15 (by decide) ?_
    refine vx_ret ?_
    exact w_iret hx hb hr hlocks hW ⟨hE, hp⟩ dL_pieceAt_16
set_option maxHeartbeats 4000000 in
set_option maxRecDepth 100000 in
theorem c_L_pieceAt (l : Launch) {D : wD} {cy : Nat → ClassId} {X : va_W} {S0 : wS} {post : Int32 → wS → Prop} (hl0 : l.stackTraces = false) {a0 : Nat} {x1 : Int32} {a2 : Nat} (hL_a0 : wM D S0 a0) (hK_a0 : sK S0 a0 = 16) (hL_a2 : wM D S0 a2) (hK_a2 : sK S0 a2 = 22) (hp : wp_L_pieceAt D post S0 a0 x1 a2) : xI D cy X l yL_pieceAt wz_L_pieceAt r_L_pieceAt [.ref a0, .int x1, .ref a2] S0 (fun r S9 => wX D S0 S9 ∧ post r S9) (fun _ _ => False) := by
  intro sz
  refine vx_ofWH (hh := [(0, 9, 12, 18)]) (cc := cL_pieceAt) (maxL := 4) (ret := (some .int)) (by decide) rfl ?_
  intro p e s m args below meth c s₁ B hml hv
  obtain ⟨rfl, hsz, hP, hK, hD0, hRO⟩ := hv
  have hts := atoms_spec (ws := wz_L_pieceAt) B.pre
  have hown : s.vm.findClass RL = some m.cls := findClass_of_methodNamed B.named
  subst hsz
  have hD := hD0.self (sz := s.heap.size)
  have F : CallFix p m c cL_pieceAt 4 s _ wz_L_pieceAt RL := ⟨B.exec, B.bytes, hml, hown, hts⟩
  have htab : c.exceptionTable.toList.map xhF = [(0, 9, 12, 18)] := by
    obtain ⟨m9, meth9, c9, g0, g1, g2, -, -, g3, -⟩ := Cond.codeWith_spec (hts _ List.mem_cons_self)
    cases Option.some.inj (g0.symm.trans B.named)
    cases Option.some.inj (g1.symm.trans B.method)
    cases Option.some.inj (g2.symm.trans (Stand.of_body B).code)
    exact g3
  have hr := B.returns
  have hlocks := B.notSynchronized
  generalize hAe : va_A (wL cy X S0) s.heap.size = A at hD hK ⊢
  have hA : ∀ q, s.heap.size ≤ q → A q := fun q h => by rw [← hAe]; exact Or.inr h
  have hW : wO D cy X A s.heap S0 s.heap [] := ⟨hP, hD, va_S.rf, hA, hRO⟩
  have hl := lv_entry ([.ref a0, .int x1, .ref a2]) (n := 4) (Nat.le_of_ble_eq_true rfl)
  rw [lg_entry_eq]
  generalize (lg_sl ([.ref a0, .int x1, .ref a2]) ++ List.replicate (4 - (lg_sl ([.ref a0, .int x1, .ref a2])).length) Slot.unset).toArray = ls at hl ⊢
  have hl : lv_has ls 4 [(0, .ref a0), (1, .int x1), (2, .ref a2)] := hl
  unfold wp_L_pieceAt at hp
  exact t_L_pieceAt_0 F hr hlocks hK hl0 htab hp hW wX.rf (lv_sub hl [0, 1, 2] rfl) hL_a0 hK_a0 hL_a2 hK_a2
def wp_L_isAttacked_16 (D : wD) (post : Int32 → wS → Prop)  (S : wS) (b0 : Nat) (t1 : Int32) (t2 : Int64) : Prop :=
b0 ∈ sL S ∧ vp_in t1 (sN S b0) ∧
∀ S_2 : wS, S_2 = uJ S b0 (t1).toNatClampNeg t2 →
post (0 : Int32) S_2
def wp_L_isAttacked_0 (D : wD) (post : Int32 → wS → Prop)  (S : wS) (a0 : Nat) (x1 : Int32) (x2 : Int32) (a3 : Nat) : Prop :=
wp_X11_isAttacked D (fun r_1 S_2 => 
((r_1 = 0 → wp_L_isAttacked_16 D post S_2 a3 (0 : Int32) (0 : Int64)) ∧
 (¬ r_1 = 0 → wp_L_isAttacked_16 D post S_2 a3 (0 : Int32) (1 : Int64)))) (fun E_9 S9 => (E_9 = "java/lang/IndexOutOfBoundsException" ∧ post (1 : Int32) S9)) S a0 x1 x2
abbrev r_L_isAttacked : Room := { frames := 8, cells := 1, slots := 6, locals := 163 }
def wp_L_isAttacked (D : wD) (post : Int32 → wS → Prop) (S : wS) (a0 : Nat) (x1 : Int32) (x2 : Int32) (a3 : Nat) : Prop := wp_L_isAttacked_0 D post S a0 x1 x2 a3
set_option maxHeartbeats 4000000 in
set_option maxRecDepth 100000 in
theorem t_L_isAttacked_16 {p : Program} {l : Launch} {e : Env} {s : State} {m : MethodId} {args : Array Value} {below : List Frame} {meth : Method} {c : Code} {D : wD} {cy : Nat → ClassId} {X : va_W} {A : Nat → Prop} {S0 : wS} {post : Int32 → wS → Prop} (F : CallFix p m c cL_isAttacked 5 s args wz_L_isAttacked RL) (hr : meth.sig.returnType = (some .int)) (hlocks : meth.locks = false) (hK : wK D cy A s) (hl0 : l.stackTraces = false) (htab : c.exceptionTable.toList.map xhF = [(0, 17, 20, 18)]) : ∀ {S : wS} {H : Heap} {locs : List Loc} {ls : Array Slot} {b0 : Nat} {t1 : Int32} {t2 : Int64}, wp_L_isAttacked_16 D post S b0 t1 t2 → wO D cy X A s.heap S H locs → wX D S0 S → lv_has ls 5 [] → wM D S b0 → sK S b0 = 22 → W p l e r_L_isAttacked s m args below meth c H locs 1 6 (vx_MQ below (va_Qi (fun r S9 => wX D S0 S9 ∧ post r S9) (wB D cy X A) A) (wEx D cy X A (fun _ _ => False)) args s 1 6 A) (F0 m 16 ls [.long t2, .int t1, .ref b0]) := by
  obtain ⟨hx, hb, hml, hown, hts⟩ := id F
  have hwg : ∀ w ∈ WG, w.before args s = true := fun w h => hts w (List.mem_cons_of_mem _ h)
  intro S H locs ls b0 t1 t2 hp hW hE hl hL_b0 hK_b0
  unfold wp_L_isAttacked_16 at hp
  obtain ⟨h_1m, h_1, hp⟩ := hp
  refine w_lst F hK hW h_1m hK_b0 h_1 dL_isAttacked_16 (fun H locs hW => ?_)
  obtain ⟨S_2, eS_2⟩ : ∃ z : wS, z = uJ S b0 (t1).toNatClampNeg t2 := ⟨_, rfl⟩
  rw [← eS_2] at hW
  replace hp := hp S_2 eS_2
  have hX_S_2 : wX D S S_2 := by rw [eS_2]; exact wX_uJ
  have hE := hE.trans hX_S_2
  refine lv_goto (tgt := 24) hx hb dL_isAttacked_17 (by decide) ?_
  refine lv_iconst (v := 0) hx hb dL_isAttacked_24 (by decide) ?_
  refine vx_ret ?_
  exact w_iret hx hb hr hlocks hW ⟨hE, hp⟩ dL_isAttacked_25
set_option maxHeartbeats 4000000 in
set_option maxRecDepth 100000 in
theorem t_L_isAttacked_0 {p : Program} {l : Launch} {e : Env} {s : State} {m : MethodId} {args : Array Value} {below : List Frame} {meth : Method} {c : Code} {D : wD} {cy : Nat → ClassId} {X : va_W} {A : Nat → Prop} {S0 : wS} {post : Int32 → wS → Prop} (F : CallFix p m c cL_isAttacked 5 s args wz_L_isAttacked RL) (hr : meth.sig.returnType = (some .int)) (hlocks : meth.locks = false) (hK : wK D cy A s) (hl0 : l.stackTraces = false) (htab : c.exceptionTable.toList.map xhF = [(0, 17, 20, 18)]) : ∀ {S : wS} {H : Heap} {locs : List Loc} {ls : Array Slot} {a0 : Nat} {x1 : Int32} {x2 : Int32} {a3 : Nat}, wp_L_isAttacked_0 D post S a0 x1 x2 a3 → wO D cy X A s.heap S H locs → wX D S0 S → lv_has ls 5 [(0, .ref a0), (1, .int x1), (2, .int x2), (3, .ref a3)] → wM D S a0 → sK S a0 = 16 → wM D S a3 → sK S a3 = 22 → W p l e r_L_isAttacked s m args below meth c H locs 0 0 (vx_MQ below (va_Qi (fun r S9 => wX D S0 S9 ∧ post r S9) (wB D cy X A) A) (wEx D cy X A (fun _ _ => False)) args s 1 6 A) (F0 m 0 ls []) := by
  obtain ⟨hx, hb, hml, hown, hts⟩ := id F
  have hwg : ∀ w ∈ WG, w.before args s = true := fun w h => hts w (List.mem_cons_of_mem _ h)
  intro S H locs ls a0 x1 x2 a3 hp hW hE hl hL_a0 hK_a0 hL_a3 hK_a3
  unfold wp_L_isAttacked_0 at hp
  refine lv_aload_n hx hb dL_isAttacked_0 rfl (lv_at hl 3 rfl) ?_
  refine lv_iconst (v := 0) hx hb dL_isAttacked_1 (by decide) ?_
  refine lv_aload_n hx hb dL_isAttacked_2 rfl (lv_at hl 0 rfl) ?_
  refine lv_iload_n hx hb dL_isAttacked_3 rfl (lv_at hl 1 rfl) ?_
  refine lv_iload_n hx hb dL_isAttacked_4 rfl (lv_at hl 2 rfl) ?_
  refine x_callI (vx_runV (As := [.int x1, .int x2]) (rest := [.int (0 : Int32), .ref a3]) F (c_X11_isAttacked l hl0 hL_a0 hK_a0 hp H.size) (cwV (C := RX11) 2 hts (wg_V wm_RL_34 wy_X11_isAttacked) rfl rfl rfl (by decide +kernel) ⟨Nat.le_of_ble_eq_true rfl, Nat.le_of_ble_eq_true rfl⟩) (w_preV hK hW hL_a0 hK_a0 (by decide) rfl) rfl rfl hl.1 rfl (lv_room (Nat.le_of_ble_eq_true rfl)) dL_isAttacked_5 ⟨Nat.le_of_ble_eq_true rfl, Nat.le_of_ble_eq_true rfl⟩) hW (fun E ce q9 S9 H locs hp hW h1 h2 h3 => ?_) (fun r_1 S_2 H locs hp hW => ?_)
  · obtain ⟨hX_9, hp⟩ := hp
    have hE := hE.trans hX_9
    obtain ⟨z0, htl, ez0⟩ := x_tab1 htab
    rcases hp with ⟨hEe, hp⟩
    · subst hEe
      refine x_catch (nm := "java/lang/IndexOutOfBoundsException") F hK [] z0 [] (by rw [htl]; rfl) ez0 (by decide) (by decide) (fun z hz => nomatch hz) (hwg _ wc_RL_18) (by decide +kernel) h1 h2 h3 ?_
      refine W.widen (k := 1) (n := 6) (by decide) (by decide) ?_
      refine lv_astore (lv' := [(4, .ref q9), (0, .ref a0), (1, .int x1), (2, .int x2), (3, .ref a3)]) hx hb dL_isAttacked_20 hl (by decide) rfl (fun ls hl => ?_)
      refine lv_iconst (v := 1) hx hb dL_isAttacked_22 (by decide) ?_
      refine vx_ret ?_
      exact w_iret hx hb hr hlocks hW ⟨hE, hp⟩ dL_isAttacked_23
  · obtain ⟨hX_S_2, hp⟩ := hp
    refine W.widen (k := 1) (n := 6) (by decide) (by decide) ?_
    have hE := hE.trans hX_S_2
    have hK_a0 : sK S_2 a0 = 16 := (hX_S_2.2 a0 hL_a0).1.trans hK_a0
    have hL_a0 : wM D S_2 a0 := hX_S_2.M hL_a0
    have hK_a3 : sK S_2 a3 = 22 := (hX_S_2.2 a3 hL_a3).1.trans hK_a3
    have hL_a3 : wM D S_2 a3 := hX_S_2.M hL_a3
    refine lv_if_eq (tgt := 15) hx hb dL_isAttacked_8 (by decide) (fun c_3 => ?_) (fun c_3 => ?_)
    · replace hp := hp.1 c_3
      refine lv_lconst (v := 0) hx hb dL_isAttacked_15 (by decide) ?_
      exact t_L_isAttacked_16 F hr hlocks hK hl0 htab hp hW hE (lv_sub hl [] rfl) hL_a3 hK_a3
    · replace hp := hp.2 c_3
      refine lv_lconst (v := 1) hx hb dL_isAttacked_11 (by decide) ?_
      refine lv_goto (tgt := 16) hx hb dL_isAttacked_12 (by decide) ?_
      exact t_L_isAttacked_16 F hr hlocks hK hl0 htab hp hW hE (lv_sub hl [] rfl) hL_a3 hK_a3
set_option maxHeartbeats 4000000 in
set_option maxRecDepth 100000 in
theorem c_L_isAttacked (l : Launch) {D : wD} {cy : Nat → ClassId} {X : va_W} {S0 : wS} {post : Int32 → wS → Prop} (hl0 : l.stackTraces = false) {a0 : Nat} {x1 : Int32} {x2 : Int32} {a3 : Nat} (hL_a0 : wM D S0 a0) (hK_a0 : sK S0 a0 = 16) (hL_a3 : wM D S0 a3) (hK_a3 : sK S0 a3 = 22) (hp : wp_L_isAttacked D post S0 a0 x1 x2 a3) : xI D cy X l yL_isAttacked wz_L_isAttacked r_L_isAttacked [.ref a0, .int x1, .int x2, .ref a3] S0 (fun r S9 => wX D S0 S9 ∧ post r S9) (fun _ _ => False) := by
  intro sz
  refine vx_ofWH (hh := [(0, 17, 20, 18)]) (cc := cL_isAttacked) (maxL := 5) (ret := (some .int)) (by decide) rfl ?_
  intro p e s m args below meth c s₁ B hml hv
  obtain ⟨rfl, hsz, hP, hK, hD0, hRO⟩ := hv
  have hts := atoms_spec (ws := wz_L_isAttacked) B.pre
  have hown : s.vm.findClass RL = some m.cls := findClass_of_methodNamed B.named
  subst hsz
  have hD := hD0.self (sz := s.heap.size)
  have F : CallFix p m c cL_isAttacked 5 s _ wz_L_isAttacked RL := ⟨B.exec, B.bytes, hml, hown, hts⟩
  have htab : c.exceptionTable.toList.map xhF = [(0, 17, 20, 18)] := by
    obtain ⟨m9, meth9, c9, g0, g1, g2, -, -, g3, -⟩ := Cond.codeWith_spec (hts _ List.mem_cons_self)
    cases Option.some.inj (g0.symm.trans B.named)
    cases Option.some.inj (g1.symm.trans B.method)
    cases Option.some.inj (g2.symm.trans (Stand.of_body B).code)
    exact g3
  have hr := B.returns
  have hlocks := B.notSynchronized
  generalize hAe : va_A (wL cy X S0) s.heap.size = A at hD hK ⊢
  have hA : ∀ q, s.heap.size ≤ q → A q := fun q h => by rw [← hAe]; exact Or.inr h
  have hW : wO D cy X A s.heap S0 s.heap [] := ⟨hP, hD, va_S.rf, hA, hRO⟩
  have hl := lv_entry ([.ref a0, .int x1, .int x2, .ref a3]) (n := 5) (Nat.le_of_ble_eq_true rfl)
  rw [lg_entry_eq]
  generalize (lg_sl ([.ref a0, .int x1, .int x2, .ref a3]) ++ List.replicate (5 - (lg_sl ([.ref a0, .int x1, .int x2, .ref a3])).length) Slot.unset).toArray = ls at hl ⊢
  have hl : lv_has ls 5 [(0, .ref a0), (1, .int x1), (2, .int x2), (3, .ref a3)] := hl
  unfold wp_L_isAttacked at hp
  exact t_L_isAttacked_0 F hr hlocks hK hl0 htab hp hW wX.rf (lv_sub hl [0, 1, 2, 3] rfl) hL_a0 hK_a0 hL_a3 hK_a3
def wp_L_checkers_0 (D : wD) (post : Int32 → wS → Prop)  (S : wS) (a0 : Nat) (a1 : Nat) : Prop :=
wp_X11_checkers D (fun r_1 S_2 => 
a1 ∈ sL S_2 ∧ vp_in (0 : Int32) (sN S_2 a1) ∧
∀ S_4 : wS, S_4 = uJ S_2 a1 ((0 : Int32)).toNatClampNeg (Int32.toInt64 r_1) →
post (0 : Int32) S_4) (fun E_9 S9 => (E_9 = "java/lang/IllegalStateException" ∧ post (1 : Int32) S9)) S a0
abbrev r_L_checkers : Room := { frames := 8, cells := 1, slots := 6, locals := 161 }
def wp_L_checkers (D : wD) (post : Int32 → wS → Prop) (S : wS) (a0 : Nat) (a1 : Nat) : Prop := wp_L_checkers_0 D post S a0 a1
set_option maxHeartbeats 4000000 in
set_option maxRecDepth 100000 in
theorem t_L_checkers_0 {p : Program} {l : Launch} {e : Env} {s : State} {m : MethodId} {args : Array Value} {below : List Frame} {meth : Method} {c : Code} {D : wD} {cy : Nat → ClassId} {X : va_W} {A : Nat → Prop} {S0 : wS} {post : Int32 → wS → Prop} (F : CallFix p m c cL_checkers 3 s args wz_L_checkers RL) (hr : meth.sig.returnType = (some .int)) (hlocks : meth.locks = false) (hK : wK D cy A s) (hl0 : l.stackTraces = false) (htab : c.exceptionTable.toList.map xhF = [(0, 8, 11, 20)]) : ∀ {S : wS} {H : Heap} {locs : List Loc} {ls : Array Slot} {a0 : Nat} {a1 : Nat}, wp_L_checkers_0 D post S a0 a1 → wO D cy X A s.heap S H locs → wX D S0 S → lv_has ls 3 [(0, .ref a0), (1, .ref a1)] → wM D S a0 → sK S a0 = 16 → wM D S a1 → sK S a1 = 22 → W p l e r_L_checkers s m args below meth c H locs 0 0 (vx_MQ below (va_Qi (fun r S9 => wX D S0 S9 ∧ post r S9) (wB D cy X A) A) (wEx D cy X A (fun _ _ => False)) args s 1 6 A) (F0 m 0 ls []) := by
  obtain ⟨hx, hb, hml, hown, hts⟩ := id F
  have hwg : ∀ w ∈ WG, w.before args s = true := fun w h => hts w (List.mem_cons_of_mem _ h)
  intro S H locs ls a0 a1 hp hW hE hl hL_a0 hK_a0 hL_a1 hK_a1
  unfold wp_L_checkers_0 at hp
  refine lv_aload_n hx hb dL_checkers_0 rfl (lv_at hl 1 rfl) ?_
  refine lv_iconst (v := 0) hx hb dL_checkers_1 (by decide) ?_
  refine lv_aload_n hx hb dL_checkers_2 rfl (lv_at hl 0 rfl) ?_
  refine x_callI (vx_runV (As := []) (rest := [.int (0 : Int32), .ref a1]) F (c_X11_checkers l hl0 hL_a0 hK_a0 hp H.size) (cwV (C := RX11) 0 hts (wg_V wm_RL_38 wy_X11_checkers) rfl rfl rfl (by decide +kernel) ⟨Nat.le_of_ble_eq_true rfl, Nat.le_of_ble_eq_true rfl⟩) (w_preV hK hW hL_a0 hK_a0 (by decide) rfl) rfl rfl hl.1 rfl (lv_room (Nat.le_of_ble_eq_true rfl)) dL_checkers_3 ⟨Nat.le_of_ble_eq_true rfl, Nat.le_of_ble_eq_true rfl⟩) hW (fun E ce q9 S9 H locs hp hW h1 h2 h3 => ?_) (fun r_1 S_2 H locs hp hW => ?_)
  · obtain ⟨hX_9, hp⟩ := hp
    have hE := hE.trans hX_9
    obtain ⟨z0, htl, ez0⟩ := x_tab1 htab
    rcases hp with ⟨hEe, hp⟩
    · subst hEe
      refine x_catch (nm := "java/lang/IllegalStateException") F hK [] z0 [] (by rw [htl]; rfl) ez0 (by decide) (by decide) (fun z hz => nomatch hz) (hwg _ wc_RL_20) (by decide +kernel) h1 h2 h3 ?_
      refine W.widen (k := 1) (n := 6) (by decide) (by decide) ?_
      refine lv_astore_n (lv' := [(2, .ref q9), (0, .ref a0), (1, .ref a1)]) hx hb dL_checkers_11 rfl hl (by decide) rfl (fun ls hl => ?_)
      refine lv_iconst (v := 1) hx hb dL_checkers_12 (by decide) ?_
      refine vx_ret ?_
      exact w_iret hx hb hr hlocks hW ⟨hE, hp⟩ dL_checkers_13
  · obtain ⟨hX_S_2, hp⟩ := hp
    refine W.widen (k := 1) (n := 6) (by decide) (by decide) ?_
    have hE := hE.trans hX_S_2
    have hK_a0 : sK S_2 a0 = 16 := (hX_S_2.2 a0 hL_a0).1.trans hK_a0
    have hL_a0 : wM D S_2 a0 := hX_S_2.M hL_a0
    have hK_a1 : sK S_2 a1 = 22 := (hX_S_2.2 a1 hL_a1).1.trans hK_a1
    have hL_a1 : wM D S_2 a1 := hX_S_2.M hL_a1
    refine lv_i2l (v := (Int32.toInt64 r_1)) hx hb dL_checkers_6 rfl ?_
    obtain ⟨h_3m, h_3, hp⟩ := hp
    refine w_lst F hK hW h_3m hK_a1 h_3 dL_checkers_7 (fun H locs hW => ?_)
    obtain ⟨S_4, eS_4⟩ : ∃ z : wS, z = uJ S_2 a1 ((0 : Int32)).toNatClampNeg (Int32.toInt64 r_1) := ⟨_, rfl⟩
    rw [← eS_4] at hW
    replace hp := hp S_4 eS_4
    have hX_S_4 : wX D S_2 S_4 := by rw [eS_4]; exact wX_uJ
    have hE := hE.trans hX_S_4
    have hK_a0 : sK S_4 a0 = 16 := (hX_S_4.2 a0 hL_a0).1.trans hK_a0
    have hL_a0 : wM D S_4 a0 := hX_S_4.M hL_a0
    have hK_a1 : sK S_4 a1 = 22 := (hX_S_4.2 a1 hL_a1).1.trans hK_a1
    have hL_a1 : wM D S_4 a1 := hX_S_4.M hL_a1
    refine lv_goto (tgt := 14) hx hb dL_checkers_8 (by decide) ?_
    refine lv_iconst (v := 0) hx hb dL_checkers_14 (by decide) ?_
    refine vx_ret ?_
    exact w_iret hx hb hr hlocks hW ⟨hE, hp⟩ dL_checkers_15
set_option maxHeartbeats 4000000 in
set_option maxRecDepth 100000 in
theorem c_L_checkers (l : Launch) {D : wD} {cy : Nat → ClassId} {X : va_W} {S0 : wS} {post : Int32 → wS → Prop} (hl0 : l.stackTraces = false) {a0 : Nat} {a1 : Nat} (hL_a0 : wM D S0 a0) (hK_a0 : sK S0 a0 = 16) (hL_a1 : wM D S0 a1) (hK_a1 : sK S0 a1 = 22) (hp : wp_L_checkers D post S0 a0 a1) : xI D cy X l yL_checkers wz_L_checkers r_L_checkers [.ref a0, .ref a1] S0 (fun r S9 => wX D S0 S9 ∧ post r S9) (fun _ _ => False) := by
  intro sz
  refine vx_ofWH (hh := [(0, 8, 11, 20)]) (cc := cL_checkers) (maxL := 3) (ret := (some .int)) (by decide) rfl ?_
  intro p e s m args below meth c s₁ B hml hv
  obtain ⟨rfl, hsz, hP, hK, hD0, hRO⟩ := hv
  have hts := atoms_spec (ws := wz_L_checkers) B.pre
  have hown : s.vm.findClass RL = some m.cls := findClass_of_methodNamed B.named
  subst hsz
  have hD := hD0.self (sz := s.heap.size)
  have F : CallFix p m c cL_checkers 3 s _ wz_L_checkers RL := ⟨B.exec, B.bytes, hml, hown, hts⟩
  have htab : c.exceptionTable.toList.map xhF = [(0, 8, 11, 20)] := by
    obtain ⟨m9, meth9, c9, g0, g1, g2, -, -, g3, -⟩ := Cond.codeWith_spec (hts _ List.mem_cons_self)
    cases Option.some.inj (g0.symm.trans B.named)
    cases Option.some.inj (g1.symm.trans B.method)
    cases Option.some.inj (g2.symm.trans (Stand.of_body B).code)
    exact g3
  have hr := B.returns
  have hlocks := B.notSynchronized
  generalize hAe : va_A (wL cy X S0) s.heap.size = A at hD hK ⊢
  have hA : ∀ q, s.heap.size ≤ q → A q := fun q h => by rw [← hAe]; exact Or.inr h
  have hW : wO D cy X A s.heap S0 s.heap [] := ⟨hP, hD, va_S.rf, hA, hRO⟩
  have hl := lv_entry ([.ref a0, .ref a1]) (n := 3) (Nat.le_of_ble_eq_true rfl)
  rw [lg_entry_eq]
  generalize (lg_sl ([.ref a0, .ref a1]) ++ List.replicate (3 - (lg_sl ([.ref a0, .ref a1])).length) Slot.unset).toArray = ls at hl ⊢
  have hl : lv_has ls 3 [(0, .ref a0), (1, .ref a1)] := hl
  unfold wp_L_checkers at hp
  exact t_L_checkers_0 F hr hlocks hK hl0 htab hp hW wX.rf (lv_sub hl [0, 1] rfl) hL_a0 hK_a0 hL_a1 hK_a1
def wp_L_isPinned_15 (D : wD) (post : Int32 → wS → Prop)  (S : wS) (b0 : Nat) (t1 : Int32) (t2 : Int64) : Prop :=
b0 ∈ sL S ∧ vp_in t1 (sN S b0) ∧
∀ S_2 : wS, S_2 = uJ S b0 (t1).toNatClampNeg t2 →
post (0 : Int32) S_2
def wp_L_isPinned_0 (D : wD) (post : Int32 → wS → Prop)  (S : wS) (a0 : Nat) (x1 : Int32) (a2 : Nat) : Prop :=
wp_X11_isPinned D (fun r_1 S_2 => 
((r_1 = 0 → wp_L_isPinned_15 D post S_2 a2 (0 : Int32) (0 : Int64)) ∧
 (¬ r_1 = 0 → wp_L_isPinned_15 D post S_2 a2 (0 : Int32) (1 : Int64)))) (fun E_9 S9 => (E_9 = "java/lang/IndexOutOfBoundsException" ∧ post (1 : Int32) S9) ∨ (E_9 = "java/lang/IllegalStateException" ∧ post (2 : Int32) S9)) S a0 x1
abbrev r_L_isPinned : Room := { frames := 8, cells := 2, slots := 12, locals := 162 }
def wp_L_isPinned (D : wD) (post : Int32 → wS → Prop) (S : wS) (a0 : Nat) (x1 : Int32) (a2 : Nat) : Prop := wp_L_isPinned_0 D post S a0 x1 a2
set_option maxHeartbeats 4000000 in
set_option maxRecDepth 100000 in
theorem t_L_isPinned_15 {p : Program} {l : Launch} {e : Env} {s : State} {m : MethodId} {args : Array Value} {below : List Frame} {meth : Method} {c : Code} {D : wD} {cy : Nat → ClassId} {X : va_W} {A : Nat → Prop} {S0 : wS} {post : Int32 → wS → Prop} (F : CallFix p m c cL_isPinned 4 s args wz_L_isPinned RL) (hr : meth.sig.returnType = (some .int)) (hlocks : meth.locks = false) (hK : wK D cy A s) (hl0 : l.stackTraces = false) (htab : c.exceptionTable.toList.map xhF = [(0, 16, 19, 18), (0, 16, 22, 20)]) : ∀ {S : wS} {H : Heap} {locs : List Loc} {ls : Array Slot} {b0 : Nat} {t1 : Int32} {t2 : Int64}, wp_L_isPinned_15 D post S b0 t1 t2 → wO D cy X A s.heap S H locs → wX D S0 S → lv_has ls 4 [] → wM D S b0 → sK S b0 = 22 → W p l e r_L_isPinned s m args below meth c H locs 2 12 (vx_MQ below (va_Qi (fun r S9 => wX D S0 S9 ∧ post r S9) (wB D cy X A) A) (wEx D cy X A (fun _ _ => False)) args s 2 12 A) (F0 m 15 ls [.long t2, .int t1, .ref b0]) := by
  obtain ⟨hx, hb, hml, hown, hts⟩ := id F
  have hwg : ∀ w ∈ WG, w.before args s = true := fun w h => hts w (List.mem_cons_of_mem _ h)
  intro S H locs ls b0 t1 t2 hp hW hE hl hL_b0 hK_b0
  unfold wp_L_isPinned_15 at hp
  obtain ⟨h_1m, h_1, hp⟩ := hp
  refine w_lst F hK hW h_1m hK_b0 h_1 dL_isPinned_15 (fun H locs hW => ?_)
  obtain ⟨S_2, eS_2⟩ : ∃ z : wS, z = uJ S b0 (t1).toNatClampNeg t2 := ⟨_, rfl⟩
  rw [← eS_2] at hW
  replace hp := hp S_2 eS_2
  have hX_S_2 : wX D S S_2 := by rw [eS_2]; exact wX_uJ
  have hE := hE.trans hX_S_2
  refine lv_goto (tgt := 25) hx hb dL_isPinned_16 (by decide) ?_
  refine lv_iconst (v := 0) hx hb dL_isPinned_25 (by decide) ?_
  refine vx_ret ?_
  exact w_iret hx hb hr hlocks hW ⟨hE, hp⟩ dL_isPinned_26
set_option maxHeartbeats 4000000 in
set_option maxRecDepth 100000 in
theorem t_L_isPinned_0 {p : Program} {l : Launch} {e : Env} {s : State} {m : MethodId} {args : Array Value} {below : List Frame} {meth : Method} {c : Code} {D : wD} {cy : Nat → ClassId} {X : va_W} {A : Nat → Prop} {S0 : wS} {post : Int32 → wS → Prop} (F : CallFix p m c cL_isPinned 4 s args wz_L_isPinned RL) (hr : meth.sig.returnType = (some .int)) (hlocks : meth.locks = false) (hK : wK D cy A s) (hl0 : l.stackTraces = false) (htab : c.exceptionTable.toList.map xhF = [(0, 16, 19, 18), (0, 16, 22, 20)]) : ∀ {S : wS} {H : Heap} {locs : List Loc} {ls : Array Slot} {a0 : Nat} {x1 : Int32} {a2 : Nat}, wp_L_isPinned_0 D post S a0 x1 a2 → wO D cy X A s.heap S H locs → wX D S0 S → lv_has ls 4 [(0, .ref a0), (1, .int x1), (2, .ref a2)] → wM D S a0 → sK S a0 = 16 → wM D S a2 → sK S a2 = 22 → W p l e r_L_isPinned s m args below meth c H locs 0 0 (vx_MQ below (va_Qi (fun r S9 => wX D S0 S9 ∧ post r S9) (wB D cy X A) A) (wEx D cy X A (fun _ _ => False)) args s 2 12 A) (F0 m 0 ls []) := by
  obtain ⟨hx, hb, hml, hown, hts⟩ := id F
  have hwg : ∀ w ∈ WG, w.before args s = true := fun w h => hts w (List.mem_cons_of_mem _ h)
  intro S H locs ls a0 x1 a2 hp hW hE hl hL_a0 hK_a0 hL_a2 hK_a2
  unfold wp_L_isPinned_0 at hp
  refine lv_aload_n hx hb dL_isPinned_0 rfl (lv_at hl 2 rfl) ?_
  refine lv_iconst (v := 0) hx hb dL_isPinned_1 (by decide) ?_
  refine lv_aload_n hx hb dL_isPinned_2 rfl (lv_at hl 0 rfl) ?_
  refine lv_iload_n hx hb dL_isPinned_3 rfl (lv_at hl 1 rfl) ?_
  refine x_callI (vx_runV (As := [.int x1]) (rest := [.int (0 : Int32), .ref a2]) F (c_X11_isPinned l hl0 hL_a0 hK_a0 hp H.size) (cwV (C := RX11) 1 hts (wg_V wm_RL_41 wy_X11_isPinned) rfl rfl rfl (by decide +kernel) ⟨Nat.le_of_ble_eq_true rfl, Nat.le_of_ble_eq_true rfl⟩) (w_preV hK hW hL_a0 hK_a0 (by decide) rfl) rfl rfl hl.1 rfl (lv_room (Nat.le_of_ble_eq_true rfl)) dL_isPinned_4 ⟨Nat.le_of_ble_eq_true rfl, Nat.le_of_ble_eq_true rfl⟩) hW (fun E ce q9 S9 H locs hp hW h1 h2 h3 => ?_) (fun r_1 S_2 H locs hp hW => ?_)
  · obtain ⟨hX_9, hp⟩ := hp
    have hE := hE.trans hX_9
    obtain ⟨z0, z1, htl, ez0, ez1⟩ := x_tab2 htab
    rcases hp with ⟨hEe, hp⟩ | ⟨hEe, hp⟩
    · subst hEe
      refine x_catch (nm := "java/lang/IndexOutOfBoundsException") F hK [] z0 [z1] (by rw [htl]; rfl) ez0 (by decide) (by decide) (fun z hz => nomatch hz) (hwg _ wc_RL_18) (by decide +kernel) h1 h2 h3 ?_
      refine W.widen (k := 2) (n := 12) (by decide) (by decide) ?_
      refine lv_astore_n (lv' := [(3, .ref q9), (0, .ref a0), (1, .int x1), (2, .ref a2)]) hx hb dL_isPinned_19 rfl hl (by decide) rfl (fun ls hl => ?_)
      refine lv_iconst (v := 1) hx hb dL_isPinned_20 (by decide) ?_
      refine vx_ret ?_
      exact w_iret hx hb hr hlocks hW ⟨hE, hp⟩ dL_isPinned_21
    · subst hEe
      refine x_catch (nm := "java/lang/IllegalStateException") F hK [z0] z1 [] (by rw [htl]; rfl) ez1 (by decide) (by decide) (fun z hz => by
          simp only [List.mem_cons, List.not_mem_nil, or_false] at hz
          rcases hz with hz
          · rw [hz]; exact ⟨by rw [show z0.catchType = 18 from congrArg (fun q => q.2.2.2) ez0]; decide, "java/lang/IndexOutOfBoundsException", by rw [show z0.catchType = 18 from congrArg (fun q => q.2.2.2) ez0]; exact hwg _ wc_RL_18, by decide +kernel⟩) (hwg _ wc_RL_20) (by decide +kernel) h1 h2 h3 ?_
      refine W.widen (k := 2) (n := 12) (by decide) (by decide) ?_
      refine lv_astore_n (lv' := [(3, .ref q9), (0, .ref a0), (1, .int x1), (2, .ref a2)]) hx hb dL_isPinned_22 rfl hl (by decide) rfl (fun ls hl => ?_)
      refine lv_iconst (v := 2) hx hb dL_isPinned_23 (by decide) ?_
      refine vx_ret ?_
      exact w_iret hx hb hr hlocks hW ⟨hE, hp⟩ dL_isPinned_24
  · obtain ⟨hX_S_2, hp⟩ := hp
    refine W.widen (k := 2) (n := 12) (by decide) (by decide) ?_
    have hE := hE.trans hX_S_2
    have hK_a0 : sK S_2 a0 = 16 := (hX_S_2.2 a0 hL_a0).1.trans hK_a0
    have hL_a0 : wM D S_2 a0 := hX_S_2.M hL_a0
    have hK_a2 : sK S_2 a2 = 22 := (hX_S_2.2 a2 hL_a2).1.trans hK_a2
    have hL_a2 : wM D S_2 a2 := hX_S_2.M hL_a2
    refine lv_if_eq (tgt := 14) hx hb dL_isPinned_7 (by decide) (fun c_3 => ?_) (fun c_3 => ?_)
    · replace hp := hp.1 c_3
      refine lv_lconst (v := 0) hx hb dL_isPinned_14 (by decide) ?_
      exact t_L_isPinned_15 F hr hlocks hK hl0 htab hp hW hE (lv_sub hl [] rfl) hL_a2 hK_a2
    · replace hp := hp.2 c_3
      refine lv_lconst (v := 1) hx hb dL_isPinned_10 (by decide) ?_
      refine lv_goto (tgt := 15) hx hb dL_isPinned_11 (by decide) ?_
      exact t_L_isPinned_15 F hr hlocks hK hl0 htab hp hW hE (lv_sub hl [] rfl) hL_a2 hK_a2
set_option maxHeartbeats 4000000 in
set_option maxRecDepth 100000 in
theorem c_L_isPinned (l : Launch) {D : wD} {cy : Nat → ClassId} {X : va_W} {S0 : wS} {post : Int32 → wS → Prop} (hl0 : l.stackTraces = false) {a0 : Nat} {x1 : Int32} {a2 : Nat} (hL_a0 : wM D S0 a0) (hK_a0 : sK S0 a0 = 16) (hL_a2 : wM D S0 a2) (hK_a2 : sK S0 a2 = 22) (hp : wp_L_isPinned D post S0 a0 x1 a2) : xI D cy X l yL_isPinned wz_L_isPinned r_L_isPinned [.ref a0, .int x1, .ref a2] S0 (fun r S9 => wX D S0 S9 ∧ post r S9) (fun _ _ => False) := by
  intro sz
  refine vx_ofWH (hh := [(0, 16, 19, 18), (0, 16, 22, 20)]) (cc := cL_isPinned) (maxL := 4) (ret := (some .int)) (by decide) rfl ?_
  intro p e s m args below meth c s₁ B hml hv
  obtain ⟨rfl, hsz, hP, hK, hD0, hRO⟩ := hv
  have hts := atoms_spec (ws := wz_L_isPinned) B.pre
  have hown : s.vm.findClass RL = some m.cls := findClass_of_methodNamed B.named
  subst hsz
  have hD := hD0.self (sz := s.heap.size)
  have F : CallFix p m c cL_isPinned 4 s _ wz_L_isPinned RL := ⟨B.exec, B.bytes, hml, hown, hts⟩
  have htab : c.exceptionTable.toList.map xhF = [(0, 16, 19, 18), (0, 16, 22, 20)] := by
    obtain ⟨m9, meth9, c9, g0, g1, g2, -, -, g3, -⟩ := Cond.codeWith_spec (hts _ List.mem_cons_self)
    cases Option.some.inj (g0.symm.trans B.named)
    cases Option.some.inj (g1.symm.trans B.method)
    cases Option.some.inj (g2.symm.trans (Stand.of_body B).code)
    exact g3
  have hr := B.returns
  have hlocks := B.notSynchronized
  generalize hAe : va_A (wL cy X S0) s.heap.size = A at hD hK ⊢
  have hA : ∀ q, s.heap.size ≤ q → A q := fun q h => by rw [← hAe]; exact Or.inr h
  have hW : wO D cy X A s.heap S0 s.heap [] := ⟨hP, hD, va_S.rf, hA, hRO⟩
  have hl := lv_entry ([.ref a0, .int x1, .ref a2]) (n := 4) (Nat.le_of_ble_eq_true rfl)
  rw [lg_entry_eq]
  generalize (lg_sl ([.ref a0, .int x1, .ref a2]) ++ List.replicate (4 - (lg_sl ([.ref a0, .int x1, .ref a2])).length) Slot.unset).toArray = ls at hl ⊢
  have hl : lv_has ls 4 [(0, .ref a0), (1, .int x1), (2, .ref a2)] := hl
  unfold wp_L_isPinned at hp
  exact t_L_isPinned_0 F hr hlocks hK hl0 htab hp hW wX.rf (lv_sub hl [0, 1, 2] rfl) hL_a0 hK_a0 hL_a2 hK_a2
def wp_L_outputByte_0 (D : wD) (post : Int32 → wS → Prop)  (S : wS) (a0 : Nat) (x1 : Int32) (a2 : Nat) : Prop :=
wp_X11_outputByte D (fun r_1 S_2 => 
a2 ∈ sL S_2 ∧ vp_in (0 : Int32) (sN S_2 a2) ∧
∀ S_4 : wS, S_4 = uJ S_2 a2 ((0 : Int32)).toNatClampNeg (Int32.toInt64 r_1) →
post (0 : Int32) S_4) (fun E_9 S9 => (E_9 = "java/lang/IndexOutOfBoundsException" ∧ post (1 : Int32) S9)) S a0 x1
abbrev r_L_outputByte : Room := { frames := 7, cells := 1, slots := 6, locals := 141 }
def wp_L_outputByte (D : wD) (post : Int32 → wS → Prop) (S : wS) (a0 : Nat) (x1 : Int32) (a2 : Nat) : Prop := wp_L_outputByte_0 D post S a0 x1 a2
set_option maxHeartbeats 4000000 in
set_option maxRecDepth 100000 in
theorem t_L_outputByte_0 {p : Program} {l : Launch} {e : Env} {s : State} {m : MethodId} {args : Array Value} {below : List Frame} {meth : Method} {c : Code} {D : wD} {cy : Nat → ClassId} {X : va_W} {A : Nat → Prop} {S0 : wS} {post : Int32 → wS → Prop} (F : CallFix p m c cL_outputByte 4 s args wz_L_outputByte RL) (hr : meth.sig.returnType = (some .int)) (hlocks : meth.locks = false) (hK : wK D cy A s) (hl0 : l.stackTraces = false) (htab : c.exceptionTable.toList.map xhF = [(0, 9, 12, 18)]) : ∀ {S : wS} {H : Heap} {locs : List Loc} {ls : Array Slot} {a0 : Nat} {x1 : Int32} {a2 : Nat}, wp_L_outputByte_0 D post S a0 x1 a2 → wO D cy X A s.heap S H locs → wX D S0 S → lv_has ls 4 [(0, .ref a0), (1, .int x1), (2, .ref a2)] → wM D S a0 → sK S a0 = 16 → wM D S a2 → sK S a2 = 22 → W p l e r_L_outputByte s m args below meth c H locs 0 0 (vx_MQ below (va_Qi (fun r S9 => wX D S0 S9 ∧ post r S9) (wB D cy X A) A) (wEx D cy X A (fun _ _ => False)) args s 1 6 A) (F0 m 0 ls []) := by
  obtain ⟨hx, hb, hml, hown, hts⟩ := id F
  have hwg : ∀ w ∈ WG, w.before args s = true := fun w h => hts w (List.mem_cons_of_mem _ h)
  intro S H locs ls a0 x1 a2 hp hW hE hl hL_a0 hK_a0 hL_a2 hK_a2
  unfold wp_L_outputByte_0 at hp
  refine lv_aload_n hx hb dL_outputByte_0 rfl (lv_at hl 2 rfl) ?_
  refine lv_iconst (v := 0) hx hb dL_outputByte_1 (by decide) ?_
  refine lv_aload_n hx hb dL_outputByte_2 rfl (lv_at hl 0 rfl) ?_
  refine lv_iload_n hx hb dL_outputByte_3 rfl (lv_at hl 1 rfl) ?_
  refine x_callI (vx_runV (As := [.int x1]) (rest := [.int (0 : Int32), .ref a2]) F (c_X11_outputByte l hl0 hL_a0 hK_a0 hp H.size) (cwV (C := RX11) 1 hts (wg_V wm_RL_45 wy_X11_outputByte) rfl rfl rfl (by decide +kernel) ⟨Nat.le_of_ble_eq_true rfl, Nat.le_of_ble_eq_true rfl⟩) (w_preV hK hW hL_a0 hK_a0 (by decide) rfl) rfl rfl hl.1 rfl (lv_room (Nat.le_of_ble_eq_true rfl)) dL_outputByte_4 ⟨Nat.le_of_ble_eq_true rfl, Nat.le_of_ble_eq_true rfl⟩) hW (fun E ce q9 S9 H locs hp hW h1 h2 h3 => ?_) (fun r_1 S_2 H locs hp hW => ?_)
  · obtain ⟨hX_9, hp⟩ := hp
    have hE := hE.trans hX_9
    obtain ⟨z0, htl, ez0⟩ := x_tab1 htab
    rcases hp with ⟨hEe, hp⟩
    · subst hEe
      refine x_catch (nm := "java/lang/IndexOutOfBoundsException") F hK [] z0 [] (by rw [htl]; rfl) ez0 (by decide) (by decide) (fun z hz => nomatch hz) (hwg _ wc_RL_18) (by decide +kernel) h1 h2 h3 ?_
      refine W.widen (k := 1) (n := 6) (by decide) (by decide) ?_
      refine lv_astore_n (lv' := [(3, .ref q9), (0, .ref a0), (1, .int x1), (2, .ref a2)]) hx hb dL_outputByte_12 rfl hl (by decide) rfl (fun ls hl => ?_)
      refine lv_iconst (v := 1) hx hb dL_outputByte_13 (by decide) ?_
      refine vx_ret ?_
      exact w_iret hx hb hr hlocks hW ⟨hE, hp⟩ dL_outputByte_14
  · obtain ⟨hX_S_2, hp⟩ := hp
    refine W.widen (k := 1) (n := 6) (by decide) (by decide) ?_
    have hE := hE.trans hX_S_2
    have hK_a0 : sK S_2 a0 = 16 := (hX_S_2.2 a0 hL_a0).1.trans hK_a0
    have hL_a0 : wM D S_2 a0 := hX_S_2.M hL_a0
    have hK_a2 : sK S_2 a2 = 22 := (hX_S_2.2 a2 hL_a2).1.trans hK_a2
    have hL_a2 : wM D S_2 a2 := hX_S_2.M hL_a2
    refine lv_i2l (v := (Int32.toInt64 r_1)) hx hb dL_outputByte_7 rfl ?_
    obtain ⟨h_3m, h_3, hp⟩ := hp
    refine w_lst F hK hW h_3m hK_a2 h_3 dL_outputByte_8 (fun H locs hW => ?_)
    obtain ⟨S_4, eS_4⟩ : ∃ z : wS, z = uJ S_2 a2 ((0 : Int32)).toNatClampNeg (Int32.toInt64 r_1) := ⟨_, rfl⟩
    rw [← eS_4] at hW
    replace hp := hp S_4 eS_4
    have hX_S_4 : wX D S_2 S_4 := by rw [eS_4]; exact wX_uJ
    have hE := hE.trans hX_S_4
    have hK_a0 : sK S_4 a0 = 16 := (hX_S_4.2 a0 hL_a0).1.trans hK_a0
    have hL_a0 : wM D S_4 a0 := hX_S_4.M hL_a0
    have hK_a2 : sK S_4 a2 = 22 := (hX_S_4.2 a2 hL_a2).1.trans hK_a2
    have hL_a2 : wM D S_4 a2 := hX_S_4.M hL_a2
    refine lv_goto (tgt := 15) hx hb dL_outputByte_9 (by decide) ?_
    refine lv_iconst (v := 0) hx hb dL_outputByte_15 (by decide) ?_
    refine vx_ret ?_
    exact w_iret hx hb hr hlocks hW ⟨hE, hp⟩ dL_outputByte_16
set_option maxHeartbeats 4000000 in
set_option maxRecDepth 100000 in
theorem c_L_outputByte (l : Launch) {D : wD} {cy : Nat → ClassId} {X : va_W} {S0 : wS} {post : Int32 → wS → Prop} (hl0 : l.stackTraces = false) {a0 : Nat} {x1 : Int32} {a2 : Nat} (hL_a0 : wM D S0 a0) (hK_a0 : sK S0 a0 = 16) (hL_a2 : wM D S0 a2) (hK_a2 : sK S0 a2 = 22) (hp : wp_L_outputByte D post S0 a0 x1 a2) : xI D cy X l yL_outputByte wz_L_outputByte r_L_outputByte [.ref a0, .int x1, .ref a2] S0 (fun r S9 => wX D S0 S9 ∧ post r S9) (fun _ _ => False) := by
  intro sz
  refine vx_ofWH (hh := [(0, 9, 12, 18)]) (cc := cL_outputByte) (maxL := 4) (ret := (some .int)) (by decide) rfl ?_
  intro p e s m args below meth c s₁ B hml hv
  obtain ⟨rfl, hsz, hP, hK, hD0, hRO⟩ := hv
  have hts := atoms_spec (ws := wz_L_outputByte) B.pre
  have hown : s.vm.findClass RL = some m.cls := findClass_of_methodNamed B.named
  subst hsz
  have hD := hD0.self (sz := s.heap.size)
  have F : CallFix p m c cL_outputByte 4 s _ wz_L_outputByte RL := ⟨B.exec, B.bytes, hml, hown, hts⟩
  have htab : c.exceptionTable.toList.map xhF = [(0, 9, 12, 18)] := by
    obtain ⟨m9, meth9, c9, g0, g1, g2, -, -, g3, -⟩ := Cond.codeWith_spec (hts _ List.mem_cons_self)
    cases Option.some.inj (g0.symm.trans B.named)
    cases Option.some.inj (g1.symm.trans B.method)
    cases Option.some.inj (g2.symm.trans (Stand.of_body B).code)
    exact g3
  have hr := B.returns
  have hlocks := B.notSynchronized
  generalize hAe : va_A (wL cy X S0) s.heap.size = A at hD hK ⊢
  have hA : ∀ q, s.heap.size ≤ q → A q := fun q h => by rw [← hAe]; exact Or.inr h
  have hW : wO D cy X A s.heap S0 s.heap [] := ⟨hP, hD, va_S.rf, hA, hRO⟩
  have hl := lv_entry ([.ref a0, .int x1, .ref a2]) (n := 4) (Nat.le_of_ble_eq_true rfl)
  rw [lg_entry_eq]
  generalize (lg_sl ([.ref a0, .int x1, .ref a2]) ++ List.replicate (4 - (lg_sl ([.ref a0, .int x1, .ref a2])).length) Slot.unset).toArray = ls at hl ⊢
  have hl : lv_has ls 4 [(0, .ref a0), (1, .int x1), (2, .ref a2)] := hl
  unfold wp_L_outputByte at hp
  exact t_L_outputByte_0 F hr hlocks hK hl0 htab hp hW wX.rf (lv_sub hl [0, 1, 2] rfl) hL_a0 hK_a0 hL_a2 hK_a2
def wp_L_isOpenFile_15 (D : wD) (post : Int32 → wS → Prop)  (S : wS) (b0 : Nat) (t1 : Int32) (t2 : Int64) : Prop :=
b0 ∈ sL S ∧ vp_in t1 (sN S b0) ∧
∀ S_2 : wS, S_2 = uJ S b0 (t1).toNatClampNeg t2 →
post (0 : Int32) S_2
def wp_L_isOpenFile_0 (D : wD) (post : Int32 → wS → Prop)  (S : wS) (a0 : Nat) (x1 : Int32) (a2 : Nat) : Prop :=
wp_X11_isOpenFile D (fun r_1 S_2 => 
((r_1 = 0 → wp_L_isOpenFile_15 D post S_2 a2 (0 : Int32) (0 : Int64)) ∧
 (¬ r_1 = 0 → wp_L_isOpenFile_15 D post S_2 a2 (0 : Int32) (1 : Int64)))) (fun E_9 S9 => (E_9 = "java/lang/IndexOutOfBoundsException" ∧ post (1 : Int32) S9)) S a0 x1
abbrev r_L_isOpenFile : Room := { frames := 7, cells := 1, slots := 6, locals := 141 }
def wp_L_isOpenFile (D : wD) (post : Int32 → wS → Prop) (S : wS) (a0 : Nat) (x1 : Int32) (a2 : Nat) : Prop := wp_L_isOpenFile_0 D post S a0 x1 a2
set_option maxHeartbeats 4000000 in
set_option maxRecDepth 100000 in
theorem t_L_isOpenFile_15 {p : Program} {l : Launch} {e : Env} {s : State} {m : MethodId} {args : Array Value} {below : List Frame} {meth : Method} {c : Code} {D : wD} {cy : Nat → ClassId} {X : va_W} {A : Nat → Prop} {S0 : wS} {post : Int32 → wS → Prop} (F : CallFix p m c cL_isOpenFile 4 s args wz_L_isOpenFile RL) (hr : meth.sig.returnType = (some .int)) (hlocks : meth.locks = false) (hK : wK D cy A s) (hl0 : l.stackTraces = false) (htab : c.exceptionTable.toList.map xhF = [(0, 16, 19, 18)]) : ∀ {S : wS} {H : Heap} {locs : List Loc} {ls : Array Slot} {b0 : Nat} {t1 : Int32} {t2 : Int64}, wp_L_isOpenFile_15 D post S b0 t1 t2 → wO D cy X A s.heap S H locs → wX D S0 S → lv_has ls 4 [] → wM D S b0 → sK S b0 = 22 → W p l e r_L_isOpenFile s m args below meth c H locs 1 6 (vx_MQ below (va_Qi (fun r S9 => wX D S0 S9 ∧ post r S9) (wB D cy X A) A) (wEx D cy X A (fun _ _ => False)) args s 1 6 A) (F0 m 15 ls [.long t2, .int t1, .ref b0]) := by
  obtain ⟨hx, hb, hml, hown, hts⟩ := id F
  have hwg : ∀ w ∈ WG, w.before args s = true := fun w h => hts w (List.mem_cons_of_mem _ h)
  intro S H locs ls b0 t1 t2 hp hW hE hl hL_b0 hK_b0
  unfold wp_L_isOpenFile_15 at hp
  obtain ⟨h_1m, h_1, hp⟩ := hp
  refine w_lst F hK hW h_1m hK_b0 h_1 dL_isOpenFile_15 (fun H locs hW => ?_)
  obtain ⟨S_2, eS_2⟩ : ∃ z : wS, z = uJ S b0 (t1).toNatClampNeg t2 := ⟨_, rfl⟩
  rw [← eS_2] at hW
  replace hp := hp S_2 eS_2
  have hX_S_2 : wX D S S_2 := by rw [eS_2]; exact wX_uJ
  have hE := hE.trans hX_S_2
  refine lv_goto (tgt := 22) hx hb dL_isOpenFile_16 (by decide) ?_
  refine lv_iconst (v := 0) hx hb dL_isOpenFile_22 (by decide) ?_
  refine vx_ret ?_
  exact w_iret hx hb hr hlocks hW ⟨hE, hp⟩ dL_isOpenFile_23
set_option maxHeartbeats 4000000 in
set_option maxRecDepth 100000 in
theorem t_L_isOpenFile_0 {p : Program} {l : Launch} {e : Env} {s : State} {m : MethodId} {args : Array Value} {below : List Frame} {meth : Method} {c : Code} {D : wD} {cy : Nat → ClassId} {X : va_W} {A : Nat → Prop} {S0 : wS} {post : Int32 → wS → Prop} (F : CallFix p m c cL_isOpenFile 4 s args wz_L_isOpenFile RL) (hr : meth.sig.returnType = (some .int)) (hlocks : meth.locks = false) (hK : wK D cy A s) (hl0 : l.stackTraces = false) (htab : c.exceptionTable.toList.map xhF = [(0, 16, 19, 18)]) : ∀ {S : wS} {H : Heap} {locs : List Loc} {ls : Array Slot} {a0 : Nat} {x1 : Int32} {a2 : Nat}, wp_L_isOpenFile_0 D post S a0 x1 a2 → wO D cy X A s.heap S H locs → wX D S0 S → lv_has ls 4 [(0, .ref a0), (1, .int x1), (2, .ref a2)] → wM D S a0 → sK S a0 = 16 → wM D S a2 → sK S a2 = 22 → W p l e r_L_isOpenFile s m args below meth c H locs 0 0 (vx_MQ below (va_Qi (fun r S9 => wX D S0 S9 ∧ post r S9) (wB D cy X A) A) (wEx D cy X A (fun _ _ => False)) args s 1 6 A) (F0 m 0 ls []) := by
  obtain ⟨hx, hb, hml, hown, hts⟩ := id F
  have hwg : ∀ w ∈ WG, w.before args s = true := fun w h => hts w (List.mem_cons_of_mem _ h)
  intro S H locs ls a0 x1 a2 hp hW hE hl hL_a0 hK_a0 hL_a2 hK_a2
  unfold wp_L_isOpenFile_0 at hp
  refine lv_aload_n hx hb dL_isOpenFile_0 rfl (lv_at hl 2 rfl) ?_
  refine lv_iconst (v := 0) hx hb dL_isOpenFile_1 (by decide) ?_
  refine lv_aload_n hx hb dL_isOpenFile_2 rfl (lv_at hl 0 rfl) ?_
  refine lv_iload_n hx hb dL_isOpenFile_3 rfl (lv_at hl 1 rfl) ?_
  refine x_callI (vx_runV (As := [.int x1]) (rest := [.int (0 : Int32), .ref a2]) F (c_X11_isOpenFile l hl0 hL_a0 hK_a0 hp H.size) (cwV (C := RX11) 1 hts (wg_V wm_RL_48 wy_X11_isOpenFile) rfl rfl rfl (by decide +kernel) ⟨Nat.le_of_ble_eq_true rfl, Nat.le_of_ble_eq_true rfl⟩) (w_preV hK hW hL_a0 hK_a0 (by decide) rfl) rfl rfl hl.1 rfl (lv_room (Nat.le_of_ble_eq_true rfl)) dL_isOpenFile_4 ⟨Nat.le_of_ble_eq_true rfl, Nat.le_of_ble_eq_true rfl⟩) hW (fun E ce q9 S9 H locs hp hW h1 h2 h3 => ?_) (fun r_1 S_2 H locs hp hW => ?_)
  · obtain ⟨hX_9, hp⟩ := hp
    have hE := hE.trans hX_9
    obtain ⟨z0, htl, ez0⟩ := x_tab1 htab
    rcases hp with ⟨hEe, hp⟩
    · subst hEe
      refine x_catch (nm := "java/lang/IndexOutOfBoundsException") F hK [] z0 [] (by rw [htl]; rfl) ez0 (by decide) (by decide) (fun z hz => nomatch hz) (hwg _ wc_RL_18) (by decide +kernel) h1 h2 h3 ?_
      refine W.widen (k := 1) (n := 6) (by decide) (by decide) ?_
      refine lv_astore_n (lv' := [(3, .ref q9), (0, .ref a0), (1, .int x1), (2, .ref a2)]) hx hb dL_isOpenFile_19 rfl hl (by decide) rfl (fun ls hl => ?_)
      refine lv_iconst (v := 1) hx hb dL_isOpenFile_20 (by decide) ?_
      refine vx_ret ?_
      exact w_iret hx hb hr hlocks hW ⟨hE, hp⟩ dL_isOpenFile_21
  · obtain ⟨hX_S_2, hp⟩ := hp
    refine W.widen (k := 1) (n := 6) (by decide) (by decide) ?_
    have hE := hE.trans hX_S_2
    have hK_a0 : sK S_2 a0 = 16 := (hX_S_2.2 a0 hL_a0).1.trans hK_a0
    have hL_a0 : wM D S_2 a0 := hX_S_2.M hL_a0
    have hK_a2 : sK S_2 a2 = 22 := (hX_S_2.2 a2 hL_a2).1.trans hK_a2
    have hL_a2 : wM D S_2 a2 := hX_S_2.M hL_a2
    refine lv_if_eq (tgt := 14) hx hb dL_isOpenFile_7 (by decide) (fun c_3 => ?_) (fun c_3 => ?_)
    · replace hp := hp.1 c_3
      refine lv_lconst (v := 0) hx hb dL_isOpenFile_14 (by decide) ?_
      exact t_L_isOpenFile_15 F hr hlocks hK hl0 htab hp hW hE (lv_sub hl [] rfl) hL_a2 hK_a2
    · replace hp := hp.2 c_3
      refine lv_lconst (v := 1) hx hb dL_isOpenFile_10 (by decide) ?_
      refine lv_goto (tgt := 15) hx hb dL_isOpenFile_11 (by decide) ?_
      exact t_L_isOpenFile_15 F hr hlocks hK hl0 htab hp hW hE (lv_sub hl [] rfl) hL_a2 hK_a2
set_option maxHeartbeats 4000000 in
set_option maxRecDepth 100000 in
theorem c_L_isOpenFile (l : Launch) {D : wD} {cy : Nat → ClassId} {X : va_W} {S0 : wS} {post : Int32 → wS → Prop} (hl0 : l.stackTraces = false) {a0 : Nat} {x1 : Int32} {a2 : Nat} (hL_a0 : wM D S0 a0) (hK_a0 : sK S0 a0 = 16) (hL_a2 : wM D S0 a2) (hK_a2 : sK S0 a2 = 22) (hp : wp_L_isOpenFile D post S0 a0 x1 a2) : xI D cy X l yL_isOpenFile wz_L_isOpenFile r_L_isOpenFile [.ref a0, .int x1, .ref a2] S0 (fun r S9 => wX D S0 S9 ∧ post r S9) (fun _ _ => False) := by
  intro sz
  refine vx_ofWH (hh := [(0, 16, 19, 18)]) (cc := cL_isOpenFile) (maxL := 4) (ret := (some .int)) (by decide) rfl ?_
  intro p e s m args below meth c s₁ B hml hv
  obtain ⟨rfl, hsz, hP, hK, hD0, hRO⟩ := hv
  have hts := atoms_spec (ws := wz_L_isOpenFile) B.pre
  have hown : s.vm.findClass RL = some m.cls := findClass_of_methodNamed B.named
  subst hsz
  have hD := hD0.self (sz := s.heap.size)
  have F : CallFix p m c cL_isOpenFile 4 s _ wz_L_isOpenFile RL := ⟨B.exec, B.bytes, hml, hown, hts⟩
  have htab : c.exceptionTable.toList.map xhF = [(0, 16, 19, 18)] := by
    obtain ⟨m9, meth9, c9, g0, g1, g2, -, -, g3, -⟩ := Cond.codeWith_spec (hts _ List.mem_cons_self)
    cases Option.some.inj (g0.symm.trans B.named)
    cases Option.some.inj (g1.symm.trans B.method)
    cases Option.some.inj (g2.symm.trans (Stand.of_body B).code)
    exact g3
  have hr := B.returns
  have hlocks := B.notSynchronized
  generalize hAe : va_A (wL cy X S0) s.heap.size = A at hD hK ⊢
  have hA : ∀ q, s.heap.size ≤ q → A q := fun q h => by rw [← hAe]; exact Or.inr h
  have hW : wO D cy X A s.heap S0 s.heap [] := ⟨hP, hD, va_S.rf, hA, hRO⟩
  have hl := lv_entry ([.ref a0, .int x1, .ref a2]) (n := 4) (Nat.le_of_ble_eq_true rfl)
  rw [lg_entry_eq]
  generalize (lg_sl ([.ref a0, .int x1, .ref a2]) ++ List.replicate (4 - (lg_sl ([.ref a0, .int x1, .ref a2])).length) Slot.unset).toArray = ls at hl ⊢
  have hl : lv_has ls 4 [(0, .ref a0), (1, .int x1), (2, .ref a2)] := hl
  unfold wp_L_isOpenFile at hp
  exact t_L_isOpenFile_0 F hr hlocks hK hl0 htab hp hW wX.rf (lv_sub hl [0, 1, 2] rfl) hL_a0 hK_a0 hL_a2 hK_a2
def wp_L_moveCount_0 (D : wD) (post : Int32 → wS → Prop)  (S : wS) (a0 : Nat) (a1 : Nat) : Prop :=
wp_X11_moveCount D (fun r_1 S_2 => 
a1 ∈ sL S_2 ∧ vp_in (0 : Int32) (sN S_2 a1) ∧
∀ S_4 : wS, S_4 = uJ S_2 a1 ((0 : Int32)).toNatClampNeg (Int32.toInt64 r_1) →
post (0 : Int32) S_4) (fun E_9 S9 => (E_9 = "java/lang/IllegalStateException" ∧ post (1 : Int32) S9)) S a0
abbrev r_L_moveCount : Room := { frames := 8, cells := 1, slots := 6, locals := 160 }
def wp_L_moveCount (D : wD) (post : Int32 → wS → Prop) (S : wS) (a0 : Nat) (a1 : Nat) : Prop := wp_L_moveCount_0 D post S a0 a1
set_option maxHeartbeats 4000000 in
set_option maxRecDepth 100000 in
theorem t_L_moveCount_0 {p : Program} {l : Launch} {e : Env} {s : State} {m : MethodId} {args : Array Value} {below : List Frame} {meth : Method} {c : Code} {D : wD} {cy : Nat → ClassId} {X : va_W} {A : Nat → Prop} {S0 : wS} {post : Int32 → wS → Prop} (F : CallFix p m c cL_moveCount 3 s args wz_L_moveCount RL) (hr : meth.sig.returnType = (some .int)) (hlocks : meth.locks = false) (hK : wK D cy A s) (hl0 : l.stackTraces = false) (htab : c.exceptionTable.toList.map xhF = [(0, 8, 11, 20)]) : ∀ {S : wS} {H : Heap} {locs : List Loc} {ls : Array Slot} {a0 : Nat} {a1 : Nat}, wp_L_moveCount_0 D post S a0 a1 → wO D cy X A s.heap S H locs → wX D S0 S → lv_has ls 3 [(0, .ref a0), (1, .ref a1)] → wM D S a0 → sK S a0 = 16 → wM D S a1 → sK S a1 = 22 → W p l e r_L_moveCount s m args below meth c H locs 0 0 (vx_MQ below (va_Qi (fun r S9 => wX D S0 S9 ∧ post r S9) (wB D cy X A) A) (wEx D cy X A (fun _ _ => False)) args s 1 6 A) (F0 m 0 ls []) := by
  obtain ⟨hx, hb, hml, hown, hts⟩ := id F
  have hwg : ∀ w ∈ WG, w.before args s = true := fun w h => hts w (List.mem_cons_of_mem _ h)
  intro S H locs ls a0 a1 hp hW hE hl hL_a0 hK_a0 hL_a1 hK_a1
  unfold wp_L_moveCount_0 at hp
  refine lv_aload_n hx hb dL_moveCount_0 rfl (lv_at hl 1 rfl) ?_
  refine lv_iconst (v := 0) hx hb dL_moveCount_1 (by decide) ?_
  refine lv_aload_n hx hb dL_moveCount_2 rfl (lv_at hl 0 rfl) ?_
  refine x_callI (vx_runV (As := []) (rest := [.int (0 : Int32), .ref a1]) F (c_X11_moveCount l hl0 hL_a0 hK_a0 hp H.size) (cwV (C := RX11) 0 hts (wg_V wm_RL_51 wy_X11_moveCount) rfl rfl rfl (by decide +kernel) ⟨Nat.le_of_ble_eq_true rfl, Nat.le_of_ble_eq_true rfl⟩) (w_preV hK hW hL_a0 hK_a0 (by decide) rfl) rfl rfl hl.1 rfl (lv_room (Nat.le_of_ble_eq_true rfl)) dL_moveCount_3 ⟨Nat.le_of_ble_eq_true rfl, Nat.le_of_ble_eq_true rfl⟩) hW (fun E ce q9 S9 H locs hp hW h1 h2 h3 => ?_) (fun r_1 S_2 H locs hp hW => ?_)
  · obtain ⟨hX_9, hp⟩ := hp
    have hE := hE.trans hX_9
    obtain ⟨z0, htl, ez0⟩ := x_tab1 htab
    rcases hp with ⟨hEe, hp⟩
    · subst hEe
      refine x_catch (nm := "java/lang/IllegalStateException") F hK [] z0 [] (by rw [htl]; rfl) ez0 (by decide) (by decide) (fun z hz => nomatch hz) (hwg _ wc_RL_20) (by decide +kernel) h1 h2 h3 ?_
      refine W.widen (k := 1) (n := 6) (by decide) (by decide) ?_
      refine lv_astore_n (lv' := [(2, .ref q9), (0, .ref a0), (1, .ref a1)]) hx hb dL_moveCount_11 rfl hl (by decide) rfl (fun ls hl => ?_)
      refine lv_iconst (v := 1) hx hb dL_moveCount_12 (by decide) ?_
      refine vx_ret ?_
      exact w_iret hx hb hr hlocks hW ⟨hE, hp⟩ dL_moveCount_13
  · obtain ⟨hX_S_2, hp⟩ := hp
    refine W.widen (k := 1) (n := 6) (by decide) (by decide) ?_
    have hE := hE.trans hX_S_2
    have hK_a0 : sK S_2 a0 = 16 := (hX_S_2.2 a0 hL_a0).1.trans hK_a0
    have hL_a0 : wM D S_2 a0 := hX_S_2.M hL_a0
    have hK_a1 : sK S_2 a1 = 22 := (hX_S_2.2 a1 hL_a1).1.trans hK_a1
    have hL_a1 : wM D S_2 a1 := hX_S_2.M hL_a1
    refine lv_i2l (v := (Int32.toInt64 r_1)) hx hb dL_moveCount_6 rfl ?_
    obtain ⟨h_3m, h_3, hp⟩ := hp
    refine w_lst F hK hW h_3m hK_a1 h_3 dL_moveCount_7 (fun H locs hW => ?_)
    obtain ⟨S_4, eS_4⟩ : ∃ z : wS, z = uJ S_2 a1 ((0 : Int32)).toNatClampNeg (Int32.toInt64 r_1) := ⟨_, rfl⟩
    rw [← eS_4] at hW
    replace hp := hp S_4 eS_4
    have hX_S_4 : wX D S_2 S_4 := by rw [eS_4]; exact wX_uJ
    have hE := hE.trans hX_S_4
    have hK_a0 : sK S_4 a0 = 16 := (hX_S_4.2 a0 hL_a0).1.trans hK_a0
    have hL_a0 : wM D S_4 a0 := hX_S_4.M hL_a0
    have hK_a1 : sK S_4 a1 = 22 := (hX_S_4.2 a1 hL_a1).1.trans hK_a1
    have hL_a1 : wM D S_4 a1 := hX_S_4.M hL_a1
    refine lv_goto (tgt := 14) hx hb dL_moveCount_8 (by decide) ?_
    refine lv_iconst (v := 0) hx hb dL_moveCount_14 (by decide) ?_
    refine vx_ret ?_
    exact w_iret hx hb hr hlocks hW ⟨hE, hp⟩ dL_moveCount_15
set_option maxHeartbeats 4000000 in
set_option maxRecDepth 100000 in
theorem c_L_moveCount (l : Launch) {D : wD} {cy : Nat → ClassId} {X : va_W} {S0 : wS} {post : Int32 → wS → Prop} (hl0 : l.stackTraces = false) {a0 : Nat} {a1 : Nat} (hL_a0 : wM D S0 a0) (hK_a0 : sK S0 a0 = 16) (hL_a1 : wM D S0 a1) (hK_a1 : sK S0 a1 = 22) (hp : wp_L_moveCount D post S0 a0 a1) : xI D cy X l yL_moveCount wz_L_moveCount r_L_moveCount [.ref a0, .ref a1] S0 (fun r S9 => wX D S0 S9 ∧ post r S9) (fun _ _ => False) := by
  intro sz
  refine vx_ofWH (hh := [(0, 8, 11, 20)]) (cc := cL_moveCount) (maxL := 3) (ret := (some .int)) (by decide) rfl ?_
  intro p e s m args below meth c s₁ B hml hv
  obtain ⟨rfl, hsz, hP, hK, hD0, hRO⟩ := hv
  have hts := atoms_spec (ws := wz_L_moveCount) B.pre
  have hown : s.vm.findClass RL = some m.cls := findClass_of_methodNamed B.named
  subst hsz
  have hD := hD0.self (sz := s.heap.size)
  have F : CallFix p m c cL_moveCount 3 s _ wz_L_moveCount RL := ⟨B.exec, B.bytes, hml, hown, hts⟩
  have htab : c.exceptionTable.toList.map xhF = [(0, 8, 11, 20)] := by
    obtain ⟨m9, meth9, c9, g0, g1, g2, -, -, g3, -⟩ := Cond.codeWith_spec (hts _ List.mem_cons_self)
    cases Option.some.inj (g0.symm.trans B.named)
    cases Option.some.inj (g1.symm.trans B.method)
    cases Option.some.inj (g2.symm.trans (Stand.of_body B).code)
    exact g3
  have hr := B.returns
  have hlocks := B.notSynchronized
  generalize hAe : va_A (wL cy X S0) s.heap.size = A at hD hK ⊢
  have hA : ∀ q, s.heap.size ≤ q → A q := fun q h => by rw [← hAe]; exact Or.inr h
  have hW : wO D cy X A s.heap S0 s.heap [] := ⟨hP, hD, va_S.rf, hA, hRO⟩
  have hl := lv_entry ([.ref a0, .ref a1]) (n := 3) (Nat.le_of_ble_eq_true rfl)
  rw [lg_entry_eq]
  generalize (lg_sl ([.ref a0, .ref a1]) ++ List.replicate (3 - (lg_sl ([.ref a0, .ref a1])).length) Slot.unset).toArray = ls at hl ⊢
  have hl : lv_has ls 3 [(0, .ref a0), (1, .ref a1)] := hl
  unfold wp_L_moveCount at hp
  exact t_L_moveCount_0 F hr hlocks hK hl0 htab hp hW wX.rf (lv_sub hl [0, 1] rfl) hL_a0 hK_a0 hL_a1 hK_a1
def wp_L_moveFrom_0 (D : wD) (post : Int32 → wS → Prop)  (S : wS) (a0 : Nat) (x1 : Int32) (a2 : Nat) : Prop :=
wp_X11_moveFrom D (fun r_1 S_2 => 
a2 ∈ sL S_2 ∧ vp_in (0 : Int32) (sN S_2 a2) ∧
∀ S_4 : wS, S_4 = uJ S_2 a2 ((0 : Int32)).toNatClampNeg (Int32.toInt64 r_1) →
post (0 : Int32) S_4) (fun E_9 S9 => (E_9 = "java/lang/IllegalStateException" ∧ post (1 : Int32) S9) ∨ (E_9 = "java/lang/IndexOutOfBoundsException" ∧ post (2 : Int32) S9)) S a0 x1
abbrev r_L_moveFrom : Room := { frames := 9, cells := 2, slots := 12, locals := 188 }
def wp_L_moveFrom (D : wD) (post : Int32 → wS → Prop) (S : wS) (a0 : Nat) (x1 : Int32) (a2 : Nat) : Prop := wp_L_moveFrom_0 D post S a0 x1 a2
set_option maxHeartbeats 4000000 in
set_option maxRecDepth 100000 in
theorem t_L_moveFrom_0 {p : Program} {l : Launch} {e : Env} {s : State} {m : MethodId} {args : Array Value} {below : List Frame} {meth : Method} {c : Code} {D : wD} {cy : Nat → ClassId} {X : va_W} {A : Nat → Prop} {S0 : wS} {post : Int32 → wS → Prop} (F : CallFix p m c cL_moveFrom 4 s args wz_L_moveFrom RL) (hr : meth.sig.returnType = (some .int)) (hlocks : meth.locks = false) (hK : wK D cy A s) (hl0 : l.stackTraces = false) (htab : c.exceptionTable.toList.map xhF = [(0, 9, 12, 20), (0, 9, 15, 18)]) : ∀ {S : wS} {H : Heap} {locs : List Loc} {ls : Array Slot} {a0 : Nat} {x1 : Int32} {a2 : Nat}, wp_L_moveFrom_0 D post S a0 x1 a2 → wO D cy X A s.heap S H locs → wX D S0 S → lv_has ls 4 [(0, .ref a0), (1, .int x1), (2, .ref a2)] → wM D S a0 → sK S a0 = 16 → wM D S a2 → sK S a2 = 22 → W p l e r_L_moveFrom s m args below meth c H locs 0 0 (vx_MQ below (va_Qi (fun r S9 => wX D S0 S9 ∧ post r S9) (wB D cy X A) A) (wEx D cy X A (fun _ _ => False)) args s 2 12 A) (F0 m 0 ls []) := by
  obtain ⟨hx, hb, hml, hown, hts⟩ := id F
  have hwg : ∀ w ∈ WG, w.before args s = true := fun w h => hts w (List.mem_cons_of_mem _ h)
  intro S H locs ls a0 x1 a2 hp hW hE hl hL_a0 hK_a0 hL_a2 hK_a2
  unfold wp_L_moveFrom_0 at hp
  refine lv_aload_n hx hb dL_moveFrom_0 rfl (lv_at hl 2 rfl) ?_
  refine lv_iconst (v := 0) hx hb dL_moveFrom_1 (by decide) ?_
  refine lv_aload_n hx hb dL_moveFrom_2 rfl (lv_at hl 0 rfl) ?_
  refine lv_iload_n hx hb dL_moveFrom_3 rfl (lv_at hl 1 rfl) ?_
  refine x_callI (vx_runV (As := [.int x1]) (rest := [.int (0 : Int32), .ref a2]) F (c_X11_moveFrom l hl0 hL_a0 hK_a0 hp H.size) (cwV (C := RX11) 1 hts (wg_V wm_RL_54 wy_X11_moveFrom) rfl rfl rfl (by decide +kernel) ⟨Nat.le_of_ble_eq_true rfl, Nat.le_of_ble_eq_true rfl⟩) (w_preV hK hW hL_a0 hK_a0 (by decide) rfl) rfl rfl hl.1 rfl (lv_room (Nat.le_of_ble_eq_true rfl)) dL_moveFrom_4 ⟨Nat.le_of_ble_eq_true rfl, Nat.le_of_ble_eq_true rfl⟩) hW (fun E ce q9 S9 H locs hp hW h1 h2 h3 => ?_) (fun r_1 S_2 H locs hp hW => ?_)
  · obtain ⟨hX_9, hp⟩ := hp
    have hE := hE.trans hX_9
    obtain ⟨z0, z1, htl, ez0, ez1⟩ := x_tab2 htab
    rcases hp with ⟨hEe, hp⟩ | ⟨hEe, hp⟩
    · subst hEe
      refine x_catch (nm := "java/lang/IllegalStateException") F hK [] z0 [z1] (by rw [htl]; rfl) ez0 (by decide) (by decide) (fun z hz => nomatch hz) (hwg _ wc_RL_20) (by decide +kernel) h1 h2 h3 ?_
      refine W.widen (k := 2) (n := 12) (by decide) (by decide) ?_
      refine lv_astore_n (lv' := [(3, .ref q9), (0, .ref a0), (1, .int x1), (2, .ref a2)]) hx hb dL_moveFrom_12 rfl hl (by decide) rfl (fun ls hl => ?_)
      refine lv_iconst (v := 1) hx hb dL_moveFrom_13 (by decide) ?_
      refine vx_ret ?_
      exact w_iret hx hb hr hlocks hW ⟨hE, hp⟩ dL_moveFrom_14
    · subst hEe
      refine x_catch (nm := "java/lang/IndexOutOfBoundsException") F hK [z0] z1 [] (by rw [htl]; rfl) ez1 (by decide) (by decide) (fun z hz => by
          simp only [List.mem_cons, List.not_mem_nil, or_false] at hz
          rcases hz with hz
          · rw [hz]; exact ⟨by rw [show z0.catchType = 20 from congrArg (fun q => q.2.2.2) ez0]; decide, "java/lang/IllegalStateException", by rw [show z0.catchType = 20 from congrArg (fun q => q.2.2.2) ez0]; exact hwg _ wc_RL_20, by decide +kernel⟩) (hwg _ wc_RL_18) (by decide +kernel) h1 h2 h3 ?_
      refine W.widen (k := 2) (n := 12) (by decide) (by decide) ?_
      refine lv_astore_n (lv' := [(3, .ref q9), (0, .ref a0), (1, .int x1), (2, .ref a2)]) hx hb dL_moveFrom_15 rfl hl (by decide) rfl (fun ls hl => ?_)
      refine lv_iconst (v := 2) hx hb dL_moveFrom_16 (by decide) ?_
      refine vx_ret ?_
      exact w_iret hx hb hr hlocks hW ⟨hE, hp⟩ dL_moveFrom_17
  · obtain ⟨hX_S_2, hp⟩ := hp
    refine W.widen (k := 2) (n := 12) (by decide) (by decide) ?_
    have hE := hE.trans hX_S_2
    have hK_a0 : sK S_2 a0 = 16 := (hX_S_2.2 a0 hL_a0).1.trans hK_a0
    have hL_a0 : wM D S_2 a0 := hX_S_2.M hL_a0
    have hK_a2 : sK S_2 a2 = 22 := (hX_S_2.2 a2 hL_a2).1.trans hK_a2
    have hL_a2 : wM D S_2 a2 := hX_S_2.M hL_a2
    refine lv_i2l (v := (Int32.toInt64 r_1)) hx hb dL_moveFrom_7 rfl ?_
    obtain ⟨h_3m, h_3, hp⟩ := hp
    refine w_lst F hK hW h_3m hK_a2 h_3 dL_moveFrom_8 (fun H locs hW => ?_)
    obtain ⟨S_4, eS_4⟩ : ∃ z : wS, z = uJ S_2 a2 ((0 : Int32)).toNatClampNeg (Int32.toInt64 r_1) := ⟨_, rfl⟩
    rw [← eS_4] at hW
    replace hp := hp S_4 eS_4
    have hX_S_4 : wX D S_2 S_4 := by rw [eS_4]; exact wX_uJ
    have hE := hE.trans hX_S_4
    have hK_a0 : sK S_4 a0 = 16 := (hX_S_4.2 a0 hL_a0).1.trans hK_a0
    have hL_a0 : wM D S_4 a0 := hX_S_4.M hL_a0
    have hK_a2 : sK S_4 a2 = 22 := (hX_S_4.2 a2 hL_a2).1.trans hK_a2
    have hL_a2 : wM D S_4 a2 := hX_S_4.M hL_a2
    refine lv_goto (tgt := 18) hx hb dL_moveFrom_9 (by decide) ?_
    refine lv_iconst (v := 0) hx hb dL_moveFrom_18 (by decide) ?_
    refine vx_ret ?_
    exact w_iret hx hb hr hlocks hW ⟨hE, hp⟩ dL_moveFrom_19
set_option maxHeartbeats 4000000 in
set_option maxRecDepth 100000 in
theorem c_L_moveFrom (l : Launch) {D : wD} {cy : Nat → ClassId} {X : va_W} {S0 : wS} {post : Int32 → wS → Prop} (hl0 : l.stackTraces = false) {a0 : Nat} {x1 : Int32} {a2 : Nat} (hL_a0 : wM D S0 a0) (hK_a0 : sK S0 a0 = 16) (hL_a2 : wM D S0 a2) (hK_a2 : sK S0 a2 = 22) (hp : wp_L_moveFrom D post S0 a0 x1 a2) : xI D cy X l yL_moveFrom wz_L_moveFrom r_L_moveFrom [.ref a0, .int x1, .ref a2] S0 (fun r S9 => wX D S0 S9 ∧ post r S9) (fun _ _ => False) := by
  intro sz
  refine vx_ofWH (hh := [(0, 9, 12, 20), (0, 9, 15, 18)]) (cc := cL_moveFrom) (maxL := 4) (ret := (some .int)) (by decide) rfl ?_
  intro p e s m args below meth c s₁ B hml hv
  obtain ⟨rfl, hsz, hP, hK, hD0, hRO⟩ := hv
  have hts := atoms_spec (ws := wz_L_moveFrom) B.pre
  have hown : s.vm.findClass RL = some m.cls := findClass_of_methodNamed B.named
  subst hsz
  have hD := hD0.self (sz := s.heap.size)
  have F : CallFix p m c cL_moveFrom 4 s _ wz_L_moveFrom RL := ⟨B.exec, B.bytes, hml, hown, hts⟩
  have htab : c.exceptionTable.toList.map xhF = [(0, 9, 12, 20), (0, 9, 15, 18)] := by
    obtain ⟨m9, meth9, c9, g0, g1, g2, -, -, g3, -⟩ := Cond.codeWith_spec (hts _ List.mem_cons_self)
    cases Option.some.inj (g0.symm.trans B.named)
    cases Option.some.inj (g1.symm.trans B.method)
    cases Option.some.inj (g2.symm.trans (Stand.of_body B).code)
    exact g3
  have hr := B.returns
  have hlocks := B.notSynchronized
  generalize hAe : va_A (wL cy X S0) s.heap.size = A at hD hK ⊢
  have hA : ∀ q, s.heap.size ≤ q → A q := fun q h => by rw [← hAe]; exact Or.inr h
  have hW : wO D cy X A s.heap S0 s.heap [] := ⟨hP, hD, va_S.rf, hA, hRO⟩
  have hl := lv_entry ([.ref a0, .int x1, .ref a2]) (n := 4) (Nat.le_of_ble_eq_true rfl)
  rw [lg_entry_eq]
  generalize (lg_sl ([.ref a0, .int x1, .ref a2]) ++ List.replicate (4 - (lg_sl ([.ref a0, .int x1, .ref a2])).length) Slot.unset).toArray = ls at hl ⊢
  have hl : lv_has ls 4 [(0, .ref a0), (1, .int x1), (2, .ref a2)] := hl
  unfold wp_L_moveFrom at hp
  exact t_L_moveFrom_0 F hr hlocks hK hl0 htab hp hW wX.rf (lv_sub hl [0, 1, 2] rfl) hL_a0 hK_a0 hL_a2 hK_a2
def wp_L_moveTo_0 (D : wD) (post : Int32 → wS → Prop)  (S : wS) (a0 : Nat) (x1 : Int32) (a2 : Nat) : Prop :=
wp_X11_moveTo D (fun r_1 S_2 => 
a2 ∈ sL S_2 ∧ vp_in (0 : Int32) (sN S_2 a2) ∧
∀ S_4 : wS, S_4 = uJ S_2 a2 ((0 : Int32)).toNatClampNeg (Int32.toInt64 r_1) →
post (0 : Int32) S_4) (fun E_9 S9 => (E_9 = "java/lang/IllegalStateException" ∧ post (1 : Int32) S9) ∨ (E_9 = "java/lang/IndexOutOfBoundsException" ∧ post (2 : Int32) S9)) S a0 x1
abbrev r_L_moveTo : Room := { frames := 9, cells := 2, slots := 12, locals := 188 }
def wp_L_moveTo (D : wD) (post : Int32 → wS → Prop) (S : wS) (a0 : Nat) (x1 : Int32) (a2 : Nat) : Prop := wp_L_moveTo_0 D post S a0 x1 a2
set_option maxHeartbeats 4000000 in
set_option maxRecDepth 100000 in
theorem t_L_moveTo_0 {p : Program} {l : Launch} {e : Env} {s : State} {m : MethodId} {args : Array Value} {below : List Frame} {meth : Method} {c : Code} {D : wD} {cy : Nat → ClassId} {X : va_W} {A : Nat → Prop} {S0 : wS} {post : Int32 → wS → Prop} (F : CallFix p m c cL_moveTo 4 s args wz_L_moveTo RL) (hr : meth.sig.returnType = (some .int)) (hlocks : meth.locks = false) (hK : wK D cy A s) (hl0 : l.stackTraces = false) (htab : c.exceptionTable.toList.map xhF = [(0, 9, 12, 20), (0, 9, 15, 18)]) : ∀ {S : wS} {H : Heap} {locs : List Loc} {ls : Array Slot} {a0 : Nat} {x1 : Int32} {a2 : Nat}, wp_L_moveTo_0 D post S a0 x1 a2 → wO D cy X A s.heap S H locs → wX D S0 S → lv_has ls 4 [(0, .ref a0), (1, .int x1), (2, .ref a2)] → wM D S a0 → sK S a0 = 16 → wM D S a2 → sK S a2 = 22 → W p l e r_L_moveTo s m args below meth c H locs 0 0 (vx_MQ below (va_Qi (fun r S9 => wX D S0 S9 ∧ post r S9) (wB D cy X A) A) (wEx D cy X A (fun _ _ => False)) args s 2 12 A) (F0 m 0 ls []) := by
  obtain ⟨hx, hb, hml, hown, hts⟩ := id F
  have hwg : ∀ w ∈ WG, w.before args s = true := fun w h => hts w (List.mem_cons_of_mem _ h)
  intro S H locs ls a0 x1 a2 hp hW hE hl hL_a0 hK_a0 hL_a2 hK_a2
  unfold wp_L_moveTo_0 at hp
  refine lv_aload_n hx hb dL_moveTo_0 rfl (lv_at hl 2 rfl) ?_
  refine lv_iconst (v := 0) hx hb dL_moveTo_1 (by decide) ?_
  refine lv_aload_n hx hb dL_moveTo_2 rfl (lv_at hl 0 rfl) ?_
  refine lv_iload_n hx hb dL_moveTo_3 rfl (lv_at hl 1 rfl) ?_
  refine x_callI (vx_runV (As := [.int x1]) (rest := [.int (0 : Int32), .ref a2]) F (c_X11_moveTo l hl0 hL_a0 hK_a0 hp H.size) (cwV (C := RX11) 1 hts (wg_V wm_RL_57 wy_X11_moveTo) rfl rfl rfl (by decide +kernel) ⟨Nat.le_of_ble_eq_true rfl, Nat.le_of_ble_eq_true rfl⟩) (w_preV hK hW hL_a0 hK_a0 (by decide) rfl) rfl rfl hl.1 rfl (lv_room (Nat.le_of_ble_eq_true rfl)) dL_moveTo_4 ⟨Nat.le_of_ble_eq_true rfl, Nat.le_of_ble_eq_true rfl⟩) hW (fun E ce q9 S9 H locs hp hW h1 h2 h3 => ?_) (fun r_1 S_2 H locs hp hW => ?_)
  · obtain ⟨hX_9, hp⟩ := hp
    have hE := hE.trans hX_9
    obtain ⟨z0, z1, htl, ez0, ez1⟩ := x_tab2 htab
    rcases hp with ⟨hEe, hp⟩ | ⟨hEe, hp⟩
    · subst hEe
      refine x_catch (nm := "java/lang/IllegalStateException") F hK [] z0 [z1] (by rw [htl]; rfl) ez0 (by decide) (by decide) (fun z hz => nomatch hz) (hwg _ wc_RL_20) (by decide +kernel) h1 h2 h3 ?_
      refine W.widen (k := 2) (n := 12) (by decide) (by decide) ?_
      refine lv_astore_n (lv' := [(3, .ref q9), (0, .ref a0), (1, .int x1), (2, .ref a2)]) hx hb dL_moveTo_12 rfl hl (by decide) rfl (fun ls hl => ?_)
      refine lv_iconst (v := 1) hx hb dL_moveTo_13 (by decide) ?_
      refine vx_ret ?_
      exact w_iret hx hb hr hlocks hW ⟨hE, hp⟩ dL_moveTo_14
    · subst hEe
      refine x_catch (nm := "java/lang/IndexOutOfBoundsException") F hK [z0] z1 [] (by rw [htl]; rfl) ez1 (by decide) (by decide) (fun z hz => by
          simp only [List.mem_cons, List.not_mem_nil, or_false] at hz
          rcases hz with hz
          · rw [hz]; exact ⟨by rw [show z0.catchType = 20 from congrArg (fun q => q.2.2.2) ez0]; decide, "java/lang/IllegalStateException", by rw [show z0.catchType = 20 from congrArg (fun q => q.2.2.2) ez0]; exact hwg _ wc_RL_20, by decide +kernel⟩) (hwg _ wc_RL_18) (by decide +kernel) h1 h2 h3 ?_
      refine W.widen (k := 2) (n := 12) (by decide) (by decide) ?_
      refine lv_astore_n (lv' := [(3, .ref q9), (0, .ref a0), (1, .int x1), (2, .ref a2)]) hx hb dL_moveTo_15 rfl hl (by decide) rfl (fun ls hl => ?_)
      refine lv_iconst (v := 2) hx hb dL_moveTo_16 (by decide) ?_
      refine vx_ret ?_
      exact w_iret hx hb hr hlocks hW ⟨hE, hp⟩ dL_moveTo_17
  · obtain ⟨hX_S_2, hp⟩ := hp
    refine W.widen (k := 2) (n := 12) (by decide) (by decide) ?_
    have hE := hE.trans hX_S_2
    have hK_a0 : sK S_2 a0 = 16 := (hX_S_2.2 a0 hL_a0).1.trans hK_a0
    have hL_a0 : wM D S_2 a0 := hX_S_2.M hL_a0
    have hK_a2 : sK S_2 a2 = 22 := (hX_S_2.2 a2 hL_a2).1.trans hK_a2
    have hL_a2 : wM D S_2 a2 := hX_S_2.M hL_a2
    refine lv_i2l (v := (Int32.toInt64 r_1)) hx hb dL_moveTo_7 rfl ?_
    obtain ⟨h_3m, h_3, hp⟩ := hp
    refine w_lst F hK hW h_3m hK_a2 h_3 dL_moveTo_8 (fun H locs hW => ?_)
    obtain ⟨S_4, eS_4⟩ : ∃ z : wS, z = uJ S_2 a2 ((0 : Int32)).toNatClampNeg (Int32.toInt64 r_1) := ⟨_, rfl⟩
    rw [← eS_4] at hW
    replace hp := hp S_4 eS_4
    have hX_S_4 : wX D S_2 S_4 := by rw [eS_4]; exact wX_uJ
    have hE := hE.trans hX_S_4
    have hK_a0 : sK S_4 a0 = 16 := (hX_S_4.2 a0 hL_a0).1.trans hK_a0
    have hL_a0 : wM D S_4 a0 := hX_S_4.M hL_a0
    have hK_a2 : sK S_4 a2 = 22 := (hX_S_4.2 a2 hL_a2).1.trans hK_a2
    have hL_a2 : wM D S_4 a2 := hX_S_4.M hL_a2
    refine lv_goto (tgt := 18) hx hb dL_moveTo_9 (by decide) ?_
    refine lv_iconst (v := 0) hx hb dL_moveTo_18 (by decide) ?_
    refine vx_ret ?_
    exact w_iret hx hb hr hlocks hW ⟨hE, hp⟩ dL_moveTo_19
set_option maxHeartbeats 4000000 in
set_option maxRecDepth 100000 in
theorem c_L_moveTo (l : Launch) {D : wD} {cy : Nat → ClassId} {X : va_W} {S0 : wS} {post : Int32 → wS → Prop} (hl0 : l.stackTraces = false) {a0 : Nat} {x1 : Int32} {a2 : Nat} (hL_a0 : wM D S0 a0) (hK_a0 : sK S0 a0 = 16) (hL_a2 : wM D S0 a2) (hK_a2 : sK S0 a2 = 22) (hp : wp_L_moveTo D post S0 a0 x1 a2) : xI D cy X l yL_moveTo wz_L_moveTo r_L_moveTo [.ref a0, .int x1, .ref a2] S0 (fun r S9 => wX D S0 S9 ∧ post r S9) (fun _ _ => False) := by
  intro sz
  refine vx_ofWH (hh := [(0, 9, 12, 20), (0, 9, 15, 18)]) (cc := cL_moveTo) (maxL := 4) (ret := (some .int)) (by decide) rfl ?_
  intro p e s m args below meth c s₁ B hml hv
  obtain ⟨rfl, hsz, hP, hK, hD0, hRO⟩ := hv
  have hts := atoms_spec (ws := wz_L_moveTo) B.pre
  have hown : s.vm.findClass RL = some m.cls := findClass_of_methodNamed B.named
  subst hsz
  have hD := hD0.self (sz := s.heap.size)
  have F : CallFix p m c cL_moveTo 4 s _ wz_L_moveTo RL := ⟨B.exec, B.bytes, hml, hown, hts⟩
  have htab : c.exceptionTable.toList.map xhF = [(0, 9, 12, 20), (0, 9, 15, 18)] := by
    obtain ⟨m9, meth9, c9, g0, g1, g2, -, -, g3, -⟩ := Cond.codeWith_spec (hts _ List.mem_cons_self)
    cases Option.some.inj (g0.symm.trans B.named)
    cases Option.some.inj (g1.symm.trans B.method)
    cases Option.some.inj (g2.symm.trans (Stand.of_body B).code)
    exact g3
  have hr := B.returns
  have hlocks := B.notSynchronized
  generalize hAe : va_A (wL cy X S0) s.heap.size = A at hD hK ⊢
  have hA : ∀ q, s.heap.size ≤ q → A q := fun q h => by rw [← hAe]; exact Or.inr h
  have hW : wO D cy X A s.heap S0 s.heap [] := ⟨hP, hD, va_S.rf, hA, hRO⟩
  have hl := lv_entry ([.ref a0, .int x1, .ref a2]) (n := 4) (Nat.le_of_ble_eq_true rfl)
  rw [lg_entry_eq]
  generalize (lg_sl ([.ref a0, .int x1, .ref a2]) ++ List.replicate (4 - (lg_sl ([.ref a0, .int x1, .ref a2])).length) Slot.unset).toArray = ls at hl ⊢
  have hl : lv_has ls 4 [(0, .ref a0), (1, .int x1), (2, .ref a2)] := hl
  unfold wp_L_moveTo at hp
  exact t_L_moveTo_0 F hr hlocks hK hl0 htab hp hW wX.rf (lv_sub hl [0, 1, 2] rfl) hL_a0 hK_a0 hL_a2 hK_a2
def wp_L_moveBecomes_0 (D : wD) (post : Int32 → wS → Prop)  (S : wS) (a0 : Nat) (x1 : Int32) (a2 : Nat) : Prop :=
wp_X11_moveBecomes D (fun r_1 S_2 => 
a2 ∈ sL S_2 ∧ vp_in (0 : Int32) (sN S_2 a2) ∧
∀ S_4 : wS, S_4 = uJ S_2 a2 ((0 : Int32)).toNatClampNeg (Int32.toInt64 r_1) →
post (0 : Int32) S_4) (fun E_9 S9 => (E_9 = "java/lang/IllegalStateException" ∧ post (1 : Int32) S9) ∨ (E_9 = "java/lang/IndexOutOfBoundsException" ∧ post (2 : Int32) S9)) S a0 x1
abbrev r_L_moveBecomes : Room := { frames := 9, cells := 2, slots := 12, locals := 188 }
def wp_L_moveBecomes (D : wD) (post : Int32 → wS → Prop) (S : wS) (a0 : Nat) (x1 : Int32) (a2 : Nat) : Prop := wp_L_moveBecomes_0 D post S a0 x1 a2
set_option maxHeartbeats 4000000 in
set_option maxRecDepth 100000 in
theorem t_L_moveBecomes_0 {p : Program} {l : Launch} {e : Env} {s : State} {m : MethodId} {args : Array Value} {below : List Frame} {meth : Method} {c : Code} {D : wD} {cy : Nat → ClassId} {X : va_W} {A : Nat → Prop} {S0 : wS} {post : Int32 → wS → Prop} (F : CallFix p m c cL_moveBecomes 4 s args wz_L_moveBecomes RL) (hr : meth.sig.returnType = (some .int)) (hlocks : meth.locks = false) (hK : wK D cy A s) (hl0 : l.stackTraces = false) (htab : c.exceptionTable.toList.map xhF = [(0, 9, 12, 20), (0, 9, 15, 18)]) : ∀ {S : wS} {H : Heap} {locs : List Loc} {ls : Array Slot} {a0 : Nat} {x1 : Int32} {a2 : Nat}, wp_L_moveBecomes_0 D post S a0 x1 a2 → wO D cy X A s.heap S H locs → wX D S0 S → lv_has ls 4 [(0, .ref a0), (1, .int x1), (2, .ref a2)] → wM D S a0 → sK S a0 = 16 → wM D S a2 → sK S a2 = 22 → W p l e r_L_moveBecomes s m args below meth c H locs 0 0 (vx_MQ below (va_Qi (fun r S9 => wX D S0 S9 ∧ post r S9) (wB D cy X A) A) (wEx D cy X A (fun _ _ => False)) args s 2 12 A) (F0 m 0 ls []) := by
  obtain ⟨hx, hb, hml, hown, hts⟩ := id F
  have hwg : ∀ w ∈ WG, w.before args s = true := fun w h => hts w (List.mem_cons_of_mem _ h)
  intro S H locs ls a0 x1 a2 hp hW hE hl hL_a0 hK_a0 hL_a2 hK_a2
  unfold wp_L_moveBecomes_0 at hp
  refine lv_aload_n hx hb dL_moveBecomes_0 rfl (lv_at hl 2 rfl) ?_
  refine lv_iconst (v := 0) hx hb dL_moveBecomes_1 (by decide) ?_
  refine lv_aload_n hx hb dL_moveBecomes_2 rfl (lv_at hl 0 rfl) ?_
  refine lv_iload_n hx hb dL_moveBecomes_3 rfl (lv_at hl 1 rfl) ?_
  refine x_callI (vx_runV (As := [.int x1]) (rest := [.int (0 : Int32), .ref a2]) F (c_X11_moveBecomes l hl0 hL_a0 hK_a0 hp H.size) (cwV (C := RX11) 1 hts (wg_V wm_RL_60 wy_X11_moveBecomes) rfl rfl rfl (by decide +kernel) ⟨Nat.le_of_ble_eq_true rfl, Nat.le_of_ble_eq_true rfl⟩) (w_preV hK hW hL_a0 hK_a0 (by decide) rfl) rfl rfl hl.1 rfl (lv_room (Nat.le_of_ble_eq_true rfl)) dL_moveBecomes_4 ⟨Nat.le_of_ble_eq_true rfl, Nat.le_of_ble_eq_true rfl⟩) hW (fun E ce q9 S9 H locs hp hW h1 h2 h3 => ?_) (fun r_1 S_2 H locs hp hW => ?_)
  · obtain ⟨hX_9, hp⟩ := hp
    have hE := hE.trans hX_9
    obtain ⟨z0, z1, htl, ez0, ez1⟩ := x_tab2 htab
    rcases hp with ⟨hEe, hp⟩ | ⟨hEe, hp⟩
    · subst hEe
      refine x_catch (nm := "java/lang/IllegalStateException") F hK [] z0 [z1] (by rw [htl]; rfl) ez0 (by decide) (by decide) (fun z hz => nomatch hz) (hwg _ wc_RL_20) (by decide +kernel) h1 h2 h3 ?_
      refine W.widen (k := 2) (n := 12) (by decide) (by decide) ?_
      refine lv_astore_n (lv' := [(3, .ref q9), (0, .ref a0), (1, .int x1), (2, .ref a2)]) hx hb dL_moveBecomes_12 rfl hl (by decide) rfl (fun ls hl => ?_)
      refine lv_iconst (v := 1) hx hb dL_moveBecomes_13 (by decide) ?_
      refine vx_ret ?_
      exact w_iret hx hb hr hlocks hW ⟨hE, hp⟩ dL_moveBecomes_14
    · subst hEe
      refine x_catch (nm := "java/lang/IndexOutOfBoundsException") F hK [z0] z1 [] (by rw [htl]; rfl) ez1 (by decide) (by decide) (fun z hz => by
          simp only [List.mem_cons, List.not_mem_nil, or_false] at hz
          rcases hz with hz
          · rw [hz]; exact ⟨by rw [show z0.catchType = 20 from congrArg (fun q => q.2.2.2) ez0]; decide, "java/lang/IllegalStateException", by rw [show z0.catchType = 20 from congrArg (fun q => q.2.2.2) ez0]; exact hwg _ wc_RL_20, by decide +kernel⟩) (hwg _ wc_RL_18) (by decide +kernel) h1 h2 h3 ?_
      refine W.widen (k := 2) (n := 12) (by decide) (by decide) ?_
      refine lv_astore_n (lv' := [(3, .ref q9), (0, .ref a0), (1, .int x1), (2, .ref a2)]) hx hb dL_moveBecomes_15 rfl hl (by decide) rfl (fun ls hl => ?_)
      refine lv_iconst (v := 2) hx hb dL_moveBecomes_16 (by decide) ?_
      refine vx_ret ?_
      exact w_iret hx hb hr hlocks hW ⟨hE, hp⟩ dL_moveBecomes_17
  · obtain ⟨hX_S_2, hp⟩ := hp
    refine W.widen (k := 2) (n := 12) (by decide) (by decide) ?_
    have hE := hE.trans hX_S_2
    have hK_a0 : sK S_2 a0 = 16 := (hX_S_2.2 a0 hL_a0).1.trans hK_a0
    have hL_a0 : wM D S_2 a0 := hX_S_2.M hL_a0
    have hK_a2 : sK S_2 a2 = 22 := (hX_S_2.2 a2 hL_a2).1.trans hK_a2
    have hL_a2 : wM D S_2 a2 := hX_S_2.M hL_a2
    refine lv_i2l (v := (Int32.toInt64 r_1)) hx hb dL_moveBecomes_7 rfl ?_
    obtain ⟨h_3m, h_3, hp⟩ := hp
    refine w_lst F hK hW h_3m hK_a2 h_3 dL_moveBecomes_8 (fun H locs hW => ?_)
    obtain ⟨S_4, eS_4⟩ : ∃ z : wS, z = uJ S_2 a2 ((0 : Int32)).toNatClampNeg (Int32.toInt64 r_1) := ⟨_, rfl⟩
    rw [← eS_4] at hW
    replace hp := hp S_4 eS_4
    have hX_S_4 : wX D S_2 S_4 := by rw [eS_4]; exact wX_uJ
    have hE := hE.trans hX_S_4
    have hK_a0 : sK S_4 a0 = 16 := (hX_S_4.2 a0 hL_a0).1.trans hK_a0
    have hL_a0 : wM D S_4 a0 := hX_S_4.M hL_a0
    have hK_a2 : sK S_4 a2 = 22 := (hX_S_4.2 a2 hL_a2).1.trans hK_a2
    have hL_a2 : wM D S_4 a2 := hX_S_4.M hL_a2
    refine lv_goto (tgt := 18) hx hb dL_moveBecomes_9 (by decide) ?_
    refine lv_iconst (v := 0) hx hb dL_moveBecomes_18 (by decide) ?_
    refine vx_ret ?_
    exact w_iret hx hb hr hlocks hW ⟨hE, hp⟩ dL_moveBecomes_19
set_option maxHeartbeats 4000000 in
set_option maxRecDepth 100000 in
theorem c_L_moveBecomes (l : Launch) {D : wD} {cy : Nat → ClassId} {X : va_W} {S0 : wS} {post : Int32 → wS → Prop} (hl0 : l.stackTraces = false) {a0 : Nat} {x1 : Int32} {a2 : Nat} (hL_a0 : wM D S0 a0) (hK_a0 : sK S0 a0 = 16) (hL_a2 : wM D S0 a2) (hK_a2 : sK S0 a2 = 22) (hp : wp_L_moveBecomes D post S0 a0 x1 a2) : xI D cy X l yL_moveBecomes wz_L_moveBecomes r_L_moveBecomes [.ref a0, .int x1, .ref a2] S0 (fun r S9 => wX D S0 S9 ∧ post r S9) (fun _ _ => False) := by
  intro sz
  refine vx_ofWH (hh := [(0, 9, 12, 20), (0, 9, 15, 18)]) (cc := cL_moveBecomes) (maxL := 4) (ret := (some .int)) (by decide) rfl ?_
  intro p e s m args below meth c s₁ B hml hv
  obtain ⟨rfl, hsz, hP, hK, hD0, hRO⟩ := hv
  have hts := atoms_spec (ws := wz_L_moveBecomes) B.pre
  have hown : s.vm.findClass RL = some m.cls := findClass_of_methodNamed B.named
  subst hsz
  have hD := hD0.self (sz := s.heap.size)
  have F : CallFix p m c cL_moveBecomes 4 s _ wz_L_moveBecomes RL := ⟨B.exec, B.bytes, hml, hown, hts⟩
  have htab : c.exceptionTable.toList.map xhF = [(0, 9, 12, 20), (0, 9, 15, 18)] := by
    obtain ⟨m9, meth9, c9, g0, g1, g2, -, -, g3, -⟩ := Cond.codeWith_spec (hts _ List.mem_cons_self)
    cases Option.some.inj (g0.symm.trans B.named)
    cases Option.some.inj (g1.symm.trans B.method)
    cases Option.some.inj (g2.symm.trans (Stand.of_body B).code)
    exact g3
  have hr := B.returns
  have hlocks := B.notSynchronized
  generalize hAe : va_A (wL cy X S0) s.heap.size = A at hD hK ⊢
  have hA : ∀ q, s.heap.size ≤ q → A q := fun q h => by rw [← hAe]; exact Or.inr h
  have hW : wO D cy X A s.heap S0 s.heap [] := ⟨hP, hD, va_S.rf, hA, hRO⟩
  have hl := lv_entry ([.ref a0, .int x1, .ref a2]) (n := 4) (Nat.le_of_ble_eq_true rfl)
  rw [lg_entry_eq]
  generalize (lg_sl ([.ref a0, .int x1, .ref a2]) ++ List.replicate (4 - (lg_sl ([.ref a0, .int x1, .ref a2])).length) Slot.unset).toArray = ls at hl ⊢
  have hl : lv_has ls 4 [(0, .ref a0), (1, .int x1), (2, .ref a2)] := hl
  unfold wp_L_moveBecomes at hp
  exact t_L_moveBecomes_0 F hr hlocks hK hl0 htab hp hW wX.rf (lv_sub hl [0, 1, 2] rfl) hL_a0 hK_a0 hL_a2 hK_a2
def wp_L_writeMove_0 (D : wD) (post : Int32 → wS → Prop)  (bc bs : Nat) (S : wS) (a0 : Nat) (x1 : Int32) (a2 : Nat) : Prop :=
∃ m_3 z_4 : Nat, m_3 ≤ bc ∧ z_4 ≤ bs ∧
wp_X11_writeMove D (fun r_1 S_2 => 
a2 ∈ sL S_2 ∧ vp_in (0 : Int32) (sN S_2 a2) ∧
∀ S_6 : wS, S_6 = uJ S_2 a2 ((0 : Int32)).toNatClampNeg (Int32.toInt64 r_1) →
post (0 : Int32) S_6) (fun E_9 S9 => (E_9 = "java/lang/IllegalStateException" ∧ post (1 : Int32) S9) ∨ (E_9 = "java/lang/IndexOutOfBoundsException" ∧ post (2 : Int32) S9)) m_3 z_4 S a0 x1
abbrev r_L_writeMove (rC rS : Nat) : Room := { frames := 17, cells := rC, slots := rS, locals := 379 }
def wp_L_writeMove (D : wD) (post : Int32 → wS → Prop) (bc bs : Nat) (S : wS) (a0 : Nat) (x1 : Int32) (a2 : Nat) : Prop := wp_L_writeMove_0 D post bc bs S a0 x1 a2
set_option maxHeartbeats 4000000 in
set_option maxRecDepth 100000 in
theorem t_L_writeMove_0 {p : Program} {l : Launch} {e : Env} {s : State} {m : MethodId} {args : Array Value} {below : List Frame} {meth : Method} {c : Code} {D : wD} {cy : Nat → ClassId} {X : va_W} {A : Nat → Prop} {S0 : wS} {rC rS : Nat} {post : Int32 → wS → Prop} (F : CallFix p m c cL_writeMove 4 s args wz_L_writeMove RL) (hr : meth.sig.returnType = (some .int)) (hlocks : meth.locks = false) (hK : wK D cy A s) (hl0 : l.stackTraces = false) (htab : c.exceptionTable.toList.map xhF = [(0, 9, 12, 20), (0, 9, 15, 18)]) : ∀ {bc bs cells slots : Nat} (hbc : cells + bc ≤ rC) (hbs : slots + bs ≤ rS) {S : wS} {H : Heap} {locs : List Loc} {ls : Array Slot} {a0 : Nat} {x1 : Int32} {a2 : Nat}, wp_L_writeMove_0 D post bc bs S a0 x1 a2 → wO D cy X A s.heap S H locs → wX D S0 S → lv_has ls 4 [(0, .ref a0), (1, .int x1), (2, .ref a2)] → wM D S a0 → sK S a0 = 16 → wM D S a2 → sK S a2 = 22 → W p l e (r_L_writeMove rC rS) s m args below meth c H locs cells slots (vx_MQ below (va_Qi (fun r S9 => wX D S0 S9 ∧ post r S9) (wB D cy X A) A) (wEx D cy X A (fun _ _ => False)) args s rC rS A) (F0 m 0 ls []) := by
  obtain ⟨hx, hb, hml, hown, hts⟩ := id F
  have hwg : ∀ w ∈ WG, w.before args s = true := fun w h => hts w (List.mem_cons_of_mem _ h)
  intro bc bs cells slots hbc hbs S H locs ls a0 x1 a2 hp hW hE hl hL_a0 hK_a0 hL_a2 hK_a2
  unfold wp_L_writeMove_0 at hp
  refine lv_aload_n hx hb dL_writeMove_0 rfl (lv_at hl 2 rfl) ?_
  refine lv_iconst (v := 0) hx hb dL_writeMove_1 (by decide) ?_
  refine lv_aload_n hx hb dL_writeMove_2 rfl (lv_at hl 0 rfl) ?_
  refine lv_iload_n hx hb dL_writeMove_3 rfl (lv_at hl 1 rfl) ?_
  obtain ⟨m_3, z_4, hm_3, hz_4, hp⟩ := hp
  refine x_callI (vx_runV (As := [.int x1]) (rest := [.int (0 : Int32), .ref a2]) F (c_X11_writeMove l hl0 hL_a0 hK_a0 hp H.size) (cwV (C := RX11) 1 hts (wg_V wm_RL_63 wy_X11_writeMove) rfl rfl rfl (by decide +kernel) ⟨Nat.le_of_ble_eq_true rfl, Nat.le_of_ble_eq_true rfl⟩) (w_preV hK hW hL_a0 hK_a0 (by decide) rfl) rfl rfl hl.1 rfl (lv_room (Nat.le_of_ble_eq_true rfl)) dL_writeMove_4 ⟨by show _ + m_3 ≤ rC; omega, by show _ + z_4 ≤ rS; omega⟩) hW (fun E ce q9 S9 H locs hp hW h1 h2 h3 => ?_) (fun r_1 S_2 H locs hp hW => ?_)
  · obtain ⟨hX_9, hp⟩ := hp
    have hE := hE.trans hX_9
    obtain ⟨z0, z1, htl, ez0, ez1⟩ := x_tab2 htab
    rcases hp with ⟨hEe, hp⟩ | ⟨hEe, hp⟩
    · subst hEe
      refine x_catch (nm := "java/lang/IllegalStateException") F hK [] z0 [z1] (by rw [htl]; rfl) ez0 (by decide) (by decide) (fun z hz => nomatch hz) (hwg _ wc_RL_20) (by decide +kernel) h1 h2 h3 ?_
      refine W.widen (k := rC) (n := rS) (by show _ + m_3 ≤ rC; omega) (by show _ + z_4 ≤ rS; omega) ?_
      refine lv_astore_n (lv' := [(3, .ref q9), (0, .ref a0), (1, .int x1), (2, .ref a2)]) hx hb dL_writeMove_12 rfl hl (by decide) rfl (fun ls hl => ?_)
      refine lv_iconst (v := 1) hx hb dL_writeMove_13 (by decide) ?_
      refine vx_ret ?_
      exact w_iret hx hb hr hlocks hW ⟨hE, hp⟩ dL_writeMove_14
    · subst hEe
      refine x_catch (nm := "java/lang/IndexOutOfBoundsException") F hK [z0] z1 [] (by rw [htl]; rfl) ez1 (by decide) (by decide) (fun z hz => by
          simp only [List.mem_cons, List.not_mem_nil, or_false] at hz
          rcases hz with hz
          · rw [hz]; exact ⟨by rw [show z0.catchType = 20 from congrArg (fun q => q.2.2.2) ez0]; decide, "java/lang/IllegalStateException", by rw [show z0.catchType = 20 from congrArg (fun q => q.2.2.2) ez0]; exact hwg _ wc_RL_20, by decide +kernel⟩) (hwg _ wc_RL_18) (by decide +kernel) h1 h2 h3 ?_
      refine W.widen (k := rC) (n := rS) (by show _ + m_3 ≤ rC; omega) (by show _ + z_4 ≤ rS; omega) ?_
      refine lv_astore_n (lv' := [(3, .ref q9), (0, .ref a0), (1, .int x1), (2, .ref a2)]) hx hb dL_writeMove_15 rfl hl (by decide) rfl (fun ls hl => ?_)
      refine lv_iconst (v := 2) hx hb dL_writeMove_16 (by decide) ?_
      refine vx_ret ?_
      exact w_iret hx hb hr hlocks hW ⟨hE, hp⟩ dL_writeMove_17
  · obtain ⟨hX_S_2, hp⟩ := hp
    refine W.widen (k := _ + m_3) (n := _ + z_4) (Nat.le_refl _) (Nat.le_refl _) ?_
    replace hbc := w_spend hbc (show m_3 ≤ bc by omega)
    replace hbs := w_spend hbs (show z_4 ≤ bs by omega)
    have hE := hE.trans hX_S_2
    have hK_a0 : sK S_2 a0 = 16 := (hX_S_2.2 a0 hL_a0).1.trans hK_a0
    have hL_a0 : wM D S_2 a0 := hX_S_2.M hL_a0
    have hK_a2 : sK S_2 a2 = 22 := (hX_S_2.2 a2 hL_a2).1.trans hK_a2
    have hL_a2 : wM D S_2 a2 := hX_S_2.M hL_a2
    refine lv_i2l (v := (Int32.toInt64 r_1)) hx hb dL_writeMove_7 rfl ?_
    obtain ⟨h_5m, h_5, hp⟩ := hp
    refine w_lst F hK hW h_5m hK_a2 h_5 dL_writeMove_8 (fun H locs hW => ?_)
    obtain ⟨S_6, eS_6⟩ : ∃ z : wS, z = uJ S_2 a2 ((0 : Int32)).toNatClampNeg (Int32.toInt64 r_1) := ⟨_, rfl⟩
    rw [← eS_6] at hW
    replace hp := hp S_6 eS_6
    have hX_S_6 : wX D S_2 S_6 := by rw [eS_6]; exact wX_uJ
    have hE := hE.trans hX_S_6
    have hK_a0 : sK S_6 a0 = 16 := (hX_S_6.2 a0 hL_a0).1.trans hK_a0
    have hL_a0 : wM D S_6 a0 := hX_S_6.M hL_a0
    have hK_a2 : sK S_6 a2 = 22 := (hX_S_6.2 a2 hL_a2).1.trans hK_a2
    have hL_a2 : wM D S_6 a2 := hX_S_6.M hL_a2
    refine lv_goto (tgt := 18) hx hb dL_writeMove_9 (by decide) ?_
    refine lv_iconst (v := 0) hx hb dL_writeMove_18 (by decide) ?_
    refine W.widen (k := rC) (n := rS) (Nat.le_trans (Nat.le_add_right _ _) hbc) (Nat.le_trans (Nat.le_add_right _ _) hbs) ?_
    refine vx_ret ?_
    exact w_iret hx hb hr hlocks hW ⟨hE, hp⟩ dL_writeMove_19
set_option maxHeartbeats 4000000 in
set_option maxRecDepth 100000 in
theorem c_L_writeMove (l : Launch) {rC rS : Nat} {D : wD} {cy : Nat → ClassId} {X : va_W} {S0 : wS} {post : Int32 → wS → Prop} (hl0 : l.stackTraces = false) {a0 : Nat} {x1 : Int32} {a2 : Nat} (hL_a0 : wM D S0 a0) (hK_a0 : sK S0 a0 = 16) (hL_a2 : wM D S0 a2) (hK_a2 : sK S0 a2 = 22) (hp : wp_L_writeMove D post rC rS S0 a0 x1 a2) : xI D cy X l yL_writeMove wz_L_writeMove (r_L_writeMove rC rS) [.ref a0, .int x1, .ref a2] S0 (fun r S9 => wX D S0 S9 ∧ post r S9) (fun _ _ => False) := by
  intro sz
  refine vx_ofWH (hh := [(0, 9, 12, 20), (0, 9, 15, 18)]) (cc := cL_writeMove) (maxL := 4) (ret := (some .int)) (by decide) rfl ?_
  intro p e s m args below meth c s₁ B hml hv
  obtain ⟨rfl, hsz, hP, hK, hD0, hRO⟩ := hv
  have hts := atoms_spec (ws := wz_L_writeMove) B.pre
  have hown : s.vm.findClass RL = some m.cls := findClass_of_methodNamed B.named
  subst hsz
  have hD := hD0.self (sz := s.heap.size)
  have F : CallFix p m c cL_writeMove 4 s _ wz_L_writeMove RL := ⟨B.exec, B.bytes, hml, hown, hts⟩
  have htab : c.exceptionTable.toList.map xhF = [(0, 9, 12, 20), (0, 9, 15, 18)] := by
    obtain ⟨m9, meth9, c9, g0, g1, g2, -, -, g3, -⟩ := Cond.codeWith_spec (hts _ List.mem_cons_self)
    cases Option.some.inj (g0.symm.trans B.named)
    cases Option.some.inj (g1.symm.trans B.method)
    cases Option.some.inj (g2.symm.trans (Stand.of_body B).code)
    exact g3
  have hr := B.returns
  have hlocks := B.notSynchronized
  generalize hAe : va_A (wL cy X S0) s.heap.size = A at hD hK ⊢
  have hA : ∀ q, s.heap.size ≤ q → A q := fun q h => by rw [← hAe]; exact Or.inr h
  have hW : wO D cy X A s.heap S0 s.heap [] := ⟨hP, hD, va_S.rf, hA, hRO⟩
  have hl := lv_entry ([.ref a0, .int x1, .ref a2]) (n := 4) (Nat.le_of_ble_eq_true rfl)
  rw [lg_entry_eq]
  generalize (lg_sl ([.ref a0, .int x1, .ref a2]) ++ List.replicate (4 - (lg_sl ([.ref a0, .int x1, .ref a2])).length) Slot.unset).toArray = ls at hl ⊢
  have hl : lv_has ls 4 [(0, .ref a0), (1, .int x1), (2, .ref a2)] := hl
  unfold wp_L_writeMove at hp
  exact t_L_writeMove_0 F hr hlocks hK hl0 htab (Nat.le_of_eq (Nat.zero_add _)) (Nat.le_of_eq (Nat.zero_add _)) hp hW wX.rf (lv_sub hl [0, 1, 2] rfl) hL_a0 hK_a0 hL_a2 hK_a2
def wp_L_play_0 (D : wD) (post : Int32 → wS → Prop)  (S : wS) (a0 : Nat) (x1 : Int32) (a2 : Nat) : Prop :=
wp_X11_play D (fun r_1 S_2 => 
a2 ∈ sL S_2 ∧ vp_in (0 : Int32) (sN S_2 a2) ∧
∀ S_4 : wS, S_4 = uJ S_2 a2 ((0 : Int32)).toNatClampNeg (Int32.toInt64 r_1) →
post (0 : Int32) S_4) (fun E_9 S9 => (E_9 = "java/lang/IllegalStateException" ∧ post (1 : Int32) S9) ∨ (E_9 = "java/lang/IndexOutOfBoundsException" ∧ post (2 : Int32) S9)) S a0 x1
abbrev r_L_play : Room := { frames := 9, cells := 3, slots := 18, locals := 188 }
def wp_L_play (D : wD) (post : Int32 → wS → Prop) (S : wS) (a0 : Nat) (x1 : Int32) (a2 : Nat) : Prop := wp_L_play_0 D post S a0 x1 a2
set_option maxHeartbeats 4000000 in
set_option maxRecDepth 100000 in
theorem t_L_play_0 {p : Program} {l : Launch} {e : Env} {s : State} {m : MethodId} {args : Array Value} {below : List Frame} {meth : Method} {c : Code} {D : wD} {cy : Nat → ClassId} {X : va_W} {A : Nat → Prop} {S0 : wS} {post : Int32 → wS → Prop} (F : CallFix p m c cL_play 4 s args wz_L_play RL) (hr : meth.sig.returnType = (some .int)) (hlocks : meth.locks = false) (hK : wK D cy A s) (hl0 : l.stackTraces = false) (htab : c.exceptionTable.toList.map xhF = [(0, 9, 12, 20), (0, 9, 15, 18)]) : ∀ {S : wS} {H : Heap} {locs : List Loc} {ls : Array Slot} {a0 : Nat} {x1 : Int32} {a2 : Nat}, wp_L_play_0 D post S a0 x1 a2 → wO D cy X A s.heap S H locs → wX D S0 S → lv_has ls 4 [(0, .ref a0), (1, .int x1), (2, .ref a2)] → wM D S a0 → sK S a0 = 16 → wM D S a2 → sK S a2 = 22 → W p l e r_L_play s m args below meth c H locs 0 0 (vx_MQ below (va_Qi (fun r S9 => wX D S0 S9 ∧ post r S9) (wB D cy X A) A) (wEx D cy X A (fun _ _ => False)) args s 3 18 A) (F0 m 0 ls []) := by
  obtain ⟨hx, hb, hml, hown, hts⟩ := id F
  have hwg : ∀ w ∈ WG, w.before args s = true := fun w h => hts w (List.mem_cons_of_mem _ h)
  intro S H locs ls a0 x1 a2 hp hW hE hl hL_a0 hK_a0 hL_a2 hK_a2
  unfold wp_L_play_0 at hp
  refine lv_aload_n hx hb dL_play_0 rfl (lv_at hl 2 rfl) ?_
  refine lv_iconst (v := 0) hx hb dL_play_1 (by decide) ?_
  refine lv_aload_n hx hb dL_play_2 rfl (lv_at hl 0 rfl) ?_
  refine lv_iload_n hx hb dL_play_3 rfl (lv_at hl 1 rfl) ?_
  refine x_callI (vx_runV (As := [.int x1]) (rest := [.int (0 : Int32), .ref a2]) F (c_X11_play l hl0 hL_a0 hK_a0 hp H.size) (cwV (C := RX11) 1 hts (wg_V wm_RL_66 wy_X11_play) rfl rfl rfl (by decide +kernel) ⟨Nat.le_of_ble_eq_true rfl, Nat.le_of_ble_eq_true rfl⟩) (w_preV hK hW hL_a0 hK_a0 (by decide) rfl) rfl rfl hl.1 rfl (lv_room (Nat.le_of_ble_eq_true rfl)) dL_play_4 ⟨Nat.le_of_ble_eq_true rfl, Nat.le_of_ble_eq_true rfl⟩) hW (fun E ce q9 S9 H locs hp hW h1 h2 h3 => ?_) (fun r_1 S_2 H locs hp hW => ?_)
  · obtain ⟨hX_9, hp⟩ := hp
    have hE := hE.trans hX_9
    obtain ⟨z0, z1, htl, ez0, ez1⟩ := x_tab2 htab
    rcases hp with ⟨hEe, hp⟩ | ⟨hEe, hp⟩
    · subst hEe
      refine x_catch (nm := "java/lang/IllegalStateException") F hK [] z0 [z1] (by rw [htl]; rfl) ez0 (by decide) (by decide) (fun z hz => nomatch hz) (hwg _ wc_RL_20) (by decide +kernel) h1 h2 h3 ?_
      refine W.widen (k := 3) (n := 18) (by decide) (by decide) ?_
      refine lv_astore_n (lv' := [(3, .ref q9), (0, .ref a0), (1, .int x1), (2, .ref a2)]) hx hb dL_play_12 rfl hl (by decide) rfl (fun ls hl => ?_)
      refine lv_iconst (v := 1) hx hb dL_play_13 (by decide) ?_
      refine vx_ret ?_
      exact w_iret hx hb hr hlocks hW ⟨hE, hp⟩ dL_play_14
    · subst hEe
      refine x_catch (nm := "java/lang/IndexOutOfBoundsException") F hK [z0] z1 [] (by rw [htl]; rfl) ez1 (by decide) (by decide) (fun z hz => by
          simp only [List.mem_cons, List.not_mem_nil, or_false] at hz
          rcases hz with hz
          · rw [hz]; exact ⟨by rw [show z0.catchType = 20 from congrArg (fun q => q.2.2.2) ez0]; decide, "java/lang/IllegalStateException", by rw [show z0.catchType = 20 from congrArg (fun q => q.2.2.2) ez0]; exact hwg _ wc_RL_20, by decide +kernel⟩) (hwg _ wc_RL_18) (by decide +kernel) h1 h2 h3 ?_
      refine W.widen (k := 3) (n := 18) (by decide) (by decide) ?_
      refine lv_astore_n (lv' := [(3, .ref q9), (0, .ref a0), (1, .int x1), (2, .ref a2)]) hx hb dL_play_15 rfl hl (by decide) rfl (fun ls hl => ?_)
      refine lv_iconst (v := 2) hx hb dL_play_16 (by decide) ?_
      refine vx_ret ?_
      exact w_iret hx hb hr hlocks hW ⟨hE, hp⟩ dL_play_17
  · obtain ⟨hX_S_2, hp⟩ := hp
    refine W.widen (k := 3) (n := 18) (by decide) (by decide) ?_
    have hE := hE.trans hX_S_2
    have hK_a0 : sK S_2 a0 = 16 := (hX_S_2.2 a0 hL_a0).1.trans hK_a0
    have hL_a0 : wM D S_2 a0 := hX_S_2.M hL_a0
    have hK_a2 : sK S_2 a2 = 22 := (hX_S_2.2 a2 hL_a2).1.trans hK_a2
    have hL_a2 : wM D S_2 a2 := hX_S_2.M hL_a2
    refine lv_i2l (v := (Int32.toInt64 r_1)) hx hb dL_play_7 rfl ?_
    obtain ⟨h_3m, h_3, hp⟩ := hp
    refine w_lst F hK hW h_3m hK_a2 h_3 dL_play_8 (fun H locs hW => ?_)
    obtain ⟨S_4, eS_4⟩ : ∃ z : wS, z = uJ S_2 a2 ((0 : Int32)).toNatClampNeg (Int32.toInt64 r_1) := ⟨_, rfl⟩
    rw [← eS_4] at hW
    replace hp := hp S_4 eS_4
    have hX_S_4 : wX D S_2 S_4 := by rw [eS_4]; exact wX_uJ
    have hE := hE.trans hX_S_4
    have hK_a0 : sK S_4 a0 = 16 := (hX_S_4.2 a0 hL_a0).1.trans hK_a0
    have hL_a0 : wM D S_4 a0 := hX_S_4.M hL_a0
    have hK_a2 : sK S_4 a2 = 22 := (hX_S_4.2 a2 hL_a2).1.trans hK_a2
    have hL_a2 : wM D S_4 a2 := hX_S_4.M hL_a2
    refine lv_goto (tgt := 18) hx hb dL_play_9 (by decide) ?_
    refine lv_iconst (v := 0) hx hb dL_play_18 (by decide) ?_
    refine vx_ret ?_
    exact w_iret hx hb hr hlocks hW ⟨hE, hp⟩ dL_play_19
set_option maxHeartbeats 4000000 in
set_option maxRecDepth 100000 in
theorem c_L_play (l : Launch) {D : wD} {cy : Nat → ClassId} {X : va_W} {S0 : wS} {post : Int32 → wS → Prop} (hl0 : l.stackTraces = false) {a0 : Nat} {x1 : Int32} {a2 : Nat} (hL_a0 : wM D S0 a0) (hK_a0 : sK S0 a0 = 16) (hL_a2 : wM D S0 a2) (hK_a2 : sK S0 a2 = 22) (hp : wp_L_play D post S0 a0 x1 a2) : xI D cy X l yL_play wz_L_play r_L_play [.ref a0, .int x1, .ref a2] S0 (fun r S9 => wX D S0 S9 ∧ post r S9) (fun _ _ => False) := by
  intro sz
  refine vx_ofWH (hh := [(0, 9, 12, 20), (0, 9, 15, 18)]) (cc := cL_play) (maxL := 4) (ret := (some .int)) (by decide) rfl ?_
  intro p e s m args below meth c s₁ B hml hv
  obtain ⟨rfl, hsz, hP, hK, hD0, hRO⟩ := hv
  have hts := atoms_spec (ws := wz_L_play) B.pre
  have hown : s.vm.findClass RL = some m.cls := findClass_of_methodNamed B.named
  subst hsz
  have hD := hD0.self (sz := s.heap.size)
  have F : CallFix p m c cL_play 4 s _ wz_L_play RL := ⟨B.exec, B.bytes, hml, hown, hts⟩
  have htab : c.exceptionTable.toList.map xhF = [(0, 9, 12, 20), (0, 9, 15, 18)] := by
    obtain ⟨m9, meth9, c9, g0, g1, g2, -, -, g3, -⟩ := Cond.codeWith_spec (hts _ List.mem_cons_self)
    cases Option.some.inj (g0.symm.trans B.named)
    cases Option.some.inj (g1.symm.trans B.method)
    cases Option.some.inj (g2.symm.trans (Stand.of_body B).code)
    exact g3
  have hr := B.returns
  have hlocks := B.notSynchronized
  generalize hAe : va_A (wL cy X S0) s.heap.size = A at hD hK ⊢
  have hA : ∀ q, s.heap.size ≤ q → A q := fun q h => by rw [← hAe]; exact Or.inr h
  have hW : wO D cy X A s.heap S0 s.heap [] := ⟨hP, hD, va_S.rf, hA, hRO⟩
  have hl := lv_entry ([.ref a0, .int x1, .ref a2]) (n := 4) (Nat.le_of_ble_eq_true rfl)
  rw [lg_entry_eq]
  generalize (lg_sl ([.ref a0, .int x1, .ref a2]) ++ List.replicate (4 - (lg_sl ([.ref a0, .int x1, .ref a2])).length) Slot.unset).toArray = ls at hl ⊢
  have hl : lv_has ls 4 [(0, .ref a0), (1, .int x1), (2, .ref a2)] := hl
  unfold wp_L_play at hp
  exact t_L_play_0 F hr hlocks hK hl0 htab hp hW wX.rf (lv_sub hl [0, 1, 2] rfl) hL_a0 hK_a0 hL_a2 hK_a2
def wp_L_takeBack_0 (D : wD) (post : Int32 → wS → Prop)  (S : wS) (a0 : Nat) (a1 : Nat) : Prop :=
wp_X11_takeBack D (fun r_1 S_2 => 
a1 ∈ sL S_2 ∧ vp_in (0 : Int32) (sN S_2 a1) ∧
∀ S_4 : wS, S_4 = uJ S_2 a1 ((0 : Int32)).toNatClampNeg (Int32.toInt64 r_1) →
post (0 : Int32) S_4) (fun E_9 S9 => (E_9 = "java/lang/IllegalStateException" ∧ post (1 : Int32) S9)) S a0
abbrev r_L_takeBack : Room := { frames := 7, cells := 1, slots := 6, locals := 140 }
def wp_L_takeBack (D : wD) (post : Int32 → wS → Prop) (S : wS) (a0 : Nat) (a1 : Nat) : Prop := wp_L_takeBack_0 D post S a0 a1
set_option maxHeartbeats 4000000 in
set_option maxRecDepth 100000 in
theorem t_L_takeBack_0 {p : Program} {l : Launch} {e : Env} {s : State} {m : MethodId} {args : Array Value} {below : List Frame} {meth : Method} {c : Code} {D : wD} {cy : Nat → ClassId} {X : va_W} {A : Nat → Prop} {S0 : wS} {post : Int32 → wS → Prop} (F : CallFix p m c cL_takeBack 3 s args wz_L_takeBack RL) (hr : meth.sig.returnType = (some .int)) (hlocks : meth.locks = false) (hK : wK D cy A s) (hl0 : l.stackTraces = false) (htab : c.exceptionTable.toList.map xhF = [(0, 8, 11, 20)]) : ∀ {S : wS} {H : Heap} {locs : List Loc} {ls : Array Slot} {a0 : Nat} {a1 : Nat}, wp_L_takeBack_0 D post S a0 a1 → wO D cy X A s.heap S H locs → wX D S0 S → lv_has ls 3 [(0, .ref a0), (1, .ref a1)] → wM D S a0 → sK S a0 = 16 → wM D S a1 → sK S a1 = 22 → W p l e r_L_takeBack s m args below meth c H locs 0 0 (vx_MQ below (va_Qi (fun r S9 => wX D S0 S9 ∧ post r S9) (wB D cy X A) A) (wEx D cy X A (fun _ _ => False)) args s 1 6 A) (F0 m 0 ls []) := by
  obtain ⟨hx, hb, hml, hown, hts⟩ := id F
  have hwg : ∀ w ∈ WG, w.before args s = true := fun w h => hts w (List.mem_cons_of_mem _ h)
  intro S H locs ls a0 a1 hp hW hE hl hL_a0 hK_a0 hL_a1 hK_a1
  unfold wp_L_takeBack_0 at hp
  refine lv_aload_n hx hb dL_takeBack_0 rfl (lv_at hl 1 rfl) ?_
  refine lv_iconst (v := 0) hx hb dL_takeBack_1 (by decide) ?_
  refine lv_aload_n hx hb dL_takeBack_2 rfl (lv_at hl 0 rfl) ?_
  refine x_callI (vx_runV (As := []) (rest := [.int (0 : Int32), .ref a1]) F (c_X11_takeBack l hl0 hL_a0 hK_a0 hp H.size) (cwV (C := RX11) 0 hts (wg_V wm_RL_69 wy_X11_takeBack) rfl rfl rfl (by decide +kernel) ⟨Nat.le_of_ble_eq_true rfl, Nat.le_of_ble_eq_true rfl⟩) (w_preV hK hW hL_a0 hK_a0 (by decide) rfl) rfl rfl hl.1 rfl (lv_room (Nat.le_of_ble_eq_true rfl)) dL_takeBack_3 ⟨Nat.le_of_ble_eq_true rfl, Nat.le_of_ble_eq_true rfl⟩) hW (fun E ce q9 S9 H locs hp hW h1 h2 h3 => ?_) (fun r_1 S_2 H locs hp hW => ?_)
  · obtain ⟨hX_9, hp⟩ := hp
    have hE := hE.trans hX_9
    obtain ⟨z0, htl, ez0⟩ := x_tab1 htab
    rcases hp with ⟨hEe, hp⟩
    · subst hEe
      refine x_catch (nm := "java/lang/IllegalStateException") F hK [] z0 [] (by rw [htl]; rfl) ez0 (by decide) (by decide) (fun z hz => nomatch hz) (hwg _ wc_RL_20) (by decide +kernel) h1 h2 h3 ?_
      refine W.widen (k := 1) (n := 6) (by decide) (by decide) ?_
      refine lv_astore_n (lv' := [(2, .ref q9), (0, .ref a0), (1, .ref a1)]) hx hb dL_takeBack_11 rfl hl (by decide) rfl (fun ls hl => ?_)
      refine lv_iconst (v := 1) hx hb dL_takeBack_12 (by decide) ?_
      refine vx_ret ?_
      exact w_iret hx hb hr hlocks hW ⟨hE, hp⟩ dL_takeBack_13
  · obtain ⟨hX_S_2, hp⟩ := hp
    refine W.widen (k := 1) (n := 6) (by decide) (by decide) ?_
    have hE := hE.trans hX_S_2
    have hK_a0 : sK S_2 a0 = 16 := (hX_S_2.2 a0 hL_a0).1.trans hK_a0
    have hL_a0 : wM D S_2 a0 := hX_S_2.M hL_a0
    have hK_a1 : sK S_2 a1 = 22 := (hX_S_2.2 a1 hL_a1).1.trans hK_a1
    have hL_a1 : wM D S_2 a1 := hX_S_2.M hL_a1
    refine lv_i2l (v := (Int32.toInt64 r_1)) hx hb dL_takeBack_6 rfl ?_
    obtain ⟨h_3m, h_3, hp⟩ := hp
    refine w_lst F hK hW h_3m hK_a1 h_3 dL_takeBack_7 (fun H locs hW => ?_)
    obtain ⟨S_4, eS_4⟩ : ∃ z : wS, z = uJ S_2 a1 ((0 : Int32)).toNatClampNeg (Int32.toInt64 r_1) := ⟨_, rfl⟩
    rw [← eS_4] at hW
    replace hp := hp S_4 eS_4
    have hX_S_4 : wX D S_2 S_4 := by rw [eS_4]; exact wX_uJ
    have hE := hE.trans hX_S_4
    have hK_a0 : sK S_4 a0 = 16 := (hX_S_4.2 a0 hL_a0).1.trans hK_a0
    have hL_a0 : wM D S_4 a0 := hX_S_4.M hL_a0
    have hK_a1 : sK S_4 a1 = 22 := (hX_S_4.2 a1 hL_a1).1.trans hK_a1
    have hL_a1 : wM D S_4 a1 := hX_S_4.M hL_a1
    refine lv_goto (tgt := 14) hx hb dL_takeBack_8 (by decide) ?_
    refine lv_iconst (v := 0) hx hb dL_takeBack_14 (by decide) ?_
    refine vx_ret ?_
    exact w_iret hx hb hr hlocks hW ⟨hE, hp⟩ dL_takeBack_15
set_option maxHeartbeats 4000000 in
set_option maxRecDepth 100000 in
theorem c_L_takeBack (l : Launch) {D : wD} {cy : Nat → ClassId} {X : va_W} {S0 : wS} {post : Int32 → wS → Prop} (hl0 : l.stackTraces = false) {a0 : Nat} {a1 : Nat} (hL_a0 : wM D S0 a0) (hK_a0 : sK S0 a0 = 16) (hL_a1 : wM D S0 a1) (hK_a1 : sK S0 a1 = 22) (hp : wp_L_takeBack D post S0 a0 a1) : xI D cy X l yL_takeBack wz_L_takeBack r_L_takeBack [.ref a0, .ref a1] S0 (fun r S9 => wX D S0 S9 ∧ post r S9) (fun _ _ => False) := by
  intro sz
  refine vx_ofWH (hh := [(0, 8, 11, 20)]) (cc := cL_takeBack) (maxL := 3) (ret := (some .int)) (by decide) rfl ?_
  intro p e s m args below meth c s₁ B hml hv
  obtain ⟨rfl, hsz, hP, hK, hD0, hRO⟩ := hv
  have hts := atoms_spec (ws := wz_L_takeBack) B.pre
  have hown : s.vm.findClass RL = some m.cls := findClass_of_methodNamed B.named
  subst hsz
  have hD := hD0.self (sz := s.heap.size)
  have F : CallFix p m c cL_takeBack 3 s _ wz_L_takeBack RL := ⟨B.exec, B.bytes, hml, hown, hts⟩
  have htab : c.exceptionTable.toList.map xhF = [(0, 8, 11, 20)] := by
    obtain ⟨m9, meth9, c9, g0, g1, g2, -, -, g3, -⟩ := Cond.codeWith_spec (hts _ List.mem_cons_self)
    cases Option.some.inj (g0.symm.trans B.named)
    cases Option.some.inj (g1.symm.trans B.method)
    cases Option.some.inj (g2.symm.trans (Stand.of_body B).code)
    exact g3
  have hr := B.returns
  have hlocks := B.notSynchronized
  generalize hAe : va_A (wL cy X S0) s.heap.size = A at hD hK ⊢
  have hA : ∀ q, s.heap.size ≤ q → A q := fun q h => by rw [← hAe]; exact Or.inr h
  have hW : wO D cy X A s.heap S0 s.heap [] := ⟨hP, hD, va_S.rf, hA, hRO⟩
  have hl := lv_entry ([.ref a0, .ref a1]) (n := 3) (Nat.le_of_ble_eq_true rfl)
  rw [lg_entry_eq]
  generalize (lg_sl ([.ref a0, .ref a1]) ++ List.replicate (3 - (lg_sl ([.ref a0, .ref a1])).length) Slot.unset).toArray = ls at hl ⊢
  have hl : lv_has ls 3 [(0, .ref a0), (1, .ref a1)] := hl
  unfold wp_L_takeBack at hp
  exact t_L_takeBack_0 F hr hlocks hK hl0 htab hp hW wX.rf (lv_sub hl [0, 1] rfl) hL_a0 hK_a0 hL_a1 hK_a1
def wp_L_state_0 (D : wD) (post : Int32 → wS → Prop)  (S : wS) (a0 : Nat) (a1 : Nat) : Prop :=
wp_X11_state D (fun r_1 S_2 => 
a1 ∈ sL S_2 ∧ vp_in (0 : Int32) (sN S_2 a1) ∧
∀ S_4 : wS, S_4 = uJ S_2 a1 ((0 : Int32)).toNatClampNeg (Int32.toInt64 r_1) →
post (0 : Int32) S_4) (fun E_9 S9 => (E_9 = "java/lang/IllegalStateException" ∧ post (1 : Int32) S9)) S a0
abbrev r_L_state : Room := { frames := 8, cells := 1, slots := 6, locals := 160 }
def wp_L_state (D : wD) (post : Int32 → wS → Prop) (S : wS) (a0 : Nat) (a1 : Nat) : Prop := wp_L_state_0 D post S a0 a1
set_option maxHeartbeats 4000000 in
set_option maxRecDepth 100000 in
theorem t_L_state_0 {p : Program} {l : Launch} {e : Env} {s : State} {m : MethodId} {args : Array Value} {below : List Frame} {meth : Method} {c : Code} {D : wD} {cy : Nat → ClassId} {X : va_W} {A : Nat → Prop} {S0 : wS} {post : Int32 → wS → Prop} (F : CallFix p m c cL_state 3 s args wz_L_state RL) (hr : meth.sig.returnType = (some .int)) (hlocks : meth.locks = false) (hK : wK D cy A s) (hl0 : l.stackTraces = false) (htab : c.exceptionTable.toList.map xhF = [(0, 8, 11, 20)]) : ∀ {S : wS} {H : Heap} {locs : List Loc} {ls : Array Slot} {a0 : Nat} {a1 : Nat}, wp_L_state_0 D post S a0 a1 → wO D cy X A s.heap S H locs → wX D S0 S → lv_has ls 3 [(0, .ref a0), (1, .ref a1)] → wM D S a0 → sK S a0 = 16 → wM D S a1 → sK S a1 = 22 → W p l e r_L_state s m args below meth c H locs 0 0 (vx_MQ below (va_Qi (fun r S9 => wX D S0 S9 ∧ post r S9) (wB D cy X A) A) (wEx D cy X A (fun _ _ => False)) args s 1 6 A) (F0 m 0 ls []) := by
  obtain ⟨hx, hb, hml, hown, hts⟩ := id F
  have hwg : ∀ w ∈ WG, w.before args s = true := fun w h => hts w (List.mem_cons_of_mem _ h)
  intro S H locs ls a0 a1 hp hW hE hl hL_a0 hK_a0 hL_a1 hK_a1
  unfold wp_L_state_0 at hp
  refine lv_aload_n hx hb dL_state_0 rfl (lv_at hl 1 rfl) ?_
  refine lv_iconst (v := 0) hx hb dL_state_1 (by decide) ?_
  refine lv_aload_n hx hb dL_state_2 rfl (lv_at hl 0 rfl) ?_
  refine x_callI (vx_runV (As := []) (rest := [.int (0 : Int32), .ref a1]) F (c_X11_state l hl0 hL_a0 hK_a0 hp H.size) (cwV (C := RX11) 0 hts (wg_V wm_RL_72 wy_X11_state) rfl rfl rfl (by decide +kernel) ⟨Nat.le_of_ble_eq_true rfl, Nat.le_of_ble_eq_true rfl⟩) (w_preV hK hW hL_a0 hK_a0 (by decide) rfl) rfl rfl hl.1 rfl (lv_room (Nat.le_of_ble_eq_true rfl)) dL_state_3 ⟨Nat.le_of_ble_eq_true rfl, Nat.le_of_ble_eq_true rfl⟩) hW (fun E ce q9 S9 H locs hp hW h1 h2 h3 => ?_) (fun r_1 S_2 H locs hp hW => ?_)
  · obtain ⟨hX_9, hp⟩ := hp
    have hE := hE.trans hX_9
    obtain ⟨z0, htl, ez0⟩ := x_tab1 htab
    rcases hp with ⟨hEe, hp⟩
    · subst hEe
      refine x_catch (nm := "java/lang/IllegalStateException") F hK [] z0 [] (by rw [htl]; rfl) ez0 (by decide) (by decide) (fun z hz => nomatch hz) (hwg _ wc_RL_20) (by decide +kernel) h1 h2 h3 ?_
      refine W.widen (k := 1) (n := 6) (by decide) (by decide) ?_
      refine lv_astore_n (lv' := [(2, .ref q9), (0, .ref a0), (1, .ref a1)]) hx hb dL_state_11 rfl hl (by decide) rfl (fun ls hl => ?_)
      refine lv_iconst (v := 1) hx hb dL_state_12 (by decide) ?_
      refine vx_ret ?_
      exact w_iret hx hb hr hlocks hW ⟨hE, hp⟩ dL_state_13
  · obtain ⟨hX_S_2, hp⟩ := hp
    refine W.widen (k := 1) (n := 6) (by decide) (by decide) ?_
    have hE := hE.trans hX_S_2
    have hK_a0 : sK S_2 a0 = 16 := (hX_S_2.2 a0 hL_a0).1.trans hK_a0
    have hL_a0 : wM D S_2 a0 := hX_S_2.M hL_a0
    have hK_a1 : sK S_2 a1 = 22 := (hX_S_2.2 a1 hL_a1).1.trans hK_a1
    have hL_a1 : wM D S_2 a1 := hX_S_2.M hL_a1
    refine lv_i2l (v := (Int32.toInt64 r_1)) hx hb dL_state_6 rfl ?_
    obtain ⟨h_3m, h_3, hp⟩ := hp
    refine w_lst F hK hW h_3m hK_a1 h_3 dL_state_7 (fun H locs hW => ?_)
    obtain ⟨S_4, eS_4⟩ : ∃ z : wS, z = uJ S_2 a1 ((0 : Int32)).toNatClampNeg (Int32.toInt64 r_1) := ⟨_, rfl⟩
    rw [← eS_4] at hW
    replace hp := hp S_4 eS_4
    have hX_S_4 : wX D S_2 S_4 := by rw [eS_4]; exact wX_uJ
    have hE := hE.trans hX_S_4
    have hK_a0 : sK S_4 a0 = 16 := (hX_S_4.2 a0 hL_a0).1.trans hK_a0
    have hL_a0 : wM D S_4 a0 := hX_S_4.M hL_a0
    have hK_a1 : sK S_4 a1 = 22 := (hX_S_4.2 a1 hL_a1).1.trans hK_a1
    have hL_a1 : wM D S_4 a1 := hX_S_4.M hL_a1
    refine lv_goto (tgt := 14) hx hb dL_state_8 (by decide) ?_
    refine lv_iconst (v := 0) hx hb dL_state_14 (by decide) ?_
    refine vx_ret ?_
    exact w_iret hx hb hr hlocks hW ⟨hE, hp⟩ dL_state_15
set_option maxHeartbeats 4000000 in
set_option maxRecDepth 100000 in
theorem c_L_state (l : Launch) {D : wD} {cy : Nat → ClassId} {X : va_W} {S0 : wS} {post : Int32 → wS → Prop} (hl0 : l.stackTraces = false) {a0 : Nat} {a1 : Nat} (hL_a0 : wM D S0 a0) (hK_a0 : sK S0 a0 = 16) (hL_a1 : wM D S0 a1) (hK_a1 : sK S0 a1 = 22) (hp : wp_L_state D post S0 a0 a1) : xI D cy X l yL_state wz_L_state r_L_state [.ref a0, .ref a1] S0 (fun r S9 => wX D S0 S9 ∧ post r S9) (fun _ _ => False) := by
  intro sz
  refine vx_ofWH (hh := [(0, 8, 11, 20)]) (cc := cL_state) (maxL := 3) (ret := (some .int)) (by decide) rfl ?_
  intro p e s m args below meth c s₁ B hml hv
  obtain ⟨rfl, hsz, hP, hK, hD0, hRO⟩ := hv
  have hts := atoms_spec (ws := wz_L_state) B.pre
  have hown : s.vm.findClass RL = some m.cls := findClass_of_methodNamed B.named
  subst hsz
  have hD := hD0.self (sz := s.heap.size)
  have F : CallFix p m c cL_state 3 s _ wz_L_state RL := ⟨B.exec, B.bytes, hml, hown, hts⟩
  have htab : c.exceptionTable.toList.map xhF = [(0, 8, 11, 20)] := by
    obtain ⟨m9, meth9, c9, g0, g1, g2, -, -, g3, -⟩ := Cond.codeWith_spec (hts _ List.mem_cons_self)
    cases Option.some.inj (g0.symm.trans B.named)
    cases Option.some.inj (g1.symm.trans B.method)
    cases Option.some.inj (g2.symm.trans (Stand.of_body B).code)
    exact g3
  have hr := B.returns
  have hlocks := B.notSynchronized
  generalize hAe : va_A (wL cy X S0) s.heap.size = A at hD hK ⊢
  have hA : ∀ q, s.heap.size ≤ q → A q := fun q h => by rw [← hAe]; exact Or.inr h
  have hW : wO D cy X A s.heap S0 s.heap [] := ⟨hP, hD, va_S.rf, hA, hRO⟩
  have hl := lv_entry ([.ref a0, .ref a1]) (n := 3) (Nat.le_of_ble_eq_true rfl)
  rw [lg_entry_eq]
  generalize (lg_sl ([.ref a0, .ref a1]) ++ List.replicate (3 - (lg_sl ([.ref a0, .ref a1])).length) Slot.unset).toArray = ls at hl ⊢
  have hl : lv_has ls 3 [(0, .ref a0), (1, .ref a1)] := hl
  unfold wp_L_state at hp
  exact t_L_state_0 F hr hlocks hK hl0 htab hp hW wX.rf (lv_sub hl [0, 1] rfl) hL_a0 hK_a0 hL_a1 hK_a1
def wp_L_countMoves_0 (D : wD) (post : Int32 → wS → Prop)  (S : wS) (a0 : Nat) (x1 : Int32) (x2 : Int32) (a3 : Nat) : Prop :=
wp_X11_countMoves D (fun r_1 S_2 => 
a3 ∈ sL S_2 ∧ vp_in (0 : Int32) (sN S_2 a3) ∧
∀ S_4 : wS, S_4 = uJ S_2 a3 ((0 : Int32)).toNatClampNeg (Int32.toInt64 r_1) →
post (0 : Int32) S_4) (fun E_9 S9 => (E_9 = "java/lang/IllegalArgumentException" ∧ post (1 : Int32) S9) ∨ (E_9 = "java/lang/IllegalStateException" ∧ post (2 : Int32) S9)) S a0 x1 x2
abbrev r_L_countMoves : Room := { frames := 8, cells := 1, slots := 6, locals := 217 }
def wp_L_countMoves (D : wD) (post : Int32 → wS → Prop) (S : wS) (a0 : Nat) (x1 : Int32) (x2 : Int32) (a3 : Nat) : Prop := wp_L_countMoves_0 D post S a0 x1 x2 a3
set_option maxHeartbeats 4000000 in
set_option maxRecDepth 100000 in
theorem t_L_countMoves_0 {p : Program} {l : Launch} {e : Env} {s : State} {m : MethodId} {args : Array Value} {below : List Frame} {meth : Method} {c : Code} {D : wD} {cy : Nat → ClassId} {X : va_W} {A : Nat → Prop} {S0 : wS} {post : Int32 → wS → Prop} (F : CallFix p m c cL_countMoves 5 s args wz_L_countMoves RL) (hr : meth.sig.returnType = (some .int)) (hlocks : meth.locks = false) (hK : wK D cy A s) (hl0 : l.stackTraces = false) (htab : c.exceptionTable.toList.map xhF = [(0, 10, 13, 13), (0, 10, 17, 20)]) : ∀ {S : wS} {H : Heap} {locs : List Loc} {ls : Array Slot} {a0 : Nat} {x1 : Int32} {x2 : Int32} {a3 : Nat}, wp_L_countMoves_0 D post S a0 x1 x2 a3 → wO D cy X A s.heap S H locs → wX D S0 S → lv_has ls 5 [(0, .ref a0), (1, .int x1), (2, .int x2), (3, .ref a3)] → wM D S a0 → sK S a0 = 16 → wM D S a3 → sK S a3 = 22 → W p l e r_L_countMoves s m args below meth c H locs 0 0 (vx_MQ below (va_Qi (fun r S9 => wX D S0 S9 ∧ post r S9) (wB D cy X A) A) (wEx D cy X A (fun _ _ => False)) args s 1 6 A) (F0 m 0 ls []) := by
  obtain ⟨hx, hb, hml, hown, hts⟩ := id F
  have hwg : ∀ w ∈ WG, w.before args s = true := fun w h => hts w (List.mem_cons_of_mem _ h)
  intro S H locs ls a0 x1 x2 a3 hp hW hE hl hL_a0 hK_a0 hL_a3 hK_a3
  unfold wp_L_countMoves_0 at hp
  refine lv_aload_n hx hb dL_countMoves_0 rfl (lv_at hl 3 rfl) ?_
  refine lv_iconst (v := 0) hx hb dL_countMoves_1 (by decide) ?_
  refine lv_aload_n hx hb dL_countMoves_2 rfl (lv_at hl 0 rfl) ?_
  refine lv_iload_n hx hb dL_countMoves_3 rfl (lv_at hl 1 rfl) ?_
  refine lv_iload_n hx hb dL_countMoves_4 rfl (lv_at hl 2 rfl) ?_
  refine x_callI (vx_runV (As := [.int x1, .int x2]) (rest := [.int (0 : Int32), .ref a3]) F (c_X11_countMoves l hl0 hL_a0 hK_a0 hp H.size) (cwV (C := RX11) 2 hts (wg_V wm_RL_75 wy_X11_countMoves) rfl rfl rfl (by decide +kernel) ⟨Nat.le_of_ble_eq_true rfl, Nat.le_of_ble_eq_true rfl⟩) (w_preV hK hW hL_a0 hK_a0 (by decide) rfl) rfl rfl hl.1 rfl (lv_room (Nat.le_of_ble_eq_true rfl)) dL_countMoves_5 ⟨Nat.le_of_ble_eq_true rfl, Nat.le_of_ble_eq_true rfl⟩) hW (fun E ce q9 S9 H locs hp hW h1 h2 h3 => ?_) (fun r_1 S_2 H locs hp hW => ?_)
  · obtain ⟨hX_9, hp⟩ := hp
    have hE := hE.trans hX_9
    obtain ⟨z0, z1, htl, ez0, ez1⟩ := x_tab2 htab
    rcases hp with ⟨hEe, hp⟩ | ⟨hEe, hp⟩
    · subst hEe
      refine x_catch (nm := "java/lang/IllegalArgumentException") F hK [] z0 [z1] (by rw [htl]; rfl) ez0 (by decide) (by decide) (fun z hz => nomatch hz) (hwg _ wc_RL_13) (by decide +kernel) h1 h2 h3 ?_
      refine W.widen (k := 1) (n := 6) (by decide) (by decide) ?_
      refine lv_astore (lv' := [(4, .ref q9), (0, .ref a0), (1, .int x1), (2, .int x2), (3, .ref a3)]) hx hb dL_countMoves_13 hl (by decide) rfl (fun ls hl => ?_)
      refine lv_iconst (v := 1) hx hb dL_countMoves_15 (by decide) ?_
      refine vx_ret ?_
      exact w_iret hx hb hr hlocks hW ⟨hE, hp⟩ dL_countMoves_16
    · subst hEe
      refine x_catch (nm := "java/lang/IllegalStateException") F hK [z0] z1 [] (by rw [htl]; rfl) ez1 (by decide) (by decide) (fun z hz => by
          simp only [List.mem_cons, List.not_mem_nil, or_false] at hz
          rcases hz with hz
          · rw [hz]; exact ⟨by rw [show z0.catchType = 13 from congrArg (fun q => q.2.2.2) ez0]; decide, "java/lang/IllegalArgumentException", by rw [show z0.catchType = 13 from congrArg (fun q => q.2.2.2) ez0]; exact hwg _ wc_RL_13, by decide +kernel⟩) (hwg _ wc_RL_20) (by decide +kernel) h1 h2 h3 ?_
      refine W.widen (k := 1) (n := 6) (by decide) (by decide) ?_
      refine lv_astore (lv' := [(4, .ref q9), (0, .ref a0), (1, .int x1), (2, .int x2), (3, .ref a3)]) hx hb dL_countMoves_17 hl (by decide) rfl (fun ls hl => ?_)
      refine lv_iconst (v := 2) hx hb dL_countMoves_19 (by decide) ?_
      refine vx_ret ?_
      exact w_iret hx hb hr hlocks hW ⟨hE, hp⟩ dL_countMoves_20
  · obtain ⟨hX_S_2, hp⟩ := hp
    refine W.widen (k := 1) (n := 6) (by decide) (by decide) ?_
    have hE := hE.trans hX_S_2
    have hK_a0 : sK S_2 a0 = 16 := (hX_S_2.2 a0 hL_a0).1.trans hK_a0
    have hL_a0 : wM D S_2 a0 := hX_S_2.M hL_a0
    have hK_a3 : sK S_2 a3 = 22 := (hX_S_2.2 a3 hL_a3).1.trans hK_a3
    have hL_a3 : wM D S_2 a3 := hX_S_2.M hL_a3
    refine lv_i2l (v := (Int32.toInt64 r_1)) hx hb dL_countMoves_8 rfl ?_
    obtain ⟨h_3m, h_3, hp⟩ := hp
    refine w_lst F hK hW h_3m hK_a3 h_3 dL_countMoves_9 (fun H locs hW => ?_)
    obtain ⟨S_4, eS_4⟩ : ∃ z : wS, z = uJ S_2 a3 ((0 : Int32)).toNatClampNeg (Int32.toInt64 r_1) := ⟨_, rfl⟩
    rw [← eS_4] at hW
    replace hp := hp S_4 eS_4
    have hX_S_4 : wX D S_2 S_4 := by rw [eS_4]; exact wX_uJ
    have hE := hE.trans hX_S_4
    have hK_a0 : sK S_4 a0 = 16 := (hX_S_4.2 a0 hL_a0).1.trans hK_a0
    have hL_a0 : wM D S_4 a0 := hX_S_4.M hL_a0
    have hK_a3 : sK S_4 a3 = 22 := (hX_S_4.2 a3 hL_a3).1.trans hK_a3
    have hL_a3 : wM D S_4 a3 := hX_S_4.M hL_a3
    refine lv_goto (tgt := 21) hx hb dL_countMoves_10 (by decide) ?_
    refine lv_iconst (v := 0) hx hb dL_countMoves_21 (by decide) ?_
    refine vx_ret ?_
    exact w_iret hx hb hr hlocks hW ⟨hE, hp⟩ dL_countMoves_22
set_option maxHeartbeats 4000000 in
set_option maxRecDepth 100000 in
theorem c_L_countMoves (l : Launch) {D : wD} {cy : Nat → ClassId} {X : va_W} {S0 : wS} {post : Int32 → wS → Prop} (hl0 : l.stackTraces = false) {a0 : Nat} {x1 : Int32} {x2 : Int32} {a3 : Nat} (hL_a0 : wM D S0 a0) (hK_a0 : sK S0 a0 = 16) (hL_a3 : wM D S0 a3) (hK_a3 : sK S0 a3 = 22) (hp : wp_L_countMoves D post S0 a0 x1 x2 a3) : xI D cy X l yL_countMoves wz_L_countMoves r_L_countMoves [.ref a0, .int x1, .int x2, .ref a3] S0 (fun r S9 => wX D S0 S9 ∧ post r S9) (fun _ _ => False) := by
  intro sz
  refine vx_ofWH (hh := [(0, 10, 13, 13), (0, 10, 17, 20)]) (cc := cL_countMoves) (maxL := 5) (ret := (some .int)) (by decide) rfl ?_
  intro p e s m args below meth c s₁ B hml hv
  obtain ⟨rfl, hsz, hP, hK, hD0, hRO⟩ := hv
  have hts := atoms_spec (ws := wz_L_countMoves) B.pre
  have hown : s.vm.findClass RL = some m.cls := findClass_of_methodNamed B.named
  subst hsz
  have hD := hD0.self (sz := s.heap.size)
  have F : CallFix p m c cL_countMoves 5 s _ wz_L_countMoves RL := ⟨B.exec, B.bytes, hml, hown, hts⟩
  have htab : c.exceptionTable.toList.map xhF = [(0, 10, 13, 13), (0, 10, 17, 20)] := by
    obtain ⟨m9, meth9, c9, g0, g1, g2, -, -, g3, -⟩ := Cond.codeWith_spec (hts _ List.mem_cons_self)
    cases Option.some.inj (g0.symm.trans B.named)
    cases Option.some.inj (g1.symm.trans B.method)
    cases Option.some.inj (g2.symm.trans (Stand.of_body B).code)
    exact g3
  have hr := B.returns
  have hlocks := B.notSynchronized
  generalize hAe : va_A (wL cy X S0) s.heap.size = A at hD hK ⊢
  have hA : ∀ q, s.heap.size ≤ q → A q := fun q h => by rw [← hAe]; exact Or.inr h
  have hW : wO D cy X A s.heap S0 s.heap [] := ⟨hP, hD, va_S.rf, hA, hRO⟩
  have hl := lv_entry ([.ref a0, .int x1, .int x2, .ref a3]) (n := 5) (Nat.le_of_ble_eq_true rfl)
  rw [lg_entry_eq]
  generalize (lg_sl ([.ref a0, .int x1, .int x2, .ref a3]) ++ List.replicate (5 - (lg_sl ([.ref a0, .int x1, .int x2, .ref a3])).length) Slot.unset).toArray = ls at hl ⊢
  have hl : lv_has ls 5 [(0, .ref a0), (1, .int x1), (2, .int x2), (3, .ref a3)] := hl
  unfold wp_L_countMoves at hp
  exact t_L_countMoves_0 F hr hlocks hK hl0 htab hp hW wX.rf (lv_sub hl [0, 1, 2, 3] rfl) hL_a0 hK_a0 hL_a3 hK_a3
def wp_L_type_0 (D : wD) (post : Int32 → wS → Prop)  (bc bs : Nat) (S : wS) (a0 : Nat) (x1 : Int64) (a3 : Nat) : Prop :=
∃ m_3 z_4 : Nat, m_3 ≤ bc ∧ z_4 ≤ bs ∧
wp_X11_type D (fun r_1 S_2 => 
a3 ∈ sL S_2 ∧ vp_in (0 : Int32) (sN S_2 a3) ∧
∀ S_6 : wS, S_6 = uJ S_2 a3 ((0 : Int32)).toNatClampNeg (Int32.toInt64 r_1) →
post (0 : Int32) S_6) (fun E_9 S9 => (E_9 = "java/lang/IllegalArgumentException" ∧ post (1 : Int32) S9) ∨ (E_9 = "java/lang/IllegalStateException" ∧ post (2 : Int32) S9)) m_3 z_4 S a0 x1
abbrev r_L_type (rC rS : Nat) : Room := { frames := 9, cells := rC, slots := rS, locals := 204 }
def wp_L_type (D : wD) (post : Int32 → wS → Prop) (bc bs : Nat) (S : wS) (a0 : Nat) (x1 : Int64) (a3 : Nat) : Prop := wp_L_type_0 D post bc bs S a0 x1 a3
set_option maxHeartbeats 4000000 in
set_option maxRecDepth 100000 in
theorem t_L_type_0 {p : Program} {l : Launch} {e : Env} {s : State} {m : MethodId} {args : Array Value} {below : List Frame} {meth : Method} {c : Code} {D : wD} {cy : Nat → ClassId} {X : va_W} {A : Nat → Prop} {S0 : wS} {rC rS : Nat} {post : Int32 → wS → Prop} (F : CallFix p m c cL_type 5 s args wz_L_type RL) (hr : meth.sig.returnType = (some .int)) (hlocks : meth.locks = false) (hK : wK D cy A s) (hl0 : l.stackTraces = false) (htab : c.exceptionTable.toList.map xhF = [(0, 9, 12, 13), (0, 9, 16, 20)]) : ∀ {bc bs cells slots : Nat} (hbc : cells + bc ≤ rC) (hbs : slots + bs ≤ rS) {S : wS} {H : Heap} {locs : List Loc} {ls : Array Slot} {a0 : Nat} {x1 : Int64} {a3 : Nat}, wp_L_type_0 D post bc bs S a0 x1 a3 → wO D cy X A s.heap S H locs → wX D S0 S → lv_has ls 5 [(0, .ref a0), (1, .long x1), (3, .ref a3)] → wM D S a0 → sK S a0 = 16 → wM D S a3 → sK S a3 = 22 → W p l e (r_L_type rC rS) s m args below meth c H locs cells slots (vx_MQ below (va_Qi (fun r S9 => wX D S0 S9 ∧ post r S9) (wB D cy X A) A) (wEx D cy X A (fun _ _ => False)) args s rC rS A) (F0 m 0 ls []) := by
  obtain ⟨hx, hb, hml, hown, hts⟩ := id F
  have hwg : ∀ w ∈ WG, w.before args s = true := fun w h => hts w (List.mem_cons_of_mem _ h)
  intro bc bs cells slots hbc hbs S H locs ls a0 x1 a3 hp hW hE hl hL_a0 hK_a0 hL_a3 hK_a3
  unfold wp_L_type_0 at hp
  refine lv_aload_n hx hb dL_type_0 rfl (lv_at hl 2 rfl) ?_
  refine lv_iconst (v := 0) hx hb dL_type_1 (by decide) ?_
  refine lv_aload_n hx hb dL_type_2 rfl (lv_at hl 0 rfl) ?_
  refine lv_lload_n hx hb dL_type_3 rfl (lv_at hl 1 rfl) ?_
  obtain ⟨m_3, z_4, hm_3, hz_4, hp⟩ := hp
  refine x_callI (vx_runV (As := [.long x1]) (rest := [.int (0 : Int32), .ref a3]) F (c_X11_type l hl0 hL_a0 hK_a0 hp H.size) (cwV (C := RX11) 1 hts (wg_V wm_RL_79 wy_X11_type) rfl rfl rfl (by decide +kernel) ⟨Nat.le_of_ble_eq_true rfl, Nat.le_of_ble_eq_true rfl⟩) (w_preV hK hW hL_a0 hK_a0 (by decide) rfl) rfl rfl hl.1 rfl (lv_room (Nat.le_of_ble_eq_true rfl)) dL_type_4 ⟨by show _ + m_3 ≤ rC; omega, by show _ + z_4 ≤ rS; omega⟩) hW (fun E ce q9 S9 H locs hp hW h1 h2 h3 => ?_) (fun r_1 S_2 H locs hp hW => ?_)
  · obtain ⟨hX_9, hp⟩ := hp
    have hE := hE.trans hX_9
    obtain ⟨z0, z1, htl, ez0, ez1⟩ := x_tab2 htab
    rcases hp with ⟨hEe, hp⟩ | ⟨hEe, hp⟩
    · subst hEe
      refine x_catch (nm := "java/lang/IllegalArgumentException") F hK [] z0 [z1] (by rw [htl]; rfl) ez0 (by decide) (by decide) (fun z hz => nomatch hz) (hwg _ wc_RL_13) (by decide +kernel) h1 h2 h3 ?_
      refine W.widen (k := rC) (n := rS) (by show _ + m_3 ≤ rC; omega) (by show _ + z_4 ≤ rS; omega) ?_
      refine lv_astore (lv' := [(4, .ref q9), (0, .ref a0), (1, .long x1), (3, .ref a3)]) hx hb dL_type_12 hl (by decide) rfl (fun ls hl => ?_)
      refine lv_iconst (v := 1) hx hb dL_type_14 (by decide) ?_
      refine vx_ret ?_
      exact w_iret hx hb hr hlocks hW ⟨hE, hp⟩ dL_type_15
    · subst hEe
      refine x_catch (nm := "java/lang/IllegalStateException") F hK [z0] z1 [] (by rw [htl]; rfl) ez1 (by decide) (by decide) (fun z hz => by
          simp only [List.mem_cons, List.not_mem_nil, or_false] at hz
          rcases hz with hz
          · rw [hz]; exact ⟨by rw [show z0.catchType = 13 from congrArg (fun q => q.2.2.2) ez0]; decide, "java/lang/IllegalArgumentException", by rw [show z0.catchType = 13 from congrArg (fun q => q.2.2.2) ez0]; exact hwg _ wc_RL_13, by decide +kernel⟩) (hwg _ wc_RL_20) (by decide +kernel) h1 h2 h3 ?_
      refine W.widen (k := rC) (n := rS) (by show _ + m_3 ≤ rC; omega) (by show _ + z_4 ≤ rS; omega) ?_
      refine lv_astore (lv' := [(4, .ref q9), (0, .ref a0), (1, .long x1), (3, .ref a3)]) hx hb dL_type_16 hl (by decide) rfl (fun ls hl => ?_)
      refine lv_iconst (v := 2) hx hb dL_type_18 (by decide) ?_
      refine vx_ret ?_
      exact w_iret hx hb hr hlocks hW ⟨hE, hp⟩ dL_type_19
  · obtain ⟨hX_S_2, hp⟩ := hp
    refine W.widen (k := _ + m_3) (n := _ + z_4) (Nat.le_refl _) (Nat.le_refl _) ?_
    replace hbc := w_spend hbc (show m_3 ≤ bc by omega)
    replace hbs := w_spend hbs (show z_4 ≤ bs by omega)
    have hE := hE.trans hX_S_2
    have hK_a0 : sK S_2 a0 = 16 := (hX_S_2.2 a0 hL_a0).1.trans hK_a0
    have hL_a0 : wM D S_2 a0 := hX_S_2.M hL_a0
    have hK_a3 : sK S_2 a3 = 22 := (hX_S_2.2 a3 hL_a3).1.trans hK_a3
    have hL_a3 : wM D S_2 a3 := hX_S_2.M hL_a3
    refine lv_i2l (v := (Int32.toInt64 r_1)) hx hb dL_type_7 rfl ?_
    obtain ⟨h_5m, h_5, hp⟩ := hp
    refine w_lst F hK hW h_5m hK_a3 h_5 dL_type_8 (fun H locs hW => ?_)
    obtain ⟨S_6, eS_6⟩ : ∃ z : wS, z = uJ S_2 a3 ((0 : Int32)).toNatClampNeg (Int32.toInt64 r_1) := ⟨_, rfl⟩
    rw [← eS_6] at hW
    replace hp := hp S_6 eS_6
    have hX_S_6 : wX D S_2 S_6 := by rw [eS_6]; exact wX_uJ
    have hE := hE.trans hX_S_6
    have hK_a0 : sK S_6 a0 = 16 := (hX_S_6.2 a0 hL_a0).1.trans hK_a0
    have hL_a0 : wM D S_6 a0 := hX_S_6.M hL_a0
    have hK_a3 : sK S_6 a3 = 22 := (hX_S_6.2 a3 hL_a3).1.trans hK_a3
    have hL_a3 : wM D S_6 a3 := hX_S_6.M hL_a3
    refine lv_goto (tgt := 20) hx hb dL_type_9 (by decide) ?_
    refine lv_iconst (v := 0) hx hb dL_type_20 (by decide) ?_
    refine W.widen (k := rC) (n := rS) (Nat.le_trans (Nat.le_add_right _ _) hbc) (Nat.le_trans (Nat.le_add_right _ _) hbs) ?_
    refine vx_ret ?_
    exact w_iret hx hb hr hlocks hW ⟨hE, hp⟩ dL_type_21
set_option maxHeartbeats 4000000 in
set_option maxRecDepth 100000 in
theorem c_L_type (l : Launch) {rC rS : Nat} {D : wD} {cy : Nat → ClassId} {X : va_W} {S0 : wS} {post : Int32 → wS → Prop} (hl0 : l.stackTraces = false) {a0 : Nat} {x1 : Int64} {a3 : Nat} (hL_a0 : wM D S0 a0) (hK_a0 : sK S0 a0 = 16) (hL_a3 : wM D S0 a3) (hK_a3 : sK S0 a3 = 22) (hp : wp_L_type D post rC rS S0 a0 x1 a3) : xI D cy X l yL_type wz_L_type (r_L_type rC rS) [.ref a0, .long x1, .ref a3] S0 (fun r S9 => wX D S0 S9 ∧ post r S9) (fun _ _ => False) := by
  intro sz
  refine vx_ofWH (hh := [(0, 9, 12, 13), (0, 9, 16, 20)]) (cc := cL_type) (maxL := 5) (ret := (some .int)) (by decide) rfl ?_
  intro p e s m args below meth c s₁ B hml hv
  obtain ⟨rfl, hsz, hP, hK, hD0, hRO⟩ := hv
  have hts := atoms_spec (ws := wz_L_type) B.pre
  have hown : s.vm.findClass RL = some m.cls := findClass_of_methodNamed B.named
  subst hsz
  have hD := hD0.self (sz := s.heap.size)
  have F : CallFix p m c cL_type 5 s _ wz_L_type RL := ⟨B.exec, B.bytes, hml, hown, hts⟩
  have htab : c.exceptionTable.toList.map xhF = [(0, 9, 12, 13), (0, 9, 16, 20)] := by
    obtain ⟨m9, meth9, c9, g0, g1, g2, -, -, g3, -⟩ := Cond.codeWith_spec (hts _ List.mem_cons_self)
    cases Option.some.inj (g0.symm.trans B.named)
    cases Option.some.inj (g1.symm.trans B.method)
    cases Option.some.inj (g2.symm.trans (Stand.of_body B).code)
    exact g3
  have hr := B.returns
  have hlocks := B.notSynchronized
  generalize hAe : va_A (wL cy X S0) s.heap.size = A at hD hK ⊢
  have hA : ∀ q, s.heap.size ≤ q → A q := fun q h => by rw [← hAe]; exact Or.inr h
  have hW : wO D cy X A s.heap S0 s.heap [] := ⟨hP, hD, va_S.rf, hA, hRO⟩
  have hl := lv_entry ([.ref a0, .long x1, .ref a3]) (n := 5) (Nat.le_of_ble_eq_true rfl)
  rw [lg_entry_eq]
  generalize (lg_sl ([.ref a0, .long x1, .ref a3]) ++ List.replicate (5 - (lg_sl ([.ref a0, .long x1, .ref a3])).length) Slot.unset).toArray = ls at hl ⊢
  have hl : lv_has ls 5 [(0, .ref a0), (1, .long x1), (3, .ref a3)] := hl
  unfold wp_L_type at hp
  exact t_L_type_0 F hr hlocks hK hl0 htab (Nat.le_of_eq (Nat.zero_add _)) (Nat.le_of_eq (Nat.zero_add _)) hp hW wX.rf (lv_sub hl [0, 1, 2] rfl) hL_a0 hK_a0 hL_a3 hK_a3
def wp_L_fault_0 (D : wD) (post : Int32 → wS → Prop)  (S : wS) (a0 : Nat) (a1 : Nat) : Prop :=
wp_X11_fault D (fun r_1 S_2 => 
a1 ∈ sL S_2 ∧ vp_in (0 : Int32) (sN S_2 a1) ∧
∀ S_4 : wS, S_4 = uJ S_2 a1 ((0 : Int32)).toNatClampNeg (Int32.toInt64 r_1) →
post (0 : Int32) S_4) (fun E_9 S9 => (E_9 = "java/lang/IllegalStateException" ∧ post (1 : Int32) S9)) S a0
abbrev r_L_fault : Room := { frames := 10, cells := 1, slots := 6, locals := 234 }
def wp_L_fault (D : wD) (post : Int32 → wS → Prop) (S : wS) (a0 : Nat) (a1 : Nat) : Prop := wp_L_fault_0 D post S a0 a1
set_option maxHeartbeats 4000000 in
set_option maxRecDepth 100000 in
theorem t_L_fault_0 {p : Program} {l : Launch} {e : Env} {s : State} {m : MethodId} {args : Array Value} {below : List Frame} {meth : Method} {c : Code} {D : wD} {cy : Nat → ClassId} {X : va_W} {A : Nat → Prop} {S0 : wS} {post : Int32 → wS → Prop} (F : CallFix p m c cL_fault 3 s args wz_L_fault RL) (hr : meth.sig.returnType = (some .int)) (hlocks : meth.locks = false) (hK : wK D cy A s) (hl0 : l.stackTraces = false) (htab : c.exceptionTable.toList.map xhF = [(0, 8, 11, 20)]) : ∀ {S : wS} {H : Heap} {locs : List Loc} {ls : Array Slot} {a0 : Nat} {a1 : Nat}, wp_L_fault_0 D post S a0 a1 → wO D cy X A s.heap S H locs → wX D S0 S → lv_has ls 3 [(0, .ref a0), (1, .ref a1)] → wM D S a0 → sK S a0 = 16 → wM D S a1 → sK S a1 = 22 → W p l e r_L_fault s m args below meth c H locs 0 0 (vx_MQ below (va_Qi (fun r S9 => wX D S0 S9 ∧ post r S9) (wB D cy X A) A) (wEx D cy X A (fun _ _ => False)) args s 1 6 A) (F0 m 0 ls []) := by
  obtain ⟨hx, hb, hml, hown, hts⟩ := id F
  have hwg : ∀ w ∈ WG, w.before args s = true := fun w h => hts w (List.mem_cons_of_mem _ h)
  intro S H locs ls a0 a1 hp hW hE hl hL_a0 hK_a0 hL_a1 hK_a1
  unfold wp_L_fault_0 at hp
  refine lv_aload_n hx hb dL_fault_0 rfl (lv_at hl 1 rfl) ?_
  refine lv_iconst (v := 0) hx hb dL_fault_1 (by decide) ?_
  refine lv_aload_n hx hb dL_fault_2 rfl (lv_at hl 0 rfl) ?_
  refine x_callI (vx_runV (As := []) (rest := [.int (0 : Int32), .ref a1]) F (c_X11_fault l hl0 hL_a0 hK_a0 hp H.size) (cwV (C := RX11) 0 hts (wg_V wm_RL_83 wy_X11_fault) rfl rfl rfl (by decide +kernel) ⟨Nat.le_of_ble_eq_true rfl, Nat.le_of_ble_eq_true rfl⟩) (w_preV hK hW hL_a0 hK_a0 (by decide) rfl) rfl rfl hl.1 rfl (lv_room (Nat.le_of_ble_eq_true rfl)) dL_fault_3 ⟨Nat.le_of_ble_eq_true rfl, Nat.le_of_ble_eq_true rfl⟩) hW (fun E ce q9 S9 H locs hp hW h1 h2 h3 => ?_) (fun r_1 S_2 H locs hp hW => ?_)
  · obtain ⟨hX_9, hp⟩ := hp
    have hE := hE.trans hX_9
    obtain ⟨z0, htl, ez0⟩ := x_tab1 htab
    rcases hp with ⟨hEe, hp⟩
    · subst hEe
      refine x_catch (nm := "java/lang/IllegalStateException") F hK [] z0 [] (by rw [htl]; rfl) ez0 (by decide) (by decide) (fun z hz => nomatch hz) (hwg _ wc_RL_20) (by decide +kernel) h1 h2 h3 ?_
      refine W.widen (k := 1) (n := 6) (by decide) (by decide) ?_
      refine lv_astore_n (lv' := [(2, .ref q9), (0, .ref a0), (1, .ref a1)]) hx hb dL_fault_11 rfl hl (by decide) rfl (fun ls hl => ?_)
      refine lv_iconst (v := 1) hx hb dL_fault_12 (by decide) ?_
      refine vx_ret ?_
      exact w_iret hx hb hr hlocks hW ⟨hE, hp⟩ dL_fault_13
  · obtain ⟨hX_S_2, hp⟩ := hp
    refine W.widen (k := 1) (n := 6) (by decide) (by decide) ?_
    have hE := hE.trans hX_S_2
    have hK_a0 : sK S_2 a0 = 16 := (hX_S_2.2 a0 hL_a0).1.trans hK_a0
    have hL_a0 : wM D S_2 a0 := hX_S_2.M hL_a0
    have hK_a1 : sK S_2 a1 = 22 := (hX_S_2.2 a1 hL_a1).1.trans hK_a1
    have hL_a1 : wM D S_2 a1 := hX_S_2.M hL_a1
    refine lv_i2l (v := (Int32.toInt64 r_1)) hx hb dL_fault_6 rfl ?_
    obtain ⟨h_3m, h_3, hp⟩ := hp
    refine w_lst F hK hW h_3m hK_a1 h_3 dL_fault_7 (fun H locs hW => ?_)
    obtain ⟨S_4, eS_4⟩ : ∃ z : wS, z = uJ S_2 a1 ((0 : Int32)).toNatClampNeg (Int32.toInt64 r_1) := ⟨_, rfl⟩
    rw [← eS_4] at hW
    replace hp := hp S_4 eS_4
    have hX_S_4 : wX D S_2 S_4 := by rw [eS_4]; exact wX_uJ
    have hE := hE.trans hX_S_4
    have hK_a0 : sK S_4 a0 = 16 := (hX_S_4.2 a0 hL_a0).1.trans hK_a0
    have hL_a0 : wM D S_4 a0 := hX_S_4.M hL_a0
    have hK_a1 : sK S_4 a1 = 22 := (hX_S_4.2 a1 hL_a1).1.trans hK_a1
    have hL_a1 : wM D S_4 a1 := hX_S_4.M hL_a1
    refine lv_goto (tgt := 14) hx hb dL_fault_8 (by decide) ?_
    refine lv_iconst (v := 0) hx hb dL_fault_14 (by decide) ?_
    refine vx_ret ?_
    exact w_iret hx hb hr hlocks hW ⟨hE, hp⟩ dL_fault_15
set_option maxHeartbeats 4000000 in
set_option maxRecDepth 100000 in
theorem c_L_fault (l : Launch) {D : wD} {cy : Nat → ClassId} {X : va_W} {S0 : wS} {post : Int32 → wS → Prop} (hl0 : l.stackTraces = false) {a0 : Nat} {a1 : Nat} (hL_a0 : wM D S0 a0) (hK_a0 : sK S0 a0 = 16) (hL_a1 : wM D S0 a1) (hK_a1 : sK S0 a1 = 22) (hp : wp_L_fault D post S0 a0 a1) : xI D cy X l yL_fault wz_L_fault r_L_fault [.ref a0, .ref a1] S0 (fun r S9 => wX D S0 S9 ∧ post r S9) (fun _ _ => False) := by
  intro sz
  refine vx_ofWH (hh := [(0, 8, 11, 20)]) (cc := cL_fault) (maxL := 3) (ret := (some .int)) (by decide) rfl ?_
  intro p e s m args below meth c s₁ B hml hv
  obtain ⟨rfl, hsz, hP, hK, hD0, hRO⟩ := hv
  have hts := atoms_spec (ws := wz_L_fault) B.pre
  have hown : s.vm.findClass RL = some m.cls := findClass_of_methodNamed B.named
  subst hsz
  have hD := hD0.self (sz := s.heap.size)
  have F : CallFix p m c cL_fault 3 s _ wz_L_fault RL := ⟨B.exec, B.bytes, hml, hown, hts⟩
  have htab : c.exceptionTable.toList.map xhF = [(0, 8, 11, 20)] := by
    obtain ⟨m9, meth9, c9, g0, g1, g2, -, -, g3, -⟩ := Cond.codeWith_spec (hts _ List.mem_cons_self)
    cases Option.some.inj (g0.symm.trans B.named)
    cases Option.some.inj (g1.symm.trans B.method)
    cases Option.some.inj (g2.symm.trans (Stand.of_body B).code)
    exact g3
  have hr := B.returns
  have hlocks := B.notSynchronized
  generalize hAe : va_A (wL cy X S0) s.heap.size = A at hD hK ⊢
  have hA : ∀ q, s.heap.size ≤ q → A q := fun q h => by rw [← hAe]; exact Or.inr h
  have hW : wO D cy X A s.heap S0 s.heap [] := ⟨hP, hD, va_S.rf, hA, hRO⟩
  have hl := lv_entry ([.ref a0, .ref a1]) (n := 3) (Nat.le_of_ble_eq_true rfl)
  rw [lg_entry_eq]
  generalize (lg_sl ([.ref a0, .ref a1]) ++ List.replicate (3 - (lg_sl ([.ref a0, .ref a1])).length) Slot.unset).toArray = ls at hl ⊢
  have hl : lv_has ls 3 [(0, .ref a0), (1, .ref a1)] := hl
  unfold wp_L_fault at hp
  exact t_L_fault_0 F hr hlocks hK hl0 htab hp hW wX.rf (lv_sub hl [0, 1] rfl) hL_a0 hK_a0 hL_a1 hK_a1
def wp_L_readMoves_0 (D : wD) (post : Int32 → wS → Prop)  (bc bs : Nat) (S : wS) (a0 : Nat) (a1 : Nat) : Prop :=
∃ m_3 z_4 : Nat, m_3 ≤ bc ∧ z_4 ≤ bs ∧
wp_X11_readMoves D (fun r_1 S_2 => 
a1 ∈ sL S_2 ∧ vp_in (0 : Int32) (sN S_2 a1) ∧
∀ S_6 : wS, S_6 = uJ S_2 a1 ((0 : Int32)).toNatClampNeg (Int32.toInt64 r_1) →
post (0 : Int32) S_6) (fun E_9 S9 => (E_9 = "java/lang/IllegalStateException" ∧ post (1 : Int32) S9) ∨ (E_9 = "java/lang/IllegalArgumentException" ∧ post (2 : Int32) S9)) m_3 z_4 S a0
abbrev r_L_readMoves (rC rS : Nat) : Room := { frames := 17, cells := rC, slots := rS, locals := 378 }
def wp_L_readMoves (D : wD) (post : Int32 → wS → Prop) (bc bs : Nat) (S : wS) (a0 : Nat) (a1 : Nat) : Prop := wp_L_readMoves_0 D post bc bs S a0 a1
set_option maxHeartbeats 4000000 in
set_option maxRecDepth 100000 in
theorem t_L_readMoves_0 {p : Program} {l : Launch} {e : Env} {s : State} {m : MethodId} {args : Array Value} {below : List Frame} {meth : Method} {c : Code} {D : wD} {cy : Nat → ClassId} {X : va_W} {A : Nat → Prop} {S0 : wS} {rC rS : Nat} {post : Int32 → wS → Prop} (F : CallFix p m c cL_readMoves 3 s args wz_L_readMoves RL) (hr : meth.sig.returnType = (some .int)) (hlocks : meth.locks = false) (hK : wK D cy A s) (hl0 : l.stackTraces = false) (htab : c.exceptionTable.toList.map xhF = [(0, 8, 11, 20), (0, 8, 14, 13)]) : ∀ {bc bs cells slots : Nat} (hbc : cells + bc ≤ rC) (hbs : slots + bs ≤ rS) {S : wS} {H : Heap} {locs : List Loc} {ls : Array Slot} {a0 : Nat} {a1 : Nat}, wp_L_readMoves_0 D post bc bs S a0 a1 → wO D cy X A s.heap S H locs → wX D S0 S → lv_has ls 3 [(0, .ref a0), (1, .ref a1)] → wM D S a0 → sK S a0 = 16 → wM D S a1 → sK S a1 = 22 → W p l e (r_L_readMoves rC rS) s m args below meth c H locs cells slots (vx_MQ below (va_Qi (fun r S9 => wX D S0 S9 ∧ post r S9) (wB D cy X A) A) (wEx D cy X A (fun _ _ => False)) args s rC rS A) (F0 m 0 ls []) := by
  obtain ⟨hx, hb, hml, hown, hts⟩ := id F
  have hwg : ∀ w ∈ WG, w.before args s = true := fun w h => hts w (List.mem_cons_of_mem _ h)
  intro bc bs cells slots hbc hbs S H locs ls a0 a1 hp hW hE hl hL_a0 hK_a0 hL_a1 hK_a1
  unfold wp_L_readMoves_0 at hp
  refine lv_aload_n hx hb dL_readMoves_0 rfl (lv_at hl 1 rfl) ?_
  refine lv_iconst (v := 0) hx hb dL_readMoves_1 (by decide) ?_
  refine lv_aload_n hx hb dL_readMoves_2 rfl (lv_at hl 0 rfl) ?_
  obtain ⟨m_3, z_4, hm_3, hz_4, hp⟩ := hp
  refine x_callI (vx_runV (As := []) (rest := [.int (0 : Int32), .ref a1]) F (c_X11_readMoves l hl0 hL_a0 hK_a0 hp H.size) (cwV (C := RX11) 0 hts (wg_V wm_RL_86 wy_X11_readMoves) rfl rfl rfl (by decide +kernel) ⟨Nat.le_of_ble_eq_true rfl, Nat.le_of_ble_eq_true rfl⟩) (w_preV hK hW hL_a0 hK_a0 (by decide) rfl) rfl rfl hl.1 rfl (lv_room (Nat.le_of_ble_eq_true rfl)) dL_readMoves_3 ⟨by show _ + m_3 ≤ rC; omega, by show _ + z_4 ≤ rS; omega⟩) hW (fun E ce q9 S9 H locs hp hW h1 h2 h3 => ?_) (fun r_1 S_2 H locs hp hW => ?_)
  · obtain ⟨hX_9, hp⟩ := hp
    have hE := hE.trans hX_9
    obtain ⟨z0, z1, htl, ez0, ez1⟩ := x_tab2 htab
    rcases hp with ⟨hEe, hp⟩ | ⟨hEe, hp⟩
    · subst hEe
      refine x_catch (nm := "java/lang/IllegalStateException") F hK [] z0 [z1] (by rw [htl]; rfl) ez0 (by decide) (by decide) (fun z hz => nomatch hz) (hwg _ wc_RL_20) (by decide +kernel) h1 h2 h3 ?_
      refine W.widen (k := rC) (n := rS) (by show _ + m_3 ≤ rC; omega) (by show _ + z_4 ≤ rS; omega) ?_
      refine lv_astore_n (lv' := [(2, .ref q9), (0, .ref a0), (1, .ref a1)]) hx hb dL_readMoves_11 rfl hl (by decide) rfl (fun ls hl => ?_)
      refine lv_iconst (v := 1) hx hb dL_readMoves_12 (by decide) ?_
      refine vx_ret ?_
      exact w_iret hx hb hr hlocks hW ⟨hE, hp⟩ dL_readMoves_13
    · subst hEe
      refine x_catch (nm := "java/lang/IllegalArgumentException") F hK [z0] z1 [] (by rw [htl]; rfl) ez1 (by decide) (by decide) (fun z hz => by
          simp only [List.mem_cons, List.not_mem_nil, or_false] at hz
          rcases hz with hz
          · rw [hz]; exact ⟨by rw [show z0.catchType = 20 from congrArg (fun q => q.2.2.2) ez0]; decide, "java/lang/IllegalStateException", by rw [show z0.catchType = 20 from congrArg (fun q => q.2.2.2) ez0]; exact hwg _ wc_RL_20, by decide +kernel⟩) (hwg _ wc_RL_13) (by decide +kernel) h1 h2 h3 ?_
      refine W.widen (k := rC) (n := rS) (by show _ + m_3 ≤ rC; omega) (by show _ + z_4 ≤ rS; omega) ?_
      refine lv_astore_n (lv' := [(2, .ref q9), (0, .ref a0), (1, .ref a1)]) hx hb dL_readMoves_14 rfl hl (by decide) rfl (fun ls hl => ?_)
      refine lv_iconst (v := 2) hx hb dL_readMoves_15 (by decide) ?_
      refine vx_ret ?_
      exact w_iret hx hb hr hlocks hW ⟨hE, hp⟩ dL_readMoves_16
  · obtain ⟨hX_S_2, hp⟩ := hp
    refine W.widen (k := _ + m_3) (n := _ + z_4) (Nat.le_refl _) (Nat.le_refl _) ?_
    replace hbc := w_spend hbc (show m_3 ≤ bc by omega)
    replace hbs := w_spend hbs (show z_4 ≤ bs by omega)
    have hE := hE.trans hX_S_2
    have hK_a0 : sK S_2 a0 = 16 := (hX_S_2.2 a0 hL_a0).1.trans hK_a0
    have hL_a0 : wM D S_2 a0 := hX_S_2.M hL_a0
    have hK_a1 : sK S_2 a1 = 22 := (hX_S_2.2 a1 hL_a1).1.trans hK_a1
    have hL_a1 : wM D S_2 a1 := hX_S_2.M hL_a1
    refine lv_i2l (v := (Int32.toInt64 r_1)) hx hb dL_readMoves_6 rfl ?_
    obtain ⟨h_5m, h_5, hp⟩ := hp
    refine w_lst F hK hW h_5m hK_a1 h_5 dL_readMoves_7 (fun H locs hW => ?_)
    obtain ⟨S_6, eS_6⟩ : ∃ z : wS, z = uJ S_2 a1 ((0 : Int32)).toNatClampNeg (Int32.toInt64 r_1) := ⟨_, rfl⟩
    rw [← eS_6] at hW
    replace hp := hp S_6 eS_6
    have hX_S_6 : wX D S_2 S_6 := by rw [eS_6]; exact wX_uJ
    have hE := hE.trans hX_S_6
    have hK_a0 : sK S_6 a0 = 16 := (hX_S_6.2 a0 hL_a0).1.trans hK_a0
    have hL_a0 : wM D S_6 a0 := hX_S_6.M hL_a0
    have hK_a1 : sK S_6 a1 = 22 := (hX_S_6.2 a1 hL_a1).1.trans hK_a1
    have hL_a1 : wM D S_6 a1 := hX_S_6.M hL_a1
    refine lv_goto (tgt := 17) hx hb dL_readMoves_8 (by decide) ?_
    refine lv_iconst (v := 0) hx hb dL_readMoves_17 (by decide) ?_
    refine W.widen (k := rC) (n := rS) (Nat.le_trans (Nat.le_add_right _ _) hbc) (Nat.le_trans (Nat.le_add_right _ _) hbs) ?_
    refine vx_ret ?_
    exact w_iret hx hb hr hlocks hW ⟨hE, hp⟩ dL_readMoves_18
set_option maxHeartbeats 4000000 in
set_option maxRecDepth 100000 in
theorem c_L_readMoves (l : Launch) {rC rS : Nat} {D : wD} {cy : Nat → ClassId} {X : va_W} {S0 : wS} {post : Int32 → wS → Prop} (hl0 : l.stackTraces = false) {a0 : Nat} {a1 : Nat} (hL_a0 : wM D S0 a0) (hK_a0 : sK S0 a0 = 16) (hL_a1 : wM D S0 a1) (hK_a1 : sK S0 a1 = 22) (hp : wp_L_readMoves D post rC rS S0 a0 a1) : xI D cy X l yL_readMoves wz_L_readMoves (r_L_readMoves rC rS) [.ref a0, .ref a1] S0 (fun r S9 => wX D S0 S9 ∧ post r S9) (fun _ _ => False) := by
  intro sz
  refine vx_ofWH (hh := [(0, 8, 11, 20), (0, 8, 14, 13)]) (cc := cL_readMoves) (maxL := 3) (ret := (some .int)) (by decide) rfl ?_
  intro p e s m args below meth c s₁ B hml hv
  obtain ⟨rfl, hsz, hP, hK, hD0, hRO⟩ := hv
  have hts := atoms_spec (ws := wz_L_readMoves) B.pre
  have hown : s.vm.findClass RL = some m.cls := findClass_of_methodNamed B.named
  subst hsz
  have hD := hD0.self (sz := s.heap.size)
  have F : CallFix p m c cL_readMoves 3 s _ wz_L_readMoves RL := ⟨B.exec, B.bytes, hml, hown, hts⟩
  have htab : c.exceptionTable.toList.map xhF = [(0, 8, 11, 20), (0, 8, 14, 13)] := by
    obtain ⟨m9, meth9, c9, g0, g1, g2, -, -, g3, -⟩ := Cond.codeWith_spec (hts _ List.mem_cons_self)
    cases Option.some.inj (g0.symm.trans B.named)
    cases Option.some.inj (g1.symm.trans B.method)
    cases Option.some.inj (g2.symm.trans (Stand.of_body B).code)
    exact g3
  have hr := B.returns
  have hlocks := B.notSynchronized
  generalize hAe : va_A (wL cy X S0) s.heap.size = A at hD hK ⊢
  have hA : ∀ q, s.heap.size ≤ q → A q := fun q h => by rw [← hAe]; exact Or.inr h
  have hW : wO D cy X A s.heap S0 s.heap [] := ⟨hP, hD, va_S.rf, hA, hRO⟩
  have hl := lv_entry ([.ref a0, .ref a1]) (n := 3) (Nat.le_of_ble_eq_true rfl)
  rw [lg_entry_eq]
  generalize (lg_sl ([.ref a0, .ref a1]) ++ List.replicate (3 - (lg_sl ([.ref a0, .ref a1])).length) Slot.unset).toArray = ls at hl ⊢
  have hl : lv_has ls 3 [(0, .ref a0), (1, .ref a1)] := hl
  unfold wp_L_readMoves at hp
  exact t_L_readMoves_0 F hr hlocks hK hl0 htab (Nat.le_of_eq (Nat.zero_add _)) (Nat.le_of_eq (Nat.zero_add _)) hp hW wX.rf (lv_sub hl [0, 1] rfl) hL_a0 hK_a0 hL_a1 hK_a1
def wp_L_addGame_0 (D : wD) (post : Int32 → wS → Prop)  (bc bs : Nat) (S : wS) (a0 : Nat) (x1 : Int32) (x2 : Int32) (x3 : Int32) (x4 : Int32) (a5 : Nat) : Prop :=
∃ m_3 z_4 : Nat, m_3 ≤ bc ∧ z_4 ≤ bs ∧
wp_X11_addGame D (fun r_1 S_2 => 
a5 ∈ sL S_2 ∧ vp_in (0 : Int32) (sN S_2 a5) ∧
∀ S_6 : wS, S_6 = uJ S_2 a5 ((0 : Int32)).toNatClampNeg (Int32.toInt64 r_1) →
post (0 : Int32) S_6) (fun E_9 S9 => (E_9 = "java/lang/IndexOutOfBoundsException" ∧ post (1 : Int32) S9) ∨ (E_9 = "java/lang/IllegalArgumentException" ∧ post (2 : Int32) S9) ∨ (E_9 = "java/lang/IllegalStateException" ∧ post (3 : Int32) S9)) m_3 z_4 S a0 x1 x2 x3 x4
abbrev r_L_addGame (rC rS : Nat) : Room := { frames := 9, cells := rC, slots := rS, locals := 238 }
def wp_L_addGame (D : wD) (post : Int32 → wS → Prop) (bc bs : Nat) (S : wS) (a0 : Nat) (x1 : Int32) (x2 : Int32) (x3 : Int32) (x4 : Int32) (a5 : Nat) : Prop := wp_L_addGame_0 D post bc bs S a0 x1 x2 x3 x4 a5
set_option maxHeartbeats 4000000 in
set_option maxRecDepth 100000 in
theorem t_L_addGame_0 {p : Program} {l : Launch} {e : Env} {s : State} {m : MethodId} {args : Array Value} {below : List Frame} {meth : Method} {c : Code} {D : wD} {cy : Nat → ClassId} {X : va_W} {A : Nat → Prop} {S0 : wS} {rC rS : Nat} {post : Int32 → wS → Prop} (F : CallFix p m c cL_addGame 7 s args wz_L_addGame RL) (hr : meth.sig.returnType = (some .int)) (hlocks : meth.locks = false) (hK : wK D cy A s) (hl0 : l.stackTraces = false) (htab : c.exceptionTable.toList.map xhF = [(0, 14, 17, 18), (0, 14, 21, 13), (0, 14, 25, 20)]) : ∀ {bc bs cells slots : Nat} (hbc : cells + bc ≤ rC) (hbs : slots + bs ≤ rS) {S : wS} {H : Heap} {locs : List Loc} {ls : Array Slot} {a0 : Nat} {x1 : Int32} {x2 : Int32} {x3 : Int32} {x4 : Int32} {a5 : Nat}, wp_L_addGame_0 D post bc bs S a0 x1 x2 x3 x4 a5 → wO D cy X A s.heap S H locs → wX D S0 S → lv_has ls 7 [(0, .ref a0), (1, .int x1), (2, .int x2), (3, .int x3), (4, .int x4), (5, .ref a5)] → wM D S a0 → sK S a0 = 16 → wM D S a5 → sK S a5 = 22 → W p l e (r_L_addGame rC rS) s m args below meth c H locs cells slots (vx_MQ below (va_Qi (fun r S9 => wX D S0 S9 ∧ post r S9) (wB D cy X A) A) (wEx D cy X A (fun _ _ => False)) args s rC rS A) (F0 m 0 ls []) := by
  obtain ⟨hx, hb, hml, hown, hts⟩ := id F
  have hwg : ∀ w ∈ WG, w.before args s = true := fun w h => hts w (List.mem_cons_of_mem _ h)
  intro bc bs cells slots hbc hbs S H locs ls a0 x1 x2 x3 x4 a5 hp hW hE hl hL_a0 hK_a0 hL_a5 hK_a5
  unfold wp_L_addGame_0 at hp
  refine lv_aload hx hb dL_addGame_0 (lv_at hl 5 rfl) ?_
  refine lv_iconst (v := 0) hx hb dL_addGame_2 (by decide) ?_
  refine lv_aload_n hx hb dL_addGame_3 rfl (lv_at hl 0 rfl) ?_
  refine lv_iload_n hx hb dL_addGame_4 rfl (lv_at hl 1 rfl) ?_
  refine lv_iload_n hx hb dL_addGame_5 rfl (lv_at hl 2 rfl) ?_
  refine lv_iload_n hx hb dL_addGame_6 rfl (lv_at hl 3 rfl) ?_
  refine lv_iload hx hb dL_addGame_7 (lv_at hl 4 rfl) ?_
  obtain ⟨m_3, z_4, hm_3, hz_4, hp⟩ := hp
  refine x_callI (vx_runV (As := [.int x1, .int x2, .int x3, .int x4]) (rest := [.int (0 : Int32), .ref a5]) F (c_X11_addGame l hl0 hL_a0 hK_a0 hp H.size) (cwV (C := RX11) 4 hts (wg_V wm_RL_89 wy_X11_addGame) rfl rfl rfl (by decide +kernel) ⟨Nat.le_of_ble_eq_true rfl, Nat.le_of_ble_eq_true rfl⟩) (w_preV hK hW hL_a0 hK_a0 (by decide) rfl) rfl rfl hl.1 rfl (lv_room (Nat.le_of_ble_eq_true rfl)) dL_addGame_9 ⟨by show _ + m_3 ≤ rC; omega, by show _ + z_4 ≤ rS; omega⟩) hW (fun E ce q9 S9 H locs hp hW h1 h2 h3 => ?_) (fun r_1 S_2 H locs hp hW => ?_)
  · obtain ⟨hX_9, hp⟩ := hp
    have hE := hE.trans hX_9
    obtain ⟨z0, z1, z2, htl, ez0, ez1, ez2⟩ := x_tab3 htab
    rcases hp with ⟨hEe, hp⟩ | ⟨hEe, hp⟩ | ⟨hEe, hp⟩
    · subst hEe
      refine x_catch (nm := "java/lang/IndexOutOfBoundsException") F hK [] z0 [z1, z2] (by rw [htl]; rfl) ez0 (by decide) (by decide) (fun z hz => nomatch hz) (hwg _ wc_RL_18) (by decide +kernel) h1 h2 h3 ?_
      refine W.widen (k := rC) (n := rS) (by show _ + m_3 ≤ rC; omega) (by show _ + z_4 ≤ rS; omega) ?_
      refine lv_astore (lv' := [(6, .ref q9), (0, .ref a0), (1, .int x1), (2, .int x2), (3, .int x3), (4, .int x4), (5, .ref a5)]) hx hb dL_addGame_17 hl (by decide) rfl (fun ls hl => ?_)
      refine lv_iconst (v := 1) hx hb dL_addGame_19 (by decide) ?_
      refine vx_ret ?_
      exact w_iret hx hb hr hlocks hW ⟨hE, hp⟩ dL_addGame_20
    · subst hEe
      refine x_catch (nm := "java/lang/IllegalArgumentException") F hK [z0] z1 [z2] (by rw [htl]; rfl) ez1 (by decide) (by decide) (fun z hz => by
          simp only [List.mem_cons, List.not_mem_nil, or_false] at hz
          rcases hz with hz
          · rw [hz]; exact ⟨by rw [show z0.catchType = 18 from congrArg (fun q => q.2.2.2) ez0]; decide, "java/lang/IndexOutOfBoundsException", by rw [show z0.catchType = 18 from congrArg (fun q => q.2.2.2) ez0]; exact hwg _ wc_RL_18, by decide +kernel⟩) (hwg _ wc_RL_13) (by decide +kernel) h1 h2 h3 ?_
      refine W.widen (k := rC) (n := rS) (by show _ + m_3 ≤ rC; omega) (by show _ + z_4 ≤ rS; omega) ?_
      refine lv_astore (lv' := [(6, .ref q9), (0, .ref a0), (1, .int x1), (2, .int x2), (3, .int x3), (4, .int x4), (5, .ref a5)]) hx hb dL_addGame_21 hl (by decide) rfl (fun ls hl => ?_)
      refine lv_iconst (v := 2) hx hb dL_addGame_23 (by decide) ?_
      refine vx_ret ?_
      exact w_iret hx hb hr hlocks hW ⟨hE, hp⟩ dL_addGame_24
    · subst hEe
      refine x_catch (nm := "java/lang/IllegalStateException") F hK [z0, z1] z2 [] (by rw [htl]; rfl) ez2 (by decide) (by decide) (fun z hz => by
          simp only [List.mem_cons, List.not_mem_nil, or_false] at hz
          rcases hz with hz | hz
          · rw [hz]; exact ⟨by rw [show z0.catchType = 18 from congrArg (fun q => q.2.2.2) ez0]; decide, "java/lang/IndexOutOfBoundsException", by rw [show z0.catchType = 18 from congrArg (fun q => q.2.2.2) ez0]; exact hwg _ wc_RL_18, by decide +kernel⟩
          · rw [hz]; exact ⟨by rw [show z1.catchType = 13 from congrArg (fun q => q.2.2.2) ez1]; decide, "java/lang/IllegalArgumentException", by rw [show z1.catchType = 13 from congrArg (fun q => q.2.2.2) ez1]; exact hwg _ wc_RL_13, by decide +kernel⟩) (hwg _ wc_RL_20) (by decide +kernel) h1 h2 h3 ?_
      refine W.widen (k := rC) (n := rS) (by show _ + m_3 ≤ rC; omega) (by show _ + z_4 ≤ rS; omega) ?_
      refine lv_astore (lv' := [(6, .ref q9), (0, .ref a0), (1, .int x1), (2, .int x2), (3, .int x3), (4, .int x4), (5, .ref a5)]) hx hb dL_addGame_25 hl (by decide) rfl (fun ls hl => ?_)
      refine lv_iconst (v := 3) hx hb dL_addGame_27 (by decide) ?_
      refine vx_ret ?_
      exact w_iret hx hb hr hlocks hW ⟨hE, hp⟩ dL_addGame_28
  · obtain ⟨hX_S_2, hp⟩ := hp
    refine W.widen (k := _ + m_3) (n := _ + z_4) (Nat.le_refl _) (Nat.le_refl _) ?_
    replace hbc := w_spend hbc (show m_3 ≤ bc by omega)
    replace hbs := w_spend hbs (show z_4 ≤ bs by omega)
    have hE := hE.trans hX_S_2
    have hK_a0 : sK S_2 a0 = 16 := (hX_S_2.2 a0 hL_a0).1.trans hK_a0
    have hL_a0 : wM D S_2 a0 := hX_S_2.M hL_a0
    have hK_a5 : sK S_2 a5 = 22 := (hX_S_2.2 a5 hL_a5).1.trans hK_a5
    have hL_a5 : wM D S_2 a5 := hX_S_2.M hL_a5
    refine lv_i2l (v := (Int32.toInt64 r_1)) hx hb dL_addGame_12 rfl ?_
    obtain ⟨h_5m, h_5, hp⟩ := hp
    refine w_lst F hK hW h_5m hK_a5 h_5 dL_addGame_13 (fun H locs hW => ?_)
    obtain ⟨S_6, eS_6⟩ : ∃ z : wS, z = uJ S_2 a5 ((0 : Int32)).toNatClampNeg (Int32.toInt64 r_1) := ⟨_, rfl⟩
    rw [← eS_6] at hW
    replace hp := hp S_6 eS_6
    have hX_S_6 : wX D S_2 S_6 := by rw [eS_6]; exact wX_uJ
    have hE := hE.trans hX_S_6
    have hK_a0 : sK S_6 a0 = 16 := (hX_S_6.2 a0 hL_a0).1.trans hK_a0
    have hL_a0 : wM D S_6 a0 := hX_S_6.M hL_a0
    have hK_a5 : sK S_6 a5 = 22 := (hX_S_6.2 a5 hL_a5).1.trans hK_a5
    have hL_a5 : wM D S_6 a5 := hX_S_6.M hL_a5
    refine lv_goto (tgt := 29) hx hb dL_addGame_14 (by decide) ?_
    refine lv_iconst (v := 0) hx hb dL_addGame_29 (by decide) ?_
    refine W.widen (k := rC) (n := rS) (Nat.le_trans (Nat.le_add_right _ _) hbc) (Nat.le_trans (Nat.le_add_right _ _) hbs) ?_
    refine vx_ret ?_
    exact w_iret hx hb hr hlocks hW ⟨hE, hp⟩ dL_addGame_30
set_option maxHeartbeats 4000000 in
set_option maxRecDepth 100000 in
theorem c_L_addGame (l : Launch) {rC rS : Nat} {D : wD} {cy : Nat → ClassId} {X : va_W} {S0 : wS} {post : Int32 → wS → Prop} (hl0 : l.stackTraces = false) {a0 : Nat} {x1 : Int32} {x2 : Int32} {x3 : Int32} {x4 : Int32} {a5 : Nat} (hL_a0 : wM D S0 a0) (hK_a0 : sK S0 a0 = 16) (hL_a5 : wM D S0 a5) (hK_a5 : sK S0 a5 = 22) (hp : wp_L_addGame D post rC rS S0 a0 x1 x2 x3 x4 a5) : xI D cy X l yL_addGame wz_L_addGame (r_L_addGame rC rS) [.ref a0, .int x1, .int x2, .int x3, .int x4, .ref a5] S0 (fun r S9 => wX D S0 S9 ∧ post r S9) (fun _ _ => False) := by
  intro sz
  refine vx_ofWH (hh := [(0, 14, 17, 18), (0, 14, 21, 13), (0, 14, 25, 20)]) (cc := cL_addGame) (maxL := 7) (ret := (some .int)) (by decide) rfl ?_
  intro p e s m args below meth c s₁ B hml hv
  obtain ⟨rfl, hsz, hP, hK, hD0, hRO⟩ := hv
  have hts := atoms_spec (ws := wz_L_addGame) B.pre
  have hown : s.vm.findClass RL = some m.cls := findClass_of_methodNamed B.named
  subst hsz
  have hD := hD0.self (sz := s.heap.size)
  have F : CallFix p m c cL_addGame 7 s _ wz_L_addGame RL := ⟨B.exec, B.bytes, hml, hown, hts⟩
  have htab : c.exceptionTable.toList.map xhF = [(0, 14, 17, 18), (0, 14, 21, 13), (0, 14, 25, 20)] := by
    obtain ⟨m9, meth9, c9, g0, g1, g2, -, -, g3, -⟩ := Cond.codeWith_spec (hts _ List.mem_cons_self)
    cases Option.some.inj (g0.symm.trans B.named)
    cases Option.some.inj (g1.symm.trans B.method)
    cases Option.some.inj (g2.symm.trans (Stand.of_body B).code)
    exact g3
  have hr := B.returns
  have hlocks := B.notSynchronized
  generalize hAe : va_A (wL cy X S0) s.heap.size = A at hD hK ⊢
  have hA : ∀ q, s.heap.size ≤ q → A q := fun q h => by rw [← hAe]; exact Or.inr h
  have hW : wO D cy X A s.heap S0 s.heap [] := ⟨hP, hD, va_S.rf, hA, hRO⟩
  have hl := lv_entry ([.ref a0, .int x1, .int x2, .int x3, .int x4, .ref a5]) (n := 7) (Nat.le_of_ble_eq_true rfl)
  rw [lg_entry_eq]
  generalize (lg_sl ([.ref a0, .int x1, .int x2, .int x3, .int x4, .ref a5]) ++ List.replicate (7 - (lg_sl ([.ref a0, .int x1, .int x2, .int x3, .int x4, .ref a5])).length) Slot.unset).toArray = ls at hl ⊢
  have hl : lv_has ls 7 [(0, .ref a0), (1, .int x1), (2, .int x2), (3, .int x3), (4, .int x4), (5, .ref a5)] := hl
  unfold wp_L_addGame at hp
  exact t_L_addGame_0 F hr hlocks hK hl0 htab (Nat.le_of_eq (Nat.zero_add _)) (Nat.le_of_eq (Nat.zero_add _)) hp hW wX.rf (lv_sub hl [0, 1, 2, 3, 4, 5] rfl) hL_a0 hK_a0 hL_a5 hK_a5
def wp_L_gameCount_0 (D : wD) (post : Int32 → wS → Prop)  (S : wS) (a0 : Nat) (x1 : Int32) (a2 : Nat) : Prop :=
wp_X11_gameCount D (fun r_1 S_2 => 
a2 ∈ sL S_2 ∧ vp_in (0 : Int32) (sN S_2 a2) ∧
∀ S_4 : wS, S_4 = uJ S_2 a2 ((0 : Int32)).toNatClampNeg (Int32.toInt64 r_1) →
post (0 : Int32) S_4) (fun E_9 S9 => (E_9 = "java/lang/IndexOutOfBoundsException" ∧ post (1 : Int32) S9)) S a0 x1
abbrev r_L_gameCount : Room := { frames := 8, cells := 1, slots := 6, locals := 162 }
def wp_L_gameCount (D : wD) (post : Int32 → wS → Prop) (S : wS) (a0 : Nat) (x1 : Int32) (a2 : Nat) : Prop := wp_L_gameCount_0 D post S a0 x1 a2
set_option maxHeartbeats 4000000 in
set_option maxRecDepth 100000 in
theorem t_L_gameCount_0 {p : Program} {l : Launch} {e : Env} {s : State} {m : MethodId} {args : Array Value} {below : List Frame} {meth : Method} {c : Code} {D : wD} {cy : Nat → ClassId} {X : va_W} {A : Nat → Prop} {S0 : wS} {post : Int32 → wS → Prop} (F : CallFix p m c cL_gameCount 4 s args wz_L_gameCount RL) (hr : meth.sig.returnType = (some .int)) (hlocks : meth.locks = false) (hK : wK D cy A s) (hl0 : l.stackTraces = false) (htab : c.exceptionTable.toList.map xhF = [(0, 9, 12, 18)]) : ∀ {S : wS} {H : Heap} {locs : List Loc} {ls : Array Slot} {a0 : Nat} {x1 : Int32} {a2 : Nat}, wp_L_gameCount_0 D post S a0 x1 a2 → wO D cy X A s.heap S H locs → wX D S0 S → lv_has ls 4 [(0, .ref a0), (1, .int x1), (2, .ref a2)] → wM D S a0 → sK S a0 = 16 → wM D S a2 → sK S a2 = 22 → W p l e r_L_gameCount s m args below meth c H locs 0 0 (vx_MQ below (va_Qi (fun r S9 => wX D S0 S9 ∧ post r S9) (wB D cy X A) A) (wEx D cy X A (fun _ _ => False)) args s 1 6 A) (F0 m 0 ls []) := by
  obtain ⟨hx, hb, hml, hown, hts⟩ := id F
  have hwg : ∀ w ∈ WG, w.before args s = true := fun w h => hts w (List.mem_cons_of_mem _ h)
  intro S H locs ls a0 x1 a2 hp hW hE hl hL_a0 hK_a0 hL_a2 hK_a2
  unfold wp_L_gameCount_0 at hp
  refine lv_aload_n hx hb dL_gameCount_0 rfl (lv_at hl 2 rfl) ?_
  refine lv_iconst (v := 0) hx hb dL_gameCount_1 (by decide) ?_
  refine lv_aload_n hx hb dL_gameCount_2 rfl (lv_at hl 0 rfl) ?_
  refine lv_iload_n hx hb dL_gameCount_3 rfl (lv_at hl 1 rfl) ?_
  refine x_callI (vx_runV (As := [.int x1]) (rest := [.int (0 : Int32), .ref a2]) F (c_X11_gameCount l hl0 hL_a0 hK_a0 hp H.size) (cwV (C := RX11) 1 hts (wg_V wm_RL_93 wy_X11_gameCount) rfl rfl rfl (by decide +kernel) ⟨Nat.le_of_ble_eq_true rfl, Nat.le_of_ble_eq_true rfl⟩) (w_preV hK hW hL_a0 hK_a0 (by decide) rfl) rfl rfl hl.1 rfl (lv_room (Nat.le_of_ble_eq_true rfl)) dL_gameCount_4 ⟨Nat.le_of_ble_eq_true rfl, Nat.le_of_ble_eq_true rfl⟩) hW (fun E ce q9 S9 H locs hp hW h1 h2 h3 => ?_) (fun r_1 S_2 H locs hp hW => ?_)
  · obtain ⟨hX_9, hp⟩ := hp
    have hE := hE.trans hX_9
    obtain ⟨z0, htl, ez0⟩ := x_tab1 htab
    rcases hp with ⟨hEe, hp⟩
    · subst hEe
      refine x_catch (nm := "java/lang/IndexOutOfBoundsException") F hK [] z0 [] (by rw [htl]; rfl) ez0 (by decide) (by decide) (fun z hz => nomatch hz) (hwg _ wc_RL_18) (by decide +kernel) h1 h2 h3 ?_
      refine W.widen (k := 1) (n := 6) (by decide) (by decide) ?_
      refine lv_astore_n (lv' := [(3, .ref q9), (0, .ref a0), (1, .int x1), (2, .ref a2)]) hx hb dL_gameCount_12 rfl hl (by decide) rfl (fun ls hl => ?_)
      refine lv_iconst (v := 1) hx hb dL_gameCount_13 (by decide) ?_
      refine vx_ret ?_
      exact w_iret hx hb hr hlocks hW ⟨hE, hp⟩ dL_gameCount_14
  · obtain ⟨hX_S_2, hp⟩ := hp
    refine W.widen (k := 1) (n := 6) (by decide) (by decide) ?_
    have hE := hE.trans hX_S_2
    have hK_a0 : sK S_2 a0 = 16 := (hX_S_2.2 a0 hL_a0).1.trans hK_a0
    have hL_a0 : wM D S_2 a0 := hX_S_2.M hL_a0
    have hK_a2 : sK S_2 a2 = 22 := (hX_S_2.2 a2 hL_a2).1.trans hK_a2
    have hL_a2 : wM D S_2 a2 := hX_S_2.M hL_a2
    refine lv_i2l (v := (Int32.toInt64 r_1)) hx hb dL_gameCount_7 rfl ?_
    obtain ⟨h_3m, h_3, hp⟩ := hp
    refine w_lst F hK hW h_3m hK_a2 h_3 dL_gameCount_8 (fun H locs hW => ?_)
    obtain ⟨S_4, eS_4⟩ : ∃ z : wS, z = uJ S_2 a2 ((0 : Int32)).toNatClampNeg (Int32.toInt64 r_1) := ⟨_, rfl⟩
    rw [← eS_4] at hW
    replace hp := hp S_4 eS_4
    have hX_S_4 : wX D S_2 S_4 := by rw [eS_4]; exact wX_uJ
    have hE := hE.trans hX_S_4
    have hK_a0 : sK S_4 a0 = 16 := (hX_S_4.2 a0 hL_a0).1.trans hK_a0
    have hL_a0 : wM D S_4 a0 := hX_S_4.M hL_a0
    have hK_a2 : sK S_4 a2 = 22 := (hX_S_4.2 a2 hL_a2).1.trans hK_a2
    have hL_a2 : wM D S_4 a2 := hX_S_4.M hL_a2
    refine lv_goto (tgt := 15) hx hb dL_gameCount_9 (by decide) ?_
    refine lv_iconst (v := 0) hx hb dL_gameCount_15 (by decide) ?_
    refine vx_ret ?_
    exact w_iret hx hb hr hlocks hW ⟨hE, hp⟩ dL_gameCount_16
set_option maxHeartbeats 4000000 in
set_option maxRecDepth 100000 in
theorem c_L_gameCount (l : Launch) {D : wD} {cy : Nat → ClassId} {X : va_W} {S0 : wS} {post : Int32 → wS → Prop} (hl0 : l.stackTraces = false) {a0 : Nat} {x1 : Int32} {a2 : Nat} (hL_a0 : wM D S0 a0) (hK_a0 : sK S0 a0 = 16) (hL_a2 : wM D S0 a2) (hK_a2 : sK S0 a2 = 22) (hp : wp_L_gameCount D post S0 a0 x1 a2) : xI D cy X l yL_gameCount wz_L_gameCount r_L_gameCount [.ref a0, .int x1, .ref a2] S0 (fun r S9 => wX D S0 S9 ∧ post r S9) (fun _ _ => False) := by
  intro sz
  refine vx_ofWH (hh := [(0, 9, 12, 18)]) (cc := cL_gameCount) (maxL := 4) (ret := (some .int)) (by decide) rfl ?_
  intro p e s m args below meth c s₁ B hml hv
  obtain ⟨rfl, hsz, hP, hK, hD0, hRO⟩ := hv
  have hts := atoms_spec (ws := wz_L_gameCount) B.pre
  have hown : s.vm.findClass RL = some m.cls := findClass_of_methodNamed B.named
  subst hsz
  have hD := hD0.self (sz := s.heap.size)
  have F : CallFix p m c cL_gameCount 4 s _ wz_L_gameCount RL := ⟨B.exec, B.bytes, hml, hown, hts⟩
  have htab : c.exceptionTable.toList.map xhF = [(0, 9, 12, 18)] := by
    obtain ⟨m9, meth9, c9, g0, g1, g2, -, -, g3, -⟩ := Cond.codeWith_spec (hts _ List.mem_cons_self)
    cases Option.some.inj (g0.symm.trans B.named)
    cases Option.some.inj (g1.symm.trans B.method)
    cases Option.some.inj (g2.symm.trans (Stand.of_body B).code)
    exact g3
  have hr := B.returns
  have hlocks := B.notSynchronized
  generalize hAe : va_A (wL cy X S0) s.heap.size = A at hD hK ⊢
  have hA : ∀ q, s.heap.size ≤ q → A q := fun q h => by rw [← hAe]; exact Or.inr h
  have hW : wO D cy X A s.heap S0 s.heap [] := ⟨hP, hD, va_S.rf, hA, hRO⟩
  have hl := lv_entry ([.ref a0, .int x1, .ref a2]) (n := 4) (Nat.le_of_ble_eq_true rfl)
  rw [lg_entry_eq]
  generalize (lg_sl ([.ref a0, .int x1, .ref a2]) ++ List.replicate (4 - (lg_sl ([.ref a0, .int x1, .ref a2])).length) Slot.unset).toArray = ls at hl ⊢
  have hl : lv_has ls 4 [(0, .ref a0), (1, .int x1), (2, .ref a2)] := hl
  unfold wp_L_gameCount at hp
  exact t_L_gameCount_0 F hr hlocks hK hl0 htab hp hW wX.rf (lv_sub hl [0, 1, 2] rfl) hL_a0 hK_a0 hL_a2 hK_a2
def wp_L_gameLength_0 (D : wD) (post : Int32 → wS → Prop)  (S : wS) (a0 : Nat) (x1 : Int32) (x2 : Int32) (a3 : Nat) : Prop :=
wp_X11_gameLength D (fun r_1 S_2 => 
a3 ∈ sL S_2 ∧ vp_in (0 : Int32) (sN S_2 a3) ∧
∀ S_4 : wS, S_4 = uJ S_2 a3 ((0 : Int32)).toNatClampNeg (Int32.toInt64 r_1) →
post (0 : Int32) S_4) (fun E_9 S9 => (E_9 = "java/lang/IndexOutOfBoundsException" ∧ post (1 : Int32) S9)) S a0 x1 x2
abbrev r_L_gameLength : Room := { frames := 9, cells := 2, slots := 12, locals := 186 }
def wp_L_gameLength (D : wD) (post : Int32 → wS → Prop) (S : wS) (a0 : Nat) (x1 : Int32) (x2 : Int32) (a3 : Nat) : Prop := wp_L_gameLength_0 D post S a0 x1 x2 a3
set_option maxHeartbeats 4000000 in
set_option maxRecDepth 100000 in
theorem t_L_gameLength_0 {p : Program} {l : Launch} {e : Env} {s : State} {m : MethodId} {args : Array Value} {below : List Frame} {meth : Method} {c : Code} {D : wD} {cy : Nat → ClassId} {X : va_W} {A : Nat → Prop} {S0 : wS} {post : Int32 → wS → Prop} (F : CallFix p m c cL_gameLength 5 s args wz_L_gameLength RL) (hr : meth.sig.returnType = (some .int)) (hlocks : meth.locks = false) (hK : wK D cy A s) (hl0 : l.stackTraces = false) (htab : c.exceptionTable.toList.map xhF = [(0, 10, 13, 18)]) : ∀ {S : wS} {H : Heap} {locs : List Loc} {ls : Array Slot} {a0 : Nat} {x1 : Int32} {x2 : Int32} {a3 : Nat}, wp_L_gameLength_0 D post S a0 x1 x2 a3 → wO D cy X A s.heap S H locs → wX D S0 S → lv_has ls 5 [(0, .ref a0), (1, .int x1), (2, .int x2), (3, .ref a3)] → wM D S a0 → sK S a0 = 16 → wM D S a3 → sK S a3 = 22 → W p l e r_L_gameLength s m args below meth c H locs 0 0 (vx_MQ below (va_Qi (fun r S9 => wX D S0 S9 ∧ post r S9) (wB D cy X A) A) (wEx D cy X A (fun _ _ => False)) args s 2 12 A) (F0 m 0 ls []) := by
  obtain ⟨hx, hb, hml, hown, hts⟩ := id F
  have hwg : ∀ w ∈ WG, w.before args s = true := fun w h => hts w (List.mem_cons_of_mem _ h)
  intro S H locs ls a0 x1 x2 a3 hp hW hE hl hL_a0 hK_a0 hL_a3 hK_a3
  unfold wp_L_gameLength_0 at hp
  refine lv_aload_n hx hb dL_gameLength_0 rfl (lv_at hl 3 rfl) ?_
  refine lv_iconst (v := 0) hx hb dL_gameLength_1 (by decide) ?_
  refine lv_aload_n hx hb dL_gameLength_2 rfl (lv_at hl 0 rfl) ?_
  refine lv_iload_n hx hb dL_gameLength_3 rfl (lv_at hl 1 rfl) ?_
  refine lv_iload_n hx hb dL_gameLength_4 rfl (lv_at hl 2 rfl) ?_
  refine x_callI (vx_runV (As := [.int x1, .int x2]) (rest := [.int (0 : Int32), .ref a3]) F (c_X11_gameLength l hl0 hL_a0 hK_a0 hp H.size) (cwV (C := RX11) 2 hts (wg_V wm_RL_96 wy_X11_gameLength) rfl rfl rfl (by decide +kernel) ⟨Nat.le_of_ble_eq_true rfl, Nat.le_of_ble_eq_true rfl⟩) (w_preV hK hW hL_a0 hK_a0 (by decide) rfl) rfl rfl hl.1 rfl (lv_room (Nat.le_of_ble_eq_true rfl)) dL_gameLength_5 ⟨Nat.le_of_ble_eq_true rfl, Nat.le_of_ble_eq_true rfl⟩) hW (fun E ce q9 S9 H locs hp hW h1 h2 h3 => ?_) (fun r_1 S_2 H locs hp hW => ?_)
  · obtain ⟨hX_9, hp⟩ := hp
    have hE := hE.trans hX_9
    obtain ⟨z0, htl, ez0⟩ := x_tab1 htab
    rcases hp with ⟨hEe, hp⟩
    · subst hEe
      refine x_catch (nm := "java/lang/IndexOutOfBoundsException") F hK [] z0 [] (by rw [htl]; rfl) ez0 (by decide) (by decide) (fun z hz => nomatch hz) (hwg _ wc_RL_18) (by decide +kernel) h1 h2 h3 ?_
      refine W.widen (k := 2) (n := 12) (by decide) (by decide) ?_
      refine lv_astore (lv' := [(4, .ref q9), (0, .ref a0), (1, .int x1), (2, .int x2), (3, .ref a3)]) hx hb dL_gameLength_13 hl (by decide) rfl (fun ls hl => ?_)
      refine lv_iconst (v := 1) hx hb dL_gameLength_15 (by decide) ?_
      refine vx_ret ?_
      exact w_iret hx hb hr hlocks hW ⟨hE, hp⟩ dL_gameLength_16
  · obtain ⟨hX_S_2, hp⟩ := hp
    refine W.widen (k := 2) (n := 12) (by decide) (by decide) ?_
    have hE := hE.trans hX_S_2
    have hK_a0 : sK S_2 a0 = 16 := (hX_S_2.2 a0 hL_a0).1.trans hK_a0
    have hL_a0 : wM D S_2 a0 := hX_S_2.M hL_a0
    have hK_a3 : sK S_2 a3 = 22 := (hX_S_2.2 a3 hL_a3).1.trans hK_a3
    have hL_a3 : wM D S_2 a3 := hX_S_2.M hL_a3
    refine lv_i2l (v := (Int32.toInt64 r_1)) hx hb dL_gameLength_8 rfl ?_
    obtain ⟨h_3m, h_3, hp⟩ := hp
    refine w_lst F hK hW h_3m hK_a3 h_3 dL_gameLength_9 (fun H locs hW => ?_)
    obtain ⟨S_4, eS_4⟩ : ∃ z : wS, z = uJ S_2 a3 ((0 : Int32)).toNatClampNeg (Int32.toInt64 r_1) := ⟨_, rfl⟩
    rw [← eS_4] at hW
    replace hp := hp S_4 eS_4
    have hX_S_4 : wX D S_2 S_4 := by rw [eS_4]; exact wX_uJ
    have hE := hE.trans hX_S_4
    have hK_a0 : sK S_4 a0 = 16 := (hX_S_4.2 a0 hL_a0).1.trans hK_a0
    have hL_a0 : wM D S_4 a0 := hX_S_4.M hL_a0
    have hK_a3 : sK S_4 a3 = 22 := (hX_S_4.2 a3 hL_a3).1.trans hK_a3
    have hL_a3 : wM D S_4 a3 := hX_S_4.M hL_a3
    refine lv_goto (tgt := 17) hx hb dL_gameLength_10 (by decide) ?_
    refine lv_iconst (v := 0) hx hb dL_gameLength_17 (by decide) ?_
    refine vx_ret ?_
    exact w_iret hx hb hr hlocks hW ⟨hE, hp⟩ dL_gameLength_18
set_option maxHeartbeats 4000000 in
set_option maxRecDepth 100000 in
theorem c_L_gameLength (l : Launch) {D : wD} {cy : Nat → ClassId} {X : va_W} {S0 : wS} {post : Int32 → wS → Prop} (hl0 : l.stackTraces = false) {a0 : Nat} {x1 : Int32} {x2 : Int32} {a3 : Nat} (hL_a0 : wM D S0 a0) (hK_a0 : sK S0 a0 = 16) (hL_a3 : wM D S0 a3) (hK_a3 : sK S0 a3 = 22) (hp : wp_L_gameLength D post S0 a0 x1 x2 a3) : xI D cy X l yL_gameLength wz_L_gameLength r_L_gameLength [.ref a0, .int x1, .int x2, .ref a3] S0 (fun r S9 => wX D S0 S9 ∧ post r S9) (fun _ _ => False) := by
  intro sz
  refine vx_ofWH (hh := [(0, 10, 13, 18)]) (cc := cL_gameLength) (maxL := 5) (ret := (some .int)) (by decide) rfl ?_
  intro p e s m args below meth c s₁ B hml hv
  obtain ⟨rfl, hsz, hP, hK, hD0, hRO⟩ := hv
  have hts := atoms_spec (ws := wz_L_gameLength) B.pre
  have hown : s.vm.findClass RL = some m.cls := findClass_of_methodNamed B.named
  subst hsz
  have hD := hD0.self (sz := s.heap.size)
  have F : CallFix p m c cL_gameLength 5 s _ wz_L_gameLength RL := ⟨B.exec, B.bytes, hml, hown, hts⟩
  have htab : c.exceptionTable.toList.map xhF = [(0, 10, 13, 18)] := by
    obtain ⟨m9, meth9, c9, g0, g1, g2, -, -, g3, -⟩ := Cond.codeWith_spec (hts _ List.mem_cons_self)
    cases Option.some.inj (g0.symm.trans B.named)
    cases Option.some.inj (g1.symm.trans B.method)
    cases Option.some.inj (g2.symm.trans (Stand.of_body B).code)
    exact g3
  have hr := B.returns
  have hlocks := B.notSynchronized
  generalize hAe : va_A (wL cy X S0) s.heap.size = A at hD hK ⊢
  have hA : ∀ q, s.heap.size ≤ q → A q := fun q h => by rw [← hAe]; exact Or.inr h
  have hW : wO D cy X A s.heap S0 s.heap [] := ⟨hP, hD, va_S.rf, hA, hRO⟩
  have hl := lv_entry ([.ref a0, .int x1, .int x2, .ref a3]) (n := 5) (Nat.le_of_ble_eq_true rfl)
  rw [lg_entry_eq]
  generalize (lg_sl ([.ref a0, .int x1, .int x2, .ref a3]) ++ List.replicate (5 - (lg_sl ([.ref a0, .int x1, .int x2, .ref a3])).length) Slot.unset).toArray = ls at hl ⊢
  have hl : lv_has ls 5 [(0, .ref a0), (1, .int x1), (2, .int x2), (3, .ref a3)] := hl
  unfold wp_L_gameLength at hp
  exact t_L_gameLength_0 F hr hlocks hK hl0 htab hp hW wX.rf (lv_sub hl [0, 1, 2, 3] rfl) hL_a0 hK_a0 hL_a3 hK_a3
def wp_L_positionCount_0 (D : wD) (post : Int32 → wS → Prop)  (S : wS) (a0 : Nat) (x1 : Int32) (a2 : Nat) : Prop :=
wp_X11_positionCount D (fun r_1 S_2 => 
a2 ∈ sL S_2 ∧ vp_in (0 : Int32) (sN S_2 a2) ∧
∀ S_4 : wS, S_4 = uJ S_2 a2 ((0 : Int32)).toNatClampNeg (Int32.toInt64 r_1) →
post (0 : Int32) S_4) (fun E_9 S9 => (E_9 = "java/lang/IndexOutOfBoundsException" ∧ post (1 : Int32) S9)) S a0 x1
abbrev r_L_positionCount : Room := { frames := 8, cells := 1, slots := 6, locals := 162 }
def wp_L_positionCount (D : wD) (post : Int32 → wS → Prop) (S : wS) (a0 : Nat) (x1 : Int32) (a2 : Nat) : Prop := wp_L_positionCount_0 D post S a0 x1 a2
set_option maxHeartbeats 4000000 in
set_option maxRecDepth 100000 in
theorem t_L_positionCount_0 {p : Program} {l : Launch} {e : Env} {s : State} {m : MethodId} {args : Array Value} {below : List Frame} {meth : Method} {c : Code} {D : wD} {cy : Nat → ClassId} {X : va_W} {A : Nat → Prop} {S0 : wS} {post : Int32 → wS → Prop} (F : CallFix p m c cL_positionCount 4 s args wz_L_positionCount RL) (hr : meth.sig.returnType = (some .int)) (hlocks : meth.locks = false) (hK : wK D cy A s) (hl0 : l.stackTraces = false) (htab : c.exceptionTable.toList.map xhF = [(0, 9, 12, 18)]) : ∀ {S : wS} {H : Heap} {locs : List Loc} {ls : Array Slot} {a0 : Nat} {x1 : Int32} {a2 : Nat}, wp_L_positionCount_0 D post S a0 x1 a2 → wO D cy X A s.heap S H locs → wX D S0 S → lv_has ls 4 [(0, .ref a0), (1, .int x1), (2, .ref a2)] → wM D S a0 → sK S a0 = 16 → wM D S a2 → sK S a2 = 22 → W p l e r_L_positionCount s m args below meth c H locs 0 0 (vx_MQ below (va_Qi (fun r S9 => wX D S0 S9 ∧ post r S9) (wB D cy X A) A) (wEx D cy X A (fun _ _ => False)) args s 1 6 A) (F0 m 0 ls []) := by
  obtain ⟨hx, hb, hml, hown, hts⟩ := id F
  have hwg : ∀ w ∈ WG, w.before args s = true := fun w h => hts w (List.mem_cons_of_mem _ h)
  intro S H locs ls a0 x1 a2 hp hW hE hl hL_a0 hK_a0 hL_a2 hK_a2
  unfold wp_L_positionCount_0 at hp
  refine lv_aload_n hx hb dL_positionCount_0 rfl (lv_at hl 2 rfl) ?_
  refine lv_iconst (v := 0) hx hb dL_positionCount_1 (by decide) ?_
  refine lv_aload_n hx hb dL_positionCount_2 rfl (lv_at hl 0 rfl) ?_
  refine lv_iload_n hx hb dL_positionCount_3 rfl (lv_at hl 1 rfl) ?_
  refine x_callI (vx_runV (As := [.int x1]) (rest := [.int (0 : Int32), .ref a2]) F (c_X11_positionCount l hl0 hL_a0 hK_a0 hp H.size) (cwV (C := RX11) 1 hts (wg_V wm_RL_99 wy_X11_positionCount) rfl rfl rfl (by decide +kernel) ⟨Nat.le_of_ble_eq_true rfl, Nat.le_of_ble_eq_true rfl⟩) (w_preV hK hW hL_a0 hK_a0 (by decide) rfl) rfl rfl hl.1 rfl (lv_room (Nat.le_of_ble_eq_true rfl)) dL_positionCount_4 ⟨Nat.le_of_ble_eq_true rfl, Nat.le_of_ble_eq_true rfl⟩) hW (fun E ce q9 S9 H locs hp hW h1 h2 h3 => ?_) (fun r_1 S_2 H locs hp hW => ?_)
  · obtain ⟨hX_9, hp⟩ := hp
    have hE := hE.trans hX_9
    obtain ⟨z0, htl, ez0⟩ := x_tab1 htab
    rcases hp with ⟨hEe, hp⟩
    · subst hEe
      refine x_catch (nm := "java/lang/IndexOutOfBoundsException") F hK [] z0 [] (by rw [htl]; rfl) ez0 (by decide) (by decide) (fun z hz => nomatch hz) (hwg _ wc_RL_18) (by decide +kernel) h1 h2 h3 ?_
      refine W.widen (k := 1) (n := 6) (by decide) (by decide) ?_
      refine lv_astore_n (lv' := [(3, .ref q9), (0, .ref a0), (1, .int x1), (2, .ref a2)]) hx hb dL_positionCount_12 rfl hl (by decide) rfl (fun ls hl => ?_)
      refine lv_iconst (v := 1) hx hb dL_positionCount_13 (by decide) ?_
      refine vx_ret ?_
      exact w_iret hx hb hr hlocks hW ⟨hE, hp⟩ dL_positionCount_14
  · obtain ⟨hX_S_2, hp⟩ := hp
    refine W.widen (k := 1) (n := 6) (by decide) (by decide) ?_
    have hE := hE.trans hX_S_2
    have hK_a0 : sK S_2 a0 = 16 := (hX_S_2.2 a0 hL_a0).1.trans hK_a0
    have hL_a0 : wM D S_2 a0 := hX_S_2.M hL_a0
    have hK_a2 : sK S_2 a2 = 22 := (hX_S_2.2 a2 hL_a2).1.trans hK_a2
    have hL_a2 : wM D S_2 a2 := hX_S_2.M hL_a2
    refine lv_i2l (v := (Int32.toInt64 r_1)) hx hb dL_positionCount_7 rfl ?_
    obtain ⟨h_3m, h_3, hp⟩ := hp
    refine w_lst F hK hW h_3m hK_a2 h_3 dL_positionCount_8 (fun H locs hW => ?_)
    obtain ⟨S_4, eS_4⟩ : ∃ z : wS, z = uJ S_2 a2 ((0 : Int32)).toNatClampNeg (Int32.toInt64 r_1) := ⟨_, rfl⟩
    rw [← eS_4] at hW
    replace hp := hp S_4 eS_4
    have hX_S_4 : wX D S_2 S_4 := by rw [eS_4]; exact wX_uJ
    have hE := hE.trans hX_S_4
    have hK_a0 : sK S_4 a0 = 16 := (hX_S_4.2 a0 hL_a0).1.trans hK_a0
    have hL_a0 : wM D S_4 a0 := hX_S_4.M hL_a0
    have hK_a2 : sK S_4 a2 = 22 := (hX_S_4.2 a2 hL_a2).1.trans hK_a2
    have hL_a2 : wM D S_4 a2 := hX_S_4.M hL_a2
    refine lv_goto (tgt := 15) hx hb dL_positionCount_9 (by decide) ?_
    refine lv_iconst (v := 0) hx hb dL_positionCount_15 (by decide) ?_
    refine vx_ret ?_
    exact w_iret hx hb hr hlocks hW ⟨hE, hp⟩ dL_positionCount_16
set_option maxHeartbeats 4000000 in
set_option maxRecDepth 100000 in
theorem c_L_positionCount (l : Launch) {D : wD} {cy : Nat → ClassId} {X : va_W} {S0 : wS} {post : Int32 → wS → Prop} (hl0 : l.stackTraces = false) {a0 : Nat} {x1 : Int32} {a2 : Nat} (hL_a0 : wM D S0 a0) (hK_a0 : sK S0 a0 = 16) (hL_a2 : wM D S0 a2) (hK_a2 : sK S0 a2 = 22) (hp : wp_L_positionCount D post S0 a0 x1 a2) : xI D cy X l yL_positionCount wz_L_positionCount r_L_positionCount [.ref a0, .int x1, .ref a2] S0 (fun r S9 => wX D S0 S9 ∧ post r S9) (fun _ _ => False) := by
  intro sz
  refine vx_ofWH (hh := [(0, 9, 12, 18)]) (cc := cL_positionCount) (maxL := 4) (ret := (some .int)) (by decide) rfl ?_
  intro p e s m args below meth c s₁ B hml hv
  obtain ⟨rfl, hsz, hP, hK, hD0, hRO⟩ := hv
  have hts := atoms_spec (ws := wz_L_positionCount) B.pre
  have hown : s.vm.findClass RL = some m.cls := findClass_of_methodNamed B.named
  subst hsz
  have hD := hD0.self (sz := s.heap.size)
  have F : CallFix p m c cL_positionCount 4 s _ wz_L_positionCount RL := ⟨B.exec, B.bytes, hml, hown, hts⟩
  have htab : c.exceptionTable.toList.map xhF = [(0, 9, 12, 18)] := by
    obtain ⟨m9, meth9, c9, g0, g1, g2, -, -, g3, -⟩ := Cond.codeWith_spec (hts _ List.mem_cons_self)
    cases Option.some.inj (g0.symm.trans B.named)
    cases Option.some.inj (g1.symm.trans B.method)
    cases Option.some.inj (g2.symm.trans (Stand.of_body B).code)
    exact g3
  have hr := B.returns
  have hlocks := B.notSynchronized
  generalize hAe : va_A (wL cy X S0) s.heap.size = A at hD hK ⊢
  have hA : ∀ q, s.heap.size ≤ q → A q := fun q h => by rw [← hAe]; exact Or.inr h
  have hW : wO D cy X A s.heap S0 s.heap [] := ⟨hP, hD, va_S.rf, hA, hRO⟩
  have hl := lv_entry ([.ref a0, .int x1, .ref a2]) (n := 4) (Nat.le_of_ble_eq_true rfl)
  rw [lg_entry_eq]
  generalize (lg_sl ([.ref a0, .int x1, .ref a2]) ++ List.replicate (4 - (lg_sl ([.ref a0, .int x1, .ref a2])).length) Slot.unset).toArray = ls at hl ⊢
  have hl : lv_has ls 4 [(0, .ref a0), (1, .int x1), (2, .ref a2)] := hl
  unfold wp_L_positionCount at hp
  exact t_L_positionCount_0 F hr hlocks hK hl0 htab hp hW wX.rf (lv_sub hl [0, 1, 2] rfl) hL_a0 hK_a0 hL_a2 hK_a2
def wp_L_count_0 (D : wD) (post : Int32 → wS → Prop)  (S : wS) (a0 : Nat) (x1 : Int32) (a2 : Nat) : Prop :=
wp_X11_count D (fun r_1 S_2 => 
a2 ∈ sL S_2 ∧ vp_in (0 : Int32) (sN S_2 a2) ∧
∀ S_4 : wS, S_4 = uJ S_2 a2 ((0 : Int32)).toNatClampNeg (Int32.toInt64 r_1) →
post (0 : Int32) S_4) (fun E_9 S9 => (E_9 = "java/lang/IndexOutOfBoundsException" ∧ post (1 : Int32) S9)) S a0 x1
abbrev r_L_count : Room := { frames := 8, cells := 1, slots := 6, locals := 162 }
def wp_L_count (D : wD) (post : Int32 → wS → Prop) (S : wS) (a0 : Nat) (x1 : Int32) (a2 : Nat) : Prop := wp_L_count_0 D post S a0 x1 a2
set_option maxHeartbeats 4000000 in
set_option maxRecDepth 100000 in
theorem t_L_count_0 {p : Program} {l : Launch} {e : Env} {s : State} {m : MethodId} {args : Array Value} {below : List Frame} {meth : Method} {c : Code} {D : wD} {cy : Nat → ClassId} {X : va_W} {A : Nat → Prop} {S0 : wS} {post : Int32 → wS → Prop} (F : CallFix p m c cL_count 4 s args wz_L_count RL) (hr : meth.sig.returnType = (some .int)) (hlocks : meth.locks = false) (hK : wK D cy A s) (hl0 : l.stackTraces = false) (htab : c.exceptionTable.toList.map xhF = [(0, 9, 12, 18)]) : ∀ {S : wS} {H : Heap} {locs : List Loc} {ls : Array Slot} {a0 : Nat} {x1 : Int32} {a2 : Nat}, wp_L_count_0 D post S a0 x1 a2 → wO D cy X A s.heap S H locs → wX D S0 S → lv_has ls 4 [(0, .ref a0), (1, .int x1), (2, .ref a2)] → wM D S a0 → sK S a0 = 16 → wM D S a2 → sK S a2 = 22 → W p l e r_L_count s m args below meth c H locs 0 0 (vx_MQ below (va_Qi (fun r S9 => wX D S0 S9 ∧ post r S9) (wB D cy X A) A) (wEx D cy X A (fun _ _ => False)) args s 1 6 A) (F0 m 0 ls []) := by
  obtain ⟨hx, hb, hml, hown, hts⟩ := id F
  have hwg : ∀ w ∈ WG, w.before args s = true := fun w h => hts w (List.mem_cons_of_mem _ h)
  intro S H locs ls a0 x1 a2 hp hW hE hl hL_a0 hK_a0 hL_a2 hK_a2
  unfold wp_L_count_0 at hp
  refine lv_aload_n hx hb dL_count_0 rfl (lv_at hl 2 rfl) ?_
  refine lv_iconst (v := 0) hx hb dL_count_1 (by decide) ?_
  refine lv_aload_n hx hb dL_count_2 rfl (lv_at hl 0 rfl) ?_
  refine lv_iload_n hx hb dL_count_3 rfl (lv_at hl 1 rfl) ?_
  refine x_callI (vx_runV (As := [.int x1]) (rest := [.int (0 : Int32), .ref a2]) F (c_X11_count l hl0 hL_a0 hK_a0 hp H.size) (cwV (C := RX11) 1 hts (wg_V wm_RL_102 wy_X11_count) rfl rfl rfl (by decide +kernel) ⟨Nat.le_of_ble_eq_true rfl, Nat.le_of_ble_eq_true rfl⟩) (w_preV hK hW hL_a0 hK_a0 (by decide) rfl) rfl rfl hl.1 rfl (lv_room (Nat.le_of_ble_eq_true rfl)) dL_count_4 ⟨Nat.le_of_ble_eq_true rfl, Nat.le_of_ble_eq_true rfl⟩) hW (fun E ce q9 S9 H locs hp hW h1 h2 h3 => ?_) (fun r_1 S_2 H locs hp hW => ?_)
  · obtain ⟨hX_9, hp⟩ := hp
    have hE := hE.trans hX_9
    obtain ⟨z0, htl, ez0⟩ := x_tab1 htab
    rcases hp with ⟨hEe, hp⟩
    · subst hEe
      refine x_catch (nm := "java/lang/IndexOutOfBoundsException") F hK [] z0 [] (by rw [htl]; rfl) ez0 (by decide) (by decide) (fun z hz => nomatch hz) (hwg _ wc_RL_18) (by decide +kernel) h1 h2 h3 ?_
      refine W.widen (k := 1) (n := 6) (by decide) (by decide) ?_
      refine lv_astore_n (lv' := [(3, .ref q9), (0, .ref a0), (1, .int x1), (2, .ref a2)]) hx hb dL_count_12 rfl hl (by decide) rfl (fun ls hl => ?_)
      refine lv_iconst (v := 1) hx hb dL_count_13 (by decide) ?_
      refine vx_ret ?_
      exact w_iret hx hb hr hlocks hW ⟨hE, hp⟩ dL_count_14
  · obtain ⟨hX_S_2, hp⟩ := hp
    refine W.widen (k := 1) (n := 6) (by decide) (by decide) ?_
    have hE := hE.trans hX_S_2
    have hK_a0 : sK S_2 a0 = 16 := (hX_S_2.2 a0 hL_a0).1.trans hK_a0
    have hL_a0 : wM D S_2 a0 := hX_S_2.M hL_a0
    have hK_a2 : sK S_2 a2 = 22 := (hX_S_2.2 a2 hL_a2).1.trans hK_a2
    have hL_a2 : wM D S_2 a2 := hX_S_2.M hL_a2
    refine lv_i2l (v := (Int32.toInt64 r_1)) hx hb dL_count_7 rfl ?_
    obtain ⟨h_3m, h_3, hp⟩ := hp
    refine w_lst F hK hW h_3m hK_a2 h_3 dL_count_8 (fun H locs hW => ?_)
    obtain ⟨S_4, eS_4⟩ : ∃ z : wS, z = uJ S_2 a2 ((0 : Int32)).toNatClampNeg (Int32.toInt64 r_1) := ⟨_, rfl⟩
    rw [← eS_4] at hW
    replace hp := hp S_4 eS_4
    have hX_S_4 : wX D S_2 S_4 := by rw [eS_4]; exact wX_uJ
    have hE := hE.trans hX_S_4
    have hK_a0 : sK S_4 a0 = 16 := (hX_S_4.2 a0 hL_a0).1.trans hK_a0
    have hL_a0 : wM D S_4 a0 := hX_S_4.M hL_a0
    have hK_a2 : sK S_4 a2 = 22 := (hX_S_4.2 a2 hL_a2).1.trans hK_a2
    have hL_a2 : wM D S_4 a2 := hX_S_4.M hL_a2
    refine lv_goto (tgt := 15) hx hb dL_count_9 (by decide) ?_
    refine lv_iconst (v := 0) hx hb dL_count_15 (by decide) ?_
    refine vx_ret ?_
    exact w_iret hx hb hr hlocks hW ⟨hE, hp⟩ dL_count_16
set_option maxHeartbeats 4000000 in
set_option maxRecDepth 100000 in
theorem c_L_count (l : Launch) {D : wD} {cy : Nat → ClassId} {X : va_W} {S0 : wS} {post : Int32 → wS → Prop} (hl0 : l.stackTraces = false) {a0 : Nat} {x1 : Int32} {a2 : Nat} (hL_a0 : wM D S0 a0) (hK_a0 : sK S0 a0 = 16) (hL_a2 : wM D S0 a2) (hK_a2 : sK S0 a2 = 22) (hp : wp_L_count D post S0 a0 x1 a2) : xI D cy X l yL_count wz_L_count r_L_count [.ref a0, .int x1, .ref a2] S0 (fun r S9 => wX D S0 S9 ∧ post r S9) (fun _ _ => False) := by
  intro sz
  refine vx_ofWH (hh := [(0, 9, 12, 18)]) (cc := cL_count) (maxL := 4) (ret := (some .int)) (by decide) rfl ?_
  intro p e s m args below meth c s₁ B hml hv
  obtain ⟨rfl, hsz, hP, hK, hD0, hRO⟩ := hv
  have hts := atoms_spec (ws := wz_L_count) B.pre
  have hown : s.vm.findClass RL = some m.cls := findClass_of_methodNamed B.named
  subst hsz
  have hD := hD0.self (sz := s.heap.size)
  have F : CallFix p m c cL_count 4 s _ wz_L_count RL := ⟨B.exec, B.bytes, hml, hown, hts⟩
  have htab : c.exceptionTable.toList.map xhF = [(0, 9, 12, 18)] := by
    obtain ⟨m9, meth9, c9, g0, g1, g2, -, -, g3, -⟩ := Cond.codeWith_spec (hts _ List.mem_cons_self)
    cases Option.some.inj (g0.symm.trans B.named)
    cases Option.some.inj (g1.symm.trans B.method)
    cases Option.some.inj (g2.symm.trans (Stand.of_body B).code)
    exact g3
  have hr := B.returns
  have hlocks := B.notSynchronized
  generalize hAe : va_A (wL cy X S0) s.heap.size = A at hD hK ⊢
  have hA : ∀ q, s.heap.size ≤ q → A q := fun q h => by rw [← hAe]; exact Or.inr h
  have hW : wO D cy X A s.heap S0 s.heap [] := ⟨hP, hD, va_S.rf, hA, hRO⟩
  have hl := lv_entry ([.ref a0, .int x1, .ref a2]) (n := 4) (Nat.le_of_ble_eq_true rfl)
  rw [lg_entry_eq]
  generalize (lg_sl ([.ref a0, .int x1, .ref a2]) ++ List.replicate (4 - (lg_sl ([.ref a0, .int x1, .ref a2])).length) Slot.unset).toArray = ls at hl ⊢
  have hl : lv_has ls 4 [(0, .ref a0), (1, .int x1), (2, .ref a2)] := hl
  unfold wp_L_count at hp
  exact t_L_count_0 F hr hlocks hK hl0 htab hp hW wX.rf (lv_sub hl [0, 1, 2] rfl) hL_a0 hK_a0 hL_a2 hK_a2
def wp_L_countWith_0 (D : wD) (post : Int32 → wS → Prop)  (S : wS) (a0 : Nat) (x1 : Int32) (x2 : Int32) (a3 : Nat) : Prop :=
wp_X11_countWith D (fun r_1 S_2 => 
a3 ∈ sL S_2 ∧ vp_in (0 : Int32) (sN S_2 a3) ∧
∀ S_4 : wS, S_4 = uJ S_2 a3 ((0 : Int32)).toNatClampNeg (Int32.toInt64 r_1) →
post (0 : Int32) S_4) (fun E_9 S9 => (E_9 = "java/lang/IndexOutOfBoundsException" ∧ post (1 : Int32) S9) ∨ (E_9 = "java/lang/IllegalArgumentException" ∧ post (2 : Int32) S9)) S a0 x1 x2
abbrev r_L_countWith : Room := { frames := 8, cells := 2, slots := 12, locals := 164 }
def wp_L_countWith (D : wD) (post : Int32 → wS → Prop) (S : wS) (a0 : Nat) (x1 : Int32) (x2 : Int32) (a3 : Nat) : Prop := wp_L_countWith_0 D post S a0 x1 x2 a3
set_option maxHeartbeats 4000000 in
set_option maxRecDepth 100000 in
theorem t_L_countWith_0 {p : Program} {l : Launch} {e : Env} {s : State} {m : MethodId} {args : Array Value} {below : List Frame} {meth : Method} {c : Code} {D : wD} {cy : Nat → ClassId} {X : va_W} {A : Nat → Prop} {S0 : wS} {post : Int32 → wS → Prop} (F : CallFix p m c cL_countWith 5 s args wz_L_countWith RL) (hr : meth.sig.returnType = (some .int)) (hlocks : meth.locks = false) (hK : wK D cy A s) (hl0 : l.stackTraces = false) (htab : c.exceptionTable.toList.map xhF = [(0, 10, 13, 18), (0, 10, 17, 13)]) : ∀ {S : wS} {H : Heap} {locs : List Loc} {ls : Array Slot} {a0 : Nat} {x1 : Int32} {x2 : Int32} {a3 : Nat}, wp_L_countWith_0 D post S a0 x1 x2 a3 → wO D cy X A s.heap S H locs → wX D S0 S → lv_has ls 5 [(0, .ref a0), (1, .int x1), (2, .int x2), (3, .ref a3)] → wM D S a0 → sK S a0 = 16 → wM D S a3 → sK S a3 = 22 → W p l e r_L_countWith s m args below meth c H locs 0 0 (vx_MQ below (va_Qi (fun r S9 => wX D S0 S9 ∧ post r S9) (wB D cy X A) A) (wEx D cy X A (fun _ _ => False)) args s 2 12 A) (F0 m 0 ls []) := by
  obtain ⟨hx, hb, hml, hown, hts⟩ := id F
  have hwg : ∀ w ∈ WG, w.before args s = true := fun w h => hts w (List.mem_cons_of_mem _ h)
  intro S H locs ls a0 x1 x2 a3 hp hW hE hl hL_a0 hK_a0 hL_a3 hK_a3
  unfold wp_L_countWith_0 at hp
  refine lv_aload_n hx hb dL_countWith_0 rfl (lv_at hl 3 rfl) ?_
  refine lv_iconst (v := 0) hx hb dL_countWith_1 (by decide) ?_
  refine lv_aload_n hx hb dL_countWith_2 rfl (lv_at hl 0 rfl) ?_
  refine lv_iload_n hx hb dL_countWith_3 rfl (lv_at hl 1 rfl) ?_
  refine lv_iload_n hx hb dL_countWith_4 rfl (lv_at hl 2 rfl) ?_
  refine x_callI (vx_runV (As := [.int x1, .int x2]) (rest := [.int (0 : Int32), .ref a3]) F (c_X11_countWith l hl0 hL_a0 hK_a0 hp H.size) (cwV (C := RX11) 2 hts (wg_V wm_RL_105 wy_X11_countWith) rfl rfl rfl (by decide +kernel) ⟨Nat.le_of_ble_eq_true rfl, Nat.le_of_ble_eq_true rfl⟩) (w_preV hK hW hL_a0 hK_a0 (by decide) rfl) rfl rfl hl.1 rfl (lv_room (Nat.le_of_ble_eq_true rfl)) dL_countWith_5 ⟨Nat.le_of_ble_eq_true rfl, Nat.le_of_ble_eq_true rfl⟩) hW (fun E ce q9 S9 H locs hp hW h1 h2 h3 => ?_) (fun r_1 S_2 H locs hp hW => ?_)
  · obtain ⟨hX_9, hp⟩ := hp
    have hE := hE.trans hX_9
    obtain ⟨z0, z1, htl, ez0, ez1⟩ := x_tab2 htab
    rcases hp with ⟨hEe, hp⟩ | ⟨hEe, hp⟩
    · subst hEe
      refine x_catch (nm := "java/lang/IndexOutOfBoundsException") F hK [] z0 [z1] (by rw [htl]; rfl) ez0 (by decide) (by decide) (fun z hz => nomatch hz) (hwg _ wc_RL_18) (by decide +kernel) h1 h2 h3 ?_
      refine W.widen (k := 2) (n := 12) (by decide) (by decide) ?_
      refine lv_astore (lv' := [(4, .ref q9), (0, .ref a0), (1, .int x1), (2, .int x2), (3, .ref a3)]) hx hb dL_countWith_13 hl (by decide) rfl (fun ls hl => ?_)
      refine lv_iconst (v := 1) hx hb dL_countWith_15 (by decide) ?_
      refine vx_ret ?_
      exact w_iret hx hb hr hlocks hW ⟨hE, hp⟩ dL_countWith_16
    · subst hEe
      refine x_catch (nm := "java/lang/IllegalArgumentException") F hK [z0] z1 [] (by rw [htl]; rfl) ez1 (by decide) (by decide) (fun z hz => by
          simp only [List.mem_cons, List.not_mem_nil, or_false] at hz
          rcases hz with hz
          · rw [hz]; exact ⟨by rw [show z0.catchType = 18 from congrArg (fun q => q.2.2.2) ez0]; decide, "java/lang/IndexOutOfBoundsException", by rw [show z0.catchType = 18 from congrArg (fun q => q.2.2.2) ez0]; exact hwg _ wc_RL_18, by decide +kernel⟩) (hwg _ wc_RL_13) (by decide +kernel) h1 h2 h3 ?_
      refine W.widen (k := 2) (n := 12) (by decide) (by decide) ?_
      refine lv_astore (lv' := [(4, .ref q9), (0, .ref a0), (1, .int x1), (2, .int x2), (3, .ref a3)]) hx hb dL_countWith_17 hl (by decide) rfl (fun ls hl => ?_)
      refine lv_iconst (v := 2) hx hb dL_countWith_19 (by decide) ?_
      refine vx_ret ?_
      exact w_iret hx hb hr hlocks hW ⟨hE, hp⟩ dL_countWith_20
  · obtain ⟨hX_S_2, hp⟩ := hp
    refine W.widen (k := 2) (n := 12) (by decide) (by decide) ?_
    have hE := hE.trans hX_S_2
    have hK_a0 : sK S_2 a0 = 16 := (hX_S_2.2 a0 hL_a0).1.trans hK_a0
    have hL_a0 : wM D S_2 a0 := hX_S_2.M hL_a0
    have hK_a3 : sK S_2 a3 = 22 := (hX_S_2.2 a3 hL_a3).1.trans hK_a3
    have hL_a3 : wM D S_2 a3 := hX_S_2.M hL_a3
    refine lv_i2l (v := (Int32.toInt64 r_1)) hx hb dL_countWith_8 rfl ?_
    obtain ⟨h_3m, h_3, hp⟩ := hp
    refine w_lst F hK hW h_3m hK_a3 h_3 dL_countWith_9 (fun H locs hW => ?_)
    obtain ⟨S_4, eS_4⟩ : ∃ z : wS, z = uJ S_2 a3 ((0 : Int32)).toNatClampNeg (Int32.toInt64 r_1) := ⟨_, rfl⟩
    rw [← eS_4] at hW
    replace hp := hp S_4 eS_4
    have hX_S_4 : wX D S_2 S_4 := by rw [eS_4]; exact wX_uJ
    have hE := hE.trans hX_S_4
    have hK_a0 : sK S_4 a0 = 16 := (hX_S_4.2 a0 hL_a0).1.trans hK_a0
    have hL_a0 : wM D S_4 a0 := hX_S_4.M hL_a0
    have hK_a3 : sK S_4 a3 = 22 := (hX_S_4.2 a3 hL_a3).1.trans hK_a3
    have hL_a3 : wM D S_4 a3 := hX_S_4.M hL_a3
    refine lv_goto (tgt := 21) hx hb dL_countWith_10 (by decide) ?_
    refine lv_iconst (v := 0) hx hb dL_countWith_21 (by decide) ?_
    refine vx_ret ?_
    exact w_iret hx hb hr hlocks hW ⟨hE, hp⟩ dL_countWith_22
set_option maxHeartbeats 4000000 in
set_option maxRecDepth 100000 in
theorem c_L_countWith (l : Launch) {D : wD} {cy : Nat → ClassId} {X : va_W} {S0 : wS} {post : Int32 → wS → Prop} (hl0 : l.stackTraces = false) {a0 : Nat} {x1 : Int32} {x2 : Int32} {a3 : Nat} (hL_a0 : wM D S0 a0) (hK_a0 : sK S0 a0 = 16) (hL_a3 : wM D S0 a3) (hK_a3 : sK S0 a3 = 22) (hp : wp_L_countWith D post S0 a0 x1 x2 a3) : xI D cy X l yL_countWith wz_L_countWith r_L_countWith [.ref a0, .int x1, .int x2, .ref a3] S0 (fun r S9 => wX D S0 S9 ∧ post r S9) (fun _ _ => False) := by
  intro sz
  refine vx_ofWH (hh := [(0, 10, 13, 18), (0, 10, 17, 13)]) (cc := cL_countWith) (maxL := 5) (ret := (some .int)) (by decide) rfl ?_
  intro p e s m args below meth c s₁ B hml hv
  obtain ⟨rfl, hsz, hP, hK, hD0, hRO⟩ := hv
  have hts := atoms_spec (ws := wz_L_countWith) B.pre
  have hown : s.vm.findClass RL = some m.cls := findClass_of_methodNamed B.named
  subst hsz
  have hD := hD0.self (sz := s.heap.size)
  have F : CallFix p m c cL_countWith 5 s _ wz_L_countWith RL := ⟨B.exec, B.bytes, hml, hown, hts⟩
  have htab : c.exceptionTable.toList.map xhF = [(0, 10, 13, 18), (0, 10, 17, 13)] := by
    obtain ⟨m9, meth9, c9, g0, g1, g2, -, -, g3, -⟩ := Cond.codeWith_spec (hts _ List.mem_cons_self)
    cases Option.some.inj (g0.symm.trans B.named)
    cases Option.some.inj (g1.symm.trans B.method)
    cases Option.some.inj (g2.symm.trans (Stand.of_body B).code)
    exact g3
  have hr := B.returns
  have hlocks := B.notSynchronized
  generalize hAe : va_A (wL cy X S0) s.heap.size = A at hD hK ⊢
  have hA : ∀ q, s.heap.size ≤ q → A q := fun q h => by rw [← hAe]; exact Or.inr h
  have hW : wO D cy X A s.heap S0 s.heap [] := ⟨hP, hD, va_S.rf, hA, hRO⟩
  have hl := lv_entry ([.ref a0, .int x1, .int x2, .ref a3]) (n := 5) (Nat.le_of_ble_eq_true rfl)
  rw [lg_entry_eq]
  generalize (lg_sl ([.ref a0, .int x1, .int x2, .ref a3]) ++ List.replicate (5 - (lg_sl ([.ref a0, .int x1, .int x2, .ref a3])).length) Slot.unset).toArray = ls at hl ⊢
  have hl : lv_has ls 5 [(0, .ref a0), (1, .int x1), (2, .int x2), (3, .ref a3)] := hl
  unfold wp_L_countWith at hp
  exact t_L_countWith_0 F hr hlocks hK hl0 htab hp hW wX.rf (lv_sub hl [0, 1, 2, 3] rfl) hL_a0 hK_a0 hL_a3 hK_a3
def wp_L_countYears_0 (D : wD) (post : Int32 → wS → Prop)  (S : wS) (a0 : Nat) (x1 : Int32) (x2 : Int32) (x3 : Int32) (a4 : Nat) : Prop :=
wp_X11_countYears D (fun r_1 S_2 => 
a4 ∈ sL S_2 ∧ vp_in (0 : Int32) (sN S_2 a4) ∧
∀ S_4 : wS, S_4 = uJ S_2 a4 ((0 : Int32)).toNatClampNeg (Int32.toInt64 r_1) →
post (0 : Int32) S_4) (fun E_9 S9 => (E_9 = "java/lang/IndexOutOfBoundsException" ∧ post (1 : Int32) S9) ∨ (E_9 = "java/lang/IllegalArgumentException" ∧ post (2 : Int32) S9)) S a0 x1 x2 x3
abbrev r_L_countYears : Room := { frames := 8, cells := 2, slots := 12, locals := 165 }
def wp_L_countYears (D : wD) (post : Int32 → wS → Prop) (S : wS) (a0 : Nat) (x1 : Int32) (x2 : Int32) (x3 : Int32) (a4 : Nat) : Prop := wp_L_countYears_0 D post S a0 x1 x2 x3 a4
set_option maxHeartbeats 4000000 in
set_option maxRecDepth 100000 in
theorem t_L_countYears_0 {p : Program} {l : Launch} {e : Env} {s : State} {m : MethodId} {args : Array Value} {below : List Frame} {meth : Method} {c : Code} {D : wD} {cy : Nat → ClassId} {X : va_W} {A : Nat → Prop} {S0 : wS} {post : Int32 → wS → Prop} (F : CallFix p m c cL_countYears 6 s args wz_L_countYears RL) (hr : meth.sig.returnType = (some .int)) (hlocks : meth.locks = false) (hK : wK D cy A s) (hl0 : l.stackTraces = false) (htab : c.exceptionTable.toList.map xhF = [(0, 12, 15, 18), (0, 12, 19, 13)]) : ∀ {S : wS} {H : Heap} {locs : List Loc} {ls : Array Slot} {a0 : Nat} {x1 : Int32} {x2 : Int32} {x3 : Int32} {a4 : Nat}, wp_L_countYears_0 D post S a0 x1 x2 x3 a4 → wO D cy X A s.heap S H locs → wX D S0 S → lv_has ls 6 [(0, .ref a0), (1, .int x1), (2, .int x2), (3, .int x3), (4, .ref a4)] → wM D S a0 → sK S a0 = 16 → wM D S a4 → sK S a4 = 22 → W p l e r_L_countYears s m args below meth c H locs 0 0 (vx_MQ below (va_Qi (fun r S9 => wX D S0 S9 ∧ post r S9) (wB D cy X A) A) (wEx D cy X A (fun _ _ => False)) args s 2 12 A) (F0 m 0 ls []) := by
  obtain ⟨hx, hb, hml, hown, hts⟩ := id F
  have hwg : ∀ w ∈ WG, w.before args s = true := fun w h => hts w (List.mem_cons_of_mem _ h)
  intro S H locs ls a0 x1 x2 x3 a4 hp hW hE hl hL_a0 hK_a0 hL_a4 hK_a4
  unfold wp_L_countYears_0 at hp
  refine lv_aload hx hb dL_countYears_0 (lv_at hl 4 rfl) ?_
  refine lv_iconst (v := 0) hx hb dL_countYears_2 (by decide) ?_
  refine lv_aload_n hx hb dL_countYears_3 rfl (lv_at hl 0 rfl) ?_
  refine lv_iload_n hx hb dL_countYears_4 rfl (lv_at hl 1 rfl) ?_
  refine lv_iload_n hx hb dL_countYears_5 rfl (lv_at hl 2 rfl) ?_
  refine lv_iload_n hx hb dL_countYears_6 rfl (lv_at hl 3 rfl) ?_
  refine x_callI (vx_runV (As := [.int x1, .int x2, .int x3]) (rest := [.int (0 : Int32), .ref a4]) F (c_X11_countYears l hl0 hL_a0 hK_a0 hp H.size) (cwV (C := RX11) 3 hts (wg_V wm_RL_108 wy_X11_countYears) rfl rfl rfl (by decide +kernel) ⟨Nat.le_of_ble_eq_true rfl, Nat.le_of_ble_eq_true rfl⟩) (w_preV hK hW hL_a0 hK_a0 (by decide) rfl) rfl rfl hl.1 rfl (lv_room (Nat.le_of_ble_eq_true rfl)) dL_countYears_7 ⟨Nat.le_of_ble_eq_true rfl, Nat.le_of_ble_eq_true rfl⟩) hW (fun E ce q9 S9 H locs hp hW h1 h2 h3 => ?_) (fun r_1 S_2 H locs hp hW => ?_)
  · obtain ⟨hX_9, hp⟩ := hp
    have hE := hE.trans hX_9
    obtain ⟨z0, z1, htl, ez0, ez1⟩ := x_tab2 htab
    rcases hp with ⟨hEe, hp⟩ | ⟨hEe, hp⟩
    · subst hEe
      refine x_catch (nm := "java/lang/IndexOutOfBoundsException") F hK [] z0 [z1] (by rw [htl]; rfl) ez0 (by decide) (by decide) (fun z hz => nomatch hz) (hwg _ wc_RL_18) (by decide +kernel) h1 h2 h3 ?_
      refine W.widen (k := 2) (n := 12) (by decide) (by decide) ?_
      refine lv_astore (lv' := [(5, .ref q9), (0, .ref a0), (1, .int x1), (2, .int x2), (3, .int x3), (4, .ref a4)]) hx hb dL_countYears_15 hl (by decide) rfl (fun ls hl => ?_)
      refine lv_iconst (v := 1) hx hb dL_countYears_17 (by decide) ?_
      refine vx_ret ?_
      exact w_iret hx hb hr hlocks hW ⟨hE, hp⟩ dL_countYears_18
    · subst hEe
      refine x_catch (nm := "java/lang/IllegalArgumentException") F hK [z0] z1 [] (by rw [htl]; rfl) ez1 (by decide) (by decide) (fun z hz => by
          simp only [List.mem_cons, List.not_mem_nil, or_false] at hz
          rcases hz with hz
          · rw [hz]; exact ⟨by rw [show z0.catchType = 18 from congrArg (fun q => q.2.2.2) ez0]; decide, "java/lang/IndexOutOfBoundsException", by rw [show z0.catchType = 18 from congrArg (fun q => q.2.2.2) ez0]; exact hwg _ wc_RL_18, by decide +kernel⟩) (hwg _ wc_RL_13) (by decide +kernel) h1 h2 h3 ?_
      refine W.widen (k := 2) (n := 12) (by decide) (by decide) ?_
      refine lv_astore (lv' := [(5, .ref q9), (0, .ref a0), (1, .int x1), (2, .int x2), (3, .int x3), (4, .ref a4)]) hx hb dL_countYears_19 hl (by decide) rfl (fun ls hl => ?_)
      refine lv_iconst (v := 2) hx hb dL_countYears_21 (by decide) ?_
      refine vx_ret ?_
      exact w_iret hx hb hr hlocks hW ⟨hE, hp⟩ dL_countYears_22
  · obtain ⟨hX_S_2, hp⟩ := hp
    refine W.widen (k := 2) (n := 12) (by decide) (by decide) ?_
    have hE := hE.trans hX_S_2
    have hK_a0 : sK S_2 a0 = 16 := (hX_S_2.2 a0 hL_a0).1.trans hK_a0
    have hL_a0 : wM D S_2 a0 := hX_S_2.M hL_a0
    have hK_a4 : sK S_2 a4 = 22 := (hX_S_2.2 a4 hL_a4).1.trans hK_a4
    have hL_a4 : wM D S_2 a4 := hX_S_2.M hL_a4
    refine lv_i2l (v := (Int32.toInt64 r_1)) hx hb dL_countYears_10 rfl ?_
    obtain ⟨h_3m, h_3, hp⟩ := hp
    refine w_lst F hK hW h_3m hK_a4 h_3 dL_countYears_11 (fun H locs hW => ?_)
    obtain ⟨S_4, eS_4⟩ : ∃ z : wS, z = uJ S_2 a4 ((0 : Int32)).toNatClampNeg (Int32.toInt64 r_1) := ⟨_, rfl⟩
    rw [← eS_4] at hW
    replace hp := hp S_4 eS_4
    have hX_S_4 : wX D S_2 S_4 := by rw [eS_4]; exact wX_uJ
    have hE := hE.trans hX_S_4
    have hK_a0 : sK S_4 a0 = 16 := (hX_S_4.2 a0 hL_a0).1.trans hK_a0
    have hL_a0 : wM D S_4 a0 := hX_S_4.M hL_a0
    have hK_a4 : sK S_4 a4 = 22 := (hX_S_4.2 a4 hL_a4).1.trans hK_a4
    have hL_a4 : wM D S_4 a4 := hX_S_4.M hL_a4
    refine lv_goto (tgt := 23) hx hb dL_countYears_12 (by decide) ?_
    refine lv_iconst (v := 0) hx hb dL_countYears_23 (by decide) ?_
    refine vx_ret ?_
    exact w_iret hx hb hr hlocks hW ⟨hE, hp⟩ dL_countYears_24
set_option maxHeartbeats 4000000 in
set_option maxRecDepth 100000 in
theorem c_L_countYears (l : Launch) {D : wD} {cy : Nat → ClassId} {X : va_W} {S0 : wS} {post : Int32 → wS → Prop} (hl0 : l.stackTraces = false) {a0 : Nat} {x1 : Int32} {x2 : Int32} {x3 : Int32} {a4 : Nat} (hL_a0 : wM D S0 a0) (hK_a0 : sK S0 a0 = 16) (hL_a4 : wM D S0 a4) (hK_a4 : sK S0 a4 = 22) (hp : wp_L_countYears D post S0 a0 x1 x2 x3 a4) : xI D cy X l yL_countYears wz_L_countYears r_L_countYears [.ref a0, .int x1, .int x2, .int x3, .ref a4] S0 (fun r S9 => wX D S0 S9 ∧ post r S9) (fun _ _ => False) := by
  intro sz
  refine vx_ofWH (hh := [(0, 12, 15, 18), (0, 12, 19, 13)]) (cc := cL_countYears) (maxL := 6) (ret := (some .int)) (by decide) rfl ?_
  intro p e s m args below meth c s₁ B hml hv
  obtain ⟨rfl, hsz, hP, hK, hD0, hRO⟩ := hv
  have hts := atoms_spec (ws := wz_L_countYears) B.pre
  have hown : s.vm.findClass RL = some m.cls := findClass_of_methodNamed B.named
  subst hsz
  have hD := hD0.self (sz := s.heap.size)
  have F : CallFix p m c cL_countYears 6 s _ wz_L_countYears RL := ⟨B.exec, B.bytes, hml, hown, hts⟩
  have htab : c.exceptionTable.toList.map xhF = [(0, 12, 15, 18), (0, 12, 19, 13)] := by
    obtain ⟨m9, meth9, c9, g0, g1, g2, -, -, g3, -⟩ := Cond.codeWith_spec (hts _ List.mem_cons_self)
    cases Option.some.inj (g0.symm.trans B.named)
    cases Option.some.inj (g1.symm.trans B.method)
    cases Option.some.inj (g2.symm.trans (Stand.of_body B).code)
    exact g3
  have hr := B.returns
  have hlocks := B.notSynchronized
  generalize hAe : va_A (wL cy X S0) s.heap.size = A at hD hK ⊢
  have hA : ∀ q, s.heap.size ≤ q → A q := fun q h => by rw [← hAe]; exact Or.inr h
  have hW : wO D cy X A s.heap S0 s.heap [] := ⟨hP, hD, va_S.rf, hA, hRO⟩
  have hl := lv_entry ([.ref a0, .int x1, .int x2, .int x3, .ref a4]) (n := 6) (Nat.le_of_ble_eq_true rfl)
  rw [lg_entry_eq]
  generalize (lg_sl ([.ref a0, .int x1, .int x2, .int x3, .ref a4]) ++ List.replicate (6 - (lg_sl ([.ref a0, .int x1, .int x2, .int x3, .ref a4])).length) Slot.unset).toArray = ls at hl ⊢
  have hl : lv_has ls 6 [(0, .ref a0), (1, .int x1), (2, .int x2), (3, .int x3), (4, .ref a4)] := hl
  unfold wp_L_countYears at hp
  exact t_L_countYears_0 F hr hlocks hK hl0 htab hp hW wX.rf (lv_sub hl [0, 1, 2, 3, 4] rfl) hL_a0 hK_a0 hL_a4 hK_a4
def wp_L_meanStrength_0 (D : wD) (post : Int32 → wS → Prop)  (S : wS) (a0 : Nat) (x1 : Int32) (x2 : Int32) (a3 : Nat) : Prop :=
wp_X11_meanStrength D (fun r_1 S_2 => 
a3 ∈ sL S_2 ∧ vp_in (0 : Int32) (sN S_2 a3) ∧
∀ S_4 : wS, S_4 = uJ S_2 a3 ((0 : Int32)).toNatClampNeg (Int32.toInt64 r_1) →
post (0 : Int32) S_4) (fun E_9 S9 => (E_9 = "java/lang/IndexOutOfBoundsException" ∧ post (1 : Int32) S9) ∨ (E_9 = "java/util/NoSuchElementException" ∧ post (2 : Int32) S9)) S a0 x1 x2
abbrev r_L_meanStrength : Room := { frames := 8, cells := 2, slots := 12, locals := 167 }
def wp_L_meanStrength (D : wD) (post : Int32 → wS → Prop) (S : wS) (a0 : Nat) (x1 : Int32) (x2 : Int32) (a3 : Nat) : Prop := wp_L_meanStrength_0 D post S a0 x1 x2 a3
set_option maxHeartbeats 4000000 in
set_option maxRecDepth 100000 in
theorem t_L_meanStrength_0 {p : Program} {l : Launch} {e : Env} {s : State} {m : MethodId} {args : Array Value} {below : List Frame} {meth : Method} {c : Code} {D : wD} {cy : Nat → ClassId} {X : va_W} {A : Nat → Prop} {S0 : wS} {post : Int32 → wS → Prop} (F : CallFix p m c cL_meanStrength 5 s args wz_L_meanStrength RL) (hr : meth.sig.returnType = (some .int)) (hlocks : meth.locks = false) (hK : wK D cy A s) (hl0 : l.stackTraces = false) (htab : c.exceptionTable.toList.map xhF = [(0, 10, 13, 18), (0, 10, 17, 115)]) : ∀ {S : wS} {H : Heap} {locs : List Loc} {ls : Array Slot} {a0 : Nat} {x1 : Int32} {x2 : Int32} {a3 : Nat}, wp_L_meanStrength_0 D post S a0 x1 x2 a3 → wO D cy X A s.heap S H locs → wX D S0 S → lv_has ls 5 [(0, .ref a0), (1, .int x1), (2, .int x2), (3, .ref a3)] → wM D S a0 → sK S a0 = 16 → wM D S a3 → sK S a3 = 22 → W p l e r_L_meanStrength s m args below meth c H locs 0 0 (vx_MQ below (va_Qi (fun r S9 => wX D S0 S9 ∧ post r S9) (wB D cy X A) A) (wEx D cy X A (fun _ _ => False)) args s 2 12 A) (F0 m 0 ls []) := by
  obtain ⟨hx, hb, hml, hown, hts⟩ := id F
  have hwg : ∀ w ∈ WG, w.before args s = true := fun w h => hts w (List.mem_cons_of_mem _ h)
  intro S H locs ls a0 x1 x2 a3 hp hW hE hl hL_a0 hK_a0 hL_a3 hK_a3
  unfold wp_L_meanStrength_0 at hp
  refine lv_aload_n hx hb dL_meanStrength_0 rfl (lv_at hl 3 rfl) ?_
  refine lv_iconst (v := 0) hx hb dL_meanStrength_1 (by decide) ?_
  refine lv_aload_n hx hb dL_meanStrength_2 rfl (lv_at hl 0 rfl) ?_
  refine lv_iload_n hx hb dL_meanStrength_3 rfl (lv_at hl 1 rfl) ?_
  refine lv_iload_n hx hb dL_meanStrength_4 rfl (lv_at hl 2 rfl) ?_
  refine x_callI (vx_runV (As := [.int x1, .int x2]) (rest := [.int (0 : Int32), .ref a3]) F (c_X11_meanStrength l hl0 hL_a0 hK_a0 hp H.size) (cwV (C := RX11) 2 hts (wg_V wm_RL_112 wy_X11_meanStrength) rfl rfl rfl (by decide +kernel) ⟨Nat.le_of_ble_eq_true rfl, Nat.le_of_ble_eq_true rfl⟩) (w_preV hK hW hL_a0 hK_a0 (by decide) rfl) rfl rfl hl.1 rfl (lv_room (Nat.le_of_ble_eq_true rfl)) dL_meanStrength_5 ⟨Nat.le_of_ble_eq_true rfl, Nat.le_of_ble_eq_true rfl⟩) hW (fun E ce q9 S9 H locs hp hW h1 h2 h3 => ?_) (fun r_1 S_2 H locs hp hW => ?_)
  · obtain ⟨hX_9, hp⟩ := hp
    have hE := hE.trans hX_9
    obtain ⟨z0, z1, htl, ez0, ez1⟩ := x_tab2 htab
    rcases hp with ⟨hEe, hp⟩ | ⟨hEe, hp⟩
    · subst hEe
      refine x_catch (nm := "java/lang/IndexOutOfBoundsException") F hK [] z0 [z1] (by rw [htl]; rfl) ez0 (by decide) (by decide) (fun z hz => nomatch hz) (hwg _ wc_RL_18) (by decide +kernel) h1 h2 h3 ?_
      refine W.widen (k := 2) (n := 12) (by decide) (by decide) ?_
      refine lv_astore (lv' := [(4, .ref q9), (0, .ref a0), (1, .int x1), (2, .int x2), (3, .ref a3)]) hx hb dL_meanStrength_13 hl (by decide) rfl (fun ls hl => ?_)
      refine lv_iconst (v := 1) hx hb dL_meanStrength_15 (by decide) ?_
      refine vx_ret ?_
      exact w_iret hx hb hr hlocks hW ⟨hE, hp⟩ dL_meanStrength_16
    · subst hEe
      refine x_catch (nm := "java/util/NoSuchElementException") F hK [z0] z1 [] (by rw [htl]; rfl) ez1 (by decide) (by decide) (fun z hz => by
          simp only [List.mem_cons, List.not_mem_nil, or_false] at hz
          rcases hz with hz
          · rw [hz]; exact ⟨by rw [show z0.catchType = 18 from congrArg (fun q => q.2.2.2) ez0]; decide, "java/lang/IndexOutOfBoundsException", by rw [show z0.catchType = 18 from congrArg (fun q => q.2.2.2) ez0]; exact hwg _ wc_RL_18, by decide +kernel⟩) (hwg _ wc_RL_115) (by decide +kernel) h1 h2 h3 ?_
      refine W.widen (k := 2) (n := 12) (by decide) (by decide) ?_
      refine lv_astore (lv' := [(4, .ref q9), (0, .ref a0), (1, .int x1), (2, .int x2), (3, .ref a3)]) hx hb dL_meanStrength_17 hl (by decide) rfl (fun ls hl => ?_)
      refine lv_iconst (v := 2) hx hb dL_meanStrength_19 (by decide) ?_
      refine vx_ret ?_
      exact w_iret hx hb hr hlocks hW ⟨hE, hp⟩ dL_meanStrength_20
  · obtain ⟨hX_S_2, hp⟩ := hp
    refine W.widen (k := 2) (n := 12) (by decide) (by decide) ?_
    have hE := hE.trans hX_S_2
    have hK_a0 : sK S_2 a0 = 16 := (hX_S_2.2 a0 hL_a0).1.trans hK_a0
    have hL_a0 : wM D S_2 a0 := hX_S_2.M hL_a0
    have hK_a3 : sK S_2 a3 = 22 := (hX_S_2.2 a3 hL_a3).1.trans hK_a3
    have hL_a3 : wM D S_2 a3 := hX_S_2.M hL_a3
    refine lv_i2l (v := (Int32.toInt64 r_1)) hx hb dL_meanStrength_8 rfl ?_
    obtain ⟨h_3m, h_3, hp⟩ := hp
    refine w_lst F hK hW h_3m hK_a3 h_3 dL_meanStrength_9 (fun H locs hW => ?_)
    obtain ⟨S_4, eS_4⟩ : ∃ z : wS, z = uJ S_2 a3 ((0 : Int32)).toNatClampNeg (Int32.toInt64 r_1) := ⟨_, rfl⟩
    rw [← eS_4] at hW
    replace hp := hp S_4 eS_4
    have hX_S_4 : wX D S_2 S_4 := by rw [eS_4]; exact wX_uJ
    have hE := hE.trans hX_S_4
    have hK_a0 : sK S_4 a0 = 16 := (hX_S_4.2 a0 hL_a0).1.trans hK_a0
    have hL_a0 : wM D S_4 a0 := hX_S_4.M hL_a0
    have hK_a3 : sK S_4 a3 = 22 := (hX_S_4.2 a3 hL_a3).1.trans hK_a3
    have hL_a3 : wM D S_4 a3 := hX_S_4.M hL_a3
    refine lv_goto (tgt := 21) hx hb dL_meanStrength_10 (by decide) ?_
    refine lv_iconst (v := 0) hx hb dL_meanStrength_21 (by decide) ?_
    refine vx_ret ?_
    exact w_iret hx hb hr hlocks hW ⟨hE, hp⟩ dL_meanStrength_22
set_option maxHeartbeats 4000000 in
set_option maxRecDepth 100000 in
theorem c_L_meanStrength (l : Launch) {D : wD} {cy : Nat → ClassId} {X : va_W} {S0 : wS} {post : Int32 → wS → Prop} (hl0 : l.stackTraces = false) {a0 : Nat} {x1 : Int32} {x2 : Int32} {a3 : Nat} (hL_a0 : wM D S0 a0) (hK_a0 : sK S0 a0 = 16) (hL_a3 : wM D S0 a3) (hK_a3 : sK S0 a3 = 22) (hp : wp_L_meanStrength D post S0 a0 x1 x2 a3) : xI D cy X l yL_meanStrength wz_L_meanStrength r_L_meanStrength [.ref a0, .int x1, .int x2, .ref a3] S0 (fun r S9 => wX D S0 S9 ∧ post r S9) (fun _ _ => False) := by
  intro sz
  refine vx_ofWH (hh := [(0, 10, 13, 18), (0, 10, 17, 115)]) (cc := cL_meanStrength) (maxL := 5) (ret := (some .int)) (by decide) rfl ?_
  intro p e s m args below meth c s₁ B hml hv
  obtain ⟨rfl, hsz, hP, hK, hD0, hRO⟩ := hv
  have hts := atoms_spec (ws := wz_L_meanStrength) B.pre
  have hown : s.vm.findClass RL = some m.cls := findClass_of_methodNamed B.named
  subst hsz
  have hD := hD0.self (sz := s.heap.size)
  have F : CallFix p m c cL_meanStrength 5 s _ wz_L_meanStrength RL := ⟨B.exec, B.bytes, hml, hown, hts⟩
  have htab : c.exceptionTable.toList.map xhF = [(0, 10, 13, 18), (0, 10, 17, 115)] := by
    obtain ⟨m9, meth9, c9, g0, g1, g2, -, -, g3, -⟩ := Cond.codeWith_spec (hts _ List.mem_cons_self)
    cases Option.some.inj (g0.symm.trans B.named)
    cases Option.some.inj (g1.symm.trans B.method)
    cases Option.some.inj (g2.symm.trans (Stand.of_body B).code)
    exact g3
  have hr := B.returns
  have hlocks := B.notSynchronized
  generalize hAe : va_A (wL cy X S0) s.heap.size = A at hD hK ⊢
  have hA : ∀ q, s.heap.size ≤ q → A q := fun q h => by rw [← hAe]; exact Or.inr h
  have hW : wO D cy X A s.heap S0 s.heap [] := ⟨hP, hD, va_S.rf, hA, hRO⟩
  have hl := lv_entry ([.ref a0, .int x1, .int x2, .ref a3]) (n := 5) (Nat.le_of_ble_eq_true rfl)
  rw [lg_entry_eq]
  generalize (lg_sl ([.ref a0, .int x1, .int x2, .ref a3]) ++ List.replicate (5 - (lg_sl ([.ref a0, .int x1, .int x2, .ref a3])).length) Slot.unset).toArray = ls at hl ⊢
  have hl : lv_has ls 5 [(0, .ref a0), (1, .int x1), (2, .int x2), (3, .ref a3)] := hl
  unfold wp_L_meanStrength at hp
  exact t_L_meanStrength_0 F hr hlocks hK hl0 htab hp hW wX.rf (lv_sub hl [0, 1, 2, 3] rfl) hL_a0 hK_a0 hL_a3 hK_a3
def wp_L_continuations_0 (D : wD) (post : Int32 → wS → Prop)  (S : wS) (a0 : Nat) (x1 : Int32) (a2 : Nat) : Prop :=
wp_X11_continuations D (fun r_1 S_2 => 
a2 ∈ sL S_2 ∧ vp_in (0 : Int32) (sN S_2 a2) ∧
∀ S_4 : wS, S_4 = uJ S_2 a2 ((0 : Int32)).toNatClampNeg (Int32.toInt64 r_1) →
post (0 : Int32) S_4) (fun E_9 S9 => (E_9 = "java/lang/IndexOutOfBoundsException" ∧ post (1 : Int32) S9) ∨ (E_9 = "java/lang/IllegalStateException" ∧ post (2 : Int32) S9)) S a0 x1
abbrev r_L_continuations : Room := { frames := 9, cells := 2, slots := 12, locals := 212 }
def wp_L_continuations (D : wD) (post : Int32 → wS → Prop) (S : wS) (a0 : Nat) (x1 : Int32) (a2 : Nat) : Prop := wp_L_continuations_0 D post S a0 x1 a2
set_option maxHeartbeats 4000000 in
set_option maxRecDepth 100000 in
theorem t_L_continuations_0 {p : Program} {l : Launch} {e : Env} {s : State} {m : MethodId} {args : Array Value} {below : List Frame} {meth : Method} {c : Code} {D : wD} {cy : Nat → ClassId} {X : va_W} {A : Nat → Prop} {S0 : wS} {post : Int32 → wS → Prop} (F : CallFix p m c cL_continuations 4 s args wz_L_continuations RL) (hr : meth.sig.returnType = (some .int)) (hlocks : meth.locks = false) (hK : wK D cy A s) (hl0 : l.stackTraces = false) (htab : c.exceptionTable.toList.map xhF = [(0, 9, 12, 18), (0, 9, 15, 20)]) : ∀ {S : wS} {H : Heap} {locs : List Loc} {ls : Array Slot} {a0 : Nat} {x1 : Int32} {a2 : Nat}, wp_L_continuations_0 D post S a0 x1 a2 → wO D cy X A s.heap S H locs → wX D S0 S → lv_has ls 4 [(0, .ref a0), (1, .int x1), (2, .ref a2)] → wM D S a0 → sK S a0 = 16 → wM D S a2 → sK S a2 = 22 → W p l e r_L_continuations s m args below meth c H locs 0 0 (vx_MQ below (va_Qi (fun r S9 => wX D S0 S9 ∧ post r S9) (wB D cy X A) A) (wEx D cy X A (fun _ _ => False)) args s 2 12 A) (F0 m 0 ls []) := by
  obtain ⟨hx, hb, hml, hown, hts⟩ := id F
  have hwg : ∀ w ∈ WG, w.before args s = true := fun w h => hts w (List.mem_cons_of_mem _ h)
  intro S H locs ls a0 x1 a2 hp hW hE hl hL_a0 hK_a0 hL_a2 hK_a2
  unfold wp_L_continuations_0 at hp
  refine lv_aload_n hx hb dL_continuations_0 rfl (lv_at hl 2 rfl) ?_
  refine lv_iconst (v := 0) hx hb dL_continuations_1 (by decide) ?_
  refine lv_aload_n hx hb dL_continuations_2 rfl (lv_at hl 0 rfl) ?_
  refine lv_iload_n hx hb dL_continuations_3 rfl (lv_at hl 1 rfl) ?_
  refine x_callI (vx_runV (As := [.int x1]) (rest := [.int (0 : Int32), .ref a2]) F (c_X11_continuations l hl0 hL_a0 hK_a0 hp H.size) (cwV (C := RX11) 1 hts (wg_V wm_RL_117 wy_X11_continuations) rfl rfl rfl (by decide +kernel) ⟨Nat.le_of_ble_eq_true rfl, Nat.le_of_ble_eq_true rfl⟩) (w_preV hK hW hL_a0 hK_a0 (by decide) rfl) rfl rfl hl.1 rfl (lv_room (Nat.le_of_ble_eq_true rfl)) dL_continuations_4 ⟨Nat.le_of_ble_eq_true rfl, Nat.le_of_ble_eq_true rfl⟩) hW (fun E ce q9 S9 H locs hp hW h1 h2 h3 => ?_) (fun r_1 S_2 H locs hp hW => ?_)
  · obtain ⟨hX_9, hp⟩ := hp
    have hE := hE.trans hX_9
    obtain ⟨z0, z1, htl, ez0, ez1⟩ := x_tab2 htab
    rcases hp with ⟨hEe, hp⟩ | ⟨hEe, hp⟩
    · subst hEe
      refine x_catch (nm := "java/lang/IndexOutOfBoundsException") F hK [] z0 [z1] (by rw [htl]; rfl) ez0 (by decide) (by decide) (fun z hz => nomatch hz) (hwg _ wc_RL_18) (by decide +kernel) h1 h2 h3 ?_
      refine W.widen (k := 2) (n := 12) (by decide) (by decide) ?_
      refine lv_astore_n (lv' := [(3, .ref q9), (0, .ref a0), (1, .int x1), (2, .ref a2)]) hx hb dL_continuations_12 rfl hl (by decide) rfl (fun ls hl => ?_)
      refine lv_iconst (v := 1) hx hb dL_continuations_13 (by decide) ?_
      refine vx_ret ?_
      exact w_iret hx hb hr hlocks hW ⟨hE, hp⟩ dL_continuations_14
    · subst hEe
      refine x_catch (nm := "java/lang/IllegalStateException") F hK [z0] z1 [] (by rw [htl]; rfl) ez1 (by decide) (by decide) (fun z hz => by
          simp only [List.mem_cons, List.not_mem_nil, or_false] at hz
          rcases hz with hz
          · rw [hz]; exact ⟨by rw [show z0.catchType = 18 from congrArg (fun q => q.2.2.2) ez0]; decide, "java/lang/IndexOutOfBoundsException", by rw [show z0.catchType = 18 from congrArg (fun q => q.2.2.2) ez0]; exact hwg _ wc_RL_18, by decide +kernel⟩) (hwg _ wc_RL_20) (by decide +kernel) h1 h2 h3 ?_
      refine W.widen (k := 2) (n := 12) (by decide) (by decide) ?_
      refine lv_astore_n (lv' := [(3, .ref q9), (0, .ref a0), (1, .int x1), (2, .ref a2)]) hx hb dL_continuations_15 rfl hl (by decide) rfl (fun ls hl => ?_)
      refine lv_iconst (v := 2) hx hb dL_continuations_16 (by decide) ?_
      refine vx_ret ?_
      exact w_iret hx hb hr hlocks hW ⟨hE, hp⟩ dL_continuations_17
  · obtain ⟨hX_S_2, hp⟩ := hp
    refine W.widen (k := 2) (n := 12) (by decide) (by decide) ?_
    have hE := hE.trans hX_S_2
    have hK_a0 : sK S_2 a0 = 16 := (hX_S_2.2 a0 hL_a0).1.trans hK_a0
    have hL_a0 : wM D S_2 a0 := hX_S_2.M hL_a0
    have hK_a2 : sK S_2 a2 = 22 := (hX_S_2.2 a2 hL_a2).1.trans hK_a2
    have hL_a2 : wM D S_2 a2 := hX_S_2.M hL_a2
    refine lv_i2l (v := (Int32.toInt64 r_1)) hx hb dL_continuations_7 rfl ?_
    obtain ⟨h_3m, h_3, hp⟩ := hp
    refine w_lst F hK hW h_3m hK_a2 h_3 dL_continuations_8 (fun H locs hW => ?_)
    obtain ⟨S_4, eS_4⟩ : ∃ z : wS, z = uJ S_2 a2 ((0 : Int32)).toNatClampNeg (Int32.toInt64 r_1) := ⟨_, rfl⟩
    rw [← eS_4] at hW
    replace hp := hp S_4 eS_4
    have hX_S_4 : wX D S_2 S_4 := by rw [eS_4]; exact wX_uJ
    have hE := hE.trans hX_S_4
    have hK_a0 : sK S_4 a0 = 16 := (hX_S_4.2 a0 hL_a0).1.trans hK_a0
    have hL_a0 : wM D S_4 a0 := hX_S_4.M hL_a0
    have hK_a2 : sK S_4 a2 = 22 := (hX_S_4.2 a2 hL_a2).1.trans hK_a2
    have hL_a2 : wM D S_4 a2 := hX_S_4.M hL_a2
    refine lv_goto (tgt := 18) hx hb dL_continuations_9 (by decide) ?_
    refine lv_iconst (v := 0) hx hb dL_continuations_18 (by decide) ?_
    refine vx_ret ?_
    exact w_iret hx hb hr hlocks hW ⟨hE, hp⟩ dL_continuations_19
set_option maxHeartbeats 4000000 in
set_option maxRecDepth 100000 in
theorem c_L_continuations (l : Launch) {D : wD} {cy : Nat → ClassId} {X : va_W} {S0 : wS} {post : Int32 → wS → Prop} (hl0 : l.stackTraces = false) {a0 : Nat} {x1 : Int32} {a2 : Nat} (hL_a0 : wM D S0 a0) (hK_a0 : sK S0 a0 = 16) (hL_a2 : wM D S0 a2) (hK_a2 : sK S0 a2 = 22) (hp : wp_L_continuations D post S0 a0 x1 a2) : xI D cy X l yL_continuations wz_L_continuations r_L_continuations [.ref a0, .int x1, .ref a2] S0 (fun r S9 => wX D S0 S9 ∧ post r S9) (fun _ _ => False) := by
  intro sz
  refine vx_ofWH (hh := [(0, 9, 12, 18), (0, 9, 15, 20)]) (cc := cL_continuations) (maxL := 4) (ret := (some .int)) (by decide) rfl ?_
  intro p e s m args below meth c s₁ B hml hv
  obtain ⟨rfl, hsz, hP, hK, hD0, hRO⟩ := hv
  have hts := atoms_spec (ws := wz_L_continuations) B.pre
  have hown : s.vm.findClass RL = some m.cls := findClass_of_methodNamed B.named
  subst hsz
  have hD := hD0.self (sz := s.heap.size)
  have F : CallFix p m c cL_continuations 4 s _ wz_L_continuations RL := ⟨B.exec, B.bytes, hml, hown, hts⟩
  have htab : c.exceptionTable.toList.map xhF = [(0, 9, 12, 18), (0, 9, 15, 20)] := by
    obtain ⟨m9, meth9, c9, g0, g1, g2, -, -, g3, -⟩ := Cond.codeWith_spec (hts _ List.mem_cons_self)
    cases Option.some.inj (g0.symm.trans B.named)
    cases Option.some.inj (g1.symm.trans B.method)
    cases Option.some.inj (g2.symm.trans (Stand.of_body B).code)
    exact g3
  have hr := B.returns
  have hlocks := B.notSynchronized
  generalize hAe : va_A (wL cy X S0) s.heap.size = A at hD hK ⊢
  have hA : ∀ q, s.heap.size ≤ q → A q := fun q h => by rw [← hAe]; exact Or.inr h
  have hW : wO D cy X A s.heap S0 s.heap [] := ⟨hP, hD, va_S.rf, hA, hRO⟩
  have hl := lv_entry ([.ref a0, .int x1, .ref a2]) (n := 4) (Nat.le_of_ble_eq_true rfl)
  rw [lg_entry_eq]
  generalize (lg_sl ([.ref a0, .int x1, .ref a2]) ++ List.replicate (4 - (lg_sl ([.ref a0, .int x1, .ref a2])).length) Slot.unset).toArray = ls at hl ⊢
  have hl : lv_has ls 4 [(0, .ref a0), (1, .int x1), (2, .ref a2)] := hl
  unfold wp_L_continuations at hp
  exact t_L_continuations_0 F hr hlocks hK hl0 htab hp hW wX.rf (lv_sub hl [0, 1, 2] rfl) hL_a0 hK_a0 hL_a2 hK_a2
def wp_L_continuationAt_0 (D : wD) (post : Int32 → wS → Prop)  (S : wS) (a0 : Nat) (x1 : Int32) (x2 : Int32) (a3 : Nat) : Prop :=
wp_X11_continuationAt D (fun r_1 S_2 => 
a3 ∈ sL S_2 ∧ vp_in (0 : Int32) (sN S_2 a3) ∧
∀ S_4 : wS, S_4 = uJ S_2 a3 ((0 : Int32)).toNatClampNeg (Int32.toInt64 r_1) →
post (0 : Int32) S_4) (fun E_9 S9 => (E_9 = "java/lang/IllegalStateException" ∧ post (1 : Int32) S9) ∨ (E_9 = "java/lang/IndexOutOfBoundsException" ∧ post (2 : Int32) S9)) S a0 x1 x2
abbrev r_L_continuationAt : Room := { frames := 9, cells := 3, slots := 18, locals := 212 }
def wp_L_continuationAt (D : wD) (post : Int32 → wS → Prop) (S : wS) (a0 : Nat) (x1 : Int32) (x2 : Int32) (a3 : Nat) : Prop := wp_L_continuationAt_0 D post S a0 x1 x2 a3
set_option maxHeartbeats 4000000 in
set_option maxRecDepth 100000 in
theorem t_L_continuationAt_0 {p : Program} {l : Launch} {e : Env} {s : State} {m : MethodId} {args : Array Value} {below : List Frame} {meth : Method} {c : Code} {D : wD} {cy : Nat → ClassId} {X : va_W} {A : Nat → Prop} {S0 : wS} {post : Int32 → wS → Prop} (F : CallFix p m c cL_continuationAt 5 s args wz_L_continuationAt RL) (hr : meth.sig.returnType = (some .int)) (hlocks : meth.locks = false) (hK : wK D cy A s) (hl0 : l.stackTraces = false) (htab : c.exceptionTable.toList.map xhF = [(0, 10, 13, 20), (0, 10, 17, 18)]) : ∀ {S : wS} {H : Heap} {locs : List Loc} {ls : Array Slot} {a0 : Nat} {x1 : Int32} {x2 : Int32} {a3 : Nat}, wp_L_continuationAt_0 D post S a0 x1 x2 a3 → wO D cy X A s.heap S H locs → wX D S0 S → lv_has ls 5 [(0, .ref a0), (1, .int x1), (2, .int x2), (3, .ref a3)] → wM D S a0 → sK S a0 = 16 → wM D S a3 → sK S a3 = 22 → W p l e r_L_continuationAt s m args below meth c H locs 0 0 (vx_MQ below (va_Qi (fun r S9 => wX D S0 S9 ∧ post r S9) (wB D cy X A) A) (wEx D cy X A (fun _ _ => False)) args s 3 18 A) (F0 m 0 ls []) := by
  obtain ⟨hx, hb, hml, hown, hts⟩ := id F
  have hwg : ∀ w ∈ WG, w.before args s = true := fun w h => hts w (List.mem_cons_of_mem _ h)
  intro S H locs ls a0 x1 x2 a3 hp hW hE hl hL_a0 hK_a0 hL_a3 hK_a3
  unfold wp_L_continuationAt_0 at hp
  refine lv_aload_n hx hb dL_continuationAt_0 rfl (lv_at hl 3 rfl) ?_
  refine lv_iconst (v := 0) hx hb dL_continuationAt_1 (by decide) ?_
  refine lv_aload_n hx hb dL_continuationAt_2 rfl (lv_at hl 0 rfl) ?_
  refine lv_iload_n hx hb dL_continuationAt_3 rfl (lv_at hl 1 rfl) ?_
  refine lv_iload_n hx hb dL_continuationAt_4 rfl (lv_at hl 2 rfl) ?_
  refine x_callI (vx_runV (As := [.int x1, .int x2]) (rest := [.int (0 : Int32), .ref a3]) F (c_X11_continuationAt l hl0 hL_a0 hK_a0 hp H.size) (cwV (C := RX11) 2 hts (wg_V wm_RL_120 wy_X11_continuationAt) rfl rfl rfl (by decide +kernel) ⟨Nat.le_of_ble_eq_true rfl, Nat.le_of_ble_eq_true rfl⟩) (w_preV hK hW hL_a0 hK_a0 (by decide) rfl) rfl rfl hl.1 rfl (lv_room (Nat.le_of_ble_eq_true rfl)) dL_continuationAt_5 ⟨Nat.le_of_ble_eq_true rfl, Nat.le_of_ble_eq_true rfl⟩) hW (fun E ce q9 S9 H locs hp hW h1 h2 h3 => ?_) (fun r_1 S_2 H locs hp hW => ?_)
  · obtain ⟨hX_9, hp⟩ := hp
    have hE := hE.trans hX_9
    obtain ⟨z0, z1, htl, ez0, ez1⟩ := x_tab2 htab
    rcases hp with ⟨hEe, hp⟩ | ⟨hEe, hp⟩
    · subst hEe
      refine x_catch (nm := "java/lang/IllegalStateException") F hK [] z0 [z1] (by rw [htl]; rfl) ez0 (by decide) (by decide) (fun z hz => nomatch hz) (hwg _ wc_RL_20) (by decide +kernel) h1 h2 h3 ?_
      refine W.widen (k := 3) (n := 18) (by decide) (by decide) ?_
      refine lv_astore (lv' := [(4, .ref q9), (0, .ref a0), (1, .int x1), (2, .int x2), (3, .ref a3)]) hx hb dL_continuationAt_13 hl (by decide) rfl (fun ls hl => ?_)
      refine lv_iconst (v := 1) hx hb dL_continuationAt_15 (by decide) ?_
      refine vx_ret ?_
      exact w_iret hx hb hr hlocks hW ⟨hE, hp⟩ dL_continuationAt_16
    · subst hEe
      refine x_catch (nm := "java/lang/IndexOutOfBoundsException") F hK [z0] z1 [] (by rw [htl]; rfl) ez1 (by decide) (by decide) (fun z hz => by
          simp only [List.mem_cons, List.not_mem_nil, or_false] at hz
          rcases hz with hz
          · rw [hz]; exact ⟨by rw [show z0.catchType = 20 from congrArg (fun q => q.2.2.2) ez0]; decide, "java/lang/IllegalStateException", by rw [show z0.catchType = 20 from congrArg (fun q => q.2.2.2) ez0]; exact hwg _ wc_RL_20, by decide +kernel⟩) (hwg _ wc_RL_18) (by decide +kernel) h1 h2 h3 ?_
      refine W.widen (k := 3) (n := 18) (by decide) (by decide) ?_
      refine lv_astore (lv' := [(4, .ref q9), (0, .ref a0), (1, .int x1), (2, .int x2), (3, .ref a3)]) hx hb dL_continuationAt_17 hl (by decide) rfl (fun ls hl => ?_)
      refine lv_iconst (v := 2) hx hb dL_continuationAt_19 (by decide) ?_
      refine vx_ret ?_
      exact w_iret hx hb hr hlocks hW ⟨hE, hp⟩ dL_continuationAt_20
  · obtain ⟨hX_S_2, hp⟩ := hp
    refine W.widen (k := 3) (n := 18) (by decide) (by decide) ?_
    have hE := hE.trans hX_S_2
    have hK_a0 : sK S_2 a0 = 16 := (hX_S_2.2 a0 hL_a0).1.trans hK_a0
    have hL_a0 : wM D S_2 a0 := hX_S_2.M hL_a0
    have hK_a3 : sK S_2 a3 = 22 := (hX_S_2.2 a3 hL_a3).1.trans hK_a3
    have hL_a3 : wM D S_2 a3 := hX_S_2.M hL_a3
    refine lv_i2l (v := (Int32.toInt64 r_1)) hx hb dL_continuationAt_8 rfl ?_
    obtain ⟨h_3m, h_3, hp⟩ := hp
    refine w_lst F hK hW h_3m hK_a3 h_3 dL_continuationAt_9 (fun H locs hW => ?_)
    obtain ⟨S_4, eS_4⟩ : ∃ z : wS, z = uJ S_2 a3 ((0 : Int32)).toNatClampNeg (Int32.toInt64 r_1) := ⟨_, rfl⟩
    rw [← eS_4] at hW
    replace hp := hp S_4 eS_4
    have hX_S_4 : wX D S_2 S_4 := by rw [eS_4]; exact wX_uJ
    have hE := hE.trans hX_S_4
    have hK_a0 : sK S_4 a0 = 16 := (hX_S_4.2 a0 hL_a0).1.trans hK_a0
    have hL_a0 : wM D S_4 a0 := hX_S_4.M hL_a0
    have hK_a3 : sK S_4 a3 = 22 := (hX_S_4.2 a3 hL_a3).1.trans hK_a3
    have hL_a3 : wM D S_4 a3 := hX_S_4.M hL_a3
    refine lv_goto (tgt := 21) hx hb dL_continuationAt_10 (by decide) ?_
    refine lv_iconst (v := 0) hx hb dL_continuationAt_21 (by decide) ?_
    refine vx_ret ?_
    exact w_iret hx hb hr hlocks hW ⟨hE, hp⟩ dL_continuationAt_22
set_option maxHeartbeats 4000000 in
set_option maxRecDepth 100000 in
theorem c_L_continuationAt (l : Launch) {D : wD} {cy : Nat → ClassId} {X : va_W} {S0 : wS} {post : Int32 → wS → Prop} (hl0 : l.stackTraces = false) {a0 : Nat} {x1 : Int32} {x2 : Int32} {a3 : Nat} (hL_a0 : wM D S0 a0) (hK_a0 : sK S0 a0 = 16) (hL_a3 : wM D S0 a3) (hK_a3 : sK S0 a3 = 22) (hp : wp_L_continuationAt D post S0 a0 x1 x2 a3) : xI D cy X l yL_continuationAt wz_L_continuationAt r_L_continuationAt [.ref a0, .int x1, .int x2, .ref a3] S0 (fun r S9 => wX D S0 S9 ∧ post r S9) (fun _ _ => False) := by
  intro sz
  refine vx_ofWH (hh := [(0, 10, 13, 20), (0, 10, 17, 18)]) (cc := cL_continuationAt) (maxL := 5) (ret := (some .int)) (by decide) rfl ?_
  intro p e s m args below meth c s₁ B hml hv
  obtain ⟨rfl, hsz, hP, hK, hD0, hRO⟩ := hv
  have hts := atoms_spec (ws := wz_L_continuationAt) B.pre
  have hown : s.vm.findClass RL = some m.cls := findClass_of_methodNamed B.named
  subst hsz
  have hD := hD0.self (sz := s.heap.size)
  have F : CallFix p m c cL_continuationAt 5 s _ wz_L_continuationAt RL := ⟨B.exec, B.bytes, hml, hown, hts⟩
  have htab : c.exceptionTable.toList.map xhF = [(0, 10, 13, 20), (0, 10, 17, 18)] := by
    obtain ⟨m9, meth9, c9, g0, g1, g2, -, -, g3, -⟩ := Cond.codeWith_spec (hts _ List.mem_cons_self)
    cases Option.some.inj (g0.symm.trans B.named)
    cases Option.some.inj (g1.symm.trans B.method)
    cases Option.some.inj (g2.symm.trans (Stand.of_body B).code)
    exact g3
  have hr := B.returns
  have hlocks := B.notSynchronized
  generalize hAe : va_A (wL cy X S0) s.heap.size = A at hD hK ⊢
  have hA : ∀ q, s.heap.size ≤ q → A q := fun q h => by rw [← hAe]; exact Or.inr h
  have hW : wO D cy X A s.heap S0 s.heap [] := ⟨hP, hD, va_S.rf, hA, hRO⟩
  have hl := lv_entry ([.ref a0, .int x1, .int x2, .ref a3]) (n := 5) (Nat.le_of_ble_eq_true rfl)
  rw [lg_entry_eq]
  generalize (lg_sl ([.ref a0, .int x1, .int x2, .ref a3]) ++ List.replicate (5 - (lg_sl ([.ref a0, .int x1, .int x2, .ref a3])).length) Slot.unset).toArray = ls at hl ⊢
  have hl : lv_has ls 5 [(0, .ref a0), (1, .int x1), (2, .int x2), (3, .ref a3)] := hl
  unfold wp_L_continuationAt at hp
  exact t_L_continuationAt_0 F hr hlocks hK hl0 htab hp hW wX.rf (lv_sub hl [0, 1, 2, 3] rfl) hL_a0 hK_a0 hL_a3 hK_a3
def wp_L_gamesOf_0 (D : wD) (post : Int32 → wS → Prop)  (S : wS) (a0 : Nat) (x1 : Int32) (x2 : Int32) (a3 : Nat) : Prop :=
wp_X11_gamesOf D (fun r_1 S_2 => 
a3 ∈ sL S_2 ∧ vp_in (0 : Int32) (sN S_2 a3) ∧
∀ S_4 : wS, S_4 = uJ S_2 a3 ((0 : Int32)).toNatClampNeg (Int32.toInt64 r_1) →
post (0 : Int32) S_4) (fun E_9 S9 => (E_9 = "java/lang/IllegalStateException" ∧ post (1 : Int32) S9) ∨ (E_9 = "java/lang/IndexOutOfBoundsException" ∧ post (2 : Int32) S9)) S a0 x1 x2
abbrev r_L_gamesOf : Room := { frames := 9, cells := 3, slots := 18, locals := 212 }
def wp_L_gamesOf (D : wD) (post : Int32 → wS → Prop) (S : wS) (a0 : Nat) (x1 : Int32) (x2 : Int32) (a3 : Nat) : Prop := wp_L_gamesOf_0 D post S a0 x1 x2 a3
set_option maxHeartbeats 4000000 in
set_option maxRecDepth 100000 in
theorem t_L_gamesOf_0 {p : Program} {l : Launch} {e : Env} {s : State} {m : MethodId} {args : Array Value} {below : List Frame} {meth : Method} {c : Code} {D : wD} {cy : Nat → ClassId} {X : va_W} {A : Nat → Prop} {S0 : wS} {post : Int32 → wS → Prop} (F : CallFix p m c cL_gamesOf 5 s args wz_L_gamesOf RL) (hr : meth.sig.returnType = (some .int)) (hlocks : meth.locks = false) (hK : wK D cy A s) (hl0 : l.stackTraces = false) (htab : c.exceptionTable.toList.map xhF = [(0, 10, 13, 20), (0, 10, 17, 18)]) : ∀ {S : wS} {H : Heap} {locs : List Loc} {ls : Array Slot} {a0 : Nat} {x1 : Int32} {x2 : Int32} {a3 : Nat}, wp_L_gamesOf_0 D post S a0 x1 x2 a3 → wO D cy X A s.heap S H locs → wX D S0 S → lv_has ls 5 [(0, .ref a0), (1, .int x1), (2, .int x2), (3, .ref a3)] → wM D S a0 → sK S a0 = 16 → wM D S a3 → sK S a3 = 22 → W p l e r_L_gamesOf s m args below meth c H locs 0 0 (vx_MQ below (va_Qi (fun r S9 => wX D S0 S9 ∧ post r S9) (wB D cy X A) A) (wEx D cy X A (fun _ _ => False)) args s 3 18 A) (F0 m 0 ls []) := by
  obtain ⟨hx, hb, hml, hown, hts⟩ := id F
  have hwg : ∀ w ∈ WG, w.before args s = true := fun w h => hts w (List.mem_cons_of_mem _ h)
  intro S H locs ls a0 x1 x2 a3 hp hW hE hl hL_a0 hK_a0 hL_a3 hK_a3
  unfold wp_L_gamesOf_0 at hp
  refine lv_aload_n hx hb dL_gamesOf_0 rfl (lv_at hl 3 rfl) ?_
  refine lv_iconst (v := 0) hx hb dL_gamesOf_1 (by decide) ?_
  refine lv_aload_n hx hb dL_gamesOf_2 rfl (lv_at hl 0 rfl) ?_
  refine lv_iload_n hx hb dL_gamesOf_3 rfl (lv_at hl 1 rfl) ?_
  refine lv_iload_n hx hb dL_gamesOf_4 rfl (lv_at hl 2 rfl) ?_
  refine x_callI (vx_runV (As := [.int x1, .int x2]) (rest := [.int (0 : Int32), .ref a3]) F (c_X11_gamesOf l hl0 hL_a0 hK_a0 hp H.size) (cwV (C := RX11) 2 hts (wg_V wm_RL_123 wy_X11_gamesOf) rfl rfl rfl (by decide +kernel) ⟨Nat.le_of_ble_eq_true rfl, Nat.le_of_ble_eq_true rfl⟩) (w_preV hK hW hL_a0 hK_a0 (by decide) rfl) rfl rfl hl.1 rfl (lv_room (Nat.le_of_ble_eq_true rfl)) dL_gamesOf_5 ⟨Nat.le_of_ble_eq_true rfl, Nat.le_of_ble_eq_true rfl⟩) hW (fun E ce q9 S9 H locs hp hW h1 h2 h3 => ?_) (fun r_1 S_2 H locs hp hW => ?_)
  · obtain ⟨hX_9, hp⟩ := hp
    have hE := hE.trans hX_9
    obtain ⟨z0, z1, htl, ez0, ez1⟩ := x_tab2 htab
    rcases hp with ⟨hEe, hp⟩ | ⟨hEe, hp⟩
    · subst hEe
      refine x_catch (nm := "java/lang/IllegalStateException") F hK [] z0 [z1] (by rw [htl]; rfl) ez0 (by decide) (by decide) (fun z hz => nomatch hz) (hwg _ wc_RL_20) (by decide +kernel) h1 h2 h3 ?_
      refine W.widen (k := 3) (n := 18) (by decide) (by decide) ?_
      refine lv_astore (lv' := [(4, .ref q9), (0, .ref a0), (1, .int x1), (2, .int x2), (3, .ref a3)]) hx hb dL_gamesOf_13 hl (by decide) rfl (fun ls hl => ?_)
      refine lv_iconst (v := 1) hx hb dL_gamesOf_15 (by decide) ?_
      refine vx_ret ?_
      exact w_iret hx hb hr hlocks hW ⟨hE, hp⟩ dL_gamesOf_16
    · subst hEe
      refine x_catch (nm := "java/lang/IndexOutOfBoundsException") F hK [z0] z1 [] (by rw [htl]; rfl) ez1 (by decide) (by decide) (fun z hz => by
          simp only [List.mem_cons, List.not_mem_nil, or_false] at hz
          rcases hz with hz
          · rw [hz]; exact ⟨by rw [show z0.catchType = 20 from congrArg (fun q => q.2.2.2) ez0]; decide, "java/lang/IllegalStateException", by rw [show z0.catchType = 20 from congrArg (fun q => q.2.2.2) ez0]; exact hwg _ wc_RL_20, by decide +kernel⟩) (hwg _ wc_RL_18) (by decide +kernel) h1 h2 h3 ?_
      refine W.widen (k := 3) (n := 18) (by decide) (by decide) ?_
      refine lv_astore (lv' := [(4, .ref q9), (0, .ref a0), (1, .int x1), (2, .int x2), (3, .ref a3)]) hx hb dL_gamesOf_17 hl (by decide) rfl (fun ls hl => ?_)
      refine lv_iconst (v := 2) hx hb dL_gamesOf_19 (by decide) ?_
      refine vx_ret ?_
      exact w_iret hx hb hr hlocks hW ⟨hE, hp⟩ dL_gamesOf_20
  · obtain ⟨hX_S_2, hp⟩ := hp
    refine W.widen (k := 3) (n := 18) (by decide) (by decide) ?_
    have hE := hE.trans hX_S_2
    have hK_a0 : sK S_2 a0 = 16 := (hX_S_2.2 a0 hL_a0).1.trans hK_a0
    have hL_a0 : wM D S_2 a0 := hX_S_2.M hL_a0
    have hK_a3 : sK S_2 a3 = 22 := (hX_S_2.2 a3 hL_a3).1.trans hK_a3
    have hL_a3 : wM D S_2 a3 := hX_S_2.M hL_a3
    refine lv_i2l (v := (Int32.toInt64 r_1)) hx hb dL_gamesOf_8 rfl ?_
    obtain ⟨h_3m, h_3, hp⟩ := hp
    refine w_lst F hK hW h_3m hK_a3 h_3 dL_gamesOf_9 (fun H locs hW => ?_)
    obtain ⟨S_4, eS_4⟩ : ∃ z : wS, z = uJ S_2 a3 ((0 : Int32)).toNatClampNeg (Int32.toInt64 r_1) := ⟨_, rfl⟩
    rw [← eS_4] at hW
    replace hp := hp S_4 eS_4
    have hX_S_4 : wX D S_2 S_4 := by rw [eS_4]; exact wX_uJ
    have hE := hE.trans hX_S_4
    have hK_a0 : sK S_4 a0 = 16 := (hX_S_4.2 a0 hL_a0).1.trans hK_a0
    have hL_a0 : wM D S_4 a0 := hX_S_4.M hL_a0
    have hK_a3 : sK S_4 a3 = 22 := (hX_S_4.2 a3 hL_a3).1.trans hK_a3
    have hL_a3 : wM D S_4 a3 := hX_S_4.M hL_a3
    refine lv_goto (tgt := 21) hx hb dL_gamesOf_10 (by decide) ?_
    refine lv_iconst (v := 0) hx hb dL_gamesOf_21 (by decide) ?_
    refine vx_ret ?_
    exact w_iret hx hb hr hlocks hW ⟨hE, hp⟩ dL_gamesOf_22
set_option maxHeartbeats 4000000 in
set_option maxRecDepth 100000 in
theorem c_L_gamesOf (l : Launch) {D : wD} {cy : Nat → ClassId} {X : va_W} {S0 : wS} {post : Int32 → wS → Prop} (hl0 : l.stackTraces = false) {a0 : Nat} {x1 : Int32} {x2 : Int32} {a3 : Nat} (hL_a0 : wM D S0 a0) (hK_a0 : sK S0 a0 = 16) (hL_a3 : wM D S0 a3) (hK_a3 : sK S0 a3 = 22) (hp : wp_L_gamesOf D post S0 a0 x1 x2 a3) : xI D cy X l yL_gamesOf wz_L_gamesOf r_L_gamesOf [.ref a0, .int x1, .int x2, .ref a3] S0 (fun r S9 => wX D S0 S9 ∧ post r S9) (fun _ _ => False) := by
  intro sz
  refine vx_ofWH (hh := [(0, 10, 13, 20), (0, 10, 17, 18)]) (cc := cL_gamesOf) (maxL := 5) (ret := (some .int)) (by decide) rfl ?_
  intro p e s m args below meth c s₁ B hml hv
  obtain ⟨rfl, hsz, hP, hK, hD0, hRO⟩ := hv
  have hts := atoms_spec (ws := wz_L_gamesOf) B.pre
  have hown : s.vm.findClass RL = some m.cls := findClass_of_methodNamed B.named
  subst hsz
  have hD := hD0.self (sz := s.heap.size)
  have F : CallFix p m c cL_gamesOf 5 s _ wz_L_gamesOf RL := ⟨B.exec, B.bytes, hml, hown, hts⟩
  have htab : c.exceptionTable.toList.map xhF = [(0, 10, 13, 20), (0, 10, 17, 18)] := by
    obtain ⟨m9, meth9, c9, g0, g1, g2, -, -, g3, -⟩ := Cond.codeWith_spec (hts _ List.mem_cons_self)
    cases Option.some.inj (g0.symm.trans B.named)
    cases Option.some.inj (g1.symm.trans B.method)
    cases Option.some.inj (g2.symm.trans (Stand.of_body B).code)
    exact g3
  have hr := B.returns
  have hlocks := B.notSynchronized
  generalize hAe : va_A (wL cy X S0) s.heap.size = A at hD hK ⊢
  have hA : ∀ q, s.heap.size ≤ q → A q := fun q h => by rw [← hAe]; exact Or.inr h
  have hW : wO D cy X A s.heap S0 s.heap [] := ⟨hP, hD, va_S.rf, hA, hRO⟩
  have hl := lv_entry ([.ref a0, .int x1, .int x2, .ref a3]) (n := 5) (Nat.le_of_ble_eq_true rfl)
  rw [lg_entry_eq]
  generalize (lg_sl ([.ref a0, .int x1, .int x2, .ref a3]) ++ List.replicate (5 - (lg_sl ([.ref a0, .int x1, .int x2, .ref a3])).length) Slot.unset).toArray = ls at hl ⊢
  have hl : lv_has ls 5 [(0, .ref a0), (1, .int x1), (2, .int x2), (3, .ref a3)] := hl
  unfold wp_L_gamesOf at hp
  exact t_L_gamesOf_0 F hr hlocks hK hl0 htab hp hW wX.rf (lv_sub hl [0, 1, 2, 3] rfl) hL_a0 hK_a0 hL_a3 hK_a3
def wp_L_playMain_0 (D : wD) (post : Int32 → wS → Prop)  (S : wS) (a0 : Nat) (x1 : Int32) (x2 : Int32) (a3 : Nat) : Prop :=
wp_X11_playMain D (fun r_1 S_2 => 
a3 ∈ sL S_2 ∧ vp_in (0 : Int32) (sN S_2 a3) ∧
∀ S_4 : wS, S_4 = uJ S_2 a3 ((0 : Int32)).toNatClampNeg (Int32.toInt64 r_1) →
post (0 : Int32) S_4) (fun E_9 S9 => (E_9 = "java/lang/IndexOutOfBoundsException" ∧ post (1 : Int32) S9) ∨ (E_9 = "java/lang/IllegalArgumentException" ∧ post (2 : Int32) S9) ∨ (E_9 = "java/lang/IllegalStateException" ∧ post (3 : Int32) S9)) S a0 x1 x2
abbrev r_L_playMain : Room := { frames := 9, cells := 2, slots := 12, locals := 215 }
def wp_L_playMain (D : wD) (post : Int32 → wS → Prop) (S : wS) (a0 : Nat) (x1 : Int32) (x2 : Int32) (a3 : Nat) : Prop := wp_L_playMain_0 D post S a0 x1 x2 a3
set_option maxHeartbeats 4000000 in
set_option maxRecDepth 100000 in
theorem t_L_playMain_0 {p : Program} {l : Launch} {e : Env} {s : State} {m : MethodId} {args : Array Value} {below : List Frame} {meth : Method} {c : Code} {D : wD} {cy : Nat → ClassId} {X : va_W} {A : Nat → Prop} {S0 : wS} {post : Int32 → wS → Prop} (F : CallFix p m c cL_playMain 5 s args wz_L_playMain RL) (hr : meth.sig.returnType = (some .int)) (hlocks : meth.locks = false) (hK : wK D cy A s) (hl0 : l.stackTraces = false) (htab : c.exceptionTable.toList.map xhF = [(0, 10, 13, 18), (0, 10, 17, 13), (0, 10, 21, 20)]) : ∀ {S : wS} {H : Heap} {locs : List Loc} {ls : Array Slot} {a0 : Nat} {x1 : Int32} {x2 : Int32} {a3 : Nat}, wp_L_playMain_0 D post S a0 x1 x2 a3 → wO D cy X A s.heap S H locs → wX D S0 S → lv_has ls 5 [(0, .ref a0), (1, .int x1), (2, .int x2), (3, .ref a3)] → wM D S a0 → sK S a0 = 16 → wM D S a3 → sK S a3 = 22 → W p l e r_L_playMain s m args below meth c H locs 0 0 (vx_MQ below (va_Qi (fun r S9 => wX D S0 S9 ∧ post r S9) (wB D cy X A) A) (wEx D cy X A (fun _ _ => False)) args s 2 12 A) (F0 m 0 ls []) := by
  obtain ⟨hx, hb, hml, hown, hts⟩ := id F
  have hwg : ∀ w ∈ WG, w.before args s = true := fun w h => hts w (List.mem_cons_of_mem _ h)
  intro S H locs ls a0 x1 x2 a3 hp hW hE hl hL_a0 hK_a0 hL_a3 hK_a3
  unfold wp_L_playMain_0 at hp
  refine lv_aload_n hx hb dL_playMain_0 rfl (lv_at hl 3 rfl) ?_
  refine lv_iconst (v := 0) hx hb dL_playMain_1 (by decide) ?_
  refine lv_aload_n hx hb dL_playMain_2 rfl (lv_at hl 0 rfl) ?_
  refine lv_iload_n hx hb dL_playMain_3 rfl (lv_at hl 1 rfl) ?_
  refine lv_iload_n hx hb dL_playMain_4 rfl (lv_at hl 2 rfl) ?_
  refine x_callI (vx_runV (As := [.int x1, .int x2]) (rest := [.int (0 : Int32), .ref a3]) F (c_X11_playMain l hl0 hL_a0 hK_a0 hp H.size) (cwV (C := RX11) 2 hts (wg_V wm_RL_126 wy_X11_playMain) rfl rfl rfl (by decide +kernel) ⟨Nat.le_of_ble_eq_true rfl, Nat.le_of_ble_eq_true rfl⟩) (w_preV hK hW hL_a0 hK_a0 (by decide) rfl) rfl rfl hl.1 rfl (lv_room (Nat.le_of_ble_eq_true rfl)) dL_playMain_5 ⟨Nat.le_of_ble_eq_true rfl, Nat.le_of_ble_eq_true rfl⟩) hW (fun E ce q9 S9 H locs hp hW h1 h2 h3 => ?_) (fun r_1 S_2 H locs hp hW => ?_)
  · obtain ⟨hX_9, hp⟩ := hp
    have hE := hE.trans hX_9
    obtain ⟨z0, z1, z2, htl, ez0, ez1, ez2⟩ := x_tab3 htab
    rcases hp with ⟨hEe, hp⟩ | ⟨hEe, hp⟩ | ⟨hEe, hp⟩
    · subst hEe
      refine x_catch (nm := "java/lang/IndexOutOfBoundsException") F hK [] z0 [z1, z2] (by rw [htl]; rfl) ez0 (by decide) (by decide) (fun z hz => nomatch hz) (hwg _ wc_RL_18) (by decide +kernel) h1 h2 h3 ?_
      refine W.widen (k := 2) (n := 12) (by decide) (by decide) ?_
      refine lv_astore (lv' := [(4, .ref q9), (0, .ref a0), (1, .int x1), (2, .int x2), (3, .ref a3)]) hx hb dL_playMain_13 hl (by decide) rfl (fun ls hl => ?_)
      refine lv_iconst (v := 1) hx hb dL_playMain_15 (by decide) ?_
      refine vx_ret ?_
      exact w_iret hx hb hr hlocks hW ⟨hE, hp⟩ dL_playMain_16
    · subst hEe
      refine x_catch (nm := "java/lang/IllegalArgumentException") F hK [z0] z1 [z2] (by rw [htl]; rfl) ez1 (by decide) (by decide) (fun z hz => by
          simp only [List.mem_cons, List.not_mem_nil, or_false] at hz
          rcases hz with hz
          · rw [hz]; exact ⟨by rw [show z0.catchType = 18 from congrArg (fun q => q.2.2.2) ez0]; decide, "java/lang/IndexOutOfBoundsException", by rw [show z0.catchType = 18 from congrArg (fun q => q.2.2.2) ez0]; exact hwg _ wc_RL_18, by decide +kernel⟩) (hwg _ wc_RL_13) (by decide +kernel) h1 h2 h3 ?_
      refine W.widen (k := 2) (n := 12) (by decide) (by decide) ?_
      refine lv_astore (lv' := [(4, .ref q9), (0, .ref a0), (1, .int x1), (2, .int x2), (3, .ref a3)]) hx hb dL_playMain_17 hl (by decide) rfl (fun ls hl => ?_)
      refine lv_iconst (v := 2) hx hb dL_playMain_19 (by decide) ?_
      refine vx_ret ?_
      exact w_iret hx hb hr hlocks hW ⟨hE, hp⟩ dL_playMain_20
    · subst hEe
      refine x_catch (nm := "java/lang/IllegalStateException") F hK [z0, z1] z2 [] (by rw [htl]; rfl) ez2 (by decide) (by decide) (fun z hz => by
          simp only [List.mem_cons, List.not_mem_nil, or_false] at hz
          rcases hz with hz | hz
          · rw [hz]; exact ⟨by rw [show z0.catchType = 18 from congrArg (fun q => q.2.2.2) ez0]; decide, "java/lang/IndexOutOfBoundsException", by rw [show z0.catchType = 18 from congrArg (fun q => q.2.2.2) ez0]; exact hwg _ wc_RL_18, by decide +kernel⟩
          · rw [hz]; exact ⟨by rw [show z1.catchType = 13 from congrArg (fun q => q.2.2.2) ez1]; decide, "java/lang/IllegalArgumentException", by rw [show z1.catchType = 13 from congrArg (fun q => q.2.2.2) ez1]; exact hwg _ wc_RL_13, by decide +kernel⟩) (hwg _ wc_RL_20) (by decide +kernel) h1 h2 h3 ?_
      refine W.widen (k := 2) (n := 12) (by decide) (by decide) ?_
      refine lv_astore (lv' := [(4, .ref q9), (0, .ref a0), (1, .int x1), (2, .int x2), (3, .ref a3)]) hx hb dL_playMain_21 hl (by decide) rfl (fun ls hl => ?_)
      refine lv_iconst (v := 3) hx hb dL_playMain_23 (by decide) ?_
      refine vx_ret ?_
      exact w_iret hx hb hr hlocks hW ⟨hE, hp⟩ dL_playMain_24
  · obtain ⟨hX_S_2, hp⟩ := hp
    refine W.widen (k := 2) (n := 12) (by decide) (by decide) ?_
    have hE := hE.trans hX_S_2
    have hK_a0 : sK S_2 a0 = 16 := (hX_S_2.2 a0 hL_a0).1.trans hK_a0
    have hL_a0 : wM D S_2 a0 := hX_S_2.M hL_a0
    have hK_a3 : sK S_2 a3 = 22 := (hX_S_2.2 a3 hL_a3).1.trans hK_a3
    have hL_a3 : wM D S_2 a3 := hX_S_2.M hL_a3
    refine lv_i2l (v := (Int32.toInt64 r_1)) hx hb dL_playMain_8 rfl ?_
    obtain ⟨h_3m, h_3, hp⟩ := hp
    refine w_lst F hK hW h_3m hK_a3 h_3 dL_playMain_9 (fun H locs hW => ?_)
    obtain ⟨S_4, eS_4⟩ : ∃ z : wS, z = uJ S_2 a3 ((0 : Int32)).toNatClampNeg (Int32.toInt64 r_1) := ⟨_, rfl⟩
    rw [← eS_4] at hW
    replace hp := hp S_4 eS_4
    have hX_S_4 : wX D S_2 S_4 := by rw [eS_4]; exact wX_uJ
    have hE := hE.trans hX_S_4
    have hK_a0 : sK S_4 a0 = 16 := (hX_S_4.2 a0 hL_a0).1.trans hK_a0
    have hL_a0 : wM D S_4 a0 := hX_S_4.M hL_a0
    have hK_a3 : sK S_4 a3 = 22 := (hX_S_4.2 a3 hL_a3).1.trans hK_a3
    have hL_a3 : wM D S_4 a3 := hX_S_4.M hL_a3
    refine lv_goto (tgt := 25) hx hb dL_playMain_10 (by decide) ?_
    refine lv_iconst (v := 0) hx hb dL_playMain_25 (by decide) ?_
    refine vx_ret ?_
    exact w_iret hx hb hr hlocks hW ⟨hE, hp⟩ dL_playMain_26
set_option maxHeartbeats 4000000 in
set_option maxRecDepth 100000 in
theorem c_L_playMain (l : Launch) {D : wD} {cy : Nat → ClassId} {X : va_W} {S0 : wS} {post : Int32 → wS → Prop} (hl0 : l.stackTraces = false) {a0 : Nat} {x1 : Int32} {x2 : Int32} {a3 : Nat} (hL_a0 : wM D S0 a0) (hK_a0 : sK S0 a0 = 16) (hL_a3 : wM D S0 a3) (hK_a3 : sK S0 a3 = 22) (hp : wp_L_playMain D post S0 a0 x1 x2 a3) : xI D cy X l yL_playMain wz_L_playMain r_L_playMain [.ref a0, .int x1, .int x2, .ref a3] S0 (fun r S9 => wX D S0 S9 ∧ post r S9) (fun _ _ => False) := by
  intro sz
  refine vx_ofWH (hh := [(0, 10, 13, 18), (0, 10, 17, 13), (0, 10, 21, 20)]) (cc := cL_playMain) (maxL := 5) (ret := (some .int)) (by decide) rfl ?_
  intro p e s m args below meth c s₁ B hml hv
  obtain ⟨rfl, hsz, hP, hK, hD0, hRO⟩ := hv
  have hts := atoms_spec (ws := wz_L_playMain) B.pre
  have hown : s.vm.findClass RL = some m.cls := findClass_of_methodNamed B.named
  subst hsz
  have hD := hD0.self (sz := s.heap.size)
  have F : CallFix p m c cL_playMain 5 s _ wz_L_playMain RL := ⟨B.exec, B.bytes, hml, hown, hts⟩
  have htab : c.exceptionTable.toList.map xhF = [(0, 10, 13, 18), (0, 10, 17, 13), (0, 10, 21, 20)] := by
    obtain ⟨m9, meth9, c9, g0, g1, g2, -, -, g3, -⟩ := Cond.codeWith_spec (hts _ List.mem_cons_self)
    cases Option.some.inj (g0.symm.trans B.named)
    cases Option.some.inj (g1.symm.trans B.method)
    cases Option.some.inj (g2.symm.trans (Stand.of_body B).code)
    exact g3
  have hr := B.returns
  have hlocks := B.notSynchronized
  generalize hAe : va_A (wL cy X S0) s.heap.size = A at hD hK ⊢
  have hA : ∀ q, s.heap.size ≤ q → A q := fun q h => by rw [← hAe]; exact Or.inr h
  have hW : wO D cy X A s.heap S0 s.heap [] := ⟨hP, hD, va_S.rf, hA, hRO⟩
  have hl := lv_entry ([.ref a0, .int x1, .int x2, .ref a3]) (n := 5) (Nat.le_of_ble_eq_true rfl)
  rw [lg_entry_eq]
  generalize (lg_sl ([.ref a0, .int x1, .int x2, .ref a3]) ++ List.replicate (5 - (lg_sl ([.ref a0, .int x1, .int x2, .ref a3])).length) Slot.unset).toArray = ls at hl ⊢
  have hl : lv_has ls 5 [(0, .ref a0), (1, .int x1), (2, .int x2), (3, .ref a3)] := hl
  unfold wp_L_playMain at hp
  exact t_L_playMain_0 F hr hlocks hK hl0 htab hp hW wX.rf (lv_sub hl [0, 1, 2, 3] rfl) hL_a0 hK_a0 hL_a3 hK_a3
def wp_L_firstNew_0 (D : wD) (post : Int32 → wS → Prop)  (S : wS) (a0 : Nat) (x1 : Int32) (x2 : Int32) (a3 : Nat) : Prop :=
wp_X11_firstNew D (fun r_1 S_2 => 
a3 ∈ sL S_2 ∧ vp_in (0 : Int32) (sN S_2 a3) ∧
∀ S_4 : wS, S_4 = uJ S_2 a3 ((0 : Int32)).toNatClampNeg (Int32.toInt64 r_1) →
post (0 : Int32) S_4) (fun E_9 S9 => (E_9 = "java/lang/IndexOutOfBoundsException" ∧ post (1 : Int32) S9)) S a0 x1 x2
abbrev r_L_firstNew : Room := { frames := 9, cells := 2, slots := 12, locals := 186 }
def wp_L_firstNew (D : wD) (post : Int32 → wS → Prop) (S : wS) (a0 : Nat) (x1 : Int32) (x2 : Int32) (a3 : Nat) : Prop := wp_L_firstNew_0 D post S a0 x1 x2 a3
set_option maxHeartbeats 4000000 in
set_option maxRecDepth 100000 in
theorem t_L_firstNew_0 {p : Program} {l : Launch} {e : Env} {s : State} {m : MethodId} {args : Array Value} {below : List Frame} {meth : Method} {c : Code} {D : wD} {cy : Nat → ClassId} {X : va_W} {A : Nat → Prop} {S0 : wS} {post : Int32 → wS → Prop} (F : CallFix p m c cL_firstNew 5 s args wz_L_firstNew RL) (hr : meth.sig.returnType = (some .int)) (hlocks : meth.locks = false) (hK : wK D cy A s) (hl0 : l.stackTraces = false) (htab : c.exceptionTable.toList.map xhF = [(0, 10, 13, 18)]) : ∀ {S : wS} {H : Heap} {locs : List Loc} {ls : Array Slot} {a0 : Nat} {x1 : Int32} {x2 : Int32} {a3 : Nat}, wp_L_firstNew_0 D post S a0 x1 x2 a3 → wO D cy X A s.heap S H locs → wX D S0 S → lv_has ls 5 [(0, .ref a0), (1, .int x1), (2, .int x2), (3, .ref a3)] → wM D S a0 → sK S a0 = 16 → wM D S a3 → sK S a3 = 22 → W p l e r_L_firstNew s m args below meth c H locs 0 0 (vx_MQ below (va_Qi (fun r S9 => wX D S0 S9 ∧ post r S9) (wB D cy X A) A) (wEx D cy X A (fun _ _ => False)) args s 2 12 A) (F0 m 0 ls []) := by
  obtain ⟨hx, hb, hml, hown, hts⟩ := id F
  have hwg : ∀ w ∈ WG, w.before args s = true := fun w h => hts w (List.mem_cons_of_mem _ h)
  intro S H locs ls a0 x1 x2 a3 hp hW hE hl hL_a0 hK_a0 hL_a3 hK_a3
  unfold wp_L_firstNew_0 at hp
  refine lv_aload_n hx hb dL_firstNew_0 rfl (lv_at hl 3 rfl) ?_
  refine lv_iconst (v := 0) hx hb dL_firstNew_1 (by decide) ?_
  refine lv_aload_n hx hb dL_firstNew_2 rfl (lv_at hl 0 rfl) ?_
  refine lv_iload_n hx hb dL_firstNew_3 rfl (lv_at hl 1 rfl) ?_
  refine lv_iload_n hx hb dL_firstNew_4 rfl (lv_at hl 2 rfl) ?_
  refine x_callI (vx_runV (As := [.int x1, .int x2]) (rest := [.int (0 : Int32), .ref a3]) F (c_X11_firstNew l hl0 hL_a0 hK_a0 hp H.size) (cwV (C := RX11) 2 hts (wg_V wm_RL_129 wy_X11_firstNew) rfl rfl rfl (by decide +kernel) ⟨Nat.le_of_ble_eq_true rfl, Nat.le_of_ble_eq_true rfl⟩) (w_preV hK hW hL_a0 hK_a0 (by decide) rfl) rfl rfl hl.1 rfl (lv_room (Nat.le_of_ble_eq_true rfl)) dL_firstNew_5 ⟨Nat.le_of_ble_eq_true rfl, Nat.le_of_ble_eq_true rfl⟩) hW (fun E ce q9 S9 H locs hp hW h1 h2 h3 => ?_) (fun r_1 S_2 H locs hp hW => ?_)
  · obtain ⟨hX_9, hp⟩ := hp
    have hE := hE.trans hX_9
    obtain ⟨z0, htl, ez0⟩ := x_tab1 htab
    rcases hp with ⟨hEe, hp⟩
    · subst hEe
      refine x_catch (nm := "java/lang/IndexOutOfBoundsException") F hK [] z0 [] (by rw [htl]; rfl) ez0 (by decide) (by decide) (fun z hz => nomatch hz) (hwg _ wc_RL_18) (by decide +kernel) h1 h2 h3 ?_
      refine W.widen (k := 2) (n := 12) (by decide) (by decide) ?_
      refine lv_astore (lv' := [(4, .ref q9), (0, .ref a0), (1, .int x1), (2, .int x2), (3, .ref a3)]) hx hb dL_firstNew_13 hl (by decide) rfl (fun ls hl => ?_)
      refine lv_iconst (v := 1) hx hb dL_firstNew_15 (by decide) ?_
      refine vx_ret ?_
      exact w_iret hx hb hr hlocks hW ⟨hE, hp⟩ dL_firstNew_16
  · obtain ⟨hX_S_2, hp⟩ := hp
    refine W.widen (k := 2) (n := 12) (by decide) (by decide) ?_
    have hE := hE.trans hX_S_2
    have hK_a0 : sK S_2 a0 = 16 := (hX_S_2.2 a0 hL_a0).1.trans hK_a0
    have hL_a0 : wM D S_2 a0 := hX_S_2.M hL_a0
    have hK_a3 : sK S_2 a3 = 22 := (hX_S_2.2 a3 hL_a3).1.trans hK_a3
    have hL_a3 : wM D S_2 a3 := hX_S_2.M hL_a3
    refine lv_i2l (v := (Int32.toInt64 r_1)) hx hb dL_firstNew_8 rfl ?_
    obtain ⟨h_3m, h_3, hp⟩ := hp
    refine w_lst F hK hW h_3m hK_a3 h_3 dL_firstNew_9 (fun H locs hW => ?_)
    obtain ⟨S_4, eS_4⟩ : ∃ z : wS, z = uJ S_2 a3 ((0 : Int32)).toNatClampNeg (Int32.toInt64 r_1) := ⟨_, rfl⟩
    rw [← eS_4] at hW
    replace hp := hp S_4 eS_4
    have hX_S_4 : wX D S_2 S_4 := by rw [eS_4]; exact wX_uJ
    have hE := hE.trans hX_S_4
    have hK_a0 : sK S_4 a0 = 16 := (hX_S_4.2 a0 hL_a0).1.trans hK_a0
    have hL_a0 : wM D S_4 a0 := hX_S_4.M hL_a0
    have hK_a3 : sK S_4 a3 = 22 := (hX_S_4.2 a3 hL_a3).1.trans hK_a3
    have hL_a3 : wM D S_4 a3 := hX_S_4.M hL_a3
    refine lv_goto (tgt := 17) hx hb dL_firstNew_10 (by decide) ?_
    refine lv_iconst (v := 0) hx hb dL_firstNew_17 (by decide) ?_
    refine vx_ret ?_
    exact w_iret hx hb hr hlocks hW ⟨hE, hp⟩ dL_firstNew_18
set_option maxHeartbeats 4000000 in
set_option maxRecDepth 100000 in
theorem c_L_firstNew (l : Launch) {D : wD} {cy : Nat → ClassId} {X : va_W} {S0 : wS} {post : Int32 → wS → Prop} (hl0 : l.stackTraces = false) {a0 : Nat} {x1 : Int32} {x2 : Int32} {a3 : Nat} (hL_a0 : wM D S0 a0) (hK_a0 : sK S0 a0 = 16) (hL_a3 : wM D S0 a3) (hK_a3 : sK S0 a3 = 22) (hp : wp_L_firstNew D post S0 a0 x1 x2 a3) : xI D cy X l yL_firstNew wz_L_firstNew r_L_firstNew [.ref a0, .int x1, .int x2, .ref a3] S0 (fun r S9 => wX D S0 S9 ∧ post r S9) (fun _ _ => False) := by
  intro sz
  refine vx_ofWH (hh := [(0, 10, 13, 18)]) (cc := cL_firstNew) (maxL := 5) (ret := (some .int)) (by decide) rfl ?_
  intro p e s m args below meth c s₁ B hml hv
  obtain ⟨rfl, hsz, hP, hK, hD0, hRO⟩ := hv
  have hts := atoms_spec (ws := wz_L_firstNew) B.pre
  have hown : s.vm.findClass RL = some m.cls := findClass_of_methodNamed B.named
  subst hsz
  have hD := hD0.self (sz := s.heap.size)
  have F : CallFix p m c cL_firstNew 5 s _ wz_L_firstNew RL := ⟨B.exec, B.bytes, hml, hown, hts⟩
  have htab : c.exceptionTable.toList.map xhF = [(0, 10, 13, 18)] := by
    obtain ⟨m9, meth9, c9, g0, g1, g2, -, -, g3, -⟩ := Cond.codeWith_spec (hts _ List.mem_cons_self)
    cases Option.some.inj (g0.symm.trans B.named)
    cases Option.some.inj (g1.symm.trans B.method)
    cases Option.some.inj (g2.symm.trans (Stand.of_body B).code)
    exact g3
  have hr := B.returns
  have hlocks := B.notSynchronized
  generalize hAe : va_A (wL cy X S0) s.heap.size = A at hD hK ⊢
  have hA : ∀ q, s.heap.size ≤ q → A q := fun q h => by rw [← hAe]; exact Or.inr h
  have hW : wO D cy X A s.heap S0 s.heap [] := ⟨hP, hD, va_S.rf, hA, hRO⟩
  have hl := lv_entry ([.ref a0, .int x1, .int x2, .ref a3]) (n := 5) (Nat.le_of_ble_eq_true rfl)
  rw [lg_entry_eq]
  generalize (lg_sl ([.ref a0, .int x1, .int x2, .ref a3]) ++ List.replicate (5 - (lg_sl ([.ref a0, .int x1, .int x2, .ref a3])).length) Slot.unset).toArray = ls at hl ⊢
  have hl : lv_has ls 5 [(0, .ref a0), (1, .int x1), (2, .int x2), (3, .ref a3)] := hl
  unfold wp_L_firstNew at hp
  exact t_L_firstNew_0 F hr hlocks hK hl0 htab hp hW wX.rf (lv_sub hl [0, 1, 2, 3] rfl) hL_a0 hK_a0 hL_a3 hK_a3
def wp_L_ask_0 (D : wD) (post : Int32 → wS → Prop)  (S : wS) (a0 : Nat) (x1 : Int32) (x2 : Int32) (a3 : Nat) : Prop :=
wp_X11_ask D (fun r_1 S_2 => 
a3 ∈ sL S_2 ∧ vp_in (0 : Int32) (sN S_2 a3) ∧
∀ S_4 : wS, S_4 = uJ S_2 a3 ((0 : Int32)).toNatClampNeg (Int32.toInt64 r_1) →
post (0 : Int32) S_4) (fun E_9 S9 => (E_9 = "java/lang/IndexOutOfBoundsException" ∧ post (1 : Int32) S9) ∨ (E_9 = "java/lang/IllegalArgumentException" ∧ post (2 : Int32) S9)) S a0 x1 x2
abbrev r_L_ask : Room := { frames := 8, cells := 2, slots := 12, locals := 164 }
def wp_L_ask (D : wD) (post : Int32 → wS → Prop) (S : wS) (a0 : Nat) (x1 : Int32) (x2 : Int32) (a3 : Nat) : Prop := wp_L_ask_0 D post S a0 x1 x2 a3
set_option maxHeartbeats 4000000 in
set_option maxRecDepth 100000 in
theorem t_L_ask_0 {p : Program} {l : Launch} {e : Env} {s : State} {m : MethodId} {args : Array Value} {below : List Frame} {meth : Method} {c : Code} {D : wD} {cy : Nat → ClassId} {X : va_W} {A : Nat → Prop} {S0 : wS} {post : Int32 → wS → Prop} (F : CallFix p m c cL_ask 5 s args wz_L_ask RL) (hr : meth.sig.returnType = (some .int)) (hlocks : meth.locks = false) (hK : wK D cy A s) (hl0 : l.stackTraces = false) (htab : c.exceptionTable.toList.map xhF = [(0, 10, 13, 18), (0, 10, 17, 13)]) : ∀ {S : wS} {H : Heap} {locs : List Loc} {ls : Array Slot} {a0 : Nat} {x1 : Int32} {x2 : Int32} {a3 : Nat}, wp_L_ask_0 D post S a0 x1 x2 a3 → wO D cy X A s.heap S H locs → wX D S0 S → lv_has ls 5 [(0, .ref a0), (1, .int x1), (2, .int x2), (3, .ref a3)] → wM D S a0 → sK S a0 = 16 → wM D S a3 → sK S a3 = 22 → W p l e r_L_ask s m args below meth c H locs 0 0 (vx_MQ below (va_Qi (fun r S9 => wX D S0 S9 ∧ post r S9) (wB D cy X A) A) (wEx D cy X A (fun _ _ => False)) args s 2 12 A) (F0 m 0 ls []) := by
  obtain ⟨hx, hb, hml, hown, hts⟩ := id F
  have hwg : ∀ w ∈ WG, w.before args s = true := fun w h => hts w (List.mem_cons_of_mem _ h)
  intro S H locs ls a0 x1 x2 a3 hp hW hE hl hL_a0 hK_a0 hL_a3 hK_a3
  unfold wp_L_ask_0 at hp
  refine lv_aload_n hx hb dL_ask_0 rfl (lv_at hl 3 rfl) ?_
  refine lv_iconst (v := 0) hx hb dL_ask_1 (by decide) ?_
  refine lv_aload_n hx hb dL_ask_2 rfl (lv_at hl 0 rfl) ?_
  refine lv_iload_n hx hb dL_ask_3 rfl (lv_at hl 1 rfl) ?_
  refine lv_iload_n hx hb dL_ask_4 rfl (lv_at hl 2 rfl) ?_
  refine x_callI (vx_runV (As := [.int x1, .int x2]) (rest := [.int (0 : Int32), .ref a3]) F (c_X11_ask l hl0 hL_a0 hK_a0 hp H.size) (cwV (C := RX11) 2 hts (wg_V wm_RL_132 wy_X11_ask) rfl rfl rfl (by decide +kernel) ⟨Nat.le_of_ble_eq_true rfl, Nat.le_of_ble_eq_true rfl⟩) (w_preV hK hW hL_a0 hK_a0 (by decide) rfl) rfl rfl hl.1 rfl (lv_room (Nat.le_of_ble_eq_true rfl)) dL_ask_5 ⟨Nat.le_of_ble_eq_true rfl, Nat.le_of_ble_eq_true rfl⟩) hW (fun E ce q9 S9 H locs hp hW h1 h2 h3 => ?_) (fun r_1 S_2 H locs hp hW => ?_)
  · obtain ⟨hX_9, hp⟩ := hp
    have hE := hE.trans hX_9
    obtain ⟨z0, z1, htl, ez0, ez1⟩ := x_tab2 htab
    rcases hp with ⟨hEe, hp⟩ | ⟨hEe, hp⟩
    · subst hEe
      refine x_catch (nm := "java/lang/IndexOutOfBoundsException") F hK [] z0 [z1] (by rw [htl]; rfl) ez0 (by decide) (by decide) (fun z hz => nomatch hz) (hwg _ wc_RL_18) (by decide +kernel) h1 h2 h3 ?_
      refine W.widen (k := 2) (n := 12) (by decide) (by decide) ?_
      refine lv_astore (lv' := [(4, .ref q9), (0, .ref a0), (1, .int x1), (2, .int x2), (3, .ref a3)]) hx hb dL_ask_13 hl (by decide) rfl (fun ls hl => ?_)
      refine lv_iconst (v := 1) hx hb dL_ask_15 (by decide) ?_
      refine vx_ret ?_
      exact w_iret hx hb hr hlocks hW ⟨hE, hp⟩ dL_ask_16
    · subst hEe
      refine x_catch (nm := "java/lang/IllegalArgumentException") F hK [z0] z1 [] (by rw [htl]; rfl) ez1 (by decide) (by decide) (fun z hz => by
          simp only [List.mem_cons, List.not_mem_nil, or_false] at hz
          rcases hz with hz
          · rw [hz]; exact ⟨by rw [show z0.catchType = 18 from congrArg (fun q => q.2.2.2) ez0]; decide, "java/lang/IndexOutOfBoundsException", by rw [show z0.catchType = 18 from congrArg (fun q => q.2.2.2) ez0]; exact hwg _ wc_RL_18, by decide +kernel⟩) (hwg _ wc_RL_13) (by decide +kernel) h1 h2 h3 ?_
      refine W.widen (k := 2) (n := 12) (by decide) (by decide) ?_
      refine lv_astore (lv' := [(4, .ref q9), (0, .ref a0), (1, .int x1), (2, .int x2), (3, .ref a3)]) hx hb dL_ask_17 hl (by decide) rfl (fun ls hl => ?_)
      refine lv_iconst (v := 2) hx hb dL_ask_19 (by decide) ?_
      refine vx_ret ?_
      exact w_iret hx hb hr hlocks hW ⟨hE, hp⟩ dL_ask_20
  · obtain ⟨hX_S_2, hp⟩ := hp
    refine W.widen (k := 2) (n := 12) (by decide) (by decide) ?_
    have hE := hE.trans hX_S_2
    have hK_a0 : sK S_2 a0 = 16 := (hX_S_2.2 a0 hL_a0).1.trans hK_a0
    have hL_a0 : wM D S_2 a0 := hX_S_2.M hL_a0
    have hK_a3 : sK S_2 a3 = 22 := (hX_S_2.2 a3 hL_a3).1.trans hK_a3
    have hL_a3 : wM D S_2 a3 := hX_S_2.M hL_a3
    refine lv_i2l (v := (Int32.toInt64 r_1)) hx hb dL_ask_8 rfl ?_
    obtain ⟨h_3m, h_3, hp⟩ := hp
    refine w_lst F hK hW h_3m hK_a3 h_3 dL_ask_9 (fun H locs hW => ?_)
    obtain ⟨S_4, eS_4⟩ : ∃ z : wS, z = uJ S_2 a3 ((0 : Int32)).toNatClampNeg (Int32.toInt64 r_1) := ⟨_, rfl⟩
    rw [← eS_4] at hW
    replace hp := hp S_4 eS_4
    have hX_S_4 : wX D S_2 S_4 := by rw [eS_4]; exact wX_uJ
    have hE := hE.trans hX_S_4
    have hK_a0 : sK S_4 a0 = 16 := (hX_S_4.2 a0 hL_a0).1.trans hK_a0
    have hL_a0 : wM D S_4 a0 := hX_S_4.M hL_a0
    have hK_a3 : sK S_4 a3 = 22 := (hX_S_4.2 a3 hL_a3).1.trans hK_a3
    have hL_a3 : wM D S_4 a3 := hX_S_4.M hL_a3
    refine lv_goto (tgt := 21) hx hb dL_ask_10 (by decide) ?_
    refine lv_iconst (v := 0) hx hb dL_ask_21 (by decide) ?_
    refine vx_ret ?_
    exact w_iret hx hb hr hlocks hW ⟨hE, hp⟩ dL_ask_22
set_option maxHeartbeats 4000000 in
set_option maxRecDepth 100000 in
theorem c_L_ask (l : Launch) {D : wD} {cy : Nat → ClassId} {X : va_W} {S0 : wS} {post : Int32 → wS → Prop} (hl0 : l.stackTraces = false) {a0 : Nat} {x1 : Int32} {x2 : Int32} {a3 : Nat} (hL_a0 : wM D S0 a0) (hK_a0 : sK S0 a0 = 16) (hL_a3 : wM D S0 a3) (hK_a3 : sK S0 a3 = 22) (hp : wp_L_ask D post S0 a0 x1 x2 a3) : xI D cy X l yL_ask wz_L_ask r_L_ask [.ref a0, .int x1, .int x2, .ref a3] S0 (fun r S9 => wX D S0 S9 ∧ post r S9) (fun _ _ => False) := by
  intro sz
  refine vx_ofWH (hh := [(0, 10, 13, 18), (0, 10, 17, 13)]) (cc := cL_ask) (maxL := 5) (ret := (some .int)) (by decide) rfl ?_
  intro p e s m args below meth c s₁ B hml hv
  obtain ⟨rfl, hsz, hP, hK, hD0, hRO⟩ := hv
  have hts := atoms_spec (ws := wz_L_ask) B.pre
  have hown : s.vm.findClass RL = some m.cls := findClass_of_methodNamed B.named
  subst hsz
  have hD := hD0.self (sz := s.heap.size)
  have F : CallFix p m c cL_ask 5 s _ wz_L_ask RL := ⟨B.exec, B.bytes, hml, hown, hts⟩
  have htab : c.exceptionTable.toList.map xhF = [(0, 10, 13, 18), (0, 10, 17, 13)] := by
    obtain ⟨m9, meth9, c9, g0, g1, g2, -, -, g3, -⟩ := Cond.codeWith_spec (hts _ List.mem_cons_self)
    cases Option.some.inj (g0.symm.trans B.named)
    cases Option.some.inj (g1.symm.trans B.method)
    cases Option.some.inj (g2.symm.trans (Stand.of_body B).code)
    exact g3
  have hr := B.returns
  have hlocks := B.notSynchronized
  generalize hAe : va_A (wL cy X S0) s.heap.size = A at hD hK ⊢
  have hA : ∀ q, s.heap.size ≤ q → A q := fun q h => by rw [← hAe]; exact Or.inr h
  have hW : wO D cy X A s.heap S0 s.heap [] := ⟨hP, hD, va_S.rf, hA, hRO⟩
  have hl := lv_entry ([.ref a0, .int x1, .int x2, .ref a3]) (n := 5) (Nat.le_of_ble_eq_true rfl)
  rw [lg_entry_eq]
  generalize (lg_sl ([.ref a0, .int x1, .int x2, .ref a3]) ++ List.replicate (5 - (lg_sl ([.ref a0, .int x1, .int x2, .ref a3])).length) Slot.unset).toArray = ls at hl ⊢
  have hl : lv_has ls 5 [(0, .ref a0), (1, .int x1), (2, .int x2), (3, .ref a3)] := hl
  unfold wp_L_ask at hp
  exact t_L_ask_0 F hr hlocks hK hl0 htab hp hW wX.rf (lv_sub hl [0, 1, 2, 3] rfl) hL_a0 hK_a0 hL_a3 hK_a3
def wp_L_patternCount_0 (D : wD) (post : Int32 → wS → Prop)  (S : wS) (a0 : Nat) (x1 : Int32) (a2 : Nat) : Prop :=
wp_X11_patternCount D (fun r_1 S_2 => 
a2 ∈ sL S_2 ∧ vp_in (0 : Int32) (sN S_2 a2) ∧
∀ S_4 : wS, S_4 = uJ S_2 a2 ((0 : Int32)).toNatClampNeg (Int32.toInt64 r_1) →
post (0 : Int32) S_4) (fun E_9 S9 => (E_9 = "java/lang/IndexOutOfBoundsException" ∧ post (1 : Int32) S9)) S a0 x1
abbrev r_L_patternCount : Room := { frames := 8, cells := 1, slots := 6, locals := 162 }
def wp_L_patternCount (D : wD) (post : Int32 → wS → Prop) (S : wS) (a0 : Nat) (x1 : Int32) (a2 : Nat) : Prop := wp_L_patternCount_0 D post S a0 x1 a2
set_option maxHeartbeats 4000000 in
set_option maxRecDepth 100000 in
theorem t_L_patternCount_0 {p : Program} {l : Launch} {e : Env} {s : State} {m : MethodId} {args : Array Value} {below : List Frame} {meth : Method} {c : Code} {D : wD} {cy : Nat → ClassId} {X : va_W} {A : Nat → Prop} {S0 : wS} {post : Int32 → wS → Prop} (F : CallFix p m c cL_patternCount 4 s args wz_L_patternCount RL) (hr : meth.sig.returnType = (some .int)) (hlocks : meth.locks = false) (hK : wK D cy A s) (hl0 : l.stackTraces = false) (htab : c.exceptionTable.toList.map xhF = [(0, 9, 12, 18)]) : ∀ {S : wS} {H : Heap} {locs : List Loc} {ls : Array Slot} {a0 : Nat} {x1 : Int32} {a2 : Nat}, wp_L_patternCount_0 D post S a0 x1 a2 → wO D cy X A s.heap S H locs → wX D S0 S → lv_has ls 4 [(0, .ref a0), (1, .int x1), (2, .ref a2)] → wM D S a0 → sK S a0 = 16 → wM D S a2 → sK S a2 = 22 → W p l e r_L_patternCount s m args below meth c H locs 0 0 (vx_MQ below (va_Qi (fun r S9 => wX D S0 S9 ∧ post r S9) (wB D cy X A) A) (wEx D cy X A (fun _ _ => False)) args s 1 6 A) (F0 m 0 ls []) := by
  obtain ⟨hx, hb, hml, hown, hts⟩ := id F
  have hwg : ∀ w ∈ WG, w.before args s = true := fun w h => hts w (List.mem_cons_of_mem _ h)
  intro S H locs ls a0 x1 a2 hp hW hE hl hL_a0 hK_a0 hL_a2 hK_a2
  unfold wp_L_patternCount_0 at hp
  refine lv_aload_n hx hb dL_patternCount_0 rfl (lv_at hl 2 rfl) ?_
  refine lv_iconst (v := 0) hx hb dL_patternCount_1 (by decide) ?_
  refine lv_aload_n hx hb dL_patternCount_2 rfl (lv_at hl 0 rfl) ?_
  refine lv_iload_n hx hb dL_patternCount_3 rfl (lv_at hl 1 rfl) ?_
  refine x_callI (vx_runV (As := [.int x1]) (rest := [.int (0 : Int32), .ref a2]) F (c_X11_patternCount l hl0 hL_a0 hK_a0 hp H.size) (cwV (C := RX11) 1 hts (wg_V wm_RL_135 wy_X11_patternCount) rfl rfl rfl (by decide +kernel) ⟨Nat.le_of_ble_eq_true rfl, Nat.le_of_ble_eq_true rfl⟩) (w_preV hK hW hL_a0 hK_a0 (by decide) rfl) rfl rfl hl.1 rfl (lv_room (Nat.le_of_ble_eq_true rfl)) dL_patternCount_4 ⟨Nat.le_of_ble_eq_true rfl, Nat.le_of_ble_eq_true rfl⟩) hW (fun E ce q9 S9 H locs hp hW h1 h2 h3 => ?_) (fun r_1 S_2 H locs hp hW => ?_)
  · obtain ⟨hX_9, hp⟩ := hp
    have hE := hE.trans hX_9
    obtain ⟨z0, htl, ez0⟩ := x_tab1 htab
    rcases hp with ⟨hEe, hp⟩
    · subst hEe
      refine x_catch (nm := "java/lang/IndexOutOfBoundsException") F hK [] z0 [] (by rw [htl]; rfl) ez0 (by decide) (by decide) (fun z hz => nomatch hz) (hwg _ wc_RL_18) (by decide +kernel) h1 h2 h3 ?_
      refine W.widen (k := 1) (n := 6) (by decide) (by decide) ?_
      refine lv_astore_n (lv' := [(3, .ref q9), (0, .ref a0), (1, .int x1), (2, .ref a2)]) hx hb dL_patternCount_12 rfl hl (by decide) rfl (fun ls hl => ?_)
      refine lv_iconst (v := 1) hx hb dL_patternCount_13 (by decide) ?_
      refine vx_ret ?_
      exact w_iret hx hb hr hlocks hW ⟨hE, hp⟩ dL_patternCount_14
  · obtain ⟨hX_S_2, hp⟩ := hp
    refine W.widen (k := 1) (n := 6) (by decide) (by decide) ?_
    have hE := hE.trans hX_S_2
    have hK_a0 : sK S_2 a0 = 16 := (hX_S_2.2 a0 hL_a0).1.trans hK_a0
    have hL_a0 : wM D S_2 a0 := hX_S_2.M hL_a0
    have hK_a2 : sK S_2 a2 = 22 := (hX_S_2.2 a2 hL_a2).1.trans hK_a2
    have hL_a2 : wM D S_2 a2 := hX_S_2.M hL_a2
    refine lv_i2l (v := (Int32.toInt64 r_1)) hx hb dL_patternCount_7 rfl ?_
    obtain ⟨h_3m, h_3, hp⟩ := hp
    refine w_lst F hK hW h_3m hK_a2 h_3 dL_patternCount_8 (fun H locs hW => ?_)
    obtain ⟨S_4, eS_4⟩ : ∃ z : wS, z = uJ S_2 a2 ((0 : Int32)).toNatClampNeg (Int32.toInt64 r_1) := ⟨_, rfl⟩
    rw [← eS_4] at hW
    replace hp := hp S_4 eS_4
    have hX_S_4 : wX D S_2 S_4 := by rw [eS_4]; exact wX_uJ
    have hE := hE.trans hX_S_4
    have hK_a0 : sK S_4 a0 = 16 := (hX_S_4.2 a0 hL_a0).1.trans hK_a0
    have hL_a0 : wM D S_4 a0 := hX_S_4.M hL_a0
    have hK_a2 : sK S_4 a2 = 22 := (hX_S_4.2 a2 hL_a2).1.trans hK_a2
    have hL_a2 : wM D S_4 a2 := hX_S_4.M hL_a2
    refine lv_goto (tgt := 15) hx hb dL_patternCount_9 (by decide) ?_
    refine lv_iconst (v := 0) hx hb dL_patternCount_15 (by decide) ?_
    refine vx_ret ?_
    exact w_iret hx hb hr hlocks hW ⟨hE, hp⟩ dL_patternCount_16
set_option maxHeartbeats 4000000 in
set_option maxRecDepth 100000 in
theorem c_L_patternCount (l : Launch) {D : wD} {cy : Nat → ClassId} {X : va_W} {S0 : wS} {post : Int32 → wS → Prop} (hl0 : l.stackTraces = false) {a0 : Nat} {x1 : Int32} {a2 : Nat} (hL_a0 : wM D S0 a0) (hK_a0 : sK S0 a0 = 16) (hL_a2 : wM D S0 a2) (hK_a2 : sK S0 a2 = 22) (hp : wp_L_patternCount D post S0 a0 x1 a2) : xI D cy X l yL_patternCount wz_L_patternCount r_L_patternCount [.ref a0, .int x1, .ref a2] S0 (fun r S9 => wX D S0 S9 ∧ post r S9) (fun _ _ => False) := by
  intro sz
  refine vx_ofWH (hh := [(0, 9, 12, 18)]) (cc := cL_patternCount) (maxL := 4) (ret := (some .int)) (by decide) rfl ?_
  intro p e s m args below meth c s₁ B hml hv
  obtain ⟨rfl, hsz, hP, hK, hD0, hRO⟩ := hv
  have hts := atoms_spec (ws := wz_L_patternCount) B.pre
  have hown : s.vm.findClass RL = some m.cls := findClass_of_methodNamed B.named
  subst hsz
  have hD := hD0.self (sz := s.heap.size)
  have F : CallFix p m c cL_patternCount 4 s _ wz_L_patternCount RL := ⟨B.exec, B.bytes, hml, hown, hts⟩
  have htab : c.exceptionTable.toList.map xhF = [(0, 9, 12, 18)] := by
    obtain ⟨m9, meth9, c9, g0, g1, g2, -, -, g3, -⟩ := Cond.codeWith_spec (hts _ List.mem_cons_self)
    cases Option.some.inj (g0.symm.trans B.named)
    cases Option.some.inj (g1.symm.trans B.method)
    cases Option.some.inj (g2.symm.trans (Stand.of_body B).code)
    exact g3
  have hr := B.returns
  have hlocks := B.notSynchronized
  generalize hAe : va_A (wL cy X S0) s.heap.size = A at hD hK ⊢
  have hA : ∀ q, s.heap.size ≤ q → A q := fun q h => by rw [← hAe]; exact Or.inr h
  have hW : wO D cy X A s.heap S0 s.heap [] := ⟨hP, hD, va_S.rf, hA, hRO⟩
  have hl := lv_entry ([.ref a0, .int x1, .ref a2]) (n := 4) (Nat.le_of_ble_eq_true rfl)
  rw [lg_entry_eq]
  generalize (lg_sl ([.ref a0, .int x1, .ref a2]) ++ List.replicate (4 - (lg_sl ([.ref a0, .int x1, .ref a2])).length) Slot.unset).toArray = ls at hl ⊢
  have hl : lv_has ls 4 [(0, .ref a0), (1, .int x1), (2, .ref a2)] := hl
  unfold wp_L_patternCount at hp
  exact t_L_patternCount_0 F hr hlocks hK hl0 htab hp hW wX.rf (lv_sub hl [0, 1, 2] rfl) hL_a0 hK_a0 hL_a2 hK_a2
