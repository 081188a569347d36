theorem dX11_isOpenFile_0 : decode cX11_isOpenFile 0 = .ok (.iload_n 1, 1) := by decide +kernel
theorem dX11_isOpenFile_1 : decode cX11_isOpenFile 1 = .ok (.ifCond .lt 14, 3) := by decide +kernel
theorem dX11_isOpenFile_4 : decode cX11_isOpenFile 4 = .ok (.iload_n 1, 1) := by decide +kernel
theorem dX11_isOpenFile_5 : decode cX11_isOpenFile 5 = .ok (.aload_n 0, 1) := by decide +kernel
theorem dX11_isOpenFile_6 : decode cX11_isOpenFile 6 = .ok (.getfield 12, 3) := by decide +kernel
theorem dX11_isOpenFile_9 : decode cX11_isOpenFile 9 = .ok (.getfield 252, 3) := by decide +kernel
theorem dX11_isOpenFile_12 : decode cX11_isOpenFile 12 = .ok (.if_icmp .lt 13, 3) := by decide +kernel
theorem dX11_isOpenFile_15 : decode cX11_isOpenFile 15 = .ok (.new 235, 3) := by decide +kernel
theorem dX11_isOpenFile_18 : decode cX11_isOpenFile 18 = .ok (.dup, 1) := by decide +kernel
theorem dX11_isOpenFile_19 : decode cX11_isOpenFile 19 = .ok (.ldc 255, 2) := by decide +kernel
theorem dX11_isOpenFile_21 : decode cX11_isOpenFile 21 = .ok (.invokespecial 239, 3) := by decide +kernel
theorem dX11_isOpenFile_24 : decode cX11_isOpenFile 24 = .ok (.athrow, 1) := by decide +kernel
theorem dX11_isOpenFile_25 : decode cX11_isOpenFile 25 = .ok (.aload_n 0, 1) := by decide +kernel
theorem dX11_isOpenFile_26 : decode cX11_isOpenFile 26 = .ok (.getfield 28, 3) := by decide +kernel
theorem dX11_isOpenFile_29 : decode cX11_isOpenFile 29 = .ok (.bipush 6, 2) := by decide +kernel
theorem dX11_isOpenFile_31 : decode cX11_isOpenFile 31 = .ok (.invokevirtual 248, 3) := by decide +kernel
theorem dX11_isOpenFile_34 : decode cX11_isOpenFile 34 = .ok (.aload_n 0, 1) := by decide +kernel
theorem dX11_isOpenFile_35 : decode cX11_isOpenFile 35 = .ok (.getfield 12, 3) := by decide +kernel
theorem dX11_isOpenFile_38 : decode cX11_isOpenFile 38 = .ok (.iload_n 1, 1) := by decide +kernel
theorem dX11_isOpenFile_39 : decode cX11_isOpenFile 39 = .ok (.invokevirtual 257, 3) := by decide +kernel
theorem dX11_isOpenFile_42 : decode cX11_isOpenFile 42 = .ok (.land, 1) := by decide +kernel
theorem dX11_isOpenFile_43 : decode cX11_isOpenFile 43 = .ok (.lconst 0, 1) := by decide +kernel
theorem dX11_isOpenFile_44 : decode cX11_isOpenFile 44 = .ok (.lcmp, 1) := by decide +kernel
theorem dX11_isOpenFile_45 : decode cX11_isOpenFile 45 = .ok (.ifCond .ne 7, 3) := by decide +kernel
theorem dX11_isOpenFile_48 : decode cX11_isOpenFile 48 = .ok (.iconst 1, 1) := by decide +kernel
theorem dX11_isOpenFile_49 : decode cX11_isOpenFile 49 = .ok (.goto 4, 3) := by decide +kernel
theorem dX11_isOpenFile_52 : decode cX11_isOpenFile 52 = .ok (.iconst 0, 1) := by decide +kernel
theorem dX11_isOpenFile_53 : decode cX11_isOpenFile 53 = .ok (.ireturn, 1) := by decide +kernel
theorem dX7_shieldsKing_0 : decode cX7_shieldsKing 0 = .ok (.aload_n 0, 1) := by decide +kernel
theorem dX7_shieldsKing_1 : decode cX7_shieldsKing 1 = .ok (.aload_n 0, 1) := by decide +kernel
theorem dX7_shieldsKing_2 : decode cX7_shieldsKing 2 = .ok (.getfield 24, 3) := by decide +kernel
theorem dX7_shieldsKing_5 : decode cX7_shieldsKing 5 = .ok (.invokevirtual 118, 3) := by decide +kernel
theorem dX7_shieldsKing_8 : decode cX7_shieldsKing 8 = .ok (.istore_n 2, 1) := by decide +kernel
theorem dX7_shieldsKing_9 : decode cX7_shieldsKing 9 = .ok (.iload_n 2, 1) := by decide +kernel
theorem dX7_shieldsKing_10 : decode cX7_shieldsKing 10 = .ok (.iconst (-1), 1) := by decide +kernel
theorem dX7_shieldsKing_11 : decode cX7_shieldsKing 11 = .ok (.if_icmp .eq 23, 3) := by decide +kernel
theorem dX7_shieldsKing_14 : decode cX7_shieldsKing 14 = .ok (.iload_n 1, 1) := by decide +kernel
theorem dX7_shieldsKing_15 : decode cX7_shieldsKing 15 = .ok (.iload_n 2, 1) := by decide +kernel
theorem dX7_shieldsKing_16 : decode cX7_shieldsKing 16 = .ok (.if_icmp .eq 18, 3) := by decide +kernel
theorem dX7_shieldsKing_19 : decode cX7_shieldsKing 19 = .ok (.aload_n 0, 1) := by decide +kernel
theorem dX7_shieldsKing_20 : decode cX7_shieldsKing 20 = .ok (.aload_n 0, 1) := by decide +kernel
theorem dX7_shieldsKing_21 : decode cX7_shieldsKing 21 = .ok (.getfield 24, 3) := by decide +kernel
theorem dX7_shieldsKing_24 : decode cX7_shieldsKing 24 = .ok (.invokevirtual 114, 3) := by decide +kernel
theorem dX7_shieldsKing_27 : decode cX7_shieldsKing 27 = .ok (.iload_n 1, 1) := by decide +kernel
theorem dX7_shieldsKing_28 : decode cX7_shieldsKing 28 = .ok (.invokestatic 79, 3) := by decide +kernel
theorem dX7_shieldsKing_31 : decode cX7_shieldsKing 31 = .ok (.ifCond .ne 5, 3) := by decide +kernel
theorem dX7_shieldsKing_34 : decode cX7_shieldsKing 34 = .ok (.iconst 0, 1) := by decide +kernel
theorem dX7_shieldsKing_35 : decode cX7_shieldsKing 35 = .ok (.ireturn, 1) := by decide +kernel
theorem dX7_shieldsKing_36 : decode cX7_shieldsKing 36 = .ok (.aload_n 0, 1) := by decide +kernel
theorem dX7_shieldsKing_37 : decode cX7_shieldsKing 37 = .ok (.iload_n 2, 1) := by decide +kernel
theorem dX7_shieldsKing_38 : decode cX7_shieldsKing 38 = .ok (.aload_n 0, 1) := by decide +kernel
theorem dX7_shieldsKing_39 : decode cX7_shieldsKing 39 = .ok (.getfield 24, 3) := by decide +kernel
theorem dX7_shieldsKing_42 : decode cX7_shieldsKing 42 = .ok (.ifCond .ne 7, 3) := by decide +kernel
theorem dX7_shieldsKing_45 : decode cX7_shieldsKing 45 = .ok (.iconst 1, 1) := by decide +kernel
theorem dX7_shieldsKing_46 : decode cX7_shieldsKing 46 = .ok (.goto 4, 3) := by decide +kernel
theorem dX7_shieldsKing_49 : decode cX7_shieldsKing 49 = .ok (.iconst 0, 1) := by decide +kernel
theorem dX7_shieldsKing_50 : decode cX7_shieldsKing 50 = .ok (.aload_n 0, 1) := by decide +kernel
theorem dX7_shieldsKing_51 : decode cX7_shieldsKing 51 = .ok (.invokevirtual 122, 3) := by decide +kernel
theorem dX7_shieldsKing_54 : decode cX7_shieldsKing 54 = .ok (.invokevirtual 125, 3) := by decide +kernel
theorem dX7_shieldsKing_57 : decode cX7_shieldsKing 57 = .ok (.lstore_n 3, 1) := by decide +kernel
theorem dX7_shieldsKing_58 : decode cX7_shieldsKing 58 = .ok (.aload_n 0, 1) := by decide +kernel
theorem dX7_shieldsKing_59 : decode cX7_shieldsKing 59 = .ok (.iload_n 2, 1) := by decide +kernel
theorem dX7_shieldsKing_60 : decode cX7_shieldsKing 60 = .ok (.aload_n 0, 1) := by decide +kernel
theorem dX7_shieldsKing_61 : decode cX7_shieldsKing 61 = .ok (.getfield 24, 3) := by decide +kernel
theorem dX7_shieldsKing_64 : decode cX7_shieldsKing 64 = .ok (.ifCond .ne 7, 3) := by decide +kernel
theorem dX7_shieldsKing_67 : decode cX7_shieldsKing 67 = .ok (.iconst 1, 1) := by decide +kernel
theorem dX7_shieldsKing_68 : decode cX7_shieldsKing 68 = .ok (.goto 4, 3) := by decide +kernel
theorem dX7_shieldsKing_71 : decode cX7_shieldsKing 71 = .ok (.iconst 0, 1) := by decide +kernel
theorem dX7_shieldsKing_72 : decode cX7_shieldsKing 72 = .ok (.aload_n 0, 1) := by decide +kernel
theorem dX7_shieldsKing_73 : decode cX7_shieldsKing 73 = .ok (.invokevirtual 122, 3) := by decide +kernel
theorem dX7_shieldsKing_76 : decode cX7_shieldsKing 76 = .ok (.lconst 1, 1) := by decide +kernel
theorem dX7_shieldsKing_77 : decode cX7_shieldsKing 77 = .ok (.iload_n 1, 1) := by decide +kernel
theorem dX7_shieldsKing_78 : decode cX7_shieldsKing 78 = .ok (.lshl, 1) := by decide +kernel
theorem dX7_shieldsKing_79 : decode cX7_shieldsKing 79 = .ok (.ldc2_w 70, 3) := by decide +kernel
theorem dX7_shieldsKing_82 : decode cX7_shieldsKing 82 = .ok (.lxor, 1) := by decide +kernel
theorem dX7_shieldsKing_83 : decode cX7_shieldsKing 83 = .ok (.land, 1) := by decide +kernel
theorem dX7_shieldsKing_84 : decode cX7_shieldsKing 84 = .ok (.invokevirtual 125, 3) := by decide +kernel
theorem dX7_shieldsKing_87 : decode cX7_shieldsKing 87 = .ok (.lstore 5, 2) := by decide +kernel
theorem dX7_shieldsKing_89 : decode cX7_shieldsKing 89 = .ok (.lload 5, 2) := by decide +kernel
theorem dX7_shieldsKing_91 : decode cX7_shieldsKing 91 = .ok (.lload_n 3, 1) := by decide +kernel
theorem dX7_shieldsKing_92 : decode cX7_shieldsKing 92 = .ok (.ldc2_w 70, 3) := by decide +kernel
theorem dX7_shieldsKing_95 : decode cX7_shieldsKing 95 = .ok (.lxor, 1) := by decide +kernel
theorem dX7_shieldsKing_96 : decode cX7_shieldsKing 96 = .ok (.land, 1) := by decide +kernel
theorem dX7_shieldsKing_97 : decode cX7_shieldsKing 97 = .ok (.lconst 0, 1) := by decide +kernel
theorem dX7_shieldsKing_98 : decode cX7_shieldsKing 98 = .ok (.lcmp, 1) := by decide +kernel
theorem dX7_shieldsKing_99 : decode cX7_shieldsKing 99 = .ok (.ifCond .eq 7, 3) := by decide +kernel
theorem dX7_shieldsKing_102 : decode cX7_shieldsKing 102 = .ok (.iconst 1, 1) := by decide +kernel
theorem dX7_shieldsKing_103 : decode cX7_shieldsKing 103 = .ok (.goto 4, 3) := by decide +kernel
theorem dX7_shieldsKing_106 : decode cX7_shieldsKing 106 = .ok (.iconst 0, 1) := by decide +kernel
theorem dX7_shieldsKing_107 : decode cX7_shieldsKing 107 = .ok (.ireturn, 1) := by decide +kernel
theorem dX11_isPinned_0 : decode cX11_isPinned 0 = .ok (.aload_n 0, 1) := by decide +kernel
theorem dX11_isPinned_1 : decode cX11_isPinned 1 = .ok (.iload_n 1, 1) := by decide +kernel
theorem dX11_isPinned_2 : decode cX11_isPinned 2 = .ok (.invokevirtual 160, 3) := by decide +kernel
theorem dX11_isPinned_5 : decode cX11_isPinned 5 = .ok (.aload_n 0, 1) := by decide +kernel
theorem dX11_isPinned_6 : decode cX11_isPinned 6 = .ok (.invokevirtual 217, 3) := by decide +kernel
theorem dX11_isPinned_9 : decode cX11_isPinned 9 = .ok (.aload_n 0, 1) := by decide +kernel
theorem dX11_isPinned_10 : decode cX11_isPinned 10 = .ok (.getfield 28, 3) := by decide +kernel
theorem dX11_isPinned_13 : decode cX11_isPinned 13 = .ok (.iload_n 1, 1) := by decide +kernel
theorem dX11_isPinned_14 : decode cX11_isPinned 14 = .ok (.invokevirtual 224, 3) := by decide +kernel
theorem dX11_isPinned_17 : decode cX11_isPinned 17 = .ok (.ireturn, 1) := by decide +kernel
theorem dX11_isProper_0 : decode cX11_isProper 0 = .ok (.aload_n 0, 1) := by decide +kernel
theorem dX11_isProper_1 : decode cX11_isProper 1 = .ok (.getfield 28, 3) := by decide +kernel
theorem dX11_isProper_4 : decode cX11_isProper 4 = .ok (.invokevirtual 209, 3) := by decide +kernel
theorem dX11_isProper_7 : decode cX11_isProper 7 = .ok (.ireturn, 1) := by decide +kernel
theorem dX11_isWhiteToMove_0 : decode cX11_isWhiteToMove 0 = .ok (.aload_n 0, 1) := by decide +kernel
theorem dX11_isWhiteToMove_1 : decode cX11_isWhiteToMove 1 = .ok (.getfield 28, 3) := by decide +kernel
theorem dX11_isWhiteToMove_4 : decode cX11_isWhiteToMove 4 = .ok (.getfield 183, 3) := by decide +kernel
theorem dX11_isWhiteToMove_7 : decode cX11_isWhiteToMove 7 = .ok (.ireturn, 1) := by decide +kernel
theorem dX11_keyCount_0 : decode cX11_keyCount 0 = .ok (.aload_n 0, 1) := by decide +kernel
theorem dX11_keyCount_1 : decode cX11_keyCount 1 = .ok (.invokevirtual 217, 3) := by decide +kernel
theorem dX11_keyCount_4 : decode cX11_keyCount 4 = .ok (.aload_n 0, 1) := by decide +kernel
theorem dX11_keyCount_5 : decode cX11_keyCount 5 = .ok (.getfield 91, 3) := by decide +kernel
theorem dX11_keyCount_8 : decode cX11_keyCount 8 = .ok (.aload_n 0, 1) := by decide +kernel
theorem dX11_keyCount_9 : decode cX11_keyCount 9 = .ok (.getfield 28, 3) := by decide +kernel
theorem dX11_keyCount_12 : decode cX11_keyCount 12 = .ok (.invokevirtual 432, 3) := by decide +kernel
theorem dX11_keyCount_15 : decode cX11_keyCount 15 = .ok (.aload_n 0, 1) := by decide +kernel
theorem dX11_keyCount_16 : decode cX11_keyCount 16 = .ok (.getfield 91, 3) := by decide +kernel
theorem dX11_keyCount_19 : decode cX11_keyCount 19 = .ok (.getfield 438, 3) := by decide +kernel
theorem dX11_keyCount_22 : decode cX11_keyCount 22 = .ok (.ireturn, 1) := by decide +kernel
theorem dX11_mustBeEndingKind_0 : decode cX11_mustBeEndingKind 0 = .ok (.iload_n 0, 1) := by decide +kernel
theorem dX11_mustBeEndingKind_1 : decode cX11_mustBeEndingKind 1 = .ok (.iconst 2, 1) := by decide +kernel
theorem dX11_mustBeEndingKind_2 : decode cX11_mustBeEndingKind 2 = .ok (.if_icmp .lt 8, 3) := by decide +kernel
theorem dX11_mustBeEndingKind_5 : decode cX11_mustBeEndingKind 5 = .ok (.iload_n 0, 1) := by decide +kernel
theorem dX11_mustBeEndingKind_6 : decode cX11_mustBeEndingKind 6 = .ok (.iconst 5, 1) := by decide +kernel
theorem dX11_mustBeEndingKind_7 : decode cX11_mustBeEndingKind 7 = .ok (.if_icmp .le 14, 3) := by decide +kernel
theorem dX11_mustBeEndingKind_10 : decode cX11_mustBeEndingKind 10 = .ok (.new 140, 3) := by decide +kernel
theorem dX11_mustBeEndingKind_13 : decode cX11_mustBeEndingKind 13 = .ok (.dup, 1) := by decide +kernel
theorem dX11_mustBeEndingKind_14 : decode cX11_mustBeEndingKind 14 = .ok (.ldc_w 499, 3) := by decide +kernel
theorem dX11_mustBeEndingKind_17 : decode cX11_mustBeEndingKind 17 = .ok (.invokespecial 144, 3) := by decide +kernel
theorem dX11_mustBeEndingKind_20 : decode cX11_mustBeEndingKind 20 = .ok (.athrow, 1) := by decide +kernel
theorem dX11_mustBeEndingKind_21 : decode cX11_mustBeEndingKind 21 = .ok (.return_, 1) := by decide +kernel
theorem dX2_greatestOf_0 : decode cX2_greatestOf 0 = .ok (.aload_n 0, 1) := by decide +kernel
theorem dX2_greatestOf_1 : decode cX2_greatestOf 1 = .ok (.iload_n 1, 1) := by decide +kernel
theorem dX2_greatestOf_2 : decode cX2_greatestOf 2 = .ok (.invokevirtual 45, 3) := by decide +kernel
theorem dX2_greatestOf_5 : decode cX2_greatestOf 5 = .ok (.ifCond .eq 21, 3) := by decide +kernel
theorem dX2_greatestOf_8 : decode cX2_greatestOf 8 = .ok (.iload_n 1, 1) := by decide +kernel
theorem dX2_greatestOf_9 : decode cX2_greatestOf 9 = .ok (.aload_n 0, 1) := by decide +kernel
theorem dX2_greatestOf_10 : decode cX2_greatestOf 10 = .ok (.getfield 19, 3) := by decide +kernel
theorem dX2_greatestOf_13 : decode cX2_greatestOf 13 = .ok (.arraylength, 1) := by decide +kernel
theorem dX2_greatestOf_14 : decode cX2_greatestOf 14 = .ok (.if_icmp .ge 12, 3) := by decide +kernel
theorem dX2_greatestOf_17 : decode cX2_greatestOf 17 = .ok (.aload_n 0, 1) := by decide +kernel
theorem dX2_greatestOf_18 : decode cX2_greatestOf 18 = .ok (.getfield 19, 3) := by decide +kernel
theorem dX2_greatestOf_21 : decode cX2_greatestOf 21 = .ok (.iload_n 1, 1) := by decide +kernel
theorem dX2_greatestOf_22 : decode cX2_greatestOf 22 = .ok (.iaload, 1) := by decide +kernel
theorem dX2_greatestOf_23 : decode cX2_greatestOf 23 = .ok (.goto 4, 3) := by decide +kernel
theorem dX2_greatestOf_26 : decode cX2_greatestOf 26 = .ok (.iconst (-1), 1) := by decide +kernel
theorem dX2_greatestOf_27 : decode cX2_greatestOf 27 = .ok (.ireturn, 1) := by decide +kernel
theorem dX11_longest_0 : decode cX11_longest 0 = .ok (.iload_n 1, 1) := by decide +kernel
theorem dX11_longest_1 : decode cX11_longest 1 = .ok (.invokestatic 446, 3) := by decide +kernel
theorem dX11_longest_4 : decode cX11_longest 4 = .ok (.aload_n 0, 1) := by decide +kernel
theorem dX11_longest_5 : decode cX11_longest 5 = .ok (.getfield 98, 3) := by decide +kernel
theorem dX11_longest_8 : decode cX11_longest 8 = .ok (.iload_n 1, 1) := by decide +kernel
theorem dX11_longest_9 : decode cX11_longest 9 = .ok (.invokevirtual 460, 3) := by decide +kernel
theorem dX11_longest_12 : decode cX11_longest 12 = .ok (.ifCond .ne 14, 3) := by decide +kernel
theorem dX11_longest_15 : decode cX11_longest 15 = .ok (.new 285, 3) := by decide +kernel
theorem dX11_longest_18 : decode cX11_longest 18 = .ok (.dup, 1) := by decide +kernel
theorem dX11_longest_19 : decode cX11_longest 19 = .ok (.ldc_w 469, 3) := by decide +kernel
theorem dX11_longest_22 : decode cX11_longest 22 = .ok (.invokespecial 289, 3) := by decide +kernel
theorem dX11_longest_25 : decode cX11_longest 25 = .ok (.athrow, 1) := by decide +kernel
theorem dX11_longest_26 : decode cX11_longest 26 = .ok (.aload_n 0, 1) := by decide +kernel
theorem dX11_longest_27 : decode cX11_longest 27 = .ok (.getfield 98, 3) := by decide +kernel
theorem dX11_longest_30 : decode cX11_longest 30 = .ok (.iload_n 1, 1) := by decide +kernel
theorem dX11_longest_31 : decode cX11_longest 31 = .ok (.invokevirtual 471, 3) := by decide +kernel
theorem dX11_longest_34 : decode cX11_longest 34 = .ok (.ireturn, 1) := by decide +kernel
theorem dX11_madeCount_0 : decode cX11_madeCount 0 = .ok (.aload_n 0, 1) := by decide +kernel
theorem dX11_madeCount_1 : decode cX11_madeCount 1 = .ok (.getfield 40, 3) := by decide +kernel
theorem dX11_madeCount_4 : decode cX11_madeCount 4 = .ok (.getfield 157, 3) := by decide +kernel
theorem dX11_madeCount_7 : decode cX11_madeCount 7 = .ok (.ireturn, 1) := by decide +kernel
theorem dX3_addMove_0 : decode cX3_addMove 0 = .ok (.aload_n 0, 1) := by decide +kernel
theorem dX3_addMove_1 : decode cX3_addMove 1 = .ok (.getfield 9, 3) := by decide +kernel
theorem dX3_addMove_4 : decode cX3_addMove 4 = .ok (.ifCond .lt 47, 3) := by decide +kernel
theorem dX3_addMove_7 : decode cX3_addMove 7 = .ok (.aload_n 0, 1) := by decide +kernel
theorem dX3_addMove_8 : decode cX3_addMove 8 = .ok (.getfield 9, 3) := by decide +kernel
theorem dX3_addMove_11 : decode cX3_addMove 11 = .ok (.aload_n 0, 1) := by decide +kernel
theorem dX3_addMove_12 : decode cX3_addMove 12 = .ok (.getfield 40, 3) := by decide +kernel
theorem dX3_addMove_15 : decode cX3_addMove 15 = .ok (.arraylength, 1) := by decide +kernel
theorem dX3_addMove_16 : decode cX3_addMove 16 = .ok (.if_icmp .ge 35, 3) := by decide +kernel
theorem dX3_addMove_19 : decode cX3_addMove 19 = .ok (.aload_n 0, 1) := by decide +kernel
theorem dX3_addMove_20 : decode cX3_addMove 20 = .ok (.getfield 40, 3) := by decide +kernel
theorem dX3_addMove_23 : decode cX3_addMove 23 = .ok (.aload_n 0, 1) := by decide +kernel
theorem dX3_addMove_24 : decode cX3_addMove 24 = .ok (.getfield 9, 3) := by decide +kernel
theorem dX3_addMove_27 : decode cX3_addMove 27 = .ok (.iload_n 1, 1) := by decide +kernel
theorem dX3_addMove_28 : decode cX3_addMove 28 = .ok (.iastore, 1) := by decide +kernel
theorem dX3_addMove_29 : decode cX3_addMove 29 = .ok (.aload_n 0, 1) := by decide +kernel
theorem dX3_addMove_30 : decode cX3_addMove 30 = .ok (.dup, 1) := by decide +kernel
theorem dX3_addMove_31 : decode cX3_addMove 31 = .ok (.getfield 9, 3) := by decide +kernel
theorem dX3_addMove_34 : decode cX3_addMove 34 = .ok (.iconst 1, 1) := by decide +kernel
theorem dX3_addMove_35 : decode cX3_addMove 35 = .ok (.iadd, 1) := by decide +kernel
theorem dX3_addMove_36 : decode cX3_addMove 36 = .ok (.putfield 9, 3) := by decide +kernel
theorem dX3_addMove_39 : decode cX3_addMove 39 = .ok (.aload_n 2, 1) := by decide +kernel
theorem dX3_addMove_40 : decode cX3_addMove 40 = .ok (.aload_n 0, 1) := by decide +kernel
theorem dX3_addMove_41 : decode cX3_addMove 41 = .ok (.getfield 36, 3) := by decide +kernel
theorem dX3_addMove_44 : decode cX3_addMove 44 = .ok (.aload_n 0, 1) := by decide +kernel
theorem dX3_addMove_45 : decode cX3_addMove 45 = .ok (.getfield 9, 3) := by decide +kernel
theorem dX3_addMove_48 : decode cX3_addMove 48 = .ok (.invokevirtual 48, 3) := by decide +kernel
theorem dX3_addMove_51 : decode cX3_addMove 51 = .ok (.return_, 1) := by decide +kernel
theorem dX11_make_0 : decode cX11_make 0 = .ok (.aload_n 0, 1) := by decide +kernel
theorem dX11_make_1 : decode cX11_make 1 = .ok (.getfield 28, 3) := by decide +kernel
theorem dX11_make_4 : decode cX11_make 4 = .ok (.iload_n 1, 1) := by decide +kernel
theorem dX11_make_5 : decode cX11_make 5 = .ok (.invokevirtual 521, 3) := by decide +kernel
theorem dX11_make_8 : decode cX11_make 8 = .ok (.aload_n 0, 1) := by decide +kernel
theorem dX11_make_9 : decode cX11_make 9 = .ok (.getfield 40, 3) := by decide +kernel
theorem dX11_make_12 : decode cX11_make 12 = .ok (.iload_n 1, 1) := by decide +kernel
theorem dX11_make_13 : decode cX11_make 13 = .ok (.aload_n 0, 1) := by decide +kernel
theorem dX11_make_14 : decode cX11_make 14 = .ok (.getfield 28, 3) := by decide +kernel
theorem dX11_make_17 : decode cX11_make 17 = .ok (.invokevirtual 524, 3) := by decide +kernel
theorem dX11_make_20 : decode cX11_make 20 = .ok (.return_, 1) := by decide +kernel
theorem dX11_material_0 : decode cX11_material 0 = .ok (.aload_n 0, 1) := by decide +kernel
theorem dX11_material_1 : decode cX11_material 1 = .ok (.getfield 28, 3) := by decide +kernel
theorem dX11_material_4 : decode cX11_material 4 = .ok (.iload_n 1, 1) := by decide +kernel
theorem dX11_material_5 : decode cX11_material 5 = .ok (.invokevirtual 244, 3) := by decide +kernel
theorem dX11_material_8 : decode cX11_material 8 = .ok (.lstore_n 2, 1) := by decide +kernel
theorem dX11_material_9 : decode cX11_material 9 = .ok (.bipush 9, 2) := by decide +kernel
theorem dX11_material_11 : decode cX11_material 11 = .ok (.aload_n 0, 1) := by decide +kernel
theorem dX11_material_12 : decode cX11_material 12 = .ok (.getfield 28, 3) := by decide +kernel
theorem dX11_material_15 : decode cX11_material 15 = .ok (.iconst 2, 1) := by decide +kernel
theorem dX11_material_16 : decode cX11_material 16 = .ok (.invokevirtual 248, 3) := by decide +kernel
theorem dX11_material_19 : decode cX11_material 19 = .ok (.lload_n 2, 1) := by decide +kernel
theorem dX11_material_20 : decode cX11_material 20 = .ok (.land, 1) := by decide +kernel
theorem dX11_material_21 : decode cX11_material 21 = .ok (.invokestatic 203, 3) := by decide +kernel
theorem dX11_material_24 : decode cX11_material 24 = .ok (.imul, 1) := by decide +kernel
theorem dX11_material_25 : decode cX11_material 25 = .ok (.iconst 5, 1) := by decide +kernel
theorem dX11_material_26 : decode cX11_material 26 = .ok (.aload_n 0, 1) := by decide +kernel
theorem dX11_material_27 : decode cX11_material 27 = .ok (.getfield 28, 3) := by decide +kernel
theorem dX11_material_30 : decode cX11_material 30 = .ok (.iconst 3, 1) := by decide +kernel
theorem dX11_material_31 : decode cX11_material 31 = .ok (.invokevirtual 248, 3) := by decide +kernel
theorem dX11_material_34 : decode cX11_material 34 = .ok (.lload_n 2, 1) := by decide +kernel
theorem dX11_material_35 : decode cX11_material 35 = .ok (.land, 1) := by decide +kernel
theorem dX11_material_36 : decode cX11_material 36 = .ok (.invokestatic 203, 3) := by decide +kernel
theorem dX11_material_39 : decode cX11_material 39 = .ok (.imul, 1) := by decide +kernel
theorem dX11_material_40 : decode cX11_material 40 = .ok (.iadd, 1) := by decide +kernel
theorem dX11_material_41 : decode cX11_material 41 = .ok (.iconst 3, 1) := by decide +kernel
theorem dX11_material_42 : decode cX11_material 42 = .ok (.aload_n 0, 1) := by decide +kernel
theorem dX11_material_43 : decode cX11_material 43 = .ok (.getfield 28, 3) := by decide +kernel
theorem dX11_material_46 : decode cX11_material 46 = .ok (.iconst 4, 1) := by decide +kernel
theorem dX11_material_47 : decode cX11_material 47 = .ok (.invokevirtual 248, 3) := by decide +kernel
theorem dX11_material_50 : decode cX11_material 50 = .ok (.aload_n 0, 1) := by decide +kernel
theorem dX11_material_51 : decode cX11_material 51 = .ok (.getfield 28, 3) := by decide +kernel
theorem dX11_material_54 : decode cX11_material 54 = .ok (.iconst 5, 1) := by decide +kernel
theorem dX11_material_55 : decode cX11_material 55 = .ok (.invokevirtual 248, 3) := by decide +kernel
theorem dX11_material_58 : decode cX11_material 58 = .ok (.lor, 1) := by decide +kernel
theorem dX11_material_59 : decode cX11_material 59 = .ok (.lload_n 2, 1) := by decide +kernel
theorem dX11_material_60 : decode cX11_material 60 = .ok (.land, 1) := by decide +kernel
theorem dX11_material_61 : decode cX11_material 61 = .ok (.invokestatic 203, 3) := by decide +kernel
theorem dX11_material_64 : decode cX11_material 64 = .ok (.imul, 1) := by decide +kernel
theorem dX11_material_65 : decode cX11_material 65 = .ok (.iadd, 1) := by decide +kernel
theorem dX11_material_66 : decode cX11_material 66 = .ok (.aload_n 0, 1) := by decide +kernel
theorem dX11_material_67 : decode cX11_material 67 = .ok (.getfield 28, 3) := by decide +kernel
theorem dX11_material_70 : decode cX11_material 70 = .ok (.bipush 6, 2) := by decide +kernel
theorem dX11_material_72 : decode cX11_material 72 = .ok (.invokevirtual 248, 3) := by decide +kernel
theorem dX11_material_75 : decode cX11_material 75 = .ok (.lload_n 2, 1) := by decide +kernel
theorem dX11_material_76 : decode cX11_material 76 = .ok (.land, 1) := by decide +kernel
theorem dX11_material_77 : decode cX11_material 77 = .ok (.invokestatic 203, 3) := by decide +kernel
theorem dX11_material_80 : decode cX11_material 80 = .ok (.iadd, 1) := by decide +kernel
theorem dX11_material_81 : decode cX11_material 81 = .ok (.ireturn, 1) := by decide +kernel
theorem dX11_moveBecomes_0 : decode cX11_moveBecomes 0 = .ok (.aload_n 0, 1) := by decide +kernel
theorem dX11_moveBecomes_1 : decode cX11_moveBecomes 1 = .ok (.iload_n 1, 1) := by decide +kernel
theorem dX11_moveBecomes_2 : decode cX11_moveBecomes 2 = .ok (.invokevirtual 264, 3) := by decide +kernel
theorem dX11_moveBecomes_5 : decode cX11_moveBecomes 5 = .ok (.invokestatic 273, 3) := by decide +kernel
theorem dX11_moveBecomes_8 : decode cX11_moveBecomes 8 = .ok (.ireturn, 1) := by decide +kernel
theorem dX11_moveCount_0 : decode cX11_moveCount 0 = .ok (.aload_n 0, 1) := by decide +kernel
theorem dX11_moveCount_1 : decode cX11_moveCount 1 = .ok (.invokevirtual 217, 3) := by decide +kernel
theorem dX11_moveCount_4 : decode cX11_moveCount 4 = .ok (.aload_n 0, 1) := by decide +kernel
theorem dX11_moveCount_5 : decode cX11_moveCount 5 = .ok (.getfield 21, 3) := by decide +kernel
theorem dX11_moveCount_8 : decode cX11_moveCount 8 = .ok (.aload_n 0, 1) := by decide +kernel
theorem dX11_moveCount_9 : decode cX11_moveCount 9 = .ok (.getfield 28, 3) := by decide +kernel
theorem dX11_moveCount_12 : decode cX11_moveCount 12 = .ok (.invokevirtual 260, 3) := by decide +kernel
theorem dX11_moveCount_15 : decode cX11_moveCount 15 = .ok (.ireturn, 1) := by decide +kernel
theorem dX11_moveFrom_0 : decode cX11_moveFrom 0 = .ok (.aload_n 0, 1) := by decide +kernel
theorem dX11_moveFrom_1 : decode cX11_moveFrom 1 = .ok (.iload_n 1, 1) := by decide +kernel
theorem dX11_moveFrom_2 : decode cX11_moveFrom 2 = .ok (.invokevirtual 264, 3) := by decide +kernel
theorem dX11_moveFrom_5 : decode cX11_moveFrom 5 = .ok (.invokestatic 267, 3) := by decide +kernel
theorem dX11_moveFrom_8 : decode cX11_moveFrom 8 = .ok (.ireturn, 1) := by decide +kernel
theorem dX11_moveTo_0 : decode cX11_moveTo 0 = .ok (.aload_n 0, 1) := by decide +kernel
theorem dX11_moveTo_1 : decode cX11_moveTo 1 = .ok (.iload_n 1, 1) := by decide +kernel
theorem dX11_moveTo_2 : decode cX11_moveTo 2 = .ok (.invokevirtual 264, 3) := by decide +kernel
theorem dX11_moveTo_5 : decode cX11_moveTo 5 = .ok (.invokestatic 270, 3) := by decide +kernel
theorem dX11_moveTo_8 : decode cX11_moveTo 8 = .ok (.ireturn, 1) := by decide +kernel
theorem dX11_mustBeUnmoved_0 : decode cX11_mustBeUnmoved 0 = .ok (.aload_n 0, 1) := by decide +kernel
theorem dX11_mustBeUnmoved_1 : decode cX11_mustBeUnmoved 1 = .ok (.getfield 40, 3) := by decide +kernel
theorem dX11_mustBeUnmoved_4 : decode cX11_mustBeUnmoved 4 = .ok (.getfield 157, 3) := by decide +kernel
theorem dX11_mustBeUnmoved_7 : decode cX11_mustBeUnmoved 7 = .ok (.ifCond .le 14, 3) := by decide +kernel
theorem dX11_mustBeUnmoved_10 : decode cX11_mustBeUnmoved 10 = .ok (.new 285, 3) := by decide +kernel
theorem dX11_mustBeUnmoved_13 : decode cX11_mustBeUnmoved 13 = .ok (.dup, 1) := by decide +kernel
theorem dX11_mustBeUnmoved_14 : decode cX11_mustBeUnmoved 14 = .ok (.ldc_w 497, 3) := by decide +kernel
theorem dX11_mustBeUnmoved_17 : decode cX11_mustBeUnmoved 17 = .ok (.invokespecial 289, 3) := by decide +kernel
theorem dX11_mustBeUnmoved_20 : decode cX11_mustBeUnmoved 20 = .ok (.athrow, 1) := by decide +kernel
theorem dX11_mustBeUnmoved_21 : decode cX11_mustBeUnmoved 21 = .ok (.return_, 1) := by decide +kernel
theorem dX11_passingSquare_0 : decode cX11_passingSquare 0 = .ok (.aload_n 0, 1) := by decide +kernel
theorem dX11_passingSquare_1 : decode cX11_passingSquare 1 = .ok (.getfield 28, 3) := by decide +kernel
theorem dX11_passingSquare_4 : decode cX11_passingSquare 4 = .ok (.getfield 178, 3) := by decide +kernel
theorem dX11_passingSquare_7 : decode cX11_passingSquare 7 = .ok (.ireturn, 1) := by decide +kernel
theorem dX11_pieceAt_0 : decode cX11_pieceAt 0 = .ok (.aload_n 0, 1) := by decide +kernel
theorem dX11_pieceAt_1 : decode cX11_pieceAt 1 = .ok (.iload_n 1, 1) := by decide +kernel
theorem dX11_pieceAt_2 : decode cX11_pieceAt 2 = .ok (.invokevirtual 160, 3) := by decide +kernel
theorem dX11_pieceAt_5 : decode cX11_pieceAt 5 = .ok (.aload_n 0, 1) := by decide +kernel
theorem dX11_pieceAt_6 : decode cX11_pieceAt 6 = .ok (.getfield 28, 3) := by decide +kernel
theorem dX11_pieceAt_9 : decode cX11_pieceAt 9 = .ok (.iload_n 1, 1) := by decide +kernel
theorem dX11_pieceAt_10 : decode cX11_pieceAt 10 = .ok (.invokevirtual 168, 3) := by decide +kernel
theorem dX11_pieceAt_13 : decode cX11_pieceAt 13 = .ok (.ireturn, 1) := by decide +kernel
theorem dX3_piecesAt_0 : decode cX3_piecesAt 0 = .ok (.aload_n 0, 1) := by decide +kernel
theorem dX3_piecesAt_1 : decode cX3_piecesAt 1 = .ok (.iload_n 1, 1) := by decide +kernel
theorem dX3_piecesAt_2 : decode cX3_piecesAt 2 = .ok (.iconst 1, 1) := by decide +kernel
theorem dX3_piecesAt_3 : decode cX3_piecesAt 3 = .ok (.invokevirtual 65, 3) := by decide +kernel
theorem dX3_piecesAt_6 : decode cX3_piecesAt 6 = .ok (.aload_n 0, 1) := by decide +kernel
theorem dX3_piecesAt_7 : decode cX3_piecesAt 7 = .ok (.iload_n 1, 1) := by decide +kernel
theorem dX3_piecesAt_8 : decode cX3_piecesAt 8 = .ok (.iconst 2, 1) := by decide +kernel
theorem dX3_piecesAt_9 : decode cX3_piecesAt 9 = .ok (.invokevirtual 65, 3) := by decide +kernel
theorem dX3_piecesAt_12 : decode cX3_piecesAt 12 = .ok (.lor, 1) := by decide +kernel
theorem dX3_piecesAt_13 : decode cX3_piecesAt 13 = .ok (.aload_n 0, 1) := by decide +kernel
theorem dX3_piecesAt_14 : decode cX3_piecesAt 14 = .ok (.iload_n 1, 1) := by decide +kernel
theorem dX3_piecesAt_15 : decode cX3_piecesAt 15 = .ok (.iconst 3, 1) := by decide +kernel
theorem dX3_piecesAt_16 : decode cX3_piecesAt 16 = .ok (.invokevirtual 65, 3) := by decide +kernel
theorem dX3_piecesAt_19 : decode cX3_piecesAt 19 = .ok (.lor, 1) := by decide +kernel
theorem dX3_piecesAt_20 : decode cX3_piecesAt 20 = .ok (.invokestatic 83, 3) := by decide +kernel
theorem dX3_piecesAt_23 : decode cX3_piecesAt 23 = .ok (.ireturn, 1) := by decide +kernel
theorem dX3_calmMoves_0 : decode cX3_calmMoves 0 = .ok (.iconst 0, 1) := by decide +kernel
theorem dX3_calmMoves_1 : decode cX3_calmMoves 1 = .ok (.istore_n 1, 1) := by decide +kernel
theorem dX3_calmMoves_2 : decode cX3_calmMoves 2 = .ok (.aload_n 0, 1) := by decide +kernel
theorem dX3_calmMoves_3 : decode cX3_calmMoves 3 = .ok (.getfield 9, 3) := by decide +kernel
theorem dX3_calmMoves_6 : decode cX3_calmMoves 6 = .ok (.iconst 1, 1) := by decide +kernel
theorem dX3_calmMoves_7 : decode cX3_calmMoves 7 = .ok (.isub, 1) := by decide +kernel
theorem dX3_calmMoves_8 : decode cX3_calmMoves 8 = .ok (.istore_n 2, 1) := by decide +kernel
theorem dX3_calmMoves_9 : decode cX3_calmMoves 9 = .ok (.iload_n 2, 1) := by decide +kernel
theorem dX3_calmMoves_10 : decode cX3_calmMoves 10 = .ok (.ifCond .lt 59, 3) := by decide +kernel
theorem dX3_calmMoves_13 : decode cX3_calmMoves 13 = .ok (.aload_n 0, 1) := by decide +kernel
theorem dX3_calmMoves_14 : decode cX3_calmMoves 14 = .ok (.iload_n 2, 1) := by decide +kernel
theorem dX3_calmMoves_15 : decode cX3_calmMoves 15 = .ok (.iconst 2, 1) := by decide +kernel
theorem dX3_calmMoves_16 : decode cX3_calmMoves 16 = .ok (.invokevirtual 65, 3) := by decide +kernel
theorem dX3_calmMoves_19 : decode cX3_calmMoves 19 = .ok (.aload_n 0, 1) := by decide +kernel
theorem dX3_calmMoves_20 : decode cX3_calmMoves 20 = .ok (.iload_n 2, 1) := by decide +kernel
theorem dX3_calmMoves_21 : decode cX3_calmMoves 21 = .ok (.iconst 3, 1) := by decide +kernel
theorem dX3_calmMoves_22 : decode cX3_calmMoves 22 = .ok (.invokevirtual 65, 3) := by decide +kernel
theorem dX3_calmMoves_25 : decode cX3_calmMoves 25 = .ok (.land, 1) := by decide +kernel
theorem dX3_calmMoves_26 : decode cX3_calmMoves 26 = .ok (.aload_n 0, 1) := by decide +kernel
theorem dX3_calmMoves_27 : decode cX3_calmMoves 27 = .ok (.iload_n 2, 1) := by decide +kernel
theorem dX3_calmMoves_28 : decode cX3_calmMoves 28 = .ok (.invokevirtual 69, 3) := by decide +kernel
theorem dX3_calmMoves_31 : decode cX3_calmMoves 31 = .ok (.invokestatic 73, 3) := by decide +kernel
theorem dX3_calmMoves_34 : decode cX3_calmMoves 34 = .ok (.invokestatic 76, 3) := by decide +kernel
theorem dX3_calmMoves_37 : decode cX3_calmMoves 37 = .ok (.istore_n 3, 1) := by decide +kernel
theorem dX3_calmMoves_38 : decode cX3_calmMoves 38 = .ok (.iload_n 3, 1) := by decide +kernel
theorem dX3_calmMoves_39 : decode cX3_calmMoves 39 = .ok (.ifCond .ne 30, 3) := by decide +kernel
theorem dX3_calmMoves_42 : decode cX3_calmMoves 42 = .ok (.aload_n 0, 1) := by decide +kernel
theorem dX3_calmMoves_43 : decode cX3_calmMoves 43 = .ok (.iload_n 2, 1) := by decide +kernel
theorem dX3_calmMoves_44 : decode cX3_calmMoves 44 = .ok (.invokevirtual 80, 3) := by decide +kernel
theorem dX3_calmMoves_47 : decode cX3_calmMoves 47 = .ok (.aload_n 0, 1) := by decide +kernel
theorem dX3_calmMoves_48 : decode cX3_calmMoves 48 = .ok (.iload_n 2, 1) := by decide +kernel
theorem dX3_calmMoves_49 : decode cX3_calmMoves 49 = .ok (.iconst 1, 1) := by decide +kernel
theorem dX3_calmMoves_50 : decode cX3_calmMoves 50 = .ok (.iadd, 1) := by decide +kernel
theorem dX3_calmMoves_51 : decode cX3_calmMoves 51 = .ok (.invokevirtual 80, 3) := by decide +kernel
theorem dX3_calmMoves_54 : decode cX3_calmMoves 54 = .ok (.if_icmp .eq 6, 3) := by decide +kernel
theorem dX3_calmMoves_57 : decode cX3_calmMoves 57 = .ok (.goto 12, 3) := by decide +kernel
theorem dX3_calmMoves_60 : decode cX3_calmMoves 60 = .ok (.iinc 1 1, 3) := by decide +kernel
theorem dX3_calmMoves_63 : decode cX3_calmMoves 63 = .ok (.iinc 2 (-1), 3) := by decide +kernel
theorem dX3_calmMoves_66 : decode cX3_calmMoves 66 = .ok (.goto (-57), 3) := by decide +kernel
theorem dX3_calmMoves_69 : decode cX3_calmMoves 69 = .ok (.iload_n 1, 1) := by decide +kernel
theorem dX3_calmMoves_70 : decode cX3_calmMoves 70 = .ok (.ireturn, 1) := by decide +kernel
theorem dX3_timesOf_0 : decode cX3_timesOf 0 = .ok (.iconst 0, 1) := by decide +kernel
theorem dX3_timesOf_1 : decode cX3_timesOf 1 = .ok (.istore_n 2, 1) := by decide +kernel
theorem dX3_timesOf_2 : decode cX3_timesOf 2 = .ok (.iconst 0, 1) := by decide +kernel
theorem dX3_timesOf_3 : decode cX3_timesOf 3 = .ok (.istore_n 3, 1) := by decide +kernel
theorem dX3_timesOf_4 : decode cX3_timesOf 4 = .ok (.iload_n 3, 1) := by decide +kernel
theorem dX3_timesOf_5 : decode cX3_timesOf 5 = .ok (.aload_n 0, 1) := by decide +kernel
theorem dX3_timesOf_6 : decode cX3_timesOf 6 = .ok (.getfield 9, 3) := by decide +kernel
theorem dX3_timesOf_9 : decode cX3_timesOf 9 = .ok (.if_icmp .gt 24, 3) := by decide +kernel
theorem dX3_timesOf_12 : decode cX3_timesOf 12 = .ok (.aload_n 1, 1) := by decide +kernel
theorem dX3_timesOf_13 : decode cX3_timesOf 13 = .ok (.aload_n 0, 1) := by decide +kernel
theorem dX3_timesOf_14 : decode cX3_timesOf 14 = .ok (.getfield 36, 3) := by decide +kernel
theorem dX3_timesOf_17 : decode cX3_timesOf 17 = .ok (.iload_n 3, 1) := by decide +kernel
theorem dX3_timesOf_18 : decode cX3_timesOf 18 = .ok (.invokevirtual 61, 3) := by decide +kernel
theorem dX3_timesOf_21 : decode cX3_timesOf 21 = .ok (.ifCond .eq 6, 3) := by decide +kernel
theorem dX3_timesOf_24 : decode cX3_timesOf 24 = .ok (.iinc 2 1, 3) := by decide +kernel
theorem dX3_timesOf_27 : decode cX3_timesOf 27 = .ok (.iinc 3 1, 3) := by decide +kernel
theorem dX3_timesOf_30 : decode cX3_timesOf 30 = .ok (.goto (-26), 3) := by decide +kernel
theorem dX3_timesOf_33 : decode cX3_timesOf 33 = .ok (.iload_n 2, 1) := by decide +kernel
theorem dX3_timesOf_34 : decode cX3_timesOf 34 = .ok (.ireturn, 1) := by decide +kernel
theorem dX7_isDead_0 : decode cX7_isDead 0 = .ok (.aload_n 0, 1) := by decide +kernel
theorem dX7_isDead_1 : decode cX7_isDead 1 = .ok (.invokevirtual 122, 3) := by decide +kernel
theorem dX7_isDead_4 : decode cX7_isDead 4 = .ok (.aload_n 0, 1) := by decide +kernel
theorem dX7_isDead_5 : decode cX7_isDead 5 = .ok (.iconst 1, 1) := by decide +kernel
theorem dX7_isDead_6 : decode cX7_isDead 6 = .ok (.invokevirtual 83, 3) := by decide +kernel
theorem dX7_isDead_9 : decode cX7_isDead 9 = .ok (.ldc2_w 70, 3) := by decide +kernel
theorem dX7_isDead_12 : decode cX7_isDead 12 = .ok (.lxor, 1) := by decide +kernel
theorem dX7_isDead_13 : decode cX7_isDead 13 = .ok (.land, 1) := by decide +kernel
theorem dX7_isDead_14 : decode cX7_isDead 14 = .ok (.lstore_n 1, 1) := by decide +kernel
theorem dX7_isDead_15 : decode cX7_isDead 15 = .ok (.aload_n 0, 1) := by decide +kernel
theorem dX7_isDead_16 : decode cX7_isDead 16 = .ok (.iconst 4, 1) := by decide +kernel
theorem dX7_isDead_17 : decode cX7_isDead 17 = .ok (.invokevirtual 83, 3) := by decide +kernel
theorem dX7_isDead_20 : decode cX7_isDead 20 = .ok (.aload_n 0, 1) := by decide +kernel
theorem dX7_isDead_21 : decode cX7_isDead 21 = .ok (.iconst 5, 1) := by decide +kernel
theorem dX7_isDead_22 : decode cX7_isDead 22 = .ok (.invokevirtual 83, 3) := by decide +kernel
theorem dX7_isDead_25 : decode cX7_isDead 25 = .ok (.lor, 1) := by decide +kernel
theorem dX7_isDead_26 : decode cX7_isDead 26 = .ok (.lstore_n 3, 1) := by decide +kernel
theorem dX7_isDead_27 : decode cX7_isDead 27 = .ok (.lload_n 1, 1) := by decide +kernel
theorem dX7_isDead_28 : decode cX7_isDead 28 = .ok (.lconst 0, 1) := by decide +kernel
theorem dX7_isDead_29 : decode cX7_isDead 29 = .ok (.lcmp, 1) := by decide +kernel
theorem dX7_isDead_30 : decode cX7_isDead 30 = .ok (.ifCond .eq 19, 3) := by decide +kernel
theorem dX7_isDead_33 : decode cX7_isDead 33 = .ok (.lload_n 1, 1) := by decide +kernel
theorem dX7_isDead_34 : decode cX7_isDead 34 = .ok (.invokestatic 87, 3) := by decide +kernel
theorem dX7_isDead_37 : decode cX7_isDead 37 = .ok (.iconst 1, 1) := by decide +kernel
theorem dX7_isDead_38 : decode cX7_isDead 38 = .ok (.if_icmp .ne 15, 3) := by decide +kernel
theorem dX7_isDead_41 : decode cX7_isDead 41 = .ok (.lload_n 1, 1) := by decide +kernel
theorem dX7_isDead_42 : decode cX7_isDead 42 = .ok (.lload_n 3, 1) := by decide +kernel
theorem dX7_isDead_43 : decode cX7_isDead 43 = .ok (.land, 1) := by decide +kernel
theorem dX7_isDead_44 : decode cX7_isDead 44 = .ok (.lconst 0, 1) := by decide +kernel
theorem dX7_isDead_45 : decode cX7_isDead 45 = .ok (.lcmp, 1) := by decide +kernel
theorem dX7_isDead_46 : decode cX7_isDead 46 = .ok (.ifCond .eq 7, 3) := by decide +kernel
theorem dX7_isDead_49 : decode cX7_isDead 49 = .ok (.iconst 1, 1) := by decide +kernel
theorem dX7_isDead_50 : decode cX7_isDead 50 = .ok (.goto 4, 3) := by decide +kernel
theorem dX7_isDead_53 : decode cX7_isDead 53 = .ok (.iconst 0, 1) := by decide +kernel
theorem dX7_isDead_54 : decode cX7_isDead 54 = .ok (.ireturn, 1) := by decide +kernel
theorem dX11_stateNow_0 : decode cX11_stateNow 0 = .ok (.aload_n 0, 1) := by decide +kernel
theorem dX11_stateNow_1 : decode cX11_stateNow 1 = .ok (.getfield 21, 3) := by decide +kernel
theorem dX11_stateNow_4 : decode cX11_stateNow 4 = .ok (.aload_n 0, 1) := by decide +kernel
theorem dX11_stateNow_5 : decode cX11_stateNow 5 = .ok (.getfield 28, 3) := by decide +kernel
theorem dX11_stateNow_8 : decode cX11_stateNow 8 = .ok (.invokevirtual 528, 3) := by decide +kernel
theorem dX11_stateNow_11 : decode cX11_stateNow 11 = .ok (.ifCond .ne 19, 3) := by decide +kernel
theorem dX11_stateNow_14 : decode cX11_stateNow 14 = .ok (.aload_n 0, 1) := by decide +kernel
theorem dX11_stateNow_15 : decode cX11_stateNow 15 = .ok (.getfield 28, 3) := by decide +kernel
theorem dX11_stateNow_18 : decode cX11_stateNow 18 = .ok (.invokevirtual 532, 3) := by decide +kernel
theorem dX11_stateNow_21 : decode cX11_stateNow 21 = .ok (.ifCond .eq 7, 3) := by decide +kernel
theorem dX11_stateNow_24 : decode cX11_stateNow 24 = .ok (.iconst 1, 1) := by decide +kernel
theorem dX11_stateNow_25 : decode cX11_stateNow 25 = .ok (.goto 4, 3) := by decide +kernel
theorem dX11_stateNow_28 : decode cX11_stateNow 28 = .ok (.iconst 2, 1) := by decide +kernel
theorem dX11_stateNow_29 : decode cX11_stateNow 29 = .ok (.ireturn, 1) := by decide +kernel
theorem dX11_stateNow_30 : decode cX11_stateNow 30 = .ok (.aload_n 0, 1) := by decide +kernel
theorem dX11_stateNow_31 : decode cX11_stateNow 31 = .ok (.getfield 28, 3) := by decide +kernel
theorem dX11_stateNow_34 : decode cX11_stateNow 34 = .ok (.invokevirtual 535, 3) := by decide +kernel
theorem dX11_stateNow_37 : decode cX11_stateNow 37 = .ok (.ifCond .eq 5, 3) := by decide +kernel
theorem dX11_stateNow_40 : decode cX11_stateNow 40 = .ok (.iconst 3, 1) := by decide +kernel
theorem dX11_stateNow_41 : decode cX11_stateNow 41 = .ok (.ireturn, 1) := by decide +kernel
theorem dX11_stateNow_42 : decode cX11_stateNow 42 = .ok (.aload_n 0, 1) := by decide +kernel
theorem dX11_stateNow_43 : decode cX11_stateNow 43 = .ok (.getfield 40, 3) := by decide +kernel
theorem dX11_stateNow_46 : decode cX11_stateNow 46 = .ok (.aload_n 0, 1) := by decide +kernel
theorem dX11_stateNow_47 : decode cX11_stateNow 47 = .ok (.getfield 28, 3) := by decide +kernel
theorem dX11_stateNow_50 : decode cX11_stateNow 50 = .ok (.invokevirtual 306, 3) := by decide +kernel
theorem dX11_stateNow_53 : decode cX11_stateNow 53 = .ok (.iconst 3, 1) := by decide +kernel
theorem dX11_stateNow_54 : decode cX11_stateNow 54 = .ok (.if_icmp .lt 5, 3) := by decide +kernel
theorem dX11_stateNow_57 : decode cX11_stateNow 57 = .ok (.iconst 4, 1) := by decide +kernel
theorem dX11_stateNow_58 : decode cX11_stateNow 58 = .ok (.ireturn, 1) := by decide +kernel
theorem dX11_stateNow_59 : decode cX11_stateNow 59 = .ok (.aload_n 0, 1) := by decide +kernel
theorem dX11_stateNow_60 : decode cX11_stateNow 60 = .ok (.getfield 40, 3) := by decide +kernel
theorem dX11_stateNow_63 : decode cX11_stateNow 63 = .ok (.invokevirtual 538, 3) := by decide +kernel
theorem dX11_stateNow_66 : decode cX11_stateNow 66 = .ok (.bipush 40, 2) := by decide +kernel
theorem dX11_stateNow_68 : decode cX11_stateNow 68 = .ok (.if_icmp .lt 7, 3) := by decide +kernel
theorem dX11_stateNow_71 : decode cX11_stateNow 71 = .ok (.iconst 5, 1) := by decide +kernel
theorem dX11_stateNow_72 : decode cX11_stateNow 72 = .ok (.goto 4, 3) := by decide +kernel
theorem dX11_stateNow_75 : decode cX11_stateNow 75 = .ok (.iconst 0, 1) := by decide +kernel
theorem dX11_stateNow_76 : decode cX11_stateNow 76 = .ok (.ireturn, 1) := by decide +kernel
theorem dX11_play_0 : decode cX11_play 0 = .ok (.aload_n 0, 1) := by decide +kernel
theorem dX11_play_1 : decode cX11_play 1 = .ok (.invokevirtual 217, 3) := by decide +kernel
theorem dX11_play_4 : decode cX11_play 4 = .ok (.aload_n 0, 1) := by decide +kernel
theorem dX11_play_5 : decode cX11_play 5 = .ok (.getfield 40, 3) := by decide +kernel
theorem dX11_play_8 : decode cX11_play 8 = .ok (.getfield 157, 3) := by decide +kernel
theorem dX11_play_11 : decode cX11_play 11 = .ok (.bipush 80, 2) := by decide +kernel
theorem dX11_play_13 : decode cX11_play 13 = .ok (.if_icmp .lt 14, 3) := by decide +kernel
theorem dX11_play_16 : decode cX11_play 16 = .ok (.new 285, 3) := by decide +kernel
theorem dX11_play_19 : decode cX11_play 19 = .ok (.dup, 1) := by decide +kernel
theorem dX11_play_20 : decode cX11_play 20 = .ok (.ldc_w 287, 3) := by decide +kernel
theorem dX11_play_23 : decode cX11_play 23 = .ok (.invokespecial 289, 3) := by decide +kernel
theorem dX11_play_26 : decode cX11_play 26 = .ok (.athrow, 1) := by decide +kernel
theorem dX11_play_27 : decode cX11_play 27 = .ok (.aload_n 0, 1) := by decide +kernel
theorem dX11_play_28 : decode cX11_play 28 = .ok (.aload_n 0, 1) := by decide +kernel
theorem dX11_play_29 : decode cX11_play 29 = .ok (.iload_n 1, 1) := by decide +kernel
theorem dX11_play_30 : decode cX11_play 30 = .ok (.invokevirtual 264, 3) := by decide +kernel
theorem dX11_play_33 : decode cX11_play 33 = .ok (.invokevirtual 290, 3) := by decide +kernel
theorem dX11_play_36 : decode cX11_play 36 = .ok (.aload_n 0, 1) := by decide +kernel
theorem dX11_play_37 : decode cX11_play 37 = .ok (.invokevirtual 293, 3) := by decide +kernel
theorem dX11_play_40 : decode cX11_play 40 = .ok (.ireturn, 1) := by decide +kernel
theorem dX1_mainMove_0 : decode cX1_mainMove 0 = .ok (.iconst (-1), 1) := by decide +kernel
theorem dX1_mainMove_1 : decode cX1_mainMove 1 = .ok (.istore_n 1, 1) := by decide +kernel
theorem dX1_mainMove_2 : decode cX1_mainMove 2 = .ok (.iconst 0, 1) := by decide +kernel
theorem dX1_mainMove_3 : decode cX1_mainMove 3 = .ok (.istore_n 2, 1) := by decide +kernel
theorem dX1_mainMove_4 : decode cX1_mainMove 4 = .ok (.iload_n 2, 1) := by decide +kernel
theorem dX1_mainMove_5 : decode cX1_mainMove 5 = .ok (.aload_n 0, 1) := by decide +kernel
theorem dX1_mainMove_6 : decode cX1_mainMove 6 = .ok (.getfield 22, 3) := by decide +kernel
theorem dX1_mainMove_9 : decode cX1_mainMove 9 = .ok (.getfield 74, 3) := by decide +kernel
theorem dX1_mainMove_12 : decode cX1_mainMove 12 = .ok (.if_icmp .ge 53, 3) := by decide +kernel
theorem dX1_mainMove_15 : decode cX1_mainMove 15 = .ok (.aload_n 0, 1) := by decide +kernel
theorem dX1_mainMove_16 : decode cX1_mainMove 16 = .ok (.iload_n 2, 1) := by decide +kernel
theorem dX1_mainMove_17 : decode cX1_mainMove 17 = .ok (.invokevirtual 76, 3) := by decide +kernel
theorem dX1_mainMove_20 : decode cX1_mainMove 20 = .ok (.aload_n 0, 1) := by decide +kernel
theorem dX1_mainMove_21 : decode cX1_mainMove 21 = .ok (.iload_n 1, 1) := by decide +kernel
theorem dX1_mainMove_22 : decode cX1_mainMove 22 = .ok (.invokevirtual 76, 3) := by decide +kernel
theorem dX1_mainMove_25 : decode cX1_mainMove 25 = .ok (.isub, 1) := by decide +kernel
theorem dX1_mainMove_26 : decode cX1_mainMove 26 = .ok (.istore_n 3, 1) := by decide +kernel
theorem dX1_mainMove_27 : decode cX1_mainMove 27 = .ok (.iload_n 3, 1) := by decide +kernel
theorem dX1_mainMove_28 : decode cX1_mainMove 28 = .ok (.ifCond .gt 29, 3) := by decide +kernel
theorem dX1_mainMove_31 : decode cX1_mainMove 31 = .ok (.iload_n 3, 1) := by decide +kernel
theorem dX1_mainMove_32 : decode cX1_mainMove 32 = .ok (.ifCond .ne 27, 3) := by decide +kernel
theorem dX1_mainMove_35 : decode cX1_mainMove 35 = .ok (.aload_n 0, 1) := by decide +kernel
theorem dX1_mainMove_36 : decode cX1_mainMove 36 = .ok (.iload_n 2, 1) := by decide +kernel
theorem dX1_mainMove_37 : decode cX1_mainMove 37 = .ok (.invokevirtual 76, 3) := by decide +kernel
theorem dX1_mainMove_40 : decode cX1_mainMove 40 = .ok (.ifCond .le 19, 3) := by decide +kernel
theorem dX1_mainMove_43 : decode cX1_mainMove 43 = .ok (.aload_n 0, 1) := by decide +kernel
theorem dX1_mainMove_44 : decode cX1_mainMove 44 = .ok (.iload_n 2, 1) := by decide +kernel
theorem dX1_mainMove_45 : decode cX1_mainMove 45 = .ok (.invokevirtual 90, 3) := by decide +kernel
theorem dX1_mainMove_48 : decode cX1_mainMove 48 = .ok (.aload_n 0, 1) := by decide +kernel
theorem dX1_mainMove_49 : decode cX1_mainMove 49 = .ok (.iload_n 1, 1) := by decide +kernel
theorem dX1_mainMove_50 : decode cX1_mainMove 50 = .ok (.invokevirtual 90, 3) := by decide +kernel
theorem dX1_mainMove_53 : decode cX1_mainMove 53 = .ok (.lcmp, 1) := by decide +kernel
theorem dX1_mainMove_54 : decode cX1_mainMove 54 = .ok (.ifCond .ge 5, 3) := by decide +kernel
theorem dX1_mainMove_57 : decode cX1_mainMove 57 = .ok (.iload_n 2, 1) := by decide +kernel
theorem dX1_mainMove_58 : decode cX1_mainMove 58 = .ok (.istore_n 1, 1) := by decide +kernel
theorem dX1_mainMove_59 : decode cX1_mainMove 59 = .ok (.iinc 2 1, 3) := by decide +kernel
theorem dX1_mainMove_62 : decode cX1_mainMove 62 = .ok (.goto (-58), 3) := by decide +kernel
theorem dX1_mainMove_65 : decode cX1_mainMove 65 = .ok (.iload_n 1, 1) := by decide +kernel
theorem dX1_mainMove_66 : decode cX1_mainMove 66 = .ok (.ireturn, 1) := by decide +kernel
theorem dX11_put_0 : decode cX11_put 0 = .ok (.aload_n 0, 1) := by decide +kernel
theorem dX11_put_1 : decode cX11_put 1 = .ok (.iload_n 1, 1) := by decide +kernel
theorem dX11_put_2 : decode cX11_put 2 = .ok (.invokevirtual 160, 3) := by decide +kernel
theorem dX11_put_5 : decode cX11_put 5 = .ok (.iload_n 2, 1) := by decide +kernel
theorem dX11_put_6 : decode cX11_put 6 = .ok (.ifCond .lt 9, 3) := by decide +kernel
theorem dX11_put_9 : decode cX11_put 9 = .ok (.iload_n 2, 1) := by decide +kernel
theorem dX11_put_10 : decode cX11_put 10 = .ok (.bipush 12, 2) := by decide +kernel
theorem dX11_put_12 : decode cX11_put 12 = .ok (.if_icmp .le 13, 3) := by decide +kernel
theorem dX11_put_15 : decode cX11_put 15 = .ok (.new 140, 3) := by decide +kernel
theorem dX11_put_18 : decode cX11_put 18 = .ok (.dup, 1) := by decide +kernel
theorem dX11_put_19 : decode cX11_put 19 = .ok (.ldc 163, 2) := by decide +kernel
theorem dX11_put_21 : decode cX11_put 21 = .ok (.invokespecial 144, 3) := by decide +kernel
theorem dX11_put_24 : decode cX11_put 24 = .ok (.athrow, 1) := by decide +kernel
theorem dX11_put_25 : decode cX11_put 25 = .ok (.aload_n 0, 1) := by decide +kernel
theorem dX11_put_26 : decode cX11_put 26 = .ok (.invokevirtual 165, 3) := by decide +kernel
theorem dX11_put_29 : decode cX11_put 29 = .ok (.aload_n 0, 1) := by decide +kernel
theorem dX11_put_30 : decode cX11_put 30 = .ok (.getfield 28, 3) := by decide +kernel
theorem dX11_put_33 : decode cX11_put 33 = .ok (.iload_n 1, 1) := by decide +kernel
theorem dX11_put_34 : decode cX11_put 34 = .ok (.invokevirtual 168, 3) := by decide +kernel
theorem dX11_put_37 : decode cX11_put 37 = .ok (.istore_n 3, 1) := by decide +kernel
theorem dX11_put_38 : decode cX11_put 38 = .ok (.aload_n 0, 1) := by decide +kernel
theorem dX11_put_39 : decode cX11_put 39 = .ok (.getfield 28, 3) := by decide +kernel
theorem dX11_put_42 : decode cX11_put 42 = .ok (.iload_n 1, 1) := by decide +kernel
theorem dX11_put_43 : decode cX11_put 43 = .ok (.iload_n 2, 1) := by decide +kernel
theorem dX11_put_44 : decode cX11_put 44 = .ok (.invokevirtual 172, 3) := by decide +kernel
theorem dX11_put_47 : decode cX11_put 47 = .ok (.aload_n 0, 1) := by decide +kernel
theorem dX11_put_48 : decode cX11_put 48 = .ok (.getfield 28, 3) := by decide +kernel
theorem dX11_put_51 : decode cX11_put 51 = .ok (.iconst 0, 1) := by decide +kernel
theorem dX11_put_52 : decode cX11_put 52 = .ok (.putfield 175, 3) := by decide +kernel
theorem dX11_put_55 : decode cX11_put 55 = .ok (.aload_n 0, 1) := by decide +kernel
theorem dX11_put_56 : decode cX11_put 56 = .ok (.getfield 28, 3) := by decide +kernel
theorem dX11_put_59 : decode cX11_put 59 = .ok (.iconst (-1), 1) := by decide +kernel
theorem dX11_put_60 : decode cX11_put 60 = .ok (.putfield 178, 3) := by decide +kernel
theorem dX11_put_63 : decode cX11_put 63 = .ok (.aload_n 0, 1) := by decide +kernel
theorem dX11_put_64 : decode cX11_put 64 = .ok (.getfield 40, 3) := by decide +kernel
theorem dX11_put_67 : decode cX11_put 67 = .ok (.aload_n 0, 1) := by decide +kernel
theorem dX11_put_68 : decode cX11_put 68 = .ok (.getfield 28, 3) := by decide +kernel
theorem dX11_put_71 : decode cX11_put 71 = .ok (.invokevirtual 130, 3) := by decide +kernel
theorem dX11_put_74 : decode cX11_put 74 = .ok (.iload_n 3, 1) := by decide +kernel
theorem dX11_put_75 : decode cX11_put 75 = .ok (.ireturn, 1) := by decide +kernel
theorem dX5_lineLength_0 : decode cX5_lineLength 0 = .ok (.aload_n 0, 1) := by decide +kernel
theorem dX5_lineLength_1 : decode cX5_lineLength 1 = .ok (.getfield 18, 3) := by decide +kernel
theorem dX5_lineLength_4 : decode cX5_lineLength 4 = .ok (.iconst 0, 1) := by decide +kernel
theorem dX5_lineLength_5 : decode cX5_lineLength 5 = .ok (.iaload, 1) := by decide +kernel
theorem dX5_lineLength_6 : decode cX5_lineLength 6 = .ok (.ireturn, 1) := by decide +kernel
theorem dX5_lineMove_0 : decode cX5_lineMove 0 = .ok (.iload_n 1, 1) := by decide +kernel
theorem dX5_lineMove_1 : decode cX5_lineMove 1 = .ok (.ifCond .lt 21, 3) := by decide +kernel
theorem dX5_lineMove_4 : decode cX5_lineMove 4 = .ok (.iload_n 1, 1) := by decide +kernel
theorem dX5_lineMove_5 : decode cX5_lineMove 5 = .ok (.aload_n 0, 1) := by decide +kernel
theorem dX5_lineMove_6 : decode cX5_lineMove 6 = .ok (.getfield 22, 3) := by decide +kernel
theorem dX5_lineMove_9 : decode cX5_lineMove 9 = .ok (.arraylength, 1) := by decide +kernel
theorem dX5_lineMove_10 : decode cX5_lineMove 10 = .ok (.if_icmp .ge 12, 3) := by decide +kernel
theorem dX5_lineMove_13 : decode cX5_lineMove 13 = .ok (.aload_n 0, 1) := by decide +kernel
theorem dX5_lineMove_14 : decode cX5_lineMove 14 = .ok (.getfield 22, 3) := by decide +kernel
theorem dX5_lineMove_17 : decode cX5_lineMove 17 = .ok (.iload_n 1, 1) := by decide +kernel
theorem dX5_lineMove_18 : decode cX5_lineMove 18 = .ok (.iaload, 1) := by decide +kernel
theorem dX5_lineMove_19 : decode cX5_lineMove 19 = .ok (.goto 4, 3) := by decide +kernel
theorem dX5_lineMove_22 : decode cX5_lineMove 22 = .ok (.iconst 0, 1) := by decide +kernel
theorem dX5_lineMove_23 : decode cX5_lineMove 23 = .ok (.ireturn, 1) := by decide +kernel
theorem dX6_isPassingSound_0 : decode cX6_isPassingSound 0 = .ok (.aload_n 1, 1) := by decide +kernel
theorem dX6_isPassingSound_1 : decode cX6_isPassingSound 1 = .ok (.getfield 71, 3) := by decide +kernel
theorem dX6_isPassingSound_4 : decode cX6_isPassingSound 4 = .ok (.istore_n 2, 1) := by decide +kernel
theorem dX6_isPassingSound_5 : decode cX6_isPassingSound 5 = .ok (.iload_n 2, 1) := by decide +kernel
theorem dX6_isPassingSound_6 : decode cX6_isPassingSound 6 = .ok (.iconst (-1), 1) := by decide +kernel
theorem dX6_isPassingSound_7 : decode cX6_isPassingSound 7 = .ok (.if_icmp .ne 5, 3) := by decide +kernel
theorem dX6_isPassingSound_10 : decode cX6_isPassingSound 10 = .ok (.iconst 1, 1) := by decide +kernel
theorem dX6_isPassingSound_11 : decode cX6_isPassingSound 11 = .ok (.ireturn, 1) := by decide +kernel
theorem dX6_isPassingSound_12 : decode cX6_isPassingSound 12 = .ok (.aload_n 1, 1) := by decide +kernel
theorem dX6_isPassingSound_13 : decode cX6_isPassingSound 13 = .ok (.getfield 43, 3) := by decide +kernel
theorem dX6_isPassingSound_16 : decode cX6_isPassingSound 16 = .ok (.ifCond .ne 7, 3) := by decide +kernel
theorem dX6_isPassingSound_19 : decode cX6_isPassingSound 19 = .ok (.iconst 1, 1) := by decide +kernel
theorem dX6_isPassingSound_20 : decode cX6_isPassingSound 20 = .ok (.goto 4, 3) := by decide +kernel
theorem dX6_isPassingSound_23 : decode cX6_isPassingSound 23 = .ok (.iconst 0, 1) := by decide +kernel
theorem dX6_isPassingSound_24 : decode cX6_isPassingSound 24 = .ok (.istore_n 3, 1) := by decide +kernel
theorem dX6_isPassingSound_25 : decode cX6_isPassingSound 25 = .ok (.aload_n 0, 1) := by decide +kernel
theorem dX6_isPassingSound_26 : decode cX6_isPassingSound 26 = .ok (.getfield 22, 3) := by decide +kernel
theorem dX6_isPassingSound_29 : decode cX6_isPassingSound 29 = .ok (.getfield 30, 3) := by decide +kernel
theorem dX6_isPassingSound_32 : decode cX6_isPassingSound 32 = .ok (.bipush 6, 2) := by decide +kernel
theorem dX6_isPassingSound_34 : decode cX6_isPassingSound 34 = .ok (.if_icmp .lt 31, 3) := by decide +kernel
theorem dX6_isPassingSound_37 : decode cX6_isPassingSound 37 = .ok (.aload_n 0, 1) := by decide +kernel
theorem dX6_isPassingSound_38 : decode cX6_isPassingSound 38 = .ok (.getfield 22, 3) := by decide +kernel
theorem dX6_isPassingSound_41 : decode cX6_isPassingSound 41 = .ok (.iload_n 2, 1) := by decide +kernel
theorem dX6_isPassingSound_42 : decode cX6_isPassingSound 42 = .ok (.invokevirtual 78, 3) := by decide +kernel
theorem dX6_isPassingSound_45 : decode cX6_isPassingSound 45 = .ok (.iload_n 3, 1) := by decide +kernel
theorem dX6_isPassingSound_46 : decode cX6_isPassingSound 46 = .ok (.ifCond .eq 7, 3) := by decide +kernel
theorem dX6_isPassingSound_49 : decode cX6_isPassingSound 49 = .ok (.iconst 2, 1) := by decide +kernel
theorem dX6_isPassingSound_50 : decode cX6_isPassingSound 50 = .ok (.goto 12, 3) := by decide +kernel
theorem dX6_isPassingSound_53 : decode cX6_isPassingSound 53 = .ok (.aload_n 0, 1) := by decide +kernel
theorem dX6_isPassingSound_54 : decode cX6_isPassingSound 54 = .ok (.getfield 22, 3) := by decide +kernel
theorem dX6_isPassingSound_57 : decode cX6_isPassingSound 57 = .ok (.getfield 30, 3) := by decide +kernel
theorem dX6_isPassingSound_60 : decode cX6_isPassingSound 60 = .ok (.iconst 3, 1) := by decide +kernel
theorem dX6_isPassingSound_61 : decode cX6_isPassingSound 61 = .ok (.isub, 1) := by decide +kernel
theorem dX6_isPassingSound_62 : decode cX6_isPassingSound 62 = .ok (.if_icmp .eq 5, 3) := by decide +kernel
theorem dX6_isPassingSound_65 : decode cX6_isPassingSound 65 = .ok (.iconst 0, 1) := by decide +kernel
theorem dX6_isPassingSound_66 : decode cX6_isPassingSound 66 = .ok (.ireturn, 1) := by decide +kernel
theorem dX6_isPassingSound_67 : decode cX6_isPassingSound 67 = .ok (.iload_n 3, 1) := by decide +kernel
theorem dX6_isPassingSound_68 : decode cX6_isPassingSound 68 = .ok (.ifCond .eq 13, 3) := by decide +kernel
theorem dX6_isPassingSound_71 : decode cX6_isPassingSound 71 = .ok (.aload_n 0, 1) := by decide +kernel
theorem dX6_isPassingSound_72 : decode cX6_isPassingSound 72 = .ok (.getfield 22, 3) := by decide +kernel
theorem dX6_isPassingSound_75 : decode cX6_isPassingSound 75 = .ok (.getfield 81, 3) := by decide +kernel
theorem dX6_isPassingSound_78 : decode cX6_isPassingSound 78 = .ok (.goto 11, 3) := by decide +kernel
theorem dX6_isPassingSound_81 : decode cX6_isPassingSound 81 = .ok (.aload_n 0, 1) := by decide +kernel
theorem dX6_isPassingSound_82 : decode cX6_isPassingSound 82 = .ok (.getfield 22, 3) := by decide +kernel
theorem dX6_isPassingSound_85 : decode cX6_isPassingSound 85 = .ok (.getfield 81, 3) := by decide +kernel
theorem dX6_isPassingSound_88 : decode cX6_isPassingSound 88 = .ok (.ineg, 1) := by decide +kernel
theorem dX6_isPassingSound_89 : decode cX6_isPassingSound 89 = .ok (.istore 4, 2) := by decide +kernel
theorem dX6_isPassingSound_91 : decode cX6_isPassingSound 91 = .ok (.aload_n 1, 1) := by decide +kernel
theorem dX6_isPassingSound_92 : decode cX6_isPassingSound 92 = .ok (.bipush 6, 2) := by decide +kernel
theorem dX6_isPassingSound_94 : decode cX6_isPassingSound 94 = .ok (.invokevirtual 133, 3) := by decide +kernel
theorem dX6_isPassingSound_97 : decode cX6_isPassingSound 97 = .ok (.aload_n 1, 1) := by decide +kernel
theorem dX6_isPassingSound_98 : decode cX6_isPassingSound 98 = .ok (.aload_n 1, 1) := by decide +kernel
theorem dX6_isPassingSound_99 : decode cX6_isPassingSound 99 = .ok (.getfield 43, 3) := by decide +kernel
theorem dX6_isPassingSound_102 : decode cX6_isPassingSound 102 = .ok (.invokevirtual 137, 3) := by decide +kernel
theorem dX6_isPassingSound_105 : decode cX6_isPassingSound 105 = .ok (.land, 1) := by decide +kernel
theorem dX6_isPassingSound_106 : decode cX6_isPassingSound 106 = .ok (.lstore 5, 2) := by decide +kernel
theorem dX6_isPassingSound_108 : decode cX6_isPassingSound 108 = .ok (.aload_n 1, 1) := by decide +kernel
theorem dX6_isPassingSound_109 : decode cX6_isPassingSound 109 = .ok (.iload_n 2, 1) := by decide +kernel
theorem dX6_isPassingSound_110 : decode cX6_isPassingSound 110 = .ok (.invokevirtual 84, 3) := by decide +kernel
theorem dX6_isPassingSound_113 : decode cX6_isPassingSound 113 = .ok (.ifCond .ne 59, 3) := by decide +kernel
theorem dX6_isPassingSound_116 : decode cX6_isPassingSound 116 = .ok (.aload_n 1, 1) := by decide +kernel
theorem dX6_isPassingSound_117 : decode cX6_isPassingSound 117 = .ok (.iload_n 2, 1) := by decide +kernel
theorem dX6_isPassingSound_118 : decode cX6_isPassingSound 118 = .ok (.iload 4, 2) := by decide +kernel
theorem dX6_isPassingSound_120 : decode cX6_isPassingSound 120 = .ok (.isub, 1) := by decide +kernel
theorem dX6_isPassingSound_121 : decode cX6_isPassingSound 121 = .ok (.invokevirtual 84, 3) := by decide +kernel
theorem dX6_isPassingSound_124 : decode cX6_isPassingSound 124 = .ok (.ifCond .ne 48, 3) := by decide +kernel
theorem dX6_isPassingSound_127 : decode cX6_isPassingSound 127 = .ok (.aload_n 1, 1) := by decide +kernel
theorem dX6_isPassingSound_128 : decode cX6_isPassingSound 128 = .ok (.iload_n 2, 1) := by decide +kernel
theorem dX6_isPassingSound_129 : decode cX6_isPassingSound 129 = .ok (.iload 4, 2) := by decide +kernel
theorem dX6_isPassingSound_131 : decode cX6_isPassingSound 131 = .ok (.iadd, 1) := by decide +kernel
theorem dX6_isPassingSound_132 : decode cX6_isPassingSound 132 = .ok (.invokevirtual 84, 3) := by decide +kernel
theorem dX6_isPassingSound_135 : decode cX6_isPassingSound 135 = .ok (.iload_n 3, 1) := by decide +kernel
theorem dX6_isPassingSound_136 : decode cX6_isPassingSound 136 = .ok (.ifCond .eq 8, 3) := by decide +kernel
theorem dX6_isPassingSound_139 : decode cX6_isPassingSound 139 = .ok (.bipush 6, 2) := by decide +kernel
theorem dX6_isPassingSound_141 : decode cX6_isPassingSound 141 = .ok (.goto 5, 3) := by decide +kernel
theorem dX6_isPassingSound_144 : decode cX6_isPassingSound 144 = .ok (.bipush 12, 2) := by decide +kernel
theorem dX6_isPassingSound_146 : decode cX6_isPassingSound 146 = .ok (.if_icmp .ne 26, 3) := by decide +kernel
theorem dX6_isPassingSound_149 : decode cX6_isPassingSound 149 = .ok (.aload_n 0, 1) := by decide +kernel
theorem dX6_isPassingSound_150 : decode cX6_isPassingSound 150 = .ok (.getfield 22, 3) := by decide +kernel
theorem dX6_isPassingSound_153 : decode cX6_isPassingSound 153 = .ok (.iload_n 2, 1) := by decide +kernel
theorem dX6_isPassingSound_154 : decode cX6_isPassingSound 154 = .ok (.iload 4, 2) := by decide +kernel
theorem dX6_isPassingSound_156 : decode cX6_isPassingSound 156 = .ok (.iadd, 1) := by decide +kernel
theorem dX6_isPassingSound_157 : decode cX6_isPassingSound 157 = .ok (.invokevirtual 141, 3) := by decide +kernel
theorem dX6_isPassingSound_160 : decode cX6_isPassingSound 160 = .ok (.lload 5, 2) := by decide +kernel
theorem dX6_isPassingSound_162 : decode cX6_isPassingSound 162 = .ok (.land, 1) := by decide +kernel
theorem dX6_isPassingSound_163 : decode cX6_isPassingSound 163 = .ok (.lconst 0, 1) := by decide +kernel
theorem dX6_isPassingSound_164 : decode cX6_isPassingSound 164 = .ok (.lcmp, 1) := by decide +kernel
theorem dX6_isPassingSound_165 : decode cX6_isPassingSound 165 = .ok (.ifCond .eq 7, 3) := by decide +kernel
theorem dX6_isPassingSound_168 : decode cX6_isPassingSound 168 = .ok (.iconst 1, 1) := by decide +kernel
theorem dX6_isPassingSound_169 : decode cX6_isPassingSound 169 = .ok (.goto 4, 3) := by decide +kernel
theorem dX6_isPassingSound_172 : decode cX6_isPassingSound 172 = .ok (.iconst 0, 1) := by decide +kernel
theorem dX6_isPassingSound_173 : decode cX6_isPassingSound 173 = .ok (.ireturn, 1) := by decide +kernel
theorem dX11_repetitions_0 : decode cX11_repetitions 0 = .ok (.aload_n 0, 1) := by decide +kernel
theorem dX11_repetitions_1 : decode cX11_repetitions 1 = .ok (.getfield 40, 3) := by decide +kernel
theorem dX11_repetitions_4 : decode cX11_repetitions 4 = .ok (.aload_n 0, 1) := by decide +kernel
theorem dX11_repetitions_5 : decode cX11_repetitions 5 = .ok (.getfield 28, 3) := by decide +kernel
theorem dX11_repetitions_8 : decode cX11_repetitions 8 = .ok (.invokevirtual 306, 3) := by decide +kernel
theorem dX11_repetitions_11 : decode cX11_repetitions 11 = .ok (.ireturn, 1) := by decide +kernel
def wp_X11_isOpenFile_53 (D : wD) (post : Int32 → wS → Prop) (xp : String → wS → Prop)  (S : wS) (t0 : Int32) : Prop :=
narrow .boolean (.int t0) = .int t0 ∧ post t0 S
def wp_X11_isOpenFile_15 (D : wD) (post : Int32 → wS → Prop) (xp : String → wS → Prop)  (S : wS) : Prop :=
xp "java/lang/IndexOutOfBoundsException" S
def wp_X11_isOpenFile_0 (D : wD) (post : Int32 → wS → Prop) (xp : String → wS → Prop)  (S : wS) (a0 : Nat) (x1 : Int32) : Prop :=
((x1 < 0 → wp_X11_isOpenFile_15 D post xp S) ∧
 (¬ x1 < 0 → ∃ y_2 : Nat, sR S a0 0 = some y_2 ∧ wM D S y_2 ∧ sK S y_2 = 5 ∧
((x1 < (sI S y_2 0) → ∃ y_4 : Nat, sR S a0 2 = some y_4 ∧ wM D S y_4 ∧ sK S y_4 = 12 ∧
wp_X7_ofKind D (fun r_5 S_6 => 
∃ y_7 : Nat, sR S_6 a0 0 = some y_7 ∧ wM D S_6 y_7 ∧ sK S_6 y_7 = 5 ∧
wp_X0_squaresOfFile D (fun r_8 S_9 => 
((¬ (lg_cmp (r_5 &&& r_8) (0 : Int64)) = 0 → wp_X11_isOpenFile_53 D post xp S_9 (0 : Int32)) ∧
 ((lg_cmp (r_5 &&& r_8) (0 : Int64)) = 0 → wp_X11_isOpenFile_53 D post xp S_9 (1 : Int32)))) S_6 y_7 x1) S y_4 (6 : Int32)) ∧
 (¬ x1 < (sI S y_2 0) → wp_X11_isOpenFile_15 D post xp S))))
abbrev r_X11_isOpenFile : Room := { frames := 6, cells := 1, slots := 6, locals := 120 }
def wp_X11_isOpenFile (D : wD) (post : Int32 → wS → Prop) (xp : String → wS → Prop) (S : wS) (a0 : Nat) (x1 : Int32) : Prop := wp_X11_isOpenFile_0 D post xp S a0 x1
set_option maxHeartbeats 4000000 in
set_option maxRecDepth 100000 in
theorem t_X11_isOpenFile_53 {p : Program} {l : Launch} {e : Env} {s : State} {m : MethodId} {args : Array Value} {below : List Frame} {meth : Method} {c : Code} {D : wD} {cy : Nat → ClassId} {X : va_W} {A : Nat → Prop} {S0 : wS} {post : Int32 → wS → Prop} {xp : String → wS → Prop} (F : CallFix p m c cX11_isOpenFile 2 s args wz_X11_isOpenFile RX11) (hr : meth.sig.returnType = (some .boolean)) (hlocks : meth.locks = false) (hK : wK D cy A s) (hl0 : l.stackTraces = false) (hexc : ∀ x ∈ c.exceptionTable.toList, False) : ∀ {S : wS} {H : Heap} {locs : List Loc} {ls : Array Slot} {t0 : Int32}, wp_X11_isOpenFile_53 D post xp S t0 → wO D cy X A s.heap S H locs → wX D S0 S → lv_has ls 2 [] → W p l e r_X11_isOpenFile s m args below meth c H locs 0 0 (vx_MQ below (va_Qi (fun r S9 => wX D S0 S9 ∧ post r S9) (wB D cy X A) A) (wEx D cy X A (fun E S9 => wX D S0 S9 ∧ xp E S9)) args s 1 6 A) (F0 m 53 ls [.int t0]) := by
  obtain ⟨hx, hb, hml, hown, hts⟩ := id F
  have hwg : ∀ w ∈ WG, w.before args s = true := fun w h => hts w (List.mem_cons_of_mem _ h)
  intro S H locs ls t0 hp hW hE hl
  unfold wp_X11_isOpenFile_53 at hp
  refine W.widen (k := 1) (n := 6) (by decide) (by decide) ?_
  refine vx_ret ?_
  exact w_zret hx hb hr hlocks hW hp.1 ⟨hE, hp.2⟩ dX11_isOpenFile_53
set_option maxHeartbeats 4000000 in
set_option maxRecDepth 100000 in
theorem t_X11_isOpenFile_15 {p : Program} {l : Launch} {e : Env} {s : State} {m : MethodId} {args : Array Value} {below : List Frame} {meth : Method} {c : Code} {D : wD} {cy : Nat → ClassId} {X : va_W} {A : Nat → Prop} {S0 : wS} {post : Int32 → wS → Prop} {xp : String → wS → Prop} (F : CallFix p m c cX11_isOpenFile 2 s args wz_X11_isOpenFile RX11) (hr : meth.sig.returnType = (some .boolean)) (hlocks : meth.locks = false) (hK : wK D cy A s) (hl0 : l.stackTraces = false) (hexc : ∀ x ∈ c.exceptionTable.toList, False) : ∀ {S : wS} {H : Heap} {locs : List Loc} {ls : Array Slot}, wp_X11_isOpenFile_15 D post xp S → wO D cy X A s.heap S H locs → wX D S0 S → lv_has ls 2 [] → W p l e r_X11_isOpenFile s m args below meth c H locs 0 0 (vx_MQ below (va_Qi (fun r S9 => wX D S0 S9 ∧ post r S9) (wB D cy X A) A) (wEx D cy X A (fun E S9 => wX D S0 S9 ∧ xp E S9)) args s 1 6 A) (F0 m 15 ls []) := by
  obtain ⟨hx, hb, hml, hown, hts⟩ := id F
  have hwg : ∀ w ∈ WG, w.before args s = true := fun w h => hts w (List.mem_cons_of_mem _ h)
  intro S H locs ls hp hW hE hl
  unfold wp_X11_isOpenFile_15 at hp
  exact x_throw (ls := ls) F hK hW hl0 (by decide) (hwg _ wc_RX11_235) (hwg _ wi_java_lang_IndexOutOfBoundsException) (show ("OpeningsCabinet", 255, "no such file", 19) ∈ wStr by decide +kernel) (wa_RX11_239 hwg hK.2.1) wa_RX11_239_ok hl.1 hexc hlocks dX11_isOpenFile_15 dX11_isOpenFile_18 dX11_isOpenFile_19 dX11_isOpenFile_21 dX11_isOpenFile_24 (Nat.le_of_ble_eq_true rfl) (Nat.le_of_ble_eq_true rfl) (Nat.le_of_ble_eq_true rfl) (Nat.le_of_ble_eq_true rfl) (by decide) (by decide) ⟨hE, hp⟩
set_option maxHeartbeats 4000000 in
set_option maxRecDepth 100000 in
theorem t_X11_isOpenFile_0 {p : Program} {l : Launch} {e : Env} {s : State} {m : MethodId} {args : Array Value} {below : List Frame} {meth : Method} {c : Code} {D : wD} {cy : Nat → ClassId} {X : va_W} {A : Nat → Prop} {S0 : wS} {post : Int32 → wS → Prop} {xp : String → wS → Prop} (F : CallFix p m c cX11_isOpenFile 2 s args wz_X11_isOpenFile RX11) (hr : meth.sig.returnType = (some .boolean)) (hlocks : meth.locks = false) (hK : wK D cy A s) (hl0 : l.stackTraces = false) (hexc : ∀ x ∈ c.exceptionTable.toList, False) : ∀ {S : wS} {H : Heap} {locs : List Loc} {ls : Array Slot} {a0 : Nat} {x1 : Int32}, wp_X11_isOpenFile_0 D post xp S a0 x1 → wO D cy X A s.heap S H locs → wX D S0 S → lv_has ls 2 [(0, .ref a0), (1, .int x1)] → wM D S a0 → sK S a0 = 16 → W p l e r_X11_isOpenFile s m args below meth c H locs 0 0 (vx_MQ below (va_Qi (fun r S9 => wX D S0 S9 ∧ post r S9) (wB D cy X A) A) (wEx D cy X A (fun E S9 => wX D S0 S9 ∧ xp E S9)) args s 1 6 A) (F0 m 0 ls []) := by
  obtain ⟨hx, hb, hml, hown, hts⟩ := id F
  have hwg : ∀ w ∈ WG, w.before args s = true := fun w h => hts w (List.mem_cons_of_mem _ h)
  have i_16 : ∀ w ∈ u_ws RX11 TX11 18, w ∈ wz_X11_isOpenFile := fun w h => List.mem_cons_of_mem _ (wu_16 w h)
  have i_5 : ∀ w ∈ u_ws RX0 TX0 12, w ∈ wz_X11_isOpenFile := fun w h => List.mem_cons_of_mem _ (wu_5 w h)
  have k_12 := hwg _ wf_RX11_12
  have k_28 := hwg _ wf_RX11_28
  intro S H locs ls a0 x1 hp hW hE hl hL_a0 hK_a0
  unfold wp_X11_isOpenFile_0 at hp
  refine lv_iload_n hx hb dX11_isOpenFile_0 rfl (lv_at hl 1 rfl) ?_
  refine lv_if_lt (tgt := 15) hx hb dX11_isOpenFile_1 (by decide) (fun c_1 => ?_) (fun c_1 => ?_)
  · replace hp := hp.1 c_1
    exact t_X11_isOpenFile_15 F hr hlocks hK hl0 hexc hp hW hE (lv_sub hl [] rfl)
  · replace hp := hp.2 c_1
    refine lv_iload_n hx hb dX11_isOpenFile_4 rfl (lv_at hl 1 rfl) ?_
    refine lv_aload_n hx hb dX11_isOpenFile_5 rfl (lv_at hl 0 rfl) ?_
    obtain ⟨y_2, ey_2, hL_y_2, hK_y_2, hp⟩ := hp
    refine w_get (k := 16) (f := 0) (T := TX11) (v := .ref y_2) F hK hW hL_a0 hK_a0 (by decide) rfl rfl (by decide) i_16 k_12 (by rw [show wv 16 0 S a0 = va_rf (sR S a0 0) from rfl, ey_2]; rfl) dX11_isOpenFile_6 ?_
    refine w_getN (k := 5) (f := 0) (T := TX0) (v := .int (sI S y_2 0)) F hK hW hL_y_2 hK_y_2 (by decide) rfl rfl (by decide) i_5 (hK.2.1 (.fieldLinkNest "OpeningsCabinet" 252 "OpeningsCabinet$Board" "files" "I" "OpeningsCabinet") (by decide +kernel)) rfl dX11_isOpenFile_9 ?_
    refine lv_icmp_lt (tgt := 25) hx hb dX11_isOpenFile_12 (by decide) (fun c_3 => ?_) (fun c_3 => ?_)
    · replace hp := hp.1 c_3
      refine lv_aload_n hx hb dX11_isOpenFile_25 rfl (lv_at hl 0 rfl) ?_
      obtain ⟨y_4, ey_4, hL_y_4, hK_y_4, hp⟩ := hp
      refine w_get (k := 16) (f := 2) (T := TX11) (v := .ref y_4) F hK hW hL_a0 hK_a0 (by decide) rfl rfl (by decide) i_16 k_28 (by rw [show wv 16 2 S a0 = va_rf (sR S a0 2) from rfl, ey_4]; rfl) dX11_isOpenFile_26 ?_
      refine lv_bipush (v := 6) hx hb dX11_isOpenFile_29 (by decide) ?_
      refine w_callJ (va_runV (As := [.int (6 : Int32)]) (rest := []) F (c_X7_ofKind l hL_y_4 hK_y_4 hp H.size) (cwV (C := RX7) 1 hts (wg_V wm_RX11_248 wy_X7_ofKind) rfl rfl rfl (by decide +kernel) ⟨Nat.le_of_ble_eq_true rfl, Nat.le_of_ble_eq_true rfl⟩) (w_preV hK hW hL_y_4 hK_y_4 (by decide) rfl) rfl rfl hl.1 rfl (lv_room (Nat.le_of_ble_eq_true rfl)) dX11_isOpenFile_31 ⟨Nat.le_of_ble_eq_true rfl, Nat.le_of_ble_eq_true rfl⟩) hW (fun r_5 S_6 H locs hp hW => ?_)
      obtain ⟨hX_S_6, hp⟩ := hp
      refine W.widen (k := 0) (n := 0) (by decide) (by decide) ?_
      have hE := hE.trans hX_S_6
      have hK_a0 : sK S_6 a0 = 16 := (hX_S_6.2 a0 hL_a0).1.trans hK_a0
      have hL_a0 : wM D S_6 a0 := hX_S_6.M hL_a0
      refine lv_aload_n hx hb dX11_isOpenFile_34 rfl (lv_at hl 0 rfl) ?_
      obtain ⟨y_7, ey_7, hL_y_7, hK_y_7, hp⟩ := hp
      refine w_get (k := 16) (f := 0) (T := TX11) (v := .ref y_7) F hK hW hL_a0 hK_a0 (by decide) rfl rfl (by decide) i_16 k_12 (by rw [show wv 16 0 S_6 a0 = va_rf (sR S_6 a0 0) from rfl, ey_7]; rfl) dX11_isOpenFile_35 ?_
      refine lv_iload_n hx hb dX11_isOpenFile_38 rfl (lv_at hl 1 rfl) ?_
      refine w_callJ (va_runV (As := [.int x1]) (rest := [.long r_5]) F (c_X0_squaresOfFile l hL_y_7 hK_y_7 hp H.size) (cwV (C := RX0) 1 hts (wg_V wm_RX11_257 wy_X0_squaresOfFile) rfl rfl rfl (by decide +kernel) ⟨Nat.le_of_ble_eq_true rfl, Nat.le_of_ble_eq_true rfl⟩) (w_preV hK hW hL_y_7 hK_y_7 (by decide) rfl) rfl rfl hl.1 rfl (lv_room (Nat.le_of_ble_eq_true rfl)) dX11_isOpenFile_39 ⟨Nat.le_of_ble_eq_true rfl, Nat.le_of_ble_eq_true rfl⟩) hW (fun r_8 S_9 H locs hp hW => ?_)
      obtain ⟨hX_S_9, hp⟩ := hp
      refine W.widen (k := 0) (n := 0) (by decide) (by decide) ?_
      have hE := hE.trans hX_S_9
      have hK_a0 : sK S_9 a0 = 16 := (hX_S_9.2 a0 hL_a0).1.trans hK_a0
      have hL_a0 : wM D S_9 a0 := hX_S_9.M hL_a0
      refine lv_land hx hb dX11_isOpenFile_42 ?_
      refine lv_lconst (v := 0) hx hb dX11_isOpenFile_43 (by decide) ?_
      refine W.lcmp hx hb dX11_isOpenFile_44 ?_
      refine lv_if_ne (tgt := 52) hx hb dX11_isOpenFile_45 (by decide) (fun c_10 => ?_) (fun c_10 => ?_)
      · replace hp := hp.1 c_10
        refine lv_iconst (v := 0) hx hb dX11_isOpenFile_52 (by decide) ?_
        exact t_X11_isOpenFile_53 F hr hlocks hK hl0 hexc hp hW hE (lv_sub hl [] rfl)
      · replace hp := hp.2 c_10
        refine lv_iconst (v := 1) hx hb dX11_isOpenFile_48 (by decide) ?_
        refine lv_goto (tgt := 53) hx hb dX11_isOpenFile_49 (by decide) ?_
        exact t_X11_isOpenFile_53 F hr hlocks hK hl0 hexc hp hW hE (lv_sub hl [] rfl)
    · replace hp := hp.2 c_3
      exact t_X11_isOpenFile_15 F hr hlocks hK hl0 hexc hp hW hE (lv_sub hl [] rfl)
set_option maxHeartbeats 4000000 in
set_option maxRecDepth 100000 in
theorem c_X11_isOpenFile (l : Launch) {D : wD} {cy : Nat → ClassId} {X : va_W} {S0 : wS} {post : Int32 → wS → Prop} {xp : String → wS → Prop} (hl0 : l.stackTraces = false) {a0 : Nat} {x1 : Int32} (hL_a0 : wM D S0 a0) (hK_a0 : sK S0 a0 = 16) (hp : wp_X11_isOpenFile D post xp S0 a0 x1) : xI D cy X l yX11_isOpenFile wz_X11_isOpenFile r_X11_isOpenFile [.ref a0, .int x1] S0 (fun r S9 => wX D S0 S9 ∧ post r S9) (fun E S9 => wX D S0 S9 ∧ xp E S9) := by
  intro sz
  refine vx_ofW (cc := cX11_isOpenFile) (maxL := 2) (ret := (some .boolean)) (by decide) rfl ?_
  intro p e s m args below meth c s₁ B hml hexc hv
  obtain ⟨rfl, hsz, hP, hK, hD0, hRO⟩ := hv
  have hts := atoms_spec (ws := wz_X11_isOpenFile) B.pre
  have hown : s.vm.findClass RX11 = some m.cls := findClass_of_methodNamed B.named
  subst hsz
  have hD := hD0.self (sz := s.heap.size)
  have F : CallFix p m c cX11_isOpenFile 2 s _ wz_X11_isOpenFile RX11 := ⟨B.exec, B.bytes, hml, hown, hts⟩
  have hr := B.returns
  have hlocks := B.notSynchronized
  generalize hAe : va_A (wL cy X S0) s.heap.size = A at hD hK ⊢
  have hA : ∀ q, s.heap.size ≤ q → A q := fun q h => by rw [← hAe]; exact Or.inr h
  have hW : wO D cy X A s.heap S0 s.heap [] := ⟨hP, hD, va_S.rf, hA, hRO⟩
  have hl := lv_entry ([.ref a0, .int x1]) (n := 2) (Nat.le_of_ble_eq_true rfl)
  rw [lg_entry_eq]
  generalize (lg_sl ([.ref a0, .int x1]) ++ List.replicate (2 - (lg_sl ([.ref a0, .int x1])).length) Slot.unset).toArray = ls at hl ⊢
  have hl : lv_has ls 2 [(0, .ref a0), (1, .int x1)] := hl
  unfold wp_X11_isOpenFile at hp
  exact t_X11_isOpenFile_0 F hr hlocks hK hl0 hexc hp hW wX.rf (lv_sub hl [0, 1] rfl) hL_a0 hK_a0
def wp_X7_shieldsKing_107 (D : wD) (post : Int32 → wS → Prop)  (S : wS) (t0 : Int32) : Prop :=
narrow .boolean (.int t0) = .int t0 ∧ post t0 S
def wp_X7_shieldsKing_72 (D : wD) (post : Int32 → wS → Prop)  (S : wS) (a0 : Nat) (x1 : Int32) (x3 : Int64) (b0 : Nat) (t1 : Int32) (t2 : Int32) : Prop :=
wp_X7_occupied D (fun r_1 S_2 => 
wp_X7_attackers D (fun r_3 S_4 => 
(((lg_cmp (r_3 &&& (x3 ^^^ (-1 : Int64))) (0 : Int64)) = 0 → wp_X7_shieldsKing_107 D post S_4 (0 : Int32)) ∧
 (¬ (lg_cmp (r_3 &&& (x3 ^^^ (-1 : Int64))) (0 : Int64)) = 0 → wp_X7_shieldsKing_107 D post S_4 (1 : Int32)))) S_2 b0 t1 t2 (r_1 &&& ((jlshl (1 : Int64) x1) ^^^ (-1 : Int64)))) S a0
def wp_X7_shieldsKing_50 (D : wD) (post : Int32 → wS → Prop)  (S : wS) (a0 : Nat) (x1 : Int32) (x2 : Int32) (b0 : Nat) (t1 : Int32) (t2 : Int32) : Prop :=
wp_X7_occupied D (fun r_1 S_2 => 
wp_X7_attackers D (fun r_3 S_4 => 
((¬ (sI S_4 a0 5) = 0 → wp_X7_shieldsKing_72 D post S_4 a0 x1 r_3 a0 x2 (0 : Int32)) ∧
 ((sI S_4 a0 5) = 0 → wp_X7_shieldsKing_72 D post S_4 a0 x1 r_3 a0 x2 (1 : Int32)))) S_2 b0 t1 t2 r_1) S a0
def wp_X7_shieldsKing_34 (D : wD) (post : Int32 → wS → Prop)  (S : wS) : Prop :=
narrow .boolean (.int (0 : Int32)) = .int (0 : Int32) ∧ post (0 : Int32) S
def wp_X7_shieldsKing_0 (D : wD) (post : Int32 → wS → Prop)  (S : wS) (a0 : Nat) (x1 : Int32) : Prop :=
wp_X7_kingOf D (fun r_1 S_2 => 
((r_1 = (-1 : Int32) → wp_X7_shieldsKing_34 D post S_2) ∧
 (¬ r_1 = (-1 : Int32) → ((x1 = r_1 → wp_X7_shieldsKing_34 D post S_2) ∧
 (¬ x1 = r_1 → wp_X7_ofSide D (fun r_5 S_6 => 
wp_X11_contains D (fun r_7 S_8 => 
((¬ r_7 = 0 → ((¬ (sI S_8 a0 5) = 0 → wp_X7_shieldsKing_50 D post S_8 a0 x1 r_1 a0 r_1 (0 : Int32)) ∧
 ((sI S_8 a0 5) = 0 → wp_X7_shieldsKing_50 D post S_8 a0 x1 r_1 a0 r_1 (1 : Int32)))) ∧
 (r_7 = 0 → wp_X7_shieldsKing_34 D post S_8))) S_6 r_5 x1) S_2 a0 (sI S_2 a0 5)))))) S a0 (sI S a0 5)
abbrev r_X7_shieldsKing : Room := { frames := 2, cells := 0, slots := 0, locals := 60 }
def wp_X7_shieldsKing (D : wD) (post : Int32 → wS → Prop) (S : wS) (a0 : Nat) (x1 : Int32) : Prop := wp_X7_shieldsKing_0 D post S a0 x1
set_option maxHeartbeats 4000000 in
set_option maxRecDepth 100000 in
theorem t_X7_shieldsKing_107 {p : Program} {l : Launch} {e : Env} {s : State} {m : MethodId} {args : Array Value} {below : List Frame} {meth : Method} {c : Code} {D : wD} {cy : Nat → ClassId} {X : va_W} {A : Nat → Prop} {S0 : wS} {post : Int32 → wS → Prop} (F : CallFix p m c cX7_shieldsKing 7 s args wz_X7_shieldsKing RX7) (hr : meth.sig.returnType = (some .boolean)) (hlocks : meth.locks = false) (hK : wK D cy A s) : ∀ {S : wS} {H : Heap} {locs : List Loc} {ls : Array Slot} {t0 : Int32}, wp_X7_shieldsKing_107 D post S t0 → wO D cy X A s.heap S H locs → wX D S0 S → lv_has ls 7 [] → W p l e r_X7_shieldsKing s m args below meth c H locs 0 0 (MQ below (va_Qi (fun r S9 => wX D S0 S9 ∧ post r S9) (wB D cy X A) A) args s 0 0 A) (F0 m 107 ls [.int t0]) := by
  obtain ⟨hx, hb, hml, hown, hts⟩ := id F
  have hwg : ∀ w ∈ WG, w.before args s = true := fun w h => hts w (List.mem_cons_of_mem _ h)
  intro S H locs ls t0 hp hW hE hl
  unfold wp_X7_shieldsKing_107 at hp
  exact w_zret hx hb hr hlocks hW hp.1 ⟨hE, hp.2⟩ dX7_shieldsKing_107
set_option maxHeartbeats 4000000 in
set_option maxRecDepth 100000 in
theorem t_X7_shieldsKing_72 {p : Program} {l : Launch} {e : Env} {s : State} {m : MethodId} {args : Array Value} {below : List Frame} {meth : Method} {c : Code} {D : wD} {cy : Nat → ClassId} {X : va_W} {A : Nat → Prop} {S0 : wS} {post : Int32 → wS → Prop} (F : CallFix p m c cX7_shieldsKing 7 s args wz_X7_shieldsKing RX7) (hr : meth.sig.returnType = (some .boolean)) (hlocks : meth.locks = false) (hK : wK D cy A s) : ∀ {S : wS} {H : Heap} {locs : List Loc} {ls : Array Slot} {a0 : Nat} {x1 : Int32} {x3 : Int64} {b0 : Nat} {t1 : Int32} {t2 : Int32}, wp_X7_shieldsKing_72 D post S a0 x1 x3 b0 t1 t2 → wO D cy X A s.heap S H locs → wX D S0 S → lv_has ls 7 [(0, .ref a0), (1, .int x1), (3, .long x3)] → wM D S a0 → sK S a0 = 12 → wM D S b0 → sK S b0 = 12 → W p l e r_X7_shieldsKing s m args below meth c H locs 0 0 (MQ below (va_Qi (fun r S9 => wX D S0 S9 ∧ post r S9) (wB D cy X A) A) args s 0 0 A) (F0 m 72 ls [.int t2, .int t1, .ref b0]) := by
  obtain ⟨hx, hb, hml, hown, hts⟩ := id F
  have hwg : ∀ w ∈ WG, w.before args s = true := fun w h => hts w (List.mem_cons_of_mem _ h)
  intro S H locs ls a0 x1 x3 b0 t1 t2 hp hW hE hl hL_a0 hK_a0 hL_b0 hK_b0
  unfold wp_X7_shieldsKing_72 at hp
  refine lv_aload_n hx hb dX7_shieldsKing_72 rfl (lv_at hl 0 rfl) ?_
  refine w_callJ (va_runV (As := []) (rest := [.int t2, .int t1, .ref b0]) F (c_X7_occupied l hL_a0 hK_a0 hp H.size) (cwV (C := RX7) 0 hts (wg_V wm_RX7_122 wy_X7_occupied) rfl rfl rfl (by decide +kernel) ⟨Nat.le_of_ble_eq_true rfl, Nat.le_of_ble_eq_true rfl⟩) (w_preV hK hW hL_a0 hK_a0 (by decide) rfl) rfl rfl hl.1 rfl (lv_room (Nat.le_of_ble_eq_true rfl)) dX7_shieldsKing_73 ⟨Nat.le_of_ble_eq_true rfl, Nat.le_of_ble_eq_true rfl⟩) hW (fun r_1 S_2 H locs hp hW => ?_)
  obtain ⟨hX_S_2, hp⟩ := hp
  refine W.widen (k := 0) (n := 0) (by decide) (by decide) ?_
  have hE := hE.trans hX_S_2
  have hK_a0 : sK S_2 a0 = 12 := (hX_S_2.2 a0 hL_a0).1.trans hK_a0
  have hL_a0 : wM D S_2 a0 := hX_S_2.M hL_a0
  have hK_b0 : sK S_2 b0 = 12 := (hX_S_2.2 b0 hL_b0).1.trans hK_b0
  have hL_b0 : wM D S_2 b0 := hX_S_2.M hL_b0
  refine lv_lconst (v := 1) hx hb dX7_shieldsKing_76 (by decide) ?_
  refine lv_iload_n hx hb dX7_shieldsKing_77 rfl (lv_at hl 1 rfl) ?_
  refine lv_lshl (v := (jlshl (1 : Int64) x1)) hx hb dX7_shieldsKing_78 rfl ?_
  refine lv_ldc2 (v := (-1)) hx hb hown (hwg _ wJ_RX7_70) dX7_shieldsKing_79 ?_
  refine lv_lxor hx hb dX7_shieldsKing_82 ?_
  refine lv_land hx hb dX7_shieldsKing_83 ?_
  refine w_callJ (va_runV (As := [.int t1, .int t2, .long (r_1 &&& ((jlshl (1 : Int64) x1) ^^^ (-1 : Int64)))]) (rest := []) F (c_X7_attackers l hL_b0 hK_b0 hp H.size) (cwV (C := RX7) 3 hts (wg_V wm_RX7_125 wy_X7_attackers) rfl rfl rfl (by decide +kernel) ⟨Nat.le_of_ble_eq_true rfl, Nat.le_of_ble_eq_true rfl⟩) (w_preV hK hW hL_b0 hK_b0 (by decide) rfl) rfl rfl hl.1 rfl (lv_room (Nat.le_of_ble_eq_true rfl)) dX7_shieldsKing_84 ⟨Nat.le_of_ble_eq_true rfl, Nat.le_of_ble_eq_true rfl⟩) hW (fun r_3 S_4 H locs hp hW => ?_)
  obtain ⟨hX_S_4, hp⟩ := hp
  refine W.widen (k := 0) (n := 0) (by decide) (by decide) ?_
  have hE := hE.trans hX_S_4
  have hK_a0 : sK S_4 a0 = 12 := (hX_S_4.2 a0 hL_a0).1.trans hK_a0
  have hL_a0 : wM D S_4 a0 := hX_S_4.M hL_a0
  refine lv_lstore (lv' := [(5, .long r_3), (0, .ref a0), (1, .int x1), (3, .long x3)]) hx hb dX7_shieldsKing_87 hl (by decide) rfl (fun ls hl => ?_)
  refine lv_lload hx hb dX7_shieldsKing_89 (lv_at hl 0 rfl) ?_
  refine lv_lload_n hx hb dX7_shieldsKing_91 rfl (lv_at hl 3 rfl) ?_
  refine lv_ldc2 (v := (-1)) hx hb hown (hwg _ wJ_RX7_70) dX7_shieldsKing_92 ?_
  refine lv_lxor hx hb dX7_shieldsKing_95 ?_
  refine lv_land hx hb dX7_shieldsKing_96 ?_
  refine lv_lconst (v := 0) hx hb dX7_shieldsKing_97 (by decide) ?_
  refine W.lcmp hx hb dX7_shieldsKing_98 ?_
  refine lv_if_eq (tgt := 106) hx hb dX7_shieldsKing_99 (by decide) (fun c_5 => ?_) (fun c_5 => ?_)
  · replace hp := hp.1 c_5
    refine lv_iconst (v := 0) hx hb dX7_shieldsKing_106 (by decide) ?_
    exact t_X7_shieldsKing_107 F hr hlocks hK hp hW hE (lv_sub hl [] rfl)
  · replace hp := hp.2 c_5
    refine lv_iconst (v := 1) hx hb dX7_shieldsKing_102 (by decide) ?_
    refine lv_goto (tgt := 107) hx hb dX7_shieldsKing_103 (by decide) ?_
    exact t_X7_shieldsKing_107 F hr hlocks hK hp hW hE (lv_sub hl [] rfl)
set_option maxHeartbeats 4000000 in
set_option maxRecDepth 100000 in
theorem t_X7_shieldsKing_50 {p : Program} {l : Launch} {e : Env} {s : State} {m : MethodId} {args : Array Value} {below : List Frame} {meth : Method} {c : Code} {D : wD} {cy : Nat → ClassId} {X : va_W} {A : Nat → Prop} {S0 : wS} {post : Int32 → wS → Prop} (F : CallFix p m c cX7_shieldsKing 7 s args wz_X7_shieldsKing RX7) (hr : meth.sig.returnType = (some .boolean)) (hlocks : meth.locks = false) (hK : wK D cy A s) : ∀ {S : wS} {H : Heap} {locs : List Loc} {ls : Array Slot} {a0 : Nat} {x1 : Int32} {x2 : Int32} {b0 : Nat} {t1 : Int32} {t2 : Int32}, wp_X7_shieldsKing_50 D post S a0 x1 x2 b0 t1 t2 → wO D cy X A s.heap S H locs → wX D S0 S → lv_has ls 7 [(0, .ref a0), (1, .int x1), (2, .int x2)] → wM D S a0 → sK S a0 = 12 → wM D S b0 → sK S b0 = 12 → W p l e r_X7_shieldsKing s m args below meth c H locs 0 0 (MQ below (va_Qi (fun r S9 => wX D S0 S9 ∧ post r S9) (wB D cy X A) A) args s 0 0 A) (F0 m 50 ls [.int t2, .int t1, .ref b0]) := by
  obtain ⟨hx, hb, hml, hown, hts⟩ := id F
  have hwg : ∀ w ∈ WG, w.before args s = true := fun w h => hts w (List.mem_cons_of_mem _ h)
  have i_12 : ∀ w ∈ u_ws RX7 TX7 8, w ∈ wz_X7_shieldsKing := fun w h => List.mem_cons_of_mem _ (wu_12 w h)
  have k_24 := hwg _ wf_RX7_24
  intro S H locs ls a0 x1 x2 b0 t1 t2 hp hW hE hl hL_a0 hK_a0 hL_b0 hK_b0
  unfold wp_X7_shieldsKing_50 at hp
  refine lv_aload_n hx hb dX7_shieldsKing_50 rfl (lv_at hl 0 rfl) ?_
  refine w_callJ (va_runV (As := []) (rest := [.int t2, .int t1, .ref b0]) F (c_X7_occupied l hL_a0 hK_a0 hp H.size) (cwV (C := RX7) 0 hts (wg_V wm_RX7_122 wy_X7_occupied) rfl rfl rfl (by decide +kernel) ⟨Nat.le_of_ble_eq_true rfl, Nat.le_of_ble_eq_true rfl⟩) (w_preV hK hW hL_a0 hK_a0 (by decide) rfl) rfl rfl hl.1 rfl (lv_room (Nat.le_of_ble_eq_true rfl)) dX7_shieldsKing_51 ⟨Nat.le_of_ble_eq_true rfl, Nat.le_of_ble_eq_true rfl⟩) hW (fun r_1 S_2 H locs hp hW => ?_)
  obtain ⟨hX_S_2, hp⟩ := hp
  refine W.widen (k := 0) (n := 0) (by decide) (by decide) ?_
  have hE := hE.trans hX_S_2
  have hK_a0 : sK S_2 a0 = 12 := (hX_S_2.2 a0 hL_a0).1.trans hK_a0
  have hL_a0 : wM D S_2 a0 := hX_S_2.M hL_a0
  have hK_b0 : sK S_2 b0 = 12 := (hX_S_2.2 b0 hL_b0).1.trans hK_b0
  have hL_b0 : wM D S_2 b0 := hX_S_2.M hL_b0
  refine w_callJ (va_runV (As := [.int t1, .int t2, .long r_1]) (rest := []) F (c_X7_attackers l hL_b0 hK_b0 hp H.size) (cwV (C := RX7) 3 hts (wg_V wm_RX7_125 wy_X7_attackers) rfl rfl rfl (by decide +kernel) ⟨Nat.le_of_ble_eq_true rfl, Nat.le_of_ble_eq_true rfl⟩) (w_preV hK hW hL_b0 hK_b0 (by decide) rfl) rfl rfl hl.1 rfl (lv_room (Nat.le_of_ble_eq_true rfl)) dX7_shieldsKing_54 ⟨Nat.le_of_ble_eq_true rfl, Nat.le_of_ble_eq_true rfl⟩) hW (fun r_3 S_4 H locs hp hW => ?_)
  obtain ⟨hX_S_4, hp⟩ := hp
  refine W.widen (k := 0) (n := 0) (by decide) (by decide) ?_
  have hE := hE.trans hX_S_4
  have hK_a0 : sK S_4 a0 = 12 := (hX_S_4.2 a0 hL_a0).1.trans hK_a0
  have hL_a0 : wM D S_4 a0 := hX_S_4.M hL_a0
  refine lv_lstore_n (lv' := [(3, .long r_3), (0, .ref a0), (1, .int x1), (2, .int x2)]) hx hb dX7_shieldsKing_57 rfl hl (by decide) rfl (fun ls hl => ?_)
  refine lv_aload_n hx hb dX7_shieldsKing_58 rfl (lv_at hl 1 rfl) ?_
  refine lv_iload_n hx hb dX7_shieldsKing_59 rfl (lv_at hl 3 rfl) ?_
  refine lv_aload_n hx hb dX7_shieldsKing_60 rfl (lv_at hl 1 rfl) ?_
  refine w_get (k := 12) (f := 5) (T := TX7) (v := .int (sI S_4 a0 5)) F hK hW hL_a0 hK_a0 (by decide) rfl rfl (by decide) i_12 k_24 rfl dX7_shieldsKing_61 ?_
  refine lv_if_ne (tgt := 71) hx hb dX7_shieldsKing_64 (by decide) (fun c_5 => ?_) (fun c_5 => ?_)
  · replace hp := hp.1 c_5
    refine lv_iconst (v := 0) hx hb dX7_shieldsKing_71 (by decide) ?_
    exact t_X7_shieldsKing_72 F hr hlocks hK hp hW hE (lv_sub hl [1, 2, 0] rfl) hL_a0 hK_a0 hL_a0 hK_a0
  · replace hp := hp.2 c_5
    refine lv_iconst (v := 1) hx hb dX7_shieldsKing_67 (by decide) ?_
    refine lv_goto (tgt := 72) hx hb dX7_shieldsKing_68 (by decide) ?_
    exact t_X7_shieldsKing_72 F hr hlocks hK hp hW hE (lv_sub hl [1, 2, 0] rfl) hL_a0 hK_a0 hL_a0 hK_a0
set_option maxHeartbeats 4000000 in
set_option maxRecDepth 100000 in
theorem t_X7_shieldsKing_34 {p : Program} {l : Launch} {e : Env} {s : State} {m : MethodId} {args : Array Value} {below : List Frame} {meth : Method} {c : Code} {D : wD} {cy : Nat → ClassId} {X : va_W} {A : Nat → Prop} {S0 : wS} {post : Int32 → wS → Prop} (F : CallFix p m c cX7_shieldsKing 7 s args wz_X7_shieldsKing RX7) (hr : meth.sig.returnType = (some .boolean)) (hlocks : meth.locks = false) (hK : wK D cy A s) : ∀ {S : wS} {H : Heap} {locs : List Loc} {ls : Array Slot}, wp_X7_shieldsKing_34 D post S → wO D cy X A s.heap S H locs → wX D S0 S → lv_has ls 7 [] → W p l e r_X7_shieldsKing s m args below meth c H locs 0 0 (MQ below (va_Qi (fun r S9 => wX D S0 S9 ∧ post r S9) (wB D cy X A) A) args s 0 0 A) (F0 m 34 ls []) := by
  obtain ⟨hx, hb, hml, hown, hts⟩ := id F
  have hwg : ∀ w ∈ WG, w.before args s = true := fun w h => hts w (List.mem_cons_of_mem _ h)
  intro S H locs ls hp hW hE hl
  unfold wp_X7_shieldsKing_34 at hp
  refine lv_iconst (v := 0) hx hb dX7_shieldsKing_34 (by decide) ?_
  exact w_zret hx hb hr hlocks hW hp.1 ⟨hE, hp.2⟩ dX7_shieldsKing_35
set_option maxHeartbeats 4000000 in
set_option maxRecDepth 100000 in
theorem t_X7_shieldsKing_0 {p : Program} {l : Launch} {e : Env} {s : State} {m : MethodId} {args : Array Value} {below : List Frame} {meth : Method} {c : Code} {D : wD} {cy : Nat → ClassId} {X : va_W} {A : Nat → Prop} {S0 : wS} {post : Int32 → wS → Prop} (F : CallFix p m c cX7_shieldsKing 7 s args wz_X7_shieldsKing RX7) (hr : meth.sig.returnType = (some .boolean)) (hlocks : meth.locks = false) (hK : wK D cy A s) : ∀ {S : wS} {H : Heap} {locs : List Loc} {ls : Array Slot} {a0 : Nat} {x1 : Int32}, wp_X7_shieldsKing_0 D post S a0 x1 → wO D cy X A s.heap S H locs → wX D S0 S → lv_has ls 7 [(0, .ref a0), (1, .int x1)] → wM D S a0 → sK S a0 = 12 → W p l e r_X7_shieldsKing s m args below meth c H locs 0 0 (MQ below (va_Qi (fun r S9 => wX D S0 S9 ∧ post r S9) (wB D cy X A) A) args s 0 0 A) (F0 m 0 ls []) := by
  obtain ⟨hx, hb, hml, hown, hts⟩ := id F
  have hwg : ∀ w ∈ WG, w.before args s = true := fun w h => hts w (List.mem_cons_of_mem _ h)
  have i_12 : ∀ w ∈ u_ws RX7 TX7 8, w ∈ wz_X7_shieldsKing := fun w h => List.mem_cons_of_mem _ (wu_12 w h)
  have k_24 := hwg _ wf_RX7_24
  intro S H locs ls a0 x1 hp hW hE hl hL_a0 hK_a0
  unfold wp_X7_shieldsKing_0 at hp
  refine lv_aload_n hx hb dX7_shieldsKing_0 rfl (lv_at hl 0 rfl) ?_
  refine lv_aload_n hx hb dX7_shieldsKing_1 rfl (lv_at hl 0 rfl) ?_
  refine w_get (k := 12) (f := 5) (T := TX7) (v := .int (sI S a0 5)) F hK hW hL_a0 hK_a0 (by decide) rfl rfl (by decide) i_12 k_24 rfl dX7_shieldsKing_2 ?_
  refine w_callI (va_runV (As := [.int (sI S a0 5)]) (rest := []) F (c_X7_kingOf l hL_a0 hK_a0 hp H.size) (cwV (C := RX7) 1 hts (wg_V wm_RX7_118 wy_X7_kingOf) rfl rfl rfl (by decide +kernel) ⟨Nat.le_of_ble_eq_true rfl, Nat.le_of_ble_eq_true rfl⟩) (w_preV hK hW hL_a0 hK_a0 (by decide) rfl) rfl rfl hl.1 rfl (lv_room (Nat.le_of_ble_eq_true rfl)) dX7_shieldsKing_5 ⟨Nat.le_of_ble_eq_true rfl, Nat.le_of_ble_eq_true rfl⟩) hW (fun r_1 S_2 H locs hp hW => ?_)
  obtain ⟨hX_S_2, hp⟩ := hp
  refine W.widen (k := 0) (n := 0) (by decide) (by decide) ?_
  have hE := hE.trans hX_S_2
  have hK_a0 : sK S_2 a0 = 12 := (hX_S_2.2 a0 hL_a0).1.trans hK_a0
  have hL_a0 : wM D S_2 a0 := hX_S_2.M hL_a0
  refine lv_istore_n (lv' := [(2, .int r_1), (0, .ref a0), (1, .int x1)]) hx hb dX7_shieldsKing_8 rfl hl (by decide) rfl (fun ls hl => ?_)
  refine lv_iload_n hx hb dX7_shieldsKing_9 rfl (lv_at hl 0 rfl) ?_
  refine lv_iconst (v := (-1)) hx hb dX7_shieldsKing_10 (by decide) ?_
  refine lv_icmp_eq (tgt := 34) hx hb dX7_shieldsKing_11 (by decide) (fun c_3 => ?_) (fun c_3 => ?_)
  · replace hp := hp.1 c_3
    exact t_X7_shieldsKing_34 F hr hlocks hK hp hW hE (lv_sub hl [] rfl)
  · replace hp := hp.2 c_3
    refine lv_iload_n hx hb dX7_shieldsKing_14 rfl (lv_at hl 2 rfl) ?_
    refine lv_iload_n hx hb dX7_shieldsKing_15 rfl (lv_at hl 0 rfl) ?_
    refine lv_icmp_eq (tgt := 34) hx hb dX7_shieldsKing_16 (by decide) (fun c_4 => ?_) (fun c_4 => ?_)
    · replace hp := hp.1 c_4
      exact t_X7_shieldsKing_34 F hr hlocks hK hp hW hE (lv_sub hl [] rfl)
    · replace hp := hp.2 c_4
      refine lv_aload_n hx hb dX7_shieldsKing_19 rfl (lv_at hl 1 rfl) ?_
      refine lv_aload_n hx hb dX7_shieldsKing_20 rfl (lv_at hl 1 rfl) ?_
      refine w_get (k := 12) (f := 5) (T := TX7) (v := .int (sI S_2 a0 5)) F hK hW hL_a0 hK_a0 (by decide) rfl rfl (by decide) i_12 k_24 rfl dX7_shieldsKing_21 ?_
      refine w_callJ (va_runV (As := [.int (sI S_2 a0 5)]) (rest := []) F (c_X7_ofSide l hL_a0 hK_a0 hp H.size) (cwV (C := RX7) 1 hts (wg_V wm_RX7_114 wy_X7_ofSide) rfl rfl rfl (by decide +kernel) ⟨Nat.le_of_ble_eq_true rfl, Nat.le_of_ble_eq_true rfl⟩) (w_preV hK hW hL_a0 hK_a0 (by decide) rfl) rfl rfl hl.1 rfl (lv_room (Nat.le_of_ble_eq_true rfl)) dX7_shieldsKing_24 ⟨Nat.le_of_ble_eq_true rfl, Nat.le_of_ble_eq_true rfl⟩) hW (fun r_5 S_6 H locs hp hW => ?_)
      obtain ⟨hX_S_6, hp⟩ := hp
      refine W.widen (k := 0) (n := 0) (by decide) (by decide) ?_
      have hE := hE.trans hX_S_6
      have hK_a0 : sK S_6 a0 = 12 := (hX_S_6.2 a0 hL_a0).1.trans hK_a0
      have hL_a0 : wM D S_6 a0 := hX_S_6.M hL_a0
      refine lv_iload_n hx hb dX7_shieldsKing_27 rfl (lv_at hl 2 rfl) ?_
      refine w_callI (va_runSN (As := [.long r_5, .int x1]) (rest := []) F (c_X11_contains l hp H.size) ⟨va_cnB (host := "OpeningsCabinet") 2 hts (wg_cons wy_X11_contains.2.2) rfl rfl rfl (hK.2.1 (.methodLinkNest "OpeningsCabinet$Position" 79 ⟨"OpeningsCabinet", "contains", "(JI)Z"⟩ "OpeningsCabinet") (by decide +kernel)) (hwg _ wy_X11_contains.2.1) ⟨by decide, by decide, by decide +kernel⟩ ⟨Nat.le_of_ble_eq_true rfl, Nat.le_of_ble_eq_true rfl⟩, hwg _ wy_X11_contains.1, trivial⟩ (w_preS hK hW) rfl rfl hl.1 rfl (lv_room (Nat.le_of_ble_eq_true rfl)) dX7_shieldsKing_28 ⟨Nat.le_of_ble_eq_true rfl, Nat.le_of_ble_eq_true rfl⟩) hW (fun r_7 S_8 H locs hp hW => ?_)
      obtain ⟨hX_S_8, hp⟩ := hp
      refine W.widen (k := 0) (n := 0) (by decide) (by decide) ?_
      have hE := hE.trans hX_S_8
      have hK_a0 : sK S_8 a0 = 12 := (hX_S_8.2 a0 hL_a0).1.trans hK_a0
      have hL_a0 : wM D S_8 a0 := hX_S_8.M hL_a0
      refine lv_if_ne (tgt := 36) hx hb dX7_shieldsKing_31 (by decide) (fun c_9 => ?_) (fun c_9 => ?_)
      · replace hp := hp.1 c_9
        refine lv_aload_n hx hb dX7_shieldsKing_36 rfl (lv_at hl 1 rfl) ?_
        refine lv_iload_n hx hb dX7_shieldsKing_37 rfl (lv_at hl 0 rfl) ?_
        refine lv_aload_n hx hb dX7_shieldsKing_38 rfl (lv_at hl 1 rfl) ?_
        refine w_get (k := 12) (f := 5) (T := TX7) (v := .int (sI S_8 a0 5)) F hK hW hL_a0 hK_a0 (by decide) rfl rfl (by decide) i_12 k_24 rfl dX7_shieldsKing_39 ?_
        refine lv_if_ne (tgt := 49) hx hb dX7_shieldsKing_42 (by decide) (fun c_10 => ?_) (fun c_10 => ?_)
        · replace hp := hp.1 c_10
          refine lv_iconst (v := 0) hx hb dX7_shieldsKing_49 (by decide) ?_
          exact t_X7_shieldsKing_50 F hr hlocks hK hp hW hE (lv_sub hl [1, 2, 0] rfl) hL_a0 hK_a0 hL_a0 hK_a0
        · replace hp := hp.2 c_10
          refine lv_iconst (v := 1) hx hb dX7_shieldsKing_45 (by decide) ?_
          refine lv_goto (tgt := 50) hx hb dX7_shieldsKing_46 (by decide) ?_
          exact t_X7_shieldsKing_50 F hr hlocks hK hp hW hE (lv_sub hl [1, 2, 0] rfl) hL_a0 hK_a0 hL_a0 hK_a0
      · replace hp := hp.2 c_9
        exact t_X7_shieldsKing_34 F hr hlocks hK hp hW hE (lv_sub hl [] rfl)
set_option maxHeartbeats 4000000 in
set_option maxRecDepth 100000 in
theorem c_X7_shieldsKing (l : Launch) {D : wD} {cy : Nat → ClassId} {X : va_W} {S0 : wS} {post : Int32 → wS → Prop} {a0 : Nat} {x1 : Int32} (hL_a0 : wM D S0 a0) (hK_a0 : sK S0 a0 = 12) (hp : wp_X7_shieldsKing D post S0 a0 x1) : mI D cy X l yX7_shieldsKing wz_X7_shieldsKing r_X7_shieldsKing [.ref a0, .int x1] S0 (fun r S9 => wX D S0 S9 ∧ post r S9) := by
  intro sz
  refine Met.ofW (cc := cX7_shieldsKing) (maxL := 7) (ret := (some .boolean)) (by decide) rfl ?_
  intro p e s m args below meth c s₁ B hml hv
  obtain ⟨rfl, hsz, hP, hK, hD0, hRO⟩ := hv
  have hts := atoms_spec (ws := wz_X7_shieldsKing) B.pre
  have hown : s.vm.findClass RX7 = some m.cls := findClass_of_methodNamed B.named
  subst hsz
  have hD := hD0.self (sz := s.heap.size)
  have F : CallFix p m c cX7_shieldsKing 7 s _ wz_X7_shieldsKing RX7 := ⟨B.exec, B.bytes, hml, hown, hts⟩
  have hr := B.returns
  have hlocks := B.notSynchronized
  generalize hAe : va_A (wL cy X S0) s.heap.size = A at hD hK ⊢
  have hA : ∀ q, s.heap.size ≤ q → A q := fun q h => by rw [← hAe]; exact Or.inr h
  have hW : wO D cy X A s.heap S0 s.heap [] := ⟨hP, hD, va_S.rf, hA, hRO⟩
  have hl := lv_entry ([.ref a0, .int x1]) (n := 7) (Nat.le_of_ble_eq_true rfl)
  rw [lg_entry_eq]
  generalize (lg_sl ([.ref a0, .int x1]) ++ List.replicate (7 - (lg_sl ([.ref a0, .int x1])).length) Slot.unset).toArray = ls at hl ⊢
  have hl : lv_has ls 7 [(0, .ref a0), (1, .int x1)] := hl
  unfold wp_X7_shieldsKing at hp
  exact t_X7_shieldsKing_0 F hr hlocks hK hp hW wX.rf (lv_sub hl [0, 1] rfl) hL_a0 hK_a0
def wp_X11_isPinned_0 (D : wD) (post : Int32 → wS → Prop) (xp : String → wS → Prop)  (S : wS) (a0 : Nat) (x1 : Int32) : Prop :=
wp_X11_mustBeSquare D (fun S_2 => 
wp_X11_mustBeLawful D (fun S_4 => 
∃ y_5 : Nat, sR S_4 a0 2 = some y_5 ∧ wM D S_4 y_5 ∧ sK S_4 y_5 = 12 ∧
wp_X7_shieldsKing D (fun r_6 S_7 => 
narrow .boolean (.int r_6) = .int r_6 ∧ post r_6 S_7) S_4 y_5 x1) xp S_2 a0) xp S a0 x1
abbrev r_X11_isPinned : Room := { frames := 7, cells := 2, slots := 12, locals := 141 }
def wp_X11_isPinned (D : wD) (post : Int32 → wS → Prop) (xp : String → wS → Prop) (S : wS) (a0 : Nat) (x1 : Int32) : Prop := wp_X11_isPinned_0 D post xp S a0 x1
set_option maxHeartbeats 4000000 in
set_option maxRecDepth 100000 in
theorem t_X11_isPinned_0 {p : Program} {l : Launch} {e : Env} {s : State} {m : MethodId} {args : Array Value} {below : List Frame} {meth : Method} {c : Code} {D : wD} {cy : Nat → ClassId} {X : va_W} {A : Nat → Prop} {S0 : wS} {post : Int32 → wS → Prop} {xp : String → wS → Prop} (F : CallFix p m c cX11_isPinned 2 s args wz_X11_isPinned RX11) (hr : meth.sig.returnType = (some .boolean)) (hlocks : meth.locks = false) (hK : wK D cy A s) (hl0 : l.stackTraces = false) (hexc : ∀ x ∈ c.exceptionTable.toList, False) : ∀ {S : wS} {H : Heap} {locs : List Loc} {ls : Array Slot} {a0 : Nat} {x1 : Int32}, wp_X11_isPinned_0 D post xp S a0 x1 → wO D cy X A s.heap S H locs → wX D S0 S → lv_has ls 2 [(0, .ref a0), (1, .int x1)] → wM D S a0 → sK S a0 = 16 → W p l e r_X11_isPinned s m args below meth c H locs 0 0 (vx_MQ below (va_Qi (fun r S9 => wX D S0 S9 ∧ post r S9) (wB D cy X A) A) (wEx D cy X A (fun E S9 => wX D S0 S9 ∧ xp E S9)) args s 2 12 A) (F0 m 0 ls []) := by
  obtain ⟨hx, hb, hml, hown, hts⟩ := id F
  have hwg : ∀ w ∈ WG, w.before args s = true := fun w h => hts w (List.mem_cons_of_mem _ h)
  have i_16 : ∀ w ∈ u_ws RX11 TX11 18, w ∈ wz_X11_isPinned := fun w h => List.mem_cons_of_mem _ (wu_16 w h)
  have k_28 := hwg _ wf_RX11_28
  intro S H locs ls a0 x1 hp hW hE hl hL_a0 hK_a0
  unfold wp_X11_isPinned_0 at hp
  refine lv_aload_n hx hb dX11_isPinned_0 rfl (lv_at hl 0 rfl) ?_
  refine lv_iload_n hx hb dX11_isPinned_1 rfl (lv_at hl 1 rfl) ?_
  refine x_callV (vx_runV (As := [.int x1]) (rest := []) F (c_X11_mustBeSquare l hl0 hL_a0 hK_a0 hp H.size) (cwV (C := RX11) 1 hts (wg_V wm_RX11_160 wy_X11_mustBeSquare) rfl rfl rfl (by decide +kernel) ⟨Nat.le_of_ble_eq_true rfl, Nat.le_of_ble_eq_true rfl⟩) (w_preV hK hW hL_a0 hK_a0 (by decide) rfl) rfl rfl hl.1 rfl (lv_room (Nat.le_of_ble_eq_true rfl)) dX11_isPinned_2 ⟨Nat.le_of_ble_eq_true rfl, Nat.le_of_ble_eq_true rfl⟩) hW (fun E ce q9 S9 H locs hp hW h1 h2 h3 => x_out hexc hlocks ⟨hE.trans hp.1, hp.2⟩ hW h1 h2 h3 (by decide) (by decide)) (fun S_2 H locs hp hW => ?_)
  obtain ⟨hX_S_2, hp⟩ := hp
  refine W.widen (k := 1) (n := 6) (by decide) (by decide) ?_
  have hE := hE.trans hX_S_2
  have hK_a0 : sK S_2 a0 = 16 := (hX_S_2.2 a0 hL_a0).1.trans hK_a0
  have hL_a0 : wM D S_2 a0 := hX_S_2.M hL_a0
  refine lv_aload_n hx hb dX11_isPinned_5 rfl (lv_at hl 0 rfl) ?_
  refine x_callV (vx_runV (As := []) (rest := []) F (c_X11_mustBeLawful l hl0 hL_a0 hK_a0 hp H.size) (cwV (C := RX11) 0 hts (wg_V wm_RX11_217 wy_X11_mustBeLawful) rfl rfl rfl (by decide +kernel) ⟨Nat.le_of_ble_eq_true rfl, Nat.le_of_ble_eq_true rfl⟩) (w_preV hK hW hL_a0 hK_a0 (by decide) rfl) rfl rfl hl.1 rfl (lv_room (Nat.le_of_ble_eq_true rfl)) dX11_isPinned_6 ⟨Nat.le_of_ble_eq_true rfl, Nat.le_of_ble_eq_true rfl⟩) hW (fun E ce q9 S9 H locs hp hW h1 h2 h3 => x_out hexc hlocks ⟨hE.trans hp.1, hp.2⟩ hW h1 h2 h3 (by decide) (by decide)) (fun S_4 H locs hp hW => ?_)
  obtain ⟨hX_S_4, hp⟩ := hp
  refine W.widen (k := 2) (n := 12) (by decide) (by decide) ?_
  have hE := hE.trans hX_S_4
  have hK_a0 : sK S_4 a0 = 16 := (hX_S_4.2 a0 hL_a0).1.trans hK_a0
  have hL_a0 : wM D S_4 a0 := hX_S_4.M hL_a0
  refine lv_aload_n hx hb dX11_isPinned_9 rfl (lv_at hl 0 rfl) ?_
  obtain ⟨y_5, ey_5, hL_y_5, hK_y_5, hp⟩ := hp
  refine w_get (k := 16) (f := 2) (T := TX11) (v := .ref y_5) F hK hW hL_a0 hK_a0 (by decide) rfl rfl (by decide) i_16 k_28 (by rw [show wv 16 2 S_4 a0 = va_rf (sR S_4 a0 2) from rfl, ey_5]; rfl) dX11_isPinned_10 ?_
  refine lv_iload_n hx hb dX11_isPinned_13 rfl (lv_at hl 1 rfl) ?_
  refine w_callI (va_runV (As := [.int x1]) (rest := []) F (c_X7_shieldsKing l hL_y_5 hK_y_5 hp H.size) (cwV (C := RX7) 1 hts (wg_V wm_RX11_224 wy_X7_shieldsKing) rfl rfl rfl (by decide +kernel) ⟨Nat.le_of_ble_eq_true rfl, Nat.le_of_ble_eq_true rfl⟩) (w_preV hK hW hL_y_5 hK_y_5 (by decide) rfl) rfl rfl hl.1 rfl (lv_room (Nat.le_of_ble_eq_true rfl)) dX11_isPinned_14 ⟨Nat.le_of_ble_eq_true rfl, Nat.le_of_ble_eq_true rfl⟩) hW (fun r_6 S_7 H locs hp hW => ?_)
  obtain ⟨hX_S_7, hp⟩ := hp
  refine W.widen (k := 2) (n := 12) (by decide) (by decide) ?_
  have hE := hE.trans hX_S_7
  have hK_a0 : sK S_7 a0 = 16 := (hX_S_7.2 a0 hL_a0).1.trans hK_a0
  have hL_a0 : wM D S_7 a0 := hX_S_7.M hL_a0
  refine vx_ret ?_
  exact w_zret hx hb hr hlocks hW hp.1 ⟨hE, hp.2⟩ dX11_isPinned_17
set_option maxHeartbeats 4000000 in
set_option maxRecDepth 100000 in
theorem c_X11_isPinned (l : Launch) {D : wD} {cy : Nat → ClassId} {X : va_W} {S0 : wS} {post : Int32 → wS → Prop} {xp : String → wS → Prop} (hl0 : l.stackTraces = false) {a0 : Nat} {x1 : Int32} (hL_a0 : wM D S0 a0) (hK_a0 : sK S0 a0 = 16) (hp : wp_X11_isPinned D post xp S0 a0 x1) : xI D cy X l yX11_isPinned wz_X11_isPinned r_X11_isPinned [.ref a0, .int x1] S0 (fun r S9 => wX D S0 S9 ∧ post r S9) (fun E S9 => wX D S0 S9 ∧ xp E S9) := by
  intro sz
  refine vx_ofW (cc := cX11_isPinned) (maxL := 2) (ret := (some .boolean)) (by decide) rfl ?_
  intro p e s m args below meth c s₁ B hml hexc hv
  obtain ⟨rfl, hsz, hP, hK, hD0, hRO⟩ := hv
  have hts := atoms_spec (ws := wz_X11_isPinned) B.pre
  have hown : s.vm.findClass RX11 = some m.cls := findClass_of_methodNamed B.named
  subst hsz
  have hD := hD0.self (sz := s.heap.size)
  have F : CallFix p m c cX11_isPinned 2 s _ wz_X11_isPinned RX11 := ⟨B.exec, B.bytes, hml, hown, hts⟩
  have hr := B.returns
  have hlocks := B.notSynchronized
  generalize hAe : va_A (wL cy X S0) s.heap.size = A at hD hK ⊢
  have hA : ∀ q, s.heap.size ≤ q → A q := fun q h => by rw [← hAe]; exact Or.inr h
  have hW : wO D cy X A s.heap S0 s.heap [] := ⟨hP, hD, va_S.rf, hA, hRO⟩
  have hl := lv_entry ([.ref a0, .int x1]) (n := 2) (Nat.le_of_ble_eq_true rfl)
  rw [lg_entry_eq]
  generalize (lg_sl ([.ref a0, .int x1]) ++ List.replicate (2 - (lg_sl ([.ref a0, .int x1])).length) Slot.unset).toArray = ls at hl ⊢
  have hl : lv_has ls 2 [(0, .ref a0), (1, .int x1)] := hl
  unfold wp_X11_isPinned at hp
  exact t_X11_isPinned_0 F hr hlocks hK hl0 hexc hp hW wX.rf (lv_sub hl [0, 1] rfl) hL_a0 hK_a0
def wp_X11_isProper_0 (D : wD) (post : Int32 → wS → Prop)  (S : wS) (a0 : Nat) : Prop :=
∃ y_1 : Nat, sR S a0 2 = some y_1 ∧ wM D S y_1 ∧ sK S y_1 = 12 ∧
wp_X7_isLawful D (fun r_2 S_3 => 
narrow .boolean (.int r_2) = .int r_2 ∧ post r_2 S_3) S y_1
abbrev r_X11_isProper : Room := { frames := 4, cells := 0, slots := 0, locals := 92 }
def wp_X11_isProper (D : wD) (post : Int32 → wS → Prop) (S : wS) (a0 : Nat) : Prop := wp_X11_isProper_0 D post S a0
set_option maxHeartbeats 4000000 in
set_option maxRecDepth 100000 in
theorem t_X11_isProper_0 {p : Program} {l : Launch} {e : Env} {s : State} {m : MethodId} {args : Array Value} {below : List Frame} {meth : Method} {c : Code} {D : wD} {cy : Nat → ClassId} {X : va_W} {A : Nat → Prop} {S0 : wS} {post : Int32 → wS → Prop} (F : CallFix p m c cX11_isProper 1 s args wz_X11_isProper RX11) (hr : meth.sig.returnType = (some .boolean)) (hlocks : meth.locks = false) (hK : wK D cy A s) : ∀ {S : wS} {H : Heap} {locs : List Loc} {ls : Array Slot} {a0 : Nat}, wp_X11_isProper_0 D post S a0 → wO D cy X A s.heap S H locs → wX D S0 S → lv_has ls 1 [(0, .ref a0)] → wM D S a0 → sK S a0 = 16 → W p l e r_X11_isProper s m args below meth c H locs 0 0 (MQ below (va_Qi (fun r S9 => wX D S0 S9 ∧ post r S9) (wB D cy X A) A) args s 0 0 A) (F0 m 0 ls []) := by
  obtain ⟨hx, hb, hml, hown, hts⟩ := id F
  have hwg : ∀ w ∈ WG, w.before args s = true := fun w h => hts w (List.mem_cons_of_mem _ h)
  have i_16 : ∀ w ∈ u_ws RX11 TX11 18, w ∈ wz_X11_isProper := fun w h => List.mem_cons_of_mem _ (wu_16 w h)
  have k_28 := hwg _ wf_RX11_28
  intro S H locs ls a0 hp hW hE hl hL_a0 hK_a0
  unfold wp_X11_isProper_0 at hp
  refine lv_aload_n hx hb dX11_isProper_0 rfl (lv_at hl 0 rfl) ?_
  obtain ⟨y_1, ey_1, hL_y_1, hK_y_1, hp⟩ := hp
  refine w_get (k := 16) (f := 2) (T := TX11) (v := .ref y_1) F hK hW hL_a0 hK_a0 (by decide) rfl rfl (by decide) i_16 k_28 (by rw [show wv 16 2 S a0 = va_rf (sR S a0 2) from rfl, ey_1]; rfl) dX11_isProper_1 ?_
  refine w_callI (va_runV (As := []) (rest := []) F (c_X7_isLawful l hL_y_1 hK_y_1 hp H.size) (cwV (C := RX7) 0 hts (wg_V wm_RX11_209 wy_X7_isLawful) rfl rfl rfl (by decide +kernel) ⟨Nat.le_of_ble_eq_true rfl, Nat.le_of_ble_eq_true rfl⟩) (w_preV hK hW hL_y_1 hK_y_1 (by decide) rfl) rfl rfl hl.1 rfl (lv_room (Nat.le_of_ble_eq_true rfl)) dX11_isProper_4 ⟨Nat.le_of_ble_eq_true rfl, Nat.le_of_ble_eq_true rfl⟩) hW (fun r_2 S_3 H locs hp hW => ?_)
  obtain ⟨hX_S_3, hp⟩ := hp
  refine W.widen (k := 0) (n := 0) (by decide) (by decide) ?_
  have hE := hE.trans hX_S_3
  have hK_a0 : sK S_3 a0 = 16 := (hX_S_3.2 a0 hL_a0).1.trans hK_a0
  have hL_a0 : wM D S_3 a0 := hX_S_3.M hL_a0
  exact w_zret hx hb hr hlocks hW hp.1 ⟨hE, hp.2⟩ dX11_isProper_7
set_option maxHeartbeats 4000000 in
set_option maxRecDepth 100000 in
theorem c_X11_isProper (l : Launch) {D : wD} {cy : Nat → ClassId} {X : va_W} {S0 : wS} {post : Int32 → wS → Prop} {a0 : Nat} (hL_a0 : wM D S0 a0) (hK_a0 : sK S0 a0 = 16) (hp : wp_X11_isProper D post S0 a0) : mI D cy X l yX11_isProper wz_X11_isProper r_X11_isProper [.ref a0] S0 (fun r S9 => wX D S0 S9 ∧ post r S9) := by
  intro sz
  refine Met.ofW (cc := cX11_isProper) (maxL := 1) (ret := (some .boolean)) (by decide) rfl ?_
  intro p e s m args below meth c s₁ B hml hv
  obtain ⟨rfl, hsz, hP, hK, hD0, hRO⟩ := hv
  have hts := atoms_spec (ws := wz_X11_isProper) B.pre
  have hown : s.vm.findClass RX11 = some m.cls := findClass_of_methodNamed B.named
  subst hsz
  have hD := hD0.self (sz := s.heap.size)
  have F : CallFix p m c cX11_isProper 1 s _ wz_X11_isProper RX11 := ⟨B.exec, B.bytes, hml, hown, hts⟩
  have hr := B.returns
  have hlocks := B.notSynchronized
  generalize hAe : va_A (wL cy X S0) s.heap.size = A at hD hK ⊢
  have hA : ∀ q, s.heap.size ≤ q → A q := fun q h => by rw [← hAe]; exact Or.inr h
  have hW : wO D cy X A s.heap S0 s.heap [] := ⟨hP, hD, va_S.rf, hA, hRO⟩
  have hl := lv_entry ([.ref a0]) (n := 1) (Nat.le_of_ble_eq_true rfl)
  rw [lg_entry_eq]
  generalize (lg_sl ([.ref a0]) ++ List.replicate (1 - (lg_sl ([.ref a0])).length) Slot.unset).toArray = ls at hl ⊢
  have hl : lv_has ls 1 [(0, .ref a0)] := hl
  unfold wp_X11_isProper at hp
  exact t_X11_isProper_0 F hr hlocks hK hp hW wX.rf (lv_sub hl [0] rfl) hL_a0 hK_a0
def wp_X11_isWhiteToMove_0 (D : wD) (post : Int32 → wS → Prop)  (S : wS) (a0 : Nat) : Prop :=
∃ y_1 : Nat, sR S a0 2 = some y_1 ∧ wM D S y_1 ∧ sK S y_1 = 12 ∧
narrow .boolean (.int (sI S y_1 5)) = .int (sI S y_1 5) ∧ post (sI S y_1 5) S
abbrev r_X11_isWhiteToMove : Room := { frames := 0, cells := 0, slots := 0, locals := 0 }
def wp_X11_isWhiteToMove (D : wD) (post : Int32 → wS → Prop) (S : wS) (a0 : Nat) : Prop := wp_X11_isWhiteToMove_0 D post S a0
set_option maxHeartbeats 4000000 in
set_option maxRecDepth 100000 in
theorem t_X11_isWhiteToMove_0 {p : Program} {l : Launch} {e : Env} {s : State} {m : MethodId} {args : Array Value} {below : List Frame} {meth : Method} {c : Code} {D : wD} {cy : Nat → ClassId} {X : va_W} {A : Nat → Prop} {S0 : wS} {post : Int32 → wS → Prop} (F : CallFix p m c cX11_isWhiteToMove 1 s args wz_X11_isWhiteToMove RX11) (hr : meth.sig.returnType = (some .boolean)) (hlocks : meth.locks = false) (hK : wK D cy A s) : ∀ {S : wS} {H : Heap} {locs : List Loc} {ls : Array Slot} {a0 : Nat}, wp_X11_isWhiteToMove_0 D post S a0 → wO D cy X A s.heap S H locs → wX D S0 S → lv_has ls 1 [(0, .ref a0)] → wM D S a0 → sK S a0 = 16 → W p l e r_X11_isWhiteToMove s m args below meth c H locs 0 0 (MQ below (va_Qi (fun r S9 => wX D S0 S9 ∧ post r S9) (wB D cy X A) A) args s 0 0 A) (F0 m 0 ls []) := by
  obtain ⟨hx, hb, hml, hown, hts⟩ := id F
  have hwg : ∀ w ∈ WG, w.before args s = true := fun w h => hts w (List.mem_cons_of_mem _ h)
  have i_12 : ∀ w ∈ u_ws RX7 TX7 8, w ∈ wz_X11_isWhiteToMove := fun w h => List.mem_cons_of_mem _ (wu_12 w h)
  have i_16 : ∀ w ∈ u_ws RX11 TX11 18, w ∈ wz_X11_isWhiteToMove := fun w h => List.mem_cons_of_mem _ (wu_16 w h)
  have k_28 := hwg _ wf_RX11_28
  intro S H locs ls a0 hp hW hE hl hL_a0 hK_a0
  unfold wp_X11_isWhiteToMove_0 at hp
  refine lv_aload_n hx hb dX11_isWhiteToMove_0 rfl (lv_at hl 0 rfl) ?_
  obtain ⟨y_1, ey_1, hL_y_1, hK_y_1, hp⟩ := hp
  refine w_get (k := 16) (f := 2) (T := TX11) (v := .ref y_1) F hK hW hL_a0 hK_a0 (by decide) rfl rfl (by decide) i_16 k_28 (by rw [show wv 16 2 S a0 = va_rf (sR S a0 2) from rfl, ey_1]; rfl) dX11_isWhiteToMove_1 ?_
  refine w_getN (k := 12) (f := 5) (T := TX7) (v := .int (sI S y_1 5)) F hK hW hL_y_1 hK_y_1 (by decide) rfl rfl (by decide) i_12 (hK.2.1 (.fieldLinkNest "OpeningsCabinet" 183 "OpeningsCabinet$Position" "isWhite" "Z" "OpeningsCabinet") (by decide +kernel)) rfl dX11_isWhiteToMove_4 ?_
  exact w_zret hx hb hr hlocks hW hp.1 ⟨hE, hp.2⟩ dX11_isWhiteToMove_7
set_option maxHeartbeats 4000000 in
set_option maxRecDepth 100000 in
theorem c_X11_isWhiteToMove (l : Launch) {D : wD} {cy : Nat → ClassId} {X : va_W} {S0 : wS} {post : Int32 → wS → Prop} {a0 : Nat} (hL_a0 : wM D S0 a0) (hK_a0 : sK S0 a0 = 16) (hp : wp_X11_isWhiteToMove D post S0 a0) : mI D cy X l yX11_isWhiteToMove wz_X11_isWhiteToMove r_X11_isWhiteToMove [.ref a0] S0 (fun r S9 => wX D S0 S9 ∧ post r S9) := by
  intro sz
  refine Met.ofW (cc := cX11_isWhiteToMove) (maxL := 1) (ret := (some .boolean)) (by decide) rfl ?_
  intro p e s m args below meth c s₁ B hml hv
  obtain ⟨rfl, hsz, hP, hK, hD0, hRO⟩ := hv
  have hts := atoms_spec (ws := wz_X11_isWhiteToMove) B.pre
  have hown : s.vm.findClass RX11 = some m.cls := findClass_of_methodNamed B.named
  subst hsz
  have hD := hD0.self (sz := s.heap.size)
  have F : CallFix p m c cX11_isWhiteToMove 1 s _ wz_X11_isWhiteToMove RX11 := ⟨B.exec, B.bytes, hml, hown, hts⟩
  have hr := B.returns
  have hlocks := B.notSynchronized
  generalize hAe : va_A (wL cy X S0) s.heap.size = A at hD hK ⊢
  have hA : ∀ q, s.heap.size ≤ q → A q := fun q h => by rw [← hAe]; exact Or.inr h
  have hW : wO D cy X A s.heap S0 s.heap [] := ⟨hP, hD, va_S.rf, hA, hRO⟩
  have hl := lv_entry ([.ref a0]) (n := 1) (Nat.le_of_ble_eq_true rfl)
  rw [lg_entry_eq]
  generalize (lg_sl ([.ref a0]) ++ List.replicate (1 - (lg_sl ([.ref a0])).length) Slot.unset).toArray = ls at hl ⊢
  have hl : lv_has ls 1 [(0, .ref a0)] := hl
  unfold wp_X11_isWhiteToMove at hp
  exact t_X11_isWhiteToMove_0 F hr hlocks hK hp hW wX.rf (lv_sub hl [0] rfl) hL_a0 hK_a0
def wp_X11_keyCount_0 (D : wD) (post : Int32 → wS → Prop) (xp : String → wS → Prop)  (S : wS) (a0 : Nat) : Prop :=
wp_X11_mustBeLawful D (fun S_2 => 
∃ y_3 : Nat, sR S_2 a0 11 = some y_3 ∧ wM D S_2 y_3 ∧ sK S_2 y_3 = 14 ∧
∃ y_4 : Nat, sR S_2 a0 2 = some y_4 ∧ wM D S_2 y_4 ∧ sK S_2 y_4 = 12 ∧
wp_X9_findKeys D (fun S_6 => 
∃ y_7 : Nat, sR S_6 a0 11 = some y_7 ∧ wM D S_6 y_7 ∧ sK S_6 y_7 = 14 ∧
post (sI S_6 y_7 8) S_6) S_2 y_3 y_4) xp S a0
abbrev r_X11_keyCount : Room := { frames := 7, cells := 1, slots := 6, locals := 196 }
def wp_X11_keyCount (D : wD) (post : Int32 → wS → Prop) (xp : String → wS → Prop) (S : wS) (a0 : Nat) : Prop := wp_X11_keyCount_0 D post xp S a0
set_option maxHeartbeats 4000000 in
set_option maxRecDepth 100000 in
theorem t_X11_keyCount_0 {p : Program} {l : Launch} {e : Env} {s : State} {m : MethodId} {args : Array Value} {below : List Frame} {meth : Method} {c : Code} {D : wD} {cy : Nat → ClassId} {X : va_W} {A : Nat → Prop} {S0 : wS} {post : Int32 → wS → Prop} {xp : String → wS → Prop} (F : CallFix p m c cX11_keyCount 1 s args wz_X11_keyCount RX11) (hr : meth.sig.returnType = (some .int)) (hlocks : meth.locks = false) (hK : wK D cy A s) (hl0 : l.stackTraces = false) (hexc : ∀ x ∈ c.exceptionTable.toList, False) : ∀ {S : wS} {H : Heap} {locs : List Loc} {ls : Array Slot} {a0 : Nat}, wp_X11_keyCount_0 D post xp S a0 → wO D cy X A s.heap S H locs → wX D S0 S → lv_has ls 1 [(0, .ref a0)] → wM D S a0 → sK S a0 = 16 → W p l e r_X11_keyCount s m args below meth c H locs 0 0 (vx_MQ below (va_Qi (fun r S9 => wX D S0 S9 ∧ post r S9) (wB D cy X A) A) (wEx D cy X A (fun E S9 => wX D S0 S9 ∧ xp E S9)) args s 1 6 A) (F0 m 0 ls []) := by
  obtain ⟨hx, hb, hml, hown, hts⟩ := id F
  have hwg : ∀ w ∈ WG, w.before args s = true := fun w h => hts w (List.mem_cons_of_mem _ h)
  have i_14 : ∀ w ∈ u_ws RX9 TX9 10, w ∈ wz_X11_keyCount := fun w h => List.mem_cons_of_mem _ (wu_14 w h)
  have i_16 : ∀ w ∈ u_ws RX11 TX11 18, w ∈ wz_X11_keyCount := fun w h => List.mem_cons_of_mem _ (wu_16 w h)
  have k_28 := hwg _ wf_RX11_28
  have k_91 := hwg _ wf_RX11_91
  intro S H locs ls a0 hp hW hE hl hL_a0 hK_a0
  unfold wp_X11_keyCount_0 at hp
  refine lv_aload_n hx hb dX11_keyCount_0 rfl (lv_at hl 0 rfl) ?_
  refine x_callV (vx_runV (As := []) (rest := []) F (c_X11_mustBeLawful l hl0 hL_a0 hK_a0 hp H.size) (cwV (C := RX11) 0 hts (wg_V wm_RX11_217 wy_X11_mustBeLawful) rfl rfl rfl (by decide +kernel) ⟨Nat.le_of_ble_eq_true rfl, Nat.le_of_ble_eq_true rfl⟩) (w_preV hK hW hL_a0 hK_a0 (by decide) rfl) rfl rfl hl.1 rfl (lv_room (Nat.le_of_ble_eq_true rfl)) dX11_keyCount_1 ⟨Nat.le_of_ble_eq_true rfl, Nat.le_of_ble_eq_true rfl⟩) hW (fun E ce q9 S9 H locs hp hW h1 h2 h3 => x_out hexc hlocks ⟨hE.trans hp.1, hp.2⟩ hW h1 h2 h3 (by decide) (by decide)) (fun S_2 H locs hp hW => ?_)
  obtain ⟨hX_S_2, hp⟩ := hp
  refine W.widen (k := 1) (n := 6) (by decide) (by decide) ?_
  have hE := hE.trans hX_S_2
  have hK_a0 : sK S_2 a0 = 16 := (hX_S_2.2 a0 hL_a0).1.trans hK_a0
  have hL_a0 : wM D S_2 a0 := hX_S_2.M hL_a0
  refine lv_aload_n hx hb dX11_keyCount_4 rfl (lv_at hl 0 rfl) ?_
  obtain ⟨y_3, ey_3, hL_y_3, hK_y_3, hp⟩ := hp
  refine w_get (k := 16) (f := 11) (T := TX11) (v := .ref y_3) F hK hW hL_a0 hK_a0 (by decide) rfl rfl (by decide) i_16 k_91 (by rw [show wv 16 11 S_2 a0 = va_rf (sR S_2 a0 11) from rfl, ey_3]; rfl) dX11_keyCount_5 ?_
  refine lv_aload_n hx hb dX11_keyCount_8 rfl (lv_at hl 0 rfl) ?_
  obtain ⟨y_4, ey_4, hL_y_4, hK_y_4, hp⟩ := hp
  refine w_get (k := 16) (f := 2) (T := TX11) (v := .ref y_4) F hK hW hL_a0 hK_a0 (by decide) rfl rfl (by decide) i_16 k_28 (by rw [show wv 16 2 S_2 a0 = va_rf (sR S_2 a0 2) from rfl, ey_4]; rfl) dX11_keyCount_9 ?_
  refine w_callV (va_runV (As := [.ref y_4]) (rest := []) F (c_X9_findKeys l hL_y_3 hK_y_3 hL_y_4 hK_y_4 hp H.size) (cwV (C := RX9) 1 hts (wg_V wm_RX11_432 wy_X9_findKeys) rfl rfl rfl (by decide +kernel) ⟨Nat.le_of_ble_eq_true rfl, Nat.le_of_ble_eq_true rfl⟩) (w_preV hK hW hL_y_3 hK_y_3 (by decide) rfl) rfl rfl hl.1 rfl (lv_room (Nat.le_of_ble_eq_true rfl)) dX11_keyCount_12 ⟨Nat.le_of_ble_eq_true rfl, Nat.le_of_ble_eq_true rfl⟩) hW (fun S_6 H locs hp hW => ?_)
  obtain ⟨hX_S_6, hp⟩ := hp
  refine W.widen (k := 1) (n := 6) (by decide) (by decide) ?_
  have hE := hE.trans hX_S_6
  have hK_a0 : sK S_6 a0 = 16 := (hX_S_6.2 a0 hL_a0).1.trans hK_a0
  have hL_a0 : wM D S_6 a0 := hX_S_6.M hL_a0
  refine lv_aload_n hx hb dX11_keyCount_15 rfl (lv_at hl 0 rfl) ?_
  obtain ⟨y_7, ey_7, hL_y_7, hK_y_7, hp⟩ := hp
  refine w_get (k := 16) (f := 11) (T := TX11) (v := .ref y_7) F hK hW hL_a0 hK_a0 (by decide) rfl rfl (by decide) i_16 k_91 (by rw [show wv 16 11 S_6 a0 = va_rf (sR S_6 a0 11) from rfl, ey_7]; rfl) dX11_keyCount_16 ?_
  refine w_getN (k := 14) (f := 8) (T := TX9) (v := .int (sI S_6 y_7 8)) F hK hW hL_y_7 hK_y_7 (by decide) rfl rfl (by decide) i_14 (hK.2.1 (.fieldLinkNest "OpeningsCabinet" 438 "OpeningsCabinet$Search" "keys" "I" "OpeningsCabinet") (by decide +kernel)) rfl dX11_keyCount_19 ?_
  refine vx_ret ?_
  exact w_iret hx hb hr hlocks hW ⟨hE, hp⟩ dX11_keyCount_22
set_option maxHeartbeats 4000000 in
set_option maxRecDepth 100000 in
theorem c_X11_keyCount (l : Launch) {D : wD} {cy : Nat → ClassId} {X : va_W} {S0 : wS} {post : Int32 → wS → Prop} {xp : String → wS → Prop} (hl0 : l.stackTraces = false) {a0 : Nat} (hL_a0 : wM D S0 a0) (hK_a0 : sK S0 a0 = 16) (hp : wp_X11_keyCount D post xp S0 a0) : xI D cy X l yX11_keyCount wz_X11_keyCount r_X11_keyCount [.ref a0] S0 (fun r S9 => wX D S0 S9 ∧ post r S9) (fun E S9 => wX D S0 S9 ∧ xp E S9) := by
  intro sz
  refine vx_ofW (cc := cX11_keyCount) (maxL := 1) (ret := (some .int)) (by decide) rfl ?_
  intro p e s m args below meth c s₁ B hml hexc hv
  obtain ⟨rfl, hsz, hP, hK, hD0, hRO⟩ := hv
  have hts := atoms_spec (ws := wz_X11_keyCount) B.pre
  have hown : s.vm.findClass RX11 = some m.cls := findClass_of_methodNamed B.named
  subst hsz
  have hD := hD0.self (sz := s.heap.size)
  have F : CallFix p m c cX11_keyCount 1 s _ wz_X11_keyCount RX11 := ⟨B.exec, B.bytes, hml, hown, hts⟩
  have hr := B.returns
  have hlocks := B.notSynchronized
  generalize hAe : va_A (wL cy X S0) s.heap.size = A at hD hK ⊢
  have hA : ∀ q, s.heap.size ≤ q → A q := fun q h => by rw [← hAe]; exact Or.inr h
  have hW : wO D cy X A s.heap S0 s.heap [] := ⟨hP, hD, va_S.rf, hA, hRO⟩
  have hl := lv_entry ([.ref a0]) (n := 1) (Nat.le_of_ble_eq_true rfl)
  rw [lg_entry_eq]
  generalize (lg_sl ([.ref a0]) ++ List.replicate (1 - (lg_sl ([.ref a0])).length) Slot.unset).toArray = ls at hl ⊢
  have hl : lv_has ls 1 [(0, .ref a0)] := hl
  unfold wp_X11_keyCount at hp
  exact t_X11_keyCount_0 F hr hlocks hK hl0 hexc hp hW wX.rf (lv_sub hl [0] rfl) hL_a0 hK_a0
def wp_X11_mustBeEndingKind_10 (D : wD) (post : wS → Prop) (xp : String → wS → Prop)  (S : wS) : Prop :=
xp "java/lang/IllegalArgumentException" S
def wp_X11_mustBeEndingKind_0 (D : wD) (post : wS → Prop) (xp : String → wS → Prop)  (S : wS) (x0 : Int32) : Prop :=
((x0 < (2 : Int32) → wp_X11_mustBeEndingKind_10 D post xp S) ∧
 (¬ x0 < (2 : Int32) → ((x0 ≤ (5 : Int32) → post S) ∧
 (¬ x0 ≤ (5 : Int32) → wp_X11_mustBeEndingKind_10 D post xp S))))
abbrev r_X11_mustBeEndingKind : Room := { frames := 6, cells := 1, slots := 6, locals := 120 }
def wp_X11_mustBeEndingKind (D : wD) (post : wS → Prop) (xp : String → wS → Prop) (S : wS) (x0 : Int32) : Prop := wp_X11_mustBeEndingKind_0 D post xp S x0
set_option maxHeartbeats 4000000 in
set_option maxRecDepth 100000 in
theorem t_X11_mustBeEndingKind_10 {p : Program} {l : Launch} {e : Env} {s : State} {m : MethodId} {args : Array Value} {below : List Frame} {meth : Method} {c : Code} {D : wD} {cy : Nat → ClassId} {X : va_W} {A : Nat → Prop} {S0 : wS} {post : wS → Prop} {xp : String → wS → Prop} (F : CallFix p m c cX11_mustBeEndingKind 1 s args wz_X11_mustBeEndingKind RX11) (hr : meth.sig.returnType = none) (hlocks : meth.locks = false) (hK : wK D cy A s) (hl0 : l.stackTraces = false) (hexc : ∀ x ∈ c.exceptionTable.toList, False) : ∀ {S : wS} {H : Heap} {locs : List Loc} {ls : Array Slot}, wp_X11_mustBeEndingKind_10 D post xp S → wO D cy X A s.heap S H locs → wX D S0 S → lv_has ls 1 [] → W p l e r_X11_mustBeEndingKind s m args below meth c H locs 0 0 (vx_MQ below (va_Qv (fun S9 => wX D S0 S9 ∧ post S9) (wB D cy X A) A) (wEx D cy X A (fun E S9 => wX D S0 S9 ∧ xp E S9)) args s 1 6 A) (F0 m 10 ls []) := by
  obtain ⟨hx, hb, hml, hown, hts⟩ := id F
  have hwg : ∀ w ∈ WG, w.before args s = true := fun w h => hts w (List.mem_cons_of_mem _ h)
  intro S H locs ls hp hW hE hl
  unfold wp_X11_mustBeEndingKind_10 at hp
  exact x_throwW (ls := ls) F hK hW hl0 (by decide) (hwg _ wc_RX11_140) (hwg _ wi_java_lang_IllegalArgumentException) (show ("OpeningsCabinet", 499, "the kind of an ending is 2 to 5", 42) ∈ wStr by decide +kernel) (wa_RX11_144 hwg hK.2.1) wa_RX11_144_ok hl.1 hexc hlocks dX11_mustBeEndingKind_10 dX11_mustBeEndingKind_13 dX11_mustBeEndingKind_14 dX11_mustBeEndingKind_17 dX11_mustBeEndingKind_20 (Nat.le_of_ble_eq_true rfl) (Nat.le_of_ble_eq_true rfl) (Nat.le_of_ble_eq_true rfl) (Nat.le_of_ble_eq_true rfl) (by decide) (by decide) ⟨hE, hp⟩
set_option maxHeartbeats 4000000 in
set_option maxRecDepth 100000 in
theorem t_X11_mustBeEndingKind_0 {p : Program} {l : Launch} {e : Env} {s : State} {m : MethodId} {args : Array Value} {below : List Frame} {meth : Method} {c : Code} {D : wD} {cy : Nat → ClassId} {X : va_W} {A : Nat → Prop} {S0 : wS} {post : wS → Prop} {xp : String → wS → Prop} (F : CallFix p m c cX11_mustBeEndingKind 1 s args wz_X11_mustBeEndingKind RX11) (hr : meth.sig.returnType = none) (hlocks : meth.locks = false) (hK : wK D cy A s) (hl0 : l.stackTraces = false) (hexc : ∀ x ∈ c.exceptionTable.toList, False) : ∀ {S : wS} {H : Heap} {locs : List Loc} {ls : Array Slot} {x0 : Int32}, wp_X11_mustBeEndingKind_0 D post xp S x0 → wO D cy X A s.heap S H locs → wX D S0 S → lv_has ls 1 [(0, .int x0)] → W p l e r_X11_mustBeEndingKind s m args below meth c H locs 0 0 (vx_MQ below (va_Qv (fun S9 => wX D S0 S9 ∧ post S9) (wB D cy X A) A) (wEx D cy X A (fun E S9 => wX D S0 S9 ∧ xp E S9)) args s 1 6 A) (F0 m 0 ls []) := by
  obtain ⟨hx, hb, hml, hown, hts⟩ := id F
  have hwg : ∀ w ∈ WG, w.before args s = true := fun w h => hts w (List.mem_cons_of_mem _ h)
  intro S H locs ls x0 hp hW hE hl
  unfold wp_X11_mustBeEndingKind_0 at hp
  refine lv_iload_n hx hb dX11_mustBeEndingKind_0 rfl (lv_at hl 0 rfl) ?_
  refine lv_iconst (v := 2) hx hb dX11_mustBeEndingKind_1 (by decide) ?_
  refine lv_icmp_lt (tgt := 10) hx hb dX11_mustBeEndingKind_2 (by decide) (fun c_1 => ?_) (fun c_1 => ?_)
  · replace hp := hp.1 c_1
    exact t_X11_mustBeEndingKind_10 F hr hlocks hK hl0 hexc hp hW hE (lv_sub hl [] rfl)
  · replace hp := hp.2 c_1
    refine lv_iload_n hx hb dX11_mustBeEndingKind_5 rfl (lv_at hl 0 rfl) ?_
    refine lv_iconst (v := 5) hx hb dX11_mustBeEndingKind_6 (by decide) ?_
    refine lv_icmp_le (tgt := 21) hx hb dX11_mustBeEndingKind_7 (by decide) (fun c_2 => ?_) (fun c_2 => ?_)
    · replace hp := hp.1 c_2
      refine W.widen (k := 1) (n := 6) (by decide) (by decide) ?_
      refine vx_ret ?_
      exact w_vret hx hb hr hlocks hW ⟨hE, hp⟩ dX11_mustBeEndingKind_21
    · replace hp := hp.2 c_2
      exact t_X11_mustBeEndingKind_10 F hr hlocks hK hl0 hexc hp hW hE (lv_sub hl [] rfl)
set_option maxHeartbeats 4000000 in
set_option maxRecDepth 100000 in
theorem c_X11_mustBeEndingKind (l : Launch) {D : wD} {cy : Nat → ClassId} {X : va_W} {S0 : wS} {post : wS → Prop} {xp : String → wS → Prop} (hl0 : l.stackTraces = false) {x0 : Int32} (hp : wp_X11_mustBeEndingKind D post xp S0 x0) : xV D cy X l yX11_mustBeEndingKind wz_X11_mustBeEndingKind r_X11_mustBeEndingKind [.int x0] S0 (fun S9 => wX D S0 S9 ∧ post S9) (fun E S9 => wX D S0 S9 ∧ xp E S9) := by
  intro sz
  refine vx_ofW (cc := cX11_mustBeEndingKind) (maxL := 1) (ret := none) (by decide) rfl ?_
  intro p e s m args below meth c s₁ B hml hexc hv
  obtain ⟨rfl, hsz, hP, hK, hD0, hRO⟩ := hv
  have hts := atoms_spec (ws := wz_X11_mustBeEndingKind) B.pre
  have hown : s.vm.findClass RX11 = some m.cls := findClass_of_methodNamed B.named
  subst hsz
  have hD := hD0.self (sz := s.heap.size)
  have F : CallFix p m c cX11_mustBeEndingKind 1 s _ wz_X11_mustBeEndingKind RX11 := ⟨B.exec, B.bytes, hml, hown, hts⟩
  have hr := B.returns
  have hlocks := B.notSynchronized
  generalize hAe : va_A (wL cy X S0) s.heap.size = A at hD hK ⊢
  have hA : ∀ q, s.heap.size ≤ q → A q := fun q h => by rw [← hAe]; exact Or.inr h
  have hW : wO D cy X A s.heap S0 s.heap [] := ⟨hP, hD, va_S.rf, hA, hRO⟩
  have hl := lv_entry ([.int x0]) (n := 1) (Nat.le_of_ble_eq_true rfl)
  rw [lg_entry_eq]
  generalize (lg_sl ([.int x0]) ++ List.replicate (1 - (lg_sl ([.int x0])).length) Slot.unset).toArray = ls at hl ⊢
  have hl : lv_has ls 1 [(0, .int x0)] := hl
  unfold wp_X11_mustBeEndingKind at hp
  exact t_X11_mustBeEndingKind_0 F hr hlocks hK hl0 hexc hp hW wX.rf (lv_sub hl [0] rfl)
def wp_X2_greatestOf_27 (D : wD) (post : Int32 → wS → Prop)  (S : wS) (t0 : Int32) : Prop :=
post t0 S
def wp_X2_greatestOf_26 (D : wD) (post : Int32 → wS → Prop)  (S : wS) : Prop :=
wp_X2_greatestOf_27 D post S (-1 : Int32)
def wp_X2_greatestOf_0 (D : wD) (post : Int32 → wS → Prop)  (S : wS) (a0 : Nat) (x1 : Int32) : Prop :=
wp_X2_isWorkedOut D (fun r_1 S_2 => 
((r_1 = 0 → wp_X2_greatestOf_26 D post S_2) ∧
 (¬ r_1 = 0 → ∃ y_4 : Nat, sR S_2 a0 3 = some y_4 ∧ wM D S_2 y_4 ∧ sK S_2 y_4 = 21 ∧
(((Int32.ofNat (sN S_2 y_4)) ≤ x1 → wp_X2_greatestOf_26 D post S_2) ∧
 (¬ (Int32.ofNat (sN S_2 y_4)) ≤ x1 → ∃ y_6 : Nat, sR S_2 a0 3 = some y_6 ∧ wM D S_2 y_6 ∧ sK S_2 y_6 = 21 ∧
vp_in x1 (sN S_2 y_6) ∧
wp_X2_greatestOf_27 D post S_2 (sI S_2 y_6 (x1).toNatClampNeg)))))) S a0 x1
abbrev r_X2_greatestOf : Room := { frames := 1, cells := 0, slots := 0, locals := 21 }
def wp_X2_greatestOf (D : wD) (post : Int32 → wS → Prop) (S : wS) (a0 : Nat) (x1 : Int32) : Prop := wp_X2_greatestOf_0 D post S a0 x1
set_option maxHeartbeats 4000000 in
set_option maxRecDepth 100000 in
theorem t_X2_greatestOf_27 {p : Program} {l : Launch} {e : Env} {s : State} {m : MethodId} {args : Array Value} {below : List Frame} {meth : Method} {c : Code} {D : wD} {cy : Nat → ClassId} {X : va_W} {A : Nat → Prop} {S0 : wS} {post : Int32 → wS → Prop} (F : CallFix p m c cX2_greatestOf 2 s args wz_X2_greatestOf RX2) (hr : meth.sig.returnType = (some .int)) (hlocks : meth.locks = false) (hK : wK D cy A s) : ∀ {S : wS} {H : Heap} {locs : List Loc} {ls : Array Slot} {t0 : Int32}, wp_X2_greatestOf_27 D post S t0 → wO D cy X A s.heap S H locs → wX D S0 S → lv_has ls 2 [] → W p l e r_X2_greatestOf s m args below meth c H locs 0 0 (MQ below (va_Qi (fun r S9 => wX D S0 S9 ∧ post r S9) (wB D cy X A) A) args s 0 0 A) (F0 m 27 ls [.int t0]) := by
  obtain ⟨hx, hb, hml, hown, hts⟩ := id F
  have hwg : ∀ w ∈ WG, w.before args s = true := fun w h => hts w (List.mem_cons_of_mem _ h)
  intro S H locs ls t0 hp hW hE hl
  unfold wp_X2_greatestOf_27 at hp
  exact w_iret hx hb hr hlocks hW ⟨hE, hp⟩ dX2_greatestOf_27
set_option maxHeartbeats 4000000 in
set_option maxRecDepth 100000 in
theorem t_X2_greatestOf_26 {p : Program} {l : Launch} {e : Env} {s : State} {m : MethodId} {args : Array Value} {below : List Frame} {meth : Method} {c : Code} {D : wD} {cy : Nat → ClassId} {X : va_W} {A : Nat → Prop} {S0 : wS} {post : Int32 → wS → Prop} (F : CallFix p m c cX2_greatestOf 2 s args wz_X2_greatestOf RX2) (hr : meth.sig.returnType = (some .int)) (hlocks : meth.locks = false) (hK : wK D cy A s) : ∀ {S : wS} {H : Heap} {locs : List Loc} {ls : Array Slot}, wp_X2_greatestOf_26 D post S → wO D cy X A s.heap S H locs → wX D S0 S → lv_has ls 2 [] → W p l e r_X2_greatestOf s m args below meth c H locs 0 0 (MQ below (va_Qi (fun r S9 => wX D S0 S9 ∧ post r S9) (wB D cy X A) A) args s 0 0 A) (F0 m 26 ls []) := by
  obtain ⟨hx, hb, hml, hown, hts⟩ := id F
  have hwg : ∀ w ∈ WG, w.before args s = true := fun w h => hts w (List.mem_cons_of_mem _ h)
  intro S H locs ls hp hW hE hl
  unfold wp_X2_greatestOf_26 at hp
  refine lv_iconst (v := (-1)) hx hb dX2_greatestOf_26 (by decide) ?_
  exact t_X2_greatestOf_27 F hr hlocks hK hp hW hE (lv_sub hl [] rfl)
set_option maxHeartbeats 4000000 in
set_option maxRecDepth 100000 in
theorem t_X2_greatestOf_0 {p : Program} {l : Launch} {e : Env} {s : State} {m : MethodId} {args : Array Value} {below : List Frame} {meth : Method} {c : Code} {D : wD} {cy : Nat → ClassId} {X : va_W} {A : Nat → Prop} {S0 : wS} {post : Int32 → wS → Prop} (F : CallFix p m c cX2_greatestOf 2 s args wz_X2_greatestOf RX2) (hr : meth.sig.returnType = (some .int)) (hlocks : meth.locks = false) (hK : wK D cy A s) : ∀ {S : wS} {H : Heap} {locs : List Loc} {ls : Array Slot} {a0 : Nat} {x1 : Int32}, wp_X2_greatestOf_0 D post S a0 x1 → wO D cy X A s.heap S H locs → wX D S0 S → lv_has ls 2 [(0, .ref a0), (1, .int x1)] → wM D S a0 → sK S a0 = 7 → W p l e r_X2_greatestOf s m args below meth c H locs 0 0 (MQ below (va_Qi (fun r S9 => wX D S0 S9 ∧ post r S9) (wB D cy X A) A) args s 0 0 A) (F0 m 0 ls []) := by
  obtain ⟨hx, hb, hml, hown, hts⟩ := id F
  have hwg : ∀ w ∈ WG, w.before args s = true := fun w h => hts w (List.mem_cons_of_mem _ h)
  have i_7 : ∀ w ∈ u_ws RX2 TX2 8, w ∈ wz_X2_greatestOf := fun w h => List.mem_cons_of_mem _ (wu_7 w h)
  have k_19 := hwg _ wf_RX2_19
  intro S H locs ls a0 x1 hp hW hE hl hL_a0 hK_a0
  unfold wp_X2_greatestOf_0 at hp
  refine lv_aload_n hx hb dX2_greatestOf_0 rfl (lv_at hl 0 rfl) ?_
  refine lv_iload_n hx hb dX2_greatestOf_1 rfl (lv_at hl 1 rfl) ?_
  refine w_callI (va_runV (As := [.int x1]) (rest := []) F (c_X2_isWorkedOut l hL_a0 hK_a0 hp H.size) (cwV (C := RX2) 1 hts (wg_V wm_RX2_45 wy_X2_isWorkedOut) rfl rfl rfl (by decide +kernel) ⟨Nat.le_of_ble_eq_true rfl, Nat.le_of_ble_eq_true rfl⟩) (w_preV hK hW hL_a0 hK_a0 (by decide) rfl) rfl rfl hl.1 rfl (lv_room (Nat.le_of_ble_eq_true rfl)) dX2_greatestOf_2 ⟨Nat.le_of_ble_eq_true rfl, Nat.le_of_ble_eq_true rfl⟩) hW (fun r_1 S_2 H locs hp hW => ?_)
  obtain ⟨hX_S_2, hp⟩ := hp
  refine W.widen (k := 0) (n := 0) (by decide) (by decide) ?_
  have hE := hE.trans hX_S_2
  have hK_a0 : sK S_2 a0 = 7 := (hX_S_2.2 a0 hL_a0).1.trans hK_a0
  have hL_a0 : wM D S_2 a0 := hX_S_2.M hL_a0
  refine lv_if_eq (tgt := 26) hx hb dX2_greatestOf_5 (by decide) (fun c_3 => ?_) (fun c_3 => ?_)
  · replace hp := hp.1 c_3
    exact t_X2_greatestOf_26 F hr hlocks hK hp hW hE (lv_sub hl [] rfl)
  · replace hp := hp.2 c_3
    refine lv_iload_n hx hb dX2_greatestOf_8 rfl (lv_at hl 1 rfl) ?_
    refine lv_aload_n hx hb dX2_greatestOf_9 rfl (lv_at hl 0 rfl) ?_
    obtain ⟨y_4, ey_4, hL_y_4, hK_y_4, hp⟩ := hp
    refine w_get (k := 7) (f := 3) (T := TX2) (v := .ref y_4) F hK hW hL_a0 hK_a0 (by decide) rfl rfl (by decide) i_7 k_19 (by rw [show wv 7 3 S_2 a0 = va_rf (sR S_2 a0 3) from rfl, ey_4]; rfl) dX2_greatestOf_10 ?_
    refine w_len F hK hW hL_y_4 hK_y_4 (by decide) dX2_greatestOf_13 ?_
    refine lv_icmp_ge (tgt := 26) hx hb dX2_greatestOf_14 (by decide) (fun c_5 => ?_) (fun c_5 => ?_)
    · replace hp := hp.1 c_5
      exact t_X2_greatestOf_26 F hr hlocks hK hp hW hE (lv_sub hl [] rfl)
    · replace hp := hp.2 c_5
      refine lv_aload_n hx hb dX2_greatestOf_17 rfl (lv_at hl 0 rfl) ?_
      obtain ⟨y_6, ey_6, hL_y_6, hK_y_6, hp⟩ := hp
      refine w_get (k := 7) (f := 3) (T := TX2) (v := .ref y_6) F hK hW hL_a0 hK_a0 (by decide) rfl rfl (by decide) i_7 k_19 (by rw [show wv 7 3 S_2 a0 = va_rf (sR S_2 a0 3) from rfl, ey_6]; rfl) dX2_greatestOf_18 ?_
      refine lv_iload_n hx hb dX2_greatestOf_21 rfl (lv_at hl 1 rfl) ?_
      obtain ⟨h_7, hp⟩ := hp
      refine w_ild F hK hW hL_y_6 hK_y_6 h_7 dX2_greatestOf_22 ?_
      refine lv_goto (tgt := 27) hx hb dX2_greatestOf_23 (by decide) ?_
      exact t_X2_greatestOf_27 F hr hlocks hK hp hW hE (lv_sub hl [] rfl)
set_option maxHeartbeats 4000000 in
set_option maxRecDepth 100000 in
theorem c_X2_greatestOf (l : Launch) {D : wD} {cy : Nat → ClassId} {X : va_W} {S0 : wS} {post : Int32 → wS → Prop} {a0 : Nat} {x1 : Int32} (hL_a0 : wM D S0 a0) (hK_a0 : sK S0 a0 = 7) (hp : wp_X2_greatestOf D post S0 a0 x1) : mI D cy X l yX2_greatestOf wz_X2_greatestOf r_X2_greatestOf [.ref a0, .int x1] S0 (fun r S9 => wX D S0 S9 ∧ post r S9) := by
  intro sz
  refine Met.ofW (cc := cX2_greatestOf) (maxL := 2) (ret := (some .int)) (by decide) rfl ?_
  intro p e s m args below meth c s₁ B hml hv
  obtain ⟨rfl, hsz, hP, hK, hD0, hRO⟩ := hv
  have hts := atoms_spec (ws := wz_X2_greatestOf) B.pre
  have hown : s.vm.findClass RX2 = some m.cls := findClass_of_methodNamed B.named
  subst hsz
  have hD := hD0.self (sz := s.heap.size)
  have F : CallFix p m c cX2_greatestOf 2 s _ wz_X2_greatestOf RX2 := ⟨B.exec, B.bytes, hml, hown, hts⟩
  have hr := B.returns
  have hlocks := B.notSynchronized
  generalize hAe : va_A (wL cy X S0) s.heap.size = A at hD hK ⊢
  have hA : ∀ q, s.heap.size ≤ q → A q := fun q h => by rw [← hAe]; exact Or.inr h
  have hW : wO D cy X A s.heap S0 s.heap [] := ⟨hP, hD, va_S.rf, hA, hRO⟩
  have hl := lv_entry ([.ref a0, .int x1]) (n := 2) (Nat.le_of_ble_eq_true rfl)
  rw [lg_entry_eq]
  generalize (lg_sl ([.ref a0, .int x1]) ++ List.replicate (2 - (lg_sl ([.ref a0, .int x1])).length) Slot.unset).toArray = ls at hl ⊢
  have hl : lv_has ls 2 [(0, .ref a0), (1, .int x1)] := hl
  unfold wp_X2_greatestOf at hp
  exact t_X2_greatestOf_0 F hr hlocks hK hp hW wX.rf (lv_sub hl [0, 1] rfl) hL_a0 hK_a0
def wp_X11_longest_0 (D : wD) (post : Int32 → wS → Prop) (xp : String → wS → Prop)  (S : wS) (a0 : Nat) (x1 : Int32) : Prop :=
wp_X11_mustBeEndingKind D (fun S_2 => 
∃ y_3 : Nat, sR S_2 a0 12 = some y_3 ∧ wM D S_2 y_3 ∧ sK S_2 y_3 = 7 ∧
wp_X2_isWorkedOut D (fun r_4 S_5 => 
((¬ r_4 = 0 → ∃ y_7 : Nat, sR S_5 a0 12 = some y_7 ∧ wM D S_5 y_7 ∧ sK S_5 y_7 = 7 ∧
wp_X2_greatestOf D (fun r_8 S_9 => 
post r_8 S_9) S_5 y_7 x1) ∧
 (r_4 = 0 → xp "java/lang/IllegalStateException" S_5))) S_2 y_3 x1) xp S x1
abbrev r_X11_longest : Room := { frames := 7, cells := 2, slots := 12, locals := 140 }
def wp_X11_longest (D : wD) (post : Int32 → wS → Prop) (xp : String → wS → Prop) (S : wS) (a0 : Nat) (x1 : Int32) : Prop := wp_X11_longest_0 D post xp S a0 x1
set_option maxHeartbeats 4000000 in
set_option maxRecDepth 100000 in
theorem t_X11_longest_0 {p : Program} {l : Launch} {e : Env} {s : State} {m : MethodId} {args : Array Value} {below : List Frame} {meth : Method} {c : Code} {D : wD} {cy : Nat → ClassId} {X : va_W} {A : Nat → Prop} {S0 : wS} {post : Int32 → wS → Prop} {xp : String → wS → Prop} (F : CallFix p m c cX11_longest 2 s args wz_X11_longest RX11) (hr : meth.sig.returnType = (some .int)) (hlocks : meth.locks = false) (hK : wK D cy A s) (hl0 : l.stackTraces = false) (hexc : ∀ x ∈ c.exceptionTable.toList, False) : ∀ {S : wS} {H : Heap} {locs : List Loc} {ls : Array Slot} {a0 : Nat} {x1 : Int32}, wp_X11_longest_0 D post xp S a0 x1 → wO D cy X A s.heap S H locs → wX D S0 S → lv_has ls 2 [(0, .ref a0), (1, .int x1)] → wM D S a0 → sK S a0 = 16 → W p l e r_X11_longest s m args below meth c H locs 0 0 (vx_MQ below (va_Qi (fun r S9 => wX D S0 S9 ∧ post r S9) (wB D cy X A) A) (wEx D cy X A (fun E S9 => wX D S0 S9 ∧ xp E S9)) args s 2 12 A) (F0 m 0 ls []) := by
  obtain ⟨hx, hb, hml, hown, hts⟩ := id F
  have hwg : ∀ w ∈ WG, w.before args s = true := fun w h => hts w (List.mem_cons_of_mem _ h)
  have i_16 : ∀ w ∈ u_ws RX11 TX11 18, w ∈ wz_X11_longest := fun w h => List.mem_cons_of_mem _ (wu_16 w h)
  have k_98 := hwg _ wf_RX11_98
  intro S H locs ls a0 x1 hp hW hE hl hL_a0 hK_a0
  unfold wp_X11_longest_0 at hp
  refine lv_iload_n hx hb dX11_longest_0 rfl (lv_at hl 1 rfl) ?_
  refine x_callV (vx_runS (As := [.int x1]) (rest := []) F (c_X11_mustBeEndingKind l hl0 hp H.size) (va_cwS 1 hts (wg_S wm_RX11_446 wy_X11_mustBeEndingKind) rfl rfl rfl (by decide +kernel) ⟨Nat.le_of_ble_eq_true rfl, Nat.le_of_ble_eq_true rfl⟩) (w_preS hK hW) rfl rfl hl.1 rfl (lv_room (Nat.le_of_ble_eq_true rfl)) dX11_longest_1 ⟨Nat.le_of_ble_eq_true rfl, Nat.le_of_ble_eq_true rfl⟩) hW (fun E ce q9 S9 H locs hp hW h1 h2 h3 => x_out hexc hlocks ⟨hE.trans hp.1, hp.2⟩ hW h1 h2 h3 (by decide) (by decide)) (fun S_2 H locs hp hW => ?_)
  obtain ⟨hX_S_2, hp⟩ := hp
  refine W.widen (k := 1) (n := 6) (by decide) (by decide) ?_
  have hE := hE.trans hX_S_2
  have hK_a0 : sK S_2 a0 = 16 := (hX_S_2.2 a0 hL_a0).1.trans hK_a0
  have hL_a0 : wM D S_2 a0 := hX_S_2.M hL_a0
  refine lv_aload_n hx hb dX11_longest_4 rfl (lv_at hl 0 rfl) ?_
  obtain ⟨y_3, ey_3, hL_y_3, hK_y_3, hp⟩ := hp
  refine w_get (k := 16) (f := 12) (T := TX11) (v := .ref y_3) F hK hW hL_a0 hK_a0 (by decide) rfl rfl (by decide) i_16 k_98 (by rw [show wv 16 12 S_2 a0 = va_rf (sR S_2 a0 12) from rfl, ey_3]; rfl) dX11_longest_5 ?_
  refine lv_iload_n hx hb dX11_longest_8 rfl (lv_at hl 1 rfl) ?_
  refine w_callI (va_runV (As := [.int x1]) (rest := []) F (c_X2_isWorkedOut l hL_y_3 hK_y_3 hp H.size) (cwV (C := RX2) 1 hts (wg_V wm_RX11_460 wy_X2_isWorkedOut) rfl rfl rfl (by decide +kernel) ⟨Nat.le_of_ble_eq_true rfl, Nat.le_of_ble_eq_true rfl⟩) (w_preV hK hW hL_y_3 hK_y_3 (by decide) rfl) rfl rfl hl.1 rfl (lv_room (Nat.le_of_ble_eq_true rfl)) dX11_longest_9 ⟨Nat.le_of_ble_eq_true rfl, Nat.le_of_ble_eq_true rfl⟩) hW (fun r_4 S_5 H locs hp hW => ?_)
  obtain ⟨hX_S_5, hp⟩ := hp
  refine W.widen (k := 1) (n := 6) (by decide) (by decide) ?_
  have hE := hE.trans hX_S_5
  have hK_a0 : sK S_5 a0 = 16 := (hX_S_5.2 a0 hL_a0).1.trans hK_a0
  have hL_a0 : wM D S_5 a0 := hX_S_5.M hL_a0
  refine lv_if_ne (tgt := 26) hx hb dX11_longest_12 (by decide) (fun c_6 => ?_) (fun c_6 => ?_)
  · replace hp := hp.1 c_6
    refine lv_aload_n hx hb dX11_longest_26 rfl (lv_at hl 0 rfl) ?_
    obtain ⟨y_7, ey_7, hL_y_7, hK_y_7, hp⟩ := hp
    refine w_get (k := 16) (f := 12) (T := TX11) (v := .ref y_7) F hK hW hL_a0 hK_a0 (by decide) rfl rfl (by decide) i_16 k_98 (by rw [show wv 16 12 S_5 a0 = va_rf (sR S_5 a0 12) from rfl, ey_7]; rfl) dX11_longest_27 ?_
    refine lv_iload_n hx hb dX11_longest_30 rfl (lv_at hl 1 rfl) ?_
    refine w_callI (va_runV (As := [.int x1]) (rest := []) F (c_X2_greatestOf l hL_y_7 hK_y_7 hp H.size) (cwV (C := RX2) 1 hts (wg_V wm_RX11_471 wy_X2_greatestOf) rfl rfl rfl (by decide +kernel) ⟨Nat.le_of_ble_eq_true rfl, Nat.le_of_ble_eq_true rfl⟩) (w_preV hK hW hL_y_7 hK_y_7 (by decide) rfl) rfl rfl hl.1 rfl (lv_room (Nat.le_of_ble_eq_true rfl)) dX11_longest_31 ⟨Nat.le_of_ble_eq_true rfl, Nat.le_of_ble_eq_true rfl⟩) hW (fun r_8 S_9 H locs hp hW => ?_)
    obtain ⟨hX_S_9, hp⟩ := hp
    refine W.widen (k := 1) (n := 6) (by decide) (by decide) ?_
    have hE := hE.trans hX_S_9
    have hK_a0 : sK S_9 a0 = 16 := (hX_S_9.2 a0 hL_a0).1.trans hK_a0
    have hL_a0 : wM D S_9 a0 := hX_S_9.M hL_a0
    refine W.widen (k := 2) (n := 12) (by decide) (by decide) ?_
    refine vx_ret ?_
    exact w_iret hx hb hr hlocks hW ⟨hE, hp⟩ dX11_longest_34
  · replace hp := hp.2 c_6
    exact x_throwW (ls := ls) F hK hW hl0 (by decide) (hwg _ wc_RX11_285) (hwg _ wi_java_lang_IllegalStateException) (show ("OpeningsCabinet", 469, "the ending is not solved", 45) ∈ wStr by decide +kernel) (wa_RX11_289 hwg hK.2.1) wa_RX11_289_ok hl.1 hexc hlocks dX11_longest_15 dX11_longest_18 dX11_longest_19 dX11_longest_22 dX11_longest_25 (Nat.le_of_ble_eq_true rfl) (Nat.le_of_ble_eq_true rfl) (Nat.le_of_ble_eq_true rfl) (Nat.le_of_ble_eq_true rfl) (by decide) (by decide) ⟨hE, hp⟩
set_option maxHeartbeats 4000000 in
set_option maxRecDepth 100000 in
theorem c_X11_longest (l : Launch) {D : wD} {cy : Nat → ClassId} {X : va_W} {S0 : wS} {post : Int32 → wS → Prop} {xp : String → wS → Prop} (hl0 : l.stackTraces = false) {a0 : Nat} {x1 : Int32} (hL_a0 : wM D S0 a0) (hK_a0 : sK S0 a0 = 16) (hp : wp_X11_longest D post xp S0 a0 x1) : xI D cy X l yX11_longest wz_X11_longest r_X11_longest [.ref a0, .int x1] S0 (fun r S9 => wX D S0 S9 ∧ post r S9) (fun E S9 => wX D S0 S9 ∧ xp E S9) := by
  intro sz
  refine vx_ofW (cc := cX11_longest) (maxL := 2) (ret := (some .int)) (by decide) rfl ?_
  intro p e s m args below meth c s₁ B hml hexc hv
  obtain ⟨rfl, hsz, hP, hK, hD0, hRO⟩ := hv
  have hts := atoms_spec (ws := wz_X11_longest) B.pre
  have hown : s.vm.findClass RX11 = some m.cls := findClass_of_methodNamed B.named
  subst hsz
  have hD := hD0.self (sz := s.heap.size)
  have F : CallFix p m c cX11_longest 2 s _ wz_X11_longest RX11 := ⟨B.exec, B.bytes, hml, hown, hts⟩
  have hr := B.returns
  have hlocks := B.notSynchronized
  generalize hAe : va_A (wL cy X S0) s.heap.size = A at hD hK ⊢
  have hA : ∀ q, s.heap.size ≤ q → A q := fun q h => by rw [← hAe]; exact Or.inr h
  have hW : wO D cy X A s.heap S0 s.heap [] := ⟨hP, hD, va_S.rf, hA, hRO⟩
  have hl := lv_entry ([.ref a0, .int x1]) (n := 2) (Nat.le_of_ble_eq_true rfl)
  rw [lg_entry_eq]
  generalize (lg_sl ([.ref a0, .int x1]) ++ List.replicate (2 - (lg_sl ([.ref a0, .int x1])).length) Slot.unset).toArray = ls at hl ⊢
  have hl : lv_has ls 2 [(0, .ref a0), (1, .int x1)] := hl
  unfold wp_X11_longest at hp
  exact t_X11_longest_0 F hr hlocks hK hl0 hexc hp hW wX.rf (lv_sub hl [0, 1] rfl) hL_a0 hK_a0
def wp_X11_madeCount_0 (D : wD) (post : Int32 → wS → Prop)  (S : wS) (a0 : Nat) : Prop :=
∃ y_1 : Nat, sR S a0 4 = some y_1 ∧ wM D S y_1 ∧ sK S y_1 = 8 ∧
post (sI S y_1 3) S
abbrev r_X11_madeCount : Room := { frames := 0, cells := 0, slots := 0, locals := 0 }
def wp_X11_madeCount (D : wD) (post : Int32 → wS → Prop) (S : wS) (a0 : Nat) : Prop := wp_X11_madeCount_0 D post S a0
set_option maxHeartbeats 4000000 in
set_option maxRecDepth 100000 in
theorem t_X11_madeCount_0 {p : Program} {l : Launch} {e : Env} {s : State} {m : MethodId} {args : Array Value} {below : List Frame} {meth : Method} {c : Code} {D : wD} {cy : Nat → ClassId} {X : va_W} {A : Nat → Prop} {S0 : wS} {post : Int32 → wS → Prop} (F : CallFix p m c cX11_madeCount 1 s args wz_X11_madeCount RX11) (hr : meth.sig.returnType = (some .int)) (hlocks : meth.locks = false) (hK : wK D cy A s) : ∀ {S : wS} {H : Heap} {locs : List Loc} {ls : Array Slot} {a0 : Nat}, wp_X11_madeCount_0 D post S a0 → wO D cy X A s.heap S H locs → wX D S0 S → lv_has ls 1 [(0, .ref a0)] → wM D S a0 → sK S a0 = 16 → W p l e r_X11_madeCount s m args below meth c H locs 0 0 (MQ below (va_Qi (fun r S9 => wX D S0 S9 ∧ post r S9) (wB D cy X A) A) args s 0 0 A) (F0 m 0 ls []) := by
  obtain ⟨hx, hb, hml, hown, hts⟩ := id F
  have hwg : ∀ w ∈ WG, w.before args s = true := fun w h => hts w (List.mem_cons_of_mem _ h)
  have i_16 : ∀ w ∈ u_ws RX11 TX11 18, w ∈ wz_X11_madeCount := fun w h => List.mem_cons_of_mem _ (wu_16 w h)
  have i_8 : ∀ w ∈ u_ws RX3 TX3 9, w ∈ wz_X11_madeCount := fun w h => List.mem_cons_of_mem _ (wu_8 w h)
  have k_40 := hwg _ wf_RX11_40
  intro S H locs ls a0 hp hW hE hl hL_a0 hK_a0
  unfold wp_X11_madeCount_0 at hp
  refine lv_aload_n hx hb dX11_madeCount_0 rfl (lv_at hl 0 rfl) ?_
  obtain ⟨y_1, ey_1, hL_y_1, hK_y_1, hp⟩ := hp
  refine w_get (k := 16) (f := 4) (T := TX11) (v := .ref y_1) F hK hW hL_a0 hK_a0 (by decide) rfl rfl (by decide) i_16 k_40 (by rw [show wv 16 4 S a0 = va_rf (sR S a0 4) from rfl, ey_1]; rfl) dX11_madeCount_1 ?_
  refine w_getN (k := 8) (f := 3) (T := TX3) (v := .int (sI S y_1 3)) F hK hW hL_y_1 hK_y_1 (by decide) rfl rfl (by decide) i_8 (hK.2.1 (.fieldLinkNest "OpeningsCabinet" 157 "OpeningsCabinet$Game" "length" "I" "OpeningsCabinet") (by decide +kernel)) rfl dX11_madeCount_4 ?_
  exact w_iret hx hb hr hlocks hW ⟨hE, hp⟩ dX11_madeCount_7
set_option maxHeartbeats 4000000 in
set_option maxRecDepth 100000 in
theorem c_X11_madeCount (l : Launch) {D : wD} {cy : Nat → ClassId} {X : va_W} {S0 : wS} {post : Int32 → wS → Prop} {a0 : Nat} (hL_a0 : wM D S0 a0) (hK_a0 : sK S0 a0 = 16) (hp : wp_X11_madeCount D post S0 a0) : mI D cy X l yX11_madeCount wz_X11_madeCount r_X11_madeCount [.ref a0] S0 (fun r S9 => wX D S0 S9 ∧ post r S9) := by
  intro sz
  refine Met.ofW (cc := cX11_madeCount) (maxL := 1) (ret := (some .int)) (by decide) rfl ?_
  intro p e s m args below meth c s₁ B hml hv
  obtain ⟨rfl, hsz, hP, hK, hD0, hRO⟩ := hv
  have hts := atoms_spec (ws := wz_X11_madeCount) B.pre
  have hown : s.vm.findClass RX11 = some m.cls := findClass_of_methodNamed B.named
  subst hsz
  have hD := hD0.self (sz := s.heap.size)
  have F : CallFix p m c cX11_madeCount 1 s _ wz_X11_madeCount RX11 := ⟨B.exec, B.bytes, hml, hown, hts⟩
  have hr := B.returns
  have hlocks := B.notSynchronized
  generalize hAe : va_A (wL cy X S0) s.heap.size = A at hD hK ⊢
  have hA : ∀ q, s.heap.size ≤ q → A q := fun q h => by rw [← hAe]; exact Or.inr h
  have hW : wO D cy X A s.heap S0 s.heap [] := ⟨hP, hD, va_S.rf, hA, hRO⟩
  have hl := lv_entry ([.ref a0]) (n := 1) (Nat.le_of_ble_eq_true rfl)
  rw [lg_entry_eq]
  generalize (lg_sl ([.ref a0]) ++ List.replicate (1 - (lg_sl ([.ref a0])).length) Slot.unset).toArray = ls at hl ⊢
  have hl : lv_has ls 1 [(0, .ref a0)] := hl
  unfold wp_X11_madeCount at hp
  exact t_X11_madeCount_0 F hr hlocks hK hp hW wX.rf (lv_sub hl [0] rfl) hL_a0 hK_a0
def wp_X3_addMove_51 (D : wD) (post : wS → Prop)  (S : wS) : Prop :=
post S
def wp_X3_addMove_0 (D : wD) (post : wS → Prop)  (S : wS) (a0 : Nat) (x1 : Int32) (a2 : Nat) : Prop :=
(((sI S a0 3) < 0 → wp_X3_addMove_51 D post S) ∧
 (¬ (sI S a0 3) < 0 → ∃ y_2 : Nat, sR S a0 1 = some y_2 ∧ wM D S y_2 ∧ sK S y_2 = 21 ∧
(((Int32.ofNat (sN S y_2)) ≤ (sI S a0 3) → wp_X3_addMove_51 D post S) ∧
 (¬ (Int32.ofNat (sN S y_2)) ≤ (sI S a0 3) → ∃ y_4 : Nat, sR S a0 1 = some y_4 ∧ wM D S y_4 ∧ sK S y_4 = 21 ∧
y_4 ∈ sL S ∧ vp_in (sI S a0 3) (sN S y_4) ∧
∀ S_6 : wS, S_6 = uI S y_4 ((sI S a0 3)).toNatClampNeg x1 →
∀ S_7 : wS, S_7 = uI S_6 a0 3 ((sI S_6 a0 3) + (1 : Int32)) →
∃ y_8 : Nat, sR S_7 a0 0 = some y_8 ∧ wM D S_7 y_8 ∧ sK S_7 y_8 = 22 ∧
wp_X7_save D (fun S_10 => 
wp_X3_addMove_51 D post S_10) S_7 a2 y_8 (sI S_7 a0 3)))))
abbrev r_X3_addMove : Room := { frames := 2, cells := 0, slots := 0, locals := 43 }
def wp_X3_addMove (D : wD) (post : wS → Prop) (S : wS) (a0 : Nat) (x1 : Int32) (a2 : Nat) : Prop := wp_X3_addMove_0 D post S a0 x1 a2
set_option maxHeartbeats 4000000 in
set_option maxRecDepth 100000 in
theorem t_X3_addMove_51 {p : Program} {l : Launch} {e : Env} {s : State} {m : MethodId} {args : Array Value} {below : List Frame} {meth : Method} {c : Code} {D : wD} {cy : Nat → ClassId} {X : va_W} {A : Nat → Prop} {S0 : wS} {post : wS → Prop} (F : CallFix p m c cX3_addMove 3 s args wz_X3_addMove RX3) (hr : meth.sig.returnType = none) (hlocks : meth.locks = false) (hK : wK D cy A s) : ∀ {S : wS} {H : Heap} {locs : List Loc} {ls : Array Slot}, wp_X3_addMove_51 D post S → wO D cy X A s.heap S H locs → wX D S0 S → lv_has ls 3 [] → W p l e r_X3_addMove s m args below meth c H locs 0 0 (MQ below (va_Qv (fun S9 => wX D S0 S9 ∧ post S9) (wB D cy X A) A) args s 0 0 A) (F0 m 51 ls []) := by
  obtain ⟨hx, hb, hml, hown, hts⟩ := id F
  have hwg : ∀ w ∈ WG, w.before args s = true := fun w h => hts w (List.mem_cons_of_mem _ h)
  intro S H locs ls hp hW hE hl
  unfold wp_X3_addMove_51 at hp
  exact w_vret hx hb hr hlocks hW ⟨hE, hp⟩ dX3_addMove_51
set_option maxHeartbeats 4000000 in
set_option maxRecDepth 100000 in
theorem t_X3_addMove_0 {p : Program} {l : Launch} {e : Env} {s : State} {m : MethodId} {args : Array Value} {below : List Frame} {meth : Method} {c : Code} {D : wD} {cy : Nat → ClassId} {X : va_W} {A : Nat → Prop} {S0 : wS} {post : wS → Prop} (F : CallFix p m c cX3_addMove 3 s args wz_X3_addMove RX3) (hr : meth.sig.returnType = none) (hlocks : meth.locks = false) (hK : wK D cy A s) : ∀ {S : wS} {H : Heap} {locs : List Loc} {ls : Array Slot} {a0 : Nat} {x1 : Int32} {a2 : Nat}, wp_X3_addMove_0 D post S a0 x1 a2 → wO D cy X A s.heap S H locs → wX D S0 S → lv_has ls 3 [(0, .ref a0), (1, .int x1), (2, .ref a2)] → wM D S a0 → sK S a0 = 8 → wM D S a2 → sK S a2 = 12 → W p l e r_X3_addMove s m args below meth c H locs 0 0 (MQ below (va_Qv (fun S9 => wX D S0 S9 ∧ post S9) (wB D cy X A) A) args s 0 0 A) (F0 m 0 ls []) := by
  obtain ⟨hx, hb, hml, hown, hts⟩ := id F
  have hwg : ∀ w ∈ WG, w.before args s = true := fun w h => hts w (List.mem_cons_of_mem _ h)
  have i_8 : ∀ w ∈ u_ws RX3 TX3 9, w ∈ wz_X3_addMove := fun w h => List.mem_cons_of_mem _ (wu_8 w h)
  have k_36 := hwg _ wf_RX3_36
  have k_40 := hwg _ wf_RX3_40
  have k_9 := hwg _ wf_RX3_9
  intro S H locs ls a0 x1 a2 hp hW hE hl hL_a0 hK_a0 hL_a2 hK_a2
  unfold wp_X3_addMove_0 at hp
  refine lv_aload_n hx hb dX3_addMove_0 rfl (lv_at hl 0 rfl) ?_
  refine w_get (k := 8) (f := 3) (T := TX3) (v := .int (sI S a0 3)) F hK hW hL_a0 hK_a0 (by decide) rfl rfl (by decide) i_8 k_9 rfl dX3_addMove_1 ?_
  refine lv_if_lt (tgt := 51) hx hb dX3_addMove_4 (by decide) (fun c_1 => ?_) (fun c_1 => ?_)
  · replace hp := hp.1 c_1
    exact t_X3_addMove_51 F hr hlocks hK hp hW hE (lv_sub hl [] rfl)
  · replace hp := hp.2 c_1
    refine lv_aload_n hx hb dX3_addMove_7 rfl (lv_at hl 0 rfl) ?_
    refine w_get (k := 8) (f := 3) (T := TX3) (v := .int (sI S a0 3)) F hK hW hL_a0 hK_a0 (by decide) rfl rfl (by decide) i_8 k_9 rfl dX3_addMove_8 ?_
    refine lv_aload_n hx hb dX3_addMove_11 rfl (lv_at hl 0 rfl) ?_
    obtain ⟨y_2, ey_2, hL_y_2, hK_y_2, hp⟩ := hp
    refine w_get (k := 8) (f := 1) (T := TX3) (v := .ref y_2) F hK hW hL_a0 hK_a0 (by decide) rfl rfl (by decide) i_8 k_40 (by rw [show wv 8 1 S a0 = va_rf (sR S a0 1) from rfl, ey_2]; rfl) dX3_addMove_12 ?_
    refine w_len F hK hW hL_y_2 hK_y_2 (by decide) dX3_addMove_15 ?_
    refine lv_icmp_ge (tgt := 51) hx hb dX3_addMove_16 (by decide) (fun c_3 => ?_) (fun c_3 => ?_)
    · replace hp := hp.1 c_3
      exact t_X3_addMove_51 F hr hlocks hK hp hW hE (lv_sub hl [] rfl)
    · replace hp := hp.2 c_3
      refine lv_aload_n hx hb dX3_addMove_19 rfl (lv_at hl 0 rfl) ?_
      obtain ⟨y_4, ey_4, hL_y_4, hK_y_4, hp⟩ := hp
      refine w_get (k := 8) (f := 1) (T := TX3) (v := .ref y_4) F hK hW hL_a0 hK_a0 (by decide) rfl rfl (by decide) i_8 k_40 (by rw [show wv 8 1 S a0 = va_rf (sR S a0 1) from rfl, ey_4]; rfl) dX3_addMove_20 ?_
      refine lv_aload_n hx hb dX3_addMove_23 rfl (lv_at hl 0 rfl) ?_
      refine w_get (k := 8) (f := 3) (T := TX3) (v := .int (sI S a0 3)) F hK hW hL_a0 hK_a0 (by decide) rfl rfl (by decide) i_8 k_9 rfl dX3_addMove_24 ?_
      refine lv_iload_n hx hb dX3_addMove_27 rfl (lv_at hl 1 rfl) ?_
      obtain ⟨h_5m, h_5, hp⟩ := hp
      refine w_ist F hK hW h_5m hK_y_4 h_5 dX3_addMove_28 (fun H locs hW => ?_)
      obtain ⟨S_6, eS_6⟩ : ∃ z : wS, z = uI S y_4 ((sI S a0 3)).toNatClampNeg x1 := ⟨_, rfl⟩
      rw [← eS_6] at hW
      replace hp := hp S_6 eS_6
      have hX_S_6 : wX D S S_6 := by rw [eS_6]; exact wX_uI
      have hE := hE.trans hX_S_6
      have hK_a0 : sK S_6 a0 = 8 := (hX_S_6.2 a0 hL_a0).1.trans hK_a0
      have hL_a0 : wM D S_6 a0 := hX_S_6.M hL_a0
      have hK_a2 : sK S_6 a2 = 12 := (hX_S_6.2 a2 hL_a2).1.trans hK_a2
      have hL_a2 : wM D S_6 a2 := hX_S_6.M hL_a2
      refine lv_aload_n hx hb dX3_addMove_29 rfl (lv_at hl 0 rfl) ?_
      refine lv_dup hx hb dX3_addMove_30 rfl ?_
      refine w_get (k := 8) (f := 3) (T := TX3) (v := .int (sI S_6 a0 3)) F hK hW hL_a0 hK_a0 (by decide) rfl rfl (by decide) i_8 k_9 rfl dX3_addMove_31 ?_
      refine lv_iconst (v := 1) hx hb dX3_addMove_34 (by decide) ?_
      refine lv_iadd hx hb dX3_addMove_35 ?_
      refine w_putI (k := 8) (f := 3) (T := TX3) F hK hW hL_a0 hK_a0 (by decide) (by decide) rfl rfl (by decide) i_8 tyX3 tyX3_ok nmX3 k_9 rfl rfl (ty := .int) rfl rfl rfl dX3_addMove_36 (fun H locs hW => ?_)
      obtain ⟨S_7, eS_7⟩ : ∃ z : wS, z = uI S_6 a0 3 ((sI S_6 a0 3) + (1 : Int32)) := ⟨_, rfl⟩
      rw [← eS_7] at hW
      replace hp := hp S_7 eS_7
      have hX_S_7 : wX D S_6 S_7 := by rw [eS_7]; exact wX_uI
      have hE := hE.trans hX_S_7
      have hK_a0 : sK S_7 a0 = 8 := (hX_S_7.2 a0 hL_a0).1.trans hK_a0
      have hL_a0 : wM D S_7 a0 := hX_S_7.M hL_a0
      have hK_a2 : sK S_7 a2 = 12 := (hX_S_7.2 a2 hL_a2).1.trans hK_a2
      have hL_a2 : wM D S_7 a2 := hX_S_7.M hL_a2
      refine lv_aload_n hx hb dX3_addMove_39 rfl (lv_at hl 2 rfl) ?_
      refine lv_aload_n hx hb dX3_addMove_40 rfl (lv_at hl 0 rfl) ?_
      obtain ⟨y_8, ey_8, hL_y_8, hK_y_8, hp⟩ := hp
      refine w_get (k := 8) (f := 0) (T := TX3) (v := .ref y_8) F hK hW hL_a0 hK_a0 (by decide) rfl rfl (by decide) i_8 k_36 (by rw [show wv 8 0 S_7 a0 = va_rf (sR S_7 a0 0) from rfl, ey_8]; rfl) dX3_addMove_41 ?_
      refine lv_aload_n hx hb dX3_addMove_44 rfl (lv_at hl 0 rfl) ?_
      refine w_get (k := 8) (f := 3) (T := TX3) (v := .int (sI S_7 a0 3)) F hK hW hL_a0 hK_a0 (by decide) rfl rfl (by decide) i_8 k_9 rfl dX3_addMove_45 ?_
      refine w_callV (va_runV (As := [.ref y_8, .int (sI S_7 a0 3)]) (rest := []) F (c_X7_save l hL_a2 hK_a2 hL_y_8 hK_y_8 hp H.size) (cwV (C := RX7) 2 hts (wg_V wm_RX3_48 wy_X7_save) rfl rfl rfl (by decide +kernel) ⟨Nat.le_of_ble_eq_true rfl, Nat.le_of_ble_eq_true rfl⟩) (w_preV hK hW hL_a2 hK_a2 (by decide) rfl) rfl rfl hl.1 rfl (lv_room (Nat.le_of_ble_eq_true rfl)) dX3_addMove_48 ⟨Nat.le_of_ble_eq_true rfl, Nat.le_of_ble_eq_true rfl⟩) hW (fun S_10 H locs hp hW => ?_)
      obtain ⟨hX_S_10, hp⟩ := hp
      refine W.widen (k := 0) (n := 0) (by decide) (by decide) ?_
      have hE := hE.trans hX_S_10
      have hK_a0 : sK S_10 a0 = 8 := (hX_S_10.2 a0 hL_a0).1.trans hK_a0
      have hL_a0 : wM D S_10 a0 := hX_S_10.M hL_a0
      have hK_a2 : sK S_10 a2 = 12 := (hX_S_10.2 a2 hL_a2).1.trans hK_a2
      have hL_a2 : wM D S_10 a2 := hX_S_10.M hL_a2
      exact t_X3_addMove_51 F hr hlocks hK hp hW hE (lv_sub hl [] rfl)
set_option maxHeartbeats 4000000 in
set_option maxRecDepth 100000 in
theorem c_X3_addMove (l : Launch) {D : wD} {cy : Nat → ClassId} {X : va_W} {S0 : wS} {post : wS → Prop} {a0 : Nat} {x1 : Int32} {a2 : Nat} (hL_a0 : wM D S0 a0) (hK_a0 : sK S0 a0 = 8) (hL_a2 : wM D S0 a2) (hK_a2 : sK S0 a2 = 12) (hp : wp_X3_addMove D post S0 a0 x1 a2) : mV D cy X l yX3_addMove wz_X3_addMove r_X3_addMove [.ref a0, .int x1, .ref a2] S0 (fun S9 => wX D S0 S9 ∧ post S9) := by
  intro sz
  refine Met.ofW (cc := cX3_addMove) (maxL := 3) (ret := none) (by decide) rfl ?_
  intro p e s m args below meth c s₁ B hml hv
  obtain ⟨rfl, hsz, hP, hK, hD0, hRO⟩ := hv
  have hts := atoms_spec (ws := wz_X3_addMove) B.pre
  have hown : s.vm.findClass RX3 = some m.cls := findClass_of_methodNamed B.named
  subst hsz
  have hD := hD0.self (sz := s.heap.size)
  have F : CallFix p m c cX3_addMove 3 s _ wz_X3_addMove RX3 := ⟨B.exec, B.bytes, hml, hown, hts⟩
  have hr := B.returns
  have hlocks := B.notSynchronized
  generalize hAe : va_A (wL cy X S0) s.heap.size = A at hD hK ⊢
  have hA : ∀ q, s.heap.size ≤ q → A q := fun q h => by rw [← hAe]; exact Or.inr h
  have hW : wO D cy X A s.heap S0 s.heap [] := ⟨hP, hD, va_S.rf, hA, hRO⟩
  have hl := lv_entry ([.ref a0, .int x1, .ref a2]) (n := 3) (Nat.le_of_ble_eq_true rfl)
  rw [lg_entry_eq]
  generalize (lg_sl ([.ref a0, .int x1, .ref a2]) ++ List.replicate (3 - (lg_sl ([.ref a0, .int x1, .ref a2])).length) Slot.unset).toArray = ls at hl ⊢
  have hl : lv_has ls 3 [(0, .ref a0), (1, .int x1), (2, .ref a2)] := hl
  unfold wp_X3_addMove at hp
  exact t_X3_addMove_0 F hr hlocks hK hp hW wX.rf (lv_sub hl [0, 1, 2] rfl) hL_a0 hK_a0 hL_a2 hK_a2
def wp_X11_make_0 (D : wD) (post : wS → Prop)  (S : wS) (a0 : Nat) (x1 : Int32) : Prop :=
∃ y_1 : Nat, sR S a0 2 = some y_1 ∧ wM D S y_1 ∧ sK S y_1 = 12 ∧
wp_X7_apply D (fun S_3 => 
∃ y_4 : Nat, sR S_3 a0 4 = some y_4 ∧ wM D S_3 y_4 ∧ sK S_3 y_4 = 8 ∧
∃ y_5 : Nat, sR S_3 a0 2 = some y_5 ∧ wM D S_3 y_5 ∧ sK S_3 y_5 = 12 ∧
wp_X3_addMove D (fun S_7 => 
post S_7) S_3 y_4 x1 y_5) S y_1 x1
abbrev r_X11_make : Room := { frames := 3, cells := 0, slots := 0, locals := 80 }
def wp_X11_make (D : wD) (post : wS → Prop) (S : wS) (a0 : Nat) (x1 : Int32) : Prop := wp_X11_make_0 D post S a0 x1
set_option maxHeartbeats 4000000 in
set_option maxRecDepth 100000 in
theorem t_X11_make_0 {p : Program} {l : Launch} {e : Env} {s : State} {m : MethodId} {args : Array Value} {below : List Frame} {meth : Method} {c : Code} {D : wD} {cy : Nat → ClassId} {X : va_W} {A : Nat → Prop} {S0 : wS} {post : wS → Prop} (F : CallFix p m c cX11_make 2 s args wz_X11_make RX11) (hr : meth.sig.returnType = none) (hlocks : meth.locks = false) (hK : wK D cy A s) : ∀ {S : wS} {H : Heap} {locs : List Loc} {ls : Array Slot} {a0 : Nat} {x1 : Int32}, wp_X11_make_0 D post S a0 x1 → wO D cy X A s.heap S H locs → wX D S0 S → lv_has ls 2 [(0, .ref a0), (1, .int x1)] → wM D S a0 → sK S a0 = 16 → W p l e r_X11_make s m args below meth c H locs 0 0 (MQ below (va_Qv (fun S9 => wX D S0 S9 ∧ post S9) (wB D cy X A) A) args s 0 0 A) (F0 m 0 ls []) := by
  obtain ⟨hx, hb, hml, hown, hts⟩ := id F
  have hwg : ∀ w ∈ WG, w.before args s = true := fun w h => hts w (List.mem_cons_of_mem _ h)
  have i_16 : ∀ w ∈ u_ws RX11 TX11 18, w ∈ wz_X11_make := fun w h => List.mem_cons_of_mem _ (wu_16 w h)
  have k_28 := hwg _ wf_RX11_28
  have k_40 := hwg _ wf_RX11_40
  intro S H locs ls a0 x1 hp hW hE hl hL_a0 hK_a0
  unfold wp_X11_make_0 at hp
  refine lv_aload_n hx hb dX11_make_0 rfl (lv_at hl 0 rfl) ?_
  obtain ⟨y_1, ey_1, hL_y_1, hK_y_1, hp⟩ := hp
  refine w_get (k := 16) (f := 2) (T := TX11) (v := .ref y_1) F hK hW hL_a0 hK_a0 (by decide) rfl rfl (by decide) i_16 k_28 (by rw [show wv 16 2 S a0 = va_rf (sR S a0 2) from rfl, ey_1]; rfl) dX11_make_1 ?_
  refine lv_iload_n hx hb dX11_make_4 rfl (lv_at hl 1 rfl) ?_
  refine w_callV (va_runV (As := [.int x1]) (rest := []) F (c_X7_apply l hL_y_1 hK_y_1 hp H.size) (cwV (C := RX7) 1 hts (wg_V wm_RX11_521 wy_X7_apply) rfl rfl rfl (by decide +kernel) ⟨Nat.le_of_ble_eq_true rfl, Nat.le_of_ble_eq_true rfl⟩) (w_preV hK hW hL_y_1 hK_y_1 (by decide) rfl) rfl rfl hl.1 rfl (lv_room (Nat.le_of_ble_eq_true rfl)) dX11_make_5 ⟨Nat.le_of_ble_eq_true rfl, Nat.le_of_ble_eq_true rfl⟩) hW (fun S_3 H locs hp hW => ?_)
  obtain ⟨hX_S_3, hp⟩ := hp
  refine W.widen (k := 0) (n := 0) (by decide) (by decide) ?_
  have hE := hE.trans hX_S_3
  have hK_a0 : sK S_3 a0 = 16 := (hX_S_3.2 a0 hL_a0).1.trans hK_a0
  have hL_a0 : wM D S_3 a0 := hX_S_3.M hL_a0
  refine lv_aload_n hx hb dX11_make_8 rfl (lv_at hl 0 rfl) ?_
  obtain ⟨y_4, ey_4, hL_y_4, hK_y_4, hp⟩ := hp
  refine w_get (k := 16) (f := 4) (T := TX11) (v := .ref y_4) F hK hW hL_a0 hK_a0 (by decide) rfl rfl (by decide) i_16 k_40 (by rw [show wv 16 4 S_3 a0 = va_rf (sR S_3 a0 4) from rfl, ey_4]; rfl) dX11_make_9 ?_
  refine lv_iload_n hx hb dX11_make_12 rfl (lv_at hl 1 rfl) ?_
  refine lv_aload_n hx hb dX11_make_13 rfl (lv_at hl 0 rfl) ?_
  obtain ⟨y_5, ey_5, hL_y_5, hK_y_5, hp⟩ := hp
  refine w_get (k := 16) (f := 2) (T := TX11) (v := .ref y_5) F hK hW hL_a0 hK_a0 (by decide) rfl rfl (by decide) i_16 k_28 (by rw [show wv 16 2 S_3 a0 = va_rf (sR S_3 a0 2) from rfl, ey_5]; rfl) dX11_make_14 ?_
  refine w_callV (va_runV (As := [.int x1, .ref y_5]) (rest := []) F (c_X3_addMove l hL_y_4 hK_y_4 hL_y_5 hK_y_5 hp H.size) (cwV (C := RX3) 2 hts (wg_V wm_RX11_524 wy_X3_addMove) rfl rfl rfl (by decide +kernel) ⟨Nat.le_of_ble_eq_true rfl, Nat.le_of_ble_eq_true rfl⟩) (w_preV hK hW hL_y_4 hK_y_4 (by decide) rfl) rfl rfl hl.1 rfl (lv_room (Nat.le_of_ble_eq_true rfl)) dX11_make_17 ⟨Nat.le_of_ble_eq_true rfl, Nat.le_of_ble_eq_true rfl⟩) hW (fun S_7 H locs hp hW => ?_)
  obtain ⟨hX_S_7, hp⟩ := hp
  refine W.widen (k := 0) (n := 0) (by decide) (by decide) ?_
  have hE := hE.trans hX_S_7
  have hK_a0 : sK S_7 a0 = 16 := (hX_S_7.2 a0 hL_a0).1.trans hK_a0
  have hL_a0 : wM D S_7 a0 := hX_S_7.M hL_a0
  exact w_vret hx hb hr hlocks hW ⟨hE, hp⟩ dX11_make_20
set_option maxHeartbeats 4000000 in
set_option maxRecDepth 100000 in
theorem c_X11_make (l : Launch) {D : wD} {cy : Nat → ClassId} {X : va_W} {S0 : wS} {post : wS → Prop} {a0 : Nat} {x1 : Int32} (hL_a0 : wM D S0 a0) (hK_a0 : sK S0 a0 = 16) (hp : wp_X11_make D post S0 a0 x1) : mV D cy X l yX11_make wz_X11_make r_X11_make [.ref a0, .int x1] S0 (fun S9 => wX D S0 S9 ∧ post S9) := by
  intro sz
  refine Met.ofW (cc := cX11_make) (maxL := 2) (ret := none) (by decide) rfl ?_
  intro p e s m args below meth c s₁ B hml hv
  obtain ⟨rfl, hsz, hP, hK, hD0, hRO⟩ := hv
  have hts := atoms_spec (ws := wz_X11_make) B.pre
  have hown : s.vm.findClass RX11 = some m.cls := findClass_of_methodNamed B.named
  subst hsz
  have hD := hD0.self (sz := s.heap.size)
  have F : CallFix p m c cX11_make 2 s _ wz_X11_make RX11 := ⟨B.exec, B.bytes, hml, hown, hts⟩
  have hr := B.returns
  have hlocks := B.notSynchronized
  generalize hAe : va_A (wL cy X S0) s.heap.size = A at hD hK ⊢
  have hA : ∀ q, s.heap.size ≤ q → A q := fun q h => by rw [← hAe]; exact Or.inr h
  have hW : wO D cy X A s.heap S0 s.heap [] := ⟨hP, hD, va_S.rf, hA, hRO⟩
  have hl := lv_entry ([.ref a0, .int x1]) (n := 2) (Nat.le_of_ble_eq_true rfl)
  rw [lg_entry_eq]
  generalize (lg_sl ([.ref a0, .int x1]) ++ List.replicate (2 - (lg_sl ([.ref a0, .int x1])).length) Slot.unset).toArray = ls at hl ⊢
  have hl : lv_has ls 2 [(0, .ref a0), (1, .int x1)] := hl
  unfold wp_X11_make at hp
  exact t_X11_make_0 F hr hlocks hK hp hW wX.rf (lv_sub hl [0, 1] rfl) hL_a0 hK_a0
def wp_X11_material_0 (D : wD) (post : Int32 → wS → Prop)  (S : wS) (a0 : Nat) (x1 : Int32) : Prop :=
∃ y_1 : Nat, sR S a0 2 = some y_1 ∧ wM D S y_1 ∧ sK S y_1 = 12 ∧
wp_X7_ofSide D (fun r_2 S_3 => 
∃ y_4 : Nat, sR S_3 a0 2 = some y_4 ∧ wM D S_3 y_4 ∧ sK S_3 y_4 = 12 ∧
wp_X7_ofKind D (fun r_5 S_6 => 
wp_J13_bitCount_95d88 D (fun r_7 S_8 => 
∃ y_9 : Nat, sR S_8 a0 2 = some y_9 ∧ wM D S_8 y_9 ∧ sK S_8 y_9 = 12 ∧
wp_X7_ofKind D (fun r_10 S_11 => 
wp_J13_bitCount_95d88 D (fun r_12 S_13 => 
∃ y_14 : Nat, sR S_13 a0 2 = some y_14 ∧ wM D S_13 y_14 ∧ sK S_13 y_14 = 12 ∧
wp_X7_ofKind D (fun r_15 S_16 => 
∃ y_17 : Nat, sR S_16 a0 2 = some y_17 ∧ wM D S_16 y_17 ∧ sK S_16 y_17 = 12 ∧
wp_X7_ofKind D (fun r_18 S_19 => 
wp_J13_bitCount_95d88 D (fun r_20 S_21 => 
∃ y_22 : Nat, sR S_21 a0 2 = some y_22 ∧ wM D S_21 y_22 ∧ sK S_21 y_22 = 12 ∧
wp_X7_ofKind D (fun r_23 S_24 => 
wp_J13_bitCount_95d88 D (fun r_25 S_26 => 
post (((((9 : Int32) * r_7) + ((5 : Int32) * r_12)) + ((3 : Int32) * r_20)) + r_25) S_26) S_24 (r_23 &&& r_2)) S_21 y_22 (6 : Int32)) S_19 ((r_15 ||| r_18) &&& r_2)) S_16 y_17 (5 : Int32)) S_13 y_14 (4 : Int32)) S_11 (r_10 &&& r_2)) S_8 y_9 (3 : Int32)) S_6 (r_5 &&& r_2)) S_3 y_4 (2 : Int32)) S y_1 x1
abbrev r_X11_material : Room := { frames := 1, cells := 0, slots := 0, locals := 23 }
def wp_X11_material (D : wD) (post : Int32 → wS → Prop) (S : wS) (a0 : Nat) (x1 : Int32) : Prop := wp_X11_material_0 D post S a0 x1
set_option maxHeartbeats 4000000 in
set_option maxRecDepth 100000 in
theorem t_X11_material_0 {p : Program} {l : Launch} {e : Env} {s : State} {m : MethodId} {args : Array Value} {below : List Frame} {meth : Method} {c : Code} {D : wD} {cy : Nat → ClassId} {X : va_W} {A : Nat → Prop} {S0 : wS} {post : Int32 → wS → Prop} (F : CallFix p m c cX11_material 4 s args wz_X11_material RX11) (hr : meth.sig.returnType = (some .int)) (hlocks : meth.locks = false) (hK : wK D cy A s) : ∀ {S : wS} {H : Heap} {locs : List Loc} {ls : Array Slot} {a0 : Nat} {x1 : Int32}, wp_X11_material_0 D post S a0 x1 → wO D cy X A s.heap S H locs → wX D S0 S → lv_has ls 4 [(0, .ref a0), (1, .int x1)] → wM D S a0 → sK S a0 = 16 → W p l e r_X11_material s m args below meth c H locs 0 0 (MQ below (va_Qi (fun r S9 => wX D S0 S9 ∧ post r S9) (wB D cy X A) A) args s 0 0 A) (F0 m 0 ls []) := by
  obtain ⟨hx, hb, hml, hown, hts⟩ := id F
  have hwg : ∀ w ∈ WG, w.before args s = true := fun w h => hts w (List.mem_cons_of_mem _ h)
  have i_16 : ∀ w ∈ u_ws RX11 TX11 18, w ∈ wz_X11_material := fun w h => List.mem_cons_of_mem _ (wu_16 w h)
  have k_28 := hwg _ wf_RX11_28
  intro S H locs ls a0 x1 hp hW hE hl hL_a0 hK_a0
  unfold wp_X11_material_0 at hp
  refine lv_aload_n hx hb dX11_material_0 rfl (lv_at hl 0 rfl) ?_
  obtain ⟨y_1, ey_1, hL_y_1, hK_y_1, hp⟩ := hp
  refine w_get (k := 16) (f := 2) (T := TX11) (v := .ref y_1) F hK hW hL_a0 hK_a0 (by decide) rfl rfl (by decide) i_16 k_28 (by rw [show wv 16 2 S a0 = va_rf (sR S a0 2) from rfl, ey_1]; rfl) dX11_material_1 ?_
  refine lv_iload_n hx hb dX11_material_4 rfl (lv_at hl 1 rfl) ?_
  refine w_callJ (va_runV (As := [.int x1]) (rest := []) F (c_X7_ofSide l hL_y_1 hK_y_1 hp H.size) (cwV (C := RX7) 1 hts (wg_V wm_RX11_244 wy_X7_ofSide) rfl rfl rfl (by decide +kernel) ⟨Nat.le_of_ble_eq_true rfl, Nat.le_of_ble_eq_true rfl⟩) (w_preV hK hW hL_y_1 hK_y_1 (by decide) rfl) rfl rfl hl.1 rfl (lv_room (Nat.le_of_ble_eq_true rfl)) dX11_material_5 ⟨Nat.le_of_ble_eq_true rfl, Nat.le_of_ble_eq_true rfl⟩) hW (fun r_2 S_3 H locs hp hW => ?_)
  obtain ⟨hX_S_3, hp⟩ := hp
  refine W.widen (k := 0) (n := 0) (by decide) (by decide) ?_
  have hE := hE.trans hX_S_3
  have hK_a0 : sK S_3 a0 = 16 := (hX_S_3.2 a0 hL_a0).1.trans hK_a0
  have hL_a0 : wM D S_3 a0 := hX_S_3.M hL_a0
  refine lv_lstore_n (lv' := [(2, .long r_2), (0, .ref a0), (1, .int x1)]) hx hb dX11_material_8 rfl hl (by decide) rfl (fun ls hl => ?_)
  refine lv_bipush (v := 9) hx hb dX11_material_9 (by decide) ?_
  refine lv_aload_n hx hb dX11_material_11 rfl (lv_at hl 1 rfl) ?_
  obtain ⟨y_4, ey_4, hL_y_4, hK_y_4, hp⟩ := hp
  refine w_get (k := 16) (f := 2) (T := TX11) (v := .ref y_4) F hK hW hL_a0 hK_a0 (by decide) rfl rfl (by decide) i_16 k_28 (by rw [show wv 16 2 S_3 a0 = va_rf (sR S_3 a0 2) from rfl, ey_4]; rfl) dX11_material_12 ?_
  refine lv_iconst (v := 2) hx hb dX11_material_15 (by decide) ?_
  refine w_callJ (va_runV (As := [.int (2 : Int32)]) (rest := [.int (9 : Int32)]) F (c_X7_ofKind l hL_y_4 hK_y_4 hp H.size) (cwV (C := RX7) 1 hts (wg_V wm_RX11_248 wy_X7_ofKind) rfl rfl rfl (by decide +kernel) ⟨Nat.le_of_ble_eq_true rfl, Nat.le_of_ble_eq_true rfl⟩) (w_preV hK hW hL_y_4 hK_y_4 (by decide) rfl) rfl rfl hl.1 rfl (lv_room (Nat.le_of_ble_eq_true rfl)) dX11_material_16 ⟨Nat.le_of_ble_eq_true rfl, Nat.le_of_ble_eq_true rfl⟩) hW (fun r_5 S_6 H locs hp hW => ?_)
  obtain ⟨hX_S_6, hp⟩ := hp
  refine W.widen (k := 0) (n := 0) (by decide) (by decide) ?_
  have hE := hE.trans hX_S_6
  have hK_a0 : sK S_6 a0 = 16 := (hX_S_6.2 a0 hL_a0).1.trans hK_a0
  have hL_a0 : wM D S_6 a0 := hX_S_6.M hL_a0
  refine lv_lload_n hx hb dX11_material_19 rfl (lv_at hl 0 rfl) ?_
  refine lv_land hx hb dX11_material_20 ?_
  refine w_callI (va_runS (As := [.long (r_5 &&& r_2)]) (rest := [.int (9 : Int32)]) F (c_J13_bitCount_95d88 l hp H.size) (va_cwS 1 hts (wg_S wm_RX11_203 wy_J13_bitCount_95d88) rfl rfl rfl (by decide +kernel) ⟨Nat.le_of_ble_eq_true rfl, Nat.le_of_ble_eq_true rfl⟩) (w_preS hK hW) rfl rfl hl.1 rfl (lv_room (Nat.le_of_ble_eq_true rfl)) dX11_material_21 ⟨Nat.le_of_ble_eq_true rfl, Nat.le_of_ble_eq_true rfl⟩) hW (fun r_7 S_8 H locs hp hW => ?_)
  obtain ⟨hX_S_8, hp⟩ := hp
  refine W.widen (k := 0) (n := 0) (by decide) (by decide) ?_
  have hE := hE.trans hX_S_8
  have hK_a0 : sK S_8 a0 = 16 := (hX_S_8.2 a0 hL_a0).1.trans hK_a0
  have hL_a0 : wM D S_8 a0 := hX_S_8.M hL_a0
  refine lv_imul hx hb dX11_material_24 ?_
  refine lv_iconst (v := 5) hx hb dX11_material_25 (by decide) ?_
  refine lv_aload_n hx hb dX11_material_26 rfl (lv_at hl 1 rfl) ?_
  obtain ⟨y_9, ey_9, hL_y_9, hK_y_9, hp⟩ := hp
  refine w_get (k := 16) (f := 2) (T := TX11) (v := .ref y_9) F hK hW hL_a0 hK_a0 (by decide) rfl rfl (by decide) i_16 k_28 (by rw [show wv 16 2 S_8 a0 = va_rf (sR S_8 a0 2) from rfl, ey_9]; rfl) dX11_material_27 ?_
  refine lv_iconst (v := 3) hx hb dX11_material_30 (by decide) ?_
  refine w_callJ (va_runV (As := [.int (3 : Int32)]) (rest := [.int (5 : Int32), .int ((9 : Int32) * r_7)]) F (c_X7_ofKind l hL_y_9 hK_y_9 hp H.size) (cwV (C := RX7) 1 hts (wg_V wm_RX11_248 wy_X7_ofKind) rfl rfl rfl (by decide +kernel) ⟨Nat.le_of_ble_eq_true rfl, Nat.le_of_ble_eq_true rfl⟩) (w_preV hK hW hL_y_9 hK_y_9 (by decide) rfl) rfl rfl hl.1 rfl (lv_room (Nat.le_of_ble_eq_true rfl)) dX11_material_31 ⟨Nat.le_of_ble_eq_true rfl, Nat.le_of_ble_eq_true rfl⟩) hW (fun r_10 S_11 H locs hp hW => ?_)
  obtain ⟨hX_S_11, hp⟩ := hp
  refine W.widen (k := 0) (n := 0) (by decide) (by decide) ?_
  have hE := hE.trans hX_S_11
  have hK_a0 : sK S_11 a0 = 16 := (hX_S_11.2 a0 hL_a0).1.trans hK_a0
  have hL_a0 : wM D S_11 a0 := hX_S_11.M hL_a0
  refine lv_lload_n hx hb dX11_material_34 rfl (lv_at hl 0 rfl) ?_
  refine lv_land hx hb dX11_material_35 ?_
  refine w_callI (va_runS (As := [.long (r_10 &&& r_2)]) (rest := [.int (5 : Int32), .int ((9 : Int32) * r_7)]) F (c_J13_bitCount_95d88 l hp H.size) (va_cwS 1 hts (wg_S wm_RX11_203 wy_J13_bitCount_95d88) rfl rfl rfl (by decide +kernel) ⟨Nat.le_of_ble_eq_true rfl, Nat.le_of_ble_eq_true rfl⟩) (w_preS hK hW) rfl rfl hl.1 rfl (lv_room (Nat.le_of_ble_eq_true rfl)) dX11_material_36 ⟨Nat.le_of_ble_eq_true rfl, Nat.le_of_ble_eq_true rfl⟩) hW (fun r_12 S_13 H locs hp hW => ?_)
  obtain ⟨hX_S_13, hp⟩ := hp
  refine W.widen (k := 0) (n := 0) (by decide) (by decide) ?_
  have hE := hE.trans hX_S_13
  have hK_a0 : sK S_13 a0 = 16 := (hX_S_13.2 a0 hL_a0).1.trans hK_a0
  have hL_a0 : wM D S_13 a0 := hX_S_13.M hL_a0
  refine lv_imul hx hb dX11_material_39 ?_
  refine lv_iadd hx hb dX11_material_40 ?_
  refine lv_iconst (v := 3) hx hb dX11_material_41 (by decide) ?_
  refine lv_aload_n hx hb dX11_material_42 rfl (lv_at hl 1 rfl) ?_
  obtain ⟨y_14, ey_14, hL_y_14, hK_y_14, hp⟩ := hp
  refine w_get (k := 16) (f := 2) (T := TX11) (v := .ref y_14) F hK hW hL_a0 hK_a0 (by decide) rfl rfl (by decide) i_16 k_28 (by rw [show wv 16 2 S_13 a0 = va_rf (sR S_13 a0 2) from rfl, ey_14]; rfl) dX11_material_43 ?_
  refine lv_iconst (v := 4) hx hb dX11_material_46 (by decide) ?_
  refine w_callJ (va_runV (As := [.int (4 : Int32)]) (rest := [.int (3 : Int32), .int (((9 : Int32) * r_7) + ((5 : Int32) * r_12))]) F (c_X7_ofKind l hL_y_14 hK_y_14 hp H.size) (cwV (C := RX7) 1 hts (wg_V wm_RX11_248 wy_X7_ofKind) rfl rfl rfl (by decide +kernel) ⟨Nat.le_of_ble_eq_true rfl, Nat.le_of_ble_eq_true rfl⟩) (w_preV hK hW hL_y_14 hK_y_14 (by decide) rfl) rfl rfl hl.1 rfl (lv_room (Nat.le_of_ble_eq_true rfl)) dX11_material_47 ⟨Nat.le_of_ble_eq_true rfl, Nat.le_of_ble_eq_true rfl⟩) hW (fun r_15 S_16 H locs hp hW => ?_)
  obtain ⟨hX_S_16, hp⟩ := hp
  refine W.widen (k := 0) (n := 0) (by decide) (by decide) ?_
  have hE := hE.trans hX_S_16
  have hK_a0 : sK S_16 a0 = 16 := (hX_S_16.2 a0 hL_a0).1.trans hK_a0
  have hL_a0 : wM D S_16 a0 := hX_S_16.M hL_a0
  refine lv_aload_n hx hb dX11_material_50 rfl (lv_at hl 1 rfl) ?_
  obtain ⟨y_17, ey_17, hL_y_17, hK_y_17, hp⟩ := hp
  refine w_get (k := 16) (f := 2) (T := TX11) (v := .ref y_17) F hK hW hL_a0 hK_a0 (by decide) rfl rfl (by decide) i_16 k_28 (by rw [show wv 16 2 S_16 a0 = va_rf (sR S_16 a0 2) from rfl, ey_17]; rfl) dX11_material_51 ?_
  refine lv_iconst (v := 5) hx hb dX11_material_54 (by decide) ?_
  refine w_callJ (va_runV (As := [.int (5 : Int32)]) (rest := [.long r_15, .int (3 : Int32), .int (((9 : Int32) * r_7) + ((5 : Int32) * r_12))]) F (c_X7_ofKind l hL_y_17 hK_y_17 hp H.size) (cwV (C := RX7) 1 hts (wg_V wm_RX11_248 wy_X7_ofKind) rfl rfl rfl (by decide +kernel) ⟨Nat.le_of_ble_eq_true rfl, Nat.le_of_ble_eq_true rfl⟩) (w_preV hK hW hL_y_17 hK_y_17 (by decide) rfl) rfl rfl hl.1 rfl (lv_room (Nat.le_of_ble_eq_true rfl)) dX11_material_55 ⟨Nat.le_of_ble_eq_true rfl, Nat.le_of_ble_eq_true rfl⟩) hW (fun r_18 S_19 H locs hp hW => ?_)
  obtain ⟨hX_S_19, hp⟩ := hp
  refine W.widen (k := 0) (n := 0) (by decide) (by decide) ?_
  have hE := hE.trans hX_S_19
  have hK_a0 : sK S_19 a0 = 16 := (hX_S_19.2 a0 hL_a0).1.trans hK_a0
  have hL_a0 : wM D S_19 a0 := hX_S_19.M hL_a0
  refine lv_lor hx hb dX11_material_58 ?_
  refine lv_lload_n hx hb dX11_material_59 rfl (lv_at hl 0 rfl) ?_
  refine lv_land hx hb dX11_material_60 ?_
  refine w_callI (va_runS (As := [.long ((r_15 ||| r_18) &&& r_2)]) (rest := [.int (3 : Int32), .int (((9 : Int32) * r_7) + ((5 : Int32) * r_12))]) F (c_J13_bitCount_95d88 l hp H.size) (va_cwS 1 hts (wg_S wm_RX11_203 wy_J13_bitCount_95d88) rfl rfl rfl (by decide +kernel) ⟨Nat.le_of_ble_eq_true rfl, Nat.le_of_ble_eq_true rfl⟩) (w_preS hK hW) rfl rfl hl.1 rfl (lv_room (Nat.le_of_ble_eq_true rfl)) dX11_material_61 ⟨Nat.le_of_ble_eq_true rfl, Nat.le_of_ble_eq_true rfl⟩) hW (fun r_20 S_21 H locs hp hW => ?_)
  obtain ⟨hX_S_21, hp⟩ := hp
  refine W.widen (k := 0) (n := 0) (by decide) (by decide) ?_
  have hE := hE.trans hX_S_21
  have hK_a0 : sK S_21 a0 = 16 := (hX_S_21.2 a0 hL_a0).1.trans hK_a0
  have hL_a0 : wM D S_21 a0 := hX_S_21.M hL_a0
  refine lv_imul hx hb dX11_material_64 ?_
  refine lv_iadd hx hb dX11_material_65 ?_
  refine lv_aload_n hx hb dX11_material_66 rfl (lv_at hl 1 rfl) ?_
  obtain ⟨y_22, ey_22, hL_y_22, hK_y_22, hp⟩ := hp
  refine w_get (k := 16) (f := 2) (T := TX11) (v := .ref y_22) F hK hW hL_a0 hK_a0 (by decide) rfl rfl (by decide) i_16 k_28 (by rw [show wv 16 2 S_21 a0 = va_rf (sR S_21 a0 2) from rfl, ey_22]; rfl) dX11_material_67 ?_
  refine lv_bipush (v := 6) hx hb dX11_material_70 (by decide) ?_
  refine w_callJ (va_runV (As := [.int (6 : Int32)]) (rest := [.int ((((9 : Int32) * r_7) + ((5 : Int32) * r_12)) + ((3 : Int32) * r_20))]) F (c_X7_ofKind l hL_y_22 hK_y_22 hp H.size) (cwV (C := RX7) 1 hts (wg_V wm_RX11_248 wy_X7_ofKind) rfl rfl rfl (by decide +kernel) ⟨Nat.le_of_ble_eq_true rfl, Nat.le_of_ble_eq_true rfl⟩) (w_preV hK hW hL_y_22 hK_y_22 (by decide) rfl) rfl rfl hl.1 rfl (lv_room (Nat.le_of_ble_eq_true rfl)) dX11_material_72 ⟨Nat.le_of_ble_eq_true rfl, Nat.le_of_ble_eq_true rfl⟩) hW (fun r_23 S_24 H locs hp hW => ?_)
  obtain ⟨hX_S_24, hp⟩ := hp
  refine W.widen (k := 0) (n := 0) (by decide) (by decide) ?_
  have hE := hE.trans hX_S_24
  have hK_a0 : sK S_24 a0 = 16 := (hX_S_24.2 a0 hL_a0).1.trans hK_a0
  have hL_a0 : wM D S_24 a0 := hX_S_24.M hL_a0
  refine lv_lload_n hx hb dX11_material_75 rfl (lv_at hl 0 rfl) ?_
  refine lv_land hx hb dX11_material_76 ?_
  refine w_callI (va_runS (As := [.long (r_23 &&& r_2)]) (rest := [.int ((((9 : Int32) * r_7) + ((5 : Int32) * r_12)) + ((3 : Int32) * r_20))]) F (c_J13_bitCount_95d88 l hp H.size) (va_cwS 1 hts (wg_S wm_RX11_203 wy_J13_bitCount_95d88) rfl rfl rfl (by decide +kernel) ⟨Nat.le_of_ble_eq_true rfl, Nat.le_of_ble_eq_true rfl⟩) (w_preS hK hW) rfl rfl hl.1 rfl (lv_room (Nat.le_of_ble_eq_true rfl)) dX11_material_77 ⟨Nat.le_of_ble_eq_true rfl, Nat.le_of_ble_eq_true rfl⟩) hW (fun r_25 S_26 H locs hp hW => ?_)
  obtain ⟨hX_S_26, hp⟩ := hp
  refine W.widen (k := 0) (n := 0) (by decide) (by decide) ?_
  have hE := hE.trans hX_S_26
  have hK_a0 : sK S_26 a0 = 16 := (hX_S_26.2 a0 hL_a0).1.trans hK_a0
  have hL_a0 : wM D S_26 a0 := hX_S_26.M hL_a0
  refine lv_iadd hx hb dX11_material_80 ?_
  exact w_iret hx hb hr hlocks hW ⟨hE, hp⟩ dX11_material_81
set_option maxHeartbeats 4000000 in
set_option maxRecDepth 100000 in
theorem c_X11_material (l : Launch) {D : wD} {cy : Nat → ClassId} {X : va_W} {S0 : wS} {post : Int32 → wS → Prop} {a0 : Nat} {x1 : Int32} (hL_a0 : wM D S0 a0) (hK_a0 : sK S0 a0 = 16) (hp : wp_X11_material D post S0 a0 x1) : mI D cy X l yX11_material wz_X11_material r_X11_material [.ref a0, .int x1] S0 (fun r S9 => wX D S0 S9 ∧ post r S9) := by
  intro sz
  refine Met.ofW (cc := cX11_material) (maxL := 4) (ret := (some .int)) (by decide) rfl ?_
  intro p e s m args below meth c s₁ B hml hv
  obtain ⟨rfl, hsz, hP, hK, hD0, hRO⟩ := hv
  have hts := atoms_spec (ws := wz_X11_material) B.pre
  have hown : s.vm.findClass RX11 = some m.cls := findClass_of_methodNamed B.named
  subst hsz
  have hD := hD0.self (sz := s.heap.size)
  have F : CallFix p m c cX11_material 4 s _ wz_X11_material RX11 := ⟨B.exec, B.bytes, hml, hown, hts⟩
  have hr := B.returns
  have hlocks := B.notSynchronized
  generalize hAe : va_A (wL cy X S0) s.heap.size = A at hD hK ⊢
  have hA : ∀ q, s.heap.size ≤ q → A q := fun q h => by rw [← hAe]; exact Or.inr h
  have hW : wO D cy X A s.heap S0 s.heap [] := ⟨hP, hD, va_S.rf, hA, hRO⟩
  have hl := lv_entry ([.ref a0, .int x1]) (n := 4) (Nat.le_of_ble_eq_true rfl)
  rw [lg_entry_eq]
  generalize (lg_sl ([.ref a0, .int x1]) ++ List.replicate (4 - (lg_sl ([.ref a0, .int x1])).length) Slot.unset).toArray = ls at hl ⊢
  have hl : lv_has ls 4 [(0, .ref a0), (1, .int x1)] := hl
  unfold wp_X11_material at hp
  exact t_X11_material_0 F hr hlocks hK hp hW wX.rf (lv_sub hl [0, 1] rfl) hL_a0 hK_a0
def wp_X11_moveBecomes_0 (D : wD) (post : Int32 → wS → Prop) (xp : String → wS → Prop)  (S : wS) (a0 : Nat) (x1 : Int32) : Prop :=
wp_X11_codeOf D (fun r_1 S_2 => 
wp_X11_becomesOf D (fun r_3 S_4 => 
post r_3 S_4) S_2 r_1) xp S a0 x1
abbrev r_X11_moveBecomes : Room := { frames := 8, cells := 2, slots := 12, locals := 167 }
def wp_X11_moveBecomes (D : wD) (post : Int32 → wS → Prop) (xp : String → wS → Prop) (S : wS) (a0 : Nat) (x1 : Int32) : Prop := wp_X11_moveBecomes_0 D post xp S a0 x1
set_option maxHeartbeats 4000000 in
set_option maxRecDepth 100000 in
theorem t_X11_moveBecomes_0 {p : Program} {l : Launch} {e : Env} {s : State} {m : MethodId} {args : Array Value} {below : List Frame} {meth : Method} {c : Code} {D : wD} {cy : Nat → ClassId} {X : va_W} {A : Nat → Prop} {S0 : wS} {post : Int32 → wS → Prop} {xp : String → wS → Prop} (F : CallFix p m c cX11_moveBecomes 2 s args wz_X11_moveBecomes RX11) (hr : meth.sig.returnType = (some .int)) (hlocks : meth.locks = false) (hK : wK D cy A s) (hl0 : l.stackTraces = false) (hexc : ∀ x ∈ c.exceptionTable.toList, False) : ∀ {S : wS} {H : Heap} {locs : List Loc} {ls : Array Slot} {a0 : Nat} {x1 : Int32}, wp_X11_moveBecomes_0 D post xp S a0 x1 → wO D cy X A s.heap S H locs → wX D S0 S → lv_has ls 2 [(0, .ref a0), (1, .int x1)] → wM D S a0 → sK S a0 = 16 → W p l e r_X11_moveBecomes s m args below meth c H locs 0 0 (vx_MQ below (va_Qi (fun r S9 => wX D S0 S9 ∧ post r S9) (wB D cy X A) A) (wEx D cy X A (fun E S9 => wX D S0 S9 ∧ xp E S9)) args s 2 12 A) (F0 m 0 ls []) := by
  obtain ⟨hx, hb, hml, hown, hts⟩ := id F
  have hwg : ∀ w ∈ WG, w.before args s = true := fun w h => hts w (List.mem_cons_of_mem _ h)
  intro S H locs ls a0 x1 hp hW hE hl hL_a0 hK_a0
  unfold wp_X11_moveBecomes_0 at hp
  refine lv_aload_n hx hb dX11_moveBecomes_0 rfl (lv_at hl 0 rfl) ?_
  refine lv_iload_n hx hb dX11_moveBecomes_1 rfl (lv_at hl 1 rfl) ?_
  refine x_callI (vx_runV (As := [.int x1]) (rest := []) F (c_X11_codeOf l hl0 hL_a0 hK_a0 hp H.size) (cwV (C := RX11) 1 hts (wg_V wm_RX11_264 wy_X11_codeOf) rfl rfl rfl (by decide +kernel) ⟨Nat.le_of_ble_eq_true rfl, Nat.le_of_ble_eq_true rfl⟩) (w_preV hK hW hL_a0 hK_a0 (by decide) rfl) rfl rfl hl.1 rfl (lv_room (Nat.le_of_ble_eq_true rfl)) dX11_moveBecomes_2 ⟨Nat.le_of_ble_eq_true rfl, Nat.le_of_ble_eq_true rfl⟩) hW (fun E ce q9 S9 H locs hp hW h1 h2 h3 => x_out hexc hlocks ⟨hE.trans hp.1, hp.2⟩ hW h1 h2 h3 (by decide) (by decide)) (fun r_1 S_2 H locs hp hW => ?_)
  obtain ⟨hX_S_2, hp⟩ := hp
  refine W.widen (k := 2) (n := 12) (by decide) (by decide) ?_
  have hE := hE.trans hX_S_2
  have hK_a0 : sK S_2 a0 = 16 := (hX_S_2.2 a0 hL_a0).1.trans hK_a0
  have hL_a0 : wM D S_2 a0 := hX_S_2.M hL_a0
  refine w_callI (va_runS (As := [.int r_1]) (rest := []) F (c_X11_becomesOf l hp H.size) (va_cwS 1 hts (wg_S wm_RX11_273 wy_X11_becomesOf) rfl rfl rfl (by decide +kernel) ⟨Nat.le_of_ble_eq_true rfl, Nat.le_of_ble_eq_true rfl⟩) (w_preS hK hW) rfl rfl hl.1 rfl (lv_room (Nat.le_of_ble_eq_true rfl)) dX11_moveBecomes_5 ⟨Nat.le_of_ble_eq_true rfl, Nat.le_of_ble_eq_true rfl⟩) hW (fun r_3 S_4 H locs hp hW => ?_)
  obtain ⟨hX_S_4, hp⟩ := hp
  refine W.widen (k := 2) (n := 12) (by decide) (by decide) ?_
  have hE := hE.trans hX_S_4
  have hK_a0 : sK S_4 a0 = 16 := (hX_S_4.2 a0 hL_a0).1.trans hK_a0
  have hL_a0 : wM D S_4 a0 := hX_S_4.M hL_a0
  refine vx_ret ?_
  exact w_iret hx hb hr hlocks hW ⟨hE, hp⟩ dX11_moveBecomes_8
set_option maxHeartbeats 4000000 in
set_option maxRecDepth 100000 in
theorem c_X11_moveBecomes (l : Launch) {D : wD} {cy : Nat → ClassId} {X : va_W} {S0 : wS} {post : Int32 → wS → Prop} {xp : String → wS → Prop} (hl0 : l.stackTraces = false) {a0 : Nat} {x1 : Int32} (hL_a0 : wM D S0 a0) (hK_a0 : sK S0 a0 = 16) (hp : wp_X11_moveBecomes D post xp S0 a0 x1) : xI D cy X l yX11_moveBecomes wz_X11_moveBecomes r_X11_moveBecomes [.ref a0, .int x1] S0 (fun r S9 => wX D S0 S9 ∧ post r S9) (fun E S9 => wX D S0 S9 ∧ xp E S9) := by
  intro sz
  refine vx_ofW (cc := cX11_moveBecomes) (maxL := 2) (ret := (some .int)) (by decide) rfl ?_
  intro p e s m args below meth c s₁ B hml hexc hv
  obtain ⟨rfl, hsz, hP, hK, hD0, hRO⟩ := hv
  have hts := atoms_spec (ws := wz_X11_moveBecomes) B.pre
  have hown : s.vm.findClass RX11 = some m.cls := findClass_of_methodNamed B.named
  subst hsz
  have hD := hD0.self (sz := s.heap.size)
  have F : CallFix p m c cX11_moveBecomes 2 s _ wz_X11_moveBecomes RX11 := ⟨B.exec, B.bytes, hml, hown, hts⟩
  have hr := B.returns
  have hlocks := B.notSynchronized
  generalize hAe : va_A (wL cy X S0) s.heap.size = A at hD hK ⊢
  have hA : ∀ q, s.heap.size ≤ q → A q := fun q h => by rw [← hAe]; exact Or.inr h
  have hW : wO D cy X A s.heap S0 s.heap [] := ⟨hP, hD, va_S.rf, hA, hRO⟩
  have hl := lv_entry ([.ref a0, .int x1]) (n := 2) (Nat.le_of_ble_eq_true rfl)
  rw [lg_entry_eq]
  generalize (lg_sl ([.ref a0, .int x1]) ++ List.replicate (2 - (lg_sl ([.ref a0, .int x1])).length) Slot.unset).toArray = ls at hl ⊢
  have hl : lv_has ls 2 [(0, .ref a0), (1, .int x1)] := hl
  unfold wp_X11_moveBecomes at hp
  exact t_X11_moveBecomes_0 F hr hlocks hK hl0 hexc hp hW wX.rf (lv_sub hl [0, 1] rfl) hL_a0 hK_a0
def wp_X11_moveCount_0 (D : wD) (post : Int32 → wS → Prop) (xp : String → wS → Prop)  (S : wS) (a0 : Nat) : Prop :=
wp_X11_mustBeLawful D (fun S_2 => 
∃ y_3 : Nat, sR S_2 a0 1 = some y_3 ∧ wM D S_2 y_3 ∧ sK S_2 y_3 = 13 ∧
∃ y_4 : Nat, sR S_2 a0 2 = some y_4 ∧ wM D S_2 y_4 ∧ sK S_2 y_4 = 12 ∧
wp_X8_numberOfMoves D (fun r_5 S_6 => 
post r_5 S_6) S_2 y_3 y_4) xp S a0
abbrev r_X11_moveCount : Room := { frames := 7, cells := 1, slots := 6, locals := 140 }
def wp_X11_moveCount (D : wD) (post : Int32 → wS → Prop) (xp : String → wS → Prop) (S : wS) (a0 : Nat) : Prop := wp_X11_moveCount_0 D post xp S a0
set_option maxHeartbeats 4000000 in
set_option maxRecDepth 100000 in
theorem t_X11_moveCount_0 {p : Program} {l : Launch} {e : Env} {s : State} {m : MethodId} {args : Array Value} {below : List Frame} {meth : Method} {c : Code} {D : wD} {cy : Nat → ClassId} {X : va_W} {A : Nat → Prop} {S0 : wS} {post : Int32 → wS → Prop} {xp : String → wS → Prop} (F : CallFix p m c cX11_moveCount 1 s args wz_X11_moveCount RX11) (hr : meth.sig.returnType = (some .int)) (hlocks : meth.locks = false) (hK : wK D cy A s) (hl0 : l.stackTraces = false) (hexc : ∀ x ∈ c.exceptionTable.toList, False) : ∀ {S : wS} {H : Heap} {locs : List Loc} {ls : Array Slot} {a0 : Nat}, wp_X11_moveCount_0 D post xp S a0 → wO D cy X A s.heap S H locs → wX D S0 S → lv_has ls 1 [(0, .ref a0)] → wM D S a0 → sK S a0 = 16 → W p l e r_X11_moveCount s m args below meth c H locs 0 0 (vx_MQ below (va_Qi (fun r S9 => wX D S0 S9 ∧ post r S9) (wB D cy X A) A) (wEx D cy X A (fun E S9 => wX D S0 S9 ∧ xp E S9)) args s 1 6 A) (F0 m 0 ls []) := by
  obtain ⟨hx, hb, hml, hown, hts⟩ := id F
  have hwg : ∀ w ∈ WG, w.before args s = true := fun w h => hts w (List.mem_cons_of_mem _ h)
  have i_16 : ∀ w ∈ u_ws RX11 TX11 18, w ∈ wz_X11_moveCount := fun w h => List.mem_cons_of_mem _ (wu_16 w h)
  have k_21 := hwg _ wf_RX11_21
  have k_28 := hwg _ wf_RX11_28
  intro S H locs ls a0 hp hW hE hl hL_a0 hK_a0
  unfold wp_X11_moveCount_0 at hp
  refine lv_aload_n hx hb dX11_moveCount_0 rfl (lv_at hl 0 rfl) ?_
  refine x_callV (vx_runV (As := []) (rest := []) F (c_X11_mustBeLawful l hl0 hL_a0 hK_a0 hp H.size) (cwV (C := RX11) 0 hts (wg_V wm_RX11_217 wy_X11_mustBeLawful) rfl rfl rfl (by decide +kernel) ⟨Nat.le_of_ble_eq_true rfl, Nat.le_of_ble_eq_true rfl⟩) (w_preV hK hW hL_a0 hK_a0 (by decide) rfl) rfl rfl hl.1 rfl (lv_room (Nat.le_of_ble_eq_true rfl)) dX11_moveCount_1 ⟨Nat.le_of_ble_eq_true rfl, Nat.le_of_ble_eq_true rfl⟩) hW (fun E ce q9 S9 H locs hp hW h1 h2 h3 => x_out hexc hlocks ⟨hE.trans hp.1, hp.2⟩ hW h1 h2 h3 (by decide) (by decide)) (fun S_2 H locs hp hW => ?_)
  obtain ⟨hX_S_2, hp⟩ := hp
  refine W.widen (k := 1) (n := 6) (by decide) (by decide) ?_
  have hE := hE.trans hX_S_2
  have hK_a0 : sK S_2 a0 = 16 := (hX_S_2.2 a0 hL_a0).1.trans hK_a0
  have hL_a0 : wM D S_2 a0 := hX_S_2.M hL_a0
  refine lv_aload_n hx hb dX11_moveCount_4 rfl (lv_at hl 0 rfl) ?_
  obtain ⟨y_3, ey_3, hL_y_3, hK_y_3, hp⟩ := hp
  refine w_get (k := 16) (f := 1) (T := TX11) (v := .ref y_3) F hK hW hL_a0 hK_a0 (by decide) rfl rfl (by decide) i_16 k_21 (by rw [show wv 16 1 S_2 a0 = va_rf (sR S_2 a0 1) from rfl, ey_3]; rfl) dX11_moveCount_5 ?_
  refine lv_aload_n hx hb dX11_moveCount_8 rfl (lv_at hl 0 rfl) ?_
  obtain ⟨y_4, ey_4, hL_y_4, hK_y_4, hp⟩ := hp
  refine w_get (k := 16) (f := 2) (T := TX11) (v := .ref y_4) F hK hW hL_a0 hK_a0 (by decide) rfl rfl (by decide) i_16 k_28 (by rw [show wv 16 2 S_2 a0 = va_rf (sR S_2 a0 2) from rfl, ey_4]; rfl) dX11_moveCount_9 ?_
  refine w_callI (va_runV (As := [.ref y_4]) (rest := []) F (c_X8_numberOfMoves l hL_y_3 hK_y_3 hL_y_4 hK_y_4 hp H.size) (cwV (C := RX8) 1 hts (wg_V wm_RX11_260 wy_X8_numberOfMoves) rfl rfl rfl (by decide +kernel) ⟨Nat.le_of_ble_eq_true rfl, Nat.le_of_ble_eq_true rfl⟩) (w_preV hK hW hL_y_3 hK_y_3 (by decide) rfl) rfl rfl hl.1 rfl (lv_room (Nat.le_of_ble_eq_true rfl)) dX11_moveCount_12 ⟨Nat.le_of_ble_eq_true rfl, Nat.le_of_ble_eq_true rfl⟩) hW (fun r_5 S_6 H locs hp hW => ?_)
  obtain ⟨hX_S_6, hp⟩ := hp
  refine W.widen (k := 1) (n := 6) (by decide) (by decide) ?_
  have hE := hE.trans hX_S_6
  have hK_a0 : sK S_6 a0 = 16 := (hX_S_6.2 a0 hL_a0).1.trans hK_a0
  have hL_a0 : wM D S_6 a0 := hX_S_6.M hL_a0
  refine vx_ret ?_
  exact w_iret hx hb hr hlocks hW ⟨hE, hp⟩ dX11_moveCount_15
set_option maxHeartbeats 4000000 in
set_option maxRecDepth 100000 in
theorem c_X11_moveCount (l : Launch) {D : wD} {cy : Nat → ClassId} {X : va_W} {S0 : wS} {post : Int32 → wS → Prop} {xp : String → wS → Prop} (hl0 : l.stackTraces = false) {a0 : Nat} (hL_a0 : wM D S0 a0) (hK_a0 : sK S0 a0 = 16) (hp : wp_X11_moveCount D post xp S0 a0) : xI D cy X l yX11_moveCount wz_X11_moveCount r_X11_moveCount [.ref a0] S0 (fun r S9 => wX D S0 S9 ∧ post r S9) (fun E S9 => wX D S0 S9 ∧ xp E S9) := by
  intro sz
  refine vx_ofW (cc := cX11_moveCount) (maxL := 1) (ret := (some .int)) (by decide) rfl ?_
  intro p e s m args below meth c s₁ B hml hexc hv
  obtain ⟨rfl, hsz, hP, hK, hD0, hRO⟩ := hv
  have hts := atoms_spec (ws := wz_X11_moveCount) B.pre
  have hown : s.vm.findClass RX11 = some m.cls := findClass_of_methodNamed B.named
  subst hsz
  have hD := hD0.self (sz := s.heap.size)
  have F : CallFix p m c cX11_moveCount 1 s _ wz_X11_moveCount RX11 := ⟨B.exec, B.bytes, hml, hown, hts⟩
  have hr := B.returns
  have hlocks := B.notSynchronized
  generalize hAe : va_A (wL cy X S0) s.heap.size = A at hD hK ⊢
  have hA : ∀ q, s.heap.size ≤ q → A q := fun q h => by rw [← hAe]; exact Or.inr h
  have hW : wO D cy X A s.heap S0 s.heap [] := ⟨hP, hD, va_S.rf, hA, hRO⟩
  have hl := lv_entry ([.ref a0]) (n := 1) (Nat.le_of_ble_eq_true rfl)
  rw [lg_entry_eq]
  generalize (lg_sl ([.ref a0]) ++ List.replicate (1 - (lg_sl ([.ref a0])).length) Slot.unset).toArray = ls at hl ⊢
  have hl : lv_has ls 1 [(0, .ref a0)] := hl
  unfold wp_X11_moveCount at hp
  exact t_X11_moveCount_0 F hr hlocks hK hl0 hexc hp hW wX.rf (lv_sub hl [0] rfl) hL_a0 hK_a0
def wp_X11_moveFrom_0 (D : wD) (post : Int32 → wS → Prop) (xp : String → wS → Prop)  (S : wS) (a0 : Nat) (x1 : Int32) : Prop :=
wp_X11_codeOf D (fun r_1 S_2 => 
wp_X11_fromOf D (fun r_3 S_4 => 
post r_3 S_4) S_2 r_1) xp S a0 x1
abbrev r_X11_moveFrom : Room := { frames := 8, cells := 2, slots := 12, locals := 167 }
def wp_X11_moveFrom (D : wD) (post : Int32 → wS → Prop) (xp : String → wS → Prop) (S : wS) (a0 : Nat) (x1 : Int32) : Prop := wp_X11_moveFrom_0 D post xp S a0 x1
set_option maxHeartbeats 4000000 in
set_option maxRecDepth 100000 in
theorem t_X11_moveFrom_0 {p : Program} {l : Launch} {e : Env} {s : State} {m : MethodId} {args : Array Value} {below : List Frame} {meth : Method} {c : Code} {D : wD} {cy : Nat → ClassId} {X : va_W} {A : Nat → Prop} {S0 : wS} {post : Int32 → wS → Prop} {xp : String → wS → Prop} (F : CallFix p m c cX11_moveFrom 2 s args wz_X11_moveFrom RX11) (hr : meth.sig.returnType = (some .int)) (hlocks : meth.locks = false) (hK : wK D cy A s) (hl0 : l.stackTraces = false) (hexc : ∀ x ∈ c.exceptionTable.toList, False) : ∀ {S : wS} {H : Heap} {locs : List Loc} {ls : Array Slot} {a0 : Nat} {x1 : Int32}, wp_X11_moveFrom_0 D post xp S a0 x1 → wO D cy X A s.heap S H locs → wX D S0 S → lv_has ls 2 [(0, .ref a0), (1, .int x1)] → wM D S a0 → sK S a0 = 16 → W p l e r_X11_moveFrom s m args below meth c H locs 0 0 (vx_MQ below (va_Qi (fun r S9 => wX D S0 S9 ∧ post r S9) (wB D cy X A) A) (wEx D cy X A (fun E S9 => wX D S0 S9 ∧ xp E S9)) args s 2 12 A) (F0 m 0 ls []) := by
  obtain ⟨hx, hb, hml, hown, hts⟩ := id F
  have hwg : ∀ w ∈ WG, w.before args s = true := fun w h => hts w (List.mem_cons_of_mem _ h)
  intro S H locs ls a0 x1 hp hW hE hl hL_a0 hK_a0
  unfold wp_X11_moveFrom_0 at hp
  refine lv_aload_n hx hb dX11_moveFrom_0 rfl (lv_at hl 0 rfl) ?_
  refine lv_iload_n hx hb dX11_moveFrom_1 rfl (lv_at hl 1 rfl) ?_
  refine x_callI (vx_runV (As := [.int x1]) (rest := []) F (c_X11_codeOf l hl0 hL_a0 hK_a0 hp H.size) (cwV (C := RX11) 1 hts (wg_V wm_RX11_264 wy_X11_codeOf) rfl rfl rfl (by decide +kernel) ⟨Nat.le_of_ble_eq_true rfl, Nat.le_of_ble_eq_true rfl⟩) (w_preV hK hW hL_a0 hK_a0 (by decide) rfl) rfl rfl hl.1 rfl (lv_room (Nat.le_of_ble_eq_true rfl)) dX11_moveFrom_2 ⟨Nat.le_of_ble_eq_true rfl, Nat.le_of_ble_eq_true rfl⟩) hW (fun E ce q9 S9 H locs hp hW h1 h2 h3 => x_out hexc hlocks ⟨hE.trans hp.1, hp.2⟩ hW h1 h2 h3 (by decide) (by decide)) (fun r_1 S_2 H locs hp hW => ?_)
  obtain ⟨hX_S_2, hp⟩ := hp
  refine W.widen (k := 2) (n := 12) (by decide) (by decide) ?_
  have hE := hE.trans hX_S_2
  have hK_a0 : sK S_2 a0 = 16 := (hX_S_2.2 a0 hL_a0).1.trans hK_a0
  have hL_a0 : wM D S_2 a0 := hX_S_2.M hL_a0
  refine w_callI (va_runS (As := [.int r_1]) (rest := []) F (c_X11_fromOf l hp H.size) (va_cwS 1 hts (wg_S wm_RX11_267 wy_X11_fromOf) rfl rfl rfl (by decide +kernel) ⟨Nat.le_of_ble_eq_true rfl, Nat.le_of_ble_eq_true rfl⟩) (w_preS hK hW) rfl rfl hl.1 rfl (lv_room (Nat.le_of_ble_eq_true rfl)) dX11_moveFrom_5 ⟨Nat.le_of_ble_eq_true rfl, Nat.le_of_ble_eq_true rfl⟩) hW (fun r_3 S_4 H locs hp hW => ?_)
  obtain ⟨hX_S_4, hp⟩ := hp
  refine W.widen (k := 2) (n := 12) (by decide) (by decide) ?_
  have hE := hE.trans hX_S_4
  have hK_a0 : sK S_4 a0 = 16 := (hX_S_4.2 a0 hL_a0).1.trans hK_a0
  have hL_a0 : wM D S_4 a0 := hX_S_4.M hL_a0
  refine vx_ret ?_
  exact w_iret hx hb hr hlocks hW ⟨hE, hp⟩ dX11_moveFrom_8
set_option maxHeartbeats 4000000 in
set_option maxRecDepth 100000 in
theorem c_X11_moveFrom (l : Launch) {D : wD} {cy : Nat → ClassId} {X : va_W} {S0 : wS} {post : Int32 → wS → Prop} {xp : String → wS → Prop} (hl0 : l.stackTraces = false) {a0 : Nat} {x1 : Int32} (hL_a0 : wM D S0 a0) (hK_a0 : sK S0 a0 = 16) (hp : wp_X11_moveFrom D post xp S0 a0 x1) : xI D cy X l yX11_moveFrom wz_X11_moveFrom r_X11_moveFrom [.ref a0, .int x1] S0 (fun r S9 => wX D S0 S9 ∧ post r S9) (fun E S9 => wX D S0 S9 ∧ xp E S9) := by
  intro sz
  refine vx_ofW (cc := cX11_moveFrom) (maxL := 2) (ret := (some .int)) (by decide) rfl ?_
  intro p e s m args below meth c s₁ B hml hexc hv
  obtain ⟨rfl, hsz, hP, hK, hD0, hRO⟩ := hv
  have hts := atoms_spec (ws := wz_X11_moveFrom) B.pre
  have hown : s.vm.findClass RX11 = some m.cls := findClass_of_methodNamed B.named
  subst hsz
  have hD := hD0.self (sz := s.heap.size)
  have F : CallFix p m c cX11_moveFrom 2 s _ wz_X11_moveFrom RX11 := ⟨B.exec, B.bytes, hml, hown, hts⟩
  have hr := B.returns
  have hlocks := B.notSynchronized
  generalize hAe : va_A (wL cy X S0) s.heap.size = A at hD hK ⊢
  have hA : ∀ q, s.heap.size ≤ q → A q := fun q h => by rw [← hAe]; exact Or.inr h
  have hW : wO D cy X A s.heap S0 s.heap [] := ⟨hP, hD, va_S.rf, hA, hRO⟩
  have hl := lv_entry ([.ref a0, .int x1]) (n := 2) (Nat.le_of_ble_eq_true rfl)
  rw [lg_entry_eq]
  generalize (lg_sl ([.ref a0, .int x1]) ++ List.replicate (2 - (lg_sl ([.ref a0, .int x1])).length) Slot.unset).toArray = ls at hl ⊢
  have hl : lv_has ls 2 [(0, .ref a0), (1, .int x1)] := hl
  unfold wp_X11_moveFrom at hp
  exact t_X11_moveFrom_0 F hr hlocks hK hl0 hexc hp hW wX.rf (lv_sub hl [0, 1] rfl) hL_a0 hK_a0
def wp_X11_moveTo_0 (D : wD) (post : Int32 → wS → Prop) (xp : String → wS → Prop)  (S : wS) (a0 : Nat) (x1 : Int32) : Prop :=
wp_X11_codeOf D (fun r_1 S_2 => 
wp_X11_toOf D (fun r_3 S_4 => 
post r_3 S_4) S_2 r_1) xp S a0 x1
abbrev r_X11_moveTo : Room := { frames := 8, cells := 2, slots := 12, locals := 167 }
def wp_X11_moveTo (D : wD) (post : Int32 → wS → Prop) (xp : String → wS → Prop) (S : wS) (a0 : Nat) (x1 : Int32) : Prop := wp_X11_moveTo_0 D post xp S a0 x1
set_option maxHeartbeats 4000000 in
set_option maxRecDepth 100000 in
theorem t_X11_moveTo_0 {p : Program} {l : Launch} {e : Env} {s : State} {m : MethodId} {args : Array Value} {below : List Frame} {meth : Method} {c : Code} {D : wD} {cy : Nat → ClassId} {X : va_W} {A : Nat → Prop} {S0 : wS} {post : Int32 → wS → Prop} {xp : String → wS → Prop} (F : CallFix p m c cX11_moveTo 2 s args wz_X11_moveTo RX11) (hr : meth.sig.returnType = (some .int)) (hlocks : meth.locks = false) (hK : wK D cy A s) (hl0 : l.stackTraces = false) (hexc : ∀ x ∈ c.exceptionTable.toList, False) : ∀ {S : wS} {H : Heap} {locs : List Loc} {ls : Array Slot} {a0 : Nat} {x1 : Int32}, wp_X11_moveTo_0 D post xp S a0 x1 → wO D cy X A s.heap S H locs → wX D S0 S → lv_has ls 2 [(0, .ref a0), (1, .int x1)] → wM D S a0 → sK S a0 = 16 → W p l e r_X11_moveTo s m args below meth c H locs 0 0 (vx_MQ below (va_Qi (fun r S9 => wX D S0 S9 ∧ post r S9) (wB D cy X A) A) (wEx D cy X A (fun E S9 => wX D S0 S9 ∧ xp E S9)) args s 2 12 A) (F0 m 0 ls []) := by
  obtain ⟨hx, hb, hml, hown, hts⟩ := id F
  have hwg : ∀ w ∈ WG, w.before args s = true := fun w h => hts w (List.mem_cons_of_mem _ h)
  intro S H locs ls a0 x1 hp hW hE hl hL_a0 hK_a0
  unfold wp_X11_moveTo_0 at hp
  refine lv_aload_n hx hb dX11_moveTo_0 rfl (lv_at hl 0 rfl) ?_
  refine lv_iload_n hx hb dX11_moveTo_1 rfl (lv_at hl 1 rfl) ?_
  refine x_callI (vx_runV (As := [.int x1]) (rest := []) F (c_X11_codeOf l hl0 hL_a0 hK_a0 hp H.size) (cwV (C := RX11) 1 hts (wg_V wm_RX11_264 wy_X11_codeOf) rfl rfl rfl (by decide +kernel) ⟨Nat.le_of_ble_eq_true rfl, Nat.le_of_ble_eq_true rfl⟩) (w_preV hK hW hL_a0 hK_a0 (by decide) rfl) rfl rfl hl.1 rfl (lv_room (Nat.le_of_ble_eq_true rfl)) dX11_moveTo_2 ⟨Nat.le_of_ble_eq_true rfl, Nat.le_of_ble_eq_true rfl⟩) hW (fun E ce q9 S9 H locs hp hW h1 h2 h3 => x_out hexc hlocks ⟨hE.trans hp.1, hp.2⟩ hW h1 h2 h3 (by decide) (by decide)) (fun r_1 S_2 H locs hp hW => ?_)
  obtain ⟨hX_S_2, hp⟩ := hp
  refine W.widen (k := 2) (n := 12) (by decide) (by decide) ?_
  have hE := hE.trans hX_S_2
  have hK_a0 : sK S_2 a0 = 16 := (hX_S_2.2 a0 hL_a0).1.trans hK_a0
  have hL_a0 : wM D S_2 a0 := hX_S_2.M hL_a0
  refine w_callI (va_runS (As := [.int r_1]) (rest := []) F (c_X11_toOf l hp H.size) (va_cwS 1 hts (wg_S wm_RX11_270 wy_X11_toOf) rfl rfl rfl (by decide +kernel) ⟨Nat.le_of_ble_eq_true rfl, Nat.le_of_ble_eq_true rfl⟩) (w_preS hK hW) rfl rfl hl.1 rfl (lv_room (Nat.le_of_ble_eq_true rfl)) dX11_moveTo_5 ⟨Nat.le_of_ble_eq_true rfl, Nat.le_of_ble_eq_true rfl⟩) hW (fun r_3 S_4 H locs hp hW => ?_)
  obtain ⟨hX_S_4, hp⟩ := hp
  refine W.widen (k := 2) (n := 12) (by decide) (by decide) ?_
  have hE := hE.trans hX_S_4
  have hK_a0 : sK S_4 a0 = 16 := (hX_S_4.2 a0 hL_a0).1.trans hK_a0
  have hL_a0 : wM D S_4 a0 := hX_S_4.M hL_a0
  refine vx_ret ?_
  exact w_iret hx hb hr hlocks hW ⟨hE, hp⟩ dX11_moveTo_8
set_option maxHeartbeats 4000000 in
set_option maxRecDepth 100000 in
theorem c_X11_moveTo (l : Launch) {D : wD} {cy : Nat → ClassId} {X : va_W} {S0 : wS} {post : Int32 → wS → Prop} {xp : String → wS → Prop} (hl0 : l.stackTraces = false) {a0 : Nat} {x1 : Int32} (hL_a0 : wM D S0 a0) (hK_a0 : sK S0 a0 = 16) (hp : wp_X11_moveTo D post xp S0 a0 x1) : xI D cy X l yX11_moveTo wz_X11_moveTo r_X11_moveTo [.ref a0, .int x1] S0 (fun r S9 => wX D S0 S9 ∧ post r S9) (fun E S9 => wX D S0 S9 ∧ xp E S9) := by
  intro sz
  refine vx_ofW (cc := cX11_moveTo) (maxL := 2) (ret := (some .int)) (by decide) rfl ?_
  intro p e s m args below meth c s₁ B hml hexc hv
  obtain ⟨rfl, hsz, hP, hK, hD0, hRO⟩ := hv
  have hts := atoms_spec (ws := wz_X11_moveTo) B.pre
  have hown : s.vm.findClass RX11 = some m.cls := findClass_of_methodNamed B.named
  subst hsz
  have hD := hD0.self (sz := s.heap.size)
  have F : CallFix p m c cX11_moveTo 2 s _ wz_X11_moveTo RX11 := ⟨B.exec, B.bytes, hml, hown, hts⟩
  have hr := B.returns
  have hlocks := B.notSynchronized
  generalize hAe : va_A (wL cy X S0) s.heap.size = A at hD hK ⊢
  have hA : ∀ q, s.heap.size ≤ q → A q := fun q h => by rw [← hAe]; exact Or.inr h
  have hW : wO D cy X A s.heap S0 s.heap [] := ⟨hP, hD, va_S.rf, hA, hRO⟩
  have hl := lv_entry ([.ref a0, .int x1]) (n := 2) (Nat.le_of_ble_eq_true rfl)
  rw [lg_entry_eq]
  generalize (lg_sl ([.ref a0, .int x1]) ++ List.replicate (2 - (lg_sl ([.ref a0, .int x1])).length) Slot.unset).toArray = ls at hl ⊢
  have hl : lv_has ls 2 [(0, .ref a0), (1, .int x1)] := hl
  unfold wp_X11_moveTo at hp
  exact t_X11_moveTo_0 F hr hlocks hK hl0 hexc hp hW wX.rf (lv_sub hl [0, 1] rfl) hL_a0 hK_a0
def wp_X11_mustBeUnmoved_0 (D : wD) (post : wS → Prop) (xp : String → wS → Prop)  (S : wS) (a0 : Nat) : Prop :=
∃ y_1 : Nat, sR S a0 4 = some y_1 ∧ wM D S y_1 ∧ sK S y_1 = 8 ∧
(((sI S y_1 3) ≤ 0 → post S) ∧
 (¬ (sI S y_1 3) ≤ 0 → xp "java/lang/IllegalStateException" S))
abbrev r_X11_mustBeUnmoved : Room := { frames := 6, cells := 1, slots := 6, locals := 120 }
def wp_X11_mustBeUnmoved (D : wD) (post : wS → Prop) (xp : String → wS → Prop) (S : wS) (a0 : Nat) : Prop := wp_X11_mustBeUnmoved_0 D post xp S a0
set_option maxHeartbeats 4000000 in
set_option maxRecDepth 100000 in
theorem t_X11_mustBeUnmoved_0 {p : Program} {l : Launch} {e : Env} {s : State} {m : MethodId} {args : Array Value} {below : List Frame} {meth : Method} {c : Code} {D : wD} {cy : Nat → ClassId} {X : va_W} {A : Nat → Prop} {S0 : wS} {post : wS → Prop} {xp : String → wS → Prop} (F : CallFix p m c cX11_mustBeUnmoved 1 s args wz_X11_mustBeUnmoved RX11) (hr : meth.sig.returnType = none) (hlocks : meth.locks = false) (hK : wK D cy A s) (hl0 : l.stackTraces = false) (hexc : ∀ x ∈ c.exceptionTable.toList, False) : ∀ {S : wS} {H : Heap} {locs : List Loc} {ls : Array Slot} {a0 : Nat}, wp_X11_mustBeUnmoved_0 D post xp S a0 → wO D cy X A s.heap S H locs → wX D S0 S → lv_has ls 1 [(0, .ref a0)] → wM D S a0 → sK S a0 = 16 → W p l e r_X11_mustBeUnmoved s m args below meth c H locs 0 0 (vx_MQ below (va_Qv (fun S9 => wX D S0 S9 ∧ post S9) (wB D cy X A) A) (wEx D cy X A (fun E S9 => wX D S0 S9 ∧ xp E S9)) args s 1 6 A) (F0 m 0 ls []) := by
  obtain ⟨hx, hb, hml, hown, hts⟩ := id F
  have hwg : ∀ w ∈ WG, w.before args s = true := fun w h => hts w (List.mem_cons_of_mem _ h)
  have i_16 : ∀ w ∈ u_ws RX11 TX11 18, w ∈ wz_X11_mustBeUnmoved := fun w h => List.mem_cons_of_mem _ (wu_16 w h)
  have i_8 : ∀ w ∈ u_ws RX3 TX3 9, w ∈ wz_X11_mustBeUnmoved := fun w h => List.mem_cons_of_mem _ (wu_8 w h)
  have k_40 := hwg _ wf_RX11_40
  intro S H locs ls a0 hp hW hE hl hL_a0 hK_a0
  unfold wp_X11_mustBeUnmoved_0 at hp
  refine lv_aload_n hx hb dX11_mustBeUnmoved_0 rfl (lv_at hl 0 rfl) ?_
  obtain ⟨y_1, ey_1, hL_y_1, hK_y_1, hp⟩ := hp
  refine w_get (k := 16) (f := 4) (T := TX11) (v := .ref y_1) F hK hW hL_a0 hK_a0 (by decide) rfl rfl (by decide) i_16 k_40 (by rw [show wv 16 4 S a0 = va_rf (sR S a0 4) from rfl, ey_1]; rfl) dX11_mustBeUnmoved_1 ?_
  refine w_getN (k := 8) (f := 3) (T := TX3) (v := .int (sI S y_1 3)) F hK hW hL_y_1 hK_y_1 (by decide) rfl rfl (by decide) i_8 (hK.2.1 (.fieldLinkNest "OpeningsCabinet" 157 "OpeningsCabinet$Game" "length" "I" "OpeningsCabinet") (by decide +kernel)) rfl dX11_mustBeUnmoved_4 ?_
  refine lv_if_le (tgt := 21) hx hb dX11_mustBeUnmoved_7 (by decide) (fun c_2 => ?_) (fun c_2 => ?_)
  · replace hp := hp.1 c_2
    refine W.widen (k := 1) (n := 6) (by decide) (by decide) ?_
    refine vx_ret ?_
    exact w_vret hx hb hr hlocks hW ⟨hE, hp⟩ dX11_mustBeUnmoved_21
  · replace hp := hp.2 c_2
    exact x_throwW (ls := ls) F hK hW hl0 (by decide) (hwg _ wc_RX11_285) (hwg _ wi_java_lang_IllegalStateException) (show ("OpeningsCabinet", 497, "a move was made", 14) ∈ wStr by decide +kernel) (wa_RX11_289 hwg hK.2.1) wa_RX11_289_ok hl.1 hexc hlocks dX11_mustBeUnmoved_10 dX11_mustBeUnmoved_13 dX11_mustBeUnmoved_14 dX11_mustBeUnmoved_17 dX11_mustBeUnmoved_20 (Nat.le_of_ble_eq_true rfl) (Nat.le_of_ble_eq_true rfl) (Nat.le_of_ble_eq_true rfl) (Nat.le_of_ble_eq_true rfl) (by decide) (by decide) ⟨hE, hp⟩
set_option maxHeartbeats 4000000 in
set_option maxRecDepth 100000 in
theorem c_X11_mustBeUnmoved (l : Launch) {D : wD} {cy : Nat → ClassId} {X : va_W} {S0 : wS} {post : wS → Prop} {xp : String → wS → Prop} (hl0 : l.stackTraces = false) {a0 : Nat} (hL_a0 : wM D S0 a0) (hK_a0 : sK S0 a0 = 16) (hp : wp_X11_mustBeUnmoved D post xp S0 a0) : xV D cy X l yX11_mustBeUnmoved wz_X11_mustBeUnmoved r_X11_mustBeUnmoved [.ref a0] S0 (fun S9 => wX D S0 S9 ∧ post S9) (fun E S9 => wX D S0 S9 ∧ xp E S9) := by
  intro sz
  refine vx_ofW (cc := cX11_mustBeUnmoved) (maxL := 1) (ret := none) (by decide) rfl ?_
  intro p e s m args below meth c s₁ B hml hexc hv
  obtain ⟨rfl, hsz, hP, hK, hD0, hRO⟩ := hv
  have hts := atoms_spec (ws := wz_X11_mustBeUnmoved) B.pre
  have hown : s.vm.findClass RX11 = some m.cls := findClass_of_methodNamed B.named
  subst hsz
  have hD := hD0.self (sz := s.heap.size)
  have F : CallFix p m c cX11_mustBeUnmoved 1 s _ wz_X11_mustBeUnmoved RX11 := ⟨B.exec, B.bytes, hml, hown, hts⟩
  have hr := B.returns
  have hlocks := B.notSynchronized
  generalize hAe : va_A (wL cy X S0) s.heap.size = A at hD hK ⊢
  have hA : ∀ q, s.heap.size ≤ q → A q := fun q h => by rw [← hAe]; exact Or.inr h
  have hW : wO D cy X A s.heap S0 s.heap [] := ⟨hP, hD, va_S.rf, hA, hRO⟩
  have hl := lv_entry ([.ref a0]) (n := 1) (Nat.le_of_ble_eq_true rfl)
  rw [lg_entry_eq]
  generalize (lg_sl ([.ref a0]) ++ List.replicate (1 - (lg_sl ([.ref a0])).length) Slot.unset).toArray = ls at hl ⊢
  have hl : lv_has ls 1 [(0, .ref a0)] := hl
  unfold wp_X11_mustBeUnmoved at hp
  exact t_X11_mustBeUnmoved_0 F hr hlocks hK hl0 hexc hp hW wX.rf (lv_sub hl [0] rfl) hL_a0 hK_a0
def wp_X11_passingSquare_0 (D : wD) (post : Int32 → wS → Prop)  (S : wS) (a0 : Nat) : Prop :=
∃ y_1 : Nat, sR S a0 2 = some y_1 ∧ wM D S y_1 ∧ sK S y_1 = 12 ∧
post (sI S y_1 7) S
abbrev r_X11_passingSquare : Room := { frames := 0, cells := 0, slots := 0, locals := 0 }
def wp_X11_passingSquare (D : wD) (post : Int32 → wS → Prop) (S : wS) (a0 : Nat) : Prop := wp_X11_passingSquare_0 D post S a0
set_option maxHeartbeats 4000000 in
set_option maxRecDepth 100000 in
theorem t_X11_passingSquare_0 {p : Program} {l : Launch} {e : Env} {s : State} {m : MethodId} {args : Array Value} {below : List Frame} {meth : Method} {c : Code} {D : wD} {cy : Nat → ClassId} {X : va_W} {A : Nat → Prop} {S0 : wS} {post : Int32 → wS → Prop} (F : CallFix p m c cX11_passingSquare 1 s args wz_X11_passingSquare RX11) (hr : meth.sig.returnType = (some .int)) (hlocks : meth.locks = false) (hK : wK D cy A s) : ∀ {S : wS} {H : Heap} {locs : List Loc} {ls : Array Slot} {a0 : Nat}, wp_X11_passingSquare_0 D post S a0 → wO D cy X A s.heap S H locs → wX D S0 S → lv_has ls 1 [(0, .ref a0)] → wM D S a0 → sK S a0 = 16 → W p l e r_X11_passingSquare s m args below meth c H locs 0 0 (MQ below (va_Qi (fun r S9 => wX D S0 S9 ∧ post r S9) (wB D cy X A) A) args s 0 0 A) (F0 m 0 ls []) := by
  obtain ⟨hx, hb, hml, hown, hts⟩ := id F
  have hwg : ∀ w ∈ WG, w.before args s = true := fun w h => hts w (List.mem_cons_of_mem _ h)
  have i_12 : ∀ w ∈ u_ws RX7 TX7 8, w ∈ wz_X11_passingSquare := fun w h => List.mem_cons_of_mem _ (wu_12 w h)
  have i_16 : ∀ w ∈ u_ws RX11 TX11 18, w ∈ wz_X11_passingSquare := fun w h => List.mem_cons_of_mem _ (wu_16 w h)
  have k_28 := hwg _ wf_RX11_28
  intro S H locs ls a0 hp hW hE hl hL_a0 hK_a0
  unfold wp_X11_passingSquare_0 at hp
  refine lv_aload_n hx hb dX11_passingSquare_0 rfl (lv_at hl 0 rfl) ?_
  obtain ⟨y_1, ey_1, hL_y_1, hK_y_1, hp⟩ := hp
  refine w_get (k := 16) (f := 2) (T := TX11) (v := .ref y_1) F hK hW hL_a0 hK_a0 (by decide) rfl rfl (by decide) i_16 k_28 (by rw [show wv 16 2 S a0 = va_rf (sR S a0 2) from rfl, ey_1]; rfl) dX11_passingSquare_1 ?_
  refine w_getN (k := 12) (f := 7) (T := TX7) (v := .int (sI S y_1 7)) F hK hW hL_y_1 hK_y_1 (by decide) rfl rfl (by decide) i_12 (hK.2.1 (.fieldLinkNest "OpeningsCabinet" 178 "OpeningsCabinet$Position" "passing" "I" "OpeningsCabinet") (by decide +kernel)) rfl dX11_passingSquare_4 ?_
  exact w_iret hx hb hr hlocks hW ⟨hE, hp⟩ dX11_passingSquare_7
set_option maxHeartbeats 4000000 in
set_option maxRecDepth 100000 in
theorem c_X11_passingSquare (l : Launch) {D : wD} {cy : Nat → ClassId} {X : va_W} {S0 : wS} {post : Int32 → wS → Prop} {a0 : Nat} (hL_a0 : wM D S0 a0) (hK_a0 : sK S0 a0 = 16) (hp : wp_X11_passingSquare D post S0 a0) : mI D cy X l yX11_passingSquare wz_X11_passingSquare r_X11_passingSquare [.ref a0] S0 (fun r S9 => wX D S0 S9 ∧ post r S9) := by
  intro sz
  refine Met.ofW (cc := cX11_passingSquare) (maxL := 1) (ret := (some .int)) (by decide) rfl ?_
  intro p e s m args below meth c s₁ B hml hv
  obtain ⟨rfl, hsz, hP, hK, hD0, hRO⟩ := hv
  have hts := atoms_spec (ws := wz_X11_passingSquare) B.pre
  have hown : s.vm.findClass RX11 = some m.cls := findClass_of_methodNamed B.named
  subst hsz
  have hD := hD0.self (sz := s.heap.size)
  have F : CallFix p m c cX11_passingSquare 1 s _ wz_X11_passingSquare RX11 := ⟨B.exec, B.bytes, hml, hown, hts⟩
  have hr := B.returns
  have hlocks := B.notSynchronized
  generalize hAe : va_A (wL cy X S0) s.heap.size = A at hD hK ⊢
  have hA : ∀ q, s.heap.size ≤ q → A q := fun q h => by rw [← hAe]; exact Or.inr h
  have hW : wO D cy X A s.heap S0 s.heap [] := ⟨hP, hD, va_S.rf, hA, hRO⟩
  have hl := lv_entry ([.ref a0]) (n := 1) (Nat.le_of_ble_eq_true rfl)
  rw [lg_entry_eq]
  generalize (lg_sl ([.ref a0]) ++ List.replicate (1 - (lg_sl ([.ref a0])).length) Slot.unset).toArray = ls at hl ⊢
  have hl : lv_has ls 1 [(0, .ref a0)] := hl
  unfold wp_X11_passingSquare at hp
  exact t_X11_passingSquare_0 F hr hlocks hK hp hW wX.rf (lv_sub hl [0] rfl) hL_a0 hK_a0
def wp_X11_pieceAt_0 (D : wD) (post : Int32 → wS → Prop) (xp : String → wS → Prop)  (S : wS) (a0 : Nat) (x1 : Int32) : Prop :=
wp_X11_mustBeSquare D (fun S_2 => 
∃ y_3 : Nat, sR S_2 a0 2 = some y_3 ∧ wM D S_2 y_3 ∧ sK S_2 y_3 = 12 ∧
wp_X7_pieceOn D (fun r_4 S_5 => 
post r_4 S_5) S_2 y_3 x1) xp S a0 x1
abbrev r_X11_pieceAt : Room := { frames := 7, cells := 1, slots := 6, locals := 141 }
def wp_X11_pieceAt (D : wD) (post : Int32 → wS → Prop) (xp : String → wS → Prop) (S : wS) (a0 : Nat) (x1 : Int32) : Prop := wp_X11_pieceAt_0 D post xp S a0 x1
set_option maxHeartbeats 4000000 in
set_option maxRecDepth 100000 in
theorem t_X11_pieceAt_0 {p : Program} {l : Launch} {e : Env} {s : State} {m : MethodId} {args : Array Value} {below : List Frame} {meth : Method} {c : Code} {D : wD} {cy : Nat → ClassId} {X : va_W} {A : Nat → Prop} {S0 : wS} {post : Int32 → wS → Prop} {xp : String → wS → Prop} (F : CallFix p m c cX11_pieceAt 2 s args wz_X11_pieceAt RX11) (hr : meth.sig.returnType = (some .int)) (hlocks : meth.locks = false) (hK : wK D cy A s) (hl0 : l.stackTraces = false) (hexc : ∀ x ∈ c.exceptionTable.toList, False) : ∀ {S : wS} {H : Heap} {locs : List Loc} {ls : Array Slot} {a0 : Nat} {x1 : Int32}, wp_X11_pieceAt_0 D post xp S a0 x1 → wO D cy X A s.heap S H locs → wX D S0 S → lv_has ls 2 [(0, .ref a0), (1, .int x1)] → wM D S a0 → sK S a0 = 16 → W p l e r_X11_pieceAt s m args below meth c H locs 0 0 (vx_MQ below (va_Qi (fun r S9 => wX D S0 S9 ∧ post r S9) (wB D cy X A) A) (wEx D cy X A (fun E S9 => wX D S0 S9 ∧ xp E S9)) args s 1 6 A) (F0 m 0 ls []) := by
  obtain ⟨hx, hb, hml, hown, hts⟩ := id F
  have hwg : ∀ w ∈ WG, w.before args s = true := fun w h => hts w (List.mem_cons_of_mem _ h)
  have i_16 : ∀ w ∈ u_ws RX11 TX11 18, w ∈ wz_X11_pieceAt := fun w h => List.mem_cons_of_mem _ (wu_16 w h)
  have k_28 := hwg _ wf_RX11_28
  intro S H locs ls a0 x1 hp hW hE hl hL_a0 hK_a0
  unfold wp_X11_pieceAt_0 at hp
  refine lv_aload_n hx hb dX11_pieceAt_0 rfl (lv_at hl 0 rfl) ?_
  refine lv_iload_n hx hb dX11_pieceAt_1 rfl (lv_at hl 1 rfl) ?_
  refine x_callV (vx_runV (As := [.int x1]) (rest := []) F (c_X11_mustBeSquare l hl0 hL_a0 hK_a0 hp H.size) (cwV (C := RX11) 1 hts (wg_V wm_RX11_160 wy_X11_mustBeSquare) rfl rfl rfl (by decide +kernel) ⟨Nat.le_of_ble_eq_true rfl, Nat.le_of_ble_eq_true rfl⟩) (w_preV hK hW hL_a0 hK_a0 (by decide) rfl) rfl rfl hl.1 rfl (lv_room (Nat.le_of_ble_eq_true rfl)) dX11_pieceAt_2 ⟨Nat.le_of_ble_eq_true rfl, Nat.le_of_ble_eq_true rfl⟩) hW (fun E ce q9 S9 H locs hp hW h1 h2 h3 => x_out hexc hlocks ⟨hE.trans hp.1, hp.2⟩ hW h1 h2 h3 (by decide) (by decide)) (fun S_2 H locs hp hW => ?_)
  obtain ⟨hX_S_2, hp⟩ := hp
  refine W.widen (k := 1) (n := 6) (by decide) (by decide) ?_
  have hE := hE.trans hX_S_2
  have hK_a0 : sK S_2 a0 = 16 := (hX_S_2.2 a0 hL_a0).1.trans hK_a0
  have hL_a0 : wM D S_2 a0 := hX_S_2.M hL_a0
  refine lv_aload_n hx hb dX11_pieceAt_5 rfl (lv_at hl 0 rfl) ?_
  obtain ⟨y_3, ey_3, hL_y_3, hK_y_3, hp⟩ := hp
  refine w_get (k := 16) (f := 2) (T := TX11) (v := .ref y_3) F hK hW hL_a0 hK_a0 (by decide) rfl rfl (by decide) i_16 k_28 (by rw [show wv 16 2 S_2 a0 = va_rf (sR S_2 a0 2) from rfl, ey_3]; rfl) dX11_pieceAt_6 ?_
  refine lv_iload_n hx hb dX11_pieceAt_9 rfl (lv_at hl 1 rfl) ?_
  refine w_callI (va_runV (As := [.int x1]) (rest := []) F (c_X7_pieceOn l hL_y_3 hK_y_3 hp H.size) (cwV (C := RX7) 1 hts (wg_V wm_RX11_168 wy_X7_pieceOn) rfl rfl rfl (by decide +kernel) ⟨Nat.le_of_ble_eq_true rfl, Nat.le_of_ble_eq_true rfl⟩) (w_preV hK hW hL_y_3 hK_y_3 (by decide) rfl) rfl rfl hl.1 rfl (lv_room (Nat.le_of_ble_eq_true rfl)) dX11_pieceAt_10 ⟨Nat.le_of_ble_eq_true rfl, Nat.le_of_ble_eq_true rfl⟩) hW (fun r_4 S_5 H locs hp hW => ?_)
  obtain ⟨hX_S_5, hp⟩ := hp
  refine W.widen (k := 1) (n := 6) (by decide) (by decide) ?_
  have hE := hE.trans hX_S_5
  have hK_a0 : sK S_5 a0 = 16 := (hX_S_5.2 a0 hL_a0).1.trans hK_a0
  have hL_a0 : wM D S_5 a0 := hX_S_5.M hL_a0
  refine vx_ret ?_
  exact w_iret hx hb hr hlocks hW ⟨hE, hp⟩ dX11_pieceAt_13
set_option maxHeartbeats 4000000 in
set_option maxRecDepth 100000 in
theorem c_X11_pieceAt (l : Launch) {D : wD} {cy : Nat → ClassId} {X : va_W} {S0 : wS} {post : Int32 → wS → Prop} {xp : String → wS → Prop} (hl0 : l.stackTraces = false) {a0 : Nat} {x1 : Int32} (hL_a0 : wM D S0 a0) (hK_a0 : sK S0 a0 = 16) (hp : wp_X11_pieceAt D post xp S0 a0 x1) : xI D cy X l yX11_pieceAt wz_X11_pieceAt r_X11_pieceAt [.ref a0, .int x1] S0 (fun r S9 => wX D S0 S9 ∧ post r S9) (fun E S9 => wX D S0 S9 ∧ xp E S9) := by
  intro sz
  refine vx_ofW (cc := cX11_pieceAt) (maxL := 2) (ret := (some .int)) (by decide) rfl ?_
  intro p e s m args below meth c s₁ B hml hexc hv
  obtain ⟨rfl, hsz, hP, hK, hD0, hRO⟩ := hv
  have hts := atoms_spec (ws := wz_X11_pieceAt) B.pre
  have hown : s.vm.findClass RX11 = some m.cls := findClass_of_methodNamed B.named
  subst hsz
  have hD := hD0.self (sz := s.heap.size)
  have F : CallFix p m c cX11_pieceAt 2 s _ wz_X11_pieceAt RX11 := ⟨B.exec, B.bytes, hml, hown, hts⟩
  have hr := B.returns
  have hlocks := B.notSynchronized
  generalize hAe : va_A (wL cy X S0) s.heap.size = A at hD hK ⊢
  have hA : ∀ q, s.heap.size ≤ q → A q := fun q h => by rw [← hAe]; exact Or.inr h
  have hW : wO D cy X A s.heap S0 s.heap [] := ⟨hP, hD, va_S.rf, hA, hRO⟩
  have hl := lv_entry ([.ref a0, .int x1]) (n := 2) (Nat.le_of_ble_eq_true rfl)
  rw [lg_entry_eq]
  generalize (lg_sl ([.ref a0, .int x1]) ++ List.replicate (2 - (lg_sl ([.ref a0, .int x1])).length) Slot.unset).toArray = ls at hl ⊢
  have hl : lv_has ls 2 [(0, .ref a0), (1, .int x1)] := hl
  unfold wp_X11_pieceAt at hp
  exact t_X11_pieceAt_0 F hr hlocks hK hl0 hexc hp hW wX.rf (lv_sub hl [0, 1] rfl) hL_a0 hK_a0
def wp_X3_piecesAt_0 (D : wD) (post : Int32 → wS → Prop)  (S : wS) (a0 : Nat) (x1 : Int32) : Prop :=
wp_X3_planeAt D (fun r_1 S_2 => 
wp_X3_planeAt D (fun r_3 S_4 => 
wp_X3_planeAt D (fun r_5 S_6 => 
wp_J13_bitCount_95d88 D (fun r_7 S_8 => 
post r_7 S_8) S_6 ((r_1 ||| r_3) ||| r_5)) S_4 a0 x1 (3 : Int32)) S_2 a0 x1 (2 : Int32)) S a0 x1 (1 : Int32)
abbrev r_X3_piecesAt : Room := { frames := 1, cells := 0, slots := 0, locals := 23 }
def wp_X3_piecesAt (D : wD) (post : Int32 → wS → Prop) (S : wS) (a0 : Nat) (x1 : Int32) : Prop := wp_X3_piecesAt_0 D post S a0 x1
set_option maxHeartbeats 4000000 in
set_option maxRecDepth 100000 in
theorem t_X3_piecesAt_0 {p : Program} {l : Launch} {e : Env} {s : State} {m : MethodId} {args : Array Value} {below : List Frame} {meth : Method} {c : Code} {D : wD} {cy : Nat → ClassId} {X : va_W} {A : Nat → Prop} {S0 : wS} {post : Int32 → wS → Prop} (F : CallFix p m c cX3_piecesAt 2 s args wz_X3_piecesAt RX3) (hr : meth.sig.returnType = (some .int)) (hlocks : meth.locks = false) (hK : wK D cy A s) : ∀ {S : wS} {H : Heap} {locs : List Loc} {ls : Array Slot} {a0 : Nat} {x1 : Int32}, wp_X3_piecesAt_0 D post S a0 x1 → wO D cy X A s.heap S H locs → wX D S0 S → lv_has ls 2 [(0, .ref a0), (1, .int x1)] → wM D S a0 → sK S a0 = 8 → W p l e r_X3_piecesAt s m args below meth c H locs 0 0 (MQ below (va_Qi (fun r S9 => wX D S0 S9 ∧ post r S9) (wB D cy X A) A) args s 0 0 A) (F0 m 0 ls []) := by
  obtain ⟨hx, hb, hml, hown, hts⟩ := id F
  have hwg : ∀ w ∈ WG, w.before args s = true := fun w h => hts w (List.mem_cons_of_mem _ h)
  intro S H locs ls a0 x1 hp hW hE hl hL_a0 hK_a0
  unfold wp_X3_piecesAt_0 at hp
  refine lv_aload_n hx hb dX3_piecesAt_0 rfl (lv_at hl 0 rfl) ?_
  refine lv_iload_n hx hb dX3_piecesAt_1 rfl (lv_at hl 1 rfl) ?_
  refine lv_iconst (v := 1) hx hb dX3_piecesAt_2 (by decide) ?_
  refine w_callJ (va_runV (As := [.int x1, .int (1 : Int32)]) (rest := []) F (c_X3_planeAt l hL_a0 hK_a0 hp H.size) (cwV (C := RX3) 2 hts (wg_V wm_RX3_65 wy_X3_planeAt) rfl rfl rfl (by decide +kernel) ⟨Nat.le_of_ble_eq_true rfl, Nat.le_of_ble_eq_true rfl⟩) (w_preV hK hW hL_a0 hK_a0 (by decide) rfl) rfl rfl hl.1 rfl (lv_room (Nat.le_of_ble_eq_true rfl)) dX3_piecesAt_3 ⟨Nat.le_of_ble_eq_true rfl, Nat.le_of_ble_eq_true rfl⟩) hW (fun r_1 S_2 H locs hp hW => ?_)
  obtain ⟨hX_S_2, hp⟩ := hp
  refine W.widen (k := 0) (n := 0) (by decide) (by decide) ?_
  have hE := hE.trans hX_S_2
  have hK_a0 : sK S_2 a0 = 8 := (hX_S_2.2 a0 hL_a0).1.trans hK_a0
  have hL_a0 : wM D S_2 a0 := hX_S_2.M hL_a0
  refine lv_aload_n hx hb dX3_piecesAt_6 rfl (lv_at hl 0 rfl) ?_
  refine lv_iload_n hx hb dX3_piecesAt_7 rfl (lv_at hl 1 rfl) ?_
  refine lv_iconst (v := 2) hx hb dX3_piecesAt_8 (by decide) ?_
  refine w_callJ (va_runV (As := [.int x1, .int (2 : Int32)]) (rest := [.long r_1]) F (c_X3_planeAt l hL_a0 hK_a0 hp H.size) (cwV (C := RX3) 2 hts (wg_V wm_RX3_65 wy_X3_planeAt) rfl rfl rfl (by decide +kernel) ⟨Nat.le_of_ble_eq_true rfl, Nat.le_of_ble_eq_true rfl⟩) (w_preV hK hW hL_a0 hK_a0 (by decide) rfl) rfl rfl hl.1 rfl (lv_room (Nat.le_of_ble_eq_true rfl)) dX3_piecesAt_9 ⟨Nat.le_of_ble_eq_true rfl, Nat.le_of_ble_eq_true rfl⟩) hW (fun r_3 S_4 H locs hp hW => ?_)
  obtain ⟨hX_S_4, hp⟩ := hp
  refine W.widen (k := 0) (n := 0) (by decide) (by decide) ?_
  have hE := hE.trans hX_S_4
  have hK_a0 : sK S_4 a0 = 8 := (hX_S_4.2 a0 hL_a0).1.trans hK_a0
  have hL_a0 : wM D S_4 a0 := hX_S_4.M hL_a0
  refine lv_lor hx hb dX3_piecesAt_12 ?_
  refine lv_aload_n hx hb dX3_piecesAt_13 rfl (lv_at hl 0 rfl) ?_
  refine lv_iload_n hx hb dX3_piecesAt_14 rfl (lv_at hl 1 rfl) ?_
  refine lv_iconst (v := 3) hx hb dX3_piecesAt_15 (by decide) ?_
  refine w_callJ (va_runV (As := [.int x1, .int (3 : Int32)]) (rest := [.long (r_1 ||| r_3)]) F (c_X3_planeAt l hL_a0 hK_a0 hp H.size) (cwV (C := RX3) 2 hts (wg_V wm_RX3_65 wy_X3_planeAt) rfl rfl rfl (by decide +kernel) ⟨Nat.le_of_ble_eq_true rfl, Nat.le_of_ble_eq_true rfl⟩) (w_preV hK hW hL_a0 hK_a0 (by decide) rfl) rfl rfl hl.1 rfl (lv_room (Nat.le_of_ble_eq_true rfl)) dX3_piecesAt_16 ⟨Nat.le_of_ble_eq_true rfl, Nat.le_of_ble_eq_true rfl⟩) hW (fun r_5 S_6 H locs hp hW => ?_)
  obtain ⟨hX_S_6, hp⟩ := hp
  refine W.widen (k := 0) (n := 0) (by decide) (by decide) ?_
  have hE := hE.trans hX_S_6
  have hK_a0 : sK S_6 a0 = 8 := (hX_S_6.2 a0 hL_a0).1.trans hK_a0
  have hL_a0 : wM D S_6 a0 := hX_S_6.M hL_a0
  refine lv_lor hx hb dX3_piecesAt_19 ?_
  refine w_callI (va_runS (As := [.long ((r_1 ||| r_3) ||| r_5)]) (rest := []) F (c_J13_bitCount_95d88 l hp H.size) (va_cwS 1 hts (wg_S wm_RX3_83 wy_J13_bitCount_95d88) rfl rfl rfl (by decide +kernel) ⟨Nat.le_of_ble_eq_true rfl, Nat.le_of_ble_eq_true rfl⟩) (w_preS hK hW) rfl rfl hl.1 rfl (lv_room (Nat.le_of_ble_eq_true rfl)) dX3_piecesAt_20 ⟨Nat.le_of_ble_eq_true rfl, Nat.le_of_ble_eq_true rfl⟩) hW (fun r_7 S_8 H locs hp hW => ?_)
  obtain ⟨hX_S_8, hp⟩ := hp
  refine W.widen (k := 0) (n := 0) (by decide) (by decide) ?_
  have hE := hE.trans hX_S_8
  have hK_a0 : sK S_8 a0 = 8 := (hX_S_8.2 a0 hL_a0).1.trans hK_a0
  have hL_a0 : wM D S_8 a0 := hX_S_8.M hL_a0
  exact w_iret hx hb hr hlocks hW ⟨hE, hp⟩ dX3_piecesAt_23
set_option maxHeartbeats 4000000 in
set_option maxRecDepth 100000 in
theorem c_X3_piecesAt (l : Launch) {D : wD} {cy : Nat → ClassId} {X : va_W} {S0 : wS} {post : Int32 → wS → Prop} {a0 : Nat} {x1 : Int32} (hL_a0 : wM D S0 a0) (hK_a0 : sK S0 a0 = 8) (hp : wp_X3_piecesAt D post S0 a0 x1) : mI D cy X l yX3_piecesAt wz_X3_piecesAt r_X3_piecesAt [.ref a0, .int x1] S0 (fun r S9 => wX D S0 S9 ∧ post r S9) := by
  intro sz
  refine Met.ofW (cc := cX3_piecesAt) (maxL := 2) (ret := (some .int)) (by decide) rfl ?_
  intro p e s m args below meth c s₁ B hml hv
  obtain ⟨rfl, hsz, hP, hK, hD0, hRO⟩ := hv
  have hts := atoms_spec (ws := wz_X3_piecesAt) B.pre
  have hown : s.vm.findClass RX3 = some m.cls := findClass_of_methodNamed B.named
  subst hsz
  have hD := hD0.self (sz := s.heap.size)
  have F : CallFix p m c cX3_piecesAt 2 s _ wz_X3_piecesAt RX3 := ⟨B.exec, B.bytes, hml, hown, hts⟩
  have hr := B.returns
  have hlocks := B.notSynchronized
  generalize hAe : va_A (wL cy X S0) s.heap.size = A at hD hK ⊢
  have hA : ∀ q, s.heap.size ≤ q → A q := fun q h => by rw [← hAe]; exact Or.inr h
  have hW : wO D cy X A s.heap S0 s.heap [] := ⟨hP, hD, va_S.rf, hA, hRO⟩
  have hl := lv_entry ([.ref a0, .int x1]) (n := 2) (Nat.le_of_ble_eq_true rfl)
  rw [lg_entry_eq]
  generalize (lg_sl ([.ref a0, .int x1]) ++ List.replicate (2 - (lg_sl ([.ref a0, .int x1])).length) Slot.unset).toArray = ls at hl ⊢
  have hl : lv_has ls 2 [(0, .ref a0), (1, .int x1)] := hl
  unfold wp_X3_piecesAt at hp
  exact t_X3_piecesAt_0 F hr hlocks hK hp hW wX.rf (lv_sub hl [0, 1] rfl) hL_a0 hK_a0
def wp_X3_calmMoves_69 (D : wD) (post : Int32 → wS → Prop)  (S : wS) (x1 : Int32) : Prop :=
post x1 S
def wp_X3_calmMoves_9 (D : wD) (post : Int32 → wS → Prop)  : Nat → wS → Nat → Int32 → Int32 → Prop
  | 0, _, _, _, _ => False
  | n + 1, S, a0, x1, x2 =>
    ((x2 < 0 → wp_X3_calmMoves_69 D post S x1) ∧
     (¬ x2 < 0 → wp_X3_planeAt D (fun r_2 S_3 => 
    wp_X3_planeAt D (fun r_4 S_5 => 
    wp_X3_moveAt D (fun r_6 S_7 => 
    wp_X11_fromOf D (fun r_8 S_9 => 
    wp_X11_contains D (fun r_10 S_11 => 
    ((¬ r_10 = 0 → wp_X3_calmMoves_69 D post S_11 x1) ∧
     (r_10 = 0 → wp_X3_piecesAt D (fun r_13 S_14 => 
    wp_X3_piecesAt D (fun r_15 S_16 => 
    ((r_13 = r_15 → ∀ x_18 : Int32, x_18 = x1 + 1 →
    ∀ x_19 : Int32, x_19 = x2 + (-1) →
    wp_X3_calmMoves_9 D post n S_16 a0 x_18 x_19) ∧
     (¬ r_13 = r_15 → wp_X3_calmMoves_69 D post S_16 x1))) S_14 a0 (x2 + (1 : Int32))) S_11 a0 x2))) S_9 (r_2 &&& r_4) r_8) S_7 r_6) S_5 a0 x2) S_3 a0 x2 (3 : Int32)) S a0 x2 (2 : Int32)))
def wp_X3_calmMoves_0 (D : wD) (post : Int32 → wS → Prop)  (S : wS) (a0 : Nat) : Prop :=
∀ x_1 : Int32, x_1 = ((sI S a0 3) - (1 : Int32)) →
∃ n_2 : Nat, wp_X3_calmMoves_9 D post n_2 S a0 (0 : Int32) x_1
abbrev r_X3_calmMoves : Room := { frames := 2, cells := 0, slots := 0, locals := 44 }
def wp_X3_calmMoves (D : wD) (post : Int32 → wS → Prop) (S : wS) (a0 : Nat) : Prop := wp_X3_calmMoves_0 D post S a0
set_option maxHeartbeats 4000000 in
set_option maxRecDepth 100000 in
theorem t_X3_calmMoves_69 {p : Program} {l : Launch} {e : Env} {s : State} {m : MethodId} {args : Array Value} {below : List Frame} {meth : Method} {c : Code} {D : wD} {cy : Nat → ClassId} {X : va_W} {A : Nat → Prop} {S0 : wS} {post : Int32 → wS → Prop} (F : CallFix p m c cX3_calmMoves 4 s args wz_X3_calmMoves RX3) (hr : meth.sig.returnType = (some .int)) (hlocks : meth.locks = false) (hK : wK D cy A s) : ∀ {S : wS} {H : Heap} {locs : List Loc} {ls : Array Slot} {x1 : Int32}, wp_X3_calmMoves_69 D post S x1 → wO D cy X A s.heap S H locs → wX D S0 S → lv_has ls 4 [(1, .int x1)] → W p l e r_X3_calmMoves s m args below meth c H locs 0 0 (MQ below (va_Qi (fun r S9 => wX D S0 S9 ∧ post r S9) (wB D cy X A) A) args s 0 0 A) (F0 m 69 ls []) := by
  obtain ⟨hx, hb, hml, hown, hts⟩ := id F
  have hwg : ∀ w ∈ WG, w.before args s = true := fun w h => hts w (List.mem_cons_of_mem _ h)
  intro S H locs ls x1 hp hW hE hl
  unfold wp_X3_calmMoves_69 at hp
  refine lv_iload_n hx hb dX3_calmMoves_69 rfl (lv_at hl 0 rfl) ?_
  exact w_iret hx hb hr hlocks hW ⟨hE, hp⟩ dX3_calmMoves_70
set_option maxHeartbeats 4000000 in
set_option maxRecDepth 100000 in
theorem t_X3_calmMoves_9 {p : Program} {l : Launch} {e : Env} {s : State} {m : MethodId} {args : Array Value} {below : List Frame} {meth : Method} {c : Code} {D : wD} {cy : Nat → ClassId} {X : va_W} {A : Nat → Prop} {S0 : wS} {post : Int32 → wS → Prop} (F : CallFix p m c cX3_calmMoves 4 s args wz_X3_calmMoves RX3) (hr : meth.sig.returnType = (some .int)) (hlocks : meth.locks = false) (hK : wK D cy A s) : ∀ (n : Nat) {S : wS} {H : Heap} {locs : List Loc} {ls : Array Slot} {a0 : Nat} {x1 : Int32} {x2 : Int32}, wp_X3_calmMoves_9 D post n S a0 x1 x2 → wO D cy X A s.heap S H locs → wX D S0 S → lv_has ls 4 [(0, .ref a0), (1, .int x1), (2, .int x2)] → wM D S a0 → sK S a0 = 8 → W p l e r_X3_calmMoves s m args below meth c H locs 0 0 (MQ below (va_Qi (fun r S9 => wX D S0 S9 ∧ post r S9) (wB D cy X A) A) args s 0 0 A) (F0 m 9 ls []) := by
  obtain ⟨hx, hb, hml, hown, hts⟩ := id F
  have hwg : ∀ w ∈ WG, w.before args s = true := fun w h => hts w (List.mem_cons_of_mem _ h)
  intro n
  induction n with
  | zero =>
    intro S H locs ls a0 x1 x2 hp
    exact hp.elim
  | succ n ih =>
    intro S H locs ls a0 x1 x2 hp hW hE hl hL_a0 hK_a0
    unfold wp_X3_calmMoves_9 at hp
    refine lv_iload_n hx hb dX3_calmMoves_9 rfl (lv_at hl 2 rfl) ?_
    refine lv_if_lt (tgt := 69) hx hb dX3_calmMoves_10 (by decide) (fun c_1 => ?_) (fun c_1 => ?_)
    · replace hp := hp.1 c_1
      exact t_X3_calmMoves_69 F hr hlocks hK hp hW hE (lv_sub hl [1] rfl)
    · replace hp := hp.2 c_1
      refine lv_aload_n hx hb dX3_calmMoves_13 rfl (lv_at hl 0 rfl) ?_
      refine lv_iload_n hx hb dX3_calmMoves_14 rfl (lv_at hl 2 rfl) ?_
      refine lv_iconst (v := 2) hx hb dX3_calmMoves_15 (by decide) ?_
      refine w_callJ (va_runV (As := [.int x2, .int (2 : Int32)]) (rest := []) F (c_X3_planeAt l hL_a0 hK_a0 hp H.size) (cwV (C := RX3) 2 hts (wg_V wm_RX3_65 wy_X3_planeAt) rfl rfl rfl (by decide +kernel) ⟨Nat.le_of_ble_eq_true rfl, Nat.le_of_ble_eq_true rfl⟩) (w_preV hK hW hL_a0 hK_a0 (by decide) rfl) rfl rfl hl.1 rfl (lv_room (Nat.le_of_ble_eq_true rfl)) dX3_calmMoves_16 ⟨Nat.le_of_ble_eq_true rfl, Nat.le_of_ble_eq_true rfl⟩) hW (fun r_2 S_3 H locs hp hW => ?_)
      obtain ⟨hX_S_3, hp⟩ := hp
      refine W.widen (k := 0) (n := 0) (by decide) (by decide) ?_
      have hE := hE.trans hX_S_3
      have hK_a0 : sK S_3 a0 = 8 := (hX_S_3.2 a0 hL_a0).1.trans hK_a0
      have hL_a0 : wM D S_3 a0 := hX_S_3.M hL_a0
      refine lv_aload_n hx hb dX3_calmMoves_19 rfl (lv_at hl 0 rfl) ?_
      refine lv_iload_n hx hb dX3_calmMoves_20 rfl (lv_at hl 2 rfl) ?_
      refine lv_iconst (v := 3) hx hb dX3_calmMoves_21 (by decide) ?_
      refine w_callJ (va_runV (As := [.int x2, .int (3 : Int32)]) (rest := [.long r_2]) F (c_X3_planeAt l hL_a0 hK_a0 hp H.size) (cwV (C := RX3) 2 hts (wg_V wm_RX3_65 wy_X3_planeAt) rfl rfl rfl (by decide +kernel) ⟨Nat.le_of_ble_eq_true rfl, Nat.le_of_ble_eq_true rfl⟩) (w_preV hK hW hL_a0 hK_a0 (by decide) rfl) rfl rfl hl.1 rfl (lv_room (Nat.le_of_ble_eq_true rfl)) dX3_calmMoves_22 ⟨Nat.le_of_ble_eq_true rfl, Nat.le_of_ble_eq_true rfl⟩) hW (fun r_4 S_5 H locs hp hW => ?_)
      obtain ⟨hX_S_5, hp⟩ := hp
      refine W.widen (k := 0) (n := 0) (by decide) (by decide) ?_
      have hE := hE.trans hX_S_5
      have hK_a0 : sK S_5 a0 = 8 := (hX_S_5.2 a0 hL_a0).1.trans hK_a0
      have hL_a0 : wM D S_5 a0 := hX_S_5.M hL_a0
      refine lv_land hx hb dX3_calmMoves_25 ?_
      refine lv_aload_n hx hb dX3_calmMoves_26 rfl (lv_at hl 0 rfl) ?_
      refine lv_iload_n hx hb dX3_calmMoves_27 rfl (lv_at hl 2 rfl) ?_
      refine w_callI (va_runV (As := [.int x2]) (rest := [.long (r_2 &&& r_4)]) F (c_X3_moveAt l hL_a0 hK_a0 hp H.size) (cwV (C := RX3) 1 hts (wg_V wm_RX3_69 wy_X3_moveAt) rfl rfl rfl (by decide +kernel) ⟨Nat.le_of_ble_eq_true rfl, Nat.le_of_ble_eq_true rfl⟩) (w_preV hK hW hL_a0 hK_a0 (by decide) rfl) rfl rfl hl.1 rfl (lv_room (Nat.le_of_ble_eq_true rfl)) dX3_calmMoves_28 ⟨Nat.le_of_ble_eq_true rfl, Nat.le_of_ble_eq_true rfl⟩) hW (fun r_6 S_7 H locs hp hW => ?_)
      obtain ⟨hX_S_7, hp⟩ := hp
      refine W.widen (k := 0) (n := 0) (by decide) (by decide) ?_
      have hE := hE.trans hX_S_7
      have hK_a0 : sK S_7 a0 = 8 := (hX_S_7.2 a0 hL_a0).1.trans hK_a0
      have hL_a0 : wM D S_7 a0 := hX_S_7.M hL_a0
      refine w_callI (va_runSN (As := [.int r_6]) (rest := [.long (r_2 &&& r_4)]) F (c_X11_fromOf l hp H.size) ⟨va_cnB (host := "OpeningsCabinet") 1 hts (wg_cons wy_X11_fromOf.2.2) rfl rfl rfl (hK.2.1 (.methodLinkNest "OpeningsCabinet$Game" 73 ⟨"OpeningsCabinet", "fromOf", "(I)I"⟩ "OpeningsCabinet") (by decide +kernel)) (hwg _ wy_X11_fromOf.2.1) ⟨by decide, by decide, by decide +kernel⟩ ⟨Nat.le_of_ble_eq_true rfl, Nat.le_of_ble_eq_true rfl⟩, hwg _ wy_X11_fromOf.1, trivial⟩ (w_preS hK hW) rfl rfl hl.1 rfl (lv_room (Nat.le_of_ble_eq_true rfl)) dX3_calmMoves_31 ⟨Nat.le_of_ble_eq_true rfl, Nat.le_of_ble_eq_true rfl⟩) hW (fun r_8 S_9 H locs hp hW => ?_)
      obtain ⟨hX_S_9, hp⟩ := hp
      refine W.widen (k := 0) (n := 0) (by decide) (by decide) ?_
      have hE := hE.trans hX_S_9
      have hK_a0 : sK S_9 a0 = 8 := (hX_S_9.2 a0 hL_a0).1.trans hK_a0
      have hL_a0 : wM D S_9 a0 := hX_S_9.M hL_a0
      refine w_callI (va_runSN (As := [.long (r_2 &&& r_4), .int r_8]) (rest := []) F (c_X11_contains l hp H.size) ⟨va_cnB (host := "OpeningsCabinet") 2 hts (wg_cons wy_X11_contains.2.2) rfl rfl rfl (hK.2.1 (.methodLinkNest "OpeningsCabinet$Game" 76 ⟨"OpeningsCabinet", "contains", "(JI)Z"⟩ "OpeningsCabinet") (by decide +kernel)) (hwg _ wy_X11_contains.2.1) ⟨by decide, by decide, by decide +kernel⟩ ⟨Nat.le_of_ble_eq_true rfl, Nat.le_of_ble_eq_true rfl⟩, hwg _ wy_X11_contains.1, trivial⟩ (w_preS hK hW) rfl rfl hl.1 rfl (lv_room (Nat.le_of_ble_eq_true rfl)) dX3_calmMoves_34 ⟨Nat.le_of_ble_eq_true rfl, Nat.le_of_ble_eq_true rfl⟩) hW (fun r_10 S_11 H locs hp hW => ?_)
      obtain ⟨hX_S_11, hp⟩ := hp
      refine W.widen (k := 0) (n := 0) (by decide) (by decide) ?_
      have hE := hE.trans hX_S_11
      have hK_a0 : sK S_11 a0 = 8 := (hX_S_11.2 a0 hL_a0).1.trans hK_a0
      have hL_a0 : wM D S_11 a0 := hX_S_11.M hL_a0
      refine lv_istore_n (lv' := [(3, .int r_10), (0, .ref a0), (1, .int x1), (2, .int x2)]) hx hb dX3_calmMoves_37 rfl hl (by decide) rfl (fun ls hl => ?_)
      refine lv_iload_n hx hb dX3_calmMoves_38 rfl (lv_at hl 0 rfl) ?_
      refine lv_if_ne (tgt := 69) hx hb dX3_calmMoves_39 (by decide) (fun c_12 => ?_) (fun c_12 => ?_)
      · replace hp := hp.1 c_12
        exact t_X3_calmMoves_69 F hr hlocks hK hp hW hE (lv_sub hl [2] rfl)
      · replace hp := hp.2 c_12
        refine lv_aload_n hx hb dX3_calmMoves_42 rfl (lv_at hl 1 rfl) ?_
        refine lv_iload_n hx hb dX3_calmMoves_43 rfl (lv_at hl 3 rfl) ?_
        refine w_callI (va_runV (As := [.int x2]) (rest := []) F (c_X3_piecesAt l hL_a0 hK_a0 hp H.size) (cwV (C := RX3) 1 hts (wg_V wm_RX3_80 wy_X3_piecesAt) rfl rfl rfl (by decide +kernel) ⟨Nat.le_of_ble_eq_true rfl, Nat.le_of_ble_eq_true rfl⟩) (w_preV hK hW hL_a0 hK_a0 (by decide) rfl) rfl rfl hl.1 rfl (lv_room (Nat.le_of_ble_eq_true rfl)) dX3_calmMoves_44 ⟨Nat.le_of_ble_eq_true rfl, Nat.le_of_ble_eq_true rfl⟩) hW (fun r_13 S_14 H locs hp hW => ?_)
        obtain ⟨hX_S_14, hp⟩ := hp
        refine W.widen (k := 0) (n := 0) (by decide) (by decide) ?_
        have hE := hE.trans hX_S_14
        have hK_a0 : sK S_14 a0 = 8 := (hX_S_14.2 a0 hL_a0).1.trans hK_a0
        have hL_a0 : wM D S_14 a0 := hX_S_14.M hL_a0
        refine lv_aload_n hx hb dX3_calmMoves_47 rfl (lv_at hl 1 rfl) ?_
        refine lv_iload_n hx hb dX3_calmMoves_48 rfl (lv_at hl 3 rfl) ?_
        refine lv_iconst (v := 1) hx hb dX3_calmMoves_49 (by decide) ?_
        refine lv_iadd hx hb dX3_calmMoves_50 ?_
        refine w_callI (va_runV (As := [.int (x2 + (1 : Int32))]) (rest := [.int r_13]) F (c_X3_piecesAt l hL_a0 hK_a0 hp H.size) (cwV (C := RX3) 1 hts (wg_V wm_RX3_80 wy_X3_piecesAt) rfl rfl rfl (by decide +kernel) ⟨Nat.le_of_ble_eq_true rfl, Nat.le_of_ble_eq_true rfl⟩) (w_preV hK hW hL_a0 hK_a0 (by decide) rfl) rfl rfl hl.1 rfl (lv_room (Nat.le_of_ble_eq_true rfl)) dX3_calmMoves_51 ⟨Nat.le_of_ble_eq_true rfl, Nat.le_of_ble_eq_true rfl⟩) hW (fun r_15 S_16 H locs hp hW => ?_)
        obtain ⟨hX_S_16, hp⟩ := hp
        refine W.widen (k := 0) (n := 0) (by decide) (by decide) ?_
        have hE := hE.trans hX_S_16
        have hK_a0 : sK S_16 a0 = 8 := (hX_S_16.2 a0 hL_a0).1.trans hK_a0
        have hL_a0 : wM D S_16 a0 := hX_S_16.M hL_a0
        refine lv_icmp_eq (tgt := 60) hx hb dX3_calmMoves_54 (by decide) (fun c_17 => ?_) (fun c_17 => ?_)
        · replace hp := hp.1 c_17
          obtain ⟨x_18, ex_18⟩ : ∃ z : Int32, z = x1 + 1 := ⟨_, rfl⟩
          replace hp := hp x_18 ex_18
          refine lv_iinc (v := x_18) (lv' := [(1, .int x_18), (3, .int r_10), (0, .ref a0), (2, .int x2)]) hx hb dX3_calmMoves_60 hl (k := 2) rfl (by rw [ex_18]; rfl) (by decide) rfl (fun ls hl => ?_)
          obtain ⟨x_19, ex_19⟩ : ∃ z : Int32, z = x2 + (-1) := ⟨_, rfl⟩
          replace hp := hp x_19 ex_19
          refine lv_iinc (v := x_19) (lv' := [(2, .int x_19), (1, .int x_18), (3, .int r_10), (0, .ref a0)]) hx hb dX3_calmMoves_63 hl (k := 3) rfl (by rw [ex_19]; rfl) (by decide) rfl (fun ls hl => ?_)
          refine lv_goto (tgt := 9) hx hb dX3_calmMoves_66 (by decide) ?_
          exact ih hp hW hE (lv_sub hl [3, 1, 0] rfl) hL_a0 hK_a0
        · replace hp := hp.2 c_17
          refine lv_goto (tgt := 69) hx hb dX3_calmMoves_57 (by decide) ?_
          exact t_X3_calmMoves_69 F hr hlocks hK hp hW hE (lv_sub hl [2] rfl)
set_option maxHeartbeats 4000000 in
set_option maxRecDepth 100000 in
theorem t_X3_calmMoves_0 {p : Program} {l : Launch} {e : Env} {s : State} {m : MethodId} {args : Array Value} {below : List Frame} {meth : Method} {c : Code} {D : wD} {cy : Nat → ClassId} {X : va_W} {A : Nat → Prop} {S0 : wS} {post : Int32 → wS → Prop} (F : CallFix p m c cX3_calmMoves 4 s args wz_X3_calmMoves RX3) (hr : meth.sig.returnType = (some .int)) (hlocks : meth.locks = false) (hK : wK D cy A s) : ∀ {S : wS} {H : Heap} {locs : List Loc} {ls : Array Slot} {a0 : Nat}, wp_X3_calmMoves_0 D post S a0 → wO D cy X A s.heap S H locs → wX D S0 S → lv_has ls 4 [(0, .ref a0)] → wM D S a0 → sK S a0 = 8 → W p l e r_X3_calmMoves s m args below meth c H locs 0 0 (MQ below (va_Qi (fun r S9 => wX D S0 S9 ∧ post r S9) (wB D cy X A) A) args s 0 0 A) (F0 m 0 ls []) := by
  obtain ⟨hx, hb, hml, hown, hts⟩ := id F
  have hwg : ∀ w ∈ WG, w.before args s = true := fun w h => hts w (List.mem_cons_of_mem _ h)
  have i_8 : ∀ w ∈ u_ws RX3 TX3 9, w ∈ wz_X3_calmMoves := fun w h => List.mem_cons_of_mem _ (wu_8 w h)
  have k_9 := hwg _ wf_RX3_9
  intro S H locs ls a0 hp hW hE hl hL_a0 hK_a0
  unfold wp_X3_calmMoves_0 at hp
  refine lv_iconst (v := 0) hx hb dX3_calmMoves_0 (by decide) ?_
  refine lv_istore_n (lv' := [(1, .int (0 : Int32)), (0, .ref a0)]) hx hb dX3_calmMoves_1 rfl hl (by decide) rfl (fun ls hl => ?_)
  refine lv_aload_n hx hb dX3_calmMoves_2 rfl (lv_at hl 1 rfl) ?_
  refine w_get (k := 8) (f := 3) (T := TX3) (v := .int (sI S a0 3)) F hK hW hL_a0 hK_a0 (by decide) rfl rfl (by decide) i_8 k_9 rfl dX3_calmMoves_3 ?_
  refine lv_iconst (v := 1) hx hb dX3_calmMoves_6 (by decide) ?_
  refine lv_isub hx hb dX3_calmMoves_7 ?_
  refine lv_topi (fun x_1 ex_1 => ?_)
  replace hp := hp x_1 ex_1
  refine lv_istore_n (lv' := [(2, .int x_1), (1, .int (0 : Int32)), (0, .ref a0)]) hx hb dX3_calmMoves_8 rfl hl (by decide) rfl (fun ls hl => ?_)
  obtain ⟨n_2, hp⟩ := hp
  exact t_X3_calmMoves_9 F hr hlocks hK n_2 hp hW hE (lv_sub hl [2, 1, 0] rfl) hL_a0 hK_a0
set_option maxHeartbeats 4000000 in
set_option maxRecDepth 100000 in
theorem c_X3_calmMoves (l : Launch) {D : wD} {cy : Nat → ClassId} {X : va_W} {S0 : wS} {post : Int32 → wS → Prop} {a0 : Nat} (hL_a0 : wM D S0 a0) (hK_a0 : sK S0 a0 = 8) (hp : wp_X3_calmMoves D post S0 a0) : mI D cy X l yX3_calmMoves wz_X3_calmMoves r_X3_calmMoves [.ref a0] S0 (fun r S9 => wX D S0 S9 ∧ post r S9) := by
  intro sz
  refine Met.ofW (cc := cX3_calmMoves) (maxL := 4) (ret := (some .int)) (by decide) rfl ?_
  intro p e s m args below meth c s₁ B hml hv
  obtain ⟨rfl, hsz, hP, hK, hD0, hRO⟩ := hv
  have hts := atoms_spec (ws := wz_X3_calmMoves) B.pre
  have hown : s.vm.findClass RX3 = some m.cls := findClass_of_methodNamed B.named
  subst hsz
  have hD := hD0.self (sz := s.heap.size)
  have F : CallFix p m c cX3_calmMoves 4 s _ wz_X3_calmMoves RX3 := ⟨B.exec, B.bytes, hml, hown, hts⟩
  have hr := B.returns
  have hlocks := B.notSynchronized
  generalize hAe : va_A (wL cy X S0) s.heap.size = A at hD hK ⊢
  have hA : ∀ q, s.heap.size ≤ q → A q := fun q h => by rw [← hAe]; exact Or.inr h
  have hW : wO D cy X A s.heap S0 s.heap [] := ⟨hP, hD, va_S.rf, hA, hRO⟩
  have hl := lv_entry ([.ref a0]) (n := 4) (Nat.le_of_ble_eq_true rfl)
  rw [lg_entry_eq]
  generalize (lg_sl ([.ref a0]) ++ List.replicate (4 - (lg_sl ([.ref a0])).length) Slot.unset).toArray = ls at hl ⊢
  have hl : lv_has ls 4 [(0, .ref a0)] := hl
  unfold wp_X3_calmMoves at hp
  exact t_X3_calmMoves_0 F hr hlocks hK hp hW wX.rf (lv_sub hl [0] rfl) hL_a0 hK_a0
def wp_X3_timesOf_27 (D : wD) (post : Int32 → wS → Prop) (k_4 : wS → Nat → Nat → Int32 → Int32 → Prop) (S : wS) (a0 : Nat) (a1 : Nat) (x2 : Int32) (x3 : Int32) : Prop :=
∀ x_1 : Int32, x_1 = x3 + 1 →
k_4 S a0 a1 x2 x_1
def wp_X3_timesOf_4 (D : wD) (post : Int32 → wS → Prop)  : Nat → wS → Nat → Nat → Int32 → Int32 → Prop
  | 0, _, _, _, _, _ => False
  | n + 1, S, a0, a1, x2, x3 =>
    (((sI S a0 3) < x3 → post x2 S) ∧
     (¬ (sI S a0 3) < x3 → ∃ y_2 : Nat, sR S a0 0 = some y_2 ∧ wM D S y_2 ∧ sK S y_2 = 22 ∧
    wp_X7_isSavedAt D (fun r_3 S_4 => 
    ((r_3 = 0 → wp_X3_timesOf_27 D post (wp_X3_timesOf_4 D post n) S_4 a0 a1 x2 x3) ∧
     (¬ r_3 = 0 → ∀ x_6 : Int32, x_6 = x2 + 1 →
    wp_X3_timesOf_27 D post (wp_X3_timesOf_4 D post n) S_4 a0 a1 x_6 x3))) S a1 y_2 x3))
def wp_X3_timesOf_0 (D : wD) (post : Int32 → wS → Prop)  (S : wS) (a0 : Nat) (a1 : Nat) : Prop :=
∃ n_1 : Nat, wp_X3_timesOf_4 D post n_1 S a0 a1 (0 : Int32) (0 : Int32)
abbrev r_X3_timesOf : Room := { frames := 2, cells := 0, slots := 0, locals := 43 }
def wp_X3_timesOf (D : wD) (post : Int32 → wS → Prop) (S : wS) (a0 : Nat) (a1 : Nat) : Prop := wp_X3_timesOf_0 D post S a0 a1
set_option maxHeartbeats 4000000 in
set_option maxRecDepth 100000 in
theorem t_X3_timesOf_27 {p : Program} {l : Launch} {e : Env} {s : State} {m : MethodId} {args : Array Value} {below : List Frame} {meth : Method} {c : Code} {D : wD} {cy : Nat → ClassId} {X : va_W} {A : Nat → Prop} {S0 : wS} {post : Int32 → wS → Prop} (F : CallFix p m c cX3_timesOf 4 s args wz_X3_timesOf RX3) (hr : meth.sig.returnType = (some .int)) (hlocks : meth.locks = false) (hK : wK D cy A s) {k_4 : wS → Nat → Nat → Int32 → Int32 → Prop} (q_4 : ∀ {S : wS} {H : Heap} {locs : List Loc} {ls : Array Slot} {a0 : Nat} {a1 : Nat} {x2 : Int32} {x3 : Int32}, k_4 S a0 a1 x2 x3 → wO D cy X A s.heap S H locs → wX D S0 S → lv_has ls 4 [(0, .ref a0), (1, .ref a1), (2, .int x2), (3, .int x3)] → wM D S a0 → sK S a0 = 8 → wM D S a1 → sK S a1 = 12 → W p l e r_X3_timesOf s m args below meth c H locs 0 0 (MQ below (va_Qi (fun r S9 => wX D S0 S9 ∧ post r S9) (wB D cy X A) A) args s 0 0 A) (F0 m 4 ls [])) : ∀ {S : wS} {H : Heap} {locs : List Loc} {ls : Array Slot} {a0 : Nat} {a1 : Nat} {x2 : Int32} {x3 : Int32}, wp_X3_timesOf_27 D post k_4 S a0 a1 x2 x3 → wO D cy X A s.heap S H locs → wX D S0 S → lv_has ls 4 [(0, .ref a0), (1, .ref a1), (2, .int x2), (3, .int x3)] → wM D S a0 → sK S a0 = 8 → wM D S a1 → sK S a1 = 12 → W p l e r_X3_timesOf s m args below meth c H locs 0 0 (MQ below (va_Qi (fun r S9 => wX D S0 S9 ∧ post r S9) (wB D cy X A) A) args s 0 0 A) (F0 m 27 ls []) := by
  obtain ⟨hx, hb, hml, hown, hts⟩ := id F
  have hwg : ∀ w ∈ WG, w.before args s = true := fun w h => hts w (List.mem_cons_of_mem _ h)
  intro S H locs ls a0 a1 x2 x3 hp hW hE hl hL_a0 hK_a0 hL_a1 hK_a1
  unfold wp_X3_timesOf_27 at hp
  obtain ⟨x_1, ex_1⟩ : ∃ z : Int32, z = x3 + 1 := ⟨_, rfl⟩
  replace hp := hp x_1 ex_1
  refine lv_iinc (v := x_1) (lv' := [(3, .int x_1), (0, .ref a0), (1, .ref a1), (2, .int x2)]) hx hb dX3_timesOf_27 hl (k := 3) rfl (by rw [ex_1]; rfl) (by decide) rfl (fun ls hl => ?_)
  refine lv_goto (tgt := 4) hx hb dX3_timesOf_30 (by decide) ?_
  exact q_4 hp hW hE (lv_sub hl [1, 2, 3, 0] rfl) hL_a0 hK_a0 hL_a1 hK_a1
set_option maxHeartbeats 4000000 in
set_option maxRecDepth 100000 in
theorem t_X3_timesOf_4 {p : Program} {l : Launch} {e : Env} {s : State} {m : MethodId} {args : Array Value} {below : List Frame} {meth : Method} {c : Code} {D : wD} {cy : Nat → ClassId} {X : va_W} {A : Nat → Prop} {S0 : wS} {post : Int32 → wS → Prop} (F : CallFix p m c cX3_timesOf 4 s args wz_X3_timesOf RX3) (hr : meth.sig.returnType = (some .int)) (hlocks : meth.locks = false) (hK : wK D cy A s) : ∀ (n : Nat) {S : wS} {H : Heap} {locs : List Loc} {ls : Array Slot} {a0 : Nat} {a1 : Nat} {x2 : Int32} {x3 : Int32}, wp_X3_timesOf_4 D post n S a0 a1 x2 x3 → wO D cy X A s.heap S H locs → wX D S0 S → lv_has ls 4 [(0, .ref a0), (1, .ref a1), (2, .int x2), (3, .int x3)] → wM D S a0 → sK S a0 = 8 → wM D S a1 → sK S a1 = 12 → W p l e r_X3_timesOf s m args below meth c H locs 0 0 (MQ below (va_Qi (fun r S9 => wX D S0 S9 ∧ post r S9) (wB D cy X A) A) args s 0 0 A) (F0 m 4 ls []) := by
  obtain ⟨hx, hb, hml, hown, hts⟩ := id F
  have hwg : ∀ w ∈ WG, w.before args s = true := fun w h => hts w (List.mem_cons_of_mem _ h)
  have i_8 : ∀ w ∈ u_ws RX3 TX3 9, w ∈ wz_X3_timesOf := fun w h => List.mem_cons_of_mem _ (wu_8 w h)
  have k_36 := hwg _ wf_RX3_36
  have k_9 := hwg _ wf_RX3_9
  intro n
  induction n with
  | zero =>
    intro S H locs ls a0 a1 x2 x3 hp
    exact hp.elim
  | succ n ih =>
    intro S H locs ls a0 a1 x2 x3 hp hW hE hl hL_a0 hK_a0 hL_a1 hK_a1
    unfold wp_X3_timesOf_4 at hp
    refine lv_iload_n hx hb dX3_timesOf_4 rfl (lv_at hl 3 rfl) ?_
    refine lv_aload_n hx hb dX3_timesOf_5 rfl (lv_at hl 0 rfl) ?_
    refine w_get (k := 8) (f := 3) (T := TX3) (v := .int (sI S a0 3)) F hK hW hL_a0 hK_a0 (by decide) rfl rfl (by decide) i_8 k_9 rfl dX3_timesOf_6 ?_
    refine lv_icmp_gt (tgt := 33) hx hb dX3_timesOf_9 (by decide) (fun c_1 => ?_) (fun c_1 => ?_)
    · replace hp := hp.1 c_1
      refine lv_iload_n hx hb dX3_timesOf_33 rfl (lv_at hl 2 rfl) ?_
      exact w_iret hx hb hr hlocks hW ⟨hE, hp⟩ dX3_timesOf_34
    · replace hp := hp.2 c_1
      refine lv_aload_n hx hb dX3_timesOf_12 rfl (lv_at hl 1 rfl) ?_
      refine lv_aload_n hx hb dX3_timesOf_13 rfl (lv_at hl 0 rfl) ?_
      obtain ⟨y_2, ey_2, hL_y_2, hK_y_2, hp⟩ := hp
      refine w_get (k := 8) (f := 0) (T := TX3) (v := .ref y_2) F hK hW hL_a0 hK_a0 (by decide) rfl rfl (by decide) i_8 k_36 (by rw [show wv 8 0 S a0 = va_rf (sR S a0 0) from rfl, ey_2]; rfl) dX3_timesOf_14 ?_
      refine lv_iload_n hx hb dX3_timesOf_17 rfl (lv_at hl 3 rfl) ?_
      refine w_callI (va_runV (As := [.ref y_2, .int x3]) (rest := []) F (c_X7_isSavedAt l hL_a1 hK_a1 hL_y_2 hK_y_2 hp H.size) (cwV (C := RX7) 2 hts (wg_V wm_RX3_61 wy_X7_isSavedAt) rfl rfl rfl (by decide +kernel) ⟨Nat.le_of_ble_eq_true rfl, Nat.le_of_ble_eq_true rfl⟩) (w_preV hK hW hL_a1 hK_a1 (by decide) rfl) rfl rfl hl.1 rfl (lv_room (Nat.le_of_ble_eq_true rfl)) dX3_timesOf_18 ⟨Nat.le_of_ble_eq_true rfl, Nat.le_of_ble_eq_true rfl⟩) hW (fun r_3 S_4 H locs hp hW => ?_)
      obtain ⟨hX_S_4, hp⟩ := hp
      refine W.widen (k := 0) (n := 0) (by decide) (by decide) ?_
      have hE := hE.trans hX_S_4
      have hK_a0 : sK S_4 a0 = 8 := (hX_S_4.2 a0 hL_a0).1.trans hK_a0
      have hL_a0 : wM D S_4 a0 := hX_S_4.M hL_a0
      have hK_a1 : sK S_4 a1 = 12 := (hX_S_4.2 a1 hL_a1).1.trans hK_a1
      have hL_a1 : wM D S_4 a1 := hX_S_4.M hL_a1
      refine lv_if_eq (tgt := 27) hx hb dX3_timesOf_21 (by decide) (fun c_5 => ?_) (fun c_5 => ?_)
      · replace hp := hp.1 c_5
        exact t_X3_timesOf_27 F hr hlocks hK ih hp hW hE (lv_sub hl [0, 1, 2, 3] rfl) hL_a0 hK_a0 hL_a1 hK_a1
      · replace hp := hp.2 c_5
        obtain ⟨x_6, ex_6⟩ : ∃ z : Int32, z = x2 + 1 := ⟨_, rfl⟩
        replace hp := hp x_6 ex_6
        refine lv_iinc (v := x_6) (lv' := [(2, .int x_6), (0, .ref a0), (1, .ref a1), (3, .int x3)]) hx hb dX3_timesOf_24 hl (k := 2) rfl (by rw [ex_6]; rfl) (by decide) rfl (fun ls hl => ?_)
        exact t_X3_timesOf_27 F hr hlocks hK ih hp hW hE (lv_sub hl [1, 2, 0, 3] rfl) hL_a0 hK_a0 hL_a1 hK_a1
set_option maxHeartbeats 4000000 in
set_option maxRecDepth 100000 in
theorem t_X3_timesOf_0 {p : Program} {l : Launch} {e : Env} {s : State} {m : MethodId} {args : Array Value} {below : List Frame} {meth : Method} {c : Code} {D : wD} {cy : Nat → ClassId} {X : va_W} {A : Nat → Prop} {S0 : wS} {post : Int32 → wS → Prop} (F : CallFix p m c cX3_timesOf 4 s args wz_X3_timesOf RX3) (hr : meth.sig.returnType = (some .int)) (hlocks : meth.locks = false) (hK : wK D cy A s) : ∀ {S : wS} {H : Heap} {locs : List Loc} {ls : Array Slot} {a0 : Nat} {a1 : Nat}, wp_X3_timesOf_0 D post S a0 a1 → wO D cy X A s.heap S H locs → wX D S0 S → lv_has ls 4 [(0, .ref a0), (1, .ref a1)] → wM D S a0 → sK S a0 = 8 → wM D S a1 → sK S a1 = 12 → W p l e r_X3_timesOf s m args below meth c H locs 0 0 (MQ below (va_Qi (fun r S9 => wX D S0 S9 ∧ post r S9) (wB D cy X A) A) args s 0 0 A) (F0 m 0 ls []) := by
  obtain ⟨hx, hb, hml, hown, hts⟩ := id F
  have hwg : ∀ w ∈ WG, w.before args s = true := fun w h => hts w (List.mem_cons_of_mem _ h)
  intro S H locs ls a0 a1 hp hW hE hl hL_a0 hK_a0 hL_a1 hK_a1
  unfold wp_X3_timesOf_0 at hp
  refine lv_iconst (v := 0) hx hb dX3_timesOf_0 (by decide) ?_
  refine lv_istore_n (lv' := [(2, .int (0 : Int32)), (0, .ref a0), (1, .ref a1)]) hx hb dX3_timesOf_1 rfl hl (by decide) rfl (fun ls hl => ?_)
  refine lv_iconst (v := 0) hx hb dX3_timesOf_2 (by decide) ?_
  refine lv_istore_n (lv' := [(3, .int (0 : Int32)), (2, .int (0 : Int32)), (0, .ref a0), (1, .ref a1)]) hx hb dX3_timesOf_3 rfl hl (by decide) rfl (fun ls hl => ?_)
  obtain ⟨n_1, hp⟩ := hp
  exact t_X3_timesOf_4 F hr hlocks hK n_1 hp hW hE (lv_sub hl [2, 3, 1, 0] rfl) hL_a0 hK_a0 hL_a1 hK_a1
set_option maxHeartbeats 4000000 in
set_option maxRecDepth 100000 in
theorem c_X3_timesOf (l : Launch) {D : wD} {cy : Nat → ClassId} {X : va_W} {S0 : wS} {post : Int32 → wS → Prop} {a0 : Nat} {a1 : Nat} (hL_a0 : wM D S0 a0) (hK_a0 : sK S0 a0 = 8) (hL_a1 : wM D S0 a1) (hK_a1 : sK S0 a1 = 12) (hp : wp_X3_timesOf D post S0 a0 a1) : mI D cy X l yX3_timesOf wz_X3_timesOf r_X3_timesOf [.ref a0, .ref a1] S0 (fun r S9 => wX D S0 S9 ∧ post r S9) := by
  intro sz
  refine Met.ofW (cc := cX3_timesOf) (maxL := 4) (ret := (some .int)) (by decide) rfl ?_
  intro p e s m args below meth c s₁ B hml hv
  obtain ⟨rfl, hsz, hP, hK, hD0, hRO⟩ := hv
  have hts := atoms_spec (ws := wz_X3_timesOf) B.pre
  have hown : s.vm.findClass RX3 = some m.cls := findClass_of_methodNamed B.named
  subst hsz
  have hD := hD0.self (sz := s.heap.size)
  have F : CallFix p m c cX3_timesOf 4 s _ wz_X3_timesOf RX3 := ⟨B.exec, B.bytes, hml, hown, hts⟩
  have hr := B.returns
  have hlocks := B.notSynchronized
  generalize hAe : va_A (wL cy X S0) s.heap.size = A at hD hK ⊢
  have hA : ∀ q, s.heap.size ≤ q → A q := fun q h => by rw [← hAe]; exact Or.inr h
  have hW : wO D cy X A s.heap S0 s.heap [] := ⟨hP, hD, va_S.rf, hA, hRO⟩
  have hl := lv_entry ([.ref a0, .ref a1]) (n := 4) (Nat.le_of_ble_eq_true rfl)
  rw [lg_entry_eq]
  generalize (lg_sl ([.ref a0, .ref a1]) ++ List.replicate (4 - (lg_sl ([.ref a0, .ref a1])).length) Slot.unset).toArray = ls at hl ⊢
  have hl : lv_has ls 4 [(0, .ref a0), (1, .ref a1)] := hl
  unfold wp_X3_timesOf at hp
  exact t_X3_timesOf_0 F hr hlocks hK hp hW wX.rf (lv_sub hl [0, 1] rfl) hL_a0 hK_a0 hL_a1 hK_a1
def wp_X7_isDead_54 (D : wD) (post : Int32 → wS → Prop)  (S : wS) (t0 : Int32) : Prop :=
narrow .boolean (.int t0) = .int t0 ∧ post t0 S
def wp_X7_isDead_53 (D : wD) (post : Int32 → wS → Prop)  (S : wS) : Prop :=
wp_X7_isDead_54 D post S (0 : Int32)
def wp_X7_isDead_49 (D : wD) (post : Int32 → wS → Prop)  (S : wS) : Prop :=
wp_X7_isDead_54 D post S (1 : Int32)
def wp_X7_isDead_0 (D : wD) (post : Int32 → wS → Prop)  (S : wS) (a0 : Nat) : Prop :=
wp_X7_occupied D (fun r_1 S_2 => 
wp_X7_ofKind D (fun r_3 S_4 => 
∀ x_5 : Int64, x_5 = (r_1 &&& (r_3 ^^^ (-1 : Int64))) →
wp_X7_ofKind D (fun r_6 S_7 => 
wp_X7_ofKind D (fun r_8 S_9 => 
∀ x_10 : Int64, x_10 = (r_6 ||| r_8) →
(((lg_cmp x_5 (0 : Int64)) = 0 → wp_X7_isDead_49 D post S_9) ∧
 (¬ (lg_cmp x_5 (0 : Int64)) = 0 → wp_J13_bitCount_95d88 D (fun r_12 S_13 => 
((¬ r_12 = (1 : Int32) → wp_X7_isDead_53 D post S_13) ∧
 (r_12 = (1 : Int32) → (((lg_cmp (x_5 &&& x_10) (0 : Int64)) = 0 → wp_X7_isDead_53 D post S_13) ∧
 (¬ (lg_cmp (x_5 &&& x_10) (0 : Int64)) = 0 → wp_X7_isDead_49 D post S_13))))) S_9 x_5))) S_7 a0 (5 : Int32)) S_4 a0 (4 : Int32)) S_2 a0 (1 : Int32)) S a0
abbrev r_X7_isDead : Room := { frames := 1, cells := 0, slots := 0, locals := 23 }
def wp_X7_isDead (D : wD) (post : Int32 → wS → Prop) (S : wS) (a0 : Nat) : Prop := wp_X7_isDead_0 D post S a0
set_option maxHeartbeats 4000000 in
set_option maxRecDepth 100000 in
theorem t_X7_isDead_54 {p : Program} {l : Launch} {e : Env} {s : State} {m : MethodId} {args : Array Value} {below : List Frame} {meth : Method} {c : Code} {D : wD} {cy : Nat → ClassId} {X : va_W} {A : Nat → Prop} {S0 : wS} {post : Int32 → wS → Prop} (F : CallFix p m c cX7_isDead 5 s args wz_X7_isDead RX7) (hr : meth.sig.returnType = (some .boolean)) (hlocks : meth.locks = false) (hK : wK D cy A s) : ∀ {S : wS} {H : Heap} {locs : List Loc} {ls : Array Slot} {t0 : Int32}, wp_X7_isDead_54 D post S t0 → wO D cy X A s.heap S H locs → wX D S0 S → lv_has ls 5 [] → W p l e r_X7_isDead s m args below meth c H locs 0 0 (MQ below (va_Qi (fun r S9 => wX D S0 S9 ∧ post r S9) (wB D cy X A) A) args s 0 0 A) (F0 m 54 ls [.int t0]) := by
  obtain ⟨hx, hb, hml, hown, hts⟩ := id F
  have hwg : ∀ w ∈ WG, w.before args s = true := fun w h => hts w (List.mem_cons_of_mem _ h)
  intro S H locs ls t0 hp hW hE hl
  unfold wp_X7_isDead_54 at hp
  exact w_zret hx hb hr hlocks hW hp.1 ⟨hE, hp.2⟩ dX7_isDead_54
set_option maxHeartbeats 4000000 in
set_option maxRecDepth 100000 in
theorem t_X7_isDead_53 {p : Program} {l : Launch} {e : Env} {s : State} {m : MethodId} {args : Array Value} {below : List Frame} {meth : Method} {c : Code} {D : wD} {cy : Nat → ClassId} {X : va_W} {A : Nat → Prop} {S0 : wS} {post : Int32 → wS → Prop} (F : CallFix p m c cX7_isDead 5 s args wz_X7_isDead RX7) (hr : meth.sig.returnType = (some .boolean)) (hlocks : meth.locks = false) (hK : wK D cy A s) : ∀ {S : wS} {H : Heap} {locs : List Loc} {ls : Array Slot}, wp_X7_isDead_53 D post S → wO D cy X A s.heap S H locs → wX D S0 S → lv_has ls 5 [] → W p l e r_X7_isDead s m args below meth c H locs 0 0 (MQ below (va_Qi (fun r S9 => wX D S0 S9 ∧ post r S9) (wB D cy X A) A) args s 0 0 A) (F0 m 53 ls []) := by
  obtain ⟨hx, hb, hml, hown, hts⟩ := id F
  have hwg : ∀ w ∈ WG, w.before args s = true := fun w h => hts w (List.mem_cons_of_mem _ h)
  intro S H locs ls hp hW hE hl
  unfold wp_X7_isDead_53 at hp
  refine lv_iconst (v := 0) hx hb dX7_isDead_53 (by decide) ?_
  exact t_X7_isDead_54 F hr hlocks hK hp hW hE (lv_sub hl [] rfl)
set_option maxHeartbeats 4000000 in
set_option maxRecDepth 100000 in
theorem t_X7_isDead_49 {p : Program} {l : Launch} {e : Env} {s : State} {m : MethodId} {args : Array Value} {below : List Frame} {meth : Method} {c : Code} {D : wD} {cy : Nat → ClassId} {X : va_W} {A : Nat → Prop} {S0 : wS} {post : Int32 → wS → Prop} (F : CallFix p m c cX7_isDead 5 s args wz_X7_isDead RX7) (hr : meth.sig.returnType = (some .boolean)) (hlocks : meth.locks = false) (hK : wK D cy A s) : ∀ {S : wS} {H : Heap} {locs : List Loc} {ls : Array Slot}, wp_X7_isDead_49 D post S → wO D cy X A s.heap S H locs → wX D S0 S → lv_has ls 5 [] → W p l e r_X7_isDead s m args below meth c H locs 0 0 (MQ below (va_Qi (fun r S9 => wX D S0 S9 ∧ post r S9) (wB D cy X A) A) args s 0 0 A) (F0 m 49 ls []) := by
  obtain ⟨hx, hb, hml, hown, hts⟩ := id F
  have hwg : ∀ w ∈ WG, w.before args s = true := fun w h => hts w (List.mem_cons_of_mem _ h)
  intro S H locs ls hp hW hE hl
  unfold wp_X7_isDead_49 at hp
  refine lv_iconst (v := 1) hx hb dX7_isDead_49 (by decide) ?_
  refine lv_goto (tgt := 54) hx hb dX7_isDead_50 (by decide) ?_
  exact t_X7_isDead_54 F hr hlocks hK hp hW hE (lv_sub hl [] rfl)
set_option maxHeartbeats 4000000 in
set_option maxRecDepth 100000 in
theorem t_X7_isDead_0 {p : Program} {l : Launch} {e : Env} {s : State} {m : MethodId} {args : Array Value} {below : List Frame} {meth : Method} {c : Code} {D : wD} {cy : Nat → ClassId} {X : va_W} {A : Nat → Prop} {S0 : wS} {post : Int32 → wS → Prop} (F : CallFix p m c cX7_isDead 5 s args wz_X7_isDead RX7) (hr : meth.sig.returnType = (some .boolean)) (hlocks : meth.locks = false) (hK : wK D cy A s) : ∀ {S : wS} {H : Heap} {locs : List Loc} {ls : Array Slot} {a0 : Nat}, wp_X7_isDead_0 D post S a0 → wO D cy X A s.heap S H locs → wX D S0 S → lv_has ls 5 [(0, .ref a0)] → wM D S a0 → sK S a0 = 12 → W p l e r_X7_isDead s m args below meth c H locs 0 0 (MQ below (va_Qi (fun r S9 => wX D S0 S9 ∧ post r S9) (wB D cy X A) A) args s 0 0 A) (F0 m 0 ls []) := by
  obtain ⟨hx, hb, hml, hown, hts⟩ := id F
  have hwg : ∀ w ∈ WG, w.before args s = true := fun w h => hts w (List.mem_cons_of_mem _ h)
  intro S H locs ls a0 hp hW hE hl hL_a0 hK_a0
  unfold wp_X7_isDead_0 at hp
  refine lv_aload_n hx hb dX7_isDead_0 rfl (lv_at hl 0 rfl) ?_
  refine w_callJ (va_runV (As := []) (rest := []) F (c_X7_occupied l hL_a0 hK_a0 hp H.size) (cwV (C := RX7) 0 hts (wg_V wm_RX7_122 wy_X7_occupied) rfl rfl rfl (by decide +kernel) ⟨Nat.le_of_ble_eq_true rfl, Nat.le_of_ble_eq_true rfl⟩) (w_preV hK hW hL_a0 hK_a0 (by decide) rfl) rfl rfl hl.1 rfl (lv_room (Nat.le_of_ble_eq_true rfl)) dX7_isDead_1 ⟨Nat.le_of_ble_eq_true rfl, Nat.le_of_ble_eq_true rfl⟩) hW (fun r_1 S_2 H locs hp hW => ?_)
  obtain ⟨hX_S_2, hp⟩ := hp
  refine W.widen (k := 0) (n := 0) (by decide) (by decide) ?_
  have hE := hE.trans hX_S_2
  have hK_a0 : sK S_2 a0 = 12 := (hX_S_2.2 a0 hL_a0).1.trans hK_a0
  have hL_a0 : wM D S_2 a0 := hX_S_2.M hL_a0
  refine lv_aload_n hx hb dX7_isDead_4 rfl (lv_at hl 0 rfl) ?_
  refine lv_iconst (v := 1) hx hb dX7_isDead_5 (by decide) ?_
  refine w_callJ (va_runV (As := [.int (1 : Int32)]) (rest := [.long r_1]) F (c_X7_ofKind l hL_a0 hK_a0 hp H.size) (cwV (C := RX7) 1 hts (wg_V wm_RX7_83 wy_X7_ofKind) rfl rfl rfl (by decide +kernel) ⟨Nat.le_of_ble_eq_true rfl, Nat.le_of_ble_eq_true rfl⟩) (w_preV hK hW hL_a0 hK_a0 (by decide) rfl) rfl rfl hl.1 rfl (lv_room (Nat.le_of_ble_eq_true rfl)) dX7_isDead_6 ⟨Nat.le_of_ble_eq_true rfl, Nat.le_of_ble_eq_true rfl⟩) hW (fun r_3 S_4 H locs hp hW => ?_)
  obtain ⟨hX_S_4, hp⟩ := hp
  refine W.widen (k := 0) (n := 0) (by decide) (by decide) ?_
  have hE := hE.trans hX_S_4
  have hK_a0 : sK S_4 a0 = 12 := (hX_S_4.2 a0 hL_a0).1.trans hK_a0
  have hL_a0 : wM D S_4 a0 := hX_S_4.M hL_a0
  refine lv_ldc2 (v := (-1)) hx hb hown (hwg _ wJ_RX7_70) dX7_isDead_9 ?_
  refine lv_lxor hx hb dX7_isDead_12 ?_
  refine lv_land hx hb dX7_isDead_13 ?_
  refine lv_topl (fun x_5 ex_5 => ?_)
  replace hp := hp x_5 ex_5
  refine lv_lstore_n (lv' := [(1, .long x_5), (0, .ref a0)]) hx hb dX7_isDead_14 rfl hl (by decide) rfl (fun ls hl => ?_)
  refine lv_aload_n hx hb dX7_isDead_15 rfl (lv_at hl 1 rfl) ?_
  refine lv_iconst (v := 4) hx hb dX7_isDead_16 (by decide) ?_
  refine w_callJ (va_runV (As := [.int (4 : Int32)]) (rest := []) F (c_X7_ofKind l hL_a0 hK_a0 hp H.size) (cwV (C := RX7) 1 hts (wg_V wm_RX7_83 wy_X7_ofKind) rfl rfl rfl (by decide +kernel) ⟨Nat.le_of_ble_eq_true rfl, Nat.le_of_ble_eq_true rfl⟩) (w_preV hK hW hL_a0 hK_a0 (by decide) rfl) rfl rfl hl.1 rfl (lv_room (Nat.le_of_ble_eq_true rfl)) dX7_isDead_17 ⟨Nat.le_of_ble_eq_true rfl, Nat.le_of_ble_eq_true rfl⟩) hW (fun r_6 S_7 H locs hp hW => ?_)
  obtain ⟨hX_S_7, hp⟩ := hp
  refine W.widen (k := 0) (n := 0) (by decide) (by decide) ?_
  have hE := hE.trans hX_S_7
  have hK_a0 : sK S_7 a0 = 12 := (hX_S_7.2 a0 hL_a0).1.trans hK_a0
  have hL_a0 : wM D S_7 a0 := hX_S_7.M hL_a0
  refine lv_aload_n hx hb dX7_isDead_20 rfl (lv_at hl 1 rfl) ?_
  refine lv_iconst (v := 5) hx hb dX7_isDead_21 (by decide) ?_
  refine w_callJ (va_runV (As := [.int (5 : Int32)]) (rest := [.long r_6]) F (c_X7_ofKind l hL_a0 hK_a0 hp H.size) (cwV (C := RX7) 1 hts (wg_V wm_RX7_83 wy_X7_ofKind) rfl rfl rfl (by decide +kernel) ⟨Nat.le_of_ble_eq_true rfl, Nat.le_of_ble_eq_true rfl⟩) (w_preV hK hW hL_a0 hK_a0 (by decide) rfl) rfl rfl hl.1 rfl (lv_room (Nat.le_of_ble_eq_true rfl)) dX7_isDead_22 ⟨Nat.le_of_ble_eq_true rfl, Nat.le_of_ble_eq_true rfl⟩) hW (fun r_8 S_9 H locs hp hW => ?_)
  obtain ⟨hX_S_9, hp⟩ := hp
  refine W.widen (k := 0) (n := 0) (by decide) (by decide) ?_
  have hE := hE.trans hX_S_9
  have hK_a0 : sK S_9 a0 = 12 := (hX_S_9.2 a0 hL_a0).1.trans hK_a0
  have hL_a0 : wM D S_9 a0 := hX_S_9.M hL_a0
  refine lv_lor hx hb dX7_isDead_25 ?_
  refine lv_topl (fun x_10 ex_10 => ?_)
  replace hp := hp x_10 ex_10
  refine lv_lstore_n (lv' := [(3, .long x_10), (1, .long x_5), (0, .ref a0)]) hx hb dX7_isDead_26 rfl hl (by decide) rfl (fun ls hl => ?_)
  refine lv_lload_n hx hb dX7_isDead_27 rfl (lv_at hl 1 rfl) ?_
  refine lv_lconst (v := 0) hx hb dX7_isDead_28 (by decide) ?_
  refine W.lcmp hx hb dX7_isDead_29 ?_
  refine lv_if_eq (tgt := 49) hx hb dX7_isDead_30 (by decide) (fun c_11 => ?_) (fun c_11 => ?_)
  · replace hp := hp.1 c_11
    exact t_X7_isDead_49 F hr hlocks hK hp hW hE (lv_sub hl [] rfl)
  · replace hp := hp.2 c_11
    refine lv_lload_n hx hb dX7_isDead_33 rfl (lv_at hl 1 rfl) ?_
    refine w_callI (va_runS (As := [.long x_5]) (rest := []) F (c_J13_bitCount_95d88 l hp H.size) (va_cwS 1 hts (wg_S wm_RX7_87 wy_J13_bitCount_95d88) rfl rfl rfl (by decide +kernel) ⟨Nat.le_of_ble_eq_true rfl, Nat.le_of_ble_eq_true rfl⟩) (w_preS hK hW) rfl rfl hl.1 rfl (lv_room (Nat.le_of_ble_eq_true rfl)) dX7_isDead_34 ⟨Nat.le_of_ble_eq_true rfl, Nat.le_of_ble_eq_true rfl⟩) hW (fun r_12 S_13 H locs hp hW => ?_)
    obtain ⟨hX_S_13, hp⟩ := hp
    refine W.widen (k := 0) (n := 0) (by decide) (by decide) ?_
    have hE := hE.trans hX_S_13
    have hK_a0 : sK S_13 a0 = 12 := (hX_S_13.2 a0 hL_a0).1.trans hK_a0
    have hL_a0 : wM D S_13 a0 := hX_S_13.M hL_a0
    refine lv_iconst (v := 1) hx hb dX7_isDead_37 (by decide) ?_
    refine lv_icmp_ne (tgt := 53) hx hb dX7_isDead_38 (by decide) (fun c_14 => ?_) (fun c_14 => ?_)
    · replace hp := hp.1 c_14
      exact t_X7_isDead_53 F hr hlocks hK hp hW hE (lv_sub hl [] rfl)
    · replace hp := hp.2 c_14
      refine lv_lload_n hx hb dX7_isDead_41 rfl (lv_at hl 1 rfl) ?_
      refine lv_lload_n hx hb dX7_isDead_42 rfl (lv_at hl 0 rfl) ?_
      refine lv_land hx hb dX7_isDead_43 ?_
      refine lv_lconst (v := 0) hx hb dX7_isDead_44 (by decide) ?_
      refine W.lcmp hx hb dX7_isDead_45 ?_
      refine lv_if_eq (tgt := 53) hx hb dX7_isDead_46 (by decide) (fun c_15 => ?_) (fun c_15 => ?_)
      · replace hp := hp.1 c_15
        exact t_X7_isDead_53 F hr hlocks hK hp hW hE (lv_sub hl [] rfl)
      · replace hp := hp.2 c_15
        exact t_X7_isDead_49 F hr hlocks hK hp hW hE (lv_sub hl [] rfl)
set_option maxHeartbeats 4000000 in
set_option maxRecDepth 100000 in
theorem c_X7_isDead (l : Launch) {D : wD} {cy : Nat → ClassId} {X : va_W} {S0 : wS} {post : Int32 → wS → Prop} {a0 : Nat} (hL_a0 : wM D S0 a0) (hK_a0 : sK S0 a0 = 12) (hp : wp_X7_isDead D post S0 a0) : mI D cy X l yX7_isDead wz_X7_isDead r_X7_isDead [.ref a0] S0 (fun r S9 => wX D S0 S9 ∧ post r S9) := by
  intro sz
  refine Met.ofW (cc := cX7_isDead) (maxL := 5) (ret := (some .boolean)) (by decide) rfl ?_
  intro p e s m args below meth c s₁ B hml hv
  obtain ⟨rfl, hsz, hP, hK, hD0, hRO⟩ := hv
  have hts := atoms_spec (ws := wz_X7_isDead) B.pre
  have hown : s.vm.findClass RX7 = some m.cls := findClass_of_methodNamed B.named
  subst hsz
  have hD := hD0.self (sz := s.heap.size)
  have F : CallFix p m c cX7_isDead 5 s _ wz_X7_isDead RX7 := ⟨B.exec, B.bytes, hml, hown, hts⟩
  have hr := B.returns
  have hlocks := B.notSynchronized
  generalize hAe : va_A (wL cy X S0) s.heap.size = A at hD hK ⊢
  have hA : ∀ q, s.heap.size ≤ q → A q := fun q h => by rw [← hAe]; exact Or.inr h
  have hW : wO D cy X A s.heap S0 s.heap [] := ⟨hP, hD, va_S.rf, hA, hRO⟩
  have hl := lv_entry ([.ref a0]) (n := 5) (Nat.le_of_ble_eq_true rfl)
  rw [lg_entry_eq]
  generalize (lg_sl ([.ref a0]) ++ List.replicate (5 - (lg_sl ([.ref a0])).length) Slot.unset).toArray = ls at hl ⊢
  have hl : lv_has ls 5 [(0, .ref a0)] := hl
  unfold wp_X7_isDead at hp
  exact t_X7_isDead_0 F hr hlocks hK hp hW wX.rf (lv_sub hl [0] rfl) hL_a0 hK_a0
def wp_X11_stateNow_76 (D : wD) (post : Int32 → wS → Prop)  (S : wS) (t0 : Int32) : Prop :=
post t0 S
def wp_X11_stateNow_29 (D : wD) (post : Int32 → wS → Prop)  (S : wS) (t0 : Int32) : Prop :=
post t0 S
def wp_X11_stateNow_0 (D : wD) (post : Int32 → wS → Prop)  (S : wS) (a0 : Nat) : Prop :=
∃ y_1 : Nat, sR S a0 1 = some y_1 ∧ wM D S y_1 ∧ sK S y_1 = 13 ∧
∃ y_2 : Nat, sR S a0 2 = some y_2 ∧ wM D S y_2 ∧ sK S y_2 = 12 ∧
wp_X8_hasMove D (fun r_3 S_4 => 
((¬ r_3 = 0 → ∃ y_6 : Nat, sR S_4 a0 2 = some y_6 ∧ wM D S_4 y_6 ∧ sK S_4 y_6 = 12 ∧
wp_X7_isDead D (fun r_7 S_8 => 
((r_7 = 0 → ∃ y_10 : Nat, sR S_8 a0 4 = some y_10 ∧ wM D S_8 y_10 ∧ sK S_8 y_10 = 8 ∧
∃ y_11 : Nat, sR S_8 a0 2 = some y_11 ∧ wM D S_8 y_11 ∧ sK S_8 y_11 = 12 ∧
wp_X3_timesOf D (fun r_12 S_13 => 
((r_12 < (3 : Int32) → ∃ y_15 : Nat, sR S_13 a0 4 = some y_15 ∧ wM D S_13 y_15 ∧ sK S_13 y_15 = 8 ∧
wp_X3_calmMoves D (fun r_16 S_17 => 
((r_16 < (40 : Int32) → wp_X11_stateNow_76 D post S_17 (0 : Int32)) ∧
 (¬ r_16 < (40 : Int32) → wp_X11_stateNow_76 D post S_17 (5 : Int32)))) S_13 y_15) ∧
 (¬ r_12 < (3 : Int32) → post (4 : Int32) S_13))) S_8 y_10 y_11) ∧
 (¬ r_7 = 0 → post (3 : Int32) S_8))) S_4 y_6) ∧
 (r_3 = 0 → ∃ y_19 : Nat, sR S_4 a0 2 = some y_19 ∧ wM D S_4 y_19 ∧ sK S_4 y_19 = 12 ∧
wp_X7_isInCheck D (fun r_20 S_21 => 
((r_20 = 0 → wp_X11_stateNow_29 D post S_21 (2 : Int32)) ∧
 (¬ r_20 = 0 → wp_X11_stateNow_29 D post S_21 (1 : Int32)))) S_4 y_19))) S y_1 y_2
abbrev r_X11_stateNow : Room := { frames := 4, cells := 0, slots := 0, locals := 120 }
def wp_X11_stateNow (D : wD) (post : Int32 → wS → Prop) (S : wS) (a0 : Nat) : Prop := wp_X11_stateNow_0 D post S a0
set_option maxHeartbeats 4000000 in
set_option maxRecDepth 100000 in
theorem t_X11_stateNow_76 {p : Program} {l : Launch} {e : Env} {s : State} {m : MethodId} {args : Array Value} {below : List Frame} {meth : Method} {c : Code} {D : wD} {cy : Nat → ClassId} {X : va_W} {A : Nat → Prop} {S0 : wS} {post : Int32 → wS → Prop} (F : CallFix p m c cX11_stateNow 1 s args wz_X11_stateNow RX11) (hr : meth.sig.returnType = (some .int)) (hlocks : meth.locks = false) (hK : wK D cy A s) : ∀ {S : wS} {H : Heap} {locs : List Loc} {ls : Array Slot} {t0 : Int32}, wp_X11_stateNow_76 D post S t0 → wO D cy X A s.heap S H locs → wX D S0 S → lv_has ls 1 [] → W p l e r_X11_stateNow s m args below meth c H locs 0 0 (MQ below (va_Qi (fun r S9 => wX D S0 S9 ∧ post r S9) (wB D cy X A) A) args s 0 0 A) (F0 m 76 ls [.int t0]) := by
  obtain ⟨hx, hb, hml, hown, hts⟩ := id F
  have hwg : ∀ w ∈ WG, w.before args s = true := fun w h => hts w (List.mem_cons_of_mem _ h)
  intro S H locs ls t0 hp hW hE hl
  unfold wp_X11_stateNow_76 at hp
  exact w_iret hx hb hr hlocks hW ⟨hE, hp⟩ dX11_stateNow_76
set_option maxHeartbeats 4000000 in
set_option maxRecDepth 100000 in
theorem t_X11_stateNow_29 {p : Program} {l : Launch} {e : Env} {s : State} {m : MethodId} {args : Array Value} {below : List Frame} {meth : Method} {c : Code} {D : wD} {cy : Nat → ClassId} {X : va_W} {A : Nat → Prop} {S0 : wS} {post : Int32 → wS → Prop} (F : CallFix p m c cX11_stateNow 1 s args wz_X11_stateNow RX11) (hr : meth.sig.returnType = (some .int)) (hlocks : meth.locks = false) (hK : wK D cy A s) : ∀ {S : wS} {H : Heap} {locs : List Loc} {ls : Array Slot} {t0 : Int32}, wp_X11_stateNow_29 D post S t0 → wO D cy X A s.heap S H locs → wX D S0 S → lv_has ls 1 [] → W p l e r_X11_stateNow s m args below meth c H locs 0 0 (MQ below (va_Qi (fun r S9 => wX D S0 S9 ∧ post r S9) (wB D cy X A) A) args s 0 0 A) (F0 m 29 ls [.int t0]) := by
  obtain ⟨hx, hb, hml, hown, hts⟩ := id F
  have hwg : ∀ w ∈ WG, w.before args s = true := fun w h => hts w (List.mem_cons_of_mem _ h)
  intro S H locs ls t0 hp hW hE hl
  unfold wp_X11_stateNow_29 at hp
  exact w_iret hx hb hr hlocks hW ⟨hE, hp⟩ dX11_stateNow_29
set_option maxHeartbeats 4000000 in
set_option maxRecDepth 100000 in
theorem t_X11_stateNow_0 {p : Program} {l : Launch} {e : Env} {s : State} {m : MethodId} {args : Array Value} {below : List Frame} {meth : Method} {c : Code} {D : wD} {cy : Nat → ClassId} {X : va_W} {A : Nat → Prop} {S0 : wS} {post : Int32 → wS → Prop} (F : CallFix p m c cX11_stateNow 1 s args wz_X11_stateNow RX11) (hr : meth.sig.returnType = (some .int)) (hlocks : meth.locks = false) (hK : wK D cy A s) : ∀ {S : wS} {H : Heap} {locs : List Loc} {ls : Array Slot} {a0 : Nat}, wp_X11_stateNow_0 D post S a0 → wO D cy X A s.heap S H locs → wX D S0 S → lv_has ls 1 [(0, .ref a0)] → wM D S a0 → sK S a0 = 16 → W p l e r_X11_stateNow s m args below meth c H locs 0 0 (MQ below (va_Qi (fun r S9 => wX D S0 S9 ∧ post r S9) (wB D cy X A) A) args s 0 0 A) (F0 m 0 ls []) := by
  obtain ⟨hx, hb, hml, hown, hts⟩ := id F
  have hwg : ∀ w ∈ WG, w.before args s = true := fun w h => hts w (List.mem_cons_of_mem _ h)
  have i_16 : ∀ w ∈ u_ws RX11 TX11 18, w ∈ wz_X11_stateNow := fun w h => List.mem_cons_of_mem _ (wu_16 w h)
  have k_21 := hwg _ wf_RX11_21
  have k_28 := hwg _ wf_RX11_28
  have k_40 := hwg _ wf_RX11_40
  intro S H locs ls a0 hp hW hE hl hL_a0 hK_a0
  unfold wp_X11_stateNow_0 at hp
  refine lv_aload_n hx hb dX11_stateNow_0 rfl (lv_at hl 0 rfl) ?_
  obtain ⟨y_1, ey_1, hL_y_1, hK_y_1, hp⟩ := hp
  refine w_get (k := 16) (f := 1) (T := TX11) (v := .ref y_1) F hK hW hL_a0 hK_a0 (by decide) rfl rfl (by decide) i_16 k_21 (by rw [show wv 16 1 S a0 = va_rf (sR S a0 1) from rfl, ey_1]; rfl) dX11_stateNow_1 ?_
  refine lv_aload_n hx hb dX11_stateNow_4 rfl (lv_at hl 0 rfl) ?_
  obtain ⟨y_2, ey_2, hL_y_2, hK_y_2, hp⟩ := hp
  refine w_get (k := 16) (f := 2) (T := TX11) (v := .ref y_2) F hK hW hL_a0 hK_a0 (by decide) rfl rfl (by decide) i_16 k_28 (by rw [show wv 16 2 S a0 = va_rf (sR S a0 2) from rfl, ey_2]; rfl) dX11_stateNow_5 ?_
  refine w_callI (va_runV (As := [.ref y_2]) (rest := []) F (c_X8_hasMove l hL_y_1 hK_y_1 hL_y_2 hK_y_2 hp H.size) (cwV (C := RX8) 1 hts (wg_V wm_RX11_528 wy_X8_hasMove) rfl rfl rfl (by decide +kernel) ⟨Nat.le_of_ble_eq_true rfl, Nat.le_of_ble_eq_true rfl⟩) (w_preV hK hW hL_y_1 hK_y_1 (by decide) rfl) rfl rfl hl.1 rfl (lv_room (Nat.le_of_ble_eq_true rfl)) dX11_stateNow_8 ⟨Nat.le_of_ble_eq_true rfl, Nat.le_of_ble_eq_true rfl⟩) hW (fun r_3 S_4 H locs hp hW => ?_)
  obtain ⟨hX_S_4, hp⟩ := hp
  refine W.widen (k := 0) (n := 0) (by decide) (by decide) ?_
  have hE := hE.trans hX_S_4
  have hK_a0 : sK S_4 a0 = 16 := (hX_S_4.2 a0 hL_a0).1.trans hK_a0
  have hL_a0 : wM D S_4 a0 := hX_S_4.M hL_a0
  refine lv_if_ne (tgt := 30) hx hb dX11_stateNow_11 (by decide) (fun c_5 => ?_) (fun c_5 => ?_)
  · replace hp := hp.1 c_5
    refine lv_aload_n hx hb dX11_stateNow_30 rfl (lv_at hl 0 rfl) ?_
    obtain ⟨y_6, ey_6, hL_y_6, hK_y_6, hp⟩ := hp
    refine w_get (k := 16) (f := 2) (T := TX11) (v := .ref y_6) F hK hW hL_a0 hK_a0 (by decide) rfl rfl (by decide) i_16 k_28 (by rw [show wv 16 2 S_4 a0 = va_rf (sR S_4 a0 2) from rfl, ey_6]; rfl) dX11_stateNow_31 ?_
    refine w_callI (va_runV (As := []) (rest := []) F (c_X7_isDead l hL_y_6 hK_y_6 hp H.size) (cwV (C := RX7) 0 hts (wg_V wm_RX11_535 wy_X7_isDead) rfl rfl rfl (by decide +kernel) ⟨Nat.le_of_ble_eq_true rfl, Nat.le_of_ble_eq_true rfl⟩) (w_preV hK hW hL_y_6 hK_y_6 (by decide) rfl) rfl rfl hl.1 rfl (lv_room (Nat.le_of_ble_eq_true rfl)) dX11_stateNow_34 ⟨Nat.le_of_ble_eq_true rfl, Nat.le_of_ble_eq_true rfl⟩) hW (fun r_7 S_8 H locs hp hW => ?_)
    obtain ⟨hX_S_8, hp⟩ := hp
    refine W.widen (k := 0) (n := 0) (by decide) (by decide) ?_
    have hE := hE.trans hX_S_8
    have hK_a0 : sK S_8 a0 = 16 := (hX_S_8.2 a0 hL_a0).1.trans hK_a0
    have hL_a0 : wM D S_8 a0 := hX_S_8.M hL_a0
    refine lv_if_eq (tgt := 42) hx hb dX11_stateNow_37 (by decide) (fun c_9 => ?_) (fun c_9 => ?_)
    · replace hp := hp.1 c_9
      refine lv_aload_n hx hb dX11_stateNow_42 rfl (lv_at hl 0 rfl) ?_
      obtain ⟨y_10, ey_10, hL_y_10, hK_y_10, hp⟩ := hp
      refine w_get (k := 16) (f := 4) (T := TX11) (v := .ref y_10) F hK hW hL_a0 hK_a0 (by decide) rfl rfl (by decide) i_16 k_40 (by rw [show wv 16 4 S_8 a0 = va_rf (sR S_8 a0 4) from rfl, ey_10]; rfl) dX11_stateNow_43 ?_
      refine lv_aload_n hx hb dX11_stateNow_46 rfl (lv_at hl 0 rfl) ?_
      obtain ⟨y_11, ey_11, hL_y_11, hK_y_11, hp⟩ := hp
      refine w_get (k := 16) (f := 2) (T := TX11) (v := .ref y_11) F hK hW hL_a0 hK_a0 (by decide) rfl rfl (by decide) i_16 k_28 (by rw [show wv 16 2 S_8 a0 = va_rf (sR S_8 a0 2) from rfl, ey_11]; rfl) dX11_stateNow_47 ?_
      refine w_callI (va_runV (As := [.ref y_11]) (rest := []) F (c_X3_timesOf l hL_y_10 hK_y_10 hL_y_11 hK_y_11 hp H.size) (cwV (C := RX3) 1 hts (wg_V wm_RX11_306 wy_X3_timesOf) rfl rfl rfl (by decide +kernel) ⟨Nat.le_of_ble_eq_true rfl, Nat.le_of_ble_eq_true rfl⟩) (w_preV hK hW hL_y_10 hK_y_10 (by decide) rfl) rfl rfl hl.1 rfl (lv_room (Nat.le_of_ble_eq_true rfl)) dX11_stateNow_50 ⟨Nat.le_of_ble_eq_true rfl, Nat.le_of_ble_eq_true rfl⟩) hW (fun r_12 S_13 H locs hp hW => ?_)
      obtain ⟨hX_S_13, hp⟩ := hp
      refine W.widen (k := 0) (n := 0) (by decide) (by decide) ?_
      have hE := hE.trans hX_S_13
      have hK_a0 : sK S_13 a0 = 16 := (hX_S_13.2 a0 hL_a0).1.trans hK_a0
      have hL_a0 : wM D S_13 a0 := hX_S_13.M hL_a0
      refine lv_iconst (v := 3) hx hb dX11_stateNow_53 (by decide) ?_
      refine lv_icmp_lt (tgt := 59) hx hb dX11_stateNow_54 (by decide) (fun c_14 => ?_) (fun c_14 => ?_)
      · replace hp := hp.1 c_14
        refine lv_aload_n hx hb dX11_stateNow_59 rfl (lv_at hl 0 rfl) ?_
        obtain ⟨y_15, ey_15, hL_y_15, hK_y_15, hp⟩ := hp
        refine w_get (k := 16) (f := 4) (T := TX11) (v := .ref y_15) F hK hW hL_a0 hK_a0 (by decide) rfl rfl (by decide) i_16 k_40 (by rw [show wv 16 4 S_13 a0 = va_rf (sR S_13 a0 4) from rfl, ey_15]; rfl) dX11_stateNow_60 ?_
        refine w_callI (va_runV (As := []) (rest := []) F (c_X3_calmMoves l hL_y_15 hK_y_15 hp H.size) (cwV (C := RX3) 0 hts (wg_V wm_RX11_538 wy_X3_calmMoves) rfl rfl rfl (by decide +kernel) ⟨Nat.le_of_ble_eq_true rfl, Nat.le_of_ble_eq_true rfl⟩) (w_preV hK hW hL_y_15 hK_y_15 (by decide) rfl) rfl rfl hl.1 rfl (lv_room (Nat.le_of_ble_eq_true rfl)) dX11_stateNow_63 ⟨Nat.le_of_ble_eq_true rfl, Nat.le_of_ble_eq_true rfl⟩) hW (fun r_16 S_17 H locs hp hW => ?_)
        obtain ⟨hX_S_17, hp⟩ := hp
        refine W.widen (k := 0) (n := 0) (by decide) (by decide) ?_
        have hE := hE.trans hX_S_17
        have hK_a0 : sK S_17 a0 = 16 := (hX_S_17.2 a0 hL_a0).1.trans hK_a0
        have hL_a0 : wM D S_17 a0 := hX_S_17.M hL_a0
        refine lv_bipush (v := 40) hx hb dX11_stateNow_66 (by decide) ?_
        refine lv_icmp_lt (tgt := 75) hx hb dX11_stateNow_68 (by decide) (fun c_18 => ?_) (fun c_18 => ?_)
        · replace hp := hp.1 c_18
          refine lv_iconst (v := 0) hx hb dX11_stateNow_75 (by decide) ?_
          exact t_X11_stateNow_76 F hr hlocks hK hp hW hE (lv_sub hl [] rfl)
        · replace hp := hp.2 c_18
          refine lv_iconst (v := 5) hx hb dX11_stateNow_71 (by decide) ?_
          refine lv_goto (tgt := 76) hx hb dX11_stateNow_72 (by decide) ?_
          exact t_X11_stateNow_76 F hr hlocks hK hp hW hE (lv_sub hl [] rfl)
      · replace hp := hp.2 c_14
        refine lv_iconst (v := 4) hx hb dX11_stateNow_57 (by decide) ?_
        exact w_iret hx hb hr hlocks hW ⟨hE, hp⟩ dX11_stateNow_58
    · replace hp := hp.2 c_9
      refine lv_iconst (v := 3) hx hb dX11_stateNow_40 (by decide) ?_
      exact w_iret hx hb hr hlocks hW ⟨hE, hp⟩ dX11_stateNow_41
  · replace hp := hp.2 c_5
    refine lv_aload_n hx hb dX11_stateNow_14 rfl (lv_at hl 0 rfl) ?_
    obtain ⟨y_19, ey_19, hL_y_19, hK_y_19, hp⟩ := hp
    refine w_get (k := 16) (f := 2) (T := TX11) (v := .ref y_19) F hK hW hL_a0 hK_a0 (by decide) rfl rfl (by decide) i_16 k_28 (by rw [show wv 16 2 S_4 a0 = va_rf (sR S_4 a0 2) from rfl, ey_19]; rfl) dX11_stateNow_15 ?_
    refine w_callI (va_runV (As := []) (rest := []) F (c_X7_isInCheck l hL_y_19 hK_y_19 hp H.size) (cwV (C := RX7) 0 hts (wg_V wm_RX11_532 wy_X7_isInCheck) rfl rfl rfl (by decide +kernel) ⟨Nat.le_of_ble_eq_true rfl, Nat.le_of_ble_eq_true rfl⟩) (w_preV hK hW hL_y_19 hK_y_19 (by decide) rfl) rfl rfl hl.1 rfl (lv_room (Nat.le_of_ble_eq_true rfl)) dX11_stateNow_18 ⟨Nat.le_of_ble_eq_true rfl, Nat.le_of_ble_eq_true rfl⟩) hW (fun r_20 S_21 H locs hp hW => ?_)
    obtain ⟨hX_S_21, hp⟩ := hp
    refine W.widen (k := 0) (n := 0) (by decide) (by decide) ?_
    have hE := hE.trans hX_S_21
    have hK_a0 : sK S_21 a0 = 16 := (hX_S_21.2 a0 hL_a0).1.trans hK_a0
    have hL_a0 : wM D S_21 a0 := hX_S_21.M hL_a0
    refine lv_if_eq (tgt := 28) hx hb dX11_stateNow_21 (by decide) (fun c_22 => ?_) (fun c_22 => ?_)
    · replace hp := hp.1 c_22
      refine lv_iconst (v := 2) hx hb dX11_stateNow_28 (by decide) ?_
      exact t_X11_stateNow_29 F hr hlocks hK hp hW hE (lv_sub hl [] rfl)
    · replace hp := hp.2 c_22
      refine lv_iconst (v := 1) hx hb dX11_stateNow_24 (by decide) ?_
      refine lv_goto (tgt := 29) hx hb dX11_stateNow_25 (by decide) ?_
      exact t_X11_stateNow_29 F hr hlocks hK hp hW hE (lv_sub hl [] rfl)
set_option maxHeartbeats 4000000 in
set_option maxRecDepth 100000 in
theorem c_X11_stateNow (l : Launch) {D : wD} {cy : Nat → ClassId} {X : va_W} {S0 : wS} {post : Int32 → wS → Prop} {a0 : Nat} (hL_a0 : wM D S0 a0) (hK_a0 : sK S0 a0 = 16) (hp : wp_X11_stateNow D post S0 a0) : mI D cy X l yX11_stateNow wz_X11_stateNow r_X11_stateNow [.ref a0] S0 (fun r S9 => wX D S0 S9 ∧ post r S9) := by
  intro sz
  refine Met.ofW (cc := cX11_stateNow) (maxL := 1) (ret := (some .int)) (by decide) rfl ?_
  intro p e s m args below meth c s₁ B hml hv
  obtain ⟨rfl, hsz, hP, hK, hD0, hRO⟩ := hv
  have hts := atoms_spec (ws := wz_X11_stateNow) B.pre
  have hown : s.vm.findClass RX11 = some m.cls := findClass_of_methodNamed B.named
  subst hsz
  have hD := hD0.self (sz := s.heap.size)
  have F : CallFix p m c cX11_stateNow 1 s _ wz_X11_stateNow RX11 := ⟨B.exec, B.bytes, hml, hown, hts⟩
  have hr := B.returns
  have hlocks := B.notSynchronized
  generalize hAe : va_A (wL cy X S0) s.heap.size = A at hD hK ⊢
  have hA : ∀ q, s.heap.size ≤ q → A q := fun q h => by rw [← hAe]; exact Or.inr h
  have hW : wO D cy X A s.heap S0 s.heap [] := ⟨hP, hD, va_S.rf, hA, hRO⟩
  have hl := lv_entry ([.ref a0]) (n := 1) (Nat.le_of_ble_eq_true rfl)
  rw [lg_entry_eq]
  generalize (lg_sl ([.ref a0]) ++ List.replicate (1 - (lg_sl ([.ref a0])).length) Slot.unset).toArray = ls at hl ⊢
  have hl : lv_has ls 1 [(0, .ref a0)] := hl
  unfold wp_X11_stateNow at hp
  exact t_X11_stateNow_0 F hr hlocks hK hp hW wX.rf (lv_sub hl [0] rfl) hL_a0 hK_a0
def wp_X11_play_0 (D : wD) (post : Int32 → wS → Prop) (xp : String → wS → Prop)  (S : wS) (a0 : Nat) (x1 : Int32) : Prop :=
wp_X11_mustBeLawful D (fun S_2 => 
∃ y_3 : Nat, sR S_2 a0 4 = some y_3 ∧ wM D S_2 y_3 ∧ sK S_2 y_3 = 8 ∧
(((sI S_2 y_3 3) < (80 : Int32) → wp_X11_codeOf D (fun r_5 S_6 => 
wp_X11_make D (fun S_8 => 
wp_X11_stateNow D (fun r_9 S_10 => 
post r_9 S_10) S_8 a0) S_6 a0 r_5) xp S_2 a0 x1) ∧
 (¬ (sI S_2 y_3 3) < (80 : Int32) → xp "java/lang/IllegalStateException" S_2))) xp S a0
abbrev r_X11_play : Room := { frames := 8, cells := 3, slots := 18, locals := 167 }
def wp_X11_play (D : wD) (post : Int32 → wS → Prop) (xp : String → wS → Prop) (S : wS) (a0 : Nat) (x1 : Int32) : Prop := wp_X11_play_0 D post xp S a0 x1
set_option maxHeartbeats 4000000 in
set_option maxRecDepth 100000 in
theorem t_X11_play_0 {p : Program} {l : Launch} {e : Env} {s : State} {m : MethodId} {args : Array Value} {below : List Frame} {meth : Method} {c : Code} {D : wD} {cy : Nat → ClassId} {X : va_W} {A : Nat → Prop} {S0 : wS} {post : Int32 → wS → Prop} {xp : String → wS → Prop} (F : CallFix p m c cX11_play 2 s args wz_X11_play RX11) (hr : meth.sig.returnType = (some .int)) (hlocks : meth.locks = false) (hK : wK D cy A s) (hl0 : l.stackTraces = false) (hexc : ∀ x ∈ c.exceptionTable.toList, False) : ∀ {S : wS} {H : Heap} {locs : List Loc} {ls : Array Slot} {a0 : Nat} {x1 : Int32}, wp_X11_play_0 D post xp S a0 x1 → wO D cy X A s.heap S H locs → wX D S0 S → lv_has ls 2 [(0, .ref a0), (1, .int x1)] → wM D S a0 → sK S a0 = 16 → W p l e r_X11_play s m args below meth c H locs 0 0 (vx_MQ below (va_Qi (fun r S9 => wX D S0 S9 ∧ post r S9) (wB D cy X A) A) (wEx D cy X A (fun E S9 => wX D S0 S9 ∧ xp E S9)) args s 3 18 A) (F0 m 0 ls []) := by
  obtain ⟨hx, hb, hml, hown, hts⟩ := id F
  have hwg : ∀ w ∈ WG, w.before args s = true := fun w h => hts w (List.mem_cons_of_mem _ h)
  have i_16 : ∀ w ∈ u_ws RX11 TX11 18, w ∈ wz_X11_play := fun w h => List.mem_cons_of_mem _ (wu_16 w h)
  have i_8 : ∀ w ∈ u_ws RX3 TX3 9, w ∈ wz_X11_play := fun w h => List.mem_cons_of_mem _ (wu_8 w h)
  have k_40 := hwg _ wf_RX11_40
  intro S H locs ls a0 x1 hp hW hE hl hL_a0 hK_a0
  unfold wp_X11_play_0 at hp
  refine lv_aload_n hx hb dX11_play_0 rfl (lv_at hl 0 rfl) ?_
  refine x_callV (vx_runV (As := []) (rest := []) F (c_X11_mustBeLawful l hl0 hL_a0 hK_a0 hp H.size) (cwV (C := RX11) 0 hts (wg_V wm_RX11_217 wy_X11_mustBeLawful) rfl rfl rfl (by decide +kernel) ⟨Nat.le_of_ble_eq_true rfl, Nat.le_of_ble_eq_true rfl⟩) (w_preV hK hW hL_a0 hK_a0 (by decide) rfl) rfl rfl hl.1 rfl (lv_room (Nat.le_of_ble_eq_true rfl)) dX11_play_1 ⟨Nat.le_of_ble_eq_true rfl, Nat.le_of_ble_eq_true rfl⟩) hW (fun E ce q9 S9 H locs hp hW h1 h2 h3 => x_out hexc hlocks ⟨hE.trans hp.1, hp.2⟩ hW h1 h2 h3 (by decide) (by decide)) (fun S_2 H locs hp hW => ?_)
  obtain ⟨hX_S_2, hp⟩ := hp
  refine W.widen (k := 1) (n := 6) (by decide) (by decide) ?_
  have hE := hE.trans hX_S_2
  have hK_a0 : sK S_2 a0 = 16 := (hX_S_2.2 a0 hL_a0).1.trans hK_a0
  have hL_a0 : wM D S_2 a0 := hX_S_2.M hL_a0
  refine lv_aload_n hx hb dX11_play_4 rfl (lv_at hl 0 rfl) ?_
  obtain ⟨y_3, ey_3, hL_y_3, hK_y_3, hp⟩ := hp
  refine w_get (k := 16) (f := 4) (T := TX11) (v := .ref y_3) F hK hW hL_a0 hK_a0 (by decide) rfl rfl (by decide) i_16 k_40 (by rw [show wv 16 4 S_2 a0 = va_rf (sR S_2 a0 4) from rfl, ey_3]; rfl) dX11_play_5 ?_
  refine w_getN (k := 8) (f := 3) (T := TX3) (v := .int (sI S_2 y_3 3)) F hK hW hL_y_3 hK_y_3 (by decide) rfl rfl (by decide) i_8 (hK.2.1 (.fieldLinkNest "OpeningsCabinet" 157 "OpeningsCabinet$Game" "length" "I" "OpeningsCabinet") (by decide +kernel)) rfl dX11_play_8 ?_
  refine lv_bipush (v := 80) hx hb dX11_play_11 (by decide) ?_
  refine lv_icmp_lt (tgt := 27) hx hb dX11_play_13 (by decide) (fun c_4 => ?_) (fun c_4 => ?_)
  · replace hp := hp.1 c_4
    refine lv_aload_n hx hb dX11_play_27 rfl (lv_at hl 0 rfl) ?_
    refine lv_aload_n hx hb dX11_play_28 rfl (lv_at hl 0 rfl) ?_
    refine lv_iload_n hx hb dX11_play_29 rfl (lv_at hl 1 rfl) ?_
    refine x_callI (vx_runV (As := [.int x1]) (rest := [.ref a0]) F (c_X11_codeOf l hl0 hL_a0 hK_a0 hp H.size) (cwV (C := RX11) 1 hts (wg_V wm_RX11_264 wy_X11_codeOf) rfl rfl rfl (by decide +kernel) ⟨Nat.le_of_ble_eq_true rfl, Nat.le_of_ble_eq_true rfl⟩) (w_preV hK hW hL_a0 hK_a0 (by decide) rfl) rfl rfl hl.1 rfl (lv_room (Nat.le_of_ble_eq_true rfl)) dX11_play_30 ⟨Nat.le_of_ble_eq_true rfl, Nat.le_of_ble_eq_true rfl⟩) hW (fun E ce q9 S9 H locs hp hW h1 h2 h3 => x_out hexc hlocks ⟨hE.trans hp.1, hp.2⟩ hW h1 h2 h3 (by decide) (by decide)) (fun r_5 S_6 H locs hp hW => ?_)
    obtain ⟨hX_S_6, hp⟩ := hp
    refine W.widen (k := 3) (n := 18) (by decide) (by decide) ?_
    have hE := hE.trans hX_S_6
    have hK_a0 : sK S_6 a0 = 16 := (hX_S_6.2 a0 hL_a0).1.trans hK_a0
    have hL_a0 : wM D S_6 a0 := hX_S_6.M hL_a0
    refine w_callV (va_runV (As := [.int r_5]) (rest := []) F (c_X11_make l hL_a0 hK_a0 hp H.size) (cwV (C := RX11) 1 hts (wg_V wm_RX11_290 wy_X11_make) rfl rfl rfl (by decide +kernel) ⟨Nat.le_of_ble_eq_true rfl, Nat.le_of_ble_eq_true rfl⟩) (w_preV hK hW hL_a0 hK_a0 (by decide) rfl) rfl rfl hl.1 rfl (lv_room (Nat.le_of_ble_eq_true rfl)) dX11_play_33 ⟨Nat.le_of_ble_eq_true rfl, Nat.le_of_ble_eq_true rfl⟩) hW (fun S_8 H locs hp hW => ?_)
    obtain ⟨hX_S_8, hp⟩ := hp
    refine W.widen (k := 3) (n := 18) (by decide) (by decide) ?_
    have hE := hE.trans hX_S_8
    have hK_a0 : sK S_8 a0 = 16 := (hX_S_8.2 a0 hL_a0).1.trans hK_a0
    have hL_a0 : wM D S_8 a0 := hX_S_8.M hL_a0
    refine lv_aload_n hx hb dX11_play_36 rfl (lv_at hl 0 rfl) ?_
    refine w_callI (va_runV (As := []) (rest := []) F (c_X11_stateNow l hL_a0 hK_a0 hp H.size) (cwV (C := RX11) 0 hts (wg_V wm_RX11_293 wy_X11_stateNow) rfl rfl rfl (by decide +kernel) ⟨Nat.le_of_ble_eq_true rfl, Nat.le_of_ble_eq_true rfl⟩) (w_preV hK hW hL_a0 hK_a0 (by decide) rfl) rfl rfl hl.1 rfl (lv_room (Nat.le_of_ble_eq_true rfl)) dX11_play_37 ⟨Nat.le_of_ble_eq_true rfl, Nat.le_of_ble_eq_true rfl⟩) hW (fun r_9 S_10 H locs hp hW => ?_)
    obtain ⟨hX_S_10, hp⟩ := hp
    refine W.widen (k := 3) (n := 18) (by decide) (by decide) ?_
    have hE := hE.trans hX_S_10
    have hK_a0 : sK S_10 a0 = 16 := (hX_S_10.2 a0 hL_a0).1.trans hK_a0
    have hL_a0 : wM D S_10 a0 := hX_S_10.M hL_a0
    refine vx_ret ?_
    exact w_iret hx hb hr hlocks hW ⟨hE, hp⟩ dX11_play_40
  · replace hp := hp.2 c_4
    exact x_throwW (ls := ls) F hK hW hl0 (by decide) (hwg _ wc_RX11_285) (hwg _ wi_java_lang_IllegalStateException) (show ("OpeningsCabinet", 287, "80 moves were made", 21) ∈ wStr by decide +kernel) (wa_RX11_289 hwg hK.2.1) wa_RX11_289_ok hl.1 hexc hlocks dX11_play_16 dX11_play_19 dX11_play_20 dX11_play_23 dX11_play_26 (Nat.le_of_ble_eq_true rfl) (Nat.le_of_ble_eq_true rfl) (Nat.le_of_ble_eq_true rfl) (Nat.le_of_ble_eq_true rfl) (by decide) (by decide) ⟨hE, hp⟩
set_option maxHeartbeats 4000000 in
set_option maxRecDepth 100000 in
theorem c_X11_play (l : Launch) {D : wD} {cy : Nat → ClassId} {X : va_W} {S0 : wS} {post : Int32 → wS → Prop} {xp : String → wS → Prop} (hl0 : l.stackTraces = false) {a0 : Nat} {x1 : Int32} (hL_a0 : wM D S0 a0) (hK_a0 : sK S0 a0 = 16) (hp : wp_X11_play D post xp S0 a0 x1) : xI D cy X l yX11_play wz_X11_play r_X11_play [.ref a0, .int x1] S0 (fun r S9 => wX D S0 S9 ∧ post r S9) (fun E S9 => wX D S0 S9 ∧ xp E S9) := by
  intro sz
  refine vx_ofW (cc := cX11_play) (maxL := 2) (ret := (some .int)) (by decide) rfl ?_
  intro p e s m args below meth c s₁ B hml hexc hv
  obtain ⟨rfl, hsz, hP, hK, hD0, hRO⟩ := hv
  have hts := atoms_spec (ws := wz_X11_play) B.pre
  have hown : s.vm.findClass RX11 = some m.cls := findClass_of_methodNamed B.named
  subst hsz
  have hD := hD0.self (sz := s.heap.size)
  have F : CallFix p m c cX11_play 2 s _ wz_X11_play RX11 := ⟨B.exec, B.bytes, hml, hown, hts⟩
  have hr := B.returns
  have hlocks := B.notSynchronized
  generalize hAe : va_A (wL cy X S0) s.heap.size = A at hD hK ⊢
  have hA : ∀ q, s.heap.size ≤ q → A q := fun q h => by rw [← hAe]; exact Or.inr h
  have hW : wO D cy X A s.heap S0 s.heap [] := ⟨hP, hD, va_S.rf, hA, hRO⟩
  have hl := lv_entry ([.ref a0, .int x1]) (n := 2) (Nat.le_of_ble_eq_true rfl)
  rw [lg_entry_eq]
  generalize (lg_sl ([.ref a0, .int x1]) ++ List.replicate (2 - (lg_sl ([.ref a0, .int x1])).length) Slot.unset).toArray = ls at hl ⊢
  have hl : lv_has ls 2 [(0, .ref a0), (1, .int x1)] := hl
  unfold wp_X11_play at hp
  exact t_X11_play_0 F hr hlocks hK hl0 hexc hp hW wX.rf (lv_sub hl [0, 1] rfl) hL_a0 hK_a0
def wp_X1_mainMove_59 (D : wD) (post : Int32 → wS → Prop) (k_4 : wS → Nat → Int32 → Int32 → Prop) (S : wS) (a0 : Nat) (x1 : Int32) (x2 : Int32) : Prop :=
∀ x_1 : Int32, x_1 = x2 + 1 →
k_4 S a0 x1 x_1
def wp_X1_mainMove_57 (D : wD) (post : Int32 → wS → Prop) (k_4 : wS → Nat → Int32 → Int32 → Prop) (S : wS) (a0 : Nat) (x2 : Int32) : Prop :=
wp_X1_mainMove_59 D post k_4 S a0 x2 x2
def wp_X1_mainMove_4 (D : wD) (post : Int32 → wS → Prop)  : Nat → wS → Nat → Int32 → Int32 → Prop
  | 0, _, _, _, _ => False
  | n + 1, S, a0, x1, x2 =>
    ∃ y_1 : Nat, sR S a0 0 = some y_1 ∧ wM D S y_1 ∧ sK S y_1 = 9 ∧
    (((sI S y_1 7) ≤ x2 → post x1 S) ∧
     (¬ (sI S y_1 7) ≤ x2 → wp_X1_gamesWith D (fun r_3 S_4 => 
    wp_X1_gamesWith D (fun r_5 S_6 => 
    ∀ x_7 : Int32, x_7 = (r_3 - r_5) →
    ((0 < x_7 → wp_X1_mainMove_57 D post (wp_X1_mainMove_4 D post n) S_6 a0 x2) ∧
     (¬ 0 < x_7 → ((¬ x_7 = 0 → wp_X1_mainMove_59 D post (wp_X1_mainMove_4 D post n) S_6 a0 x1 x2) ∧
     (x_7 = 0 → wp_X1_gamesWith D (fun r_10 S_11 => 
    ((r_10 ≤ 0 → wp_X1_mainMove_59 D post (wp_X1_mainMove_4 D post n) S_11 a0 x1 x2) ∧
     (¬ r_10 ≤ 0 → wp_X1_letters D (fun r_13 S_14 => 
    wp_X1_letters D (fun r_15 S_16 => 
    ((0 ≤ (lg_cmp r_13 r_15) → wp_X1_mainMove_59 D post (wp_X1_mainMove_4 D post n) S_16 a0 x1 x2) ∧
     (¬ 0 ≤ (lg_cmp r_13 r_15) → wp_X1_mainMove_57 D post (wp_X1_mainMove_4 D post n) S_16 a0 x2))) S_14 a0 x1) S_11 a0 x2))) S_6 a0 x2))))) S_4 a0 x1) S a0 x2))
def wp_X1_mainMove_0 (D : wD) (post : Int32 → wS → Prop)  (S : wS) (a0 : Nat) : Prop :=
∃ n_1 : Nat, wp_X1_mainMove_4 D post n_1 S a0 (-1 : Int32) (0 : Int32)
abbrev r_X1_mainMove : Room := { frames := 1, cells := 0, slots := 0, locals := 21 }
def wp_X1_mainMove (D : wD) (post : Int32 → wS → Prop) (S : wS) (a0 : Nat) : Prop := wp_X1_mainMove_0 D post S a0
set_option maxHeartbeats 4000000 in
set_option maxRecDepth 100000 in
theorem t_X1_mainMove_59 {p : Program} {l : Launch} {e : Env} {s : State} {m : MethodId} {args : Array Value} {below : List Frame} {meth : Method} {c : Code} {D : wD} {cy : Nat → ClassId} {X : va_W} {A : Nat → Prop} {S0 : wS} {post : Int32 → wS → Prop} (F : CallFix p m c cX1_mainMove 4 s args wz_X1_mainMove RX1) (hr : meth.sig.returnType = (some .int)) (hlocks : meth.locks = false) (hK : wK D cy A s) {k_4 : wS → Nat → Int32 → Int32 → Prop} (q_4 : ∀ {S : wS} {H : Heap} {locs : List Loc} {ls : Array Slot} {a0 : Nat} {x1 : Int32} {x2 : Int32}, k_4 S a0 x1 x2 → wO D cy X A s.heap S H locs → wX D S0 S → lv_has ls 4 [(0, .ref a0), (1, .int x1), (2, .int x2)] → wM D S a0 → sK S a0 = 6 → W p l e r_X1_mainMove s m args below meth c H locs 0 0 (MQ below (va_Qi (fun r S9 => wX D S0 S9 ∧ post r S9) (wB D cy X A) A) args s 0 0 A) (F0 m 4 ls [])) : ∀ {S : wS} {H : Heap} {locs : List Loc} {ls : Array Slot} {a0 : Nat} {x1 : Int32} {x2 : Int32}, wp_X1_mainMove_59 D post k_4 S a0 x1 x2 → wO D cy X A s.heap S H locs → wX D S0 S → lv_has ls 4 [(0, .ref a0), (1, .int x1), (2, .int x2)] → wM D S a0 → sK S a0 = 6 → W p l e r_X1_mainMove s m args below meth c H locs 0 0 (MQ below (va_Qi (fun r S9 => wX D S0 S9 ∧ post r S9) (wB D cy X A) A) args s 0 0 A) (F0 m 59 ls []) := by
  obtain ⟨hx, hb, hml, hown, hts⟩ := id F
  have hwg : ∀ w ∈ WG, w.before args s = true := fun w h => hts w (List.mem_cons_of_mem _ h)
  intro S H locs ls a0 x1 x2 hp hW hE hl hL_a0 hK_a0
  unfold wp_X1_mainMove_59 at hp
  obtain ⟨x_1, ex_1⟩ : ∃ z : Int32, z = x2 + 1 := ⟨_, rfl⟩
  replace hp := hp x_1 ex_1
  refine lv_iinc (v := x_1) (lv' := [(2, .int x_1), (0, .ref a0), (1, .int x1)]) hx hb dX1_mainMove_59 hl (k := 2) rfl (by rw [ex_1]; rfl) (by decide) rfl (fun ls hl => ?_)
  refine lv_goto (tgt := 4) hx hb dX1_mainMove_62 (by decide) ?_
  exact q_4 hp hW hE (lv_sub hl [1, 2, 0] rfl) hL_a0 hK_a0
set_option maxHeartbeats 4000000 in
set_option maxRecDepth 100000 in
theorem t_X1_mainMove_57 {p : Program} {l : Launch} {e : Env} {s : State} {m : MethodId} {args : Array Value} {below : List Frame} {meth : Method} {c : Code} {D : wD} {cy : Nat → ClassId} {X : va_W} {A : Nat → Prop} {S0 : wS} {post : Int32 → wS → Prop} (F : CallFix p m c cX1_mainMove 4 s args wz_X1_mainMove RX1) (hr : meth.sig.returnType = (some .int)) (hlocks : meth.locks = false) (hK : wK D cy A s) {k_4 : wS → Nat → Int32 → Int32 → Prop} (q_4 : ∀ {S : wS} {H : Heap} {locs : List Loc} {ls : Array Slot} {a0 : Nat} {x1 : Int32} {x2 : Int32}, k_4 S a0 x1 x2 → wO D cy X A s.heap S H locs → wX D S0 S → lv_has ls 4 [(0, .ref a0), (1, .int x1), (2, .int x2)] → wM D S a0 → sK S a0 = 6 → W p l e r_X1_mainMove s m args below meth c H locs 0 0 (MQ below (va_Qi (fun r S9 => wX D S0 S9 ∧ post r S9) (wB D cy X A) A) args s 0 0 A) (F0 m 4 ls [])) : ∀ {S : wS} {H : Heap} {locs : List Loc} {ls : Array Slot} {a0 : Nat} {x2 : Int32}, wp_X1_mainMove_57 D post k_4 S a0 x2 → wO D cy X A s.heap S H locs → wX D S0 S → lv_has ls 4 [(0, .ref a0), (2, .int x2)] → wM D S a0 → sK S a0 = 6 → W p l e r_X1_mainMove s m args below meth c H locs 0 0 (MQ below (va_Qi (fun r S9 => wX D S0 S9 ∧ post r S9) (wB D cy X A) A) args s 0 0 A) (F0 m 57 ls []) := by
  obtain ⟨hx, hb, hml, hown, hts⟩ := id F
  have hwg : ∀ w ∈ WG, w.before args s = true := fun w h => hts w (List.mem_cons_of_mem _ h)
  intro S H locs ls a0 x2 hp hW hE hl hL_a0 hK_a0
  unfold wp_X1_mainMove_57 at hp
  refine lv_iload_n hx hb dX1_mainMove_57 rfl (lv_at hl 1 rfl) ?_
  refine lv_istore_n (lv' := [(1, .int x2), (0, .ref a0), (2, .int x2)]) hx hb dX1_mainMove_58 rfl hl (by decide) rfl (fun ls hl => ?_)
  exact t_X1_mainMove_59 F hr hlocks hK q_4 hp hW hE (lv_sub hl [1, 0, 2] rfl) hL_a0 hK_a0
set_option maxHeartbeats 4000000 in
set_option maxRecDepth 100000 in
theorem t_X1_mainMove_4 {p : Program} {l : Launch} {e : Env} {s : State} {m : MethodId} {args : Array Value} {below : List Frame} {meth : Method} {c : Code} {D : wD} {cy : Nat → ClassId} {X : va_W} {A : Nat → Prop} {S0 : wS} {post : Int32 → wS → Prop} (F : CallFix p m c cX1_mainMove 4 s args wz_X1_mainMove RX1) (hr : meth.sig.returnType = (some .int)) (hlocks : meth.locks = false) (hK : wK D cy A s) : ∀ (n : Nat) {S : wS} {H : Heap} {locs : List Loc} {ls : Array Slot} {a0 : Nat} {x1 : Int32} {x2 : Int32}, wp_X1_mainMove_4 D post n S a0 x1 x2 → wO D cy X A s.heap S H locs → wX D S0 S → lv_has ls 4 [(0, .ref a0), (1, .int x1), (2, .int x2)] → wM D S a0 → sK S a0 = 6 → W p l e r_X1_mainMove s m args below meth c H locs 0 0 (MQ below (va_Qi (fun r S9 => wX D S0 S9 ∧ post r S9) (wB D cy X A) A) args s 0 0 A) (F0 m 4 ls []) := by
  obtain ⟨hx, hb, hml, hown, hts⟩ := id F
  have hwg : ∀ w ∈ WG, w.before args s = true := fun w h => hts w (List.mem_cons_of_mem _ h)
  have i_6 : ∀ w ∈ u_ws RX1 TX1 4, w ∈ wz_X1_mainMove := fun w h => List.mem_cons_of_mem _ (wu_6 w h)
  have i_9 : ∀ w ∈ u_ws RX4 TX4 8, w ∈ wz_X1_mainMove := fun w h => List.mem_cons_of_mem _ (wu_9 w h)
  have k_22 := hwg _ wf_RX1_22
  intro n
  induction n with
  | zero =>
    intro S H locs ls a0 x1 x2 hp
    exact hp.elim
  | succ n ih =>
    intro S H locs ls a0 x1 x2 hp hW hE hl hL_a0 hK_a0
    unfold wp_X1_mainMove_4 at hp
    refine lv_iload_n hx hb dX1_mainMove_4 rfl (lv_at hl 2 rfl) ?_
    refine lv_aload_n hx hb dX1_mainMove_5 rfl (lv_at hl 0 rfl) ?_
    obtain ⟨y_1, ey_1, hL_y_1, hK_y_1, hp⟩ := hp
    refine w_get (k := 6) (f := 0) (T := TX1) (v := .ref y_1) F hK hW hL_a0 hK_a0 (by decide) rfl rfl (by decide) i_6 k_22 (by rw [show wv 6 0 S a0 = va_rf (sR S a0 0) from rfl, ey_1]; rfl) dX1_mainMove_6 ?_
    refine w_getN (k := 9) (f := 7) (T := TX4) (v := .int (sI S y_1 7)) F hK hW hL_y_1 hK_y_1 (by decide) rfl rfl (by decide) i_9 (hK.2.1 (.fieldLinkNest "OpeningsCabinet$Continuations" 74 "OpeningsCabinet$MoveList" "size" "I" "OpeningsCabinet") (by decide +kernel)) rfl dX1_mainMove_9 ?_
    refine lv_icmp_ge (tgt := 65) hx hb dX1_mainMove_12 (by decide) (fun c_2 => ?_) (fun c_2 => ?_)
    · replace hp := hp.1 c_2
      refine lv_iload_n hx hb dX1_mainMove_65 rfl (lv_at hl 1 rfl) ?_
      exact w_iret hx hb hr hlocks hW ⟨hE, hp⟩ dX1_mainMove_66
    · replace hp := hp.2 c_2
      refine lv_aload_n hx hb dX1_mainMove_15 rfl (lv_at hl 0 rfl) ?_
      refine lv_iload_n hx hb dX1_mainMove_16 rfl (lv_at hl 2 rfl) ?_
      refine w_callI (va_runV (As := [.int x2]) (rest := []) F (c_X1_gamesWith l hL_a0 hK_a0 hp H.size) (cwV (C := RX1) 1 hts (wg_V wm_RX1_76 wy_X1_gamesWith) rfl rfl rfl (by decide +kernel) ⟨Nat.le_of_ble_eq_true rfl, Nat.le_of_ble_eq_true rfl⟩) (w_preV hK hW hL_a0 hK_a0 (by decide) rfl) rfl rfl hl.1 rfl (lv_room (Nat.le_of_ble_eq_true rfl)) dX1_mainMove_17 ⟨Nat.le_of_ble_eq_true rfl, Nat.le_of_ble_eq_true rfl⟩) hW (fun r_3 S_4 H locs hp hW => ?_)
      obtain ⟨hX_S_4, hp⟩ := hp
      refine W.widen (k := 0) (n := 0) (by decide) (by decide) ?_
      have hE := hE.trans hX_S_4
      have hK_a0 : sK S_4 a0 = 6 := (hX_S_4.2 a0 hL_a0).1.trans hK_a0
      have hL_a0 : wM D S_4 a0 := hX_S_4.M hL_a0
      refine lv_aload_n hx hb dX1_mainMove_20 rfl (lv_at hl 0 rfl) ?_
      refine lv_iload_n hx hb dX1_mainMove_21 rfl (lv_at hl 1 rfl) ?_
      refine w_callI (va_runV (As := [.int x1]) (rest := [.int r_3]) F (c_X1_gamesWith l hL_a0 hK_a0 hp H.size) (cwV (C := RX1) 1 hts (wg_V wm_RX1_76 wy_X1_gamesWith) rfl rfl rfl (by decide +kernel) ⟨Nat.le_of_ble_eq_true rfl, Nat.le_of_ble_eq_true rfl⟩) (w_preV hK hW hL_a0 hK_a0 (by decide) rfl) rfl rfl hl.1 rfl (lv_room (Nat.le_of_ble_eq_true rfl)) dX1_mainMove_22 ⟨Nat.le_of_ble_eq_true rfl, Nat.le_of_ble_eq_true rfl⟩) hW (fun r_5 S_6 H locs hp hW => ?_)
      obtain ⟨hX_S_6, hp⟩ := hp
      refine W.widen (k := 0) (n := 0) (by decide) (by decide) ?_
      have hE := hE.trans hX_S_6
      have hK_a0 : sK S_6 a0 = 6 := (hX_S_6.2 a0 hL_a0).1.trans hK_a0
      have hL_a0 : wM D S_6 a0 := hX_S_6.M hL_a0
      refine lv_isub hx hb dX1_mainMove_25 ?_
      refine lv_topi (fun x_7 ex_7 => ?_)
      replace hp := hp x_7 ex_7
      refine lv_istore_n (lv' := [(3, .int x_7), (0, .ref a0), (1, .int x1), (2, .int x2)]) hx hb dX1_mainMove_26 rfl hl (by decide) rfl (fun ls hl => ?_)
      refine lv_iload_n hx hb dX1_mainMove_27 rfl (lv_at hl 0 rfl) ?_
      refine lv_if_gt (tgt := 57) hx hb dX1_mainMove_28 (by decide) (fun c_8 => ?_) (fun c_8 => ?_)
      · replace hp := hp.1 c_8
        exact t_X1_mainMove_57 F hr hlocks hK ih hp hW hE (lv_sub hl [1, 3] rfl) hL_a0 hK_a0
      · replace hp := hp.2 c_8
        refine lv_iload_n hx hb dX1_mainMove_31 rfl (lv_at hl 0 rfl) ?_
        refine lv_if_ne (tgt := 59) hx hb dX1_mainMove_32 (by decide) (fun c_9 => ?_) (fun c_9 => ?_)
        · replace hp := hp.1 c_9
          exact t_X1_mainMove_59 F hr hlocks hK ih hp hW hE (lv_sub hl [1, 2, 3] rfl) hL_a0 hK_a0
        · replace hp := hp.2 c_9
          refine lv_aload_n hx hb dX1_mainMove_35 rfl (lv_at hl 1 rfl) ?_
          refine lv_iload_n hx hb dX1_mainMove_36 rfl (lv_at hl 3 rfl) ?_
          refine w_callI (va_runV (As := [.int x2]) (rest := []) F (c_X1_gamesWith l hL_a0 hK_a0 hp H.size) (cwV (C := RX1) 1 hts (wg_V wm_RX1_76 wy_X1_gamesWith) rfl rfl rfl (by decide +kernel) ⟨Nat.le_of_ble_eq_true rfl, Nat.le_of_ble_eq_true rfl⟩) (w_preV hK hW hL_a0 hK_a0 (by decide) rfl) rfl rfl hl.1 rfl (lv_room (Nat.le_of_ble_eq_true rfl)) dX1_mainMove_37 ⟨Nat.le_of_ble_eq_true rfl, Nat.le_of_ble_eq_true rfl⟩) hW (fun r_10 S_11 H locs hp hW => ?_)
          obtain ⟨hX_S_11, hp⟩ := hp
          refine W.widen (k := 0) (n := 0) (by decide) (by decide) ?_
          have hE := hE.trans hX_S_11
          have hK_a0 : sK S_11 a0 = 6 := (hX_S_11.2 a0 hL_a0).1.trans hK_a0
          have hL_a0 : wM D S_11 a0 := hX_S_11.M hL_a0
          refine lv_if_le (tgt := 59) hx hb dX1_mainMove_40 (by decide) (fun c_12 => ?_) (fun c_12 => ?_)
          · replace hp := hp.1 c_12
            exact t_X1_mainMove_59 F hr hlocks hK ih hp hW hE (lv_sub hl [1, 2, 3] rfl) hL_a0 hK_a0
          · replace hp := hp.2 c_12
            refine lv_aload_n hx hb dX1_mainMove_43 rfl (lv_at hl 1 rfl) ?_
            refine lv_iload_n hx hb dX1_mainMove_44 rfl (lv_at hl 3 rfl) ?_
            refine w_callJ (va_runV (As := [.int x2]) (rest := []) F (c_X1_letters l hL_a0 hK_a0 hp H.size) (cwV (C := RX1) 1 hts (wg_V wm_RX1_90 wy_X1_letters) rfl rfl rfl (by decide +kernel) ⟨Nat.le_of_ble_eq_true rfl, Nat.le_of_ble_eq_true rfl⟩) (w_preV hK hW hL_a0 hK_a0 (by decide) rfl) rfl rfl hl.1 rfl (lv_room (Nat.le_of_ble_eq_true rfl)) dX1_mainMove_45 ⟨Nat.le_of_ble_eq_true rfl, Nat.le_of_ble_eq_true rfl⟩) hW (fun r_13 S_14 H locs hp hW => ?_)
            obtain ⟨hX_S_14, hp⟩ := hp
            refine W.widen (k := 0) (n := 0) (by decide) (by decide) ?_
            have hE := hE.trans hX_S_14
            have hK_a0 : sK S_14 a0 = 6 := (hX_S_14.2 a0 hL_a0).1.trans hK_a0
            have hL_a0 : wM D S_14 a0 := hX_S_14.M hL_a0
            refine lv_aload_n hx hb dX1_mainMove_48 rfl (lv_at hl 1 rfl) ?_
            refine lv_iload_n hx hb dX1_mainMove_49 rfl (lv_at hl 2 rfl) ?_
            refine w_callJ (va_runV (As := [.int x1]) (rest := [.long r_13]) F (c_X1_letters l hL_a0 hK_a0 hp H.size) (cwV (C := RX1) 1 hts (wg_V wm_RX1_90 wy_X1_letters) rfl rfl rfl (by decide +kernel) ⟨Nat.le_of_ble_eq_true rfl, Nat.le_of_ble_eq_true rfl⟩) (w_preV hK hW hL_a0 hK_a0 (by decide) rfl) rfl rfl hl.1 rfl (lv_room (Nat.le_of_ble_eq_true rfl)) dX1_mainMove_50 ⟨Nat.le_of_ble_eq_true rfl, Nat.le_of_ble_eq_true rfl⟩) hW (fun r_15 S_16 H locs hp hW => ?_)
            obtain ⟨hX_S_16, hp⟩ := hp
            refine W.widen (k := 0) (n := 0) (by decide) (by decide) ?_
            have hE := hE.trans hX_S_16
            have hK_a0 : sK S_16 a0 = 6 := (hX_S_16.2 a0 hL_a0).1.trans hK_a0
            have hL_a0 : wM D S_16 a0 := hX_S_16.M hL_a0
            refine W.lcmp hx hb dX1_mainMove_53 ?_
            refine lv_if_ge (tgt := 59) hx hb dX1_mainMove_54 (by decide) (fun c_17 => ?_) (fun c_17 => ?_)
            · replace hp := hp.1 c_17
              exact t_X1_mainMove_59 F hr hlocks hK ih hp hW hE (lv_sub hl [1, 2, 3] rfl) hL_a0 hK_a0
            · replace hp := hp.2 c_17
              exact t_X1_mainMove_57 F hr hlocks hK ih hp hW hE (lv_sub hl [1, 3] rfl) hL_a0 hK_a0
set_option maxHeartbeats 4000000 in
set_option maxRecDepth 100000 in
theorem t_X1_mainMove_0 {p : Program} {l : Launch} {e : Env} {s : State} {m : MethodId} {args : Array Value} {below : List Frame} {meth : Method} {c : Code} {D : wD} {cy : Nat → ClassId} {X : va_W} {A : Nat → Prop} {S0 : wS} {post : Int32 → wS → Prop} (F : CallFix p m c cX1_mainMove 4 s args wz_X1_mainMove RX1) (hr : meth.sig.returnType = (some .int)) (hlocks : meth.locks = false) (hK : wK D cy A s) : ∀ {S : wS} {H : Heap} {locs : List Loc} {ls : Array Slot} {a0 : Nat}, wp_X1_mainMove_0 D post S a0 → wO D cy X A s.heap S H locs → wX D S0 S → lv_has ls 4 [(0, .ref a0)] → wM D S a0 → sK S a0 = 6 → W p l e r_X1_mainMove s m args below meth c H locs 0 0 (MQ below (va_Qi (fun r S9 => wX D S0 S9 ∧ post r S9) (wB D cy X A) A) args s 0 0 A) (F0 m 0 ls []) := by
  obtain ⟨hx, hb, hml, hown, hts⟩ := id F
  have hwg : ∀ w ∈ WG, w.before args s = true := fun w h => hts w (List.mem_cons_of_mem _ h)
  intro S H locs ls a0 hp hW hE hl hL_a0 hK_a0
  unfold wp_X1_mainMove_0 at hp
  refine lv_iconst (v := (-1)) hx hb dX1_mainMove_0 (by decide) ?_
  refine lv_istore_n (lv' := [(1, .int (-1 : Int32)), (0, .ref a0)]) hx hb dX1_mainMove_1 rfl hl (by decide) rfl (fun ls hl => ?_)
  refine lv_iconst (v := 0) hx hb dX1_mainMove_2 (by decide) ?_
  refine lv_istore_n (lv' := [(2, .int (0 : Int32)), (1, .int (-1 : Int32)), (0, .ref a0)]) hx hb dX1_mainMove_3 rfl hl (by decide) rfl (fun ls hl => ?_)
  obtain ⟨n_1, hp⟩ := hp
  exact t_X1_mainMove_4 F hr hlocks hK n_1 hp hW hE (lv_sub hl [2, 1, 0] rfl) hL_a0 hK_a0
set_option maxHeartbeats 4000000 in
set_option maxRecDepth 100000 in
theorem c_X1_mainMove (l : Launch) {D : wD} {cy : Nat → ClassId} {X : va_W} {S0 : wS} {post : Int32 → wS → Prop} {a0 : Nat} (hL_a0 : wM D S0 a0) (hK_a0 : sK S0 a0 = 6) (hp : wp_X1_mainMove D post S0 a0) : mI D cy X l yX1_mainMove wz_X1_mainMove r_X1_mainMove [.ref a0] S0 (fun r S9 => wX D S0 S9 ∧ post r S9) := by
  intro sz
  refine Met.ofW (cc := cX1_mainMove) (maxL := 4) (ret := (some .int)) (by decide) rfl ?_
  intro p e s m args below meth c s₁ B hml hv
  obtain ⟨rfl, hsz, hP, hK, hD0, hRO⟩ := hv
  have hts := atoms_spec (ws := wz_X1_mainMove) B.pre
  have hown : s.vm.findClass RX1 = some m.cls := findClass_of_methodNamed B.named
  subst hsz
  have hD := hD0.self (sz := s.heap.size)
  have F : CallFix p m c cX1_mainMove 4 s _ wz_X1_mainMove RX1 := ⟨B.exec, B.bytes, hml, hown, hts⟩
  have hr := B.returns
  have hlocks := B.notSynchronized
  generalize hAe : va_A (wL cy X S0) s.heap.size = A at hD hK ⊢
  have hA : ∀ q, s.heap.size ≤ q → A q := fun q h => by rw [← hAe]; exact Or.inr h
  have hW : wO D cy X A s.heap S0 s.heap [] := ⟨hP, hD, va_S.rf, hA, hRO⟩
  have hl := lv_entry ([.ref a0]) (n := 4) (Nat.le_of_ble_eq_true rfl)
  rw [lg_entry_eq]
  generalize (lg_sl ([.ref a0]) ++ List.replicate (4 - (lg_sl ([.ref a0])).length) Slot.unset).toArray = ls at hl ⊢
  have hl : lv_has ls 4 [(0, .ref a0)] := hl
  unfold wp_X1_mainMove at hp
  exact t_X1_mainMove_0 F hr hlocks hK hp hW wX.rf (lv_sub hl [0] rfl) hL_a0 hK_a0
def wp_X11_put_15 (D : wD) (post : Int32 → wS → Prop) (xp : String → wS → Prop)  (S : wS) : Prop :=
xp "java/lang/IllegalArgumentException" S
def wp_X11_put_0 (D : wD) (post : Int32 → wS → Prop) (xp : String → wS → Prop)  (S : wS) (a0 : Nat) (x1 : Int32) (x2 : Int32) : Prop :=
wp_X11_mustBeSquare D (fun S_2 => 
((x2 < 0 → wp_X11_put_15 D post xp S_2) ∧
 (¬ x2 < 0 → ((x2 ≤ (12 : Int32) → wp_X11_mustBeUnmoved D (fun S_6 => 
∃ y_7 : Nat, sR S_6 a0 2 = some y_7 ∧ wM D S_6 y_7 ∧ sK S_6 y_7 = 12 ∧
wp_X7_pieceOn D (fun r_8 S_9 => 
∃ y_10 : Nat, sR S_9 a0 2 = some y_10 ∧ wM D S_9 y_10 ∧ sK S_9 y_10 = 12 ∧
wp_X7_place D (fun S_12 => 
∃ y_13 : Nat, sR S_12 a0 2 = some y_13 ∧ wM D S_12 y_13 ∧ sK S_12 y_13 = 12 ∧
∀ S_14 : wS, S_14 = uI S_12 y_13 6 (0 : Int32) →
∃ y_15 : Nat, sR S_14 a0 2 = some y_15 ∧ wM D S_14 y_15 ∧ sK S_14 y_15 = 12 ∧
∀ S_16 : wS, S_16 = uI S_14 y_15 7 (-1 : Int32) →
∃ y_17 : Nat, sR S_16 a0 4 = some y_17 ∧ wM D S_16 y_17 ∧ sK S_16 y_17 = 8 ∧
∃ y_18 : Nat, sR S_16 a0 2 = some y_18 ∧ wM D S_16 y_18 ∧ sK S_16 y_18 = 12 ∧
wp_X3_begin D (fun S_20 => 
post r_8 S_20) S_16 y_17 y_18) S_9 y_10 x1 x2) S_6 y_7 x1) xp S_2 a0) ∧
 (¬ x2 ≤ (12 : Int32) → wp_X11_put_15 D post xp S_2))))) xp S a0 x1
abbrev r_X11_put : Room := { frames := 7, cells := 2, slots := 12, locals := 141 }
def wp_X11_put (D : wD) (post : Int32 → wS → Prop) (xp : String → wS → Prop) (S : wS) (a0 : Nat) (x1 : Int32) (x2 : Int32) : Prop := wp_X11_put_0 D post xp S a0 x1 x2
set_option maxHeartbeats 4000000 in
set_option maxRecDepth 100000 in
theorem t_X11_put_15 {p : Program} {l : Launch} {e : Env} {s : State} {m : MethodId} {args : Array Value} {below : List Frame} {meth : Method} {c : Code} {D : wD} {cy : Nat → ClassId} {X : va_W} {A : Nat → Prop} {S0 : wS} {post : Int32 → wS → Prop} {xp : String → wS → Prop} (F : CallFix p m c cX11_put 4 s args wz_X11_put RX11) (hr : meth.sig.returnType = (some .int)) (hlocks : meth.locks = false) (hK : wK D cy A s) (hl0 : l.stackTraces = false) (hexc : ∀ x ∈ c.exceptionTable.toList, False) : ∀ {S : wS} {H : Heap} {locs : List Loc} {ls : Array Slot}, wp_X11_put_15 D post xp S → wO D cy X A s.heap S H locs → wX D S0 S → lv_has ls 4 [] → W p l e r_X11_put s m args below meth c H locs 1 6 (vx_MQ below (va_Qi (fun r S9 => wX D S0 S9 ∧ post r S9) (wB D cy X A) A) (wEx D cy X A (fun E S9 => wX D S0 S9 ∧ xp E S9)) args s 2 12 A) (F0 m 15 ls []) := by
  obtain ⟨hx, hb, hml, hown, hts⟩ := id F
  have hwg : ∀ w ∈ WG, w.before args s = true := fun w h => hts w (List.mem_cons_of_mem _ h)
  intro S H locs ls hp hW hE hl
  unfold wp_X11_put_15 at hp
  exact x_throw (ls := ls) F hK hW hl0 (by decide) (hwg _ wc_RX11_140) (hwg _ wi_java_lang_IllegalArgumentException) (show ("OpeningsCabinet", 163, "no such piece", 13) ∈ wStr by decide +kernel) (wa_RX11_144 hwg hK.2.1) wa_RX11_144_ok hl.1 hexc hlocks dX11_put_15 dX11_put_18 dX11_put_19 dX11_put_21 dX11_put_24 (Nat.le_of_ble_eq_true rfl) (Nat.le_of_ble_eq_true rfl) (Nat.le_of_ble_eq_true rfl) (Nat.le_of_ble_eq_true rfl) (by decide) (by decide) ⟨hE, hp⟩
set_option maxHeartbeats 4000000 in
set_option maxRecDepth 100000 in
theorem t_X11_put_0 {p : Program} {l : Launch} {e : Env} {s : State} {m : MethodId} {args : Array Value} {below : List Frame} {meth : Method} {c : Code} {D : wD} {cy : Nat → ClassId} {X : va_W} {A : Nat → Prop} {S0 : wS} {post : Int32 → wS → Prop} {xp : String → wS → Prop} (F : CallFix p m c cX11_put 4 s args wz_X11_put RX11) (hr : meth.sig.returnType = (some .int)) (hlocks : meth.locks = false) (hK : wK D cy A s) (hl0 : l.stackTraces = false) (hexc : ∀ x ∈ c.exceptionTable.toList, False) : ∀ {S : wS} {H : Heap} {locs : List Loc} {ls : Array Slot} {a0 : Nat} {x1 : Int32} {x2 : Int32}, wp_X11_put_0 D post xp S a0 x1 x2 → wO D cy X A s.heap S H locs → wX D S0 S → lv_has ls 4 [(0, .ref a0), (1, .int x1), (2, .int x2)] → wM D S a0 → sK S a0 = 16 → W p l e r_X11_put s m args below meth c H locs 0 0 (vx_MQ below (va_Qi (fun r S9 => wX D S0 S9 ∧ post r S9) (wB D cy X A) A) (wEx D cy X A (fun E S9 => wX D S0 S9 ∧ xp E S9)) args s 2 12 A) (F0 m 0 ls []) := by
  obtain ⟨hx, hb, hml, hown, hts⟩ := id F
  have hwg : ∀ w ∈ WG, w.before args s = true := fun w h => hts w (List.mem_cons_of_mem _ h)
  have i_12 : ∀ w ∈ u_ws RX7 TX7 8, w ∈ wz_X11_put := fun w h => List.mem_cons_of_mem _ (wu_12 w h)
  have i_16 : ∀ w ∈ u_ws RX11 TX11 18, w ∈ wz_X11_put := fun w h => List.mem_cons_of_mem _ (wu_16 w h)
  have k_28 := hwg _ wf_RX11_28
  have k_40 := hwg _ wf_RX11_40
  intro S H locs ls a0 x1 x2 hp hW hE hl hL_a0 hK_a0
  unfold wp_X11_put_0 at hp
  refine lv_aload_n hx hb dX11_put_0 rfl (lv_at hl 0 rfl) ?_
  refine lv_iload_n hx hb dX11_put_1 rfl (lv_at hl 1 rfl) ?_
  refine x_callV (vx_runV (As := [.int x1]) (rest := []) F (c_X11_mustBeSquare l hl0 hL_a0 hK_a0 hp H.size) (cwV (C := RX11) 1 hts (wg_V wm_RX11_160 wy_X11_mustBeSquare) rfl rfl rfl (by decide +kernel) ⟨Nat.le_of_ble_eq_true rfl, Nat.le_of_ble_eq_true rfl⟩) (w_preV hK hW hL_a0 hK_a0 (by decide) rfl) rfl rfl hl.1 rfl (lv_room (Nat.le_of_ble_eq_true rfl)) dX11_put_2 ⟨Nat.le_of_ble_eq_true rfl, Nat.le_of_ble_eq_true rfl⟩) hW (fun E ce q9 S9 H locs hp hW h1 h2 h3 => x_out hexc hlocks ⟨hE.trans hp.1, hp.2⟩ hW h1 h2 h3 (by decide) (by decide)) (fun S_2 H locs hp hW => ?_)
  obtain ⟨hX_S_2, hp⟩ := hp
  refine W.widen (k := 1) (n := 6) (by decide) (by decide) ?_
  have hE := hE.trans hX_S_2
  have hK_a0 : sK S_2 a0 = 16 := (hX_S_2.2 a0 hL_a0).1.trans hK_a0
  have hL_a0 : wM D S_2 a0 := hX_S_2.M hL_a0
  refine lv_iload_n hx hb dX11_put_5 rfl (lv_at hl 2 rfl) ?_
  refine lv_if_lt (tgt := 15) hx hb dX11_put_6 (by decide) (fun c_3 => ?_) (fun c_3 => ?_)
  · replace hp := hp.1 c_3
    exact t_X11_put_15 F hr hlocks hK hl0 hexc hp hW hE (lv_sub hl [] rfl)
  · replace hp := hp.2 c_3
    refine lv_iload_n hx hb dX11_put_9 rfl (lv_at hl 2 rfl) ?_
    refine lv_bipush (v := 12) hx hb dX11_put_10 (by decide) ?_
    refine lv_icmp_le (tgt := 25) hx hb dX11_put_12 (by decide) (fun c_4 => ?_) (fun c_4 => ?_)
    · replace hp := hp.1 c_4
      refine lv_aload_n hx hb dX11_put_25 rfl (lv_at hl 0 rfl) ?_
      refine x_callV (vx_runV (As := []) (rest := []) F (c_X11_mustBeUnmoved l hl0 hL_a0 hK_a0 hp H.size) (cwV (C := RX11) 0 hts (wg_V wm_RX11_165 wy_X11_mustBeUnmoved) rfl rfl rfl (by decide +kernel) ⟨Nat.le_of_ble_eq_true rfl, Nat.le_of_ble_eq_true rfl⟩) (w_preV hK hW hL_a0 hK_a0 (by decide) rfl) rfl rfl hl.1 rfl (lv_room (Nat.le_of_ble_eq_true rfl)) dX11_put_26 ⟨Nat.le_of_ble_eq_true rfl, Nat.le_of_ble_eq_true rfl⟩) hW (fun E ce q9 S9 H locs hp hW h1 h2 h3 => x_out hexc hlocks ⟨hE.trans hp.1, hp.2⟩ hW h1 h2 h3 (by decide) (by decide)) (fun S_6 H locs hp hW => ?_)
      obtain ⟨hX_S_6, hp⟩ := hp
      refine W.widen (k := 2) (n := 12) (by decide) (by decide) ?_
      have hE := hE.trans hX_S_6
      have hK_a0 : sK S_6 a0 = 16 := (hX_S_6.2 a0 hL_a0).1.trans hK_a0
      have hL_a0 : wM D S_6 a0 := hX_S_6.M hL_a0
      refine lv_aload_n hx hb dX11_put_29 rfl (lv_at hl 0 rfl) ?_
      obtain ⟨y_7, ey_7, hL_y_7, hK_y_7, hp⟩ := hp
      refine w_get (k := 16) (f := 2) (T := TX11) (v := .ref y_7) F hK hW hL_a0 hK_a0 (by decide) rfl rfl (by decide) i_16 k_28 (by rw [show wv 16 2 S_6 a0 = va_rf (sR S_6 a0 2) from rfl, ey_7]; rfl) dX11_put_30 ?_
      refine lv_iload_n hx hb dX11_put_33 rfl (lv_at hl 1 rfl) ?_
      refine w_callI (va_runV (As := [.int x1]) (rest := []) F (c_X7_pieceOn l hL_y_7 hK_y_7 hp H.size) (cwV (C := RX7) 1 hts (wg_V wm_RX11_168 wy_X7_pieceOn) rfl rfl rfl (by decide +kernel) ⟨Nat.le_of_ble_eq_true rfl, Nat.le_of_ble_eq_true rfl⟩) (w_preV hK hW hL_y_7 hK_y_7 (by decide) rfl) rfl rfl hl.1 rfl (lv_room (Nat.le_of_ble_eq_true rfl)) dX11_put_34 ⟨Nat.le_of_ble_eq_true rfl, Nat.le_of_ble_eq_true rfl⟩) hW (fun r_8 S_9 H locs hp hW => ?_)
      obtain ⟨hX_S_9, hp⟩ := hp
      refine W.widen (k := 2) (n := 12) (by decide) (by decide) ?_
      have hE := hE.trans hX_S_9
      have hK_a0 : sK S_9 a0 = 16 := (hX_S_9.2 a0 hL_a0).1.trans hK_a0
      have hL_a0 : wM D S_9 a0 := hX_S_9.M hL_a0
      refine lv_istore_n (lv' := [(3, .int r_8), (0, .ref a0), (1, .int x1), (2, .int x2)]) hx hb dX11_put_37 rfl hl (by decide) rfl (fun ls hl => ?_)
      refine lv_aload_n hx hb dX11_put_38 rfl (lv_at hl 1 rfl) ?_
      obtain ⟨y_10, ey_10, hL_y_10, hK_y_10, hp⟩ := hp
      refine w_get (k := 16) (f := 2) (T := TX11) (v := .ref y_10) F hK hW hL_a0 hK_a0 (by decide) rfl rfl (by decide) i_16 k_28 (by rw [show wv 16 2 S_9 a0 = va_rf (sR S_9 a0 2) from rfl, ey_10]; rfl) dX11_put_39 ?_
      refine lv_iload_n hx hb dX11_put_42 rfl (lv_at hl 2 rfl) ?_
      refine lv_iload_n hx hb dX11_put_43 rfl (lv_at hl 3 rfl) ?_
      refine w_callV (va_runV (As := [.int x1, .int x2]) (rest := []) F (c_X7_place l hL_y_10 hK_y_10 hp H.size) (cwV (C := RX7) 2 hts (wg_V wm_RX11_172 wy_X7_place) rfl rfl rfl (by decide +kernel) ⟨Nat.le_of_ble_eq_true rfl, Nat.le_of_ble_eq_true rfl⟩) (w_preV hK hW hL_y_10 hK_y_10 (by decide) rfl) rfl rfl hl.1 rfl (lv_room (Nat.le_of_ble_eq_true rfl)) dX11_put_44 ⟨Nat.le_of_ble_eq_true rfl, Nat.le_of_ble_eq_true rfl⟩) hW (fun S_12 H locs hp hW => ?_)
      obtain ⟨hX_S_12, hp⟩ := hp
      refine W.widen (k := 2) (n := 12) (by decide) (by decide) ?_
      have hE := hE.trans hX_S_12
      have hK_a0 : sK S_12 a0 = 16 := (hX_S_12.2 a0 hL_a0).1.trans hK_a0
      have hL_a0 : wM D S_12 a0 := hX_S_12.M hL_a0
      refine lv_aload_n hx hb dX11_put_47 rfl (lv_at hl 1 rfl) ?_
      obtain ⟨y_13, ey_13, hL_y_13, hK_y_13, hp⟩ := hp
      refine w_get (k := 16) (f := 2) (T := TX11) (v := .ref y_13) F hK hW hL_a0 hK_a0 (by decide) rfl rfl (by decide) i_16 k_28 (by rw [show wv 16 2 S_12 a0 = va_rf (sR S_12 a0 2) from rfl, ey_13]; rfl) dX11_put_48 ?_
      refine lv_iconst (v := 0) hx hb dX11_put_51 (by decide) ?_
      refine w_putIN (k := 12) (f := 6) (T := TX7) F hK hW hL_y_13 hK_y_13 (by decide) (by decide) rfl rfl (by decide) i_12 tyX7 tyX7_ok nmX7 (hK.2.1 (.fieldLinkNest "OpeningsCabinet" 175 "OpeningsCabinet$Position" "rights" "I" "OpeningsCabinet") (by decide +kernel)) rfl rfl (ty := .int) rfl rfl rfl dX11_put_52 (fun H locs hW => ?_)
      obtain ⟨S_14, eS_14⟩ : ∃ z : wS, z = uI S_12 y_13 6 (0 : Int32) := ⟨_, rfl⟩
      rw [← eS_14] at hW
      replace hp := hp S_14 eS_14
      have hX_S_14 : wX D S_12 S_14 := by rw [eS_14]; exact wX_uI
      have hE := hE.trans hX_S_14
      have hK_a0 : sK S_14 a0 = 16 := (hX_S_14.2 a0 hL_a0).1.trans hK_a0
      have hL_a0 : wM D S_14 a0 := hX_S_14.M hL_a0
      refine lv_aload_n hx hb dX11_put_55 rfl (lv_at hl 1 rfl) ?_
      obtain ⟨y_15, ey_15, hL_y_15, hK_y_15, hp⟩ := hp
      refine w_get (k := 16) (f := 2) (T := TX11) (v := .ref y_15) F hK hW hL_a0 hK_a0 (by decide) rfl rfl (by decide) i_16 k_28 (by rw [show wv 16 2 S_14 a0 = va_rf (sR S_14 a0 2) from rfl, ey_15]; rfl) dX11_put_56 ?_
      refine lv_iconst (v := (-1)) hx hb dX11_put_59 (by decide) ?_
      refine w_putIN (k := 12) (f := 7) (T := TX7) F hK hW hL_y_15 hK_y_15 (by decide) (by decide) rfl rfl (by decide) i_12 tyX7 tyX7_ok nmX7 (hK.2.1 (.fieldLinkNest "OpeningsCabinet" 178 "OpeningsCabinet$Position" "passing" "I" "OpeningsCabinet") (by decide +kernel)) rfl rfl (ty := .int) rfl rfl rfl dX11_put_60 (fun H locs hW => ?_)
      obtain ⟨S_16, eS_16⟩ : ∃ z : wS, z = uI S_14 y_15 7 (-1 : Int32) := ⟨_, rfl⟩
      rw [← eS_16] at hW
      replace hp := hp S_16 eS_16
      have hX_S_16 : wX D S_14 S_16 := by rw [eS_16]; exact wX_uI
      have hE := hE.trans hX_S_16
      have hK_a0 : sK S_16 a0 = 16 := (hX_S_16.2 a0 hL_a0).1.trans hK_a0
      have hL_a0 : wM D S_16 a0 := hX_S_16.M hL_a0
      refine lv_aload_n hx hb dX11_put_63 rfl (lv_at hl 1 rfl) ?_
      obtain ⟨y_17, ey_17, hL_y_17, hK_y_17, hp⟩ := hp
      refine w_get (k := 16) (f := 4) (T := TX11) (v := .ref y_17) F hK hW hL_a0 hK_a0 (by decide) rfl rfl (by decide) i_16 k_40 (by rw [show wv 16 4 S_16 a0 = va_rf (sR S_16 a0 4) from rfl, ey_17]; rfl) dX11_put_64 ?_
      refine lv_aload_n hx hb dX11_put_67 rfl (lv_at hl 1 rfl) ?_
      obtain ⟨y_18, ey_18, hL_y_18, hK_y_18, hp⟩ := hp
      refine w_get (k := 16) (f := 2) (T := TX11) (v := .ref y_18) F hK hW hL_a0 hK_a0 (by decide) rfl rfl (by decide) i_16 k_28 (by rw [show wv 16 2 S_16 a0 = va_rf (sR S_16 a0 2) from rfl, ey_18]; rfl) dX11_put_68 ?_
      refine w_callV (va_runV (As := [.ref y_18]) (rest := []) F (c_X3_begin l hL_y_17 hK_y_17 hL_y_18 hK_y_18 hp H.size) (cwV (C := RX3) 1 hts (wg_V wm_RX11_130 wy_X3_begin) rfl rfl rfl (by decide +kernel) ⟨Nat.le_of_ble_eq_true rfl, Nat.le_of_ble_eq_true rfl⟩) (w_preV hK hW hL_y_17 hK_y_17 (by decide) rfl) rfl rfl hl.1 rfl (lv_room (Nat.le_of_ble_eq_true rfl)) dX11_put_71 ⟨Nat.le_of_ble_eq_true rfl, Nat.le_of_ble_eq_true rfl⟩) hW (fun S_20 H locs hp hW => ?_)
      obtain ⟨hX_S_20, hp⟩ := hp
      refine W.widen (k := 2) (n := 12) (by decide) (by decide) ?_
      have hE := hE.trans hX_S_20
      have hK_a0 : sK S_20 a0 = 16 := (hX_S_20.2 a0 hL_a0).1.trans hK_a0
      have hL_a0 : wM D S_20 a0 := hX_S_20.M hL_a0
      refine lv_iload_n hx hb dX11_put_74 rfl (lv_at hl 0 rfl) ?_
      refine vx_ret ?_
      exact w_iret hx hb hr hlocks hW ⟨hE, hp⟩ dX11_put_75
    · replace hp := hp.2 c_4
      exact t_X11_put_15 F hr hlocks hK hl0 hexc hp hW hE (lv_sub hl [] rfl)
set_option maxHeartbeats 4000000 in
set_option maxRecDepth 100000 in
theorem c_X11_put (l : Launch) {D : wD} {cy : Nat → ClassId} {X : va_W} {S0 : wS} {post : Int32 → wS → Prop} {xp : String → wS → Prop} (hl0 : l.stackTraces = false) {a0 : Nat} {x1 : Int32} {x2 : Int32} (hL_a0 : wM D S0 a0) (hK_a0 : sK S0 a0 = 16) (hp : wp_X11_put D post xp S0 a0 x1 x2) : xI D cy X l yX11_put wz_X11_put r_X11_put [.ref a0, .int x1, .int x2] S0 (fun r S9 => wX D S0 S9 ∧ post r S9) (fun E S9 => wX D S0 S9 ∧ xp E S9) := by
  intro sz
  refine vx_ofW (cc := cX11_put) (maxL := 4) (ret := (some .int)) (by decide) rfl ?_
  intro p e s m args below meth c s₁ B hml hexc hv
  obtain ⟨rfl, hsz, hP, hK, hD0, hRO⟩ := hv
  have hts := atoms_spec (ws := wz_X11_put) B.pre
  have hown : s.vm.findClass RX11 = some m.cls := findClass_of_methodNamed B.named
  subst hsz
  have hD := hD0.self (sz := s.heap.size)
  have F : CallFix p m c cX11_put 4 s _ wz_X11_put RX11 := ⟨B.exec, B.bytes, hml, hown, hts⟩
  have hr := B.returns
  have hlocks := B.notSynchronized
  generalize hAe : va_A (wL cy X S0) s.heap.size = A at hD hK ⊢
  have hA : ∀ q, s.heap.size ≤ q → A q := fun q h => by rw [← hAe]; exact Or.inr h
  have hW : wO D cy X A s.heap S0 s.heap [] := ⟨hP, hD, va_S.rf, hA, hRO⟩
  have hl := lv_entry ([.ref a0, .int x1, .int x2]) (n := 4) (Nat.le_of_ble_eq_true rfl)
  rw [lg_entry_eq]
  generalize (lg_sl ([.ref a0, .int x1, .int x2]) ++ List.replicate (4 - (lg_sl ([.ref a0, .int x1, .int x2])).length) Slot.unset).toArray = ls at hl ⊢
  have hl : lv_has ls 4 [(0, .ref a0), (1, .int x1), (2, .int x2)] := hl
  unfold wp_X11_put at hp
  exact t_X11_put_0 F hr hlocks hK hl0 hexc hp hW wX.rf (lv_sub hl [0, 1, 2] rfl) hL_a0 hK_a0
def wp_X5_lineLength_0 (D : wD) (post : Int32 → wS → Prop)  (S : wS) (a0 : Nat) : Prop :=
∃ y_1 : Nat, sR S a0 4 = some y_1 ∧ wM D S y_1 ∧ sK S y_1 = 21 ∧
vp_in (0 : Int32) (sN S y_1) ∧
post (sI S y_1 ((0 : Int32)).toNatClampNeg) S
abbrev r_X5_lineLength : Room := { frames := 0, cells := 0, slots := 0, locals := 0 }
def wp_X5_lineLength (D : wD) (post : Int32 → wS → Prop) (S : wS) (a0 : Nat) : Prop := wp_X5_lineLength_0 D post S a0
set_option maxHeartbeats 4000000 in
set_option maxRecDepth 100000 in
theorem t_X5_lineLength_0 {p : Program} {l : Launch} {e : Env} {s : State} {m : MethodId} {args : Array Value} {below : List Frame} {meth : Method} {c : Code} {D : wD} {cy : Nat → ClassId} {X : va_W} {A : Nat → Prop} {S0 : wS} {post : Int32 → wS → Prop} (F : CallFix p m c cX5_lineLength 1 s args wz_X5_lineLength RX5) (hr : meth.sig.returnType = (some .int)) (hlocks : meth.locks = false) (hK : wK D cy A s) : ∀ {S : wS} {H : Heap} {locs : List Loc} {ls : Array Slot} {a0 : Nat}, wp_X5_lineLength_0 D post S a0 → wO D cy X A s.heap S H locs → wX D S0 S → lv_has ls 1 [(0, .ref a0)] → wM D S a0 → sK S a0 = 10 → W p l e r_X5_lineLength s m args below meth c H locs 0 0 (MQ below (va_Qi (fun r S9 => wX D S0 S9 ∧ post r S9) (wB D cy X A) A) args s 0 0 A) (F0 m 0 ls []) := by
  obtain ⟨hx, hb, hml, hown, hts⟩ := id F
  have hwg : ∀ w ∈ WG, w.before args s = true := fun w h => hts w (List.mem_cons_of_mem _ h)
  have i_10 : ∀ w ∈ u_ws RX5 TX5 11, w ∈ wz_X5_lineLength := fun w h => List.mem_cons_of_mem _ (wu_10 w h)
  have k_18 := hwg _ wf_RX5_18
  intro S H locs ls a0 hp hW hE hl hL_a0 hK_a0
  unfold wp_X5_lineLength_0 at hp
  refine lv_aload_n hx hb dX5_lineLength_0 rfl (lv_at hl 0 rfl) ?_
  obtain ⟨y_1, ey_1, hL_y_1, hK_y_1, hp⟩ := hp
  refine w_get (k := 10) (f := 4) (T := TX5) (v := .ref y_1) F hK hW hL_a0 hK_a0 (by decide) rfl rfl (by decide) i_10 k_18 (by rw [show wv 10 4 S a0 = va_rf (sR S a0 4) from rfl, ey_1]; rfl) dX5_lineLength_1 ?_
  refine lv_iconst (v := 0) hx hb dX5_lineLength_4 (by decide) ?_
  obtain ⟨h_2, hp⟩ := hp
  refine w_ild F hK hW hL_y_1 hK_y_1 h_2 dX5_lineLength_5 ?_
  exact w_iret hx hb hr hlocks hW ⟨hE, hp⟩ dX5_lineLength_6
set_option maxHeartbeats 4000000 in
set_option maxRecDepth 100000 in
theorem c_X5_lineLength (l : Launch) {D : wD} {cy : Nat → ClassId} {X : va_W} {S0 : wS} {post : Int32 → wS → Prop} {a0 : Nat} (hL_a0 : wM D S0 a0) (hK_a0 : sK S0 a0 = 10) (hp : wp_X5_lineLength D post S0 a0) : mI D cy X l yX5_lineLength wz_X5_lineLength r_X5_lineLength [.ref a0] S0 (fun r S9 => wX D S0 S9 ∧ post r S9) := by
  intro sz
  refine Met.ofW (cc := cX5_lineLength) (maxL := 1) (ret := (some .int)) (by decide) rfl ?_
  intro p e s m args below meth c s₁ B hml hv
  obtain ⟨rfl, hsz, hP, hK, hD0, hRO⟩ := hv
  have hts := atoms_spec (ws := wz_X5_lineLength) B.pre
  have hown : s.vm.findClass RX5 = some m.cls := findClass_of_methodNamed B.named
  subst hsz
  have hD := hD0.self (sz := s.heap.size)
  have F : CallFix p m c cX5_lineLength 1 s _ wz_X5_lineLength RX5 := ⟨B.exec, B.bytes, hml, hown, hts⟩
  have hr := B.returns
  have hlocks := B.notSynchronized
  generalize hAe : va_A (wL cy X S0) s.heap.size = A at hD hK ⊢
  have hA : ∀ q, s.heap.size ≤ q → A q := fun q h => by rw [← hAe]; exact Or.inr h
  have hW : wO D cy X A s.heap S0 s.heap [] := ⟨hP, hD, va_S.rf, hA, hRO⟩
  have hl := lv_entry ([.ref a0]) (n := 1) (Nat.le_of_ble_eq_true rfl)
  rw [lg_entry_eq]
  generalize (lg_sl ([.ref a0]) ++ List.replicate (1 - (lg_sl ([.ref a0])).length) Slot.unset).toArray = ls at hl ⊢
  have hl : lv_has ls 1 [(0, .ref a0)] := hl
  unfold wp_X5_lineLength at hp
  exact t_X5_lineLength_0 F hr hlocks hK hp hW wX.rf (lv_sub hl [0] rfl) hL_a0 hK_a0
def wp_X5_lineMove_23 (D : wD) (post : Int32 → wS → Prop)  (S : wS) (t0 : Int32) : Prop :=
post t0 S
def wp_X5_lineMove_22 (D : wD) (post : Int32 → wS → Prop)  (S : wS) : Prop :=
wp_X5_lineMove_23 D post S (0 : Int32)
def wp_X5_lineMove_0 (D : wD) (post : Int32 → wS → Prop)  (S : wS) (a0 : Nat) (x1 : Int32) : Prop :=
((x1 < 0 → wp_X5_lineMove_22 D post S) ∧
 (¬ x1 < 0 → ∃ y_2 : Nat, sR S a0 5 = some y_2 ∧ wM D S y_2 ∧ sK S y_2 = 21 ∧
(((Int32.ofNat (sN S y_2)) ≤ x1 → wp_X5_lineMove_22 D post S) ∧
 (¬ (Int32.ofNat (sN S y_2)) ≤ x1 → ∃ y_4 : Nat, sR S a0 5 = some y_4 ∧ wM D S y_4 ∧ sK S y_4 = 21 ∧
vp_in x1 (sN S y_4) ∧
wp_X5_lineMove_23 D post S (sI S y_4 (x1).toNatClampNeg)))))
abbrev r_X5_lineMove : Room := { frames := 0, cells := 0, slots := 0, locals := 0 }
def wp_X5_lineMove (D : wD) (post : Int32 → wS → Prop) (S : wS) (a0 : Nat) (x1 : Int32) : Prop := wp_X5_lineMove_0 D post S a0 x1
set_option maxHeartbeats 4000000 in
set_option maxRecDepth 100000 in
theorem t_X5_lineMove_23 {p : Program} {l : Launch} {e : Env} {s : State} {m : MethodId} {args : Array Value} {below : List Frame} {meth : Method} {c : Code} {D : wD} {cy : Nat → ClassId} {X : va_W} {A : Nat → Prop} {S0 : wS} {post : Int32 → wS → Prop} (F : CallFix p m c cX5_lineMove 2 s args wz_X5_lineMove RX5) (hr : meth.sig.returnType = (some .int)) (hlocks : meth.locks = false) (hK : wK D cy A s) : ∀ {S : wS} {H : Heap} {locs : List Loc} {ls : Array Slot} {t0 : Int32}, wp_X5_lineMove_23 D post S t0 → wO D cy X A s.heap S H locs → wX D S0 S → lv_has ls 2 [] → W p l e r_X5_lineMove s m args below meth c H locs 0 0 (MQ below (va_Qi (fun r S9 => wX D S0 S9 ∧ post r S9) (wB D cy X A) A) args s 0 0 A) (F0 m 23 ls [.int t0]) := by
  obtain ⟨hx, hb, hml, hown, hts⟩ := id F
  have hwg : ∀ w ∈ WG, w.before args s = true := fun w h => hts w (List.mem_cons_of_mem _ h)
  intro S H locs ls t0 hp hW hE hl
  unfold wp_X5_lineMove_23 at hp
  exact w_iret hx hb hr hlocks hW ⟨hE, hp⟩ dX5_lineMove_23
set_option maxHeartbeats 4000000 in
set_option maxRecDepth 100000 in
theorem t_X5_lineMove_22 {p : Program} {l : Launch} {e : Env} {s : State} {m : MethodId} {args : Array Value} {below : List Frame} {meth : Method} {c : Code} {D : wD} {cy : Nat → ClassId} {X : va_W} {A : Nat → Prop} {S0 : wS} {post : Int32 → wS → Prop} (F : CallFix p m c cX5_lineMove 2 s args wz_X5_lineMove RX5) (hr : meth.sig.returnType = (some .int)) (hlocks : meth.locks = false) (hK : wK D cy A s) : ∀ {S : wS} {H : Heap} {locs : List Loc} {ls : Array Slot}, wp_X5_lineMove_22 D post S → wO D cy X A s.heap S H locs → wX D S0 S → lv_has ls 2 [] → W p l e r_X5_lineMove s m args below meth c H locs 0 0 (MQ below (va_Qi (fun r S9 => wX D S0 S9 ∧ post r S9) (wB D cy X A) A) args s 0 0 A) (F0 m 22 ls []) := by
  obtain ⟨hx, hb, hml, hown, hts⟩ := id F
  have hwg : ∀ w ∈ WG, w.before args s = true := fun w h => hts w (List.mem_cons_of_mem _ h)
  intro S H locs ls hp hW hE hl
  unfold wp_X5_lineMove_22 at hp
  refine lv_iconst (v := 0) hx hb dX5_lineMove_22 (by decide) ?_
  exact t_X5_lineMove_23 F hr hlocks hK hp hW hE (lv_sub hl [] rfl)
set_option maxHeartbeats 4000000 in
set_option maxRecDepth 100000 in
theorem t_X5_lineMove_0 {p : Program} {l : Launch} {e : Env} {s : State} {m : MethodId} {args : Array Value} {below : List Frame} {meth : Method} {c : Code} {D : wD} {cy : Nat → ClassId} {X : va_W} {A : Nat → Prop} {S0 : wS} {post : Int32 → wS → Prop} (F : CallFix p m c cX5_lineMove 2 s args wz_X5_lineMove RX5) (hr : meth.sig.returnType = (some .int)) (hlocks : meth.locks = false) (hK : wK D cy A s) : ∀ {S : wS} {H : Heap} {locs : List Loc} {ls : Array Slot} {a0 : Nat} {x1 : Int32}, wp_X5_lineMove_0 D post S a0 x1 → wO D cy X A s.heap S H locs → wX D S0 S → lv_has ls 2 [(0, .ref a0), (1, .int x1)] → wM D S a0 → sK S a0 = 10 → W p l e r_X5_lineMove s m args below meth c H locs 0 0 (MQ below (va_Qi (fun r S9 => wX D S0 S9 ∧ post r S9) (wB D cy X A) A) args s 0 0 A) (F0 m 0 ls []) := by
  obtain ⟨hx, hb, hml, hown, hts⟩ := id F
  have hwg : ∀ w ∈ WG, w.before args s = true := fun w h => hts w (List.mem_cons_of_mem _ h)
  have i_10 : ∀ w ∈ u_ws RX5 TX5 11, w ∈ wz_X5_lineMove := fun w h => List.mem_cons_of_mem _ (wu_10 w h)
  have k_22 := hwg _ wf_RX5_22
  intro S H locs ls a0 x1 hp hW hE hl hL_a0 hK_a0
  unfold wp_X5_lineMove_0 at hp
  refine lv_iload_n hx hb dX5_lineMove_0 rfl (lv_at hl 1 rfl) ?_
  refine lv_if_lt (tgt := 22) hx hb dX5_lineMove_1 (by decide) (fun c_1 => ?_) (fun c_1 => ?_)
  · replace hp := hp.1 c_1
    exact t_X5_lineMove_22 F hr hlocks hK hp hW hE (lv_sub hl [] rfl)
  · replace hp := hp.2 c_1
    refine lv_iload_n hx hb dX5_lineMove_4 rfl (lv_at hl 1 rfl) ?_
    refine lv_aload_n hx hb dX5_lineMove_5 rfl (lv_at hl 0 rfl) ?_
    obtain ⟨y_2, ey_2, hL_y_2, hK_y_2, hp⟩ := hp
    refine w_get (k := 10) (f := 5) (T := TX5) (v := .ref y_2) F hK hW hL_a0 hK_a0 (by decide) rfl rfl (by decide) i_10 k_22 (by rw [show wv 10 5 S a0 = va_rf (sR S a0 5) from rfl, ey_2]; rfl) dX5_lineMove_6 ?_
    refine w_len F hK hW hL_y_2 hK_y_2 (by decide) dX5_lineMove_9 ?_
    refine lv_icmp_ge (tgt := 22) hx hb dX5_lineMove_10 (by decide) (fun c_3 => ?_) (fun c_3 => ?_)
    · replace hp := hp.1 c_3
      exact t_X5_lineMove_22 F hr hlocks hK hp hW hE (lv_sub hl [] rfl)
    · replace hp := hp.2 c_3
      refine lv_aload_n hx hb dX5_lineMove_13 rfl (lv_at hl 0 rfl) ?_
      obtain ⟨y_4, ey_4, hL_y_4, hK_y_4, hp⟩ := hp
      refine w_get (k := 10) (f := 5) (T := TX5) (v := .ref y_4) F hK hW hL_a0 hK_a0 (by decide) rfl rfl (by decide) i_10 k_22 (by rw [show wv 10 5 S a0 = va_rf (sR S a0 5) from rfl, ey_4]; rfl) dX5_lineMove_14 ?_
      refine lv_iload_n hx hb dX5_lineMove_17 rfl (lv_at hl 1 rfl) ?_
      obtain ⟨h_5, hp⟩ := hp
      refine w_ild F hK hW hL_y_4 hK_y_4 h_5 dX5_lineMove_18 ?_
      refine lv_goto (tgt := 23) hx hb dX5_lineMove_19 (by decide) ?_
      exact t_X5_lineMove_23 F hr hlocks hK hp hW hE (lv_sub hl [] rfl)
set_option maxHeartbeats 4000000 in
set_option maxRecDepth 100000 in
theorem c_X5_lineMove (l : Launch) {D : wD} {cy : Nat → ClassId} {X : va_W} {S0 : wS} {post : Int32 → wS → Prop} {a0 : Nat} {x1 : Int32} (hL_a0 : wM D S0 a0) (hK_a0 : sK S0 a0 = 10) (hp : wp_X5_lineMove D post S0 a0 x1) : mI D cy X l yX5_lineMove wz_X5_lineMove r_X5_lineMove [.ref a0, .int x1] S0 (fun r S9 => wX D S0 S9 ∧ post r S9) := by
  intro sz
  refine Met.ofW (cc := cX5_lineMove) (maxL := 2) (ret := (some .int)) (by decide) rfl ?_
  intro p e s m args below meth c s₁ B hml hv
  obtain ⟨rfl, hsz, hP, hK, hD0, hRO⟩ := hv
  have hts := atoms_spec (ws := wz_X5_lineMove) B.pre
  have hown : s.vm.findClass RX5 = some m.cls := findClass_of_methodNamed B.named
  subst hsz
  have hD := hD0.self (sz := s.heap.size)
  have F : CallFix p m c cX5_lineMove 2 s _ wz_X5_lineMove RX5 := ⟨B.exec, B.bytes, hml, hown, hts⟩
  have hr := B.returns
  have hlocks := B.notSynchronized
  generalize hAe : va_A (wL cy X S0) s.heap.size = A at hD hK ⊢
  have hA : ∀ q, s.heap.size ≤ q → A q := fun q h => by rw [← hAe]; exact Or.inr h
  have hW : wO D cy X A s.heap S0 s.heap [] := ⟨hP, hD, va_S.rf, hA, hRO⟩
  have hl := lv_entry ([.ref a0, .int x1]) (n := 2) (Nat.le_of_ble_eq_true rfl)
  rw [lg_entry_eq]
  generalize (lg_sl ([.ref a0, .int x1]) ++ List.replicate (2 - (lg_sl ([.ref a0, .int x1])).length) Slot.unset).toArray = ls at hl ⊢
  have hl : lv_has ls 2 [(0, .ref a0), (1, .int x1)] := hl
  unfold wp_X5_lineMove at hp
  exact t_X5_lineMove_0 F hr hlocks hK hp hW wX.rf (lv_sub hl [0, 1] rfl) hL_a0 hK_a0
def wp_X6_isPassingSound_173 (D : wD) (post : Int32 → wS → Prop)  (S : wS) (t0 : Int32) : Prop :=
narrow .boolean (.int t0) = .int t0 ∧ post t0 S
def wp_X6_isPassingSound_172 (D : wD) (post : Int32 → wS → Prop)  (S : wS) : Prop :=
wp_X6_isPassingSound_173 D post S (0 : Int32)
def wp_X6_isPassingSound_146 (D : wD) (post : Int32 → wS → Prop)  (S : wS) (a0 : Nat) (x2 : Int32) (x4 : Int32) (x5 : Int64) (t0 : Int32) (t1 : Int32) : Prop :=
((¬ t0 = t1 → wp_X6_isPassingSound_172 D post S) ∧
 (t0 = t1 → ∃ y_2 : Nat, sR S a0 0 = some y_2 ∧ wM D S y_2 ∧ sK S y_2 = 5 ∧
wp_X0_besidesOf D (fun r_3 S_4 => 
(((lg_cmp (r_3 &&& x5) (0 : Int64)) = 0 → wp_X6_isPassingSound_172 D post S_4) ∧
 (¬ (lg_cmp (r_3 &&& x5) (0 : Int64)) = 0 → wp_X6_isPassingSound_173 D post S_4 (1 : Int32)))) S y_2 (x2 + x4)))
def wp_X6_isPassingSound_89 (D : wD) (post : Int32 → wS → Prop)  (S : wS) (a0 : Nat) (a1 : Nat) (x2 : Int32) (x3 : Int32) (t0 : Int32) : Prop :=
wp_X7_ofKind D (fun r_1 S_2 => 
wp_X7_ofSide D (fun r_3 S_4 => 
∀ x_5 : Int64, x_5 = (r_1 &&& r_3) →
wp_X7_pieceOn D (fun r_6 S_7 => 
((¬ r_6 = 0 → wp_X6_isPassingSound_172 D post S_7) ∧
 (r_6 = 0 → wp_X7_pieceOn D (fun r_9 S_10 => 
((¬ r_9 = 0 → wp_X6_isPassingSound_172 D post S_10) ∧
 (r_9 = 0 → wp_X7_pieceOn D (fun r_12 S_13 => 
((x3 = 0 → wp_X6_isPassingSound_146 D post S_13 a0 x2 t0 x_5 r_12 (12 : Int32)) ∧
 (¬ x3 = 0 → wp_X6_isPassingSound_146 D post S_13 a0 x2 t0 x_5 r_12 (6 : Int32)))) S_10 a1 (x2 + t0)))) S_7 a1 (x2 - t0)))) S_4 a1 x2) S_2 a1 (sI S_2 a1 5)) S a1 (6 : Int32)
def wp_X6_isPassingSound_65 (D : wD) (post : Int32 → wS → Prop)  (S : wS) : Prop :=
narrow .boolean (.int (0 : Int32)) = .int (0 : Int32) ∧ post (0 : Int32) S
def wp_X6_isPassingSound_62 (D : wD) (post : Int32 → wS → Prop)  (S : wS) (a0 : Nat) (a1 : Nat) (x2 : Int32) (x3 : Int32) (t0 : Int32) (t1 : Int32) : Prop :=
((t0 = t1 → ((x3 = 0 → ∃ y_3 : Nat, sR S a0 0 = some y_3 ∧ wM D S y_3 ∧ sK S y_3 = 5 ∧
wp_X6_isPassingSound_89 D post S a0 a1 x2 x3 (-(sI S y_3 0))) ∧
 (¬ x3 = 0 → ∃ y_4 : Nat, sR S a0 0 = some y_4 ∧ wM D S y_4 ∧ sK S y_4 = 5 ∧
wp_X6_isPassingSound_89 D post S a0 a1 x2 x3 (sI S y_4 0)))) ∧
 (¬ t0 = t1 → wp_X6_isPassingSound_65 D post S))
def wp_X6_isPassingSound_24 (D : wD) (post : Int32 → wS → Prop)  (S : wS) (a0 : Nat) (a1 : Nat) (x2 : Int32) (t0 : Int32) : Prop :=
∃ y_1 : Nat, sR S a0 0 = some y_1 ∧ wM D S y_1 ∧ sK S y_1 = 5 ∧
(((sI S y_1 1) < (6 : Int32) → wp_X6_isPassingSound_65 D post S) ∧
 (¬ (sI S y_1 1) < (6 : Int32) → ∃ y_3 : Nat, sR S a0 0 = some y_3 ∧ wM D S y_3 ∧ sK S y_3 = 5 ∧
wp_X0_rankAt D (fun r_4 S_5 => 
((t0 = 0 → ∃ y_7 : Nat, sR S_5 a0 0 = some y_7 ∧ wM D S_5 y_7 ∧ sK S_5 y_7 = 5 ∧
wp_X6_isPassingSound_62 D post S_5 a0 a1 x2 t0 r_4 ((sI S_5 y_7 1) - (3 : Int32))) ∧
 (¬ t0 = 0 → wp_X6_isPassingSound_62 D post S_5 a0 a1 x2 t0 r_4 (2 : Int32)))) S y_3 x2))
def wp_X6_isPassingSound_0 (D : wD) (post : Int32 → wS → Prop)  (S : wS) (a0 : Nat) (a1 : Nat) : Prop :=
∀ x_1 : Int32, x_1 = (sI S a1 7) →
((¬ x_1 = (-1 : Int32) → ((¬ (sI S a1 5) = 0 → wp_X6_isPassingSound_24 D post S a0 a1 x_1 (0 : Int32)) ∧
 ((sI S a1 5) = 0 → wp_X6_isPassingSound_24 D post S a0 a1 x_1 (1 : Int32)))) ∧
 (x_1 = (-1 : Int32) → narrow .boolean (.int (1 : Int32)) = .int (1 : Int32) ∧ post (1 : Int32) S))
abbrev r_X6_isPassingSound : Room := { frames := 2, cells := 0, slots := 0, locals := 44 }
def wp_X6_isPassingSound (D : wD) (post : Int32 → wS → Prop) (S : wS) (a0 : Nat) (a1 : Nat) : Prop := wp_X6_isPassingSound_0 D post S a0 a1
set_option maxHeartbeats 4000000 in
set_option maxRecDepth 100000 in
theorem t_X6_isPassingSound_173 {p : Program} {l : Launch} {e : Env} {s : State} {m : MethodId} {args : Array Value} {below : List Frame} {meth : Method} {c : Code} {D : wD} {cy : Nat → ClassId} {X : va_W} {A : Nat → Prop} {S0 : wS} {post : Int32 → wS → Prop} (F : CallFix p m c cX6_isPassingSound 7 s args wz_X6_isPassingSound RX6) (hr : meth.sig.returnType = (some .boolean)) (hlocks : meth.locks = false) (hK : wK D cy A s) : ∀ {S : wS} {H : Heap} {locs : List Loc} {ls : Array Slot} {t0 : Int32}, wp_X6_isPassingSound_173 D post S t0 → wO D cy X A s.heap S H locs → wX D S0 S → lv_has ls 7 [] → W p l e r_X6_isPassingSound s m args below meth c H locs 0 0 (MQ below (va_Qi (fun r S9 => wX D S0 S9 ∧ post r S9) (wB D cy X A) A) args s 0 0 A) (F0 m 173 ls [.int t0]) := by
  obtain ⟨hx, hb, hml, hown, hts⟩ := id F
  have hwg : ∀ w ∈ WG, w.before args s = true := fun w h => hts w (List.mem_cons_of_mem _ h)
  intro S H locs ls t0 hp hW hE hl
  unfold wp_X6_isPassingSound_173 at hp
  exact w_zret hx hb hr hlocks hW hp.1 ⟨hE, hp.2⟩ dX6_isPassingSound_173
set_option maxHeartbeats 4000000 in
set_option maxRecDepth 100000 in
theorem t_X6_isPassingSound_172 {p : Program} {l : Launch} {e : Env} {s : State} {m : MethodId} {args : Array Value} {below : List Frame} {meth : Method} {c : Code} {D : wD} {cy : Nat → ClassId} {X : va_W} {A : Nat → Prop} {S0 : wS} {post : Int32 → wS → Prop} (F : CallFix p m c cX6_isPassingSound 7 s args wz_X6_isPassingSound RX6) (hr : meth.sig.returnType = (some .boolean)) (hlocks : meth.locks = false) (hK : wK D cy A s) : ∀ {S : wS} {H : Heap} {locs : List Loc} {ls : Array Slot}, wp_X6_isPassingSound_172 D post S → wO D cy X A s.heap S H locs → wX D S0 S → lv_has ls 7 [] → W p l e r_X6_isPassingSound s m args below meth c H locs 0 0 (MQ below (va_Qi (fun r S9 => wX D S0 S9 ∧ post r S9) (wB D cy X A) A) args s 0 0 A) (F0 m 172 ls []) := by
  obtain ⟨hx, hb, hml, hown, hts⟩ := id F
  have hwg : ∀ w ∈ WG, w.before args s = true := fun w h => hts w (List.mem_cons_of_mem _ h)
  intro S H locs ls hp hW hE hl
  unfold wp_X6_isPassingSound_172 at hp
  refine lv_iconst (v := 0) hx hb dX6_isPassingSound_172 (by decide) ?_
  exact t_X6_isPassingSound_173 F hr hlocks hK hp hW hE (lv_sub hl [] rfl)
set_option maxHeartbeats 4000000 in
set_option maxRecDepth 100000 in
theorem t_X6_isPassingSound_146 {p : Program} {l : Launch} {e : Env} {s : State} {m : MethodId} {args : Array Value} {below : List Frame} {meth : Method} {c : Code} {D : wD} {cy : Nat → ClassId} {X : va_W} {A : Nat → Prop} {S0 : wS} {post : Int32 → wS → Prop} (F : CallFix p m c cX6_isPassingSound 7 s args wz_X6_isPassingSound RX6) (hr : meth.sig.returnType = (some .boolean)) (hlocks : meth.locks = false) (hK : wK D cy A s) : ∀ {S : wS} {H : Heap} {locs : List Loc} {ls : Array Slot} {a0 : Nat} {x2 : Int32} {x4 : Int32} {x5 : Int64} {t0 : Int32} {t1 : Int32}, wp_X6_isPassingSound_146 D post S a0 x2 x4 x5 t0 t1 → wO D cy X A s.heap S H locs → wX D S0 S → lv_has ls 7 [(0, .ref a0), (2, .int x2), (4, .int x4), (5, .long x5)] → wM D S a0 → sK S a0 = 11 → W p l e r_X6_isPassingSound s m args below meth c H locs 0 0 (MQ below (va_Qi (fun r S9 => wX D S0 S9 ∧ post r S9) (wB D cy X A) A) args s 0 0 A) (F0 m 146 ls [.int t1, .int t0]) := by
  obtain ⟨hx, hb, hml, hown, hts⟩ := id F
  have hwg : ∀ w ∈ WG, w.before args s = true := fun w h => hts w (List.mem_cons_of_mem _ h)
  have i_11 : ∀ w ∈ u_ws RX6 TX6 3, w ∈ wz_X6_isPassingSound := fun w h => List.mem_cons_of_mem _ (wu_11 w h)
  have k_22 := hwg _ wf_RX6_22
  intro S H locs ls a0 x2 x4 x5 t0 t1 hp hW hE hl hL_a0 hK_a0
  unfold wp_X6_isPassingSound_146 at hp
  refine lv_icmp_ne (tgt := 172) hx hb dX6_isPassingSound_146 (by decide) (fun c_1 => ?_) (fun c_1 => ?_)
  · replace hp := hp.1 c_1
    exact t_X6_isPassingSound_172 F hr hlocks hK hp hW hE (lv_sub hl [] rfl)
  · replace hp := hp.2 c_1
    refine lv_aload_n hx hb dX6_isPassingSound_149 rfl (lv_at hl 0 rfl) ?_
    obtain ⟨y_2, ey_2, hL_y_2, hK_y_2, hp⟩ := hp
    refine w_get (k := 11) (f := 0) (T := TX6) (v := .ref y_2) F hK hW hL_a0 hK_a0 (by decide) rfl rfl (by decide) i_11 k_22 (by rw [show wv 11 0 S a0 = va_rf (sR S a0 0) from rfl, ey_2]; rfl) dX6_isPassingSound_150 ?_
    refine lv_iload_n hx hb dX6_isPassingSound_153 rfl (lv_at hl 1 rfl) ?_
    refine lv_iload hx hb dX6_isPassingSound_154 (lv_at hl 2 rfl) ?_
    refine lv_iadd hx hb dX6_isPassingSound_156 ?_
    refine w_callJ (va_runV (As := [.int (x2 + x4)]) (rest := []) F (c_X0_besidesOf l hL_y_2 hK_y_2 hp H.size) (cwV (C := RX0) 1 hts (wg_V wm_RX6_141 wy_X0_besidesOf) rfl rfl rfl (by decide +kernel) ⟨Nat.le_of_ble_eq_true rfl, Nat.le_of_ble_eq_true rfl⟩) (w_preV hK hW hL_y_2 hK_y_2 (by decide) rfl) rfl rfl hl.1 rfl (lv_room (Nat.le_of_ble_eq_true rfl)) dX6_isPassingSound_157 ⟨Nat.le_of_ble_eq_true rfl, Nat.le_of_ble_eq_true rfl⟩) hW (fun r_3 S_4 H locs hp hW => ?_)
    obtain ⟨hX_S_4, hp⟩ := hp
    refine W.widen (k := 0) (n := 0) (by decide) (by decide) ?_
    have hE := hE.trans hX_S_4
    have hK_a0 : sK S_4 a0 = 11 := (hX_S_4.2 a0 hL_a0).1.trans hK_a0
    have hL_a0 : wM D S_4 a0 := hX_S_4.M hL_a0
    refine lv_lload hx hb dX6_isPassingSound_160 (lv_at hl 3 rfl) ?_
    refine lv_land hx hb dX6_isPassingSound_162 ?_
    refine lv_lconst (v := 0) hx hb dX6_isPassingSound_163 (by decide) ?_
    refine W.lcmp hx hb dX6_isPassingSound_164 ?_
    refine lv_if_eq (tgt := 172) hx hb dX6_isPassingSound_165 (by decide) (fun c_5 => ?_) (fun c_5 => ?_)
    · replace hp := hp.1 c_5
      exact t_X6_isPassingSound_172 F hr hlocks hK hp hW hE (lv_sub hl [] rfl)
    · replace hp := hp.2 c_5
      refine lv_iconst (v := 1) hx hb dX6_isPassingSound_168 (by decide) ?_
      refine lv_goto (tgt := 173) hx hb dX6_isPassingSound_169 (by decide) ?_
      exact t_X6_isPassingSound_173 F hr hlocks hK hp hW hE (lv_sub hl [] rfl)
set_option maxHeartbeats 4000000 in
set_option maxRecDepth 100000 in
theorem t_X6_isPassingSound_89 {p : Program} {l : Launch} {e : Env} {s : State} {m : MethodId} {args : Array Value} {below : List Frame} {meth : Method} {c : Code} {D : wD} {cy : Nat → ClassId} {X : va_W} {A : Nat → Prop} {S0 : wS} {post : Int32 → wS → Prop} (F : CallFix p m c cX6_isPassingSound 7 s args wz_X6_isPassingSound RX6) (hr : meth.sig.returnType = (some .boolean)) (hlocks : meth.locks = false) (hK : wK D cy A s) : ∀ {S : wS} {H : Heap} {locs : List Loc} {ls : Array Slot} {a0 : Nat} {a1 : Nat} {x2 : Int32} {x3 : Int32} {t0 : Int32}, wp_X6_isPassingSound_89 D post S a0 a1 x2 x3 t0 → wO D cy X A s.heap S H locs → wX D S0 S → lv_has ls 7 [(0, .ref a0), (1, .ref a1), (2, .int x2), (3, .int x3)] → wM D S a0 → sK S a0 = 11 → wM D S a1 → sK S a1 = 12 → W p l e r_X6_isPassingSound s m args below meth c H locs 0 0 (MQ below (va_Qi (fun r S9 => wX D S0 S9 ∧ post r S9) (wB D cy X A) A) args s 0 0 A) (F0 m 89 ls [.int t0]) := by
  obtain ⟨hx, hb, hml, hown, hts⟩ := id F
  have hwg : ∀ w ∈ WG, w.before args s = true := fun w h => hts w (List.mem_cons_of_mem _ h)
  have i_12 : ∀ w ∈ u_ws RX7 TX7 8, w ∈ wz_X6_isPassingSound := fun w h => List.mem_cons_of_mem _ (wu_12 w h)
  intro S H locs ls a0 a1 x2 x3 t0 hp hW hE hl hL_a0 hK_a0 hL_a1 hK_a1
  unfold wp_X6_isPassingSound_89 at hp
  refine lv_istore (lv' := [(4, .int t0), (0, .ref a0), (1, .ref a1), (2, .int x2), (3, .int x3)]) hx hb dX6_isPassingSound_89 hl (by decide) rfl (fun ls hl => ?_)
  refine lv_aload_n hx hb dX6_isPassingSound_91 rfl (lv_at hl 2 rfl) ?_
  refine lv_bipush (v := 6) hx hb dX6_isPassingSound_92 (by decide) ?_
  refine w_callJ (va_runV (As := [.int (6 : Int32)]) (rest := []) F (c_X7_ofKind l hL_a1 hK_a1 hp H.size) (cwV (C := RX7) 1 hts (wg_V wm_RX6_133 wy_X7_ofKind) rfl rfl rfl (by decide +kernel) ⟨Nat.le_of_ble_eq_true rfl, Nat.le_of_ble_eq_true rfl⟩) (w_preV hK hW hL_a1 hK_a1 (by decide) rfl) rfl rfl hl.1 rfl (lv_room (Nat.le_of_ble_eq_true rfl)) dX6_isPassingSound_94 ⟨Nat.le_of_ble_eq_true rfl, Nat.le_of_ble_eq_true rfl⟩) hW (fun r_1 S_2 H locs hp hW => ?_)
  obtain ⟨hX_S_2, hp⟩ := hp
  refine W.widen (k := 0) (n := 0) (by decide) (by decide) ?_
  have hE := hE.trans hX_S_2
  have hK_a0 : sK S_2 a0 = 11 := (hX_S_2.2 a0 hL_a0).1.trans hK_a0
  have hL_a0 : wM D S_2 a0 := hX_S_2.M hL_a0
  have hK_a1 : sK S_2 a1 = 12 := (hX_S_2.2 a1 hL_a1).1.trans hK_a1
  have hL_a1 : wM D S_2 a1 := hX_S_2.M hL_a1
  refine lv_aload_n hx hb dX6_isPassingSound_97 rfl (lv_at hl 2 rfl) ?_
  refine lv_aload_n hx hb dX6_isPassingSound_98 rfl (lv_at hl 2 rfl) ?_
  refine w_getN (k := 12) (f := 5) (T := TX7) (v := .int (sI S_2 a1 5)) F hK hW hL_a1 hK_a1 (by decide) rfl rfl (by decide) i_12 (hK.2.1 (.fieldLinkNest "OpeningsCabinet$Papers" 43 "OpeningsCabinet$Position" "isWhite" "Z" "OpeningsCabinet") (by decide +kernel)) rfl dX6_isPassingSound_99 ?_
  refine w_callJ (va_runV (As := [.int (sI S_2 a1 5)]) (rest := [.long r_1]) F (c_X7_ofSide l hL_a1 hK_a1 hp H.size) (cwV (C := RX7) 1 hts (wg_V wm_RX6_137 wy_X7_ofSide) rfl rfl rfl (by decide +kernel) ⟨Nat.le_of_ble_eq_true rfl, Nat.le_of_ble_eq_true rfl⟩) (w_preV hK hW hL_a1 hK_a1 (by decide) rfl) rfl rfl hl.1 rfl (lv_room (Nat.le_of_ble_eq_true rfl)) dX6_isPassingSound_102 ⟨Nat.le_of_ble_eq_true rfl, Nat.le_of_ble_eq_true rfl⟩) hW (fun r_3 S_4 H locs hp hW => ?_)
  obtain ⟨hX_S_4, hp⟩ := hp
  refine W.widen (k := 0) (n := 0) (by decide) (by decide) ?_
  have hE := hE.trans hX_S_4
  have hK_a0 : sK S_4 a0 = 11 := (hX_S_4.2 a0 hL_a0).1.trans hK_a0
  have hL_a0 : wM D S_4 a0 := hX_S_4.M hL_a0
  have hK_a1 : sK S_4 a1 = 12 := (hX_S_4.2 a1 hL_a1).1.trans hK_a1
  have hL_a1 : wM D S_4 a1 := hX_S_4.M hL_a1
  refine lv_land hx hb dX6_isPassingSound_105 ?_
  refine lv_topl (fun x_5 ex_5 => ?_)
  replace hp := hp x_5 ex_5
  refine lv_lstore (lv' := [(5, .long x_5), (4, .int t0), (0, .ref a0), (1, .ref a1), (2, .int x2), (3, .int x3)]) hx hb dX6_isPassingSound_106 hl (by decide) rfl (fun ls hl => ?_)
  refine lv_aload_n hx hb dX6_isPassingSound_108 rfl (lv_at hl 3 rfl) ?_
  refine lv_iload_n hx hb dX6_isPassingSound_109 rfl (lv_at hl 4 rfl) ?_
  refine w_callI (va_runV (As := [.int x2]) (rest := []) F (c_X7_pieceOn l hL_a1 hK_a1 hp H.size) (cwV (C := RX7) 1 hts (wg_V wm_RX6_84 wy_X7_pieceOn) rfl rfl rfl (by decide +kernel) ⟨Nat.le_of_ble_eq_true rfl, Nat.le_of_ble_eq_true rfl⟩) (w_preV hK hW hL_a1 hK_a1 (by decide) rfl) rfl rfl hl.1 rfl (lv_room (Nat.le_of_ble_eq_true rfl)) dX6_isPassingSound_110 ⟨Nat.le_of_ble_eq_true rfl, Nat.le_of_ble_eq_true rfl⟩) hW (fun r_6 S_7 H locs hp hW => ?_)
  obtain ⟨hX_S_7, hp⟩ := hp
  refine W.widen (k := 0) (n := 0) (by decide) (by decide) ?_
  have hE := hE.trans hX_S_7
  have hK_a0 : sK S_7 a0 = 11 := (hX_S_7.2 a0 hL_a0).1.trans hK_a0
  have hL_a0 : wM D S_7 a0 := hX_S_7.M hL_a0
  have hK_a1 : sK S_7 a1 = 12 := (hX_S_7.2 a1 hL_a1).1.trans hK_a1
  have hL_a1 : wM D S_7 a1 := hX_S_7.M hL_a1
  refine lv_if_ne (tgt := 172) hx hb dX6_isPassingSound_113 (by decide) (fun c_8 => ?_) (fun c_8 => ?_)
  · replace hp := hp.1 c_8
    exact t_X6_isPassingSound_172 F hr hlocks hK hp hW hE (lv_sub hl [] rfl)
  · replace hp := hp.2 c_8
    refine lv_aload_n hx hb dX6_isPassingSound_116 rfl (lv_at hl 3 rfl) ?_
    refine lv_iload_n hx hb dX6_isPassingSound_117 rfl (lv_at hl 4 rfl) ?_
    refine lv_iload hx hb dX6_isPassingSound_118 (lv_at hl 1 rfl) ?_
    refine lv_isub hx hb dX6_isPassingSound_120 ?_
    refine w_callI (va_runV (As := [.int (x2 - t0)]) (rest := []) F (c_X7_pieceOn l hL_a1 hK_a1 hp H.size) (cwV (C := RX7) 1 hts (wg_V wm_RX6_84 wy_X7_pieceOn) rfl rfl rfl (by decide +kernel) ⟨Nat.le_of_ble_eq_true rfl, Nat.le_of_ble_eq_true rfl⟩) (w_preV hK hW hL_a1 hK_a1 (by decide) rfl) rfl rfl hl.1 rfl (lv_room (Nat.le_of_ble_eq_true rfl)) dX6_isPassingSound_121 ⟨Nat.le_of_ble_eq_true rfl, Nat.le_of_ble_eq_true rfl⟩) hW (fun r_9 S_10 H locs hp hW => ?_)
    obtain ⟨hX_S_10, hp⟩ := hp
    refine W.widen (k := 0) (n := 0) (by decide) (by decide) ?_
    have hE := hE.trans hX_S_10
    have hK_a0 : sK S_10 a0 = 11 := (hX_S_10.2 a0 hL_a0).1.trans hK_a0
    have hL_a0 : wM D S_10 a0 := hX_S_10.M hL_a0
    have hK_a1 : sK S_10 a1 = 12 := (hX_S_10.2 a1 hL_a1).1.trans hK_a1
    have hL_a1 : wM D S_10 a1 := hX_S_10.M hL_a1
    refine lv_if_ne (tgt := 172) hx hb dX6_isPassingSound_124 (by decide) (fun c_11 => ?_) (fun c_11 => ?_)
    · replace hp := hp.1 c_11
      exact t_X6_isPassingSound_172 F hr hlocks hK hp hW hE (lv_sub hl [] rfl)
    · replace hp := hp.2 c_11
      refine lv_aload_n hx hb dX6_isPassingSound_127 rfl (lv_at hl 3 rfl) ?_
      refine lv_iload_n hx hb dX6_isPassingSound_128 rfl (lv_at hl 4 rfl) ?_
      refine lv_iload hx hb dX6_isPassingSound_129 (lv_at hl 1 rfl) ?_
      refine lv_iadd hx hb dX6_isPassingSound_131 ?_
      refine w_callI (va_runV (As := [.int (x2 + t0)]) (rest := []) F (c_X7_pieceOn l hL_a1 hK_a1 hp H.size) (cwV (C := RX7) 1 hts (wg_V wm_RX6_84 wy_X7_pieceOn) rfl rfl rfl (by decide +kernel) ⟨Nat.le_of_ble_eq_true rfl, Nat.le_of_ble_eq_true rfl⟩) (w_preV hK hW hL_a1 hK_a1 (by decide) rfl) rfl rfl hl.1 rfl (lv_room (Nat.le_of_ble_eq_true rfl)) dX6_isPassingSound_132 ⟨Nat.le_of_ble_eq_true rfl, Nat.le_of_ble_eq_true rfl⟩) hW (fun r_12 S_13 H locs hp hW => ?_)
      obtain ⟨hX_S_13, hp⟩ := hp
      refine W.widen (k := 0) (n := 0) (by decide) (by decide) ?_
      have hE := hE.trans hX_S_13
      have hK_a0 : sK S_13 a0 = 11 := (hX_S_13.2 a0 hL_a0).1.trans hK_a0
      have hL_a0 : wM D S_13 a0 := hX_S_13.M hL_a0
      have hK_a1 : sK S_13 a1 = 12 := (hX_S_13.2 a1 hL_a1).1.trans hK_a1
      have hL_a1 : wM D S_13 a1 := hX_S_13.M hL_a1
      refine lv_iload_n hx hb dX6_isPassingSound_135 rfl (lv_at hl 5 rfl) ?_
      refine lv_if_eq (tgt := 144) hx hb dX6_isPassingSound_136 (by decide) (fun c_14 => ?_) (fun c_14 => ?_)
      · replace hp := hp.1 c_14
        refine lv_bipush (v := 12) hx hb dX6_isPassingSound_144 (by decide) ?_
        exact t_X6_isPassingSound_146 F hr hlocks hK hp hW hE (lv_sub hl [2, 4, 1, 0] rfl) hL_a0 hK_a0
      · replace hp := hp.2 c_14
        refine lv_bipush (v := 6) hx hb dX6_isPassingSound_139 (by decide) ?_
        refine lv_goto (tgt := 146) hx hb dX6_isPassingSound_141 (by decide) ?_
        exact t_X6_isPassingSound_146 F hr hlocks hK hp hW hE (lv_sub hl [2, 4, 1, 0] rfl) hL_a0 hK_a0
set_option maxHeartbeats 4000000 in
set_option maxRecDepth 100000 in
theorem t_X6_isPassingSound_65 {p : Program} {l : Launch} {e : Env} {s : State} {m : MethodId} {args : Array Value} {below : List Frame} {meth : Method} {c : Code} {D : wD} {cy : Nat → ClassId} {X : va_W} {A : Nat → Prop} {S0 : wS} {post : Int32 → wS → Prop} (F : CallFix p m c cX6_isPassingSound 7 s args wz_X6_isPassingSound RX6) (hr : meth.sig.returnType = (some .boolean)) (hlocks : meth.locks = false) (hK : wK D cy A s) : ∀ {S : wS} {H : Heap} {locs : List Loc} {ls : Array Slot}, wp_X6_isPassingSound_65 D post S → wO D cy X A s.heap S H locs → wX D S0 S → lv_has ls 7 [] → W p l e r_X6_isPassingSound s m args below meth c H locs 0 0 (MQ below (va_Qi (fun r S9 => wX D S0 S9 ∧ post r S9) (wB D cy X A) A) args s 0 0 A) (F0 m 65 ls []) := by
  obtain ⟨hx, hb, hml, hown, hts⟩ := id F
  have hwg : ∀ w ∈ WG, w.before args s = true := fun w h => hts w (List.mem_cons_of_mem _ h)
  intro S H locs ls hp hW hE hl
  unfold wp_X6_isPassingSound_65 at hp
  refine lv_iconst (v := 0) hx hb dX6_isPassingSound_65 (by decide) ?_
  exact w_zret hx hb hr hlocks hW hp.1 ⟨hE, hp.2⟩ dX6_isPassingSound_66
set_option maxHeartbeats 4000000 in
set_option maxRecDepth 100000 in
theorem t_X6_isPassingSound_62 {p : Program} {l : Launch} {e : Env} {s : State} {m : MethodId} {args : Array Value} {below : List Frame} {meth : Method} {c : Code} {D : wD} {cy : Nat → ClassId} {X : va_W} {A : Nat → Prop} {S0 : wS} {post : Int32 → wS → Prop} (F : CallFix p m c cX6_isPassingSound 7 s args wz_X6_isPassingSound RX6) (hr : meth.sig.returnType = (some .boolean)) (hlocks : meth.locks = false) (hK : wK D cy A s) : ∀ {S : wS} {H : Heap} {locs : List Loc} {ls : Array Slot} {a0 : Nat} {a1 : Nat} {x2 : Int32} {x3 : Int32} {t0 : Int32} {t1 : Int32}, wp_X6_isPassingSound_62 D post S a0 a1 x2 x3 t0 t1 → wO D cy X A s.heap S H locs → wX D S0 S → lv_has ls 7 [(0, .ref a0), (1, .ref a1), (2, .int x2), (3, .int x3)] → wM D S a0 → sK S a0 = 11 → wM D S a1 → sK S a1 = 12 → W p l e r_X6_isPassingSound s m args below meth c H locs 0 0 (MQ below (va_Qi (fun r S9 => wX D S0 S9 ∧ post r S9) (wB D cy X A) A) args s 0 0 A) (F0 m 62 ls [.int t1, .int t0]) := by
  obtain ⟨hx, hb, hml, hown, hts⟩ := id F
  have hwg : ∀ w ∈ WG, w.before args s = true := fun w h => hts w (List.mem_cons_of_mem _ h)
  have i_11 : ∀ w ∈ u_ws RX6 TX6 3, w ∈ wz_X6_isPassingSound := fun w h => List.mem_cons_of_mem _ (wu_11 w h)
  have i_5 : ∀ w ∈ u_ws RX0 TX0 12, w ∈ wz_X6_isPassingSound := fun w h => List.mem_cons_of_mem _ (wu_5 w h)
  have k_22 := hwg _ wf_RX6_22
  intro S H locs ls a0 a1 x2 x3 t0 t1 hp hW hE hl hL_a0 hK_a0 hL_a1 hK_a1
  unfold wp_X6_isPassingSound_62 at hp
  refine lv_icmp_eq (tgt := 67) hx hb dX6_isPassingSound_62 (by decide) (fun c_1 => ?_) (fun c_1 => ?_)
  · replace hp := hp.1 c_1
    refine lv_iload_n hx hb dX6_isPassingSound_67 rfl (lv_at hl 3 rfl) ?_
    refine lv_if_eq (tgt := 81) hx hb dX6_isPassingSound_68 (by decide) (fun c_2 => ?_) (fun c_2 => ?_)
    · replace hp := hp.1 c_2
      refine lv_aload_n hx hb dX6_isPassingSound_81 rfl (lv_at hl 0 rfl) ?_
      obtain ⟨y_3, ey_3, hL_y_3, hK_y_3, hp⟩ := hp
      refine w_get (k := 11) (f := 0) (T := TX6) (v := .ref y_3) F hK hW hL_a0 hK_a0 (by decide) rfl rfl (by decide) i_11 k_22 (by rw [show wv 11 0 S a0 = va_rf (sR S a0 0) from rfl, ey_3]; rfl) dX6_isPassingSound_82 ?_
      refine w_getN (k := 5) (f := 0) (T := TX0) (v := .int (sI S y_3 0)) F hK hW hL_y_3 hK_y_3 (by decide) rfl rfl (by decide) i_5 (hK.2.1 (.fieldLinkNest "OpeningsCabinet$Papers" 81 "OpeningsCabinet$Board" "files" "I" "OpeningsCabinet") (by decide +kernel)) rfl dX6_isPassingSound_85 ?_
      refine lv_ineg hx hb dX6_isPassingSound_88 ?_
      exact t_X6_isPassingSound_89 F hr hlocks hK hp hW hE (lv_sub hl [0, 1, 2, 3] rfl) hL_a0 hK_a0 hL_a1 hK_a1
    · replace hp := hp.2 c_2
      refine lv_aload_n hx hb dX6_isPassingSound_71 rfl (lv_at hl 0 rfl) ?_
      obtain ⟨y_4, ey_4, hL_y_4, hK_y_4, hp⟩ := hp
      refine w_get (k := 11) (f := 0) (T := TX6) (v := .ref y_4) F hK hW hL_a0 hK_a0 (by decide) rfl rfl (by decide) i_11 k_22 (by rw [show wv 11 0 S a0 = va_rf (sR S a0 0) from rfl, ey_4]; rfl) dX6_isPassingSound_72 ?_
      refine w_getN (k := 5) (f := 0) (T := TX0) (v := .int (sI S y_4 0)) F hK hW hL_y_4 hK_y_4 (by decide) rfl rfl (by decide) i_5 (hK.2.1 (.fieldLinkNest "OpeningsCabinet$Papers" 81 "OpeningsCabinet$Board" "files" "I" "OpeningsCabinet") (by decide +kernel)) rfl dX6_isPassingSound_75 ?_
      refine lv_goto (tgt := 89) hx hb dX6_isPassingSound_78 (by decide) ?_
      exact t_X6_isPassingSound_89 F hr hlocks hK hp hW hE (lv_sub hl [0, 1, 2, 3] rfl) hL_a0 hK_a0 hL_a1 hK_a1
  · replace hp := hp.2 c_1
    exact t_X6_isPassingSound_65 F hr hlocks hK hp hW hE (lv_sub hl [] rfl)
set_option maxHeartbeats 4000000 in
set_option maxRecDepth 100000 in
theorem t_X6_isPassingSound_24 {p : Program} {l : Launch} {e : Env} {s : State} {m : MethodId} {args : Array Value} {below : List Frame} {meth : Method} {c : Code} {D : wD} {cy : Nat → ClassId} {X : va_W} {A : Nat → Prop} {S0 : wS} {post : Int32 → wS → Prop} (F : CallFix p m c cX6_isPassingSound 7 s args wz_X6_isPassingSound RX6) (hr : meth.sig.returnType = (some .boolean)) (hlocks : meth.locks = false) (hK : wK D cy A s) : ∀ {S : wS} {H : Heap} {locs : List Loc} {ls : Array Slot} {a0 : Nat} {a1 : Nat} {x2 : Int32} {t0 : Int32}, wp_X6_isPassingSound_24 D post S a0 a1 x2 t0 → wO D cy X A s.heap S H locs → wX D S0 S → lv_has ls 7 [(0, .ref a0), (1, .ref a1), (2, .int x2)] → wM D S a0 → sK S a0 = 11 → wM D S a1 → sK S a1 = 12 → W p l e r_X6_isPassingSound s m args below meth c H locs 0 0 (MQ below (va_Qi (fun r S9 => wX D S0 S9 ∧ post r S9) (wB D cy X A) A) args s 0 0 A) (F0 m 24 ls [.int t0]) := by
  obtain ⟨hx, hb, hml, hown, hts⟩ := id F
  have hwg : ∀ w ∈ WG, w.before args s = true := fun w h => hts w (List.mem_cons_of_mem _ h)
  have i_11 : ∀ w ∈ u_ws RX6 TX6 3, w ∈ wz_X6_isPassingSound := fun w h => List.mem_cons_of_mem _ (wu_11 w h)
  have i_5 : ∀ w ∈ u_ws RX0 TX0 12, w ∈ wz_X6_isPassingSound := fun w h => List.mem_cons_of_mem _ (wu_5 w h)
  have k_22 := hwg _ wf_RX6_22
  intro S H locs ls a0 a1 x2 t0 hp hW hE hl hL_a0 hK_a0 hL_a1 hK_a1
  unfold wp_X6_isPassingSound_24 at hp
  refine lv_istore_n (lv' := [(3, .int t0), (0, .ref a0), (1, .ref a1), (2, .int x2)]) hx hb dX6_isPassingSound_24 rfl hl (by decide) rfl (fun ls hl => ?_)
  refine lv_aload_n hx hb dX6_isPassingSound_25 rfl (lv_at hl 1 rfl) ?_
  obtain ⟨y_1, ey_1, hL_y_1, hK_y_1, hp⟩ := hp
  refine w_get (k := 11) (f := 0) (T := TX6) (v := .ref y_1) F hK hW hL_a0 hK_a0 (by decide) rfl rfl (by decide) i_11 k_22 (by rw [show wv 11 0 S a0 = va_rf (sR S a0 0) from rfl, ey_1]; rfl) dX6_isPassingSound_26 ?_
  refine w_getN (k := 5) (f := 1) (T := TX0) (v := .int (sI S y_1 1)) F hK hW hL_y_1 hK_y_1 (by decide) rfl rfl (by decide) i_5 (hK.2.1 (.fieldLinkNest "OpeningsCabinet$Papers" 30 "OpeningsCabinet$Board" "ranks" "I" "OpeningsCabinet") (by decide +kernel)) rfl dX6_isPassingSound_29 ?_
  refine lv_bipush (v := 6) hx hb dX6_isPassingSound_32 (by decide) ?_
  refine lv_icmp_lt (tgt := 65) hx hb dX6_isPassingSound_34 (by decide) (fun c_2 => ?_) (fun c_2 => ?_)
  · replace hp := hp.1 c_2
    exact t_X6_isPassingSound_65 F hr hlocks hK hp hW hE (lv_sub hl [] rfl)
  · replace hp := hp.2 c_2
    refine lv_aload_n hx hb dX6_isPassingSound_37 rfl (lv_at hl 1 rfl) ?_
    obtain ⟨y_3, ey_3, hL_y_3, hK_y_3, hp⟩ := hp
    refine w_get (k := 11) (f := 0) (T := TX6) (v := .ref y_3) F hK hW hL_a0 hK_a0 (by decide) rfl rfl (by decide) i_11 k_22 (by rw [show wv 11 0 S a0 = va_rf (sR S a0 0) from rfl, ey_3]; rfl) dX6_isPassingSound_38 ?_
    refine lv_iload_n hx hb dX6_isPassingSound_41 rfl (lv_at hl 3 rfl) ?_
    refine w_callI (va_runV (As := [.int x2]) (rest := []) F (c_X0_rankAt l hL_y_3 hK_y_3 hp H.size) (cwV (C := RX0) 1 hts (wg_V wm_RX6_78 wy_X0_rankAt) rfl rfl rfl (by decide +kernel) ⟨Nat.le_of_ble_eq_true rfl, Nat.le_of_ble_eq_true rfl⟩) (w_preV hK hW hL_y_3 hK_y_3 (by decide) rfl) rfl rfl hl.1 rfl (lv_room (Nat.le_of_ble_eq_true rfl)) dX6_isPassingSound_42 ⟨Nat.le_of_ble_eq_true rfl, Nat.le_of_ble_eq_true rfl⟩) hW (fun r_4 S_5 H locs hp hW => ?_)
    obtain ⟨hX_S_5, hp⟩ := hp
    refine W.widen (k := 0) (n := 0) (by decide) (by decide) ?_
    have hE := hE.trans hX_S_5
    have hK_a0 : sK S_5 a0 = 11 := (hX_S_5.2 a0 hL_a0).1.trans hK_a0
    have hL_a0 : wM D S_5 a0 := hX_S_5.M hL_a0
    have hK_a1 : sK S_5 a1 = 12 := (hX_S_5.2 a1 hL_a1).1.trans hK_a1
    have hL_a1 : wM D S_5 a1 := hX_S_5.M hL_a1
    refine lv_iload_n hx hb dX6_isPassingSound_45 rfl (lv_at hl 0 rfl) ?_
    refine lv_if_eq (tgt := 53) hx hb dX6_isPassingSound_46 (by decide) (fun c_6 => ?_) (fun c_6 => ?_)
    · replace hp := hp.1 c_6
      refine lv_aload_n hx hb dX6_isPassingSound_53 rfl (lv_at hl 1 rfl) ?_
      obtain ⟨y_7, ey_7, hL_y_7, hK_y_7, hp⟩ := hp
      refine w_get (k := 11) (f := 0) (T := TX6) (v := .ref y_7) F hK hW hL_a0 hK_a0 (by decide) rfl rfl (by decide) i_11 k_22 (by rw [show wv 11 0 S_5 a0 = va_rf (sR S_5 a0 0) from rfl, ey_7]; rfl) dX6_isPassingSound_54 ?_
      refine w_getN (k := 5) (f := 1) (T := TX0) (v := .int (sI S_5 y_7 1)) F hK hW hL_y_7 hK_y_7 (by decide) rfl rfl (by decide) i_5 (hK.2.1 (.fieldLinkNest "OpeningsCabinet$Papers" 30 "OpeningsCabinet$Board" "ranks" "I" "OpeningsCabinet") (by decide +kernel)) rfl dX6_isPassingSound_57 ?_
      refine lv_iconst (v := 3) hx hb dX6_isPassingSound_60 (by decide) ?_
      refine lv_isub hx hb dX6_isPassingSound_61 ?_
      exact t_X6_isPassingSound_62 F hr hlocks hK hp hW hE (lv_sub hl [1, 2, 3, 0] rfl) hL_a0 hK_a0 hL_a1 hK_a1
    · replace hp := hp.2 c_6
      refine lv_iconst (v := 2) hx hb dX6_isPassingSound_49 (by decide) ?_
      refine lv_goto (tgt := 62) hx hb dX6_isPassingSound_50 (by decide) ?_
      exact t_X6_isPassingSound_62 F hr hlocks hK hp hW hE (lv_sub hl [1, 2, 3, 0] rfl) hL_a0 hK_a0 hL_a1 hK_a1
set_option maxHeartbeats 4000000 in
set_option maxRecDepth 100000 in
theorem t_X6_isPassingSound_0 {p : Program} {l : Launch} {e : Env} {s : State} {m : MethodId} {args : Array Value} {below : List Frame} {meth : Method} {c : Code} {D : wD} {cy : Nat → ClassId} {X : va_W} {A : Nat → Prop} {S0 : wS} {post : Int32 → wS → Prop} (F : CallFix p m c cX6_isPassingSound 7 s args wz_X6_isPassingSound RX6) (hr : meth.sig.returnType = (some .boolean)) (hlocks : meth.locks = false) (hK : wK D cy A s) : ∀ {S : wS} {H : Heap} {locs : List Loc} {ls : Array Slot} {a0 : Nat} {a1 : Nat}, wp_X6_isPassingSound_0 D post S a0 a1 → wO D cy X A s.heap S H locs → wX D S0 S → lv_has ls 7 [(0, .ref a0), (1, .ref a1)] → wM D S a0 → sK S a0 = 11 → wM D S a1 → sK S a1 = 12 → W p l e r_X6_isPassingSound s m args below meth c H locs 0 0 (MQ below (va_Qi (fun r S9 => wX D S0 S9 ∧ post r S9) (wB D cy X A) A) args s 0 0 A) (F0 m 0 ls []) := by
  obtain ⟨hx, hb, hml, hown, hts⟩ := id F
  have hwg : ∀ w ∈ WG, w.before args s = true := fun w h => hts w (List.mem_cons_of_mem _ h)
  have i_12 : ∀ w ∈ u_ws RX7 TX7 8, w ∈ wz_X6_isPassingSound := fun w h => List.mem_cons_of_mem _ (wu_12 w h)
  intro S H locs ls a0 a1 hp hW hE hl hL_a0 hK_a0 hL_a1 hK_a1
  unfold wp_X6_isPassingSound_0 at hp
  refine lv_aload_n hx hb dX6_isPassingSound_0 rfl (lv_at hl 1 rfl) ?_
  refine w_getN (k := 12) (f := 7) (T := TX7) (v := .int (sI S a1 7)) F hK hW hL_a1 hK_a1 (by decide) rfl rfl (by decide) i_12 (hK.2.1 (.fieldLinkNest "OpeningsCabinet$Papers" 71 "OpeningsCabinet$Position" "passing" "I" "OpeningsCabinet") (by decide +kernel)) rfl dX6_isPassingSound_1 ?_
  refine lv_topi (fun x_1 ex_1 => ?_)
  replace hp := hp x_1 ex_1
  refine lv_istore_n (lv' := [(2, .int x_1), (0, .ref a0), (1, .ref a1)]) hx hb dX6_isPassingSound_4 rfl hl (by decide) rfl (fun ls hl => ?_)
  refine lv_iload_n hx hb dX6_isPassingSound_5 rfl (lv_at hl 0 rfl) ?_
  refine lv_iconst (v := (-1)) hx hb dX6_isPassingSound_6 (by decide) ?_
  refine lv_icmp_ne (tgt := 12) hx hb dX6_isPassingSound_7 (by decide) (fun c_2 => ?_) (fun c_2 => ?_)
  · replace hp := hp.1 c_2
    refine lv_aload_n hx hb dX6_isPassingSound_12 rfl (lv_at hl 2 rfl) ?_
    refine w_getN (k := 12) (f := 5) (T := TX7) (v := .int (sI S a1 5)) F hK hW hL_a1 hK_a1 (by decide) rfl rfl (by decide) i_12 (hK.2.1 (.fieldLinkNest "OpeningsCabinet$Papers" 43 "OpeningsCabinet$Position" "isWhite" "Z" "OpeningsCabinet") (by decide +kernel)) rfl dX6_isPassingSound_13 ?_
    refine lv_if_ne (tgt := 23) hx hb dX6_isPassingSound_16 (by decide) (fun c_3 => ?_) (fun c_3 => ?_)
    · replace hp := hp.1 c_3
      refine lv_iconst (v := 0) hx hb dX6_isPassingSound_23 (by decide) ?_
      exact t_X6_isPassingSound_24 F hr hlocks hK hp hW hE (lv_sub hl [1, 2, 0] rfl) hL_a0 hK_a0 hL_a1 hK_a1
    · replace hp := hp.2 c_3
      refine lv_iconst (v := 1) hx hb dX6_isPassingSound_19 (by decide) ?_
      refine lv_goto (tgt := 24) hx hb dX6_isPassingSound_20 (by decide) ?_
      exact t_X6_isPassingSound_24 F hr hlocks hK hp hW hE (lv_sub hl [1, 2, 0] rfl) hL_a0 hK_a0 hL_a1 hK_a1
  · replace hp := hp.2 c_2
    refine lv_iconst (v := 1) hx hb dX6_isPassingSound_10 (by decide) ?_
    exact w_zret hx hb hr hlocks hW hp.1 ⟨hE, hp.2⟩ dX6_isPassingSound_11
set_option maxHeartbeats 4000000 in
set_option maxRecDepth 100000 in
theorem c_X6_isPassingSound (l : Launch) {D : wD} {cy : Nat → ClassId} {X : va_W} {S0 : wS} {post : Int32 → wS → Prop} {a0 : Nat} {a1 : Nat} (hL_a0 : wM D S0 a0) (hK_a0 : sK S0 a0 = 11) (hL_a1 : wM D S0 a1) (hK_a1 : sK S0 a1 = 12) (hp : wp_X6_isPassingSound D post S0 a0 a1) : mI D cy X l yX6_isPassingSound wz_X6_isPassingSound r_X6_isPassingSound [.ref a0, .ref a1] S0 (fun r S9 => wX D S0 S9 ∧ post r S9) := by
  intro sz
  refine Met.ofW (cc := cX6_isPassingSound) (maxL := 7) (ret := (some .boolean)) (by decide) rfl ?_
  intro p e s m args below meth c s₁ B hml hv
  obtain ⟨rfl, hsz, hP, hK, hD0, hRO⟩ := hv
  have hts := atoms_spec (ws := wz_X6_isPassingSound) B.pre
  have hown : s.vm.findClass RX6 = some m.cls := findClass_of_methodNamed B.named
  subst hsz
  have hD := hD0.self (sz := s.heap.size)
  have F : CallFix p m c cX6_isPassingSound 7 s _ wz_X6_isPassingSound RX6 := ⟨B.exec, B.bytes, hml, hown, hts⟩
  have hr := B.returns
  have hlocks := B.notSynchronized
  generalize hAe : va_A (wL cy X S0) s.heap.size = A at hD hK ⊢
  have hA : ∀ q, s.heap.size ≤ q → A q := fun q h => by rw [← hAe]; exact Or.inr h
  have hW : wO D cy X A s.heap S0 s.heap [] := ⟨hP, hD, va_S.rf, hA, hRO⟩
  have hl := lv_entry ([.ref a0, .ref a1]) (n := 7) (Nat.le_of_ble_eq_true rfl)
  rw [lg_entry_eq]
  generalize (lg_sl ([.ref a0, .ref a1]) ++ List.replicate (7 - (lg_sl ([.ref a0, .ref a1])).length) Slot.unset).toArray = ls at hl ⊢
  have hl : lv_has ls 7 [(0, .ref a0), (1, .ref a1)] := hl
  unfold wp_X6_isPassingSound at hp
  exact t_X6_isPassingSound_0 F hr hlocks hK hp hW wX.rf (lv_sub hl [0, 1] rfl) hL_a0 hK_a0 hL_a1 hK_a1
def wp_X11_repetitions_0 (D : wD) (post : Int32 → wS → Prop)  (S : wS) (a0 : Nat) : Prop :=
∃ y_1 : Nat, sR S a0 4 = some y_1 ∧ wM D S y_1 ∧ sK S y_1 = 8 ∧
∃ y_2 : Nat, sR S a0 2 = some y_2 ∧ wM D S y_2 ∧ sK S y_2 = 12 ∧
wp_X3_timesOf D (fun r_3 S_4 => 
post r_3 S_4) S y_1 y_2
abbrev r_X11_repetitions : Room := { frames := 3, cells := 0, slots := 0, locals := 66 }
def wp_X11_repetitions (D : wD) (post : Int32 → wS → Prop) (S : wS) (a0 : Nat) : Prop := wp_X11_repetitions_0 D post S a0
set_option maxHeartbeats 4000000 in
set_option maxRecDepth 100000 in
theorem t_X11_repetitions_0 {p : Program} {l : Launch} {e : Env} {s : State} {m : MethodId} {args : Array Value} {below : List Frame} {meth : Method} {c : Code} {D : wD} {cy : Nat → ClassId} {X : va_W} {A : Nat → Prop} {S0 : wS} {post : Int32 → wS → Prop} (F : CallFix p m c cX11_repetitions 1 s args wz_X11_repetitions RX11) (hr : meth.sig.returnType = (some .int)) (hlocks : meth.locks = false) (hK : wK D cy A s) : ∀ {S : wS} {H : Heap} {locs : List Loc} {ls : Array Slot} {a0 : Nat}, wp_X11_repetitions_0 D post S a0 → wO D cy X A s.heap S H locs → wX D S0 S → lv_has ls 1 [(0, .ref a0)] → wM D S a0 → sK S a0 = 16 → W p l e r_X11_repetitions s m args below meth c H locs 0 0 (MQ below (va_Qi (fun r S9 => wX D S0 S9 ∧ post r S9) (wB D cy X A) A) args s 0 0 A) (F0 m 0 ls []) := by
  obtain ⟨hx, hb, hml, hown, hts⟩ := id F
  have hwg : ∀ w ∈ WG, w.before args s = true := fun w h => hts w (List.mem_cons_of_mem _ h)
  have i_16 : ∀ w ∈ u_ws RX11 TX11 18, w ∈ wz_X11_repetitions := fun w h => List.mem_cons_of_mem _ (wu_16 w h)
  have k_28 := hwg _ wf_RX11_28
  have k_40 := hwg _ wf_RX11_40
  intro S H locs ls a0 hp hW hE hl hL_a0 hK_a0
  unfold wp_X11_repetitions_0 at hp
  refine lv_aload_n hx hb dX11_repetitions_0 rfl (lv_at hl 0 rfl) ?_
  obtain ⟨y_1, ey_1, hL_y_1, hK_y_1, hp⟩ := hp
  refine w_get (k := 16) (f := 4) (T := TX11) (v := .ref y_1) F hK hW hL_a0 hK_a0 (by decide) rfl rfl (by decide) i_16 k_40 (by rw [show wv 16 4 S a0 = va_rf (sR S a0 4) from rfl, ey_1]; rfl) dX11_repetitions_1 ?_
  refine lv_aload_n hx hb dX11_repetitions_4 rfl (lv_at hl 0 rfl) ?_
  obtain ⟨y_2, ey_2, hL_y_2, hK_y_2, hp⟩ := hp
  refine w_get (k := 16) (f := 2) (T := TX11) (v := .ref y_2) F hK hW hL_a0 hK_a0 (by decide) rfl rfl (by decide) i_16 k_28 (by rw [show wv 16 2 S a0 = va_rf (sR S a0 2) from rfl, ey_2]; rfl) dX11_repetitions_5 ?_
  refine w_callI (va_runV (As := [.ref y_2]) (rest := []) F (c_X3_timesOf l hL_y_1 hK_y_1 hL_y_2 hK_y_2 hp H.size) (cwV (C := RX3) 1 hts (wg_V wm_RX11_306 wy_X3_timesOf) rfl rfl rfl (by decide +kernel) ⟨Nat.le_of_ble_eq_true rfl, Nat.le_of_ble_eq_true rfl⟩) (w_preV hK hW hL_y_1 hK_y_1 (by decide) rfl) rfl rfl hl.1 rfl (lv_room (Nat.le_of_ble_eq_true rfl)) dX11_repetitions_8 ⟨Nat.le_of_ble_eq_true rfl, Nat.le_of_ble_eq_true rfl⟩) hW (fun r_3 S_4 H locs hp hW => ?_)
  obtain ⟨hX_S_4, hp⟩ := hp
  refine W.widen (k := 0) (n := 0) (by decide) (by decide) ?_
  have hE := hE.trans hX_S_4
  have hK_a0 : sK S_4 a0 = 16 := (hX_S_4.2 a0 hL_a0).1.trans hK_a0
  have hL_a0 : wM D S_4 a0 := hX_S_4.M hL_a0
  exact w_iret hx hb hr hlocks hW ⟨hE, hp⟩ dX11_repetitions_11
set_option maxHeartbeats 4000000 in
set_option maxRecDepth 100000 in
theorem c_X11_repetitions (l : Launch) {D : wD} {cy : Nat → ClassId} {X : va_W} {S0 : wS} {post : Int32 → wS → Prop} {a0 : Nat} (hL_a0 : wM D S0 a0) (hK_a0 : sK S0 a0 = 16) (hp : wp_X11_repetitions D post S0 a0) : mI D cy X l yX11_repetitions wz_X11_repetitions r_X11_repetitions [.ref a0] S0 (fun r S9 => wX D S0 S9 ∧ post r S9) := by
  intro sz
  refine Met.ofW (cc := cX11_repetitions) (maxL := 1) (ret := (some .int)) (by decide) rfl ?_
  intro p e s m args below meth c s₁ B hml hv
  obtain ⟨rfl, hsz, hP, hK, hD0, hRO⟩ := hv
  have hts := atoms_spec (ws := wz_X11_repetitions) B.pre
  have hown : s.vm.findClass RX11 = some m.cls := findClass_of_methodNamed B.named
  subst hsz
  have hD := hD0.self (sz := s.heap.size)
  have F : CallFix p m c cX11_repetitions 1 s _ wz_X11_repetitions RX11 := ⟨B.exec, B.bytes, hml, hown, hts⟩
  have hr := B.returns
  have hlocks := B.notSynchronized
  generalize hAe : va_A (wL cy X S0) s.heap.size = A at hD hK ⊢
  have hA : ∀ q, s.heap.size ≤ q → A q := fun q h => by rw [← hAe]; exact Or.inr h
  have hW : wO D cy X A s.heap S0 s.heap [] := ⟨hP, hD, va_S.rf, hA, hRO⟩
  have hl := lv_entry ([.ref a0]) (n := 1) (Nat.le_of_ble_eq_true rfl)
  rw [lg_entry_eq]
  generalize (lg_sl ([.ref a0]) ++ List.replicate (1 - (lg_sl ([.ref a0])).length) Slot.unset).toArray = ls at hl ⊢
  have hl : lv_has ls 1 [(0, .ref a0)] := hl
  unfold wp_X11_repetitions at hp
  exact t_X11_repetitions_0 F hr hlocks hK hp hW wX.rf (lv_sub hl [0] rfl) hL_a0 hK_a0
