theorem dX2_mark_0 : decode cX2_mark 0 = .ok (.iload_n 2, 1) := by decide +kernel
theorem dX2_mark_1 : decode cX2_mark 1 = .ok (.iload_n 3, 1) := by decide +kernel
theorem dX2_mark_2 : decode cX2_mark 2 = .ok (.if_icmp .eq 36, 3) := by decide +kernel
theorem dX2_mark_5 : decode cX2_mark 5 = .ok (.iload_n 2, 1) := by decide +kernel
theorem dX2_mark_6 : decode cX2_mark 6 = .ok (.iload 4, 2) := by decide +kernel
theorem dX2_mark_8 : decode cX2_mark 8 = .ok (.if_icmp .eq 30, 3) := by decide +kernel
theorem dX2_mark_11 : decode cX2_mark 11 = .ok (.iload_n 3, 1) := by decide +kernel
theorem dX2_mark_12 : decode cX2_mark 12 = .ok (.iload 4, 2) := by decide +kernel
theorem dX2_mark_14 : decode cX2_mark 14 = .ok (.if_icmp .eq 24, 3) := by decide +kernel
theorem dX2_mark_17 : decode cX2_mark 17 = .ok (.aload_n 0, 1) := by decide +kernel
theorem dX2_mark_18 : decode cX2_mark 18 = .ok (.getfield 35, 3) := by decide +kernel
theorem dX2_mark_21 : decode cX2_mark 21 = .ok (.iconst 1, 1) := by decide +kernel
theorem dX2_mark_22 : decode cX2_mark 22 = .ok (.iload_n 2, 1) := by decide +kernel
theorem dX2_mark_23 : decode cX2_mark 23 = .ok (.lconst 0, 1) := by decide +kernel
theorem dX2_mark_24 : decode cX2_mark 24 = .ok (.invokevirtual 130, 3) := by decide +kernel
theorem dX2_mark_27 : decode cX2_mark 27 = .ok (.iload_n 3, 1) := by decide +kernel
theorem dX2_mark_28 : decode cX2_mark 28 = .ok (.invokestatic 134, 3) := by decide +kernel
theorem dX2_mark_31 : decode cX2_mark 31 = .ok (.ifCond .ne 7, 3) := by decide +kernel
theorem dX2_mark_34 : decode cX2_mark 34 = .ok (.iconst 1, 1) := by decide +kernel
theorem dX2_mark_35 : decode cX2_mark 35 = .ok (.goto 4, 3) := by decide +kernel
theorem dX2_mark_38 : decode cX2_mark 38 = .ok (.iconst 0, 1) := by decide +kernel
theorem dX2_mark_39 : decode cX2_mark 39 = .ok (.istore 5, 2) := by decide +kernel
theorem dX2_mark_41 : decode cX2_mark 41 = .ok (.iload 5, 2) := by decide +kernel
theorem dX2_mark_43 : decode cX2_mark 43 = .ok (.ifCond .eq 19, 3) := by decide +kernel
theorem dX2_mark_46 : decode cX2_mark 46 = .ok (.aload_n 0, 1) := by decide +kernel
theorem dX2_mark_47 : decode cX2_mark 47 = .ok (.iload_n 1, 1) := by decide +kernel
theorem dX2_mark_48 : decode cX2_mark 48 = .ok (.iload_n 2, 1) := by decide +kernel
theorem dX2_mark_49 : decode cX2_mark 49 = .ok (.iload_n 3, 1) := by decide +kernel
theorem dX2_mark_50 : decode cX2_mark 50 = .ok (.iload 4, 2) := by decide +kernel
theorem dX2_mark_52 : decode cX2_mark 52 = .ok (.invokevirtual 138, 3) := by decide +kernel
theorem dX2_mark_55 : decode cX2_mark 55 = .ok (.ifCond .eq 7, 3) := by decide +kernel
theorem dX2_mark_58 : decode cX2_mark 58 = .ok (.iconst 1, 1) := by decide +kernel
theorem dX2_mark_59 : decode cX2_mark 59 = .ok (.goto 4, 3) := by decide +kernel
theorem dX2_mark_62 : decode cX2_mark 62 = .ok (.iconst 0, 1) := by decide +kernel
theorem dX2_mark_63 : decode cX2_mark 63 = .ok (.istore 6, 2) := by decide +kernel
theorem dX2_mark_65 : decode cX2_mark 65 = .ok (.aload_n 0, 1) := by decide +kernel
theorem dX2_mark_66 : decode cX2_mark 66 = .ok (.iload_n 1, 1) := by decide +kernel
theorem dX2_mark_67 : decode cX2_mark 67 = .ok (.iconst 0, 1) := by decide +kernel
theorem dX2_mark_68 : decode cX2_mark 68 = .ok (.iload_n 2, 1) := by decide +kernel
theorem dX2_mark_69 : decode cX2_mark 69 = .ok (.iload_n 3, 1) := by decide +kernel
theorem dX2_mark_70 : decode cX2_mark 70 = .ok (.iload 4, 2) := by decide +kernel
theorem dX2_mark_72 : decode cX2_mark 72 = .ok (.invokestatic 96, 3) := by decide +kernel
theorem dX2_mark_75 : decode cX2_mark 75 = .ok (.iload 5, 2) := by decide +kernel
theorem dX2_mark_77 : decode cX2_mark 77 = .ok (.ifCond .eq 7, 3) := by decide +kernel
theorem dX2_mark_80 : decode cX2_mark 80 = .ok (.iconst (-1), 1) := by decide +kernel
theorem dX2_mark_81 : decode cX2_mark 81 = .ok (.goto 5, 3) := by decide +kernel
theorem dX2_mark_84 : decode cX2_mark 84 = .ok (.bipush (-2), 2) := by decide +kernel
theorem dX2_mark_86 : decode cX2_mark 86 = .ok (.invokevirtual 142, 3) := by decide +kernel
theorem dX2_mark_89 : decode cX2_mark 89 = .ok (.aload_n 0, 1) := by decide +kernel
theorem dX2_mark_90 : decode cX2_mark 90 = .ok (.iload_n 1, 1) := by decide +kernel
theorem dX2_mark_91 : decode cX2_mark 91 = .ok (.iconst 1, 1) := by decide +kernel
theorem dX2_mark_92 : decode cX2_mark 92 = .ok (.iload_n 2, 1) := by decide +kernel
theorem dX2_mark_93 : decode cX2_mark 93 = .ok (.iload_n 3, 1) := by decide +kernel
theorem dX2_mark_94 : decode cX2_mark 94 = .ok (.iload 4, 2) := by decide +kernel
theorem dX2_mark_96 : decode cX2_mark 96 = .ok (.invokestatic 96, 3) := by decide +kernel
theorem dX2_mark_99 : decode cX2_mark 99 = .ok (.iload 5, 2) := by decide +kernel
theorem dX2_mark_101 : decode cX2_mark 101 = .ok (.ifCond .eq 12, 3) := by decide +kernel
theorem dX2_mark_104 : decode cX2_mark 104 = .ok (.iload 6, 2) := by decide +kernel
theorem dX2_mark_106 : decode cX2_mark 106 = .ok (.ifCond .ne 7, 3) := by decide +kernel
theorem dX2_mark_109 : decode cX2_mark 109 = .ok (.iconst (-1), 1) := by decide +kernel
theorem dX2_mark_110 : decode cX2_mark 110 = .ok (.goto 5, 3) := by decide +kernel
theorem dX2_mark_113 : decode cX2_mark 113 = .ok (.bipush (-2), 2) := by decide +kernel
theorem dX2_mark_115 : decode cX2_mark 115 = .ok (.invokevirtual 142, 3) := by decide +kernel
theorem dX2_mark_118 : decode cX2_mark 118 = .ok (.return_, 1) := by decide +kernel
theorem dX2_forEachPlace_0 : decode cX2_forEachPlace 0 = .ok (.aload_n 0, 1) := by decide +kernel
theorem dX2_forEachPlace_1 : decode cX2_forEachPlace 1 = .ok (.getfield 35, 3) := by decide +kernel
theorem dX2_forEachPlace_4 : decode cX2_forEachPlace 4 = .ok (.getfield 104, 3) := by decide +kernel
theorem dX2_forEachPlace_7 : decode cX2_forEachPlace 7 = .ok (.bipush 25, 2) := by decide +kernel
theorem dX2_forEachPlace_9 : decode cX2_forEachPlace 9 = .ok (.invokestatic 118, 3) := by decide +kernel
theorem dX2_forEachPlace_12 : decode cX2_forEachPlace 12 = .ok (.istore_n 3, 1) := by decide +kernel
theorem dX2_forEachPlace_13 : decode cX2_forEachPlace 13 = .ok (.iconst 0, 1) := by decide +kernel
theorem dX2_forEachPlace_14 : decode cX2_forEachPlace 14 = .ok (.istore 4, 2) := by decide +kernel
theorem dX2_forEachPlace_16 : decode cX2_forEachPlace 16 = .ok (.iload 4, 2) := by decide +kernel
theorem dX2_forEachPlace_18 : decode cX2_forEachPlace 18 = .ok (.iload_n 3, 1) := by decide +kernel
theorem dX2_forEachPlace_19 : decode cX2_forEachPlace 19 = .ok (.if_icmp .ge 68, 3) := by decide +kernel
theorem dX2_forEachPlace_22 : decode cX2_forEachPlace 22 = .ok (.iconst 0, 1) := by decide +kernel
theorem dX2_forEachPlace_23 : decode cX2_forEachPlace 23 = .ok (.istore 5, 2) := by decide +kernel
theorem dX2_forEachPlace_25 : decode cX2_forEachPlace 25 = .ok (.iload 5, 2) := by decide +kernel
theorem dX2_forEachPlace_27 : decode cX2_forEachPlace 27 = .ok (.iload_n 3, 1) := by decide +kernel
theorem dX2_forEachPlace_28 : decode cX2_forEachPlace 28 = .ok (.if_icmp .ge 53, 3) := by decide +kernel
theorem dX2_forEachPlace_31 : decode cX2_forEachPlace 31 = .ok (.iconst 0, 1) := by decide +kernel
theorem dX2_forEachPlace_32 : decode cX2_forEachPlace 32 = .ok (.istore 6, 2) := by decide +kernel
theorem dX2_forEachPlace_34 : decode cX2_forEachPlace 34 = .ok (.iload 6, 2) := by decide +kernel
theorem dX2_forEachPlace_36 : decode cX2_forEachPlace 36 = .ok (.iload_n 3, 1) := by decide +kernel
theorem dX2_forEachPlace_37 : decode cX2_forEachPlace 37 = .ok (.if_icmp .ge 38, 3) := by decide +kernel
theorem dX2_forEachPlace_40 : decode cX2_forEachPlace 40 = .ok (.iload_n 2, 1) := by decide +kernel
theorem dX2_forEachPlace_41 : decode cX2_forEachPlace 41 = .ok (.ifCond .eq 17, 3) := by decide +kernel
theorem dX2_forEachPlace_44 : decode cX2_forEachPlace 44 = .ok (.aload_n 0, 1) := by decide +kernel
theorem dX2_forEachPlace_45 : decode cX2_forEachPlace 45 = .ok (.iload_n 1, 1) := by decide +kernel
theorem dX2_forEachPlace_46 : decode cX2_forEachPlace 46 = .ok (.iload 4, 2) := by decide +kernel
theorem dX2_forEachPlace_48 : decode cX2_forEachPlace 48 = .ok (.iload 5, 2) := by decide +kernel
theorem dX2_forEachPlace_50 : decode cX2_forEachPlace 50 = .ok (.iload 6, 2) := by decide +kernel
theorem dX2_forEachPlace_52 : decode cX2_forEachPlace 52 = .ok (.invokevirtual 123, 3) := by decide +kernel
theorem dX2_forEachPlace_55 : decode cX2_forEachPlace 55 = .ok (.goto 14, 3) := by decide +kernel
theorem dX2_forEachPlace_58 : decode cX2_forEachPlace 58 = .ok (.aload_n 0, 1) := by decide +kernel
theorem dX2_forEachPlace_59 : decode cX2_forEachPlace 59 = .ok (.iload_n 1, 1) := by decide +kernel
theorem dX2_forEachPlace_60 : decode cX2_forEachPlace 60 = .ok (.iload 4, 2) := by decide +kernel
theorem dX2_forEachPlace_62 : decode cX2_forEachPlace 62 = .ok (.iload 5, 2) := by decide +kernel
theorem dX2_forEachPlace_64 : decode cX2_forEachPlace 64 = .ok (.iload 6, 2) := by decide +kernel
theorem dX2_forEachPlace_66 : decode cX2_forEachPlace 66 = .ok (.invokevirtual 127, 3) := by decide +kernel
theorem dX2_forEachPlace_69 : decode cX2_forEachPlace 69 = .ok (.iinc 6 1, 3) := by decide +kernel
theorem dX2_forEachPlace_72 : decode cX2_forEachPlace 72 = .ok (.goto (-38), 3) := by decide +kernel
theorem dX2_forEachPlace_75 : decode cX2_forEachPlace 75 = .ok (.iinc 5 1, 3) := by decide +kernel
theorem dX2_forEachPlace_78 : decode cX2_forEachPlace 78 = .ok (.goto (-53), 3) := by decide +kernel
theorem dX2_forEachPlace_81 : decode cX2_forEachPlace 81 = .ok (.iinc 4 1, 3) := by decide +kernel
theorem dX2_forEachPlace_84 : decode cX2_forEachPlace 84 = .ok (.goto (-68), 3) := by decide +kernel
theorem dX2_forEachPlace_87 : decode cX2_forEachPlace 87 = .ok (.return_, 1) := by decide +kernel
theorem dX2_loseMove_0 : decode cX2_loseMove 0 = .ok (.aload_n 0, 1) := by decide +kernel
theorem dX2_loseMove_1 : decode cX2_loseMove 1 = .ok (.iload_n 1, 1) := by decide +kernel
theorem dX2_loseMove_2 : decode cX2_loseMove 2 = .ok (.iload_n 2, 1) := by decide +kernel
theorem dX2_loseMove_3 : decode cX2_loseMove 3 = .ok (.invokevirtual 100, 3) := by decide +kernel
theorem dX2_loseMove_6 : decode cX2_loseMove 6 = .ok (.iconst (-1), 1) := by decide +kernel
theorem dX2_loseMove_7 : decode cX2_loseMove 7 = .ok (.if_icmp .ne 16, 3) := by decide +kernel
theorem dX2_loseMove_10 : decode cX2_loseMove 10 = .ok (.iload_n 2, 1) := by decide +kernel
theorem dX2_loseMove_11 : decode cX2_loseMove 11 = .ok (.ifCond .lt 12, 3) := by decide +kernel
theorem dX2_loseMove_14 : decode cX2_loseMove 14 = .ok (.iload_n 2, 1) := by decide +kernel
theorem dX2_loseMove_15 : decode cX2_loseMove 15 = .ok (.aload_n 0, 1) := by decide +kernel
theorem dX2_loseMove_16 : decode cX2_loseMove 16 = .ok (.getfield 28, 3) := by decide +kernel
theorem dX2_loseMove_19 : decode cX2_loseMove 19 = .ok (.arraylength, 1) := by decide +kernel
theorem dX2_loseMove_20 : decode cX2_loseMove 20 = .ok (.if_icmp .lt 4, 3) := by decide +kernel
theorem dX2_loseMove_23 : decode cX2_loseMove 23 = .ok (.return_, 1) := by decide +kernel
theorem dX2_loseMove_24 : decode cX2_loseMove 24 = .ok (.aload_n 0, 1) := by decide +kernel
theorem dX2_loseMove_25 : decode cX2_loseMove 25 = .ok (.getfield 28, 3) := by decide +kernel
theorem dX2_loseMove_28 : decode cX2_loseMove 28 = .ok (.iload_n 2, 1) := by decide +kernel
theorem dX2_loseMove_29 : decode cX2_loseMove 29 = .ok (.dup2, 1) := by decide +kernel
theorem dX2_loseMove_30 : decode cX2_loseMove 30 = .ok (.iaload, 1) := by decide +kernel
theorem dX2_loseMove_31 : decode cX2_loseMove 31 = .ok (.iconst 1, 1) := by decide +kernel
theorem dX2_loseMove_32 : decode cX2_loseMove 32 = .ok (.isub, 1) := by decide +kernel
theorem dX2_loseMove_33 : decode cX2_loseMove 33 = .ok (.iastore, 1) := by decide +kernel
theorem dX2_loseMove_34 : decode cX2_loseMove 34 = .ok (.aload_n 0, 1) := by decide +kernel
theorem dX2_loseMove_35 : decode cX2_loseMove 35 = .ok (.getfield 28, 3) := by decide +kernel
theorem dX2_loseMove_38 : decode cX2_loseMove 38 = .ok (.iload_n 2, 1) := by decide +kernel
theorem dX2_loseMove_39 : decode cX2_loseMove 39 = .ok (.iaload, 1) := by decide +kernel
theorem dX2_loseMove_40 : decode cX2_loseMove 40 = .ok (.ifCond .ne 10, 3) := by decide +kernel
theorem dX2_loseMove_43 : decode cX2_loseMove 43 = .ok (.aload_n 0, 1) := by decide +kernel
theorem dX2_loseMove_44 : decode cX2_loseMove 44 = .ok (.iload_n 1, 1) := by decide +kernel
theorem dX2_loseMove_45 : decode cX2_loseMove 45 = .ok (.iload_n 2, 1) := by decide +kernel
theorem dX2_loseMove_46 : decode cX2_loseMove 46 = .ok (.iload_n 3, 1) := by decide +kernel
theorem dX2_loseMove_47 : decode cX2_loseMove 47 = .ok (.invokevirtual 146, 3) := by decide +kernel
theorem dX2_loseMove_50 : decode cX2_loseMove 50 = .ok (.return_, 1) := by decide +kernel
theorem dX2_reachWin_0 : decode cX2_reachWin 0 = .ok (.aload_n 0, 1) := by decide +kernel
theorem dX2_reachWin_1 : decode cX2_reachWin 1 = .ok (.iload_n 1, 1) := by decide +kernel
theorem dX2_reachWin_2 : decode cX2_reachWin 2 = .ok (.iload_n 2, 1) := by decide +kernel
theorem dX2_reachWin_3 : decode cX2_reachWin 3 = .ok (.invokevirtual 100, 3) := by decide +kernel
theorem dX2_reachWin_6 : decode cX2_reachWin 6 = .ok (.iconst (-1), 1) := by decide +kernel
theorem dX2_reachWin_7 : decode cX2_reachWin 7 = .ok (.if_icmp .ne 10, 3) := by decide +kernel
theorem dX2_reachWin_10 : decode cX2_reachWin 10 = .ok (.aload_n 0, 1) := by decide +kernel
theorem dX2_reachWin_11 : decode cX2_reachWin 11 = .ok (.iload_n 1, 1) := by decide +kernel
theorem dX2_reachWin_12 : decode cX2_reachWin 12 = .ok (.iload_n 2, 1) := by decide +kernel
theorem dX2_reachWin_13 : decode cX2_reachWin 13 = .ok (.iload_n 3, 1) := by decide +kernel
theorem dX2_reachWin_14 : decode cX2_reachWin 14 = .ok (.invokevirtual 146, 3) := by decide +kernel
theorem dX2_reachWin_17 : decode cX2_reachWin 17 = .ok (.return_, 1) := by decide +kernel
theorem dX2_stepBack_0 : decode cX2_stepBack 0 = .ok (.iload_n 2, 1) := by decide +kernel
theorem dX2_stepBack_1 : decode cX2_stepBack 1 = .ok (.sipush 15625, 3) := by decide +kernel
theorem dX2_stepBack_4 : decode cX2_stepBack 4 = .ok (.if_icmp .lt 7, 3) := by decide +kernel
theorem dX2_stepBack_7 : decode cX2_stepBack 7 = .ok (.iconst 1, 1) := by decide +kernel
theorem dX2_stepBack_8 : decode cX2_stepBack 8 = .ok (.goto 4, 3) := by decide +kernel
theorem dX2_stepBack_11 : decode cX2_stepBack 11 = .ok (.iconst 0, 1) := by decide +kernel
theorem dX2_stepBack_12 : decode cX2_stepBack 12 = .ok (.istore_n 3, 1) := by decide +kernel
theorem dX2_stepBack_13 : decode cX2_stepBack 13 = .ok (.iload_n 3, 1) := by decide +kernel
theorem dX2_stepBack_14 : decode cX2_stepBack 14 = .ok (.ifCond .eq 11, 3) := by decide +kernel
theorem dX2_stepBack_17 : decode cX2_stepBack 17 = .ok (.iload_n 2, 1) := by decide +kernel
theorem dX2_stepBack_18 : decode cX2_stepBack 18 = .ok (.sipush 15625, 3) := by decide +kernel
theorem dX2_stepBack_21 : decode cX2_stepBack 21 = .ok (.isub, 1) := by decide +kernel
theorem dX2_stepBack_22 : decode cX2_stepBack 22 = .ok (.goto 4, 3) := by decide +kernel
theorem dX2_stepBack_25 : decode cX2_stepBack 25 = .ok (.iload_n 2, 1) := by decide +kernel
theorem dX2_stepBack_26 : decode cX2_stepBack 26 = .ok (.istore 4, 2) := by decide +kernel
theorem dX2_stepBack_28 : decode cX2_stepBack 28 = .ok (.iload 4, 2) := by decide +kernel
theorem dX2_stepBack_30 : decode cX2_stepBack 30 = .ok (.bipush 25, 2) := by decide +kernel
theorem dX2_stepBack_32 : decode cX2_stepBack 32 = .ok (.irem, 1) := by decide +kernel
theorem dX2_stepBack_33 : decode cX2_stepBack 33 = .ok (.istore 5, 2) := by decide +kernel
theorem dX2_stepBack_35 : decode cX2_stepBack 35 = .ok (.iload 4, 2) := by decide +kernel
theorem dX2_stepBack_37 : decode cX2_stepBack 37 = .ok (.bipush 25, 2) := by decide +kernel
theorem dX2_stepBack_39 : decode cX2_stepBack 39 = .ok (.idiv, 1) := by decide +kernel
theorem dX2_stepBack_40 : decode cX2_stepBack 40 = .ok (.bipush 25, 2) := by decide +kernel
theorem dX2_stepBack_42 : decode cX2_stepBack 42 = .ok (.irem, 1) := by decide +kernel
theorem dX2_stepBack_43 : decode cX2_stepBack 43 = .ok (.istore 6, 2) := by decide +kernel
theorem dX2_stepBack_45 : decode cX2_stepBack 45 = .ok (.iload 4, 2) := by decide +kernel
theorem dX2_stepBack_47 : decode cX2_stepBack 47 = .ok (.bipush 25, 2) := by decide +kernel
theorem dX2_stepBack_49 : decode cX2_stepBack 49 = .ok (.idiv, 1) := by decide +kernel
theorem dX2_stepBack_50 : decode cX2_stepBack 50 = .ok (.bipush 25, 2) := by decide +kernel
theorem dX2_stepBack_52 : decode cX2_stepBack 52 = .ok (.idiv, 1) := by decide +kernel
theorem dX2_stepBack_53 : decode cX2_stepBack 53 = .ok (.istore 7, 2) := by decide +kernel
theorem dX2_stepBack_55 : decode cX2_stepBack 55 = .ok (.aload_n 0, 1) := by decide +kernel
theorem dX2_stepBack_56 : decode cX2_stepBack 56 = .ok (.iload_n 1, 1) := by decide +kernel
theorem dX2_stepBack_57 : decode cX2_stepBack 57 = .ok (.iload_n 2, 1) := by decide +kernel
theorem dX2_stepBack_58 : decode cX2_stepBack 58 = .ok (.invokevirtual 100, 3) := by decide +kernel
theorem dX2_stepBack_61 : decode cX2_stepBack 61 = .ok (.iconst 1, 1) := by decide +kernel
theorem dX2_stepBack_62 : decode cX2_stepBack 62 = .ok (.iadd, 1) := by decide +kernel
theorem dX2_stepBack_63 : decode cX2_stepBack 63 = .ok (.istore 8, 2) := by decide +kernel
theorem dX2_stepBack_65 : decode cX2_stepBack 65 = .ok (.aload_n 0, 1) := by decide +kernel
theorem dX2_stepBack_66 : decode cX2_stepBack 66 = .ok (.getfield 35, 3) := by decide +kernel
theorem dX2_stepBack_69 : decode cX2_stepBack 69 = .ok (.iconst 1, 1) := by decide +kernel
theorem dX2_stepBack_70 : decode cX2_stepBack 70 = .ok (.iload 7, 2) := by decide +kernel
theorem dX2_stepBack_72 : decode cX2_stepBack 72 = .ok (.lconst 0, 1) := by decide +kernel
theorem dX2_stepBack_73 : decode cX2_stepBack 73 = .ok (.invokevirtual 130, 3) := by decide +kernel
theorem dX2_stepBack_76 : decode cX2_stepBack 76 = .ok (.lstore 9, 2) := by decide +kernel
theorem dX2_stepBack_78 : decode cX2_stepBack 78 = .ok (.aload_n 0, 1) := by decide +kernel
theorem dX2_stepBack_79 : decode cX2_stepBack 79 = .ok (.getfield 35, 3) := by decide +kernel
theorem dX2_stepBack_82 : decode cX2_stepBack 82 = .ok (.iconst 1, 1) := by decide +kernel
theorem dX2_stepBack_83 : decode cX2_stepBack 83 = .ok (.iload 6, 2) := by decide +kernel
theorem dX2_stepBack_85 : decode cX2_stepBack 85 = .ok (.lconst 0, 1) := by decide +kernel
theorem dX2_stepBack_86 : decode cX2_stepBack 86 = .ok (.invokevirtual 130, 3) := by decide +kernel
theorem dX2_stepBack_89 : decode cX2_stepBack 89 = .ok (.lstore 11, 2) := by decide +kernel
theorem dX2_stepBack_91 : decode cX2_stepBack 91 = .ok (.aload_n 0, 1) := by decide +kernel
theorem dX2_stepBack_92 : decode cX2_stepBack 92 = .ok (.getfield 35, 3) := by decide +kernel
theorem dX2_stepBack_95 : decode cX2_stepBack 95 = .ok (.iload_n 1, 1) := by decide +kernel
theorem dX2_stepBack_96 : decode cX2_stepBack 96 = .ok (.iload 5, 2) := by decide +kernel
theorem dX2_stepBack_98 : decode cX2_stepBack 98 = .ok (.lconst 1, 1) := by decide +kernel
theorem dX2_stepBack_99 : decode cX2_stepBack 99 = .ok (.iload 7, 2) := by decide +kernel
theorem dX2_stepBack_101 : decode cX2_stepBack 101 = .ok (.lshl, 1) := by decide +kernel
theorem dX2_stepBack_102 : decode cX2_stepBack 102 = .ok (.lconst 1, 1) := by decide +kernel
theorem dX2_stepBack_103 : decode cX2_stepBack 103 = .ok (.iload 6, 2) := by decide +kernel
theorem dX2_stepBack_105 : decode cX2_stepBack 105 = .ok (.lshl, 1) := by decide +kernel
theorem dX2_stepBack_106 : decode cX2_stepBack 106 = .ok (.lor, 1) := by decide +kernel
theorem dX2_stepBack_107 : decode cX2_stepBack 107 = .ok (.invokevirtual 130, 3) := by decide +kernel
theorem dX2_stepBack_110 : decode cX2_stepBack 110 = .ok (.lstore 13, 2) := by decide +kernel
theorem dX2_stepBack_112 : decode cX2_stepBack 112 = .ok (.iconst 0, 1) := by decide +kernel
theorem dX2_stepBack_113 : decode cX2_stepBack 113 = .ok (.istore 15, 2) := by decide +kernel
theorem dX2_stepBack_115 : decode cX2_stepBack 115 = .ok (.iload 15, 2) := by decide +kernel
theorem dX2_stepBack_117 : decode cX2_stepBack 117 = .ok (.aload_n 0, 1) := by decide +kernel
theorem dX2_stepBack_118 : decode cX2_stepBack 118 = .ok (.getfield 35, 3) := by decide +kernel
theorem dX2_stepBack_121 : decode cX2_stepBack 121 = .ok (.getfield 104, 3) := by decide +kernel
theorem dX2_stepBack_124 : decode cX2_stepBack 124 = .ok (.if_icmp .ge 102, 3) := by decide +kernel
theorem dX2_stepBack_127 : decode cX2_stepBack 127 = .ok (.iload_n 3, 1) := by decide +kernel
theorem dX2_stepBack_128 : decode cX2_stepBack 128 = .ok (.ifCond .eq 30, 3) := by decide +kernel
theorem dX2_stepBack_131 : decode cX2_stepBack 131 = .ok (.lload 11, 2) := by decide +kernel
theorem dX2_stepBack_133 : decode cX2_stepBack 133 = .ok (.iload 15, 2) := by decide +kernel
theorem dX2_stepBack_135 : decode cX2_stepBack 135 = .ok (.invokestatic 134, 3) := by decide +kernel
theorem dX2_stepBack_138 : decode cX2_stepBack 138 = .ok (.ifCond .eq 20, 3) := by decide +kernel
theorem dX2_stepBack_141 : decode cX2_stepBack 141 = .ok (.aload_n 0, 1) := by decide +kernel
theorem dX2_stepBack_142 : decode cX2_stepBack 142 = .ok (.iload_n 1, 1) := by decide +kernel
theorem dX2_stepBack_143 : decode cX2_stepBack 143 = .ok (.iconst 0, 1) := by decide +kernel
theorem dX2_stepBack_144 : decode cX2_stepBack 144 = .ok (.iload 7, 2) := by decide +kernel
theorem dX2_stepBack_146 : decode cX2_stepBack 146 = .ok (.iload 15, 2) := by decide +kernel
theorem dX2_stepBack_148 : decode cX2_stepBack 148 = .ok (.iload 5, 2) := by decide +kernel
theorem dX2_stepBack_150 : decode cX2_stepBack 150 = .ok (.invokestatic 96, 3) := by decide +kernel
theorem dX2_stepBack_153 : decode cX2_stepBack 153 = .ok (.iload 8, 2) := by decide +kernel
theorem dX2_stepBack_155 : decode cX2_stepBack 155 = .ok (.invokevirtual 149, 3) := by decide +kernel
theorem dX2_stepBack_158 : decode cX2_stepBack 158 = .ok (.iload_n 3, 1) := by decide +kernel
theorem dX2_stepBack_159 : decode cX2_stepBack 159 = .ok (.ifCond .ne 30, 3) := by decide +kernel
theorem dX2_stepBack_162 : decode cX2_stepBack 162 = .ok (.lload 9, 2) := by decide +kernel
theorem dX2_stepBack_164 : decode cX2_stepBack 164 = .ok (.iload 15, 2) := by decide +kernel
theorem dX2_stepBack_166 : decode cX2_stepBack 166 = .ok (.invokestatic 134, 3) := by decide +kernel
theorem dX2_stepBack_169 : decode cX2_stepBack 169 = .ok (.ifCond .eq 20, 3) := by decide +kernel
theorem dX2_stepBack_172 : decode cX2_stepBack 172 = .ok (.aload_n 0, 1) := by decide +kernel
theorem dX2_stepBack_173 : decode cX2_stepBack 173 = .ok (.iload_n 1, 1) := by decide +kernel
theorem dX2_stepBack_174 : decode cX2_stepBack 174 = .ok (.iconst 1, 1) := by decide +kernel
theorem dX2_stepBack_175 : decode cX2_stepBack 175 = .ok (.iload 15, 2) := by decide +kernel
theorem dX2_stepBack_177 : decode cX2_stepBack 177 = .ok (.iload 6, 2) := by decide +kernel
theorem dX2_stepBack_179 : decode cX2_stepBack 179 = .ok (.iload 5, 2) := by decide +kernel
theorem dX2_stepBack_181 : decode cX2_stepBack 181 = .ok (.invokestatic 96, 3) := by decide +kernel
theorem dX2_stepBack_184 : decode cX2_stepBack 184 = .ok (.iload 8, 2) := by decide +kernel
theorem dX2_stepBack_186 : decode cX2_stepBack 186 = .ok (.invokevirtual 152, 3) := by decide +kernel
theorem dX2_stepBack_189 : decode cX2_stepBack 189 = .ok (.iload_n 3, 1) := by decide +kernel
theorem dX2_stepBack_190 : decode cX2_stepBack 190 = .ok (.ifCond .ne 30, 3) := by decide +kernel
theorem dX2_stepBack_193 : decode cX2_stepBack 193 = .ok (.lload 13, 2) := by decide +kernel
theorem dX2_stepBack_195 : decode cX2_stepBack 195 = .ok (.iload 15, 2) := by decide +kernel
theorem dX2_stepBack_197 : decode cX2_stepBack 197 = .ok (.invokestatic 134, 3) := by decide +kernel
theorem dX2_stepBack_200 : decode cX2_stepBack 200 = .ok (.ifCond .eq 20, 3) := by decide +kernel
theorem dX2_stepBack_203 : decode cX2_stepBack 203 = .ok (.aload_n 0, 1) := by decide +kernel
theorem dX2_stepBack_204 : decode cX2_stepBack 204 = .ok (.iload_n 1, 1) := by decide +kernel
theorem dX2_stepBack_205 : decode cX2_stepBack 205 = .ok (.iconst 1, 1) := by decide +kernel
theorem dX2_stepBack_206 : decode cX2_stepBack 206 = .ok (.iload 7, 2) := by decide +kernel
theorem dX2_stepBack_208 : decode cX2_stepBack 208 = .ok (.iload 6, 2) := by decide +kernel
theorem dX2_stepBack_210 : decode cX2_stepBack 210 = .ok (.iload 15, 2) := by decide +kernel
theorem dX2_stepBack_212 : decode cX2_stepBack 212 = .ok (.invokestatic 96, 3) := by decide +kernel
theorem dX2_stepBack_215 : decode cX2_stepBack 215 = .ok (.iload 8, 2) := by decide +kernel
theorem dX2_stepBack_217 : decode cX2_stepBack 217 = .ok (.invokevirtual 152, 3) := by decide +kernel
theorem dX2_stepBack_220 : decode cX2_stepBack 220 = .ok (.iinc 15 1, 3) := by decide +kernel
theorem dX2_stepBack_223 : decode cX2_stepBack 223 = .ok (.goto (-108), 3) := by decide +kernel
theorem dX2_stepBack_226 : decode cX2_stepBack 226 = .ok (.return_, 1) := by decide +kernel
theorem dX11_startHere_0 : decode cX11_startHere 0 = .ok (.aload_n 0, 1) := by decide +kernel
theorem dX11_startHere_1 : decode cX11_startHere 1 = .ok (.getfield 40, 3) := by decide +kernel
theorem dX11_startHere_4 : decode cX11_startHere 4 = .ok (.getfield 157, 3) := by decide +kernel
theorem dX11_startHere_7 : decode cX11_startHere 7 = .ok (.istore_n 1, 1) := by decide +kernel
theorem dX11_startHere_8 : decode cX11_startHere 8 = .ok (.aload_n 0, 1) := by decide +kernel
theorem dX11_startHere_9 : decode cX11_startHere 9 = .ok (.getfield 40, 3) := by decide +kernel
theorem dX11_startHere_12 : decode cX11_startHere 12 = .ok (.aload_n 0, 1) := by decide +kernel
theorem dX11_startHere_13 : decode cX11_startHere 13 = .ok (.getfield 28, 3) := by decide +kernel
theorem dX11_startHere_16 : decode cX11_startHere 16 = .ok (.invokevirtual 130, 3) := by decide +kernel
theorem dX11_startHere_19 : decode cX11_startHere 19 = .ok (.iload_n 1, 1) := by decide +kernel
theorem dX11_startHere_20 : decode cX11_startHere 20 = .ok (.ireturn, 1) := by decide +kernel
theorem dX11_variationMoves_0 : decode cX11_variationMoves 0 = .ok (.aload_n 0, 1) := by decide +kernel
theorem dX11_variationMoves_1 : decode cX11_variationMoves 1 = .ok (.getfield 116, 3) := by decide +kernel
theorem dX11_variationMoves_4 : decode cX11_variationMoves 4 = .ok (.ireturn, 1) := by decide +kernel
def wp_X2_mark_115 (post : wS → Prop)  (S : wS) (b0 : Nat) (t1 : Int32) (t2 : Int32) (t3 : Int32) : Prop :=
wp_X2_setValue (fun S_2 => 
post S_2) S b0 t1 t2 t3
def wp_X2_mark_113 (post : wS → Prop)  (S : wS) (b0 : Nat) (t1 : Int32) (t2 : Int32) : Prop :=
wp_X2_mark_115 post S b0 t1 t2 (-2 : Int32)
def wp_X2_mark_86 (post : wS → Prop)  (S : wS) (a0 : Nat) (x1 : Int32) (x2 : Int32) (x3 : Int32) (x4 : Int32) (x5 : Int32) (x6 : Int32) (b0 : Nat) (t1 : Int32) (t2 : Int32) (t3 : Int32) : Prop :=
wp_X2_setValue (fun S_2 => 
wp_X2_indexOf (fun r_3 S_4 => 
((x5 = 0 → wp_X2_mark_113 post S_4 a0 x1 r_3) ∧
 (¬ x5 = 0 → ((¬ x6 = 0 → wp_X2_mark_113 post S_4 a0 x1 r_3) ∧
 (x6 = 0 → wp_X2_mark_115 post S_4 a0 x1 r_3 (-1 : Int32)))))) S_2 (1 : Int32) x2 x3 x4) S b0 t1 t2 t3
def wp_X2_mark_63 (post : wS → Prop)  (S : wS) (a0 : Nat) (x1 : Int32) (x2 : Int32) (x3 : Int32) (x4 : Int32) (x5 : Int32) (t0 : Int32) : Prop :=
wp_X2_indexOf (fun r_1 S_2 => 
((x5 = 0 → wp_X2_mark_86 post S_2 a0 x1 x2 x3 x4 x5 t0 a0 x1 r_1 (-2 : Int32)) ∧
 (¬ x5 = 0 → wp_X2_mark_86 post S_2 a0 x1 x2 x3 x4 x5 t0 a0 x1 r_1 (-1 : Int32)))) S (0 : Int32) x2 x3 x4
def wp_X2_mark_62 (post : wS → Prop)  (S : wS) (a0 : Nat) (x1 : Int32) (x2 : Int32) (x3 : Int32) (x4 : Int32) (x5 : Int32) : Prop :=
wp_X2_mark_63 post S a0 x1 x2 x3 x4 x5 (0 : Int32)
def wp_X2_mark_39 (post : wS → Prop)  (S : wS) (a0 : Nat) (x1 : Int32) (x2 : Int32) (x3 : Int32) (x4 : Int32) (t0 : Int32) : Prop :=
((t0 = 0 → wp_X2_mark_62 post S a0 x1 x2 x3 x4 t0) ∧
 (¬ t0 = 0 → wp_X2_isChecking (fun r_2 S_3 => 
((r_2 = 0 → wp_X2_mark_62 post S_3 a0 x1 x2 x3 x4 t0) ∧
 (¬ r_2 = 0 → wp_X2_mark_63 post S_3 a0 x1 x2 x3 x4 t0 (1 : Int32)))) S a0 x1 x2 x3 x4))
def wp_X2_mark_38 (post : wS → Prop)  (S : wS) (a0 : Nat) (x1 : Int32) (x2 : Int32) (x3 : Int32) (x4 : Int32) : Prop :=
wp_X2_mark_39 post S a0 x1 x2 x3 x4 (0 : Int32)
def wp_X2_mark_0 (post : wS → Prop)  (S : wS) (a0 : Nat) (x1 : Int32) (x2 : Int32) (x3 : Int32) (x4 : Int32) : Prop :=
((x2 = x3 → wp_X2_mark_38 post S a0 x1 x2 x3 x4) ∧
 (¬ x2 = x3 → ((x2 = x4 → wp_X2_mark_38 post S a0 x1 x2 x3 x4) ∧
 (¬ x2 = x4 → ((x3 = x4 → wp_X2_mark_38 post S a0 x1 x2 x3 x4) ∧
 (¬ x3 = x4 → ∃ y_4 : Nat, sR S a0 0 = some y_4 ∧ y_4 ∈ sL S ∧ sK S y_4 = 5 ∧
wp_X0_reach (fun r_5 S_6 => 
wp_X11_contains (fun r_7 S_8 => 
((¬ r_7 = 0 → wp_X2_mark_38 post S_8 a0 x1 x2 x3 x4) ∧
 (r_7 = 0 → wp_X2_mark_39 post S_8 a0 x1 x2 x3 x4 (1 : Int32)))) S_6 r_5 x3) S y_4 (1 : Int32) x2 (0 : Int64)))))))
abbrev r_X2_mark : Room := { frames := 3, cells := 0, slots := 0, locals := 80 }
def wp_X2_mark (post : wS → Prop) (S : wS) (a0 : Nat) (x1 : Int32) (x2 : Int32) (x3 : Int32) (x4 : Int32) : Prop := wp_X2_mark_0 post S a0 x1 x2 x3 x4
set_option maxHeartbeats 4000000 in
set_option maxRecDepth 100000 in
theorem t_X2_mark_115 {p : Program} {l : Launch} {e : Env} {s : State} {m : MethodId} {args : Array Value} {below : List Frame} {meth : Method} {c : Code} {D : va_G} {cy : Nat → ClassId} {X : va_W} {A : Nat → Prop} {S0 : wS} {post : wS → Prop} (F : CallFix p m c cX2_mark 7 s args wz_X2_mark RX2) (hr : meth.sig.returnType = none) (hlocks : meth.locks = false) (hK : wK D cy s) : ∀ {S : wS} {H : Heap} {locs : List Loc} {ls : Array Slot} {b0 : Nat} {t1 : Int32} {t2 : Int32} {t3 : Int32}, wp_X2_mark_115 post S b0 t1 t2 t3 → wO D cy X A s.heap S H locs → wX S0 S → lv_has ls 7 [] → b0 ∈ sL S → sK S b0 = 7 → W p l e r_X2_mark s m args below meth c H locs 0 0 (MQ below (va_Qv (fun S9 => wX S0 S9 ∧ post S9) (wB D cy X A) A) args s 0 0 A) (F0 m 115 ls [.int t3, .int t2, .int t1, .ref b0]) := by
  obtain ⟨hx, hb, hml, hown, hts⟩ := id F
  have hwg : ∀ w ∈ WG, w.before args s = true := fun w h => hts w (List.mem_cons_of_mem _ h)
  intro S H locs ls b0 t1 t2 t3 hp hW hE hl hL_b0 hK_b0
  unfold wp_X2_mark_115 at hp
  refine w_callV (va_runV (As := [.int t1, .int t2, .int t3]) (rest := []) F (c_X2_setValue l hL_b0 hK_b0 hp H.size) (cwV (C := RX2) 3 hts (wg_V wm_RX2_142 wy_X2_setValue) rfl rfl rfl (by decide +kernel) ⟨Nat.le_of_ble_eq_true rfl, Nat.le_of_ble_eq_true rfl⟩) (w_preV hK hW hL_b0 hK_b0 (by decide) rfl) rfl rfl hl.1 rfl (lv_room (Nat.le_of_ble_eq_true rfl)) dX2_mark_115 ⟨Nat.le_of_ble_eq_true rfl, Nat.le_of_ble_eq_true rfl⟩) hW (fun S_2 H locs hp hW => ?_)
  obtain ⟨hX_S_2, hp⟩ := hp
  refine W.widen (k := 0) (n := 0) (Nat.le_refl 0) (Nat.le_refl 0) ?_
  have hE := hE.trans hX_S_2
  exact w_vret hx hb hr hlocks hK hW ⟨hE, hp⟩ dX2_mark_118
set_option maxHeartbeats 4000000 in
set_option maxRecDepth 100000 in
theorem t_X2_mark_113 {p : Program} {l : Launch} {e : Env} {s : State} {m : MethodId} {args : Array Value} {below : List Frame} {meth : Method} {c : Code} {D : va_G} {cy : Nat → ClassId} {X : va_W} {A : Nat → Prop} {S0 : wS} {post : wS → Prop} (F : CallFix p m c cX2_mark 7 s args wz_X2_mark RX2) (hr : meth.sig.returnType = none) (hlocks : meth.locks = false) (hK : wK D cy s) : ∀ {S : wS} {H : Heap} {locs : List Loc} {ls : Array Slot} {b0 : Nat} {t1 : Int32} {t2 : Int32}, wp_X2_mark_113 post S b0 t1 t2 → wO D cy X A s.heap S H locs → wX S0 S → lv_has ls 7 [] → b0 ∈ sL S → sK S b0 = 7 → W p l e r_X2_mark s m args below meth c H locs 0 0 (MQ below (va_Qv (fun S9 => wX S0 S9 ∧ post S9) (wB D cy X A) A) args s 0 0 A) (F0 m 113 ls [.int t2, .int t1, .ref b0]) := by
  obtain ⟨hx, hb, hml, hown, hts⟩ := id F
  have hwg : ∀ w ∈ WG, w.before args s = true := fun w h => hts w (List.mem_cons_of_mem _ h)
  intro S H locs ls b0 t1 t2 hp hW hE hl hL_b0 hK_b0
  unfold wp_X2_mark_113 at hp
  refine lv_bipush (v := (-2)) hx hb dX2_mark_113 (by decide) ?_
  exact t_X2_mark_115 F hr hlocks hK hp hW hE (lv_sub hl [] rfl) hL_b0 hK_b0
set_option maxHeartbeats 4000000 in
set_option maxRecDepth 100000 in
theorem t_X2_mark_86 {p : Program} {l : Launch} {e : Env} {s : State} {m : MethodId} {args : Array Value} {below : List Frame} {meth : Method} {c : Code} {D : va_G} {cy : Nat → ClassId} {X : va_W} {A : Nat → Prop} {S0 : wS} {post : wS → Prop} (F : CallFix p m c cX2_mark 7 s args wz_X2_mark RX2) (hr : meth.sig.returnType = none) (hlocks : meth.locks = false) (hK : wK D cy s) : ∀ {S : wS} {H : Heap} {locs : List Loc} {ls : Array Slot} {a0 : Nat} {x1 : Int32} {x2 : Int32} {x3 : Int32} {x4 : Int32} {x5 : Int32} {x6 : Int32} {b0 : Nat} {t1 : Int32} {t2 : Int32} {t3 : Int32}, wp_X2_mark_86 post S a0 x1 x2 x3 x4 x5 x6 b0 t1 t2 t3 → wO D cy X A s.heap S H locs → wX S0 S → lv_has ls 7 [(0, .ref a0), (1, .int x1), (2, .int x2), (3, .int x3), (4, .int x4), (5, .int x5), (6, .int x6)] → a0 ∈ sL S → sK S a0 = 7 → b0 ∈ sL S → sK S b0 = 7 → W p l e r_X2_mark s m args below meth c H locs 0 0 (MQ below (va_Qv (fun S9 => wX S0 S9 ∧ post S9) (wB D cy X A) A) args s 0 0 A) (F0 m 86 ls [.int t3, .int t2, .int t1, .ref b0]) := by
  obtain ⟨hx, hb, hml, hown, hts⟩ := id F
  have hwg : ∀ w ∈ WG, w.before args s = true := fun w h => hts w (List.mem_cons_of_mem _ h)
  intro S H locs ls a0 x1 x2 x3 x4 x5 x6 b0 t1 t2 t3 hp hW hE hl hL_a0 hK_a0 hL_b0 hK_b0
  unfold wp_X2_mark_86 at hp
  refine w_callV (va_runV (As := [.int t1, .int t2, .int t3]) (rest := []) F (c_X2_setValue l hL_b0 hK_b0 hp H.size) (cwV (C := RX2) 3 hts (wg_V wm_RX2_142 wy_X2_setValue) rfl rfl rfl (by decide +kernel) ⟨Nat.le_of_ble_eq_true rfl, Nat.le_of_ble_eq_true rfl⟩) (w_preV hK hW hL_b0 hK_b0 (by decide) rfl) rfl rfl hl.1 rfl (lv_room (Nat.le_of_ble_eq_true rfl)) dX2_mark_86 ⟨Nat.le_of_ble_eq_true rfl, Nat.le_of_ble_eq_true rfl⟩) hW (fun S_2 H locs hp hW => ?_)
  obtain ⟨hX_S_2, hp⟩ := hp
  refine W.widen (k := 0) (n := 0) (Nat.le_refl 0) (Nat.le_refl 0) ?_
  have hE := hE.trans hX_S_2
  have hK_a0 : sK S_2 a0 = 7 := (hX_S_2 a0 hL_a0).2.1.trans hK_a0
  have hL_a0 : a0 ∈ sL S_2 := (hX_S_2 a0 hL_a0).1
  refine lv_aload_n hx hb dX2_mark_89 rfl (lv_at hl 0 rfl) ?_
  refine lv_iload_n hx hb dX2_mark_90 rfl (lv_at hl 1 rfl) ?_
  refine lv_iconst (v := 1) hx hb dX2_mark_91 (by decide) ?_
  refine lv_iload_n hx hb dX2_mark_92 rfl (lv_at hl 2 rfl) ?_
  refine lv_iload_n hx hb dX2_mark_93 rfl (lv_at hl 3 rfl) ?_
  refine lv_iload hx hb dX2_mark_94 (lv_at hl 4 rfl) ?_
  refine w_callI (va_runS (As := [.int (1 : Int32), .int x2, .int x3, .int x4]) (rest := [.int x1, .ref a0]) F (c_X2_indexOf l hp H.size) (va_cwS 4 hts (wg_S wm_RX2_96 wy_X2_indexOf) rfl rfl rfl (by decide +kernel) ⟨Nat.le_of_ble_eq_true rfl, Nat.le_of_ble_eq_true rfl⟩) (w_preS hK hW) rfl rfl hl.1 rfl (lv_room (Nat.le_of_ble_eq_true rfl)) dX2_mark_96 ⟨Nat.le_of_ble_eq_true rfl, Nat.le_of_ble_eq_true rfl⟩) hW (fun r_3 S_4 H locs hp hW => ?_)
  obtain ⟨hX_S_4, hp⟩ := hp
  refine W.widen (k := 0) (n := 0) (Nat.le_refl 0) (Nat.le_refl 0) ?_
  have hE := hE.trans hX_S_4
  have hK_a0 : sK S_4 a0 = 7 := (hX_S_4 a0 hL_a0).2.1.trans hK_a0
  have hL_a0 : a0 ∈ sL S_4 := (hX_S_4 a0 hL_a0).1
  refine lv_iload hx hb dX2_mark_99 (lv_at hl 5 rfl) ?_
  refine lv_if_eq (tgt := 113) hx hb dX2_mark_101 (by decide) (fun c_5 => ?_) (fun c_5 => ?_)
  · replace hp := hp.1 c_5
    exact t_X2_mark_113 F hr hlocks hK hp hW hE (lv_sub hl [] rfl) hL_a0 hK_a0
  · replace hp := hp.2 c_5
    refine lv_iload hx hb dX2_mark_104 (lv_at hl 6 rfl) ?_
    refine lv_if_ne (tgt := 113) hx hb dX2_mark_106 (by decide) (fun c_6 => ?_) (fun c_6 => ?_)
    · replace hp := hp.1 c_6
      exact t_X2_mark_113 F hr hlocks hK hp hW hE (lv_sub hl [] rfl) hL_a0 hK_a0
    · replace hp := hp.2 c_6
      refine lv_iconst (v := (-1)) hx hb dX2_mark_109 (by decide) ?_
      refine lv_goto (tgt := 115) hx hb dX2_mark_110 (by decide) ?_
      exact t_X2_mark_115 F hr hlocks hK hp hW hE (lv_sub hl [] rfl) hL_a0 hK_a0
set_option maxHeartbeats 4000000 in
set_option maxRecDepth 100000 in
theorem t_X2_mark_63 {p : Program} {l : Launch} {e : Env} {s : State} {m : MethodId} {args : Array Value} {below : List Frame} {meth : Method} {c : Code} {D : va_G} {cy : Nat → ClassId} {X : va_W} {A : Nat → Prop} {S0 : wS} {post : wS → Prop} (F : CallFix p m c cX2_mark 7 s args wz_X2_mark RX2) (hr : meth.sig.returnType = none) (hlocks : meth.locks = false) (hK : wK D cy s) : ∀ {S : wS} {H : Heap} {locs : List Loc} {ls : Array Slot} {a0 : Nat} {x1 : Int32} {x2 : Int32} {x3 : Int32} {x4 : Int32} {x5 : Int32} {t0 : Int32}, wp_X2_mark_63 post S a0 x1 x2 x3 x4 x5 t0 → wO D cy X A s.heap S H locs → wX S0 S → lv_has ls 7 [(0, .ref a0), (1, .int x1), (2, .int x2), (3, .int x3), (4, .int x4), (5, .int x5)] → a0 ∈ sL S → sK S a0 = 7 → W p l e r_X2_mark s m args below meth c H locs 0 0 (MQ below (va_Qv (fun S9 => wX S0 S9 ∧ post S9) (wB D cy X A) A) args s 0 0 A) (F0 m 63 ls [.int t0]) := by
  obtain ⟨hx, hb, hml, hown, hts⟩ := id F
  have hwg : ∀ w ∈ WG, w.before args s = true := fun w h => hts w (List.mem_cons_of_mem _ h)
  intro S H locs ls a0 x1 x2 x3 x4 x5 t0 hp hW hE hl hL_a0 hK_a0
  unfold wp_X2_mark_63 at hp
  refine lv_istore (lv' := [(6, .int t0), (0, .ref a0), (1, .int x1), (2, .int x2), (3, .int x3), (4, .int x4), (5, .int x5)]) hx hb dX2_mark_63 hl (by decide) rfl (fun ls hl => ?_)
  refine lv_aload_n hx hb dX2_mark_65 rfl (lv_at hl 1 rfl) ?_
  refine lv_iload_n hx hb dX2_mark_66 rfl (lv_at hl 2 rfl) ?_
  refine lv_iconst (v := 0) hx hb dX2_mark_67 (by decide) ?_
  refine lv_iload_n hx hb dX2_mark_68 rfl (lv_at hl 3 rfl) ?_
  refine lv_iload_n hx hb dX2_mark_69 rfl (lv_at hl 4 rfl) ?_
  refine lv_iload hx hb dX2_mark_70 (lv_at hl 5 rfl) ?_
  refine w_callI (va_runS (As := [.int (0 : Int32), .int x2, .int x3, .int x4]) (rest := [.int x1, .ref a0]) F (c_X2_indexOf l hp H.size) (va_cwS 4 hts (wg_S wm_RX2_96 wy_X2_indexOf) rfl rfl rfl (by decide +kernel) ⟨Nat.le_of_ble_eq_true rfl, Nat.le_of_ble_eq_true rfl⟩) (w_preS hK hW) rfl rfl hl.1 rfl (lv_room (Nat.le_of_ble_eq_true rfl)) dX2_mark_72 ⟨Nat.le_of_ble_eq_true rfl, Nat.le_of_ble_eq_true rfl⟩) hW (fun r_1 S_2 H locs hp hW => ?_)
  obtain ⟨hX_S_2, hp⟩ := hp
  refine W.widen (k := 0) (n := 0) (Nat.le_refl 0) (Nat.le_refl 0) ?_
  have hE := hE.trans hX_S_2
  have hK_a0 : sK S_2 a0 = 7 := (hX_S_2 a0 hL_a0).2.1.trans hK_a0
  have hL_a0 : a0 ∈ sL S_2 := (hX_S_2 a0 hL_a0).1
  refine lv_iload hx hb dX2_mark_75 (lv_at hl 6 rfl) ?_
  refine lv_if_eq (tgt := 84) hx hb dX2_mark_77 (by decide) (fun c_3 => ?_) (fun c_3 => ?_)
  · replace hp := hp.1 c_3
    refine lv_bipush (v := (-2)) hx hb dX2_mark_84 (by decide) ?_
    exact t_X2_mark_86 F hr hlocks hK hp hW hE (lv_sub hl [1, 2, 3, 4, 5, 6, 0] rfl) hL_a0 hK_a0 hL_a0 hK_a0
  · replace hp := hp.2 c_3
    refine lv_iconst (v := (-1)) hx hb dX2_mark_80 (by decide) ?_
    refine lv_goto (tgt := 86) hx hb dX2_mark_81 (by decide) ?_
    exact t_X2_mark_86 F hr hlocks hK hp hW hE (lv_sub hl [1, 2, 3, 4, 5, 6, 0] rfl) hL_a0 hK_a0 hL_a0 hK_a0
set_option maxHeartbeats 4000000 in
set_option maxRecDepth 100000 in
theorem t_X2_mark_62 {p : Program} {l : Launch} {e : Env} {s : State} {m : MethodId} {args : Array Value} {below : List Frame} {meth : Method} {c : Code} {D : va_G} {cy : Nat → ClassId} {X : va_W} {A : Nat → Prop} {S0 : wS} {post : wS → Prop} (F : CallFix p m c cX2_mark 7 s args wz_X2_mark RX2) (hr : meth.sig.returnType = none) (hlocks : meth.locks = false) (hK : wK D cy s) : ∀ {S : wS} {H : Heap} {locs : List Loc} {ls : Array Slot} {a0 : Nat} {x1 : Int32} {x2 : Int32} {x3 : Int32} {x4 : Int32} {x5 : Int32}, wp_X2_mark_62 post S a0 x1 x2 x3 x4 x5 → wO D cy X A s.heap S H locs → wX S0 S → lv_has ls 7 [(0, .ref a0), (1, .int x1), (2, .int x2), (3, .int x3), (4, .int x4), (5, .int x5)] → a0 ∈ sL S → sK S a0 = 7 → W p l e r_X2_mark s m args below meth c H locs 0 0 (MQ below (va_Qv (fun S9 => wX S0 S9 ∧ post S9) (wB D cy X A) A) args s 0 0 A) (F0 m 62 ls []) := by
  obtain ⟨hx, hb, hml, hown, hts⟩ := id F
  have hwg : ∀ w ∈ WG, w.before args s = true := fun w h => hts w (List.mem_cons_of_mem _ h)
  intro S H locs ls a0 x1 x2 x3 x4 x5 hp hW hE hl hL_a0 hK_a0
  unfold wp_X2_mark_62 at hp
  refine lv_iconst (v := 0) hx hb dX2_mark_62 (by decide) ?_
  exact t_X2_mark_63 F hr hlocks hK hp hW hE (lv_sub hl [0, 1, 2, 3, 4, 5] rfl) hL_a0 hK_a0
set_option maxHeartbeats 4000000 in
set_option maxRecDepth 100000 in
theorem t_X2_mark_39 {p : Program} {l : Launch} {e : Env} {s : State} {m : MethodId} {args : Array Value} {below : List Frame} {meth : Method} {c : Code} {D : va_G} {cy : Nat → ClassId} {X : va_W} {A : Nat → Prop} {S0 : wS} {post : wS → Prop} (F : CallFix p m c cX2_mark 7 s args wz_X2_mark RX2) (hr : meth.sig.returnType = none) (hlocks : meth.locks = false) (hK : wK D cy s) : ∀ {S : wS} {H : Heap} {locs : List Loc} {ls : Array Slot} {a0 : Nat} {x1 : Int32} {x2 : Int32} {x3 : Int32} {x4 : Int32} {t0 : Int32}, wp_X2_mark_39 post S a0 x1 x2 x3 x4 t0 → wO D cy X A s.heap S H locs → wX S0 S → lv_has ls 7 [(0, .ref a0), (1, .int x1), (2, .int x2), (3, .int x3), (4, .int x4)] → a0 ∈ sL S → sK S a0 = 7 → W p l e r_X2_mark s m args below meth c H locs 0 0 (MQ below (va_Qv (fun S9 => wX S0 S9 ∧ post S9) (wB D cy X A) A) args s 0 0 A) (F0 m 39 ls [.int t0]) := by
  obtain ⟨hx, hb, hml, hown, hts⟩ := id F
  have hwg : ∀ w ∈ WG, w.before args s = true := fun w h => hts w (List.mem_cons_of_mem _ h)
  intro S H locs ls a0 x1 x2 x3 x4 t0 hp hW hE hl hL_a0 hK_a0
  unfold wp_X2_mark_39 at hp
  refine lv_istore (lv' := [(5, .int t0), (0, .ref a0), (1, .int x1), (2, .int x2), (3, .int x3), (4, .int x4)]) hx hb dX2_mark_39 hl (by decide) rfl (fun ls hl => ?_)
  refine lv_iload hx hb dX2_mark_41 (lv_at hl 0 rfl) ?_
  refine lv_if_eq (tgt := 62) hx hb dX2_mark_43 (by decide) (fun c_1 => ?_) (fun c_1 => ?_)
  · replace hp := hp.1 c_1
    exact t_X2_mark_62 F hr hlocks hK hp hW hE (lv_sub hl [1, 2, 3, 4, 5, 0] rfl) hL_a0 hK_a0
  · replace hp := hp.2 c_1
    refine lv_aload_n hx hb dX2_mark_46 rfl (lv_at hl 1 rfl) ?_
    refine lv_iload_n hx hb dX2_mark_47 rfl (lv_at hl 2 rfl) ?_
    refine lv_iload_n hx hb dX2_mark_48 rfl (lv_at hl 3 rfl) ?_
    refine lv_iload_n hx hb dX2_mark_49 rfl (lv_at hl 4 rfl) ?_
    refine lv_iload hx hb dX2_mark_50 (lv_at hl 5 rfl) ?_
    refine w_callI (va_runV (As := [.int x1, .int x2, .int x3, .int x4]) (rest := []) F (c_X2_isChecking l hL_a0 hK_a0 hp H.size) (cwV (C := RX2) 4 hts (wg_V wm_RX2_138 wy_X2_isChecking) rfl rfl rfl (by decide +kernel) ⟨Nat.le_of_ble_eq_true rfl, Nat.le_of_ble_eq_true rfl⟩) (w_preV hK hW hL_a0 hK_a0 (by decide) rfl) rfl rfl hl.1 rfl (lv_room (Nat.le_of_ble_eq_true rfl)) dX2_mark_52 ⟨Nat.le_of_ble_eq_true rfl, Nat.le_of_ble_eq_true rfl⟩) hW (fun r_2 S_3 H locs hp hW => ?_)
    obtain ⟨hX_S_3, hp⟩ := hp
    refine W.widen (k := 0) (n := 0) (Nat.le_refl 0) (Nat.le_refl 0) ?_
    have hE := hE.trans hX_S_3
    have hK_a0 : sK S_3 a0 = 7 := (hX_S_3 a0 hL_a0).2.1.trans hK_a0
    have hL_a0 : a0 ∈ sL S_3 := (hX_S_3 a0 hL_a0).1
    refine lv_if_eq (tgt := 62) hx hb dX2_mark_55 (by decide) (fun c_4 => ?_) (fun c_4 => ?_)
    · replace hp := hp.1 c_4
      exact t_X2_mark_62 F hr hlocks hK hp hW hE (lv_sub hl [1, 2, 3, 4, 5, 0] rfl) hL_a0 hK_a0
    · replace hp := hp.2 c_4
      refine lv_iconst (v := 1) hx hb dX2_mark_58 (by decide) ?_
      refine lv_goto (tgt := 63) hx hb dX2_mark_59 (by decide) ?_
      exact t_X2_mark_63 F hr hlocks hK hp hW hE (lv_sub hl [1, 2, 3, 4, 5, 0] rfl) hL_a0 hK_a0
set_option maxHeartbeats 4000000 in
set_option maxRecDepth 100000 in
theorem t_X2_mark_38 {p : Program} {l : Launch} {e : Env} {s : State} {m : MethodId} {args : Array Value} {below : List Frame} {meth : Method} {c : Code} {D : va_G} {cy : Nat → ClassId} {X : va_W} {A : Nat → Prop} {S0 : wS} {post : wS → Prop} (F : CallFix p m c cX2_mark 7 s args wz_X2_mark RX2) (hr : meth.sig.returnType = none) (hlocks : meth.locks = false) (hK : wK D cy s) : ∀ {S : wS} {H : Heap} {locs : List Loc} {ls : Array Slot} {a0 : Nat} {x1 : Int32} {x2 : Int32} {x3 : Int32} {x4 : Int32}, wp_X2_mark_38 post S a0 x1 x2 x3 x4 → wO D cy X A s.heap S H locs → wX S0 S → lv_has ls 7 [(0, .ref a0), (1, .int x1), (2, .int x2), (3, .int x3), (4, .int x4)] → a0 ∈ sL S → sK S a0 = 7 → W p l e r_X2_mark s m args below meth c H locs 0 0 (MQ below (va_Qv (fun S9 => wX S0 S9 ∧ post S9) (wB D cy X A) A) args s 0 0 A) (F0 m 38 ls []) := by
  obtain ⟨hx, hb, hml, hown, hts⟩ := id F
  have hwg : ∀ w ∈ WG, w.before args s = true := fun w h => hts w (List.mem_cons_of_mem _ h)
  intro S H locs ls a0 x1 x2 x3 x4 hp hW hE hl hL_a0 hK_a0
  unfold wp_X2_mark_38 at hp
  refine lv_iconst (v := 0) hx hb dX2_mark_38 (by decide) ?_
  exact t_X2_mark_39 F hr hlocks hK hp hW hE (lv_sub hl [0, 1, 2, 3, 4] rfl) hL_a0 hK_a0
set_option maxHeartbeats 4000000 in
set_option maxRecDepth 100000 in
theorem t_X2_mark_0 {p : Program} {l : Launch} {e : Env} {s : State} {m : MethodId} {args : Array Value} {below : List Frame} {meth : Method} {c : Code} {D : va_G} {cy : Nat → ClassId} {X : va_W} {A : Nat → Prop} {S0 : wS} {post : wS → Prop} (F : CallFix p m c cX2_mark 7 s args wz_X2_mark RX2) (hr : meth.sig.returnType = none) (hlocks : meth.locks = false) (hK : wK D cy s) : ∀ {S : wS} {H : Heap} {locs : List Loc} {ls : Array Slot} {a0 : Nat} {x1 : Int32} {x2 : Int32} {x3 : Int32} {x4 : Int32}, wp_X2_mark_0 post S a0 x1 x2 x3 x4 → wO D cy X A s.heap S H locs → wX S0 S → lv_has ls 7 [(0, .ref a0), (1, .int x1), (2, .int x2), (3, .int x3), (4, .int x4)] → a0 ∈ sL S → sK S a0 = 7 → W p l e r_X2_mark s m args below meth c H locs 0 0 (MQ below (va_Qv (fun S9 => wX S0 S9 ∧ post S9) (wB D cy X A) A) args s 0 0 A) (F0 m 0 ls []) := by
  obtain ⟨hx, hb, hml, hown, hts⟩ := id F
  have hwg : ∀ w ∈ WG, w.before args s = true := fun w h => hts w (List.mem_cons_of_mem _ h)
  have i_7 : ∀ w ∈ u_ws RX2 TX2 8, w ∈ wz_X2_mark := fun w h => List.mem_cons_of_mem _ (wu_7 w h)
  have k_35 := hwg _ wf_RX2_35
  intro S H locs ls a0 x1 x2 x3 x4 hp hW hE hl hL_a0 hK_a0
  unfold wp_X2_mark_0 at hp
  refine lv_iload_n hx hb dX2_mark_0 rfl (lv_at hl 2 rfl) ?_
  refine lv_iload_n hx hb dX2_mark_1 rfl (lv_at hl 3 rfl) ?_
  refine lv_icmp_eq (tgt := 38) hx hb dX2_mark_2 (by decide) (fun c_1 => ?_) (fun c_1 => ?_)
  · replace hp := hp.1 c_1
    exact t_X2_mark_38 F hr hlocks hK hp hW hE (lv_sub hl [0, 1, 2, 3, 4] rfl) hL_a0 hK_a0
  · replace hp := hp.2 c_1
    refine lv_iload_n hx hb dX2_mark_5 rfl (lv_at hl 2 rfl) ?_
    refine lv_iload hx hb dX2_mark_6 (lv_at hl 4 rfl) ?_
    refine lv_icmp_eq (tgt := 38) hx hb dX2_mark_8 (by decide) (fun c_2 => ?_) (fun c_2 => ?_)
    · replace hp := hp.1 c_2
      exact t_X2_mark_38 F hr hlocks hK hp hW hE (lv_sub hl [0, 1, 2, 3, 4] rfl) hL_a0 hK_a0
    · replace hp := hp.2 c_2
      refine lv_iload_n hx hb dX2_mark_11 rfl (lv_at hl 3 rfl) ?_
      refine lv_iload hx hb dX2_mark_12 (lv_at hl 4 rfl) ?_
      refine lv_icmp_eq (tgt := 38) hx hb dX2_mark_14 (by decide) (fun c_3 => ?_) (fun c_3 => ?_)
      · replace hp := hp.1 c_3
        exact t_X2_mark_38 F hr hlocks hK hp hW hE (lv_sub hl [0, 1, 2, 3, 4] rfl) hL_a0 hK_a0
      · replace hp := hp.2 c_3
        refine lv_aload_n hx hb dX2_mark_17 rfl (lv_at hl 0 rfl) ?_
        obtain ⟨y_4, ey_4, hL_y_4, hK_y_4, hp⟩ := hp
        refine w_get (k := 7) (f := 0) (T := TX2) (v := .ref y_4) F hK hW hL_a0 hK_a0 (by decide) rfl rfl (by decide) i_7 k_35 (by rw [show wv 7 0 S a0 = va_rf (sR S a0 0) from rfl, ey_4]; rfl) dX2_mark_18 ?_
        refine lv_iconst (v := 1) hx hb dX2_mark_21 (by decide) ?_
        refine lv_iload_n hx hb dX2_mark_22 rfl (lv_at hl 2 rfl) ?_
        refine lv_lconst (v := 0) hx hb dX2_mark_23 (by decide) ?_
        refine w_callJ (va_runV (As := [.int (1 : Int32), .int x2, .long (0 : Int64)]) (rest := []) F (c_X0_reach l hL_y_4 hK_y_4 hp H.size) (cwV (C := RX0) 3 hts (wg_V wm_RX2_130 wy_X0_reach) rfl rfl rfl (by decide +kernel) ⟨Nat.le_of_ble_eq_true rfl, Nat.le_of_ble_eq_true rfl⟩) (w_preV hK hW hL_y_4 hK_y_4 (by decide) rfl) rfl rfl hl.1 rfl (lv_room (Nat.le_of_ble_eq_true rfl)) dX2_mark_24 ⟨Nat.le_of_ble_eq_true rfl, Nat.le_of_ble_eq_true rfl⟩) hW (fun r_5 S_6 H locs hp hW => ?_)
        obtain ⟨hX_S_6, hp⟩ := hp
        refine W.widen (k := 0) (n := 0) (Nat.le_refl 0) (Nat.le_refl 0) ?_
        have hE := hE.trans hX_S_6
        have hK_a0 : sK S_6 a0 = 7 := (hX_S_6 a0 hL_a0).2.1.trans hK_a0
        have hL_a0 : a0 ∈ sL S_6 := (hX_S_6 a0 hL_a0).1
        refine lv_iload_n hx hb dX2_mark_27 rfl (lv_at hl 3 rfl) ?_
        refine w_callI (va_runSN (As := [.long r_5, .int x3]) (rest := []) F (c_X11_contains l hp H.size) ⟨va_cnB (host := "OpeningsCabinet") 2 hts (wg_cons wy_X11_contains.2.2) rfl rfl rfl (hK.2 (.methodLinkNest "OpeningsCabinet$Endings" 134 ⟨"OpeningsCabinet", "contains", "(JI)Z"⟩ "OpeningsCabinet") (by decide +kernel)) (hwg _ wy_X11_contains.2.1) ⟨by decide, by decide, by decide +kernel⟩ ⟨Nat.le_of_ble_eq_true rfl, Nat.le_of_ble_eq_true rfl⟩, hwg _ wy_X11_contains.1, trivial⟩ (w_preS hK hW) rfl rfl hl.1 rfl (lv_room (Nat.le_of_ble_eq_true rfl)) dX2_mark_28 ⟨Nat.le_of_ble_eq_true rfl, Nat.le_of_ble_eq_true rfl⟩) hW (fun r_7 S_8 H locs hp hW => ?_)
        obtain ⟨hX_S_8, hp⟩ := hp
        refine W.widen (k := 0) (n := 0) (Nat.le_refl 0) (Nat.le_refl 0) ?_
        have hE := hE.trans hX_S_8
        have hK_a0 : sK S_8 a0 = 7 := (hX_S_8 a0 hL_a0).2.1.trans hK_a0
        have hL_a0 : a0 ∈ sL S_8 := (hX_S_8 a0 hL_a0).1
        refine lv_if_ne (tgt := 38) hx hb dX2_mark_31 (by decide) (fun c_9 => ?_) (fun c_9 => ?_)
        · replace hp := hp.1 c_9
          exact t_X2_mark_38 F hr hlocks hK hp hW hE (lv_sub hl [0, 1, 2, 3, 4] rfl) hL_a0 hK_a0
        · replace hp := hp.2 c_9
          refine lv_iconst (v := 1) hx hb dX2_mark_34 (by decide) ?_
          refine lv_goto (tgt := 39) hx hb dX2_mark_35 (by decide) ?_
          exact t_X2_mark_39 F hr hlocks hK hp hW hE (lv_sub hl [0, 1, 2, 3, 4] rfl) hL_a0 hK_a0
set_option maxHeartbeats 4000000 in
set_option maxRecDepth 100000 in
theorem c_X2_mark (l : Launch) {D : va_G} {cy : Nat → ClassId} {X : va_W} {S0 : wS} {post : wS → Prop} {a0 : Nat} {x1 : Int32} {x2 : Int32} {x3 : Int32} {x4 : Int32} (hL_a0 : a0 ∈ sL S0) (hK_a0 : sK S0 a0 = 7) (hp : wp_X2_mark post S0 a0 x1 x2 x3 x4) : mV D cy X l yX2_mark wz_X2_mark r_X2_mark [.ref a0, .int x1, .int x2, .int x3, .int x4] S0 (fun S9 => wX S0 S9 ∧ post S9) := by
  intro sz
  refine Met.ofW (cc := cX2_mark) (maxL := 7) (ret := none) (by decide) rfl ?_
  intro p e s m args below meth c s₁ B hml hv
  obtain ⟨rfl, hsz, hP, hK, hD0⟩ := hv
  have hts := atoms_spec (ws := wz_X2_mark) B.pre
  have hown : s.vm.findClass RX2 = some m.cls := findClass_of_methodNamed B.named
  subst hsz
  have hD := hD0.self (sz := s.heap.size)
  have F : CallFix p m c cX2_mark 7 s _ wz_X2_mark RX2 := ⟨B.exec, B.bytes, hml, hown, hts⟩
  have hr := B.returns
  have hlocks := B.notSynchronized
  generalize hAe : va_A (wL cy X S0) s.heap.size = A at hD ⊢
  have hA : ∀ q, s.heap.size ≤ q → A q := fun q h => by rw [← hAe]; exact Or.inr h
  have hW : wO D cy X A s.heap S0 s.heap [] := ⟨hP, hD, va_S.rf, hA⟩
  have hl := lv_entry ([.ref a0, .int x1, .int x2, .int x3, .int x4]) (n := 7) (Nat.le_of_ble_eq_true rfl)
  rw [lg_entry_eq]
  generalize (lg_sl ([.ref a0, .int x1, .int x2, .int x3, .int x4]) ++ List.replicate (7 - (lg_sl ([.ref a0, .int x1, .int x2, .int x3, .int x4])).length) Slot.unset).toArray = ls at hl ⊢
  have hl : lv_has ls 7 [(0, .ref a0), (1, .int x1), (2, .int x2), (3, .int x3), (4, .int x4)] := hl
  unfold wp_X2_mark at hp
  exact t_X2_mark_0 F hr hlocks hK hp hW wX.rf (lv_sub hl [0, 1, 2, 3, 4] rfl) hL_a0 hK_a0
def wp_X2_forEachPlace_69 (post : wS → Prop) (k_16 : wS → Nat → Int32 → Int32 → Int32 → Int32 → Prop) (k_25 : wS → Nat → Int32 → Int32 → Int32 → Int32 → Int32 → Prop) (k_34 : wS → Nat → Int32 → Int32 → Int32 → Int32 → Int32 → Int32 → Prop) (S : wS) (a0 : Nat) (x1 : Int32) (x2 : Int32) (x3 : Int32) (x4 : Int32) (x5 : Int32) (x6 : Int32) : Prop :=
∀ x_1 : Int32, x_1 = x6 + 1 →
k_34 S a0 x1 x2 x3 x4 x5 x_1
def wp_X2_forEachPlace_34 (post : wS → Prop) (k_16 : wS → Nat → Int32 → Int32 → Int32 → Int32 → Prop) (k_25 : wS → Nat → Int32 → Int32 → Int32 → Int32 → Int32 → Prop) : Nat → wS → Nat → Int32 → Int32 → Int32 → Int32 → Int32 → Int32 → Prop
  | 0, _, _, _, _, _, _, _, _ => False
  | n + 1, S, a0, x1, x2, x3, x4, x5, x6 =>
    ((x3 ≤ x6 → ∀ x_2 : Int32, x_2 = x5 + 1 →
    k_25 S a0 x1 x2 x3 x4 x_2) ∧
     (¬ x3 ≤ x6 → ((x2 = 0 → wp_X2_countMovesOfBlack (fun S_5 => 
    wp_X2_forEachPlace_69 post k_16 k_25 (wp_X2_forEachPlace_34 post k_16 k_25 n) S_5 a0 x1 x2 x3 x4 x5 x6) S a0 x1 x4 x5 x6) ∧
     (¬ x2 = 0 → wp_X2_mark (fun S_7 => 
    wp_X2_forEachPlace_69 post k_16 k_25 (wp_X2_forEachPlace_34 post k_16 k_25 n) S_7 a0 x1 x2 x3 x4 x5 x6) S a0 x1 x4 x5 x6))))
def wp_X2_forEachPlace_25 (post : wS → Prop) (k_16 : wS → Nat → Int32 → Int32 → Int32 → Int32 → Prop) : Nat → wS → Nat → Int32 → Int32 → Int32 → Int32 → Int32 → Prop
  | 0, _, _, _, _, _, _, _ => False
  | n + 1, S, a0, x1, x2, x3, x4, x5 =>
    ((x3 ≤ x5 → ∀ x_2 : Int32, x_2 = x4 + 1 →
    k_16 S a0 x1 x2 x3 x_2) ∧
     (¬ x3 ≤ x5 → ∃ n_3 : Nat, wp_X2_forEachPlace_34 post k_16 (wp_X2_forEachPlace_25 post k_16 n) n_3 S a0 x1 x2 x3 x4 x5 (0 : Int32)))
def wp_X2_forEachPlace_16 (post : wS → Prop)  : Nat → wS → Nat → Int32 → Int32 → Int32 → Int32 → Prop
  | 0, _, _, _, _, _, _ => False
  | n + 1, S, a0, x1, x2, x3, x4 =>
    ((x3 ≤ x4 → post S) ∧
     (¬ x3 ≤ x4 → ∃ n_2 : Nat, wp_X2_forEachPlace_25 post (wp_X2_forEachPlace_16 post n) n_2 S a0 x1 x2 x3 x4 (0 : Int32)))
def wp_X2_forEachPlace_0 (post : wS → Prop)  (S : wS) (a0 : Nat) (x1 : Int32) (x2 : Int32) : Prop :=
∃ y_1 : Nat, sR S a0 0 = some y_1 ∧ y_1 ∈ sL S ∧ sK S y_1 = 5 ∧
∀ x_2 : Int32, x_2 = (if (25 : Int32) < (sI S y_1 2) then (25 : Int32) else (sI S y_1 2)) →
∃ n_3 : Nat, wp_X2_forEachPlace_16 post n_3 S a0 x1 x2 x_2 (0 : Int32)
abbrev r_X2_forEachPlace : Room := { frames := 4, cells := 0, slots := 0, locals := 109 }
def wp_X2_forEachPlace (post : wS → Prop) (S : wS) (a0 : Nat) (x1 : Int32) (x2 : Int32) : Prop := wp_X2_forEachPlace_0 post S a0 x1 x2
set_option maxHeartbeats 4000000 in
set_option maxRecDepth 100000 in
theorem t_X2_forEachPlace_69 {p : Program} {l : Launch} {e : Env} {s : State} {m : MethodId} {args : Array Value} {below : List Frame} {meth : Method} {c : Code} {D : va_G} {cy : Nat → ClassId} {X : va_W} {A : Nat → Prop} {S0 : wS} {post : wS → Prop} (F : CallFix p m c cX2_forEachPlace 7 s args wz_X2_forEachPlace RX2) (hr : meth.sig.returnType = none) (hlocks : meth.locks = false) (hK : wK D cy s) {k_16 : wS → Nat → Int32 → Int32 → Int32 → Int32 → Prop} (q_16 : ∀ {S : wS} {H : Heap} {locs : List Loc} {ls : Array Slot} {a0 : Nat} {x1 : Int32} {x2 : Int32} {x3 : Int32} {x4 : Int32}, k_16 S a0 x1 x2 x3 x4 → wO D cy X A s.heap S H locs → wX S0 S → lv_has ls 7 [(0, .ref a0), (1, .int x1), (2, .int x2), (3, .int x3), (4, .int x4)] → a0 ∈ sL S → sK S a0 = 7 → W p l e r_X2_forEachPlace s m args below meth c H locs 0 0 (MQ below (va_Qv (fun S9 => wX S0 S9 ∧ post S9) (wB D cy X A) A) args s 0 0 A) (F0 m 16 ls [])) {k_25 : wS → Nat → Int32 → Int32 → Int32 → Int32 → Int32 → Prop} (q_25 : ∀ {S : wS} {H : Heap} {locs : List Loc} {ls : Array Slot} {a0 : Nat} {x1 : Int32} {x2 : Int32} {x3 : Int32} {x4 : Int32} {x5 : Int32}, k_25 S a0 x1 x2 x3 x4 x5 → wO D cy X A s.heap S H locs → wX S0 S → lv_has ls 7 [(0, .ref a0), (1, .int x1), (2, .int x2), (3, .int x3), (4, .int x4), (5, .int x5)] → a0 ∈ sL S → sK S a0 = 7 → W p l e r_X2_forEachPlace s m args below meth c H locs 0 0 (MQ below (va_Qv (fun S9 => wX S0 S9 ∧ post S9) (wB D cy X A) A) args s 0 0 A) (F0 m 25 ls [])) {k_34 : wS → Nat → Int32 → Int32 → Int32 → Int32 → Int32 → Int32 → Prop} (q_34 : ∀ {S : wS} {H : Heap} {locs : List Loc} {ls : Array Slot} {a0 : Nat} {x1 : Int32} {x2 : Int32} {x3 : Int32} {x4 : Int32} {x5 : Int32} {x6 : Int32}, k_34 S a0 x1 x2 x3 x4 x5 x6 → wO D cy X A s.heap S H locs → wX S0 S → lv_has ls 7 [(0, .ref a0), (1, .int x1), (2, .int x2), (3, .int x3), (4, .int x4), (5, .int x5), (6, .int x6)] → a0 ∈ sL S → sK S a0 = 7 → W p l e r_X2_forEachPlace s m args below meth c H locs 0 0 (MQ below (va_Qv (fun S9 => wX S0 S9 ∧ post S9) (wB D cy X A) A) args s 0 0 A) (F0 m 34 ls [])) : ∀ {S : wS} {H : Heap} {locs : List Loc} {ls : Array Slot} {a0 : Nat} {x1 : Int32} {x2 : Int32} {x3 : Int32} {x4 : Int32} {x5 : Int32} {x6 : Int32}, wp_X2_forEachPlace_69 post k_16 k_25 k_34 S a0 x1 x2 x3 x4 x5 x6 → wO D cy X A s.heap S H locs → wX S0 S → lv_has ls 7 [(0, .ref a0), (1, .int x1), (2, .int x2), (3, .int x3), (4, .int x4), (5, .int x5), (6, .int x6)] → a0 ∈ sL S → sK S a0 = 7 → W p l e r_X2_forEachPlace s m args below meth c H locs 0 0 (MQ below (va_Qv (fun S9 => wX S0 S9 ∧ post S9) (wB D cy X A) A) args s 0 0 A) (F0 m 69 ls []) := by
  obtain ⟨hx, hb, hml, hown, hts⟩ := id F
  have hwg : ∀ w ∈ WG, w.before args s = true := fun w h => hts w (List.mem_cons_of_mem _ h)
  intro S H locs ls a0 x1 x2 x3 x4 x5 x6 hp hW hE hl hL_a0 hK_a0
  unfold wp_X2_forEachPlace_69 at hp
  obtain ⟨x_1, ex_1⟩ : ∃ z : Int32, z = x6 + 1 := ⟨_, rfl⟩
  replace hp := hp x_1 ex_1
  refine lv_iinc (v := x_1) (lv' := [(6, .int x_1), (0, .ref a0), (1, .int x1), (2, .int x2), (3, .int x3), (4, .int x4), (5, .int x5)]) hx hb dX2_forEachPlace_69 hl (k := 6) rfl (by rw [ex_1]; rfl) (by decide) rfl (fun ls hl => ?_)
  refine lv_goto (tgt := 34) hx hb dX2_forEachPlace_72 (by decide) ?_
  exact q_34 hp hW hE (lv_sub hl [1, 2, 3, 4, 5, 6, 0] rfl) hL_a0 hK_a0
set_option maxHeartbeats 4000000 in
set_option maxRecDepth 100000 in
theorem t_X2_forEachPlace_34 {p : Program} {l : Launch} {e : Env} {s : State} {m : MethodId} {args : Array Value} {below : List Frame} {meth : Method} {c : Code} {D : va_G} {cy : Nat → ClassId} {X : va_W} {A : Nat → Prop} {S0 : wS} {post : wS → Prop} (F : CallFix p m c cX2_forEachPlace 7 s args wz_X2_forEachPlace RX2) (hr : meth.sig.returnType = none) (hlocks : meth.locks = false) (hK : wK D cy s) {k_16 : wS → Nat → Int32 → Int32 → Int32 → Int32 → Prop} (q_16 : ∀ {S : wS} {H : Heap} {locs : List Loc} {ls : Array Slot} {a0 : Nat} {x1 : Int32} {x2 : Int32} {x3 : Int32} {x4 : Int32}, k_16 S a0 x1 x2 x3 x4 → wO D cy X A s.heap S H locs → wX S0 S → lv_has ls 7 [(0, .ref a0), (1, .int x1), (2, .int x2), (3, .int x3), (4, .int x4)] → a0 ∈ sL S → sK S a0 = 7 → W p l e r_X2_forEachPlace s m args below meth c H locs 0 0 (MQ below (va_Qv (fun S9 => wX S0 S9 ∧ post S9) (wB D cy X A) A) args s 0 0 A) (F0 m 16 ls [])) {k_25 : wS → Nat → Int32 → Int32 → Int32 → Int32 → Int32 → Prop} (q_25 : ∀ {S : wS} {H : Heap} {locs : List Loc} {ls : Array Slot} {a0 : Nat} {x1 : Int32} {x2 : Int32} {x3 : Int32} {x4 : Int32} {x5 : Int32}, k_25 S a0 x1 x2 x3 x4 x5 → wO D cy X A s.heap S H locs → wX S0 S → lv_has ls 7 [(0, .ref a0), (1, .int x1), (2, .int x2), (3, .int x3), (4, .int x4), (5, .int x5)] → a0 ∈ sL S → sK S a0 = 7 → W p l e r_X2_forEachPlace s m args below meth c H locs 0 0 (MQ below (va_Qv (fun S9 => wX S0 S9 ∧ post S9) (wB D cy X A) A) args s 0 0 A) (F0 m 25 ls [])) : ∀ (n : Nat) {S : wS} {H : Heap} {locs : List Loc} {ls : Array Slot} {a0 : Nat} {x1 : Int32} {x2 : Int32} {x3 : Int32} {x4 : Int32} {x5 : Int32} {x6 : Int32}, wp_X2_forEachPlace_34 post k_16 k_25 n S a0 x1 x2 x3 x4 x5 x6 → wO D cy X A s.heap S H locs → wX S0 S → lv_has ls 7 [(0, .ref a0), (1, .int x1), (2, .int x2), (3, .int x3), (4, .int x4), (5, .int x5), (6, .int x6)] → a0 ∈ sL S → sK S a0 = 7 → W p l e r_X2_forEachPlace s m args below meth c H locs 0 0 (MQ below (va_Qv (fun S9 => wX S0 S9 ∧ post S9) (wB D cy X A) A) args s 0 0 A) (F0 m 34 ls []) := by
  obtain ⟨hx, hb, hml, hown, hts⟩ := id F
  have hwg : ∀ w ∈ WG, w.before args s = true := fun w h => hts w (List.mem_cons_of_mem _ h)
  intro n
  induction n with
  | zero =>
    intro S H locs ls a0 x1 x2 x3 x4 x5 x6 hp
    exact hp.elim
  | succ n ih =>
    intro S H locs ls a0 x1 x2 x3 x4 x5 x6 hp hW hE hl hL_a0 hK_a0
    unfold wp_X2_forEachPlace_34 at hp
    refine lv_iload hx hb dX2_forEachPlace_34 (lv_at hl 6 rfl) ?_
    refine lv_iload_n hx hb dX2_forEachPlace_36 rfl (lv_at hl 3 rfl) ?_
    refine lv_icmp_ge (tgt := 75) hx hb dX2_forEachPlace_37 (by decide) (fun c_1 => ?_) (fun c_1 => ?_)
    · replace hp := hp.1 c_1
      obtain ⟨x_2, ex_2⟩ : ∃ z : Int32, z = x5 + 1 := ⟨_, rfl⟩
      replace hp := hp x_2 ex_2
      refine lv_iinc (v := x_2) (lv' := [(5, .int x_2), (0, .ref a0), (1, .int x1), (2, .int x2), (3, .int x3), (4, .int x4), (6, .int x6)]) hx hb dX2_forEachPlace_75 hl (k := 5) rfl (by rw [ex_2]; rfl) (by decide) rfl (fun ls hl => ?_)
      refine lv_goto (tgt := 25) hx hb dX2_forEachPlace_78 (by decide) ?_
      exact q_25 hp hW hE (lv_sub hl [1, 2, 3, 4, 5, 0] rfl) hL_a0 hK_a0
    · replace hp := hp.2 c_1
      refine lv_iload_n hx hb dX2_forEachPlace_40 rfl (lv_at hl 2 rfl) ?_
      refine lv_if_eq (tgt := 58) hx hb dX2_forEachPlace_41 (by decide) (fun c_3 => ?_) (fun c_3 => ?_)
      · replace hp := hp.1 c_3
        refine lv_aload_n hx hb dX2_forEachPlace_58 rfl (lv_at hl 0 rfl) ?_
        refine lv_iload_n hx hb dX2_forEachPlace_59 rfl (lv_at hl 1 rfl) ?_
        refine lv_iload hx hb dX2_forEachPlace_60 (lv_at hl 4 rfl) ?_
        refine lv_iload hx hb dX2_forEachPlace_62 (lv_at hl 5 rfl) ?_
        refine lv_iload hx hb dX2_forEachPlace_64 (lv_at hl 6 rfl) ?_
        refine w_callV (va_runV (As := [.int x1, .int x4, .int x5, .int x6]) (rest := []) F (c_X2_countMovesOfBlack l hL_a0 hK_a0 hp H.size) (cwV (C := RX2) 4 hts (wg_V wm_RX2_127 wy_X2_countMovesOfBlack) rfl rfl rfl (by decide +kernel) ⟨Nat.le_of_ble_eq_true rfl, Nat.le_of_ble_eq_true rfl⟩) (w_preV hK hW hL_a0 hK_a0 (by decide) rfl) rfl rfl hl.1 rfl (lv_room (Nat.le_of_ble_eq_true rfl)) dX2_forEachPlace_66 ⟨Nat.le_of_ble_eq_true rfl, Nat.le_of_ble_eq_true rfl⟩) hW (fun S_5 H locs hp hW => ?_)
        obtain ⟨hX_S_5, hp⟩ := hp
        refine W.widen (k := 0) (n := 0) (Nat.le_refl 0) (Nat.le_refl 0) ?_
        have hE := hE.trans hX_S_5
        have hK_a0 : sK S_5 a0 = 7 := (hX_S_5 a0 hL_a0).2.1.trans hK_a0
        have hL_a0 : a0 ∈ sL S_5 := (hX_S_5 a0 hL_a0).1
        exact t_X2_forEachPlace_69 F hr hlocks hK q_16 q_25 ih hp hW hE (lv_sub hl [0, 1, 2, 3, 4, 5, 6] rfl) hL_a0 hK_a0
      · replace hp := hp.2 c_3
        refine lv_aload_n hx hb dX2_forEachPlace_44 rfl (lv_at hl 0 rfl) ?_
        refine lv_iload_n hx hb dX2_forEachPlace_45 rfl (lv_at hl 1 rfl) ?_
        refine lv_iload hx hb dX2_forEachPlace_46 (lv_at hl 4 rfl) ?_
        refine lv_iload hx hb dX2_forEachPlace_48 (lv_at hl 5 rfl) ?_
        refine lv_iload hx hb dX2_forEachPlace_50 (lv_at hl 6 rfl) ?_
        refine w_callV (va_runV (As := [.int x1, .int x4, .int x5, .int x6]) (rest := []) F (c_X2_mark l hL_a0 hK_a0 hp H.size) (cwV (C := RX2) 4 hts (wg_V wm_RX2_123 wy_X2_mark) rfl rfl rfl (by decide +kernel) ⟨Nat.le_of_ble_eq_true rfl, Nat.le_of_ble_eq_true rfl⟩) (w_preV hK hW hL_a0 hK_a0 (by decide) rfl) rfl rfl hl.1 rfl (lv_room (Nat.le_of_ble_eq_true rfl)) dX2_forEachPlace_52 ⟨Nat.le_of_ble_eq_true rfl, Nat.le_of_ble_eq_true rfl⟩) hW (fun S_7 H locs hp hW => ?_)
        obtain ⟨hX_S_7, hp⟩ := hp
        refine W.widen (k := 0) (n := 0) (Nat.le_refl 0) (Nat.le_refl 0) ?_
        have hE := hE.trans hX_S_7
        have hK_a0 : sK S_7 a0 = 7 := (hX_S_7 a0 hL_a0).2.1.trans hK_a0
        have hL_a0 : a0 ∈ sL S_7 := (hX_S_7 a0 hL_a0).1
        refine lv_goto (tgt := 69) hx hb dX2_forEachPlace_55 (by decide) ?_
        exact t_X2_forEachPlace_69 F hr hlocks hK q_16 q_25 ih hp hW hE (lv_sub hl [0, 1, 2, 3, 4, 5, 6] rfl) hL_a0 hK_a0
set_option maxHeartbeats 4000000 in
set_option maxRecDepth 100000 in
theorem t_X2_forEachPlace_25 {p : Program} {l : Launch} {e : Env} {s : State} {m : MethodId} {args : Array Value} {below : List Frame} {meth : Method} {c : Code} {D : va_G} {cy : Nat → ClassId} {X : va_W} {A : Nat → Prop} {S0 : wS} {post : wS → Prop} (F : CallFix p m c cX2_forEachPlace 7 s args wz_X2_forEachPlace RX2) (hr : meth.sig.returnType = none) (hlocks : meth.locks = false) (hK : wK D cy s) {k_16 : wS → Nat → Int32 → Int32 → Int32 → Int32 → Prop} (q_16 : ∀ {S : wS} {H : Heap} {locs : List Loc} {ls : Array Slot} {a0 : Nat} {x1 : Int32} {x2 : Int32} {x3 : Int32} {x4 : Int32}, k_16 S a0 x1 x2 x3 x4 → wO D cy X A s.heap S H locs → wX S0 S → lv_has ls 7 [(0, .ref a0), (1, .int x1), (2, .int x2), (3, .int x3), (4, .int x4)] → a0 ∈ sL S → sK S a0 = 7 → W p l e r_X2_forEachPlace s m args below meth c H locs 0 0 (MQ below (va_Qv (fun S9 => wX S0 S9 ∧ post S9) (wB D cy X A) A) args s 0 0 A) (F0 m 16 ls [])) : ∀ (n : Nat) {S : wS} {H : Heap} {locs : List Loc} {ls : Array Slot} {a0 : Nat} {x1 : Int32} {x2 : Int32} {x3 : Int32} {x4 : Int32} {x5 : Int32}, wp_X2_forEachPlace_25 post k_16 n S a0 x1 x2 x3 x4 x5 → wO D cy X A s.heap S H locs → wX S0 S → lv_has ls 7 [(0, .ref a0), (1, .int x1), (2, .int x2), (3, .int x3), (4, .int x4), (5, .int x5)] → a0 ∈ sL S → sK S a0 = 7 → W p l e r_X2_forEachPlace s m args below meth c H locs 0 0 (MQ below (va_Qv (fun S9 => wX S0 S9 ∧ post S9) (wB D cy X A) A) args s 0 0 A) (F0 m 25 ls []) := by
  obtain ⟨hx, hb, hml, hown, hts⟩ := id F
  have hwg : ∀ w ∈ WG, w.before args s = true := fun w h => hts w (List.mem_cons_of_mem _ h)
  intro n
  induction n with
  | zero =>
    intro S H locs ls a0 x1 x2 x3 x4 x5 hp
    exact hp.elim
  | succ n ih =>
    intro S H locs ls a0 x1 x2 x3 x4 x5 hp hW hE hl hL_a0 hK_a0
    unfold wp_X2_forEachPlace_25 at hp
    refine lv_iload hx hb dX2_forEachPlace_25 (lv_at hl 5 rfl) ?_
    refine lv_iload_n hx hb dX2_forEachPlace_27 rfl (lv_at hl 3 rfl) ?_
    refine lv_icmp_ge (tgt := 81) hx hb dX2_forEachPlace_28 (by decide) (fun c_1 => ?_) (fun c_1 => ?_)
    · replace hp := hp.1 c_1
      obtain ⟨x_2, ex_2⟩ : ∃ z : Int32, z = x4 + 1 := ⟨_, rfl⟩
      replace hp := hp x_2 ex_2
      refine lv_iinc (v := x_2) (lv' := [(4, .int x_2), (0, .ref a0), (1, .int x1), (2, .int x2), (3, .int x3), (5, .int x5)]) hx hb dX2_forEachPlace_81 hl (k := 4) rfl (by rw [ex_2]; rfl) (by decide) rfl (fun ls hl => ?_)
      refine lv_goto (tgt := 16) hx hb dX2_forEachPlace_84 (by decide) ?_
      exact q_16 hp hW hE (lv_sub hl [1, 2, 3, 4, 0] rfl) hL_a0 hK_a0
    · replace hp := hp.2 c_1
      refine lv_iconst (v := 0) hx hb dX2_forEachPlace_31 (by decide) ?_
      refine lv_istore (lv' := [(6, .int (0 : Int32)), (0, .ref a0), (1, .int x1), (2, .int x2), (3, .int x3), (4, .int x4), (5, .int x5)]) hx hb dX2_forEachPlace_32 hl (by decide) rfl (fun ls hl => ?_)
      obtain ⟨n_3, hp⟩ := hp
      exact t_X2_forEachPlace_34 F hr hlocks hK q_16 ih n_3 hp hW hE (lv_sub hl [1, 2, 3, 4, 5, 6, 0] rfl) hL_a0 hK_a0
set_option maxHeartbeats 4000000 in
set_option maxRecDepth 100000 in
theorem t_X2_forEachPlace_16 {p : Program} {l : Launch} {e : Env} {s : State} {m : MethodId} {args : Array Value} {below : List Frame} {meth : Method} {c : Code} {D : va_G} {cy : Nat → ClassId} {X : va_W} {A : Nat → Prop} {S0 : wS} {post : wS → Prop} (F : CallFix p m c cX2_forEachPlace 7 s args wz_X2_forEachPlace RX2) (hr : meth.sig.returnType = none) (hlocks : meth.locks = false) (hK : wK D cy s) : ∀ (n : Nat) {S : wS} {H : Heap} {locs : List Loc} {ls : Array Slot} {a0 : Nat} {x1 : Int32} {x2 : Int32} {x3 : Int32} {x4 : Int32}, wp_X2_forEachPlace_16 post n S a0 x1 x2 x3 x4 → wO D cy X A s.heap S H locs → wX S0 S → lv_has ls 7 [(0, .ref a0), (1, .int x1), (2, .int x2), (3, .int x3), (4, .int x4)] → a0 ∈ sL S → sK S a0 = 7 → W p l e r_X2_forEachPlace s m args below meth c H locs 0 0 (MQ below (va_Qv (fun S9 => wX S0 S9 ∧ post S9) (wB D cy X A) A) args s 0 0 A) (F0 m 16 ls []) := by
  obtain ⟨hx, hb, hml, hown, hts⟩ := id F
  have hwg : ∀ w ∈ WG, w.before args s = true := fun w h => hts w (List.mem_cons_of_mem _ h)
  intro n
  induction n with
  | zero =>
    intro S H locs ls a0 x1 x2 x3 x4 hp
    exact hp.elim
  | succ n ih =>
    intro S H locs ls a0 x1 x2 x3 x4 hp hW hE hl hL_a0 hK_a0
    unfold wp_X2_forEachPlace_16 at hp
    refine lv_iload hx hb dX2_forEachPlace_16 (lv_at hl 4 rfl) ?_
    refine lv_iload_n hx hb dX2_forEachPlace_18 rfl (lv_at hl 3 rfl) ?_
    refine lv_icmp_ge (tgt := 87) hx hb dX2_forEachPlace_19 (by decide) (fun c_1 => ?_) (fun c_1 => ?_)
    · replace hp := hp.1 c_1
      exact w_vret hx hb hr hlocks hK hW ⟨hE, hp⟩ dX2_forEachPlace_87
    · replace hp := hp.2 c_1
      refine lv_iconst (v := 0) hx hb dX2_forEachPlace_22 (by decide) ?_
      refine lv_istore (lv' := [(5, .int (0 : Int32)), (0, .ref a0), (1, .int x1), (2, .int x2), (3, .int x3), (4, .int x4)]) hx hb dX2_forEachPlace_23 hl (by decide) rfl (fun ls hl => ?_)
      obtain ⟨n_2, hp⟩ := hp
      exact t_X2_forEachPlace_25 F hr hlocks hK ih n_2 hp hW hE (lv_sub hl [1, 2, 3, 4, 5, 0] rfl) hL_a0 hK_a0
set_option maxHeartbeats 4000000 in
set_option maxRecDepth 100000 in
theorem t_X2_forEachPlace_0 {p : Program} {l : Launch} {e : Env} {s : State} {m : MethodId} {args : Array Value} {below : List Frame} {meth : Method} {c : Code} {D : va_G} {cy : Nat → ClassId} {X : va_W} {A : Nat → Prop} {S0 : wS} {post : wS → Prop} (F : CallFix p m c cX2_forEachPlace 7 s args wz_X2_forEachPlace RX2) (hr : meth.sig.returnType = none) (hlocks : meth.locks = false) (hK : wK D cy s) : ∀ {S : wS} {H : Heap} {locs : List Loc} {ls : Array Slot} {a0 : Nat} {x1 : Int32} {x2 : Int32}, wp_X2_forEachPlace_0 post S a0 x1 x2 → wO D cy X A s.heap S H locs → wX S0 S → lv_has ls 7 [(0, .ref a0), (1, .int x1), (2, .int x2)] → a0 ∈ sL S → sK S a0 = 7 → W p l e r_X2_forEachPlace s m args below meth c H locs 0 0 (MQ below (va_Qv (fun S9 => wX S0 S9 ∧ post S9) (wB D cy X A) A) args s 0 0 A) (F0 m 0 ls []) := by
  obtain ⟨hx, hb, hml, hown, hts⟩ := id F
  have hwg : ∀ w ∈ WG, w.before args s = true := fun w h => hts w (List.mem_cons_of_mem _ h)
  have i_5 : ∀ w ∈ u_ws RX0 TX0 12, w ∈ wz_X2_forEachPlace := fun w h => List.mem_cons_of_mem _ (wu_5 w h)
  have i_7 : ∀ w ∈ u_ws RX2 TX2 8, w ∈ wz_X2_forEachPlace := fun w h => List.mem_cons_of_mem _ (wu_7 w h)
  have k_35 := hwg _ wf_RX2_35
  intro S H locs ls a0 x1 x2 hp hW hE hl hL_a0 hK_a0
  unfold wp_X2_forEachPlace_0 at hp
  refine lv_aload_n hx hb dX2_forEachPlace_0 rfl (lv_at hl 0 rfl) ?_
  obtain ⟨y_1, ey_1, hL_y_1, hK_y_1, hp⟩ := hp
  refine w_get (k := 7) (f := 0) (T := TX2) (v := .ref y_1) F hK hW hL_a0 hK_a0 (by decide) rfl rfl (by decide) i_7 k_35 (by rw [show wv 7 0 S a0 = va_rf (sR S a0 0) from rfl, ey_1]; rfl) dX2_forEachPlace_1 ?_
  refine w_getN (k := 5) (f := 2) (T := TX0) (v := .int (sI S y_1 2)) F hK hW hL_y_1 hK_y_1 (by decide) rfl rfl (by decide) i_5 (hK.2 (.fieldLinkNest "OpeningsCabinet$Endings" 104 "OpeningsCabinet$Board" "size" "I" "OpeningsCabinet") (by decide +kernel)) rfl dX2_forEachPlace_4 ?_
  refine lv_bipush (v := 25) hx hb dX2_forEachPlace_7 (by decide) ?_
  refine va_mmin hx hb (hml.trans hl.1.symm) hown (hwg _ wm_RX2_118) (hwg _ wmm_min.1) (hwg _ wmm_min.2.1) (hwg _ wmm_min.2.2) (Nat.le_of_ble_eq_true rfl) (Nat.le_of_ble_eq_true rfl) (Nat.le_of_ble_eq_true rfl) (Nat.le_of_ble_eq_true rfl) dX2_forEachPlace_9 ?_
  refine lv_topi (fun x_2 ex_2 => ?_)
  replace hp := hp x_2 ex_2
  refine lv_istore_n (lv' := [(3, .int x_2), (0, .ref a0), (1, .int x1), (2, .int x2)]) hx hb dX2_forEachPlace_12 rfl hl (by decide) rfl (fun ls hl => ?_)
  refine lv_iconst (v := 0) hx hb dX2_forEachPlace_13 (by decide) ?_
  refine lv_istore (lv' := [(4, .int (0 : Int32)), (3, .int x_2), (0, .ref a0), (1, .int x1), (2, .int x2)]) hx hb dX2_forEachPlace_14 hl (by decide) rfl (fun ls hl => ?_)
  obtain ⟨n_3, hp⟩ := hp
  exact t_X2_forEachPlace_16 F hr hlocks hK n_3 hp hW hE (lv_sub hl [2, 3, 4, 1, 0] rfl) hL_a0 hK_a0
set_option maxHeartbeats 4000000 in
set_option maxRecDepth 100000 in
theorem c_X2_forEachPlace (l : Launch) {D : va_G} {cy : Nat → ClassId} {X : va_W} {S0 : wS} {post : wS → Prop} {a0 : Nat} {x1 : Int32} {x2 : Int32} (hL_a0 : a0 ∈ sL S0) (hK_a0 : sK S0 a0 = 7) (hp : wp_X2_forEachPlace post S0 a0 x1 x2) : mV D cy X l yX2_forEachPlace wz_X2_forEachPlace r_X2_forEachPlace [.ref a0, .int x1, .int x2] S0 (fun S9 => wX S0 S9 ∧ post S9) := by
  intro sz
  refine Met.ofW (cc := cX2_forEachPlace) (maxL := 7) (ret := none) (by decide) rfl ?_
  intro p e s m args below meth c s₁ B hml hv
  obtain ⟨rfl, hsz, hP, hK, hD0⟩ := hv
  have hts := atoms_spec (ws := wz_X2_forEachPlace) B.pre
  have hown : s.vm.findClass RX2 = some m.cls := findClass_of_methodNamed B.named
  subst hsz
  have hD := hD0.self (sz := s.heap.size)
  have F : CallFix p m c cX2_forEachPlace 7 s _ wz_X2_forEachPlace RX2 := ⟨B.exec, B.bytes, hml, hown, hts⟩
  have hr := B.returns
  have hlocks := B.notSynchronized
  generalize hAe : va_A (wL cy X S0) s.heap.size = A at hD ⊢
  have hA : ∀ q, s.heap.size ≤ q → A q := fun q h => by rw [← hAe]; exact Or.inr h
  have hW : wO D cy X A s.heap S0 s.heap [] := ⟨hP, hD, va_S.rf, hA⟩
  have hl := lv_entry ([.ref a0, .int x1, .int x2]) (n := 7) (Nat.le_of_ble_eq_true rfl)
  rw [lg_entry_eq]
  generalize (lg_sl ([.ref a0, .int x1, .int x2]) ++ List.replicate (7 - (lg_sl ([.ref a0, .int x1, .int x2])).length) Slot.unset).toArray = ls at hl ⊢
  have hl : lv_has ls 7 [(0, .ref a0), (1, .int x1), (2, .int x2)] := hl
  unfold wp_X2_forEachPlace at hp
  exact t_X2_forEachPlace_0 F hr hlocks hK hp hW wX.rf (lv_sub hl [0, 1, 2] rfl) hL_a0 hK_a0
def wp_X2_loseMove_50 (post : wS → Prop)  (S : wS) : Prop :=
post S
def wp_X2_loseMove_23 (post : wS → Prop)  (S : wS) : Prop :=
post S
def wp_X2_loseMove_0 (post : wS → Prop)  (S : wS) (a0 : Nat) (x1 : Int32) (x2 : Int32) (x3 : Int32) : Prop :=
wp_X2_valueAt (fun r_1 S_2 => 
((¬ r_1 = (-1 : Int32) → wp_X2_loseMove_23 post S_2) ∧
 (r_1 = (-1 : Int32) → ((x2 < 0 → wp_X2_loseMove_23 post S_2) ∧
 (¬ x2 < 0 → ∃ y_5 : Nat, sR S_2 a0 6 = some y_5 ∧ y_5 ∈ sL S_2 ∧ sK S_2 y_5 = 21 ∧
((x2 < (Int32.ofNat (sN S_2 y_5)) → ∃ y_7 : Nat, sR S_2 a0 6 = some y_7 ∧ y_7 ∈ sL S_2 ∧ sK S_2 y_7 = 21 ∧
vp_in x2 (sN S_2 y_7) ∧
vp_in x2 (sN S_2 y_7) ∧
∀ S_10 : wS, S_10 = uI S_2 y_7 (x2).toNatClampNeg ((sI S_2 y_7 (x2).toNatClampNeg) - (1 : Int32)) →
∃ y_11 : Nat, sR S_10 a0 6 = some y_11 ∧ y_11 ∈ sL S_10 ∧ sK S_10 y_11 = 21 ∧
vp_in x2 (sN S_10 y_11) ∧
((¬ (sI S_10 y_11 (x2).toNatClampNeg) = 0 → wp_X2_loseMove_50 post S_10) ∧
 ((sI S_10 y_11 (x2).toNatClampNeg) = 0 → wp_X2_win (fun S_15 => 
wp_X2_loseMove_50 post S_15) S_10 a0 x1 x2 x3))) ∧
 (¬ x2 < (Int32.ofNat (sN S_2 y_5)) → wp_X2_loseMove_23 post S_2))))))) S a0 x1 x2
abbrev r_X2_loseMove : Room := { frames := 2, cells := 0, slots := 0, locals := 47 }
def wp_X2_loseMove (post : wS → Prop) (S : wS) (a0 : Nat) (x1 : Int32) (x2 : Int32) (x3 : Int32) : Prop := wp_X2_loseMove_0 post S a0 x1 x2 x3
set_option maxHeartbeats 4000000 in
set_option maxRecDepth 100000 in
theorem t_X2_loseMove_50 {p : Program} {l : Launch} {e : Env} {s : State} {m : MethodId} {args : Array Value} {below : List Frame} {meth : Method} {c : Code} {D : va_G} {cy : Nat → ClassId} {X : va_W} {A : Nat → Prop} {S0 : wS} {post : wS → Prop} (F : CallFix p m c cX2_loseMove 4 s args wz_X2_loseMove RX2) (hr : meth.sig.returnType = none) (hlocks : meth.locks = false) (hK : wK D cy s) : ∀ {S : wS} {H : Heap} {locs : List Loc} {ls : Array Slot}, wp_X2_loseMove_50 post S → wO D cy X A s.heap S H locs → wX S0 S → lv_has ls 4 [] → W p l e r_X2_loseMove s m args below meth c H locs 0 0 (MQ below (va_Qv (fun S9 => wX S0 S9 ∧ post S9) (wB D cy X A) A) args s 0 0 A) (F0 m 50 ls []) := by
  obtain ⟨hx, hb, hml, hown, hts⟩ := id F
  have hwg : ∀ w ∈ WG, w.before args s = true := fun w h => hts w (List.mem_cons_of_mem _ h)
  intro S H locs ls hp hW hE hl
  unfold wp_X2_loseMove_50 at hp
  exact w_vret hx hb hr hlocks hK hW ⟨hE, hp⟩ dX2_loseMove_50
set_option maxHeartbeats 4000000 in
set_option maxRecDepth 100000 in
theorem t_X2_loseMove_23 {p : Program} {l : Launch} {e : Env} {s : State} {m : MethodId} {args : Array Value} {below : List Frame} {meth : Method} {c : Code} {D : va_G} {cy : Nat → ClassId} {X : va_W} {A : Nat → Prop} {S0 : wS} {post : wS → Prop} (F : CallFix p m c cX2_loseMove 4 s args wz_X2_loseMove RX2) (hr : meth.sig.returnType = none) (hlocks : meth.locks = false) (hK : wK D cy s) : ∀ {S : wS} {H : Heap} {locs : List Loc} {ls : Array Slot}, wp_X2_loseMove_23 post S → wO D cy X A s.heap S H locs → wX S0 S → lv_has ls 4 [] → W p l e r_X2_loseMove s m args below meth c H locs 0 0 (MQ below (va_Qv (fun S9 => wX S0 S9 ∧ post S9) (wB D cy X A) A) args s 0 0 A) (F0 m 23 ls []) := by
  obtain ⟨hx, hb, hml, hown, hts⟩ := id F
  have hwg : ∀ w ∈ WG, w.before args s = true := fun w h => hts w (List.mem_cons_of_mem _ h)
  intro S H locs ls hp hW hE hl
  unfold wp_X2_loseMove_23 at hp
  exact w_vret hx hb hr hlocks hK hW ⟨hE, hp⟩ dX2_loseMove_23
set_option maxHeartbeats 4000000 in
set_option maxRecDepth 100000 in
theorem t_X2_loseMove_0 {p : Program} {l : Launch} {e : Env} {s : State} {m : MethodId} {args : Array Value} {below : List Frame} {meth : Method} {c : Code} {D : va_G} {cy : Nat → ClassId} {X : va_W} {A : Nat → Prop} {S0 : wS} {post : wS → Prop} (F : CallFix p m c cX2_loseMove 4 s args wz_X2_loseMove RX2) (hr : meth.sig.returnType = none) (hlocks : meth.locks = false) (hK : wK D cy s) : ∀ {S : wS} {H : Heap} {locs : List Loc} {ls : Array Slot} {a0 : Nat} {x1 : Int32} {x2 : Int32} {x3 : Int32}, wp_X2_loseMove_0 post S a0 x1 x2 x3 → wO D cy X A s.heap S H locs → wX S0 S → lv_has ls 4 [(0, .ref a0), (1, .int x1), (2, .int x2), (3, .int x3)] → a0 ∈ sL S → sK S a0 = 7 → W p l e r_X2_loseMove s m args below meth c H locs 0 0 (MQ below (va_Qv (fun S9 => wX S0 S9 ∧ post S9) (wB D cy X A) A) args s 0 0 A) (F0 m 0 ls []) := by
  obtain ⟨hx, hb, hml, hown, hts⟩ := id F
  have hwg : ∀ w ∈ WG, w.before args s = true := fun w h => hts w (List.mem_cons_of_mem _ h)
  have i_7 : ∀ w ∈ u_ws RX2 TX2 8, w ∈ wz_X2_loseMove := fun w h => List.mem_cons_of_mem _ (wu_7 w h)
  have k_28 := hwg _ wf_RX2_28
  intro S H locs ls a0 x1 x2 x3 hp hW hE hl hL_a0 hK_a0
  unfold wp_X2_loseMove_0 at hp
  refine lv_aload_n hx hb dX2_loseMove_0 rfl (lv_at hl 0 rfl) ?_
  refine lv_iload_n hx hb dX2_loseMove_1 rfl (lv_at hl 1 rfl) ?_
  refine lv_iload_n hx hb dX2_loseMove_2 rfl (lv_at hl 2 rfl) ?_
  refine w_callI (va_runV (As := [.int x1, .int x2]) (rest := []) F (c_X2_valueAt l hL_a0 hK_a0 hp H.size) (cwV (C := RX2) 2 hts (wg_V wm_RX2_100 wy_X2_valueAt) rfl rfl rfl (by decide +kernel) ⟨Nat.le_of_ble_eq_true rfl, Nat.le_of_ble_eq_true rfl⟩) (w_preV hK hW hL_a0 hK_a0 (by decide) rfl) rfl rfl hl.1 rfl (lv_room (Nat.le_of_ble_eq_true rfl)) dX2_loseMove_3 ⟨Nat.le_of_ble_eq_true rfl, Nat.le_of_ble_eq_true rfl⟩) hW (fun r_1 S_2 H locs hp hW => ?_)
  obtain ⟨hX_S_2, hp⟩ := hp
  refine W.widen (k := 0) (n := 0) (Nat.le_refl 0) (Nat.le_refl 0) ?_
  have hE := hE.trans hX_S_2
  have hK_a0 : sK S_2 a0 = 7 := (hX_S_2 a0 hL_a0).2.1.trans hK_a0
  have hL_a0 : a0 ∈ sL S_2 := (hX_S_2 a0 hL_a0).1
  refine lv_iconst (v := (-1)) hx hb dX2_loseMove_6 (by decide) ?_
  refine lv_icmp_ne (tgt := 23) hx hb dX2_loseMove_7 (by decide) (fun c_3 => ?_) (fun c_3 => ?_)
  · replace hp := hp.1 c_3
    exact t_X2_loseMove_23 F hr hlocks hK hp hW hE (lv_sub hl [] rfl)
  · replace hp := hp.2 c_3
    refine lv_iload_n hx hb dX2_loseMove_10 rfl (lv_at hl 2 rfl) ?_
    refine lv_if_lt (tgt := 23) hx hb dX2_loseMove_11 (by decide) (fun c_4 => ?_) (fun c_4 => ?_)
    · replace hp := hp.1 c_4
      exact t_X2_loseMove_23 F hr hlocks hK hp hW hE (lv_sub hl [] rfl)
    · replace hp := hp.2 c_4
      refine lv_iload_n hx hb dX2_loseMove_14 rfl (lv_at hl 2 rfl) ?_
      refine lv_aload_n hx hb dX2_loseMove_15 rfl (lv_at hl 0 rfl) ?_
      obtain ⟨y_5, ey_5, hL_y_5, hK_y_5, hp⟩ := hp
      refine w_get (k := 7) (f := 6) (T := TX2) (v := .ref y_5) F hK hW hL_a0 hK_a0 (by decide) rfl rfl (by decide) i_7 k_28 (by rw [show wv 7 6 S_2 a0 = va_rf (sR S_2 a0 6) from rfl, ey_5]; rfl) dX2_loseMove_16 ?_
      refine w_len F hK hW hL_y_5 hK_y_5 (by decide) dX2_loseMove_19 ?_
      refine lv_icmp_lt (tgt := 24) hx hb dX2_loseMove_20 (by decide) (fun c_6 => ?_) (fun c_6 => ?_)
      · replace hp := hp.1 c_6
        refine lv_aload_n hx hb dX2_loseMove_24 rfl (lv_at hl 0 rfl) ?_
        obtain ⟨y_7, ey_7, hL_y_7, hK_y_7, hp⟩ := hp
        refine w_get (k := 7) (f := 6) (T := TX2) (v := .ref y_7) F hK hW hL_a0 hK_a0 (by decide) rfl rfl (by decide) i_7 k_28 (by rw [show wv 7 6 S_2 a0 = va_rf (sR S_2 a0 6) from rfl, ey_7]; rfl) dX2_loseMove_25 ?_
        refine lv_iload_n hx hb dX2_loseMove_28 rfl (lv_at hl 2 rfl) ?_
        refine lv_dup2_11 hx hb dX2_loseMove_29 rfl rfl ?_
        obtain ⟨h_8, hp⟩ := hp
        refine w_ild F hK hW hL_y_7 hK_y_7 h_8 dX2_loseMove_30 ?_
        refine lv_iconst (v := 1) hx hb dX2_loseMove_31 (by decide) ?_
        refine lv_isub hx hb dX2_loseMove_32 ?_
        obtain ⟨h_9, hp⟩ := hp
        refine w_ist F hK hW hL_y_7 hK_y_7 h_9 dX2_loseMove_33 (fun H locs hW => ?_)
        obtain ⟨S_10, eS_10⟩ : ∃ z : wS, z = uI S_2 y_7 (x2).toNatClampNeg ((sI S_2 y_7 (x2).toNatClampNeg) - (1 : Int32)) := ⟨_, rfl⟩
        rw [← eS_10] at hW
        replace hp := hp S_10 eS_10
        have hX_S_10 : wX S_2 S_10 := by rw [eS_10]; exact wX_uI
        have hE := hE.trans hX_S_10
        have hK_a0 : sK S_10 a0 = 7 := (hX_S_10 a0 hL_a0).2.1.trans hK_a0
        have hL_a0 : a0 ∈ sL S_10 := (hX_S_10 a0 hL_a0).1
        refine lv_aload_n hx hb dX2_loseMove_34 rfl (lv_at hl 0 rfl) ?_
        obtain ⟨y_11, ey_11, hL_y_11, hK_y_11, hp⟩ := hp
        refine w_get (k := 7) (f := 6) (T := TX2) (v := .ref y_11) F hK hW hL_a0 hK_a0 (by decide) rfl rfl (by decide) i_7 k_28 (by rw [show wv 7 6 S_10 a0 = va_rf (sR S_10 a0 6) from rfl, ey_11]; rfl) dX2_loseMove_35 ?_
        refine lv_iload_n hx hb dX2_loseMove_38 rfl (lv_at hl 2 rfl) ?_
        obtain ⟨h_12, hp⟩ := hp
        refine w_ild F hK hW hL_y_11 hK_y_11 h_12 dX2_loseMove_39 ?_
        refine lv_if_ne (tgt := 50) hx hb dX2_loseMove_40 (by decide) (fun c_13 => ?_) (fun c_13 => ?_)
        · replace hp := hp.1 c_13
          exact t_X2_loseMove_50 F hr hlocks hK hp hW hE (lv_sub hl [] rfl)
        · replace hp := hp.2 c_13
          refine lv_aload_n hx hb dX2_loseMove_43 rfl (lv_at hl 0 rfl) ?_
          refine lv_iload_n hx hb dX2_loseMove_44 rfl (lv_at hl 1 rfl) ?_
          refine lv_iload_n hx hb dX2_loseMove_45 rfl (lv_at hl 2 rfl) ?_
          refine lv_iload_n hx hb dX2_loseMove_46 rfl (lv_at hl 3 rfl) ?_
          refine w_callV (va_runV (As := [.int x1, .int x2, .int x3]) (rest := []) F (c_X2_win l hL_a0 hK_a0 hp H.size) (cwV (C := RX2) 3 hts (wg_V wm_RX2_146 wy_X2_win) rfl rfl rfl (by decide +kernel) ⟨Nat.le_of_ble_eq_true rfl, Nat.le_of_ble_eq_true rfl⟩) (w_preV hK hW hL_a0 hK_a0 (by decide) rfl) rfl rfl hl.1 rfl (lv_room (Nat.le_of_ble_eq_true rfl)) dX2_loseMove_47 ⟨Nat.le_of_ble_eq_true rfl, Nat.le_of_ble_eq_true rfl⟩) hW (fun S_15 H locs hp hW => ?_)
          obtain ⟨hX_S_15, hp⟩ := hp
          refine W.widen (k := 0) (n := 0) (Nat.le_refl 0) (Nat.le_refl 0) ?_
          have hE := hE.trans hX_S_15
          have hK_a0 : sK S_15 a0 = 7 := (hX_S_15 a0 hL_a0).2.1.trans hK_a0
          have hL_a0 : a0 ∈ sL S_15 := (hX_S_15 a0 hL_a0).1
          exact t_X2_loseMove_50 F hr hlocks hK hp hW hE (lv_sub hl [] rfl)
      · replace hp := hp.2 c_6
        exact t_X2_loseMove_23 F hr hlocks hK hp hW hE (lv_sub hl [] rfl)
set_option maxHeartbeats 4000000 in
set_option maxRecDepth 100000 in
theorem c_X2_loseMove (l : Launch) {D : va_G} {cy : Nat → ClassId} {X : va_W} {S0 : wS} {post : wS → Prop} {a0 : Nat} {x1 : Int32} {x2 : Int32} {x3 : Int32} (hL_a0 : a0 ∈ sL S0) (hK_a0 : sK S0 a0 = 7) (hp : wp_X2_loseMove post S0 a0 x1 x2 x3) : mV D cy X l yX2_loseMove wz_X2_loseMove r_X2_loseMove [.ref a0, .int x1, .int x2, .int x3] S0 (fun S9 => wX S0 S9 ∧ post S9) := by
  intro sz
  refine Met.ofW (cc := cX2_loseMove) (maxL := 4) (ret := none) (by decide) rfl ?_
  intro p e s m args below meth c s₁ B hml hv
  obtain ⟨rfl, hsz, hP, hK, hD0⟩ := hv
  have hts := atoms_spec (ws := wz_X2_loseMove) B.pre
  have hown : s.vm.findClass RX2 = some m.cls := findClass_of_methodNamed B.named
  subst hsz
  have hD := hD0.self (sz := s.heap.size)
  have F : CallFix p m c cX2_loseMove 4 s _ wz_X2_loseMove RX2 := ⟨B.exec, B.bytes, hml, hown, hts⟩
  have hr := B.returns
  have hlocks := B.notSynchronized
  generalize hAe : va_A (wL cy X S0) s.heap.size = A at hD ⊢
  have hA : ∀ q, s.heap.size ≤ q → A q := fun q h => by rw [← hAe]; exact Or.inr h
  have hW : wO D cy X A s.heap S0 s.heap [] := ⟨hP, hD, va_S.rf, hA⟩
  have hl := lv_entry ([.ref a0, .int x1, .int x2, .int x3]) (n := 4) (Nat.le_of_ble_eq_true rfl)
  rw [lg_entry_eq]
  generalize (lg_sl ([.ref a0, .int x1, .int x2, .int x3]) ++ List.replicate (4 - (lg_sl ([.ref a0, .int x1, .int x2, .int x3])).length) Slot.unset).toArray = ls at hl ⊢
  have hl : lv_has ls 4 [(0, .ref a0), (1, .int x1), (2, .int x2), (3, .int x3)] := hl
  unfold wp_X2_loseMove at hp
  exact t_X2_loseMove_0 F hr hlocks hK hp hW wX.rf (lv_sub hl [0, 1, 2, 3] rfl) hL_a0 hK_a0
def wp_X2_reachWin_17 (post : wS → Prop)  (S : wS) : Prop :=
post S
def wp_X2_reachWin_0 (post : wS → Prop)  (S : wS) (a0 : Nat) (x1 : Int32) (x2 : Int32) (x3 : Int32) : Prop :=
wp_X2_valueAt (fun r_1 S_2 => 
((¬ r_1 = (-1 : Int32) → wp_X2_reachWin_17 post S_2) ∧
 (r_1 = (-1 : Int32) → wp_X2_win (fun S_5 => 
wp_X2_reachWin_17 post S_5) S_2 a0 x1 x2 x3))) S a0 x1 x2
abbrev r_X2_reachWin : Room := { frames := 2, cells := 0, slots := 0, locals := 47 }
def wp_X2_reachWin (post : wS → Prop) (S : wS) (a0 : Nat) (x1 : Int32) (x2 : Int32) (x3 : Int32) : Prop := wp_X2_reachWin_0 post S a0 x1 x2 x3
set_option maxHeartbeats 4000000 in
set_option maxRecDepth 100000 in
theorem t_X2_reachWin_17 {p : Program} {l : Launch} {e : Env} {s : State} {m : MethodId} {args : Array Value} {below : List Frame} {meth : Method} {c : Code} {D : va_G} {cy : Nat → ClassId} {X : va_W} {A : Nat → Prop} {S0 : wS} {post : wS → Prop} (F : CallFix p m c cX2_reachWin 4 s args wz_X2_reachWin RX2) (hr : meth.sig.returnType = none) (hlocks : meth.locks = false) (hK : wK D cy s) : ∀ {S : wS} {H : Heap} {locs : List Loc} {ls : Array Slot}, wp_X2_reachWin_17 post S → wO D cy X A s.heap S H locs → wX S0 S → lv_has ls 4 [] → W p l e r_X2_reachWin s m args below meth c H locs 0 0 (MQ below (va_Qv (fun S9 => wX S0 S9 ∧ post S9) (wB D cy X A) A) args s 0 0 A) (F0 m 17 ls []) := by
  obtain ⟨hx, hb, hml, hown, hts⟩ := id F
  have hwg : ∀ w ∈ WG, w.before args s = true := fun w h => hts w (List.mem_cons_of_mem _ h)
  intro S H locs ls hp hW hE hl
  unfold wp_X2_reachWin_17 at hp
  exact w_vret hx hb hr hlocks hK hW ⟨hE, hp⟩ dX2_reachWin_17
set_option maxHeartbeats 4000000 in
set_option maxRecDepth 100000 in
theorem t_X2_reachWin_0 {p : Program} {l : Launch} {e : Env} {s : State} {m : MethodId} {args : Array Value} {below : List Frame} {meth : Method} {c : Code} {D : va_G} {cy : Nat → ClassId} {X : va_W} {A : Nat → Prop} {S0 : wS} {post : wS → Prop} (F : CallFix p m c cX2_reachWin 4 s args wz_X2_reachWin RX2) (hr : meth.sig.returnType = none) (hlocks : meth.locks = false) (hK : wK D cy s) : ∀ {S : wS} {H : Heap} {locs : List Loc} {ls : Array Slot} {a0 : Nat} {x1 : Int32} {x2 : Int32} {x3 : Int32}, wp_X2_reachWin_0 post S a0 x1 x2 x3 → wO D cy X A s.heap S H locs → wX S0 S → lv_has ls 4 [(0, .ref a0), (1, .int x1), (2, .int x2), (3, .int x3)] → a0 ∈ sL S → sK S a0 = 7 → W p l e r_X2_reachWin s m args below meth c H locs 0 0 (MQ below (va_Qv (fun S9 => wX S0 S9 ∧ post S9) (wB D cy X A) A) args s 0 0 A) (F0 m 0 ls []) := by
  obtain ⟨hx, hb, hml, hown, hts⟩ := id F
  have hwg : ∀ w ∈ WG, w.before args s = true := fun w h => hts w (List.mem_cons_of_mem _ h)
  intro S H locs ls a0 x1 x2 x3 hp hW hE hl hL_a0 hK_a0
  unfold wp_X2_reachWin_0 at hp
  refine lv_aload_n hx hb dX2_reachWin_0 rfl (lv_at hl 0 rfl) ?_
  refine lv_iload_n hx hb dX2_reachWin_1 rfl (lv_at hl 1 rfl) ?_
  refine lv_iload_n hx hb dX2_reachWin_2 rfl (lv_at hl 2 rfl) ?_
  refine w_callI (va_runV (As := [.int x1, .int x2]) (rest := []) F (c_X2_valueAt l hL_a0 hK_a0 hp H.size) (cwV (C := RX2) 2 hts (wg_V wm_RX2_100 wy_X2_valueAt) rfl rfl rfl (by decide +kernel) ⟨Nat.le_of_ble_eq_true rfl, Nat.le_of_ble_eq_true rfl⟩) (w_preV hK hW hL_a0 hK_a0 (by decide) rfl) rfl rfl hl.1 rfl (lv_room (Nat.le_of_ble_eq_true rfl)) dX2_reachWin_3 ⟨Nat.le_of_ble_eq_true rfl, Nat.le_of_ble_eq_true rfl⟩) hW (fun r_1 S_2 H locs hp hW => ?_)
  obtain ⟨hX_S_2, hp⟩ := hp
  refine W.widen (k := 0) (n := 0) (Nat.le_refl 0) (Nat.le_refl 0) ?_
  have hE := hE.trans hX_S_2
  have hK_a0 : sK S_2 a0 = 7 := (hX_S_2 a0 hL_a0).2.1.trans hK_a0
  have hL_a0 : a0 ∈ sL S_2 := (hX_S_2 a0 hL_a0).1
  refine lv_iconst (v := (-1)) hx hb dX2_reachWin_6 (by decide) ?_
  refine lv_icmp_ne (tgt := 17) hx hb dX2_reachWin_7 (by decide) (fun c_3 => ?_) (fun c_3 => ?_)
  · replace hp := hp.1 c_3
    exact t_X2_reachWin_17 F hr hlocks hK hp hW hE (lv_sub hl [] rfl)
  · replace hp := hp.2 c_3
    refine lv_aload_n hx hb dX2_reachWin_10 rfl (lv_at hl 0 rfl) ?_
    refine lv_iload_n hx hb dX2_reachWin_11 rfl (lv_at hl 1 rfl) ?_
    refine lv_iload_n hx hb dX2_reachWin_12 rfl (lv_at hl 2 rfl) ?_
    refine lv_iload_n hx hb dX2_reachWin_13 rfl (lv_at hl 3 rfl) ?_
    refine w_callV (va_runV (As := [.int x1, .int x2, .int x3]) (rest := []) F (c_X2_win l hL_a0 hK_a0 hp H.size) (cwV (C := RX2) 3 hts (wg_V wm_RX2_146 wy_X2_win) rfl rfl rfl (by decide +kernel) ⟨Nat.le_of_ble_eq_true rfl, Nat.le_of_ble_eq_true rfl⟩) (w_preV hK hW hL_a0 hK_a0 (by decide) rfl) rfl rfl hl.1 rfl (lv_room (Nat.le_of_ble_eq_true rfl)) dX2_reachWin_14 ⟨Nat.le_of_ble_eq_true rfl, Nat.le_of_ble_eq_true rfl⟩) hW (fun S_5 H locs hp hW => ?_)
    obtain ⟨hX_S_5, hp⟩ := hp
    refine W.widen (k := 0) (n := 0) (Nat.le_refl 0) (Nat.le_refl 0) ?_
    have hE := hE.trans hX_S_5
    have hK_a0 : sK S_5 a0 = 7 := (hX_S_5 a0 hL_a0).2.1.trans hK_a0
    have hL_a0 : a0 ∈ sL S_5 := (hX_S_5 a0 hL_a0).1
    exact t_X2_reachWin_17 F hr hlocks hK hp hW hE (lv_sub hl [] rfl)
set_option maxHeartbeats 4000000 in
set_option maxRecDepth 100000 in
theorem c_X2_reachWin (l : Launch) {D : va_G} {cy : Nat → ClassId} {X : va_W} {S0 : wS} {post : wS → Prop} {a0 : Nat} {x1 : Int32} {x2 : Int32} {x3 : Int32} (hL_a0 : a0 ∈ sL S0) (hK_a0 : sK S0 a0 = 7) (hp : wp_X2_reachWin post S0 a0 x1 x2 x3) : mV D cy X l yX2_reachWin wz_X2_reachWin r_X2_reachWin [.ref a0, .int x1, .int x2, .int x3] S0 (fun S9 => wX S0 S9 ∧ post S9) := by
  intro sz
  refine Met.ofW (cc := cX2_reachWin) (maxL := 4) (ret := none) (by decide) rfl ?_
  intro p e s m args below meth c s₁ B hml hv
  obtain ⟨rfl, hsz, hP, hK, hD0⟩ := hv
  have hts := atoms_spec (ws := wz_X2_reachWin) B.pre
  have hown : s.vm.findClass RX2 = some m.cls := findClass_of_methodNamed B.named
  subst hsz
  have hD := hD0.self (sz := s.heap.size)
  have F : CallFix p m c cX2_reachWin 4 s _ wz_X2_reachWin RX2 := ⟨B.exec, B.bytes, hml, hown, hts⟩
  have hr := B.returns
  have hlocks := B.notSynchronized
  generalize hAe : va_A (wL cy X S0) s.heap.size = A at hD ⊢
  have hA : ∀ q, s.heap.size ≤ q → A q := fun q h => by rw [← hAe]; exact Or.inr h
  have hW : wO D cy X A s.heap S0 s.heap [] := ⟨hP, hD, va_S.rf, hA⟩
  have hl := lv_entry ([.ref a0, .int x1, .int x2, .int x3]) (n := 4) (Nat.le_of_ble_eq_true rfl)
  rw [lg_entry_eq]
  generalize (lg_sl ([.ref a0, .int x1, .int x2, .int x3]) ++ List.replicate (4 - (lg_sl ([.ref a0, .int x1, .int x2, .int x3])).length) Slot.unset).toArray = ls at hl ⊢
  have hl : lv_has ls 4 [(0, .ref a0), (1, .int x1), (2, .int x2), (3, .int x3)] := hl
  unfold wp_X2_reachWin at hp
  exact t_X2_reachWin_0 F hr hlocks hK hp hW wX.rf (lv_sub hl [0, 1, 2, 3] rfl) hL_a0 hK_a0
def wp_X2_stepBack_220 (post : wS → Prop) (k_115 : wS → Nat → Int32 → Int32 → Int32 → Int32 → Int32 → Int32 → Int64 → Int64 → Int64 → Int32 → Prop) (S : wS) (a0 : Nat) (x1 : Int32) (x3 : Int32) (x5 : Int32) (x6 : Int32) (x7 : Int32) (x8 : Int32) (x9 : Int64) (x11 : Int64) (x13 : Int64) (x15 : Int32) : Prop :=
∀ x_1 : Int32, x_1 = x15 + 1 →
k_115 S a0 x1 x3 x5 x6 x7 x8 x9 x11 x13 x_1
def wp_X2_stepBack_189 (post : wS → Prop) (k_115 : wS → Nat → Int32 → Int32 → Int32 → Int32 → Int32 → Int32 → Int64 → Int64 → Int64 → Int32 → Prop) (S : wS) (a0 : Nat) (x1 : Int32) (x3 : Int32) (x5 : Int32) (x6 : Int32) (x7 : Int32) (x8 : Int32) (x9 : Int64) (x11 : Int64) (x13 : Int64) (x15 : Int32) : Prop :=
((¬ x3 = 0 → wp_X2_stepBack_220 post k_115 S a0 x1 x3 x5 x6 x7 x8 x9 x11 x13 x15) ∧
 (x3 = 0 → wp_X11_contains (fun r_2 S_3 => 
((r_2 = 0 → wp_X2_stepBack_220 post k_115 S_3 a0 x1 x3 x5 x6 x7 x8 x9 x11 x13 x15) ∧
 (¬ r_2 = 0 → wp_X2_indexOf (fun r_5 S_6 => 
wp_X2_reachWin (fun S_8 => 
wp_X2_stepBack_220 post k_115 S_8 a0 x1 x3 x5 x6 x7 x8 x9 x11 x13 x15) S_6 a0 x1 r_5 x8) S_3 (1 : Int32) x7 x6 x15))) S x13 x15))
def wp_X2_stepBack_158 (post : wS → Prop) (k_115 : wS → Nat → Int32 → Int32 → Int32 → Int32 → Int32 → Int32 → Int64 → Int64 → Int64 → Int32 → Prop) (S : wS) (a0 : Nat) (x1 : Int32) (x3 : Int32) (x5 : Int32) (x6 : Int32) (x7 : Int32) (x8 : Int32) (x9 : Int64) (x11 : Int64) (x13 : Int64) (x15 : Int32) : Prop :=
((¬ x3 = 0 → wp_X2_stepBack_189 post k_115 S a0 x1 x3 x5 x6 x7 x8 x9 x11 x13 x15) ∧
 (x3 = 0 → wp_X11_contains (fun r_2 S_3 => 
((r_2 = 0 → wp_X2_stepBack_189 post k_115 S_3 a0 x1 x3 x5 x6 x7 x8 x9 x11 x13 x15) ∧
 (¬ r_2 = 0 → wp_X2_indexOf (fun r_5 S_6 => 
wp_X2_reachWin (fun S_8 => 
wp_X2_stepBack_189 post k_115 S_8 a0 x1 x3 x5 x6 x7 x8 x9 x11 x13 x15) S_6 a0 x1 r_5 x8) S_3 (1 : Int32) x15 x6 x5))) S x9 x15))
def wp_X2_stepBack_115 (post : wS → Prop)  : Nat → wS → Nat → Int32 → Int32 → Int32 → Int32 → Int32 → Int32 → Int64 → Int64 → Int64 → Int32 → Prop
  | 0, _, _, _, _, _, _, _, _, _, _, _, _ => False
  | n + 1, S, a0, x1, x3, x5, x6, x7, x8, x9, x11, x13, x15 =>
    ∃ y_1 : Nat, sR S a0 0 = some y_1 ∧ y_1 ∈ sL S ∧ sK S y_1 = 5 ∧
    (((sI S y_1 2) ≤ x15 → post S) ∧
     (¬ (sI S y_1 2) ≤ x15 → ((x3 = 0 → wp_X2_stepBack_158 post (wp_X2_stepBack_115 post n) S a0 x1 x3 x5 x6 x7 x8 x9 x11 x13 x15) ∧
     (¬ x3 = 0 → wp_X11_contains (fun r_4 S_5 => 
    ((r_4 = 0 → wp_X2_stepBack_158 post (wp_X2_stepBack_115 post n) S_5 a0 x1 x3 x5 x6 x7 x8 x9 x11 x13 x15) ∧
     (¬ r_4 = 0 → wp_X2_indexOf (fun r_7 S_8 => 
    wp_X2_loseMove (fun S_10 => 
    wp_X2_stepBack_158 post (wp_X2_stepBack_115 post n) S_10 a0 x1 x3 x5 x6 x7 x8 x9 x11 x13 x15) S_8 a0 x1 r_7 x8) S_5 (0 : Int32) x7 x15 x5))) S x11 x15))))
def wp_X2_stepBack_26 (post : wS → Prop)  (S : wS) (a0 : Nat) (x1 : Int32) (x2 : Int32) (x3 : Int32) (t0 : Int32) : Prop :=
¬ (25 : Int32) = 0 ∧
∀ x_2 : Int32, x_2 = (t0 - t0 / (25 : Int32) * (25 : Int32)) →
¬ (25 : Int32) = 0 ∧
¬ (25 : Int32) = 0 ∧
∀ x_5 : Int32, x_5 = ((t0 / (25 : Int32)) - (t0 / (25 : Int32)) / (25 : Int32) * (25 : Int32)) →
¬ (25 : Int32) = 0 ∧
¬ (25 : Int32) = 0 ∧
∀ x_8 : Int32, x_8 = ((t0 / (25 : Int32)) / (25 : Int32)) →
wp_X2_valueAt (fun r_9 S_10 => 
∀ x_11 : Int32, x_11 = (r_9 + (1 : Int32)) →
∃ y_12 : Nat, sR S_10 a0 0 = some y_12 ∧ y_12 ∈ sL S_10 ∧ sK S_10 y_12 = 5 ∧
wp_X0_reach (fun r_13 S_14 => 
∃ y_15 : Nat, sR S_14 a0 0 = some y_15 ∧ y_15 ∈ sL S_14 ∧ sK S_14 y_15 = 5 ∧
wp_X0_reach (fun r_16 S_17 => 
∃ y_18 : Nat, sR S_17 a0 0 = some y_18 ∧ y_18 ∈ sL S_17 ∧ sK S_17 y_18 = 5 ∧
wp_X0_reach (fun r_19 S_20 => 
∃ n_21 : Nat, wp_X2_stepBack_115 post n_21 S_20 a0 x1 x3 x_2 x_5 x_8 x_11 r_13 r_16 r_19 (0 : Int32)) S_17 y_18 x1 x_2 ((jlshl (1 : Int64) x_8) ||| (jlshl (1 : Int64) x_5))) S_14 y_15 (1 : Int32) x_5 (0 : Int64)) S_10 y_12 (1 : Int32) x_8 (0 : Int64)) S a0 x1 x2
def wp_X2_stepBack_12 (post : wS → Prop)  (S : wS) (a0 : Nat) (x1 : Int32) (x2 : Int32) (t0 : Int32) : Prop :=
((t0 = 0 → wp_X2_stepBack_26 post S a0 x1 x2 t0 x2) ∧
 (¬ t0 = 0 → wp_X2_stepBack_26 post S a0 x1 x2 t0 (x2 - (15625 : Int32))))
def wp_X2_stepBack_0 (post : wS → Prop)  (S : wS) (a0 : Nat) (x1 : Int32) (x2 : Int32) : Prop :=
((x2 < (15625 : Int32) → wp_X2_stepBack_12 post S a0 x1 x2 (0 : Int32)) ∧
 (¬ x2 < (15625 : Int32) → wp_X2_stepBack_12 post S a0 x1 x2 (1 : Int32)))
abbrev r_X2_stepBack : Room := { frames := 3, cells := 0, slots := 0, locals := 70 }
def wp_X2_stepBack (post : wS → Prop) (S : wS) (a0 : Nat) (x1 : Int32) (x2 : Int32) : Prop := wp_X2_stepBack_0 post S a0 x1 x2
set_option maxHeartbeats 4000000 in
set_option maxRecDepth 100000 in
theorem t_X2_stepBack_220 {p : Program} {l : Launch} {e : Env} {s : State} {m : MethodId} {args : Array Value} {below : List Frame} {meth : Method} {c : Code} {D : va_G} {cy : Nat → ClassId} {X : va_W} {A : Nat → Prop} {S0 : wS} {post : wS → Prop} (F : CallFix p m c cX2_stepBack 16 s args wz_X2_stepBack RX2) (hr : meth.sig.returnType = none) (hlocks : meth.locks = false) (hK : wK D cy s) {k_115 : wS → Nat → Int32 → Int32 → Int32 → Int32 → Int32 → Int32 → Int64 → Int64 → Int64 → Int32 → Prop} (q_115 : ∀ {S : wS} {H : Heap} {locs : List Loc} {ls : Array Slot} {a0 : Nat} {x1 : Int32} {x3 : Int32} {x5 : Int32} {x6 : Int32} {x7 : Int32} {x8 : Int32} {x9 : Int64} {x11 : Int64} {x13 : Int64} {x15 : Int32}, k_115 S a0 x1 x3 x5 x6 x7 x8 x9 x11 x13 x15 → wO D cy X A s.heap S H locs → wX S0 S → lv_has ls 16 [(0, .ref a0), (1, .int x1), (3, .int x3), (5, .int x5), (6, .int x6), (7, .int x7), (8, .int x8), (9, .long x9), (11, .long x11), (13, .long x13), (15, .int x15)] → a0 ∈ sL S → sK S a0 = 7 → W p l e r_X2_stepBack s m args below meth c H locs 0 0 (MQ below (va_Qv (fun S9 => wX S0 S9 ∧ post S9) (wB D cy X A) A) args s 0 0 A) (F0 m 115 ls [])) : ∀ {S : wS} {H : Heap} {locs : List Loc} {ls : Array Slot} {a0 : Nat} {x1 : Int32} {x3 : Int32} {x5 : Int32} {x6 : Int32} {x7 : Int32} {x8 : Int32} {x9 : Int64} {x11 : Int64} {x13 : Int64} {x15 : Int32}, wp_X2_stepBack_220 post k_115 S a0 x1 x3 x5 x6 x7 x8 x9 x11 x13 x15 → wO D cy X A s.heap S H locs → wX S0 S → lv_has ls 16 [(0, .ref a0), (1, .int x1), (3, .int x3), (5, .int x5), (6, .int x6), (7, .int x7), (8, .int x8), (9, .long x9), (11, .long x11), (13, .long x13), (15, .int x15)] → a0 ∈ sL S → sK S a0 = 7 → W p l e r_X2_stepBack s m args below meth c H locs 0 0 (MQ below (va_Qv (fun S9 => wX S0 S9 ∧ post S9) (wB D cy X A) A) args s 0 0 A) (F0 m 220 ls []) := by
  obtain ⟨hx, hb, hml, hown, hts⟩ := id F
  have hwg : ∀ w ∈ WG, w.before args s = true := fun w h => hts w (List.mem_cons_of_mem _ h)
  intro S H locs ls a0 x1 x3 x5 x6 x7 x8 x9 x11 x13 x15 hp hW hE hl hL_a0 hK_a0
  unfold wp_X2_stepBack_220 at hp
  obtain ⟨x_1, ex_1⟩ : ∃ z : Int32, z = x15 + 1 := ⟨_, rfl⟩
  replace hp := hp x_1 ex_1
  refine lv_iinc (v := x_1) (lv' := [(15, .int x_1), (0, .ref a0), (1, .int x1), (3, .int x3), (5, .int x5), (6, .int x6), (7, .int x7), (8, .int x8), (9, .long x9), (11, .long x11), (13, .long x13)]) hx hb dX2_stepBack_220 hl (k := 10) rfl (by rw [ex_1]; rfl) (by decide) rfl (fun ls hl => ?_)
  refine lv_goto (tgt := 115) hx hb dX2_stepBack_223 (by decide) ?_
  exact q_115 hp hW hE (lv_sub hl [1, 2, 3, 4, 5, 6, 7, 8, 9, 10, 0] rfl) hL_a0 hK_a0
set_option maxHeartbeats 4000000 in
set_option maxRecDepth 100000 in
theorem t_X2_stepBack_189 {p : Program} {l : Launch} {e : Env} {s : State} {m : MethodId} {args : Array Value} {below : List Frame} {meth : Method} {c : Code} {D : va_G} {cy : Nat → ClassId} {X : va_W} {A : Nat → Prop} {S0 : wS} {post : wS → Prop} (F : CallFix p m c cX2_stepBack 16 s args wz_X2_stepBack RX2) (hr : meth.sig.returnType = none) (hlocks : meth.locks = false) (hK : wK D cy s) {k_115 : wS → Nat → Int32 → Int32 → Int32 → Int32 → Int32 → Int32 → Int64 → Int64 → Int64 → Int32 → Prop} (q_115 : ∀ {S : wS} {H : Heap} {locs : List Loc} {ls : Array Slot} {a0 : Nat} {x1 : Int32} {x3 : Int32} {x5 : Int32} {x6 : Int32} {x7 : Int32} {x8 : Int32} {x9 : Int64} {x11 : Int64} {x13 : Int64} {x15 : Int32}, k_115 S a0 x1 x3 x5 x6 x7 x8 x9 x11 x13 x15 → wO D cy X A s.heap S H locs → wX S0 S → lv_has ls 16 [(0, .ref a0), (1, .int x1), (3, .int x3), (5, .int x5), (6, .int x6), (7, .int x7), (8, .int x8), (9, .long x9), (11, .long x11), (13, .long x13), (15, .int x15)] → a0 ∈ sL S → sK S a0 = 7 → W p l e r_X2_stepBack s m args below meth c H locs 0 0 (MQ below (va_Qv (fun S9 => wX S0 S9 ∧ post S9) (wB D cy X A) A) args s 0 0 A) (F0 m 115 ls [])) : ∀ {S : wS} {H : Heap} {locs : List Loc} {ls : Array Slot} {a0 : Nat} {x1 : Int32} {x3 : Int32} {x5 : Int32} {x6 : Int32} {x7 : Int32} {x8 : Int32} {x9 : Int64} {x11 : Int64} {x13 : Int64} {x15 : Int32}, wp_X2_stepBack_189 post k_115 S a0 x1 x3 x5 x6 x7 x8 x9 x11 x13 x15 → wO D cy X A s.heap S H locs → wX S0 S → lv_has ls 16 [(0, .ref a0), (1, .int x1), (3, .int x3), (5, .int x5), (6, .int x6), (7, .int x7), (8, .int x8), (9, .long x9), (11, .long x11), (13, .long x13), (15, .int x15)] → a0 ∈ sL S → sK S a0 = 7 → W p l e r_X2_stepBack s m args below meth c H locs 0 0 (MQ below (va_Qv (fun S9 => wX S0 S9 ∧ post S9) (wB D cy X A) A) args s 0 0 A) (F0 m 189 ls []) := by
  obtain ⟨hx, hb, hml, hown, hts⟩ := id F
  have hwg : ∀ w ∈ WG, w.before args s = true := fun w h => hts w (List.mem_cons_of_mem _ h)
  intro S H locs ls a0 x1 x3 x5 x6 x7 x8 x9 x11 x13 x15 hp hW hE hl hL_a0 hK_a0
  unfold wp_X2_stepBack_189 at hp
  refine lv_iload_n hx hb dX2_stepBack_189 rfl (lv_at hl 2 rfl) ?_
  refine lv_if_ne (tgt := 220) hx hb dX2_stepBack_190 (by decide) (fun c_1 => ?_) (fun c_1 => ?_)
  · replace hp := hp.1 c_1
    exact t_X2_stepBack_220 F hr hlocks hK q_115 hp hW hE (lv_sub hl [0, 1, 2, 3, 4, 5, 6, 7, 8, 9, 10] rfl) hL_a0 hK_a0
  · replace hp := hp.2 c_1
    refine lv_lload hx hb dX2_stepBack_193 (lv_at hl 9 rfl) ?_
    refine lv_iload hx hb dX2_stepBack_195 (lv_at hl 10 rfl) ?_
    refine w_callI (va_runSN (As := [.long x13, .int x15]) (rest := []) F (c_X11_contains l hp H.size) ⟨va_cnB (host := "OpeningsCabinet") 2 hts (wg_cons wy_X11_contains.2.2) rfl rfl rfl (hK.2 (.methodLinkNest "OpeningsCabinet$Endings" 134 ⟨"OpeningsCabinet", "contains", "(JI)Z"⟩ "OpeningsCabinet") (by decide +kernel)) (hwg _ wy_X11_contains.2.1) ⟨by decide, by decide, by decide +kernel⟩ ⟨Nat.le_of_ble_eq_true rfl, Nat.le_of_ble_eq_true rfl⟩, hwg _ wy_X11_contains.1, trivial⟩ (w_preS hK hW) rfl rfl hl.1 rfl (lv_room (Nat.le_of_ble_eq_true rfl)) dX2_stepBack_197 ⟨Nat.le_of_ble_eq_true rfl, Nat.le_of_ble_eq_true rfl⟩) hW (fun r_2 S_3 H locs hp hW => ?_)
    obtain ⟨hX_S_3, hp⟩ := hp
    refine W.widen (k := 0) (n := 0) (Nat.le_refl 0) (Nat.le_refl 0) ?_
    have hE := hE.trans hX_S_3
    have hK_a0 : sK S_3 a0 = 7 := (hX_S_3 a0 hL_a0).2.1.trans hK_a0
    have hL_a0 : a0 ∈ sL S_3 := (hX_S_3 a0 hL_a0).1
    refine lv_if_eq (tgt := 220) hx hb dX2_stepBack_200 (by decide) (fun c_4 => ?_) (fun c_4 => ?_)
    · replace hp := hp.1 c_4
      exact t_X2_stepBack_220 F hr hlocks hK q_115 hp hW hE (lv_sub hl [0, 1, 2, 3, 4, 5, 6, 7, 8, 9, 10] rfl) hL_a0 hK_a0
    · replace hp := hp.2 c_4
      refine lv_aload_n hx hb dX2_stepBack_203 rfl (lv_at hl 0 rfl) ?_
      refine lv_iload_n hx hb dX2_stepBack_204 rfl (lv_at hl 1 rfl) ?_
      refine lv_iconst (v := 1) hx hb dX2_stepBack_205 (by decide) ?_
      refine lv_iload hx hb dX2_stepBack_206 (lv_at hl 5 rfl) ?_
      refine lv_iload hx hb dX2_stepBack_208 (lv_at hl 4 rfl) ?_
      refine lv_iload hx hb dX2_stepBack_210 (lv_at hl 10 rfl) ?_
      refine w_callI (va_runS (As := [.int (1 : Int32), .int x7, .int x6, .int x15]) (rest := [.int x1, .ref a0]) F (c_X2_indexOf l hp H.size) (va_cwS 4 hts (wg_S wm_RX2_96 wy_X2_indexOf) rfl rfl rfl (by decide +kernel) ⟨Nat.le_of_ble_eq_true rfl, Nat.le_of_ble_eq_true rfl⟩) (w_preS hK hW) rfl rfl hl.1 rfl (lv_room (Nat.le_of_ble_eq_true rfl)) dX2_stepBack_212 ⟨Nat.le_of_ble_eq_true rfl, Nat.le_of_ble_eq_true rfl⟩) hW (fun r_5 S_6 H locs hp hW => ?_)
      obtain ⟨hX_S_6, hp⟩ := hp
      refine W.widen (k := 0) (n := 0) (Nat.le_refl 0) (Nat.le_refl 0) ?_
      have hE := hE.trans hX_S_6
      have hK_a0 : sK S_6 a0 = 7 := (hX_S_6 a0 hL_a0).2.1.trans hK_a0
      have hL_a0 : a0 ∈ sL S_6 := (hX_S_6 a0 hL_a0).1
      refine lv_iload hx hb dX2_stepBack_215 (lv_at hl 6 rfl) ?_
      refine w_callV (va_runV (As := [.int x1, .int r_5, .int x8]) (rest := []) F (c_X2_reachWin l hL_a0 hK_a0 hp H.size) (cwV (C := RX2) 3 hts (wg_V wm_RX2_152 wy_X2_reachWin) rfl rfl rfl (by decide +kernel) ⟨Nat.le_of_ble_eq_true rfl, Nat.le_of_ble_eq_true rfl⟩) (w_preV hK hW hL_a0 hK_a0 (by decide) rfl) rfl rfl hl.1 rfl (lv_room (Nat.le_of_ble_eq_true rfl)) dX2_stepBack_217 ⟨Nat.le_of_ble_eq_true rfl, Nat.le_of_ble_eq_true rfl⟩) hW (fun S_8 H locs hp hW => ?_)
      obtain ⟨hX_S_8, hp⟩ := hp
      refine W.widen (k := 0) (n := 0) (Nat.le_refl 0) (Nat.le_refl 0) ?_
      have hE := hE.trans hX_S_8
      have hK_a0 : sK S_8 a0 = 7 := (hX_S_8 a0 hL_a0).2.1.trans hK_a0
      have hL_a0 : a0 ∈ sL S_8 := (hX_S_8 a0 hL_a0).1
      exact t_X2_stepBack_220 F hr hlocks hK q_115 hp hW hE (lv_sub hl [0, 1, 2, 3, 4, 5, 6, 7, 8, 9, 10] rfl) hL_a0 hK_a0
set_option maxHeartbeats 4000000 in
set_option maxRecDepth 100000 in
theorem t_X2_stepBack_158 {p : Program} {l : Launch} {e : Env} {s : State} {m : MethodId} {args : Array Value} {below : List Frame} {meth : Method} {c : Code} {D : va_G} {cy : Nat → ClassId} {X : va_W} {A : Nat → Prop} {S0 : wS} {post : wS → Prop} (F : CallFix p m c cX2_stepBack 16 s args wz_X2_stepBack RX2) (hr : meth.sig.returnType = none) (hlocks : meth.locks = false) (hK : wK D cy s) {k_115 : wS → Nat → Int32 → Int32 → Int32 → Int32 → Int32 → Int32 → Int64 → Int64 → Int64 → Int32 → Prop} (q_115 : ∀ {S : wS} {H : Heap} {locs : List Loc} {ls : Array Slot} {a0 : Nat} {x1 : Int32} {x3 : Int32} {x5 : Int32} {x6 : Int32} {x7 : Int32} {x8 : Int32} {x9 : Int64} {x11 : Int64} {x13 : Int64} {x15 : Int32}, k_115 S a0 x1 x3 x5 x6 x7 x8 x9 x11 x13 x15 → wO D cy X A s.heap S H locs → wX S0 S → lv_has ls 16 [(0, .ref a0), (1, .int x1), (3, .int x3), (5, .int x5), (6, .int x6), (7, .int x7), (8, .int x8), (9, .long x9), (11, .long x11), (13, .long x13), (15, .int x15)] → a0 ∈ sL S → sK S a0 = 7 → W p l e r_X2_stepBack s m args below meth c H locs 0 0 (MQ below (va_Qv (fun S9 => wX S0 S9 ∧ post S9) (wB D cy X A) A) args s 0 0 A) (F0 m 115 ls [])) : ∀ {S : wS} {H : Heap} {locs : List Loc} {ls : Array Slot} {a0 : Nat} {x1 : Int32} {x3 : Int32} {x5 : Int32} {x6 : Int32} {x7 : Int32} {x8 : Int32} {x9 : Int64} {x11 : Int64} {x13 : Int64} {x15 : Int32}, wp_X2_stepBack_158 post k_115 S a0 x1 x3 x5 x6 x7 x8 x9 x11 x13 x15 → wO D cy X A s.heap S H locs → wX S0 S → lv_has ls 16 [(0, .ref a0), (1, .int x1), (3, .int x3), (5, .int x5), (6, .int x6), (7, .int x7), (8, .int x8), (9, .long x9), (11, .long x11), (13, .long x13), (15, .int x15)] → a0 ∈ sL S → sK S a0 = 7 → W p l e r_X2_stepBack s m args below meth c H locs 0 0 (MQ below (va_Qv (fun S9 => wX S0 S9 ∧ post S9) (wB D cy X A) A) args s 0 0 A) (F0 m 158 ls []) := by
  obtain ⟨hx, hb, hml, hown, hts⟩ := id F
  have hwg : ∀ w ∈ WG, w.before args s = true := fun w h => hts w (List.mem_cons_of_mem _ h)
  intro S H locs ls a0 x1 x3 x5 x6 x7 x8 x9 x11 x13 x15 hp hW hE hl hL_a0 hK_a0
  unfold wp_X2_stepBack_158 at hp
  refine lv_iload_n hx hb dX2_stepBack_158 rfl (lv_at hl 2 rfl) ?_
  refine lv_if_ne (tgt := 189) hx hb dX2_stepBack_159 (by decide) (fun c_1 => ?_) (fun c_1 => ?_)
  · replace hp := hp.1 c_1
    exact t_X2_stepBack_189 F hr hlocks hK q_115 hp hW hE (lv_sub hl [0, 1, 2, 3, 4, 5, 6, 7, 8, 9, 10] rfl) hL_a0 hK_a0
  · replace hp := hp.2 c_1
    refine lv_lload hx hb dX2_stepBack_162 (lv_at hl 7 rfl) ?_
    refine lv_iload hx hb dX2_stepBack_164 (lv_at hl 10 rfl) ?_
    refine w_callI (va_runSN (As := [.long x9, .int x15]) (rest := []) F (c_X11_contains l hp H.size) ⟨va_cnB (host := "OpeningsCabinet") 2 hts (wg_cons wy_X11_contains.2.2) rfl rfl rfl (hK.2 (.methodLinkNest "OpeningsCabinet$Endings" 134 ⟨"OpeningsCabinet", "contains", "(JI)Z"⟩ "OpeningsCabinet") (by decide +kernel)) (hwg _ wy_X11_contains.2.1) ⟨by decide, by decide, by decide +kernel⟩ ⟨Nat.le_of_ble_eq_true rfl, Nat.le_of_ble_eq_true rfl⟩, hwg _ wy_X11_contains.1, trivial⟩ (w_preS hK hW) rfl rfl hl.1 rfl (lv_room (Nat.le_of_ble_eq_true rfl)) dX2_stepBack_166 ⟨Nat.le_of_ble_eq_true rfl, Nat.le_of_ble_eq_true rfl⟩) hW (fun r_2 S_3 H locs hp hW => ?_)
    obtain ⟨hX_S_3, hp⟩ := hp
    refine W.widen (k := 0) (n := 0) (Nat.le_refl 0) (Nat.le_refl 0) ?_
    have hE := hE.trans hX_S_3
    have hK_a0 : sK S_3 a0 = 7 := (hX_S_3 a0 hL_a0).2.1.trans hK_a0
    have hL_a0 : a0 ∈ sL S_3 := (hX_S_3 a0 hL_a0).1
    refine lv_if_eq (tgt := 189) hx hb dX2_stepBack_169 (by decide) (fun c_4 => ?_) (fun c_4 => ?_)
    · replace hp := hp.1 c_4
      exact t_X2_stepBack_189 F hr hlocks hK q_115 hp hW hE (lv_sub hl [0, 1, 2, 3, 4, 5, 6, 7, 8, 9, 10] rfl) hL_a0 hK_a0
    · replace hp := hp.2 c_4
      refine lv_aload_n hx hb dX2_stepBack_172 rfl (lv_at hl 0 rfl) ?_
      refine lv_iload_n hx hb dX2_stepBack_173 rfl (lv_at hl 1 rfl) ?_
      refine lv_iconst (v := 1) hx hb dX2_stepBack_174 (by decide) ?_
      refine lv_iload hx hb dX2_stepBack_175 (lv_at hl 10 rfl) ?_
      refine lv_iload hx hb dX2_stepBack_177 (lv_at hl 4 rfl) ?_
      refine lv_iload hx hb dX2_stepBack_179 (lv_at hl 3 rfl) ?_
      refine w_callI (va_runS (As := [.int (1 : Int32), .int x15, .int x6, .int x5]) (rest := [.int x1, .ref a0]) F (c_X2_indexOf l hp H.size) (va_cwS 4 hts (wg_S wm_RX2_96 wy_X2_indexOf) rfl rfl rfl (by decide +kernel) ⟨Nat.le_of_ble_eq_true rfl, Nat.le_of_ble_eq_true rfl⟩) (w_preS hK hW) rfl rfl hl.1 rfl (lv_room (Nat.le_of_ble_eq_true rfl)) dX2_stepBack_181 ⟨Nat.le_of_ble_eq_true rfl, Nat.le_of_ble_eq_true rfl⟩) hW (fun r_5 S_6 H locs hp hW => ?_)
      obtain ⟨hX_S_6, hp⟩ := hp
      refine W.widen (k := 0) (n := 0) (Nat.le_refl 0) (Nat.le_refl 0) ?_
      have hE := hE.trans hX_S_6
      have hK_a0 : sK S_6 a0 = 7 := (hX_S_6 a0 hL_a0).2.1.trans hK_a0
      have hL_a0 : a0 ∈ sL S_6 := (hX_S_6 a0 hL_a0).1
      refine lv_iload hx hb dX2_stepBack_184 (lv_at hl 6 rfl) ?_
      refine w_callV (va_runV (As := [.int x1, .int r_5, .int x8]) (rest := []) F (c_X2_reachWin l hL_a0 hK_a0 hp H.size) (cwV (C := RX2) 3 hts (wg_V wm_RX2_152 wy_X2_reachWin) rfl rfl rfl (by decide +kernel) ⟨Nat.le_of_ble_eq_true rfl, Nat.le_of_ble_eq_true rfl⟩) (w_preV hK hW hL_a0 hK_a0 (by decide) rfl) rfl rfl hl.1 rfl (lv_room (Nat.le_of_ble_eq_true rfl)) dX2_stepBack_186 ⟨Nat.le_of_ble_eq_true rfl, Nat.le_of_ble_eq_true rfl⟩) hW (fun S_8 H locs hp hW => ?_)
      obtain ⟨hX_S_8, hp⟩ := hp
      refine W.widen (k := 0) (n := 0) (Nat.le_refl 0) (Nat.le_refl 0) ?_
      have hE := hE.trans hX_S_8
      have hK_a0 : sK S_8 a0 = 7 := (hX_S_8 a0 hL_a0).2.1.trans hK_a0
      have hL_a0 : a0 ∈ sL S_8 := (hX_S_8 a0 hL_a0).1
      exact t_X2_stepBack_189 F hr hlocks hK q_115 hp hW hE (lv_sub hl [0, 1, 2, 3, 4, 5, 6, 7, 8, 9, 10] rfl) hL_a0 hK_a0
set_option maxHeartbeats 4000000 in
set_option maxRecDepth 100000 in
theorem t_X2_stepBack_115 {p : Program} {l : Launch} {e : Env} {s : State} {m : MethodId} {args : Array Value} {below : List Frame} {meth : Method} {c : Code} {D : va_G} {cy : Nat → ClassId} {X : va_W} {A : Nat → Prop} {S0 : wS} {post : wS → Prop} (F : CallFix p m c cX2_stepBack 16 s args wz_X2_stepBack RX2) (hr : meth.sig.returnType = none) (hlocks : meth.locks = false) (hK : wK D cy s) : ∀ (n : Nat) {S : wS} {H : Heap} {locs : List Loc} {ls : Array Slot} {a0 : Nat} {x1 : Int32} {x3 : Int32} {x5 : Int32} {x6 : Int32} {x7 : Int32} {x8 : Int32} {x9 : Int64} {x11 : Int64} {x13 : Int64} {x15 : Int32}, wp_X2_stepBack_115 post n S a0 x1 x3 x5 x6 x7 x8 x9 x11 x13 x15 → wO D cy X A s.heap S H locs → wX S0 S → lv_has ls 16 [(0, .ref a0), (1, .int x1), (3, .int x3), (5, .int x5), (6, .int x6), (7, .int x7), (8, .int x8), (9, .long x9), (11, .long x11), (13, .long x13), (15, .int x15)] → a0 ∈ sL S → sK S a0 = 7 → W p l e r_X2_stepBack s m args below meth c H locs 0 0 (MQ below (va_Qv (fun S9 => wX S0 S9 ∧ post S9) (wB D cy X A) A) args s 0 0 A) (F0 m 115 ls []) := by
  obtain ⟨hx, hb, hml, hown, hts⟩ := id F
  have hwg : ∀ w ∈ WG, w.before args s = true := fun w h => hts w (List.mem_cons_of_mem _ h)
  have i_5 : ∀ w ∈ u_ws RX0 TX0 12, w ∈ wz_X2_stepBack := fun w h => List.mem_cons_of_mem _ (wu_5 w h)
  have i_7 : ∀ w ∈ u_ws RX2 TX2 8, w ∈ wz_X2_stepBack := fun w h => List.mem_cons_of_mem _ (wu_7 w h)
  have k_35 := hwg _ wf_RX2_35
  intro n
  induction n with
  | zero =>
    intro S H locs ls a0 x1 x3 x5 x6 x7 x8 x9 x11 x13 x15 hp
    exact hp.elim
  | succ n ih =>
    intro S H locs ls a0 x1 x3 x5 x6 x7 x8 x9 x11 x13 x15 hp hW hE hl hL_a0 hK_a0
    unfold wp_X2_stepBack_115 at hp
    refine lv_iload hx hb dX2_stepBack_115 (lv_at hl 10 rfl) ?_
    refine lv_aload_n hx hb dX2_stepBack_117 rfl (lv_at hl 0 rfl) ?_
    obtain ⟨y_1, ey_1, hL_y_1, hK_y_1, hp⟩ := hp
    refine w_get (k := 7) (f := 0) (T := TX2) (v := .ref y_1) F hK hW hL_a0 hK_a0 (by decide) rfl rfl (by decide) i_7 k_35 (by rw [show wv 7 0 S a0 = va_rf (sR S a0 0) from rfl, ey_1]; rfl) dX2_stepBack_118 ?_
    refine w_getN (k := 5) (f := 2) (T := TX0) (v := .int (sI S y_1 2)) F hK hW hL_y_1 hK_y_1 (by decide) rfl rfl (by decide) i_5 (hK.2 (.fieldLinkNest "OpeningsCabinet$Endings" 104 "OpeningsCabinet$Board" "size" "I" "OpeningsCabinet") (by decide +kernel)) rfl dX2_stepBack_121 ?_
    refine lv_icmp_ge (tgt := 226) hx hb dX2_stepBack_124 (by decide) (fun c_2 => ?_) (fun c_2 => ?_)
    · replace hp := hp.1 c_2
      exact w_vret hx hb hr hlocks hK hW ⟨hE, hp⟩ dX2_stepBack_226
    · replace hp := hp.2 c_2
      refine lv_iload_n hx hb dX2_stepBack_127 rfl (lv_at hl 2 rfl) ?_
      refine lv_if_eq (tgt := 158) hx hb dX2_stepBack_128 (by decide) (fun c_3 => ?_) (fun c_3 => ?_)
      · replace hp := hp.1 c_3
        exact t_X2_stepBack_158 F hr hlocks hK ih hp hW hE (lv_sub hl [0, 1, 2, 3, 4, 5, 6, 7, 8, 9, 10] rfl) hL_a0 hK_a0
      · replace hp := hp.2 c_3
        refine lv_lload hx hb dX2_stepBack_131 (lv_at hl 8 rfl) ?_
        refine lv_iload hx hb dX2_stepBack_133 (lv_at hl 10 rfl) ?_
        refine w_callI (va_runSN (As := [.long x11, .int x15]) (rest := []) F (c_X11_contains l hp H.size) ⟨va_cnB (host := "OpeningsCabinet") 2 hts (wg_cons wy_X11_contains.2.2) rfl rfl rfl (hK.2 (.methodLinkNest "OpeningsCabinet$Endings" 134 ⟨"OpeningsCabinet", "contains", "(JI)Z"⟩ "OpeningsCabinet") (by decide +kernel)) (hwg _ wy_X11_contains.2.1) ⟨by decide, by decide, by decide +kernel⟩ ⟨Nat.le_of_ble_eq_true rfl, Nat.le_of_ble_eq_true rfl⟩, hwg _ wy_X11_contains.1, trivial⟩ (w_preS hK hW) rfl rfl hl.1 rfl (lv_room (Nat.le_of_ble_eq_true rfl)) dX2_stepBack_135 ⟨Nat.le_of_ble_eq_true rfl, Nat.le_of_ble_eq_true rfl⟩) hW (fun r_4 S_5 H locs hp hW => ?_)
        obtain ⟨hX_S_5, hp⟩ := hp
        refine W.widen (k := 0) (n := 0) (Nat.le_refl 0) (Nat.le_refl 0) ?_
        have hE := hE.trans hX_S_5
        have hK_a0 : sK S_5 a0 = 7 := (hX_S_5 a0 hL_a0).2.1.trans hK_a0
        have hL_a0 : a0 ∈ sL S_5 := (hX_S_5 a0 hL_a0).1
        refine lv_if_eq (tgt := 158) hx hb dX2_stepBack_138 (by decide) (fun c_6 => ?_) (fun c_6 => ?_)
        · replace hp := hp.1 c_6
          exact t_X2_stepBack_158 F hr hlocks hK ih hp hW hE (lv_sub hl [0, 1, 2, 3, 4, 5, 6, 7, 8, 9, 10] rfl) hL_a0 hK_a0
        · replace hp := hp.2 c_6
          refine lv_aload_n hx hb dX2_stepBack_141 rfl (lv_at hl 0 rfl) ?_
          refine lv_iload_n hx hb dX2_stepBack_142 rfl (lv_at hl 1 rfl) ?_
          refine lv_iconst (v := 0) hx hb dX2_stepBack_143 (by decide) ?_
          refine lv_iload hx hb dX2_stepBack_144 (lv_at hl 5 rfl) ?_
          refine lv_iload hx hb dX2_stepBack_146 (lv_at hl 10 rfl) ?_
          refine lv_iload hx hb dX2_stepBack_148 (lv_at hl 3 rfl) ?_
          refine w_callI (va_runS (As := [.int (0 : Int32), .int x7, .int x15, .int x5]) (rest := [.int x1, .ref a0]) F (c_X2_indexOf l hp H.size) (va_cwS 4 hts (wg_S wm_RX2_96 wy_X2_indexOf) rfl rfl rfl (by decide +kernel) ⟨Nat.le_of_ble_eq_true rfl, Nat.le_of_ble_eq_true rfl⟩) (w_preS hK hW) rfl rfl hl.1 rfl (lv_room (Nat.le_of_ble_eq_true rfl)) dX2_stepBack_150 ⟨Nat.le_of_ble_eq_true rfl, Nat.le_of_ble_eq_true rfl⟩) hW (fun r_7 S_8 H locs hp hW => ?_)
          obtain ⟨hX_S_8, hp⟩ := hp
          refine W.widen (k := 0) (n := 0) (Nat.le_refl 0) (Nat.le_refl 0) ?_
          have hE := hE.trans hX_S_8
          have hK_a0 : sK S_8 a0 = 7 := (hX_S_8 a0 hL_a0).2.1.trans hK_a0
          have hL_a0 : a0 ∈ sL S_8 := (hX_S_8 a0 hL_a0).1
          refine lv_iload hx hb dX2_stepBack_153 (lv_at hl 6 rfl) ?_
          refine w_callV (va_runV (As := [.int x1, .int r_7, .int x8]) (rest := []) F (c_X2_loseMove l hL_a0 hK_a0 hp H.size) (cwV (C := RX2) 3 hts (wg_V wm_RX2_149 wy_X2_loseMove) rfl rfl rfl (by decide +kernel) ⟨Nat.le_of_ble_eq_true rfl, Nat.le_of_ble_eq_true rfl⟩) (w_preV hK hW hL_a0 hK_a0 (by decide) rfl) rfl rfl hl.1 rfl (lv_room (Nat.le_of_ble_eq_true rfl)) dX2_stepBack_155 ⟨Nat.le_of_ble_eq_true rfl, Nat.le_of_ble_eq_true rfl⟩) hW (fun S_10 H locs hp hW => ?_)
          obtain ⟨hX_S_10, hp⟩ := hp
          refine W.widen (k := 0) (n := 0) (Nat.le_refl 0) (Nat.le_refl 0) ?_
          have hE := hE.trans hX_S_10
          have hK_a0 : sK S_10 a0 = 7 := (hX_S_10 a0 hL_a0).2.1.trans hK_a0
          have hL_a0 : a0 ∈ sL S_10 := (hX_S_10 a0 hL_a0).1
          exact t_X2_stepBack_158 F hr hlocks hK ih hp hW hE (lv_sub hl [0, 1, 2, 3, 4, 5, 6, 7, 8, 9, 10] rfl) hL_a0 hK_a0
set_option maxHeartbeats 4000000 in
set_option maxRecDepth 100000 in
theorem t_X2_stepBack_26 {p : Program} {l : Launch} {e : Env} {s : State} {m : MethodId} {args : Array Value} {below : List Frame} {meth : Method} {c : Code} {D : va_G} {cy : Nat → ClassId} {X : va_W} {A : Nat → Prop} {S0 : wS} {post : wS → Prop} (F : CallFix p m c cX2_stepBack 16 s args wz_X2_stepBack RX2) (hr : meth.sig.returnType = none) (hlocks : meth.locks = false) (hK : wK D cy s) : ∀ {S : wS} {H : Heap} {locs : List Loc} {ls : Array Slot} {a0 : Nat} {x1 : Int32} {x2 : Int32} {x3 : Int32} {t0 : Int32}, wp_X2_stepBack_26 post S a0 x1 x2 x3 t0 → wO D cy X A s.heap S H locs → wX S0 S → lv_has ls 16 [(0, .ref a0), (1, .int x1), (2, .int x2), (3, .int x3)] → a0 ∈ sL S → sK S a0 = 7 → W p l e r_X2_stepBack s m args below meth c H locs 0 0 (MQ below (va_Qv (fun S9 => wX S0 S9 ∧ post S9) (wB D cy X A) A) args s 0 0 A) (F0 m 26 ls [.int t0]) := by
  obtain ⟨hx, hb, hml, hown, hts⟩ := id F
  have hwg : ∀ w ∈ WG, w.before args s = true := fun w h => hts w (List.mem_cons_of_mem _ h)
  have i_7 : ∀ w ∈ u_ws RX2 TX2 8, w ∈ wz_X2_stepBack := fun w h => List.mem_cons_of_mem _ (wu_7 w h)
  have k_35 := hwg _ wf_RX2_35
  intro S H locs ls a0 x1 x2 x3 t0 hp hW hE hl hL_a0 hK_a0
  unfold wp_X2_stepBack_26 at hp
  refine lv_istore (lv' := [(4, .int t0), (0, .ref a0), (1, .int x1), (2, .int x2), (3, .int x3)]) hx hb dX2_stepBack_26 hl (by decide) rfl (fun ls hl => ?_)
  refine lv_iload hx hb dX2_stepBack_28 (lv_at hl 0 rfl) ?_
  refine lv_bipush (v := 25) hx hb dX2_stepBack_30 (by decide) ?_
  obtain ⟨h_1, hp⟩ := hp
  refine lv_irem hx hb dX2_stepBack_32 h_1 ?_
  refine lv_topi (fun x_2 ex_2 => ?_)
  replace hp := hp x_2 ex_2
  refine lv_istore (lv' := [(5, .int x_2), (4, .int t0), (0, .ref a0), (1, .int x1), (2, .int x2), (3, .int x3)]) hx hb dX2_stepBack_33 hl (by decide) rfl (fun ls hl => ?_)
  refine lv_iload hx hb dX2_stepBack_35 (lv_at hl 1 rfl) ?_
  refine lv_bipush (v := 25) hx hb dX2_stepBack_37 (by decide) ?_
  obtain ⟨h_3, hp⟩ := hp
  refine lv_idiv hx hb dX2_stepBack_39 h_3 ?_
  refine lv_bipush (v := 25) hx hb dX2_stepBack_40 (by decide) ?_
  obtain ⟨h_4, hp⟩ := hp
  refine lv_irem hx hb dX2_stepBack_42 h_4 ?_
  refine lv_topi (fun x_5 ex_5 => ?_)
  replace hp := hp x_5 ex_5
  refine lv_istore (lv' := [(6, .int x_5), (5, .int x_2), (4, .int t0), (0, .ref a0), (1, .int x1), (2, .int x2), (3, .int x3)]) hx hb dX2_stepBack_43 hl (by decide) rfl (fun ls hl => ?_)
  refine lv_iload hx hb dX2_stepBack_45 (lv_at hl 2 rfl) ?_
  refine lv_bipush (v := 25) hx hb dX2_stepBack_47 (by decide) ?_
  obtain ⟨h_6, hp⟩ := hp
  refine lv_idiv hx hb dX2_stepBack_49 h_6 ?_
  refine lv_bipush (v := 25) hx hb dX2_stepBack_50 (by decide) ?_
  obtain ⟨h_7, hp⟩ := hp
  refine lv_idiv hx hb dX2_stepBack_52 h_7 ?_
  refine lv_topi (fun x_8 ex_8 => ?_)
  replace hp := hp x_8 ex_8
  refine lv_istore (lv' := [(7, .int x_8), (6, .int x_5), (5, .int x_2), (4, .int t0), (0, .ref a0), (1, .int x1), (2, .int x2), (3, .int x3)]) hx hb dX2_stepBack_53 hl (by decide) rfl (fun ls hl => ?_)
  refine lv_aload_n hx hb dX2_stepBack_55 rfl (lv_at hl 4 rfl) ?_
  refine lv_iload_n hx hb dX2_stepBack_56 rfl (lv_at hl 5 rfl) ?_
  refine lv_iload_n hx hb dX2_stepBack_57 rfl (lv_at hl 6 rfl) ?_
  refine w_callI (va_runV (As := [.int x1, .int x2]) (rest := []) F (c_X2_valueAt l hL_a0 hK_a0 hp H.size) (cwV (C := RX2) 2 hts (wg_V wm_RX2_100 wy_X2_valueAt) rfl rfl rfl (by decide +kernel) ⟨Nat.le_of_ble_eq_true rfl, Nat.le_of_ble_eq_true rfl⟩) (w_preV hK hW hL_a0 hK_a0 (by decide) rfl) rfl rfl hl.1 rfl (lv_room (Nat.le_of_ble_eq_true rfl)) dX2_stepBack_58 ⟨Nat.le_of_ble_eq_true rfl, Nat.le_of_ble_eq_true rfl⟩) hW (fun r_9 S_10 H locs hp hW => ?_)
  obtain ⟨hX_S_10, hp⟩ := hp
  refine W.widen (k := 0) (n := 0) (Nat.le_refl 0) (Nat.le_refl 0) ?_
  have hE := hE.trans hX_S_10
  have hK_a0 : sK S_10 a0 = 7 := (hX_S_10 a0 hL_a0).2.1.trans hK_a0
  have hL_a0 : a0 ∈ sL S_10 := (hX_S_10 a0 hL_a0).1
  refine lv_iconst (v := 1) hx hb dX2_stepBack_61 (by decide) ?_
  refine lv_iadd hx hb dX2_stepBack_62 ?_
  refine lv_topi (fun x_11 ex_11 => ?_)
  replace hp := hp x_11 ex_11
  refine lv_istore (lv' := [(8, .int x_11), (7, .int x_8), (6, .int x_5), (5, .int x_2), (4, .int t0), (0, .ref a0), (1, .int x1), (2, .int x2), (3, .int x3)]) hx hb dX2_stepBack_63 hl (by decide) rfl (fun ls hl => ?_)
  refine lv_aload_n hx hb dX2_stepBack_65 rfl (lv_at hl 5 rfl) ?_
  obtain ⟨y_12, ey_12, hL_y_12, hK_y_12, hp⟩ := hp
  refine w_get (k := 7) (f := 0) (T := TX2) (v := .ref y_12) F hK hW hL_a0 hK_a0 (by decide) rfl rfl (by decide) i_7 k_35 (by rw [show wv 7 0 S_10 a0 = va_rf (sR S_10 a0 0) from rfl, ey_12]; rfl) dX2_stepBack_66 ?_
  refine lv_iconst (v := 1) hx hb dX2_stepBack_69 (by decide) ?_
  refine lv_iload hx hb dX2_stepBack_70 (lv_at hl 1 rfl) ?_
  refine lv_lconst (v := 0) hx hb dX2_stepBack_72 (by decide) ?_
  refine w_callJ (va_runV (As := [.int (1 : Int32), .int x_8, .long (0 : Int64)]) (rest := []) F (c_X0_reach l hL_y_12 hK_y_12 hp H.size) (cwV (C := RX0) 3 hts (wg_V wm_RX2_130 wy_X0_reach) rfl rfl rfl (by decide +kernel) ⟨Nat.le_of_ble_eq_true rfl, Nat.le_of_ble_eq_true rfl⟩) (w_preV hK hW hL_y_12 hK_y_12 (by decide) rfl) rfl rfl hl.1 rfl (lv_room (Nat.le_of_ble_eq_true rfl)) dX2_stepBack_73 ⟨Nat.le_of_ble_eq_true rfl, Nat.le_of_ble_eq_true rfl⟩) hW (fun r_13 S_14 H locs hp hW => ?_)
  obtain ⟨hX_S_14, hp⟩ := hp
  refine W.widen (k := 0) (n := 0) (Nat.le_refl 0) (Nat.le_refl 0) ?_
  have hE := hE.trans hX_S_14
  have hK_a0 : sK S_14 a0 = 7 := (hX_S_14 a0 hL_a0).2.1.trans hK_a0
  have hL_a0 : a0 ∈ sL S_14 := (hX_S_14 a0 hL_a0).1
  refine lv_lstore (lv' := [(9, .long r_13), (8, .int x_11), (7, .int x_8), (6, .int x_5), (5, .int x_2), (4, .int t0), (0, .ref a0), (1, .int x1), (2, .int x2), (3, .int x3)]) hx hb dX2_stepBack_76 hl (by decide) rfl (fun ls hl => ?_)
  refine lv_aload_n hx hb dX2_stepBack_78 rfl (lv_at hl 6 rfl) ?_
  obtain ⟨y_15, ey_15, hL_y_15, hK_y_15, hp⟩ := hp
  refine w_get (k := 7) (f := 0) (T := TX2) (v := .ref y_15) F hK hW hL_a0 hK_a0 (by decide) rfl rfl (by decide) i_7 k_35 (by rw [show wv 7 0 S_14 a0 = va_rf (sR S_14 a0 0) from rfl, ey_15]; rfl) dX2_stepBack_79 ?_
  refine lv_iconst (v := 1) hx hb dX2_stepBack_82 (by decide) ?_
  refine lv_iload hx hb dX2_stepBack_83 (lv_at hl 3 rfl) ?_
  refine lv_lconst (v := 0) hx hb dX2_stepBack_85 (by decide) ?_
  refine w_callJ (va_runV (As := [.int (1 : Int32), .int x_5, .long (0 : Int64)]) (rest := []) F (c_X0_reach l hL_y_15 hK_y_15 hp H.size) (cwV (C := RX0) 3 hts (wg_V wm_RX2_130 wy_X0_reach) rfl rfl rfl (by decide +kernel) ⟨Nat.le_of_ble_eq_true rfl, Nat.le_of_ble_eq_true rfl⟩) (w_preV hK hW hL_y_15 hK_y_15 (by decide) rfl) rfl rfl hl.1 rfl (lv_room (Nat.le_of_ble_eq_true rfl)) dX2_stepBack_86 ⟨Nat.le_of_ble_eq_true rfl, Nat.le_of_ble_eq_true rfl⟩) hW (fun r_16 S_17 H locs hp hW => ?_)
  obtain ⟨hX_S_17, hp⟩ := hp
  refine W.widen (k := 0) (n := 0) (Nat.le_refl 0) (Nat.le_refl 0) ?_
  have hE := hE.trans hX_S_17
  have hK_a0 : sK S_17 a0 = 7 := (hX_S_17 a0 hL_a0).2.1.trans hK_a0
  have hL_a0 : a0 ∈ sL S_17 := (hX_S_17 a0 hL_a0).1
  refine lv_lstore (lv' := [(11, .long r_16), (9, .long r_13), (8, .int x_11), (7, .int x_8), (6, .int x_5), (5, .int x_2), (4, .int t0), (0, .ref a0), (1, .int x1), (2, .int x2), (3, .int x3)]) hx hb dX2_stepBack_89 hl (by decide) rfl (fun ls hl => ?_)
  refine lv_aload_n hx hb dX2_stepBack_91 rfl (lv_at hl 7 rfl) ?_
  obtain ⟨y_18, ey_18, hL_y_18, hK_y_18, hp⟩ := hp
  refine w_get (k := 7) (f := 0) (T := TX2) (v := .ref y_18) F hK hW hL_a0 hK_a0 (by decide) rfl rfl (by decide) i_7 k_35 (by rw [show wv 7 0 S_17 a0 = va_rf (sR S_17 a0 0) from rfl, ey_18]; rfl) dX2_stepBack_92 ?_
  refine lv_iload_n hx hb dX2_stepBack_95 rfl (lv_at hl 8 rfl) ?_
  refine lv_iload hx hb dX2_stepBack_96 (lv_at hl 5 rfl) ?_
  refine lv_lconst (v := 1) hx hb dX2_stepBack_98 (by decide) ?_
  refine lv_iload hx hb dX2_stepBack_99 (lv_at hl 3 rfl) ?_
  refine lv_lshl (v := (jlshl (1 : Int64) x_8)) hx hb dX2_stepBack_101 rfl ?_
  refine lv_lconst (v := 1) hx hb dX2_stepBack_102 (by decide) ?_
  refine lv_iload hx hb dX2_stepBack_103 (lv_at hl 4 rfl) ?_
  refine lv_lshl (v := (jlshl (1 : Int64) x_5)) hx hb dX2_stepBack_105 rfl ?_
  refine lv_lor hx hb dX2_stepBack_106 ?_
  refine w_callJ (va_runV (As := [.int x1, .int x_2, .long ((jlshl (1 : Int64) x_8) ||| (jlshl (1 : Int64) x_5))]) (rest := []) F (c_X0_reach l hL_y_18 hK_y_18 hp H.size) (cwV (C := RX0) 3 hts (wg_V wm_RX2_130 wy_X0_reach) rfl rfl rfl (by decide +kernel) ⟨Nat.le_of_ble_eq_true rfl, Nat.le_of_ble_eq_true rfl⟩) (w_preV hK hW hL_y_18 hK_y_18 (by decide) rfl) rfl rfl hl.1 rfl (lv_room (Nat.le_of_ble_eq_true rfl)) dX2_stepBack_107 ⟨Nat.le_of_ble_eq_true rfl, Nat.le_of_ble_eq_true rfl⟩) hW (fun r_19 S_20 H locs hp hW => ?_)
  obtain ⟨hX_S_20, hp⟩ := hp
  refine W.widen (k := 0) (n := 0) (Nat.le_refl 0) (Nat.le_refl 0) ?_
  have hE := hE.trans hX_S_20
  have hK_a0 : sK S_20 a0 = 7 := (hX_S_20 a0 hL_a0).2.1.trans hK_a0
  have hL_a0 : a0 ∈ sL S_20 := (hX_S_20 a0 hL_a0).1
  refine lv_lstore (lv' := [(13, .long r_19), (11, .long r_16), (9, .long r_13), (8, .int x_11), (7, .int x_8), (6, .int x_5), (5, .int x_2), (4, .int t0), (0, .ref a0), (1, .int x1), (2, .int x2), (3, .int x3)]) hx hb dX2_stepBack_110 hl (by decide) rfl (fun ls hl => ?_)
  refine lv_iconst (v := 0) hx hb dX2_stepBack_112 (by decide) ?_
  refine lv_istore (lv' := [(15, .int (0 : Int32)), (13, .long r_19), (11, .long r_16), (9, .long r_13), (8, .int x_11), (7, .int x_8), (6, .int x_5), (5, .int x_2), (4, .int t0), (0, .ref a0), (1, .int x1), (2, .int x2), (3, .int x3)]) hx hb dX2_stepBack_113 hl (by decide) rfl (fun ls hl => ?_)
  obtain ⟨n_21, hp⟩ := hp
  exact t_X2_stepBack_115 F hr hlocks hK n_21 hp hW hE (lv_sub hl [9, 10, 12, 7, 6, 5, 4, 3, 2, 1, 0] rfl) hL_a0 hK_a0
set_option maxHeartbeats 4000000 in
set_option maxRecDepth 100000 in
theorem t_X2_stepBack_12 {p : Program} {l : Launch} {e : Env} {s : State} {m : MethodId} {args : Array Value} {below : List Frame} {meth : Method} {c : Code} {D : va_G} {cy : Nat → ClassId} {X : va_W} {A : Nat → Prop} {S0 : wS} {post : wS → Prop} (F : CallFix p m c cX2_stepBack 16 s args wz_X2_stepBack RX2) (hr : meth.sig.returnType = none) (hlocks : meth.locks = false) (hK : wK D cy s) : ∀ {S : wS} {H : Heap} {locs : List Loc} {ls : Array Slot} {a0 : Nat} {x1 : Int32} {x2 : Int32} {t0 : Int32}, wp_X2_stepBack_12 post S a0 x1 x2 t0 → wO D cy X A s.heap S H locs → wX S0 S → lv_has ls 16 [(0, .ref a0), (1, .int x1), (2, .int x2)] → a0 ∈ sL S → sK S a0 = 7 → W p l e r_X2_stepBack s m args below meth c H locs 0 0 (MQ below (va_Qv (fun S9 => wX S0 S9 ∧ post S9) (wB D cy X A) A) args s 0 0 A) (F0 m 12 ls [.int t0]) := by
  obtain ⟨hx, hb, hml, hown, hts⟩ := id F
  have hwg : ∀ w ∈ WG, w.before args s = true := fun w h => hts w (List.mem_cons_of_mem _ h)
  intro S H locs ls a0 x1 x2 t0 hp hW hE hl hL_a0 hK_a0
  unfold wp_X2_stepBack_12 at hp
  refine lv_istore_n (lv' := [(3, .int t0), (0, .ref a0), (1, .int x1), (2, .int x2)]) hx hb dX2_stepBack_12 rfl hl (by decide) rfl (fun ls hl => ?_)
  refine lv_iload_n hx hb dX2_stepBack_13 rfl (lv_at hl 0 rfl) ?_
  refine lv_if_eq (tgt := 25) hx hb dX2_stepBack_14 (by decide) (fun c_1 => ?_) (fun c_1 => ?_)
  · replace hp := hp.1 c_1
    refine lv_iload_n hx hb dX2_stepBack_25 rfl (lv_at hl 3 rfl) ?_
    exact t_X2_stepBack_26 F hr hlocks hK hp hW hE (lv_sub hl [1, 2, 3, 0] rfl) hL_a0 hK_a0
  · replace hp := hp.2 c_1
    refine lv_iload_n hx hb dX2_stepBack_17 rfl (lv_at hl 3 rfl) ?_
    refine lv_sipush (v := 15625) hx hb dX2_stepBack_18 (by decide) ?_
    refine lv_isub hx hb dX2_stepBack_21 ?_
    refine lv_goto (tgt := 26) hx hb dX2_stepBack_22 (by decide) ?_
    exact t_X2_stepBack_26 F hr hlocks hK hp hW hE (lv_sub hl [1, 2, 3, 0] rfl) hL_a0 hK_a0
set_option maxHeartbeats 4000000 in
set_option maxRecDepth 100000 in
theorem t_X2_stepBack_0 {p : Program} {l : Launch} {e : Env} {s : State} {m : MethodId} {args : Array Value} {below : List Frame} {meth : Method} {c : Code} {D : va_G} {cy : Nat → ClassId} {X : va_W} {A : Nat → Prop} {S0 : wS} {post : wS → Prop} (F : CallFix p m c cX2_stepBack 16 s args wz_X2_stepBack RX2) (hr : meth.sig.returnType = none) (hlocks : meth.locks = false) (hK : wK D cy s) : ∀ {S : wS} {H : Heap} {locs : List Loc} {ls : Array Slot} {a0 : Nat} {x1 : Int32} {x2 : Int32}, wp_X2_stepBack_0 post S a0 x1 x2 → wO D cy X A s.heap S H locs → wX S0 S → lv_has ls 16 [(0, .ref a0), (1, .int x1), (2, .int x2)] → a0 ∈ sL S → sK S a0 = 7 → W p l e r_X2_stepBack s m args below meth c H locs 0 0 (MQ below (va_Qv (fun S9 => wX S0 S9 ∧ post S9) (wB D cy X A) A) args s 0 0 A) (F0 m 0 ls []) := by
  obtain ⟨hx, hb, hml, hown, hts⟩ := id F
  have hwg : ∀ w ∈ WG, w.before args s = true := fun w h => hts w (List.mem_cons_of_mem _ h)
  intro S H locs ls a0 x1 x2 hp hW hE hl hL_a0 hK_a0
  unfold wp_X2_stepBack_0 at hp
  refine lv_iload_n hx hb dX2_stepBack_0 rfl (lv_at hl 2 rfl) ?_
  refine lv_sipush (v := 15625) hx hb dX2_stepBack_1 (by decide) ?_
  refine lv_icmp_lt (tgt := 11) hx hb dX2_stepBack_4 (by decide) (fun c_1 => ?_) (fun c_1 => ?_)
  · replace hp := hp.1 c_1
    refine lv_iconst (v := 0) hx hb dX2_stepBack_11 (by decide) ?_
    exact t_X2_stepBack_12 F hr hlocks hK hp hW hE (lv_sub hl [0, 1, 2] rfl) hL_a0 hK_a0
  · replace hp := hp.2 c_1
    refine lv_iconst (v := 1) hx hb dX2_stepBack_7 (by decide) ?_
    refine lv_goto (tgt := 12) hx hb dX2_stepBack_8 (by decide) ?_
    exact t_X2_stepBack_12 F hr hlocks hK hp hW hE (lv_sub hl [0, 1, 2] rfl) hL_a0 hK_a0
set_option maxHeartbeats 4000000 in
set_option maxRecDepth 100000 in
theorem c_X2_stepBack (l : Launch) {D : va_G} {cy : Nat → ClassId} {X : va_W} {S0 : wS} {post : wS → Prop} {a0 : Nat} {x1 : Int32} {x2 : Int32} (hL_a0 : a0 ∈ sL S0) (hK_a0 : sK S0 a0 = 7) (hp : wp_X2_stepBack post S0 a0 x1 x2) : mV D cy X l yX2_stepBack wz_X2_stepBack r_X2_stepBack [.ref a0, .int x1, .int x2] S0 (fun S9 => wX S0 S9 ∧ post S9) := by
  intro sz
  refine Met.ofW (cc := cX2_stepBack) (maxL := 16) (ret := none) (by decide) rfl ?_
  intro p e s m args below meth c s₁ B hml hv
  obtain ⟨rfl, hsz, hP, hK, hD0⟩ := hv
  have hts := atoms_spec (ws := wz_X2_stepBack) B.pre
  have hown : s.vm.findClass RX2 = some m.cls := findClass_of_methodNamed B.named
  subst hsz
  have hD := hD0.self (sz := s.heap.size)
  have F : CallFix p m c cX2_stepBack 16 s _ wz_X2_stepBack RX2 := ⟨B.exec, B.bytes, hml, hown, hts⟩
  have hr := B.returns
  have hlocks := B.notSynchronized
  generalize hAe : va_A (wL cy X S0) s.heap.size = A at hD ⊢
  have hA : ∀ q, s.heap.size ≤ q → A q := fun q h => by rw [← hAe]; exact Or.inr h
  have hW : wO D cy X A s.heap S0 s.heap [] := ⟨hP, hD, va_S.rf, hA⟩
  have hl := lv_entry ([.ref a0, .int x1, .int x2]) (n := 16) (Nat.le_of_ble_eq_true rfl)
  rw [lg_entry_eq]
  generalize (lg_sl ([.ref a0, .int x1, .int x2]) ++ List.replicate (16 - (lg_sl ([.ref a0, .int x1, .int x2])).length) Slot.unset).toArray = ls at hl ⊢
  have hl : lv_has ls 16 [(0, .ref a0), (1, .int x1), (2, .int x2)] := hl
  unfold wp_X2_stepBack at hp
  exact t_X2_stepBack_0 F hr hlocks hK hp hW wX.rf (lv_sub hl [0, 1, 2] rfl) hL_a0 hK_a0
def wp_X11_startHere_0 (post : Int32 → wS → Prop)  (S : wS) (a0 : Nat) : Prop :=
∃ y_1 : Nat, sR S a0 4 = some y_1 ∧ y_1 ∈ sL S ∧ sK S y_1 = 8 ∧
∀ x_2 : Int32, x_2 = (sI S y_1 3) →
∃ y_3 : Nat, sR S a0 4 = some y_3 ∧ y_3 ∈ sL S ∧ sK S y_3 = 8 ∧
∃ y_4 : Nat, sR S a0 2 = some y_4 ∧ y_4 ∈ sL S ∧ sK S y_4 = 12 ∧
wp_X3_begin (fun S_6 => 
post x_2 S_6) S y_3 y_4
abbrev r_X11_startHere : Room := { frames := 3, cells := 0, slots := 0, locals := 64 }
def wp_X11_startHere (post : Int32 → wS → Prop) (S : wS) (a0 : Nat) : Prop := wp_X11_startHere_0 post S a0
set_option maxHeartbeats 4000000 in
set_option maxRecDepth 100000 in
theorem t_X11_startHere_0 {p : Program} {l : Launch} {e : Env} {s : State} {m : MethodId} {args : Array Value} {below : List Frame} {meth : Method} {c : Code} {D : va_G} {cy : Nat → ClassId} {X : va_W} {A : Nat → Prop} {S0 : wS} {post : Int32 → wS → Prop} (F : CallFix p m c cX11_startHere 2 s args wz_X11_startHere RX11) (hr : meth.sig.returnType = (some .int)) (hlocks : meth.locks = false) (hK : wK D cy s) : ∀ {S : wS} {H : Heap} {locs : List Loc} {ls : Array Slot} {a0 : Nat}, wp_X11_startHere_0 post S a0 → wO D cy X A s.heap S H locs → wX S0 S → lv_has ls 2 [(0, .ref a0)] → a0 ∈ sL S → sK S a0 = 16 → W p l e r_X11_startHere s m args below meth c H locs 0 0 (MQ below (va_Qi (fun r S9 => wX S0 S9 ∧ post r S9) (wB D cy X A) A) args s 0 0 A) (F0 m 0 ls []) := by
  obtain ⟨hx, hb, hml, hown, hts⟩ := id F
  have hwg : ∀ w ∈ WG, w.before args s = true := fun w h => hts w (List.mem_cons_of_mem _ h)
  have i_16 : ∀ w ∈ u_ws RX11 TX11 18, w ∈ wz_X11_startHere := fun w h => List.mem_cons_of_mem _ (wu_16 w h)
  have i_8 : ∀ w ∈ u_ws RX3 TX3 9, w ∈ wz_X11_startHere := fun w h => List.mem_cons_of_mem _ (wu_8 w h)
  have k_28 := hwg _ wf_RX11_28
  have k_40 := hwg _ wf_RX11_40
  intro S H locs ls a0 hp hW hE hl hL_a0 hK_a0
  unfold wp_X11_startHere_0 at hp
  refine lv_aload_n hx hb dX11_startHere_0 rfl (lv_at hl 0 rfl) ?_
  obtain ⟨y_1, ey_1, hL_y_1, hK_y_1, hp⟩ := hp
  refine w_get (k := 16) (f := 4) (T := TX11) (v := .ref y_1) F hK hW hL_a0 hK_a0 (by decide) rfl rfl (by decide) i_16 k_40 (by rw [show wv 16 4 S a0 = va_rf (sR S a0 4) from rfl, ey_1]; rfl) dX11_startHere_1 ?_
  refine w_getN (k := 8) (f := 3) (T := TX3) (v := .int (sI S y_1 3)) F hK hW hL_y_1 hK_y_1 (by decide) rfl rfl (by decide) i_8 (hK.2 (.fieldLinkNest "OpeningsCabinet" 157 "OpeningsCabinet$Game" "length" "I" "OpeningsCabinet") (by decide +kernel)) rfl dX11_startHere_4 ?_
  refine lv_topi (fun x_2 ex_2 => ?_)
  replace hp := hp x_2 ex_2
  refine lv_istore_n (lv' := [(1, .int x_2), (0, .ref a0)]) hx hb dX11_startHere_7 rfl hl (by decide) rfl (fun ls hl => ?_)
  refine lv_aload_n hx hb dX11_startHere_8 rfl (lv_at hl 1 rfl) ?_
  obtain ⟨y_3, ey_3, hL_y_3, hK_y_3, hp⟩ := hp
  refine w_get (k := 16) (f := 4) (T := TX11) (v := .ref y_3) F hK hW hL_a0 hK_a0 (by decide) rfl rfl (by decide) i_16 k_40 (by rw [show wv 16 4 S a0 = va_rf (sR S a0 4) from rfl, ey_3]; rfl) dX11_startHere_9 ?_
  refine lv_aload_n hx hb dX11_startHere_12 rfl (lv_at hl 1 rfl) ?_
  obtain ⟨y_4, ey_4, hL_y_4, hK_y_4, hp⟩ := hp
  refine w_get (k := 16) (f := 2) (T := TX11) (v := .ref y_4) F hK hW hL_a0 hK_a0 (by decide) rfl rfl (by decide) i_16 k_28 (by rw [show wv 16 2 S a0 = va_rf (sR S a0 2) from rfl, ey_4]; rfl) dX11_startHere_13 ?_
  refine w_callV (va_runV (As := [.ref y_4]) (rest := []) F (c_X3_begin l hL_y_3 hK_y_3 hL_y_4 hK_y_4 hp H.size) (cwV (C := RX3) 1 hts (wg_V wm_RX11_130 wy_X3_begin) rfl rfl rfl (by decide +kernel) ⟨Nat.le_of_ble_eq_true rfl, Nat.le_of_ble_eq_true rfl⟩) (w_preV hK hW hL_y_3 hK_y_3 (by decide) rfl) rfl rfl hl.1 rfl (lv_room (Nat.le_of_ble_eq_true rfl)) dX11_startHere_16 ⟨Nat.le_of_ble_eq_true rfl, Nat.le_of_ble_eq_true rfl⟩) hW (fun S_6 H locs hp hW => ?_)
  obtain ⟨hX_S_6, hp⟩ := hp
  refine W.widen (k := 0) (n := 0) (Nat.le_refl 0) (Nat.le_refl 0) ?_
  have hE := hE.trans hX_S_6
  have hK_a0 : sK S_6 a0 = 16 := (hX_S_6 a0 hL_a0).2.1.trans hK_a0
  have hL_a0 : a0 ∈ sL S_6 := (hX_S_6 a0 hL_a0).1
  refine lv_iload_n hx hb dX11_startHere_19 rfl (lv_at hl 0 rfl) ?_
  exact w_iret hx hb hr hlocks hK hW ⟨hE, hp⟩ dX11_startHere_20
set_option maxHeartbeats 4000000 in
set_option maxRecDepth 100000 in
theorem c_X11_startHere (l : Launch) {D : va_G} {cy : Nat → ClassId} {X : va_W} {S0 : wS} {post : Int32 → wS → Prop} {a0 : Nat} (hL_a0 : a0 ∈ sL S0) (hK_a0 : sK S0 a0 = 16) (hp : wp_X11_startHere post S0 a0) : mI D cy X l yX11_startHere wz_X11_startHere r_X11_startHere [.ref a0] S0 (fun r S9 => wX S0 S9 ∧ post r S9) := by
  intro sz
  refine Met.ofW (cc := cX11_startHere) (maxL := 2) (ret := (some .int)) (by decide) rfl ?_
  intro p e s m args below meth c s₁ B hml hv
  obtain ⟨rfl, hsz, hP, hK, hD0⟩ := hv
  have hts := atoms_spec (ws := wz_X11_startHere) B.pre
  have hown : s.vm.findClass RX11 = some m.cls := findClass_of_methodNamed B.named
  subst hsz
  have hD := hD0.self (sz := s.heap.size)
  have F : CallFix p m c cX11_startHere 2 s _ wz_X11_startHere RX11 := ⟨B.exec, B.bytes, hml, hown, hts⟩
  have hr := B.returns
  have hlocks := B.notSynchronized
  generalize hAe : va_A (wL cy X S0) s.heap.size = A at hD ⊢
  have hA : ∀ q, s.heap.size ≤ q → A q := fun q h => by rw [← hAe]; exact Or.inr h
  have hW : wO D cy X A s.heap S0 s.heap [] := ⟨hP, hD, va_S.rf, hA⟩
  have hl := lv_entry ([.ref a0]) (n := 2) (Nat.le_of_ble_eq_true rfl)
  rw [lg_entry_eq]
  generalize (lg_sl ([.ref a0]) ++ List.replicate (2 - (lg_sl ([.ref a0])).length) Slot.unset).toArray = ls at hl ⊢
  have hl : lv_has ls 2 [(0, .ref a0)] := hl
  unfold wp_X11_startHere at hp
  exact t_X11_startHere_0 F hr hlocks hK hp hW wX.rf (lv_sub hl [0] rfl) hL_a0 hK_a0
def wp_X11_variationMoves_0 (post : Int32 → wS → Prop)  (S : wS) (a0 : Nat) : Prop :=
post (sI S a0 16) S
abbrev r_X11_variationMoves : Room := { frames := 0, cells := 0, slots := 0, locals := 0 }
def wp_X11_variationMoves (post : Int32 → wS → Prop) (S : wS) (a0 : Nat) : Prop := wp_X11_variationMoves_0 post S a0
set_option maxHeartbeats 4000000 in
set_option maxRecDepth 100000 in
theorem t_X11_variationMoves_0 {p : Program} {l : Launch} {e : Env} {s : State} {m : MethodId} {args : Array Value} {below : List Frame} {meth : Method} {c : Code} {D : va_G} {cy : Nat → ClassId} {X : va_W} {A : Nat → Prop} {S0 : wS} {post : Int32 → wS → Prop} (F : CallFix p m c cX11_variationMoves 1 s args wz_X11_variationMoves RX11) (hr : meth.sig.returnType = (some .int)) (hlocks : meth.locks = false) (hK : wK D cy s) : ∀ {S : wS} {H : Heap} {locs : List Loc} {ls : Array Slot} {a0 : Nat}, wp_X11_variationMoves_0 post S a0 → wO D cy X A s.heap S H locs → wX S0 S → lv_has ls 1 [(0, .ref a0)] → a0 ∈ sL S → sK S a0 = 16 → W p l e r_X11_variationMoves s m args below meth c H locs 0 0 (MQ below (va_Qi (fun r S9 => wX S0 S9 ∧ post r S9) (wB D cy X A) A) args s 0 0 A) (F0 m 0 ls []) := by
  obtain ⟨hx, hb, hml, hown, hts⟩ := id F
  have hwg : ∀ w ∈ WG, w.before args s = true := fun w h => hts w (List.mem_cons_of_mem _ h)
  have i_16 : ∀ w ∈ u_ws RX11 TX11 18, w ∈ wz_X11_variationMoves := fun w h => List.mem_cons_of_mem _ (wu_16 w h)
  have k_116 := hwg _ wf_RX11_116
  intro S H locs ls a0 hp hW hE hl hL_a0 hK_a0
  unfold wp_X11_variationMoves_0 at hp
  refine lv_aload_n hx hb dX11_variationMoves_0 rfl (lv_at hl 0 rfl) ?_
  refine w_get (k := 16) (f := 16) (T := TX11) (v := .int (sI S a0 16)) F hK hW hL_a0 hK_a0 (by decide) rfl rfl (by decide) i_16 k_116 rfl dX11_variationMoves_1 ?_
  exact w_iret hx hb hr hlocks hK hW ⟨hE, hp⟩ dX11_variationMoves_4
set_option maxHeartbeats 4000000 in
set_option maxRecDepth 100000 in
theorem c_X11_variationMoves (l : Launch) {D : va_G} {cy : Nat → ClassId} {X : va_W} {S0 : wS} {post : Int32 → wS → Prop} {a0 : Nat} (hL_a0 : a0 ∈ sL S0) (hK_a0 : sK S0 a0 = 16) (hp : wp_X11_variationMoves post S0 a0) : mI D cy X l yX11_variationMoves wz_X11_variationMoves r_X11_variationMoves [.ref a0] S0 (fun r S9 => wX S0 S9 ∧ post r S9) := by
  intro sz
  refine Met.ofW (cc := cX11_variationMoves) (maxL := 1) (ret := (some .int)) (by decide) rfl ?_
  intro p e s m args below meth c s₁ B hml hv
  obtain ⟨rfl, hsz, hP, hK, hD0⟩ := hv
  have hts := atoms_spec (ws := wz_X11_variationMoves) B.pre
  have hown : s.vm.findClass RX11 = some m.cls := findClass_of_methodNamed B.named
  subst hsz
  have hD := hD0.self (sz := s.heap.size)
  have F : CallFix p m c cX11_variationMoves 1 s _ wz_X11_variationMoves RX11 := ⟨B.exec, B.bytes, hml, hown, hts⟩
  have hr := B.returns
  have hlocks := B.notSynchronized
  generalize hAe : va_A (wL cy X S0) s.heap.size = A at hD ⊢
  have hA : ∀ q, s.heap.size ≤ q → A q := fun q h => by rw [← hAe]; exact Or.inr h
  have hW : wO D cy X A s.heap S0 s.heap [] := ⟨hP, hD, va_S.rf, hA⟩
  have hl := lv_entry ([.ref a0]) (n := 1) (Nat.le_of_ble_eq_true rfl)
  rw [lg_entry_eq]
  generalize (lg_sl ([.ref a0]) ++ List.replicate (1 - (lg_sl ([.ref a0])).length) Slot.unset).toArray = ls at hl ⊢
  have hl : lv_has ls 1 [(0, .ref a0)] := hl
  unfold wp_X11_variationMoves at hp
  exact t_X11_variationMoves_0 F hr hlocks hK hp hW wX.rf (lv_sub hl [0] rfl) hL_a0 hK_a0
