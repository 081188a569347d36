theorem dX12_can_0 : decode cX12_can 0 = .ok (.aload_n 0, 1) := by decide +kernel
theorem dX12_can_1 : decode cX12_can 1 = .ok (.iload_n 1, 1) := by decide +kernel
theorem dX12_can_2 : decode cX12_can 2 = .ok (.ifCond .eq 7, 3) := by decide +kernel
theorem dX12_can_5 : decode cX12_can 5 = .ok (.iconst 0, 1) := by decide +kernel
theorem dX12_can_6 : decode cX12_can 6 = .ok (.goto 4, 3) := by decide +kernel
theorem dX12_can_9 : decode cX12_can 9 = .ok (.iload_n 2, 1) := by decide +kernel
theorem dX12_can_10 : decode cX12_can 10 = .ok (.putfield 110, 3) := by decide +kernel
theorem dX12_can_13 : decode cX12_can 13 = .ok (.iload_n 1, 1) := by decide +kernel
theorem dX12_can_14 : decode cX12_can 14 = .ok (.ireturn, 1) := by decide +kernel
theorem dX12_copies_0 : decode cX12_copies 0 = .ok (.iconst 0, 1) := by decide +kernel
theorem dX12_copies_1 : decode cX12_copies 1 = .ok (.istore 5, 2) := by decide +kernel
theorem dX12_copies_3 : decode cX12_copies 3 = .ok (.iload 5, 2) := by decide +kernel
theorem dX12_copies_5 : decode cX12_copies 5 = .ok (.iload_n 0, 1) := by decide +kernel
theorem dX12_copies_6 : decode cX12_copies 6 = .ok (.if_icmp .ge 22, 3) := by decide +kernel
theorem dX12_copies_9 : decode cX12_copies 9 = .ok (.aload_n 3, 1) := by decide +kernel
theorem dX12_copies_10 : decode cX12_copies 10 = .ok (.iload 4, 2) := by decide +kernel
theorem dX12_copies_12 : decode cX12_copies 12 = .ok (.iload 5, 2) := by decide +kernel
theorem dX12_copies_14 : decode cX12_copies 14 = .ok (.iadd, 1) := by decide +kernel
theorem dX12_copies_15 : decode cX12_copies 15 = .ok (.aload_n 1, 1) := by decide +kernel
theorem dX12_copies_16 : decode cX12_copies 16 = .ok (.iload_n 2, 1) := by decide +kernel
theorem dX12_copies_17 : decode cX12_copies 17 = .ok (.iload 5, 2) := by decide +kernel
theorem dX12_copies_19 : decode cX12_copies 19 = .ok (.iadd, 1) := by decide +kernel
theorem dX12_copies_20 : decode cX12_copies 20 = .ok (.iaload, 1) := by decide +kernel
theorem dX12_copies_21 : decode cX12_copies 21 = .ok (.iastore, 1) := by decide +kernel
theorem dX12_copies_22 : decode cX12_copies 22 = .ok (.iinc 5 1, 3) := by decide +kernel
theorem dX12_copies_25 : decode cX12_copies 25 = .ok (.goto (-22), 3) := by decide +kernel
theorem dX12_copies_28 : decode cX12_copies 28 = .ok (.return_, 1) := by decide +kernel
theorem dX12_in_0 : decode cX12_in 0 = .ok (.iload_n 0, 1) := by decide +kernel
theorem dX12_in_1 : decode cX12_in 1 = .ok (.iload_n 1, 1) := by decide +kernel
theorem dX12_in_2 : decode cX12_in 2 = .ok (.if_icmp .lt 12, 3) := by decide +kernel
theorem dX12_in_5 : decode cX12_in 5 = .ok (.iload_n 0, 1) := by decide +kernel
theorem dX12_in_6 : decode cX12_in 6 = .ok (.iload_n 2, 1) := by decide +kernel
theorem dX12_in_7 : decode cX12_in 7 = .ok (.if_icmp .gt 7, 3) := by decide +kernel
theorem dX12_in_10 : decode cX12_in 10 = .ok (.iconst 1, 1) := by decide +kernel
theorem dX12_in_11 : decode cX12_in 11 = .ok (.goto 4, 3) := by decide +kernel
theorem dX12_in_14 : decode cX12_in 14 = .ok (.iconst 0, 1) := by decide +kernel
theorem dX12_in_15 : decode cX12_in 15 = .ok (.ireturn, 1) := by decide +kernel
theorem dX12_firstRank_0 : decode cX12_firstRank 0 = .ok (.iload_n 1, 1) := by decide +kernel
theorem dX12_firstRank_1 : decode cX12_firstRank 1 = .ok (.iconst 1, 1) := by decide +kernel
theorem dX12_firstRank_2 : decode cX12_firstRank 2 = .ok (.if_icmp .ne 7, 3) := by decide +kernel
theorem dX12_firstRank_5 : decode cX12_firstRank 5 = .ok (.iconst 0, 1) := by decide +kernel
theorem dX12_firstRank_6 : decode cX12_firstRank 6 = .ok (.goto 9, 3) := by decide +kernel
theorem dX12_firstRank_9 : decode cX12_firstRank 9 = .ok (.aload_n 0, 1) := by decide +kernel
theorem dX12_firstRank_10 : decode cX12_firstRank 10 = .ok (.getfield 13, 3) := by decide +kernel
theorem dX12_firstRank_13 : decode cX12_firstRank 13 = .ok (.iconst 1, 1) := by decide +kernel
theorem dX12_firstRank_14 : decode cX12_firstRank 14 = .ok (.isub, 1) := by decide +kernel
theorem dX12_firstRank_15 : decode cX12_firstRank 15 = .ok (.ireturn, 1) := by decide +kernel
theorem dX12_homeOf_0 : decode cX12_homeOf 0 = .ok (.aload_n 0, 1) := by decide +kernel
theorem dX12_homeOf_1 : decode cX12_homeOf 1 = .ok (.getfield 9, 3) := by decide +kernel
theorem dX12_homeOf_4 : decode cX12_homeOf 4 = .ok (.aload_n 0, 1) := by decide +kernel
theorem dX12_homeOf_5 : decode cX12_homeOf 5 = .ok (.iload_n 1, 1) := by decide +kernel
theorem dX12_homeOf_6 : decode cX12_homeOf 6 = .ok (.invokevirtual 170, 3) := by decide +kernel
theorem dX12_homeOf_9 : decode cX12_homeOf 9 = .ok (.imul, 1) := by decide +kernel
theorem dX12_homeOf_10 : decode cX12_homeOf 10 = .ok (.iload_n 2, 1) := by decide +kernel
theorem dX12_homeOf_11 : decode cX12_homeOf 11 = .ok (.iadd, 1) := by decide +kernel
theorem dX12_homeOf_12 : decode cX12_homeOf 12 = .ok (.ireturn, 1) := by decide +kernel
theorem dX12_on_0 : decode cX12_on 0 = .ok (.aload_n 0, 1) := by decide +kernel
theorem dX12_on_1 : decode cX12_on 1 = .ok (.getfield 16, 3) := by decide +kernel
theorem dX12_on_4 : decode cX12_on 4 = .ok (.bipush 67, 2) := by decide +kernel
theorem dX12_on_6 : decode cX12_on 6 = .ok (.iload_n 1, 1) := by decide +kernel
theorem dX12_on_7 : decode cX12_on 7 = .ok (.imul, 1) := by decide +kernel
theorem dX12_on_8 : decode cX12_on 8 = .ok (.iload_n 2, 1) := by decide +kernel
theorem dX12_on_9 : decode cX12_on 9 = .ok (.iadd, 1) := by decide +kernel
theorem dX12_on_10 : decode cX12_on 10 = .ok (.iaload, 1) := by decide +kernel
theorem dX12_on_11 : decode cX12_on 11 = .ok (.ireturn, 1) := by decide +kernel
theorem dX12_pieceOf_0 : decode cX12_pieceOf 0 = .ok (.iload_n 1, 1) := by decide +kernel
theorem dX12_pieceOf_1 : decode cX12_pieceOf 1 = .ok (.iconst 1, 1) := by decide +kernel
theorem dX12_pieceOf_2 : decode cX12_pieceOf 2 = .ok (.if_icmp .ne 7, 3) := by decide +kernel
theorem dX12_pieceOf_5 : decode cX12_pieceOf 5 = .ok (.iload_n 0, 1) := by decide +kernel
theorem dX12_pieceOf_6 : decode cX12_pieceOf 6 = .ok (.goto 7, 3) := by decide +kernel
theorem dX12_pieceOf_9 : decode cX12_pieceOf 9 = .ok (.iload_n 0, 1) := by decide +kernel
theorem dX12_pieceOf_10 : decode cX12_pieceOf 10 = .ok (.bipush 6, 2) := by decide +kernel
theorem dX12_pieceOf_12 : decode cX12_pieceOf 12 = .ok (.iadd, 1) := by decide +kernel
theorem dX12_pieceOf_13 : decode cX12_pieceOf 13 = .ok (.ireturn, 1) := by decide +kernel
theorem dX12_areSound_0 : decode cX12_areSound 0 = .ok (.aload_n 0, 1) := by decide +kernel
theorem dX12_areSound_1 : decode cX12_areSound 1 = .ok (.getfield 16, 3) := by decide +kernel
theorem dX12_areSound_4 : decode cX12_areSound 4 = .ok (.bipush 67, 2) := by decide +kernel
theorem dX12_areSound_6 : decode cX12_areSound 6 = .ok (.iload_n 1, 1) := by decide +kernel
theorem dX12_areSound_7 : decode cX12_areSound 7 = .ok (.imul, 1) := by decide +kernel
theorem dX12_areSound_8 : decode cX12_areSound 8 = .ok (.bipush 65, 2) := by decide +kernel
theorem dX12_areSound_10 : decode cX12_areSound 10 = .ok (.iadd, 1) := by decide +kernel
theorem dX12_areSound_11 : decode cX12_areSound 11 = .ok (.iaload, 1) := by decide +kernel
theorem dX12_areSound_12 : decode cX12_areSound 12 = .ok (.istore_n 2, 1) := by decide +kernel
theorem dX12_areSound_13 : decode cX12_areSound 13 = .ok (.iconst 0, 1) := by decide +kernel
theorem dX12_areSound_14 : decode cX12_areSound 14 = .ok (.istore_n 3, 1) := by decide +kernel
theorem dX12_areSound_15 : decode cX12_areSound 15 = .ok (.iload_n 3, 1) := by decide +kernel
theorem dX12_areSound_16 : decode cX12_areSound 16 = .ok (.iconst 4, 1) := by decide +kernel
theorem dX12_areSound_17 : decode cX12_areSound 17 = .ok (.if_icmp .ge 98, 3) := by decide +kernel
theorem dX12_areSound_20 : decode cX12_areSound 20 = .ok (.iload_n 2, 1) := by decide +kernel
theorem dX12_areSound_21 : decode cX12_areSound 21 = .ok (.iload_n 3, 1) := by decide +kernel
theorem dX12_areSound_22 : decode cX12_areSound 22 = .ok (.ishr, 1) := by decide +kernel
theorem dX12_areSound_23 : decode cX12_areSound 23 = .ok (.iconst 1, 1) := by decide +kernel
theorem dX12_areSound_24 : decode cX12_areSound 24 = .ok (.iand, 1) := by decide +kernel
theorem dX12_areSound_25 : decode cX12_areSound 25 = .ok (.iconst 1, 1) := by decide +kernel
theorem dX12_areSound_26 : decode cX12_areSound 26 = .ok (.if_icmp .ne 83, 3) := by decide +kernel
theorem dX12_areSound_29 : decode cX12_areSound 29 = .ok (.iload_n 3, 1) := by decide +kernel
theorem dX12_areSound_30 : decode cX12_areSound 30 = .ok (.iconst 2, 1) := by decide +kernel
theorem dX12_areSound_31 : decode cX12_areSound 31 = .ok (.if_icmp .ge 7, 3) := by decide +kernel
theorem dX12_areSound_34 : decode cX12_areSound 34 = .ok (.iconst 1, 1) := by decide +kernel
theorem dX12_areSound_35 : decode cX12_areSound 35 = .ok (.goto 4, 3) := by decide +kernel
theorem dX12_areSound_38 : decode cX12_areSound 38 = .ok (.iconst 0, 1) := by decide +kernel
theorem dX12_areSound_39 : decode cX12_areSound 39 = .ok (.istore 4, 2) := by decide +kernel
theorem dX12_areSound_41 : decode cX12_areSound 41 = .ok (.iload_n 3, 1) := by decide +kernel
theorem dX12_areSound_42 : decode cX12_areSound 42 = .ok (.iconst 2, 1) := by decide +kernel
theorem dX12_areSound_43 : decode cX12_areSound 43 = .ok (.irem, 1) := by decide +kernel
theorem dX12_areSound_44 : decode cX12_areSound 44 = .ok (.ifCond .ne 8, 3) := by decide +kernel
theorem dX12_areSound_47 : decode cX12_areSound 47 = .ok (.bipush 7, 2) := by decide +kernel
theorem dX12_areSound_49 : decode cX12_areSound 49 = .ok (.goto 4, 3) := by decide +kernel
theorem dX12_areSound_52 : decode cX12_areSound 52 = .ok (.iconst 0, 1) := by decide +kernel
theorem dX12_areSound_53 : decode cX12_areSound 53 = .ok (.istore 5, 2) := by decide +kernel
theorem dX12_areSound_55 : decode cX12_areSound 55 = .ok (.aload_n 0, 1) := by decide +kernel
theorem dX12_areSound_56 : decode cX12_areSound 56 = .ok (.getfield 9, 3) := by decide +kernel
theorem dX12_areSound_59 : decode cX12_areSound 59 = .ok (.bipush 8, 2) := by decide +kernel
theorem dX12_areSound_61 : decode cX12_areSound 61 = .ok (.if_icmp .ne 46, 3) := by decide +kernel
theorem dX12_areSound_64 : decode cX12_areSound 64 = .ok (.aload_n 0, 1) := by decide +kernel
theorem dX12_areSound_65 : decode cX12_areSound 65 = .ok (.iload_n 1, 1) := by decide +kernel
theorem dX12_areSound_66 : decode cX12_areSound 66 = .ok (.aload_n 0, 1) := by decide +kernel
theorem dX12_areSound_67 : decode cX12_areSound 67 = .ok (.iload 4, 2) := by decide +kernel
theorem dX12_areSound_69 : decode cX12_areSound 69 = .ok (.iconst 4, 1) := by decide +kernel
theorem dX12_areSound_70 : decode cX12_areSound 70 = .ok (.invokevirtual 173, 3) := by decide +kernel
theorem dX12_areSound_73 : decode cX12_areSound 73 = .ok (.invokevirtual 141, 3) := by decide +kernel
theorem dX12_areSound_76 : decode cX12_areSound 76 = .ok (.iconst 1, 1) := by decide +kernel
theorem dX12_areSound_77 : decode cX12_areSound 77 = .ok (.iload 4, 2) := by decide +kernel
theorem dX12_areSound_79 : decode cX12_areSound 79 = .ok (.invokestatic 161, 3) := by decide +kernel
theorem dX12_areSound_82 : decode cX12_areSound 82 = .ok (.if_icmp .ne 25, 3) := by decide +kernel
theorem dX12_areSound_85 : decode cX12_areSound 85 = .ok (.aload_n 0, 1) := by decide +kernel
theorem dX12_areSound_86 : decode cX12_areSound 86 = .ok (.iload_n 1, 1) := by decide +kernel
theorem dX12_areSound_87 : decode cX12_areSound 87 = .ok (.aload_n 0, 1) := by decide +kernel
theorem dX12_areSound_88 : decode cX12_areSound 88 = .ok (.iload 4, 2) := by decide +kernel
theorem dX12_areSound_90 : decode cX12_areSound 90 = .ok (.iload 5, 2) := by decide +kernel
theorem dX12_areSound_92 : decode cX12_areSound 92 = .ok (.invokevirtual 173, 3) := by decide +kernel
theorem dX12_areSound_95 : decode cX12_areSound 95 = .ok (.invokevirtual 141, 3) := by decide +kernel
theorem dX12_areSound_98 : decode cX12_areSound 98 = .ok (.iconst 3, 1) := by decide +kernel
theorem dX12_areSound_99 : decode cX12_areSound 99 = .ok (.iload 4, 2) := by decide +kernel
theorem dX12_areSound_101 : decode cX12_areSound 101 = .ok (.invokestatic 161, 3) := by decide +kernel
theorem dX12_areSound_104 : decode cX12_areSound 104 = .ok (.if_icmp .eq 5, 3) := by decide +kernel
theorem dX12_areSound_107 : decode cX12_areSound 107 = .ok (.iconst 0, 1) := by decide +kernel
theorem dX12_areSound_108 : decode cX12_areSound 108 = .ok (.ireturn, 1) := by decide +kernel
theorem dX12_areSound_109 : decode cX12_areSound 109 = .ok (.iinc 3 1, 3) := by decide +kernel
theorem dX12_areSound_112 : decode cX12_areSound 112 = .ok (.goto (-97), 3) := by decide +kernel
theorem dX12_areSound_115 : decode cX12_areSound 115 = .ok (.iconst 1, 1) := by decide +kernel
theorem dX12_areSound_116 : decode cX12_areSound 116 = .ok (.ireturn, 1) := by decide +kernel
theorem dX12_squares_0 : decode cX12_squares 0 = .ok (.aload_n 0, 1) := by decide +kernel
theorem dX12_squares_1 : decode cX12_squares 1 = .ok (.getfield 9, 3) := by decide +kernel
theorem dX12_squares_4 : decode cX12_squares 4 = .ok (.aload_n 0, 1) := by decide +kernel
theorem dX12_squares_5 : decode cX12_squares 5 = .ok (.getfield 13, 3) := by decide +kernel
theorem dX12_squares_8 : decode cX12_squares 8 = .ok (.imul, 1) := by decide +kernel
theorem dX12_squares_9 : decode cX12_squares 9 = .ok (.ireturn, 1) := by decide +kernel
theorem dX12_counts_0 : decode cX12_counts 0 = .ok (.iconst 0, 1) := by decide +kernel
theorem dX12_counts_1 : decode cX12_counts 1 = .ok (.istore_n 3, 1) := by decide +kernel
theorem dX12_counts_2 : decode cX12_counts 2 = .ok (.iconst 0, 1) := by decide +kernel
theorem dX12_counts_3 : decode cX12_counts 3 = .ok (.istore 4, 2) := by decide +kernel
theorem dX12_counts_5 : decode cX12_counts 5 = .ok (.iload 4, 2) := by decide +kernel
theorem dX12_counts_7 : decode cX12_counts 7 = .ok (.aload_n 0, 1) := by decide +kernel
theorem dX12_counts_8 : decode cX12_counts 8 = .ok (.invokevirtual 113, 3) := by decide +kernel
theorem dX12_counts_11 : decode cX12_counts 11 = .ok (.if_icmp .ge 28, 3) := by decide +kernel
theorem dX12_counts_14 : decode cX12_counts 14 = .ok (.iload_n 3, 1) := by decide +kernel
theorem dX12_counts_15 : decode cX12_counts 15 = .ok (.aload_n 0, 1) := by decide +kernel
theorem dX12_counts_16 : decode cX12_counts 16 = .ok (.iload_n 1, 1) := by decide +kernel
theorem dX12_counts_17 : decode cX12_counts 17 = .ok (.iload 4, 2) := by decide +kernel
theorem dX12_counts_19 : decode cX12_counts 19 = .ok (.invokevirtual 141, 3) := by decide +kernel
theorem dX12_counts_22 : decode cX12_counts 22 = .ok (.iload_n 2, 1) := by decide +kernel
theorem dX12_counts_23 : decode cX12_counts 23 = .ok (.if_icmp .ne 7, 3) := by decide +kernel
theorem dX12_counts_26 : decode cX12_counts 26 = .ok (.iconst 1, 1) := by decide +kernel
theorem dX12_counts_27 : decode cX12_counts 27 = .ok (.goto 4, 3) := by decide +kernel
theorem dX12_counts_30 : decode cX12_counts 30 = .ok (.iconst 0, 1) := by decide +kernel
theorem dX12_counts_31 : decode cX12_counts 31 = .ok (.iadd, 1) := by decide +kernel
theorem dX12_counts_32 : decode cX12_counts 32 = .ok (.istore_n 3, 1) := by decide +kernel
theorem dX12_counts_33 : decode cX12_counts 33 = .ok (.iinc 4 1, 3) := by decide +kernel
theorem dX12_counts_36 : decode cX12_counts 36 = .ok (.goto (-31), 3) := by decide +kernel
theorem dX12_counts_39 : decode cX12_counts 39 = .ok (.iload_n 3, 1) := by decide +kernel
theorem dX12_counts_40 : decode cX12_counts 40 = .ok (.ireturn, 1) := by decide +kernel
theorem dX12_distance_0 : decode cX12_distance 0 = .ok (.iload_n 0, 1) := by decide +kernel
theorem dX12_distance_1 : decode cX12_distance 1 = .ok (.iload_n 1, 1) := by decide +kernel
theorem dX12_distance_2 : decode cX12_distance 2 = .ok (.if_icmp .ge 9, 3) := by decide +kernel
theorem dX12_distance_5 : decode cX12_distance 5 = .ok (.iload_n 1, 1) := by decide +kernel
theorem dX12_distance_6 : decode cX12_distance 6 = .ok (.iload_n 0, 1) := by decide +kernel
theorem dX12_distance_7 : decode cX12_distance 7 = .ok (.isub, 1) := by decide +kernel
theorem dX12_distance_8 : decode cX12_distance 8 = .ok (.goto 6, 3) := by decide +kernel
theorem dX12_distance_11 : decode cX12_distance 11 = .ok (.iload_n 0, 1) := by decide +kernel
theorem dX12_distance_12 : decode cX12_distance 12 = .ok (.iload_n 1, 1) := by decide +kernel
theorem dX12_distance_13 : decode cX12_distance 13 = .ok (.isub, 1) := by decide +kernel
theorem dX12_distance_14 : decode cX12_distance 14 = .ok (.ireturn, 1) := by decide +kernel
theorem dX12_fileOf_0 : decode cX12_fileOf 0 = .ok (.iload_n 1, 1) := by decide +kernel
theorem dX12_fileOf_1 : decode cX12_fileOf 1 = .ok (.aload_n 0, 1) := by decide +kernel
theorem dX12_fileOf_2 : decode cX12_fileOf 2 = .ok (.getfield 9, 3) := by decide +kernel
theorem dX12_fileOf_5 : decode cX12_fileOf 5 = .ok (.irem, 1) := by decide +kernel
theorem dX12_fileOf_6 : decode cX12_fileOf 6 = .ok (.ireturn, 1) := by decide +kernel
theorem dX12_rankOf_0 : decode cX12_rankOf 0 = .ok (.iload_n 1, 1) := by decide +kernel
theorem dX12_rankOf_1 : decode cX12_rankOf 1 = .ok (.aload_n 0, 1) := by decide +kernel
theorem dX12_rankOf_2 : decode cX12_rankOf 2 = .ok (.getfield 9, 3) := by decide +kernel
theorem dX12_rankOf_5 : decode cX12_rankOf 5 = .ok (.idiv, 1) := by decide +kernel
theorem dX12_rankOf_6 : decode cX12_rankOf 6 = .ok (.ireturn, 1) := by decide +kernel
theorem dX12_isClear_0 : decode cX12_isClear 0 = .ok (.aload_n 0, 1) := by decide +kernel
theorem dX12_isClear_1 : decode cX12_isClear 1 = .ok (.iload_n 3, 1) := by decide +kernel
theorem dX12_isClear_2 : decode cX12_isClear 2 = .ok (.invokevirtual 134, 3) := by decide +kernel
theorem dX12_isClear_5 : decode cX12_isClear 5 = .ok (.aload_n 0, 1) := by decide +kernel
theorem dX12_isClear_6 : decode cX12_isClear 6 = .ok (.iload_n 2, 1) := by decide +kernel
theorem dX12_isClear_7 : decode cX12_isClear 7 = .ok (.invokevirtual 134, 3) := by decide +kernel
theorem dX12_isClear_10 : decode cX12_isClear 10 = .ok (.isub, 1) := by decide +kernel
theorem dX12_isClear_11 : decode cX12_isClear 11 = .ok (.istore 4, 2) := by decide +kernel
theorem dX12_isClear_13 : decode cX12_isClear 13 = .ok (.aload_n 0, 1) := by decide +kernel
theorem dX12_isClear_14 : decode cX12_isClear 14 = .ok (.iload_n 3, 1) := by decide +kernel
theorem dX12_isClear_15 : decode cX12_isClear 15 = .ok (.invokevirtual 138, 3) := by decide +kernel
theorem dX12_isClear_18 : decode cX12_isClear 18 = .ok (.aload_n 0, 1) := by decide +kernel
theorem dX12_isClear_19 : decode cX12_isClear 19 = .ok (.iload_n 2, 1) := by decide +kernel
theorem dX12_isClear_20 : decode cX12_isClear 20 = .ok (.invokevirtual 138, 3) := by decide +kernel
theorem dX12_isClear_23 : decode cX12_isClear 23 = .ok (.isub, 1) := by decide +kernel
theorem dX12_isClear_24 : decode cX12_isClear 24 = .ok (.istore 5, 2) := by decide +kernel
theorem dX12_isClear_26 : decode cX12_isClear 26 = .ok (.iload 5, 2) := by decide +kernel
theorem dX12_isClear_28 : decode cX12_isClear 28 = .ok (.ifCond .le 10, 3) := by decide +kernel
theorem dX12_isClear_31 : decode cX12_isClear 31 = .ok (.aload_n 0, 1) := by decide +kernel
theorem dX12_isClear_32 : decode cX12_isClear 32 = .ok (.getfield 9, 3) := by decide +kernel
theorem dX12_isClear_35 : decode cX12_isClear 35 = .ok (.goto 17, 3) := by decide +kernel
theorem dX12_isClear_38 : decode cX12_isClear 38 = .ok (.iload 5, 2) := by decide +kernel
theorem dX12_isClear_40 : decode cX12_isClear 40 = .ok (.ifCond .ge 11, 3) := by decide +kernel
theorem dX12_isClear_43 : decode cX12_isClear 43 = .ok (.aload_n 0, 1) := by decide +kernel
theorem dX12_isClear_44 : decode cX12_isClear 44 = .ok (.getfield 9, 3) := by decide +kernel
theorem dX12_isClear_47 : decode cX12_isClear 47 = .ok (.ineg, 1) := by decide +kernel
theorem dX12_isClear_48 : decode cX12_isClear 48 = .ok (.goto 4, 3) := by decide +kernel
theorem dX12_isClear_51 : decode cX12_isClear 51 = .ok (.iconst 0, 1) := by decide +kernel
theorem dX12_isClear_52 : decode cX12_isClear 52 = .ok (.iload 4, 2) := by decide +kernel
theorem dX12_isClear_54 : decode cX12_isClear 54 = .ok (.ifCond .le 7, 3) := by decide +kernel
theorem dX12_isClear_57 : decode cX12_isClear 57 = .ok (.iconst 1, 1) := by decide +kernel
theorem dX12_isClear_58 : decode cX12_isClear 58 = .ok (.goto 13, 3) := by decide +kernel
theorem dX12_isClear_61 : decode cX12_isClear 61 = .ok (.iload 4, 2) := by decide +kernel
theorem dX12_isClear_63 : decode cX12_isClear 63 = .ok (.ifCond .ge 7, 3) := by decide +kernel
theorem dX12_isClear_66 : decode cX12_isClear 66 = .ok (.iconst (-1), 1) := by decide +kernel
theorem dX12_isClear_67 : decode cX12_isClear 67 = .ok (.goto 4, 3) := by decide +kernel
theorem dX12_isClear_70 : decode cX12_isClear 70 = .ok (.iconst 0, 1) := by decide +kernel
theorem dX12_isClear_71 : decode cX12_isClear 71 = .ok (.iadd, 1) := by decide +kernel
theorem dX12_isClear_72 : decode cX12_isClear 72 = .ok (.istore 6, 2) := by decide +kernel
theorem dX12_isClear_74 : decode cX12_isClear 74 = .ok (.iload_n 2, 1) := by decide +kernel
theorem dX12_isClear_75 : decode cX12_isClear 75 = .ok (.iload 6, 2) := by decide +kernel
theorem dX12_isClear_77 : decode cX12_isClear 77 = .ok (.iadd, 1) := by decide +kernel
theorem dX12_isClear_78 : decode cX12_isClear 78 = .ok (.istore 7, 2) := by decide +kernel
theorem dX12_isClear_80 : decode cX12_isClear 80 = .ok (.iload 7, 2) := by decide +kernel
theorem dX12_isClear_82 : decode cX12_isClear 82 = .ok (.iload_n 3, 1) := by decide +kernel
theorem dX12_isClear_83 : decode cX12_isClear 83 = .ok (.if_icmp .eq 25, 3) := by decide +kernel
theorem dX12_isClear_86 : decode cX12_isClear 86 = .ok (.aload_n 0, 1) := by decide +kernel
theorem dX12_isClear_87 : decode cX12_isClear 87 = .ok (.iload_n 1, 1) := by decide +kernel
theorem dX12_isClear_88 : decode cX12_isClear 88 = .ok (.iload 7, 2) := by decide +kernel
theorem dX12_isClear_90 : decode cX12_isClear 90 = .ok (.invokevirtual 141, 3) := by decide +kernel
theorem dX12_isClear_93 : decode cX12_isClear 93 = .ok (.ifCond .eq 5, 3) := by decide +kernel
theorem dX12_isClear_96 : decode cX12_isClear 96 = .ok (.iconst 0, 1) := by decide +kernel
theorem dX12_isClear_97 : decode cX12_isClear 97 = .ok (.ireturn, 1) := by decide +kernel
theorem dX12_isClear_98 : decode cX12_isClear 98 = .ok (.iload 7, 2) := by decide +kernel
theorem dX12_isClear_100 : decode cX12_isClear 100 = .ok (.iload 6, 2) := by decide +kernel
theorem dX12_isClear_102 : decode cX12_isClear 102 = .ok (.iadd, 1) := by decide +kernel
theorem dX12_isClear_103 : decode cX12_isClear 103 = .ok (.istore 7, 2) := by decide +kernel
theorem dX12_isClear_105 : decode cX12_isClear 105 = .ok (.goto (-25), 3) := by decide +kernel
theorem dX12_isClear_108 : decode cX12_isClear 108 = .ok (.iconst 1, 1) := by decide +kernel
theorem dX12_isClear_109 : decode cX12_isClear 109 = .ok (.ireturn, 1) := by decide +kernel
theorem dX12_kindOf_0 : decode cX12_kindOf 0 = .ok (.iload_n 0, 1) := by decide +kernel
theorem dX12_kindOf_1 : decode cX12_kindOf 1 = .ok (.bipush 6, 2) := by decide +kernel
theorem dX12_kindOf_3 : decode cX12_kindOf 3 = .ok (.if_icmp .le 10, 3) := by decide +kernel
theorem dX12_kindOf_6 : decode cX12_kindOf 6 = .ok (.iload_n 0, 1) := by decide +kernel
theorem dX12_kindOf_7 : decode cX12_kindOf 7 = .ok (.bipush 6, 2) := by decide +kernel
theorem dX12_kindOf_9 : decode cX12_kindOf 9 = .ok (.isub, 1) := by decide +kernel
theorem dX12_kindOf_10 : decode cX12_kindOf 10 = .ok (.goto 4, 3) := by decide +kernel
theorem dX12_kindOf_13 : decode cX12_kindOf 13 = .ok (.iload_n 0, 1) := by decide +kernel
theorem dX12_kindOf_14 : decode cX12_kindOf 14 = .ok (.ireturn, 1) := by decide +kernel
theorem dX12_attacks_0 : decode cX12_attacks 0 = .ok (.aload_n 0, 1) := by decide +kernel
theorem dX12_attacks_1 : decode cX12_attacks 1 = .ok (.iload_n 1, 1) := by decide +kernel
theorem dX12_attacks_2 : decode cX12_attacks 2 = .ok (.iload_n 2, 1) := by decide +kernel
theorem dX12_attacks_3 : decode cX12_attacks 3 = .ok (.invokevirtual 141, 3) := by decide +kernel
theorem dX12_attacks_6 : decode cX12_attacks 6 = .ok (.istore 4, 2) := by decide +kernel
theorem dX12_attacks_8 : decode cX12_attacks 8 = .ok (.aload_n 0, 1) := by decide +kernel
theorem dX12_attacks_9 : decode cX12_attacks 9 = .ok (.iload_n 2, 1) := by decide +kernel
theorem dX12_attacks_10 : decode cX12_attacks 10 = .ok (.invokevirtual 134, 3) := by decide +kernel
theorem dX12_attacks_13 : decode cX12_attacks 13 = .ok (.aload_n 0, 1) := by decide +kernel
theorem dX12_attacks_14 : decode cX12_attacks 14 = .ok (.iload_n 3, 1) := by decide +kernel
theorem dX12_attacks_15 : decode cX12_attacks 15 = .ok (.invokevirtual 134, 3) := by decide +kernel
theorem dX12_attacks_18 : decode cX12_attacks 18 = .ok (.invokestatic 145, 3) := by decide +kernel
theorem dX12_attacks_21 : decode cX12_attacks 21 = .ok (.istore 5, 2) := by decide +kernel
theorem dX12_attacks_23 : decode cX12_attacks 23 = .ok (.aload_n 0, 1) := by decide +kernel
theorem dX12_attacks_24 : decode cX12_attacks 24 = .ok (.iload_n 2, 1) := by decide +kernel
theorem dX12_attacks_25 : decode cX12_attacks 25 = .ok (.invokevirtual 138, 3) := by decide +kernel
theorem dX12_attacks_28 : decode cX12_attacks 28 = .ok (.aload_n 0, 1) := by decide +kernel
theorem dX12_attacks_29 : decode cX12_attacks 29 = .ok (.iload_n 3, 1) := by decide +kernel
theorem dX12_attacks_30 : decode cX12_attacks 30 = .ok (.invokevirtual 138, 3) := by decide +kernel
theorem dX12_attacks_33 : decode cX12_attacks 33 = .ok (.invokestatic 145, 3) := by decide +kernel
theorem dX12_attacks_36 : decode cX12_attacks 36 = .ok (.istore 6, 2) := by decide +kernel
theorem dX12_attacks_38 : decode cX12_attacks 38 = .ok (.iload 4, 2) := by decide +kernel
theorem dX12_attacks_40 : decode cX12_attacks 40 = .ok (.invokestatic 148, 3) := by decide +kernel
theorem dX12_attacks_43 : decode cX12_attacks 43 = .ok (.tableswitch 215 1 6 #[37, 176, 116, 148, 63, 78], 37) := by decide +kernel
theorem dX12_attacks_80 : decode cX12_attacks 80 = .ok (.iload 5, 2) := by decide +kernel
theorem dX12_attacks_82 : decode cX12_attacks 82 = .ok (.iconst 1, 1) := by decide +kernel
theorem dX12_attacks_83 : decode cX12_attacks 83 = .ok (.if_icmp .gt 21, 3) := by decide +kernel
theorem dX12_attacks_86 : decode cX12_attacks 86 = .ok (.iload 6, 2) := by decide +kernel
theorem dX12_attacks_88 : decode cX12_attacks 88 = .ok (.iconst 1, 1) := by decide +kernel
theorem dX12_attacks_89 : decode cX12_attacks 89 = .ok (.if_icmp .gt 15, 3) := by decide +kernel
theorem dX12_attacks_92 : decode cX12_attacks 92 = .ok (.iload 5, 2) := by decide +kernel
theorem dX12_attacks_94 : decode cX12_attacks 94 = .ok (.iload 6, 2) := by decide +kernel
theorem dX12_attacks_96 : decode cX12_attacks 96 = .ok (.iadd, 1) := by decide +kernel
theorem dX12_attacks_97 : decode cX12_attacks 97 = .ok (.ifCond .le 7, 3) := by decide +kernel
theorem dX12_attacks_100 : decode cX12_attacks 100 = .ok (.iconst 1, 1) := by decide +kernel
theorem dX12_attacks_101 : decode cX12_attacks 101 = .ok (.goto 4, 3) := by decide +kernel
theorem dX12_attacks_104 : decode cX12_attacks 104 = .ok (.iconst 0, 1) := by decide +kernel
theorem dX12_attacks_105 : decode cX12_attacks 105 = .ok (.ireturn, 1) := by decide +kernel
theorem dX12_attacks_106 : decode cX12_attacks 106 = .ok (.iload 5, 2) := by decide +kernel
theorem dX12_attacks_108 : decode cX12_attacks 108 = .ok (.iload 6, 2) := by decide +kernel
theorem dX12_attacks_110 : decode cX12_attacks 110 = .ok (.imul, 1) := by decide +kernel
theorem dX12_attacks_111 : decode cX12_attacks 111 = .ok (.iconst 2, 1) := by decide +kernel
theorem dX12_attacks_112 : decode cX12_attacks 112 = .ok (.if_icmp .ne 7, 3) := by decide +kernel
theorem dX12_attacks_115 : decode cX12_attacks 115 = .ok (.iconst 1, 1) := by decide +kernel
theorem dX12_attacks_116 : decode cX12_attacks 116 = .ok (.goto 4, 3) := by decide +kernel
theorem dX12_attacks_119 : decode cX12_attacks 119 = .ok (.iconst 0, 1) := by decide +kernel
theorem dX12_attacks_120 : decode cX12_attacks 120 = .ok (.ireturn, 1) := by decide +kernel
theorem dX12_attacks_121 : decode cX12_attacks 121 = .ok (.iload 5, 2) := by decide +kernel
theorem dX12_attacks_123 : decode cX12_attacks 123 = .ok (.iconst 1, 1) := by decide +kernel
theorem dX12_attacks_124 : decode cX12_attacks 124 = .ok (.if_icmp .ne 33, 3) := by decide +kernel
theorem dX12_attacks_127 : decode cX12_attacks 127 = .ok (.aload_n 0, 1) := by decide +kernel
theorem dX12_attacks_128 : decode cX12_attacks 128 = .ok (.iload_n 3, 1) := by decide +kernel
theorem dX12_attacks_129 : decode cX12_attacks 129 = .ok (.invokevirtual 138, 3) := by decide +kernel
theorem dX12_attacks_132 : decode cX12_attacks 132 = .ok (.aload_n 0, 1) := by decide +kernel
theorem dX12_attacks_133 : decode cX12_attacks 133 = .ok (.iload_n 2, 1) := by decide +kernel
theorem dX12_attacks_134 : decode cX12_attacks 134 = .ok (.invokevirtual 138, 3) := by decide +kernel
theorem dX12_attacks_137 : decode cX12_attacks 137 = .ok (.isub, 1) := by decide +kernel
theorem dX12_attacks_138 : decode cX12_attacks 138 = .ok (.iload 4, 2) := by decide +kernel
theorem dX12_attacks_140 : decode cX12_attacks 140 = .ok (.bipush 6, 2) := by decide +kernel
theorem dX12_attacks_142 : decode cX12_attacks 142 = .ok (.if_icmp .ne 7, 3) := by decide +kernel
theorem dX12_attacks_145 : decode cX12_attacks 145 = .ok (.iconst 1, 1) := by decide +kernel
theorem dX12_attacks_146 : decode cX12_attacks 146 = .ok (.goto 4, 3) := by decide +kernel
theorem dX12_attacks_149 : decode cX12_attacks 149 = .ok (.iconst (-1), 1) := by decide +kernel
theorem dX12_attacks_150 : decode cX12_attacks 150 = .ok (.if_icmp .ne 7, 3) := by decide +kernel
theorem dX12_attacks_153 : decode cX12_attacks 153 = .ok (.iconst 1, 1) := by decide +kernel
theorem dX12_attacks_154 : decode cX12_attacks 154 = .ok (.goto 4, 3) := by decide +kernel
theorem dX12_attacks_157 : decode cX12_attacks 157 = .ok (.iconst 0, 1) := by decide +kernel
theorem dX12_attacks_158 : decode cX12_attacks 158 = .ok (.ireturn, 1) := by decide +kernel
theorem dX12_attacks_159 : decode cX12_attacks 159 = .ok (.iload 5, 2) := by decide +kernel
theorem dX12_attacks_161 : decode cX12_attacks 161 = .ok (.iload 6, 2) := by decide +kernel
theorem dX12_attacks_163 : decode cX12_attacks 163 = .ok (.imul, 1) := by decide +kernel
theorem dX12_attacks_164 : decode cX12_attacks 164 = .ok (.ifCond .ne 25, 3) := by decide +kernel
theorem dX12_attacks_167 : decode cX12_attacks 167 = .ok (.iload 5, 2) := by decide +kernel
theorem dX12_attacks_169 : decode cX12_attacks 169 = .ok (.iload 6, 2) := by decide +kernel
theorem dX12_attacks_171 : decode cX12_attacks 171 = .ok (.iadd, 1) := by decide +kernel
theorem dX12_attacks_172 : decode cX12_attacks 172 = .ok (.ifCond .le 17, 3) := by decide +kernel
theorem dX12_attacks_175 : decode cX12_attacks 175 = .ok (.aload_n 0, 1) := by decide +kernel
theorem dX12_attacks_176 : decode cX12_attacks 176 = .ok (.iload_n 1, 1) := by decide +kernel
theorem dX12_attacks_177 : decode cX12_attacks 177 = .ok (.iload_n 2, 1) := by decide +kernel
theorem dX12_attacks_178 : decode cX12_attacks 178 = .ok (.iload_n 3, 1) := by decide +kernel
theorem dX12_attacks_179 : decode cX12_attacks 179 = .ok (.invokevirtual 151, 3) := by decide +kernel
theorem dX12_attacks_182 : decode cX12_attacks 182 = .ok (.ifCond .eq 7, 3) := by decide +kernel
theorem dX12_attacks_185 : decode cX12_attacks 185 = .ok (.iconst 1, 1) := by decide +kernel
theorem dX12_attacks_186 : decode cX12_attacks 186 = .ok (.goto 4, 3) := by decide +kernel
theorem dX12_attacks_189 : decode cX12_attacks 189 = .ok (.iconst 0, 1) := by decide +kernel
theorem dX12_attacks_190 : decode cX12_attacks 190 = .ok (.ireturn, 1) := by decide +kernel
theorem dX12_attacks_191 : decode cX12_attacks 191 = .ok (.iload 5, 2) := by decide +kernel
theorem dX12_attacks_193 : decode cX12_attacks 193 = .ok (.iload 6, 2) := by decide +kernel
theorem dX12_attacks_195 : decode cX12_attacks 195 = .ok (.if_icmp .ne 22, 3) := by decide +kernel
theorem dX12_attacks_198 : decode cX12_attacks 198 = .ok (.iload 5, 2) := by decide +kernel
theorem dX12_attacks_200 : decode cX12_attacks 200 = .ok (.ifCond .le 17, 3) := by decide +kernel
theorem dX12_attacks_203 : decode cX12_attacks 203 = .ok (.aload_n 0, 1) := by decide +kernel
theorem dX12_attacks_204 : decode cX12_attacks 204 = .ok (.iload_n 1, 1) := by decide +kernel
theorem dX12_attacks_205 : decode cX12_attacks 205 = .ok (.iload_n 2, 1) := by decide +kernel
theorem dX12_attacks_206 : decode cX12_attacks 206 = .ok (.iload_n 3, 1) := by decide +kernel
theorem dX12_attacks_207 : decode cX12_attacks 207 = .ok (.invokevirtual 151, 3) := by decide +kernel
theorem dX12_attacks_210 : decode cX12_attacks 210 = .ok (.ifCond .eq 7, 3) := by decide +kernel
theorem dX12_attacks_213 : decode cX12_attacks 213 = .ok (.iconst 1, 1) := by decide +kernel
theorem dX12_attacks_214 : decode cX12_attacks 214 = .ok (.goto 4, 3) := by decide +kernel
theorem dX12_attacks_217 : decode cX12_attacks 217 = .ok (.iconst 0, 1) := by decide +kernel
theorem dX12_attacks_218 : decode cX12_attacks 218 = .ok (.ireturn, 1) := by decide +kernel
theorem dX12_attacks_219 : decode cX12_attacks 219 = .ok (.iload 5, 2) := by decide +kernel
theorem dX12_attacks_221 : decode cX12_attacks 221 = .ok (.iload 6, 2) := by decide +kernel
theorem dX12_attacks_223 : decode cX12_attacks 223 = .ok (.imul, 1) := by decide +kernel
theorem dX12_attacks_224 : decode cX12_attacks 224 = .ok (.ifCond .eq 10, 3) := by decide +kernel
theorem dX12_attacks_227 : decode cX12_attacks 227 = .ok (.iload 5, 2) := by decide +kernel
theorem dX12_attacks_229 : decode cX12_attacks 229 = .ok (.iload 6, 2) := by decide +kernel
theorem dX12_attacks_231 : decode cX12_attacks 231 = .ok (.if_icmp .ne 25, 3) := by decide +kernel
theorem dX12_attacks_234 : decode cX12_attacks 234 = .ok (.iload 5, 2) := by decide +kernel
theorem dX12_attacks_236 : decode cX12_attacks 236 = .ok (.iload 6, 2) := by decide +kernel
theorem dX12_attacks_238 : decode cX12_attacks 238 = .ok (.iadd, 1) := by decide +kernel
theorem dX12_attacks_239 : decode cX12_attacks 239 = .ok (.ifCond .le 17, 3) := by decide +kernel
theorem dX12_attacks_242 : decode cX12_attacks 242 = .ok (.aload_n 0, 1) := by decide +kernel
theorem dX12_attacks_243 : decode cX12_attacks 243 = .ok (.iload_n 1, 1) := by decide +kernel
theorem dX12_attacks_244 : decode cX12_attacks 244 = .ok (.iload_n 2, 1) := by decide +kernel
theorem dX12_attacks_245 : decode cX12_attacks 245 = .ok (.iload_n 3, 1) := by decide +kernel
theorem dX12_attacks_246 : decode cX12_attacks 246 = .ok (.invokevirtual 151, 3) := by decide +kernel
theorem dX12_attacks_249 : decode cX12_attacks 249 = .ok (.ifCond .eq 7, 3) := by decide +kernel
theorem dX12_attacks_252 : decode cX12_attacks 252 = .ok (.iconst 1, 1) := by decide +kernel
theorem dX12_attacks_253 : decode cX12_attacks 253 = .ok (.goto 4, 3) := by decide +kernel
theorem dX12_attacks_256 : decode cX12_attacks 256 = .ok (.iconst 0, 1) := by decide +kernel
theorem dX12_attacks_257 : decode cX12_attacks 257 = .ok (.ireturn, 1) := by decide +kernel
theorem dX12_attacks_258 : decode cX12_attacks 258 = .ok (.iconst 0, 1) := by decide +kernel
theorem dX12_attacks_259 : decode cX12_attacks 259 = .ok (.ireturn, 1) := by decide +kernel
theorem dX12_isOf_0 : decode cX12_isOf 0 = .ok (.iload_n 0, 1) := by decide +kernel
theorem dX12_isOf_1 : decode cX12_isOf 1 = .ok (.ifCond .eq 22, 3) := by decide +kernel
theorem dX12_isOf_4 : decode cX12_isOf 4 = .ok (.iload_n 0, 1) := by decide +kernel
theorem dX12_isOf_5 : decode cX12_isOf 5 = .ok (.bipush 6, 2) := by decide +kernel
theorem dX12_isOf_7 : decode cX12_isOf 7 = .ok (.if_icmp .gt 7, 3) := by decide +kernel
theorem dX12_isOf_10 : decode cX12_isOf 10 = .ok (.iconst 1, 1) := by decide +kernel
theorem dX12_isOf_11 : decode cX12_isOf 11 = .ok (.goto 4, 3) := by decide +kernel
theorem dX12_isOf_14 : decode cX12_isOf 14 = .ok (.iconst 0, 1) := by decide +kernel
theorem dX12_isOf_15 : decode cX12_isOf 15 = .ok (.iload_n 1, 1) := by decide +kernel
theorem dX12_isOf_16 : decode cX12_isOf 16 = .ok (.if_icmp .ne 7, 3) := by decide +kernel
theorem dX12_isOf_19 : decode cX12_isOf 19 = .ok (.iconst 1, 1) := by decide +kernel
theorem dX12_isOf_20 : decode cX12_isOf 20 = .ok (.goto 4, 3) := by decide +kernel
theorem dX12_isOf_23 : decode cX12_isOf 23 = .ok (.iconst 0, 1) := by decide +kernel
theorem dX12_isOf_24 : decode cX12_isOf 24 = .ok (.ireturn, 1) := by decide +kernel
theorem dX12_isAttackedBy_0 : decode cX12_isAttackedBy 0 = .ok (.iconst 0, 1) := by decide +kernel
theorem dX12_isAttackedBy_1 : decode cX12_isAttackedBy 1 = .ok (.istore 4, 2) := by decide +kernel
theorem dX12_isAttackedBy_3 : decode cX12_isAttackedBy 3 = .ok (.iload 4, 2) := by decide +kernel
theorem dX12_isAttackedBy_5 : decode cX12_isAttackedBy 5 = .ok (.aload_n 0, 1) := by decide +kernel
theorem dX12_isAttackedBy_6 : decode cX12_isAttackedBy 6 = .ok (.invokevirtual 113, 3) := by decide +kernel
theorem dX12_isAttackedBy_9 : decode cX12_isAttackedBy 9 = .ok (.if_icmp .ge 36, 3) := by decide +kernel
theorem dX12_isAttackedBy_12 : decode cX12_isAttackedBy 12 = .ok (.aload_n 0, 1) := by decide +kernel
theorem dX12_isAttackedBy_13 : decode cX12_isAttackedBy 13 = .ok (.iload_n 1, 1) := by decide +kernel
theorem dX12_isAttackedBy_14 : decode cX12_isAttackedBy 14 = .ok (.iload 4, 2) := by decide +kernel
theorem dX12_isAttackedBy_16 : decode cX12_isAttackedBy 16 = .ok (.invokevirtual 141, 3) := by decide +kernel
theorem dX12_isAttackedBy_19 : decode cX12_isAttackedBy 19 = .ok (.iload_n 3, 1) := by decide +kernel
theorem dX12_isAttackedBy_20 : decode cX12_isAttackedBy 20 = .ok (.invokestatic 154, 3) := by decide +kernel
theorem dX12_isAttackedBy_23 : decode cX12_isAttackedBy 23 = .ok (.ifCond .eq 16, 3) := by decide +kernel
theorem dX12_isAttackedBy_26 : decode cX12_isAttackedBy 26 = .ok (.aload_n 0, 1) := by decide +kernel
theorem dX12_isAttackedBy_27 : decode cX12_isAttackedBy 27 = .ok (.iload_n 1, 1) := by decide +kernel
theorem dX12_isAttackedBy_28 : decode cX12_isAttackedBy 28 = .ok (.iload 4, 2) := by decide +kernel
theorem dX12_isAttackedBy_30 : decode cX12_isAttackedBy 30 = .ok (.iload_n 2, 1) := by decide +kernel
theorem dX12_isAttackedBy_31 : decode cX12_isAttackedBy 31 = .ok (.invokevirtual 158, 3) := by decide +kernel
theorem dX12_isAttackedBy_34 : decode cX12_isAttackedBy 34 = .ok (.ifCond .eq 5, 3) := by decide +kernel
theorem dX12_isAttackedBy_37 : decode cX12_isAttackedBy 37 = .ok (.iconst 1, 1) := by decide +kernel
theorem dX12_isAttackedBy_38 : decode cX12_isAttackedBy 38 = .ok (.ireturn, 1) := by decide +kernel
theorem dX12_isAttackedBy_39 : decode cX12_isAttackedBy 39 = .ok (.iinc 4 1, 3) := by decide +kernel
theorem dX12_isAttackedBy_42 : decode cX12_isAttackedBy 42 = .ok (.goto (-39), 3) := by decide +kernel
theorem dX12_isAttackedBy_45 : decode cX12_isAttackedBy 45 = .ok (.iconst 0, 1) := by decide +kernel
theorem dX12_isAttackedBy_46 : decode cX12_isAttackedBy 46 = .ok (.ireturn, 1) := by decide +kernel
theorem dX12_kingOf_0 : decode cX12_kingOf 0 = .ok (.iconst 0, 1) := by decide +kernel
theorem dX12_kingOf_1 : decode cX12_kingOf 1 = .ok (.istore_n 3, 1) := by decide +kernel
theorem dX12_kingOf_2 : decode cX12_kingOf 2 = .ok (.iload_n 3, 1) := by decide +kernel
theorem dX12_kingOf_3 : decode cX12_kingOf 3 = .ok (.aload_n 0, 1) := by decide +kernel
theorem dX12_kingOf_4 : decode cX12_kingOf 4 = .ok (.invokevirtual 113, 3) := by decide +kernel
theorem dX12_kingOf_7 : decode cX12_kingOf 7 = .ok (.if_icmp .ge 23, 3) := by decide +kernel
theorem dX12_kingOf_10 : decode cX12_kingOf 10 = .ok (.aload_n 0, 1) := by decide +kernel
theorem dX12_kingOf_11 : decode cX12_kingOf 11 = .ok (.iload_n 1, 1) := by decide +kernel
theorem dX12_kingOf_12 : decode cX12_kingOf 12 = .ok (.iload_n 3, 1) := by decide +kernel
theorem dX12_kingOf_13 : decode cX12_kingOf 13 = .ok (.invokevirtual 141, 3) := by decide +kernel
theorem dX12_kingOf_16 : decode cX12_kingOf 16 = .ok (.iconst 1, 1) := by decide +kernel
theorem dX12_kingOf_17 : decode cX12_kingOf 17 = .ok (.iload_n 2, 1) := by decide +kernel
theorem dX12_kingOf_18 : decode cX12_kingOf 18 = .ok (.invokestatic 161, 3) := by decide +kernel
theorem dX12_kingOf_21 : decode cX12_kingOf 21 = .ok (.if_icmp .eq 9, 3) := by decide +kernel
theorem dX12_kingOf_24 : decode cX12_kingOf 24 = .ok (.iinc 3 1, 3) := by decide +kernel
theorem dX12_kingOf_27 : decode cX12_kingOf 27 = .ok (.goto (-25), 3) := by decide +kernel
theorem dX12_kingOf_30 : decode cX12_kingOf 30 = .ok (.iload_n 3, 1) := by decide +kernel
theorem dX12_kingOf_31 : decode cX12_kingOf 31 = .ok (.ireturn, 1) := by decide +kernel
theorem dX12_isInCheck_0 : decode cX12_isInCheck 0 = .ok (.aload_n 0, 1) := by decide +kernel
theorem dX12_isInCheck_1 : decode cX12_isInCheck 1 = .ok (.iload_n 1, 1) := by decide +kernel
theorem dX12_isInCheck_2 : decode cX12_isInCheck 2 = .ok (.aload_n 0, 1) := by decide +kernel
theorem dX12_isInCheck_3 : decode cX12_isInCheck 3 = .ok (.iload_n 1, 1) := by decide +kernel
theorem dX12_isInCheck_4 : decode cX12_isInCheck 4 = .ok (.iload_n 2, 1) := by decide +kernel
theorem dX12_isInCheck_5 : decode cX12_isInCheck 5 = .ok (.invokevirtual 164, 3) := by decide +kernel
theorem dX12_isInCheck_8 : decode cX12_isInCheck 8 = .ok (.iconst 1, 1) := by decide +kernel
theorem dX12_isInCheck_9 : decode cX12_isInCheck 9 = .ok (.iload_n 2, 1) := by decide +kernel
theorem dX12_isInCheck_10 : decode cX12_isInCheck 10 = .ok (.isub, 1) := by decide +kernel
theorem dX12_isInCheck_11 : decode cX12_isInCheck 11 = .ok (.invokevirtual 167, 3) := by decide +kernel
theorem dX12_isInCheck_14 : decode cX12_isInCheck 14 = .ok (.ireturn, 1) := by decide +kernel
theorem dX12_side_0 : decode cX12_side 0 = .ok (.aload_n 0, 1) := by decide +kernel
theorem dX12_side_1 : decode cX12_side 1 = .ok (.getfield 16, 3) := by decide +kernel
theorem dX12_side_4 : decode cX12_side 4 = .ok (.bipush 67, 2) := by decide +kernel
theorem dX12_side_6 : decode cX12_side 6 = .ok (.iload_n 1, 1) := by decide +kernel
theorem dX12_side_7 : decode cX12_side 7 = .ok (.imul, 1) := by decide +kernel
theorem dX12_side_8 : decode cX12_side 8 = .ok (.bipush 64, 2) := by decide +kernel
theorem dX12_side_10 : decode cX12_side 10 = .ok (.iadd, 1) := by decide +kernel
theorem dX12_side_11 : decode cX12_side 11 = .ok (.iaload, 1) := by decide +kernel
theorem dX12_side_12 : decode cX12_side 12 = .ok (.ireturn, 1) := by decide +kernel
theorem dX12_isProperAt_0 : decode cX12_isProperAt 0 = .ok (.aload_n 0, 1) := by decide +kernel
theorem dX12_isProperAt_1 : decode cX12_isProperAt 1 = .ok (.iload_n 1, 1) := by decide +kernel
theorem dX12_isProperAt_2 : decode cX12_isProperAt 2 = .ok (.iconst 1, 1) := by decide +kernel
theorem dX12_isProperAt_3 : decode cX12_isProperAt 3 = .ok (.invokevirtual 176, 3) := by decide +kernel
theorem dX12_isProperAt_6 : decode cX12_isProperAt 6 = .ok (.iconst 1, 1) := by decide +kernel
theorem dX12_isProperAt_7 : decode cX12_isProperAt 7 = .ok (.if_icmp .ne 22, 3) := by decide +kernel
theorem dX12_isProperAt_10 : decode cX12_isProperAt 10 = .ok (.aload_n 0, 1) := by decide +kernel
theorem dX12_isProperAt_11 : decode cX12_isProperAt 11 = .ok (.iload_n 1, 1) := by decide +kernel
theorem dX12_isProperAt_12 : decode cX12_isProperAt 12 = .ok (.bipush 7, 2) := by decide +kernel
theorem dX12_isProperAt_14 : decode cX12_isProperAt 14 = .ok (.invokevirtual 176, 3) := by decide +kernel
theorem dX12_isProperAt_17 : decode cX12_isProperAt 17 = .ok (.iconst 1, 1) := by decide +kernel
theorem dX12_isProperAt_18 : decode cX12_isProperAt 18 = .ok (.if_icmp .ne 11, 3) := by decide +kernel
theorem dX12_isProperAt_21 : decode cX12_isProperAt 21 = .ok (.aload_n 0, 1) := by decide +kernel
theorem dX12_isProperAt_22 : decode cX12_isProperAt 22 = .ok (.iload_n 1, 1) := by decide +kernel
theorem dX12_isProperAt_23 : decode cX12_isProperAt 23 = .ok (.invokevirtual 179, 3) := by decide +kernel
theorem dX12_isProperAt_26 : decode cX12_isProperAt 26 = .ok (.ifCond .ne 5, 3) := by decide +kernel
theorem dX12_isProperAt_29 : decode cX12_isProperAt 29 = .ok (.iconst 0, 1) := by decide +kernel
theorem dX12_isProperAt_30 : decode cX12_isProperAt 30 = .ok (.ireturn, 1) := by decide +kernel
theorem dX12_isProperAt_31 : decode cX12_isProperAt 31 = .ok (.iconst 0, 1) := by decide +kernel
theorem dX12_isProperAt_32 : decode cX12_isProperAt 32 = .ok (.istore_n 2, 1) := by decide +kernel
theorem dX12_isProperAt_33 : decode cX12_isProperAt 33 = .ok (.iload_n 2, 1) := by decide +kernel
theorem dX12_isProperAt_34 : decode cX12_isProperAt 34 = .ok (.aload_n 0, 1) := by decide +kernel
theorem dX12_isProperAt_35 : decode cX12_isProperAt 35 = .ok (.getfield 9, 3) := by decide +kernel
theorem dX12_isProperAt_38 : decode cX12_isProperAt 38 = .ok (.if_icmp .ge 51, 3) := by decide +kernel
theorem dX12_isProperAt_41 : decode cX12_isProperAt 41 = .ok (.aload_n 0, 1) := by decide +kernel
theorem dX12_isProperAt_42 : decode cX12_isProperAt 42 = .ok (.iload_n 1, 1) := by decide +kernel
theorem dX12_isProperAt_43 : decode cX12_isProperAt 43 = .ok (.iload_n 2, 1) := by decide +kernel
theorem dX12_isProperAt_44 : decode cX12_isProperAt 44 = .ok (.invokevirtual 141, 3) := by decide +kernel
theorem dX12_isProperAt_47 : decode cX12_isProperAt 47 = .ok (.invokestatic 148, 3) := by decide +kernel
theorem dX12_isProperAt_50 : decode cX12_isProperAt 50 = .ok (.bipush 6, 2) := by decide +kernel
theorem dX12_isProperAt_52 : decode cX12_isProperAt 52 = .ok (.if_icmp .eq 29, 3) := by decide +kernel
theorem dX12_isProperAt_55 : decode cX12_isProperAt 55 = .ok (.aload_n 0, 1) := by decide +kernel
theorem dX12_isProperAt_56 : decode cX12_isProperAt 56 = .ok (.iload_n 1, 1) := by decide +kernel
theorem dX12_isProperAt_57 : decode cX12_isProperAt 57 = .ok (.aload_n 0, 1) := by decide +kernel
theorem dX12_isProperAt_58 : decode cX12_isProperAt 58 = .ok (.getfield 9, 3) := by decide +kernel
theorem dX12_isProperAt_61 : decode cX12_isProperAt 61 = .ok (.aload_n 0, 1) := by decide +kernel
theorem dX12_isProperAt_62 : decode cX12_isProperAt 62 = .ok (.getfield 13, 3) := by decide +kernel
theorem dX12_isProperAt_65 : decode cX12_isProperAt 65 = .ok (.iconst 1, 1) := by decide +kernel
theorem dX12_isProperAt_66 : decode cX12_isProperAt 66 = .ok (.isub, 1) := by decide +kernel
theorem dX12_isProperAt_67 : decode cX12_isProperAt 67 = .ok (.imul, 1) := by decide +kernel
theorem dX12_isProperAt_68 : decode cX12_isProperAt 68 = .ok (.iload_n 2, 1) := by decide +kernel
theorem dX12_isProperAt_69 : decode cX12_isProperAt 69 = .ok (.iadd, 1) := by decide +kernel
theorem dX12_isProperAt_70 : decode cX12_isProperAt 70 = .ok (.invokevirtual 141, 3) := by decide +kernel
theorem dX12_isProperAt_73 : decode cX12_isProperAt 73 = .ok (.invokestatic 148, 3) := by decide +kernel
theorem dX12_isProperAt_76 : decode cX12_isProperAt 76 = .ok (.bipush 6, 2) := by decide +kernel
theorem dX12_isProperAt_78 : decode cX12_isProperAt 78 = .ok (.if_icmp .ne 5, 3) := by decide +kernel
theorem dX12_isProperAt_81 : decode cX12_isProperAt 81 = .ok (.iconst 0, 1) := by decide +kernel
theorem dX12_isProperAt_82 : decode cX12_isProperAt 82 = .ok (.ireturn, 1) := by decide +kernel
theorem dX12_isProperAt_83 : decode cX12_isProperAt 83 = .ok (.iinc 2 1, 3) := by decide +kernel
theorem dX12_isProperAt_86 : decode cX12_isProperAt 86 = .ok (.goto (-53), 3) := by decide +kernel
theorem dX12_isProperAt_89 : decode cX12_isProperAt 89 = .ok (.aload_n 0, 1) := by decide +kernel
theorem dX12_isProperAt_90 : decode cX12_isProperAt 90 = .ok (.iload_n 1, 1) := by decide +kernel
theorem dX12_isProperAt_91 : decode cX12_isProperAt 91 = .ok (.iconst 1, 1) := by decide +kernel
theorem dX12_isProperAt_92 : decode cX12_isProperAt 92 = .ok (.aload_n 0, 1) := by decide +kernel
theorem dX12_isProperAt_93 : decode cX12_isProperAt 93 = .ok (.iload_n 1, 1) := by decide +kernel
theorem dX12_isProperAt_94 : decode cX12_isProperAt 94 = .ok (.invokevirtual 183, 3) := by decide +kernel
theorem dX12_isProperAt_97 : decode cX12_isProperAt 97 = .ok (.isub, 1) := by decide +kernel
theorem dX12_isProperAt_98 : decode cX12_isProperAt 98 = .ok (.invokevirtual 186, 3) := by decide +kernel
theorem dX12_isProperAt_101 : decode cX12_isProperAt 101 = .ok (.ifCond .ne 7, 3) := by decide +kernel
theorem dX12_isProperAt_104 : decode cX12_isProperAt 104 = .ok (.iconst 1, 1) := by decide +kernel
theorem dX12_isProperAt_105 : decode cX12_isProperAt 105 = .ok (.goto 4, 3) := by decide +kernel
theorem dX12_isProperAt_108 : decode cX12_isProperAt 108 = .ok (.iconst 0, 1) := by decide +kernel
theorem dX12_isProperAt_109 : decode cX12_isProperAt 109 = .ok (.ireturn, 1) := by decide +kernel
theorem dX12_presentAt_0 : decode cX12_presentAt 0 = .ok (.bipush 67, 2) := by decide +kernel
theorem dX12_presentAt_2 : decode cX12_presentAt 2 = .ok (.aload_n 0, 1) := by decide +kernel
theorem dX12_presentAt_3 : decode cX12_presentAt 3 = .ok (.getfield 121, 3) := by decide +kernel
theorem dX12_presentAt_6 : decode cX12_presentAt 6 = .ok (.imul, 1) := by decide +kernel
theorem dX12_presentAt_7 : decode cX12_presentAt 7 = .ok (.ireturn, 1) := by decide +kernel
theorem dX12_loads_0 : decode cX12_loads 0 = .ok (.bipush 67, 2) := by decide +kernel
theorem dX12_loads_2 : decode cX12_loads 2 = .ok (.aload_n 0, 1) := by decide +kernel
theorem dX12_loads_3 : decode cX12_loads 3 = .ok (.getfield 32, 3) := by decide +kernel
theorem dX12_loads_6 : decode cX12_loads 6 = .ok (.aload_n 0, 1) := by decide +kernel
theorem dX12_loads_7 : decode cX12_loads 7 = .ok (.invokevirtual 127, 3) := by decide +kernel
theorem dX12_loads_10 : decode cX12_loads 10 = .ok (.aload_n 0, 1) := by decide +kernel
theorem dX12_loads_11 : decode cX12_loads 11 = .ok (.getfield 16, 3) := by decide +kernel
theorem dX12_loads_14 : decode cX12_loads 14 = .ok (.iconst 0, 1) := by decide +kernel
theorem dX12_loads_15 : decode cX12_loads 15 = .ok (.invokestatic 130, 3) := by decide +kernel
theorem dX12_loads_18 : decode cX12_loads 18 = .ok (.return_, 1) := by decide +kernel
theorem dX12_isAskable_0 : decode cX12_isAskable 0 = .ok (.bipush 67, 2) := by decide +kernel
theorem dX12_isAskable_2 : decode cX12_isAskable 2 = .ok (.aload_n 0, 1) := by decide +kernel
theorem dX12_isAskable_3 : decode cX12_isAskable 3 = .ok (.getfield 32, 3) := by decide +kernel
theorem dX12_isAskable_6 : decode cX12_isAskable 6 = .ok (.iconst 0, 1) := by decide +kernel
theorem dX12_isAskable_7 : decode cX12_isAskable 7 = .ok (.aload_n 0, 1) := by decide +kernel
theorem dX12_isAskable_8 : decode cX12_isAskable 8 = .ok (.getfield 16, 3) := by decide +kernel
theorem dX12_isAskable_11 : decode cX12_isAskable 11 = .ok (.iconst 0, 1) := by decide +kernel
theorem dX12_isAskable_12 : decode cX12_isAskable 12 = .ok (.invokestatic 130, 3) := by decide +kernel
theorem dX12_isAskable_15 : decode cX12_isAskable 15 = .ok (.aload_n 0, 1) := by decide +kernel
theorem dX12_isAskable_16 : decode cX12_isAskable 16 = .ok (.iconst 0, 1) := by decide +kernel
theorem dX12_isAskable_17 : decode cX12_isAskable 17 = .ok (.invokevirtual 189, 3) := by decide +kernel
theorem dX12_isAskable_20 : decode cX12_isAskable 20 = .ok (.istore_n 1, 1) := by decide +kernel
theorem dX12_isAskable_21 : decode cX12_isAskable 21 = .ok (.aload_n 0, 1) := by decide +kernel
theorem dX12_isAskable_22 : decode cX12_isAskable 22 = .ok (.invokevirtual 192, 3) := by decide +kernel
theorem dX12_isAskable_25 : decode cX12_isAskable 25 = .ok (.iload_n 1, 1) := by decide +kernel
theorem dX12_isAskable_26 : decode cX12_isAskable 26 = .ok (.ireturn, 1) := by decide +kernel
theorem dX12_isShelf_0 : decode cX12_isShelf 0 = .ok (.iload_n 0, 1) := by decide +kernel
theorem dX12_isShelf_1 : decode cX12_isShelf 1 = .ok (.iconst 0, 1) := by decide +kernel
theorem dX12_isShelf_2 : decode cX12_isShelf 2 = .ok (.iconst 1, 1) := by decide +kernel
theorem dX12_isShelf_3 : decode cX12_isShelf 3 = .ok (.invokestatic 117, 3) := by decide +kernel
theorem dX12_isShelf_6 : decode cX12_isShelf 6 = .ok (.ireturn, 1) := by decide +kernel
theorem dX12_placeOf_0 : decode cX12_placeOf 0 = .ok (.sipush 5427, 3) := by decide +kernel
theorem dX12_placeOf_3 : decode cX12_placeOf 3 = .ok (.bipush 40, 2) := by decide +kernel
theorem dX12_placeOf_5 : decode cX12_placeOf 5 = .ok (.iload_n 0, 1) := by decide +kernel
theorem dX12_placeOf_6 : decode cX12_placeOf 6 = .ok (.imul, 1) := by decide +kernel
theorem dX12_placeOf_7 : decode cX12_placeOf 7 = .ok (.iload_n 1, 1) := by decide +kernel
theorem dX12_placeOf_8 : decode cX12_placeOf 8 = .ok (.iadd, 1) := by decide +kernel
theorem dX12_placeOf_9 : decode cX12_placeOf 9 = .ok (.imul, 1) := by decide +kernel
theorem dX12_placeOf_10 : decode cX12_placeOf 10 = .ok (.bipush 67, 2) := by decide +kernel
theorem dX12_placeOf_12 : decode cX12_placeOf 12 = .ok (.iload_n 2, 1) := by decide +kernel
theorem dX12_placeOf_13 : decode cX12_placeOf 13 = .ok (.imul, 1) := by decide +kernel
theorem dX12_placeOf_14 : decode cX12_placeOf 14 = .ok (.iadd, 1) := by decide +kernel
theorem dX12_placeOf_15 : decode cX12_placeOf 15 = .ok (.ireturn, 1) := by decide +kernel
theorem dX12_slot_0 : decode cX12_slot 0 = .ok (.bipush 40, 2) := by decide +kernel
theorem dX12_slot_2 : decode cX12_slot 2 = .ok (.iload_n 0, 1) := by decide +kernel
theorem dX12_slot_3 : decode cX12_slot 3 = .ok (.imul, 1) := by decide +kernel
theorem dX12_slot_4 : decode cX12_slot 4 = .ok (.iload_n 1, 1) := by decide +kernel
theorem dX12_slot_5 : decode cX12_slot 5 = .ok (.iadd, 1) := by decide +kernel
theorem dX12_slot_6 : decode cX12_slot 6 = .ok (.ireturn, 1) := by decide +kernel
theorem dX12_addGame_0 : decode cX12_addGame 0 = .ok (.aload_n 0, 1) := by decide +kernel
theorem dX12_addGame_1 : decode cX12_addGame 1 = .ok (.iload_n 1, 1) := by decide +kernel
theorem dX12_addGame_2 : decode cX12_addGame 2 = .ok (.invokestatic 397, 3) := by decide +kernel
theorem dX12_addGame_5 : decode cX12_addGame 5 = .ok (.iconst 1, 1) := by decide +kernel
theorem dX12_addGame_6 : decode cX12_addGame 6 = .ok (.invokevirtual 237, 3) := by decide +kernel
theorem dX12_addGame_9 : decode cX12_addGame 9 = .ok (.ifCond .eq 81, 3) := by decide +kernel
theorem dX12_addGame_12 : decode cX12_addGame 12 = .ok (.aload_n 0, 1) := by decide +kernel
theorem dX12_addGame_13 : decode cX12_addGame 13 = .ok (.iload_n 2, 1) := by decide +kernel
theorem dX12_addGame_14 : decode cX12_addGame 14 = .ok (.iconst 0, 1) := by decide +kernel
theorem dX12_addGame_15 : decode cX12_addGame 15 = .ok (.iconst 2, 1) := by decide +kernel
theorem dX12_addGame_16 : decode cX12_addGame 16 = .ok (.invokestatic 117, 3) := by decide +kernel
theorem dX12_addGame_19 : decode cX12_addGame 19 = .ok (.ifCond .eq 32, 3) := by decide +kernel
theorem dX12_addGame_22 : decode cX12_addGame 22 = .ok (.iload_n 3, 1) := by decide +kernel
theorem dX12_addGame_23 : decode cX12_addGame 23 = .ok (.sipush 1800, 3) := by decide +kernel
theorem dX12_addGame_26 : decode cX12_addGame 26 = .ok (.sipush 2100, 3) := by decide +kernel
theorem dX12_addGame_29 : decode cX12_addGame 29 = .ok (.invokestatic 117, 3) := by decide +kernel
theorem dX12_addGame_32 : decode cX12_addGame 32 = .ok (.ifCond .eq 19, 3) := by decide +kernel
theorem dX12_addGame_35 : decode cX12_addGame 35 = .ok (.iload 4, 2) := by decide +kernel
theorem dX12_addGame_37 : decode cX12_addGame 37 = .ok (.iconst 0, 1) := by decide +kernel
theorem dX12_addGame_38 : decode cX12_addGame 38 = .ok (.sipush 3500, 3) := by decide +kernel
theorem dX12_addGame_41 : decode cX12_addGame 41 = .ok (.invokestatic 117, 3) := by decide +kernel
theorem dX12_addGame_44 : decode cX12_addGame 44 = .ok (.ifCond .eq 7, 3) := by decide +kernel
theorem dX12_addGame_47 : decode cX12_addGame 47 = .ok (.iconst 1, 1) := by decide +kernel
theorem dX12_addGame_48 : decode cX12_addGame 48 = .ok (.goto 4, 3) := by decide +kernel
theorem dX12_addGame_51 : decode cX12_addGame 51 = .ok (.iconst 0, 1) := by decide +kernel
theorem dX12_addGame_52 : decode cX12_addGame 52 = .ok (.iconst 2, 1) := by decide +kernel
theorem dX12_addGame_53 : decode cX12_addGame 53 = .ok (.invokevirtual 237, 3) := by decide +kernel
theorem dX12_addGame_56 : decode cX12_addGame 56 = .ok (.ifCond .eq 34, 3) := by decide +kernel
theorem dX12_addGame_59 : decode cX12_addGame 59 = .ok (.aload_n 0, 1) := by decide +kernel
theorem dX12_addGame_60 : decode cX12_addGame 60 = .ok (.aload_n 0, 1) := by decide +kernel
theorem dX12_addGame_61 : decode cX12_addGame 61 = .ok (.invokevirtual 284, 3) := by decide +kernel
theorem dX12_addGame_64 : decode cX12_addGame 64 = .ok (.ifCond .eq 18, 3) := by decide +kernel
theorem dX12_addGame_67 : decode cX12_addGame 67 = .ok (.aload_n 0, 1) := by decide +kernel
theorem dX12_addGame_68 : decode cX12_addGame 68 = .ok (.getfield 69, 3) := by decide +kernel
theorem dX12_addGame_71 : decode cX12_addGame 71 = .ok (.iload_n 1, 1) := by decide +kernel
theorem dX12_addGame_72 : decode cX12_addGame 72 = .ok (.iaload, 1) := by decide +kernel
theorem dX12_addGame_73 : decode cX12_addGame 73 = .ok (.bipush 40, 2) := by decide +kernel
theorem dX12_addGame_75 : decode cX12_addGame 75 = .ok (.if_icmp .ge 7, 3) := by decide +kernel
theorem dX12_addGame_78 : decode cX12_addGame 78 = .ok (.iconst 1, 1) := by decide +kernel
theorem dX12_addGame_79 : decode cX12_addGame 79 = .ok (.goto 4, 3) := by decide +kernel
theorem dX12_addGame_82 : decode cX12_addGame 82 = .ok (.iconst 0, 1) := by decide +kernel
theorem dX12_addGame_83 : decode cX12_addGame 83 = .ok (.iconst 3, 1) := by decide +kernel
theorem dX12_addGame_84 : decode cX12_addGame 84 = .ok (.invokevirtual 237, 3) := by decide +kernel
theorem dX12_addGame_87 : decode cX12_addGame 87 = .ok (.ifCond .ne 5, 3) := by decide +kernel
theorem dX12_addGame_90 : decode cX12_addGame 90 = .ok (.iconst 0, 1) := by decide +kernel
theorem dX12_addGame_91 : decode cX12_addGame 91 = .ok (.ireturn, 1) := by decide +kernel
theorem dX12_addGame_92 : decode cX12_addGame 92 = .ok (.aload_n 0, 1) := by decide +kernel
theorem dX12_addGame_93 : decode cX12_addGame 93 = .ok (.getfield 69, 3) := by decide +kernel
theorem dX12_addGame_96 : decode cX12_addGame 96 = .ok (.iload_n 1, 1) := by decide +kernel
theorem dX12_addGame_97 : decode cX12_addGame 97 = .ok (.iaload, 1) := by decide +kernel
theorem dX12_addGame_98 : decode cX12_addGame 98 = .ok (.istore 5, 2) := by decide +kernel
theorem dX12_addGame_100 : decode cX12_addGame 100 = .ok (.iload_n 1, 1) := by decide +kernel
theorem dX12_addGame_101 : decode cX12_addGame 101 = .ok (.iload 5, 2) := by decide +kernel
theorem dX12_addGame_103 : decode cX12_addGame 103 = .ok (.invokestatic 400, 3) := by decide +kernel
theorem dX12_addGame_106 : decode cX12_addGame 106 = .ok (.istore 6, 2) := by decide +kernel
theorem dX12_addGame_108 : decode cX12_addGame 108 = .ok (.aload_n 0, 1) := by decide +kernel
theorem dX12_addGame_109 : decode cX12_addGame 109 = .ok (.getfield 69, 3) := by decide +kernel
theorem dX12_addGame_112 : decode cX12_addGame 112 = .ok (.iload_n 1, 1) := by decide +kernel
theorem dX12_addGame_113 : decode cX12_addGame 113 = .ok (.dup2, 1) := by decide +kernel
theorem dX12_addGame_114 : decode cX12_addGame 114 = .ok (.iaload, 1) := by decide +kernel
theorem dX12_addGame_115 : decode cX12_addGame 115 = .ok (.iconst 1, 1) := by decide +kernel
theorem dX12_addGame_116 : decode cX12_addGame 116 = .ok (.iadd, 1) := by decide +kernel
theorem dX12_addGame_117 : decode cX12_addGame 117 = .ok (.iastore, 1) := by decide +kernel
theorem dX12_addGame_118 : decode cX12_addGame 118 = .ok (.bipush 67, 2) := by decide +kernel
theorem dX12_addGame_120 : decode cX12_addGame 120 = .ok (.aload_n 0, 1) := by decide +kernel
theorem dX12_addGame_121 : decode cX12_addGame 121 = .ok (.getfield 121, 3) := by decide +kernel
theorem dX12_addGame_124 : decode cX12_addGame 124 = .ok (.iconst 1, 1) := by decide +kernel
theorem dX12_addGame_125 : decode cX12_addGame 125 = .ok (.iadd, 1) := by decide +kernel
theorem dX12_addGame_126 : decode cX12_addGame 126 = .ok (.imul, 1) := by decide +kernel
theorem dX12_addGame_127 : decode cX12_addGame 127 = .ok (.aload_n 0, 1) := by decide +kernel
theorem dX12_addGame_128 : decode cX12_addGame 128 = .ok (.getfield 32, 3) := by decide +kernel
theorem dX12_addGame_131 : decode cX12_addGame 131 = .ok (.iconst 0, 1) := by decide +kernel
theorem dX12_addGame_132 : decode cX12_addGame 132 = .ok (.aload_n 0, 1) := by decide +kernel
theorem dX12_addGame_133 : decode cX12_addGame 133 = .ok (.getfield 73, 3) := by decide +kernel
theorem dX12_addGame_136 : decode cX12_addGame 136 = .ok (.iload_n 1, 1) := by decide +kernel
theorem dX12_addGame_137 : decode cX12_addGame 137 = .ok (.iload 5, 2) := by decide +kernel
theorem dX12_addGame_139 : decode cX12_addGame 139 = .ok (.iconst 0, 1) := by decide +kernel
theorem dX12_addGame_140 : decode cX12_addGame 140 = .ok (.invokestatic 403, 3) := by decide +kernel
theorem dX12_addGame_143 : decode cX12_addGame 143 = .ok (.invokestatic 130, 3) := by decide +kernel
theorem dX12_addGame_146 : decode cX12_addGame 146 = .ok (.aload_n 0, 1) := by decide +kernel
theorem dX12_addGame_147 : decode cX12_addGame 147 = .ok (.getfield 121, 3) := by decide +kernel
theorem dX12_addGame_150 : decode cX12_addGame 150 = .ok (.aload_n 0, 1) := by decide +kernel
theorem dX12_addGame_151 : decode cX12_addGame 151 = .ok (.getfield 35, 3) := by decide +kernel
theorem dX12_addGame_154 : decode cX12_addGame 154 = .ok (.iconst 0, 1) := by decide +kernel
theorem dX12_addGame_155 : decode cX12_addGame 155 = .ok (.aload_n 0, 1) := by decide +kernel
theorem dX12_addGame_156 : decode cX12_addGame 156 = .ok (.getfield 76, 3) := by decide +kernel
theorem dX12_addGame_159 : decode cX12_addGame 159 = .ok (.bipush 80, 2) := by decide +kernel
theorem dX12_addGame_161 : decode cX12_addGame 161 = .ok (.iload 6, 2) := by decide +kernel
theorem dX12_addGame_163 : decode cX12_addGame 163 = .ok (.imul, 1) := by decide +kernel
theorem dX12_addGame_164 : decode cX12_addGame 164 = .ok (.invokestatic 130, 3) := by decide +kernel
theorem dX12_addGame_167 : decode cX12_addGame 167 = .ok (.aload_n 0, 1) := by decide +kernel
theorem dX12_addGame_168 : decode cX12_addGame 168 = .ok (.getfield 79, 3) := by decide +kernel
theorem dX12_addGame_171 : decode cX12_addGame 171 = .ok (.iload 6, 2) := by decide +kernel
theorem dX12_addGame_173 : decode cX12_addGame 173 = .ok (.aload_n 0, 1) := by decide +kernel
theorem dX12_addGame_174 : decode cX12_addGame 174 = .ok (.getfield 121, 3) := by decide +kernel
theorem dX12_addGame_177 : decode cX12_addGame 177 = .ok (.iastore, 1) := by decide +kernel
theorem dX12_addGame_178 : decode cX12_addGame 178 = .ok (.aload_n 0, 1) := by decide +kernel
theorem dX12_addGame_179 : decode cX12_addGame 179 = .ok (.getfield 82, 3) := by decide +kernel
theorem dX12_addGame_182 : decode cX12_addGame 182 = .ok (.iload 6, 2) := by decide +kernel
theorem dX12_addGame_184 : decode cX12_addGame 184 = .ok (.iload_n 2, 1) := by decide +kernel
theorem dX12_addGame_185 : decode cX12_addGame 185 = .ok (.iastore, 1) := by decide +kernel
theorem dX12_addGame_186 : decode cX12_addGame 186 = .ok (.aload_n 0, 1) := by decide +kernel
theorem dX12_addGame_187 : decode cX12_addGame 187 = .ok (.getfield 85, 3) := by decide +kernel
theorem dX12_addGame_190 : decode cX12_addGame 190 = .ok (.iload 6, 2) := by decide +kernel
theorem dX12_addGame_192 : decode cX12_addGame 192 = .ok (.iload_n 3, 1) := by decide +kernel
theorem dX12_addGame_193 : decode cX12_addGame 193 = .ok (.iastore, 1) := by decide +kernel
theorem dX12_addGame_194 : decode cX12_addGame 194 = .ok (.aload_n 0, 1) := by decide +kernel
theorem dX12_addGame_195 : decode cX12_addGame 195 = .ok (.getfield 88, 3) := by decide +kernel
theorem dX12_addGame_198 : decode cX12_addGame 198 = .ok (.iload 6, 2) := by decide +kernel
theorem dX12_addGame_200 : decode cX12_addGame 200 = .ok (.iload 4, 2) := by decide +kernel
theorem dX12_addGame_202 : decode cX12_addGame 202 = .ok (.iastore, 1) := by decide +kernel
theorem dX12_addGame_203 : decode cX12_addGame 203 = .ok (.aload_n 0, 1) := by decide +kernel
theorem dX12_addGame_204 : decode cX12_addGame 204 = .ok (.getfield 91, 3) := by decide +kernel
theorem dX12_addGame_207 : decode cX12_addGame 207 = .ok (.iload 6, 2) := by decide +kernel
theorem dX12_addGame_209 : decode cX12_addGame 209 = .ok (.iconst 0, 1) := by decide +kernel
theorem dX12_addGame_210 : decode cX12_addGame 210 = .ok (.iastore, 1) := by decide +kernel
theorem dX12_addGame_211 : decode cX12_addGame 211 = .ok (.aload_n 0, 1) := by decide +kernel
theorem dX12_addGame_212 : decode cX12_addGame 212 = .ok (.getfield 94, 3) := by decide +kernel
theorem dX12_addGame_215 : decode cX12_addGame 215 = .ok (.iload 6, 2) := by decide +kernel
theorem dX12_addGame_217 : decode cX12_addGame 217 = .ok (.iconst 0, 1) := by decide +kernel
theorem dX12_addGame_218 : decode cX12_addGame 218 = .ok (.iastore, 1) := by decide +kernel
theorem dX12_addGame_219 : decode cX12_addGame 219 = .ok (.iload 5, 2) := by decide +kernel
theorem dX12_addGame_221 : decode cX12_addGame 221 = .ok (.ireturn, 1) := by decide +kernel
theorem dX12_askedNow_0 : decode cX12_askedNow 0 = .ok (.iconst 0, 1) := by decide +kernel
theorem dX12_askedNow_1 : decode cX12_askedNow 1 = .ok (.istore_n 1, 1) := by decide +kernel
theorem dX12_askedNow_2 : decode cX12_askedNow 2 = .ok (.iconst 1, 1) := by decide +kernel
theorem dX12_askedNow_3 : decode cX12_askedNow 3 = .ok (.istore_n 2, 1) := by decide +kernel
theorem dX12_askedNow_4 : decode cX12_askedNow 4 = .ok (.iload_n 2, 1) := by decide +kernel
theorem dX12_askedNow_5 : decode cX12_askedNow 5 = .ok (.aload_n 0, 1) := by decide +kernel
theorem dX12_askedNow_6 : decode cX12_askedNow 6 = .ok (.getfield 69, 3) := by decide +kernel
theorem dX12_askedNow_9 : decode cX12_askedNow 9 = .ok (.iconst 0, 1) := by decide +kernel
theorem dX12_askedNow_10 : decode cX12_askedNow 10 = .ok (.iaload, 1) := by decide +kernel
theorem dX12_askedNow_11 : decode cX12_askedNow 11 = .ok (.if_icmp .ge 60, 3) := by decide +kernel
theorem dX12_askedNow_14 : decode cX12_askedNow 14 = .ok (.aload_n 0, 1) := by decide +kernel
theorem dX12_askedNow_15 : decode cX12_askedNow 15 = .ok (.getfield 94, 3) := by decide +kernel
theorem dX12_askedNow_18 : decode cX12_askedNow 18 = .ok (.iload_n 2, 1) := by decide +kernel
theorem dX12_askedNow_19 : decode cX12_askedNow 19 = .ok (.iaload, 1) := by decide +kernel
theorem dX12_askedNow_20 : decode cX12_askedNow 20 = .ok (.aload_n 0, 1) := by decide +kernel
theorem dX12_askedNow_21 : decode cX12_askedNow 21 = .ok (.getfield 94, 3) := by decide +kernel
theorem dX12_askedNow_24 : decode cX12_askedNow 24 = .ok (.iload_n 1, 1) := by decide +kernel
theorem dX12_askedNow_25 : decode cX12_askedNow 25 = .ok (.iaload, 1) := by decide +kernel
theorem dX12_askedNow_26 : decode cX12_askedNow 26 = .ok (.if_icmp .lt 33, 3) := by decide +kernel
theorem dX12_askedNow_29 : decode cX12_askedNow 29 = .ok (.aload_n 0, 1) := by decide +kernel
theorem dX12_askedNow_30 : decode cX12_askedNow 30 = .ok (.getfield 94, 3) := by decide +kernel
theorem dX12_askedNow_33 : decode cX12_askedNow 33 = .ok (.iload_n 2, 1) := by decide +kernel
theorem dX12_askedNow_34 : decode cX12_askedNow 34 = .ok (.iaload, 1) := by decide +kernel
theorem dX12_askedNow_35 : decode cX12_askedNow 35 = .ok (.aload_n 0, 1) := by decide +kernel
theorem dX12_askedNow_36 : decode cX12_askedNow 36 = .ok (.getfield 94, 3) := by decide +kernel
theorem dX12_askedNow_39 : decode cX12_askedNow 39 = .ok (.iload_n 1, 1) := by decide +kernel
theorem dX12_askedNow_40 : decode cX12_askedNow 40 = .ok (.iaload, 1) := by decide +kernel
theorem dX12_askedNow_41 : decode cX12_askedNow 41 = .ok (.if_icmp .ne 22, 3) := by decide +kernel
theorem dX12_askedNow_44 : decode cX12_askedNow 44 = .ok (.aload_n 0, 1) := by decide +kernel
theorem dX12_askedNow_45 : decode cX12_askedNow 45 = .ok (.getfield 91, 3) := by decide +kernel
theorem dX12_askedNow_48 : decode cX12_askedNow 48 = .ok (.iload_n 2, 1) := by decide +kernel
theorem dX12_askedNow_49 : decode cX12_askedNow 49 = .ok (.iaload, 1) := by decide +kernel
theorem dX12_askedNow_50 : decode cX12_askedNow 50 = .ok (.aload_n 0, 1) := by decide +kernel
theorem dX12_askedNow_51 : decode cX12_askedNow 51 = .ok (.getfield 91, 3) := by decide +kernel
theorem dX12_askedNow_54 : decode cX12_askedNow 54 = .ok (.iload_n 1, 1) := by decide +kernel
theorem dX12_askedNow_55 : decode cX12_askedNow 55 = .ok (.iaload, 1) := by decide +kernel
theorem dX12_askedNow_56 : decode cX12_askedNow 56 = .ok (.if_icmp .ge 7, 3) := by decide +kernel
theorem dX12_askedNow_59 : decode cX12_askedNow 59 = .ok (.iload_n 2, 1) := by decide +kernel
theorem dX12_askedNow_60 : decode cX12_askedNow 60 = .ok (.goto 4, 3) := by decide +kernel
theorem dX12_askedNow_63 : decode cX12_askedNow 63 = .ok (.iload_n 1, 1) := by decide +kernel
theorem dX12_askedNow_64 : decode cX12_askedNow 64 = .ok (.istore_n 1, 1) := by decide +kernel
theorem dX12_askedNow_65 : decode cX12_askedNow 65 = .ok (.iinc 2 1, 3) := by decide +kernel
theorem dX12_askedNow_68 : decode cX12_askedNow 68 = .ok (.goto (-64), 3) := by decide +kernel
theorem dX12_askedNow_71 : decode cX12_askedNow 71 = .ok (.iload_n 1, 1) := by decide +kernel
theorem dX12_askedNow_72 : decode cX12_askedNow 72 = .ok (.ireturn, 1) := by decide +kernel
def wp_X12_can_10 (D : wD) (post : Int32 → wS → Prop)  (S : wS) (x1 : Int32) (b0 : Nat) (t1 : Int32) : Prop :=
∀ S_1 : wS, S_1 = uI S b0 0 t1 →
narrow .boolean (.int x1) = .int x1 ∧ post x1 S_1
def wp_X12_can_0 (D : wD) (post : Int32 → wS → Prop)  (S : wS) (a0 : Nat) (x1 : Int32) (x2 : Int32) : Prop :=
((x1 = 0 → wp_X12_can_10 D post S x1 a0 x2) ∧
 (¬ x1 = 0 → wp_X12_can_10 D post S x1 a0 (0 : Int32)))
abbrev r_X12_can : Room := { frames := 0, cells := 0, slots := 0, locals := 0 }
def wp_X12_can (D : wD) (post : Int32 → wS → Prop) (S : wS) (a0 : Nat) (x1 : Int32) (x2 : Int32) : Prop := wp_X12_can_0 D post S a0 x1 x2
set_option maxHeartbeats 4000000 in
set_option maxRecDepth 100000 in
theorem t_X12_can_10 {p : Program} {l : Launch} {e : Env} {s : State} {m : MethodId} {args : Array Value} {below : List Frame} {meth : Method} {c : Code} {D : wD} {cy : Nat → ClassId} {X : va_W} {A : Nat → Prop} {S0 : wS} {post : Int32 → wS → Prop} (F : CallFix p m c cX12_can 3 s args wz_X12_can RX12) (hr : meth.sig.returnType = (some .boolean)) (hlocks : meth.locks = false) (hK : wK D cy A s) : ∀ {S : wS} {H : Heap} {locs : List Loc} {ls : Array Slot} {x1 : Int32} {b0 : Nat} {t1 : Int32}, wp_X12_can_10 D post S x1 b0 t1 → wO D cy X A s.heap S H locs → wX D S0 S → lv_has ls 3 [(1, .int x1)] → wM D S b0 → sK S b0 = 17 → W p l e r_X12_can s m args below meth c H locs 0 0 (MQ below (va_Qi (fun r S9 => wX D S0 S9 ∧ post r S9) (wB D cy X A) A) args s 0 0 A) (F0 m 10 ls [.int t1, .ref b0]) := by
  obtain ⟨hx, hb, hml, hown, hts⟩ := id F
  have hwg : ∀ w ∈ WG, w.before args s = true := fun w h => hts w (List.mem_cons_of_mem _ h)
  have i_17 : ∀ w ∈ u_ws RX12 TX12 43, w ∈ wz_X12_can := fun w h => List.mem_cons_of_mem _ (wu_17 w h)
  have k_110 := hwg _ wf_RX12_110
  intro S H locs ls x1 b0 t1 hp hW hE hl hL_b0 hK_b0
  unfold wp_X12_can_10 at hp
  refine w_putI (k := 17) (f := 0) (T := TX12) F hK hW hL_b0 hK_b0 (by decide) (by decide) rfl rfl (by decide) i_17 tyX12 tyX12_ok nmX12 k_110 rfl rfl (ty := .int) rfl rfl rfl dX12_can_10 (fun H locs hW => ?_)
  obtain ⟨S_1, eS_1⟩ : ∃ z : wS, z = uI S b0 0 t1 := ⟨_, rfl⟩
  rw [← eS_1] at hW
  replace hp := hp S_1 eS_1
  have hX_S_1 : wX D S S_1 := by rw [eS_1]; exact wX_uI
  have hE := hE.trans hX_S_1
  refine lv_iload_n hx hb dX12_can_13 rfl (lv_at hl 0 rfl) ?_
  exact w_zret hx hb hr hlocks hW hp.1 ⟨hE, hp.2⟩ dX12_can_14
set_option maxHeartbeats 4000000 in
set_option maxRecDepth 100000 in
theorem t_X12_can_0 {p : Program} {l : Launch} {e : Env} {s : State} {m : MethodId} {args : Array Value} {below : List Frame} {meth : Method} {c : Code} {D : wD} {cy : Nat → ClassId} {X : va_W} {A : Nat → Prop} {S0 : wS} {post : Int32 → wS → Prop} (F : CallFix p m c cX12_can 3 s args wz_X12_can RX12) (hr : meth.sig.returnType = (some .boolean)) (hlocks : meth.locks = false) (hK : wK D cy A s) : ∀ {S : wS} {H : Heap} {locs : List Loc} {ls : Array Slot} {a0 : Nat} {x1 : Int32} {x2 : Int32}, wp_X12_can_0 D post S a0 x1 x2 → wO D cy X A s.heap S H locs → wX D S0 S → lv_has ls 3 [(0, .ref a0), (1, .int x1), (2, .int x2)] → wM D S a0 → sK S a0 = 17 → W p l e r_X12_can s m args below meth c H locs 0 0 (MQ below (va_Qi (fun r S9 => wX D S0 S9 ∧ post r S9) (wB D cy X A) A) args s 0 0 A) (F0 m 0 ls []) := by
  obtain ⟨hx, hb, hml, hown, hts⟩ := id F
  have hwg : ∀ w ∈ WG, w.before args s = true := fun w h => hts w (List.mem_cons_of_mem _ h)
  intro S H locs ls a0 x1 x2 hp hW hE hl hL_a0 hK_a0
  unfold wp_X12_can_0 at hp
  refine lv_aload_n hx hb dX12_can_0 rfl (lv_at hl 0 rfl) ?_
  refine lv_iload_n hx hb dX12_can_1 rfl (lv_at hl 1 rfl) ?_
  refine lv_if_eq (tgt := 9) hx hb dX12_can_2 (by decide) (fun c_1 => ?_) (fun c_1 => ?_)
  · replace hp := hp.1 c_1
    refine lv_iload_n hx hb dX12_can_9 rfl (lv_at hl 2 rfl) ?_
    exact t_X12_can_10 F hr hlocks hK hp hW hE (lv_sub hl [1] rfl) hL_a0 hK_a0
  · replace hp := hp.2 c_1
    refine lv_iconst (v := 0) hx hb dX12_can_5 (by decide) ?_
    refine lv_goto (tgt := 10) hx hb dX12_can_6 (by decide) ?_
    exact t_X12_can_10 F hr hlocks hK hp hW hE (lv_sub hl [1] rfl) hL_a0 hK_a0
set_option maxHeartbeats 4000000 in
set_option maxRecDepth 100000 in
theorem c_X12_can (l : Launch) {D : wD} {cy : Nat → ClassId} {X : va_W} {S0 : wS} {post : Int32 → wS → Prop} {a0 : Nat} {x1 : Int32} {x2 : Int32} (hL_a0 : wM D S0 a0) (hK_a0 : sK S0 a0 = 17) (hp : wp_X12_can D post S0 a0 x1 x2) : mI D cy X l yX12_can wz_X12_can r_X12_can [.ref a0, .int x1, .int x2] S0 (fun r S9 => wX D S0 S9 ∧ post r S9) := by
  intro sz
  refine Met.ofW (cc := cX12_can) (maxL := 3) (ret := (some .boolean)) (by decide) rfl ?_
  intro p e s m args below meth c s₁ B hml hv
  obtain ⟨rfl, hsz, hP, hK, hD0, hRO⟩ := hv
  have hts := atoms_spec (ws := wz_X12_can) B.pre
  have hown : s.vm.findClass RX12 = some m.cls := findClass_of_methodNamed B.named
  subst hsz
  have hD := hD0.self (sz := s.heap.size)
  have F : CallFix p m c cX12_can 3 s _ wz_X12_can RX12 := ⟨B.exec, B.bytes, hml, hown, hts⟩
  have hr := B.returns
  have hlocks := B.notSynchronized
  generalize hAe : va_A (wL cy X S0) s.heap.size = A at hD hK ⊢
  have hA : ∀ q, s.heap.size ≤ q → A q := fun q h => by rw [← hAe]; exact Or.inr h
  have hW : wO D cy X A s.heap S0 s.heap [] := ⟨hP, hD, va_S.rf, hA, hRO⟩
  have hl := lv_entry ([.ref a0, .int x1, .int x2]) (n := 3) (Nat.le_of_ble_eq_true rfl)
  rw [lg_entry_eq]
  generalize (lg_sl ([.ref a0, .int x1, .int x2]) ++ List.replicate (3 - (lg_sl ([.ref a0, .int x1, .int x2])).length) Slot.unset).toArray = ls at hl ⊢
  have hl : lv_has ls 3 [(0, .ref a0), (1, .int x1), (2, .int x2)] := hl
  unfold wp_X12_can at hp
  exact t_X12_can_0 F hr hlocks hK hp hW wX.rf (lv_sub hl [0, 1, 2] rfl) hL_a0 hK_a0
def wp_X12_copies_3 (D : wD) (post : wS → Prop)  : Nat → wS → Int32 → Nat → Int32 → Nat → Int32 → Int32 → Prop
  | 0, _, _, _, _, _, _, _ => False
  | n + 1, S, x0, a1, x2, a3, x4, x5 =>
    ((x0 ≤ x5 → post S) ∧
     (¬ x0 ≤ x5 → vp_in (x2 + x5) (sN S a1) ∧
    a3 ∈ sL S ∧ vp_in (x4 + x5) (sN S a3) ∧
    ∀ S_4 : wS, S_4 = uI S a3 ((x4 + x5)).toNatClampNeg (sI S a1 ((x2 + x5)).toNatClampNeg) →
    ∀ x_5 : Int32, x_5 = x5 + 1 →
    wp_X12_copies_3 D post n S_4 x0 a1 x2 a3 x4 x_5))
def wp_X12_copies_0 (D : wD) (post : wS → Prop)  (S : wS) (x0 : Int32) (a1 : Nat) (x2 : Int32) (a3 : Nat) (x4 : Int32) : Prop :=
∃ n_1 : Nat, wp_X12_copies_3 D post n_1 S x0 a1 x2 a3 x4 (0 : Int32)
abbrev r_X12_copies : Room := { frames := 0, cells := 0, slots := 0, locals := 0 }
def wp_X12_copies (D : wD) (post : wS → Prop) (S : wS) (x0 : Int32) (a1 : Nat) (x2 : Int32) (a3 : Nat) (x4 : Int32) : Prop := wp_X12_copies_0 D post S x0 a1 x2 a3 x4
set_option maxHeartbeats 4000000 in
set_option maxRecDepth 100000 in
theorem t_X12_copies_3 {p : Program} {l : Launch} {e : Env} {s : State} {m : MethodId} {args : Array Value} {below : List Frame} {meth : Method} {c : Code} {D : wD} {cy : Nat → ClassId} {X : va_W} {A : Nat → Prop} {S0 : wS} {post : wS → Prop} (F : CallFix p m c cX12_copies 6 s args wz_X12_copies RX12) (hr : meth.sig.returnType = none) (hlocks : meth.locks = false) (hK : wK D cy A s) : ∀ (n : Nat) {S : wS} {H : Heap} {locs : List Loc} {ls : Array Slot} {x0 : Int32} {a1 : Nat} {x2 : Int32} {a3 : Nat} {x4 : Int32} {x5 : Int32}, wp_X12_copies_3 D post n S x0 a1 x2 a3 x4 x5 → wO D cy X A s.heap S H locs → wX D S0 S → lv_has ls 6 [(0, .int x0), (1, .ref a1), (2, .int x2), (3, .ref a3), (4, .int x4), (5, .int x5)] → wM D S a1 → sK S a1 = 21 → wM D S a3 → sK S a3 = 21 → W p l e r_X12_copies s m args below meth c H locs 0 0 (MQ below (va_Qv (fun S9 => wX D S0 S9 ∧ post S9) (wB D cy X A) A) args s 0 0 A) (F0 m 3 ls []) := by
  obtain ⟨hx, hb, hml, hown, hts⟩ := id F
  have hwg : ∀ w ∈ WG, w.before args s = true := fun w h => hts w (List.mem_cons_of_mem _ h)
  intro n
  induction n with
  | zero =>
    intro S H locs ls x0 a1 x2 a3 x4 x5 hp
    exact hp.elim
  | succ n ih =>
    intro S H locs ls x0 a1 x2 a3 x4 x5 hp hW hE hl hL_a1 hK_a1 hL_a3 hK_a3
    unfold wp_X12_copies_3 at hp
    refine lv_iload hx hb dX12_copies_3 (lv_at hl 5 rfl) ?_
    refine lv_iload_n hx hb dX12_copies_5 rfl (lv_at hl 0 rfl) ?_
    refine lv_icmp_ge (tgt := 28) hx hb dX12_copies_6 (by decide) (fun c_1 => ?_) (fun c_1 => ?_)
    · replace hp := hp.1 c_1
      exact w_vret hx hb hr hlocks hW ⟨hE, hp⟩ dX12_copies_28
    · replace hp := hp.2 c_1
      refine lv_aload_n hx hb dX12_copies_9 rfl (lv_at hl 3 rfl) ?_
      refine lv_iload hx hb dX12_copies_10 (lv_at hl 4 rfl) ?_
      refine lv_iload hx hb dX12_copies_12 (lv_at hl 5 rfl) ?_
      refine lv_iadd hx hb dX12_copies_14 ?_
      refine lv_aload_n hx hb dX12_copies_15 rfl (lv_at hl 1 rfl) ?_
      refine lv_iload_n hx hb dX12_copies_16 rfl (lv_at hl 2 rfl) ?_
      refine lv_iload hx hb dX12_copies_17 (lv_at hl 5 rfl) ?_
      refine lv_iadd hx hb dX12_copies_19 ?_
      obtain ⟨h_2, hp⟩ := hp
      refine w_ild F hK hW hL_a1 hK_a1 h_2 dX12_copies_20 ?_
      obtain ⟨h_3m, h_3, hp⟩ := hp
      refine w_ist F hK hW h_3m hK_a3 h_3 dX12_copies_21 (fun H locs hW => ?_)
      obtain ⟨S_4, eS_4⟩ : ∃ z : wS, z = uI S a3 ((x4 + x5)).toNatClampNeg (sI S a1 ((x2 + x5)).toNatClampNeg) := ⟨_, rfl⟩
      rw [← eS_4] at hW
      replace hp := hp S_4 eS_4
      have hX_S_4 : wX D S S_4 := by rw [eS_4]; exact wX_uI
      have hE := hE.trans hX_S_4
      have hK_a1 : sK S_4 a1 = 21 := (hX_S_4.2 a1 hL_a1).1.trans hK_a1
      have hL_a1 : wM D S_4 a1 := hX_S_4.M hL_a1
      have hK_a3 : sK S_4 a3 = 21 := (hX_S_4.2 a3 hL_a3).1.trans hK_a3
      have hL_a3 : wM D S_4 a3 := hX_S_4.M hL_a3
      obtain ⟨x_5, ex_5⟩ : ∃ z : Int32, z = x5 + 1 := ⟨_, rfl⟩
      replace hp := hp x_5 ex_5
      refine lv_iinc (v := x_5) (lv' := [(5, .int x_5), (0, .int x0), (1, .ref a1), (2, .int x2), (3, .ref a3), (4, .int x4)]) hx hb dX12_copies_22 hl (k := 5) rfl (by rw [ex_5]; rfl) (by decide) rfl (fun ls hl => ?_)
      refine lv_goto (tgt := 3) hx hb dX12_copies_25 (by decide) ?_
      exact ih hp hW hE (lv_sub hl [1, 2, 3, 4, 5, 0] rfl) hL_a1 hK_a1 hL_a3 hK_a3
set_option maxHeartbeats 4000000 in
set_option maxRecDepth 100000 in
theorem t_X12_copies_0 {p : Program} {l : Launch} {e : Env} {s : State} {m : MethodId} {args : Array Value} {below : List Frame} {meth : Method} {c : Code} {D : wD} {cy : Nat → ClassId} {X : va_W} {A : Nat → Prop} {S0 : wS} {post : wS → Prop} (F : CallFix p m c cX12_copies 6 s args wz_X12_copies RX12) (hr : meth.sig.returnType = none) (hlocks : meth.locks = false) (hK : wK D cy A s) : ∀ {S : wS} {H : Heap} {locs : List Loc} {ls : Array Slot} {x0 : Int32} {a1 : Nat} {x2 : Int32} {a3 : Nat} {x4 : Int32}, wp_X12_copies_0 D post S x0 a1 x2 a3 x4 → wO D cy X A s.heap S H locs → wX D S0 S → lv_has ls 6 [(0, .int x0), (1, .ref a1), (2, .int x2), (3, .ref a3), (4, .int x4)] → wM D S a1 → sK S a1 = 21 → wM D S a3 → sK S a3 = 21 → W p l e r_X12_copies s m args below meth c H locs 0 0 (MQ below (va_Qv (fun S9 => wX D S0 S9 ∧ post S9) (wB D cy X A) A) args s 0 0 A) (F0 m 0 ls []) := by
  obtain ⟨hx, hb, hml, hown, hts⟩ := id F
  have hwg : ∀ w ∈ WG, w.before args s = true := fun w h => hts w (List.mem_cons_of_mem _ h)
  intro S H locs ls x0 a1 x2 a3 x4 hp hW hE hl hL_a1 hK_a1 hL_a3 hK_a3
  unfold wp_X12_copies_0 at hp
  refine lv_iconst (v := 0) hx hb dX12_copies_0 (by decide) ?_
  refine lv_istore (lv' := [(5, .int (0 : Int32)), (0, .int x0), (1, .ref a1), (2, .int x2), (3, .ref a3), (4, .int x4)]) hx hb dX12_copies_1 hl (by decide) rfl (fun ls hl => ?_)
  obtain ⟨n_1, hp⟩ := hp
  exact t_X12_copies_3 F hr hlocks hK n_1 hp hW hE (lv_sub hl [1, 2, 3, 4, 5, 0] rfl) hL_a1 hK_a1 hL_a3 hK_a3
set_option maxHeartbeats 4000000 in
set_option maxRecDepth 100000 in
theorem c_X12_copies (l : Launch) {D : wD} {cy : Nat → ClassId} {X : va_W} {S0 : wS} {post : wS → Prop} {x0 : Int32} {a1 : Nat} {x2 : Int32} {a3 : Nat} {x4 : Int32} (hL_a1 : wM D S0 a1) (hK_a1 : sK S0 a1 = 21) (hL_a3 : wM D S0 a3) (hK_a3 : sK S0 a3 = 21) (hp : wp_X12_copies D post S0 x0 a1 x2 a3 x4) : mV D cy X l yX12_copies wz_X12_copies r_X12_copies [.int x0, .ref a1, .int x2, .ref a3, .int x4] S0 (fun S9 => wX D S0 S9 ∧ post S9) := by
  intro sz
  refine Met.ofW (cc := cX12_copies) (maxL := 6) (ret := none) (by decide) rfl ?_
  intro p e s m args below meth c s₁ B hml hv
  obtain ⟨rfl, hsz, hP, hK, hD0, hRO⟩ := hv
  have hts := atoms_spec (ws := wz_X12_copies) B.pre
  have hown : s.vm.findClass RX12 = some m.cls := findClass_of_methodNamed B.named
  subst hsz
  have hD := hD0.self (sz := s.heap.size)
  have F : CallFix p m c cX12_copies 6 s _ wz_X12_copies RX12 := ⟨B.exec, B.bytes, hml, hown, hts⟩
  have hr := B.returns
  have hlocks := B.notSynchronized
  generalize hAe : va_A (wL cy X S0) s.heap.size = A at hD hK ⊢
  have hA : ∀ q, s.heap.size ≤ q → A q := fun q h => by rw [← hAe]; exact Or.inr h
  have hW : wO D cy X A s.heap S0 s.heap [] := ⟨hP, hD, va_S.rf, hA, hRO⟩
  have hl := lv_entry ([.int x0, .ref a1, .int x2, .ref a3, .int x4]) (n := 6) (Nat.le_of_ble_eq_true rfl)
  rw [lg_entry_eq]
  generalize (lg_sl ([.int x0, .ref a1, .int x2, .ref a3, .int x4]) ++ List.replicate (6 - (lg_sl ([.int x0, .ref a1, .int x2, .ref a3, .int x4])).length) Slot.unset).toArray = ls at hl ⊢
  have hl : lv_has ls 6 [(0, .int x0), (1, .ref a1), (2, .int x2), (3, .ref a3), (4, .int x4)] := hl
  unfold wp_X12_copies at hp
  exact t_X12_copies_0 F hr hlocks hK hp hW wX.rf (lv_sub hl [0, 1, 2, 3, 4] rfl) hL_a1 hK_a1 hL_a3 hK_a3
def wp_X12_in_15 (D : wD) (post : Int32 → wS → Prop)  (S : wS) (t0 : Int32) : Prop :=
narrow .boolean (.int t0) = .int t0 ∧ post t0 S
def wp_X12_in_14 (D : wD) (post : Int32 → wS → Prop)  (S : wS) : Prop :=
wp_X12_in_15 D post S (0 : Int32)
def wp_X12_in_0 (D : wD) (post : Int32 → wS → Prop)  (S : wS) (x0 : Int32) (x1 : Int32) (x2 : Int32) : Prop :=
((x0 < x1 → wp_X12_in_14 D post S) ∧
 (¬ x0 < x1 → ((x2 < x0 → wp_X12_in_14 D post S) ∧
 (¬ x2 < x0 → wp_X12_in_15 D post S (1 : Int32)))))
abbrev r_X12_in : Room := { frames := 0, cells := 0, slots := 0, locals := 0 }
def wp_X12_in (D : wD) (post : Int32 → wS → Prop) (S : wS) (x0 : Int32) (x1 : Int32) (x2 : Int32) : Prop := wp_X12_in_0 D post S x0 x1 x2
set_option maxHeartbeats 4000000 in
set_option maxRecDepth 100000 in
theorem t_X12_in_15 {p : Program} {l : Launch} {e : Env} {s : State} {m : MethodId} {args : Array Value} {below : List Frame} {meth : Method} {c : Code} {D : wD} {cy : Nat → ClassId} {X : va_W} {A : Nat → Prop} {S0 : wS} {post : Int32 → wS → Prop} (F : CallFix p m c cX12_in 3 s args wz_X12_in RX12) (hr : meth.sig.returnType = (some .boolean)) (hlocks : meth.locks = false) (hK : wK D cy A s) : ∀ {S : wS} {H : Heap} {locs : List Loc} {ls : Array Slot} {t0 : Int32}, wp_X12_in_15 D post S t0 → wO D cy X A s.heap S H locs → wX D S0 S → lv_has ls 3 [] → W p l e r_X12_in s m args below meth c H locs 0 0 (MQ below (va_Qi (fun r S9 => wX D S0 S9 ∧ post r S9) (wB D cy X A) A) args s 0 0 A) (F0 m 15 ls [.int t0]) := by
  obtain ⟨hx, hb, hml, hown, hts⟩ := id F
  have hwg : ∀ w ∈ WG, w.before args s = true := fun w h => hts w (List.mem_cons_of_mem _ h)
  intro S H locs ls t0 hp hW hE hl
  unfold wp_X12_in_15 at hp
  exact w_zret hx hb hr hlocks hW hp.1 ⟨hE, hp.2⟩ dX12_in_15
set_option maxHeartbeats 4000000 in
set_option maxRecDepth 100000 in
theorem t_X12_in_14 {p : Program} {l : Launch} {e : Env} {s : State} {m : MethodId} {args : Array Value} {below : List Frame} {meth : Method} {c : Code} {D : wD} {cy : Nat → ClassId} {X : va_W} {A : Nat → Prop} {S0 : wS} {post : Int32 → wS → Prop} (F : CallFix p m c cX12_in 3 s args wz_X12_in RX12) (hr : meth.sig.returnType = (some .boolean)) (hlocks : meth.locks = false) (hK : wK D cy A s) : ∀ {S : wS} {H : Heap} {locs : List Loc} {ls : Array Slot}, wp_X12_in_14 D post S → wO D cy X A s.heap S H locs → wX D S0 S → lv_has ls 3 [] → W p l e r_X12_in s m args below meth c H locs 0 0 (MQ below (va_Qi (fun r S9 => wX D S0 S9 ∧ post r S9) (wB D cy X A) A) args s 0 0 A) (F0 m 14 ls []) := by
  obtain ⟨hx, hb, hml, hown, hts⟩ := id F
  have hwg : ∀ w ∈ WG, w.before args s = true := fun w h => hts w (List.mem_cons_of_mem _ h)
  intro S H locs ls hp hW hE hl
  unfold wp_X12_in_14 at hp
  refine lv_iconst (v := 0) hx hb dX12_in_14 (by decide) ?_
  exact t_X12_in_15 F hr hlocks hK hp hW hE (lv_sub hl [] rfl)
set_option maxHeartbeats 4000000 in
set_option maxRecDepth 100000 in
theorem t_X12_in_0 {p : Program} {l : Launch} {e : Env} {s : State} {m : MethodId} {args : Array Value} {below : List Frame} {meth : Method} {c : Code} {D : wD} {cy : Nat → ClassId} {X : va_W} {A : Nat → Prop} {S0 : wS} {post : Int32 → wS → Prop} (F : CallFix p m c cX12_in 3 s args wz_X12_in RX12) (hr : meth.sig.returnType = (some .boolean)) (hlocks : meth.locks = false) (hK : wK D cy A s) : ∀ {S : wS} {H : Heap} {locs : List Loc} {ls : Array Slot} {x0 : Int32} {x1 : Int32} {x2 : Int32}, wp_X12_in_0 D post S x0 x1 x2 → wO D cy X A s.heap S H locs → wX D S0 S → lv_has ls 3 [(0, .int x0), (1, .int x1), (2, .int x2)] → W p l e r_X12_in s m args below meth c H locs 0 0 (MQ below (va_Qi (fun r S9 => wX D S0 S9 ∧ post r S9) (wB D cy X A) A) args s 0 0 A) (F0 m 0 ls []) := by
  obtain ⟨hx, hb, hml, hown, hts⟩ := id F
  have hwg : ∀ w ∈ WG, w.before args s = true := fun w h => hts w (List.mem_cons_of_mem _ h)
  intro S H locs ls x0 x1 x2 hp hW hE hl
  unfold wp_X12_in_0 at hp
  refine lv_iload_n hx hb dX12_in_0 rfl (lv_at hl 0 rfl) ?_
  refine lv_iload_n hx hb dX12_in_1 rfl (lv_at hl 1 rfl) ?_
  refine lv_icmp_lt (tgt := 14) hx hb dX12_in_2 (by decide) (fun c_1 => ?_) (fun c_1 => ?_)
  · replace hp := hp.1 c_1
    exact t_X12_in_14 F hr hlocks hK hp hW hE (lv_sub hl [] rfl)
  · replace hp := hp.2 c_1
    refine lv_iload_n hx hb dX12_in_5 rfl (lv_at hl 0 rfl) ?_
    refine lv_iload_n hx hb dX12_in_6 rfl (lv_at hl 2 rfl) ?_
    refine lv_icmp_gt (tgt := 14) hx hb dX12_in_7 (by decide) (fun c_2 => ?_) (fun c_2 => ?_)
    · replace hp := hp.1 c_2
      exact t_X12_in_14 F hr hlocks hK hp hW hE (lv_sub hl [] rfl)
    · replace hp := hp.2 c_2
      refine lv_iconst (v := 1) hx hb dX12_in_10 (by decide) ?_
      refine lv_goto (tgt := 15) hx hb dX12_in_11 (by decide) ?_
      exact t_X12_in_15 F hr hlocks hK hp hW hE (lv_sub hl [] rfl)
set_option maxHeartbeats 4000000 in
set_option maxRecDepth 100000 in
theorem c_X12_in (l : Launch) {D : wD} {cy : Nat → ClassId} {X : va_W} {S0 : wS} {post : Int32 → wS → Prop} {x0 : Int32} {x1 : Int32} {x2 : Int32} (hp : wp_X12_in D post S0 x0 x1 x2) : mI D cy X l yX12_in wz_X12_in r_X12_in [.int x0, .int x1, .int x2] S0 (fun r S9 => wX D S0 S9 ∧ post r S9) := by
  intro sz
  refine Met.ofW (cc := cX12_in) (maxL := 3) (ret := (some .boolean)) (by decide) rfl ?_
  intro p e s m args below meth c s₁ B hml hv
  obtain ⟨rfl, hsz, hP, hK, hD0, hRO⟩ := hv
  have hts := atoms_spec (ws := wz_X12_in) B.pre
  have hown : s.vm.findClass RX12 = some m.cls := findClass_of_methodNamed B.named
  subst hsz
  have hD := hD0.self (sz := s.heap.size)
  have F : CallFix p m c cX12_in 3 s _ wz_X12_in RX12 := ⟨B.exec, B.bytes, hml, hown, hts⟩
  have hr := B.returns
  have hlocks := B.notSynchronized
  generalize hAe : va_A (wL cy X S0) s.heap.size = A at hD hK ⊢
  have hA : ∀ q, s.heap.size ≤ q → A q := fun q h => by rw [← hAe]; exact Or.inr h
  have hW : wO D cy X A s.heap S0 s.heap [] := ⟨hP, hD, va_S.rf, hA, hRO⟩
  have hl := lv_entry ([.int x0, .int x1, .int x2]) (n := 3) (Nat.le_of_ble_eq_true rfl)
  rw [lg_entry_eq]
  generalize (lg_sl ([.int x0, .int x1, .int x2]) ++ List.replicate (3 - (lg_sl ([.int x0, .int x1, .int x2])).length) Slot.unset).toArray = ls at hl ⊢
  have hl : lv_has ls 3 [(0, .int x0), (1, .int x1), (2, .int x2)] := hl
  unfold wp_X12_in at hp
  exact t_X12_in_0 F hr hlocks hK hp hW wX.rf (lv_sub hl [0, 1, 2] rfl)
def wp_X12_firstRank_15 (D : wD) (post : Int32 → wS → Prop)  (S : wS) (t0 : Int32) : Prop :=
post t0 S
def wp_X12_firstRank_0 (D : wD) (post : Int32 → wS → Prop)  (S : wS) (a0 : Nat) (x1 : Int32) : Prop :=
((¬ x1 = (1 : Int32) → wp_X12_firstRank_15 D post S ((sI S a0 2) - (1 : Int32))) ∧
 (x1 = (1 : Int32) → wp_X12_firstRank_15 D post S (0 : Int32)))
abbrev r_X12_firstRank : Room := { frames := 0, cells := 0, slots := 0, locals := 0 }
def wp_X12_firstRank (D : wD) (post : Int32 → wS → Prop) (S : wS) (a0 : Nat) (x1 : Int32) : Prop := wp_X12_firstRank_0 D post S a0 x1
set_option maxHeartbeats 4000000 in
set_option maxRecDepth 100000 in
theorem t_X12_firstRank_15 {p : Program} {l : Launch} {e : Env} {s : State} {m : MethodId} {args : Array Value} {below : List Frame} {meth : Method} {c : Code} {D : wD} {cy : Nat → ClassId} {X : va_W} {A : Nat → Prop} {S0 : wS} {post : Int32 → wS → Prop} (F : CallFix p m c cX12_firstRank 2 s args wz_X12_firstRank RX12) (hr : meth.sig.returnType = (some .int)) (hlocks : meth.locks = false) (hK : wK D cy A s) : ∀ {S : wS} {H : Heap} {locs : List Loc} {ls : Array Slot} {t0 : Int32}, wp_X12_firstRank_15 D post S t0 → wO D cy X A s.heap S H locs → wX D S0 S → lv_has ls 2 [] → W p l e r_X12_firstRank s m args below meth c H locs 0 0 (MQ below (va_Qi (fun r S9 => wX D S0 S9 ∧ post r S9) (wB D cy X A) A) args s 0 0 A) (F0 m 15 ls [.int t0]) := by
  obtain ⟨hx, hb, hml, hown, hts⟩ := id F
  have hwg : ∀ w ∈ WG, w.before args s = true := fun w h => hts w (List.mem_cons_of_mem _ h)
  intro S H locs ls t0 hp hW hE hl
  unfold wp_X12_firstRank_15 at hp
  exact w_iret hx hb hr hlocks hW ⟨hE, hp⟩ dX12_firstRank_15
set_option maxHeartbeats 4000000 in
set_option maxRecDepth 100000 in
theorem t_X12_firstRank_0 {p : Program} {l : Launch} {e : Env} {s : State} {m : MethodId} {args : Array Value} {below : List Frame} {meth : Method} {c : Code} {D : wD} {cy : Nat → ClassId} {X : va_W} {A : Nat → Prop} {S0 : wS} {post : Int32 → wS → Prop} (F : CallFix p m c cX12_firstRank 2 s args wz_X12_firstRank RX12) (hr : meth.sig.returnType = (some .int)) (hlocks : meth.locks = false) (hK : wK D cy A s) : ∀ {S : wS} {H : Heap} {locs : List Loc} {ls : Array Slot} {a0 : Nat} {x1 : Int32}, wp_X12_firstRank_0 D post S a0 x1 → wO D cy X A s.heap S H locs → wX D S0 S → lv_has ls 2 [(0, .ref a0), (1, .int x1)] → wM D S a0 → sK S a0 = 17 → W p l e r_X12_firstRank s m args below meth c H locs 0 0 (MQ below (va_Qi (fun r S9 => wX D S0 S9 ∧ post r S9) (wB D cy X A) A) args s 0 0 A) (F0 m 0 ls []) := by
  obtain ⟨hx, hb, hml, hown, hts⟩ := id F
  have hwg : ∀ w ∈ WG, w.before args s = true := fun w h => hts w (List.mem_cons_of_mem _ h)
  have i_17 : ∀ w ∈ u_ws RX12 TX12 43, w ∈ wz_X12_firstRank := fun w h => List.mem_cons_of_mem _ (wu_17 w h)
  have k_13 := hwg _ wf_RX12_13
  intro S H locs ls a0 x1 hp hW hE hl hL_a0 hK_a0
  unfold wp_X12_firstRank_0 at hp
  refine lv_iload_n hx hb dX12_firstRank_0 rfl (lv_at hl 1 rfl) ?_
  refine lv_iconst (v := 1) hx hb dX12_firstRank_1 (by decide) ?_
  refine lv_icmp_ne (tgt := 9) hx hb dX12_firstRank_2 (by decide) (fun c_1 => ?_) (fun c_1 => ?_)
  · replace hp := hp.1 c_1
    refine lv_aload_n hx hb dX12_firstRank_9 rfl (lv_at hl 0 rfl) ?_
    refine w_get (k := 17) (f := 2) (T := TX12) (v := .int (sI S a0 2)) F hK hW hL_a0 hK_a0 (by decide) rfl rfl (by decide) i_17 k_13 rfl dX12_firstRank_10 ?_
    refine lv_iconst (v := 1) hx hb dX12_firstRank_13 (by decide) ?_
    refine lv_isub hx hb dX12_firstRank_14 ?_
    exact t_X12_firstRank_15 F hr hlocks hK hp hW hE (lv_sub hl [] rfl)
  · replace hp := hp.2 c_1
    refine lv_iconst (v := 0) hx hb dX12_firstRank_5 (by decide) ?_
    refine lv_goto (tgt := 15) hx hb dX12_firstRank_6 (by decide) ?_
    exact t_X12_firstRank_15 F hr hlocks hK hp hW hE (lv_sub hl [] rfl)
set_option maxHeartbeats 4000000 in
set_option maxRecDepth 100000 in
theorem c_X12_firstRank (l : Launch) {D : wD} {cy : Nat → ClassId} {X : va_W} {S0 : wS} {post : Int32 → wS → Prop} {a0 : Nat} {x1 : Int32} (hL_a0 : wM D S0 a0) (hK_a0 : sK S0 a0 = 17) (hp : wp_X12_firstRank D post S0 a0 x1) : mI D cy X l yX12_firstRank wz_X12_firstRank r_X12_firstRank [.ref a0, .int x1] S0 (fun r S9 => wX D S0 S9 ∧ post r S9) := by
  intro sz
  refine Met.ofW (cc := cX12_firstRank) (maxL := 2) (ret := (some .int)) (by decide) rfl ?_
  intro p e s m args below meth c s₁ B hml hv
  obtain ⟨rfl, hsz, hP, hK, hD0, hRO⟩ := hv
  have hts := atoms_spec (ws := wz_X12_firstRank) B.pre
  have hown : s.vm.findClass RX12 = some m.cls := findClass_of_methodNamed B.named
  subst hsz
  have hD := hD0.self (sz := s.heap.size)
  have F : CallFix p m c cX12_firstRank 2 s _ wz_X12_firstRank RX12 := ⟨B.exec, B.bytes, hml, hown, hts⟩
  have hr := B.returns
  have hlocks := B.notSynchronized
  generalize hAe : va_A (wL cy X S0) s.heap.size = A at hD hK ⊢
  have hA : ∀ q, s.heap.size ≤ q → A q := fun q h => by rw [← hAe]; exact Or.inr h
  have hW : wO D cy X A s.heap S0 s.heap [] := ⟨hP, hD, va_S.rf, hA, hRO⟩
  have hl := lv_entry ([.ref a0, .int x1]) (n := 2) (Nat.le_of_ble_eq_true rfl)
  rw [lg_entry_eq]
  generalize (lg_sl ([.ref a0, .int x1]) ++ List.replicate (2 - (lg_sl ([.ref a0, .int x1])).length) Slot.unset).toArray = ls at hl ⊢
  have hl : lv_has ls 2 [(0, .ref a0), (1, .int x1)] := hl
  unfold wp_X12_firstRank at hp
  exact t_X12_firstRank_0 F hr hlocks hK hp hW wX.rf (lv_sub hl [0, 1] rfl) hL_a0 hK_a0
def wp_X12_homeOf_0 (D : wD) (post : Int32 → wS → Prop)  (S : wS) (a0 : Nat) (x1 : Int32) (x2 : Int32) : Prop :=
wp_X12_firstRank D (fun r_1 S_2 => 
post (((sI S a0 1) * r_1) + x2) S_2) S a0 x1
abbrev r_X12_homeOf : Room := { frames := 1, cells := 0, slots := 0, locals := 21 }
def wp_X12_homeOf (D : wD) (post : Int32 → wS → Prop) (S : wS) (a0 : Nat) (x1 : Int32) (x2 : Int32) : Prop := wp_X12_homeOf_0 D post S a0 x1 x2
set_option maxHeartbeats 4000000 in
set_option maxRecDepth 100000 in
theorem t_X12_homeOf_0 {p : Program} {l : Launch} {e : Env} {s : State} {m : MethodId} {args : Array Value} {below : List Frame} {meth : Method} {c : Code} {D : wD} {cy : Nat → ClassId} {X : va_W} {A : Nat → Prop} {S0 : wS} {post : Int32 → wS → Prop} (F : CallFix p m c cX12_homeOf 3 s args wz_X12_homeOf RX12) (hr : meth.sig.returnType = (some .int)) (hlocks : meth.locks = false) (hK : wK D cy A s) : ∀ {S : wS} {H : Heap} {locs : List Loc} {ls : Array Slot} {a0 : Nat} {x1 : Int32} {x2 : Int32}, wp_X12_homeOf_0 D post S a0 x1 x2 → wO D cy X A s.heap S H locs → wX D S0 S → lv_has ls 3 [(0, .ref a0), (1, .int x1), (2, .int x2)] → wM D S a0 → sK S a0 = 17 → W p l e r_X12_homeOf s m args below meth c H locs 0 0 (MQ below (va_Qi (fun r S9 => wX D S0 S9 ∧ post r S9) (wB D cy X A) A) args s 0 0 A) (F0 m 0 ls []) := by
  obtain ⟨hx, hb, hml, hown, hts⟩ := id F
  have hwg : ∀ w ∈ WG, w.before args s = true := fun w h => hts w (List.mem_cons_of_mem _ h)
  have i_17 : ∀ w ∈ u_ws RX12 TX12 43, w ∈ wz_X12_homeOf := fun w h => List.mem_cons_of_mem _ (wu_17 w h)
  have k_9 := hwg _ wf_RX12_9
  intro S H locs ls a0 x1 x2 hp hW hE hl hL_a0 hK_a0
  unfold wp_X12_homeOf_0 at hp
  refine lv_aload_n hx hb dX12_homeOf_0 rfl (lv_at hl 0 rfl) ?_
  refine w_get (k := 17) (f := 1) (T := TX12) (v := .int (sI S a0 1)) F hK hW hL_a0 hK_a0 (by decide) rfl rfl (by decide) i_17 k_9 rfl dX12_homeOf_1 ?_
  refine lv_aload_n hx hb dX12_homeOf_4 rfl (lv_at hl 0 rfl) ?_
  refine lv_iload_n hx hb dX12_homeOf_5 rfl (lv_at hl 1 rfl) ?_
  refine w_callI (va_runV (As := [.int x1]) (rest := [.int (sI S a0 1)]) F (c_X12_firstRank l hL_a0 hK_a0 hp H.size) (cwV (C := RX12) 1 hts (wg_V wm_RX12_170 wy_X12_firstRank) rfl rfl rfl (by decide +kernel) ⟨Nat.le_of_ble_eq_true rfl, Nat.le_of_ble_eq_true rfl⟩) (w_preV hK hW hL_a0 hK_a0 (by decide) rfl) rfl rfl hl.1 rfl (lv_room (Nat.le_of_ble_eq_true rfl)) dX12_homeOf_6 ⟨Nat.le_of_ble_eq_true rfl, Nat.le_of_ble_eq_true rfl⟩) hW (fun r_1 S_2 H locs hp hW => ?_)
  obtain ⟨hX_S_2, hp⟩ := hp
  refine W.widen (k := 0) (n := 0) (by decide) (by decide) ?_
  have hE := hE.trans hX_S_2
  have hK_a0 : sK S_2 a0 = 17 := (hX_S_2.2 a0 hL_a0).1.trans hK_a0
  have hL_a0 : wM D S_2 a0 := hX_S_2.M hL_a0
  refine lv_imul hx hb dX12_homeOf_9 ?_
  refine lv_iload_n hx hb dX12_homeOf_10 rfl (lv_at hl 2 rfl) ?_
  refine lv_iadd hx hb dX12_homeOf_11 ?_
  exact w_iret hx hb hr hlocks hW ⟨hE, hp⟩ dX12_homeOf_12
set_option maxHeartbeats 4000000 in
set_option maxRecDepth 100000 in
theorem c_X12_homeOf (l : Launch) {D : wD} {cy : Nat → ClassId} {X : va_W} {S0 : wS} {post : Int32 → wS → Prop} {a0 : Nat} {x1 : Int32} {x2 : Int32} (hL_a0 : wM D S0 a0) (hK_a0 : sK S0 a0 = 17) (hp : wp_X12_homeOf D post S0 a0 x1 x2) : mI D cy X l yX12_homeOf wz_X12_homeOf r_X12_homeOf [.ref a0, .int x1, .int x2] S0 (fun r S9 => wX D S0 S9 ∧ post r S9) := by
  intro sz
  refine Met.ofW (cc := cX12_homeOf) (maxL := 3) (ret := (some .int)) (by decide) rfl ?_
  intro p e s m args below meth c s₁ B hml hv
  obtain ⟨rfl, hsz, hP, hK, hD0, hRO⟩ := hv
  have hts := atoms_spec (ws := wz_X12_homeOf) B.pre
  have hown : s.vm.findClass RX12 = some m.cls := findClass_of_methodNamed B.named
  subst hsz
  have hD := hD0.self (sz := s.heap.size)
  have F : CallFix p m c cX12_homeOf 3 s _ wz_X12_homeOf RX12 := ⟨B.exec, B.bytes, hml, hown, hts⟩
  have hr := B.returns
  have hlocks := B.notSynchronized
  generalize hAe : va_A (wL cy X S0) s.heap.size = A at hD hK ⊢
  have hA : ∀ q, s.heap.size ≤ q → A q := fun q h => by rw [← hAe]; exact Or.inr h
  have hW : wO D cy X A s.heap S0 s.heap [] := ⟨hP, hD, va_S.rf, hA, hRO⟩
  have hl := lv_entry ([.ref a0, .int x1, .int x2]) (n := 3) (Nat.le_of_ble_eq_true rfl)
  rw [lg_entry_eq]
  generalize (lg_sl ([.ref a0, .int x1, .int x2]) ++ List.replicate (3 - (lg_sl ([.ref a0, .int x1, .int x2])).length) Slot.unset).toArray = ls at hl ⊢
  have hl : lv_has ls 3 [(0, .ref a0), (1, .int x1), (2, .int x2)] := hl
  unfold wp_X12_homeOf at hp
  exact t_X12_homeOf_0 F hr hlocks hK hp hW wX.rf (lv_sub hl [0, 1, 2] rfl) hL_a0 hK_a0
def wp_X12_on_0 (D : wD) (post : Int32 → wS → Prop)  (S : wS) (a0 : Nat) (x1 : Int32) (x2 : Int32) : Prop :=
∃ y_1 : Nat, sR S a0 3 = some y_1 ∧ wM D S y_1 ∧ sK S y_1 = 21 ∧
vp_in (((67 : Int32) * x1) + x2) (sN S y_1) ∧
post (sI S y_1 ((((67 : Int32) * x1) + x2)).toNatClampNeg) S
abbrev r_X12_on : Room := { frames := 0, cells := 0, slots := 0, locals := 0 }
def wp_X12_on (D : wD) (post : Int32 → wS → Prop) (S : wS) (a0 : Nat) (x1 : Int32) (x2 : Int32) : Prop := wp_X12_on_0 D post S a0 x1 x2
set_option maxHeartbeats 4000000 in
set_option maxRecDepth 100000 in
theorem t_X12_on_0 {p : Program} {l : Launch} {e : Env} {s : State} {m : MethodId} {args : Array Value} {below : List Frame} {meth : Method} {c : Code} {D : wD} {cy : Nat → ClassId} {X : va_W} {A : Nat → Prop} {S0 : wS} {post : Int32 → wS → Prop} (F : CallFix p m c cX12_on 3 s args wz_X12_on RX12) (hr : meth.sig.returnType = (some .int)) (hlocks : meth.locks = false) (hK : wK D cy A s) : ∀ {S : wS} {H : Heap} {locs : List Loc} {ls : Array Slot} {a0 : Nat} {x1 : Int32} {x2 : Int32}, wp_X12_on_0 D post S a0 x1 x2 → wO D cy X A s.heap S H locs → wX D S0 S → lv_has ls 3 [(0, .ref a0), (1, .int x1), (2, .int x2)] → wM D S a0 → sK S a0 = 17 → W p l e r_X12_on s m args below meth c H locs 0 0 (MQ below (va_Qi (fun r S9 => wX D S0 S9 ∧ post r S9) (wB D cy X A) A) args s 0 0 A) (F0 m 0 ls []) := by
  obtain ⟨hx, hb, hml, hown, hts⟩ := id F
  have hwg : ∀ w ∈ WG, w.before args s = true := fun w h => hts w (List.mem_cons_of_mem _ h)
  have i_17 : ∀ w ∈ u_ws RX12 TX12 43, w ∈ wz_X12_on := fun w h => List.mem_cons_of_mem _ (wu_17 w h)
  have k_16 := hwg _ wf_RX12_16
  intro S H locs ls a0 x1 x2 hp hW hE hl hL_a0 hK_a0
  unfold wp_X12_on_0 at hp
  refine lv_aload_n hx hb dX12_on_0 rfl (lv_at hl 0 rfl) ?_
  obtain ⟨y_1, ey_1, hL_y_1, hK_y_1, hp⟩ := hp
  refine w_get (k := 17) (f := 3) (T := TX12) (v := .ref y_1) F hK hW hL_a0 hK_a0 (by decide) rfl rfl (by decide) i_17 k_16 (by rw [show wv 17 3 S a0 = va_rf (sR S a0 3) from rfl, ey_1]; rfl) dX12_on_1 ?_
  refine lv_bipush (v := 67) hx hb dX12_on_4 (by decide) ?_
  refine lv_iload_n hx hb dX12_on_6 rfl (lv_at hl 1 rfl) ?_
  refine lv_imul hx hb dX12_on_7 ?_
  refine lv_iload_n hx hb dX12_on_8 rfl (lv_at hl 2 rfl) ?_
  refine lv_iadd hx hb dX12_on_9 ?_
  obtain ⟨h_2, hp⟩ := hp
  refine w_ild F hK hW hL_y_1 hK_y_1 h_2 dX12_on_10 ?_
  exact w_iret hx hb hr hlocks hW ⟨hE, hp⟩ dX12_on_11
set_option maxHeartbeats 4000000 in
set_option maxRecDepth 100000 in
theorem c_X12_on (l : Launch) {D : wD} {cy : Nat → ClassId} {X : va_W} {S0 : wS} {post : Int32 → wS → Prop} {a0 : Nat} {x1 : Int32} {x2 : Int32} (hL_a0 : wM D S0 a0) (hK_a0 : sK S0 a0 = 17) (hp : wp_X12_on D post S0 a0 x1 x2) : mI D cy X l yX12_on wz_X12_on r_X12_on [.ref a0, .int x1, .int x2] S0 (fun r S9 => wX D S0 S9 ∧ post r S9) := by
  intro sz
  refine Met.ofW (cc := cX12_on) (maxL := 3) (ret := (some .int)) (by decide) rfl ?_
  intro p e s m args below meth c s₁ B hml hv
  obtain ⟨rfl, hsz, hP, hK, hD0, hRO⟩ := hv
  have hts := atoms_spec (ws := wz_X12_on) B.pre
  have hown : s.vm.findClass RX12 = some m.cls := findClass_of_methodNamed B.named
  subst hsz
  have hD := hD0.self (sz := s.heap.size)
  have F : CallFix p m c cX12_on 3 s _ wz_X12_on RX12 := ⟨B.exec, B.bytes, hml, hown, hts⟩
  have hr := B.returns
  have hlocks := B.notSynchronized
  generalize hAe : va_A (wL cy X S0) s.heap.size = A at hD hK ⊢
  have hA : ∀ q, s.heap.size ≤ q → A q := fun q h => by rw [← hAe]; exact Or.inr h
  have hW : wO D cy X A s.heap S0 s.heap [] := ⟨hP, hD, va_S.rf, hA, hRO⟩
  have hl := lv_entry ([.ref a0, .int x1, .int x2]) (n := 3) (Nat.le_of_ble_eq_true rfl)
  rw [lg_entry_eq]
  generalize (lg_sl ([.ref a0, .int x1, .int x2]) ++ List.replicate (3 - (lg_sl ([.ref a0, .int x1, .int x2])).length) Slot.unset).toArray = ls at hl ⊢
  have hl : lv_has ls 3 [(0, .ref a0), (1, .int x1), (2, .int x2)] := hl
  unfold wp_X12_on at hp
  exact t_X12_on_0 F hr hlocks hK hp hW wX.rf (lv_sub hl [0, 1, 2] rfl) hL_a0 hK_a0
def wp_X12_pieceOf_13 (D : wD) (post : Int32 → wS → Prop)  (S : wS) (t0 : Int32) : Prop :=
post t0 S
def wp_X12_pieceOf_0 (D : wD) (post : Int32 → wS → Prop)  (S : wS) (x0 : Int32) (x1 : Int32) : Prop :=
((¬ x1 = (1 : Int32) → wp_X12_pieceOf_13 D post S (x0 + (6 : Int32))) ∧
 (x1 = (1 : Int32) → wp_X12_pieceOf_13 D post S x0))
abbrev r_X12_pieceOf : Room := { frames := 0, cells := 0, slots := 0, locals := 0 }
def wp_X12_pieceOf (D : wD) (post : Int32 → wS → Prop) (S : wS) (x0 : Int32) (x1 : Int32) : Prop := wp_X12_pieceOf_0 D post S x0 x1
set_option maxHeartbeats 4000000 in
set_option maxRecDepth 100000 in
theorem t_X12_pieceOf_13 {p : Program} {l : Launch} {e : Env} {s : State} {m : MethodId} {args : Array Value} {below : List Frame} {meth : Method} {c : Code} {D : wD} {cy : Nat → ClassId} {X : va_W} {A : Nat → Prop} {S0 : wS} {post : Int32 → wS → Prop} (F : CallFix p m c cX12_pieceOf 2 s args wz_X12_pieceOf RX12) (hr : meth.sig.returnType = (some .int)) (hlocks : meth.locks = false) (hK : wK D cy A s) : ∀ {S : wS} {H : Heap} {locs : List Loc} {ls : Array Slot} {t0 : Int32}, wp_X12_pieceOf_13 D post S t0 → wO D cy X A s.heap S H locs → wX D S0 S → lv_has ls 2 [] → W p l e r_X12_pieceOf s m args below meth c H locs 0 0 (MQ below (va_Qi (fun r S9 => wX D S0 S9 ∧ post r S9) (wB D cy X A) A) args s 0 0 A) (F0 m 13 ls [.int t0]) := by
  obtain ⟨hx, hb, hml, hown, hts⟩ := id F
  have hwg : ∀ w ∈ WG, w.before args s = true := fun w h => hts w (List.mem_cons_of_mem _ h)
  intro S H locs ls t0 hp hW hE hl
  unfold wp_X12_pieceOf_13 at hp
  exact w_iret hx hb hr hlocks hW ⟨hE, hp⟩ dX12_pieceOf_13
set_option maxHeartbeats 4000000 in
set_option maxRecDepth 100000 in
theorem t_X12_pieceOf_0 {p : Program} {l : Launch} {e : Env} {s : State} {m : MethodId} {args : Array Value} {below : List Frame} {meth : Method} {c : Code} {D : wD} {cy : Nat → ClassId} {X : va_W} {A : Nat → Prop} {S0 : wS} {post : Int32 → wS → Prop} (F : CallFix p m c cX12_pieceOf 2 s args wz_X12_pieceOf RX12) (hr : meth.sig.returnType = (some .int)) (hlocks : meth.locks = false) (hK : wK D cy A s) : ∀ {S : wS} {H : Heap} {locs : List Loc} {ls : Array Slot} {x0 : Int32} {x1 : Int32}, wp_X12_pieceOf_0 D post S x0 x1 → wO D cy X A s.heap S H locs → wX D S0 S → lv_has ls 2 [(0, .int x0), (1, .int x1)] → W p l e r_X12_pieceOf s m args below meth c H locs 0 0 (MQ below (va_Qi (fun r S9 => wX D S0 S9 ∧ post r S9) (wB D cy X A) A) args s 0 0 A) (F0 m 0 ls []) := by
  obtain ⟨hx, hb, hml, hown, hts⟩ := id F
  have hwg : ∀ w ∈ WG, w.before args s = true := fun w h => hts w (List.mem_cons_of_mem _ h)
  intro S H locs ls x0 x1 hp hW hE hl
  unfold wp_X12_pieceOf_0 at hp
  refine lv_iload_n hx hb dX12_pieceOf_0 rfl (lv_at hl 1 rfl) ?_
  refine lv_iconst (v := 1) hx hb dX12_pieceOf_1 (by decide) ?_
  refine lv_icmp_ne (tgt := 9) hx hb dX12_pieceOf_2 (by decide) (fun c_1 => ?_) (fun c_1 => ?_)
  · replace hp := hp.1 c_1
    refine lv_iload_n hx hb dX12_pieceOf_9 rfl (lv_at hl 0 rfl) ?_
    refine lv_bipush (v := 6) hx hb dX12_pieceOf_10 (by decide) ?_
    refine lv_iadd hx hb dX12_pieceOf_12 ?_
    exact t_X12_pieceOf_13 F hr hlocks hK hp hW hE (lv_sub hl [] rfl)
  · replace hp := hp.2 c_1
    refine lv_iload_n hx hb dX12_pieceOf_5 rfl (lv_at hl 0 rfl) ?_
    refine lv_goto (tgt := 13) hx hb dX12_pieceOf_6 (by decide) ?_
    exact t_X12_pieceOf_13 F hr hlocks hK hp hW hE (lv_sub hl [] rfl)
set_option maxHeartbeats 4000000 in
set_option maxRecDepth 100000 in
theorem c_X12_pieceOf (l : Launch) {D : wD} {cy : Nat → ClassId} {X : va_W} {S0 : wS} {post : Int32 → wS → Prop} {x0 : Int32} {x1 : Int32} (hp : wp_X12_pieceOf D post S0 x0 x1) : mI D cy X l yX12_pieceOf wz_X12_pieceOf r_X12_pieceOf [.int x0, .int x1] S0 (fun r S9 => wX D S0 S9 ∧ post r S9) := by
  intro sz
  refine Met.ofW (cc := cX12_pieceOf) (maxL := 2) (ret := (some .int)) (by decide) rfl ?_
  intro p e s m args below meth c s₁ B hml hv
  obtain ⟨rfl, hsz, hP, hK, hD0, hRO⟩ := hv
  have hts := atoms_spec (ws := wz_X12_pieceOf) B.pre
  have hown : s.vm.findClass RX12 = some m.cls := findClass_of_methodNamed B.named
  subst hsz
  have hD := hD0.self (sz := s.heap.size)
  have F : CallFix p m c cX12_pieceOf 2 s _ wz_X12_pieceOf RX12 := ⟨B.exec, B.bytes, hml, hown, hts⟩
  have hr := B.returns
  have hlocks := B.notSynchronized
  generalize hAe : va_A (wL cy X S0) s.heap.size = A at hD hK ⊢
  have hA : ∀ q, s.heap.size ≤ q → A q := fun q h => by rw [← hAe]; exact Or.inr h
  have hW : wO D cy X A s.heap S0 s.heap [] := ⟨hP, hD, va_S.rf, hA, hRO⟩
  have hl := lv_entry ([.int x0, .int x1]) (n := 2) (Nat.le_of_ble_eq_true rfl)
  rw [lg_entry_eq]
  generalize (lg_sl ([.int x0, .int x1]) ++ List.replicate (2 - (lg_sl ([.int x0, .int x1])).length) Slot.unset).toArray = ls at hl ⊢
  have hl : lv_has ls 2 [(0, .int x0), (1, .int x1)] := hl
  unfold wp_X12_pieceOf at hp
  exact t_X12_pieceOf_0 F hr hlocks hK hp hW wX.rf (lv_sub hl [0, 1] rfl)
def wp_X12_areSound_109 (D : wD) (post : Int32 → wS → Prop) (k_15 : wS → Nat → Int32 → Int32 → Int32 → Prop) (S : wS) (a0 : Nat) (x1 : Int32) (x2 : Int32) (x3 : Int32) : Prop :=
∀ x_1 : Int32, x_1 = x3 + 1 →
k_15 S a0 x1 x2 x_1
def wp_X12_areSound_107 (D : wD) (post : Int32 → wS → Prop)  (S : wS) : Prop :=
narrow .boolean (.int (0 : Int32)) = .int (0 : Int32) ∧ post (0 : Int32) S
def wp_X12_areSound_53 (D : wD) (post : Int32 → wS → Prop) (k_15 : wS → Nat → Int32 → Int32 → Int32 → Prop) (S : wS) (a0 : Nat) (x1 : Int32) (x2 : Int32) (x3 : Int32) (x4 : Int32) (t0 : Int32) : Prop :=
((¬ (sI S a0 1) = (8 : Int32) → wp_X12_areSound_107 D post S) ∧
 ((sI S a0 1) = (8 : Int32) → wp_X12_homeOf D (fun r_2 S_3 => 
wp_X12_on D (fun r_4 S_5 => 
wp_X12_pieceOf D (fun r_6 S_7 => 
((¬ r_4 = r_6 → wp_X12_areSound_107 D post S_7) ∧
 (r_4 = r_6 → wp_X12_homeOf D (fun r_9 S_10 => 
wp_X12_on D (fun r_11 S_12 => 
wp_X12_pieceOf D (fun r_13 S_14 => 
((r_11 = r_13 → wp_X12_areSound_109 D post k_15 S_14 a0 x1 x2 x3) ∧
 (¬ r_11 = r_13 → wp_X12_areSound_107 D post S_14))) S_12 (3 : Int32) x4) S_10 a0 x1 r_9) S_7 a0 x4 t0))) S_5 (1 : Int32) x4) S_3 a0 x1 r_2) S a0 x4 (4 : Int32)))
def wp_X12_areSound_39 (D : wD) (post : Int32 → wS → Prop) (k_15 : wS → Nat → Int32 → Int32 → Int32 → Prop) (S : wS) (a0 : Nat) (x1 : Int32) (x2 : Int32) (x3 : Int32) (t0 : Int32) : Prop :=
¬ (2 : Int32) = 0 ∧
((¬ (x3 - x3 / (2 : Int32) * (2 : Int32)) = 0 → wp_X12_areSound_53 D post k_15 S a0 x1 x2 x3 t0 (0 : Int32)) ∧
 ((x3 - x3 / (2 : Int32) * (2 : Int32)) = 0 → wp_X12_areSound_53 D post k_15 S a0 x1 x2 x3 t0 (7 : Int32)))
def wp_X12_areSound_15 (D : wD) (post : Int32 → wS → Prop)  : Nat → wS → Nat → Int32 → Int32 → Int32 → Prop
  | 0, _, _, _, _, _ => False
  | n + 1, S, a0, x1, x2, x3 =>
    (((4 : Int32) ≤ x3 → narrow .boolean (.int (1 : Int32)) = .int (1 : Int32) ∧ post (1 : Int32) S) ∧
     (¬ (4 : Int32) ≤ x3 → ((¬ ((x2 >>> (x3 &&& 31)) &&& (1 : Int32)) = (1 : Int32) → wp_X12_areSound_109 D post (wp_X12_areSound_15 D post n) S a0 x1 x2 x3) ∧
     (((x2 >>> (x3 &&& 31)) &&& (1 : Int32)) = (1 : Int32) → (((2 : Int32) ≤ x3 → wp_X12_areSound_39 D post (wp_X12_areSound_15 D post n) S a0 x1 x2 x3 (0 : Int32)) ∧
     (¬ (2 : Int32) ≤ x3 → wp_X12_areSound_39 D post (wp_X12_areSound_15 D post n) S a0 x1 x2 x3 (1 : Int32)))))))
def wp_X12_areSound_0 (D : wD) (post : Int32 → wS → Prop)  (S : wS) (a0 : Nat) (x1 : Int32) : Prop :=
∃ y_1 : Nat, sR S a0 3 = some y_1 ∧ wM D S y_1 ∧ sK S y_1 = 21 ∧
vp_in (((67 : Int32) * x1) + (65 : Int32)) (sN S y_1) ∧
∀ x_3 : Int32, x_3 = (sI S y_1 ((((67 : Int32) * x1) + (65 : Int32))).toNatClampNeg) →
∃ n_4 : Nat, wp_X12_areSound_15 D post n_4 S a0 x1 x_3 (0 : Int32)
abbrev r_X12_areSound : Room := { frames := 2, cells := 0, slots := 0, locals := 43 }
def wp_X12_areSound (D : wD) (post : Int32 → wS → Prop) (S : wS) (a0 : Nat) (x1 : Int32) : Prop := wp_X12_areSound_0 D post S a0 x1
set_option maxHeartbeats 4000000 in
set_option maxRecDepth 100000 in
theorem t_X12_areSound_109 {p : Program} {l : Launch} {e : Env} {s : State} {m : MethodId} {args : Array Value} {below : List Frame} {meth : Method} {c : Code} {D : wD} {cy : Nat → ClassId} {X : va_W} {A : Nat → Prop} {S0 : wS} {post : Int32 → wS → Prop} (F : CallFix p m c cX12_areSound 6 s args wz_X12_areSound RX12) (hr : meth.sig.returnType = (some .boolean)) (hlocks : meth.locks = false) (hK : wK D cy A s) {k_15 : wS → Nat → Int32 → Int32 → Int32 → Prop} (q_15 : ∀ {S : wS} {H : Heap} {locs : List Loc} {ls : Array Slot} {a0 : Nat} {x1 : Int32} {x2 : Int32} {x3 : Int32}, k_15 S a0 x1 x2 x3 → wO D cy X A s.heap S H locs → wX D S0 S → lv_has ls 6 [(0, .ref a0), (1, .int x1), (2, .int x2), (3, .int x3)] → wM D S a0 → sK S a0 = 17 → W p l e r_X12_areSound s m args below meth c H locs 0 0 (MQ below (va_Qi (fun r S9 => wX D S0 S9 ∧ post r S9) (wB D cy X A) A) args s 0 0 A) (F0 m 15 ls [])) : ∀ {S : wS} {H : Heap} {locs : List Loc} {ls : Array Slot} {a0 : Nat} {x1 : Int32} {x2 : Int32} {x3 : Int32}, wp_X12_areSound_109 D post k_15 S a0 x1 x2 x3 → wO D cy X A s.heap S H locs → wX D S0 S → lv_has ls 6 [(0, .ref a0), (1, .int x1), (2, .int x2), (3, .int x3)] → wM D S a0 → sK S a0 = 17 → W p l e r_X12_areSound s m args below meth c H locs 0 0 (MQ below (va_Qi (fun r S9 => wX D S0 S9 ∧ post r S9) (wB D cy X A) A) args s 0 0 A) (F0 m 109 ls []) := by
  obtain ⟨hx, hb, hml, hown, hts⟩ := id F
  have hwg : ∀ w ∈ WG, w.before args s = true := fun w h => hts w (List.mem_cons_of_mem _ h)
  intro S H locs ls a0 x1 x2 x3 hp hW hE hl hL_a0 hK_a0
  unfold wp_X12_areSound_109 at hp
  obtain ⟨x_1, ex_1⟩ : ∃ z : Int32, z = x3 + 1 := ⟨_, rfl⟩
  replace hp := hp x_1 ex_1
  refine lv_iinc (v := x_1) (lv' := [(3, .int x_1), (0, .ref a0), (1, .int x1), (2, .int x2)]) hx hb dX12_areSound_109 hl (k := 3) rfl (by rw [ex_1]; rfl) (by decide) rfl (fun ls hl => ?_)
  refine lv_goto (tgt := 15) hx hb dX12_areSound_112 (by decide) ?_
  exact q_15 hp hW hE (lv_sub hl [1, 2, 3, 0] rfl) hL_a0 hK_a0
set_option maxHeartbeats 4000000 in
set_option maxRecDepth 100000 in
theorem t_X12_areSound_107 {p : Program} {l : Launch} {e : Env} {s : State} {m : MethodId} {args : Array Value} {below : List Frame} {meth : Method} {c : Code} {D : wD} {cy : Nat → ClassId} {X : va_W} {A : Nat → Prop} {S0 : wS} {post : Int32 → wS → Prop} (F : CallFix p m c cX12_areSound 6 s args wz_X12_areSound RX12) (hr : meth.sig.returnType = (some .boolean)) (hlocks : meth.locks = false) (hK : wK D cy A s) : ∀ {S : wS} {H : Heap} {locs : List Loc} {ls : Array Slot}, wp_X12_areSound_107 D post S → wO D cy X A s.heap S H locs → wX D S0 S → lv_has ls 6 [] → W p l e r_X12_areSound s m args below meth c H locs 0 0 (MQ below (va_Qi (fun r S9 => wX D S0 S9 ∧ post r S9) (wB D cy X A) A) args s 0 0 A) (F0 m 107 ls []) := by
  obtain ⟨hx, hb, hml, hown, hts⟩ := id F
  have hwg : ∀ w ∈ WG, w.before args s = true := fun w h => hts w (List.mem_cons_of_mem _ h)
  intro S H locs ls hp hW hE hl
  unfold wp_X12_areSound_107 at hp
  refine lv_iconst (v := 0) hx hb dX12_areSound_107 (by decide) ?_
  exact w_zret hx hb hr hlocks hW hp.1 ⟨hE, hp.2⟩ dX12_areSound_108
set_option maxHeartbeats 4000000 in
set_option maxRecDepth 100000 in
theorem t_X12_areSound_53 {p : Program} {l : Launch} {e : Env} {s : State} {m : MethodId} {args : Array Value} {below : List Frame} {meth : Method} {c : Code} {D : wD} {cy : Nat → ClassId} {X : va_W} {A : Nat → Prop} {S0 : wS} {post : Int32 → wS → Prop} (F : CallFix p m c cX12_areSound 6 s args wz_X12_areSound RX12) (hr : meth.sig.returnType = (some .boolean)) (hlocks : meth.locks = false) (hK : wK D cy A s) {k_15 : wS → Nat → Int32 → Int32 → Int32 → Prop} (q_15 : ∀ {S : wS} {H : Heap} {locs : List Loc} {ls : Array Slot} {a0 : Nat} {x1 : Int32} {x2 : Int32} {x3 : Int32}, k_15 S a0 x1 x2 x3 → wO D cy X A s.heap S H locs → wX D S0 S → lv_has ls 6 [(0, .ref a0), (1, .int x1), (2, .int x2), (3, .int x3)] → wM D S a0 → sK S a0 = 17 → W p l e r_X12_areSound s m args below meth c H locs 0 0 (MQ below (va_Qi (fun r S9 => wX D S0 S9 ∧ post r S9) (wB D cy X A) A) args s 0 0 A) (F0 m 15 ls [])) : ∀ {S : wS} {H : Heap} {locs : List Loc} {ls : Array Slot} {a0 : Nat} {x1 : Int32} {x2 : Int32} {x3 : Int32} {x4 : Int32} {t0 : Int32}, wp_X12_areSound_53 D post k_15 S a0 x1 x2 x3 x4 t0 → wO D cy X A s.heap S H locs → wX D S0 S → lv_has ls 6 [(0, .ref a0), (1, .int x1), (2, .int x2), (3, .int x3), (4, .int x4)] → wM D S a0 → sK S a0 = 17 → W p l e r_X12_areSound s m args below meth c H locs 0 0 (MQ below (va_Qi (fun r S9 => wX D S0 S9 ∧ post r S9) (wB D cy X A) A) args s 0 0 A) (F0 m 53 ls [.int t0]) := by
  obtain ⟨hx, hb, hml, hown, hts⟩ := id F
  have hwg : ∀ w ∈ WG, w.before args s = true := fun w h => hts w (List.mem_cons_of_mem _ h)
  have i_17 : ∀ w ∈ u_ws RX12 TX12 43, w ∈ wz_X12_areSound := fun w h => List.mem_cons_of_mem _ (wu_17 w h)
  have k_9 := hwg _ wf_RX12_9
  intro S H locs ls a0 x1 x2 x3 x4 t0 hp hW hE hl hL_a0 hK_a0
  unfold wp_X12_areSound_53 at hp
  refine lv_istore (lv' := [(5, .int t0), (0, .ref a0), (1, .int x1), (2, .int x2), (3, .int x3), (4, .int x4)]) hx hb dX12_areSound_53 hl (by decide) rfl (fun ls hl => ?_)
  refine lv_aload_n hx hb dX12_areSound_55 rfl (lv_at hl 1 rfl) ?_
  refine w_get (k := 17) (f := 1) (T := TX12) (v := .int (sI S a0 1)) F hK hW hL_a0 hK_a0 (by decide) rfl rfl (by decide) i_17 k_9 rfl dX12_areSound_56 ?_
  refine lv_bipush (v := 8) hx hb dX12_areSound_59 (by decide) ?_
  refine lv_icmp_ne (tgt := 107) hx hb dX12_areSound_61 (by decide) (fun c_1 => ?_) (fun c_1 => ?_)
  · replace hp := hp.1 c_1
    exact t_X12_areSound_107 F hr hlocks hK hp hW hE (lv_sub hl [] rfl)
  · replace hp := hp.2 c_1
    refine lv_aload_n hx hb dX12_areSound_64 rfl (lv_at hl 1 rfl) ?_
    refine lv_iload_n hx hb dX12_areSound_65 rfl (lv_at hl 2 rfl) ?_
    refine lv_aload_n hx hb dX12_areSound_66 rfl (lv_at hl 1 rfl) ?_
    refine lv_iload hx hb dX12_areSound_67 (lv_at hl 5 rfl) ?_
    refine lv_iconst (v := 4) hx hb dX12_areSound_69 (by decide) ?_
    refine w_callI (va_runV (As := [.int x4, .int (4 : Int32)]) (rest := [.int x1, .ref a0]) F (c_X12_homeOf l hL_a0 hK_a0 hp H.size) (cwV (C := RX12) 2 hts (wg_V wm_RX12_173 wy_X12_homeOf) rfl rfl rfl (by decide +kernel) ⟨Nat.le_of_ble_eq_true rfl, Nat.le_of_ble_eq_true rfl⟩) (w_preV hK hW hL_a0 hK_a0 (by decide) rfl) rfl rfl hl.1 rfl (lv_room (Nat.le_of_ble_eq_true rfl)) dX12_areSound_70 ⟨Nat.le_of_ble_eq_true rfl, Nat.le_of_ble_eq_true rfl⟩) hW (fun r_2 S_3 H locs hp hW => ?_)
    obtain ⟨hX_S_3, hp⟩ := hp
    refine W.widen (k := 0) (n := 0) (by decide) (by decide) ?_
    have hE := hE.trans hX_S_3
    have hK_a0 : sK S_3 a0 = 17 := (hX_S_3.2 a0 hL_a0).1.trans hK_a0
    have hL_a0 : wM D S_3 a0 := hX_S_3.M hL_a0
    refine w_callI (va_runV (As := [.int x1, .int r_2]) (rest := []) F (c_X12_on l hL_a0 hK_a0 hp H.size) (cwV (C := RX12) 2 hts (wg_V wm_RX12_141 wy_X12_on) rfl rfl rfl (by decide +kernel) ⟨Nat.le_of_ble_eq_true rfl, Nat.le_of_ble_eq_true rfl⟩) (w_preV hK hW hL_a0 hK_a0 (by decide) rfl) rfl rfl hl.1 rfl (lv_room (Nat.le_of_ble_eq_true rfl)) dX12_areSound_73 ⟨Nat.le_of_ble_eq_true rfl, Nat.le_of_ble_eq_true rfl⟩) hW (fun r_4 S_5 H locs hp hW => ?_)
    obtain ⟨hX_S_5, hp⟩ := hp
    refine W.widen (k := 0) (n := 0) (by decide) (by decide) ?_
    have hE := hE.trans hX_S_5
    have hK_a0 : sK S_5 a0 = 17 := (hX_S_5.2 a0 hL_a0).1.trans hK_a0
    have hL_a0 : wM D S_5 a0 := hX_S_5.M hL_a0
    refine lv_iconst (v := 1) hx hb dX12_areSound_76 (by decide) ?_
    refine lv_iload hx hb dX12_areSound_77 (lv_at hl 5 rfl) ?_
    refine w_callI (va_runS (As := [.int (1 : Int32), .int x4]) (rest := [.int r_4]) F (c_X12_pieceOf l hp H.size) (va_cwS 2 hts (wg_S wm_RX12_161 wy_X12_pieceOf) rfl rfl rfl (by decide +kernel) ⟨Nat.le_of_ble_eq_true rfl, Nat.le_of_ble_eq_true rfl⟩) (w_preS hK hW) rfl rfl hl.1 rfl (lv_room (Nat.le_of_ble_eq_true rfl)) dX12_areSound_79 ⟨Nat.le_of_ble_eq_true rfl, Nat.le_of_ble_eq_true rfl⟩) hW (fun r_6 S_7 H locs hp hW => ?_)
    obtain ⟨hX_S_7, hp⟩ := hp
    refine W.widen (k := 0) (n := 0) (by decide) (by decide) ?_
    have hE := hE.trans hX_S_7
    have hK_a0 : sK S_7 a0 = 17 := (hX_S_7.2 a0 hL_a0).1.trans hK_a0
    have hL_a0 : wM D S_7 a0 := hX_S_7.M hL_a0
    refine lv_icmp_ne (tgt := 107) hx hb dX12_areSound_82 (by decide) (fun c_8 => ?_) (fun c_8 => ?_)
    · replace hp := hp.1 c_8
      exact t_X12_areSound_107 F hr hlocks hK hp hW hE (lv_sub hl [] rfl)
    · replace hp := hp.2 c_8
      refine lv_aload_n hx hb dX12_areSound_85 rfl (lv_at hl 1 rfl) ?_
      refine lv_iload_n hx hb dX12_areSound_86 rfl (lv_at hl 2 rfl) ?_
      refine lv_aload_n hx hb dX12_areSound_87 rfl (lv_at hl 1 rfl) ?_
      refine lv_iload hx hb dX12_areSound_88 (lv_at hl 5 rfl) ?_
      refine lv_iload hx hb dX12_areSound_90 (lv_at hl 0 rfl) ?_
      refine w_callI (va_runV (As := [.int x4, .int t0]) (rest := [.int x1, .ref a0]) F (c_X12_homeOf l hL_a0 hK_a0 hp H.size) (cwV (C := RX12) 2 hts (wg_V wm_RX12_173 wy_X12_homeOf) rfl rfl rfl (by decide +kernel) ⟨Nat.le_of_ble_eq_true rfl, Nat.le_of_ble_eq_true rfl⟩) (w_preV hK hW hL_a0 hK_a0 (by decide) rfl) rfl rfl hl.1 rfl (lv_room (Nat.le_of_ble_eq_true rfl)) dX12_areSound_92 ⟨Nat.le_of_ble_eq_true rfl, Nat.le_of_ble_eq_true rfl⟩) hW (fun r_9 S_10 H locs hp hW => ?_)
      obtain ⟨hX_S_10, hp⟩ := hp
      refine W.widen (k := 0) (n := 0) (by decide) (by decide) ?_
      have hE := hE.trans hX_S_10
      have hK_a0 : sK S_10 a0 = 17 := (hX_S_10.2 a0 hL_a0).1.trans hK_a0
      have hL_a0 : wM D S_10 a0 := hX_S_10.M hL_a0
      refine w_callI (va_runV (As := [.int x1, .int r_9]) (rest := []) F (c_X12_on l hL_a0 hK_a0 hp H.size) (cwV (C := RX12) 2 hts (wg_V wm_RX12_141 wy_X12_on) rfl rfl rfl (by decide +kernel) ⟨Nat.le_of_ble_eq_true rfl, Nat.le_of_ble_eq_true rfl⟩) (w_preV hK hW hL_a0 hK_a0 (by decide) rfl) rfl rfl hl.1 rfl (lv_room (Nat.le_of_ble_eq_true rfl)) dX12_areSound_95 ⟨Nat.le_of_ble_eq_true rfl, Nat.le_of_ble_eq_true rfl⟩) hW (fun r_11 S_12 H locs hp hW => ?_)
      obtain ⟨hX_S_12, hp⟩ := hp
      refine W.widen (k := 0) (n := 0) (by decide) (by decide) ?_
      have hE := hE.trans hX_S_12
      have hK_a0 : sK S_12 a0 = 17 := (hX_S_12.2 a0 hL_a0).1.trans hK_a0
      have hL_a0 : wM D S_12 a0 := hX_S_12.M hL_a0
      refine lv_iconst (v := 3) hx hb dX12_areSound_98 (by decide) ?_
      refine lv_iload hx hb dX12_areSound_99 (lv_at hl 5 rfl) ?_
      refine w_callI (va_runS (As := [.int (3 : Int32), .int x4]) (rest := [.int r_11]) F (c_X12_pieceOf l hp H.size) (va_cwS 2 hts (wg_S wm_RX12_161 wy_X12_pieceOf) rfl rfl rfl (by decide +kernel) ⟨Nat.le_of_ble_eq_true rfl, Nat.le_of_ble_eq_true rfl⟩) (w_preS hK hW) rfl rfl hl.1 rfl (lv_room (Nat.le_of_ble_eq_true rfl)) dX12_areSound_101 ⟨Nat.le_of_ble_eq_true rfl, Nat.le_of_ble_eq_true rfl⟩) hW (fun r_13 S_14 H locs hp hW => ?_)
      obtain ⟨hX_S_14, hp⟩ := hp
      refine W.widen (k := 0) (n := 0) (by decide) (by decide) ?_
      have hE := hE.trans hX_S_14
      have hK_a0 : sK S_14 a0 = 17 := (hX_S_14.2 a0 hL_a0).1.trans hK_a0
      have hL_a0 : wM D S_14 a0 := hX_S_14.M hL_a0
      refine lv_icmp_eq (tgt := 109) hx hb dX12_areSound_104 (by decide) (fun c_15 => ?_) (fun c_15 => ?_)
      · replace hp := hp.1 c_15
        exact t_X12_areSound_109 F hr hlocks hK q_15 hp hW hE (lv_sub hl [1, 2, 3, 4] rfl) hL_a0 hK_a0
      · replace hp := hp.2 c_15
        exact t_X12_areSound_107 F hr hlocks hK hp hW hE (lv_sub hl [] rfl)
set_option maxHeartbeats 4000000 in
set_option maxRecDepth 100000 in
theorem t_X12_areSound_39 {p : Program} {l : Launch} {e : Env} {s : State} {m : MethodId} {args : Array Value} {below : List Frame} {meth : Method} {c : Code} {D : wD} {cy : Nat → ClassId} {X : va_W} {A : Nat → Prop} {S0 : wS} {post : Int32 → wS → Prop} (F : CallFix p m c cX12_areSound 6 s args wz_X12_areSound RX12) (hr : meth.sig.returnType = (some .boolean)) (hlocks : meth.locks = false) (hK : wK D cy A s) {k_15 : wS → Nat → Int32 → Int32 → Int32 → Prop} (q_15 : ∀ {S : wS} {H : Heap} {locs : List Loc} {ls : Array Slot} {a0 : Nat} {x1 : Int32} {x2 : Int32} {x3 : Int32}, k_15 S a0 x1 x2 x3 → wO D cy X A s.heap S H locs → wX D S0 S → lv_has ls 6 [(0, .ref a0), (1, .int x1), (2, .int x2), (3, .int x3)] → wM D S a0 → sK S a0 = 17 → W p l e r_X12_areSound s m args below meth c H locs 0 0 (MQ below (va_Qi (fun r S9 => wX D S0 S9 ∧ post r S9) (wB D cy X A) A) args s 0 0 A) (F0 m 15 ls [])) : ∀ {S : wS} {H : Heap} {locs : List Loc} {ls : Array Slot} {a0 : Nat} {x1 : Int32} {x2 : Int32} {x3 : Int32} {t0 : Int32}, wp_X12_areSound_39 D post k_15 S a0 x1 x2 x3 t0 → wO D cy X A s.heap S H locs → wX D S0 S → lv_has ls 6 [(0, .ref a0), (1, .int x1), (2, .int x2), (3, .int x3)] → wM D S a0 → sK S a0 = 17 → W p l e r_X12_areSound s m args below meth c H locs 0 0 (MQ below (va_Qi (fun r S9 => wX D S0 S9 ∧ post r S9) (wB D cy X A) A) args s 0 0 A) (F0 m 39 ls [.int t0]) := by
  obtain ⟨hx, hb, hml, hown, hts⟩ := id F
  have hwg : ∀ w ∈ WG, w.before args s = true := fun w h => hts w (List.mem_cons_of_mem _ h)
  intro S H locs ls a0 x1 x2 x3 t0 hp hW hE hl hL_a0 hK_a0
  unfold wp_X12_areSound_39 at hp
  refine lv_istore (lv' := [(4, .int t0), (0, .ref a0), (1, .int x1), (2, .int x2), (3, .int x3)]) hx hb dX12_areSound_39 hl (by decide) rfl (fun ls hl => ?_)
  refine lv_iload_n hx hb dX12_areSound_41 rfl (lv_at hl 4 rfl) ?_
  refine lv_iconst (v := 2) hx hb dX12_areSound_42 (by decide) ?_
  obtain ⟨h_1, hp⟩ := hp
  refine lv_irem hx hb dX12_areSound_43 h_1 ?_
  refine lv_if_ne (tgt := 52) hx hb dX12_areSound_44 (by decide) (fun c_2 => ?_) (fun c_2 => ?_)
  · replace hp := hp.1 c_2
    refine lv_iconst (v := 0) hx hb dX12_areSound_52 (by decide) ?_
    exact t_X12_areSound_53 F hr hlocks hK q_15 hp hW hE (lv_sub hl [1, 2, 3, 4, 0] rfl) hL_a0 hK_a0
  · replace hp := hp.2 c_2
    refine lv_bipush (v := 7) hx hb dX12_areSound_47 (by decide) ?_
    refine lv_goto (tgt := 53) hx hb dX12_areSound_49 (by decide) ?_
    exact t_X12_areSound_53 F hr hlocks hK q_15 hp hW hE (lv_sub hl [1, 2, 3, 4, 0] rfl) hL_a0 hK_a0
set_option maxHeartbeats 4000000 in
set_option maxRecDepth 100000 in
theorem t_X12_areSound_15 {p : Program} {l : Launch} {e : Env} {s : State} {m : MethodId} {args : Array Value} {below : List Frame} {meth : Method} {c : Code} {D : wD} {cy : Nat → ClassId} {X : va_W} {A : Nat → Prop} {S0 : wS} {post : Int32 → wS → Prop} (F : CallFix p m c cX12_areSound 6 s args wz_X12_areSound RX12) (hr : meth.sig.returnType = (some .boolean)) (hlocks : meth.locks = false) (hK : wK D cy A s) : ∀ (n : Nat) {S : wS} {H : Heap} {locs : List Loc} {ls : Array Slot} {a0 : Nat} {x1 : Int32} {x2 : Int32} {x3 : Int32}, wp_X12_areSound_15 D post n S a0 x1 x2 x3 → wO D cy X A s.heap S H locs → wX D S0 S → lv_has ls 6 [(0, .ref a0), (1, .int x1), (2, .int x2), (3, .int x3)] → wM D S a0 → sK S a0 = 17 → W p l e r_X12_areSound s m args below meth c H locs 0 0 (MQ below (va_Qi (fun r S9 => wX D S0 S9 ∧ post r S9) (wB D cy X A) A) args s 0 0 A) (F0 m 15 ls []) := by
  obtain ⟨hx, hb, hml, hown, hts⟩ := id F
  have hwg : ∀ w ∈ WG, w.before args s = true := fun w h => hts w (List.mem_cons_of_mem _ h)
  intro n
  induction n with
  | zero =>
    intro S H locs ls a0 x1 x2 x3 hp
    exact hp.elim
  | succ n ih =>
    intro S H locs ls a0 x1 x2 x3 hp hW hE hl hL_a0 hK_a0
    unfold wp_X12_areSound_15 at hp
    refine lv_iload_n hx hb dX12_areSound_15 rfl (lv_at hl 3 rfl) ?_
    refine lv_iconst (v := 4) hx hb dX12_areSound_16 (by decide) ?_
    refine lv_icmp_ge (tgt := 115) hx hb dX12_areSound_17 (by decide) (fun c_1 => ?_) (fun c_1 => ?_)
    · replace hp := hp.1 c_1
      refine lv_iconst (v := 1) hx hb dX12_areSound_115 (by decide) ?_
      exact w_zret hx hb hr hlocks hW hp.1 ⟨hE, hp.2⟩ dX12_areSound_116
    · replace hp := hp.2 c_1
      refine lv_iload_n hx hb dX12_areSound_20 rfl (lv_at hl 2 rfl) ?_
      refine lv_iload_n hx hb dX12_areSound_21 rfl (lv_at hl 3 rfl) ?_
      refine lv_ishr hx hb dX12_areSound_22 ?_
      refine lv_iconst (v := 1) hx hb dX12_areSound_23 (by decide) ?_
      refine lv_iand hx hb dX12_areSound_24 ?_
      refine lv_iconst (v := 1) hx hb dX12_areSound_25 (by decide) ?_
      refine lv_icmp_ne (tgt := 109) hx hb dX12_areSound_26 (by decide) (fun c_2 => ?_) (fun c_2 => ?_)
      · replace hp := hp.1 c_2
        exact t_X12_areSound_109 F hr hlocks hK ih hp hW hE (lv_sub hl [0, 1, 2, 3] rfl) hL_a0 hK_a0
      · replace hp := hp.2 c_2
        refine lv_iload_n hx hb dX12_areSound_29 rfl (lv_at hl 3 rfl) ?_
        refine lv_iconst (v := 2) hx hb dX12_areSound_30 (by decide) ?_
        refine lv_icmp_ge (tgt := 38) hx hb dX12_areSound_31 (by decide) (fun c_3 => ?_) (fun c_3 => ?_)
        · replace hp := hp.1 c_3
          refine lv_iconst (v := 0) hx hb dX12_areSound_38 (by decide) ?_
          exact t_X12_areSound_39 F hr hlocks hK ih hp hW hE (lv_sub hl [0, 1, 2, 3] rfl) hL_a0 hK_a0
        · replace hp := hp.2 c_3
          refine lv_iconst (v := 1) hx hb dX12_areSound_34 (by decide) ?_
          refine lv_goto (tgt := 39) hx hb dX12_areSound_35 (by decide) ?_
          exact t_X12_areSound_39 F hr hlocks hK ih hp hW hE (lv_sub hl [0, 1, 2, 3] rfl) hL_a0 hK_a0
set_option maxHeartbeats 4000000 in
set_option maxRecDepth 100000 in
theorem t_X12_areSound_0 {p : Program} {l : Launch} {e : Env} {s : State} {m : MethodId} {args : Array Value} {below : List Frame} {meth : Method} {c : Code} {D : wD} {cy : Nat → ClassId} {X : va_W} {A : Nat → Prop} {S0 : wS} {post : Int32 → wS → Prop} (F : CallFix p m c cX12_areSound 6 s args wz_X12_areSound RX12) (hr : meth.sig.returnType = (some .boolean)) (hlocks : meth.locks = false) (hK : wK D cy A s) : ∀ {S : wS} {H : Heap} {locs : List Loc} {ls : Array Slot} {a0 : Nat} {x1 : Int32}, wp_X12_areSound_0 D post S a0 x1 → wO D cy X A s.heap S H locs → wX D S0 S → lv_has ls 6 [(0, .ref a0), (1, .int x1)] → wM D S a0 → sK S a0 = 17 → W p l e r_X12_areSound s m args below meth c H locs 0 0 (MQ below (va_Qi (fun r S9 => wX D S0 S9 ∧ post r S9) (wB D cy X A) A) args s 0 0 A) (F0 m 0 ls []) := by
  obtain ⟨hx, hb, hml, hown, hts⟩ := id F
  have hwg : ∀ w ∈ WG, w.before args s = true := fun w h => hts w (List.mem_cons_of_mem _ h)
  have i_17 : ∀ w ∈ u_ws RX12 TX12 43, w ∈ wz_X12_areSound := fun w h => List.mem_cons_of_mem _ (wu_17 w h)
  have k_16 := hwg _ wf_RX12_16
  intro S H locs ls a0 x1 hp hW hE hl hL_a0 hK_a0
  unfold wp_X12_areSound_0 at hp
  refine lv_aload_n hx hb dX12_areSound_0 rfl (lv_at hl 0 rfl) ?_
  obtain ⟨y_1, ey_1, hL_y_1, hK_y_1, hp⟩ := hp
  refine w_get (k := 17) (f := 3) (T := TX12) (v := .ref y_1) F hK hW hL_a0 hK_a0 (by decide) rfl rfl (by decide) i_17 k_16 (by rw [show wv 17 3 S a0 = va_rf (sR S a0 3) from rfl, ey_1]; rfl) dX12_areSound_1 ?_
  refine lv_bipush (v := 67) hx hb dX12_areSound_4 (by decide) ?_
  refine lv_iload_n hx hb dX12_areSound_6 rfl (lv_at hl 1 rfl) ?_
  refine lv_imul hx hb dX12_areSound_7 ?_
  refine lv_bipush (v := 65) hx hb dX12_areSound_8 (by decide) ?_
  refine lv_iadd hx hb dX12_areSound_10 ?_
  obtain ⟨h_2, hp⟩ := hp
  refine w_ild F hK hW hL_y_1 hK_y_1 h_2 dX12_areSound_11 ?_
  refine lv_topi (fun x_3 ex_3 => ?_)
  replace hp := hp x_3 ex_3
  refine lv_istore_n (lv' := [(2, .int x_3), (0, .ref a0), (1, .int x1)]) hx hb dX12_areSound_12 rfl hl (by decide) rfl (fun ls hl => ?_)
  refine lv_iconst (v := 0) hx hb dX12_areSound_13 (by decide) ?_
  refine lv_istore_n (lv' := [(3, .int (0 : Int32)), (2, .int x_3), (0, .ref a0), (1, .int x1)]) hx hb dX12_areSound_14 rfl hl (by decide) rfl (fun ls hl => ?_)
  obtain ⟨n_4, hp⟩ := hp
  exact t_X12_areSound_15 F hr hlocks hK n_4 hp hW hE (lv_sub hl [2, 3, 1, 0] rfl) hL_a0 hK_a0
set_option maxHeartbeats 4000000 in
set_option maxRecDepth 100000 in
theorem c_X12_areSound (l : Launch) {D : wD} {cy : Nat → ClassId} {X : va_W} {S0 : wS} {post : Int32 → wS → Prop} {a0 : Nat} {x1 : Int32} (hL_a0 : wM D S0 a0) (hK_a0 : sK S0 a0 = 17) (hp : wp_X12_areSound D post S0 a0 x1) : mI D cy X l yX12_areSound wz_X12_areSound r_X12_areSound [.ref a0, .int x1] S0 (fun r S9 => wX D S0 S9 ∧ post r S9) := by
  intro sz
  refine Met.ofW (cc := cX12_areSound) (maxL := 6) (ret := (some .boolean)) (by decide) rfl ?_
  intro p e s m args below meth c s₁ B hml hv
  obtain ⟨rfl, hsz, hP, hK, hD0, hRO⟩ := hv
  have hts := atoms_spec (ws := wz_X12_areSound) B.pre
  have hown : s.vm.findClass RX12 = some m.cls := findClass_of_methodNamed B.named
  subst hsz
  have hD := hD0.self (sz := s.heap.size)
  have F : CallFix p m c cX12_areSound 6 s _ wz_X12_areSound RX12 := ⟨B.exec, B.bytes, hml, hown, hts⟩
  have hr := B.returns
  have hlocks := B.notSynchronized
  generalize hAe : va_A (wL cy X S0) s.heap.size = A at hD hK ⊢
  have hA : ∀ q, s.heap.size ≤ q → A q := fun q h => by rw [← hAe]; exact Or.inr h
  have hW : wO D cy X A s.heap S0 s.heap [] := ⟨hP, hD, va_S.rf, hA, hRO⟩
  have hl := lv_entry ([.ref a0, .int x1]) (n := 6) (Nat.le_of_ble_eq_true rfl)
  rw [lg_entry_eq]
  generalize (lg_sl ([.ref a0, .int x1]) ++ List.replicate (6 - (lg_sl ([.ref a0, .int x1])).length) Slot.unset).toArray = ls at hl ⊢
  have hl : lv_has ls 6 [(0, .ref a0), (1, .int x1)] := hl
  unfold wp_X12_areSound at hp
  exact t_X12_areSound_0 F hr hlocks hK hp hW wX.rf (lv_sub hl [0, 1] rfl) hL_a0 hK_a0
def wp_X12_squares_0 (D : wD) (post : Int32 → wS → Prop)  (S : wS) (a0 : Nat) : Prop :=
post ((sI S a0 1) * (sI S a0 2)) S
abbrev r_X12_squares : Room := { frames := 0, cells := 0, slots := 0, locals := 0 }
def wp_X12_squares (D : wD) (post : Int32 → wS → Prop) (S : wS) (a0 : Nat) : Prop := wp_X12_squares_0 D post S a0
set_option maxHeartbeats 4000000 in
set_option maxRecDepth 100000 in
theorem t_X12_squares_0 {p : Program} {l : Launch} {e : Env} {s : State} {m : MethodId} {args : Array Value} {below : List Frame} {meth : Method} {c : Code} {D : wD} {cy : Nat → ClassId} {X : va_W} {A : Nat → Prop} {S0 : wS} {post : Int32 → wS → Prop} (F : CallFix p m c cX12_squares 1 s args wz_X12_squares RX12) (hr : meth.sig.returnType = (some .int)) (hlocks : meth.locks = false) (hK : wK D cy A s) : ∀ {S : wS} {H : Heap} {locs : List Loc} {ls : Array Slot} {a0 : Nat}, wp_X12_squares_0 D post S a0 → wO D cy X A s.heap S H locs → wX D S0 S → lv_has ls 1 [(0, .ref a0)] → wM D S a0 → sK S a0 = 17 → W p l e r_X12_squares s m args below meth c H locs 0 0 (MQ below (va_Qi (fun r S9 => wX D S0 S9 ∧ post r S9) (wB D cy X A) A) args s 0 0 A) (F0 m 0 ls []) := by
  obtain ⟨hx, hb, hml, hown, hts⟩ := id F
  have hwg : ∀ w ∈ WG, w.before args s = true := fun w h => hts w (List.mem_cons_of_mem _ h)
  have i_17 : ∀ w ∈ u_ws RX12 TX12 43, w ∈ wz_X12_squares := fun w h => List.mem_cons_of_mem _ (wu_17 w h)
  have k_13 := hwg _ wf_RX12_13
  have k_9 := hwg _ wf_RX12_9
  intro S H locs ls a0 hp hW hE hl hL_a0 hK_a0
  unfold wp_X12_squares_0 at hp
  refine lv_aload_n hx hb dX12_squares_0 rfl (lv_at hl 0 rfl) ?_
  refine w_get (k := 17) (f := 1) (T := TX12) (v := .int (sI S a0 1)) F hK hW hL_a0 hK_a0 (by decide) rfl rfl (by decide) i_17 k_9 rfl dX12_squares_1 ?_
  refine lv_aload_n hx hb dX12_squares_4 rfl (lv_at hl 0 rfl) ?_
  refine w_get (k := 17) (f := 2) (T := TX12) (v := .int (sI S a0 2)) F hK hW hL_a0 hK_a0 (by decide) rfl rfl (by decide) i_17 k_13 rfl dX12_squares_5 ?_
  refine lv_imul hx hb dX12_squares_8 ?_
  exact w_iret hx hb hr hlocks hW ⟨hE, hp⟩ dX12_squares_9
set_option maxHeartbeats 4000000 in
set_option maxRecDepth 100000 in
theorem c_X12_squares (l : Launch) {D : wD} {cy : Nat → ClassId} {X : va_W} {S0 : wS} {post : Int32 → wS → Prop} {a0 : Nat} (hL_a0 : wM D S0 a0) (hK_a0 : sK S0 a0 = 17) (hp : wp_X12_squares D post S0 a0) : mI D cy X l yX12_squares wz_X12_squares r_X12_squares [.ref a0] S0 (fun r S9 => wX D S0 S9 ∧ post r S9) := by
  intro sz
  refine Met.ofW (cc := cX12_squares) (maxL := 1) (ret := (some .int)) (by decide) rfl ?_
  intro p e s m args below meth c s₁ B hml hv
  obtain ⟨rfl, hsz, hP, hK, hD0, hRO⟩ := hv
  have hts := atoms_spec (ws := wz_X12_squares) B.pre
  have hown : s.vm.findClass RX12 = some m.cls := findClass_of_methodNamed B.named
  subst hsz
  have hD := hD0.self (sz := s.heap.size)
  have F : CallFix p m c cX12_squares 1 s _ wz_X12_squares RX12 := ⟨B.exec, B.bytes, hml, hown, hts⟩
  have hr := B.returns
  have hlocks := B.notSynchronized
  generalize hAe : va_A (wL cy X S0) s.heap.size = A at hD hK ⊢
  have hA : ∀ q, s.heap.size ≤ q → A q := fun q h => by rw [← hAe]; exact Or.inr h
  have hW : wO D cy X A s.heap S0 s.heap [] := ⟨hP, hD, va_S.rf, hA, hRO⟩
  have hl := lv_entry ([.ref a0]) (n := 1) (Nat.le_of_ble_eq_true rfl)
  rw [lg_entry_eq]
  generalize (lg_sl ([.ref a0]) ++ List.replicate (1 - (lg_sl ([.ref a0])).length) Slot.unset).toArray = ls at hl ⊢
  have hl : lv_has ls 1 [(0, .ref a0)] := hl
  unfold wp_X12_squares at hp
  exact t_X12_squares_0 F hr hlocks hK hp hW wX.rf (lv_sub hl [0] rfl) hL_a0 hK_a0
def wp_X12_counts_31 (D : wD) (post : Int32 → wS → Prop) (k_5 : wS → Nat → Int32 → Int32 → Int32 → Int32 → Prop) (S : wS) (a0 : Nat) (x1 : Int32) (x2 : Int32) (x4 : Int32) (t0 : Int32) (t1 : Int32) : Prop :=
∀ x_1 : Int32, x_1 = (t0 + t1) →
∀ x_2 : Int32, x_2 = x4 + 1 →
k_5 S a0 x1 x2 x_1 x_2
def wp_X12_counts_5 (D : wD) (post : Int32 → wS → Prop)  : Nat → wS → Nat → Int32 → Int32 → Int32 → Int32 → Prop
  | 0, _, _, _, _, _, _ => False
  | n + 1, S, a0, x1, x2, x3, x4 =>
    wp_X12_squares D (fun r_1 S_2 => 
    ((r_1 ≤ x4 → post x3 S_2) ∧
     (¬ r_1 ≤ x4 → wp_X12_on D (fun r_4 S_5 => 
    ((¬ r_4 = x2 → wp_X12_counts_31 D post (wp_X12_counts_5 D post n) S_5 a0 x1 x2 x4 x3 (0 : Int32)) ∧
     (r_4 = x2 → wp_X12_counts_31 D post (wp_X12_counts_5 D post n) S_5 a0 x1 x2 x4 x3 (1 : Int32)))) S_2 a0 x1 x4))) S a0
def wp_X12_counts_0 (D : wD) (post : Int32 → wS → Prop)  (S : wS) (a0 : Nat) (x1 : Int32) (x2 : Int32) : Prop :=
∃ n_1 : Nat, wp_X12_counts_5 D post n_1 S a0 x1 x2 (0 : Int32) (0 : Int32)
abbrev r_X12_counts : Room := { frames := 1, cells := 0, slots := 0, locals := 22 }
def wp_X12_counts (D : wD) (post : Int32 → wS → Prop) (S : wS) (a0 : Nat) (x1 : Int32) (x2 : Int32) : Prop := wp_X12_counts_0 D post S a0 x1 x2
set_option maxHeartbeats 4000000 in
set_option maxRecDepth 100000 in
theorem t_X12_counts_31 {p : Program} {l : Launch} {e : Env} {s : State} {m : MethodId} {args : Array Value} {below : List Frame} {meth : Method} {c : Code} {D : wD} {cy : Nat → ClassId} {X : va_W} {A : Nat → Prop} {S0 : wS} {post : Int32 → wS → Prop} (F : CallFix p m c cX12_counts 5 s args wz_X12_counts RX12) (hr : meth.sig.returnType = (some .int)) (hlocks : meth.locks = false) (hK : wK D cy A s) {k_5 : wS → Nat → Int32 → Int32 → Int32 → Int32 → Prop} (q_5 : ∀ {S : wS} {H : Heap} {locs : List Loc} {ls : Array Slot} {a0 : Nat} {x1 : Int32} {x2 : Int32} {x3 : Int32} {x4 : Int32}, k_5 S a0 x1 x2 x3 x4 → wO D cy X A s.heap S H locs → wX D S0 S → lv_has ls 5 [(0, .ref a0), (1, .int x1), (2, .int x2), (3, .int x3), (4, .int x4)] → wM D S a0 → sK S a0 = 17 → W p l e r_X12_counts s m args below meth c H locs 0 0 (MQ below (va_Qi (fun r S9 => wX D S0 S9 ∧ post r S9) (wB D cy X A) A) args s 0 0 A) (F0 m 5 ls [])) : ∀ {S : wS} {H : Heap} {locs : List Loc} {ls : Array Slot} {a0 : Nat} {x1 : Int32} {x2 : Int32} {x4 : Int32} {t0 : Int32} {t1 : Int32}, wp_X12_counts_31 D post k_5 S a0 x1 x2 x4 t0 t1 → wO D cy X A s.heap S H locs → wX D S0 S → lv_has ls 5 [(0, .ref a0), (1, .int x1), (2, .int x2), (4, .int x4)] → wM D S a0 → sK S a0 = 17 → W p l e r_X12_counts s m args below meth c H locs 0 0 (MQ below (va_Qi (fun r S9 => wX D S0 S9 ∧ post r S9) (wB D cy X A) A) args s 0 0 A) (F0 m 31 ls [.int t1, .int t0]) := by
  obtain ⟨hx, hb, hml, hown, hts⟩ := id F
  have hwg : ∀ w ∈ WG, w.before args s = true := fun w h => hts w (List.mem_cons_of_mem _ h)
  intro S H locs ls a0 x1 x2 x4 t0 t1 hp hW hE hl hL_a0 hK_a0
  unfold wp_X12_counts_31 at hp
  refine lv_iadd hx hb dX12_counts_31 ?_
  refine lv_topi (fun x_1 ex_1 => ?_)
  replace hp := hp x_1 ex_1
  refine lv_istore_n (lv' := [(3, .int x_1), (0, .ref a0), (1, .int x1), (2, .int x2), (4, .int x4)]) hx hb dX12_counts_32 rfl hl (by decide) rfl (fun ls hl => ?_)
  obtain ⟨x_2, ex_2⟩ : ∃ z : Int32, z = x4 + 1 := ⟨_, rfl⟩
  replace hp := hp x_2 ex_2
  refine lv_iinc (v := x_2) (lv' := [(4, .int x_2), (3, .int x_1), (0, .ref a0), (1, .int x1), (2, .int x2)]) hx hb dX12_counts_33 hl (k := 4) rfl (by rw [ex_2]; rfl) (by decide) rfl (fun ls hl => ?_)
  refine lv_goto (tgt := 5) hx hb dX12_counts_36 (by decide) ?_
  exact q_5 hp hW hE (lv_sub hl [2, 3, 4, 1, 0] rfl) hL_a0 hK_a0
set_option maxHeartbeats 4000000 in
set_option maxRecDepth 100000 in
theorem t_X12_counts_5 {p : Program} {l : Launch} {e : Env} {s : State} {m : MethodId} {args : Array Value} {below : List Frame} {meth : Method} {c : Code} {D : wD} {cy : Nat → ClassId} {X : va_W} {A : Nat → Prop} {S0 : wS} {post : Int32 → wS → Prop} (F : CallFix p m c cX12_counts 5 s args wz_X12_counts RX12) (hr : meth.sig.returnType = (some .int)) (hlocks : meth.locks = false) (hK : wK D cy A s) : ∀ (n : Nat) {S : wS} {H : Heap} {locs : List Loc} {ls : Array Slot} {a0 : Nat} {x1 : Int32} {x2 : Int32} {x3 : Int32} {x4 : Int32}, wp_X12_counts_5 D post n S a0 x1 x2 x3 x4 → wO D cy X A s.heap S H locs → wX D S0 S → lv_has ls 5 [(0, .ref a0), (1, .int x1), (2, .int x2), (3, .int x3), (4, .int x4)] → wM D S a0 → sK S a0 = 17 → W p l e r_X12_counts s m args below meth c H locs 0 0 (MQ below (va_Qi (fun r S9 => wX D S0 S9 ∧ post r S9) (wB D cy X A) A) args s 0 0 A) (F0 m 5 ls []) := by
  obtain ⟨hx, hb, hml, hown, hts⟩ := id F
  have hwg : ∀ w ∈ WG, w.before args s = true := fun w h => hts w (List.mem_cons_of_mem _ h)
  intro n
  induction n with
  | zero =>
    intro S H locs ls a0 x1 x2 x3 x4 hp
    exact hp.elim
  | succ n ih =>
    intro S H locs ls a0 x1 x2 x3 x4 hp hW hE hl hL_a0 hK_a0
    unfold wp_X12_counts_5 at hp
    refine lv_iload hx hb dX12_counts_5 (lv_at hl 4 rfl) ?_
    refine lv_aload_n hx hb dX12_counts_7 rfl (lv_at hl 0 rfl) ?_
    refine w_callI (va_runV (As := []) (rest := [.int x4]) F (c_X12_squares l hL_a0 hK_a0 hp H.size) (cwV (C := RX12) 0 hts (wg_V wm_RX12_113 wy_X12_squares) rfl rfl rfl (by decide +kernel) ⟨Nat.le_of_ble_eq_true rfl, Nat.le_of_ble_eq_true rfl⟩) (w_preV hK hW hL_a0 hK_a0 (by decide) rfl) rfl rfl hl.1 rfl (lv_room (Nat.le_of_ble_eq_true rfl)) dX12_counts_8 ⟨Nat.le_of_ble_eq_true rfl, Nat.le_of_ble_eq_true rfl⟩) hW (fun r_1 S_2 H locs hp hW => ?_)
    obtain ⟨hX_S_2, hp⟩ := hp
    refine W.widen (k := 0) (n := 0) (by decide) (by decide) ?_
    have hE := hE.trans hX_S_2
    have hK_a0 : sK S_2 a0 = 17 := (hX_S_2.2 a0 hL_a0).1.trans hK_a0
    have hL_a0 : wM D S_2 a0 := hX_S_2.M hL_a0
    refine lv_icmp_ge (tgt := 39) hx hb dX12_counts_11 (by decide) (fun c_3 => ?_) (fun c_3 => ?_)
    · replace hp := hp.1 c_3
      refine lv_iload_n hx hb dX12_counts_39 rfl (lv_at hl 3 rfl) ?_
      exact w_iret hx hb hr hlocks hW ⟨hE, hp⟩ dX12_counts_40
    · replace hp := hp.2 c_3
      refine lv_iload_n hx hb dX12_counts_14 rfl (lv_at hl 3 rfl) ?_
      refine lv_aload_n hx hb dX12_counts_15 rfl (lv_at hl 0 rfl) ?_
      refine lv_iload_n hx hb dX12_counts_16 rfl (lv_at hl 1 rfl) ?_
      refine lv_iload hx hb dX12_counts_17 (lv_at hl 4 rfl) ?_
      refine w_callI (va_runV (As := [.int x1, .int x4]) (rest := [.int x3]) F (c_X12_on l hL_a0 hK_a0 hp H.size) (cwV (C := RX12) 2 hts (wg_V wm_RX12_141 wy_X12_on) rfl rfl rfl (by decide +kernel) ⟨Nat.le_of_ble_eq_true rfl, Nat.le_of_ble_eq_true rfl⟩) (w_preV hK hW hL_a0 hK_a0 (by decide) rfl) rfl rfl hl.1 rfl (lv_room (Nat.le_of_ble_eq_true rfl)) dX12_counts_19 ⟨Nat.le_of_ble_eq_true rfl, Nat.le_of_ble_eq_true rfl⟩) hW (fun r_4 S_5 H locs hp hW => ?_)
      obtain ⟨hX_S_5, hp⟩ := hp
      refine W.widen (k := 0) (n := 0) (by decide) (by decide) ?_
      have hE := hE.trans hX_S_5
      have hK_a0 : sK S_5 a0 = 17 := (hX_S_5.2 a0 hL_a0).1.trans hK_a0
      have hL_a0 : wM D S_5 a0 := hX_S_5.M hL_a0
      refine lv_iload_n hx hb dX12_counts_22 rfl (lv_at hl 2 rfl) ?_
      refine lv_icmp_ne (tgt := 30) hx hb dX12_counts_23 (by decide) (fun c_6 => ?_) (fun c_6 => ?_)
      · replace hp := hp.1 c_6
        refine lv_iconst (v := 0) hx hb dX12_counts_30 (by decide) ?_
        exact t_X12_counts_31 F hr hlocks hK ih hp hW hE (lv_sub hl [0, 1, 2, 4] rfl) hL_a0 hK_a0
      · replace hp := hp.2 c_6
        refine lv_iconst (v := 1) hx hb dX12_counts_26 (by decide) ?_
        refine lv_goto (tgt := 31) hx hb dX12_counts_27 (by decide) ?_
        exact t_X12_counts_31 F hr hlocks hK ih hp hW hE (lv_sub hl [0, 1, 2, 4] rfl) hL_a0 hK_a0
set_option maxHeartbeats 4000000 in
set_option maxRecDepth 100000 in
theorem t_X12_counts_0 {p : Program} {l : Launch} {e : Env} {s : State} {m : MethodId} {args : Array Value} {below : List Frame} {meth : Method} {c : Code} {D : wD} {cy : Nat → ClassId} {X : va_W} {A : Nat → Prop} {S0 : wS} {post : Int32 → wS → Prop} (F : CallFix p m c cX12_counts 5 s args wz_X12_counts RX12) (hr : meth.sig.returnType = (some .int)) (hlocks : meth.locks = false) (hK : wK D cy A s) : ∀ {S : wS} {H : Heap} {locs : List Loc} {ls : Array Slot} {a0 : Nat} {x1 : Int32} {x2 : Int32}, wp_X12_counts_0 D post S a0 x1 x2 → wO D cy X A s.heap S H locs → wX D S0 S → lv_has ls 5 [(0, .ref a0), (1, .int x1), (2, .int x2)] → wM D S a0 → sK S a0 = 17 → W p l e r_X12_counts s m args below meth c H locs 0 0 (MQ below (va_Qi (fun r S9 => wX D S0 S9 ∧ post r S9) (wB D cy X A) A) args s 0 0 A) (F0 m 0 ls []) := by
  obtain ⟨hx, hb, hml, hown, hts⟩ := id F
  have hwg : ∀ w ∈ WG, w.before args s = true := fun w h => hts w (List.mem_cons_of_mem _ h)
  intro S H locs ls a0 x1 x2 hp hW hE hl hL_a0 hK_a0
  unfold wp_X12_counts_0 at hp
  refine lv_iconst (v := 0) hx hb dX12_counts_0 (by decide) ?_
  refine lv_istore_n (lv' := [(3, .int (0 : Int32)), (0, .ref a0), (1, .int x1), (2, .int x2)]) hx hb dX12_counts_1 rfl hl (by decide) rfl (fun ls hl => ?_)
  refine lv_iconst (v := 0) hx hb dX12_counts_2 (by decide) ?_
  refine lv_istore (lv' := [(4, .int (0 : Int32)), (3, .int (0 : Int32)), (0, .ref a0), (1, .int x1), (2, .int x2)]) hx hb dX12_counts_3 hl (by decide) rfl (fun ls hl => ?_)
  obtain ⟨n_1, hp⟩ := hp
  exact t_X12_counts_5 F hr hlocks hK n_1 hp hW hE (lv_sub hl [2, 3, 4, 1, 0] rfl) hL_a0 hK_a0
set_option maxHeartbeats 4000000 in
set_option maxRecDepth 100000 in
theorem c_X12_counts (l : Launch) {D : wD} {cy : Nat → ClassId} {X : va_W} {S0 : wS} {post : Int32 → wS → Prop} {a0 : Nat} {x1 : Int32} {x2 : Int32} (hL_a0 : wM D S0 a0) (hK_a0 : sK S0 a0 = 17) (hp : wp_X12_counts D post S0 a0 x1 x2) : mI D cy X l yX12_counts wz_X12_counts r_X12_counts [.ref a0, .int x1, .int x2] S0 (fun r S9 => wX D S0 S9 ∧ post r S9) := by
  intro sz
  refine Met.ofW (cc := cX12_counts) (maxL := 5) (ret := (some .int)) (by decide) rfl ?_
  intro p e s m args below meth c s₁ B hml hv
  obtain ⟨rfl, hsz, hP, hK, hD0, hRO⟩ := hv
  have hts := atoms_spec (ws := wz_X12_counts) B.pre
  have hown : s.vm.findClass RX12 = some m.cls := findClass_of_methodNamed B.named
  subst hsz
  have hD := hD0.self (sz := s.heap.size)
  have F : CallFix p m c cX12_counts 5 s _ wz_X12_counts RX12 := ⟨B.exec, B.bytes, hml, hown, hts⟩
  have hr := B.returns
  have hlocks := B.notSynchronized
  generalize hAe : va_A (wL cy X S0) s.heap.size = A at hD hK ⊢
  have hA : ∀ q, s.heap.size ≤ q → A q := fun q h => by rw [← hAe]; exact Or.inr h
  have hW : wO D cy X A s.heap S0 s.heap [] := ⟨hP, hD, va_S.rf, hA, hRO⟩
  have hl := lv_entry ([.ref a0, .int x1, .int x2]) (n := 5) (Nat.le_of_ble_eq_true rfl)
  rw [lg_entry_eq]
  generalize (lg_sl ([.ref a0, .int x1, .int x2]) ++ List.replicate (5 - (lg_sl ([.ref a0, .int x1, .int x2])).length) Slot.unset).toArray = ls at hl ⊢
  have hl : lv_has ls 5 [(0, .ref a0), (1, .int x1), (2, .int x2)] := hl
  unfold wp_X12_counts at hp
  exact t_X12_counts_0 F hr hlocks hK hp hW wX.rf (lv_sub hl [0, 1, 2] rfl) hL_a0 hK_a0
def wp_X12_distance_14 (D : wD) (post : Int32 → wS → Prop)  (S : wS) (t0 : Int32) : Prop :=
post t0 S
def wp_X12_distance_0 (D : wD) (post : Int32 → wS → Prop)  (S : wS) (x0 : Int32) (x1 : Int32) : Prop :=
((x1 ≤ x0 → wp_X12_distance_14 D post S (x0 - x1)) ∧
 (¬ x1 ≤ x0 → wp_X12_distance_14 D post S (x1 - x0)))
abbrev r_X12_distance : Room := { frames := 0, cells := 0, slots := 0, locals := 0 }
def wp_X12_distance (D : wD) (post : Int32 → wS → Prop) (S : wS) (x0 : Int32) (x1 : Int32) : Prop := wp_X12_distance_0 D post S x0 x1
set_option maxHeartbeats 4000000 in
set_option maxRecDepth 100000 in
theorem t_X12_distance_14 {p : Program} {l : Launch} {e : Env} {s : State} {m : MethodId} {args : Array Value} {below : List Frame} {meth : Method} {c : Code} {D : wD} {cy : Nat → ClassId} {X : va_W} {A : Nat → Prop} {S0 : wS} {post : Int32 → wS → Prop} (F : CallFix p m c cX12_distance 2 s args wz_X12_distance RX12) (hr : meth.sig.returnType = (some .int)) (hlocks : meth.locks = false) (hK : wK D cy A s) : ∀ {S : wS} {H : Heap} {locs : List Loc} {ls : Array Slot} {t0 : Int32}, wp_X12_distance_14 D post S t0 → wO D cy X A s.heap S H locs → wX D S0 S → lv_has ls 2 [] → W p l e r_X12_distance s m args below meth c H locs 0 0 (MQ below (va_Qi (fun r S9 => wX D S0 S9 ∧ post r S9) (wB D cy X A) A) args s 0 0 A) (F0 m 14 ls [.int t0]) := by
  obtain ⟨hx, hb, hml, hown, hts⟩ := id F
  have hwg : ∀ w ∈ WG, w.before args s = true := fun w h => hts w (List.mem_cons_of_mem _ h)
  intro S H locs ls t0 hp hW hE hl
  unfold wp_X12_distance_14 at hp
  exact w_iret hx hb hr hlocks hW ⟨hE, hp⟩ dX12_distance_14
set_option maxHeartbeats 4000000 in
set_option maxRecDepth 100000 in
theorem t_X12_distance_0 {p : Program} {l : Launch} {e : Env} {s : State} {m : MethodId} {args : Array Value} {below : List Frame} {meth : Method} {c : Code} {D : wD} {cy : Nat → ClassId} {X : va_W} {A : Nat → Prop} {S0 : wS} {post : Int32 → wS → Prop} (F : CallFix p m c cX12_distance 2 s args wz_X12_distance RX12) (hr : meth.sig.returnType = (some .int)) (hlocks : meth.locks = false) (hK : wK D cy A s) : ∀ {S : wS} {H : Heap} {locs : List Loc} {ls : Array Slot} {x0 : Int32} {x1 : Int32}, wp_X12_distance_0 D post S x0 x1 → wO D cy X A s.heap S H locs → wX D S0 S → lv_has ls 2 [(0, .int x0), (1, .int x1)] → W p l e r_X12_distance s m args below meth c H locs 0 0 (MQ below (va_Qi (fun r S9 => wX D S0 S9 ∧ post r S9) (wB D cy X A) A) args s 0 0 A) (F0 m 0 ls []) := by
  obtain ⟨hx, hb, hml, hown, hts⟩ := id F
  have hwg : ∀ w ∈ WG, w.before args s = true := fun w h => hts w (List.mem_cons_of_mem _ h)
  intro S H locs ls x0 x1 hp hW hE hl
  unfold wp_X12_distance_0 at hp
  refine lv_iload_n hx hb dX12_distance_0 rfl (lv_at hl 0 rfl) ?_
  refine lv_iload_n hx hb dX12_distance_1 rfl (lv_at hl 1 rfl) ?_
  refine lv_icmp_ge (tgt := 11) hx hb dX12_distance_2 (by decide) (fun c_1 => ?_) (fun c_1 => ?_)
  · replace hp := hp.1 c_1
    refine lv_iload_n hx hb dX12_distance_11 rfl (lv_at hl 0 rfl) ?_
    refine lv_iload_n hx hb dX12_distance_12 rfl (lv_at hl 1 rfl) ?_
    refine lv_isub hx hb dX12_distance_13 ?_
    exact t_X12_distance_14 F hr hlocks hK hp hW hE (lv_sub hl [] rfl)
  · replace hp := hp.2 c_1
    refine lv_iload_n hx hb dX12_distance_5 rfl (lv_at hl 1 rfl) ?_
    refine lv_iload_n hx hb dX12_distance_6 rfl (lv_at hl 0 rfl) ?_
    refine lv_isub hx hb dX12_distance_7 ?_
    refine lv_goto (tgt := 14) hx hb dX12_distance_8 (by decide) ?_
    exact t_X12_distance_14 F hr hlocks hK hp hW hE (lv_sub hl [] rfl)
set_option maxHeartbeats 4000000 in
set_option maxRecDepth 100000 in
theorem c_X12_distance (l : Launch) {D : wD} {cy : Nat → ClassId} {X : va_W} {S0 : wS} {post : Int32 → wS → Prop} {x0 : Int32} {x1 : Int32} (hp : wp_X12_distance D post S0 x0 x1) : mI D cy X l yX12_distance wz_X12_distance r_X12_distance [.int x0, .int x1] S0 (fun r S9 => wX D S0 S9 ∧ post r S9) := by
  intro sz
  refine Met.ofW (cc := cX12_distance) (maxL := 2) (ret := (some .int)) (by decide) rfl ?_
  intro p e s m args below meth c s₁ B hml hv
  obtain ⟨rfl, hsz, hP, hK, hD0, hRO⟩ := hv
  have hts := atoms_spec (ws := wz_X12_distance) B.pre
  have hown : s.vm.findClass RX12 = some m.cls := findClass_of_methodNamed B.named
  subst hsz
  have hD := hD0.self (sz := s.heap.size)
  have F : CallFix p m c cX12_distance 2 s _ wz_X12_distance RX12 := ⟨B.exec, B.bytes, hml, hown, hts⟩
  have hr := B.returns
  have hlocks := B.notSynchronized
  generalize hAe : va_A (wL cy X S0) s.heap.size = A at hD hK ⊢
  have hA : ∀ q, s.heap.size ≤ q → A q := fun q h => by rw [← hAe]; exact Or.inr h
  have hW : wO D cy X A s.heap S0 s.heap [] := ⟨hP, hD, va_S.rf, hA, hRO⟩
  have hl := lv_entry ([.int x0, .int x1]) (n := 2) (Nat.le_of_ble_eq_true rfl)
  rw [lg_entry_eq]
  generalize (lg_sl ([.int x0, .int x1]) ++ List.replicate (2 - (lg_sl ([.int x0, .int x1])).length) Slot.unset).toArray = ls at hl ⊢
  have hl : lv_has ls 2 [(0, .int x0), (1, .int x1)] := hl
  unfold wp_X12_distance at hp
  exact t_X12_distance_0 F hr hlocks hK hp hW wX.rf (lv_sub hl [0, 1] rfl)
def wp_X12_fileOf_0 (D : wD) (post : Int32 → wS → Prop)  (S : wS) (a0 : Nat) (x1 : Int32) : Prop :=
¬ (sI S a0 1) = 0 ∧
post (x1 - x1 / (sI S a0 1) * (sI S a0 1)) S
abbrev r_X12_fileOf : Room := { frames := 0, cells := 0, slots := 0, locals := 0 }
def wp_X12_fileOf (D : wD) (post : Int32 → wS → Prop) (S : wS) (a0 : Nat) (x1 : Int32) : Prop := wp_X12_fileOf_0 D post S a0 x1
set_option maxHeartbeats 4000000 in
set_option maxRecDepth 100000 in
theorem t_X12_fileOf_0 {p : Program} {l : Launch} {e : Env} {s : State} {m : MethodId} {args : Array Value} {below : List Frame} {meth : Method} {c : Code} {D : wD} {cy : Nat → ClassId} {X : va_W} {A : Nat → Prop} {S0 : wS} {post : Int32 → wS → Prop} (F : CallFix p m c cX12_fileOf 2 s args wz_X12_fileOf RX12) (hr : meth.sig.returnType = (some .int)) (hlocks : meth.locks = false) (hK : wK D cy A s) : ∀ {S : wS} {H : Heap} {locs : List Loc} {ls : Array Slot} {a0 : Nat} {x1 : Int32}, wp_X12_fileOf_0 D post S a0 x1 → wO D cy X A s.heap S H locs → wX D S0 S → lv_has ls 2 [(0, .ref a0), (1, .int x1)] → wM D S a0 → sK S a0 = 17 → W p l e r_X12_fileOf s m args below meth c H locs 0 0 (MQ below (va_Qi (fun r S9 => wX D S0 S9 ∧ post r S9) (wB D cy X A) A) args s 0 0 A) (F0 m 0 ls []) := by
  obtain ⟨hx, hb, hml, hown, hts⟩ := id F
  have hwg : ∀ w ∈ WG, w.before args s = true := fun w h => hts w (List.mem_cons_of_mem _ h)
  have i_17 : ∀ w ∈ u_ws RX12 TX12 43, w ∈ wz_X12_fileOf := fun w h => List.mem_cons_of_mem _ (wu_17 w h)
  have k_9 := hwg _ wf_RX12_9
  intro S H locs ls a0 x1 hp hW hE hl hL_a0 hK_a0
  unfold wp_X12_fileOf_0 at hp
  refine lv_iload_n hx hb dX12_fileOf_0 rfl (lv_at hl 1 rfl) ?_
  refine lv_aload_n hx hb dX12_fileOf_1 rfl (lv_at hl 0 rfl) ?_
  refine w_get (k := 17) (f := 1) (T := TX12) (v := .int (sI S a0 1)) F hK hW hL_a0 hK_a0 (by decide) rfl rfl (by decide) i_17 k_9 rfl dX12_fileOf_2 ?_
  obtain ⟨h_1, hp⟩ := hp
  refine lv_irem hx hb dX12_fileOf_5 h_1 ?_
  exact w_iret hx hb hr hlocks hW ⟨hE, hp⟩ dX12_fileOf_6
set_option maxHeartbeats 4000000 in
set_option maxRecDepth 100000 in
theorem c_X12_fileOf (l : Launch) {D : wD} {cy : Nat → ClassId} {X : va_W} {S0 : wS} {post : Int32 → wS → Prop} {a0 : Nat} {x1 : Int32} (hL_a0 : wM D S0 a0) (hK_a0 : sK S0 a0 = 17) (hp : wp_X12_fileOf D post S0 a0 x1) : mI D cy X l yX12_fileOf wz_X12_fileOf r_X12_fileOf [.ref a0, .int x1] S0 (fun r S9 => wX D S0 S9 ∧ post r S9) := by
  intro sz
  refine Met.ofW (cc := cX12_fileOf) (maxL := 2) (ret := (some .int)) (by decide) rfl ?_
  intro p e s m args below meth c s₁ B hml hv
  obtain ⟨rfl, hsz, hP, hK, hD0, hRO⟩ := hv
  have hts := atoms_spec (ws := wz_X12_fileOf) B.pre
  have hown : s.vm.findClass RX12 = some m.cls := findClass_of_methodNamed B.named
  subst hsz
  have hD := hD0.self (sz := s.heap.size)
  have F : CallFix p m c cX12_fileOf 2 s _ wz_X12_fileOf RX12 := ⟨B.exec, B.bytes, hml, hown, hts⟩
  have hr := B.returns
  have hlocks := B.notSynchronized
  generalize hAe : va_A (wL cy X S0) s.heap.size = A at hD hK ⊢
  have hA : ∀ q, s.heap.size ≤ q → A q := fun q h => by rw [← hAe]; exact Or.inr h
  have hW : wO D cy X A s.heap S0 s.heap [] := ⟨hP, hD, va_S.rf, hA, hRO⟩
  have hl := lv_entry ([.ref a0, .int x1]) (n := 2) (Nat.le_of_ble_eq_true rfl)
  rw [lg_entry_eq]
  generalize (lg_sl ([.ref a0, .int x1]) ++ List.replicate (2 - (lg_sl ([.ref a0, .int x1])).length) Slot.unset).toArray = ls at hl ⊢
  have hl : lv_has ls 2 [(0, .ref a0), (1, .int x1)] := hl
  unfold wp_X12_fileOf at hp
  exact t_X12_fileOf_0 F hr hlocks hK hp hW wX.rf (lv_sub hl [0, 1] rfl) hL_a0 hK_a0
def wp_X12_rankOf_0 (D : wD) (post : Int32 → wS → Prop)  (S : wS) (a0 : Nat) (x1 : Int32) : Prop :=
¬ (sI S a0 1) = 0 ∧
post (x1 / (sI S a0 1)) S
abbrev r_X12_rankOf : Room := { frames := 0, cells := 0, slots := 0, locals := 0 }
def wp_X12_rankOf (D : wD) (post : Int32 → wS → Prop) (S : wS) (a0 : Nat) (x1 : Int32) : Prop := wp_X12_rankOf_0 D post S a0 x1
set_option maxHeartbeats 4000000 in
set_option maxRecDepth 100000 in
theorem t_X12_rankOf_0 {p : Program} {l : Launch} {e : Env} {s : State} {m : MethodId} {args : Array Value} {below : List Frame} {meth : Method} {c : Code} {D : wD} {cy : Nat → ClassId} {X : va_W} {A : Nat → Prop} {S0 : wS} {post : Int32 → wS → Prop} (F : CallFix p m c cX12_rankOf 2 s args wz_X12_rankOf RX12) (hr : meth.sig.returnType = (some .int)) (hlocks : meth.locks = false) (hK : wK D cy A s) : ∀ {S : wS} {H : Heap} {locs : List Loc} {ls : Array Slot} {a0 : Nat} {x1 : Int32}, wp_X12_rankOf_0 D post S a0 x1 → wO D cy X A s.heap S H locs → wX D S0 S → lv_has ls 2 [(0, .ref a0), (1, .int x1)] → wM D S a0 → sK S a0 = 17 → W p l e r_X12_rankOf s m args below meth c H locs 0 0 (MQ below (va_Qi (fun r S9 => wX D S0 S9 ∧ post r S9) (wB D cy X A) A) args s 0 0 A) (F0 m 0 ls []) := by
  obtain ⟨hx, hb, hml, hown, hts⟩ := id F
  have hwg : ∀ w ∈ WG, w.before args s = true := fun w h => hts w (List.mem_cons_of_mem _ h)
  have i_17 : ∀ w ∈ u_ws RX12 TX12 43, w ∈ wz_X12_rankOf := fun w h => List.mem_cons_of_mem _ (wu_17 w h)
  have k_9 := hwg _ wf_RX12_9
  intro S H locs ls a0 x1 hp hW hE hl hL_a0 hK_a0
  unfold wp_X12_rankOf_0 at hp
  refine lv_iload_n hx hb dX12_rankOf_0 rfl (lv_at hl 1 rfl) ?_
  refine lv_aload_n hx hb dX12_rankOf_1 rfl (lv_at hl 0 rfl) ?_
  refine w_get (k := 17) (f := 1) (T := TX12) (v := .int (sI S a0 1)) F hK hW hL_a0 hK_a0 (by decide) rfl rfl (by decide) i_17 k_9 rfl dX12_rankOf_2 ?_
  obtain ⟨h_1, hp⟩ := hp
  refine lv_idiv hx hb dX12_rankOf_5 h_1 ?_
  exact w_iret hx hb hr hlocks hW ⟨hE, hp⟩ dX12_rankOf_6
set_option maxHeartbeats 4000000 in
set_option maxRecDepth 100000 in
theorem c_X12_rankOf (l : Launch) {D : wD} {cy : Nat → ClassId} {X : va_W} {S0 : wS} {post : Int32 → wS → Prop} {a0 : Nat} {x1 : Int32} (hL_a0 : wM D S0 a0) (hK_a0 : sK S0 a0 = 17) (hp : wp_X12_rankOf D post S0 a0 x1) : mI D cy X l yX12_rankOf wz_X12_rankOf r_X12_rankOf [.ref a0, .int x1] S0 (fun r S9 => wX D S0 S9 ∧ post r S9) := by
  intro sz
  refine Met.ofW (cc := cX12_rankOf) (maxL := 2) (ret := (some .int)) (by decide) rfl ?_
  intro p e s m args below meth c s₁ B hml hv
  obtain ⟨rfl, hsz, hP, hK, hD0, hRO⟩ := hv
  have hts := atoms_spec (ws := wz_X12_rankOf) B.pre
  have hown : s.vm.findClass RX12 = some m.cls := findClass_of_methodNamed B.named
  subst hsz
  have hD := hD0.self (sz := s.heap.size)
  have F : CallFix p m c cX12_rankOf 2 s _ wz_X12_rankOf RX12 := ⟨B.exec, B.bytes, hml, hown, hts⟩
  have hr := B.returns
  have hlocks := B.notSynchronized
  generalize hAe : va_A (wL cy X S0) s.heap.size = A at hD hK ⊢
  have hA : ∀ q, s.heap.size ≤ q → A q := fun q h => by rw [← hAe]; exact Or.inr h
  have hW : wO D cy X A s.heap S0 s.heap [] := ⟨hP, hD, va_S.rf, hA, hRO⟩
  have hl := lv_entry ([.ref a0, .int x1]) (n := 2) (Nat.le_of_ble_eq_true rfl)
  rw [lg_entry_eq]
  generalize (lg_sl ([.ref a0, .int x1]) ++ List.replicate (2 - (lg_sl ([.ref a0, .int x1])).length) Slot.unset).toArray = ls at hl ⊢
  have hl : lv_has ls 2 [(0, .ref a0), (1, .int x1)] := hl
  unfold wp_X12_rankOf at hp
  exact t_X12_rankOf_0 F hr hlocks hK hp hW wX.rf (lv_sub hl [0, 1] rfl) hL_a0 hK_a0
def wp_X12_isClear_80 (D : wD) (post : Int32 → wS → Prop)  : Nat → wS → Nat → Int32 → Int32 → Int32 → Int32 → Prop
  | 0, _, _, _, _, _, _ => False
  | n + 1, S, a0, x1, x3, x6, x7 =>
    ((x7 = x3 → narrow .boolean (.int (1 : Int32)) = .int (1 : Int32) ∧ post (1 : Int32) S) ∧
     (¬ x7 = x3 → wp_X12_on D (fun r_2 S_3 => 
    ((r_2 = 0 → ∀ x_5 : Int32, x_5 = (x7 + x6) →
    wp_X12_isClear_80 D post n S_3 a0 x1 x3 x6 x_5) ∧
     (¬ r_2 = 0 → narrow .boolean (.int (0 : Int32)) = .int (0 : Int32) ∧ post (0 : Int32) S_3))) S a0 x1 x7))
def wp_X12_isClear_71 (D : wD) (post : Int32 → wS → Prop)  (S : wS) (a0 : Nat) (x1 : Int32) (x2 : Int32) (x3 : Int32) (t0 : Int32) (t1 : Int32) : Prop :=
∀ x_1 : Int32, x_1 = (t0 + t1) →
∀ x_2 : Int32, x_2 = (x2 + x_1) →
∃ n_3 : Nat, wp_X12_isClear_80 D post n_3 S a0 x1 x3 x_1 x_2
def wp_X12_isClear_52 (D : wD) (post : Int32 → wS → Prop)  (S : wS) (a0 : Nat) (x1 : Int32) (x2 : Int32) (x3 : Int32) (x4 : Int32) (t0 : Int32) : Prop :=
((x4 ≤ 0 → ((0 ≤ x4 → wp_X12_isClear_71 D post S a0 x1 x2 x3 t0 (0 : Int32)) ∧
 (¬ 0 ≤ x4 → wp_X12_isClear_71 D post S a0 x1 x2 x3 t0 (-1 : Int32)))) ∧
 (¬ x4 ≤ 0 → wp_X12_isClear_71 D post S a0 x1 x2 x3 t0 (1 : Int32)))
def wp_X12_isClear_0 (D : wD) (post : Int32 → wS → Prop)  (S : wS) (a0 : Nat) (x1 : Int32) (x2 : Int32) (x3 : Int32) : Prop :=
wp_X12_fileOf D (fun r_1 S_2 => 
wp_X12_fileOf D (fun r_3 S_4 => 
∀ x_5 : Int32, x_5 = (r_1 - r_3) →
wp_X12_rankOf D (fun r_6 S_7 => 
wp_X12_rankOf D (fun r_8 S_9 => 
∀ x_10 : Int32, x_10 = (r_6 - r_8) →
((x_10 ≤ 0 → ((0 ≤ x_10 → wp_X12_isClear_52 D post S_9 a0 x1 x2 x3 x_5 (0 : Int32)) ∧
 (¬ 0 ≤ x_10 → wp_X12_isClear_52 D post S_9 a0 x1 x2 x3 x_5 (-(sI S_9 a0 1))))) ∧
 (¬ x_10 ≤ 0 → wp_X12_isClear_52 D post S_9 a0 x1 x2 x3 x_5 (sI S_9 a0 1)))) S_7 a0 x2) S_4 a0 x3) S_2 a0 x2) S a0 x3
abbrev r_X12_isClear : Room := { frames := 1, cells := 0, slots := 0, locals := 22 }
def wp_X12_isClear (D : wD) (post : Int32 → wS → Prop) (S : wS) (a0 : Nat) (x1 : Int32) (x2 : Int32) (x3 : Int32) : Prop := wp_X12_isClear_0 D post S a0 x1 x2 x3
set_option maxHeartbeats 4000000 in
set_option maxRecDepth 100000 in
theorem t_X12_isClear_80 {p : Program} {l : Launch} {e : Env} {s : State} {m : MethodId} {args : Array Value} {below : List Frame} {meth : Method} {c : Code} {D : wD} {cy : Nat → ClassId} {X : va_W} {A : Nat → Prop} {S0 : wS} {post : Int32 → wS → Prop} (F : CallFix p m c cX12_isClear 8 s args wz_X12_isClear RX12) (hr : meth.sig.returnType = (some .boolean)) (hlocks : meth.locks = false) (hK : wK D cy A s) : ∀ (n : Nat) {S : wS} {H : Heap} {locs : List Loc} {ls : Array Slot} {a0 : Nat} {x1 : Int32} {x3 : Int32} {x6 : Int32} {x7 : Int32}, wp_X12_isClear_80 D post n S a0 x1 x3 x6 x7 → wO D cy X A s.heap S H locs → wX D S0 S → lv_has ls 8 [(0, .ref a0), (1, .int x1), (3, .int x3), (6, .int x6), (7, .int x7)] → wM D S a0 → sK S a0 = 17 → W p l e r_X12_isClear s m args below meth c H locs 0 0 (MQ below (va_Qi (fun r S9 => wX D S0 S9 ∧ post r S9) (wB D cy X A) A) args s 0 0 A) (F0 m 80 ls []) := by
  obtain ⟨hx, hb, hml, hown, hts⟩ := id F
  have hwg : ∀ w ∈ WG, w.before args s = true := fun w h => hts w (List.mem_cons_of_mem _ h)
  intro n
  induction n with
  | zero =>
    intro S H locs ls a0 x1 x3 x6 x7 hp
    exact hp.elim
  | succ n ih =>
    intro S H locs ls a0 x1 x3 x6 x7 hp hW hE hl hL_a0 hK_a0
    unfold wp_X12_isClear_80 at hp
    refine lv_iload hx hb dX12_isClear_80 (lv_at hl 4 rfl) ?_
    refine lv_iload_n hx hb dX12_isClear_82 rfl (lv_at hl 2 rfl) ?_
    refine lv_icmp_eq (tgt := 108) hx hb dX12_isClear_83 (by decide) (fun c_1 => ?_) (fun c_1 => ?_)
    · replace hp := hp.1 c_1
      refine lv_iconst (v := 1) hx hb dX12_isClear_108 (by decide) ?_
      exact w_zret hx hb hr hlocks hW hp.1 ⟨hE, hp.2⟩ dX12_isClear_109
    · replace hp := hp.2 c_1
      refine lv_aload_n hx hb dX12_isClear_86 rfl (lv_at hl 0 rfl) ?_
      refine lv_iload_n hx hb dX12_isClear_87 rfl (lv_at hl 1 rfl) ?_
      refine lv_iload hx hb dX12_isClear_88 (lv_at hl 4 rfl) ?_
      refine w_callI (va_runV (As := [.int x1, .int x7]) (rest := []) F (c_X12_on l hL_a0 hK_a0 hp H.size) (cwV (C := RX12) 2 hts (wg_V wm_RX12_141 wy_X12_on) rfl rfl rfl (by decide +kernel) ⟨Nat.le_of_ble_eq_true rfl, Nat.le_of_ble_eq_true rfl⟩) (w_preV hK hW hL_a0 hK_a0 (by decide) rfl) rfl rfl hl.1 rfl (lv_room (Nat.le_of_ble_eq_true rfl)) dX12_isClear_90 ⟨Nat.le_of_ble_eq_true rfl, Nat.le_of_ble_eq_true rfl⟩) hW (fun r_2 S_3 H locs hp hW => ?_)
      obtain ⟨hX_S_3, hp⟩ := hp
      refine W.widen (k := 0) (n := 0) (by decide) (by decide) ?_
      have hE := hE.trans hX_S_3
      have hK_a0 : sK S_3 a0 = 17 := (hX_S_3.2 a0 hL_a0).1.trans hK_a0
      have hL_a0 : wM D S_3 a0 := hX_S_3.M hL_a0
      refine lv_if_eq (tgt := 98) hx hb dX12_isClear_93 (by decide) (fun c_4 => ?_) (fun c_4 => ?_)
      · replace hp := hp.1 c_4
        refine lv_iload hx hb dX12_isClear_98 (lv_at hl 4 rfl) ?_
        refine lv_iload hx hb dX12_isClear_100 (lv_at hl 3 rfl) ?_
        refine lv_iadd hx hb dX12_isClear_102 ?_
        refine lv_topi (fun x_5 ex_5 => ?_)
        replace hp := hp x_5 ex_5
        refine lv_istore (lv' := [(7, .int x_5), (0, .ref a0), (1, .int x1), (3, .int x3), (6, .int x6)]) hx hb dX12_isClear_103 hl (by decide) rfl (fun ls hl => ?_)
        refine lv_goto (tgt := 80) hx hb dX12_isClear_105 (by decide) ?_
        exact ih hp hW hE (lv_sub hl [1, 2, 3, 4, 0] rfl) hL_a0 hK_a0
      · replace hp := hp.2 c_4
        refine lv_iconst (v := 0) hx hb dX12_isClear_96 (by decide) ?_
        exact w_zret hx hb hr hlocks hW hp.1 ⟨hE, hp.2⟩ dX12_isClear_97
set_option maxHeartbeats 4000000 in
set_option maxRecDepth 100000 in
theorem t_X12_isClear_71 {p : Program} {l : Launch} {e : Env} {s : State} {m : MethodId} {args : Array Value} {below : List Frame} {meth : Method} {c : Code} {D : wD} {cy : Nat → ClassId} {X : va_W} {A : Nat → Prop} {S0 : wS} {post : Int32 → wS → Prop} (F : CallFix p m c cX12_isClear 8 s args wz_X12_isClear RX12) (hr : meth.sig.returnType = (some .boolean)) (hlocks : meth.locks = false) (hK : wK D cy A s) : ∀ {S : wS} {H : Heap} {locs : List Loc} {ls : Array Slot} {a0 : Nat} {x1 : Int32} {x2 : Int32} {x3 : Int32} {t0 : Int32} {t1 : Int32}, wp_X12_isClear_71 D post S a0 x1 x2 x3 t0 t1 → wO D cy X A s.heap S H locs → wX D S0 S → lv_has ls 8 [(0, .ref a0), (1, .int x1), (2, .int x2), (3, .int x3)] → wM D S a0 → sK S a0 = 17 → W p l e r_X12_isClear s m args below meth c H locs 0 0 (MQ below (va_Qi (fun r S9 => wX D S0 S9 ∧ post r S9) (wB D cy X A) A) args s 0 0 A) (F0 m 71 ls [.int t1, .int t0]) := by
  obtain ⟨hx, hb, hml, hown, hts⟩ := id F
  have hwg : ∀ w ∈ WG, w.before args s = true := fun w h => hts w (List.mem_cons_of_mem _ h)
  intro S H locs ls a0 x1 x2 x3 t0 t1 hp hW hE hl hL_a0 hK_a0
  unfold wp_X12_isClear_71 at hp
  refine lv_iadd hx hb dX12_isClear_71 ?_
  refine lv_topi (fun x_1 ex_1 => ?_)
  replace hp := hp x_1 ex_1
  refine lv_istore (lv' := [(6, .int x_1), (0, .ref a0), (1, .int x1), (2, .int x2), (3, .int x3)]) hx hb dX12_isClear_72 hl (by decide) rfl (fun ls hl => ?_)
  refine lv_iload_n hx hb dX12_isClear_74 rfl (lv_at hl 3 rfl) ?_
  refine lv_iload hx hb dX12_isClear_75 (lv_at hl 0 rfl) ?_
  refine lv_iadd hx hb dX12_isClear_77 ?_
  refine lv_topi (fun x_2 ex_2 => ?_)
  replace hp := hp x_2 ex_2
  refine lv_istore (lv' := [(7, .int x_2), (6, .int x_1), (0, .ref a0), (1, .int x1), (2, .int x2), (3, .int x3)]) hx hb dX12_isClear_78 hl (by decide) rfl (fun ls hl => ?_)
  obtain ⟨n_3, hp⟩ := hp
  exact t_X12_isClear_80 F hr hlocks hK n_3 hp hW hE (lv_sub hl [2, 3, 5, 1, 0] rfl) hL_a0 hK_a0
set_option maxHeartbeats 4000000 in
set_option maxRecDepth 100000 in
theorem t_X12_isClear_52 {p : Program} {l : Launch} {e : Env} {s : State} {m : MethodId} {args : Array Value} {below : List Frame} {meth : Method} {c : Code} {D : wD} {cy : Nat → ClassId} {X : va_W} {A : Nat → Prop} {S0 : wS} {post : Int32 → wS → Prop} (F : CallFix p m c cX12_isClear 8 s args wz_X12_isClear RX12) (hr : meth.sig.returnType = (some .boolean)) (hlocks : meth.locks = false) (hK : wK D cy A s) : ∀ {S : wS} {H : Heap} {locs : List Loc} {ls : Array Slot} {a0 : Nat} {x1 : Int32} {x2 : Int32} {x3 : Int32} {x4 : Int32} {t0 : Int32}, wp_X12_isClear_52 D post S a0 x1 x2 x3 x4 t0 → wO D cy X A s.heap S H locs → wX D S0 S → lv_has ls 8 [(0, .ref a0), (1, .int x1), (2, .int x2), (3, .int x3), (4, .int x4)] → wM D S a0 → sK S a0 = 17 → W p l e r_X12_isClear s m args below meth c H locs 0 0 (MQ below (va_Qi (fun r S9 => wX D S0 S9 ∧ post r S9) (wB D cy X A) A) args s 0 0 A) (F0 m 52 ls [.int t0]) := by
  obtain ⟨hx, hb, hml, hown, hts⟩ := id F
  have hwg : ∀ w ∈ WG, w.before args s = true := fun w h => hts w (List.mem_cons_of_mem _ h)
  intro S H locs ls a0 x1 x2 x3 x4 t0 hp hW hE hl hL_a0 hK_a0
  unfold wp_X12_isClear_52 at hp
  refine lv_iload hx hb dX12_isClear_52 (lv_at hl 4 rfl) ?_
  refine lv_if_le (tgt := 61) hx hb dX12_isClear_54 (by decide) (fun c_1 => ?_) (fun c_1 => ?_)
  · replace hp := hp.1 c_1
    refine lv_iload hx hb dX12_isClear_61 (lv_at hl 4 rfl) ?_
    refine lv_if_ge (tgt := 70) hx hb dX12_isClear_63 (by decide) (fun c_2 => ?_) (fun c_2 => ?_)
    · replace hp := hp.1 c_2
      refine lv_iconst (v := 0) hx hb dX12_isClear_70 (by decide) ?_
      exact t_X12_isClear_71 F hr hlocks hK hp hW hE (lv_sub hl [0, 1, 2, 3] rfl) hL_a0 hK_a0
    · replace hp := hp.2 c_2
      refine lv_iconst (v := (-1)) hx hb dX12_isClear_66 (by decide) ?_
      refine lv_goto (tgt := 71) hx hb dX12_isClear_67 (by decide) ?_
      exact t_X12_isClear_71 F hr hlocks hK hp hW hE (lv_sub hl [0, 1, 2, 3] rfl) hL_a0 hK_a0
  · replace hp := hp.2 c_1
    refine lv_iconst (v := 1) hx hb dX12_isClear_57 (by decide) ?_
    refine lv_goto (tgt := 71) hx hb dX12_isClear_58 (by decide) ?_
    exact t_X12_isClear_71 F hr hlocks hK hp hW hE (lv_sub hl [0, 1, 2, 3] rfl) hL_a0 hK_a0
set_option maxHeartbeats 4000000 in
set_option maxRecDepth 100000 in
theorem t_X12_isClear_0 {p : Program} {l : Launch} {e : Env} {s : State} {m : MethodId} {args : Array Value} {below : List Frame} {meth : Method} {c : Code} {D : wD} {cy : Nat → ClassId} {X : va_W} {A : Nat → Prop} {S0 : wS} {post : Int32 → wS → Prop} (F : CallFix p m c cX12_isClear 8 s args wz_X12_isClear RX12) (hr : meth.sig.returnType = (some .boolean)) (hlocks : meth.locks = false) (hK : wK D cy A s) : ∀ {S : wS} {H : Heap} {locs : List Loc} {ls : Array Slot} {a0 : Nat} {x1 : Int32} {x2 : Int32} {x3 : Int32}, wp_X12_isClear_0 D post S a0 x1 x2 x3 → wO D cy X A s.heap S H locs → wX D S0 S → lv_has ls 8 [(0, .ref a0), (1, .int x1), (2, .int x2), (3, .int x3)] → wM D S a0 → sK S a0 = 17 → W p l e r_X12_isClear s m args below meth c H locs 0 0 (MQ below (va_Qi (fun r S9 => wX D S0 S9 ∧ post r S9) (wB D cy X A) A) args s 0 0 A) (F0 m 0 ls []) := by
  obtain ⟨hx, hb, hml, hown, hts⟩ := id F
  have hwg : ∀ w ∈ WG, w.before args s = true := fun w h => hts w (List.mem_cons_of_mem _ h)
  have i_17 : ∀ w ∈ u_ws RX12 TX12 43, w ∈ wz_X12_isClear := fun w h => List.mem_cons_of_mem _ (wu_17 w h)
  have k_9 := hwg _ wf_RX12_9
  intro S H locs ls a0 x1 x2 x3 hp hW hE hl hL_a0 hK_a0
  unfold wp_X12_isClear_0 at hp
  refine lv_aload_n hx hb dX12_isClear_0 rfl (lv_at hl 0 rfl) ?_
  refine lv_iload_n hx hb dX12_isClear_1 rfl (lv_at hl 3 rfl) ?_
  refine w_callI (va_runV (As := [.int x3]) (rest := []) F (c_X12_fileOf l hL_a0 hK_a0 hp H.size) (cwV (C := RX12) 1 hts (wg_V wm_RX12_134 wy_X12_fileOf) rfl rfl rfl (by decide +kernel) ⟨Nat.le_of_ble_eq_true rfl, Nat.le_of_ble_eq_true rfl⟩) (w_preV hK hW hL_a0 hK_a0 (by decide) rfl) rfl rfl hl.1 rfl (lv_room (Nat.le_of_ble_eq_true rfl)) dX12_isClear_2 ⟨Nat.le_of_ble_eq_true rfl, Nat.le_of_ble_eq_true rfl⟩) hW (fun r_1 S_2 H locs hp hW => ?_)
  obtain ⟨hX_S_2, hp⟩ := hp
  refine W.widen (k := 0) (n := 0) (by decide) (by decide) ?_
  have hE := hE.trans hX_S_2
  have hK_a0 : sK S_2 a0 = 17 := (hX_S_2.2 a0 hL_a0).1.trans hK_a0
  have hL_a0 : wM D S_2 a0 := hX_S_2.M hL_a0
  refine lv_aload_n hx hb dX12_isClear_5 rfl (lv_at hl 0 rfl) ?_
  refine lv_iload_n hx hb dX12_isClear_6 rfl (lv_at hl 2 rfl) ?_
  refine w_callI (va_runV (As := [.int x2]) (rest := [.int r_1]) F (c_X12_fileOf l hL_a0 hK_a0 hp H.size) (cwV (C := RX12) 1 hts (wg_V wm_RX12_134 wy_X12_fileOf) rfl rfl rfl (by decide +kernel) ⟨Nat.le_of_ble_eq_true rfl, Nat.le_of_ble_eq_true rfl⟩) (w_preV hK hW hL_a0 hK_a0 (by decide) rfl) rfl rfl hl.1 rfl (lv_room (Nat.le_of_ble_eq_true rfl)) dX12_isClear_7 ⟨Nat.le_of_ble_eq_true rfl, Nat.le_of_ble_eq_true rfl⟩) hW (fun r_3 S_4 H locs hp hW => ?_)
  obtain ⟨hX_S_4, hp⟩ := hp
  refine W.widen (k := 0) (n := 0) (by decide) (by decide) ?_
  have hE := hE.trans hX_S_4
  have hK_a0 : sK S_4 a0 = 17 := (hX_S_4.2 a0 hL_a0).1.trans hK_a0
  have hL_a0 : wM D S_4 a0 := hX_S_4.M hL_a0
  refine lv_isub hx hb dX12_isClear_10 ?_
  refine lv_topi (fun x_5 ex_5 => ?_)
  replace hp := hp x_5 ex_5
  refine lv_istore (lv' := [(4, .int x_5), (0, .ref a0), (1, .int x1), (2, .int x2), (3, .int x3)]) hx hb dX12_isClear_11 hl (by decide) rfl (fun ls hl => ?_)
  refine lv_aload_n hx hb dX12_isClear_13 rfl (lv_at hl 1 rfl) ?_
  refine lv_iload_n hx hb dX12_isClear_14 rfl (lv_at hl 4 rfl) ?_
  refine w_callI (va_runV (As := [.int x3]) (rest := []) F (c_X12_rankOf l hL_a0 hK_a0 hp H.size) (cwV (C := RX12) 1 hts (wg_V wm_RX12_138 wy_X12_rankOf) rfl rfl rfl (by decide +kernel) ⟨Nat.le_of_ble_eq_true rfl, Nat.le_of_ble_eq_true rfl⟩) (w_preV hK hW hL_a0 hK_a0 (by decide) rfl) rfl rfl hl.1 rfl (lv_room (Nat.le_of_ble_eq_true rfl)) dX12_isClear_15 ⟨Nat.le_of_ble_eq_true rfl, Nat.le_of_ble_eq_true rfl⟩) hW (fun r_6 S_7 H locs hp hW => ?_)
  obtain ⟨hX_S_7, hp⟩ := hp
  refine W.widen (k := 0) (n := 0) (by decide) (by decide) ?_
  have hE := hE.trans hX_S_7
  have hK_a0 : sK S_7 a0 = 17 := (hX_S_7.2 a0 hL_a0).1.trans hK_a0
  have hL_a0 : wM D S_7 a0 := hX_S_7.M hL_a0
  refine lv_aload_n hx hb dX12_isClear_18 rfl (lv_at hl 1 rfl) ?_
  refine lv_iload_n hx hb dX12_isClear_19 rfl (lv_at hl 3 rfl) ?_
  refine w_callI (va_runV (As := [.int x2]) (rest := [.int r_6]) F (c_X12_rankOf l hL_a0 hK_a0 hp H.size) (cwV (C := RX12) 1 hts (wg_V wm_RX12_138 wy_X12_rankOf) rfl rfl rfl (by decide +kernel) ⟨Nat.le_of_ble_eq_true rfl, Nat.le_of_ble_eq_true rfl⟩) (w_preV hK hW hL_a0 hK_a0 (by decide) rfl) rfl rfl hl.1 rfl (lv_room (Nat.le_of_ble_eq_true rfl)) dX12_isClear_20 ⟨Nat.le_of_ble_eq_true rfl, Nat.le_of_ble_eq_true rfl⟩) hW (fun r_8 S_9 H locs hp hW => ?_)
  obtain ⟨hX_S_9, hp⟩ := hp
  refine W.widen (k := 0) (n := 0) (by decide) (by decide) ?_
  have hE := hE.trans hX_S_9
  have hK_a0 : sK S_9 a0 = 17 := (hX_S_9.2 a0 hL_a0).1.trans hK_a0
  have hL_a0 : wM D S_9 a0 := hX_S_9.M hL_a0
  refine lv_isub hx hb dX12_isClear_23 ?_
  refine lv_topi (fun x_10 ex_10 => ?_)
  replace hp := hp x_10 ex_10
  refine lv_istore (lv' := [(5, .int x_10), (4, .int x_5), (0, .ref a0), (1, .int x1), (2, .int x2), (3, .int x3)]) hx hb dX12_isClear_24 hl (by decide) rfl (fun ls hl => ?_)
  refine lv_iload hx hb dX12_isClear_26 (lv_at hl 0 rfl) ?_
  refine lv_if_le (tgt := 38) hx hb dX12_isClear_28 (by decide) (fun c_11 => ?_) (fun c_11 => ?_)
  · replace hp := hp.1 c_11
    refine lv_iload hx hb dX12_isClear_38 (lv_at hl 0 rfl) ?_
    refine lv_if_ge (tgt := 51) hx hb dX12_isClear_40 (by decide) (fun c_12 => ?_) (fun c_12 => ?_)
    · replace hp := hp.1 c_12
      refine lv_iconst (v := 0) hx hb dX12_isClear_51 (by decide) ?_
      exact t_X12_isClear_52 F hr hlocks hK hp hW hE (lv_sub hl [2, 3, 4, 5, 1] rfl) hL_a0 hK_a0
    · replace hp := hp.2 c_12
      refine lv_aload_n hx hb dX12_isClear_43 rfl (lv_at hl 2 rfl) ?_
      refine w_get (k := 17) (f := 1) (T := TX12) (v := .int (sI S_9 a0 1)) F hK hW hL_a0 hK_a0 (by decide) rfl rfl (by decide) i_17 k_9 rfl dX12_isClear_44 ?_
      refine lv_ineg hx hb dX12_isClear_47 ?_
      refine lv_goto (tgt := 52) hx hb dX12_isClear_48 (by decide) ?_
      exact t_X12_isClear_52 F hr hlocks hK hp hW hE (lv_sub hl [2, 3, 4, 5, 1] rfl) hL_a0 hK_a0
  · replace hp := hp.2 c_11
    refine lv_aload_n hx hb dX12_isClear_31 rfl (lv_at hl 2 rfl) ?_
    refine w_get (k := 17) (f := 1) (T := TX12) (v := .int (sI S_9 a0 1)) F hK hW hL_a0 hK_a0 (by decide) rfl rfl (by decide) i_17 k_9 rfl dX12_isClear_32 ?_
    refine lv_goto (tgt := 52) hx hb dX12_isClear_35 (by decide) ?_
    exact t_X12_isClear_52 F hr hlocks hK hp hW hE (lv_sub hl [2, 3, 4, 5, 1] rfl) hL_a0 hK_a0
set_option maxHeartbeats 4000000 in
set_option maxRecDepth 100000 in
theorem c_X12_isClear (l : Launch) {D : wD} {cy : Nat → ClassId} {X : va_W} {S0 : wS} {post : Int32 → wS → Prop} {a0 : Nat} {x1 : Int32} {x2 : Int32} {x3 : Int32} (hL_a0 : wM D S0 a0) (hK_a0 : sK S0 a0 = 17) (hp : wp_X12_isClear D post S0 a0 x1 x2 x3) : mI D cy X l yX12_isClear wz_X12_isClear r_X12_isClear [.ref a0, .int x1, .int x2, .int x3] S0 (fun r S9 => wX D S0 S9 ∧ post r S9) := by
  intro sz
  refine Met.ofW (cc := cX12_isClear) (maxL := 8) (ret := (some .boolean)) (by decide) rfl ?_
  intro p e s m args below meth c s₁ B hml hv
  obtain ⟨rfl, hsz, hP, hK, hD0, hRO⟩ := hv
  have hts := atoms_spec (ws := wz_X12_isClear) B.pre
  have hown : s.vm.findClass RX12 = some m.cls := findClass_of_methodNamed B.named
  subst hsz
  have hD := hD0.self (sz := s.heap.size)
  have F : CallFix p m c cX12_isClear 8 s _ wz_X12_isClear RX12 := ⟨B.exec, B.bytes, hml, hown, hts⟩
  have hr := B.returns
  have hlocks := B.notSynchronized
  generalize hAe : va_A (wL cy X S0) s.heap.size = A at hD hK ⊢
  have hA : ∀ q, s.heap.size ≤ q → A q := fun q h => by rw [← hAe]; exact Or.inr h
  have hW : wO D cy X A s.heap S0 s.heap [] := ⟨hP, hD, va_S.rf, hA, hRO⟩
  have hl := lv_entry ([.ref a0, .int x1, .int x2, .int x3]) (n := 8) (Nat.le_of_ble_eq_true rfl)
  rw [lg_entry_eq]
  generalize (lg_sl ([.ref a0, .int x1, .int x2, .int x3]) ++ List.replicate (8 - (lg_sl ([.ref a0, .int x1, .int x2, .int x3])).length) Slot.unset).toArray = ls at hl ⊢
  have hl : lv_has ls 8 [(0, .ref a0), (1, .int x1), (2, .int x2), (3, .int x3)] := hl
  unfold wp_X12_isClear at hp
  exact t_X12_isClear_0 F hr hlocks hK hp hW wX.rf (lv_sub hl [0, 1, 2, 3] rfl) hL_a0 hK_a0
def wp_X12_kindOf_14 (D : wD) (post : Int32 → wS → Prop)  (S : wS) (t0 : Int32) : Prop :=
post t0 S
def wp_X12_kindOf_0 (D : wD) (post : Int32 → wS → Prop)  (S : wS) (x0 : Int32) : Prop :=
((x0 ≤ (6 : Int32) → wp_X12_kindOf_14 D post S x0) ∧
 (¬ x0 ≤ (6 : Int32) → wp_X12_kindOf_14 D post S (x0 - (6 : Int32))))
abbrev r_X12_kindOf : Room := { frames := 0, cells := 0, slots := 0, locals := 0 }
def wp_X12_kindOf (D : wD) (post : Int32 → wS → Prop) (S : wS) (x0 : Int32) : Prop := wp_X12_kindOf_0 D post S x0
set_option maxHeartbeats 4000000 in
set_option maxRecDepth 100000 in
theorem t_X12_kindOf_14 {p : Program} {l : Launch} {e : Env} {s : State} {m : MethodId} {args : Array Value} {below : List Frame} {meth : Method} {c : Code} {D : wD} {cy : Nat → ClassId} {X : va_W} {A : Nat → Prop} {S0 : wS} {post : Int32 → wS → Prop} (F : CallFix p m c cX12_kindOf 1 s args wz_X12_kindOf RX12) (hr : meth.sig.returnType = (some .int)) (hlocks : meth.locks = false) (hK : wK D cy A s) : ∀ {S : wS} {H : Heap} {locs : List Loc} {ls : Array Slot} {t0 : Int32}, wp_X12_kindOf_14 D post S t0 → wO D cy X A s.heap S H locs → wX D S0 S → lv_has ls 1 [] → W p l e r_X12_kindOf s m args below meth c H locs 0 0 (MQ below (va_Qi (fun r S9 => wX D S0 S9 ∧ post r S9) (wB D cy X A) A) args s 0 0 A) (F0 m 14 ls [.int t0]) := by
  obtain ⟨hx, hb, hml, hown, hts⟩ := id F
  have hwg : ∀ w ∈ WG, w.before args s = true := fun w h => hts w (List.mem_cons_of_mem _ h)
  intro S H locs ls t0 hp hW hE hl
  unfold wp_X12_kindOf_14 at hp
  exact w_iret hx hb hr hlocks hW ⟨hE, hp⟩ dX12_kindOf_14
set_option maxHeartbeats 4000000 in
set_option maxRecDepth 100000 in
theorem t_X12_kindOf_0 {p : Program} {l : Launch} {e : Env} {s : State} {m : MethodId} {args : Array Value} {below : List Frame} {meth : Method} {c : Code} {D : wD} {cy : Nat → ClassId} {X : va_W} {A : Nat → Prop} {S0 : wS} {post : Int32 → wS → Prop} (F : CallFix p m c cX12_kindOf 1 s args wz_X12_kindOf RX12) (hr : meth.sig.returnType = (some .int)) (hlocks : meth.locks = false) (hK : wK D cy A s) : ∀ {S : wS} {H : Heap} {locs : List Loc} {ls : Array Slot} {x0 : Int32}, wp_X12_kindOf_0 D post S x0 → wO D cy X A s.heap S H locs → wX D S0 S → lv_has ls 1 [(0, .int x0)] → W p l e r_X12_kindOf s m args below meth c H locs 0 0 (MQ below (va_Qi (fun r S9 => wX D S0 S9 ∧ post r S9) (wB D cy X A) A) args s 0 0 A) (F0 m 0 ls []) := by
  obtain ⟨hx, hb, hml, hown, hts⟩ := id F
  have hwg : ∀ w ∈ WG, w.before args s = true := fun w h => hts w (List.mem_cons_of_mem _ h)
  intro S H locs ls x0 hp hW hE hl
  unfold wp_X12_kindOf_0 at hp
  refine lv_iload_n hx hb dX12_kindOf_0 rfl (lv_at hl 0 rfl) ?_
  refine lv_bipush (v := 6) hx hb dX12_kindOf_1 (by decide) ?_
  refine lv_icmp_le (tgt := 13) hx hb dX12_kindOf_3 (by decide) (fun c_1 => ?_) (fun c_1 => ?_)
  · replace hp := hp.1 c_1
    refine lv_iload_n hx hb dX12_kindOf_13 rfl (lv_at hl 0 rfl) ?_
    exact t_X12_kindOf_14 F hr hlocks hK hp hW hE (lv_sub hl [] rfl)
  · replace hp := hp.2 c_1
    refine lv_iload_n hx hb dX12_kindOf_6 rfl (lv_at hl 0 rfl) ?_
    refine lv_bipush (v := 6) hx hb dX12_kindOf_7 (by decide) ?_
    refine lv_isub hx hb dX12_kindOf_9 ?_
    refine lv_goto (tgt := 14) hx hb dX12_kindOf_10 (by decide) ?_
    exact t_X12_kindOf_14 F hr hlocks hK hp hW hE (lv_sub hl [] rfl)
set_option maxHeartbeats 4000000 in
set_option maxRecDepth 100000 in
theorem c_X12_kindOf (l : Launch) {D : wD} {cy : Nat → ClassId} {X : va_W} {S0 : wS} {post : Int32 → wS → Prop} {x0 : Int32} (hp : wp_X12_kindOf D post S0 x0) : mI D cy X l yX12_kindOf wz_X12_kindOf r_X12_kindOf [.int x0] S0 (fun r S9 => wX D S0 S9 ∧ post r S9) := by
  intro sz
  refine Met.ofW (cc := cX12_kindOf) (maxL := 1) (ret := (some .int)) (by decide) rfl ?_
  intro p e s m args below meth c s₁ B hml hv
  obtain ⟨rfl, hsz, hP, hK, hD0, hRO⟩ := hv
  have hts := atoms_spec (ws := wz_X12_kindOf) B.pre
  have hown : s.vm.findClass RX12 = some m.cls := findClass_of_methodNamed B.named
  subst hsz
  have hD := hD0.self (sz := s.heap.size)
  have F : CallFix p m c cX12_kindOf 1 s _ wz_X12_kindOf RX12 := ⟨B.exec, B.bytes, hml, hown, hts⟩
  have hr := B.returns
  have hlocks := B.notSynchronized
  generalize hAe : va_A (wL cy X S0) s.heap.size = A at hD hK ⊢
  have hA : ∀ q, s.heap.size ≤ q → A q := fun q h => by rw [← hAe]; exact Or.inr h
  have hW : wO D cy X A s.heap S0 s.heap [] := ⟨hP, hD, va_S.rf, hA, hRO⟩
  have hl := lv_entry ([.int x0]) (n := 1) (Nat.le_of_ble_eq_true rfl)
  rw [lg_entry_eq]
  generalize (lg_sl ([.int x0]) ++ List.replicate (1 - (lg_sl ([.int x0])).length) Slot.unset).toArray = ls at hl ⊢
  have hl : lv_has ls 1 [(0, .int x0)] := hl
  unfold wp_X12_kindOf at hp
  exact t_X12_kindOf_0 F hr hlocks hK hp hW wX.rf (lv_sub hl [0] rfl)
def wp_X12_attacks_257 (D : wD) (post : Int32 → wS → Prop)  (S : wS) (t0 : Int32) : Prop :=
narrow .boolean (.int t0) = .int t0 ∧ post t0 S
def wp_X12_attacks_256 (D : wD) (post : Int32 → wS → Prop)  (S : wS) : Prop :=
wp_X12_attacks_257 D post S (0 : Int32)
def wp_X12_attacks_234 (D : wD) (post : Int32 → wS → Prop)  (S : wS) (a0 : Nat) (x1 : Int32) (x2 : Int32) (x3 : Int32) (x5 : Int32) (x6 : Int32) : Prop :=
(((x5 + x6) ≤ 0 → wp_X12_attacks_256 D post S) ∧
 (¬ (x5 + x6) ≤ 0 → wp_X12_isClear D (fun r_2 S_3 => 
((r_2 = 0 → wp_X12_attacks_256 D post S_3) ∧
 (¬ r_2 = 0 → wp_X12_attacks_257 D post S_3 (1 : Int32)))) S a0 x1 x2 x3))
def wp_X12_attacks_218 (D : wD) (post : Int32 → wS → Prop)  (S : wS) (t0 : Int32) : Prop :=
narrow .boolean (.int t0) = .int t0 ∧ post t0 S
def wp_X12_attacks_217 (D : wD) (post : Int32 → wS → Prop)  (S : wS) : Prop :=
wp_X12_attacks_218 D post S (0 : Int32)
def wp_X12_attacks_190 (D : wD) (post : Int32 → wS → Prop)  (S : wS) (t0 : Int32) : Prop :=
narrow .boolean (.int t0) = .int t0 ∧ post t0 S
def wp_X12_attacks_189 (D : wD) (post : Int32 → wS → Prop)  (S : wS) : Prop :=
wp_X12_attacks_190 D post S (0 : Int32)
def wp_X12_attacks_158 (D : wD) (post : Int32 → wS → Prop)  (S : wS) (t0 : Int32) : Prop :=
narrow .boolean (.int t0) = .int t0 ∧ post t0 S
def wp_X12_attacks_157 (D : wD) (post : Int32 → wS → Prop)  (S : wS) : Prop :=
wp_X12_attacks_158 D post S (0 : Int32)
def wp_X12_attacks_150 (D : wD) (post : Int32 → wS → Prop)  (S : wS) (t0 : Int32) (t1 : Int32) : Prop :=
((¬ t0 = t1 → wp_X12_attacks_157 D post S) ∧
 (t0 = t1 → wp_X12_attacks_158 D post S (1 : Int32)))
def wp_X12_attacks_120 (D : wD) (post : Int32 → wS → Prop)  (S : wS) (t0 : Int32) : Prop :=
narrow .boolean (.int t0) = .int t0 ∧ post t0 S
def wp_X12_attacks_105 (D : wD) (post : Int32 → wS → Prop)  (S : wS) (t0 : Int32) : Prop :=
narrow .boolean (.int t0) = .int t0 ∧ post t0 S
def wp_X12_attacks_104 (D : wD) (post : Int32 → wS → Prop)  (S : wS) : Prop :=
wp_X12_attacks_105 D post S (0 : Int32)
def wp_X12_attacks_0 (D : wD) (post : Int32 → wS → Prop)  (S : wS) (a0 : Nat) (x1 : Int32) (x2 : Int32) (x3 : Int32) : Prop :=
wp_X12_on D (fun r_1 S_2 => 
wp_X12_fileOf D (fun r_3 S_4 => 
wp_X12_fileOf D (fun r_5 S_6 => 
wp_X12_distance D (fun r_7 S_8 => 
wp_X12_rankOf D (fun r_9 S_10 => 
wp_X12_rankOf D (fun r_11 S_12 => 
wp_X12_distance D (fun r_13 S_14 => 
wp_X12_kindOf D (fun r_15 S_16 => 
((r_15 = 1 → (((1 : Int32) < r_7 → wp_X12_attacks_104 D post S_16) ∧
 (¬ (1 : Int32) < r_7 → (((1 : Int32) < r_13 → wp_X12_attacks_104 D post S_16) ∧
 (¬ (1 : Int32) < r_13 → (((r_7 + r_13) ≤ 0 → wp_X12_attacks_104 D post S_16) ∧
 (¬ (r_7 + r_13) ≤ 0 → wp_X12_attacks_105 D post S_16 (1 : Int32)))))))) ∧
 ((r_15 = 2 → (((r_7 * r_13) = 0 → wp_X12_attacks_234 D post S_16 a0 x1 x2 x3 r_7 r_13) ∧
 (¬ (r_7 * r_13) = 0 → ((¬ r_7 = r_13 → wp_X12_attacks_256 D post S_16) ∧
 (r_7 = r_13 → wp_X12_attacks_234 D post S_16 a0 x1 x2 x3 r_7 r_13))))) ∧
 ((r_15 = 3 → ((¬ (r_7 * r_13) = 0 → wp_X12_attacks_189 D post S_16) ∧
 ((r_7 * r_13) = 0 → (((r_7 + r_13) ≤ 0 → wp_X12_attacks_189 D post S_16) ∧
 (¬ (r_7 + r_13) ≤ 0 → wp_X12_isClear D (fun r_27 S_28 => 
((r_27 = 0 → wp_X12_attacks_189 D post S_28) ∧
 (¬ r_27 = 0 → wp_X12_attacks_190 D post S_28 (1 : Int32)))) S_16 a0 x1 x2 x3))))) ∧
 ((r_15 = 4 → ((¬ r_7 = r_13 → wp_X12_attacks_217 D post S_16) ∧
 (r_7 = r_13 → ((r_7 ≤ 0 → wp_X12_attacks_217 D post S_16) ∧
 (¬ r_7 ≤ 0 → wp_X12_isClear D (fun r_33 S_34 => 
((r_33 = 0 → wp_X12_attacks_217 D post S_34) ∧
 (¬ r_33 = 0 → wp_X12_attacks_218 D post S_34 (1 : Int32)))) S_16 a0 x1 x2 x3))))) ∧
 ((r_15 = 5 → ((¬ (r_7 * r_13) = (2 : Int32) → wp_X12_attacks_120 D post S_16 (0 : Int32)) ∧
 ((r_7 * r_13) = (2 : Int32) → wp_X12_attacks_120 D post S_16 (1 : Int32)))) ∧
 ((r_15 = 6 → ((¬ r_7 = (1 : Int32) → wp_X12_attacks_157 D post S_16) ∧
 (r_7 = (1 : Int32) → wp_X12_rankOf D (fun r_40 S_41 => 
wp_X12_rankOf D (fun r_42 S_43 => 
((¬ r_1 = (6 : Int32) → wp_X12_attacks_150 D post S_43 (r_40 - r_42) (-1 : Int32)) ∧
 (r_1 = (6 : Int32) → wp_X12_attacks_150 D post S_43 (r_40 - r_42) (1 : Int32)))) S_41 a0 x2) S_16 a0 x3))) ∧
 (¬ r_15 = 1 → ¬ r_15 = 2 → ¬ r_15 = 3 → ¬ r_15 = 4 → ¬ r_15 = 5 → ¬ r_15 = 6 → narrow .boolean (.int (0 : Int32)) = .int (0 : Int32) ∧ post (0 : Int32) S_16)))))))) S_14 r_1) S_12 r_9 r_11) S_10 a0 x3) S_8 a0 x2) S_6 r_3 r_5) S_4 a0 x3) S_2 a0 x2) S a0 x1 x2
abbrev r_X12_attacks : Room := { frames := 2, cells := 0, slots := 0, locals := 49 }
def wp_X12_attacks (D : wD) (post : Int32 → wS → Prop) (S : wS) (a0 : Nat) (x1 : Int32) (x2 : Int32) (x3 : Int32) : Prop := wp_X12_attacks_0 D post S a0 x1 x2 x3
set_option maxHeartbeats 4000000 in
set_option maxRecDepth 100000 in
theorem t_X12_attacks_257 {p : Program} {l : Launch} {e : Env} {s : State} {m : MethodId} {args : Array Value} {below : List Frame} {meth : Method} {c : Code} {D : wD} {cy : Nat → ClassId} {X : va_W} {A : Nat → Prop} {S0 : wS} {post : Int32 → wS → Prop} (F : CallFix p m c cX12_attacks 7 s args wz_X12_attacks RX12) (hr : meth.sig.returnType = (some .boolean)) (hlocks : meth.locks = false) (hK : wK D cy A s) : ∀ {S : wS} {H : Heap} {locs : List Loc} {ls : Array Slot} {t0 : Int32}, wp_X12_attacks_257 D post S t0 → wO D cy X A s.heap S H locs → wX D S0 S → lv_has ls 7 [] → W p l e r_X12_attacks s m args below meth c H locs 0 0 (MQ below (va_Qi (fun r S9 => wX D S0 S9 ∧ post r S9) (wB D cy X A) A) args s 0 0 A) (F0 m 257 ls [.int t0]) := by
  obtain ⟨hx, hb, hml, hown, hts⟩ := id F
  have hwg : ∀ w ∈ WG, w.before args s = true := fun w h => hts w (List.mem_cons_of_mem _ h)
  intro S H locs ls t0 hp hW hE hl
  unfold wp_X12_attacks_257 at hp
  exact w_zret hx hb hr hlocks hW hp.1 ⟨hE, hp.2⟩ dX12_attacks_257
set_option maxHeartbeats 4000000 in
set_option maxRecDepth 100000 in
theorem t_X12_attacks_256 {p : Program} {l : Launch} {e : Env} {s : State} {m : MethodId} {args : Array Value} {below : List Frame} {meth : Method} {c : Code} {D : wD} {cy : Nat → ClassId} {X : va_W} {A : Nat → Prop} {S0 : wS} {post : Int32 → wS → Prop} (F : CallFix p m c cX12_attacks 7 s args wz_X12_attacks RX12) (hr : meth.sig.returnType = (some .boolean)) (hlocks : meth.locks = false) (hK : wK D cy A s) : ∀ {S : wS} {H : Heap} {locs : List Loc} {ls : Array Slot}, wp_X12_attacks_256 D post S → wO D cy X A s.heap S H locs → wX D S0 S → lv_has ls 7 [] → W p l e r_X12_attacks s m args below meth c H locs 0 0 (MQ below (va_Qi (fun r S9 => wX D S0 S9 ∧ post r S9) (wB D cy X A) A) args s 0 0 A) (F0 m 256 ls []) := by
  obtain ⟨hx, hb, hml, hown, hts⟩ := id F
  have hwg : ∀ w ∈ WG, w.before args s = true := fun w h => hts w (List.mem_cons_of_mem _ h)
  intro S H locs ls hp hW hE hl
  unfold wp_X12_attacks_256 at hp
  refine lv_iconst (v := 0) hx hb dX12_attacks_256 (by decide) ?_
  exact t_X12_attacks_257 F hr hlocks hK hp hW hE (lv_sub hl [] rfl)
set_option maxHeartbeats 4000000 in
set_option maxRecDepth 100000 in
theorem t_X12_attacks_234 {p : Program} {l : Launch} {e : Env} {s : State} {m : MethodId} {args : Array Value} {below : List Frame} {meth : Method} {c : Code} {D : wD} {cy : Nat → ClassId} {X : va_W} {A : Nat → Prop} {S0 : wS} {post : Int32 → wS → Prop} (F : CallFix p m c cX12_attacks 7 s args wz_X12_attacks RX12) (hr : meth.sig.returnType = (some .boolean)) (hlocks : meth.locks = false) (hK : wK D cy A s) : ∀ {S : wS} {H : Heap} {locs : List Loc} {ls : Array Slot} {a0 : Nat} {x1 : Int32} {x2 : Int32} {x3 : Int32} {x5 : Int32} {x6 : Int32}, wp_X12_attacks_234 D post S a0 x1 x2 x3 x5 x6 → wO D cy X A s.heap S H locs → wX D S0 S → lv_has ls 7 [(0, .ref a0), (1, .int x1), (2, .int x2), (3, .int x3), (5, .int x5), (6, .int x6)] → wM D S a0 → sK S a0 = 17 → W p l e r_X12_attacks s m args below meth c H locs 0 0 (MQ below (va_Qi (fun r S9 => wX D S0 S9 ∧ post r S9) (wB D cy X A) A) args s 0 0 A) (F0 m 234 ls []) := by
  obtain ⟨hx, hb, hml, hown, hts⟩ := id F
  have hwg : ∀ w ∈ WG, w.before args s = true := fun w h => hts w (List.mem_cons_of_mem _ h)
  intro S H locs ls a0 x1 x2 x3 x5 x6 hp hW hE hl hL_a0 hK_a0
  unfold wp_X12_attacks_234 at hp
  refine lv_iload hx hb dX12_attacks_234 (lv_at hl 4 rfl) ?_
  refine lv_iload hx hb dX12_attacks_236 (lv_at hl 5 rfl) ?_
  refine lv_iadd hx hb dX12_attacks_238 ?_
  refine lv_if_le (tgt := 256) hx hb dX12_attacks_239 (by decide) (fun c_1 => ?_) (fun c_1 => ?_)
  · replace hp := hp.1 c_1
    exact t_X12_attacks_256 F hr hlocks hK hp hW hE (lv_sub hl [] rfl)
  · replace hp := hp.2 c_1
    refine lv_aload_n hx hb dX12_attacks_242 rfl (lv_at hl 0 rfl) ?_
    refine lv_iload_n hx hb dX12_attacks_243 rfl (lv_at hl 1 rfl) ?_
    refine lv_iload_n hx hb dX12_attacks_244 rfl (lv_at hl 2 rfl) ?_
    refine lv_iload_n hx hb dX12_attacks_245 rfl (lv_at hl 3 rfl) ?_
    refine w_callI (va_runV (As := [.int x1, .int x2, .int x3]) (rest := []) F (c_X12_isClear l hL_a0 hK_a0 hp H.size) (cwV (C := RX12) 3 hts (wg_V wm_RX12_151 wy_X12_isClear) rfl rfl rfl (by decide +kernel) ⟨Nat.le_of_ble_eq_true rfl, Nat.le_of_ble_eq_true rfl⟩) (w_preV hK hW hL_a0 hK_a0 (by decide) rfl) rfl rfl hl.1 rfl (lv_room (Nat.le_of_ble_eq_true rfl)) dX12_attacks_246 ⟨Nat.le_of_ble_eq_true rfl, Nat.le_of_ble_eq_true rfl⟩) hW (fun r_2 S_3 H locs hp hW => ?_)
    obtain ⟨hX_S_3, hp⟩ := hp
    refine W.widen (k := 0) (n := 0) (by decide) (by decide) ?_
    have hE := hE.trans hX_S_3
    have hK_a0 : sK S_3 a0 = 17 := (hX_S_3.2 a0 hL_a0).1.trans hK_a0
    have hL_a0 : wM D S_3 a0 := hX_S_3.M hL_a0
    refine lv_if_eq (tgt := 256) hx hb dX12_attacks_249 (by decide) (fun c_4 => ?_) (fun c_4 => ?_)
    · replace hp := hp.1 c_4
      exact t_X12_attacks_256 F hr hlocks hK hp hW hE (lv_sub hl [] rfl)
    · replace hp := hp.2 c_4
      refine lv_iconst (v := 1) hx hb dX12_attacks_252 (by decide) ?_
      refine lv_goto (tgt := 257) hx hb dX12_attacks_253 (by decide) ?_
      exact t_X12_attacks_257 F hr hlocks hK hp hW hE (lv_sub hl [] rfl)
set_option maxHeartbeats 4000000 in
set_option maxRecDepth 100000 in
theorem t_X12_attacks_218 {p : Program} {l : Launch} {e : Env} {s : State} {m : MethodId} {args : Array Value} {below : List Frame} {meth : Method} {c : Code} {D : wD} {cy : Nat → ClassId} {X : va_W} {A : Nat → Prop} {S0 : wS} {post : Int32 → wS → Prop} (F : CallFix p m c cX12_attacks 7 s args wz_X12_attacks RX12) (hr : meth.sig.returnType = (some .boolean)) (hlocks : meth.locks = false) (hK : wK D cy A s) : ∀ {S : wS} {H : Heap} {locs : List Loc} {ls : Array Slot} {t0 : Int32}, wp_X12_attacks_218 D post S t0 → wO D cy X A s.heap S H locs → wX D S0 S → lv_has ls 7 [] → W p l e r_X12_attacks s m args below meth c H locs 0 0 (MQ below (va_Qi (fun r S9 => wX D S0 S9 ∧ post r S9) (wB D cy X A) A) args s 0 0 A) (F0 m 218 ls [.int t0]) := by
  obtain ⟨hx, hb, hml, hown, hts⟩ := id F
  have hwg : ∀ w ∈ WG, w.before args s = true := fun w h => hts w (List.mem_cons_of_mem _ h)
  intro S H locs ls t0 hp hW hE hl
  unfold wp_X12_attacks_218 at hp
  exact w_zret hx hb hr hlocks hW hp.1 ⟨hE, hp.2⟩ dX12_attacks_218
set_option maxHeartbeats 4000000 in
set_option maxRecDepth 100000 in
theorem t_X12_attacks_217 {p : Program} {l : Launch} {e : Env} {s : State} {m : MethodId} {args : Array Value} {below : List Frame} {meth : Method} {c : Code} {D : wD} {cy : Nat → ClassId} {X : va_W} {A : Nat → Prop} {S0 : wS} {post : Int32 → wS → Prop} (F : CallFix p m c cX12_attacks 7 s args wz_X12_attacks RX12) (hr : meth.sig.returnType = (some .boolean)) (hlocks : meth.locks = false) (hK : wK D cy A s) : ∀ {S : wS} {H : Heap} {locs : List Loc} {ls : Array Slot}, wp_X12_attacks_217 D post S → wO D cy X A s.heap S H locs → wX D S0 S → lv_has ls 7 [] → W p l e r_X12_attacks s m args below meth c H locs 0 0 (MQ below (va_Qi (fun r S9 => wX D S0 S9 ∧ post r S9) (wB D cy X A) A) args s 0 0 A) (F0 m 217 ls []) := by
  obtain ⟨hx, hb, hml, hown, hts⟩ := id F
  have hwg : ∀ w ∈ WG, w.before args s = true := fun w h => hts w (List.mem_cons_of_mem _ h)
  intro S H locs ls hp hW hE hl
  unfold wp_X12_attacks_217 at hp
  refine lv_iconst (v := 0) hx hb dX12_attacks_217 (by decide) ?_
  exact t_X12_attacks_218 F hr hlocks hK hp hW hE (lv_sub hl [] rfl)
set_option maxHeartbeats 4000000 in
set_option maxRecDepth 100000 in
theorem t_X12_attacks_190 {p : Program} {l : Launch} {e : Env} {s : State} {m : MethodId} {args : Array Value} {below : List Frame} {meth : Method} {c : Code} {D : wD} {cy : Nat → ClassId} {X : va_W} {A : Nat → Prop} {S0 : wS} {post : Int32 → wS → Prop} (F : CallFix p m c cX12_attacks 7 s args wz_X12_attacks RX12) (hr : meth.sig.returnType = (some .boolean)) (hlocks : meth.locks = false) (hK : wK D cy A s) : ∀ {S : wS} {H : Heap} {locs : List Loc} {ls : Array Slot} {t0 : Int32}, wp_X12_attacks_190 D post S t0 → wO D cy X A s.heap S H locs → wX D S0 S → lv_has ls 7 [] → W p l e r_X12_attacks s m args below meth c H locs 0 0 (MQ below (va_Qi (fun r S9 => wX D S0 S9 ∧ post r S9) (wB D cy X A) A) args s 0 0 A) (F0 m 190 ls [.int t0]) := by
  obtain ⟨hx, hb, hml, hown, hts⟩ := id F
  have hwg : ∀ w ∈ WG, w.before args s = true := fun w h => hts w (List.mem_cons_of_mem _ h)
  intro S H locs ls t0 hp hW hE hl
  unfold wp_X12_attacks_190 at hp
  exact w_zret hx hb hr hlocks hW hp.1 ⟨hE, hp.2⟩ dX12_attacks_190
set_option maxHeartbeats 4000000 in
set_option maxRecDepth 100000 in
theorem t_X12_attacks_189 {p : Program} {l : Launch} {e : Env} {s : State} {m : MethodId} {args : Array Value} {below : List Frame} {meth : Method} {c : Code} {D : wD} {cy : Nat → ClassId} {X : va_W} {A : Nat → Prop} {S0 : wS} {post : Int32 → wS → Prop} (F : CallFix p m c cX12_attacks 7 s args wz_X12_attacks RX12) (hr : meth.sig.returnType = (some .boolean)) (hlocks : meth.locks = false) (hK : wK D cy A s) : ∀ {S : wS} {H : Heap} {locs : List Loc} {ls : Array Slot}, wp_X12_attacks_189 D post S → wO D cy X A s.heap S H locs → wX D S0 S → lv_has ls 7 [] → W p l e r_X12_attacks s m args below meth c H locs 0 0 (MQ below (va_Qi (fun r S9 => wX D S0 S9 ∧ post r S9) (wB D cy X A) A) args s 0 0 A) (F0 m 189 ls []) := by
  obtain ⟨hx, hb, hml, hown, hts⟩ := id F
  have hwg : ∀ w ∈ WG, w.before args s = true := fun w h => hts w (List.mem_cons_of_mem _ h)
  intro S H locs ls hp hW hE hl
  unfold wp_X12_attacks_189 at hp
  refine lv_iconst (v := 0) hx hb dX12_attacks_189 (by decide) ?_
  exact t_X12_attacks_190 F hr hlocks hK hp hW hE (lv_sub hl [] rfl)
set_option maxHeartbeats 4000000 in
set_option maxRecDepth 100000 in
theorem t_X12_attacks_158 {p : Program} {l : Launch} {e : Env} {s : State} {m : MethodId} {args : Array Value} {below : List Frame} {meth : Method} {c : Code} {D : wD} {cy : Nat → ClassId} {X : va_W} {A : Nat → Prop} {S0 : wS} {post : Int32 → wS → Prop} (F : CallFix p m c cX12_attacks 7 s args wz_X12_attacks RX12) (hr : meth.sig.returnType = (some .boolean)) (hlocks : meth.locks = false) (hK : wK D cy A s) : ∀ {S : wS} {H : Heap} {locs : List Loc} {ls : Array Slot} {t0 : Int32}, wp_X12_attacks_158 D post S t0 → wO D cy X A s.heap S H locs → wX D S0 S → lv_has ls 7 [] → W p l e r_X12_attacks s m args below meth c H locs 0 0 (MQ below (va_Qi (fun r S9 => wX D S0 S9 ∧ post r S9) (wB D cy X A) A) args s 0 0 A) (F0 m 158 ls [.int t0]) := by
  obtain ⟨hx, hb, hml, hown, hts⟩ := id F
  have hwg : ∀ w ∈ WG, w.before args s = true := fun w h => hts w (List.mem_cons_of_mem _ h)
  intro S H locs ls t0 hp hW hE hl
  unfold wp_X12_attacks_158 at hp
  exact w_zret hx hb hr hlocks hW hp.1 ⟨hE, hp.2⟩ dX12_attacks_158
set_option maxHeartbeats 4000000 in
set_option maxRecDepth 100000 in
theorem t_X12_attacks_157 {p : Program} {l : Launch} {e : Env} {s : State} {m : MethodId} {args : Array Value} {below : List Frame} {meth : Method} {c : Code} {D : wD} {cy : Nat → ClassId} {X : va_W} {A : Nat → Prop} {S0 : wS} {post : Int32 → wS → Prop} (F : CallFix p m c cX12_attacks 7 s args wz_X12_attacks RX12) (hr : meth.sig.returnType = (some .boolean)) (hlocks : meth.locks = false) (hK : wK D cy A s) : ∀ {S : wS} {H : Heap} {locs : List Loc} {ls : Array Slot}, wp_X12_attacks_157 D post S → wO D cy X A s.heap S H locs → wX D S0 S → lv_has ls 7 [] → W p l e r_X12_attacks s m args below meth c H locs 0 0 (MQ below (va_Qi (fun r S9 => wX D S0 S9 ∧ post r S9) (wB D cy X A) A) args s 0 0 A) (F0 m 157 ls []) := by
  obtain ⟨hx, hb, hml, hown, hts⟩ := id F
  have hwg : ∀ w ∈ WG, w.before args s = true := fun w h => hts w (List.mem_cons_of_mem _ h)
  intro S H locs ls hp hW hE hl
  unfold wp_X12_attacks_157 at hp
  refine lv_iconst (v := 0) hx hb dX12_attacks_157 (by decide) ?_
  exact t_X12_attacks_158 F hr hlocks hK hp hW hE (lv_sub hl [] rfl)
set_option maxHeartbeats 4000000 in
set_option maxRecDepth 100000 in
theorem t_X12_attacks_150 {p : Program} {l : Launch} {e : Env} {s : State} {m : MethodId} {args : Array Value} {below : List Frame} {meth : Method} {c : Code} {D : wD} {cy : Nat → ClassId} {X : va_W} {A : Nat → Prop} {S0 : wS} {post : Int32 → wS → Prop} (F : CallFix p m c cX12_attacks 7 s args wz_X12_attacks RX12) (hr : meth.sig.returnType = (some .boolean)) (hlocks : meth.locks = false) (hK : wK D cy A s) : ∀ {S : wS} {H : Heap} {locs : List Loc} {ls : Array Slot} {t0 : Int32} {t1 : Int32}, wp_X12_attacks_150 D post S t0 t1 → wO D cy X A s.heap S H locs → wX D S0 S → lv_has ls 7 [] → W p l e r_X12_attacks s m args below meth c H locs 0 0 (MQ below (va_Qi (fun r S9 => wX D S0 S9 ∧ post r S9) (wB D cy X A) A) args s 0 0 A) (F0 m 150 ls [.int t1, .int t0]) := by
  obtain ⟨hx, hb, hml, hown, hts⟩ := id F
  have hwg : ∀ w ∈ WG, w.before args s = true := fun w h => hts w (List.mem_cons_of_mem _ h)
  intro S H locs ls t0 t1 hp hW hE hl
  unfold wp_X12_attacks_150 at hp
  refine lv_icmp_ne (tgt := 157) hx hb dX12_attacks_150 (by decide) (fun c_1 => ?_) (fun c_1 => ?_)
  · replace hp := hp.1 c_1
    exact t_X12_attacks_157 F hr hlocks hK hp hW hE (lv_sub hl [] rfl)
  · replace hp := hp.2 c_1
    refine lv_iconst (v := 1) hx hb dX12_attacks_153 (by decide) ?_
    refine lv_goto (tgt := 158) hx hb dX12_attacks_154 (by decide) ?_
    exact t_X12_attacks_158 F hr hlocks hK hp hW hE (lv_sub hl [] rfl)
set_option maxHeartbeats 4000000 in
set_option maxRecDepth 100000 in
theorem t_X12_attacks_120 {p : Program} {l : Launch} {e : Env} {s : State} {m : MethodId} {args : Array Value} {below : List Frame} {meth : Method} {c : Code} {D : wD} {cy : Nat → ClassId} {X : va_W} {A : Nat → Prop} {S0 : wS} {post : Int32 → wS → Prop} (F : CallFix p m c cX12_attacks 7 s args wz_X12_attacks RX12) (hr : meth.sig.returnType = (some .boolean)) (hlocks : meth.locks = false) (hK : wK D cy A s) : ∀ {S : wS} {H : Heap} {locs : List Loc} {ls : Array Slot} {t0 : Int32}, wp_X12_attacks_120 D post S t0 → wO D cy X A s.heap S H locs → wX D S0 S → lv_has ls 7 [] → W p l e r_X12_attacks s m args below meth c H locs 0 0 (MQ below (va_Qi (fun r S9 => wX D S0 S9 ∧ post r S9) (wB D cy X A) A) args s 0 0 A) (F0 m 120 ls [.int t0]) := by
  obtain ⟨hx, hb, hml, hown, hts⟩ := id F
  have hwg : ∀ w ∈ WG, w.before args s = true := fun w h => hts w (List.mem_cons_of_mem _ h)
  intro S H locs ls t0 hp hW hE hl
  unfold wp_X12_attacks_120 at hp
  exact w_zret hx hb hr hlocks hW hp.1 ⟨hE, hp.2⟩ dX12_attacks_120
set_option maxHeartbeats 4000000 in
set_option maxRecDepth 100000 in
theorem t_X12_attacks_105 {p : Program} {l : Launch} {e : Env} {s : State} {m : MethodId} {args : Array Value} {below : List Frame} {meth : Method} {c : Code} {D : wD} {cy : Nat → ClassId} {X : va_W} {A : Nat → Prop} {S0 : wS} {post : Int32 → wS → Prop} (F : CallFix p m c cX12_attacks 7 s args wz_X12_attacks RX12) (hr : meth.sig.returnType = (some .boolean)) (hlocks : meth.locks = false) (hK : wK D cy A s) : ∀ {S : wS} {H : Heap} {locs : List Loc} {ls : Array Slot} {t0 : Int32}, wp_X12_attacks_105 D post S t0 → wO D cy X A s.heap S H locs → wX D S0 S → lv_has ls 7 [] → W p l e r_X12_attacks s m args below meth c H locs 0 0 (MQ below (va_Qi (fun r S9 => wX D S0 S9 ∧ post r S9) (wB D cy X A) A) args s 0 0 A) (F0 m 105 ls [.int t0]) := by
  obtain ⟨hx, hb, hml, hown, hts⟩ := id F
  have hwg : ∀ w ∈ WG, w.before args s = true := fun w h => hts w (List.mem_cons_of_mem _ h)
  intro S H locs ls t0 hp hW hE hl
  unfold wp_X12_attacks_105 at hp
  exact w_zret hx hb hr hlocks hW hp.1 ⟨hE, hp.2⟩ dX12_attacks_105
set_option maxHeartbeats 4000000 in
set_option maxRecDepth 100000 in
theorem t_X12_attacks_104 {p : Program} {l : Launch} {e : Env} {s : State} {m : MethodId} {args : Array Value} {below : List Frame} {meth : Method} {c : Code} {D : wD} {cy : Nat → ClassId} {X : va_W} {A : Nat → Prop} {S0 : wS} {post : Int32 → wS → Prop} (F : CallFix p m c cX12_attacks 7 s args wz_X12_attacks RX12) (hr : meth.sig.returnType = (some .boolean)) (hlocks : meth.locks = false) (hK : wK D cy A s) : ∀ {S : wS} {H : Heap} {locs : List Loc} {ls : Array Slot}, wp_X12_attacks_104 D post S → wO D cy X A s.heap S H locs → wX D S0 S → lv_has ls 7 [] → W p l e r_X12_attacks s m args below meth c H locs 0 0 (MQ below (va_Qi (fun r S9 => wX D S0 S9 ∧ post r S9) (wB D cy X A) A) args s 0 0 A) (F0 m 104 ls []) := by
  obtain ⟨hx, hb, hml, hown, hts⟩ := id F
  have hwg : ∀ w ∈ WG, w.before args s = true := fun w h => hts w (List.mem_cons_of_mem _ h)
  intro S H locs ls hp hW hE hl
  unfold wp_X12_attacks_104 at hp
  refine lv_iconst (v := 0) hx hb dX12_attacks_104 (by decide) ?_
  exact t_X12_attacks_105 F hr hlocks hK hp hW hE (lv_sub hl [] rfl)
set_option maxHeartbeats 4000000 in
set_option maxRecDepth 100000 in
theorem t_X12_attacks_0 {p : Program} {l : Launch} {e : Env} {s : State} {m : MethodId} {args : Array Value} {below : List Frame} {meth : Method} {c : Code} {D : wD} {cy : Nat → ClassId} {X : va_W} {A : Nat → Prop} {S0 : wS} {post : Int32 → wS → Prop} (F : CallFix p m c cX12_attacks 7 s args wz_X12_attacks RX12) (hr : meth.sig.returnType = (some .boolean)) (hlocks : meth.locks = false) (hK : wK D cy A s) : ∀ {S : wS} {H : Heap} {locs : List Loc} {ls : Array Slot} {a0 : Nat} {x1 : Int32} {x2 : Int32} {x3 : Int32}, wp_X12_attacks_0 D post S a0 x1 x2 x3 → wO D cy X A s.heap S H locs → wX D S0 S → lv_has ls 7 [(0, .ref a0), (1, .int x1), (2, .int x2), (3, .int x3)] → wM D S a0 → sK S a0 = 17 → W p l e r_X12_attacks s m args below meth c H locs 0 0 (MQ below (va_Qi (fun r S9 => wX D S0 S9 ∧ post r S9) (wB D cy X A) A) args s 0 0 A) (F0 m 0 ls []) := by
  obtain ⟨hx, hb, hml, hown, hts⟩ := id F
  have hwg : ∀ w ∈ WG, w.before args s = true := fun w h => hts w (List.mem_cons_of_mem _ h)
  intro S H locs ls a0 x1 x2 x3 hp hW hE hl hL_a0 hK_a0
  unfold wp_X12_attacks_0 at hp
  refine lv_aload_n hx hb dX12_attacks_0 rfl (lv_at hl 0 rfl) ?_
  refine lv_iload_n hx hb dX12_attacks_1 rfl (lv_at hl 1 rfl) ?_
  refine lv_iload_n hx hb dX12_attacks_2 rfl (lv_at hl 2 rfl) ?_
  refine w_callI (va_runV (As := [.int x1, .int x2]) (rest := []) F (c_X12_on l hL_a0 hK_a0 hp H.size) (cwV (C := RX12) 2 hts (wg_V wm_RX12_141 wy_X12_on) rfl rfl rfl (by decide +kernel) ⟨Nat.le_of_ble_eq_true rfl, Nat.le_of_ble_eq_true rfl⟩) (w_preV hK hW hL_a0 hK_a0 (by decide) rfl) rfl rfl hl.1 rfl (lv_room (Nat.le_of_ble_eq_true rfl)) dX12_attacks_3 ⟨Nat.le_of_ble_eq_true rfl, Nat.le_of_ble_eq_true rfl⟩) hW (fun r_1 S_2 H locs hp hW => ?_)
  obtain ⟨hX_S_2, hp⟩ := hp
  refine W.widen (k := 0) (n := 0) (by decide) (by decide) ?_
  have hE := hE.trans hX_S_2
  have hK_a0 : sK S_2 a0 = 17 := (hX_S_2.2 a0 hL_a0).1.trans hK_a0
  have hL_a0 : wM D S_2 a0 := hX_S_2.M hL_a0
  refine lv_istore (lv' := [(4, .int r_1), (0, .ref a0), (1, .int x1), (2, .int x2), (3, .int x3)]) hx hb dX12_attacks_6 hl (by decide) rfl (fun ls hl => ?_)
  refine lv_aload_n hx hb dX12_attacks_8 rfl (lv_at hl 1 rfl) ?_
  refine lv_iload_n hx hb dX12_attacks_9 rfl (lv_at hl 3 rfl) ?_
  refine w_callI (va_runV (As := [.int x2]) (rest := []) F (c_X12_fileOf l hL_a0 hK_a0 hp H.size) (cwV (C := RX12) 1 hts (wg_V wm_RX12_134 wy_X12_fileOf) rfl rfl rfl (by decide +kernel) ⟨Nat.le_of_ble_eq_true rfl, Nat.le_of_ble_eq_true rfl⟩) (w_preV hK hW hL_a0 hK_a0 (by decide) rfl) rfl rfl hl.1 rfl (lv_room (Nat.le_of_ble_eq_true rfl)) dX12_attacks_10 ⟨Nat.le_of_ble_eq_true rfl, Nat.le_of_ble_eq_true rfl⟩) hW (fun r_3 S_4 H locs hp hW => ?_)
  obtain ⟨hX_S_4, hp⟩ := hp
  refine W.widen (k := 0) (n := 0) (by decide) (by decide) ?_
  have hE := hE.trans hX_S_4
  have hK_a0 : sK S_4 a0 = 17 := (hX_S_4.2 a0 hL_a0).1.trans hK_a0
  have hL_a0 : wM D S_4 a0 := hX_S_4.M hL_a0
  refine lv_aload_n hx hb dX12_attacks_13 rfl (lv_at hl 1 rfl) ?_
  refine lv_iload_n hx hb dX12_attacks_14 rfl (lv_at hl 4 rfl) ?_
  refine w_callI (va_runV (As := [.int x3]) (rest := [.int r_3]) F (c_X12_fileOf l hL_a0 hK_a0 hp H.size) (cwV (C := RX12) 1 hts (wg_V wm_RX12_134 wy_X12_fileOf) rfl rfl rfl (by decide +kernel) ⟨Nat.le_of_ble_eq_true rfl, Nat.le_of_ble_eq_true rfl⟩) (w_preV hK hW hL_a0 hK_a0 (by decide) rfl) rfl rfl hl.1 rfl (lv_room (Nat.le_of_ble_eq_true rfl)) dX12_attacks_15 ⟨Nat.le_of_ble_eq_true rfl, Nat.le_of_ble_eq_true rfl⟩) hW (fun r_5 S_6 H locs hp hW => ?_)
  obtain ⟨hX_S_6, hp⟩ := hp
  refine W.widen (k := 0) (n := 0) (by decide) (by decide) ?_
  have hE := hE.trans hX_S_6
  have hK_a0 : sK S_6 a0 = 17 := (hX_S_6.2 a0 hL_a0).1.trans hK_a0
  have hL_a0 : wM D S_6 a0 := hX_S_6.M hL_a0
  refine w_callI (va_runS (As := [.int r_3, .int r_5]) (rest := []) F (c_X12_distance l hp H.size) (va_cwS 2 hts (wg_S wm_RX12_145 wy_X12_distance) rfl rfl rfl (by decide +kernel) ⟨Nat.le_of_ble_eq_true rfl, Nat.le_of_ble_eq_true rfl⟩) (w_preS hK hW) rfl rfl hl.1 rfl (lv_room (Nat.le_of_ble_eq_true rfl)) dX12_attacks_18 ⟨Nat.le_of_ble_eq_true rfl, Nat.le_of_ble_eq_true rfl⟩) hW (fun r_7 S_8 H locs hp hW => ?_)
  obtain ⟨hX_S_8, hp⟩ := hp
  refine W.widen (k := 0) (n := 0) (by decide) (by decide) ?_
  have hE := hE.trans hX_S_8
  have hK_a0 : sK S_8 a0 = 17 := (hX_S_8.2 a0 hL_a0).1.trans hK_a0
  have hL_a0 : wM D S_8 a0 := hX_S_8.M hL_a0
  refine lv_istore (lv' := [(5, .int r_7), (4, .int r_1), (0, .ref a0), (1, .int x1), (2, .int x2), (3, .int x3)]) hx hb dX12_attacks_21 hl (by decide) rfl (fun ls hl => ?_)
  refine lv_aload_n hx hb dX12_attacks_23 rfl (lv_at hl 2 rfl) ?_
  refine lv_iload_n hx hb dX12_attacks_24 rfl (lv_at hl 4 rfl) ?_
  refine w_callI (va_runV (As := [.int x2]) (rest := []) F (c_X12_rankOf l hL_a0 hK_a0 hp H.size) (cwV (C := RX12) 1 hts (wg_V wm_RX12_138 wy_X12_rankOf) rfl rfl rfl (by decide +kernel) ⟨Nat.le_of_ble_eq_true rfl, Nat.le_of_ble_eq_true rfl⟩) (w_preV hK hW hL_a0 hK_a0 (by decide) rfl) rfl rfl hl.1 rfl (lv_room (Nat.le_of_ble_eq_true rfl)) dX12_attacks_25 ⟨Nat.le_of_ble_eq_true rfl, Nat.le_of_ble_eq_true rfl⟩) hW (fun r_9 S_10 H locs hp hW => ?_)
  obtain ⟨hX_S_10, hp⟩ := hp
  refine W.widen (k := 0) (n := 0) (by decide) (by decide) ?_
  have hE := hE.trans hX_S_10
  have hK_a0 : sK S_10 a0 = 17 := (hX_S_10.2 a0 hL_a0).1.trans hK_a0
  have hL_a0 : wM D S_10 a0 := hX_S_10.M hL_a0
  refine lv_aload_n hx hb dX12_attacks_28 rfl (lv_at hl 2 rfl) ?_
  refine lv_iload_n hx hb dX12_attacks_29 rfl (lv_at hl 5 rfl) ?_
  refine w_callI (va_runV (As := [.int x3]) (rest := [.int r_9]) F (c_X12_rankOf l hL_a0 hK_a0 hp H.size) (cwV (C := RX12) 1 hts (wg_V wm_RX12_138 wy_X12_rankOf) rfl rfl rfl (by decide +kernel) ⟨Nat.le_of_ble_eq_true rfl, Nat.le_of_ble_eq_true rfl⟩) (w_preV hK hW hL_a0 hK_a0 (by decide) rfl) rfl rfl hl.1 rfl (lv_room (Nat.le_of_ble_eq_true rfl)) dX12_attacks_30 ⟨Nat.le_of_ble_eq_true rfl, Nat.le_of_ble_eq_true rfl⟩) hW (fun r_11 S_12 H locs hp hW => ?_)
  obtain ⟨hX_S_12, hp⟩ := hp
  refine W.widen (k := 0) (n := 0) (by decide) (by decide) ?_
  have hE := hE.trans hX_S_12
  have hK_a0 : sK S_12 a0 = 17 := (hX_S_12.2 a0 hL_a0).1.trans hK_a0
  have hL_a0 : wM D S_12 a0 := hX_S_12.M hL_a0
  refine w_callI (va_runS (As := [.int r_9, .int r_11]) (rest := []) F (c_X12_distance l hp H.size) (va_cwS 2 hts (wg_S wm_RX12_145 wy_X12_distance) rfl rfl rfl (by decide +kernel) ⟨Nat.le_of_ble_eq_true rfl, Nat.le_of_ble_eq_true rfl⟩) (w_preS hK hW) rfl rfl hl.1 rfl (lv_room (Nat.le_of_ble_eq_true rfl)) dX12_attacks_33 ⟨Nat.le_of_ble_eq_true rfl, Nat.le_of_ble_eq_true rfl⟩) hW (fun r_13 S_14 H locs hp hW => ?_)
  obtain ⟨hX_S_14, hp⟩ := hp
  refine W.widen (k := 0) (n := 0) (by decide) (by decide) ?_
  have hE := hE.trans hX_S_14
  have hK_a0 : sK S_14 a0 = 17 := (hX_S_14.2 a0 hL_a0).1.trans hK_a0
  have hL_a0 : wM D S_14 a0 := hX_S_14.M hL_a0
  refine lv_istore (lv' := [(6, .int r_13), (5, .int r_7), (4, .int r_1), (0, .ref a0), (1, .int x1), (2, .int x2), (3, .int x3)]) hx hb dX12_attacks_36 hl (by decide) rfl (fun ls hl => ?_)
  refine lv_iload hx hb dX12_attacks_38 (lv_at hl 2 rfl) ?_
  refine w_callI (va_runS (As := [.int r_1]) (rest := []) F (c_X12_kindOf l hp H.size) (va_cwS 1 hts (wg_S wm_RX12_148 wy_X12_kindOf) rfl rfl rfl (by decide +kernel) ⟨Nat.le_of_ble_eq_true rfl, Nat.le_of_ble_eq_true rfl⟩) (w_preS hK hW) rfl rfl hl.1 rfl (lv_room (Nat.le_of_ble_eq_true rfl)) dX12_attacks_40 ⟨Nat.le_of_ble_eq_true rfl, Nat.le_of_ble_eq_true rfl⟩) hW (fun r_15 S_16 H locs hp hW => ?_)
  obtain ⟨hX_S_16, hp⟩ := hp
  refine W.widen (k := 0) (n := 0) (by decide) (by decide) ?_
  have hE := hE.trans hX_S_16
  have hK_a0 : sK S_16 a0 = 17 := (hX_S_16.2 a0 hL_a0).1.trans hK_a0
  have hL_a0 : wM D S_16 a0 := hX_S_16.M hL_a0
  by_cases c_17 : r_15 = 1
  · refine lv_tableIn (tgt := 80) (x := r_15) (off := 37) hx hb dX12_attacks_43 (by rw [c_17]; decide) (by rw [c_17]; decide) (by rw [c_17]; decide) (by decide) ?_
    replace hp := hp.1 c_17
    refine lv_iload hx hb dX12_attacks_80 (lv_at hl 1 rfl) ?_
    refine lv_iconst (v := 1) hx hb dX12_attacks_82 (by decide) ?_
    refine lv_icmp_gt (tgt := 104) hx hb dX12_attacks_83 (by decide) (fun c_18 => ?_) (fun c_18 => ?_)
    · replace hp := hp.1 c_18
      exact t_X12_attacks_104 F hr hlocks hK hp hW hE (lv_sub hl [] rfl)
    · replace hp := hp.2 c_18
      refine lv_iload hx hb dX12_attacks_86 (lv_at hl 0 rfl) ?_
      refine lv_iconst (v := 1) hx hb dX12_attacks_88 (by decide) ?_
      refine lv_icmp_gt (tgt := 104) hx hb dX12_attacks_89 (by decide) (fun c_19 => ?_) (fun c_19 => ?_)
      · replace hp := hp.1 c_19
        exact t_X12_attacks_104 F hr hlocks hK hp hW hE (lv_sub hl [] rfl)
      · replace hp := hp.2 c_19
        refine lv_iload hx hb dX12_attacks_92 (lv_at hl 1 rfl) ?_
        refine lv_iload hx hb dX12_attacks_94 (lv_at hl 0 rfl) ?_
        refine lv_iadd hx hb dX12_attacks_96 ?_
        refine lv_if_le (tgt := 104) hx hb dX12_attacks_97 (by decide) (fun c_20 => ?_) (fun c_20 => ?_)
        · replace hp := hp.1 c_20
          exact t_X12_attacks_104 F hr hlocks hK hp hW hE (lv_sub hl [] rfl)
        · replace hp := hp.2 c_20
          refine lv_iconst (v := 1) hx hb dX12_attacks_100 (by decide) ?_
          refine lv_goto (tgt := 105) hx hb dX12_attacks_101 (by decide) ?_
          exact t_X12_attacks_105 F hr hlocks hK hp hW hE (lv_sub hl [] rfl)
  replace hp := hp.2
  by_cases c_21 : r_15 = 2
  · refine lv_tableIn (tgt := 219) (x := r_15) (off := 176) hx hb dX12_attacks_43 (by rw [c_21]; decide) (by rw [c_21]; decide) (by rw [c_21]; decide) (by decide) ?_
    replace hp := hp.1 c_21
    refine lv_iload hx hb dX12_attacks_219 (lv_at hl 1 rfl) ?_
    refine lv_iload hx hb dX12_attacks_221 (lv_at hl 0 rfl) ?_
    refine lv_imul hx hb dX12_attacks_223 ?_
    refine lv_if_eq (tgt := 234) hx hb dX12_attacks_224 (by decide) (fun c_22 => ?_) (fun c_22 => ?_)
    · replace hp := hp.1 c_22
      exact t_X12_attacks_234 F hr hlocks hK hp hW hE (lv_sub hl [3, 4, 5, 6, 1, 0] rfl) hL_a0 hK_a0
    · replace hp := hp.2 c_22
      refine lv_iload hx hb dX12_attacks_227 (lv_at hl 1 rfl) ?_
      refine lv_iload hx hb dX12_attacks_229 (lv_at hl 0 rfl) ?_
      refine lv_icmp_ne (tgt := 256) hx hb dX12_attacks_231 (by decide) (fun c_23 => ?_) (fun c_23 => ?_)
      · replace hp := hp.1 c_23
        exact t_X12_attacks_256 F hr hlocks hK hp hW hE (lv_sub hl [] rfl)
      · replace hp := hp.2 c_23
        exact t_X12_attacks_234 F hr hlocks hK hp hW hE (lv_sub hl [3, 4, 5, 6, 1, 0] rfl) hL_a0 hK_a0
  replace hp := hp.2
  by_cases c_24 : r_15 = 3
  · refine lv_tableIn (tgt := 159) (x := r_15) (off := 116) hx hb dX12_attacks_43 (by rw [c_24]; decide) (by rw [c_24]; decide) (by rw [c_24]; decide) (by decide) ?_
    replace hp := hp.1 c_24
    refine lv_iload hx hb dX12_attacks_159 (lv_at hl 1 rfl) ?_
    refine lv_iload hx hb dX12_attacks_161 (lv_at hl 0 rfl) ?_
    refine lv_imul hx hb dX12_attacks_163 ?_
    refine lv_if_ne (tgt := 189) hx hb dX12_attacks_164 (by decide) (fun c_25 => ?_) (fun c_25 => ?_)
    · replace hp := hp.1 c_25
      exact t_X12_attacks_189 F hr hlocks hK hp hW hE (lv_sub hl [] rfl)
    · replace hp := hp.2 c_25
      refine lv_iload hx hb dX12_attacks_167 (lv_at hl 1 rfl) ?_
      refine lv_iload hx hb dX12_attacks_169 (lv_at hl 0 rfl) ?_
      refine lv_iadd hx hb dX12_attacks_171 ?_
      refine lv_if_le (tgt := 189) hx hb dX12_attacks_172 (by decide) (fun c_26 => ?_) (fun c_26 => ?_)
      · replace hp := hp.1 c_26
        exact t_X12_attacks_189 F hr hlocks hK hp hW hE (lv_sub hl [] rfl)
      · replace hp := hp.2 c_26
        refine lv_aload_n hx hb dX12_attacks_175 rfl (lv_at hl 3 rfl) ?_
        refine lv_iload_n hx hb dX12_attacks_176 rfl (lv_at hl 4 rfl) ?_
        refine lv_iload_n hx hb dX12_attacks_177 rfl (lv_at hl 5 rfl) ?_
        refine lv_iload_n hx hb dX12_attacks_178 rfl (lv_at hl 6 rfl) ?_
        refine w_callI (va_runV (As := [.int x1, .int x2, .int x3]) (rest := []) F (c_X12_isClear l hL_a0 hK_a0 hp H.size) (cwV (C := RX12) 3 hts (wg_V wm_RX12_151 wy_X12_isClear) rfl rfl rfl (by decide +kernel) ⟨Nat.le_of_ble_eq_true rfl, Nat.le_of_ble_eq_true rfl⟩) (w_preV hK hW hL_a0 hK_a0 (by decide) rfl) rfl rfl hl.1 rfl (lv_room (Nat.le_of_ble_eq_true rfl)) dX12_attacks_179 ⟨Nat.le_of_ble_eq_true rfl, Nat.le_of_ble_eq_true rfl⟩) hW (fun r_27 S_28 H locs hp hW => ?_)
        obtain ⟨hX_S_28, hp⟩ := hp
        refine W.widen (k := 0) (n := 0) (by decide) (by decide) ?_
        have hE := hE.trans hX_S_28
        have hK_a0 : sK S_28 a0 = 17 := (hX_S_28.2 a0 hL_a0).1.trans hK_a0
        have hL_a0 : wM D S_28 a0 := hX_S_28.M hL_a0
        refine lv_if_eq (tgt := 189) hx hb dX12_attacks_182 (by decide) (fun c_29 => ?_) (fun c_29 => ?_)
        · replace hp := hp.1 c_29
          exact t_X12_attacks_189 F hr hlocks hK hp hW hE (lv_sub hl [] rfl)
        · replace hp := hp.2 c_29
          refine lv_iconst (v := 1) hx hb dX12_attacks_185 (by decide) ?_
          refine lv_goto (tgt := 190) hx hb dX12_attacks_186 (by decide) ?_
          exact t_X12_attacks_190 F hr hlocks hK hp hW hE (lv_sub hl [] rfl)
  replace hp := hp.2
  by_cases c_30 : r_15 = 4
  · refine lv_tableIn (tgt := 191) (x := r_15) (off := 148) hx hb dX12_attacks_43 (by rw [c_30]; decide) (by rw [c_30]; decide) (by rw [c_30]; decide) (by decide) ?_
    replace hp := hp.1 c_30
    refine lv_iload hx hb dX12_attacks_191 (lv_at hl 1 rfl) ?_
    refine lv_iload hx hb dX12_attacks_193 (lv_at hl 0 rfl) ?_
    refine lv_icmp_ne (tgt := 217) hx hb dX12_attacks_195 (by decide) (fun c_31 => ?_) (fun c_31 => ?_)
    · replace hp := hp.1 c_31
      exact t_X12_attacks_217 F hr hlocks hK hp hW hE (lv_sub hl [] rfl)
    · replace hp := hp.2 c_31
      refine lv_iload hx hb dX12_attacks_198 (lv_at hl 1 rfl) ?_
      refine lv_if_le (tgt := 217) hx hb dX12_attacks_200 (by decide) (fun c_32 => ?_) (fun c_32 => ?_)
      · replace hp := hp.1 c_32
        exact t_X12_attacks_217 F hr hlocks hK hp hW hE (lv_sub hl [] rfl)
      · replace hp := hp.2 c_32
        refine lv_aload_n hx hb dX12_attacks_203 rfl (lv_at hl 3 rfl) ?_
        refine lv_iload_n hx hb dX12_attacks_204 rfl (lv_at hl 4 rfl) ?_
        refine lv_iload_n hx hb dX12_attacks_205 rfl (lv_at hl 5 rfl) ?_
        refine lv_iload_n hx hb dX12_attacks_206 rfl (lv_at hl 6 rfl) ?_
        refine w_callI (va_runV (As := [.int x1, .int x2, .int x3]) (rest := []) F (c_X12_isClear l hL_a0 hK_a0 hp H.size) (cwV (C := RX12) 3 hts (wg_V wm_RX12_151 wy_X12_isClear) rfl rfl rfl (by decide +kernel) ⟨Nat.le_of_ble_eq_true rfl, Nat.le_of_ble_eq_true rfl⟩) (w_preV hK hW hL_a0 hK_a0 (by decide) rfl) rfl rfl hl.1 rfl (lv_room (Nat.le_of_ble_eq_true rfl)) dX12_attacks_207 ⟨Nat.le_of_ble_eq_true rfl, Nat.le_of_ble_eq_true rfl⟩) hW (fun r_33 S_34 H locs hp hW => ?_)
        obtain ⟨hX_S_34, hp⟩ := hp
        refine W.widen (k := 0) (n := 0) (by decide) (by decide) ?_
        have hE := hE.trans hX_S_34
        have hK_a0 : sK S_34 a0 = 17 := (hX_S_34.2 a0 hL_a0).1.trans hK_a0
        have hL_a0 : wM D S_34 a0 := hX_S_34.M hL_a0
        refine lv_if_eq (tgt := 217) hx hb dX12_attacks_210 (by decide) (fun c_35 => ?_) (fun c_35 => ?_)
        · replace hp := hp.1 c_35
          exact t_X12_attacks_217 F hr hlocks hK hp hW hE (lv_sub hl [] rfl)
        · replace hp := hp.2 c_35
          refine lv_iconst (v := 1) hx hb dX12_attacks_213 (by decide) ?_
          refine lv_goto (tgt := 218) hx hb dX12_attacks_214 (by decide) ?_
          exact t_X12_attacks_218 F hr hlocks hK hp hW hE (lv_sub hl [] rfl)
  replace hp := hp.2
  by_cases c_36 : r_15 = 5
  · refine lv_tableIn (tgt := 106) (x := r_15) (off := 63) hx hb dX12_attacks_43 (by rw [c_36]; decide) (by rw [c_36]; decide) (by rw [c_36]; decide) (by decide) ?_
    replace hp := hp.1 c_36
    refine lv_iload hx hb dX12_attacks_106 (lv_at hl 1 rfl) ?_
    refine lv_iload hx hb dX12_attacks_108 (lv_at hl 0 rfl) ?_
    refine lv_imul hx hb dX12_attacks_110 ?_
    refine lv_iconst (v := 2) hx hb dX12_attacks_111 (by decide) ?_
    refine lv_icmp_ne (tgt := 119) hx hb dX12_attacks_112 (by decide) (fun c_37 => ?_) (fun c_37 => ?_)
    · replace hp := hp.1 c_37
      refine lv_iconst (v := 0) hx hb dX12_attacks_119 (by decide) ?_
      exact t_X12_attacks_120 F hr hlocks hK hp hW hE (lv_sub hl [] rfl)
    · replace hp := hp.2 c_37
      refine lv_iconst (v := 1) hx hb dX12_attacks_115 (by decide) ?_
      refine lv_goto (tgt := 120) hx hb dX12_attacks_116 (by decide) ?_
      exact t_X12_attacks_120 F hr hlocks hK hp hW hE (lv_sub hl [] rfl)
  replace hp := hp.2
  by_cases c_38 : r_15 = 6
  · refine lv_tableIn (tgt := 121) (x := r_15) (off := 78) hx hb dX12_attacks_43 (by rw [c_38]; decide) (by rw [c_38]; decide) (by rw [c_38]; decide) (by decide) ?_
    replace hp := hp.1 c_38
    refine lv_iload hx hb dX12_attacks_121 (lv_at hl 1 rfl) ?_
    refine lv_iconst (v := 1) hx hb dX12_attacks_123 (by decide) ?_
    refine lv_icmp_ne (tgt := 157) hx hb dX12_attacks_124 (by decide) (fun c_39 => ?_) (fun c_39 => ?_)
    · replace hp := hp.1 c_39
      exact t_X12_attacks_157 F hr hlocks hK hp hW hE (lv_sub hl [] rfl)
    · replace hp := hp.2 c_39
      refine lv_aload_n hx hb dX12_attacks_127 rfl (lv_at hl 3 rfl) ?_
      refine lv_iload_n hx hb dX12_attacks_128 rfl (lv_at hl 6 rfl) ?_
      refine w_callI (va_runV (As := [.int x3]) (rest := []) F (c_X12_rankOf l hL_a0 hK_a0 hp H.size) (cwV (C := RX12) 1 hts (wg_V wm_RX12_138 wy_X12_rankOf) rfl rfl rfl (by decide +kernel) ⟨Nat.le_of_ble_eq_true rfl, Nat.le_of_ble_eq_true rfl⟩) (w_preV hK hW hL_a0 hK_a0 (by decide) rfl) rfl rfl hl.1 rfl (lv_room (Nat.le_of_ble_eq_true rfl)) dX12_attacks_129 ⟨Nat.le_of_ble_eq_true rfl, Nat.le_of_ble_eq_true rfl⟩) hW (fun r_40 S_41 H locs hp hW => ?_)
      obtain ⟨hX_S_41, hp⟩ := hp
      refine W.widen (k := 0) (n := 0) (by decide) (by decide) ?_
      have hE := hE.trans hX_S_41
      have hK_a0 : sK S_41 a0 = 17 := (hX_S_41.2 a0 hL_a0).1.trans hK_a0
      have hL_a0 : wM D S_41 a0 := hX_S_41.M hL_a0
      refine lv_aload_n hx hb dX12_attacks_132 rfl (lv_at hl 3 rfl) ?_
      refine lv_iload_n hx hb dX12_attacks_133 rfl (lv_at hl 5 rfl) ?_
      refine w_callI (va_runV (As := [.int x2]) (rest := [.int r_40]) F (c_X12_rankOf l hL_a0 hK_a0 hp H.size) (cwV (C := RX12) 1 hts (wg_V wm_RX12_138 wy_X12_rankOf) rfl rfl rfl (by decide +kernel) ⟨Nat.le_of_ble_eq_true rfl, Nat.le_of_ble_eq_true rfl⟩) (w_preV hK hW hL_a0 hK_a0 (by decide) rfl) rfl rfl hl.1 rfl (lv_room (Nat.le_of_ble_eq_true rfl)) dX12_attacks_134 ⟨Nat.le_of_ble_eq_true rfl, Nat.le_of_ble_eq_true rfl⟩) hW (fun r_42 S_43 H locs hp hW => ?_)
      obtain ⟨hX_S_43, hp⟩ := hp
      refine W.widen (k := 0) (n := 0) (by decide) (by decide) ?_
      have hE := hE.trans hX_S_43
      have hK_a0 : sK S_43 a0 = 17 := (hX_S_43.2 a0 hL_a0).1.trans hK_a0
      have hL_a0 : wM D S_43 a0 := hX_S_43.M hL_a0
      refine lv_isub hx hb dX12_attacks_137 ?_
      refine lv_iload hx hb dX12_attacks_138 (lv_at hl 2 rfl) ?_
      refine lv_bipush (v := 6) hx hb dX12_attacks_140 (by decide) ?_
      refine lv_icmp_ne (tgt := 149) hx hb dX12_attacks_142 (by decide) (fun c_44 => ?_) (fun c_44 => ?_)
      · replace hp := hp.1 c_44
        refine lv_iconst (v := (-1)) hx hb dX12_attacks_149 (by decide) ?_
        exact t_X12_attacks_150 F hr hlocks hK hp hW hE (lv_sub hl [] rfl)
      · replace hp := hp.2 c_44
        refine lv_iconst (v := 1) hx hb dX12_attacks_145 (by decide) ?_
        refine lv_goto (tgt := 150) hx hb dX12_attacks_146 (by decide) ?_
        exact t_X12_attacks_150 F hr hlocks hK hp hW hE (lv_sub hl [] rfl)
  replace hp := hp.2
  replace hp := hp c_17 c_21 c_24 c_30 c_36 c_38
  refine lv_tableOut (tgt := 258) hx hb dX12_attacks_43 (w_out (lo := 1) (hi := 6) (by decide) (by decide) (fun v h1 h2 => by have h3 : v = 1 ∨ v = 2 ∨ v = 3 ∨ v = 4 ∨ v = 5 ∨ v = 6 := (by omega); rcases h3 with rfl | rfl | rfl | rfl | rfl | rfl <;> (intro q; first | exact c_17 q | exact c_21 q | exact c_24 q | exact c_30 q | exact c_36 q | exact c_38 q))) (by decide) ?_
  refine lv_iconst (v := 0) hx hb dX12_attacks_258 (by decide) ?_
  exact w_zret hx hb hr hlocks hW hp.1 ⟨hE, hp.2⟩ dX12_attacks_259
set_option maxHeartbeats 4000000 in
set_option maxRecDepth 100000 in
theorem c_X12_attacks (l : Launch) {D : wD} {cy : Nat → ClassId} {X : va_W} {S0 : wS} {post : Int32 → wS → Prop} {a0 : Nat} {x1 : Int32} {x2 : Int32} {x3 : Int32} (hL_a0 : wM D S0 a0) (hK_a0 : sK S0 a0 = 17) (hp : wp_X12_attacks D post S0 a0 x1 x2 x3) : mI D cy X l yX12_attacks wz_X12_attacks r_X12_attacks [.ref a0, .int x1, .int x2, .int x3] S0 (fun r S9 => wX D S0 S9 ∧ post r S9) := by
  intro sz
  refine Met.ofW (cc := cX12_attacks) (maxL := 7) (ret := (some .boolean)) (by decide) rfl ?_
  intro p e s m args below meth c s₁ B hml hv
  obtain ⟨rfl, hsz, hP, hK, hD0, hRO⟩ := hv
  have hts := atoms_spec (ws := wz_X12_attacks) B.pre
  have hown : s.vm.findClass RX12 = some m.cls := findClass_of_methodNamed B.named
  subst hsz
  have hD := hD0.self (sz := s.heap.size)
  have F : CallFix p m c cX12_attacks 7 s _ wz_X12_attacks RX12 := ⟨B.exec, B.bytes, hml, hown, hts⟩
  have hr := B.returns
  have hlocks := B.notSynchronized
  generalize hAe : va_A (wL cy X S0) s.heap.size = A at hD hK ⊢
  have hA : ∀ q, s.heap.size ≤ q → A q := fun q h => by rw [← hAe]; exact Or.inr h
  have hW : wO D cy X A s.heap S0 s.heap [] := ⟨hP, hD, va_S.rf, hA, hRO⟩
  have hl := lv_entry ([.ref a0, .int x1, .int x2, .int x3]) (n := 7) (Nat.le_of_ble_eq_true rfl)
  rw [lg_entry_eq]
  generalize (lg_sl ([.ref a0, .int x1, .int x2, .int x3]) ++ List.replicate (7 - (lg_sl ([.ref a0, .int x1, .int x2, .int x3])).length) Slot.unset).toArray = ls at hl ⊢
  have hl : lv_has ls 7 [(0, .ref a0), (1, .int x1), (2, .int x2), (3, .int x3)] := hl
  unfold wp_X12_attacks at hp
  exact t_X12_attacks_0 F hr hlocks hK hp hW wX.rf (lv_sub hl [0, 1, 2, 3] rfl) hL_a0 hK_a0
def wp_X12_isOf_24 (D : wD) (post : Int32 → wS → Prop)  (S : wS) (t0 : Int32) : Prop :=
narrow .boolean (.int t0) = .int t0 ∧ post t0 S
def wp_X12_isOf_23 (D : wD) (post : Int32 → wS → Prop)  (S : wS) : Prop :=
wp_X12_isOf_24 D post S (0 : Int32)
def wp_X12_isOf_15 (D : wD) (post : Int32 → wS → Prop)  (S : wS) (x1 : Int32) (t0 : Int32) : Prop :=
((¬ t0 = x1 → wp_X12_isOf_23 D post S) ∧
 (t0 = x1 → wp_X12_isOf_24 D post S (1 : Int32)))
def wp_X12_isOf_0 (D : wD) (post : Int32 → wS → Prop)  (S : wS) (x0 : Int32) (x1 : Int32) : Prop :=
((x0 = 0 → wp_X12_isOf_23 D post S) ∧
 (¬ x0 = 0 → (((6 : Int32) < x0 → wp_X12_isOf_15 D post S x1 (0 : Int32)) ∧
 (¬ (6 : Int32) < x0 → wp_X12_isOf_15 D post S x1 (1 : Int32)))))
abbrev r_X12_isOf : Room := { frames := 0, cells := 0, slots := 0, locals := 0 }
def wp_X12_isOf (D : wD) (post : Int32 → wS → Prop) (S : wS) (x0 : Int32) (x1 : Int32) : Prop := wp_X12_isOf_0 D post S x0 x1
set_option maxHeartbeats 4000000 in
set_option maxRecDepth 100000 in
theorem t_X12_isOf_24 {p : Program} {l : Launch} {e : Env} {s : State} {m : MethodId} {args : Array Value} {below : List Frame} {meth : Method} {c : Code} {D : wD} {cy : Nat → ClassId} {X : va_W} {A : Nat → Prop} {S0 : wS} {post : Int32 → wS → Prop} (F : CallFix p m c cX12_isOf 2 s args wz_X12_isOf RX12) (hr : meth.sig.returnType = (some .boolean)) (hlocks : meth.locks = false) (hK : wK D cy A s) : ∀ {S : wS} {H : Heap} {locs : List Loc} {ls : Array Slot} {t0 : Int32}, wp_X12_isOf_24 D post S t0 → wO D cy X A s.heap S H locs → wX D S0 S → lv_has ls 2 [] → W p l e r_X12_isOf s m args below meth c H locs 0 0 (MQ below (va_Qi (fun r S9 => wX D S0 S9 ∧ post r S9) (wB D cy X A) A) args s 0 0 A) (F0 m 24 ls [.int t0]) := by
  obtain ⟨hx, hb, hml, hown, hts⟩ := id F
  have hwg : ∀ w ∈ WG, w.before args s = true := fun w h => hts w (List.mem_cons_of_mem _ h)
  intro S H locs ls t0 hp hW hE hl
  unfold wp_X12_isOf_24 at hp
  exact w_zret hx hb hr hlocks hW hp.1 ⟨hE, hp.2⟩ dX12_isOf_24
set_option maxHeartbeats 4000000 in
set_option maxRecDepth 100000 in
theorem t_X12_isOf_23 {p : Program} {l : Launch} {e : Env} {s : State} {m : MethodId} {args : Array Value} {below : List Frame} {meth : Method} {c : Code} {D : wD} {cy : Nat → ClassId} {X : va_W} {A : Nat → Prop} {S0 : wS} {post : Int32 → wS → Prop} (F : CallFix p m c cX12_isOf 2 s args wz_X12_isOf RX12) (hr : meth.sig.returnType = (some .boolean)) (hlocks : meth.locks = false) (hK : wK D cy A s) : ∀ {S : wS} {H : Heap} {locs : List Loc} {ls : Array Slot}, wp_X12_isOf_23 D post S → wO D cy X A s.heap S H locs → wX D S0 S → lv_has ls 2 [] → W p l e r_X12_isOf s m args below meth c H locs 0 0 (MQ below (va_Qi (fun r S9 => wX D S0 S9 ∧ post r S9) (wB D cy X A) A) args s 0 0 A) (F0 m 23 ls []) := by
  obtain ⟨hx, hb, hml, hown, hts⟩ := id F
  have hwg : ∀ w ∈ WG, w.before args s = true := fun w h => hts w (List.mem_cons_of_mem _ h)
  intro S H locs ls hp hW hE hl
  unfold wp_X12_isOf_23 at hp
  refine lv_iconst (v := 0) hx hb dX12_isOf_23 (by decide) ?_
  exact t_X12_isOf_24 F hr hlocks hK hp hW hE (lv_sub hl [] rfl)
set_option maxHeartbeats 4000000 in
set_option maxRecDepth 100000 in
theorem t_X12_isOf_15 {p : Program} {l : Launch} {e : Env} {s : State} {m : MethodId} {args : Array Value} {below : List Frame} {meth : Method} {c : Code} {D : wD} {cy : Nat → ClassId} {X : va_W} {A : Nat → Prop} {S0 : wS} {post : Int32 → wS → Prop} (F : CallFix p m c cX12_isOf 2 s args wz_X12_isOf RX12) (hr : meth.sig.returnType = (some .boolean)) (hlocks : meth.locks = false) (hK : wK D cy A s) : ∀ {S : wS} {H : Heap} {locs : List Loc} {ls : Array Slot} {x1 : Int32} {t0 : Int32}, wp_X12_isOf_15 D post S x1 t0 → wO D cy X A s.heap S H locs → wX D S0 S → lv_has ls 2 [(1, .int x1)] → W p l e r_X12_isOf s m args below meth c H locs 0 0 (MQ below (va_Qi (fun r S9 => wX D S0 S9 ∧ post r S9) (wB D cy X A) A) args s 0 0 A) (F0 m 15 ls [.int t0]) := by
  obtain ⟨hx, hb, hml, hown, hts⟩ := id F
  have hwg : ∀ w ∈ WG, w.before args s = true := fun w h => hts w (List.mem_cons_of_mem _ h)
  intro S H locs ls x1 t0 hp hW hE hl
  unfold wp_X12_isOf_15 at hp
  refine lv_iload_n hx hb dX12_isOf_15 rfl (lv_at hl 0 rfl) ?_
  refine lv_icmp_ne (tgt := 23) hx hb dX12_isOf_16 (by decide) (fun c_1 => ?_) (fun c_1 => ?_)
  · replace hp := hp.1 c_1
    exact t_X12_isOf_23 F hr hlocks hK hp hW hE (lv_sub hl [] rfl)
  · replace hp := hp.2 c_1
    refine lv_iconst (v := 1) hx hb dX12_isOf_19 (by decide) ?_
    refine lv_goto (tgt := 24) hx hb dX12_isOf_20 (by decide) ?_
    exact t_X12_isOf_24 F hr hlocks hK hp hW hE (lv_sub hl [] rfl)
set_option maxHeartbeats 4000000 in
set_option maxRecDepth 100000 in
theorem t_X12_isOf_0 {p : Program} {l : Launch} {e : Env} {s : State} {m : MethodId} {args : Array Value} {below : List Frame} {meth : Method} {c : Code} {D : wD} {cy : Nat → ClassId} {X : va_W} {A : Nat → Prop} {S0 : wS} {post : Int32 → wS → Prop} (F : CallFix p m c cX12_isOf 2 s args wz_X12_isOf RX12) (hr : meth.sig.returnType = (some .boolean)) (hlocks : meth.locks = false) (hK : wK D cy A s) : ∀ {S : wS} {H : Heap} {locs : List Loc} {ls : Array Slot} {x0 : Int32} {x1 : Int32}, wp_X12_isOf_0 D post S x0 x1 → wO D cy X A s.heap S H locs → wX D S0 S → lv_has ls 2 [(0, .int x0), (1, .int x1)] → W p l e r_X12_isOf s m args below meth c H locs 0 0 (MQ below (va_Qi (fun r S9 => wX D S0 S9 ∧ post r S9) (wB D cy X A) A) args s 0 0 A) (F0 m 0 ls []) := by
  obtain ⟨hx, hb, hml, hown, hts⟩ := id F
  have hwg : ∀ w ∈ WG, w.before args s = true := fun w h => hts w (List.mem_cons_of_mem _ h)
  intro S H locs ls x0 x1 hp hW hE hl
  unfold wp_X12_isOf_0 at hp
  refine lv_iload_n hx hb dX12_isOf_0 rfl (lv_at hl 0 rfl) ?_
  refine lv_if_eq (tgt := 23) hx hb dX12_isOf_1 (by decide) (fun c_1 => ?_) (fun c_1 => ?_)
  · replace hp := hp.1 c_1
    exact t_X12_isOf_23 F hr hlocks hK hp hW hE (lv_sub hl [] rfl)
  · replace hp := hp.2 c_1
    refine lv_iload_n hx hb dX12_isOf_4 rfl (lv_at hl 0 rfl) ?_
    refine lv_bipush (v := 6) hx hb dX12_isOf_5 (by decide) ?_
    refine lv_icmp_gt (tgt := 14) hx hb dX12_isOf_7 (by decide) (fun c_2 => ?_) (fun c_2 => ?_)
    · replace hp := hp.1 c_2
      refine lv_iconst (v := 0) hx hb dX12_isOf_14 (by decide) ?_
      exact t_X12_isOf_15 F hr hlocks hK hp hW hE (lv_sub hl [1] rfl)
    · replace hp := hp.2 c_2
      refine lv_iconst (v := 1) hx hb dX12_isOf_10 (by decide) ?_
      refine lv_goto (tgt := 15) hx hb dX12_isOf_11 (by decide) ?_
      exact t_X12_isOf_15 F hr hlocks hK hp hW hE (lv_sub hl [1] rfl)
set_option maxHeartbeats 4000000 in
set_option maxRecDepth 100000 in
theorem c_X12_isOf (l : Launch) {D : wD} {cy : Nat → ClassId} {X : va_W} {S0 : wS} {post : Int32 → wS → Prop} {x0 : Int32} {x1 : Int32} (hp : wp_X12_isOf D post S0 x0 x1) : mI D cy X l yX12_isOf wz_X12_isOf r_X12_isOf [.int x0, .int x1] S0 (fun r S9 => wX D S0 S9 ∧ post r S9) := by
  intro sz
  refine Met.ofW (cc := cX12_isOf) (maxL := 2) (ret := (some .boolean)) (by decide) rfl ?_
  intro p e s m args below meth c s₁ B hml hv
  obtain ⟨rfl, hsz, hP, hK, hD0, hRO⟩ := hv
  have hts := atoms_spec (ws := wz_X12_isOf) B.pre
  have hown : s.vm.findClass RX12 = some m.cls := findClass_of_methodNamed B.named
  subst hsz
  have hD := hD0.self (sz := s.heap.size)
  have F : CallFix p m c cX12_isOf 2 s _ wz_X12_isOf RX12 := ⟨B.exec, B.bytes, hml, hown, hts⟩
  have hr := B.returns
  have hlocks := B.notSynchronized
  generalize hAe : va_A (wL cy X S0) s.heap.size = A at hD hK ⊢
  have hA : ∀ q, s.heap.size ≤ q → A q := fun q h => by rw [← hAe]; exact Or.inr h
  have hW : wO D cy X A s.heap S0 s.heap [] := ⟨hP, hD, va_S.rf, hA, hRO⟩
  have hl := lv_entry ([.int x0, .int x1]) (n := 2) (Nat.le_of_ble_eq_true rfl)
  rw [lg_entry_eq]
  generalize (lg_sl ([.int x0, .int x1]) ++ List.replicate (2 - (lg_sl ([.int x0, .int x1])).length) Slot.unset).toArray = ls at hl ⊢
  have hl : lv_has ls 2 [(0, .int x0), (1, .int x1)] := hl
  unfold wp_X12_isOf at hp
  exact t_X12_isOf_0 F hr hlocks hK hp hW wX.rf (lv_sub hl [0, 1] rfl)
def wp_X12_isAttackedBy_39 (D : wD) (post : Int32 → wS → Prop) (k_3 : wS → Nat → Int32 → Int32 → Int32 → Int32 → Prop) (S : wS) (a0 : Nat) (x1 : Int32) (x2 : Int32) (x3 : Int32) (x4 : Int32) : Prop :=
∀ x_1 : Int32, x_1 = x4 + 1 →
k_3 S a0 x1 x2 x3 x_1
def wp_X12_isAttackedBy_3 (D : wD) (post : Int32 → wS → Prop)  : Nat → wS → Nat → Int32 → Int32 → Int32 → Int32 → Prop
  | 0, _, _, _, _, _, _ => False
  | n + 1, S, a0, x1, x2, x3, x4 =>
    wp_X12_squares D (fun r_1 S_2 => 
    ((r_1 ≤ x4 → narrow .boolean (.int (0 : Int32)) = .int (0 : Int32) ∧ post (0 : Int32) S_2) ∧
     (¬ r_1 ≤ x4 → wp_X12_on D (fun r_4 S_5 => 
    wp_X12_isOf D (fun r_6 S_7 => 
    ((r_6 = 0 → wp_X12_isAttackedBy_39 D post (wp_X12_isAttackedBy_3 D post n) S_7 a0 x1 x2 x3 x4) ∧
     (¬ r_6 = 0 → wp_X12_attacks D (fun r_9 S_10 => 
    ((r_9 = 0 → wp_X12_isAttackedBy_39 D post (wp_X12_isAttackedBy_3 D post n) S_10 a0 x1 x2 x3 x4) ∧
     (¬ r_9 = 0 → narrow .boolean (.int (1 : Int32)) = .int (1 : Int32) ∧ post (1 : Int32) S_10))) S_7 a0 x1 x4 x2))) S_5 r_4 x3) S_2 a0 x1 x4))) S a0
def wp_X12_isAttackedBy_0 (D : wD) (post : Int32 → wS → Prop)  (S : wS) (a0 : Nat) (x1 : Int32) (x2 : Int32) (x3 : Int32) : Prop :=
∃ n_1 : Nat, wp_X12_isAttackedBy_3 D post n_1 S a0 x1 x2 x3 (0 : Int32)
abbrev r_X12_isAttackedBy : Room := { frames := 3, cells := 0, slots := 0, locals := 75 }
def wp_X12_isAttackedBy (D : wD) (post : Int32 → wS → Prop) (S : wS) (a0 : Nat) (x1 : Int32) (x2 : Int32) (x3 : Int32) : Prop := wp_X12_isAttackedBy_0 D post S a0 x1 x2 x3
set_option maxHeartbeats 4000000 in
set_option maxRecDepth 100000 in
theorem t_X12_isAttackedBy_39 {p : Program} {l : Launch} {e : Env} {s : State} {m : MethodId} {args : Array Value} {below : List Frame} {meth : Method} {c : Code} {D : wD} {cy : Nat → ClassId} {X : va_W} {A : Nat → Prop} {S0 : wS} {post : Int32 → wS → Prop} (F : CallFix p m c cX12_isAttackedBy 5 s args wz_X12_isAttackedBy RX12) (hr : meth.sig.returnType = (some .boolean)) (hlocks : meth.locks = false) (hK : wK D cy A s) {k_3 : wS → Nat → Int32 → Int32 → Int32 → Int32 → Prop} (q_3 : ∀ {S : wS} {H : Heap} {locs : List Loc} {ls : Array Slot} {a0 : Nat} {x1 : Int32} {x2 : Int32} {x3 : Int32} {x4 : Int32}, k_3 S a0 x1 x2 x3 x4 → wO D cy X A s.heap S H locs → wX D S0 S → lv_has ls 5 [(0, .ref a0), (1, .int x1), (2, .int x2), (3, .int x3), (4, .int x4)] → wM D S a0 → sK S a0 = 17 → W p l e r_X12_isAttackedBy s m args below meth c H locs 0 0 (MQ below (va_Qi (fun r S9 => wX D S0 S9 ∧ post r S9) (wB D cy X A) A) args s 0 0 A) (F0 m 3 ls [])) : ∀ {S : wS} {H : Heap} {locs : List Loc} {ls : Array Slot} {a0 : Nat} {x1 : Int32} {x2 : Int32} {x3 : Int32} {x4 : Int32}, wp_X12_isAttackedBy_39 D post k_3 S a0 x1 x2 x3 x4 → wO D cy X A s.heap S H locs → wX D S0 S → lv_has ls 5 [(0, .ref a0), (1, .int x1), (2, .int x2), (3, .int x3), (4, .int x4)] → wM D S a0 → sK S a0 = 17 → W p l e r_X12_isAttackedBy s m args below meth c H locs 0 0 (MQ below (va_Qi (fun r S9 => wX D S0 S9 ∧ post r S9) (wB D cy X A) A) args s 0 0 A) (F0 m 39 ls []) := by
  obtain ⟨hx, hb, hml, hown, hts⟩ := id F
  have hwg : ∀ w ∈ WG, w.before args s = true := fun w h => hts w (List.mem_cons_of_mem _ h)
  intro S H locs ls a0 x1 x2 x3 x4 hp hW hE hl hL_a0 hK_a0
  unfold wp_X12_isAttackedBy_39 at hp
  obtain ⟨x_1, ex_1⟩ : ∃ z : Int32, z = x4 + 1 := ⟨_, rfl⟩
  replace hp := hp x_1 ex_1
  refine lv_iinc (v := x_1) (lv' := [(4, .int x_1), (0, .ref a0), (1, .int x1), (2, .int x2), (3, .int x3)]) hx hb dX12_isAttackedBy_39 hl (k := 4) rfl (by rw [ex_1]; rfl) (by decide) rfl (fun ls hl => ?_)
  refine lv_goto (tgt := 3) hx hb dX12_isAttackedBy_42 (by decide) ?_
  exact q_3 hp hW hE (lv_sub hl [1, 2, 3, 4, 0] rfl) hL_a0 hK_a0
set_option maxHeartbeats 4000000 in
set_option maxRecDepth 100000 in
theorem t_X12_isAttackedBy_3 {p : Program} {l : Launch} {e : Env} {s : State} {m : MethodId} {args : Array Value} {below : List Frame} {meth : Method} {c : Code} {D : wD} {cy : Nat → ClassId} {X : va_W} {A : Nat → Prop} {S0 : wS} {post : Int32 → wS → Prop} (F : CallFix p m c cX12_isAttackedBy 5 s args wz_X12_isAttackedBy RX12) (hr : meth.sig.returnType = (some .boolean)) (hlocks : meth.locks = false) (hK : wK D cy A s) : ∀ (n : Nat) {S : wS} {H : Heap} {locs : List Loc} {ls : Array Slot} {a0 : Nat} {x1 : Int32} {x2 : Int32} {x3 : Int32} {x4 : Int32}, wp_X12_isAttackedBy_3 D post n S a0 x1 x2 x3 x4 → wO D cy X A s.heap S H locs → wX D S0 S → lv_has ls 5 [(0, .ref a0), (1, .int x1), (2, .int x2), (3, .int x3), (4, .int x4)] → wM D S a0 → sK S a0 = 17 → W p l e r_X12_isAttackedBy s m args below meth c H locs 0 0 (MQ below (va_Qi (fun r S9 => wX D S0 S9 ∧ post r S9) (wB D cy X A) A) args s 0 0 A) (F0 m 3 ls []) := by
  obtain ⟨hx, hb, hml, hown, hts⟩ := id F
  have hwg : ∀ w ∈ WG, w.before args s = true := fun w h => hts w (List.mem_cons_of_mem _ h)
  intro n
  induction n with
  | zero =>
    intro S H locs ls a0 x1 x2 x3 x4 hp
    exact hp.elim
  | succ n ih =>
    intro S H locs ls a0 x1 x2 x3 x4 hp hW hE hl hL_a0 hK_a0
    unfold wp_X12_isAttackedBy_3 at hp
    refine lv_iload hx hb dX12_isAttackedBy_3 (lv_at hl 4 rfl) ?_
    refine lv_aload_n hx hb dX12_isAttackedBy_5 rfl (lv_at hl 0 rfl) ?_
    refine w_callI (va_runV (As := []) (rest := [.int x4]) F (c_X12_squares l hL_a0 hK_a0 hp H.size) (cwV (C := RX12) 0 hts (wg_V wm_RX12_113 wy_X12_squares) rfl rfl rfl (by decide +kernel) ⟨Nat.le_of_ble_eq_true rfl, Nat.le_of_ble_eq_true rfl⟩) (w_preV hK hW hL_a0 hK_a0 (by decide) rfl) rfl rfl hl.1 rfl (lv_room (Nat.le_of_ble_eq_true rfl)) dX12_isAttackedBy_6 ⟨Nat.le_of_ble_eq_true rfl, Nat.le_of_ble_eq_true rfl⟩) hW (fun r_1 S_2 H locs hp hW => ?_)
    obtain ⟨hX_S_2, hp⟩ := hp
    refine W.widen (k := 0) (n := 0) (by decide) (by decide) ?_
    have hE := hE.trans hX_S_2
    have hK_a0 : sK S_2 a0 = 17 := (hX_S_2.2 a0 hL_a0).1.trans hK_a0
    have hL_a0 : wM D S_2 a0 := hX_S_2.M hL_a0
    refine lv_icmp_ge (tgt := 45) hx hb dX12_isAttackedBy_9 (by decide) (fun c_3 => ?_) (fun c_3 => ?_)
    · replace hp := hp.1 c_3
      refine lv_iconst (v := 0) hx hb dX12_isAttackedBy_45 (by decide) ?_
      exact w_zret hx hb hr hlocks hW hp.1 ⟨hE, hp.2⟩ dX12_isAttackedBy_46
    · replace hp := hp.2 c_3
      refine lv_aload_n hx hb dX12_isAttackedBy_12 rfl (lv_at hl 0 rfl) ?_
      refine lv_iload_n hx hb dX12_isAttackedBy_13 rfl (lv_at hl 1 rfl) ?_
      refine lv_iload hx hb dX12_isAttackedBy_14 (lv_at hl 4 rfl) ?_
      refine w_callI (va_runV (As := [.int x1, .int x4]) (rest := []) F (c_X12_on l hL_a0 hK_a0 hp H.size) (cwV (C := RX12) 2 hts (wg_V wm_RX12_141 wy_X12_on) rfl rfl rfl (by decide +kernel) ⟨Nat.le_of_ble_eq_true rfl, Nat.le_of_ble_eq_true rfl⟩) (w_preV hK hW hL_a0 hK_a0 (by decide) rfl) rfl rfl hl.1 rfl (lv_room (Nat.le_of_ble_eq_true rfl)) dX12_isAttackedBy_16 ⟨Nat.le_of_ble_eq_true rfl, Nat.le_of_ble_eq_true rfl⟩) hW (fun r_4 S_5 H locs hp hW => ?_)
      obtain ⟨hX_S_5, hp⟩ := hp
      refine W.widen (k := 0) (n := 0) (by decide) (by decide) ?_
      have hE := hE.trans hX_S_5
      have hK_a0 : sK S_5 a0 = 17 := (hX_S_5.2 a0 hL_a0).1.trans hK_a0
      have hL_a0 : wM D S_5 a0 := hX_S_5.M hL_a0
      refine lv_iload_n hx hb dX12_isAttackedBy_19 rfl (lv_at hl 3 rfl) ?_
      refine w_callI (va_runS (As := [.int r_4, .int x3]) (rest := []) F (c_X12_isOf l hp H.size) (va_cwS 2 hts (wg_S wm_RX12_154 wy_X12_isOf) rfl rfl rfl (by decide +kernel) ⟨Nat.le_of_ble_eq_true rfl, Nat.le_of_ble_eq_true rfl⟩) (w_preS hK hW) rfl rfl hl.1 rfl (lv_room (Nat.le_of_ble_eq_true rfl)) dX12_isAttackedBy_20 ⟨Nat.le_of_ble_eq_true rfl, Nat.le_of_ble_eq_true rfl⟩) hW (fun r_6 S_7 H locs hp hW => ?_)
      obtain ⟨hX_S_7, hp⟩ := hp
      refine W.widen (k := 0) (n := 0) (by decide) (by decide) ?_
      have hE := hE.trans hX_S_7
      have hK_a0 : sK S_7 a0 = 17 := (hX_S_7.2 a0 hL_a0).1.trans hK_a0
      have hL_a0 : wM D S_7 a0 := hX_S_7.M hL_a0
      refine lv_if_eq (tgt := 39) hx hb dX12_isAttackedBy_23 (by decide) (fun c_8 => ?_) (fun c_8 => ?_)
      · replace hp := hp.1 c_8
        exact t_X12_isAttackedBy_39 F hr hlocks hK ih hp hW hE (lv_sub hl [0, 1, 2, 3, 4] rfl) hL_a0 hK_a0
      · replace hp := hp.2 c_8
        refine lv_aload_n hx hb dX12_isAttackedBy_26 rfl (lv_at hl 0 rfl) ?_
        refine lv_iload_n hx hb dX12_isAttackedBy_27 rfl (lv_at hl 1 rfl) ?_
        refine lv_iload hx hb dX12_isAttackedBy_28 (lv_at hl 4 rfl) ?_
        refine lv_iload_n hx hb dX12_isAttackedBy_30 rfl (lv_at hl 2 rfl) ?_
        refine w_callI (va_runV (As := [.int x1, .int x4, .int x2]) (rest := []) F (c_X12_attacks l hL_a0 hK_a0 hp H.size) (cwV (C := RX12) 3 hts (wg_V wm_RX12_158 wy_X12_attacks) rfl rfl rfl (by decide +kernel) ⟨Nat.le_of_ble_eq_true rfl, Nat.le_of_ble_eq_true rfl⟩) (w_preV hK hW hL_a0 hK_a0 (by decide) rfl) rfl rfl hl.1 rfl (lv_room (Nat.le_of_ble_eq_true rfl)) dX12_isAttackedBy_31 ⟨Nat.le_of_ble_eq_true rfl, Nat.le_of_ble_eq_true rfl⟩) hW (fun r_9 S_10 H locs hp hW => ?_)
        obtain ⟨hX_S_10, hp⟩ := hp
        refine W.widen (k := 0) (n := 0) (by decide) (by decide) ?_
        have hE := hE.trans hX_S_10
        have hK_a0 : sK S_10 a0 = 17 := (hX_S_10.2 a0 hL_a0).1.trans hK_a0
        have hL_a0 : wM D S_10 a0 := hX_S_10.M hL_a0
        refine lv_if_eq (tgt := 39) hx hb dX12_isAttackedBy_34 (by decide) (fun c_11 => ?_) (fun c_11 => ?_)
        · replace hp := hp.1 c_11
          exact t_X12_isAttackedBy_39 F hr hlocks hK ih hp hW hE (lv_sub hl [0, 1, 2, 3, 4] rfl) hL_a0 hK_a0
        · replace hp := hp.2 c_11
          refine lv_iconst (v := 1) hx hb dX12_isAttackedBy_37 (by decide) ?_
          exact w_zret hx hb hr hlocks hW hp.1 ⟨hE, hp.2⟩ dX12_isAttackedBy_38
set_option maxHeartbeats 4000000 in
set_option maxRecDepth 100000 in
theorem t_X12_isAttackedBy_0 {p : Program} {l : Launch} {e : Env} {s : State} {m : MethodId} {args : Array Value} {below : List Frame} {meth : Method} {c : Code} {D : wD} {cy : Nat → ClassId} {X : va_W} {A : Nat → Prop} {S0 : wS} {post : Int32 → wS → Prop} (F : CallFix p m c cX12_isAttackedBy 5 s args wz_X12_isAttackedBy RX12) (hr : meth.sig.returnType = (some .boolean)) (hlocks : meth.locks = false) (hK : wK D cy A s) : ∀ {S : wS} {H : Heap} {locs : List Loc} {ls : Array Slot} {a0 : Nat} {x1 : Int32} {x2 : Int32} {x3 : Int32}, wp_X12_isAttackedBy_0 D post S a0 x1 x2 x3 → wO D cy X A s.heap S H locs → wX D S0 S → lv_has ls 5 [(0, .ref a0), (1, .int x1), (2, .int x2), (3, .int x3)] → wM D S a0 → sK S a0 = 17 → W p l e r_X12_isAttackedBy s m args below meth c H locs 0 0 (MQ below (va_Qi (fun r S9 => wX D S0 S9 ∧ post r S9) (wB D cy X A) A) args s 0 0 A) (F0 m 0 ls []) := by
  obtain ⟨hx, hb, hml, hown, hts⟩ := id F
  have hwg : ∀ w ∈ WG, w.before args s = true := fun w h => hts w (List.mem_cons_of_mem _ h)
  intro S H locs ls a0 x1 x2 x3 hp hW hE hl hL_a0 hK_a0
  unfold wp_X12_isAttackedBy_0 at hp
  refine lv_iconst (v := 0) hx hb dX12_isAttackedBy_0 (by decide) ?_
  refine lv_istore (lv' := [(4, .int (0 : Int32)), (0, .ref a0), (1, .int x1), (2, .int x2), (3, .int x3)]) hx hb dX12_isAttackedBy_1 hl (by decide) rfl (fun ls hl => ?_)
  obtain ⟨n_1, hp⟩ := hp
  exact t_X12_isAttackedBy_3 F hr hlocks hK n_1 hp hW hE (lv_sub hl [1, 2, 3, 4, 0] rfl) hL_a0 hK_a0
set_option maxHeartbeats 4000000 in
set_option maxRecDepth 100000 in
theorem c_X12_isAttackedBy (l : Launch) {D : wD} {cy : Nat → ClassId} {X : va_W} {S0 : wS} {post : Int32 → wS → Prop} {a0 : Nat} {x1 : Int32} {x2 : Int32} {x3 : Int32} (hL_a0 : wM D S0 a0) (hK_a0 : sK S0 a0 = 17) (hp : wp_X12_isAttackedBy D post S0 a0 x1 x2 x3) : mI D cy X l yX12_isAttackedBy wz_X12_isAttackedBy r_X12_isAttackedBy [.ref a0, .int x1, .int x2, .int x3] S0 (fun r S9 => wX D S0 S9 ∧ post r S9) := by
  intro sz
  refine Met.ofW (cc := cX12_isAttackedBy) (maxL := 5) (ret := (some .boolean)) (by decide) rfl ?_
  intro p e s m args below meth c s₁ B hml hv
  obtain ⟨rfl, hsz, hP, hK, hD0, hRO⟩ := hv
  have hts := atoms_spec (ws := wz_X12_isAttackedBy) B.pre
  have hown : s.vm.findClass RX12 = some m.cls := findClass_of_methodNamed B.named
  subst hsz
  have hD := hD0.self (sz := s.heap.size)
  have F : CallFix p m c cX12_isAttackedBy 5 s _ wz_X12_isAttackedBy RX12 := ⟨B.exec, B.bytes, hml, hown, hts⟩
  have hr := B.returns
  have hlocks := B.notSynchronized
  generalize hAe : va_A (wL cy X S0) s.heap.size = A at hD hK ⊢
  have hA : ∀ q, s.heap.size ≤ q → A q := fun q h => by rw [← hAe]; exact Or.inr h
  have hW : wO D cy X A s.heap S0 s.heap [] := ⟨hP, hD, va_S.rf, hA, hRO⟩
  have hl := lv_entry ([.ref a0, .int x1, .int x2, .int x3]) (n := 5) (Nat.le_of_ble_eq_true rfl)
  rw [lg_entry_eq]
  generalize (lg_sl ([.ref a0, .int x1, .int x2, .int x3]) ++ List.replicate (5 - (lg_sl ([.ref a0, .int x1, .int x2, .int x3])).length) Slot.unset).toArray = ls at hl ⊢
  have hl : lv_has ls 5 [(0, .ref a0), (1, .int x1), (2, .int x2), (3, .int x3)] := hl
  unfold wp_X12_isAttackedBy at hp
  exact t_X12_isAttackedBy_0 F hr hlocks hK hp hW wX.rf (lv_sub hl [0, 1, 2, 3] rfl) hL_a0 hK_a0
def wp_X12_kingOf_30 (D : wD) (post : Int32 → wS → Prop)  (S : wS) (x3 : Int32) : Prop :=
post x3 S
def wp_X12_kingOf_2 (D : wD) (post : Int32 → wS → Prop)  : Nat → wS → Nat → Int32 → Int32 → Int32 → Prop
  | 0, _, _, _, _, _ => False
  | n + 1, S, a0, x1, x2, x3 =>
    wp_X12_squares D (fun r_1 S_2 => 
    ((r_1 ≤ x3 → wp_X12_kingOf_30 D post S_2 x3) ∧
     (¬ r_1 ≤ x3 → wp_X12_on D (fun r_4 S_5 => 
    wp_X12_pieceOf D (fun r_6 S_7 => 
    ((r_4 = r_6 → wp_X12_kingOf_30 D post S_7 x3) ∧
     (¬ r_4 = r_6 → ∀ x_9 : Int32, x_9 = x3 + 1 →
    wp_X12_kingOf_2 D post n S_7 a0 x1 x2 x_9))) S_5 (1 : Int32) x2) S_2 a0 x1 x3))) S a0
def wp_X12_kingOf_0 (D : wD) (post : Int32 → wS → Prop)  (S : wS) (a0 : Nat) (x1 : Int32) (x2 : Int32) : Prop :=
∃ n_1 : Nat, wp_X12_kingOf_2 D post n_1 S a0 x1 x2 (0 : Int32)
abbrev r_X12_kingOf : Room := { frames := 1, cells := 0, slots := 0, locals := 22 }
def wp_X12_kingOf (D : wD) (post : Int32 → wS → Prop) (S : wS) (a0 : Nat) (x1 : Int32) (x2 : Int32) : Prop := wp_X12_kingOf_0 D post S a0 x1 x2
set_option maxHeartbeats 4000000 in
set_option maxRecDepth 100000 in
theorem t_X12_kingOf_30 {p : Program} {l : Launch} {e : Env} {s : State} {m : MethodId} {args : Array Value} {below : List Frame} {meth : Method} {c : Code} {D : wD} {cy : Nat → ClassId} {X : va_W} {A : Nat → Prop} {S0 : wS} {post : Int32 → wS → Prop} (F : CallFix p m c cX12_kingOf 4 s args wz_X12_kingOf RX12) (hr : meth.sig.returnType = (some .int)) (hlocks : meth.locks = false) (hK : wK D cy A s) : ∀ {S : wS} {H : Heap} {locs : List Loc} {ls : Array Slot} {x3 : Int32}, wp_X12_kingOf_30 D post S x3 → wO D cy X A s.heap S H locs → wX D S0 S → lv_has ls 4 [(3, .int x3)] → W p l e r_X12_kingOf s m args below meth c H locs 0 0 (MQ below (va_Qi (fun r S9 => wX D S0 S9 ∧ post r S9) (wB D cy X A) A) args s 0 0 A) (F0 m 30 ls []) := by
  obtain ⟨hx, hb, hml, hown, hts⟩ := id F
  have hwg : ∀ w ∈ WG, w.before args s = true := fun w h => hts w (List.mem_cons_of_mem _ h)
  intro S H locs ls x3 hp hW hE hl
  unfold wp_X12_kingOf_30 at hp
  refine lv_iload_n hx hb dX12_kingOf_30 rfl (lv_at hl 0 rfl) ?_
  exact w_iret hx hb hr hlocks hW ⟨hE, hp⟩ dX12_kingOf_31
set_option maxHeartbeats 4000000 in
set_option maxRecDepth 100000 in
theorem t_X12_kingOf_2 {p : Program} {l : Launch} {e : Env} {s : State} {m : MethodId} {args : Array Value} {below : List Frame} {meth : Method} {c : Code} {D : wD} {cy : Nat → ClassId} {X : va_W} {A : Nat → Prop} {S0 : wS} {post : Int32 → wS → Prop} (F : CallFix p m c cX12_kingOf 4 s args wz_X12_kingOf RX12) (hr : meth.sig.returnType = (some .int)) (hlocks : meth.locks = false) (hK : wK D cy A s) : ∀ (n : Nat) {S : wS} {H : Heap} {locs : List Loc} {ls : Array Slot} {a0 : Nat} {x1 : Int32} {x2 : Int32} {x3 : Int32}, wp_X12_kingOf_2 D post n S a0 x1 x2 x3 → wO D cy X A s.heap S H locs → wX D S0 S → lv_has ls 4 [(0, .ref a0), (1, .int x1), (2, .int x2), (3, .int x3)] → wM D S a0 → sK S a0 = 17 → W p l e r_X12_kingOf s m args below meth c H locs 0 0 (MQ below (va_Qi (fun r S9 => wX D S0 S9 ∧ post r S9) (wB D cy X A) A) args s 0 0 A) (F0 m 2 ls []) := by
  obtain ⟨hx, hb, hml, hown, hts⟩ := id F
  have hwg : ∀ w ∈ WG, w.before args s = true := fun w h => hts w (List.mem_cons_of_mem _ h)
  intro n
  induction n with
  | zero =>
    intro S H locs ls a0 x1 x2 x3 hp
    exact hp.elim
  | succ n ih =>
    intro S H locs ls a0 x1 x2 x3 hp hW hE hl hL_a0 hK_a0
    unfold wp_X12_kingOf_2 at hp
    refine lv_iload_n hx hb dX12_kingOf_2 rfl (lv_at hl 3 rfl) ?_
    refine lv_aload_n hx hb dX12_kingOf_3 rfl (lv_at hl 0 rfl) ?_
    refine w_callI (va_runV (As := []) (rest := [.int x3]) F (c_X12_squares l hL_a0 hK_a0 hp H.size) (cwV (C := RX12) 0 hts (wg_V wm_RX12_113 wy_X12_squares) rfl rfl rfl (by decide +kernel) ⟨Nat.le_of_ble_eq_true rfl, Nat.le_of_ble_eq_true rfl⟩) (w_preV hK hW hL_a0 hK_a0 (by decide) rfl) rfl rfl hl.1 rfl (lv_room (Nat.le_of_ble_eq_true rfl)) dX12_kingOf_4 ⟨Nat.le_of_ble_eq_true rfl, Nat.le_of_ble_eq_true rfl⟩) hW (fun r_1 S_2 H locs hp hW => ?_)
    obtain ⟨hX_S_2, hp⟩ := hp
    refine W.widen (k := 0) (n := 0) (by decide) (by decide) ?_
    have hE := hE.trans hX_S_2
    have hK_a0 : sK S_2 a0 = 17 := (hX_S_2.2 a0 hL_a0).1.trans hK_a0
    have hL_a0 : wM D S_2 a0 := hX_S_2.M hL_a0
    refine lv_icmp_ge (tgt := 30) hx hb dX12_kingOf_7 (by decide) (fun c_3 => ?_) (fun c_3 => ?_)
    · replace hp := hp.1 c_3
      exact t_X12_kingOf_30 F hr hlocks hK hp hW hE (lv_sub hl [3] rfl)
    · replace hp := hp.2 c_3
      refine lv_aload_n hx hb dX12_kingOf_10 rfl (lv_at hl 0 rfl) ?_
      refine lv_iload_n hx hb dX12_kingOf_11 rfl (lv_at hl 1 rfl) ?_
      refine lv_iload_n hx hb dX12_kingOf_12 rfl (lv_at hl 3 rfl) ?_
      refine w_callI (va_runV (As := [.int x1, .int x3]) (rest := []) F (c_X12_on l hL_a0 hK_a0 hp H.size) (cwV (C := RX12) 2 hts (wg_V wm_RX12_141 wy_X12_on) rfl rfl rfl (by decide +kernel) ⟨Nat.le_of_ble_eq_true rfl, Nat.le_of_ble_eq_true rfl⟩) (w_preV hK hW hL_a0 hK_a0 (by decide) rfl) rfl rfl hl.1 rfl (lv_room (Nat.le_of_ble_eq_true rfl)) dX12_kingOf_13 ⟨Nat.le_of_ble_eq_true rfl, Nat.le_of_ble_eq_true rfl⟩) hW (fun r_4 S_5 H locs hp hW => ?_)
      obtain ⟨hX_S_5, hp⟩ := hp
      refine W.widen (k := 0) (n := 0) (by decide) (by decide) ?_
      have hE := hE.trans hX_S_5
      have hK_a0 : sK S_5 a0 = 17 := (hX_S_5.2 a0 hL_a0).1.trans hK_a0
      have hL_a0 : wM D S_5 a0 := hX_S_5.M hL_a0
      refine lv_iconst (v := 1) hx hb dX12_kingOf_16 (by decide) ?_
      refine lv_iload_n hx hb dX12_kingOf_17 rfl (lv_at hl 2 rfl) ?_
      refine w_callI (va_runS (As := [.int (1 : Int32), .int x2]) (rest := [.int r_4]) F (c_X12_pieceOf l hp H.size) (va_cwS 2 hts (wg_S wm_RX12_161 wy_X12_pieceOf) rfl rfl rfl (by decide +kernel) ⟨Nat.le_of_ble_eq_true rfl, Nat.le_of_ble_eq_true rfl⟩) (w_preS hK hW) rfl rfl hl.1 rfl (lv_room (Nat.le_of_ble_eq_true rfl)) dX12_kingOf_18 ⟨Nat.le_of_ble_eq_true rfl, Nat.le_of_ble_eq_true rfl⟩) hW (fun r_6 S_7 H locs hp hW => ?_)
      obtain ⟨hX_S_7, hp⟩ := hp
      refine W.widen (k := 0) (n := 0) (by decide) (by decide) ?_
      have hE := hE.trans hX_S_7
      have hK_a0 : sK S_7 a0 = 17 := (hX_S_7.2 a0 hL_a0).1.trans hK_a0
      have hL_a0 : wM D S_7 a0 := hX_S_7.M hL_a0
      refine lv_icmp_eq (tgt := 30) hx hb dX12_kingOf_21 (by decide) (fun c_8 => ?_) (fun c_8 => ?_)
      · replace hp := hp.1 c_8
        exact t_X12_kingOf_30 F hr hlocks hK hp hW hE (lv_sub hl [3] rfl)
      · replace hp := hp.2 c_8
        obtain ⟨x_9, ex_9⟩ : ∃ z : Int32, z = x3 + 1 := ⟨_, rfl⟩
        replace hp := hp x_9 ex_9
        refine lv_iinc (v := x_9) (lv' := [(3, .int x_9), (0, .ref a0), (1, .int x1), (2, .int x2)]) hx hb dX12_kingOf_24 hl (k := 3) rfl (by rw [ex_9]; rfl) (by decide) rfl (fun ls hl => ?_)
        refine lv_goto (tgt := 2) hx hb dX12_kingOf_27 (by decide) ?_
        exact ih hp hW hE (lv_sub hl [1, 2, 3, 0] rfl) hL_a0 hK_a0
set_option maxHeartbeats 4000000 in
set_option maxRecDepth 100000 in
theorem t_X12_kingOf_0 {p : Program} {l : Launch} {e : Env} {s : State} {m : MethodId} {args : Array Value} {below : List Frame} {meth : Method} {c : Code} {D : wD} {cy : Nat → ClassId} {X : va_W} {A : Nat → Prop} {S0 : wS} {post : Int32 → wS → Prop} (F : CallFix p m c cX12_kingOf 4 s args wz_X12_kingOf RX12) (hr : meth.sig.returnType = (some .int)) (hlocks : meth.locks = false) (hK : wK D cy A s) : ∀ {S : wS} {H : Heap} {locs : List Loc} {ls : Array Slot} {a0 : Nat} {x1 : Int32} {x2 : Int32}, wp_X12_kingOf_0 D post S a0 x1 x2 → wO D cy X A s.heap S H locs → wX D S0 S → lv_has ls 4 [(0, .ref a0), (1, .int x1), (2, .int x2)] → wM D S a0 → sK S a0 = 17 → W p l e r_X12_kingOf s m args below meth c H locs 0 0 (MQ below (va_Qi (fun r S9 => wX D S0 S9 ∧ post r S9) (wB D cy X A) A) args s 0 0 A) (F0 m 0 ls []) := by
  obtain ⟨hx, hb, hml, hown, hts⟩ := id F
  have hwg : ∀ w ∈ WG, w.before args s = true := fun w h => hts w (List.mem_cons_of_mem _ h)
  intro S H locs ls a0 x1 x2 hp hW hE hl hL_a0 hK_a0
  unfold wp_X12_kingOf_0 at hp
  refine lv_iconst (v := 0) hx hb dX12_kingOf_0 (by decide) ?_
  refine lv_istore_n (lv' := [(3, .int (0 : Int32)), (0, .ref a0), (1, .int x1), (2, .int x2)]) hx hb dX12_kingOf_1 rfl hl (by decide) rfl (fun ls hl => ?_)
  obtain ⟨n_1, hp⟩ := hp
  exact t_X12_kingOf_2 F hr hlocks hK n_1 hp hW hE (lv_sub hl [1, 2, 3, 0] rfl) hL_a0 hK_a0
set_option maxHeartbeats 4000000 in
set_option maxRecDepth 100000 in
theorem c_X12_kingOf (l : Launch) {D : wD} {cy : Nat → ClassId} {X : va_W} {S0 : wS} {post : Int32 → wS → Prop} {a0 : Nat} {x1 : Int32} {x2 : Int32} (hL_a0 : wM D S0 a0) (hK_a0 : sK S0 a0 = 17) (hp : wp_X12_kingOf D post S0 a0 x1 x2) : mI D cy X l yX12_kingOf wz_X12_kingOf r_X12_kingOf [.ref a0, .int x1, .int x2] S0 (fun r S9 => wX D S0 S9 ∧ post r S9) := by
  intro sz
  refine Met.ofW (cc := cX12_kingOf) (maxL := 4) (ret := (some .int)) (by decide) rfl ?_
  intro p e s m args below meth c s₁ B hml hv
  obtain ⟨rfl, hsz, hP, hK, hD0, hRO⟩ := hv
  have hts := atoms_spec (ws := wz_X12_kingOf) B.pre
  have hown : s.vm.findClass RX12 = some m.cls := findClass_of_methodNamed B.named
  subst hsz
  have hD := hD0.self (sz := s.heap.size)
  have F : CallFix p m c cX12_kingOf 4 s _ wz_X12_kingOf RX12 := ⟨B.exec, B.bytes, hml, hown, hts⟩
  have hr := B.returns
  have hlocks := B.notSynchronized
  generalize hAe : va_A (wL cy X S0) s.heap.size = A at hD hK ⊢
  have hA : ∀ q, s.heap.size ≤ q → A q := fun q h => by rw [← hAe]; exact Or.inr h
  have hW : wO D cy X A s.heap S0 s.heap [] := ⟨hP, hD, va_S.rf, hA, hRO⟩
  have hl := lv_entry ([.ref a0, .int x1, .int x2]) (n := 4) (Nat.le_of_ble_eq_true rfl)
  rw [lg_entry_eq]
  generalize (lg_sl ([.ref a0, .int x1, .int x2]) ++ List.replicate (4 - (lg_sl ([.ref a0, .int x1, .int x2])).length) Slot.unset).toArray = ls at hl ⊢
  have hl : lv_has ls 4 [(0, .ref a0), (1, .int x1), (2, .int x2)] := hl
  unfold wp_X12_kingOf at hp
  exact t_X12_kingOf_0 F hr hlocks hK hp hW wX.rf (lv_sub hl [0, 1, 2] rfl) hL_a0 hK_a0
def wp_X12_isInCheck_0 (D : wD) (post : Int32 → wS → Prop)  (S : wS) (a0 : Nat) (x1 : Int32) (x2 : Int32) : Prop :=
wp_X12_kingOf D (fun r_1 S_2 => 
wp_X12_isAttackedBy D (fun r_3 S_4 => 
narrow .boolean (.int r_3) = .int r_3 ∧ post r_3 S_4) S_2 a0 x1 r_1 ((1 : Int32) - x2)) S a0 x1 x2
abbrev r_X12_isInCheck : Room := { frames := 4, cells := 0, slots := 0, locals := 99 }
def wp_X12_isInCheck (D : wD) (post : Int32 → wS → Prop) (S : wS) (a0 : Nat) (x1 : Int32) (x2 : Int32) : Prop := wp_X12_isInCheck_0 D post S a0 x1 x2
set_option maxHeartbeats 4000000 in
set_option maxRecDepth 100000 in
theorem t_X12_isInCheck_0 {p : Program} {l : Launch} {e : Env} {s : State} {m : MethodId} {args : Array Value} {below : List Frame} {meth : Method} {c : Code} {D : wD} {cy : Nat → ClassId} {X : va_W} {A : Nat → Prop} {S0 : wS} {post : Int32 → wS → Prop} (F : CallFix p m c cX12_isInCheck 3 s args wz_X12_isInCheck RX12) (hr : meth.sig.returnType = (some .boolean)) (hlocks : meth.locks = false) (hK : wK D cy A s) : ∀ {S : wS} {H : Heap} {locs : List Loc} {ls : Array Slot} {a0 : Nat} {x1 : Int32} {x2 : Int32}, wp_X12_isInCheck_0 D post S a0 x1 x2 → wO D cy X A s.heap S H locs → wX D S0 S → lv_has ls 3 [(0, .ref a0), (1, .int x1), (2, .int x2)] → wM D S a0 → sK S a0 = 17 → W p l e r_X12_isInCheck s m args below meth c H locs 0 0 (MQ below (va_Qi (fun r S9 => wX D S0 S9 ∧ post r S9) (wB D cy X A) A) args s 0 0 A) (F0 m 0 ls []) := by
  obtain ⟨hx, hb, hml, hown, hts⟩ := id F
  have hwg : ∀ w ∈ WG, w.before args s = true := fun w h => hts w (List.mem_cons_of_mem _ h)
  intro S H locs ls a0 x1 x2 hp hW hE hl hL_a0 hK_a0
  unfold wp_X12_isInCheck_0 at hp
  refine lv_aload_n hx hb dX12_isInCheck_0 rfl (lv_at hl 0 rfl) ?_
  refine lv_iload_n hx hb dX12_isInCheck_1 rfl (lv_at hl 1 rfl) ?_
  refine lv_aload_n hx hb dX12_isInCheck_2 rfl (lv_at hl 0 rfl) ?_
  refine lv_iload_n hx hb dX12_isInCheck_3 rfl (lv_at hl 1 rfl) ?_
  refine lv_iload_n hx hb dX12_isInCheck_4 rfl (lv_at hl 2 rfl) ?_
  refine w_callI (va_runV (As := [.int x1, .int x2]) (rest := [.int x1, .ref a0]) F (c_X12_kingOf l hL_a0 hK_a0 hp H.size) (cwV (C := RX12) 2 hts (wg_V wm_RX12_164 wy_X12_kingOf) rfl rfl rfl (by decide +kernel) ⟨Nat.le_of_ble_eq_true rfl, Nat.le_of_ble_eq_true rfl⟩) (w_preV hK hW hL_a0 hK_a0 (by decide) rfl) rfl rfl hl.1 rfl (lv_room (Nat.le_of_ble_eq_true rfl)) dX12_isInCheck_5 ⟨Nat.le_of_ble_eq_true rfl, Nat.le_of_ble_eq_true rfl⟩) hW (fun r_1 S_2 H locs hp hW => ?_)
  obtain ⟨hX_S_2, hp⟩ := hp
  refine W.widen (k := 0) (n := 0) (by decide) (by decide) ?_
  have hE := hE.trans hX_S_2
  have hK_a0 : sK S_2 a0 = 17 := (hX_S_2.2 a0 hL_a0).1.trans hK_a0
  have hL_a0 : wM D S_2 a0 := hX_S_2.M hL_a0
  refine lv_iconst (v := 1) hx hb dX12_isInCheck_8 (by decide) ?_
  refine lv_iload_n hx hb dX12_isInCheck_9 rfl (lv_at hl 2 rfl) ?_
  refine lv_isub hx hb dX12_isInCheck_10 ?_
  refine w_callI (va_runV (As := [.int x1, .int r_1, .int ((1 : Int32) - x2)]) (rest := []) F (c_X12_isAttackedBy l hL_a0 hK_a0 hp H.size) (cwV (C := RX12) 3 hts (wg_V wm_RX12_167 wy_X12_isAttackedBy) rfl rfl rfl (by decide +kernel) ⟨Nat.le_of_ble_eq_true rfl, Nat.le_of_ble_eq_true rfl⟩) (w_preV hK hW hL_a0 hK_a0 (by decide) rfl) rfl rfl hl.1 rfl (lv_room (Nat.le_of_ble_eq_true rfl)) dX12_isInCheck_11 ⟨Nat.le_of_ble_eq_true rfl, Nat.le_of_ble_eq_true rfl⟩) hW (fun r_3 S_4 H locs hp hW => ?_)
  obtain ⟨hX_S_4, hp⟩ := hp
  refine W.widen (k := 0) (n := 0) (by decide) (by decide) ?_
  have hE := hE.trans hX_S_4
  have hK_a0 : sK S_4 a0 = 17 := (hX_S_4.2 a0 hL_a0).1.trans hK_a0
  have hL_a0 : wM D S_4 a0 := hX_S_4.M hL_a0
  exact w_zret hx hb hr hlocks hW hp.1 ⟨hE, hp.2⟩ dX12_isInCheck_14
set_option maxHeartbeats 4000000 in
set_option maxRecDepth 100000 in
theorem c_X12_isInCheck (l : Launch) {D : wD} {cy : Nat → ClassId} {X : va_W} {S0 : wS} {post : Int32 → wS → Prop} {a0 : Nat} {x1 : Int32} {x2 : Int32} (hL_a0 : wM D S0 a0) (hK_a0 : sK S0 a0 = 17) (hp : wp_X12_isInCheck D post S0 a0 x1 x2) : mI D cy X l yX12_isInCheck wz_X12_isInCheck r_X12_isInCheck [.ref a0, .int x1, .int x2] S0 (fun r S9 => wX D S0 S9 ∧ post r S9) := by
  intro sz
  refine Met.ofW (cc := cX12_isInCheck) (maxL := 3) (ret := (some .boolean)) (by decide) rfl ?_
  intro p e s m args below meth c s₁ B hml hv
  obtain ⟨rfl, hsz, hP, hK, hD0, hRO⟩ := hv
  have hts := atoms_spec (ws := wz_X12_isInCheck) B.pre
  have hown : s.vm.findClass RX12 = some m.cls := findClass_of_methodNamed B.named
  subst hsz
  have hD := hD0.self (sz := s.heap.size)
  have F : CallFix p m c cX12_isInCheck 3 s _ wz_X12_isInCheck RX12 := ⟨B.exec, B.bytes, hml, hown, hts⟩
  have hr := B.returns
  have hlocks := B.notSynchronized
  generalize hAe : va_A (wL cy X S0) s.heap.size = A at hD hK ⊢
  have hA : ∀ q, s.heap.size ≤ q → A q := fun q h => by rw [← hAe]; exact Or.inr h
  have hW : wO D cy X A s.heap S0 s.heap [] := ⟨hP, hD, va_S.rf, hA, hRO⟩
  have hl := lv_entry ([.ref a0, .int x1, .int x2]) (n := 3) (Nat.le_of_ble_eq_true rfl)
  rw [lg_entry_eq]
  generalize (lg_sl ([.ref a0, .int x1, .int x2]) ++ List.replicate (3 - (lg_sl ([.ref a0, .int x1, .int x2])).length) Slot.unset).toArray = ls at hl ⊢
  have hl : lv_has ls 3 [(0, .ref a0), (1, .int x1), (2, .int x2)] := hl
  unfold wp_X12_isInCheck at hp
  exact t_X12_isInCheck_0 F hr hlocks hK hp hW wX.rf (lv_sub hl [0, 1, 2] rfl) hL_a0 hK_a0
def wp_X12_side_0 (D : wD) (post : Int32 → wS → Prop)  (S : wS) (a0 : Nat) (x1 : Int32) : Prop :=
∃ y_1 : Nat, sR S a0 3 = some y_1 ∧ wM D S y_1 ∧ sK S y_1 = 21 ∧
vp_in (((67 : Int32) * x1) + (64 : Int32)) (sN S y_1) ∧
post (sI S y_1 ((((67 : Int32) * x1) + (64 : Int32))).toNatClampNeg) S
abbrev r_X12_side : Room := { frames := 0, cells := 0, slots := 0, locals := 0 }
def wp_X12_side (D : wD) (post : Int32 → wS → Prop) (S : wS) (a0 : Nat) (x1 : Int32) : Prop := wp_X12_side_0 D post S a0 x1
set_option maxHeartbeats 4000000 in
set_option maxRecDepth 100000 in
theorem t_X12_side_0 {p : Program} {l : Launch} {e : Env} {s : State} {m : MethodId} {args : Array Value} {below : List Frame} {meth : Method} {c : Code} {D : wD} {cy : Nat → ClassId} {X : va_W} {A : Nat → Prop} {S0 : wS} {post : Int32 → wS → Prop} (F : CallFix p m c cX12_side 2 s args wz_X12_side RX12) (hr : meth.sig.returnType = (some .int)) (hlocks : meth.locks = false) (hK : wK D cy A s) : ∀ {S : wS} {H : Heap} {locs : List Loc} {ls : Array Slot} {a0 : Nat} {x1 : Int32}, wp_X12_side_0 D post S a0 x1 → wO D cy X A s.heap S H locs → wX D S0 S → lv_has ls 2 [(0, .ref a0), (1, .int x1)] → wM D S a0 → sK S a0 = 17 → W p l e r_X12_side s m args below meth c H locs 0 0 (MQ below (va_Qi (fun r S9 => wX D S0 S9 ∧ post r S9) (wB D cy X A) A) args s 0 0 A) (F0 m 0 ls []) := by
  obtain ⟨hx, hb, hml, hown, hts⟩ := id F
  have hwg : ∀ w ∈ WG, w.before args s = true := fun w h => hts w (List.mem_cons_of_mem _ h)
  have i_17 : ∀ w ∈ u_ws RX12 TX12 43, w ∈ wz_X12_side := fun w h => List.mem_cons_of_mem _ (wu_17 w h)
  have k_16 := hwg _ wf_RX12_16
  intro S H locs ls a0 x1 hp hW hE hl hL_a0 hK_a0
  unfold wp_X12_side_0 at hp
  refine lv_aload_n hx hb dX12_side_0 rfl (lv_at hl 0 rfl) ?_
  obtain ⟨y_1, ey_1, hL_y_1, hK_y_1, hp⟩ := hp
  refine w_get (k := 17) (f := 3) (T := TX12) (v := .ref y_1) F hK hW hL_a0 hK_a0 (by decide) rfl rfl (by decide) i_17 k_16 (by rw [show wv 17 3 S a0 = va_rf (sR S a0 3) from rfl, ey_1]; rfl) dX12_side_1 ?_
  refine lv_bipush (v := 67) hx hb dX12_side_4 (by decide) ?_
  refine lv_iload_n hx hb dX12_side_6 rfl (lv_at hl 1 rfl) ?_
  refine lv_imul hx hb dX12_side_7 ?_
  refine lv_bipush (v := 64) hx hb dX12_side_8 (by decide) ?_
  refine lv_iadd hx hb dX12_side_10 ?_
  obtain ⟨h_2, hp⟩ := hp
  refine w_ild F hK hW hL_y_1 hK_y_1 h_2 dX12_side_11 ?_
  exact w_iret hx hb hr hlocks hW ⟨hE, hp⟩ dX12_side_12
set_option maxHeartbeats 4000000 in
set_option maxRecDepth 100000 in
theorem c_X12_side (l : Launch) {D : wD} {cy : Nat → ClassId} {X : va_W} {S0 : wS} {post : Int32 → wS → Prop} {a0 : Nat} {x1 : Int32} (hL_a0 : wM D S0 a0) (hK_a0 : sK S0 a0 = 17) (hp : wp_X12_side D post S0 a0 x1) : mI D cy X l yX12_side wz_X12_side r_X12_side [.ref a0, .int x1] S0 (fun r S9 => wX D S0 S9 ∧ post r S9) := by
  intro sz
  refine Met.ofW (cc := cX12_side) (maxL := 2) (ret := (some .int)) (by decide) rfl ?_
  intro p e s m args below meth c s₁ B hml hv
  obtain ⟨rfl, hsz, hP, hK, hD0, hRO⟩ := hv
  have hts := atoms_spec (ws := wz_X12_side) B.pre
  have hown : s.vm.findClass RX12 = some m.cls := findClass_of_methodNamed B.named
  subst hsz
  have hD := hD0.self (sz := s.heap.size)
  have F : CallFix p m c cX12_side 2 s _ wz_X12_side RX12 := ⟨B.exec, B.bytes, hml, hown, hts⟩
  have hr := B.returns
  have hlocks := B.notSynchronized
  generalize hAe : va_A (wL cy X S0) s.heap.size = A at hD hK ⊢
  have hA : ∀ q, s.heap.size ≤ q → A q := fun q h => by rw [← hAe]; exact Or.inr h
  have hW : wO D cy X A s.heap S0 s.heap [] := ⟨hP, hD, va_S.rf, hA, hRO⟩
  have hl := lv_entry ([.ref a0, .int x1]) (n := 2) (Nat.le_of_ble_eq_true rfl)
  rw [lg_entry_eq]
  generalize (lg_sl ([.ref a0, .int x1]) ++ List.replicate (2 - (lg_sl ([.ref a0, .int x1])).length) Slot.unset).toArray = ls at hl ⊢
  have hl : lv_has ls 2 [(0, .ref a0), (1, .int x1)] := hl
  unfold wp_X12_side at hp
  exact t_X12_side_0 F hr hlocks hK hp hW wX.rf (lv_sub hl [0, 1] rfl) hL_a0 hK_a0
def wp_X12_isProperAt_109 (D : wD) (post : Int32 → wS → Prop)  (S : wS) (t0 : Int32) : Prop :=
narrow .boolean (.int t0) = .int t0 ∧ post t0 S
def wp_X12_isProperAt_81 (D : wD) (post : Int32 → wS → Prop)  (S : wS) : Prop :=
narrow .boolean (.int (0 : Int32)) = .int (0 : Int32) ∧ post (0 : Int32) S
def wp_X12_isProperAt_33 (D : wD) (post : Int32 → wS → Prop)  : Nat → wS → Nat → Int32 → Int32 → Prop
  | 0, _, _, _, _ => False
  | n + 1, S, a0, x1, x2 =>
    (((sI S a0 1) ≤ x2 → wp_X12_side D (fun r_2 S_3 => 
    wp_X12_isInCheck D (fun r_4 S_5 => 
    ((¬ r_4 = 0 → wp_X12_isProperAt_109 D post S_5 (0 : Int32)) ∧
     (r_4 = 0 → wp_X12_isProperAt_109 D post S_5 (1 : Int32)))) S_3 a0 x1 ((1 : Int32) - r_2)) S a0 x1) ∧
     (¬ (sI S a0 1) ≤ x2 → wp_X12_on D (fun r_7 S_8 => 
    wp_X12_kindOf D (fun r_9 S_10 => 
    ((r_9 = (6 : Int32) → wp_X12_isProperAt_81 D post S_10) ∧
     (¬ r_9 = (6 : Int32) → wp_X12_on D (fun r_12 S_13 => 
    wp_X12_kindOf D (fun r_14 S_15 => 
    ((¬ r_14 = (6 : Int32) → ∀ x_17 : Int32, x_17 = x2 + 1 →
    wp_X12_isProperAt_33 D post n S_15 a0 x1 x_17) ∧
     (r_14 = (6 : Int32) → wp_X12_isProperAt_81 D post S_15))) S_13 r_12) S_10 a0 x1 (((sI S_10 a0 1) * ((sI S_10 a0 2) - (1 : Int32))) + x2)))) S_8 r_7) S a0 x1 x2))
def wp_X12_isProperAt_29 (D : wD) (post : Int32 → wS → Prop)  (S : wS) : Prop :=
narrow .boolean (.int (0 : Int32)) = .int (0 : Int32) ∧ post (0 : Int32) S
def wp_X12_isProperAt_0 (D : wD) (post : Int32 → wS → Prop)  (S : wS) (a0 : Nat) (x1 : Int32) : Prop :=
wp_X12_counts D (fun r_1 S_2 => 
((¬ r_1 = (1 : Int32) → wp_X12_isProperAt_29 D post S_2) ∧
 (r_1 = (1 : Int32) → wp_X12_counts D (fun r_4 S_5 => 
((¬ r_4 = (1 : Int32) → wp_X12_isProperAt_29 D post S_5) ∧
 (r_4 = (1 : Int32) → wp_X12_areSound D (fun r_7 S_8 => 
((¬ r_7 = 0 → ∃ n_10 : Nat, wp_X12_isProperAt_33 D post n_10 S_8 a0 x1 (0 : Int32)) ∧
 (r_7 = 0 → wp_X12_isProperAt_29 D post S_8))) S_5 a0 x1))) S_2 a0 x1 (7 : Int32)))) S a0 x1 (1 : Int32)
abbrev r_X12_isProperAt : Room := { frames := 5, cells := 0, slots := 0, locals := 121 }
def wp_X12_isProperAt (D : wD) (post : Int32 → wS → Prop) (S : wS) (a0 : Nat) (x1 : Int32) : Prop := wp_X12_isProperAt_0 D post S a0 x1
set_option maxHeartbeats 4000000 in
set_option maxRecDepth 100000 in
theorem t_X12_isProperAt_109 {p : Program} {l : Launch} {e : Env} {s : State} {m : MethodId} {args : Array Value} {below : List Frame} {meth : Method} {c : Code} {D : wD} {cy : Nat → ClassId} {X : va_W} {A : Nat → Prop} {S0 : wS} {post : Int32 → wS → Prop} (F : CallFix p m c cX12_isProperAt 3 s args wz_X12_isProperAt RX12) (hr : meth.sig.returnType = (some .boolean)) (hlocks : meth.locks = false) (hK : wK D cy A s) : ∀ {S : wS} {H : Heap} {locs : List Loc} {ls : Array Slot} {t0 : Int32}, wp_X12_isProperAt_109 D post S t0 → wO D cy X A s.heap S H locs → wX D S0 S → lv_has ls 3 [] → W p l e r_X12_isProperAt s m args below meth c H locs 0 0 (MQ below (va_Qi (fun r S9 => wX D S0 S9 ∧ post r S9) (wB D cy X A) A) args s 0 0 A) (F0 m 109 ls [.int t0]) := by
  obtain ⟨hx, hb, hml, hown, hts⟩ := id F
  have hwg : ∀ w ∈ WG, w.before args s = true := fun w h => hts w (List.mem_cons_of_mem _ h)
  intro S H locs ls t0 hp hW hE hl
  unfold wp_X12_isProperAt_109 at hp
  exact w_zret hx hb hr hlocks hW hp.1 ⟨hE, hp.2⟩ dX12_isProperAt_109
set_option maxHeartbeats 4000000 in
set_option maxRecDepth 100000 in
theorem t_X12_isProperAt_81 {p : Program} {l : Launch} {e : Env} {s : State} {m : MethodId} {args : Array Value} {below : List Frame} {meth : Method} {c : Code} {D : wD} {cy : Nat → ClassId} {X : va_W} {A : Nat → Prop} {S0 : wS} {post : Int32 → wS → Prop} (F : CallFix p m c cX12_isProperAt 3 s args wz_X12_isProperAt RX12) (hr : meth.sig.returnType = (some .boolean)) (hlocks : meth.locks = false) (hK : wK D cy A s) : ∀ {S : wS} {H : Heap} {locs : List Loc} {ls : Array Slot}, wp_X12_isProperAt_81 D post S → wO D cy X A s.heap S H locs → wX D S0 S → lv_has ls 3 [] → W p l e r_X12_isProperAt s m args below meth c H locs 0 0 (MQ below (va_Qi (fun r S9 => wX D S0 S9 ∧ post r S9) (wB D cy X A) A) args s 0 0 A) (F0 m 81 ls []) := by
  obtain ⟨hx, hb, hml, hown, hts⟩ := id F
  have hwg : ∀ w ∈ WG, w.before args s = true := fun w h => hts w (List.mem_cons_of_mem _ h)
  intro S H locs ls hp hW hE hl
  unfold wp_X12_isProperAt_81 at hp
  refine lv_iconst (v := 0) hx hb dX12_isProperAt_81 (by decide) ?_
  exact w_zret hx hb hr hlocks hW hp.1 ⟨hE, hp.2⟩ dX12_isProperAt_82
set_option maxHeartbeats 4000000 in
set_option maxRecDepth 100000 in
theorem t_X12_isProperAt_33 {p : Program} {l : Launch} {e : Env} {s : State} {m : MethodId} {args : Array Value} {below : List Frame} {meth : Method} {c : Code} {D : wD} {cy : Nat → ClassId} {X : va_W} {A : Nat → Prop} {S0 : wS} {post : Int32 → wS → Prop} (F : CallFix p m c cX12_isProperAt 3 s args wz_X12_isProperAt RX12) (hr : meth.sig.returnType = (some .boolean)) (hlocks : meth.locks = false) (hK : wK D cy A s) : ∀ (n : Nat) {S : wS} {H : Heap} {locs : List Loc} {ls : Array Slot} {a0 : Nat} {x1 : Int32} {x2 : Int32}, wp_X12_isProperAt_33 D post n S a0 x1 x2 → wO D cy X A s.heap S H locs → wX D S0 S → lv_has ls 3 [(0, .ref a0), (1, .int x1), (2, .int x2)] → wM D S a0 → sK S a0 = 17 → W p l e r_X12_isProperAt s m args below meth c H locs 0 0 (MQ below (va_Qi (fun r S9 => wX D S0 S9 ∧ post r S9) (wB D cy X A) A) args s 0 0 A) (F0 m 33 ls []) := by
  obtain ⟨hx, hb, hml, hown, hts⟩ := id F
  have hwg : ∀ w ∈ WG, w.before args s = true := fun w h => hts w (List.mem_cons_of_mem _ h)
  have i_17 : ∀ w ∈ u_ws RX12 TX12 43, w ∈ wz_X12_isProperAt := fun w h => List.mem_cons_of_mem _ (wu_17 w h)
  have k_13 := hwg _ wf_RX12_13
  have k_9 := hwg _ wf_RX12_9
  intro n
  induction n with
  | zero =>
    intro S H locs ls a0 x1 x2 hp
    exact hp.elim
  | succ n ih =>
    intro S H locs ls a0 x1 x2 hp hW hE hl hL_a0 hK_a0
    unfold wp_X12_isProperAt_33 at hp
    refine lv_iload_n hx hb dX12_isProperAt_33 rfl (lv_at hl 2 rfl) ?_
    refine lv_aload_n hx hb dX12_isProperAt_34 rfl (lv_at hl 0 rfl) ?_
    refine w_get (k := 17) (f := 1) (T := TX12) (v := .int (sI S a0 1)) F hK hW hL_a0 hK_a0 (by decide) rfl rfl (by decide) i_17 k_9 rfl dX12_isProperAt_35 ?_
    refine lv_icmp_ge (tgt := 89) hx hb dX12_isProperAt_38 (by decide) (fun c_1 => ?_) (fun c_1 => ?_)
    · replace hp := hp.1 c_1
      refine lv_aload_n hx hb dX12_isProperAt_89 rfl (lv_at hl 0 rfl) ?_
      refine lv_iload_n hx hb dX12_isProperAt_90 rfl (lv_at hl 1 rfl) ?_
      refine lv_iconst (v := 1) hx hb dX12_isProperAt_91 (by decide) ?_
      refine lv_aload_n hx hb dX12_isProperAt_92 rfl (lv_at hl 0 rfl) ?_
      refine lv_iload_n hx hb dX12_isProperAt_93 rfl (lv_at hl 1 rfl) ?_
      refine w_callI (va_runV (As := [.int x1]) (rest := [.int (1 : Int32), .int x1, .ref a0]) F (c_X12_side l hL_a0 hK_a0 hp H.size) (cwV (C := RX12) 1 hts (wg_V wm_RX12_183 wy_X12_side) rfl rfl rfl (by decide +kernel) ⟨Nat.le_of_ble_eq_true rfl, Nat.le_of_ble_eq_true rfl⟩) (w_preV hK hW hL_a0 hK_a0 (by decide) rfl) rfl rfl hl.1 rfl (lv_room (Nat.le_of_ble_eq_true rfl)) dX12_isProperAt_94 ⟨Nat.le_of_ble_eq_true rfl, Nat.le_of_ble_eq_true rfl⟩) hW (fun r_2 S_3 H locs hp hW => ?_)
      obtain ⟨hX_S_3, hp⟩ := hp
      refine W.widen (k := 0) (n := 0) (by decide) (by decide) ?_
      have hE := hE.trans hX_S_3
      have hK_a0 : sK S_3 a0 = 17 := (hX_S_3.2 a0 hL_a0).1.trans hK_a0
      have hL_a0 : wM D S_3 a0 := hX_S_3.M hL_a0
      refine lv_isub hx hb dX12_isProperAt_97 ?_
      refine w_callI (va_runV (As := [.int x1, .int ((1 : Int32) - r_2)]) (rest := []) F (c_X12_isInCheck l hL_a0 hK_a0 hp H.size) (cwV (C := RX12) 2 hts (wg_V wm_RX12_186 wy_X12_isInCheck) rfl rfl rfl (by decide +kernel) ⟨Nat.le_of_ble_eq_true rfl, Nat.le_of_ble_eq_true rfl⟩) (w_preV hK hW hL_a0 hK_a0 (by decide) rfl) rfl rfl hl.1 rfl (lv_room (Nat.le_of_ble_eq_true rfl)) dX12_isProperAt_98 ⟨Nat.le_of_ble_eq_true rfl, Nat.le_of_ble_eq_true rfl⟩) hW (fun r_4 S_5 H locs hp hW => ?_)
      obtain ⟨hX_S_5, hp⟩ := hp
      refine W.widen (k := 0) (n := 0) (by decide) (by decide) ?_
      have hE := hE.trans hX_S_5
      have hK_a0 : sK S_5 a0 = 17 := (hX_S_5.2 a0 hL_a0).1.trans hK_a0
      have hL_a0 : wM D S_5 a0 := hX_S_5.M hL_a0
      refine lv_if_ne (tgt := 108) hx hb dX12_isProperAt_101 (by decide) (fun c_6 => ?_) (fun c_6 => ?_)
      · replace hp := hp.1 c_6
        refine lv_iconst (v := 0) hx hb dX12_isProperAt_108 (by decide) ?_
        exact t_X12_isProperAt_109 F hr hlocks hK hp hW hE (lv_sub hl [] rfl)
      · replace hp := hp.2 c_6
        refine lv_iconst (v := 1) hx hb dX12_isProperAt_104 (by decide) ?_
        refine lv_goto (tgt := 109) hx hb dX12_isProperAt_105 (by decide) ?_
        exact t_X12_isProperAt_109 F hr hlocks hK hp hW hE (lv_sub hl [] rfl)
    · replace hp := hp.2 c_1
      refine lv_aload_n hx hb dX12_isProperAt_41 rfl (lv_at hl 0 rfl) ?_
      refine lv_iload_n hx hb dX12_isProperAt_42 rfl (lv_at hl 1 rfl) ?_
      refine lv_iload_n hx hb dX12_isProperAt_43 rfl (lv_at hl 2 rfl) ?_
      refine w_callI (va_runV (As := [.int x1, .int x2]) (rest := []) F (c_X12_on l hL_a0 hK_a0 hp H.size) (cwV (C := RX12) 2 hts (wg_V wm_RX12_141 wy_X12_on) rfl rfl rfl (by decide +kernel) ⟨Nat.le_of_ble_eq_true rfl, Nat.le_of_ble_eq_true rfl⟩) (w_preV hK hW hL_a0 hK_a0 (by decide) rfl) rfl rfl hl.1 rfl (lv_room (Nat.le_of_ble_eq_true rfl)) dX12_isProperAt_44 ⟨Nat.le_of_ble_eq_true rfl, Nat.le_of_ble_eq_true rfl⟩) hW (fun r_7 S_8 H locs hp hW => ?_)
      obtain ⟨hX_S_8, hp⟩ := hp
      refine W.widen (k := 0) (n := 0) (by decide) (by decide) ?_
      have hE := hE.trans hX_S_8
      have hK_a0 : sK S_8 a0 = 17 := (hX_S_8.2 a0 hL_a0).1.trans hK_a0
      have hL_a0 : wM D S_8 a0 := hX_S_8.M hL_a0
      refine w_callI (va_runS (As := [.int r_7]) (rest := []) F (c_X12_kindOf l hp H.size) (va_cwS 1 hts (wg_S wm_RX12_148 wy_X12_kindOf) rfl rfl rfl (by decide +kernel) ⟨Nat.le_of_ble_eq_true rfl, Nat.le_of_ble_eq_true rfl⟩) (w_preS hK hW) rfl rfl hl.1 rfl (lv_room (Nat.le_of_ble_eq_true rfl)) dX12_isProperAt_47 ⟨Nat.le_of_ble_eq_true rfl, Nat.le_of_ble_eq_true rfl⟩) hW (fun r_9 S_10 H locs hp hW => ?_)
      obtain ⟨hX_S_10, hp⟩ := hp
      refine W.widen (k := 0) (n := 0) (by decide) (by decide) ?_
      have hE := hE.trans hX_S_10
      have hK_a0 : sK S_10 a0 = 17 := (hX_S_10.2 a0 hL_a0).1.trans hK_a0
      have hL_a0 : wM D S_10 a0 := hX_S_10.M hL_a0
      refine lv_bipush (v := 6) hx hb dX12_isProperAt_50 (by decide) ?_
      refine lv_icmp_eq (tgt := 81) hx hb dX12_isProperAt_52 (by decide) (fun c_11 => ?_) (fun c_11 => ?_)
      · replace hp := hp.1 c_11
        exact t_X12_isProperAt_81 F hr hlocks hK hp hW hE (lv_sub hl [] rfl)
      · replace hp := hp.2 c_11
        refine lv_aload_n hx hb dX12_isProperAt_55 rfl (lv_at hl 0 rfl) ?_
        refine lv_iload_n hx hb dX12_isProperAt_56 rfl (lv_at hl 1 rfl) ?_
        refine lv_aload_n hx hb dX12_isProperAt_57 rfl (lv_at hl 0 rfl) ?_
        refine w_get (k := 17) (f := 1) (T := TX12) (v := .int (sI S_10 a0 1)) F hK hW hL_a0 hK_a0 (by decide) rfl rfl (by decide) i_17 k_9 rfl dX12_isProperAt_58 ?_
        refine lv_aload_n hx hb dX12_isProperAt_61 rfl (lv_at hl 0 rfl) ?_
        refine w_get (k := 17) (f := 2) (T := TX12) (v := .int (sI S_10 a0 2)) F hK hW hL_a0 hK_a0 (by decide) rfl rfl (by decide) i_17 k_13 rfl dX12_isProperAt_62 ?_
        refine lv_iconst (v := 1) hx hb dX12_isProperAt_65 (by decide) ?_
        refine lv_isub hx hb dX12_isProperAt_66 ?_
        refine lv_imul hx hb dX12_isProperAt_67 ?_
        refine lv_iload_n hx hb dX12_isProperAt_68 rfl (lv_at hl 2 rfl) ?_
        refine lv_iadd hx hb dX12_isProperAt_69 ?_
        refine w_callI (va_runV (As := [.int x1, .int (((sI S_10 a0 1) * ((sI S_10 a0 2) - (1 : Int32))) + x2)]) (rest := []) F (c_X12_on l hL_a0 hK_a0 hp H.size) (cwV (C := RX12) 2 hts (wg_V wm_RX12_141 wy_X12_on) rfl rfl rfl (by decide +kernel) ⟨Nat.le_of_ble_eq_true rfl, Nat.le_of_ble_eq_true rfl⟩) (w_preV hK hW hL_a0 hK_a0 (by decide) rfl) rfl rfl hl.1 rfl (lv_room (Nat.le_of_ble_eq_true rfl)) dX12_isProperAt_70 ⟨Nat.le_of_ble_eq_true rfl, Nat.le_of_ble_eq_true rfl⟩) hW (fun r_12 S_13 H locs hp hW => ?_)
        obtain ⟨hX_S_13, hp⟩ := hp
        refine W.widen (k := 0) (n := 0) (by decide) (by decide) ?_
        have hE := hE.trans hX_S_13
        have hK_a0 : sK S_13 a0 = 17 := (hX_S_13.2 a0 hL_a0).1.trans hK_a0
        have hL_a0 : wM D S_13 a0 := hX_S_13.M hL_a0
        refine w_callI (va_runS (As := [.int r_12]) (rest := []) F (c_X12_kindOf l hp H.size) (va_cwS 1 hts (wg_S wm_RX12_148 wy_X12_kindOf) rfl rfl rfl (by decide +kernel) ⟨Nat.le_of_ble_eq_true rfl, Nat.le_of_ble_eq_true rfl⟩) (w_preS hK hW) rfl rfl hl.1 rfl (lv_room (Nat.le_of_ble_eq_true rfl)) dX12_isProperAt_73 ⟨Nat.le_of_ble_eq_true rfl, Nat.le_of_ble_eq_true rfl⟩) hW (fun r_14 S_15 H locs hp hW => ?_)
        obtain ⟨hX_S_15, hp⟩ := hp
        refine W.widen (k := 0) (n := 0) (by decide) (by decide) ?_
        have hE := hE.trans hX_S_15
        have hK_a0 : sK S_15 a0 = 17 := (hX_S_15.2 a0 hL_a0).1.trans hK_a0
        have hL_a0 : wM D S_15 a0 := hX_S_15.M hL_a0
        refine lv_bipush (v := 6) hx hb dX12_isProperAt_76 (by decide) ?_
        refine lv_icmp_ne (tgt := 83) hx hb dX12_isProperAt_78 (by decide) (fun c_16 => ?_) (fun c_16 => ?_)
        · replace hp := hp.1 c_16
          obtain ⟨x_17, ex_17⟩ : ∃ z : Int32, z = x2 + 1 := ⟨_, rfl⟩
          replace hp := hp x_17 ex_17
          refine lv_iinc (v := x_17) (lv' := [(2, .int x_17), (0, .ref a0), (1, .int x1)]) hx hb dX12_isProperAt_83 hl (k := 2) rfl (by rw [ex_17]; rfl) (by decide) rfl (fun ls hl => ?_)
          refine lv_goto (tgt := 33) hx hb dX12_isProperAt_86 (by decide) ?_
          exact ih hp hW hE (lv_sub hl [1, 2, 0] rfl) hL_a0 hK_a0
        · replace hp := hp.2 c_16
          exact t_X12_isProperAt_81 F hr hlocks hK hp hW hE (lv_sub hl [] rfl)
set_option maxHeartbeats 4000000 in
set_option maxRecDepth 100000 in
theorem t_X12_isProperAt_29 {p : Program} {l : Launch} {e : Env} {s : State} {m : MethodId} {args : Array Value} {below : List Frame} {meth : Method} {c : Code} {D : wD} {cy : Nat → ClassId} {X : va_W} {A : Nat → Prop} {S0 : wS} {post : Int32 → wS → Prop} (F : CallFix p m c cX12_isProperAt 3 s args wz_X12_isProperAt RX12) (hr : meth.sig.returnType = (some .boolean)) (hlocks : meth.locks = false) (hK : wK D cy A s) : ∀ {S : wS} {H : Heap} {locs : List Loc} {ls : Array Slot}, wp_X12_isProperAt_29 D post S → wO D cy X A s.heap S H locs → wX D S0 S → lv_has ls 3 [] → W p l e r_X12_isProperAt s m args below meth c H locs 0 0 (MQ below (va_Qi (fun r S9 => wX D S0 S9 ∧ post r S9) (wB D cy X A) A) args s 0 0 A) (F0 m 29 ls []) := by
  obtain ⟨hx, hb, hml, hown, hts⟩ := id F
  have hwg : ∀ w ∈ WG, w.before args s = true := fun w h => hts w (List.mem_cons_of_mem _ h)
  intro S H locs ls hp hW hE hl
  unfold wp_X12_isProperAt_29 at hp
  refine lv_iconst (v := 0) hx hb dX12_isProperAt_29 (by decide) ?_
  exact w_zret hx hb hr hlocks hW hp.1 ⟨hE, hp.2⟩ dX12_isProperAt_30
set_option maxHeartbeats 4000000 in
set_option maxRecDepth 100000 in
theorem t_X12_isProperAt_0 {p : Program} {l : Launch} {e : Env} {s : State} {m : MethodId} {args : Array Value} {below : List Frame} {meth : Method} {c : Code} {D : wD} {cy : Nat → ClassId} {X : va_W} {A : Nat → Prop} {S0 : wS} {post : Int32 → wS → Prop} (F : CallFix p m c cX12_isProperAt 3 s args wz_X12_isProperAt RX12) (hr : meth.sig.returnType = (some .boolean)) (hlocks : meth.locks = false) (hK : wK D cy A s) : ∀ {S : wS} {H : Heap} {locs : List Loc} {ls : Array Slot} {a0 : Nat} {x1 : Int32}, wp_X12_isProperAt_0 D post S a0 x1 → wO D cy X A s.heap S H locs → wX D S0 S → lv_has ls 3 [(0, .ref a0), (1, .int x1)] → wM D S a0 → sK S a0 = 17 → W p l e r_X12_isProperAt s m args below meth c H locs 0 0 (MQ below (va_Qi (fun r S9 => wX D S0 S9 ∧ post r S9) (wB D cy X A) A) args s 0 0 A) (F0 m 0 ls []) := by
  obtain ⟨hx, hb, hml, hown, hts⟩ := id F
  have hwg : ∀ w ∈ WG, w.before args s = true := fun w h => hts w (List.mem_cons_of_mem _ h)
  intro S H locs ls a0 x1 hp hW hE hl hL_a0 hK_a0
  unfold wp_X12_isProperAt_0 at hp
  refine lv_aload_n hx hb dX12_isProperAt_0 rfl (lv_at hl 0 rfl) ?_
  refine lv_iload_n hx hb dX12_isProperAt_1 rfl (lv_at hl 1 rfl) ?_
  refine lv_iconst (v := 1) hx hb dX12_isProperAt_2 (by decide) ?_
  refine w_callI (va_runV (As := [.int x1, .int (1 : Int32)]) (rest := []) F (c_X12_counts l hL_a0 hK_a0 hp H.size) (cwV (C := RX12) 2 hts (wg_V wm_RX12_176 wy_X12_counts) rfl rfl rfl (by decide +kernel) ⟨Nat.le_of_ble_eq_true rfl, Nat.le_of_ble_eq_true rfl⟩) (w_preV hK hW hL_a0 hK_a0 (by decide) rfl) rfl rfl hl.1 rfl (lv_room (Nat.le_of_ble_eq_true rfl)) dX12_isProperAt_3 ⟨Nat.le_of_ble_eq_true rfl, Nat.le_of_ble_eq_true rfl⟩) hW (fun r_1 S_2 H locs hp hW => ?_)
  obtain ⟨hX_S_2, hp⟩ := hp
  refine W.widen (k := 0) (n := 0) (by decide) (by decide) ?_
  have hE := hE.trans hX_S_2
  have hK_a0 : sK S_2 a0 = 17 := (hX_S_2.2 a0 hL_a0).1.trans hK_a0
  have hL_a0 : wM D S_2 a0 := hX_S_2.M hL_a0
  refine lv_iconst (v := 1) hx hb dX12_isProperAt_6 (by decide) ?_
  refine lv_icmp_ne (tgt := 29) hx hb dX12_isProperAt_7 (by decide) (fun c_3 => ?_) (fun c_3 => ?_)
  · replace hp := hp.1 c_3
    exact t_X12_isProperAt_29 F hr hlocks hK hp hW hE (lv_sub hl [] rfl)
  · replace hp := hp.2 c_3
    refine lv_aload_n hx hb dX12_isProperAt_10 rfl (lv_at hl 0 rfl) ?_
    refine lv_iload_n hx hb dX12_isProperAt_11 rfl (lv_at hl 1 rfl) ?_
    refine lv_bipush (v := 7) hx hb dX12_isProperAt_12 (by decide) ?_
    refine w_callI (va_runV (As := [.int x1, .int (7 : Int32)]) (rest := []) F (c_X12_counts l hL_a0 hK_a0 hp H.size) (cwV (C := RX12) 2 hts (wg_V wm_RX12_176 wy_X12_counts) rfl rfl rfl (by decide +kernel) ⟨Nat.le_of_ble_eq_true rfl, Nat.le_of_ble_eq_true rfl⟩) (w_preV hK hW hL_a0 hK_a0 (by decide) rfl) rfl rfl hl.1 rfl (lv_room (Nat.le_of_ble_eq_true rfl)) dX12_isProperAt_14 ⟨Nat.le_of_ble_eq_true rfl, Nat.le_of_ble_eq_true rfl⟩) hW (fun r_4 S_5 H locs hp hW => ?_)
    obtain ⟨hX_S_5, hp⟩ := hp
    refine W.widen (k := 0) (n := 0) (by decide) (by decide) ?_
    have hE := hE.trans hX_S_5
    have hK_a0 : sK S_5 a0 = 17 := (hX_S_5.2 a0 hL_a0).1.trans hK_a0
    have hL_a0 : wM D S_5 a0 := hX_S_5.M hL_a0
    refine lv_iconst (v := 1) hx hb dX12_isProperAt_17 (by decide) ?_
    refine lv_icmp_ne (tgt := 29) hx hb dX12_isProperAt_18 (by decide) (fun c_6 => ?_) (fun c_6 => ?_)
    · replace hp := hp.1 c_6
      exact t_X12_isProperAt_29 F hr hlocks hK hp hW hE (lv_sub hl [] rfl)
    · replace hp := hp.2 c_6
      refine lv_aload_n hx hb dX12_isProperAt_21 rfl (lv_at hl 0 rfl) ?_
      refine lv_iload_n hx hb dX12_isProperAt_22 rfl (lv_at hl 1 rfl) ?_
      refine w_callI (va_runV (As := [.int x1]) (rest := []) F (c_X12_areSound l hL_a0 hK_a0 hp H.size) (cwV (C := RX12) 1 hts (wg_V wm_RX12_179 wy_X12_areSound) rfl rfl rfl (by decide +kernel) ⟨Nat.le_of_ble_eq_true rfl, Nat.le_of_ble_eq_true rfl⟩) (w_preV hK hW hL_a0 hK_a0 (by decide) rfl) rfl rfl hl.1 rfl (lv_room (Nat.le_of_ble_eq_true rfl)) dX12_isProperAt_23 ⟨Nat.le_of_ble_eq_true rfl, Nat.le_of_ble_eq_true rfl⟩) hW (fun r_7 S_8 H locs hp hW => ?_)
      obtain ⟨hX_S_8, hp⟩ := hp
      refine W.widen (k := 0) (n := 0) (by decide) (by decide) ?_
      have hE := hE.trans hX_S_8
      have hK_a0 : sK S_8 a0 = 17 := (hX_S_8.2 a0 hL_a0).1.trans hK_a0
      have hL_a0 : wM D S_8 a0 := hX_S_8.M hL_a0
      refine lv_if_ne (tgt := 31) hx hb dX12_isProperAt_26 (by decide) (fun c_9 => ?_) (fun c_9 => ?_)
      · replace hp := hp.1 c_9
        refine lv_iconst (v := 0) hx hb dX12_isProperAt_31 (by decide) ?_
        refine lv_istore_n (lv' := [(2, .int (0 : Int32)), (0, .ref a0), (1, .int x1)]) hx hb dX12_isProperAt_32 rfl hl (by decide) rfl (fun ls hl => ?_)
        obtain ⟨n_10, hp⟩ := hp
        exact t_X12_isProperAt_33 F hr hlocks hK n_10 hp hW hE (lv_sub hl [1, 2, 0] rfl) hL_a0 hK_a0
      · replace hp := hp.2 c_9
        exact t_X12_isProperAt_29 F hr hlocks hK hp hW hE (lv_sub hl [] rfl)
set_option maxHeartbeats 4000000 in
set_option maxRecDepth 100000 in
theorem c_X12_isProperAt (l : Launch) {D : wD} {cy : Nat → ClassId} {X : va_W} {S0 : wS} {post : Int32 → wS → Prop} {a0 : Nat} {x1 : Int32} (hL_a0 : wM D S0 a0) (hK_a0 : sK S0 a0 = 17) (hp : wp_X12_isProperAt D post S0 a0 x1) : mI D cy X l yX12_isProperAt wz_X12_isProperAt r_X12_isProperAt [.ref a0, .int x1] S0 (fun r S9 => wX D S0 S9 ∧ post r S9) := by
  intro sz
  refine Met.ofW (cc := cX12_isProperAt) (maxL := 3) (ret := (some .boolean)) (by decide) rfl ?_
  intro p e s m args below meth c s₁ B hml hv
  obtain ⟨rfl, hsz, hP, hK, hD0, hRO⟩ := hv
  have hts := atoms_spec (ws := wz_X12_isProperAt) B.pre
  have hown : s.vm.findClass RX12 = some m.cls := findClass_of_methodNamed B.named
  subst hsz
  have hD := hD0.self (sz := s.heap.size)
  have F : CallFix p m c cX12_isProperAt 3 s _ wz_X12_isProperAt RX12 := ⟨B.exec, B.bytes, hml, hown, hts⟩
  have hr := B.returns
  have hlocks := B.notSynchronized
  generalize hAe : va_A (wL cy X S0) s.heap.size = A at hD hK ⊢
  have hA : ∀ q, s.heap.size ≤ q → A q := fun q h => by rw [← hAe]; exact Or.inr h
  have hW : wO D cy X A s.heap S0 s.heap [] := ⟨hP, hD, va_S.rf, hA, hRO⟩
  have hl := lv_entry ([.ref a0, .int x1]) (n := 3) (Nat.le_of_ble_eq_true rfl)
  rw [lg_entry_eq]
  generalize (lg_sl ([.ref a0, .int x1]) ++ List.replicate (3 - (lg_sl ([.ref a0, .int x1])).length) Slot.unset).toArray = ls at hl ⊢
  have hl : lv_has ls 3 [(0, .ref a0), (1, .int x1)] := hl
  unfold wp_X12_isProperAt at hp
  exact t_X12_isProperAt_0 F hr hlocks hK hp hW wX.rf (lv_sub hl [0, 1] rfl) hL_a0 hK_a0
def wp_X12_presentAt_0 (D : wD) (post : Int32 → wS → Prop)  (S : wS) (a0 : Nat) : Prop :=
post ((67 : Int32) * (sI S a0 11)) S
abbrev r_X12_presentAt : Room := { frames := 0, cells := 0, slots := 0, locals := 0 }
def wp_X12_presentAt (D : wD) (post : Int32 → wS → Prop) (S : wS) (a0 : Nat) : Prop := wp_X12_presentAt_0 D post S a0
set_option maxHeartbeats 4000000 in
set_option maxRecDepth 100000 in
theorem t_X12_presentAt_0 {p : Program} {l : Launch} {e : Env} {s : State} {m : MethodId} {args : Array Value} {below : List Frame} {meth : Method} {c : Code} {D : wD} {cy : Nat → ClassId} {X : va_W} {A : Nat → Prop} {S0 : wS} {post : Int32 → wS → Prop} (F : CallFix p m c cX12_presentAt 1 s args wz_X12_presentAt RX12) (hr : meth.sig.returnType = (some .int)) (hlocks : meth.locks = false) (hK : wK D cy A s) : ∀ {S : wS} {H : Heap} {locs : List Loc} {ls : Array Slot} {a0 : Nat}, wp_X12_presentAt_0 D post S a0 → wO D cy X A s.heap S H locs → wX D S0 S → lv_has ls 1 [(0, .ref a0)] → wM D S a0 → sK S a0 = 17 → W p l e r_X12_presentAt s m args below meth c H locs 0 0 (MQ below (va_Qi (fun r S9 => wX D S0 S9 ∧ post r S9) (wB D cy X A) A) args s 0 0 A) (F0 m 0 ls []) := by
  obtain ⟨hx, hb, hml, hown, hts⟩ := id F
  have hwg : ∀ w ∈ WG, w.before args s = true := fun w h => hts w (List.mem_cons_of_mem _ h)
  have i_17 : ∀ w ∈ u_ws RX12 TX12 43, w ∈ wz_X12_presentAt := fun w h => List.mem_cons_of_mem _ (wu_17 w h)
  have k_121 := hwg _ wf_RX12_121
  intro S H locs ls a0 hp hW hE hl hL_a0 hK_a0
  unfold wp_X12_presentAt_0 at hp
  refine lv_bipush (v := 67) hx hb dX12_presentAt_0 (by decide) ?_
  refine lv_aload_n hx hb dX12_presentAt_2 rfl (lv_at hl 0 rfl) ?_
  refine w_get (k := 17) (f := 11) (T := TX12) (v := .int (sI S a0 11)) F hK hW hL_a0 hK_a0 (by decide) rfl rfl (by decide) i_17 k_121 rfl dX12_presentAt_3 ?_
  refine lv_imul hx hb dX12_presentAt_6 ?_
  exact w_iret hx hb hr hlocks hW ⟨hE, hp⟩ dX12_presentAt_7
set_option maxHeartbeats 4000000 in
set_option maxRecDepth 100000 in
theorem c_X12_presentAt (l : Launch) {D : wD} {cy : Nat → ClassId} {X : va_W} {S0 : wS} {post : Int32 → wS → Prop} {a0 : Nat} (hL_a0 : wM D S0 a0) (hK_a0 : sK S0 a0 = 17) (hp : wp_X12_presentAt D post S0 a0) : mI D cy X l yX12_presentAt wz_X12_presentAt r_X12_presentAt [.ref a0] S0 (fun r S9 => wX D S0 S9 ∧ post r S9) := by
  intro sz
  refine Met.ofW (cc := cX12_presentAt) (maxL := 1) (ret := (some .int)) (by decide) rfl ?_
  intro p e s m args below meth c s₁ B hml hv
  obtain ⟨rfl, hsz, hP, hK, hD0, hRO⟩ := hv
  have hts := atoms_spec (ws := wz_X12_presentAt) B.pre
  have hown : s.vm.findClass RX12 = some m.cls := findClass_of_methodNamed B.named
  subst hsz
  have hD := hD0.self (sz := s.heap.size)
  have F : CallFix p m c cX12_presentAt 1 s _ wz_X12_presentAt RX12 := ⟨B.exec, B.bytes, hml, hown, hts⟩
  have hr := B.returns
  have hlocks := B.notSynchronized
  generalize hAe : va_A (wL cy X S0) s.heap.size = A at hD hK ⊢
  have hA : ∀ q, s.heap.size ≤ q → A q := fun q h => by rw [← hAe]; exact Or.inr h
  have hW : wO D cy X A s.heap S0 s.heap [] := ⟨hP, hD, va_S.rf, hA, hRO⟩
  have hl := lv_entry ([.ref a0]) (n := 1) (Nat.le_of_ble_eq_true rfl)
  rw [lg_entry_eq]
  generalize (lg_sl ([.ref a0]) ++ List.replicate (1 - (lg_sl ([.ref a0])).length) Slot.unset).toArray = ls at hl ⊢
  have hl : lv_has ls 1 [(0, .ref a0)] := hl
  unfold wp_X12_presentAt at hp
  exact t_X12_presentAt_0 F hr hlocks hK hp hW wX.rf (lv_sub hl [0] rfl) hL_a0 hK_a0
def wp_X12_loads_0 (D : wD) (post : wS → Prop)  (S : wS) (a0 : Nat) : Prop :=
∃ y_1 : Nat, sR S a0 8 = some y_1 ∧ wM D S y_1 ∧ sK S y_1 = 21 ∧
wp_X12_presentAt D (fun r_2 S_3 => 
∃ y_4 : Nat, sR S_3 a0 3 = some y_4 ∧ wM D S_3 y_4 ∧ sK S_3 y_4 = 21 ∧
wp_X12_copies D (fun S_6 => 
post S_6) S_3 (67 : Int32) y_1 r_2 y_4 (0 : Int32)) S a0
abbrev r_X12_loads : Room := { frames := 1, cells := 0, slots := 0, locals := 25 }
def wp_X12_loads (D : wD) (post : wS → Prop) (S : wS) (a0 : Nat) : Prop := wp_X12_loads_0 D post S a0
set_option maxHeartbeats 4000000 in
set_option maxRecDepth 100000 in
theorem t_X12_loads_0 {p : Program} {l : Launch} {e : Env} {s : State} {m : MethodId} {args : Array Value} {below : List Frame} {meth : Method} {c : Code} {D : wD} {cy : Nat → ClassId} {X : va_W} {A : Nat → Prop} {S0 : wS} {post : wS → Prop} (F : CallFix p m c cX12_loads 1 s args wz_X12_loads RX12) (hr : meth.sig.returnType = none) (hlocks : meth.locks = false) (hK : wK D cy A s) : ∀ {S : wS} {H : Heap} {locs : List Loc} {ls : Array Slot} {a0 : Nat}, wp_X12_loads_0 D post S a0 → wO D cy X A s.heap S H locs → wX D S0 S → lv_has ls 1 [(0, .ref a0)] → wM D S a0 → sK S a0 = 17 → W p l e r_X12_loads s m args below meth c H locs 0 0 (MQ below (va_Qv (fun S9 => wX D S0 S9 ∧ post S9) (wB D cy X A) A) args s 0 0 A) (F0 m 0 ls []) := by
  obtain ⟨hx, hb, hml, hown, hts⟩ := id F
  have hwg : ∀ w ∈ WG, w.before args s = true := fun w h => hts w (List.mem_cons_of_mem _ h)
  have i_17 : ∀ w ∈ u_ws RX12 TX12 43, w ∈ wz_X12_loads := fun w h => List.mem_cons_of_mem _ (wu_17 w h)
  have k_16 := hwg _ wf_RX12_16
  have k_32 := hwg _ wf_RX12_32
  intro S H locs ls a0 hp hW hE hl hL_a0 hK_a0
  unfold wp_X12_loads_0 at hp
  refine lv_bipush (v := 67) hx hb dX12_loads_0 (by decide) ?_
  refine lv_aload_n hx hb dX12_loads_2 rfl (lv_at hl 0 rfl) ?_
  obtain ⟨y_1, ey_1, hL_y_1, hK_y_1, hp⟩ := hp
  refine w_get (k := 17) (f := 8) (T := TX12) (v := .ref y_1) F hK hW hL_a0 hK_a0 (by decide) rfl rfl (by decide) i_17 k_32 (by rw [show wv 17 8 S a0 = va_rf (sR S a0 8) from rfl, ey_1]; rfl) dX12_loads_3 ?_
  refine lv_aload_n hx hb dX12_loads_6 rfl (lv_at hl 0 rfl) ?_
  refine w_callI (va_runV (As := []) (rest := [.ref y_1, .int (67 : Int32)]) F (c_X12_presentAt l hL_a0 hK_a0 hp H.size) (cwV (C := RX12) 0 hts (wg_V wm_RX12_127 wy_X12_presentAt) rfl rfl rfl (by decide +kernel) ⟨Nat.le_of_ble_eq_true rfl, Nat.le_of_ble_eq_true rfl⟩) (w_preV hK hW hL_a0 hK_a0 (by decide) rfl) rfl rfl hl.1 rfl (lv_room (Nat.le_of_ble_eq_true rfl)) dX12_loads_7 ⟨Nat.le_of_ble_eq_true rfl, Nat.le_of_ble_eq_true rfl⟩) hW (fun r_2 S_3 H locs hp hW => ?_)
  obtain ⟨hX_S_3, hp⟩ := hp
  refine W.widen (k := 0) (n := 0) (by decide) (by decide) ?_
  have hE := hE.trans hX_S_3
  have hK_a0 : sK S_3 a0 = 17 := (hX_S_3.2 a0 hL_a0).1.trans hK_a0
  have hL_a0 : wM D S_3 a0 := hX_S_3.M hL_a0
  have hK_y_1 : sK S_3 y_1 = 21 := (hX_S_3.2 y_1 hL_y_1).1.trans hK_y_1
  have hL_y_1 : wM D S_3 y_1 := hX_S_3.M hL_y_1
  refine lv_aload_n hx hb dX12_loads_10 rfl (lv_at hl 0 rfl) ?_
  obtain ⟨y_4, ey_4, hL_y_4, hK_y_4, hp⟩ := hp
  refine w_get (k := 17) (f := 3) (T := TX12) (v := .ref y_4) F hK hW hL_a0 hK_a0 (by decide) rfl rfl (by decide) i_17 k_16 (by rw [show wv 17 3 S_3 a0 = va_rf (sR S_3 a0 3) from rfl, ey_4]; rfl) dX12_loads_11 ?_
  refine lv_iconst (v := 0) hx hb dX12_loads_14 (by decide) ?_
  refine w_callV (va_runS (As := [.int (67 : Int32), .ref y_1, .int r_2, .ref y_4, .int (0 : Int32)]) (rest := []) F (c_X12_copies l hL_y_1 hK_y_1 hL_y_4 hK_y_4 hp H.size) (va_cwS 5 hts (wg_S wm_RX12_130 wy_X12_copies) rfl rfl rfl (by decide +kernel) ⟨Nat.le_of_ble_eq_true rfl, Nat.le_of_ble_eq_true rfl⟩) (w_preS hK hW) rfl rfl hl.1 rfl (lv_room (Nat.le_of_ble_eq_true rfl)) dX12_loads_15 ⟨Nat.le_of_ble_eq_true rfl, Nat.le_of_ble_eq_true rfl⟩) hW (fun S_6 H locs hp hW => ?_)
  obtain ⟨hX_S_6, hp⟩ := hp
  refine W.widen (k := 0) (n := 0) (by decide) (by decide) ?_
  have hE := hE.trans hX_S_6
  have hK_a0 : sK S_6 a0 = 17 := (hX_S_6.2 a0 hL_a0).1.trans hK_a0
  have hL_a0 : wM D S_6 a0 := hX_S_6.M hL_a0
  exact w_vret hx hb hr hlocks hW ⟨hE, hp⟩ dX12_loads_18
set_option maxHeartbeats 4000000 in
set_option maxRecDepth 100000 in
theorem c_X12_loads (l : Launch) {D : wD} {cy : Nat → ClassId} {X : va_W} {S0 : wS} {post : wS → Prop} {a0 : Nat} (hL_a0 : wM D S0 a0) (hK_a0 : sK S0 a0 = 17) (hp : wp_X12_loads D post S0 a0) : mV D cy X l yX12_loads wz_X12_loads r_X12_loads [.ref a0] S0 (fun S9 => wX D S0 S9 ∧ post S9) := by
  intro sz
  refine Met.ofW (cc := cX12_loads) (maxL := 1) (ret := none) (by decide) rfl ?_
  intro p e s m args below meth c s₁ B hml hv
  obtain ⟨rfl, hsz, hP, hK, hD0, hRO⟩ := hv
  have hts := atoms_spec (ws := wz_X12_loads) B.pre
  have hown : s.vm.findClass RX12 = some m.cls := findClass_of_methodNamed B.named
  subst hsz
  have hD := hD0.self (sz := s.heap.size)
  have F : CallFix p m c cX12_loads 1 s _ wz_X12_loads RX12 := ⟨B.exec, B.bytes, hml, hown, hts⟩
  have hr := B.returns
  have hlocks := B.notSynchronized
  generalize hAe : va_A (wL cy X S0) s.heap.size = A at hD hK ⊢
  have hA : ∀ q, s.heap.size ≤ q → A q := fun q h => by rw [← hAe]; exact Or.inr h
  have hW : wO D cy X A s.heap S0 s.heap [] := ⟨hP, hD, va_S.rf, hA, hRO⟩
  have hl := lv_entry ([.ref a0]) (n := 1) (Nat.le_of_ble_eq_true rfl)
  rw [lg_entry_eq]
  generalize (lg_sl ([.ref a0]) ++ List.replicate (1 - (lg_sl ([.ref a0])).length) Slot.unset).toArray = ls at hl ⊢
  have hl : lv_has ls 1 [(0, .ref a0)] := hl
  unfold wp_X12_loads at hp
  exact t_X12_loads_0 F hr hlocks hK hp hW wX.rf (lv_sub hl [0] rfl) hL_a0 hK_a0
def wp_X12_isAskable_0 (D : wD) (post : Int32 → wS → Prop)  (S : wS) (a0 : Nat) : Prop :=
∃ y_1 : Nat, sR S a0 8 = some y_1 ∧ wM D S y_1 ∧ sK S y_1 = 21 ∧
∃ y_2 : Nat, sR S a0 3 = some y_2 ∧ wM D S y_2 ∧ sK S y_2 = 21 ∧
wp_X12_copies D (fun S_4 => 
wp_X12_isProperAt D (fun r_5 S_6 => 
wp_X12_loads D (fun S_8 => 
narrow .boolean (.int r_5) = .int r_5 ∧ post r_5 S_8) S_6 a0) S_4 a0 (0 : Int32)) S (67 : Int32) y_1 (0 : Int32) y_2 (0 : Int32)
abbrev r_X12_isAskable : Room := { frames := 6, cells := 0, slots := 0, locals := 143 }
def wp_X12_isAskable (D : wD) (post : Int32 → wS → Prop) (S : wS) (a0 : Nat) : Prop := wp_X12_isAskable_0 D post S a0
set_option maxHeartbeats 4000000 in
set_option maxRecDepth 100000 in
theorem t_X12_isAskable_0 {p : Program} {l : Launch} {e : Env} {s : State} {m : MethodId} {args : Array Value} {below : List Frame} {meth : Method} {c : Code} {D : wD} {cy : Nat → ClassId} {X : va_W} {A : Nat → Prop} {S0 : wS} {post : Int32 → wS → Prop} (F : CallFix p m c cX12_isAskable 2 s args wz_X12_isAskable RX12) (hr : meth.sig.returnType = (some .boolean)) (hlocks : meth.locks = false) (hK : wK D cy A s) : ∀ {S : wS} {H : Heap} {locs : List Loc} {ls : Array Slot} {a0 : Nat}, wp_X12_isAskable_0 D post S a0 → wO D cy X A s.heap S H locs → wX D S0 S → lv_has ls 2 [(0, .ref a0)] → wM D S a0 → sK S a0 = 17 → W p l e r_X12_isAskable s m args below meth c H locs 0 0 (MQ below (va_Qi (fun r S9 => wX D S0 S9 ∧ post r S9) (wB D cy X A) A) args s 0 0 A) (F0 m 0 ls []) := by
  obtain ⟨hx, hb, hml, hown, hts⟩ := id F
  have hwg : ∀ w ∈ WG, w.before args s = true := fun w h => hts w (List.mem_cons_of_mem _ h)
  have i_17 : ∀ w ∈ u_ws RX12 TX12 43, w ∈ wz_X12_isAskable := fun w h => List.mem_cons_of_mem _ (wu_17 w h)
  have k_16 := hwg _ wf_RX12_16
  have k_32 := hwg _ wf_RX12_32
  intro S H locs ls a0 hp hW hE hl hL_a0 hK_a0
  unfold wp_X12_isAskable_0 at hp
  refine lv_bipush (v := 67) hx hb dX12_isAskable_0 (by decide) ?_
  refine lv_aload_n hx hb dX12_isAskable_2 rfl (lv_at hl 0 rfl) ?_
  obtain ⟨y_1, ey_1, hL_y_1, hK_y_1, hp⟩ := hp
  refine w_get (k := 17) (f := 8) (T := TX12) (v := .ref y_1) F hK hW hL_a0 hK_a0 (by decide) rfl rfl (by decide) i_17 k_32 (by rw [show wv 17 8 S a0 = va_rf (sR S a0 8) from rfl, ey_1]; rfl) dX12_isAskable_3 ?_
  refine lv_iconst (v := 0) hx hb dX12_isAskable_6 (by decide) ?_
  refine lv_aload_n hx hb dX12_isAskable_7 rfl (lv_at hl 0 rfl) ?_
  obtain ⟨y_2, ey_2, hL_y_2, hK_y_2, hp⟩ := hp
  refine w_get (k := 17) (f := 3) (T := TX12) (v := .ref y_2) F hK hW hL_a0 hK_a0 (by decide) rfl rfl (by decide) i_17 k_16 (by rw [show wv 17 3 S a0 = va_rf (sR S a0 3) from rfl, ey_2]; rfl) dX12_isAskable_8 ?_
  refine lv_iconst (v := 0) hx hb dX12_isAskable_11 (by decide) ?_
  refine w_callV (va_runS (As := [.int (67 : Int32), .ref y_1, .int (0 : Int32), .ref y_2, .int (0 : Int32)]) (rest := []) F (c_X12_copies l hL_y_1 hK_y_1 hL_y_2 hK_y_2 hp H.size) (va_cwS 5 hts (wg_S wm_RX12_130 wy_X12_copies) rfl rfl rfl (by decide +kernel) ⟨Nat.le_of_ble_eq_true rfl, Nat.le_of_ble_eq_true rfl⟩) (w_preS hK hW) rfl rfl hl.1 rfl (lv_room (Nat.le_of_ble_eq_true rfl)) dX12_isAskable_12 ⟨Nat.le_of_ble_eq_true rfl, Nat.le_of_ble_eq_true rfl⟩) hW (fun S_4 H locs hp hW => ?_)
  obtain ⟨hX_S_4, hp⟩ := hp
  refine W.widen (k := 0) (n := 0) (by decide) (by decide) ?_
  have hE := hE.trans hX_S_4
  have hK_a0 : sK S_4 a0 = 17 := (hX_S_4.2 a0 hL_a0).1.trans hK_a0
  have hL_a0 : wM D S_4 a0 := hX_S_4.M hL_a0
  refine lv_aload_n hx hb dX12_isAskable_15 rfl (lv_at hl 0 rfl) ?_
  refine lv_iconst (v := 0) hx hb dX12_isAskable_16 (by decide) ?_
  refine w_callI (va_runV (As := [.int (0 : Int32)]) (rest := []) F (c_X12_isProperAt l hL_a0 hK_a0 hp H.size) (cwV (C := RX12) 1 hts (wg_V wm_RX12_189 wy_X12_isProperAt) rfl rfl rfl (by decide +kernel) ⟨Nat.le_of_ble_eq_true rfl, Nat.le_of_ble_eq_true rfl⟩) (w_preV hK hW hL_a0 hK_a0 (by decide) rfl) rfl rfl hl.1 rfl (lv_room (Nat.le_of_ble_eq_true rfl)) dX12_isAskable_17 ⟨Nat.le_of_ble_eq_true rfl, Nat.le_of_ble_eq_true rfl⟩) hW (fun r_5 S_6 H locs hp hW => ?_)
  obtain ⟨hX_S_6, hp⟩ := hp
  refine W.widen (k := 0) (n := 0) (by decide) (by decide) ?_
  have hE := hE.trans hX_S_6
  have hK_a0 : sK S_6 a0 = 17 := (hX_S_6.2 a0 hL_a0).1.trans hK_a0
  have hL_a0 : wM D S_6 a0 := hX_S_6.M hL_a0
  refine lv_istore_n (lv' := [(1, .int r_5), (0, .ref a0)]) hx hb dX12_isAskable_20 rfl hl (by decide) rfl (fun ls hl => ?_)
  refine lv_aload_n hx hb dX12_isAskable_21 rfl (lv_at hl 1 rfl) ?_
  refine w_callV (va_runV (As := []) (rest := []) F (c_X12_loads l hL_a0 hK_a0 hp H.size) (cwV (C := RX12) 0 hts (wg_V wm_RX12_192 wy_X12_loads) rfl rfl rfl (by decide +kernel) ⟨Nat.le_of_ble_eq_true rfl, Nat.le_of_ble_eq_true rfl⟩) (w_preV hK hW hL_a0 hK_a0 (by decide) rfl) rfl rfl hl.1 rfl (lv_room (Nat.le_of_ble_eq_true rfl)) dX12_isAskable_22 ⟨Nat.le_of_ble_eq_true rfl, Nat.le_of_ble_eq_true rfl⟩) hW (fun S_8 H locs hp hW => ?_)
  obtain ⟨hX_S_8, hp⟩ := hp
  refine W.widen (k := 0) (n := 0) (by decide) (by decide) ?_
  have hE := hE.trans hX_S_8
  have hK_a0 : sK S_8 a0 = 17 := (hX_S_8.2 a0 hL_a0).1.trans hK_a0
  have hL_a0 : wM D S_8 a0 := hX_S_8.M hL_a0
  refine lv_iload_n hx hb dX12_isAskable_25 rfl (lv_at hl 0 rfl) ?_
  exact w_zret hx hb hr hlocks hW hp.1 ⟨hE, hp.2⟩ dX12_isAskable_26
set_option maxHeartbeats 4000000 in
set_option maxRecDepth 100000 in
theorem c_X12_isAskable (l : Launch) {D : wD} {cy : Nat → ClassId} {X : va_W} {S0 : wS} {post : Int32 → wS → Prop} {a0 : Nat} (hL_a0 : wM D S0 a0) (hK_a0 : sK S0 a0 = 17) (hp : wp_X12_isAskable D post S0 a0) : mI D cy X l yX12_isAskable wz_X12_isAskable r_X12_isAskable [.ref a0] S0 (fun r S9 => wX D S0 S9 ∧ post r S9) := by
  intro sz
  refine Met.ofW (cc := cX12_isAskable) (maxL := 2) (ret := (some .boolean)) (by decide) rfl ?_
  intro p e s m args below meth c s₁ B hml hv
  obtain ⟨rfl, hsz, hP, hK, hD0, hRO⟩ := hv
  have hts := atoms_spec (ws := wz_X12_isAskable) B.pre
  have hown : s.vm.findClass RX12 = some m.cls := findClass_of_methodNamed B.named
  subst hsz
  have hD := hD0.self (sz := s.heap.size)
  have F : CallFix p m c cX12_isAskable 2 s _ wz_X12_isAskable RX12 := ⟨B.exec, B.bytes, hml, hown, hts⟩
  have hr := B.returns
  have hlocks := B.notSynchronized
  generalize hAe : va_A (wL cy X S0) s.heap.size = A at hD hK ⊢
  have hA : ∀ q, s.heap.size ≤ q → A q := fun q h => by rw [← hAe]; exact Or.inr h
  have hW : wO D cy X A s.heap S0 s.heap [] := ⟨hP, hD, va_S.rf, hA, hRO⟩
  have hl := lv_entry ([.ref a0]) (n := 2) (Nat.le_of_ble_eq_true rfl)
  rw [lg_entry_eq]
  generalize (lg_sl ([.ref a0]) ++ List.replicate (2 - (lg_sl ([.ref a0])).length) Slot.unset).toArray = ls at hl ⊢
  have hl : lv_has ls 2 [(0, .ref a0)] := hl
  unfold wp_X12_isAskable at hp
  exact t_X12_isAskable_0 F hr hlocks hK hp hW wX.rf (lv_sub hl [0] rfl) hL_a0 hK_a0
def wp_X12_isShelf_0 (D : wD) (post : Int32 → wS → Prop)  (S : wS) (x0 : Int32) : Prop :=
wp_X12_in D (fun r_1 S_2 => 
narrow .boolean (.int r_1) = .int r_1 ∧ post r_1 S_2) S x0 (0 : Int32) (1 : Int32)
abbrev r_X12_isShelf : Room := { frames := 1, cells := 0, slots := 0, locals := 22 }
def wp_X12_isShelf (D : wD) (post : Int32 → wS → Prop) (S : wS) (x0 : Int32) : Prop := wp_X12_isShelf_0 D post S x0
set_option maxHeartbeats 4000000 in
set_option maxRecDepth 100000 in
theorem t_X12_isShelf_0 {p : Program} {l : Launch} {e : Env} {s : State} {m : MethodId} {args : Array Value} {below : List Frame} {meth : Method} {c : Code} {D : wD} {cy : Nat → ClassId} {X : va_W} {A : Nat → Prop} {S0 : wS} {post : Int32 → wS → Prop} (F : CallFix p m c cX12_isShelf 1 s args wz_X12_isShelf RX12) (hr : meth.sig.returnType = (some .boolean)) (hlocks : meth.locks = false) (hK : wK D cy A s) : ∀ {S : wS} {H : Heap} {locs : List Loc} {ls : Array Slot} {x0 : Int32}, wp_X12_isShelf_0 D post S x0 → wO D cy X A s.heap S H locs → wX D S0 S → lv_has ls 1 [(0, .int x0)] → W p l e r_X12_isShelf s m args below meth c H locs 0 0 (MQ below (va_Qi (fun r S9 => wX D S0 S9 ∧ post r S9) (wB D cy X A) A) args s 0 0 A) (F0 m 0 ls []) := by
  obtain ⟨hx, hb, hml, hown, hts⟩ := id F
  have hwg : ∀ w ∈ WG, w.before args s = true := fun w h => hts w (List.mem_cons_of_mem _ h)
  intro S H locs ls x0 hp hW hE hl
  unfold wp_X12_isShelf_0 at hp
  refine lv_iload_n hx hb dX12_isShelf_0 rfl (lv_at hl 0 rfl) ?_
  refine lv_iconst (v := 0) hx hb dX12_isShelf_1 (by decide) ?_
  refine lv_iconst (v := 1) hx hb dX12_isShelf_2 (by decide) ?_
  refine w_callI (va_runS (As := [.int x0, .int (0 : Int32), .int (1 : Int32)]) (rest := []) F (c_X12_in l hp H.size) (va_cwS 3 hts (wg_S wm_RX12_117 wy_X12_in) rfl rfl rfl (by decide +kernel) ⟨Nat.le_of_ble_eq_true rfl, Nat.le_of_ble_eq_true rfl⟩) (w_preS hK hW) rfl rfl hl.1 rfl (lv_room (Nat.le_of_ble_eq_true rfl)) dX12_isShelf_3 ⟨Nat.le_of_ble_eq_true rfl, Nat.le_of_ble_eq_true rfl⟩) hW (fun r_1 S_2 H locs hp hW => ?_)
  obtain ⟨hX_S_2, hp⟩ := hp
  refine W.widen (k := 0) (n := 0) (by decide) (by decide) ?_
  have hE := hE.trans hX_S_2
  exact w_zret hx hb hr hlocks hW hp.1 ⟨hE, hp.2⟩ dX12_isShelf_6
set_option maxHeartbeats 4000000 in
set_option maxRecDepth 100000 in
theorem c_X12_isShelf (l : Launch) {D : wD} {cy : Nat → ClassId} {X : va_W} {S0 : wS} {post : Int32 → wS → Prop} {x0 : Int32} (hp : wp_X12_isShelf D post S0 x0) : mI D cy X l yX12_isShelf wz_X12_isShelf r_X12_isShelf [.int x0] S0 (fun r S9 => wX D S0 S9 ∧ post r S9) := by
  intro sz
  refine Met.ofW (cc := cX12_isShelf) (maxL := 1) (ret := (some .boolean)) (by decide) rfl ?_
  intro p e s m args below meth c s₁ B hml hv
  obtain ⟨rfl, hsz, hP, hK, hD0, hRO⟩ := hv
  have hts := atoms_spec (ws := wz_X12_isShelf) B.pre
  have hown : s.vm.findClass RX12 = some m.cls := findClass_of_methodNamed B.named
  subst hsz
  have hD := hD0.self (sz := s.heap.size)
  have F : CallFix p m c cX12_isShelf 1 s _ wz_X12_isShelf RX12 := ⟨B.exec, B.bytes, hml, hown, hts⟩
  have hr := B.returns
  have hlocks := B.notSynchronized
  generalize hAe : va_A (wL cy X S0) s.heap.size = A at hD hK ⊢
  have hA : ∀ q, s.heap.size ≤ q → A q := fun q h => by rw [← hAe]; exact Or.inr h
  have hW : wO D cy X A s.heap S0 s.heap [] := ⟨hP, hD, va_S.rf, hA, hRO⟩
  have hl := lv_entry ([.int x0]) (n := 1) (Nat.le_of_ble_eq_true rfl)
  rw [lg_entry_eq]
  generalize (lg_sl ([.int x0]) ++ List.replicate (1 - (lg_sl ([.int x0])).length) Slot.unset).toArray = ls at hl ⊢
  have hl : lv_has ls 1 [(0, .int x0)] := hl
  unfold wp_X12_isShelf at hp
  exact t_X12_isShelf_0 F hr hlocks hK hp hW wX.rf (lv_sub hl [0] rfl)
def wp_X12_placeOf_0 (D : wD) (post : Int32 → wS → Prop)  (S : wS) (x0 : Int32) (x1 : Int32) (x2 : Int32) : Prop :=
post (((5427 : Int32) * (((40 : Int32) * x0) + x1)) + ((67 : Int32) * x2)) S
abbrev r_X12_placeOf : Room := { frames := 0, cells := 0, slots := 0, locals := 0 }
def wp_X12_placeOf (D : wD) (post : Int32 → wS → Prop) (S : wS) (x0 : Int32) (x1 : Int32) (x2 : Int32) : Prop := wp_X12_placeOf_0 D post S x0 x1 x2
set_option maxHeartbeats 4000000 in
set_option maxRecDepth 100000 in
theorem t_X12_placeOf_0 {p : Program} {l : Launch} {e : Env} {s : State} {m : MethodId} {args : Array Value} {below : List Frame} {meth : Method} {c : Code} {D : wD} {cy : Nat → ClassId} {X : va_W} {A : Nat → Prop} {S0 : wS} {post : Int32 → wS → Prop} (F : CallFix p m c cX12_placeOf 3 s args wz_X12_placeOf RX12) (hr : meth.sig.returnType = (some .int)) (hlocks : meth.locks = false) (hK : wK D cy A s) : ∀ {S : wS} {H : Heap} {locs : List Loc} {ls : Array Slot} {x0 : Int32} {x1 : Int32} {x2 : Int32}, wp_X12_placeOf_0 D post S x0 x1 x2 → wO D cy X A s.heap S H locs → wX D S0 S → lv_has ls 3 [(0, .int x0), (1, .int x1), (2, .int x2)] → W p l e r_X12_placeOf s m args below meth c H locs 0 0 (MQ below (va_Qi (fun r S9 => wX D S0 S9 ∧ post r S9) (wB D cy X A) A) args s 0 0 A) (F0 m 0 ls []) := by
  obtain ⟨hx, hb, hml, hown, hts⟩ := id F
  have hwg : ∀ w ∈ WG, w.before args s = true := fun w h => hts w (List.mem_cons_of_mem _ h)
  intro S H locs ls x0 x1 x2 hp hW hE hl
  unfold wp_X12_placeOf_0 at hp
  refine lv_sipush (v := 5427) hx hb dX12_placeOf_0 (by decide) ?_
  refine lv_bipush (v := 40) hx hb dX12_placeOf_3 (by decide) ?_
  refine lv_iload_n hx hb dX12_placeOf_5 rfl (lv_at hl 0 rfl) ?_
  refine lv_imul hx hb dX12_placeOf_6 ?_
  refine lv_iload_n hx hb dX12_placeOf_7 rfl (lv_at hl 1 rfl) ?_
  refine lv_iadd hx hb dX12_placeOf_8 ?_
  refine lv_imul hx hb dX12_placeOf_9 ?_
  refine lv_bipush (v := 67) hx hb dX12_placeOf_10 (by decide) ?_
  refine lv_iload_n hx hb dX12_placeOf_12 rfl (lv_at hl 2 rfl) ?_
  refine lv_imul hx hb dX12_placeOf_13 ?_
  refine lv_iadd hx hb dX12_placeOf_14 ?_
  exact w_iret hx hb hr hlocks hW ⟨hE, hp⟩ dX12_placeOf_15
set_option maxHeartbeats 4000000 in
set_option maxRecDepth 100000 in
theorem c_X12_placeOf (l : Launch) {D : wD} {cy : Nat → ClassId} {X : va_W} {S0 : wS} {post : Int32 → wS → Prop} {x0 : Int32} {x1 : Int32} {x2 : Int32} (hp : wp_X12_placeOf D post S0 x0 x1 x2) : mI D cy X l yX12_placeOf wz_X12_placeOf r_X12_placeOf [.int x0, .int x1, .int x2] S0 (fun r S9 => wX D S0 S9 ∧ post r S9) := by
  intro sz
  refine Met.ofW (cc := cX12_placeOf) (maxL := 3) (ret := (some .int)) (by decide) rfl ?_
  intro p e s m args below meth c s₁ B hml hv
  obtain ⟨rfl, hsz, hP, hK, hD0, hRO⟩ := hv
  have hts := atoms_spec (ws := wz_X12_placeOf) B.pre
  have hown : s.vm.findClass RX12 = some m.cls := findClass_of_methodNamed B.named
  subst hsz
  have hD := hD0.self (sz := s.heap.size)
  have F : CallFix p m c cX12_placeOf 3 s _ wz_X12_placeOf RX12 := ⟨B.exec, B.bytes, hml, hown, hts⟩
  have hr := B.returns
  have hlocks := B.notSynchronized
  generalize hAe : va_A (wL cy X S0) s.heap.size = A at hD hK ⊢
  have hA : ∀ q, s.heap.size ≤ q → A q := fun q h => by rw [← hAe]; exact Or.inr h
  have hW : wO D cy X A s.heap S0 s.heap [] := ⟨hP, hD, va_S.rf, hA, hRO⟩
  have hl := lv_entry ([.int x0, .int x1, .int x2]) (n := 3) (Nat.le_of_ble_eq_true rfl)
  rw [lg_entry_eq]
  generalize (lg_sl ([.int x0, .int x1, .int x2]) ++ List.replicate (3 - (lg_sl ([.int x0, .int x1, .int x2])).length) Slot.unset).toArray = ls at hl ⊢
  have hl : lv_has ls 3 [(0, .int x0), (1, .int x1), (2, .int x2)] := hl
  unfold wp_X12_placeOf at hp
  exact t_X12_placeOf_0 F hr hlocks hK hp hW wX.rf (lv_sub hl [0, 1, 2] rfl)
def wp_X12_slot_0 (D : wD) (post : Int32 → wS → Prop)  (S : wS) (x0 : Int32) (x1 : Int32) : Prop :=
post (((40 : Int32) * x0) + x1) S
abbrev r_X12_slot : Room := { frames := 0, cells := 0, slots := 0, locals := 0 }
def wp_X12_slot (D : wD) (post : Int32 → wS → Prop) (S : wS) (x0 : Int32) (x1 : Int32) : Prop := wp_X12_slot_0 D post S x0 x1
set_option maxHeartbeats 4000000 in
set_option maxRecDepth 100000 in
theorem t_X12_slot_0 {p : Program} {l : Launch} {e : Env} {s : State} {m : MethodId} {args : Array Value} {below : List Frame} {meth : Method} {c : Code} {D : wD} {cy : Nat → ClassId} {X : va_W} {A : Nat → Prop} {S0 : wS} {post : Int32 → wS → Prop} (F : CallFix p m c cX12_slot 2 s args wz_X12_slot RX12) (hr : meth.sig.returnType = (some .int)) (hlocks : meth.locks = false) (hK : wK D cy A s) : ∀ {S : wS} {H : Heap} {locs : List Loc} {ls : Array Slot} {x0 : Int32} {x1 : Int32}, wp_X12_slot_0 D post S x0 x1 → wO D cy X A s.heap S H locs → wX D S0 S → lv_has ls 2 [(0, .int x0), (1, .int x1)] → W p l e r_X12_slot s m args below meth c H locs 0 0 (MQ below (va_Qi (fun r S9 => wX D S0 S9 ∧ post r S9) (wB D cy X A) A) args s 0 0 A) (F0 m 0 ls []) := by
  obtain ⟨hx, hb, hml, hown, hts⟩ := id F
  have hwg : ∀ w ∈ WG, w.before args s = true := fun w h => hts w (List.mem_cons_of_mem _ h)
  intro S H locs ls x0 x1 hp hW hE hl
  unfold wp_X12_slot_0 at hp
  refine lv_bipush (v := 40) hx hb dX12_slot_0 (by decide) ?_
  refine lv_iload_n hx hb dX12_slot_2 rfl (lv_at hl 0 rfl) ?_
  refine lv_imul hx hb dX12_slot_3 ?_
  refine lv_iload_n hx hb dX12_slot_4 rfl (lv_at hl 1 rfl) ?_
  refine lv_iadd hx hb dX12_slot_5 ?_
  exact w_iret hx hb hr hlocks hW ⟨hE, hp⟩ dX12_slot_6
set_option maxHeartbeats 4000000 in
set_option maxRecDepth 100000 in
theorem c_X12_slot (l : Launch) {D : wD} {cy : Nat → ClassId} {X : va_W} {S0 : wS} {post : Int32 → wS → Prop} {x0 : Int32} {x1 : Int32} (hp : wp_X12_slot D post S0 x0 x1) : mI D cy X l yX12_slot wz_X12_slot r_X12_slot [.int x0, .int x1] S0 (fun r S9 => wX D S0 S9 ∧ post r S9) := by
  intro sz
  refine Met.ofW (cc := cX12_slot) (maxL := 2) (ret := (some .int)) (by decide) rfl ?_
  intro p e s m args below meth c s₁ B hml hv
  obtain ⟨rfl, hsz, hP, hK, hD0, hRO⟩ := hv
  have hts := atoms_spec (ws := wz_X12_slot) B.pre
  have hown : s.vm.findClass RX12 = some m.cls := findClass_of_methodNamed B.named
  subst hsz
  have hD := hD0.self (sz := s.heap.size)
  have F : CallFix p m c cX12_slot 2 s _ wz_X12_slot RX12 := ⟨B.exec, B.bytes, hml, hown, hts⟩
  have hr := B.returns
  have hlocks := B.notSynchronized
  generalize hAe : va_A (wL cy X S0) s.heap.size = A at hD hK ⊢
  have hA : ∀ q, s.heap.size ≤ q → A q := fun q h => by rw [← hAe]; exact Or.inr h
  have hW : wO D cy X A s.heap S0 s.heap [] := ⟨hP, hD, va_S.rf, hA, hRO⟩
  have hl := lv_entry ([.int x0, .int x1]) (n := 2) (Nat.le_of_ble_eq_true rfl)
  rw [lg_entry_eq]
  generalize (lg_sl ([.int x0, .int x1]) ++ List.replicate (2 - (lg_sl ([.int x0, .int x1])).length) Slot.unset).toArray = ls at hl ⊢
  have hl : lv_has ls 2 [(0, .int x0), (1, .int x1)] := hl
  unfold wp_X12_slot at hp
  exact t_X12_slot_0 F hr hlocks hK hp hW wX.rf (lv_sub hl [0, 1] rfl)
def wp_X12_addGame_90 (D : wD) (post : Int32 → wS → Prop)  (S : wS) : Prop :=
post (0 : Int32) S
def wp_X12_addGame_83 (D : wD) (post : Int32 → wS → Prop)  (S : wS) (a0 : Nat) (x1 : Int32) (x2 : Int32) (x3 : Int32) (x4 : Int32) (b0 : Nat) (t1 : Int32) : Prop :=
wp_X12_can D (fun r_1 S_2 => 
((¬ r_1 = 0 → ∃ y_4 : Nat, sR S_2 a0 30 = some y_4 ∧ wM D S_2 y_4 ∧ sK S_2 y_4 = 21 ∧
vp_in x1 (sN S_2 y_4) ∧
∀ x_6 : Int32, x_6 = (sI S_2 y_4 (x1).toNatClampNeg) →
wp_X12_slot D (fun r_7 S_8 => 
∃ y_9 : Nat, sR S_8 a0 30 = some y_9 ∧ wM D S_8 y_9 ∧ sK S_8 y_9 = 21 ∧
vp_in x1 (sN S_8 y_9) ∧
y_9 ∈ sL S_8 ∧ vp_in x1 (sN S_8 y_9) ∧
∀ S_12 : wS, S_12 = uI S_8 y_9 (x1).toNatClampNeg ((sI S_8 y_9 (x1).toNatClampNeg) + (1 : Int32)) →
∃ y_13 : Nat, sR S_12 a0 8 = some y_13 ∧ wM D S_12 y_13 ∧ sK S_12 y_13 = 21 ∧
∃ y_14 : Nat, sR S_12 a0 31 = some y_14 ∧ wM D S_12 y_14 ∧ sK S_12 y_14 = 21 ∧
wp_X12_placeOf D (fun r_15 S_16 => 
wp_X12_copies D (fun S_18 => 
∃ y_19 : Nat, sR S_18 a0 9 = some y_19 ∧ wM D S_18 y_19 ∧ sK S_18 y_19 = 21 ∧
∃ y_20 : Nat, sR S_18 a0 32 = some y_20 ∧ wM D S_18 y_20 ∧ sK S_18 y_20 = 21 ∧
wp_X12_copies D (fun S_22 => 
∃ y_23 : Nat, sR S_22 a0 33 = some y_23 ∧ wM D S_22 y_23 ∧ sK S_22 y_23 = 21 ∧
y_23 ∈ sL S_22 ∧ vp_in r_7 (sN S_22 y_23) ∧
∀ S_25 : wS, S_25 = uI S_22 y_23 (r_7).toNatClampNeg (sI S_22 a0 11) →
∃ y_26 : Nat, sR S_25 a0 34 = some y_26 ∧ wM D S_25 y_26 ∧ sK S_25 y_26 = 21 ∧
y_26 ∈ sL S_25 ∧ vp_in r_7 (sN S_25 y_26) ∧
∀ S_28 : wS, S_28 = uI S_25 y_26 (r_7).toNatClampNeg x2 →
∃ y_29 : Nat, sR S_28 a0 35 = some y_29 ∧ wM D S_28 y_29 ∧ sK S_28 y_29 = 21 ∧
y_29 ∈ sL S_28 ∧ vp_in r_7 (sN S_28 y_29) ∧
∀ S_31 : wS, S_31 = uI S_28 y_29 (r_7).toNatClampNeg x3 →
∃ y_32 : Nat, sR S_31 a0 36 = some y_32 ∧ wM D S_31 y_32 ∧ sK S_31 y_32 = 21 ∧
y_32 ∈ sL S_31 ∧ vp_in r_7 (sN S_31 y_32) ∧
∀ S_34 : wS, S_34 = uI S_31 y_32 (r_7).toNatClampNeg x4 →
∃ y_35 : Nat, sR S_34 a0 37 = some y_35 ∧ wM D S_34 y_35 ∧ sK S_34 y_35 = 21 ∧
y_35 ∈ sL S_34 ∧ vp_in r_7 (sN S_34 y_35) ∧
∀ S_37 : wS, S_37 = uI S_34 y_35 (r_7).toNatClampNeg (0 : Int32) →
∃ y_38 : Nat, sR S_37 a0 38 = some y_38 ∧ wM D S_37 y_38 ∧ sK S_37 y_38 = 21 ∧
y_38 ∈ sL S_37 ∧ vp_in r_7 (sN S_37 y_38) ∧
∀ S_40 : wS, S_40 = uI S_37 y_38 (r_7).toNatClampNeg (0 : Int32) →
post x_6 S_40) S_18 (sI S_18 a0 11) y_19 (0 : Int32) y_20 ((80 : Int32) * r_7)) S_16 ((67 : Int32) * ((sI S_12 a0 11) + (1 : Int32))) y_13 (0 : Int32) y_14 r_15) S_12 x1 x_6 (0 : Int32)) S_2 x1 x_6) ∧
 (r_1 = 0 → wp_X12_addGame_90 D post S_2))) S b0 t1 (3 : Int32)
def wp_X12_addGame_82 (D : wD) (post : Int32 → wS → Prop)  (S : wS) (a0 : Nat) (x1 : Int32) (x2 : Int32) (x3 : Int32) (x4 : Int32) (b0 : Nat) : Prop :=
wp_X12_addGame_83 D post S a0 x1 x2 x3 x4 b0 (0 : Int32)
def wp_X12_addGame_52 (D : wD) (post : Int32 → wS → Prop)  (S : wS) (a0 : Nat) (x1 : Int32) (x2 : Int32) (x3 : Int32) (x4 : Int32) (b0 : Nat) (t1 : Int32) : Prop :=
wp_X12_can D (fun r_1 S_2 => 
((r_1 = 0 → wp_X12_addGame_90 D post S_2) ∧
 (¬ r_1 = 0 → wp_X12_isAskable D (fun r_4 S_5 => 
((r_4 = 0 → wp_X12_addGame_82 D post S_5 a0 x1 x2 x3 x4 a0) ∧
 (¬ r_4 = 0 → ∃ y_7 : Nat, sR S_5 a0 30 = some y_7 ∧ wM D S_5 y_7 ∧ sK S_5 y_7 = 21 ∧
vp_in x1 (sN S_5 y_7) ∧
(((40 : Int32) ≤ (sI S_5 y_7 (x1).toNatClampNeg) → wp_X12_addGame_82 D post S_5 a0 x1 x2 x3 x4 a0) ∧
 (¬ (40 : Int32) ≤ (sI S_5 y_7 (x1).toNatClampNeg) → wp_X12_addGame_83 D post S_5 a0 x1 x2 x3 x4 a0 (1 : Int32)))))) S_2 a0))) S b0 t1 (2 : Int32)
def wp_X12_addGame_51 (D : wD) (post : Int32 → wS → Prop)  (S : wS) (a0 : Nat) (x1 : Int32) (x2 : Int32) (x3 : Int32) (x4 : Int32) (b0 : Nat) : Prop :=
wp_X12_addGame_52 D post S a0 x1 x2 x3 x4 b0 (0 : Int32)
def wp_X12_addGame_0 (D : wD) (post : Int32 → wS → Prop)  (S : wS) (a0 : Nat) (x1 : Int32) (x2 : Int32) (x3 : Int32) (x4 : Int32) : Prop :=
wp_X12_isShelf D (fun r_1 S_2 => 
wp_X12_can D (fun r_3 S_4 => 
((r_3 = 0 → wp_X12_addGame_90 D post S_4) ∧
 (¬ r_3 = 0 → wp_X12_in D (fun r_6 S_7 => 
((r_6 = 0 → wp_X12_addGame_51 D post S_7 a0 x1 x2 x3 x4 a0) ∧
 (¬ r_6 = 0 → wp_X12_in D (fun r_9 S_10 => 
((r_9 = 0 → wp_X12_addGame_51 D post S_10 a0 x1 x2 x3 x4 a0) ∧
 (¬ r_9 = 0 → wp_X12_in D (fun r_12 S_13 => 
((r_12 = 0 → wp_X12_addGame_51 D post S_13 a0 x1 x2 x3 x4 a0) ∧
 (¬ r_12 = 0 → wp_X12_addGame_52 D post S_13 a0 x1 x2 x3 x4 a0 (1 : Int32)))) S_10 x4 (0 : Int32) (3500 : Int32)))) S_7 x3 (1800 : Int32) (2100 : Int32)))) S_4 x2 (0 : Int32) (2 : Int32)))) S_2 a0 r_1 (1 : Int32)) S x1
abbrev r_X12_addGame : Room := { frames := 7, cells := 0, slots := 0, locals := 164 }
def wp_X12_addGame (D : wD) (post : Int32 → wS → Prop) (S : wS) (a0 : Nat) (x1 : Int32) (x2 : Int32) (x3 : Int32) (x4 : Int32) : Prop := wp_X12_addGame_0 D post S a0 x1 x2 x3 x4
set_option maxHeartbeats 4000000 in
set_option maxRecDepth 100000 in
theorem t_X12_addGame_90 {p : Program} {l : Launch} {e : Env} {s : State} {m : MethodId} {args : Array Value} {below : List Frame} {meth : Method} {c : Code} {D : wD} {cy : Nat → ClassId} {X : va_W} {A : Nat → Prop} {S0 : wS} {post : Int32 → wS → Prop} (F : CallFix p m c cX12_addGame 7 s args wz_X12_addGame RX12) (hr : meth.sig.returnType = (some .int)) (hlocks : meth.locks = false) (hK : wK D cy A s) : ∀ {S : wS} {H : Heap} {locs : List Loc} {ls : Array Slot}, wp_X12_addGame_90 D post S → wO D cy X A s.heap S H locs → wX D S0 S → lv_has ls 7 [] → W p l e r_X12_addGame s m args below meth c H locs 0 0 (MQ below (va_Qi (fun r S9 => wX D S0 S9 ∧ post r S9) (wB D cy X A) A) args s 0 0 A) (F0 m 90 ls []) := by
  obtain ⟨hx, hb, hml, hown, hts⟩ := id F
  have hwg : ∀ w ∈ WG, w.before args s = true := fun w h => hts w (List.mem_cons_of_mem _ h)
  intro S H locs ls hp hW hE hl
  unfold wp_X12_addGame_90 at hp
  refine lv_iconst (v := 0) hx hb dX12_addGame_90 (by decide) ?_
  exact w_iret hx hb hr hlocks hW ⟨hE, hp⟩ dX12_addGame_91
set_option maxHeartbeats 4000000 in
set_option maxRecDepth 100000 in
theorem t_X12_addGame_83 {p : Program} {l : Launch} {e : Env} {s : State} {m : MethodId} {args : Array Value} {below : List Frame} {meth : Method} {c : Code} {D : wD} {cy : Nat → ClassId} {X : va_W} {A : Nat → Prop} {S0 : wS} {post : Int32 → wS → Prop} (F : CallFix p m c cX12_addGame 7 s args wz_X12_addGame RX12) (hr : meth.sig.returnType = (some .int)) (hlocks : meth.locks = false) (hK : wK D cy A s) : ∀ {S : wS} {H : Heap} {locs : List Loc} {ls : Array Slot} {a0 : Nat} {x1 : Int32} {x2 : Int32} {x3 : Int32} {x4 : Int32} {b0 : Nat} {t1 : Int32}, wp_X12_addGame_83 D post S a0 x1 x2 x3 x4 b0 t1 → wO D cy X A s.heap S H locs → wX D S0 S → lv_has ls 7 [(0, .ref a0), (1, .int x1), (2, .int x2), (3, .int x3), (4, .int x4)] → wM D S a0 → sK S a0 = 17 → wM D S b0 → sK S b0 = 17 → W p l e r_X12_addGame s m args below meth c H locs 0 0 (MQ below (va_Qi (fun r S9 => wX D S0 S9 ∧ post r S9) (wB D cy X A) A) args s 0 0 A) (F0 m 83 ls [.int t1, .ref b0]) := by
  obtain ⟨hx, hb, hml, hown, hts⟩ := id F
  have hwg : ∀ w ∈ WG, w.before args s = true := fun w h => hts w (List.mem_cons_of_mem _ h)
  have i_17 : ∀ w ∈ u_ws RX12 TX12 43, w ∈ wz_X12_addGame := fun w h => List.mem_cons_of_mem _ (wu_17 w h)
  have k_121 := hwg _ wf_RX12_121
  have k_32 := hwg _ wf_RX12_32
  have k_35 := hwg _ wf_RX12_35
  have k_69 := hwg _ wf_RX12_69
  have k_73 := hwg _ wf_RX12_73
  have k_76 := hwg _ wf_RX12_76
  have k_79 := hwg _ wf_RX12_79
  have k_82 := hwg _ wf_RX12_82
  have k_85 := hwg _ wf_RX12_85
  have k_88 := hwg _ wf_RX12_88
  have k_91 := hwg _ wf_RX12_91
  have k_94 := hwg _ wf_RX12_94
  intro S H locs ls a0 x1 x2 x3 x4 b0 t1 hp hW hE hl hL_a0 hK_a0 hL_b0 hK_b0
  unfold wp_X12_addGame_83 at hp
  refine lv_iconst (v := 3) hx hb dX12_addGame_83 (by decide) ?_
  refine w_callI (va_runV (As := [.int t1, .int (3 : Int32)]) (rest := []) F (c_X12_can l hL_b0 hK_b0 hp H.size) (cwV (C := RX12) 2 hts (wg_V wm_RX12_237 wy_X12_can) rfl rfl rfl (by decide +kernel) ⟨Nat.le_of_ble_eq_true rfl, Nat.le_of_ble_eq_true rfl⟩) (w_preV hK hW hL_b0 hK_b0 (by decide) rfl) rfl rfl hl.1 rfl (lv_room (Nat.le_of_ble_eq_true rfl)) dX12_addGame_84 ⟨Nat.le_of_ble_eq_true rfl, Nat.le_of_ble_eq_true rfl⟩) hW (fun r_1 S_2 H locs hp hW => ?_)
  obtain ⟨hX_S_2, hp⟩ := hp
  refine W.widen (k := 0) (n := 0) (by decide) (by decide) ?_
  have hE := hE.trans hX_S_2
  have hK_a0 : sK S_2 a0 = 17 := (hX_S_2.2 a0 hL_a0).1.trans hK_a0
  have hL_a0 : wM D S_2 a0 := hX_S_2.M hL_a0
  refine lv_if_ne (tgt := 92) hx hb dX12_addGame_87 (by decide) (fun c_3 => ?_) (fun c_3 => ?_)
  · replace hp := hp.1 c_3
    refine lv_aload_n hx hb dX12_addGame_92 rfl (lv_at hl 0 rfl) ?_
    obtain ⟨y_4, ey_4, hL_y_4, hK_y_4, hp⟩ := hp
    refine w_get (k := 17) (f := 30) (T := TX12) (v := .ref y_4) F hK hW hL_a0 hK_a0 (by decide) rfl rfl (by decide) i_17 k_69 (by rw [show wv 17 30 S_2 a0 = va_rf (sR S_2 a0 30) from rfl, ey_4]; rfl) dX12_addGame_93 ?_
    refine lv_iload_n hx hb dX12_addGame_96 rfl (lv_at hl 1 rfl) ?_
    obtain ⟨h_5, hp⟩ := hp
    refine w_ild F hK hW hL_y_4 hK_y_4 h_5 dX12_addGame_97 ?_
    refine lv_topi (fun x_6 ex_6 => ?_)
    replace hp := hp x_6 ex_6
    refine lv_istore (lv' := [(5, .int x_6), (0, .ref a0), (1, .int x1), (2, .int x2), (3, .int x3), (4, .int x4)]) hx hb dX12_addGame_98 hl (by decide) rfl (fun ls hl => ?_)
    refine lv_iload_n hx hb dX12_addGame_100 rfl (lv_at hl 2 rfl) ?_
    refine lv_iload hx hb dX12_addGame_101 (lv_at hl 0 rfl) ?_
    refine w_callI (va_runS (As := [.int x1, .int x_6]) (rest := []) F (c_X12_slot l hp H.size) (va_cwS 2 hts (wg_S wm_RX12_400 wy_X12_slot) rfl rfl rfl (by decide +kernel) ⟨Nat.le_of_ble_eq_true rfl, Nat.le_of_ble_eq_true rfl⟩) (w_preS hK hW) rfl rfl hl.1 rfl (lv_room (Nat.le_of_ble_eq_true rfl)) dX12_addGame_103 ⟨Nat.le_of_ble_eq_true rfl, Nat.le_of_ble_eq_true rfl⟩) hW (fun r_7 S_8 H locs hp hW => ?_)
    obtain ⟨hX_S_8, hp⟩ := hp
    refine W.widen (k := 0) (n := 0) (by decide) (by decide) ?_
    have hE := hE.trans hX_S_8
    have hK_a0 : sK S_8 a0 = 17 := (hX_S_8.2 a0 hL_a0).1.trans hK_a0
    have hL_a0 : wM D S_8 a0 := hX_S_8.M hL_a0
    refine lv_istore (lv' := [(6, .int r_7), (5, .int x_6), (0, .ref a0), (1, .int x1), (2, .int x2), (3, .int x3), (4, .int x4)]) hx hb dX12_addGame_106 hl (by decide) rfl (fun ls hl => ?_)
    refine lv_aload_n hx hb dX12_addGame_108 rfl (lv_at hl 2 rfl) ?_
    obtain ⟨y_9, ey_9, hL_y_9, hK_y_9, hp⟩ := hp
    refine w_get (k := 17) (f := 30) (T := TX12) (v := .ref y_9) F hK hW hL_a0 hK_a0 (by decide) rfl rfl (by decide) i_17 k_69 (by rw [show wv 17 30 S_8 a0 = va_rf (sR S_8 a0 30) from rfl, ey_9]; rfl) dX12_addGame_109 ?_
    refine lv_iload_n hx hb dX12_addGame_112 rfl (lv_at hl 3 rfl) ?_
    refine lv_dup2_11 hx hb dX12_addGame_113 rfl rfl ?_
    obtain ⟨h_10, hp⟩ := hp
    refine w_ild F hK hW hL_y_9 hK_y_9 h_10 dX12_addGame_114 ?_
    refine lv_iconst (v := 1) hx hb dX12_addGame_115 (by decide) ?_
    refine lv_iadd hx hb dX12_addGame_116 ?_
    obtain ⟨h_11m, h_11, hp⟩ := hp
    refine w_ist F hK hW h_11m hK_y_9 h_11 dX12_addGame_117 (fun H locs hW => ?_)
    obtain ⟨S_12, eS_12⟩ : ∃ z : wS, z = uI S_8 y_9 (x1).toNatClampNeg ((sI S_8 y_9 (x1).toNatClampNeg) + (1 : Int32)) := ⟨_, rfl⟩
    rw [← eS_12] at hW
    replace hp := hp S_12 eS_12
    have hX_S_12 : wX D S_8 S_12 := by rw [eS_12]; exact wX_uI
    have hE := hE.trans hX_S_12
    have hK_a0 : sK S_12 a0 = 17 := (hX_S_12.2 a0 hL_a0).1.trans hK_a0
    have hL_a0 : wM D S_12 a0 := hX_S_12.M hL_a0
    refine lv_bipush (v := 67) hx hb dX12_addGame_118 (by decide) ?_
    refine lv_aload_n hx hb dX12_addGame_120 rfl (lv_at hl 2 rfl) ?_
    refine w_get (k := 17) (f := 11) (T := TX12) (v := .int (sI S_12 a0 11)) F hK hW hL_a0 hK_a0 (by decide) rfl rfl (by decide) i_17 k_121 rfl dX12_addGame_121 ?_
    refine lv_iconst (v := 1) hx hb dX12_addGame_124 (by decide) ?_
    refine lv_iadd hx hb dX12_addGame_125 ?_
    refine lv_imul hx hb dX12_addGame_126 ?_
    refine lv_aload_n hx hb dX12_addGame_127 rfl (lv_at hl 2 rfl) ?_
    obtain ⟨y_13, ey_13, hL_y_13, hK_y_13, hp⟩ := hp
    refine w_get (k := 17) (f := 8) (T := TX12) (v := .ref y_13) F hK hW hL_a0 hK_a0 (by decide) rfl rfl (by decide) i_17 k_32 (by rw [show wv 17 8 S_12 a0 = va_rf (sR S_12 a0 8) from rfl, ey_13]; rfl) dX12_addGame_128 ?_
    refine lv_iconst (v := 0) hx hb dX12_addGame_131 (by decide) ?_
    refine lv_aload_n hx hb dX12_addGame_132 rfl (lv_at hl 2 rfl) ?_
    obtain ⟨y_14, ey_14, hL_y_14, hK_y_14, hp⟩ := hp
    refine w_get (k := 17) (f := 31) (T := TX12) (v := .ref y_14) F hK hW hL_a0 hK_a0 (by decide) rfl rfl (by decide) i_17 k_73 (by rw [show wv 17 31 S_12 a0 = va_rf (sR S_12 a0 31) from rfl, ey_14]; rfl) dX12_addGame_133 ?_
    refine lv_iload_n hx hb dX12_addGame_136 rfl (lv_at hl 3 rfl) ?_
    refine lv_iload hx hb dX12_addGame_137 (lv_at hl 1 rfl) ?_
    refine lv_iconst (v := 0) hx hb dX12_addGame_139 (by decide) ?_
    refine w_callI (va_runS (As := [.int x1, .int x_6, .int (0 : Int32)]) (rest := [.ref y_14, .int (0 : Int32), .ref y_13, .int ((67 : Int32) * ((sI S_12 a0 11) + (1 : Int32)))]) F (c_X12_placeOf l hp H.size) (va_cwS 3 hts (wg_S wm_RX12_403 wy_X12_placeOf) rfl rfl rfl (by decide +kernel) ⟨Nat.le_of_ble_eq_true rfl, Nat.le_of_ble_eq_true rfl⟩) (w_preS hK hW) rfl rfl hl.1 rfl (lv_room (Nat.le_of_ble_eq_true rfl)) dX12_addGame_140 ⟨Nat.le_of_ble_eq_true rfl, Nat.le_of_ble_eq_true rfl⟩) hW (fun r_15 S_16 H locs hp hW => ?_)
    obtain ⟨hX_S_16, hp⟩ := hp
    refine W.widen (k := 0) (n := 0) (by decide) (by decide) ?_
    have hE := hE.trans hX_S_16
    have hK_a0 : sK S_16 a0 = 17 := (hX_S_16.2 a0 hL_a0).1.trans hK_a0
    have hL_a0 : wM D S_16 a0 := hX_S_16.M hL_a0
    have hK_y_13 : sK S_16 y_13 = 21 := (hX_S_16.2 y_13 hL_y_13).1.trans hK_y_13
    have hL_y_13 : wM D S_16 y_13 := hX_S_16.M hL_y_13
    have hK_y_14 : sK S_16 y_14 = 21 := (hX_S_16.2 y_14 hL_y_14).1.trans hK_y_14
    have hL_y_14 : wM D S_16 y_14 := hX_S_16.M hL_y_14
    refine w_callV (va_runS (As := [.int ((67 : Int32) * ((sI S_12 a0 11) + (1 : Int32))), .ref y_13, .int (0 : Int32), .ref y_14, .int r_15]) (rest := []) F (c_X12_copies l hL_y_13 hK_y_13 hL_y_14 hK_y_14 hp H.size) (va_cwS 5 hts (wg_S wm_RX12_130 wy_X12_copies) rfl rfl rfl (by decide +kernel) ⟨Nat.le_of_ble_eq_true rfl, Nat.le_of_ble_eq_true rfl⟩) (w_preS hK hW) rfl rfl hl.1 rfl (lv_room (Nat.le_of_ble_eq_true rfl)) dX12_addGame_143 ⟨Nat.le_of_ble_eq_true rfl, Nat.le_of_ble_eq_true rfl⟩) hW (fun S_18 H locs hp hW => ?_)
    obtain ⟨hX_S_18, hp⟩ := hp
    refine W.widen (k := 0) (n := 0) (by decide) (by decide) ?_
    have hE := hE.trans hX_S_18
    have hK_a0 : sK S_18 a0 = 17 := (hX_S_18.2 a0 hL_a0).1.trans hK_a0
    have hL_a0 : wM D S_18 a0 := hX_S_18.M hL_a0
    refine lv_aload_n hx hb dX12_addGame_146 rfl (lv_at hl 2 rfl) ?_
    refine w_get (k := 17) (f := 11) (T := TX12) (v := .int (sI S_18 a0 11)) F hK hW hL_a0 hK_a0 (by decide) rfl rfl (by decide) i_17 k_121 rfl dX12_addGame_147 ?_
    refine lv_aload_n hx hb dX12_addGame_150 rfl (lv_at hl 2 rfl) ?_
    obtain ⟨y_19, ey_19, hL_y_19, hK_y_19, hp⟩ := hp
    refine w_get (k := 17) (f := 9) (T := TX12) (v := .ref y_19) F hK hW hL_a0 hK_a0 (by decide) rfl rfl (by decide) i_17 k_35 (by rw [show wv 17 9 S_18 a0 = va_rf (sR S_18 a0 9) from rfl, ey_19]; rfl) dX12_addGame_151 ?_
    refine lv_iconst (v := 0) hx hb dX12_addGame_154 (by decide) ?_
    refine lv_aload_n hx hb dX12_addGame_155 rfl (lv_at hl 2 rfl) ?_
    obtain ⟨y_20, ey_20, hL_y_20, hK_y_20, hp⟩ := hp
    refine w_get (k := 17) (f := 32) (T := TX12) (v := .ref y_20) F hK hW hL_a0 hK_a0 (by decide) rfl rfl (by decide) i_17 k_76 (by rw [show wv 17 32 S_18 a0 = va_rf (sR S_18 a0 32) from rfl, ey_20]; rfl) dX12_addGame_156 ?_
    refine lv_bipush (v := 80) hx hb dX12_addGame_159 (by decide) ?_
    refine lv_iload hx hb dX12_addGame_161 (lv_at hl 0 rfl) ?_
    refine lv_imul hx hb dX12_addGame_163 ?_
    refine w_callV (va_runS (As := [.int (sI S_18 a0 11), .ref y_19, .int (0 : Int32), .ref y_20, .int ((80 : Int32) * r_7)]) (rest := []) F (c_X12_copies l hL_y_19 hK_y_19 hL_y_20 hK_y_20 hp H.size) (va_cwS 5 hts (wg_S wm_RX12_130 wy_X12_copies) rfl rfl rfl (by decide +kernel) ⟨Nat.le_of_ble_eq_true rfl, Nat.le_of_ble_eq_true rfl⟩) (w_preS hK hW) rfl rfl hl.1 rfl (lv_room (Nat.le_of_ble_eq_true rfl)) dX12_addGame_164 ⟨Nat.le_of_ble_eq_true rfl, Nat.le_of_ble_eq_true rfl⟩) hW (fun S_22 H locs hp hW => ?_)
    obtain ⟨hX_S_22, hp⟩ := hp
    refine W.widen (k := 0) (n := 0) (by decide) (by decide) ?_
    have hE := hE.trans hX_S_22
    have hK_a0 : sK S_22 a0 = 17 := (hX_S_22.2 a0 hL_a0).1.trans hK_a0
    have hL_a0 : wM D S_22 a0 := hX_S_22.M hL_a0
    refine lv_aload_n hx hb dX12_addGame_167 rfl (lv_at hl 2 rfl) ?_
    obtain ⟨y_23, ey_23, hL_y_23, hK_y_23, hp⟩ := hp
    refine w_get (k := 17) (f := 33) (T := TX12) (v := .ref y_23) F hK hW hL_a0 hK_a0 (by decide) rfl rfl (by decide) i_17 k_79 (by rw [show wv 17 33 S_22 a0 = va_rf (sR S_22 a0 33) from rfl, ey_23]; rfl) dX12_addGame_168 ?_
    refine lv_iload hx hb dX12_addGame_171 (lv_at hl 0 rfl) ?_
    refine lv_aload_n hx hb dX12_addGame_173 rfl (lv_at hl 2 rfl) ?_
    refine w_get (k := 17) (f := 11) (T := TX12) (v := .int (sI S_22 a0 11)) F hK hW hL_a0 hK_a0 (by decide) rfl rfl (by decide) i_17 k_121 rfl dX12_addGame_174 ?_
    obtain ⟨h_24m, h_24, hp⟩ := hp
    refine w_ist F hK hW h_24m hK_y_23 h_24 dX12_addGame_177 (fun H locs hW => ?_)
    obtain ⟨S_25, eS_25⟩ : ∃ z : wS, z = uI S_22 y_23 (r_7).toNatClampNeg (sI S_22 a0 11) := ⟨_, rfl⟩
    rw [← eS_25] at hW
    replace hp := hp S_25 eS_25
    have hX_S_25 : wX D S_22 S_25 := by rw [eS_25]; exact wX_uI
    have hE := hE.trans hX_S_25
    have hK_a0 : sK S_25 a0 = 17 := (hX_S_25.2 a0 hL_a0).1.trans hK_a0
    have hL_a0 : wM D S_25 a0 := hX_S_25.M hL_a0
    refine lv_aload_n hx hb dX12_addGame_178 rfl (lv_at hl 2 rfl) ?_
    obtain ⟨y_26, ey_26, hL_y_26, hK_y_26, hp⟩ := hp
    refine w_get (k := 17) (f := 34) (T := TX12) (v := .ref y_26) F hK hW hL_a0 hK_a0 (by decide) rfl rfl (by decide) i_17 k_82 (by rw [show wv 17 34 S_25 a0 = va_rf (sR S_25 a0 34) from rfl, ey_26]; rfl) dX12_addGame_179 ?_
    refine lv_iload hx hb dX12_addGame_182 (lv_at hl 0 rfl) ?_
    refine lv_iload_n hx hb dX12_addGame_184 rfl (lv_at hl 4 rfl) ?_
    obtain ⟨h_27m, h_27, hp⟩ := hp
    refine w_ist F hK hW h_27m hK_y_26 h_27 dX12_addGame_185 (fun H locs hW => ?_)
    obtain ⟨S_28, eS_28⟩ : ∃ z : wS, z = uI S_25 y_26 (r_7).toNatClampNeg x2 := ⟨_, rfl⟩
    rw [← eS_28] at hW
    replace hp := hp S_28 eS_28
    have hX_S_28 : wX D S_25 S_28 := by rw [eS_28]; exact wX_uI
    have hE := hE.trans hX_S_28
    have hK_a0 : sK S_28 a0 = 17 := (hX_S_28.2 a0 hL_a0).1.trans hK_a0
    have hL_a0 : wM D S_28 a0 := hX_S_28.M hL_a0
    refine lv_aload_n hx hb dX12_addGame_186 rfl (lv_at hl 2 rfl) ?_
    obtain ⟨y_29, ey_29, hL_y_29, hK_y_29, hp⟩ := hp
    refine w_get (k := 17) (f := 35) (T := TX12) (v := .ref y_29) F hK hW hL_a0 hK_a0 (by decide) rfl rfl (by decide) i_17 k_85 (by rw [show wv 17 35 S_28 a0 = va_rf (sR S_28 a0 35) from rfl, ey_29]; rfl) dX12_addGame_187 ?_
    refine lv_iload hx hb dX12_addGame_190 (lv_at hl 0 rfl) ?_
    refine lv_iload_n hx hb dX12_addGame_192 rfl (lv_at hl 5 rfl) ?_
    obtain ⟨h_30m, h_30, hp⟩ := hp
    refine w_ist F hK hW h_30m hK_y_29 h_30 dX12_addGame_193 (fun H locs hW => ?_)
    obtain ⟨S_31, eS_31⟩ : ∃ z : wS, z = uI S_28 y_29 (r_7).toNatClampNeg x3 := ⟨_, rfl⟩
    rw [← eS_31] at hW
    replace hp := hp S_31 eS_31
    have hX_S_31 : wX D S_28 S_31 := by rw [eS_31]; exact wX_uI
    have hE := hE.trans hX_S_31
    have hK_a0 : sK S_31 a0 = 17 := (hX_S_31.2 a0 hL_a0).1.trans hK_a0
    have hL_a0 : wM D S_31 a0 := hX_S_31.M hL_a0
    refine lv_aload_n hx hb dX12_addGame_194 rfl (lv_at hl 2 rfl) ?_
    obtain ⟨y_32, ey_32, hL_y_32, hK_y_32, hp⟩ := hp
    refine w_get (k := 17) (f := 36) (T := TX12) (v := .ref y_32) F hK hW hL_a0 hK_a0 (by decide) rfl rfl (by decide) i_17 k_88 (by rw [show wv 17 36 S_31 a0 = va_rf (sR S_31 a0 36) from rfl, ey_32]; rfl) dX12_addGame_195 ?_
    refine lv_iload hx hb dX12_addGame_198 (lv_at hl 0 rfl) ?_
    refine lv_iload hx hb dX12_addGame_200 (lv_at hl 6 rfl) ?_
    obtain ⟨h_33m, h_33, hp⟩ := hp
    refine w_ist F hK hW h_33m hK_y_32 h_33 dX12_addGame_202 (fun H locs hW => ?_)
    obtain ⟨S_34, eS_34⟩ : ∃ z : wS, z = uI S_31 y_32 (r_7).toNatClampNeg x4 := ⟨_, rfl⟩
    rw [← eS_34] at hW
    replace hp := hp S_34 eS_34
    have hX_S_34 : wX D S_31 S_34 := by rw [eS_34]; exact wX_uI
    have hE := hE.trans hX_S_34
    have hK_a0 : sK S_34 a0 = 17 := (hX_S_34.2 a0 hL_a0).1.trans hK_a0
    have hL_a0 : wM D S_34 a0 := hX_S_34.M hL_a0
    refine lv_aload_n hx hb dX12_addGame_203 rfl (lv_at hl 2 rfl) ?_
    obtain ⟨y_35, ey_35, hL_y_35, hK_y_35, hp⟩ := hp
    refine w_get (k := 17) (f := 37) (T := TX12) (v := .ref y_35) F hK hW hL_a0 hK_a0 (by decide) rfl rfl (by decide) i_17 k_91 (by rw [show wv 17 37 S_34 a0 = va_rf (sR S_34 a0 37) from rfl, ey_35]; rfl) dX12_addGame_204 ?_
    refine lv_iload hx hb dX12_addGame_207 (lv_at hl 0 rfl) ?_
    refine lv_iconst (v := 0) hx hb dX12_addGame_209 (by decide) ?_
    obtain ⟨h_36m, h_36, hp⟩ := hp
    refine w_ist F hK hW h_36m hK_y_35 h_36 dX12_addGame_210 (fun H locs hW => ?_)
    obtain ⟨S_37, eS_37⟩ : ∃ z : wS, z = uI S_34 y_35 (r_7).toNatClampNeg (0 : Int32) := ⟨_, rfl⟩
    rw [← eS_37] at hW
    replace hp := hp S_37 eS_37
    have hX_S_37 : wX D S_34 S_37 := by rw [eS_37]; exact wX_uI
    have hE := hE.trans hX_S_37
    have hK_a0 : sK S_37 a0 = 17 := (hX_S_37.2 a0 hL_a0).1.trans hK_a0
    have hL_a0 : wM D S_37 a0 := hX_S_37.M hL_a0
    refine lv_aload_n hx hb dX12_addGame_211 rfl (lv_at hl 2 rfl) ?_
    obtain ⟨y_38, ey_38, hL_y_38, hK_y_38, hp⟩ := hp
    refine w_get (k := 17) (f := 38) (T := TX12) (v := .ref y_38) F hK hW hL_a0 hK_a0 (by decide) rfl rfl (by decide) i_17 k_94 (by rw [show wv 17 38 S_37 a0 = va_rf (sR S_37 a0 38) from rfl, ey_38]; rfl) dX12_addGame_212 ?_
    refine lv_iload hx hb dX12_addGame_215 (lv_at hl 0 rfl) ?_
    refine lv_iconst (v := 0) hx hb dX12_addGame_217 (by decide) ?_
    obtain ⟨h_39m, h_39, hp⟩ := hp
    refine w_ist F hK hW h_39m hK_y_38 h_39 dX12_addGame_218 (fun H locs hW => ?_)
    obtain ⟨S_40, eS_40⟩ : ∃ z : wS, z = uI S_37 y_38 (r_7).toNatClampNeg (0 : Int32) := ⟨_, rfl⟩
    rw [← eS_40] at hW
    replace hp := hp S_40 eS_40
    have hX_S_40 : wX D S_37 S_40 := by rw [eS_40]; exact wX_uI
    have hE := hE.trans hX_S_40
    have hK_a0 : sK S_40 a0 = 17 := (hX_S_40.2 a0 hL_a0).1.trans hK_a0
    have hL_a0 : wM D S_40 a0 := hX_S_40.M hL_a0
    refine lv_iload hx hb dX12_addGame_219 (lv_at hl 1 rfl) ?_
    exact w_iret hx hb hr hlocks hW ⟨hE, hp⟩ dX12_addGame_221
  · replace hp := hp.2 c_3
    exact t_X12_addGame_90 F hr hlocks hK hp hW hE (lv_sub hl [] rfl)
set_option maxHeartbeats 4000000 in
set_option maxRecDepth 100000 in
theorem t_X12_addGame_82 {p : Program} {l : Launch} {e : Env} {s : State} {m : MethodId} {args : Array Value} {below : List Frame} {meth : Method} {c : Code} {D : wD} {cy : Nat → ClassId} {X : va_W} {A : Nat → Prop} {S0 : wS} {post : Int32 → wS → Prop} (F : CallFix p m c cX12_addGame 7 s args wz_X12_addGame RX12) (hr : meth.sig.returnType = (some .int)) (hlocks : meth.locks = false) (hK : wK D cy A s) : ∀ {S : wS} {H : Heap} {locs : List Loc} {ls : Array Slot} {a0 : Nat} {x1 : Int32} {x2 : Int32} {x3 : Int32} {x4 : Int32} {b0 : Nat}, wp_X12_addGame_82 D post S a0 x1 x2 x3 x4 b0 → wO D cy X A s.heap S H locs → wX D S0 S → lv_has ls 7 [(0, .ref a0), (1, .int x1), (2, .int x2), (3, .int x3), (4, .int x4)] → wM D S a0 → sK S a0 = 17 → wM D S b0 → sK S b0 = 17 → W p l e r_X12_addGame s m args below meth c H locs 0 0 (MQ below (va_Qi (fun r S9 => wX D S0 S9 ∧ post r S9) (wB D cy X A) A) args s 0 0 A) (F0 m 82 ls [.ref b0]) := by
  obtain ⟨hx, hb, hml, hown, hts⟩ := id F
  have hwg : ∀ w ∈ WG, w.before args s = true := fun w h => hts w (List.mem_cons_of_mem _ h)
  intro S H locs ls a0 x1 x2 x3 x4 b0 hp hW hE hl hL_a0 hK_a0 hL_b0 hK_b0
  unfold wp_X12_addGame_82 at hp
  refine lv_iconst (v := 0) hx hb dX12_addGame_82 (by decide) ?_
  exact t_X12_addGame_83 F hr hlocks hK hp hW hE (lv_sub hl [0, 1, 2, 3, 4] rfl) hL_a0 hK_a0 hL_b0 hK_b0
set_option maxHeartbeats 4000000 in
set_option maxRecDepth 100000 in
theorem t_X12_addGame_52 {p : Program} {l : Launch} {e : Env} {s : State} {m : MethodId} {args : Array Value} {below : List Frame} {meth : Method} {c : Code} {D : wD} {cy : Nat → ClassId} {X : va_W} {A : Nat → Prop} {S0 : wS} {post : Int32 → wS → Prop} (F : CallFix p m c cX12_addGame 7 s args wz_X12_addGame RX12) (hr : meth.sig.returnType = (some .int)) (hlocks : meth.locks = false) (hK : wK D cy A s) : ∀ {S : wS} {H : Heap} {locs : List Loc} {ls : Array Slot} {a0 : Nat} {x1 : Int32} {x2 : Int32} {x3 : Int32} {x4 : Int32} {b0 : Nat} {t1 : Int32}, wp_X12_addGame_52 D post S a0 x1 x2 x3 x4 b0 t1 → wO D cy X A s.heap S H locs → wX D S0 S → lv_has ls 7 [(0, .ref a0), (1, .int x1), (2, .int x2), (3, .int x3), (4, .int x4)] → wM D S a0 → sK S a0 = 17 → wM D S b0 → sK S b0 = 17 → W p l e r_X12_addGame s m args below meth c H locs 0 0 (MQ below (va_Qi (fun r S9 => wX D S0 S9 ∧ post r S9) (wB D cy X A) A) args s 0 0 A) (F0 m 52 ls [.int t1, .ref b0]) := by
  obtain ⟨hx, hb, hml, hown, hts⟩ := id F
  have hwg : ∀ w ∈ WG, w.before args s = true := fun w h => hts w (List.mem_cons_of_mem _ h)
  have i_17 : ∀ w ∈ u_ws RX12 TX12 43, w ∈ wz_X12_addGame := fun w h => List.mem_cons_of_mem _ (wu_17 w h)
  have k_69 := hwg _ wf_RX12_69
  intro S H locs ls a0 x1 x2 x3 x4 b0 t1 hp hW hE hl hL_a0 hK_a0 hL_b0 hK_b0
  unfold wp_X12_addGame_52 at hp
  refine lv_iconst (v := 2) hx hb dX12_addGame_52 (by decide) ?_
  refine w_callI (va_runV (As := [.int t1, .int (2 : Int32)]) (rest := []) F (c_X12_can l hL_b0 hK_b0 hp H.size) (cwV (C := RX12) 2 hts (wg_V wm_RX12_237 wy_X12_can) rfl rfl rfl (by decide +kernel) ⟨Nat.le_of_ble_eq_true rfl, Nat.le_of_ble_eq_true rfl⟩) (w_preV hK hW hL_b0 hK_b0 (by decide) rfl) rfl rfl hl.1 rfl (lv_room (Nat.le_of_ble_eq_true rfl)) dX12_addGame_53 ⟨Nat.le_of_ble_eq_true rfl, Nat.le_of_ble_eq_true rfl⟩) hW (fun r_1 S_2 H locs hp hW => ?_)
  obtain ⟨hX_S_2, hp⟩ := hp
  refine W.widen (k := 0) (n := 0) (by decide) (by decide) ?_
  have hE := hE.trans hX_S_2
  have hK_a0 : sK S_2 a0 = 17 := (hX_S_2.2 a0 hL_a0).1.trans hK_a0
  have hL_a0 : wM D S_2 a0 := hX_S_2.M hL_a0
  refine lv_if_eq (tgt := 90) hx hb dX12_addGame_56 (by decide) (fun c_3 => ?_) (fun c_3 => ?_)
  · replace hp := hp.1 c_3
    exact t_X12_addGame_90 F hr hlocks hK hp hW hE (lv_sub hl [] rfl)
  · replace hp := hp.2 c_3
    refine lv_aload_n hx hb dX12_addGame_59 rfl (lv_at hl 0 rfl) ?_
    refine lv_aload_n hx hb dX12_addGame_60 rfl (lv_at hl 0 rfl) ?_
    refine w_callI (va_runV (As := []) (rest := [.ref a0]) F (c_X12_isAskable l hL_a0 hK_a0 hp H.size) (cwV (C := RX12) 0 hts (wg_V wm_RX12_284 wy_X12_isAskable) rfl rfl rfl (by decide +kernel) ⟨Nat.le_of_ble_eq_true rfl, Nat.le_of_ble_eq_true rfl⟩) (w_preV hK hW hL_a0 hK_a0 (by decide) rfl) rfl rfl hl.1 rfl (lv_room (Nat.le_of_ble_eq_true rfl)) dX12_addGame_61 ⟨Nat.le_of_ble_eq_true rfl, Nat.le_of_ble_eq_true rfl⟩) hW (fun r_4 S_5 H locs hp hW => ?_)
    obtain ⟨hX_S_5, hp⟩ := hp
    refine W.widen (k := 0) (n := 0) (by decide) (by decide) ?_
    have hE := hE.trans hX_S_5
    have hK_a0 : sK S_5 a0 = 17 := (hX_S_5.2 a0 hL_a0).1.trans hK_a0
    have hL_a0 : wM D S_5 a0 := hX_S_5.M hL_a0
    refine lv_if_eq (tgt := 82) hx hb dX12_addGame_64 (by decide) (fun c_6 => ?_) (fun c_6 => ?_)
    · replace hp := hp.1 c_6
      exact t_X12_addGame_82 F hr hlocks hK hp hW hE (lv_sub hl [0, 1, 2, 3, 4] rfl) hL_a0 hK_a0 hL_a0 hK_a0
    · replace hp := hp.2 c_6
      refine lv_aload_n hx hb dX12_addGame_67 rfl (lv_at hl 0 rfl) ?_
      obtain ⟨y_7, ey_7, hL_y_7, hK_y_7, hp⟩ := hp
      refine w_get (k := 17) (f := 30) (T := TX12) (v := .ref y_7) F hK hW hL_a0 hK_a0 (by decide) rfl rfl (by decide) i_17 k_69 (by rw [show wv 17 30 S_5 a0 = va_rf (sR S_5 a0 30) from rfl, ey_7]; rfl) dX12_addGame_68 ?_
      refine lv_iload_n hx hb dX12_addGame_71 rfl (lv_at hl 1 rfl) ?_
      obtain ⟨h_8, hp⟩ := hp
      refine w_ild F hK hW hL_y_7 hK_y_7 h_8 dX12_addGame_72 ?_
      refine lv_bipush (v := 40) hx hb dX12_addGame_73 (by decide) ?_
      refine lv_icmp_ge (tgt := 82) hx hb dX12_addGame_75 (by decide) (fun c_9 => ?_) (fun c_9 => ?_)
      · replace hp := hp.1 c_9
        exact t_X12_addGame_82 F hr hlocks hK hp hW hE (lv_sub hl [0, 1, 2, 3, 4] rfl) hL_a0 hK_a0 hL_a0 hK_a0
      · replace hp := hp.2 c_9
        refine lv_iconst (v := 1) hx hb dX12_addGame_78 (by decide) ?_
        refine lv_goto (tgt := 83) hx hb dX12_addGame_79 (by decide) ?_
        exact t_X12_addGame_83 F hr hlocks hK hp hW hE (lv_sub hl [0, 1, 2, 3, 4] rfl) hL_a0 hK_a0 hL_a0 hK_a0
set_option maxHeartbeats 4000000 in
set_option maxRecDepth 100000 in
theorem t_X12_addGame_51 {p : Program} {l : Launch} {e : Env} {s : State} {m : MethodId} {args : Array Value} {below : List Frame} {meth : Method} {c : Code} {D : wD} {cy : Nat → ClassId} {X : va_W} {A : Nat → Prop} {S0 : wS} {post : Int32 → wS → Prop} (F : CallFix p m c cX12_addGame 7 s args wz_X12_addGame RX12) (hr : meth.sig.returnType = (some .int)) (hlocks : meth.locks = false) (hK : wK D cy A s) : ∀ {S : wS} {H : Heap} {locs : List Loc} {ls : Array Slot} {a0 : Nat} {x1 : Int32} {x2 : Int32} {x3 : Int32} {x4 : Int32} {b0 : Nat}, wp_X12_addGame_51 D post S a0 x1 x2 x3 x4 b0 → wO D cy X A s.heap S H locs → wX D S0 S → lv_has ls 7 [(0, .ref a0), (1, .int x1), (2, .int x2), (3, .int x3), (4, .int x4)] → wM D S a0 → sK S a0 = 17 → wM D S b0 → sK S b0 = 17 → W p l e r_X12_addGame s m args below meth c H locs 0 0 (MQ below (va_Qi (fun r S9 => wX D S0 S9 ∧ post r S9) (wB D cy X A) A) args s 0 0 A) (F0 m 51 ls [.ref b0]) := by
  obtain ⟨hx, hb, hml, hown, hts⟩ := id F
  have hwg : ∀ w ∈ WG, w.before args s = true := fun w h => hts w (List.mem_cons_of_mem _ h)
  intro S H locs ls a0 x1 x2 x3 x4 b0 hp hW hE hl hL_a0 hK_a0 hL_b0 hK_b0
  unfold wp_X12_addGame_51 at hp
  refine lv_iconst (v := 0) hx hb dX12_addGame_51 (by decide) ?_
  exact t_X12_addGame_52 F hr hlocks hK hp hW hE (lv_sub hl [0, 1, 2, 3, 4] rfl) hL_a0 hK_a0 hL_b0 hK_b0
set_option maxHeartbeats 4000000 in
set_option maxRecDepth 100000 in
theorem t_X12_addGame_0 {p : Program} {l : Launch} {e : Env} {s : State} {m : MethodId} {args : Array Value} {below : List Frame} {meth : Method} {c : Code} {D : wD} {cy : Nat → ClassId} {X : va_W} {A : Nat → Prop} {S0 : wS} {post : Int32 → wS → Prop} (F : CallFix p m c cX12_addGame 7 s args wz_X12_addGame RX12) (hr : meth.sig.returnType = (some .int)) (hlocks : meth.locks = false) (hK : wK D cy A s) : ∀ {S : wS} {H : Heap} {locs : List Loc} {ls : Array Slot} {a0 : Nat} {x1 : Int32} {x2 : Int32} {x3 : Int32} {x4 : Int32}, wp_X12_addGame_0 D post S a0 x1 x2 x3 x4 → wO D cy X A s.heap S H locs → wX D S0 S → lv_has ls 7 [(0, .ref a0), (1, .int x1), (2, .int x2), (3, .int x3), (4, .int x4)] → wM D S a0 → sK S a0 = 17 → W p l e r_X12_addGame s m args below meth c H locs 0 0 (MQ below (va_Qi (fun r S9 => wX D S0 S9 ∧ post r S9) (wB D cy X A) A) args s 0 0 A) (F0 m 0 ls []) := by
  obtain ⟨hx, hb, hml, hown, hts⟩ := id F
  have hwg : ∀ w ∈ WG, w.before args s = true := fun w h => hts w (List.mem_cons_of_mem _ h)
  intro S H locs ls a0 x1 x2 x3 x4 hp hW hE hl hL_a0 hK_a0
  unfold wp_X12_addGame_0 at hp
  refine lv_aload_n hx hb dX12_addGame_0 rfl (lv_at hl 0 rfl) ?_
  refine lv_iload_n hx hb dX12_addGame_1 rfl (lv_at hl 1 rfl) ?_
  refine w_callI (va_runS (As := [.int x1]) (rest := [.ref a0]) F (c_X12_isShelf l hp H.size) (va_cwS 1 hts (wg_S wm_RX12_397 wy_X12_isShelf) rfl rfl rfl (by decide +kernel) ⟨Nat.le_of_ble_eq_true rfl, Nat.le_of_ble_eq_true rfl⟩) (w_preS hK hW) rfl rfl hl.1 rfl (lv_room (Nat.le_of_ble_eq_true rfl)) dX12_addGame_2 ⟨Nat.le_of_ble_eq_true rfl, Nat.le_of_ble_eq_true rfl⟩) hW (fun r_1 S_2 H locs hp hW => ?_)
  obtain ⟨hX_S_2, hp⟩ := hp
  refine W.widen (k := 0) (n := 0) (by decide) (by decide) ?_
  have hE := hE.trans hX_S_2
  have hK_a0 : sK S_2 a0 = 17 := (hX_S_2.2 a0 hL_a0).1.trans hK_a0
  have hL_a0 : wM D S_2 a0 := hX_S_2.M hL_a0
  refine lv_iconst (v := 1) hx hb dX12_addGame_5 (by decide) ?_
  refine w_callI (va_runV (As := [.int r_1, .int (1 : Int32)]) (rest := []) F (c_X12_can l hL_a0 hK_a0 hp H.size) (cwV (C := RX12) 2 hts (wg_V wm_RX12_237 wy_X12_can) rfl rfl rfl (by decide +kernel) ⟨Nat.le_of_ble_eq_true rfl, Nat.le_of_ble_eq_true rfl⟩) (w_preV hK hW hL_a0 hK_a0 (by decide) rfl) rfl rfl hl.1 rfl (lv_room (Nat.le_of_ble_eq_true rfl)) dX12_addGame_6 ⟨Nat.le_of_ble_eq_true rfl, Nat.le_of_ble_eq_true rfl⟩) hW (fun r_3 S_4 H locs hp hW => ?_)
  obtain ⟨hX_S_4, hp⟩ := hp
  refine W.widen (k := 0) (n := 0) (by decide) (by decide) ?_
  have hE := hE.trans hX_S_4
  have hK_a0 : sK S_4 a0 = 17 := (hX_S_4.2 a0 hL_a0).1.trans hK_a0
  have hL_a0 : wM D S_4 a0 := hX_S_4.M hL_a0
  refine lv_if_eq (tgt := 90) hx hb dX12_addGame_9 (by decide) (fun c_5 => ?_) (fun c_5 => ?_)
  · replace hp := hp.1 c_5
    exact t_X12_addGame_90 F hr hlocks hK hp hW hE (lv_sub hl [] rfl)
  · replace hp := hp.2 c_5
    refine lv_aload_n hx hb dX12_addGame_12 rfl (lv_at hl 0 rfl) ?_
    refine lv_iload_n hx hb dX12_addGame_13 rfl (lv_at hl 2 rfl) ?_
    refine lv_iconst (v := 0) hx hb dX12_addGame_14 (by decide) ?_
    refine lv_iconst (v := 2) hx hb dX12_addGame_15 (by decide) ?_
    refine w_callI (va_runS (As := [.int x2, .int (0 : Int32), .int (2 : Int32)]) (rest := [.ref a0]) F (c_X12_in l hp H.size) (va_cwS 3 hts (wg_S wm_RX12_117 wy_X12_in) rfl rfl rfl (by decide +kernel) ⟨Nat.le_of_ble_eq_true rfl, Nat.le_of_ble_eq_true rfl⟩) (w_preS hK hW) rfl rfl hl.1 rfl (lv_room (Nat.le_of_ble_eq_true rfl)) dX12_addGame_16 ⟨Nat.le_of_ble_eq_true rfl, Nat.le_of_ble_eq_true rfl⟩) hW (fun r_6 S_7 H locs hp hW => ?_)
    obtain ⟨hX_S_7, hp⟩ := hp
    refine W.widen (k := 0) (n := 0) (by decide) (by decide) ?_
    have hE := hE.trans hX_S_7
    have hK_a0 : sK S_7 a0 = 17 := (hX_S_7.2 a0 hL_a0).1.trans hK_a0
    have hL_a0 : wM D S_7 a0 := hX_S_7.M hL_a0
    refine lv_if_eq (tgt := 51) hx hb dX12_addGame_19 (by decide) (fun c_8 => ?_) (fun c_8 => ?_)
    · replace hp := hp.1 c_8
      exact t_X12_addGame_51 F hr hlocks hK hp hW hE (lv_sub hl [0, 1, 2, 3, 4] rfl) hL_a0 hK_a0 hL_a0 hK_a0
    · replace hp := hp.2 c_8
      refine lv_iload_n hx hb dX12_addGame_22 rfl (lv_at hl 3 rfl) ?_
      refine lv_sipush (v := 1800) hx hb dX12_addGame_23 (by decide) ?_
      refine lv_sipush (v := 2100) hx hb dX12_addGame_26 (by decide) ?_
      refine w_callI (va_runS (As := [.int x3, .int (1800 : Int32), .int (2100 : Int32)]) (rest := [.ref a0]) F (c_X12_in l hp H.size) (va_cwS 3 hts (wg_S wm_RX12_117 wy_X12_in) rfl rfl rfl (by decide +kernel) ⟨Nat.le_of_ble_eq_true rfl, Nat.le_of_ble_eq_true rfl⟩) (w_preS hK hW) rfl rfl hl.1 rfl (lv_room (Nat.le_of_ble_eq_true rfl)) dX12_addGame_29 ⟨Nat.le_of_ble_eq_true rfl, Nat.le_of_ble_eq_true rfl⟩) hW (fun r_9 S_10 H locs hp hW => ?_)
      obtain ⟨hX_S_10, hp⟩ := hp
      refine W.widen (k := 0) (n := 0) (by decide) (by decide) ?_
      have hE := hE.trans hX_S_10
      have hK_a0 : sK S_10 a0 = 17 := (hX_S_10.2 a0 hL_a0).1.trans hK_a0
      have hL_a0 : wM D S_10 a0 := hX_S_10.M hL_a0
      refine lv_if_eq (tgt := 51) hx hb dX12_addGame_32 (by decide) (fun c_11 => ?_) (fun c_11 => ?_)
      · replace hp := hp.1 c_11
        exact t_X12_addGame_51 F hr hlocks hK hp hW hE (lv_sub hl [0, 1, 2, 3, 4] rfl) hL_a0 hK_a0 hL_a0 hK_a0
      · replace hp := hp.2 c_11
        refine lv_iload hx hb dX12_addGame_35 (lv_at hl 4 rfl) ?_
        refine lv_iconst (v := 0) hx hb dX12_addGame_37 (by decide) ?_
        refine lv_sipush (v := 3500) hx hb dX12_addGame_38 (by decide) ?_
        refine w_callI (va_runS (As := [.int x4, .int (0 : Int32), .int (3500 : Int32)]) (rest := [.ref a0]) F (c_X12_in l hp H.size) (va_cwS 3 hts (wg_S wm_RX12_117 wy_X12_in) rfl rfl rfl (by decide +kernel) ⟨Nat.le_of_ble_eq_true rfl, Nat.le_of_ble_eq_true rfl⟩) (w_preS hK hW) rfl rfl hl.1 rfl (lv_room (Nat.le_of_ble_eq_true rfl)) dX12_addGame_41 ⟨Nat.le_of_ble_eq_true rfl, Nat.le_of_ble_eq_true rfl⟩) hW (fun r_12 S_13 H locs hp hW => ?_)
        obtain ⟨hX_S_13, hp⟩ := hp
        refine W.widen (k := 0) (n := 0) (by decide) (by decide) ?_
        have hE := hE.trans hX_S_13
        have hK_a0 : sK S_13 a0 = 17 := (hX_S_13.2 a0 hL_a0).1.trans hK_a0
        have hL_a0 : wM D S_13 a0 := hX_S_13.M hL_a0
        refine lv_if_eq (tgt := 51) hx hb dX12_addGame_44 (by decide) (fun c_14 => ?_) (fun c_14 => ?_)
        · replace hp := hp.1 c_14
          exact t_X12_addGame_51 F hr hlocks hK hp hW hE (lv_sub hl [0, 1, 2, 3, 4] rfl) hL_a0 hK_a0 hL_a0 hK_a0
        · replace hp := hp.2 c_14
          refine lv_iconst (v := 1) hx hb dX12_addGame_47 (by decide) ?_
          refine lv_goto (tgt := 52) hx hb dX12_addGame_48 (by decide) ?_
          exact t_X12_addGame_52 F hr hlocks hK hp hW hE (lv_sub hl [0, 1, 2, 3, 4] rfl) hL_a0 hK_a0 hL_a0 hK_a0
set_option maxHeartbeats 4000000 in
set_option maxRecDepth 100000 in
theorem c_X12_addGame (l : Launch) {D : wD} {cy : Nat → ClassId} {X : va_W} {S0 : wS} {post : Int32 → wS → Prop} {a0 : Nat} {x1 : Int32} {x2 : Int32} {x3 : Int32} {x4 : Int32} (hL_a0 : wM D S0 a0) (hK_a0 : sK S0 a0 = 17) (hp : wp_X12_addGame D post S0 a0 x1 x2 x3 x4) : mI D cy X l yX12_addGame wz_X12_addGame r_X12_addGame [.ref a0, .int x1, .int x2, .int x3, .int x4] S0 (fun r S9 => wX D S0 S9 ∧ post r S9) := by
  intro sz
  refine Met.ofW (cc := cX12_addGame) (maxL := 7) (ret := (some .int)) (by decide) rfl ?_
  intro p e s m args below meth c s₁ B hml hv
  obtain ⟨rfl, hsz, hP, hK, hD0, hRO⟩ := hv
  have hts := atoms_spec (ws := wz_X12_addGame) B.pre
  have hown : s.vm.findClass RX12 = some m.cls := findClass_of_methodNamed B.named
  subst hsz
  have hD := hD0.self (sz := s.heap.size)
  have F : CallFix p m c cX12_addGame 7 s _ wz_X12_addGame RX12 := ⟨B.exec, B.bytes, hml, hown, hts⟩
  have hr := B.returns
  have hlocks := B.notSynchronized
  generalize hAe : va_A (wL cy X S0) s.heap.size = A at hD hK ⊢
  have hA : ∀ q, s.heap.size ≤ q → A q := fun q h => by rw [← hAe]; exact Or.inr h
  have hW : wO D cy X A s.heap S0 s.heap [] := ⟨hP, hD, va_S.rf, hA, hRO⟩
  have hl := lv_entry ([.ref a0, .int x1, .int x2, .int x3, .int x4]) (n := 7) (Nat.le_of_ble_eq_true rfl)
  rw [lg_entry_eq]
  generalize (lg_sl ([.ref a0, .int x1, .int x2, .int x3, .int x4]) ++ List.replicate (7 - (lg_sl ([.ref a0, .int x1, .int x2, .int x3, .int x4])).length) Slot.unset).toArray = ls at hl ⊢
  have hl : lv_has ls 7 [(0, .ref a0), (1, .int x1), (2, .int x2), (3, .int x3), (4, .int x4)] := hl
  unfold wp_X12_addGame at hp
  exact t_X12_addGame_0 F hr hlocks hK hp hW wX.rf (lv_sub hl [0, 1, 2, 3, 4] rfl) hL_a0 hK_a0
def wp_X12_askedNow_64 (D : wD) (post : Int32 → wS → Prop) (k_4 : wS → Nat → Int32 → Int32 → Prop) (S : wS) (a0 : Nat) (x2 : Int32) (t0 : Int32) : Prop :=
∀ x_1 : Int32, x_1 = x2 + 1 →
k_4 S a0 t0 x_1
def wp_X12_askedNow_63 (D : wD) (post : Int32 → wS → Prop) (k_4 : wS → Nat → Int32 → Int32 → Prop) (S : wS) (a0 : Nat) (x1 : Int32) (x2 : Int32) : Prop :=
wp_X12_askedNow_64 D post k_4 S a0 x2 x1
def wp_X12_askedNow_59 (D : wD) (post : Int32 → wS → Prop) (k_4 : wS → Nat → Int32 → Int32 → Prop) (S : wS) (a0 : Nat) (x2 : Int32) : Prop :=
wp_X12_askedNow_64 D post k_4 S a0 x2 x2
def wp_X12_askedNow_4 (D : wD) (post : Int32 → wS → Prop)  : Nat → wS → Nat → Int32 → Int32 → Prop
  | 0, _, _, _, _ => False
  | n + 1, S, a0, x1, x2 =>
    ∃ y_1 : Nat, sR S a0 30 = some y_1 ∧ wM D S y_1 ∧ sK S y_1 = 21 ∧
    vp_in (0 : Int32) (sN S y_1) ∧
    (((sI S y_1 ((0 : Int32)).toNatClampNeg) ≤ x2 → post x1 S) ∧
     (¬ (sI S y_1 ((0 : Int32)).toNatClampNeg) ≤ x2 → ∃ y_4 : Nat, sR S a0 38 = some y_4 ∧ wM D S y_4 ∧ sK S y_4 = 21 ∧
    vp_in x2 (sN S y_4) ∧
    ∃ y_6 : Nat, sR S a0 38 = some y_6 ∧ wM D S y_6 ∧ sK S y_6 = 21 ∧
    vp_in x1 (sN S y_6) ∧
    (((sI S y_4 (x2).toNatClampNeg) < (sI S y_6 (x1).toNatClampNeg) → wp_X12_askedNow_59 D post (wp_X12_askedNow_4 D post n) S a0 x2) ∧
     (¬ (sI S y_4 (x2).toNatClampNeg) < (sI S y_6 (x1).toNatClampNeg) → ∃ y_9 : Nat, sR S a0 38 = some y_9 ∧ wM D S y_9 ∧ sK S y_9 = 21 ∧
    vp_in x2 (sN S y_9) ∧
    ∃ y_11 : Nat, sR S a0 38 = some y_11 ∧ wM D S y_11 ∧ sK S y_11 = 21 ∧
    vp_in x1 (sN S y_11) ∧
    ((¬ (sI S y_9 (x2).toNatClampNeg) = (sI S y_11 (x1).toNatClampNeg) → wp_X12_askedNow_63 D post (wp_X12_askedNow_4 D post n) S a0 x1 x2) ∧
     ((sI S y_9 (x2).toNatClampNeg) = (sI S y_11 (x1).toNatClampNeg) → ∃ y_14 : Nat, sR S a0 37 = some y_14 ∧ wM D S y_14 ∧ sK S y_14 = 21 ∧
    vp_in x2 (sN S y_14) ∧
    ∃ y_16 : Nat, sR S a0 37 = some y_16 ∧ wM D S y_16 ∧ sK S y_16 = 21 ∧
    vp_in x1 (sN S y_16) ∧
    (((sI S y_16 (x1).toNatClampNeg) ≤ (sI S y_14 (x2).toNatClampNeg) → wp_X12_askedNow_63 D post (wp_X12_askedNow_4 D post n) S a0 x1 x2) ∧
     (¬ (sI S y_16 (x1).toNatClampNeg) ≤ (sI S y_14 (x2).toNatClampNeg) → wp_X12_askedNow_59 D post (wp_X12_askedNow_4 D post n) S a0 x2))))))))
def wp_X12_askedNow_0 (D : wD) (post : Int32 → wS → Prop)  (S : wS) (a0 : Nat) : Prop :=
∃ n_1 : Nat, wp_X12_askedNow_4 D post n_1 S a0 (0 : Int32) (1 : Int32)
abbrev r_X12_askedNow : Room := { frames := 0, cells := 0, slots := 0, locals := 0 }
def wp_X12_askedNow (D : wD) (post : Int32 → wS → Prop) (S : wS) (a0 : Nat) : Prop := wp_X12_askedNow_0 D post S a0
set_option maxHeartbeats 4000000 in
set_option maxRecDepth 100000 in
theorem t_X12_askedNow_64 {p : Program} {l : Launch} {e : Env} {s : State} {m : MethodId} {args : Array Value} {below : List Frame} {meth : Method} {c : Code} {D : wD} {cy : Nat → ClassId} {X : va_W} {A : Nat → Prop} {S0 : wS} {post : Int32 → wS → Prop} (F : CallFix p m c cX12_askedNow 3 s args wz_X12_askedNow RX12) (hr : meth.sig.returnType = (some .int)) (hlocks : meth.locks = false) (hK : wK D cy A s) {k_4 : wS → Nat → Int32 → Int32 → Prop} (q_4 : ∀ {S : wS} {H : Heap} {locs : List Loc} {ls : Array Slot} {a0 : Nat} {x1 : Int32} {x2 : Int32}, k_4 S a0 x1 x2 → wO D cy X A s.heap S H locs → wX D S0 S → lv_has ls 3 [(0, .ref a0), (1, .int x1), (2, .int x2)] → wM D S a0 → sK S a0 = 17 → W p l e r_X12_askedNow s m args below meth c H locs 0 0 (MQ below (va_Qi (fun r S9 => wX D S0 S9 ∧ post r S9) (wB D cy X A) A) args s 0 0 A) (F0 m 4 ls [])) : ∀ {S : wS} {H : Heap} {locs : List Loc} {ls : Array Slot} {a0 : Nat} {x2 : Int32} {t0 : Int32}, wp_X12_askedNow_64 D post k_4 S a0 x2 t0 → wO D cy X A s.heap S H locs → wX D S0 S → lv_has ls 3 [(0, .ref a0), (2, .int x2)] → wM D S a0 → sK S a0 = 17 → W p l e r_X12_askedNow s m args below meth c H locs 0 0 (MQ below (va_Qi (fun r S9 => wX D S0 S9 ∧ post r S9) (wB D cy X A) A) args s 0 0 A) (F0 m 64 ls [.int t0]) := by
  obtain ⟨hx, hb, hml, hown, hts⟩ := id F
  have hwg : ∀ w ∈ WG, w.before args s = true := fun w h => hts w (List.mem_cons_of_mem _ h)
  intro S H locs ls a0 x2 t0 hp hW hE hl hL_a0 hK_a0
  unfold wp_X12_askedNow_64 at hp
  refine lv_istore_n (lv' := [(1, .int t0), (0, .ref a0), (2, .int x2)]) hx hb dX12_askedNow_64 rfl hl (by decide) rfl (fun ls hl => ?_)
  obtain ⟨x_1, ex_1⟩ : ∃ z : Int32, z = x2 + 1 := ⟨_, rfl⟩
  replace hp := hp x_1 ex_1
  refine lv_iinc (v := x_1) (lv' := [(2, .int x_1), (1, .int t0), (0, .ref a0)]) hx hb dX12_askedNow_65 hl (k := 2) rfl (by rw [ex_1]; rfl) (by decide) rfl (fun ls hl => ?_)
  refine lv_goto (tgt := 4) hx hb dX12_askedNow_68 (by decide) ?_
  exact q_4 hp hW hE (lv_sub hl [2, 1, 0] rfl) hL_a0 hK_a0
set_option maxHeartbeats 4000000 in
set_option maxRecDepth 100000 in
theorem t_X12_askedNow_63 {p : Program} {l : Launch} {e : Env} {s : State} {m : MethodId} {args : Array Value} {below : List Frame} {meth : Method} {c : Code} {D : wD} {cy : Nat → ClassId} {X : va_W} {A : Nat → Prop} {S0 : wS} {post : Int32 → wS → Prop} (F : CallFix p m c cX12_askedNow 3 s args wz_X12_askedNow RX12) (hr : meth.sig.returnType = (some .int)) (hlocks : meth.locks = false) (hK : wK D cy A s) {k_4 : wS → Nat → Int32 → Int32 → Prop} (q_4 : ∀ {S : wS} {H : Heap} {locs : List Loc} {ls : Array Slot} {a0 : Nat} {x1 : Int32} {x2 : Int32}, k_4 S a0 x1 x2 → wO D cy X A s.heap S H locs → wX D S0 S → lv_has ls 3 [(0, .ref a0), (1, .int x1), (2, .int x2)] → wM D S a0 → sK S a0 = 17 → W p l e r_X12_askedNow s m args below meth c H locs 0 0 (MQ below (va_Qi (fun r S9 => wX D S0 S9 ∧ post r S9) (wB D cy X A) A) args s 0 0 A) (F0 m 4 ls [])) : ∀ {S : wS} {H : Heap} {locs : List Loc} {ls : Array Slot} {a0 : Nat} {x1 : Int32} {x2 : Int32}, wp_X12_askedNow_63 D post k_4 S a0 x1 x2 → wO D cy X A s.heap S H locs → wX D S0 S → lv_has ls 3 [(0, .ref a0), (1, .int x1), (2, .int x2)] → wM D S a0 → sK S a0 = 17 → W p l e r_X12_askedNow s m args below meth c H locs 0 0 (MQ below (va_Qi (fun r S9 => wX D S0 S9 ∧ post r S9) (wB D cy X A) A) args s 0 0 A) (F0 m 63 ls []) := by
  obtain ⟨hx, hb, hml, hown, hts⟩ := id F
  have hwg : ∀ w ∈ WG, w.before args s = true := fun w h => hts w (List.mem_cons_of_mem _ h)
  intro S H locs ls a0 x1 x2 hp hW hE hl hL_a0 hK_a0
  unfold wp_X12_askedNow_63 at hp
  refine lv_iload_n hx hb dX12_askedNow_63 rfl (lv_at hl 1 rfl) ?_
  exact t_X12_askedNow_64 F hr hlocks hK q_4 hp hW hE (lv_sub hl [0, 2] rfl) hL_a0 hK_a0
set_option maxHeartbeats 4000000 in
set_option maxRecDepth 100000 in
theorem t_X12_askedNow_59 {p : Program} {l : Launch} {e : Env} {s : State} {m : MethodId} {args : Array Value} {below : List Frame} {meth : Method} {c : Code} {D : wD} {cy : Nat → ClassId} {X : va_W} {A : Nat → Prop} {S0 : wS} {post : Int32 → wS → Prop} (F : CallFix p m c cX12_askedNow 3 s args wz_X12_askedNow RX12) (hr : meth.sig.returnType = (some .int)) (hlocks : meth.locks = false) (hK : wK D cy A s) {k_4 : wS → Nat → Int32 → Int32 → Prop} (q_4 : ∀ {S : wS} {H : Heap} {locs : List Loc} {ls : Array Slot} {a0 : Nat} {x1 : Int32} {x2 : Int32}, k_4 S a0 x1 x2 → wO D cy X A s.heap S H locs → wX D S0 S → lv_has ls 3 [(0, .ref a0), (1, .int x1), (2, .int x2)] → wM D S a0 → sK S a0 = 17 → W p l e r_X12_askedNow s m args below meth c H locs 0 0 (MQ below (va_Qi (fun r S9 => wX D S0 S9 ∧ post r S9) (wB D cy X A) A) args s 0 0 A) (F0 m 4 ls [])) : ∀ {S : wS} {H : Heap} {locs : List Loc} {ls : Array Slot} {a0 : Nat} {x2 : Int32}, wp_X12_askedNow_59 D post k_4 S a0 x2 → wO D cy X A s.heap S H locs → wX D S0 S → lv_has ls 3 [(0, .ref a0), (2, .int x2)] → wM D S a0 → sK S a0 = 17 → W p l e r_X12_askedNow s m args below meth c H locs 0 0 (MQ below (va_Qi (fun r S9 => wX D S0 S9 ∧ post r S9) (wB D cy X A) A) args s 0 0 A) (F0 m 59 ls []) := by
  obtain ⟨hx, hb, hml, hown, hts⟩ := id F
  have hwg : ∀ w ∈ WG, w.before args s = true := fun w h => hts w (List.mem_cons_of_mem _ h)
  intro S H locs ls a0 x2 hp hW hE hl hL_a0 hK_a0
  unfold wp_X12_askedNow_59 at hp
  refine lv_iload_n hx hb dX12_askedNow_59 rfl (lv_at hl 1 rfl) ?_
  refine lv_goto (tgt := 64) hx hb dX12_askedNow_60 (by decide) ?_
  exact t_X12_askedNow_64 F hr hlocks hK q_4 hp hW hE (lv_sub hl [0, 1] rfl) hL_a0 hK_a0
set_option maxHeartbeats 4000000 in
set_option maxRecDepth 100000 in
theorem t_X12_askedNow_4 {p : Program} {l : Launch} {e : Env} {s : State} {m : MethodId} {args : Array Value} {below : List Frame} {meth : Method} {c : Code} {D : wD} {cy : Nat → ClassId} {X : va_W} {A : Nat → Prop} {S0 : wS} {post : Int32 → wS → Prop} (F : CallFix p m c cX12_askedNow 3 s args wz_X12_askedNow RX12) (hr : meth.sig.returnType = (some .int)) (hlocks : meth.locks = false) (hK : wK D cy A s) : ∀ (n : Nat) {S : wS} {H : Heap} {locs : List Loc} {ls : Array Slot} {a0 : Nat} {x1 : Int32} {x2 : Int32}, wp_X12_askedNow_4 D post n S a0 x1 x2 → wO D cy X A s.heap S H locs → wX D S0 S → lv_has ls 3 [(0, .ref a0), (1, .int x1), (2, .int x2)] → wM D S a0 → sK S a0 = 17 → W p l e r_X12_askedNow s m args below meth c H locs 0 0 (MQ below (va_Qi (fun r S9 => wX D S0 S9 ∧ post r S9) (wB D cy X A) A) args s 0 0 A) (F0 m 4 ls []) := by
  obtain ⟨hx, hb, hml, hown, hts⟩ := id F
  have hwg : ∀ w ∈ WG, w.before args s = true := fun w h => hts w (List.mem_cons_of_mem _ h)
  have i_17 : ∀ w ∈ u_ws RX12 TX12 43, w ∈ wz_X12_askedNow := fun w h => List.mem_cons_of_mem _ (wu_17 w h)
  have k_69 := hwg _ wf_RX12_69
  have k_91 := hwg _ wf_RX12_91
  have k_94 := hwg _ wf_RX12_94
  intro n
  induction n with
  | zero =>
    intro S H locs ls a0 x1 x2 hp
    exact hp.elim
  | succ n ih =>
    intro S H locs ls a0 x1 x2 hp hW hE hl hL_a0 hK_a0
    unfold wp_X12_askedNow_4 at hp
    refine lv_iload_n hx hb dX12_askedNow_4 rfl (lv_at hl 2 rfl) ?_
    refine lv_aload_n hx hb dX12_askedNow_5 rfl (lv_at hl 0 rfl) ?_
    obtain ⟨y_1, ey_1, hL_y_1, hK_y_1, hp⟩ := hp
    refine w_get (k := 17) (f := 30) (T := TX12) (v := .ref y_1) F hK hW hL_a0 hK_a0 (by decide) rfl rfl (by decide) i_17 k_69 (by rw [show wv 17 30 S a0 = va_rf (sR S a0 30) from rfl, ey_1]; rfl) dX12_askedNow_6 ?_
    refine lv_iconst (v := 0) hx hb dX12_askedNow_9 (by decide) ?_
    obtain ⟨h_2, hp⟩ := hp
    refine w_ild F hK hW hL_y_1 hK_y_1 h_2 dX12_askedNow_10 ?_
    refine lv_icmp_ge (tgt := 71) hx hb dX12_askedNow_11 (by decide) (fun c_3 => ?_) (fun c_3 => ?_)
    · replace hp := hp.1 c_3
      refine lv_iload_n hx hb dX12_askedNow_71 rfl (lv_at hl 1 rfl) ?_
      exact w_iret hx hb hr hlocks hW ⟨hE, hp⟩ dX12_askedNow_72
    · replace hp := hp.2 c_3
      refine lv_aload_n hx hb dX12_askedNow_14 rfl (lv_at hl 0 rfl) ?_
      obtain ⟨y_4, ey_4, hL_y_4, hK_y_4, hp⟩ := hp
      refine w_get (k := 17) (f := 38) (T := TX12) (v := .ref y_4) F hK hW hL_a0 hK_a0 (by decide) rfl rfl (by decide) i_17 k_94 (by rw [show wv 17 38 S a0 = va_rf (sR S a0 38) from rfl, ey_4]; rfl) dX12_askedNow_15 ?_
      refine lv_iload_n hx hb dX12_askedNow_18 rfl (lv_at hl 2 rfl) ?_
      obtain ⟨h_5, hp⟩ := hp
      refine w_ild F hK hW hL_y_4 hK_y_4 h_5 dX12_askedNow_19 ?_
      refine lv_aload_n hx hb dX12_askedNow_20 rfl (lv_at hl 0 rfl) ?_
      obtain ⟨y_6, ey_6, hL_y_6, hK_y_6, hp⟩ := hp
      refine w_get (k := 17) (f := 38) (T := TX12) (v := .ref y_6) F hK hW hL_a0 hK_a0 (by decide) rfl rfl (by decide) i_17 k_94 (by rw [show wv 17 38 S a0 = va_rf (sR S a0 38) from rfl, ey_6]; rfl) dX12_askedNow_21 ?_
      refine lv_iload_n hx hb dX12_askedNow_24 rfl (lv_at hl 1 rfl) ?_
      obtain ⟨h_7, hp⟩ := hp
      refine w_ild F hK hW hL_y_6 hK_y_6 h_7 dX12_askedNow_25 ?_
      refine lv_icmp_lt (tgt := 59) hx hb dX12_askedNow_26 (by decide) (fun c_8 => ?_) (fun c_8 => ?_)
      · replace hp := hp.1 c_8
        exact t_X12_askedNow_59 F hr hlocks hK ih hp hW hE (lv_sub hl [0, 2] rfl) hL_a0 hK_a0
      · replace hp := hp.2 c_8
        refine lv_aload_n hx hb dX12_askedNow_29 rfl (lv_at hl 0 rfl) ?_
        obtain ⟨y_9, ey_9, hL_y_9, hK_y_9, hp⟩ := hp
        refine w_get (k := 17) (f := 38) (T := TX12) (v := .ref y_9) F hK hW hL_a0 hK_a0 (by decide) rfl rfl (by decide) i_17 k_94 (by rw [show wv 17 38 S a0 = va_rf (sR S a0 38) from rfl, ey_9]; rfl) dX12_askedNow_30 ?_
        refine lv_iload_n hx hb dX12_askedNow_33 rfl (lv_at hl 2 rfl) ?_
        obtain ⟨h_10, hp⟩ := hp
        refine w_ild F hK hW hL_y_9 hK_y_9 h_10 dX12_askedNow_34 ?_
        refine lv_aload_n hx hb dX12_askedNow_35 rfl (lv_at hl 0 rfl) ?_
        obtain ⟨y_11, ey_11, hL_y_11, hK_y_11, hp⟩ := hp
        refine w_get (k := 17) (f := 38) (T := TX12) (v := .ref y_11) F hK hW hL_a0 hK_a0 (by decide) rfl rfl (by decide) i_17 k_94 (by rw [show wv 17 38 S a0 = va_rf (sR S a0 38) from rfl, ey_11]; rfl) dX12_askedNow_36 ?_
        refine lv_iload_n hx hb dX12_askedNow_39 rfl (lv_at hl 1 rfl) ?_
        obtain ⟨h_12, hp⟩ := hp
        refine w_ild F hK hW hL_y_11 hK_y_11 h_12 dX12_askedNow_40 ?_
        refine lv_icmp_ne (tgt := 63) hx hb dX12_askedNow_41 (by decide) (fun c_13 => ?_) (fun c_13 => ?_)
        · replace hp := hp.1 c_13
          exact t_X12_askedNow_63 F hr hlocks hK ih hp hW hE (lv_sub hl [0, 1, 2] rfl) hL_a0 hK_a0
        · replace hp := hp.2 c_13
          refine lv_aload_n hx hb dX12_askedNow_44 rfl (lv_at hl 0 rfl) ?_
          obtain ⟨y_14, ey_14, hL_y_14, hK_y_14, hp⟩ := hp
          refine w_get (k := 17) (f := 37) (T := TX12) (v := .ref y_14) F hK hW hL_a0 hK_a0 (by decide) rfl rfl (by decide) i_17 k_91 (by rw [show wv 17 37 S a0 = va_rf (sR S a0 37) from rfl, ey_14]; rfl) dX12_askedNow_45 ?_
          refine lv_iload_n hx hb dX12_askedNow_48 rfl (lv_at hl 2 rfl) ?_
          obtain ⟨h_15, hp⟩ := hp
          refine w_ild F hK hW hL_y_14 hK_y_14 h_15 dX12_askedNow_49 ?_
          refine lv_aload_n hx hb dX12_askedNow_50 rfl (lv_at hl 0 rfl) ?_
          obtain ⟨y_16, ey_16, hL_y_16, hK_y_16, hp⟩ := hp
          refine w_get (k := 17) (f := 37) (T := TX12) (v := .ref y_16) F hK hW hL_a0 hK_a0 (by decide) rfl rfl (by decide) i_17 k_91 (by rw [show wv 17 37 S a0 = va_rf (sR S a0 37) from rfl, ey_16]; rfl) dX12_askedNow_51 ?_
          refine lv_iload_n hx hb dX12_askedNow_54 rfl (lv_at hl 1 rfl) ?_
          obtain ⟨h_17, hp⟩ := hp
          refine w_ild F hK hW hL_y_16 hK_y_16 h_17 dX12_askedNow_55 ?_
          refine lv_icmp_ge (tgt := 63) hx hb dX12_askedNow_56 (by decide) (fun c_18 => ?_) (fun c_18 => ?_)
          · replace hp := hp.1 c_18
            exact t_X12_askedNow_63 F hr hlocks hK ih hp hW hE (lv_sub hl [0, 1, 2] rfl) hL_a0 hK_a0
          · replace hp := hp.2 c_18
            exact t_X12_askedNow_59 F hr hlocks hK ih hp hW hE (lv_sub hl [0, 2] rfl) hL_a0 hK_a0
set_option maxHeartbeats 4000000 in
set_option maxRecDepth 100000 in
theorem t_X12_askedNow_0 {p : Program} {l : Launch} {e : Env} {s : State} {m : MethodId} {args : Array Value} {below : List Frame} {meth : Method} {c : Code} {D : wD} {cy : Nat → ClassId} {X : va_W} {A : Nat → Prop} {S0 : wS} {post : Int32 → wS → Prop} (F : CallFix p m c cX12_askedNow 3 s args wz_X12_askedNow RX12) (hr : meth.sig.returnType = (some .int)) (hlocks : meth.locks = false) (hK : wK D cy A s) : ∀ {S : wS} {H : Heap} {locs : List Loc} {ls : Array Slot} {a0 : Nat}, wp_X12_askedNow_0 D post S a0 → wO D cy X A s.heap S H locs → wX D S0 S → lv_has ls 3 [(0, .ref a0)] → wM D S a0 → sK S a0 = 17 → W p l e r_X12_askedNow s m args below meth c H locs 0 0 (MQ below (va_Qi (fun r S9 => wX D S0 S9 ∧ post r S9) (wB D cy X A) A) args s 0 0 A) (F0 m 0 ls []) := by
  obtain ⟨hx, hb, hml, hown, hts⟩ := id F
  have hwg : ∀ w ∈ WG, w.before args s = true := fun w h => hts w (List.mem_cons_of_mem _ h)
  intro S H locs ls a0 hp hW hE hl hL_a0 hK_a0
  unfold wp_X12_askedNow_0 at hp
  refine lv_iconst (v := 0) hx hb dX12_askedNow_0 (by decide) ?_
  refine lv_istore_n (lv' := [(1, .int (0 : Int32)), (0, .ref a0)]) hx hb dX12_askedNow_1 rfl hl (by decide) rfl (fun ls hl => ?_)
  refine lv_iconst (v := 1) hx hb dX12_askedNow_2 (by decide) ?_
  refine lv_istore_n (lv' := [(2, .int (1 : Int32)), (1, .int (0 : Int32)), (0, .ref a0)]) hx hb dX12_askedNow_3 rfl hl (by decide) rfl (fun ls hl => ?_)
  obtain ⟨n_1, hp⟩ := hp
  exact t_X12_askedNow_4 F hr hlocks hK n_1 hp hW hE (lv_sub hl [2, 1, 0] rfl) hL_a0 hK_a0
set_option maxHeartbeats 4000000 in
set_option maxRecDepth 100000 in
theorem c_X12_askedNow (l : Launch) {D : wD} {cy : Nat → ClassId} {X : va_W} {S0 : wS} {post : Int32 → wS → Prop} {a0 : Nat} (hL_a0 : wM D S0 a0) (hK_a0 : sK S0 a0 = 17) (hp : wp_X12_askedNow D post S0 a0) : mI D cy X l yX12_askedNow wz_X12_askedNow r_X12_askedNow [.ref a0] S0 (fun r S9 => wX D S0 S9 ∧ post r S9) := by
  intro sz
  refine Met.ofW (cc := cX12_askedNow) (maxL := 3) (ret := (some .int)) (by decide) rfl ?_
  intro p e s m args below meth c s₁ B hml hv
  obtain ⟨rfl, hsz, hP, hK, hD0, hRO⟩ := hv
  have hts := atoms_spec (ws := wz_X12_askedNow) B.pre
  have hown : s.vm.findClass RX12 = some m.cls := findClass_of_methodNamed B.named
  subst hsz
  have hD := hD0.self (sz := s.heap.size)
  have F : CallFix p m c cX12_askedNow 3 s _ wz_X12_askedNow RX12 := ⟨B.exec, B.bytes, hml, hown, hts⟩
  have hr := B.returns
  have hlocks := B.notSynchronized
  generalize hAe : va_A (wL cy X S0) s.heap.size = A at hD hK ⊢
  have hA : ∀ q, s.heap.size ≤ q → A q := fun q h => by rw [← hAe]; exact Or.inr h
  have hW : wO D cy X A s.heap S0 s.heap [] := ⟨hP, hD, va_S.rf, hA, hRO⟩
  have hl := lv_entry ([.ref a0]) (n := 3) (Nat.le_of_ble_eq_true rfl)
  rw [lg_entry_eq]
  generalize (lg_sl ([.ref a0]) ++ List.replicate (3 - (lg_sl ([.ref a0])).length) Slot.unset).toArray = ls at hl ⊢
  have hl : lv_has ls 3 [(0, .ref a0)] := hl
  unfold wp_X12_askedNow at hp
  exact t_X12_askedNow_0 F hr hlocks hK hp hW wX.rf (lv_sub hl [0] rfl) hL_a0 hK_a0
